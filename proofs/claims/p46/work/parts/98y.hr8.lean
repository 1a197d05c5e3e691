/-! ===== an hour: the stops of a van ===== -/
section KAP
variable {κ : kP}
section OQQ
variable {xs : Nat → Int32} {nx : Nat}
theorem ite_iff {p q : Prop} [Decidable p] [Decidable q] (h : p ↔ q) {x y : Int32} : (if p then x else y) = if q then x else y := by
  by_cases hq : q
  · rw [if_pos hq, if_pos (h.mpr hq)]
  · rw [if_neg hq, if_neg (fun z => hq (h.mp z))]
/-- the address that a parcel goes to -/
def gAd (c : nC) (m : nM) (k : Nat) : Nat := if m 63 k = 0 then fX c 26 k 10 else fX c 26 k 1
theorem goal63 {i k : Nat} {c : nC} {m : nM} (hJ : nJ κ i c m) (hk : k < fN c 26) : gAd c m k < fN c 24 ∧ (∀ z, R1 xs nx 63 0 [some (vR 26 (some k))] [] (c, z) = some (.inl (some (vR 24 (some (gAd c m k)))), (c, z))) ∧
    ∀ c9 M z, M 63 = m 63 → M 52 = m 52 → M 51 = m 51 → R1 xs nx 201 0 [some (vR 1 (some 0)), some (vI (iN k))] [] (c9, M, z) = some (.inl (some (vI (iN (gAd c m k)))), (c9, M, z)) := by
  have h40 := k40 hJ hk
  have kin : mIn (iN k) 40 = true := iN_in40 h40
  have ken : (iN k).toNatClampNeg = k := i32_nat (by omega)
  obtain ⟨-, -, ⟨p1, p2⟩, ⟨p3, p4⟩, -, -, -, -, -, -, -, -, -, -, -, -, ⟨p5, -⟩, -⟩ := hJ.2.2.2.2.2.1 k hk
  unfold gAd
  refine ⟨by split <;> assumption, fun z => ?_, fun c9 M z e1 e2 e3 => ?_⟩
  · rw [d_63_0]
    dsimp only
    rw [p5]
    split <;> rfl
  · rw [d_201_0, if_pos kin, ken]
    simp only [e1, e2, e3]
    by_cases q : m 63 k = 0
    · rw [if_pos q, if_pos kin, if_pos q, p4]
    · rw [if_neg q, if_pos kin, if_neg q, p2]
/-- is it met -/
theorem meet70 {i k H : Nat} {c : nC} {m : nM} (hJ : nJ κ i c m) (hk : k < fN c 26) (hH : H ≤ 10000) : ∃ x : Int32, (∀ s : nS, R1 xs nx 174 0 [some (vI (iN H - iN H / 24 * 24)), some (vI (m 47 (gAd c m k))), some (vI (m 48 (gAd c m k) - 1))] [] s = some (.inl (some (vI x)), s)) ∧
    ∀ z, R1 xs nx 70 0 [some (vR 26 (some k)), some (vI (iN H)), none, none] [] (c, z) = some (.inl (some (vI (if iN H < m 58 k ∧ x = 0 then 1 else 0))), (c, z)) := by
  obtain ⟨g1, g2, -⟩ := goal63 (xs := xs) (nx := nx) hJ hk
  generalize gAd c m k = A at g1 g2
  obtain ⟨-, -, e2, e3, ⟨a, -, a1, a2⟩, ⟨b, -, b1, b2⟩⟩ := hJ.2.2.2.2.1.1 A g1
  obtain ⟨-, -, -, -, -, -, -, -, -, -, -, ⟨e13, W, -, W1, W2⟩, -⟩ := hJ.2.2.2.2.2.1 k hk
  have md : iN H - iN H / 24 * 24 = iN (H % 24) := iN_mod (b := 24) (by omega) (by omega)
  have hx : H % 24 < 24 := Nat.mod_lt _ (by decide)
  have c70 : ∀ z, R1 xs nx 70 0 [some (vR 26 (some k)), some (vI (iN H)), none, none] [] (c, z) = some (.inl (some (vI (if H < W ∧ ¬ (a ≤ H ∧ H < b) then 1 else 0))), (c, z)) := by
    intro z
    have e26 : ∀ as0 : Int32, R1 xs nx 70 26 [some (vR 26 (some k)), some (vI (iN H)), some (vR 24 (some A)), none] [(vI as0)] (c, z) = some (.inl (some (vI (if H < W ∧ as0 = 0 then 1 else 0))), (c, z)) := by
      intro as0
      rw [d_70_26]
      dsimp only
      rw [e13, W2]
      by_cases q : H < W
      · rw [if_pos ((iN_lt (by omega) (by omega)).mpr q)]
        by_cases q0 : as0 = 0
        · rw [if_pos q0, if_pos ⟨q, q0⟩]
        · rw [if_neg q0, if_neg (fun z => q0 z.2)]
      · rw [if_neg (fun z => q ((iN_lt (by omega) (by omega)).mp z)), if_neg (fun z => q z.1)]
    rw [d_70_0, g2 z, bR_some, nn_some]
    dsimp only
    rw [e2, a2]
    by_cases q1 : H < a
    · rw [if_pos ((iN_lt (by omega) (by omega)).mpr q1), d_70_25, e26]
      have : (H < W ∧ (0 : Int32) = 0) ↔ (H < W ∧ ¬ (a ≤ H ∧ H < b)) := ⟨fun z => ⟨z.1, fun y => by omega⟩, fun z => ⟨z.1, rfl⟩⟩
      rw [ite_iff this]
    · rw [if_neg (fun z => q1 ((iN_lt (by omega) (by omega)).mp z)), nn_some, e3, b2]
      by_cases q2 : H < b
      · rw [if_pos ((iN_lt (by omega) (by omega)).mpr q2), e26, if_neg (fun z => n10 z.2), if_neg (fun z => z.2 ⟨by omega, q2⟩)]
      · rw [if_neg (fun z => q2 ((iN_lt (by omega) (by omega)).mp z)), d_70_25, e26]
        have : (H < W ∧ (0 : Int32) = 0) ↔ (H < W ∧ ¬ (a ≤ H ∧ H < b)) := ⟨fun z => ⟨z.1, fun y => by omega⟩, fun z => ⟨z.1, rfl⟩⟩
        rw [ite_iff this]
  have ab : (iN b - 1).toInt = (b : Int) - 1 := by
    rw [tI_sub] <;> rw [iN_toInt (by omega), show (1 : Int32).toInt = 1 from rfl] <;> omega
  rcases wi79 (xs := xs) (nx := nx) (iN (H % 24)) (iN a) (iN b - 1) with ⟨-, h4, h5⟩ | ⟨-, h4, h5, h6⟩
  · refine ⟨0, fun s => by rw [md, a2, b2]; exact h4 s, fun z => ?_⟩
    rw [c70 z, W2]
    have : (H < W ∧ ¬ (a ≤ H ∧ H < b)) ↔ (iN H < iN W ∧ (0 : Int32) = 0) := by
      rw [iN_lt (by omega) (by omega)]
      refine ⟨fun z => ⟨z.1, rfl⟩, fun z => ⟨z.1, fun y => ?_⟩⟩
      have e : H % 24 = H := Nat.mod_eq_of_lt (by omega)
      rw [e] at h5
      rcases h5 with w | w
      · have := (iN_lt (by omega) (by omega)).mp w
        omega
      · rw [Int32.lt_iff_toInt_lt, ab, iN_toInt (by omega)] at w
        omega
    rw [ite_iff this]
  · refine ⟨1, fun s => by rw [md, a2, b2]; exact h4 s, fun z => ?_⟩
    rw [c70 z, W2]
    rw [if_neg, if_neg (fun z => n10 z.2)]
    rintro ⟨y1, y2⟩
    have e : H % 24 = H := Nat.mod_eq_of_lt (by omega)
    rw [e] at h5 h6
    rw [iN_lt (by omega) (by omega)] at h5
    rw [Int32.lt_iff_toInt_lt, ab, iN_toInt (by omega)] at h6
    exact y2 ⟨by omega, by omega⟩
/-- one stop more is done -/
theorem nRd_next {R : List Nat} {v J e : Nat} {c c' : nC} {m m' : nM} (h : nRd R v J c m) (he : R[J]? = some e) (cL : fL c' 11 = fL c 11) (cN : fN c' 26 = fN c 26) (f5 : fI c' 27 v 5 = fI c 27 v 5) (f6 : fI c' 27 v 6 = iN (J + 1)) (m10 : m' 1 0 = m 1 0)
    (m82 : m' 82 = m 82) (m83 : m' 83 = m 83) (m85 : m' 85 = m 85) (m86 : m' 86 = m 86) (m84 : m' 84 v = iN (J + 1)) (m87 : ∀ x, x ≠ 30 * v + J → m' 87 x = m 87 x)
    (rows : ∀ k, k ≠ e → m' 66 k = m 66 k ∧ m' 67 k = m 67 k ∧ m' 78 k = m 78 k ∧ m' 63 k = m 63 k ∧ m' 56 k = m 56 k) (h9 : ∀ k, fI c' 9 k 9 = fI c 9 k 9)
    (new : (m' 66 e = 4 ∧ m' 67 e = iN v ∧ m' 78 e = 0 ∧ m' 87 (30 * v + J) = 1) ∨ (m' 66 e = 7 ∧ m' 87 (30 * v + J) = 0 ∧ m' 78 e = if m' 63 e = 1 ∨ m' 56 e = 0 then 0 else iN (1 + v))) : nRd R v (J + 1) c' m' := by
  obtain ⟨rL, r2, r3, r1, J3, J2, rf, r4, r5, r6⟩ := h
  have hlt : J < R.length := by
    rcases Nat.lt_or_ge J R.length with z | z
    · exact z
    · rw [List.getElem?_eq_none z] at he; cases he
  have hmem : e ∈ R := List.mem_of_getElem? he
  have hne : R ≠ [] := fun z => by rw [z] at hlt; exact absurd hlt (Nat.not_lt_zero _)
  obtain ⟨w1, w2, w3, w4, w5⟩ := rf hne
  refine ⟨by rw [cL]; exact rL, r2, r3, by rw [m83]; exact r1, m84, by omega, fun _ => ⟨by omega, f6, by rw [f5, m82]; exact w3, by rw [m82]; exact w4, by rw [m82, m10]; exact w5⟩, fun k hk z1 z2 => ?_, fun k hk z => ?_, fun j k hjk => ?_⟩
  · by_cases z : k = e
    · rw [z]; exact hmem
    · obtain ⟨q1, q2, -⟩ := rows k z
      exact r4 k (by rw [← cN]; exact hk) (q1 ▸ z1) (q2 ▸ z2)
  · by_cases y : k = e
    · rw [y]; exact hmem
    · obtain ⟨-, -, q3, -⟩ := rows k y
      exact r5 k (by rw [← cN]; exact hk) (q3 ▸ z)
  · obtain ⟨q1, q2, q3, q4, q5⟩ := r6 j k hjk
    rw [cN, m85, m86, h9]
    refine ⟨q1, q2, q3, q4, ?_⟩
    by_cases z : j = J
    · subst z
      have : e = k := Option.some.inj (he.symm.trans hjk)
      subst this
      rcases new with ⟨n1, n2, n3, n4⟩ | ⟨n1, n2, n3⟩
      · exact Or.inl ⟨n1, n2, n3, Or.inr n4, fun _ => n4, fun y => by omega⟩
      · exact Or.inr ⟨n1, by omega, n2, n3⟩
    · have hk : k ≠ e := by
        intro y
        subst y
        have hjl : j < R.length := by
          rcases Nat.lt_or_ge j R.length with z | z
          · exact z
          · rw [List.getElem?_eq_none z] at hjk; cases hjk
        exact z ((List.getElem?_inj hjl r3).mp (hjk.trans he.symm))
      obtain ⟨q6, q7, q8, q9, q10⟩ := rows k hk
      rw [q6, q7, q8, q9, q10, m87 _ (by omega)]
      rcases q5 with ⟨u1, u2, u3, u4, u5, u6⟩ | ⟨u1, u2, u3, u4⟩
      · exact Or.inl ⟨u1, u2, u3, u4, fun y => u5 (by omega), fun y => u6 (by omega)⟩
      · exact Or.inr ⟨u1, by omega, u3, u4⟩
section ST
variable {i v J e : Nat} {R : List Nat} {c : nC} {m : nM}
/-- one stop -/
theorem stopJ (hJ : nJ κ i c m) (hi : i % 100000 < 90000) (hp : i / 100000 = 2 + v) (hv : v < fN c 27) (hR : nRd R v J c m) (hc : gCs c m) (he : R[J]? = some e) :
    ∃ (c' : nC) (m' : nM) (g n' : Nat), n' ≤ 1 ∧ nJ (κ.1 + g, κ.2) (i + n') c' m' ∧ nRd R v (J + 1) c' m' ∧ gCs c' m' ∧ fv c m c' m' ∧ m' 1 75 = m 1 75 + iN g ∧
      (∀ a2 z, bI (R1 xs nx 70 0 [some (vR 26 (some e)), some (vI (fI c 9 e 9)), none, none] [] ((uI 27 v 6 (iN (J + 1)) c), z)) (fun x3 s2 => if x3 = 0 then bV (R1 xs nx 95 0 [some (vR 0 (some 0)), some (vR 26 (some e)), some (vR 21 (some (fX s2.1 27 v 1))), some (vI (6 : Int32)), none] [] ((uI 26 e 15 ((fI s2.1 26 e 15) + (1 : Int32)) s2.1), s2.2)) (fun s4 => R1 xs nx 118 131 [some (vR 0 (some 0)), some (vR 27 (some v)), some (vI a2), some (vI (iN J)), some (vR 26 (some e))] [] s4) hE else bV (R1 xs nx 117 0 [some (vR 0 (some 0)), some (vR 26 (some e))] [] s2) (fun s5 => bV (R1 xs nx 95 0 [some (vR 0 (some 0)), some (vR 26 (some e)), some (vR 21 (some (fX s5.1 27 v 1))), some (vI (5 : Int32)), none] [] s5) (fun s6 => R1 xs nx 118 131 [some (vR 0 (some 0)), some (vR 27 (some v)), some (vI (a2 + (1 : Int32))), some (vI (iN J)), some (vR 26 (some e))] [] s6) hE) hE) hE
        = R1 xs nx 118 131 [some (vR 0 (some 0)), some (vR 27 (some v)), some (vI (a2 + iN g)), some (vI (iN J)), some (vR 26 (some e))] [] (c', z)) ∧
      ∀ c9 z, bV (R1 xs nx 215 0 [some (vR 1 (some 0)), some (vI (iN v)), some (vI (iN (30 * v + J))), none, none, none, none, none] [] (c9, m, z)) (fun s1 => if mIn (iN v) 6 = true then if mIn (iN v) 6 = true then R1 xs nx 221 0 [some (vR 1 (some 0)), some (vI (iN v))] [] (s1.1, (uM 84 (iN v).toNatClampNeg ((s1.2.1 84 (iN v).toNatClampNeg) + (1 : Int32)) s1.2.1), s1.2.2) else none else none) hE = R1 xs nx 221 0 [some (vR 1 (some 0)), some (vI (iN v))] [] (c9, m', z) := by
  have hR0 := hR
  obtain ⟨rL, r2, r3, r1, J3, J2, rf, r4, r5, r6⟩ := hR
  have hlt : J < R.length := by
    rcases Nat.lt_or_ge J R.length with z | z
    · exact z
    · rw [List.getElem?_eq_none z] at he; cases he
  have hne : R ≠ [] := fun z => by rw [z] at hlt; exact absurd hlt (Nat.not_lt_zero _)
  have h27 := hJ.1.2.2.2.1.1
  obtain ⟨q1, q2, q3, ⟨H, -, H1, H2⟩, q5⟩ := r6 J e he
  obtain ⟨u1, u2, u3, u6⟩ : m 66 e = 4 ∧ m 67 e = iN v ∧ m 78 e = 0 ∧ m 87 (30 * v + J) = 0 := by
    rcases q5 with ⟨u1, u2, u3, u4, u5, u6⟩ | ⟨-, y, -⟩
    · exact ⟨u1, u2, u3, u6 (Nat.le_refl _)⟩
    · exact absurd y (Nat.lt_irrefl _)
  have h40 := k40 hJ q1
  have vin : mIn (iN v) 6 = true := iN_in (by omega) (by omega)
  have ven : (iN v).toNatClampNeg = v := i32_nat (by omega)
  have kin : mIn (iN e) 40 = true := iN_in40 h40
  have ken : (iN e).toNatClampNeg = e := i32_nat (by omega)
  have xin : mIn (iN (30 * v + J)) 180 = true := iN_in (by omega) (by omega)
  have xen : (iN (30 * v + J)).toNatClampNeg = 30 * v + J := i32_nat (by omega)
  obtain ⟨⟨x1, x2⟩, -⟩ := hJ.2.2.2.2.2.2.2.2.2.2.2.1.1 v hv
  -- the van has one stop more, in the class
  have hJ1 : nJ κ i (uI 27 v 6 (iN (J + 1)) c) m := nJ_van hJ hp hv (fun t ht => fI_ne ht) (fun v' j h => by
      rw [fI_at, if_neg]
      rintro ⟨y1, y2⟩
      rcases h with h | h
      · exact h y1
      · exact h.2 y2) rfl rfl rfl rfl (fun _ _ => rfl) (fun _ _ => rfl) (fun k hk v' hv' hne' hmem => hne' (((hJ.2.2.2.2.2.2.2.2.2.2.2.1.2.1 v v' k hv hv' hk hmem).symm))) (fun _ _ => rfl) (fun _ _ _ _ => rfl) (fun _ _ _ _ => rfl) (hJ.2.2.2.2.2.2.2.2.2.2.2.1.2.2 v (by omega)).1
  have f1 : fr c m (uI 27 v 6 (iN (J + 1)) c) m := fr_uI (t := 27) (by decide)
  have h84i : nIn (iN (J + 1)) 0 30 := ⟨J + 1, Nat.zero_le _, by omega, rfl⟩
  have hL3 : ∀ (c' : nC), fL c' 11 = fL c 11 → ∀ k, k ∈ fL c' 11 v → ∀ v', v' < fN c 27 → v' ≠ v → k ∉ fL c 11 v' := fun c' hc' k hk v' hv' hne' hmem => by
    rw [hc'] at hk
    exact hne' (hJ.2.2.2.2.2.2.2.2.2.2.2.1.2.1 v v' k hv hv' hk hmem).symm
  have hmemL : e ∈ fL c 11 v := by rw [rL]; exact List.mem_of_getElem? he
  have hnot : ∀ w, w < fN c 27 → w ≠ v → e ∉ fL c 11 w := fun w hw hne' hmem => hne' (hJ.2.2.2.2.2.2.2.2.2.2.2.1.2.1 v w e hv hw hmemL hmem).symm
  obtain ⟨x, t174, t70⟩ := meet70 (xs := xs) (nx := nx) hJ1 q1 H1
  obtain ⟨-, -, g201⟩ := goal63 (xs := xs) (nx := nx) hJ1 q1
  have hA20 : gAd (uI 27 v 6 (iN (J + 1)) c) m e < 20 := by
    obtain ⟨y, -, -⟩ := goal63 (xs := xs) (nx := nx) hJ1 q1
    have := hJ1.1.2.1.1
    omega
  have ain : mIn (iN (gAd (uI 27 v 6 (iN (J + 1)) c) m e)) 20 = true := iN_in hA20 (by omega)
  have aen : (iN (gAd (uI 27 v 6 (iN (J + 1)) c) m e)).toNatClampNeg = gAd (uI 27 v 6 (iN (J + 1)) c) m e := i32_nat (by omega)
  have t70' : ∀ z, R1 xs nx 70 0 [some (vR 26 (some e)), some (vI (fI c 9 e 9)), none, none] [] (uI 27 v 6 (iN (J + 1)) c, z) = some (.inl (some (vI (if iN H < m 58 e ∧ x = 0 then 1 else 0))), (uI 27 v 6 (iN (J + 1)) c, z)) := by
    intro z; rw [H2]; exact t70 z
  have e86 : m 86 (30 * v + J) = iN H := q3.trans H2
  obtain ⟨b1, b2⟩ := nJ_69 hJ1
  have hf := notFresh hJ q1 (by rw [u1]; decide) (by rw [u1]; decide)
  have e15 : fI c 26 e 15 = m 65 e := by
    obtain ⟨y1, y2, y3, y4, y5, y6, y7, y8, y9, y10, y11, y12, y13, y14, y15, y16, y17, y18⟩ := hJ.2.2.2.2.2.1 e q1
    exact y18.1
  by_cases hm : iN H < m 58 e ∧ x = 0
  · -- it is handed over
    obtain ⟨c2, t1, t2, t3, t4, u, hu, hu2⟩ := handJr (xs := xs) (nx := nx) hJ1 hi q1 (by rw [u1]; decide) (fun w hw hpw => hnot w hw (fun z => hpw (by rw [hp, z]))) hf
    have hP63 : nBo (m 63 e) := by
      obtain ⟨y1, y2, y3, y4, y5, y6, y7, y8, y9, y10, y11, y12, y13, y14, y15, y16, y17, y18⟩ := hJ.2.2.2.2.2.1 e q1
      exact y17.1 ▸ y17.2
    obtain ⟨X, hX, hX5, hX7⟩ : ∃ X : Int32, X = (if m 63 e = 1 ∨ m 56 e = 0 then 0 else iN (1 + v)) ∧ (X = 0 ∨ X = iN (1 + v)) ∧ (m 56 e = 0 → X = 0) := by
      refine ⟨_, rfl, ?_, fun z => if_pos (Or.inr z)⟩
      split
      · exact Or.inl rfl
      · exact Or.inr rfl
    have hN2 : fN c2 = fN c := (congrArg (·.2.2.2.2) t3).trans cMv_N
    have hLL : fL c2 11 = fL c 11 := by
      rw [show fL c2 = fL (cMv e 7 (-1) none none (m 1 0) (uI 27 v 6 (iN (J + 1)) c)) from congrArg (·.2.2.2.1) t3]
      exact mvL hJ1 q1 (by intro p hp; cases hp) (by decide) (by decide) (by decide)
    have hdr : ∀ t, t ≠ 1 → t ≠ 66 → t ≠ 67 → t ≠ 68 → t ≠ 74 → t ≠ 77 → t ≠ 90 → hdM e m t = m t := by
      intro t w1 w2 w3 w4 w5 w6 w7
      unfold hdM
      split
      · rw [uM_ne w5, mMv_ne ⟨w1, by omega⟩]
      · rw [uM_ne w6, uM_ne w7, uM_ne w5, mMv_ne ⟨w1, by omega⟩]
    have hd1 : ∀ j, j ≠ 1 → hdM e m 1 j = m 1 j := by
      intro j hj
      unfold hdM
      split
      · rw [uM_ne (by decide), mMv_1 hj]
      · rw [uM_ne (by decide), uM_ne (by decide), uM_ne (by decide), mMv_1 hj]
    have hdk : ∀ t k, t ≠ 1 → t ≠ 90 → k ≠ e → hdM e m t k = m t k := by
      intro t k w1 w2 w3
      unfold hdM
      split
      · rw [uM_k w3, mMv_k w1 w3]
      · rw [uM_k w3, uM_ne w2, uM_k w3, mMv_k w1 w3]
    have hd66 : hdM e m 66 e = 7 := by
      unfold hdM
      split
      · rw [uM_ne (by decide), mMv_66]
      · rw [uM_ne (by decide), uM_ne (by decide), uM_ne (by decide), mMv_66]
    have hv2 : v < fN c2 27 := by rw [hN2]; exact hv
    have hq2 : e < fN c2 26 := by rw [hN2]; exact q1
    have ip : (i + 1) / 100000 = 2 + v := by omega
    have s1 := nJ_75 (x := m 1 75 + 1) t1
    have s2 := nJ_78 (v := v) (k := e) (x := X) s1 ip hq2 (by
        rcases hX5 with y | y
        · exact Or.inl y
        · exact Or.inr (Or.inl ⟨v, hv2, y⟩)) (by rw [uM_ne (by decide), hdr 62 (by decide) (by decide) (by decide) (by decide) (by decide) (by decide) (by decide)]; exact hf) (by rw [uM_ne (by decide), uM_ne (by decide), hd66, hdr 56 (by decide) (by decide) (by decide) (by decide) (by decide) (by decide) (by decide)]; exact fun z => z.elim hX7 (fun w => absurd rfl w)) (fun w hw hne' => by
        rw [hLL]
        rw [hN2] at hw
        refine ⟨hnot w hw hne', ?_⟩
        rcases hX5 with y | y
        · rw [y]
          intro z
          have := (iN_inj (a := 0) (by omega) (by omega)).mp z
          omega
        · rw [y, ne_eq, iN_inj (by omega) (by omega)]
          omega)
    have s3 : nJ (κ.1 + 1, κ.2) (i + 1) c2 (uM 84 v (iN (J + 1)) (uM 78 e X (uM 1 75 (m 1 75 + 1) (hdM e m)))) := nJ_van s2 ip hv2 (fun _ _ => rfl) (fun _ _ _ => rfl) rfl rfl rfl rfl (fun _ _ => rfl) (fun _ _ => rfl) (fun k hk v' hv' hne' => by
        rw [hN2] at hv'
        rw [hLL]
        exact hL3 c2 hLL k hk v' hv' hne') (fun t ht => uM_ne (by omega)) (fun t w hw hne' => by
        rcases hw with y | y | y
        · rw [uM_ne (by omega)]
        · rw [uM_ne (by omega)]
        · rw [uM_k hne']) (fun t y hy _ => by rw [uM_ne (by omega)]) (by rw [uM_kk]; exact h84i)
    obtain ⟨c', w1, w2, w3⟩ := noteJ (xs := xs) (nx := nx) (k := e) (a := 5) s3 hq2 x1 ⟨5, by omega, by omega, rfl⟩
    have MM : ∀ t, t ≠ 1 → t ≠ 32 → t ≠ 33 → (t < 91 ∨ 94 < t) → t ≠ 84 → t ≠ 78 → scM e (fX c 27 v 1) 5 (uM 84 v (iN (J + 1)) (uM 78 e X (uM 1 75 (m 1 75 + 1) (hdM e m)))) t = hdM e m t := fun t a1 a2 a3 a4 a5 a6 => by
      rw [scM_ne ⟨a1, a2, a3, a4⟩, uM_ne a5, uM_ne a6, uM_ne a1]
    have fX2 : fX c2 = fX c := (congrArg (·.1) t3).trans cMv_X
    have fI2 : ∀ t, t ≠ 22 → t ≠ 7 → t ≠ 9 → fI c2 t = fI (uI 27 v 6 (iN (J + 1)) c) t := fun t a1 a2 a3 => by
      rw [t2 t a1, cMv_I a3, cOut_I a2]
    refine ⟨c', _, 1, 1, Nat.le_refl _, w1, ?_, ?_, ?_, ?_, fun a2 z => ?_, fun c9 z => ?_⟩
    · refine nRd_next hR0 he ?_ ?_ ?_ ?_ ?_ ?_ ?_ ?_ ?_ ?_ (fun y _ => ?_) (fun k hk => ⟨?_, ?_, ?_, ?_, ?_⟩) (fun k => ?_) (Or.inr ⟨?_, ?_, ?_⟩)
      · rw [w2.2.2.2.2.1 11 (by decide) (by decide), hLL]
      · rw [w2.2.2.2.2.2.1 26 (by decide), hN2]
      · rw [w2.1 27 (by decide) (by decide), fI2 27 (by decide) (by decide) (by decide), fI_at, if_neg (fun z => absurd z.2 (by decide))]
      · rw [w2.1 27 (by decide) (by decide), fI2 27 (by decide) (by decide) (by decide), fI_at, if_pos ⟨rfl, rfl⟩]
      · rw [scM_1 (by decide), uM_ne (by decide), uM_ne (by decide), uM1_ne (by decide), hd1 0 (by decide)]
      · rw [MM 82 (by decide) (by decide) (by decide) (by decide) (by decide) (by decide), hdr 82 (by decide) (by decide) (by decide) (by decide) (by decide) (by decide) (by decide)]
      · rw [MM 83 (by decide) (by decide) (by decide) (by decide) (by decide) (by decide), hdr 83 (by decide) (by decide) (by decide) (by decide) (by decide) (by decide) (by decide)]
      · rw [MM 85 (by decide) (by decide) (by decide) (by decide) (by decide) (by decide), hdr 85 (by decide) (by decide) (by decide) (by decide) (by decide) (by decide) (by decide)]
      · rw [MM 86 (by decide) (by decide) (by decide) (by decide) (by decide) (by decide), hdr 86 (by decide) (by decide) (by decide) (by decide) (by decide) (by decide) (by decide)]
      · rw [scM_ne (by decide), uM_kk]
      · rw [MM 87 (by decide) (by decide) (by decide) (by decide) (by decide) (by decide), hdr 87 (by decide) (by decide) (by decide) (by decide) (by decide) (by decide) (by decide)]
      · rw [MM 66 (by decide) (by decide) (by decide) (by decide) (by decide) (by decide), hdk 66 k (by decide) (by decide) hk]
      · rw [MM 67 (by decide) (by decide) (by decide) (by decide) (by decide) (by decide), hdk 67 k (by decide) (by decide) hk]
      · rw [scM_ne (by decide), uM_ne (by decide), uM_k hk, uM_ne (by decide), hdk 78 k (by decide) (by decide) hk]
      · rw [MM 63 (by decide) (by decide) (by decide) (by decide) (by decide) (by decide), hdk 63 k (by decide) (by decide) hk]
      · rw [MM 56 (by decide) (by decide) (by decide) (by decide) (by decide) (by decide), hdk 56 k (by decide) (by decide) hk]
      · rw [w2.1 9 (by decide) (by decide), t2 9 (by decide)]
        by_cases y : k = e
        · subst y
          rw [cMv_9, if_neg (by decide), if_neg (by decide), if_neg (by decide), if_neg (by decide), if_neg (by decide), fI_ne (by decide)]
        · rw [cMv_9n y, fI_ne (by decide)]
      · rw [MM 66 (by decide) (by decide) (by decide) (by decide) (by decide) (by decide), hd66]
      · rw [MM 87 (by decide) (by decide) (by decide) (by decide) (by decide) (by decide), hdr 87 (by decide) (by decide) (by decide) (by decide) (by decide) (by decide) (by decide), u6]
      · rw [scM_ne (by decide), uM_ne (by decide), uM_kk, MM 63 (by decide) (by decide) (by decide) (by decide) (by decide) (by decide), hdr 63 (by decide) (by decide) (by decide) (by decide) (by decide) (by decide) (by decide), MM 56 (by decide) (by decide) (by decide) (by decide) (by decide) (by decide), hdr 56 (by decide) (by decide) (by decide) (by decide) (by decide) (by decide) (by decide)]
        exact hX
    · intro k hk hz
      rw [MM 56 (by decide) (by decide) (by decide) (by decide) (by decide) (by decide), hdr 56 (by decide) (by decide) (by decide) (by decide) (by decide) (by decide) (by decide)] at hz
      have hk' : k < fN c 26 := by rw [w2.2.2.2.2.2.1 26 (by decide), hN2] at hk; exact hk
      have ho := hc k hk' hz
      have eP : fP c' 8 k 5 = fP c 8 k 5 := by
        rw [w2.2.2.1, show fP c2 = fP (cMv e 7 (-1) none none (m 1 0) (uI 27 v 6 (iN (J + 1)) c)) from congrArg (·.2.1) t3, cMv_P (by decide)]
        rfl
      rw [eP, scM_ne (by decide), uM_ne (by decide)]
      by_cases y : k = e
      · subst y
        rw [uM_kk]
        cases hD : fP c 8 k 5 with
        | none =>
          rcases hX5 with y | y
          · exact Or.inl y
          · exact Or.inr ⟨1 + v, by omega, by omega, y⟩
        | some d' =>
          rw [hD] at ho
          have ho : m 78 k = iN (10 + d') := ho
          rw [u3] at ho
          have hd' := (hJ.2.2.2.2.2.2.2.2.2.2.1 k hk').2.2.2.2.2.2.2.1 d' hD
          have := (iN_inj (a := 0) (by omega) (by omega)).mp ho
          omega
      · rw [uM_k y, uM_ne (by decide), hdk 78 k (by decide) (by decide) y]
        exact ho
    · refine fv_trans (fv_fr f1) (fv_trans ?_ (fv_fr (fr_sc w2)))
      refine ⟨fun t _ => by rw [hN2]; rfl, fun d => by rw [fI2 21 (by decide) (by decide) (by decide)], fun t _ => by rw [fX2]; rfl, by rw [uM_ne (by decide), uM_ne (by decide), uM1_ne (by decide), hd1 0 (by decide)], by rw [uM_ne (by decide), uM_ne (by decide), uM1_ne (by decide), hd1 76 (by decide)], by rw [uM_ne (by decide), uM_ne (by decide), uM_ne (by decide), hdr 31 (by decide) (by decide) (by decide) (by decide) (by decide) (by decide) (by decide)], fun k hk => ?_⟩
      rw [uM_ne (by decide), uM_ne (by decide), uM_ne (by decide)] at hk
      rw [uM_ne (by decide), uM_ne (by decide), uM_ne (by decide), uM_ne (by decide), uM_ne (by decide), uM_ne (by decide), hdr 69 (by decide) (by decide) (by decide) (by decide) (by decide) (by decide) (by decide)]
      by_cases y : k = e
      · subst y
        rw [hd66] at hk
        exact absurd hk (by decide)
      · rw [hdk 66 k (by decide) (by decide) y] at hk
        rw [hdk 67 k (by decide) (by decide) y]
        exact Or.inl ⟨hk, rfl, rfl⟩
    · rw [scM_1 (by decide), uM_ne (by decide), uM_ne (by decide), uM_kk]
      rfl
    · rw [t70' z, bI_some, if_pos hm, if_neg n10, t4 z, bV_none]
      dsimp only
      rw [fX2, w3 z, bV_none]
      rfl
    · have hfin : ∀ Y : Int32, Y = X → uM 84 v ((uM 78 e Y (uM 1 75 (scM e (fX c 27 v 1) 5 (hdM e m) 1 75 + 1) (scM e (fX c 27 v 1) 5 (hdM e m)))) 84 v + 1) (uM 78 e Y (uM 1 75 (scM e (fX c 27 v 1) 5 (hdM e m) 1 75 + 1) (scM e (fX c 27 v 1) 5 (hdM e m)))) = scM e (fX c 27 v 1) 5 (uM 84 v (iN (J + 1)) (uM 78 e X (uM 1 75 (m 1 75 + 1) (hdM e m)))) := by
        intro Y hY
        subst hY
        have v84 : uM 78 e Y (uM 1 75 (scM e (fX c 27 v 1) 5 (hdM e m) 1 75 + 1) (scM e (fX c 27 v 1) 5 (hdM e m))) 84 v + 1 = iN (J + 1) := by
          rw [uM_ne (by decide), uM_ne (by decide), scM_ne (by decide), hdr 84 (by decide) (by decide) (by decide) (by decide) (by decide) (by decide) (by decide), J3, iN_add1]
        rw [v84, scM_1 (by decide), hd1 75 (by decide), scM_uM (by omega), scM_uM (by omega), scM_uM (by omega)]
      have r215 : R1 xs nx 215 0 [some (vR 1 (some 0)), some (vI (iN v)), some (vI (iN (30 * v + J))), none, none, none, none, none] [] (c9, m, z) = some (.inl none, (c9, uM 78 e X (uM 1 75 (scM e (fX c 27 v 1) 5 (hdM e m) 1 75 + 1) (scM e (fX c 27 v 1) 5 (hdM e m))), z)) := by
        rw [d_215_0, if_pos xin, if_pos xin, xen]
        dsimp only
        simp only [q2]
        rw [g201 c9 m z rfl rfl rfl, bI_some, if_pos vin, if_pos ain, if_pos ain, aen, ven]
        dsimp only
        simp only [e86]
        rw [t174, bI_some, if_pos kin, ken]
        dsimp only
        rw [if_pos hm.1, if_pos hm.2, x2, r193 (B := (fL c 19 0).length) x1 b1 b2, bV_none]
        dsimp only
        rw [r204 (u := u) h40 hu (by rw [scM_ne (by decide)]; exact hu2), bV_none, hd_sc, if_pos kin]
        dsimp only
        have e63 : scM e (fX c 27 v 1) 5 (hdM e m) 63 e = m 63 e := by rw [scM_ne (by decide), hdr 63 (by decide) (by decide) (by decide) (by decide) (by decide) (by decide) (by decide)]
        have e56 : scM e (fX c 27 v 1) 5 (hdM e m) 56 e = m 56 e := by rw [scM_ne (by decide), hdr 56 (by decide) (by decide) (by decide) (by decide) (by decide) (by decide) (by decide)]
        simp only [e63, e56, kin, if_true]
        rw [hX]
        rcases hP63 with y | y
        · rw [if_pos y]
          by_cases y2 : m 56 e = 0
          · rw [if_pos y2, if_pos (Or.inr y2)]
          · rw [if_neg y2, if_neg (fun w => w.elim (fun a => n10 (a.symm.trans y)) y2), show (1 : Int32) + iN v = iN (1 + v) from i32_add (a := 1)]
        · rw [if_neg (fun a => n10 (y.symm.trans a)), if_pos (Or.inl y)]
      rw [r215, bV_none, if_pos vin, if_pos vin, ven]
      dsimp only
      rw [hfin X rfl]
  · -- it fails
    have g1 := failJ (x := m 65 e + 1) hJ1 q1
    have hX0 : m 87 (30 * v + J) = 0 := u6
    have g2 : nJ κ i (uI 26 e 15 (m 65 e + 1) (uI 27 v 6 (iN (J + 1)) c)) (uM 84 v (iN (J + 1)) (uM 87 (30 * v + J) 1 (uM 65 e (m 65 e + 1) m))) := nJ_van g1 hp hv (fun _ _ => rfl) (fun _ _ _ => rfl) rfl rfl rfl rfl (fun _ _ => rfl) (fun _ _ => rfl) (fun k hk v' hv' hne' => hL3 _ rfl k hk v' hv' hne') (fun t ht => by rw [uM_ne (by omega), uM_ne (by omega)]) (fun t w hw hne' => by
        rcases hw with y | y | y
        · rw [uM_ne (by omega), uM_ne (by omega)]
        · rw [uM_ne (by omega), uM_ne (by omega)]
        · rw [uM_k hne', uM_ne (by omega)]) (fun t y hy hy2 => by rw [uM_ne (by omega), uM_k (by omega)]) (by rw [uM_kk]; exact h84i)
    obtain ⟨c', w1, w2, w3⟩ := noteJ (xs := xs) (nx := nx) (k := e) (a := 6) g2 q1 x1 ⟨6, by omega, by omega, rfl⟩
    have MM : ∀ t, t ≠ 1 → t ≠ 32 → t ≠ 33 → (t < 91 ∨ 94 < t) → t ≠ 84 → t ≠ 87 → t ≠ 65 → scM e (fX c 27 v 1) 6 (uM 84 v (iN (J + 1)) (uM 87 (30 * v + J) 1 (uM 65 e (m 65 e + 1) m))) t = m t := fun t a1 a2 a3 a4 a5 a6 a7 => by
      rw [scM_ne ⟨a1, a2, a3, a4⟩, uM_ne a5, uM_ne a6, uM_ne a7]
    refine ⟨c', _, 0, 0, Nat.zero_le _, w1, ?_, ?_, ?_, ?_, fun a2 z => ?_, fun c9 z => ?_⟩
    · refine nRd_next hR0 he ?_ ?_ ?_ ?_ ?_ ?_ ?_ ?_ ?_ ?_ (fun y hy => ?_) (fun k hk => ⟨?_, ?_, ?_, ?_, ?_⟩) (fun k => ?_) (Or.inl ⟨?_, ?_, ?_, ?_⟩)
      · rw [w2.2.2.2.2.1 11 (by decide) (by decide)]; rfl
      · rw [w2.2.2.2.2.2.1 26 (by decide)]; rfl
      · rw [w2.1 27 (by decide) (by decide), fI_ne (by decide), fI_at, if_neg (fun z => absurd z.2 (by decide))]
      · rw [w2.1 27 (by decide) (by decide), fI_ne (by decide), fI_at, if_pos ⟨rfl, rfl⟩]
      · rw [scM_1 (by decide), uM_ne (by decide), uM_ne (by decide), uM_ne (by decide)]
      · rw [MM 82 (by decide) (by decide) (by decide) (by decide) (by decide) (by decide) (by decide)]
      · rw [MM 83 (by decide) (by decide) (by decide) (by decide) (by decide) (by decide) (by decide)]
      · rw [MM 85 (by decide) (by decide) (by decide) (by decide) (by decide) (by decide) (by decide)]
      · rw [MM 86 (by decide) (by decide) (by decide) (by decide) (by decide) (by decide) (by decide)]
      · rw [scM_ne (by decide), uM_kk]
      · rw [scM_ne (by decide), uM_ne (by decide), uM_k hy, uM_ne (by decide)]
      · rw [MM 66 (by decide) (by decide) (by decide) (by decide) (by decide) (by decide) (by decide)]
      · rw [MM 67 (by decide) (by decide) (by decide) (by decide) (by decide) (by decide) (by decide)]
      · rw [MM 78 (by decide) (by decide) (by decide) (by decide) (by decide) (by decide) (by decide)]
      · rw [MM 63 (by decide) (by decide) (by decide) (by decide) (by decide) (by decide) (by decide)]
      · rw [MM 56 (by decide) (by decide) (by decide) (by decide) (by decide) (by decide) (by decide)]
      · rw [w2.1 9 (by decide) (by decide), fI_ne (by decide), fI_ne (by decide)]
      · rw [MM 66 (by decide) (by decide) (by decide) (by decide) (by decide) (by decide) (by decide)]; exact u1
      · rw [MM 67 (by decide) (by decide) (by decide) (by decide) (by decide) (by decide) (by decide)]; exact u2
      · rw [MM 78 (by decide) (by decide) (by decide) (by decide) (by decide) (by decide) (by decide)]; exact u3
      · rw [scM_ne (by decide), uM_ne (by decide), uM_kk]
    · intro k hk hz
      rw [MM 56 (by decide) (by decide) (by decide) (by decide) (by decide) (by decide) (by decide)] at hz
      have hk' : k < fN c 26 := by rw [w2.2.2.2.2.2.1 26 (by decide)] at hk; exact hk
      rw [w2.2.2.1, MM 78 (by decide) (by decide) (by decide) (by decide) (by decide) (by decide) (by decide)]
      exact hc k hk' hz
    · exact fv_trans (fv_fr (fr_trans f1 (fr_trans (fr_uI (t := 26) (by decide)) (fr_trans (fr_uM (t := 65) (by decide)) (fr_trans (fr_uM (t := 87) (by decide)) (fr_uM (t := 84) (by decide))))))) (fv_fr (fr_sc w2))
    · rw [scM_1 (by decide), uM_ne (by decide), uM_ne (by decide), uM_ne (by decide)]
      exact iN_a0.symm
    · rw [t70' z, bI_some, if_neg hm, if_pos rfl]
      show bV (R1 xs nx 95 0 [some (vR 0 (some 0)), some (vR 26 (some e)), some (vR 21 (some (fX c 27 v 1))), some (vI (6 : Int32)), none] [] (uI 26 e 15 (fI (uI 27 v 6 (iN (J + 1)) c) 26 e 15 + 1) (uI 27 v 6 (iN (J + 1)) c), z)) _ _ = _
      rw [fI_ne (show (26 : Nat) ≠ 27 by decide), e15, w3 z, bV_none, show a2 + iN 0 = a2 from iN_a0]
    · have r72 : R1 xs nx 215 72 [some (vR 1 (some 0)), some (vI (iN v)), some (vI (iN (30 * v + J))), some (vI (iN e)), some (vI (iN H)), some (vI (iN (gAd (uI 27 v 6 (iN (J + 1)) c) m e))), some (vI (iN (fX c 27 v 1))), some (vI x)] [] (c9, m, z) = some (.inl none, (c9, scM e (fX c 27 v 1) 6 (uM 87 (30 * v + J) 1 (uM 65 e (m 65 e + 1) m)), z)) := by
        rw [d_215_72, if_pos kin, if_pos kin, if_pos ⟨xin, Or.inr rfl⟩, xen, ken]
        dsimp only
        have b1' : uM 87 (30 * v + J) 1 (uM 65 e (m 65 e + 1) m) 1 69 = iN (fL c 19 0).length := by
          rw [uM_ne (by decide), uM_ne (by decide)]
          exact b1
        rw [r193 (B := (fL c 19 0).length) x1 b1' b2, bV_none]
      have r215 : R1 xs nx 215 0 [some (vR 1 (some 0)), some (vI (iN v)), some (vI (iN (30 * v + J))), none, none, none, none, none] [] (c9, m, z) = some (.inl none, (c9, scM e (fX c 27 v 1) 6 (uM 87 (30 * v + J) 1 (uM 65 e (m 65 e + 1) m)), z)) := by
        rw [d_215_0, if_pos xin, if_pos xin, xen]
        dsimp only
        simp only [q2]
        rw [g201 c9 m z rfl rfl rfl, bI_some, if_pos vin, if_pos ain, if_pos ain, aen, ven]
        dsimp only
        simp only [e86]
        rw [t174, bI_some, if_pos kin, ken]
        dsimp only
        rw [x2]
        by_cases y : iN H < m 58 e
        · rw [if_pos y, if_neg (fun w => hm ⟨y, w⟩), r72]
        · rw [if_neg y, r72]
      rw [r215, bV_none, if_pos vin, if_pos vin, ven]
      dsimp only
      rw [show scM e (fX c 27 v 1) 6 (uM 87 (30 * v + J) 1 (uM 65 e (m 65 e + 1) m)) 84 v + 1 = iN (J + 1) by rw [scM_ne (by decide), uM_ne (by decide), uM_ne (by decide), J3, iN_add1], ← scM_uM (by omega)]
end ST
end OQQ
end KAP
