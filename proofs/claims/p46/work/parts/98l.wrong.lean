/-! ===== wrong ===== -/
section KAP
variable {κ : kP}
section OQD
variable {xs : Nat → Int32} {nx : Nat}
theorem okF_qk {c : nC} {a b : Nat} {t x : Int32} (hpos : ∀ l, l < fN c 23 → fI c 23 l 3 ≠ -1) (h : (x = -1 ∧ ∀ l, l < fN c 23 → ¬ (fX c 23 l 1 = a ∧ fX c 23 l 2 = b)) ∨ (∃ l, l < fN c 23 ∧ fX c 23 l 1 = a ∧ fX c 23 l 2 = b ∧ x = fI c 23 l 3) ∧ ∀ l, l < fN c 23 → fX c 23 l 1 = a → fX c 23 l 2 = b → ¬ fI c 23 l 3 < x) :
    okF c a b t = none ↔ (x = -1 ∨ t < x) := by
  unfold okF
  rw [nFst_none]
  rcases h with ⟨h1, h2⟩ | ⟨⟨l0, y1, y2, y3, y4⟩, h2⟩
  · refine ⟨fun _ => Or.inl h1, fun _ k _ hk => ?_⟩
    apply decide_eq_false
    intro z
    exact h2 k (by omega) ⟨z.1, z.2.1⟩
  · constructor
    · intro z
      have := z l0 (Nat.zero_le _) (by omega)
      have := of_decide_eq_false this
      refine Or.inr ?_
      by_cases w : t < x
      · exact w
      · exact absurd ⟨y2, y3, by rw [← y4]; exact w⟩ this
    · intro z k _ hk
      apply decide_eq_false
      rintro ⟨w1, w2, w3⟩
      rcases z with z | z
      · exact hpos l0 y1 (by rw [← y4]; exact z)
      · have := h2 k (by omega) w1 w2
        rw [i32_ltt] at this w3 z
        omega
theorem lan_pos {i : Nat} {c : nC} {m : nM} (hJ : nJ κ i c m) : ∀ l, l < fN c 23 → fI c 23 l 3 ≠ -1 := by
  intro l hl
  obtain ⟨-, -, ⟨e, n, n1, n2, n3⟩, -⟩ := hJ.2.2.2.1.1 l hl
  rw [e, n3]
  exact iN_ne1 (by omega)
theorem loop254_1 {i0 : Nat} {c : nC} {m : nM} (hJ : nJ κ i0 c m) {s : nS} {a1 a2 a3 : Int32} (s8 : s.2.1 1 8 = m 1 8) : ∀ (n i : Nat), i + n = fN c 23 → R1 xs nx 254 6 [some (vR 1 (some 0)), some (vI a1), some (vI a2), some (vI a3), some (vI 1), some (vI (iN i))] [] s = some (.inl (some (vI 1)), s) := by
  obtain ⟨q1, q2, -⟩ := hJ.1.1
  intro n
  induction n with
  | zero =>
    intro i e
    rw [d_254_6, s8, q2, if_neg (fun z => by have := (iN_lt (by omega) (by omega)).mp z; omega), if_pos (Or.inr rfl)]
  | succ n ih =>
    intro i e
    rw [d_254_6, s8, q2, if_pos ((iN_lt (by omega) (by omega)).mpr (by omega)), if_neg n10, d_254_53, d_254_58, iN_add1]
    exact ih (i + 1) (by omega)
theorem loop254 {i0 : Nat} {c : nC} {m : nM} (hJ : nJ κ i0 c m) {s : nS} {a b : Nat} {t : Int32} (ha : a < 5) (hb : b < 5) (s8 : s.2.1 1 8 = m 1 8) (s35 : s.2.1 35 = m 35) (s36 : s.2.1 36 = m 36) (s37 : s.2.1 37 = m 37) : ∀ (n i : Nat), i + n = fN c 23 →
    R1 xs nx 254 6 [some (vR 1 (some 0)), some (vI (iN a)), some (vI (iN b)), some (vI t), some (vI 0), some (vI (iN i))] [] s = some (.inl (some (vI (oB (nFst (fun l => decide (fX c 23 l 1 = a ∧ fX c 23 l 2 = b ∧ ¬ t < fI c 23 l 3)) n i)))), s) := by
  obtain ⟨q1, q2, -⟩ := hJ.1.1
  intro n
  induction n with
  | zero =>
    intro i e
    rw [d_254_6, s8, q2, if_neg (fun z => by have := (iN_lt (by omega) (by omega)).mp z; omega), if_pos (Or.inl rfl)]
    rfl
  | succ n ih =>
    intro i e
    obtain ⟨⟨x1, x2⟩, ⟨x3, x4⟩, ⟨x5, -⟩, -⟩ := hJ.2.2.2.1.1 i (by omega)
    have hin : mIn (iN i) 12 = true := iN_in (by omega) (by decide)
    have en : (iN i).toNatClampNeg = i := i32_nat (by omega)
    rw [d_254_6, s8, q2, if_pos ((iN_lt (by omega) (by omega)).mpr (by omega)), if_pos rfl, if_pos hin, en, s35, s36, s37, x2, x4, ← x5]
    simp only [nFst]
    by_cases h1 : fX c 23 i 1 = a
    · rw [if_pos (by rw [h1]), if_pos hin]
      by_cases h2 : fX c 23 i 2 = b
      · rw [if_pos (by rw [h2]), if_pos hin]
        by_cases h3 : t < fI c 23 i 3
        · rw [if_pos h3, d_254_57, d_254_58, iN_add1, ih (i + 1) (by omega), if_neg (c := (decide (fX c 23 i 1 = a ∧ fX c 23 i 2 = b ∧ ¬ t < fI c 23 i 3) = true)) (fun z => (of_decide_eq_true z).2.2 h3)]
        · rw [if_neg h3, d_254_53, d_254_58, iN_add1, loop254_1 hJ s8 n (i + 1) (by omega), if_pos (c := (decide (fX c 23 i 1 = a ∧ fX c 23 i 2 = b ∧ ¬ t < fI c 23 i 3) = true)) (decide_eq_true ⟨h1, h2, h3⟩)]
          rfl
      · rw [if_neg (fun z => h2 ((iN_inj (by omega) (by omega)).mp z)), d_254_57, d_254_58, iN_add1, ih (i + 1) (by omega), if_neg (c := (decide (fX c 23 i 1 = a ∧ fX c 23 i 2 = b ∧ ¬ t < fI c 23 i 3) = true)) (fun z => h2 (of_decide_eq_true z).2.1)]
    · rw [if_neg (fun z => h1 ((iN_inj (by omega) (by omega)).mp z)), d_254_57, d_254_58, iN_add1, ih (i + 1) (by omega), if_neg (c := (decide (fX c 23 i 1 = a ∧ fX c 23 i 2 = b ∧ ¬ t < fI c 23 i 3) = true)) (fun z => h1 (of_decide_eq_true z).1)]
def wrF (c : nC) : List Nat → Option Nat → Nat → Int32
  | [], _, _ => -1
  | b :: L, none, n => wrF c L (some b) n
  | b :: L, some a, n => if fX c 25 a 1 = fX c 25 b 1 then wrF c L (some b) n else match okF c (fX c 25 a 1) (fX c 25 b 1) (fI c 25 b 2 - fI c 25 a 2) with
    | none => iN n
    | some _ => wrF c L (some b) (n + 1)
theorem wr161 {i0 k : Nat} {c : nC} {m : nM} (hJ : nJ κ i0 c m) {s : nS} (hc : s.1 = c) {a1 : Int32} (hlen : (fL c 10 k).length ≤ 400) : ∀ (n i b : Nat) (l5 l6 l7 : Option nV) (a : Nat), i + 1 + n = (fL c 10 k).length → (fL c 10 k)[i]? = some a → b ≤ i →
    R1 xs nx 161 11 [some (vR 0 (some 0)), some (vI a1), some (vR 26 (some k)), some (vI (iN b)), some (vI (iN (i + 1))), l5, l6, l7] [] s = some (.inl (some (vI (wrF c ((fL c 10 k).drop (i + 1)) (some a) b))), s) := by
  subst hc
  intro n
  induction n with
  | zero =>
    intro i b l5 l6 l7 a e h hb
    rw [d_161_11, nn_some, if_neg (fun z => by have := (iN_lt (by omega) (by omega)).mp z; omega), List.drop_eq_nil_of_le (by omega)]
    rfl
  | succ n ih =>
    intro i b l5 l6 l7 a e h hb
    have hi : i + 1 < (fL s.1 10 k).length := by omega
    have hi2 := List.getElem?_eq_getElem hi
    rw [d_161_11, nn_some, if_pos ((iN_lt (by omega) (by omega)).mpr hi), nn_some, iN_sub1 (by omega), if_neg (iN_pos (by omega)), i32_nat (show i < 2 ^ 31 by omega), h, nn_some, nn_some, if_neg (iN_pos (by omega)), i32_nat (show i + 1 < 2 ^ 31 by omega), hi2, nn_some, List.drop_eq_getElem_cons hi]
    simp only [wrF]
    by_cases h1 : fX s.1 25 a 1 = fX s.1 25 (fL s.1 10 k)[i + 1] 1
    · rw [if_pos (by rw [h1]), if_pos h1, d_161_109, iN_add1]
      exact ih (i + 1) b _ _ _ _ (by omega) hi2 (by omega)
    · rw [if_neg (fun z => h1 (Option.some.inj z)), if_neg h1]
      obtain ⟨q1, q2, q3⟩ := hJ.1.1
      have hq := quick160 (xs := xs) (nx := nx) (s := s) (a := fX s.1 25 a 1) (b := fX s.1 25 (fL s.1 10 k)[i + 1] 1) q3 q1 (lan_pos hJ) (fN s.1 23) 0 (-1) none (Nat.zero_add _) (Or.inl ⟨rfl, fun l hl => absurd hl (Nat.not_lt_zero l)⟩)
      obtain ⟨x, x1, x2⟩ := hq
      have hok := okF_qk (t := fI s.1 25 (fL s.1 10 k)[i + 1] 2 - fI s.1 25 a 2) (lan_pos hJ) x2
      rw [d_160_0, show (0 : Int32) = iN 0 from rfl, x1, bI_some]
      revert hok
      cases okF s.1 (fX s.1 25 a 1) (fX s.1 25 (fL s.1 10 k)[i + 1] 1) (fI s.1 25 (fL s.1 10 k)[i + 1] 2 - fI s.1 25 a 2) with
      | none =>
        intro hok
        rcases hok.mp rfl with z | z
        · rw [if_pos z]
        · by_cases w : x = -1
          · rw [if_pos w]
          · rw [if_neg w, if_pos z]
      | some y =>
        intro hok
        have hn : ¬ (x = -1 ∨ fI s.1 25 (fL s.1 10 k)[i + 1] 2 - fI s.1 25 a 2 < x) := fun z => by
          have := hok.mpr z
          cases this
        rw [if_neg (fun z => hn (Or.inl z)), if_neg (fun z => hn (Or.inr z)), d_161_109, iN_add1, iN_add1]
        exact ih (i + 1) (b + 1) _ _ _ _ (by omega) hi2 (by omega)
theorem wr255 {i0 k : Nat} {c : nC} {m : nM} (hJ : nJ κ i0 c m) (hk : k < fN c 26) {s : nS} (s69 : s.2.1 1 69 = m 1 69) (s8 : s.2.1 1 8 = m 1 8) (s35 : s.2.1 35 = m 35) (s36 : s.2.1 36 = m 36) (s37 : s.2.1 37 = m 37) (s91 : s.2.1 91 = m 91) (s92 : s.2.1 92 = m 92) (s93 : s.2.1 93 = m 93) :
    ∀ (n i b : Nat) (o oa : Option Nat), i + n = (fL c 19 0).length → b ≤ i → ((o = none ∧ oa = none) ∨ ∃ j a, o = some j ∧ oa = some a ∧ j < (fL c 19 0).length ∧ (fL c 19 0)[j]? = some a) →
    R1 xs nx 255 29 [some (vR 1 (some 0)), some (vI (iN k)), some (vI (oI o)), some (vI (iN b)), some (vI (iN i))] [] s = some (.inl (some (vI (wrF c (((fL c 19 0).drop i).filter fun b => decide (fI c 25 b 0 = iN k)) oa b))), s) := by
  obtain ⟨h69, h400⟩ := nJ_69 hJ
  intro n
  induction n with
  | zero =>
    intro i b o oa e _ _
    rw [d_255_29, s69, h69, if_neg (fun z => by have := (iN_lt (by omega) (by omega)).mp z; omega), List.drop_eq_nil_of_le (by omega)]
    rfl
  | succ n ih =>
    intro i b o oa e hb ho
    have hi : i < (fL c 19 0).length := by omega
    have hi2 := List.getElem?_eq_getElem hi
    obtain ⟨x1, x2, x3, x4, -⟩ := bok_at hJ hi2
    have hin : mIn (iN i) 400 = true := iN_in (by omega) (by decide)
    have en : (iN i).toNatClampNeg = i := i32_nat (by omega)
    rw [d_255_29, s69, h69, if_pos ((iN_lt (by omega) (by omega)).mpr hi), if_pos hin, en, s91, List.drop_eq_getElem_cons hi, List.filter_cons]
    by_cases h : m 91 i = iN k
    · rw [if_pos h, if_pos (decide_eq_true (by rw [x1]; exact h))]
      rcases ho with ⟨rfl, rfl⟩ | ⟨j, a, rfl, rfl, hj, ha⟩
      · rw [if_pos (show oI none = (-1 : Int32) from rfl), d_255_109, d_255_112, iN_add1]
        simp only [wrF]
        exact ih (i + 1) b (some i) _ (by omega) (by omega) (Or.inr ⟨i, _, rfl, rfl, hi, hi2⟩)
      · obtain ⟨-, z2, z3, z4, -⟩ := bok_at hJ ha
        have hjn : mIn (iN j) 400 = true := iN_in (by omega) (by decide)
        have ej : (iN j).toNatClampNeg = j := i32_nat (by omega)
        simp only [show oI (some j) = iN j from rfl, wrF]
        rw [if_neg (iN_ne1 (by omega)), if_pos hjn, if_pos hin, ej, s92, s93, x3, z3]
        by_cases h1 : fX c 25 a 1 = fX c 25 (fL c 19 0)[i] 1
        · rw [if_pos (by rw [h1]), if_pos h1, d_255_109, d_255_112, iN_add1]
          exact ih (i + 1) b (some i) _ (by omega) (by omega) (Or.inr ⟨i, _, rfl, rfl, hi, hi2⟩)
        · rw [if_neg (fun z => h1 ((iN_inj (by omega) (by omega)).mp z)), if_neg h1, if_pos hjn, if_pos hin, if_pos hin, if_pos hjn, d_254_0]
          have hl := loop254 (xs := xs) (nx := nx) hJ (s := s) (a := fX c 25 a 1) (b := fX c 25 (fL c 19 0)[i] 1) (t := m 93 i - m 93 j) z2 x2 s8 s35 s36 s37 (fN c 23) 0 (Nat.zero_add _)
          rw [show (0 : Int32) = iN 0 from rfl] at hl ⊢
          rw [hl, bI_some, ← x4, ← z4]
          show (if oB (okF c (fX c 25 a 1) (fX c 25 (fL c 19 0)[i] 1) (fI c 25 (fL c 19 0)[i] 2 - fI c 25 a 2)) = 0 then _ else _) = _
          cases okF c (fX c 25 a 1) (fX c 25 (fL c 19 0)[i] 1) (fI c 25 (fL c 19 0)[i] 2 - fI c 25 a 2) with
          | none =>
            rw [if_pos (show oB none = 0 from rfl)]
          | some y =>
            rw [if_neg (show ¬ oB (some y) = 0 from n10), d_255_109, d_255_112, iN_add1, iN_add1]
            exact ih (i + 1) (b + 1) (some i) _ (by omega) (by omega) (Or.inr ⟨i, _, rfl, rfl, hi, hi2⟩)
    · rw [if_neg h, if_neg (fun z => h (by rw [← x1]; exact of_decide_eq_true z)), d_255_112, iN_add1]
      exact ih (i + 1) b o oa (by omega) (by omega) ho
theorem op39 : ∀ i, i < 512 → ∀ (a1 : Int32), nDoes κ pT pF i [(0, 1)] (fun s => R1 xs nx 161 0 [some (vR 0 (some 0)), some (vI a1), none, none, none, none, none, none] [] s) (fun s => R1 xs nx 255 0 [some (vR 1 (some 0)), some (vI a1), none, none, none] [] s) := by
  intro i hi a1 s hJ
  rcases idx97 (xs := xs) (nx := nx) hJ a1 with ⟨h1, h2⟩ | ⟨k, hk, ea, hin, en, h1, h2⟩
  · exact nFail (E := 0) (e := 1) (v := 0) hJ (by simp only [d_161_0, h1 s rfl, bR, hE]) (fun z => by simp only [d_255_0, h2 (s.1, s.2.1, z) rfl, bI, if_true, d_255_14, r172_1, n10, if_false]) rfl n10
  · subst ea
    obtain ⟨h69, h400⟩ := nJ_69 hJ
    have h10 := bok_10 hJ hk
    have hl := len10 hJ hk
    refine nAsk (v := wrF s.1 (fL s.1 10 k) none 0) hJ ?_ (fun z => ?_)
    · simp only [d_161_0, h1 s rfl, bR, ntg_self]
      cases hS : fL s.1 10 k with
      | nil =>
        rw [d_161_11, nn_some, hS, if_neg (by decide)]
        rfl
      | cons a L =>
        have := wr161 (xs := xs) (nx := nx) hJ (s := s) rfl (a1 := iN k) (k := k) hl ((fL s.1 10 k).length - 1) 0 0 none none none a (by rw [hS]; simp only [List.length_cons]; omega) (by rw [hS]; rfl) (Nat.le_refl _)
        rw [hS] at this
        exact this
    · simp only [d_255_0, h2 (s.1, s.2.1, z) rfl, bI, n10, if_false, d_255_14, r172_0, if_true]
      have := wr255 (xs := xs) (nx := nx) hJ hk (s := (s.1, uM 1 76 0 s.2.1, z)) (show uM 1 76 0 s.2.1 1 69 = _ from uM1_ne (by decide)) (show uM 1 76 0 s.2.1 1 8 = _ from uM1_ne (by decide)) (show uM 1 76 0 s.2.1 35 = _ from uM_ne (by decide)) (show uM 1 76 0 s.2.1 36 = _ from uM_ne (by decide)) (show uM 1 76 0 s.2.1 37 = _ from uM_ne (by decide)) (show uM 1 76 0 s.2.1 91 = _ from uM_ne (by decide)) (show uM 1 76 0 s.2.1 92 = _ from uM_ne (by decide)) (show uM 1 76 0 s.2.1 93 = _ from uM_ne (by decide)) (fL s.1 19 0).length 0 0 none none (Nat.zero_add _) (Nat.le_refl _) (Or.inl ⟨rfl, rfl⟩)
      rw [List.drop_zero, ← h10] at this
      exact this
end OQD
end KAP
