/-! ===== place, way ===== -/
section KAP
variable {κ : kP}
section OQB
variable {xs : Nat → Int32} {nx : Nat}
theorem nStepL {F : Int32 → Int32 → Option nOut} {f : Nat → Int32} {P : Nat} (step : ∀ i acc, i < P → F acc (iN i) = F (acc + f i) (iN (i + 1))) : ∀ (m i : Nat) (acc : Int32), i + m = P → F acc (iN i) = F (nAcc f m i acc) (iN P) := by
  intro m
  induction m with
  | zero =>
    intro i acc e
    have : i = P := by omega
    subst this
    rfl
  | succ m ih =>
    intro i acc e
    rw [step i acc (by omega)]
    exact ih (i + 1) _ (by omega)
theorem idx_cnt (o : Nat → Int32) : ∀ (L : List Nat) (n k : Nat), L.Pairwise (fun i j => o i < o j) → L[n]? = some k → (L.filter (fun j => decide (o j < o k))).length = n
  | [], n, k, _, h => by simp at h
  | x :: L, 0, k, hp, h => by
    have e : x = k := Option.some.inj h
    subst e
    rw [List.pairwise_cons] at hp
    have : (x :: L).filter (fun j => decide (o j < o x)) = [] := by
      rw [List.filter_eq_nil_iff]
      intro y hy z
      have z := of_decide_eq_true z
      rw [i32_ltt] at z
      rcases List.mem_cons.mp hy with w | w
      · subst w; omega
      · have := hp.1 y w
        rw [i32_ltt] at this
        omega
    rw [this]
    rfl
  | x :: L, n + 1, k, hp, h => by
    rw [List.pairwise_cons] at hp
    have h' : L[n]? = some k := h
    have hx := hp.1 k (List.mem_of_getElem? h')
    rw [List.filter_cons, if_pos (decide_eq_true hx), List.length_cons, idx_cnt o L n k hp.2 h']
theorem op29 : ∀ i, i < 512 → ∀ (a1 : Int32), nDoes κ pT pF i [(0, 1)] (fun s => R1 xs nx 148 0 [some (vR 0 (some 0)), some (vI a1), none, none, none] [] s) (fun s => R1 xs nx 244 0 [some (vR 1 (some 0)), some (vI a1), none, none] [] s) := by
  intro i hi a1 s hJ
  rcases idx97 (xs := xs) (nx := nx) hJ a1 with ⟨h1, h2⟩ | ⟨k, hk, ea, hin, en, h1, h2⟩
  · exact nFail (E := 0) (e := 1) (v := 0) hJ (by simp only [d_148_0, h1 s rfl, bR, hE]) (fun z => by simp only [d_244_0, h2 (s.1, s.2.1, z) rfl, bI, if_true, d_244_14, r172_1, n10, if_false]) rfl n10
  · subst ea
    obtain ⟨q1, q2, q3⟩ := hJ.1.2.2.1
    obtain ⟨e0, n0, hn0, en0⟩ := kind8 hJ hk
    have h40 := k40 hJ hk
    have h66 : uM 1 76 0 s.2.1 66 = s.2.1 66 := uM_ne (by decide)
    have h67 : uM 1 76 0 s.2.1 67 = s.2.1 67 := uM_ne (by decide)
    have h68 : uM 1 76 0 s.2.1 68 = s.2.1 68 := uM_ne (by decide)
    have h24 : uM 1 76 0 s.2.1 1 24 = s.2.1 1 24 := uM1_ne (by decide)
    have hloop : ∀ z, R1 xs nx 244 0 [some (vR 1 (some 0)), some (vI (iN k)), none, none] [] (s.1, s.2.1, z) = R1 xs nx 244 26 [some (vR 1 (some 0)), some (vI (iN k)), some (vI (iN ((List.range' 0 (fN s.1 26)).filter fun j => decide (s.2.1 66 j = s.2.1 66 k ∧ s.2.1 67 j = s.2.1 67 k ∧ s.2.1 68 j < s.2.1 68 k)).length)), some (vI (iN (fN s.1 26)))] [] (s.1, uM 1 76 0 s.2.1, z) := by
      intro z
      simp only [d_244_0, h2 (s.1, s.2.1, z) rfl, bI, n10, if_false, d_244_14, r172_0, if_true]
      have hc := nAcc_cnt (p := fun j => s.2.1 66 j = s.2.1 66 k ∧ s.2.1 67 j = s.2.1 67 k ∧ s.2.1 68 j < s.2.1 68 k) (fN s.1 26) 0 0
      rw [Nat.zero_add] at hc
      rw [← hc]
      refine nStepL (F := fun acc j => R1 xs nx 244 26 [some (vR 1 (some 0)), some (vI (iN k)), some (vI acc), some (vI j)] [] (s.1, uM 1 76 0 s.2.1, z)) (f := fun j => if s.2.1 66 j = s.2.1 66 k ∧ s.2.1 67 j = s.2.1 67 k ∧ s.2.1 68 j < s.2.1 68 k then 1 else 0) (P := fN s.1 26) (fun j acc hj => ?_) (fN s.1 26) 0 0 (Nat.zero_add _)
      show R1 xs nx 244 26 _ _ _ = R1 xs nx 244 26 _ _ _
      have hjn : mIn (iN j) 40 = true := iN_in40 (by omega)
      have ej : (iN j).toNatClampNeg = j := i32_nat (by omega)
      rw [d_244_26]
      dsimp only
      simp only [h66, h67, h68, h24]
      rw [q2, if_pos ((iN_lt (by omega) (by omega)).mpr hj), if_pos hjn, if_pos hin, ej, en]
      by_cases c1 : s.2.1 66 j = s.2.1 66 k
      · rw [if_pos c1, if_pos hjn, if_pos hin]
        by_cases c2 : s.2.1 67 j = s.2.1 67 k
        · rw [if_pos c2, if_pos hjn, if_pos hin]
          by_cases c3 : s.2.1 68 j < s.2.1 68 k
          · rw [if_pos c3, d_244_85, iN_add1, if_pos ⟨c1, c2, c3⟩]
          · rw [if_neg c3, d_244_84, d_244_85, iN_add1, if_neg (fun z => c3 z.2.2)]
        · rw [if_neg c2, d_244_84, d_244_85, iN_add1, if_neg (fun z => c2 z.2.1)]
      · rw [if_neg c1, d_244_84, d_244_85, iN_add1, if_neg (fun z => c1 z.1)]
    have hend : ∀ z (x : Int32), R1 xs nx 244 26 [some (vR 1 (some 0)), some (vI (iN k)), some (vI x), some (vI (iN (fN s.1 26)))] [] (s.1, uM 1 76 0 s.2.1, z) = if (1 : Int32) < s.2.1 66 k then some (.inl (some (vI (-1))), (s.1, uM 1 76 0 s.2.1, z)) else some (.inl (some (vI x)), (s.1, uM 1 76 0 s.2.1, z)) := by
      intro z x
      rw [d_244_26]
      dsimp only
      simp only [h66, h24]
      rw [q2, if_neg (fun z => Nat.lt_irrefl _ ((iN_lt (by omega) (by omega)).mp z)), if_pos hin, en]
    have hq : ∀ (t l : Nat), fQ s.1 k = some (t, l) → ¬ ((1 : Int32) < s.2.1 66 k) → nLt t = 26 → nLin (fN s.1 26) (s.2.1 66) (s.2.1 67) (s.2.1 68) (s.2.1 66 k) (s.2.1 67 k) (fL s.1 t l) → ∃ n, (∀ z, R1 xs nx 244 0 [some (vR 1 (some 0)), some (vI (iN k)), none, none] [] (s.1, s.2.1, z) = some (.inl (some (vI (iN n))), (s.1, uM 1 76 0 s.2.1, z))) ∧ R1 xs nx 56 0 [some (vL (some (t, l))), some (vR 26 (some k)), none] [] s = some (.inl (some (vI (iN n))), s) := by
      intro t l e hle ht hL
      have hmem : k ∈ fL s.1 t l := (hL.1 k).mpr ⟨hk, rfl, rfl⟩
      obtain ⟨n, n1, n2, -⟩ := fst_ix k _ hmem
      have hlen := nLin_le hL
      refine ⟨n, fun z => ?_, ?_⟩
      · rw [hloop, hend, if_neg hle]
        refine congrArg (fun x : Nat => (some (.inl (some (vI (iN x))), (s.1, uM 1 76 0 s.2.1, z)) : Option nOut)) ?_
        rw [← idx_cnt (s.2.1 68) _ n k hL.2 n1]
        refine List.Perm.length_eq ((List.perm_ext_iff_of_nodup (List.Pairwise.filter _ (List.nodup_range' (s := 0) (n := fN s.1 26))) (List.Pairwise.filter _ (nLin_nd hL))).mpr fun j => ?_)
        rw [List.mem_filter, List.mem_filter, List.mem_range'_1, hL.1 j]
        constructor
        · rintro ⟨⟨-, y1⟩, y2⟩
          obtain ⟨y2, y3, y4⟩ := of_decide_eq_true y2
          exact ⟨⟨by omega, y2, y3⟩, decide_eq_true y4⟩
        · rintro ⟨⟨y1, y2, y3⟩, y4⟩
          exact ⟨⟨Nat.zero_le _, by omega⟩, decide_eq_true ⟨y2, y3, of_decide_eq_true y4⟩⟩
      · rw [d_56_0]
        exact ix56 (s := s) ht n1 n2 (by omega) n 0 (Nat.zero_add _)
    obtain ⟨g1, g2, -⟩ := hJ.2.2.2.2.2.2.2.2.2.1
    obtain ⟨w1, w2⟩ := nJ_q hJ hk
    obtain ⟨-, -, -, -, y⟩ := hJ.2.2.2.2.2.2.2.1 k hk
    by_cases k0 : s.2.1 66 k = 0
    · obtain ⟨d, hd, y1, y2⟩ : ∃ d, d < 5 ∧ s.2.1 67 k = iN d ∧ fQ s.1 k = some (3, d) := by
        rcases y with ⟨z, d, z1, z2, z3, z4, -⟩ | ⟨z, -⟩ | ⟨z, -⟩ | ⟨z, -⟩ | ⟨z, -⟩ | ⟨z, -⟩ | ⟨z, -⟩ | ⟨z, -⟩ | ⟨z, -⟩
        · exact ⟨d, z1, z2, z4⟩
        all_goals (rw [k0] at z; exact absurd z (by decide))
      obtain ⟨n, n1, n2⟩ := hq 3 d y2 (by rw [k0]; decide) rfl (by rw [k0, y1]; exact g1 d hd)
      refine nAsk (v := iN n) hJ ?_ n1
      simp only [d_148_0, h1 s rfl, bR, ntg_self, nn_some, e0, k0, if_true, d_148_35, d_148_40, n10, if_false, y2]
      show bI (R1 xs nx 56 0 [some (vL (some (3, d))), some (vR 26 (some k)), none] [] s) _ _ = _
      rw [n2]
      rfl
    · by_cases k1 : s.2.1 66 k = 1
      · obtain ⟨d, hd, y1, y2⟩ : ∃ d, d < fN s.1 23 ∧ s.2.1 67 k = iN d ∧ fQ s.1 k = some (5, d) := by
          rcases y with ⟨z, -⟩ | ⟨z, d, z1, z2, z3, z4, -⟩ | ⟨z, -⟩ | ⟨z, -⟩ | ⟨z, -⟩ | ⟨z, -⟩ | ⟨z, -⟩ | ⟨z, -⟩ | ⟨z, -⟩
          rotate_left
          · exact ⟨d, z1, z2, z4⟩
          all_goals (rw [k1] at z; exact absurd z (by decide))
        obtain ⟨n, n1, n2⟩ := hq 5 d y2 (by rw [k1]; decide) rfl (by rw [k1, y1]; exact g2 d hd)
        refine nAsk (v := iN n) hJ ?_ n1
        simp only [d_148_0, h1 s rfl, bR, ntg_self, nn_some, e0, k1, if_true, d_148_35, d_148_40, n10, if_false, y2]
        show bI (R1 xs nx 56 0 [some (vL (some (5, d))), some (vR 26 (some k)), none] [] s) _ _ = _
        rw [n2]
        rfl
      · have hgt : (1 : Int32) < s.2.1 66 k := by
          rw [en0]
          rw [en0] at k0 k1
          refine (iN_lt (a := 1) (by omega) (by omega)).mpr ?_
          rcases Nat.lt_or_ge 1 n0 with z | z
          · exact z
          · exfalso
            by_cases e : n0 = 0
            · exact k0 (by rw [e]; rfl)
            · exact k1 (by rw [show n0 = 1 by omega]; rfl)
        refine nAsk (v := -1) hJ ?_ (fun z => ?_)
        · simp only [d_148_0, h1 s rfl, bR, ntg_self, nn_some, e0, k0, k1, if_false, d_148_40, if_true]
        · rw [hloop, hend, if_pos hgt]
/-! scans of a parcel -/
theorem bok_at {i : Nat} {c : nC} {m : nM} (hJ : nJ κ i c m) {j b : Nat} (h : (fL c 19 0)[j]? = some b) : fI c 25 b 0 = m 91 j ∧ fX c 25 b 1 < 5 ∧ m 92 j = iN (fX c 25 b 1) ∧ fI c 25 b 2 = m 93 j ∧ fI c 25 b 3 = m 94 j ∧ nIn (m 93 j) 0 600 ∧ nIn (m 94 j) 0 9 := by
  obtain ⟨-, y1, -, y2, y3, y4⟩ := hJ.2.2.2.2.2.2.2.2.2.2.2.2.2.1.1 j b h
  exact ⟨y1, y2.1, y2.2, y3.1, y4.1, y3.2.1, y4.2⟩
theorem bok_10 {i : Nat} {c : nC} {m : nM} (hJ : nJ κ i c m) {k : Nat} (hk : k < fN c 26) : fL c 10 k = (fL c 19 0).filter fun b => decide (fI c 25 b 0 = iN k) := hJ.2.2.2.2.2.2.2.2.2.2.2.2.2.1.2.1 k hk
def wy : List Nat → Option Nat → Nat → Nat → Int32
  | [], _, _, _ => -1
  | d :: L, o, n, p => if some d = o then wy L o n p else if n = p then iN d else wy L (some d) (n + 1) p
theorem way159 {s : nS} {a1 : Int32} {k p : Nat} (hp : p < 2 ^ 31) (hlen : (fL s.1 10 k).length < 1000) : ∀ (n i b : Nat) (o : Option Nat) (l7 : Option nV), i + n = (fL s.1 10 k).length → b + n < 2 ^ 31 →
    R1 xs nx 159 27 [some (vR 0 (some 0)), some (vI a1), some (vI (iN p)), some (vR 26 (some k)), some (vR 21 o), some (vI (iN b)), some (vI (iN i)), l7] [] s = some (.inl (some (vI (wy (((fL s.1 10 k).drop i).map fun e => fX s.1 25 e 1) o b p))), s) := by
  intro n
  induction n with
  | zero =>
    intro i b o l7 e _
    rw [d_159_27, nn_some, if_neg (fun z => by have := (iN_lt (by omega) (by omega)).mp z; omega), List.drop_eq_nil_of_le (by omega)]
    rfl
  | succ n ih =>
    intro i b o l7 e hb
    have hi : i < (fL s.1 10 k).length := by omega
    rw [d_159_27, nn_some, if_pos ((iN_lt (by omega) (by omega)).mpr hi), nn_some, if_neg (iN_pos (by omega)), i32_nat (by omega), List.getElem?_eq_getElem hi, nn_some, List.drop_eq_getElem_cons hi, List.map_cons]
    simp only [wy]
    by_cases h : some (fX s.1 25 (fL s.1 10 k)[i] 1) = o
    · rw [if_pos h, if_pos h, d_159_82, iN_add1]
      exact ih (i + 1) b o _ (by omega) (by omega)
    · rw [if_neg h, if_neg h]
      by_cases h' : b = p
      · rw [if_pos h', if_pos (by rw [h'])]
      · rw [if_neg h', if_neg (fun z => h' ((iN_inj (by omega) (by omega)).mp z)), d_159_82, iN_add1, iN_add1]
        exact ih (i + 1) (b + 1) _ _ (by omega) (by omega)
theorem way253 {i0 k p : Nat} {c : nC} {m : nM} (hJ : nJ κ i0 c m) (hk : k < fN c 26) (hp : p < 2 ^ 31) {s : nS} (s69 : s.2.1 1 69 = m 1 69) (s91 : s.2.1 91 = m 91) (s92 : s.2.1 92 = m 92) : ∀ (n i b : Nat) (o : Option Nat), i + n = (fL c 19 0).length → b + n < 2 ^ 31 → (∀ d, o = some d → d < 5) →
    R1 xs nx 253 34 [some (vR 1 (some 0)), some (vI (iN k)), some (vI (iN p)), some (vI (oI o)), some (vI (iN b)), some (vI (iN i))] [] s = some (.inl (some (vI (wy ((((fL c 19 0).drop i).filter fun b => decide (fI c 25 b 0 = iN k)).map fun e => fX c 25 e 1) o b p))), s) := by
  obtain ⟨h69, h400⟩ := nJ_69 hJ
  intro n
  induction n with
  | zero =>
    intro i b o e _ _
    rw [d_253_34, s69, h69, if_neg (fun z => by have := (iN_lt (by omega) (by omega)).mp z; omega), List.drop_eq_nil_of_le (by omega)]
    rfl
  | succ n ih =>
    intro i b o e hb ho
    have hi : i < (fL c 19 0).length := by omega
    obtain ⟨x1, x2, x3, -⟩ := bok_at hJ (List.getElem?_eq_getElem hi)
    have hin : mIn (iN i) 400 = true := iN_in (by omega) (by decide)
    have en : (iN i).toNatClampNeg = i := i32_nat (by omega)
    rw [d_253_34, s69, h69, if_pos ((iN_lt (by omega) (by omega)).mpr hi), if_pos hin, en, s91, s92, List.drop_eq_getElem_cons hi, List.filter_cons]
    by_cases h : m 91 i = iN k
    · rw [if_pos h, if_pos hin, if_pos (decide_eq_true (by rw [x1]; exact h)), List.map_cons]
      simp only [wy]
      have ho' : (iN (fX c 25 (fL c 19 0)[i] 1) = oI o) ↔ some (fX c 25 (fL c 19 0)[i] 1) = o := by
        cases o with
        | none => exact ⟨fun z => absurd z (iN_ne1 (by omega)), fun z => by cases z⟩
        | some d =>
          have := ho d rfl
          show iN _ = iN d ↔ _
          rw [iN_inj (by omega) (by omega), Option.some.injEq]
      by_cases h2 : some (fX c 25 (fL c 19 0)[i] 1) = o
      · rw [if_pos (by rw [x3]; exact ho'.mpr h2), if_pos h2, d_253_84, iN_add1]
        exact ih (i + 1) b o (by omega) (by omega) ho
      · rw [if_neg (by rw [x3]; exact fun z => h2 (ho'.mp z)), if_neg h2, if_pos hin]
        by_cases h' : b = p
        · rw [if_pos h', if_pos (by rw [h']), x3]
        · rw [if_neg h', if_neg (fun z => h' ((iN_inj (by omega) (by omega)).mp z)), d_253_84, iN_add1, iN_add1, x3]
          exact ih (i + 1) (b + 1) (some (fX c 25 (fL c 19 0)[i] 1)) (by omega) (by omega) (fun d hd => by rw [← Option.some.inj hd]; exact x2)
    · rw [if_neg h, if_neg (fun z => h (by rw [← x1]; exact of_decide_eq_true z)), d_253_84, iN_add1]
      exact ih (i + 1) b o (by omega) (by omega) ho
theorem op38 : ∀ i, i < 512 → ∀ (a1 a2 : Int32), nDoes κ pT pF i [(0, 1)] (fun s => R1 xs nx 159 0 [some (vR 0 (some 0)), some (vI a1), some (vI a2), none, none, none, none, none] [] s) (fun s => R1 xs nx 253 0 [some (vR 1 (some 0)), some (vI a1), some (vI a2), none, none, none] [] s) := by
  intro i hi a1 a2 s hJ
  rcases idx97 (xs := xs) (nx := nx) hJ a1 with ⟨h1, h2⟩ | ⟨k, hk, ea, hin, en, h1, h2⟩
  · exact nFail (E := 0) (e := 1) (v := 0) hJ (by simp only [d_159_0, h1 s rfl, bR, hE]) (fun z => by simp only [d_253_0, h2 (s.1, s.2.1, z) rfl, bI, if_true, d_253_17, d_253_18, r172_1, n10, if_false]) rfl n10
  · subst ea
    by_cases h0 : a2 < 0
    · exact nFail (E := 0) (e := 1) (v := 0) hJ (by simp only [d_159_0, h1 s rfl, bR, ntg_self, h0, if_true, d_159_15, d_157_0, bV, hE]) (fun z => by simp only [d_253_0, h2 (s.1, s.2.1, z) rfl, bI, n10, if_false, h0, if_true, d_253_17, d_253_18, r172_1]) rfl n10
    · have ep : a2 = iN a2.toNatClampNeg := i32_eq h0
      have hp : a2.toNatClampNeg < 2 ^ 31 := by
        have := Int32.toInt_lt a2
        have h9 : a2.toNatClampNeg = a2.toInt.toNat := rfl
        omega
      generalize a2.toNatClampNeg = p at ep hp
      subst ep
      obtain ⟨h69, h400⟩ := nJ_69 hJ
      have h10 := bok_10 hJ hk
      have hl : (fL s.1 10 k).length ≤ 400 := by rw [h10]; exact Nat.le_trans (List.length_filter_le _ _) h400
      refine nAsk (v := wy ((fL s.1 10 k).map fun e => fX s.1 25 e 1) none 0 p) hJ ?_ (fun z => ?_)
      · simp only [d_159_0, h1 s rfl, bR, ntg_self, h0, if_false, d_159_15, d_157_0, n10, bV]
        have := way159 (xs := xs) (nx := nx) (s := s) (a1 := iN k) hp (by omega) (fL s.1 10 k).length 0 0 none none (Nat.zero_add _) (by omega)
        rw [List.drop_zero] at this
        exact this
      · simp only [d_253_0, h2 (s.1, s.2.1, z) rfl, bI, n10, if_false, h0, d_253_18, r172_0, if_true]
        have := way253 (xs := xs) (nx := nx) hJ hk hp (s := (s.1, uM 1 76 0 s.2.1, z)) (show uM 1 76 0 s.2.1 1 69 = _ from uM1_ne (by decide)) (show uM 1 76 0 s.2.1 91 = _ from uM_ne (by decide)) (show uM 1 76 0 s.2.1 92 = _ from uM_ne (by decide)) (fL s.1 19 0).length 0 0 none (Nat.zero_add _) (by omega) (fun d hd => by cases hd)
        rw [List.drop_zero, ← h10] at this
        exact this
end OQB
end KAP
