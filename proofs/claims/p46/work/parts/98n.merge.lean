/-! ===== merge ===== -/
section KAP
variable {κ : kP}
section OQF
variable {xs : Nat → Int32} {nx : Nat}
theorem pig : ∀ (T : List Nat) (n : Nat), T.length < n → ∀ f : Nat → Nat, (∀ i j, i < n → j < n → f i = f j → i = j) → ∃ i, i < n ∧ f i ∉ T
  | [], n, h, f, _ => ⟨0, by simp only [List.length_nil] at h; exact h, by simp⟩
  | t :: T, n, h, f, hf => by
    simp only [List.length_cons] at h
    by_cases e : ∃ i, i < n ∧ f i = t
    · obtain ⟨i0, h0, e0⟩ := e
      have hg : ∀ i j, i < n - 1 → j < n - 1 → (if i < i0 then f i else f (i + 1)) = (if j < i0 then f j else f (j + 1)) → i = j := by
        intro i j hi hj q
        by_cases a : i < i0
        · by_cases b : j < i0
          · rw [if_pos a, if_pos b] at q
            exact hf i j (by omega) (by omega) q
          · rw [if_pos a, if_neg b] at q
            have := hf i (j + 1) (by omega) (by omega) q
            omega
        · by_cases b : j < i0
          · rw [if_neg a, if_pos b] at q
            have := hf (i + 1) j (by omega) (by omega) q
            omega
          · rw [if_neg a, if_neg b] at q
            have := hf (i + 1) (j + 1) (by omega) (by omega) q
            omega
      obtain ⟨i, hi, hn⟩ := pig T (n - 1) (by omega) (fun i => if i < i0 then f i else f (i + 1)) hg
      by_cases a : i < i0
      · refine ⟨i, by omega, ?_⟩
        simp only [if_pos a] at hn
        intro z
        rcases List.mem_cons.mp z with z | z
        · have := hf i i0 (by omega) h0 (by rw [z, e0])
          omega
        · exact hn z
      · refine ⟨i + 1, by omega, ?_⟩
        simp only [if_neg a] at hn
        intro z
        rcases List.mem_cons.mp z with z | z
        · have := hf (i + 1) i0 (by omega) h0 (by rw [z, e0])
          omega
        · exact hn z
    · obtain ⟨i, hi, hn⟩ := pig T n (by omega) f hf
      refine ⟨i, hi, fun z => ?_⟩
      rcases List.mem_cons.mp z with z | z
      · exact e ⟨i, hi, z⟩
      · exact hn z
/-- the least of which something holds -/
theorem least {p : Nat → Prop} [DecidablePred p] : ∀ n, p n → ∃ k, k ≤ n ∧ p k ∧ ∀ j, j < k → ¬ p j := by
  intro n
  induction n with
  | zero => intro h; exact ⟨0, Nat.le_refl _, h, fun j hj => absurd hj (Nat.not_lt_zero j)⟩
  | succ n ih =>
    intro h
    by_cases e : ∃ k, k ≤ n ∧ p k
    · obtain ⟨k, k1, k2⟩ := e
      have : ∀ m, m ≤ n → p m → ∃ k, k ≤ n + 1 ∧ p k ∧ ∀ j, j < k → ¬ p j := by
        intro m
        induction m using Nat.strongRecOn with
        | ind m ihm =>
          intro hm hp
          by_cases q : ∃ j, j < m ∧ p j
          · obtain ⟨j, j1, j2⟩ := q
            exact ihm j j1 (by omega) j2
          · exact ⟨m, by omega, hp, fun j hj z => q ⟨j, hj, z⟩⟩
      exact this k k1 k2
    · exact ⟨n + 1, Nat.le_refl _, h, fun j hj z => e ⟨j, by omega, z⟩⟩
/-- whether a customer has a reference -/
def hasB (m : nM) (P v x : Nat) : Bool := (nFst (fun k => decide (m 49 k = iN v ∧ m 50 k = iN x)) P 0).isSome
theorem has93 {i v x : Nat} {c : nC} {m : nM} (hJ : nJ κ i c m) (hv : v < 4) (z : nM × Nat × (Nat → Int64)) : R1 xs nx 93 0 [some (vR 0 (some 0)), some (vR 22 (some v)), some (vI (iN x)), none, none] [] (c, z) = some (.inl (some (vI (if hasB m (fN c 26) v x = true then 1 else 0))), (c, z)) := by
  obtain ⟨q1, q2, q3⟩ := hJ.1.2.2.1
  have := ref93 (xs := xs) (nx := nx) (s := (c, z)) (u := v) (a2 := iN x) q3 q1 (fN c 26) 0 none (Nat.zero_add _)
  rw [hasR hJ hv (iN x)] at this
  have h5 : R1 xs nx 93 0 [some (vR 0 (some 0)), some (vR 22 (some v)), some (vI (iN x)), none, none] [] (c, z) = some (.inl (some (vI (oB (nFst (fun k => decide (m 49 k = iN v ∧ m 50 k = iN x)) (fN c 26) 0)))), (c, z)) := by
    rw [d_93_0]
    exact this
  rw [h5]
  unfold hasB
  cases nFst (fun k => decide (m 49 k = iN v ∧ m 50 k = iN x)) (fN c 26) 0 <;> rfl
theorem has189 {i v x : Nat} {c : nC} {m : nM} (hJ : nJ κ i c m) (c9 : nC) (z : Nat × (Nat → Int64)) : R1 xs nx 189 0 [some (vR 1 (some 0)), some (vI (iN v)), some (vI (iN x)), none, none] [] (c9, m, z) = some (.inl (some (vI (if hasB m (fN c 26) v x = true then 1 else 0))), (c9, m, z)) := by
  obtain ⟨q1, q2, q3⟩ := hJ.1.2.2.1
  have := ref189 (xs := xs) (nx := nx) (s := (c9, m, z)) (a1 := iN v) (a2 := iN x) (P := fN c 26) q2 q1 (fN c 26) 0 (Nat.zero_add _)
  have h5 : R1 xs nx 189 0 [some (vR 1 (some 0)), some (vI (iN v)), some (vI (iN x)), none, none] [] (c9, m, z) = some (.inl (some (vI (oB (nFst (fun k => decide (m 49 k = iN v ∧ m 50 k = iN x)) (fN c 26) 0)))), (c9, m, z)) := by
    rw [d_189_0]
    exact this
  rw [h5]
  unfold hasB
  cases nFst (fun k => decide (m 49 k = iN v ∧ m 50 k = iN x)) (fN c 26) 0 <;> rfl
/-- a reference is free -/
theorem free_ex {i v w : Nat} {c : nC} {m : nM} (hJ : nJ κ i c m) : ∃ K, K < 1000 ∧ hasB m (fN c 26) v ((w + K) % 1000) = false ∧ ∀ j, j < K → hasB m (fN c 26) v ((w + j) % 1000) = true := by
  obtain ⟨q1, q2, q3⟩ := hJ.1.2.2.1
  obtain ⟨K, hK, hn⟩ := pig ((List.range (fN c 26)).map fun k => (m 50 k).toNatClampNeg) 41 (by rw [List.length_map, List.length_range]; omega) (fun k => (w + k) % 1000) (fun a b ha hb q => by
    have q : (w + a) % 1000 = (w + b) % 1000 := q
    omega)
  have hf : hasB m (fN c 26) v ((w + K) % 1000) = false := by
    unfold hasB
    rw [(nFst_none _ _).mpr]
    · rfl
    · intro k _ hk
      apply decide_eq_false
      rintro ⟨-, z⟩
      apply hn
      rw [List.mem_map]
      refine ⟨k, List.mem_range.mpr (by omega), ?_⟩
      rw [z]
      exact i32_nat (by omega)
  obtain ⟨k, k1, k2, k3⟩ := least (p := fun k => hasB m (fN c 26) v ((w + k) % 1000) = false) K hf
  exact ⟨k, by omega, k2, fun j hj => by
    have := k3 j hj
    cases h : hasB m (fN c 26) v ((w + j) % 1000)
    · exact absurd h this
    · rfl⟩
theorem iN_mod {a b : Nat} (ha : a < 2 ^ 31) (hb : b < 2 ^ 31) : iN a - iN a / iN b * iN b = iN (a % b) := by
  rw [iN_div ha hb, iN_mul]
  have h1 := Nat.div_mul_le_self a b
  rw [show iN a - iN (a / b * b) = iN (a - a / b * b) from i32_sub h1 ha]
  congr 1
  have := Nat.div_add_mod a b
  rw [Nat.mul_comm] at this
  omega
theorem free141 {i v w K : Nat} {c : nC} {m : nM} (hJ : nJ κ i c m) (hv : v < 4) (hw : w < 1000) (hK : K < 1000) (h1 : hasB m (fN c 26) v ((w + K) % 1000) = false) (h2 : ∀ j, j < K → hasB m (fN c 26) v ((w + j) % 1000) = true) (z : nM × Nat × (Nat → Int64)) : ∀ (n k : Nat) (l4 : Option nV), k + n = K →
    R1 xs nx 141 2 [some (vR 0 (some 0)), some (vR 22 (some v)), some (vI (iN w)), some (vI (iN k)), l4] [] (c, z) = some (.inl (some (vI (iN ((w + K) % 1000)))), (c, z)) := by
  intro n
  induction n with
  | zero =>
    intro k l4 e
    have : k = K := by omega
    subst this
    rw [d_141_2, if_pos (show iN k < (1000 : Int32) from (iN_lt (b := 1000) (by omega) (by omega)).mpr hK), show iN w + iN k = iN (w + k) from i32_add, show (1000 : Int32) = iN 1000 from rfl, iN_mod (by omega) (by omega), has93 hJ hv, h1, bI_some, if_pos (by decide)]
  | succ n ih =>
    intro k l4 e
    rw [d_141_2, if_pos (show iN k < (1000 : Int32) from (iN_lt (b := 1000) (by omega) (by omega)).mpr (by omega)), show iN w + iN k = iN (w + k) from i32_add, show (1000 : Int32) = iN 1000 from rfl, iN_mod (by omega) (by omega), has93 hJ hv, h2 k (by omega), bI_some, if_neg (by decide), iN_add1]
    exact ih (k + 1) _ (by omega)
theorem free238 {i v w K k0 : Nat} {c : nC} {m : nM} (hJ : nJ κ i c m) (hw : w < 1000) (hK : K < 1000) (h1 : hasB m (fN c 26) v ((w + K) % 1000) = false) (h2 : ∀ j, j < K → hasB m (fN c 26) v ((w + j) % 1000) = true) (hk0 : k0 < 40) {a1 a3 acc : Int32} (c9 : nC) (z : Nat × (Nat → Int64)) : ∀ (n k : Nat), k + n = K →
    R1 xs nx 238 82 [some (vR 1 (some 0)), some (vI a1), some (vI (iN v)), some (vI a3), some (vI acc), some (vI (iN k0)), some (vI (iN ((w + k) % 1000)))] [] (c9, m, z) = R1 xs nx 238 124 [some (vR 1 (some 0)), some (vI a1), some (vI (iN v)), some (vI a3), some (vI acc), some (vI (iN k0)), some (vI (iN ((w + K) % 1000)))] [(vI (if iN ((w + K) % 1000) = m 50 k0 then 0 else 1)), (vI acc)] (c9, m, z) := by
  intro n
  induction n with
  | zero =>
    intro k e
    have : k = K := by omega
    subst this
    rw [d_238_82, has189 hJ, h1, bI_some, if_pos (by decide), if_pos (iN_in40 hk0), i32_nat (by omega)]
    by_cases q : iN ((w + k) % 1000) = m 50 k0
    · rw [if_pos q, if_pos q]
    · rw [if_neg q, if_neg q]
  | succ n ih =>
    intro k e
    rw [d_238_82, has189 hJ, h2 k (by omega), bI_some, if_neg (by decide), iN_add1, show (1000 : Int32) = iN 1000 from rfl, iN_mod (by omega) (by omega), show ((w + k) % 1000 + 1) % 1000 = (w + (k + 1)) % 1000 by omega]
    exact ih (k + 1) (by omega)
theorem mergeL {I u v : Nat} {a1 a2 a3 : Int32} (hu : u < 4) (hv : v < 4) (hne : u ≠ v) : ∀ (n i : Nat) (acc : Int32) (l7 l8 : Option nV) (c : nC) (m : nM), i + n = fN c 26 → nJ κ I c m →
    ∃ (c' : nC) (m' : nM) (acc' : Int32), nJ κ I c' m' ∧ m' 1 76 = m 1 76 ∧ ((∃ g, g ≤ n ∧ acc' = acc + iN g) ∧ (∀ k, i ≤ k → k < fN c 26 → m' 49 k ≠ iN u) ∧ (∀ k, k < i → m' 49 k = m 49 k) ∧ m' 90 u = 0 ∧ m' 90 v = m 90 v + m 90 u ∧ m' 1 0 = m 1 0) ∧
      (∀ z, R1 xs nx 142 33 [some (vR 0 (some 0)), some (vI a1), some (vI a2), some (vR 22 (some u)), some (vR 22 (some v)), some (vI acc), some (vI (iN i)), l7, l8] [] (c, z) = some (.inl (some (vI acc')), (c', z))) ∧
      ∀ c9 z l6, R1 xs nx 238 53 [some (vR 1 (some 0)), some (vI (iN u)), some (vI (iN v)), some (vI a3), some (vI acc), some (vI (iN i)), l6] [] (c9, m, z) = some (.inl (some (vI acc')), (c9, m', z)) := by
  intro n
  induction n with
  | zero =>
    intro i acc l7 l8 c m e hJ
    obtain ⟨q1, q2, q3⟩ := hJ.1.2.2.1
    have hA := hJ.2.2.2.2.2.2.2.2.2.2.2.2.2.2.1
    have hlt : ¬ iN i < iN (fN c 26) := fun z => by have := (iN_lt (by omega) (by omega)).mp z; omega
    have hu4 : mIn (iN u) 4 = true := iN_in hu (by decide)
    have hv4 : mIn (iN v) 4 = true := iN_in hv (by decide)
    refine ⟨uI 22 u 1 0 (uI 22 v 1 (m 90 v + m 90 u) c), uM 90 u 0 (uM 90 v (m 90 v + m 90 u) m), acc, nJ_acct (nJ_acct hJ), ?_, ⟨⟨0, Nat.le_refl _, (Int32.add_zero acc).symm⟩, fun k k1 k2 => by omega, fun k _ => by rw [uM_ne (by decide), uM_ne (by decide)], uM_kk, by rw [uM_k (fun z => hne z.symm), uM_kk], by simp (disch := decide) only [uM_ne, uM1_ne]⟩, fun z => ?_, fun c9 z l6 => ?_⟩
    · rw [uM_ne (by decide), uM_ne (by decide)]
    · rw [d_142_33]
      dsimp only
      rw [q3, List.length_range, if_neg hlt, nn_some, nn_some, nn_some, hA u hu, hA v hv]
    · rw [d_238_53]
      simp only [q2]
      rw [if_neg hlt, if_pos hv4, if_pos hu4, if_pos hv4, if_pos hu4, i32_nat (show u < 2 ^ 31 by omega), i32_nat (show v < 2 ^ 31 by omega)]
  | succ n ih =>
    intro i acc l7 l8 c m e hJ
    obtain ⟨q1, q2, q3⟩ := hJ.1.2.2.1
    have hk : i < fN c 26 := by omega
    have hin : mIn (iN i) 40 = true := iN_in40 (by omega)
    have en : (iN i).toNatClampNeg = i := i32_nat (by omega)
    have hlt : iN i < iN (fN c 26) := (iN_lt (by omega) (by omega)).mpr hk
    have hP := hJ.2.2.2.2.2.1 i hk
    have hM := hJ.2.2.2.2.2.2.2.2.2.2.1 i hk
    obtain ⟨⟨w, w1, w2, w3⟩, ⟨r1, r, -, r2, r3⟩, y3, y4, y5, y6, y7, y8, y9, y10, y11, y12, y13, y14, y15, y16, y17, y18⟩ := hP
    by_cases h : w = u
    · subst h
      obtain ⟨K, k1, k2, k3⟩ := free_ex (v := v) (w := r) hJ
      have hx : (r + K) % 1000 ≤ 999 := by omega
      have hno : ∀ j, j < fN c 26 → m 49 j = iN v → m 50 j ≠ iN ((r + K) % 1000) := by
        intro j hj z1 z2
        unfold hasB at k2
        rw [Option.isSome_eq_false_iff, Option.isNone_iff_eq_none] at k2
        have := (nFst_none _ _).mp k2 j (Nat.zero_le j) (by omega)
        simp [z1, z2] at this
      have hT : nJ κ I (uP 26 i 8 (some v) (uI 26 i 9 (iN ((r + K) % 1000)) c)) (uM 49 i (iN v) (uM 50 i (iN ((r + K) % 1000)) m)) := by
        refine nJ_par (k := i) hJ (fun t t1 t2 => by rw [fI_uP, fI_ne t1]) (fun t t1 => rfl) (fun t t1 => by rw [fP_ne t1]; rfl) rfl (fun t x j h => by rw [fI_uP, fI_n h]) (fun t x j h => rfl) (fun t x j h => by rw [fP_n h]; rfl) (fun t h => by rw [uM_ne (by omega), uM_ne (by omega)]) (fun t x h => by rw [uM_k h, uM_k h]) hk ?_ ?_ ?_ ?_ (Or.inr ?_)
        · unfold nPar
          simp (disch := decide) only [fI_k, fX_k, fP_k, fI_uP, fI_uX, fX_uP, fX_uI, fP_uX, fP_uI, fI_ne, uM_ne, uM1_ne, uM_kk]
          exact ⟨⟨v, hv, by trivial, by trivial⟩, ⟨by trivial, _, Nat.zero_le _, hx, rfl⟩, y3, y4, y5, y6, y7, y8, y9, y10, y11, y12, y13, y14, y15, y16, y17, y18⟩
        · simp (disch := decide) only [fI_ne, fI_uP, fI_uX, uM_ne]
          exact hM
        · exact Or.inl ⟨by simp (disch := decide) only [uM_ne], by simp (disch := decide) only [uM_ne]⟩
        · exact Or.inl ⟨by simp (disch := decide) only [uM_ne], by simp (disch := decide) only [uM_ne], by simp (disch := decide) only [uM_ne], by simp (disch := decide) only [uM_ne]⟩
        · have hU : gUni (fN c 26) (m 49) (m 50) := hJ.2.2.2.2.2.2.2.2.2.2.2.2.2.2.2.2.2.1
          intro j x hjx hx
          by_cases ex : x = i
          · subst ex
            have hj : j ≠ x := by omega
            rw [uM_kk, uM_k hj, uM_ne (by decide), uM_ne (show (50 : Nat) ≠ 49 by decide), uM_kk, uM_k hj]
            exact hno j (by omega)
          · by_cases ej : j = i
            · subst ej
              rw [uM_kk, uM_k ex, uM_ne (by decide), uM_ne (show (50 : Nat) ≠ 49 by decide), uM_kk, uM_k ex]
              exact fun z1 z2 => hno x hx z1.symm z2.symm
            · rw [uM_k ej, uM_k ex, uM_ne (by decide), uM_ne (show (50 : Nat) ≠ 49 by decide), uM_k ej, uM_k ex]
              exact hU j x hjx hx
      have hx2 : (if iN ((r + K) % 1000) = iN r then (0 : Int32) else 1) = (if iN ((r + K) % 1000) = m 50 i then 0 else 1) := by rw [r3]
      obtain ⟨c', m', acc', t1, t2, ⟨⟨g, g1, g2⟩, g3, g4, g5, g6, g8⟩, t3, t4⟩ := ih (i + 1) (acc + (if iN ((r + K) % 1000) = m 50 i then 0 else 1)) (some (vR 26 (some i))) (some (vI (iN ((r + K) % 1000)))) (uP 26 i 8 (some v) (uI 26 i 9 (iN ((r + K) % 1000)) c)) _ (by show i + 1 + n = fN c 26; omega) hT
      have w4 : m' 49 i = iN v := by rw [g4 i (Nat.lt_succ_self i), uM_kk]
      have g7 : ∃ g, g ≤ n + 1 ∧ acc' = acc + iN g := by
        rw [g2]
        by_cases q : iN ((r + K) % 1000) = m 50 i
        · rw [if_pos q]
          exact ⟨g, by omega, by rw [Int32.add_zero]⟩
        · rw [if_neg q, Int32.add_assoc, show (1 : Int32) + iN g = iN (1 + g) from i32_add]
          exact ⟨1 + g, by omega, rfl⟩
      refine ⟨c', m', acc', t1, ?_, ⟨g7, fun k k1 k2 => ?_, fun k k1 => ?_, g5, ?_, by rw [g8]; simp (disch := decide) only [uM_ne]⟩, fun z => ?_, fun c9 z l6 => ?_⟩
      rotate_left
      · by_cases q : k = i
        · rw [q, w4]
          exact fun z => hne ((iN_inj (by omega) (by omega)).mp z).symm
        · exact g3 k (by omega) k2
      · rw [g4 k (by omega), uM_k (by omega), uM_ne (by decide)]
      · rw [g6, uM_ne (by decide), uM_ne (by decide)]
      rotate_right
      · rw [t2, uM_ne (by decide), uM_ne (by decide)]
      · rw [d_142_33]
        dsimp only
        rw [q3, List.length_range, if_pos hlt, if_neg (iN_pos (by omega)), en, List.getElem?_range hk, nn_some, w2, if_pos rfl, r1, r3, d_141_0, show (0 : Int32) = iN 0 from rfl, free141 hJ hv (by omega) k1 k2 k3 z K 0 none (Nat.zero_add _), bI_some]
        dsimp only
        rw [r1, r3]
        by_cases q : iN ((r + K) % 1000) = iN r
        · rw [if_pos q, d_142_98, d_142_115, iN_add1]
          rw [r3, if_pos q] at t3
          exact t3 z
        · rw [if_neg q, d_142_98, d_142_115, iN_add1]
          rw [r3, if_neg q] at t3
          exact t3 z
      · rw [d_238_53]
        simp only [q2]
        rw [if_pos hlt, if_pos hin, en, w3, if_pos rfl, if_pos hin, r3]
        have hs := free238 (xs := xs) (nx := nx) (v := v) (w := r) (k0 := i) hJ (by omega) k1 k2 k3 (by omega) (a1 := iN w) (a3 := a3) (acc := acc) c9 z K 0 (Nat.zero_add _)
        rw [Nat.add_zero, Nat.mod_eq_of_lt (by omega : r < 1000)] at hs
        rw [hs, d_238_124, if_pos hin, if_pos hin, d_238_144, iN_add1, en]
        exact t4 c9 z _
    · obtain ⟨c', m', acc', t1, t2, ⟨⟨g, g1, g2⟩, g3, g4, g5, g6, g8⟩, t3, t4⟩ := ih (i + 1) acc (some (vR 26 (some i))) l8 c m (by omega) hJ
      refine ⟨c', m', acc', t1, t2, ⟨⟨g, by omega, g2⟩, fun k k1 k2 => ?_, fun k k1 => g4 k (by omega), g5, g6, g8⟩, fun z => ?_, fun c9 z l6 => ?_⟩
      · by_cases q : k = i
        · rw [q, g4 i (Nat.lt_succ_self i), w3]
          exact fun z => h ((iN_inj (by omega) (by omega)).mp z)
        · exact g3 k (by omega) k2
      · rw [d_142_33]
        dsimp only
        rw [q3, List.length_range, if_pos hlt, if_neg (iN_pos (by omega)), en, List.getElem?_range hk, nn_some, w2, if_neg (fun z => h (Option.some.inj z)), d_142_115, iN_add1]
        exact t3 z
      · rw [d_238_53]
        simp only [q2]
        rw [if_pos hlt, if_pos hin, en, w3, if_neg (fun z => h ((iN_inj (by omega) (by omega)).mp z)), d_238_144, iN_add1]
        exact t4 c9 z l6
/-- merge -/
abbrev zP23 (κ : kP) (a1 a2 : Int32) (c : nC) (m : nM) (κ' : kP) (c' : nC) (m' : nM) (v : Int32) : Prop := (∃ x y, x < 4 ∧ y < 4 ∧ a1 = iN x ∧ a2 = iN y ∧ x ≠ y ∧ m' 90 x = 0 ∧ m' 90 y = m 90 y + m 90 x ∧ (∀ k, k < fN c 26 → m' 49 k ≠ a1) ∧ nIn v 0 40) ∧ κ' = κ ∧ m' 1 0 = m 1 0
abbrev zF23 (a1 a2 : Int32) (c : nC) (m : nM) (E : Nat) : Prop := f3 (¬ (∃ d, d < 4 ∧ a1 = iN d) ∨ ¬ (∃ d, d < 4 ∧ a2 = iN d)) (a1 = a2) False E
theorem op23 : ∀ i, i < 512 → ∀ (a1 a2 : Int32), nDoes κ (zP23 κ a1 a2) (zF23 a1 a2) i [(0, 1), (1, 2)] (fun s => R1 xs nx 142 0 [some (vR 0 (some 0)), some (vI a1), some (vI a2), none, none, none, none, none, none] [] s) (fun s => R1 xs nx 238 0 [some (vR 1 (some 0)), some (vI a1), some (vI a2), none, none, none, none] [] s) := by
  intro i hi a1 a2 s hJ
  rcases idx92 (xs := xs) (nx := nx) a1 with ⟨h1, h2⟩ | ⟨u, hu, rfl, -, -, h1, h2⟩
  · exact nFail (hF := Or.inl (nd92 (h1 s))) (E := 0) (e := 1) (v := 0) hJ (by simp only [d_142_0, h1, bR, hE]) (fun z => by simp only [d_238_0, h2, bI, if_true, d_238_18, d_238_19, d_238_39, r172_1, n10, if_false]) rfl n10
  · rcases idx92 (xs := xs) (nx := nx) a2 with ⟨g1, g2⟩ | ⟨v, hv, rfl, -, -, g1, g2⟩
    · exact nFail (hF := Or.inr (nd92 (g1 s))) (E := 0) (e := 1) (v := 0) hJ (by simp only [d_142_0, h1, g1, bR, ntg_self, hE]) (fun z => by simp only [d_238_0, h2, g2, bI, n10, if_false, if_true, d_238_18, d_238_19, d_238_39, r172_1]) rfl n10
    · by_cases e : u = v
      · subst e
        exact nFail (hF := rfl) (E := 1) (e := 2) (v := 0) hJ (by simp only [d_142_0, h1, bR, ntg_self, if_true, d_142_24, c80_0, bV, hE]) (fun z => by simp only [d_238_0, h2, bI, n10, if_false, d_238_19, if_true, d_238_39, r172_2]) rfl n20
      · obtain ⟨c', m', acc', t1, t2, ⟨⟨g, w1, w2⟩, w3, -, w5, w6, w7⟩, t3, t4⟩ := mergeL (xs := xs) (nx := nx) (a1 := iN u) (a2 := iN v) (a3 := 1) hu hv e (fN s.1 26) 0 0 none none s.1 _ (Nat.zero_add _) (nJ_76 (x := 0) hJ)
        have hvn : nIn acc' 0 40 := by
          have := hJ.1.2.2.1.1
          rw [w2, show (0 : Int32) = iN 0 from rfl, show iN 0 + iN g = iN (0 + g) from i32_add]
          exact ⟨0 + g, Nat.zero_le _, by omega, rfl⟩
        rw [uM_ne (by decide)] at w6
        refine nDone (hP := ⟨⟨u, v, hu, hv, rfl, rfl, e, w5, w6, fun k hk => w3 k (Nat.zero_le _) hk, hvn⟩, rfl, by rw [w7, uM1_ne (by decide)]⟩) (v := acc') t1 ?_ (fun z => ?_) ?_
        · have e1 : ¬ (some u : Option Nat) = some v := fun z => e (Option.some.inj z)
          simp only [d_142_0, h1, g1, bR, ntg_self, e1, if_false, d_142_24, c80_1, bV]
          exact t3 s.2
        · have e2 : ¬ iN u = iN v := fun z => e ((iN_inj (by omega) (by omega)).mp z)
          simp only [d_238_0, h2, g2, bI, n10, if_false, d_238_19, e2, d_238_39, r172_0, if_true]
          exact t4 c' z none
        · rw [t2, uM_self]
end OQF
end KAP
