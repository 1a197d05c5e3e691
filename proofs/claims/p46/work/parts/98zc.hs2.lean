/-! ===== an hour: a van comes back ===== -/
section KAP
variable {κ : kP}
section ORC
variable {xs : Nat → Int32} {nx : Nat}
theorem uL_id {t k : Nat} {x : List Nat} {c : nC} (h : fL c t k = x) : uL t k x c = c := by
  have : up2 c.2.2.2.2.1 t k x = c.2.2.2.2.1 := by
    funext a b
    unfold up2
    split
    · rename_i e
      rw [e.1, e.2]
      exact h.symm
    · rfl
  show (c.1, c.2.1, c.2.2.1, c.2.2.2.1, up2 c.2.2.2.2.1 t k x, c.2.2.2.2.2) = c
  rw [this]
/-- the reference: the cash of a van comes to its depot -/
theorem cash220 {v D N : Nat} (hv : v < 6) (hD : D < 5) (h40 : N ≤ 40) : ∀ (n k i : Nat) (c : nC) (m : nM), k + n = N → N = fN c 26 → nJ κ i c m → i / 100000 = 2 + v → (∀ j, j < N → m 78 j = iN (1 + v) → ∀ w, w < fN c 27 → w ≠ v → j ∉ fL c 11 w) →
    ∃ m', (∀ t, t ≠ 78 → m' t = m t) ∧ (∀ j, j < N → m' 78 j = if k ≤ j ∧ m 78 j = iN (1 + v) then iN (10 + D) else m 78 j) ∧ nJ κ i c m' ∧
      ∀ c9 z, R1 xs nx 220 9 [some (vR 1 (some 0)), some (vI (iN v)), some (vI (iN D)), some (vI (iN k))] [] (c9, m, z) = R1 xs nx 220 59 [some (vR 1 (some 0)), some (vI (iN v)), some (vI (iN D)), some (vI (iN (30 * v)))] [] (c9, m', z) := by
  intro n
  induction n with
  | zero =>
    intro k i c m e hN hJ hp hr
    have h26 := hJ.1.2.2.1
    have hn : ¬ iN k < iN N := by rw [iN_lt (by omega) (by omega)]; omega
    refine ⟨m, fun _ _ => rfl, fun j hj => by rw [if_neg (fun z => by omega)], hJ, fun c9 z => ?_⟩
    rw [d_220_9]
    simp only [h26.2.1, ← hN, hn, if_false]
    rw [show (30 : Int32) * iN v = iN (30 * v) from iN_mul (a := 30)]
  | succ n ih =>
    intro k i c m e hN hJ hp hr
    have h26 := hJ.1.2.2.1
    have hk : k < N := by omega
    have hlt : iN k < iN N := (iN_lt (by omega) (by omega)).mpr hk
    have hin : mIn (iN k) 40 = true := iN_in40 (by omega)
    have en : (iN k).toNatClampNeg = k := i32_nat (by omega)
    have ev : (1 : Int32) + iN v = iN (1 + v) := i32_add (a := 1)
    have eD : (10 : Int32) + iN D = iN (10 + D) := i32_add (a := 10)
    have ne : iN (10 + D) ≠ iN (1 + v) := by rw [ne_eq, iN_inj (by omega) (by omega)]; omega
    obtain ⟨X, hX, hX2⟩ : ∃ X : Int32, X = (if m 78 k = iN (1 + v) then iN (10 + D) else m 78 k) ∧ ∀ c9 z, R1 xs nx 220 9 [some (vR 1 (some 0)), some (vI (iN v)), some (vI (iN D)), some (vI (iN k))] [] (c9, m, z) = R1 xs nx 220 9 [some (vR 1 (some 0)), some (vI (iN v)), some (vI (iN D)), some (vI (iN (k + 1)))] [] (c9, uM 78 k X m, z) := by
      refine ⟨_, rfl, fun c9 z => ?_⟩
      rw [d_220_9]
      simp only [h26.2.1, ← hN, hlt, hin, en, if_true, ev, eD]
      by_cases q : m 78 k = iN (1 + v)
      · rw [if_pos q, if_pos q, d_220_47, if_pos hin, en, iN_add1]
      · rw [if_neg q, if_neg q, d_220_47, if_pos hin, en, iN_add1]
    have hJ1 : nJ κ i c (uM 78 k X m) := by
      by_cases q : m 78 k = iN (1 + v)
      · rw [if_pos q] at hX
        have hM := hJ.2.2.2.2.2.2.2.2.2.2.1 k (by omega)
        have nz : iN (1 + v) ≠ 0 := fun z => by
          have := (iN_inj (b := 0) (by omega) (by omega)).mp z
          omega
        refine nJ_78 hJ hp (by omega) (Or.inr (Or.inr ⟨10 + D, by omega, by omega, hX⟩)) (fun z => nz (q ▸ (hM.2.2.2.2.2.1 z).1)) (fun z => absurd (q ▸ hM.2.2.2.2.2.2.1 z) nz) (fun w hw hne => ⟨hr k hk q w hw hne, ?_⟩)
        have h6 := hJ.1.2.2.2.1.1
        rw [hX, ne_eq, iN_inj (by omega) (by omega)]
        omega
      · rw [if_neg q] at hX
        rw [hX, uM_id rfl]
        exact hJ
    obtain ⟨m', t1, t2, t3, t4⟩ := ih (k + 1) i c (uM 78 k X m) (by omega) hN hJ1 hp (fun j hj z => by
      by_cases y : j = k
      · subst y
        rw [uM_kk, hX] at z
        by_cases q : m 78 j = iN (1 + v)
        · rw [if_pos q] at z; exact absurd z ne
        · rw [if_neg q] at z; exact absurd z q
      · rw [uM_k y] at z
        exact hr j hj z)
    refine ⟨m', fun t ht => by rw [t1 t ht, uM_ne ht], fun j hj => ?_, t3, fun c9 z => by rw [hX2]; exact t4 c9 z⟩
    rw [t2 j hj]
    by_cases y : j = k
    · subst y
      rw [if_neg (fun z => by omega), uM_kk, hX]
      by_cases q : m 78 j = iN (1 + v)
      · rw [if_pos q, if_pos ⟨Nat.le_refl _, q⟩]
      · rw [if_neg q, if_neg (fun z => q z.2)]
    · rw [uM_k y]
      by_cases q : k + 1 ≤ j ∧ m 78 j = iN (1 + v)
      · rw [if_pos q, if_pos ⟨by omega, q.2⟩]
      · rw [if_neg q, if_neg (fun z => q ⟨by omega, z.2⟩)]
/-- the failed ones are settled one by one -/
theorem backL {v D J : Nat} {R : List Nat} (hD : D < 5) (hJ30 : J ≤ 30) (hR30 : R.length ≤ 30) (hnd : R.Nodup) : ∀ (n j i : Nat) (c : nC) (m : nM) (l3 : Option nV), j + n = R.length → nJ κ i c m → i / 100000 = 2 + v → i % 100000 + n < 90000 → v < fN c 27 → fX c 27 v 1 = D → fL c 11 v = R → m 83 v = iN R.length → m 84 v = iN J →
    (∀ x k, j ≤ x → R[x]? = some k → k < fN c 26 ∧ m 85 (30 * v + x) = iN k ∧ ((m 66 k = 4 ∧ m 67 k = iN v ∧ m 78 k = 0 ∧ m 87 (30 * v + x) = 1) ∨ (m 66 k = 7 ∧ m 87 (30 * v + x) = 0 ∧ (m 78 k = if m 63 k = 1 ∨ m 56 k = 0 then 0 else iN (10 + D))))) →
    (∀ k, k < fN c 26 → m 66 k = 4 → m 67 k = iN v → k ∈ R.drop j) → (∀ k, k < fN c 26 → m 78 k ≠ iN (1 + v)) →
    (∀ k, k < fN c 26 → m 56 k ≠ 0 → (match fP c 8 k 5 with
      | none => m 78 k = 0 ∨ nIn (m 78 k) 1 6
      | some d => m 78 k = iN (10 + d)) ∨ (k ∈ R.drop j ∧ m 66 k = 7 ∧ m 78 k = iN (10 + D))) →
    ∃ (c' : nC) (m' : nM) (n' : Nat), n' ≤ n ∧ nJ κ (i + n') c' m' ∧ nRd [] v J c' m' ∧ gCs c' m' ∧ fr c m c' m' ∧
      (∀ z, R1 xs nx 121 17 [some (vR 0 (some 0)), some (vR 27 (some v)), some (vI (iN j)), l3] [] (c, z) = some (.inl none, (c', z))) ∧
      ∀ c9 z, R1 xs nx 220 59 [some (vR 1 (some 0)), some (vI (iN v)), some (vI (iN D)), some (vI (iN (30 * v + j)))] [] (c9, m, z) = some (.inl none, (c9, m', z)) := by
  intro n
  induction n with
  | zero =>
    intro j i c m l3 e hJ hp hi hv hX hL h83 h84 hEn h4 h78 hC
    have h27 := hJ.1.2.2.2.1.1
    have vin : mIn (iN v) 6 = true := iN_in (by omega) (by omega)
    have ven : (iN v).toNatClampNeg = v := i32_nat (by omega)
    have hdrop : R.drop j = [] := List.drop_eq_nil_of_le (by omega)
    have e83 : (30 : Int32) * iN v + iN R.length = iN (30 * v + R.length) := by rw [show (30 : Int32) * iN v = iN (30 * v) from iN_mul (a := 30)]; exact i32_add
    have hn1 : ¬ iN j < iN R.length := by rw [iN_lt (by omega) (by omega)]; omega
    have hn2 : ¬ iN (30 * v + j) < iN (30 * v + R.length) := by rw [iN_lt (by omega) (by omega)]; omega
    have hJ' : nJ κ i (uL 11 v [] c) (uM 83 v 0 m) := nJ_van hJ hp hv (fun _ _ => rfl) (fun _ _ _ => rfl) rfl rfl rfl rfl (fun t ht => fL_ne ht) (fun v' hv' => by rw [fL_at, if_neg hv']) (fun k hk => by rw [fL_at, if_pos rfl] at hk; cases hk) (fun t ht => uM_ne (by omega)) (fun t w hw hne => by rw [uM_k hne]) (fun t y hy _ => by rw [uM_ne (by omega)]) (by rw [uM_ne (by decide)]; exact (hJ.2.2.2.2.2.2.2.2.2.2.2.1.2.2 v (by omega)).1)
    have hlast : R1 xs nx 121 17 [some (vR 0 (some 0)), some (vR 27 (some v)), some (vI (iN j)), l3] [] = fun s => R1 xs nx 121 17 [some (vR 0 (some 0)), some (vR 27 (some v)), some (vI (iN j)), l3] [] s := rfl
    refine ⟨uL 11 v [] c, uM 83 v 0 m, 0, Nat.le_refl _, hJ', ⟨by rw [fL_at, if_pos rfl], by decide, List.nodup_nil, by rw [uM_kk]; rfl, by rw [uM_ne (by decide)]; exact h84, hJ30, fun z => absurd rfl z, fun k hk z1 z2 => ?_, fun k hk z => ?_, fun x k hxk => by simp at hxk⟩, fun k hk hz => ?_, fr_trans fr_uL (fr_uM (t := 83) (by decide)), fun z => ?_, fun c9 z => ?_⟩
    · rw [uM_ne (by decide)] at z1 z2
      have := h4 k hk z1 z2
      rw [hdrop] at this
      exact this
    · rw [uM_ne (by decide)] at z
      exact absurd z (h78 k hk)
    · rw [uM_ne (by decide)] at hz
      rw [uM_ne (by decide)]
      rcases hC k hk hz with y | y
      · exact y
      · rw [hdrop] at y; cases y.1
    · rw [d_121_17]
      dsimp only
      rw [hL, if_neg hn1]
    · rw [d_220_59, if_pos vin, ven]
      simp only [h83, e83]
      rw [if_neg hn2, if_pos vin]
  | succ n ih =>
    intro j i c m l3 e hJ hp hi hv hX hL h83 h84 hEn h4 h78 hC
    have h27 := hJ.1.2.2.2.1.1
    have vin : mIn (iN v) 6 = true := iN_in (by omega) (by omega)
    have ven : (iN v).toNatClampNeg = v := i32_nat (by omega)
    have e83 : (30 : Int32) * iN v + iN R.length = iN (30 * v + R.length) := by rw [show (30 : Int32) * iN v = iN (30 * v) from iN_mul (a := 30)]; exact i32_add
    have hjl : j < R.length := by omega
    have hlt1 : iN j < iN R.length := (iN_lt (by omega) (by omega)).mpr hjl
    have hlt2 : iN (30 * v + j) < iN (30 * v + R.length) := (iN_lt (by omega) (by omega)).mpr (by omega)
    have xin : mIn (iN (30 * v + j)) 180 = true := iN_in (by omega) (by omega)
    have xen : (iN (30 * v + j)).toNatClampNeg = 30 * v + j := i32_nat (by omega)
    have he : R[j]? = some R[j] := List.getElem?_eq_getElem hjl
    have hdr : R.drop j = R[j] :: R.drop (j + 1) := List.drop_eq_getElem_cons hjl
    generalize R[j] = x at he hdr
    obtain ⟨q1, q2, q3⟩ := hEn j x (Nat.le_refl _) he
    obtain ⟨k0, -⟩ := kind8 hJ q1
    have hxd : x ∉ R.drop (j + 1) := by
      have := hnd.sublist (List.drop_sublist j R)
      rw [hdr, List.nodup_cons] at this
      exact this.1
    have hxne : ∀ y k, j + 1 ≤ y → R[y]? = some k → k ≠ x := fun y k hy hk z => by
      subst z
      refine hxd (List.mem_of_getElem? (i := y - (j + 1)) ?_)
      rw [List.getElem?_drop, show j + 1 + (y - (j + 1)) = y by omega]
      exact hk
    have hmemL : x ∈ fL c 11 v := by rw [hL]; exact List.mem_of_getElem? he
    have c17 : ∀ z, R1 xs nx 121 17 [some (vR 0 (some 0)), some (vR 27 (some v)), some (vI (iN j)), l3] [] (c, z) = if m 66 x = 4 then bV (R1 xs nx 120 0 [some (vR 0 (some 0)), some (vR 26 (some x)), some (vR 21 (some D)), none, none] [] (c, z)) (fun s2 => R1 xs nx 121 81 [some (vR 0 (some 0)), some (vR 27 (some v)), some (vI (iN j)), some (vR 26 (some x))] [] s2) hE else if fI c 26 x 16 = 0 then R1 xs nx 121 81 [some (vR 0 (some 0)), some (vR 27 (some v)), some (vI (iN j)), some (vR 26 (some x))] [] (uP 8 x 5 (some D) c, z) else R1 xs nx 121 81 [some (vR 0 (some 0)), some (vR 27 (some v)), some (vI (iN j)), some (vR 26 (some x))] [] (c, z) := by
      intro z
      rw [d_121_17]
      dsimp only
      rw [hL, if_pos hlt1, if_neg (iN_pos (by omega)), i32_nat (by omega), he, nn_some, k0, hX]
    have r59 : ∀ c9 z, R1 xs nx 220 59 [some (vR 1 (some 0)), some (vI (iN v)), some (vI (iN D)), some (vI (iN (30 * v + j)))] [] (c9, m, z) = if m 87 (30 * v + j) = 0 then R1 xs nx 220 94 [some (vR 1 (some 0)), some (vI (iN v)), some (vI (iN D)), some (vI (iN (30 * v + j)))] [] (c9, m, z) else bV (R1 xs nx 219 0 [some (vR 1 (some 0)), some (vI (iN x)), some (vI (iN D)), none] [] (c9, m, z)) (fun s1 => R1 xs nx 220 94 [some (vR 1 (some 0)), some (vI (iN v)), some (vI (iN D)), some (vI (iN (30 * v + j)))] [] s1) hE := by
      intro c9 z
      rw [d_220_59, if_pos vin]
      simp only [ven, h83, e83, xen, q2]
      rw [if_pos hlt2, if_pos xin, if_pos xin]
    rcases q3 with ⟨u1, u2, u3, u4⟩ | ⟨u1, u2, u3⟩
    · obtain ⟨c1, m1, t1, t2, t3, t4, t5, t6, t7, t8, t9, t10⟩ := settleJ (xs := xs) (nx := nx) hJ (by omega) hp hv q1 u1 u2 u3 (fun w hw hne hmem => hne (hJ.2.2.2.2.2.2.2.2.2.2.2.1.2.1 v w x hv hw hmemL hmem).symm)
      rw [hX] at t9 t10
      have hN26 : fN c1 26 = fN c 26 := t2.1 26 (by decide)
      have hN27 : fN c1 27 = fN c 27 := t2.1 27 (by decide)
      obtain ⟨c', m', n', v1, v2, v3, v4, v5, v6, v7⟩ := ih (j + 1) (i + 1) c1 m1 (some (vR 26 (some x))) (by omega) t1 (by omega) (by omega) (by rw [hN27]; exact hv) (by rw [t2.2.2.1 27 (by decide)]; exact hX) (by rw [t3]; exact hL) (by rw [t5 83 (by omega)]; exact h83) (by rw [t5 84 (by omega)]; exact h84)
        (fun y k hy hk => by
          obtain ⟨a1, a2, a3⟩ := hEn y k (by omega) hk
          obtain ⟨b1, b2, b3⟩ := t6 k (hxne y k hy hk)
          rw [hN26, t5 85 (by omega), t5 87 (by omega), t5 78 (by omega), t5 56 (by omega), b1, b2, b3]
          exact ⟨a1, a2, a3⟩)
        (fun k hk z1 z2 => by
          rw [hN26] at hk
          by_cases y : k = x
          · subst y; exact absurd z1 t7
          · obtain ⟨b1, b2, -⟩ := t6 k y
            have := h4 k hk (b1 ▸ z1) (b2 ▸ z2)
            rw [hdr] at this
            exact (List.mem_cons.mp this).resolve_left y)
        (fun k hk => by rw [t5 78 (by omega)]; exact h78 k (by rw [← hN26]; exact hk))
        (fun k hk hz => by
          rw [hN26] at hk
          rw [t5 56 (by omega)] at hz
          rw [t4, t5 78 (by omega)]
          rcases hC k hk hz with y | ⟨y1, y2, y3⟩
          · exact Or.inl y
          · have hne : k ≠ x := fun w => by rw [w, u1] at y2; exact absurd y2 (by decide)
            rw [hdr] at y1
            exact Or.inr ⟨(List.mem_cons.mp y1).resolve_left hne, by rw [(t6 k hne).1]; exact y2, y3⟩)
      refine ⟨c', m', n' + 1, by omega, by rw [show i + (n' + 1) = i + 1 + n' by omega]; exact v2, v3, v4, fr_trans t2 v5, fun z => ?_, fun c9 z => ?_⟩
      · rw [c17, if_pos u1, t9, bV_none, d_121_81, iN_add1]
        exact v6 z
      · rw [r59, if_neg (by rw [u4]; decide), t10, bV_none, d_220_94, iN_add1]
        exact v7 c9 z
    · have hf16 : fI c 26 x 16 = m 63 x ∧ nBo (m 63 x) := by
        obtain ⟨y1, y2, y3, y4, y5, y6, y7, y8, y9, y10, y11, y12, y13, y14, y15, y16, y17, y18⟩ := hJ.2.2.2.2.2.1 x q1
        exact ⟨y17.1, y17.1 ▸ y17.2⟩
      have hf := notFresh hJ q1 (by rw [u1]; decide) (by rw [u1]; decide)
      have fin : ∀ C : nC, nJ κ i C m → fr c m C m → fL C 11 v = R → (∀ k, fP C 8 k 5 = if k = x ∧ m 63 x = 0 then some D else fP c 8 k 5) → (∀ z, R1 xs nx 121 17 [some (vR 0 (some 0)), some (vR 27 (some v)), some (vI (iN j)), l3] [] (c, z) = R1 xs nx 121 81 [some (vR 0 (some 0)), some (vR 27 (some v)), some (vI (iN j)), some (vR 26 (some x))] [] (C, z)) → _ := fun C hJC hfC hLC hPC hcC => by
        show ∃ (c' : nC) (m' : nM) (n' : Nat), n' ≤ n + 1 ∧ nJ κ (i + n') c' m' ∧ nRd [] v J c' m' ∧ gCs c' m' ∧ fr c m c' m' ∧
          (∀ z, R1 xs nx 121 17 [some (vR 0 (some 0)), some (vR 27 (some v)), some (vI (iN j)), l3] [] (c, z) = some (.inl none, (c', z))) ∧
          ∀ c9 z, R1 xs nx 220 59 [some (vR 1 (some 0)), some (vI (iN v)), some (vI (iN D)), some (vI (iN (30 * v + j)))] [] (c9, m, z) = some (.inl none, (c9, m', z))
        have hN26 : fN C 26 = fN c 26 := hfC.1 26 (by decide)
        have hN27 : fN C 27 = fN c 27 := hfC.1 27 (by decide)
        obtain ⟨c', m', n', v1, v2, v3, v4, v5, v6, v7⟩ := ih (j + 1) i C m (some (vR 26 (some x))) (by omega) hJC hp (by omega) (by rw [hN27]; exact hv) (by rw [hfC.2.2.1 27 (by decide)]; exact hX) hLC h83 h84
          (fun y k hy hk => by rw [hN26]; exact hEn y k (by omega) hk)
          (fun k hk z1 z2 => by
            rw [hN26] at hk
            have := h4 k hk z1 z2
            rw [hdr] at this
            rcases List.mem_cons.mp this with y | y
            · rw [y, u1] at z1; exact absurd z1 (by decide)
            · exact y)
          (fun k hk => h78 k (by rw [← hN26]; exact hk))
          (fun k hk hz => by
            rw [hN26] at hk
            rw [hPC k]
            by_cases y : k = x
            · subst y
              by_cases y0 : m 63 k = 0
              · rw [if_pos ⟨rfl, y0⟩]
                refine Or.inl ?_
                rw [u3, if_neg]
                rintro (w | w)
                · rw [y0] at w; exact absurd w (by decide)
                · exact hz w
              · rw [if_neg (fun w => y0 w.2)]
                have y1 : m 63 k = 1 := hf16.2.resolve_left y0
                rw [if_pos (Or.inl y1)] at u3
                rcases hC k hk hz with w | ⟨-, -, w⟩
                · exact Or.inl w
                · rw [u3] at w
                  have := (iN_inj (a := 0) (by omega) (by omega)).mp w
                  omega
            · rw [if_neg (fun w => y w.1)]
              rcases hC k hk hz with w | ⟨w1, w2, w3⟩
              · exact Or.inl w
              · rw [hdr] at w1
                exact Or.inr ⟨(List.mem_cons.mp w1).resolve_left y, w2, w3⟩)
        refine ⟨c', m', n', by omega, v2, v3, v4, fr_trans hfC v5, fun z => ?_, fun c9 z => ?_⟩
        · rw [hcC, d_121_81, iN_add1]
          exact v6 z
        · rw [r59, if_pos u2, d_220_94, iN_add1]
          exact v7 c9 z
      by_cases y0 : m 63 x = 0
      · refine fin (uP 8 x 5 (some D) c) (nJ_cash hJ hp hf hD) fr_uP hL (fun k => ?_) (fun z => ?_)
        · rw [fP_at]
          by_cases y : k = x
          · rw [if_pos ⟨y, rfl⟩, if_pos ⟨y, y0⟩]
          · rw [if_neg (fun w => y w.1), if_neg (fun w => y w.1)]
        · rw [c17, if_neg (by rw [u1]; decide), hf16.1, if_pos y0]
      · refine fin c hJ fr_refl hL (fun k => by rw [if_neg (fun w => y0 w.2)]) (fun z => ?_)
        rw [c17, if_neg (by rw [u1]; decide), hf16.1, if_neg y0]
/-- a van is at its end, or goes on -/
theorem backV {v J i : Nat} {R : List Nat} {c : nC} {m : nM} (hJ : nJ κ i c m) (hp : i / 100000 = 2 + v) (hi : i % 100000 < 80000) (hv : v < fN c 27) (hR : nRd R v J c m) (hc : gCs c m) (hle : R ≠ [] → J ≤ R.length) :
    ∃ (c' : nC) (m' : nM) (R' : List Nat) (n' : Nat), n' ≤ 30 ∧ nJ κ (i + n') c' m' ∧ nRd R' v J c' m' ∧ (R' = [] ∨ J < R'.length) ∧ gCs c' m' ∧ fr c m c' m' ∧
      (∀ z, R1 xs nx 121 0 [some (vR 0 (some 0)), some (vR 27 (some v)), none, none] [] (c, z) = some (.inl none, (c', z))) ∧
      ∀ c9 z, R1 xs nx 221 81 [some (vR 1 (some 0)), some (vI (iN v))] [] (c9, m, z) = some (.inl none, (c9, m', z)) := by
  have hR0 := hR
  obtain ⟨rL, r2, r3, r1, J3, J2, rf, r4, r5, r6⟩ := hR
  have h27 := hJ.1.2.2.2.1.1
  have h26 := hJ.1.2.2.1
  have vin : mIn (iN v) 6 = true := iN_in (by omega) (by omega)
  have ven : (iN v).toNatClampNeg = v := i32_nat (by omega)
  by_cases hne : R = []
  · subst hne
    refine ⟨c, m, [], 0, Nat.zero_le _, hJ, hR0, Or.inl rfl, hc, fr_refl, fun z => ?_, fun c9 z => ?_⟩
    · have e17 : R1 xs nx 121 17 [some (vR 0 (some 0)), some (vR 27 (some v)), some (vI (0 : Int32)), none] [] (c, z) = some (.inl none, (c, z)) := by
        rw [d_121_17]
        dsimp only
        rw [rL, if_neg (by decide), uL_id rL]
      rw [d_121_0, e17]
      split <;> rfl
    · rw [d_221_81, if_pos vin, ven]
      simp only [r1]
      rw [if_neg (by decide)]
  · obtain ⟨w1, w2, w3, w4, w5⟩ := rf hne
    have hlen : 0 < R.length := List.length_pos_iff.mpr hne
    by_cases hd : J < R.length
    · refine ⟨c, m, R, 0, Nat.zero_le _, hJ, hR0, Or.inr hd, hc, fr_refl, fun z => ?_, fun c9 z => ?_⟩
      · rw [d_121_0]
        dsimp only
        rw [w2, rL, if_pos ((iN_lt (by omega) (by omega)).mpr hd)]
      · rw [d_221_81, if_pos vin, ven]
        simp only [r1, J3]
        rw [if_pos (show (0 : Int32) < iN R.length from (iN_lt (a := 0) (by omega) (by omega)).mpr hlen), if_pos vin, if_pos vin, if_neg (by rw [iN_inj (by omega) (by omega)]; omega)]
    · have hJl : J = R.length := by omega
      subst hJl
      obtain ⟨⟨x1, x2⟩, -⟩ := hJ.2.2.2.2.2.2.2.2.2.2.2.1.1 v hv
      have hdis : ∀ k, k ∈ R → ∀ w, w < fN c 27 → w ≠ v → k ∉ fL c 11 w := fun k hk w hw hne' hmem => hne' (hJ.2.2.2.2.2.2.2.2.2.2.2.1.2.1 v w k hv hw (by rw [rL]; exact hk) hmem).symm
      obtain ⟨m1, a1, a2, a3, a4⟩ := cash220 (xs := xs) (nx := nx) (v := v) (D := fX c 27 v 1) (N := fN c 26) (by omega) x1 h26.1 (fN c 26) 0 i c m (Nat.zero_add _) rfl hJ hp (fun j hj z => hdis j (r5 j hj z))
      have ne : iN (10 + fX c 27 v 1) ≠ iN (1 + v) := by rw [ne_eq, iN_inj (by omega) (by omega)]; omega
      have nz : iN (1 + v) ≠ 0 := fun z => by
        have := (iN_inj (b := 0) (by omega) (by omega)).mp z
        omega
      have b78 : ∀ j, j < fN c 26 → m1 78 j = if m 78 j = iN (1 + v) then iN (10 + fX c 27 v 1) else m 78 j := fun j hj => by
        rw [a2 j hj]
        by_cases q : m 78 j = iN (1 + v)
        · rw [if_pos ⟨Nat.zero_le _, q⟩, if_pos q]
        · rw [if_neg (fun z => q z.2), if_neg q]
      obtain ⟨c', m', n', u1, u2, u3, u4, u5, u6, u7⟩ := backL (xs := xs) (nx := nx) (v := v) (D := fX c 27 v 1) (J := R.length) (R := R) x1 J2 r2 r3 R.length 0 i c m1 none (Nat.zero_add _) a3 hp (by omega) hv rfl rL (by rw [a1 83 (by decide)]; exact r1) (by rw [a1 84 (by decide)]; exact J3)
        (fun x k _ hxk => by
          obtain ⟨q1, q2, -, -, q5⟩ := r6 x k hxk
          have hx : x < R.length := by
            rcases Nat.lt_or_ge x R.length with z | z
            · exact z
            · rw [List.getElem?_eq_none z] at hxk; cases hxk
          rw [a1 85 (by decide), a1 66 (by decide), a1 67 (by decide), a1 87 (by decide), a1 63 (by decide), a1 56 (by decide), b78 k q1]
          refine ⟨q1, q2, ?_⟩
          rcases q5 with ⟨y1, y2, y3, y4, y5, y6⟩ | ⟨y1, y2, y3, y4⟩
          · exact Or.inl ⟨y1, y2, by rw [y3, if_neg (fun z => nz z.symm)], y5 hx⟩
          · refine Or.inr ⟨y1, y3, ?_⟩
            rw [y4]
            by_cases w : m 63 k = 1 ∨ m 56 k = 0
            · rw [if_pos w, if_neg (fun z => nz z.symm), if_pos w]
            · rw [if_neg w, if_pos rfl, if_neg w])
        (fun k hk z1 z2 => by
          rw [a1 66 (by decide)] at z1
          rw [a1 67 (by decide)] at z2
          exact r4 k hk z1 z2)
        (fun k hk z => by
          rw [b78 k hk] at z
          by_cases q : m 78 k = iN (1 + v)
          · rw [if_pos q] at z; exact ne z
          · rw [if_neg q] at z; exact q z)
        (fun k hk hz => by
          rw [a1 56 (by decide)] at hz
          rw [b78 k hk, a1 66 (by decide)]
          by_cases q : m 78 k = iN (1 + v)
          · rw [if_pos q]
            have hkR := r5 k hk q
            obtain ⟨x, hx⟩ := List.getElem?_of_mem hkR
            rcases (r6 x k hx).2.2.2.2 with ⟨-, -, y3, -⟩ | ⟨y1, -⟩
            · rw [y3] at q; exact absurd q.symm nz
            · exact Or.inr ⟨hkR, y1, rfl⟩
          · rw [if_neg q]
            exact Or.inl (hc k hk hz))
      have f0 : fr c m c m1 := by
        refine ⟨fun _ _ => rfl, fun _ => rfl, fun _ _ => rfl, by rw [a1 1 (by decide)], by rw [a1 1 (by decide)], by rw [a1 1 (by decide)], a1 31 (by decide), fun k hk => ?_⟩
        rw [a1 66 (by decide)] at hk
        rw [a1 67 (by decide), a1 69 (by decide)]
        exact Or.inl ⟨hk, rfl, rfl⟩
      refine ⟨c', m', [], n', by omega, u2, u3, Or.inl rfl, u4, fr_trans f0 u5, fun z => ?_, fun c9 z => ?_⟩
      · rw [d_121_0]
        dsimp only
        rw [w2, rL, if_neg (by rw [iN_lt (by omega) (by omega)]; omega)]
        exact u6 z
      · have h220 : R1 xs nx 220 0 [some (vR 1 (some 0)), some (vI (iN v)), none, none] [] (c9, m, z) = some (.inl none, (c9, m', z)) := by
          rw [d_220_0, if_pos vin, ven]
          dsimp only
          rw [x2]
          have := a4 c9 z
          rw [show R1 xs nx 220 9 [some (vR 1 (some 0)), some (vI (iN v)), some (vI (iN (fX c 27 v 1))), some (vI (0 : Int32))] [] (c9, m, z) = _ from this]
          exact u7 c9 z
        rw [d_221_81, if_pos vin, ven]
        simp only [r1, J3]
        rw [if_pos (show (0 : Int32) < iN R.length from (iN_lt (a := 0) (by omega) (by omega)).mpr hlen), if_pos vin, if_pos vin, if_pos trivial, h220, bV_none]
end ORC
end KAP
