/-! ===== an hour: what its steps keep; trailers that come ===== -/
section KAP
variable {κ : kP}
section OQH
variable {xs : Nat → Int32} {nx : Nat}
/-- what a step of an hour leaves -/
def fr (c : nC) (m : nM) (c' : nC) (m' : nM) : Prop :=
  (∀ t, t ≠ 25 → fN c' t = fN c t) ∧ (∀ d, fI c' 21 d 5 = fI c 21 d 5) ∧ (∀ t, t ≠ 25 → fX c' t = fX c t) ∧ m' 1 0 = m 1 0 ∧ m' 1 75 = m 1 75 ∧ m' 1 76 = m 1 76 ∧ m' 31 = m 31 ∧
  ∀ k, m' 66 k = 2 → (m 66 k = 2 ∧ m' 67 k = m 67 k ∧ m' 69 k = m 69 k) ∨ m 1 0 < m' 69 k
theorem fr_refl {c : nC} {m : nM} : fr c m c m := ⟨fun _ _ => rfl, fun _ => rfl, fun _ _ => rfl, rfl, rfl, rfl, rfl, fun _ h => Or.inl ⟨h, rfl, rfl⟩⟩
theorem fr_trans {c c1 c2 : nC} {m m1 m2 : nM} (h : fr c m c1 m1) (g : fr c1 m1 c2 m2) : fr c m c2 m2 := by
  obtain ⟨h1, h2, h3, h4, h5, h6, h7, h8⟩ := h
  obtain ⟨g1, g2, g3, g4, g5, g6, g7, g8⟩ := g
  refine ⟨fun t ht => (g1 t ht).trans (h1 t ht), fun d => (g2 d).trans (h2 d), fun t ht => (g3 t ht).trans (h3 t ht), g4.trans h4, g5.trans h5, g6.trans h6, g7.trans h7, fun k hk => ?_⟩
  rcases g8 k hk with ⟨a1, a2, a3⟩ | a
  · rcases h8 k a1 with ⟨b1, b2, b3⟩ | b
    · exact Or.inl ⟨b1, a2.trans b2, a3.trans b3⟩
    · exact Or.inr (by rw [a3]; exact b)
  · exact Or.inr (by rw [← h4]; exact a)
theorem nJ_95 {i j : Nat} {c : nC} {m : nM} {x : Int32} (h : nJ κ i c m) : nJ κ i c (uM 95 j x m) := by
  unfold nJ gCnt gClk at h ⊢
  simp (disch := decide) only [uM_ne]
  exact h
/-- the mark of a parcel that is not held -/
theorem nJ_73 {i k : Nat} {c : nC} {m : nM} {x : Int32} (h : nJ κ i c m) (hk : m 66 k ≠ 6) : nJ κ i c (uM 73 k x m) := by
  unfold nJ at h ⊢
  simp (disch := decide) only [uM_ne]
  refine ⟨h.1, h.2.1, h.2.2.1, h.2.2.2.1, h.2.2.2.2.1, h.2.2.2.2.2.1, h.2.2.2.2.2.2.1, fun j hj => ?_, h.2.2.2.2.2.2.2.2⟩
  have := h.2.2.2.2.2.2.2.1 j hj
  by_cases e : j = k
  · subst e
    obtain ⟨y1, y2, y3, y4, y⟩ := this
    refine ⟨y1, y2, y3, y4, ?_⟩
    rcases y with y | y | y | y | y | y | y | y | y
    · exact Or.inl y
    · exact Or.inr (Or.inl y)
    · exact Or.inr (Or.inr (Or.inl y))
    · exact Or.inr (Or.inr (Or.inr (Or.inl y)))
    · exact Or.inr (Or.inr (Or.inr (Or.inr (Or.inl y))))
    · exact Or.inr (Or.inr (Or.inr (Or.inr (Or.inr (Or.inl y)))))
    · exact absurd y.1 hk
    · exact Or.inr (Or.inr (Or.inr (Or.inr (Or.inr (Or.inr (Or.inr (Or.inl y)))))))
    · exact Or.inr (Or.inr (Or.inr (Or.inr (Or.inr (Or.inr (Or.inr (Or.inr y)))))))
  · unfold nSty at this ⊢
    simp only [uM_k e]
    exact this
theorem le_ck {x : Int32} {t : Nat} (h : x ≤ iN t) (ht : t < 1000) : x ≤ iN (t + 1) := by
  rw [Int32.le_iff_toInt_le, iN_toInt (by omega)] at h ⊢
  omega
/-- the clock goes on -/
theorem enterJ {i t : Nat} {c : nC} {m : nM} (h : nJ κ i c m) (hi : i < 90000) (ht : m 1 0 = iN t) (h6 : t < 600) : nJ κ (100000 + i) (uI 0 0 9 (iN (t + 1)) c) (uM 1 0 (iN (t + 1)) m) := by
  have ep : (100000 + i) / 100000 = 1 := by omega
  have ep0 : i / 100000 = 0 := by omega
  unfold nJ at h ⊢
  rw [ep]
  rw [ep0] at h
  simp (disch := decide) only [uM_ne, fI_ne, fX_uI, fP_uI, fQ_uI, fL_uI, fN_uI]
  obtain ⟨j1, j2, j3, j4, j5, j6, j7, j8, j9, j10, j11, j12, j13, j14, j15⟩ := h
  have e0 : uM 1 0 (iN (t + 1)) m 1 0 = iN (t + 1) := uM_kk
  have e11 : uM 1 0 (iN (t + 1)) m 1 1 = m 1 1 := uM1_ne (by decide)
  rw [e0, e11]
  refine ⟨?_, ?_, fun d hd => ?_, ⟨fun l hl => ?_, j4.2⟩, j5, fun k hk => ?_, j7, fun k hk => ?_, j9, j10, fun k hk => ?_, ⟨fun v hv => ?_, j12.2⟩, j13, ⟨fun x b hx => ?_, j14.2⟩, j15⟩
  · unfold gCnt at j1 ⊢
    simp (disch := decide) only [uM1_ne]
    exact j1
  · obtain ⟨g1, t', O, g2, g3, g4, g5⟩ := j2
    have : t' = t := (iN_inj (by omega) (by omega)).mp (g3.symm.trans ht)
    subst this
    refine ⟨?_, t' + 1, O, by omega, e0, e11.trans g4, by omega⟩
    rw [fI_at, if_pos ⟨rfl, rfl⟩, e0]
  · obtain ⟨y1, y2, ⟨y3, y4⟩, y5⟩ := j3 d hd
    exact ⟨y1, y2, ⟨y3, fun z => absurd z (by decide)⟩, y5⟩
  · obtain ⟨y1, y2, y3, y4, y5, y6, y7, y8, y9, y10, y11⟩ := j4.1 l hl
    refine ⟨y1, y2, y3, y4, y5, y6, y7, y8, y9, y10, ?_⟩
    rcases y11 with z | ⟨z1, z2⟩
    · exact Or.inl z
    · exact Or.inr ⟨z1, le_ck (ht ▸ z2) (by omega)⟩
  · have := j6 k hk
    unfold nPar at this ⊢
    obtain ⟨y1, y2, y3, y4, y5, y6, y7, y8, y9, y10, y11, y12, y13, ⟨y14, w1, w2⟩, y15⟩ := this
    exact ⟨y1, y2, y3, y4, y5, y6, y7, y8, y9, y10, y11, y12, y13, ⟨y14, w1, le_ck (ht ▸ w2) (by omega)⟩, y15⟩
  · obtain ⟨y1, y2, y3, y4, y⟩ := j8 k hk
    refine ⟨y1, y2, y3, le_ck (ht ▸ y4) (by omega), ?_⟩
    rcases y with y | y | ⟨z, l, z1, z2, z3, z4, z5, z6, z7, z8, z9, z10⟩ | y | y | y | y | y | y
    · exact Or.inl y
    · exact Or.inr (Or.inl y)
    · refine Or.inr (Or.inr (Or.inl ⟨z, l, z1, z2, z3, z4, z5, z6, z7, z8, ?_, fun w => absurd w (by decide)⟩))
      have := z10 rfl
      rw [ht, Int32.lt_iff_toInt_lt, iN_toInt (by omega)] at this
      rw [Int32.le_iff_toInt_le, iN_toInt (by omega)]
      omega
    · exact Or.inr (Or.inr (Or.inr (Or.inl y)))
    · exact Or.inr (Or.inr (Or.inr (Or.inr (Or.inl y))))
    · exact Or.inr (Or.inr (Or.inr (Or.inr (Or.inr (Or.inl y)))))
    · exact Or.inr (Or.inr (Or.inr (Or.inr (Or.inr (Or.inr (Or.inl y))))))
    · exact Or.inr (Or.inr (Or.inr (Or.inr (Or.inr (Or.inr (Or.inr (Or.inl y)))))))
    · exact Or.inr (Or.inr (Or.inr (Or.inr (Or.inr (Or.inr (Or.inr (Or.inr y)))))))
  · obtain ⟨y1, y2, y3, y4, y5, y6, y7, y8, y9⟩ := j11 k hk
    exact ⟨y1, y2, y3, y4, y5, y6, y7, y8, fun _ => y9 (by decide)⟩
  · obtain ⟨y1, y2, y3, y4, y5⟩ := j12.1 v hv
    refine ⟨y1, y2, y3, fun _ => y4 (by omega), fun _ hL => ?_⟩
    obtain ⟨w1, w2, w3, w4⟩ := y5 (by omega) hL
    exact ⟨w1, w2, le_ck (ht ▸ w3) (by omega), w4⟩
  · obtain ⟨y1, y2, y3, y4, ⟨y5, y6, y7⟩, y8⟩ := j14.1 x b hx
    exact ⟨y1, y2, y3, y4, ⟨y5, y6, le_ck (ht ▸ y7) (by omega)⟩, y8⟩
/-- the hour is over -/
theorem leaveJ {i n : Nat} {c : nC} {m : nM} (h : nJ κ (100000 + n) c m) (hn : n ≤ i + 3000) (hi : i < 90000) (h2 : ∀ k, k < fN c 26 → m 66 k = 2 → m 1 0 < m 69 k) (h31 : ∀ d, d < 5 → m 31 d = if m 1 0 < fI c 21 d 5 then fI c 21 d 5 - m 1 0 else 0) : nJ κ i c m := by
  have ep : (100000 + n) / 100000 = 1 := by omega
  have ep0 : i / 100000 = 0 := by omega
  unfold nJ at h ⊢
  rw [ep] at h
  rw [ep0]
  obtain ⟨j1, j2, j3, j4, j5, j6, j7, j8, j9, j10, j11, j12, j13, j14, j15⟩ := h
  refine ⟨j1, ?_, fun d hd => ?_, j4, j5, j6, j7, fun k hk => ?_, j9, j10, fun k hk => ?_, ⟨fun v hv => ?_, j12.2⟩, j13, j14, j15⟩
  · obtain ⟨g1, t', O, g2, g3, g4, g5⟩ := j2
    exact ⟨g1, t', O, g2, g3, g4, by omega⟩
  · obtain ⟨y1, y2, ⟨y3, -⟩, y5⟩ := j3 d hd
    exact ⟨y1, y2, ⟨y3, fun _ => h31 d hd⟩, y5⟩
  · obtain ⟨y1, y2, y3, y4, y⟩ := j8 k hk
    refine ⟨y1, y2, y3, y4, ?_⟩
    rcases y with y | y | ⟨z, l, z1, z2, z3, z4, z5, z6, z7, z8, z9, z10⟩ | y | y | y | y | y | y
    · exact Or.inl y
    · exact Or.inr (Or.inl y)
    · exact Or.inr (Or.inr (Or.inl ⟨z, l, z1, z2, z3, z4, z5, z6, z7, z8, z9, fun _ => h2 k hk z⟩))
    · exact Or.inr (Or.inr (Or.inr (Or.inl y)))
    · exact Or.inr (Or.inr (Or.inr (Or.inr (Or.inl y))))
    · exact Or.inr (Or.inr (Or.inr (Or.inr (Or.inr (Or.inl y)))))
    · exact Or.inr (Or.inr (Or.inr (Or.inr (Or.inr (Or.inr (Or.inl y))))))
    · exact Or.inr (Or.inr (Or.inr (Or.inr (Or.inr (Or.inr (Or.inr (Or.inl y)))))))
    · exact Or.inr (Or.inr (Or.inr (Or.inr (Or.inr (Or.inr (Or.inr (Or.inr y)))))))
  · obtain ⟨y1, y2, y3, y4, y5, y6, y7, y8, y9⟩ := j11 k hk
    exact ⟨y1, y2, y3, y4, y5, y6, y7, y8, fun _ => y9 (by decide)⟩
  · obtain ⟨y1, y2, y3, y4, y5⟩ := j12.1 v hv
    exact ⟨y1, y2, y3, fun _ => y4 (by omega), fun _ => y5 (by omega)⟩
/-- the best one of those that can -/
def nSel (can : Nat → Bool) (ahead : Nat → Nat → Bool) : Nat → Nat → Option Nat → Option Nat
  | 0, _, b => b
  | n + 1, i, b => nSel can ahead n (i + 1) (if can i then (match b with
    | none => some i
    | some x => if ahead i x then some i else some x) else b)
theorem nSel_spec {can : Nat → Bool} {ahead : Nat → Nat → Bool} : ∀ (n i : Nat) (b : Option Nat),
    (nSel can ahead n i b = b ∨ ∃ k, nSel can ahead n i b = some k ∧ i ≤ k ∧ k < i + n ∧ can k = true) ∧ (nSel can ahead n i b = none → b = none ∧ ∀ j, i ≤ j → j < i + n → can j = false) := by
  intro n
  induction n with
  | zero => intro i b; exact ⟨Or.inl rfl, fun h => ⟨h, fun j h1 h2 => by omega⟩⟩
  | succ n ih =>
    intro i b
    by_cases hc : can i = true
    · have key : ∀ x, nSel can ahead (n + 1) i b = nSel can ahead n (i + 1) (some x) → (x = i ∨ b = some x) → _ := fun x hx hx2 => by
        obtain ⟨h1, h2⟩ := ih (i + 1) (some x)
        show ((nSel can ahead (n + 1) i b = b ∨ ∃ k, nSel can ahead (n + 1) i b = some k ∧ i ≤ k ∧ k < i + (n + 1) ∧ can k = true) ∧ (nSel can ahead (n + 1) i b = none → b = none ∧ ∀ j, i ≤ j → j < i + (n + 1) → can j = false))
        rw [hx]
        refine ⟨?_, fun z => absurd (h2 z).1 (by intro y; cases y)⟩
        rcases h1 with h1 | ⟨k, k1, k2, k3, k4⟩
        · rcases hx2 with rfl | hb
          · exact Or.inr ⟨x, h1, Nat.le_refl _, by omega, hc⟩
          · exact Or.inl (h1.trans hb.symm)
        · exact Or.inr ⟨k, k1, by omega, by omega, k4⟩
      cases b with
      | none => exact key i (by simp only [nSel, hc, if_true]) (Or.inl rfl)
      | some x =>
        by_cases ha : ahead i x = true
        · exact key i (by simp only [nSel, hc, ha, if_true]) (Or.inl rfl)
        · exact key x (by simp only [nSel, hc, ha, if_true, Bool.false_eq_true, if_false]) (Or.inr rfl)
    · have e : nSel can ahead (n + 1) i b = nSel can ahead n (i + 1) b := by simp only [nSel, hc, Bool.false_eq_true, if_false]
      rw [e]
      obtain ⟨h1, h2⟩ := ih (i + 1) b
      refine ⟨?_, fun z => ⟨(h2 z).1, fun j j1 j2 => ?_⟩⟩
      · rcases h1 with h1 | ⟨k, k1, k2, k3, k4⟩
        · exact Or.inl h1
        · exact Or.inr ⟨k, k1, by omega, by omega, k4⟩
      · by_cases e : j = i
        · subst e; exact Bool.not_eq_true _ ▸ hc
        · exact (h2 z).2 j (by omega) (by omega)
/-- the least one, where a comes before b or b before a -/
theorem nSel_min {can : Nat → Bool} {ahead : Nat → Nat → Bool} {N k : Nat} (hk : k < N) (hc : can k = true) (h1 : ∀ j, j < N → can j = true → j ≠ k → ahead k j = true ∧ ahead j k = false) : nSel can ahead N 0 none = some k := by
  have key : ∀ (n i : Nat) (b : Option Nat), i + n = N → (k < i → b = some k) → (∀ x, b = some x → x < N ∧ can x = true) → nSel can ahead n i b = some k := by
    intro n
    induction n with
    | zero => intro i b e h2 _; exact h2 (by omega)
    | succ n ih =>
      intro i b e h2 h3
      show nSel can ahead n (i + 1) _ = some k
      by_cases ci : can i = true
      · rw [if_pos ci]
        cases b with
        | none =>
          refine ih (i + 1) _ (by omega) (fun z => ?_) (fun x hx => ?_)
          · by_cases e : i = k
            · rw [e]
            · have := h2 (by omega); cases this
          · cases hx; exact ⟨by omega, ci⟩
        | some x =>
          obtain ⟨x1, x2⟩ := h3 x rfl
          dsimp only
          by_cases e1 : i = k
          · subst e1
            by_cases e2 : x = i
            · subst e2
              refine ih (x + 1) _ (by omega) (fun _ => ?_) (fun y hy => ?_)
              · split <;> rfl
              · have : y = x := by split at hy <;> (cases hy; rfl)
                subst this; exact ⟨x1, x2⟩
            · rw [if_pos (h1 x x1 x2 e2).1]
              exact ih (i + 1) _ (by omega) (fun _ => rfl) (fun y hy => by cases hy; exact ⟨by omega, ci⟩)
          · by_cases e2 : x = k
            · subst e2
              rw [if_neg (by rw [(h1 i (by omega) ci e1).2]; decide)]
              exact ih (i + 1) _ (by omega) (fun _ => rfl) (fun y hy => by cases hy; exact ⟨x1, x2⟩)
            · refine ih (i + 1) _ (by omega) (fun z => ?_) (fun y hy => ?_)
              · have := h2 (by omega); cases this; exact absurd rfl e2
              · split at hy
                · cases hy; exact ⟨by omega, ci⟩
                · cases hy; exact ⟨x1, x2⟩
      · rw [if_neg ci]
        exact ih (i + 1) b (by omega) (fun z => h2 (by
          rcases Nat.lt_or_ge k i with w | w
          · exact w
          · exfalso
            have : k = i := by omega
            subst this
            exact ci hc)) h3
  exact key N 0 none (by omega) (fun z => by omega) (fun x hx => by cases hx)
/-- the reference's next one of those on a lane that come -/
theorem r207 {m : nM} {N : Nat} (hN : m 1 24 = iN N) (h40 : N ≤ 40) : ∀ c9 z, R1 xs nx 207 0 [some (vR 1 (some 0)), none, none] [] (c9, m, z) = some (.inl (some (vI (oI (nSel (fun j => decide (m 95 j = 0)) (fun j x => decide (m 68 j < m 68 x)) N 0 none)))), (c9, m, z)) := by
  intro c9 z
  have key : ∀ (n i : Nat) (b : Option Nat), i + n = N → (∀ x, b = some x → x < N) → R1 xs nx 207 4 [some (vR 1 (some 0)), some (vI (oI b)), some (vI (iN i))] [] (c9, m, z) = some (.inl (some (vI (oI (nSel (fun j => decide (m 95 j = 0)) (fun j x => decide (m 68 j < m 68 x)) n i b)))), (c9, m, z)) := by
    intro n
    induction n with
    | zero =>
      intro i b e hb
      have hn : ¬ iN i < iN N := by rw [iN_lt (by omega) (by omega)]; omega
      rw [d_207_4]
      simp only [hN, hn, if_false]
      rfl
    | succ n ih =>
      intro i b e hb
      have hlt : iN i < iN N := (iN_lt (by omega) (by omega)).mpr (by omega)
      have hin : mIn (iN i) 40 = true := iN_in40 (by omega)
      have en : (iN i).toNatClampNeg = i := i32_nat (by omega)
      rw [d_207_4]
      simp only [hN, hlt, hin, en, if_true]
      by_cases hc : m 95 i = 0
      · rw [if_pos hc]
        cases b with
        | none =>
          rw [show oI none = (-1 : Int32) from rfl, if_pos rfl, d_207_41, d_207_46, iN_add1]
          have := ih (i + 1) (some i) (by omega) (fun x hx => by cases hx; omega)
          simp only [nSel, hc, decide_true, if_true]
          exact this
        | some x =>
          have hx := hb x rfl
          have xin : mIn (iN x) 40 = true := iN_in40 (by omega)
          have xn : (iN x).toNatClampNeg = x := i32_nat (by omega)
          rw [show oI (some x) = iN x from rfl, if_neg (iN_ne1 (by omega)), if_pos xin, xn]
          by_cases ha : m 68 i < m 68 x
          · rw [if_pos ha, d_207_41, d_207_46, iN_add1]
            have := ih (i + 1) (some i) (by omega) (fun x hx => by cases hx; omega)
            simp only [nSel, hc, ha, decide_true, if_true]
            exact this
          · rw [if_neg ha, d_207_45, d_207_46, iN_add1]
            have := ih (i + 1) (some x) (by omega) hb
            simp only [nSel, hc, ha, decide_true, decide_false, if_true, Bool.false_eq_true, if_false]
            exact this
      · rw [if_neg hc, d_207_45, d_207_46, iN_add1]
        have := ih (i + 1) b (by omega) hb
        simp only [nSel, hc, decide_false, Bool.false_eq_true, if_false]
        exact this
  rw [d_207_0]
  exact key N 0 none (Nat.zero_add _) (fun x hx => by cases hx)
end OQH
end KAP
