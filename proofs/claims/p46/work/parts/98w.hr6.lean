/-! ===== an hour: trailers that leave ===== -/
section KAP
variable {κ : kP}
section OQO
variable {xs : Nat → Int32} {nx : Nat}
theorem uM_uM {t j : Nat} {x y : Int32} {m : nM} : uM t j x (uM t j y m) = uM t j x m := by
  funext a b
  unfold uM up2
  split <;> rfl
theorem mMv_uM {k t j : Nat} {w a x : Int32} {m : nM} (h : t ≠ 1 ∧ t ≠ 66 ∧ t ≠ 67 ∧ t ≠ 68) : mMv k w a (uM t j x m) = uM t j x (mMv k w a m) := by
  have e : uM t j x m 1 1 = m 1 1 := by rw [uM_ne (by omega)]
  unfold mMv
  rw [e, uM_comm (t := 66) (t' := t) (by omega), uM_comm (t := 67) (t' := t) (by omega), uM_comm (t := 68) (t' := t) (by omega), uM_comm (t := 1) (t' := t) (by omega)]
/-- since when a trailer waits -/
theorem nJ_44 {i l : Nat} {c : nC} {m : nM} {x : Int32} (hJ : nJ κ i c m) (hl : l < fN c 23) (hx : x = -1 ∨ (nIn x 0 600 ∧ x ≤ m 1 0)) : nJ κ i (uI 23 l 12 x c) (uM 44 l x m) := by
  refine nJ_lan hJ ⟨fun l' hl' => ?_, fun l' h1 h2 => ?_⟩ (fun l' => by rw [fI_at, if_neg (fun z => absurd z.2 (by decide))]) (fun t ht => fI_ne ht) rfl (fun t ht => uM_ne (by omega))
  · have := hJ.2.2.2.1.1 l' hl'
    by_cases e : l' = l
    · subst e
      obtain ⟨y1, y2, y3, y4, y5, y6, y7, y8, y9, y10, y11⟩ := this
      simp (disch := decide) only [fI_k, uM_ne, uM_kk]
      exact ⟨y1, y2, y3, y4, y5, y6, y7, y8, y9, by trivial, hx⟩
    · simp (disch := decide) only [fI_n e, uM_ne, uM_k e]
      exact this
  · rw [uM_ne (by decide)]
    exact hJ.2.2.2.1.2 l' h1 h2
theorem fr_put2 {c : nC} {m : nM} {k : Nat} {a ck x : Int32} {D : Option Nat} {q : Option (Nat × Nat)} (hx : m 1 0 < x) : fr c m (cMv k 2 a D q ck c) (uM 69 k x (mMv k 2 a m)) := by
  refine fr_trans (fr_mvC (k := k) (w := 2) (a := a) (ck := ck) (D := D) (q := q)) ?_
  have e : ∀ t, t ≠ 69 → uM 69 k x (mMv k 2 a m) t = mMv k 2 a m t := fun t h => uM_ne h
  refine ⟨fun _ _ => rfl, fun _ => rfl, fun _ _ => rfl, by rw [e 1 (by decide), mMv_1 (by decide)], by rw [e 1 (by decide), mMv_1 (by decide)], by rw [e 1 (by decide), mMv_1 (by decide)], by rw [e 31 (by decide), mMv_ne (by decide)], fun j hj => ?_⟩
  by_cases z : j = k
  · subst z
    rw [uM_kk]
    exact Or.inr hx
  · rw [e 66 (by decide), mMv_k (by decide) z] at hj
    rw [e 67 (by decide), mMv_k (by decide) z, uM_k z, mMv_ne (by decide)]
    exact Or.inl ⟨hj, rfl, rfl⟩
/-- the parcels of a row go, in their order -/
theorem leaveL {l h n R : Nat} (hR : R < 1000) : ∀ (Q : List Nat) (j i : Nat) (c : nC) (m : nM) (l3 l5 : Option nV), nJ κ i c m → i % 100000 + Q.length < 90000 → m 1 0 = iN h → h < 1000 → l < fN c 23 → m 39 l = iN R → (fL c 20 0).drop j = Q → (fL c 20 0).length = n → n = j + Q.length → n ≤ 40 →
    (∀ x, x < fN c 26 → (cM m 1 (iN l) x = true ↔ x ∈ Q)) → (∀ x, x ∈ Q → x < fN c 26) → Q.Nodup → Q.Pairwise (fun j x => aM m j x = true ∧ aM m x j = false) → m 44 l = -1 →
    ∃ (c' : nC) (m' : nM) (n' : Nat), n' ≤ Q.length ∧ nJ κ (i + n') c' m' ∧ fr c m c' m' ∧
      (∀ z, R1 xs nx 115 10 [some (vR 0 (some 0)), some (vR 23 (some l)), some (vI (iN j)), l3] [] (c, z) = some (.inl none, (c', z))) ∧
      ∀ s a3 c9 z, R1 xs nx 212 123 [some (vR 1 (some 0)), some (vI (iN l)), some (vI (iN n)), some (vI a3), some (vI (iN j)), l5] [] (c9, uM 44 l s m, z) = some (.inl none, (c9, m', z)) := by
  intro Q
  induction Q with
  | nil =>
    intro j i c m l3 l5 hJ hi ck hh hl e39 hQ hlen hn h40 hm hN nd hp h44
    have h12 := hJ.1.1.1
    have lin : mIn (iN l) 12 = true := iN_in (by omega) (by omega)
    have len : (iN l).toNatClampNeg = l := i32_nat (by omega)
    rw [List.length_nil] at hn
    have hnn : ¬ iN j < iN n := by rw [iN_lt (by omega) (by omega)]; omega
    refine ⟨c, m, 0, Nat.le_refl _, hJ, fr_refl, fun z => ?_, fun s a3 c9 z => ?_⟩
    · rw [d_115_10]
      dsimp only
      rw [hlen, if_neg hnn]
    · have h193 : R1 xs nx 212 193 [some (vR 1 (some 0)), some (vI (iN l)), some (vI (iN n)), some (vI a3), some (vI (iN j)), l5] [] (c9, uM 44 l s m, z) = some (.inl none, (c9, m, z)) := by
        rw [d_212_193, if_pos lin, len]
        dsimp only
        rw [uM_uM, uM_id h44]
      rw [d_212_123, if_pos lin, if_neg hnn, h193]
      split <;> rfl
  | cons e Q ih =>
    intro j i c m l3 l5 hJ hi ck hh hl e39 hQ hlen hn h40 hm hN nd hp h44
    have h12 := hJ.1.1.1
    have h26 := hJ.1.2.2.1
    have lin : mIn (iN l) 12 = true := iN_in (by omega) (by omega)
    have len : (iN l).toNatClampNeg = l := i32_nat (by omega)
    rw [List.length_cons] at hn hi
    have he := hN e (List.mem_cons_self ..)
    have he40 : e < 40 := by omega
    have hlt : iN j < iN n := (iN_lt (by omega) (by omega)).mpr (by omega)
    have hg : (fL c 20 0)[j]? = some e := by
      have : ((fL c 20 0).drop j)[0]? = some e := by rw [hQ]; rfl
      rw [List.getElem?_drop] at this
      exact this
    obtain ⟨w1, w2, -⟩ := of_decide_eq_true ((hm e he).mpr (List.mem_cons_self ..))
    obtain ⟨⟨x1, x2⟩, -, ⟨-, H, H1, H2, H3⟩, -, ⟨f7, -⟩, -⟩ := hJ.2.2.2.1.1 l hl
    by_cases hj : j < R
    · have hjR : iN j < iN R := (iN_lt (by omega) (by omega)).mpr hj
      have hp2 := put2 hJ (by omega) he (by rw [w1]; decide) (by rw [w1]; decide) hl (notFresh hJ he (by rw [w1]; decide) (by rw [w1]; decide))
      have hlt69 : m 1 0 < m 1 0 + m 37 l := by
        rw [ck, H3, show iN h + iN H = iN (h + H) from i32_add]
        exact (iN_lt (by omega) (by omega)).mpr (by omega)
      obtain ⟨c1, t1, t2, t3⟩ := noteJ (xs := xs) (nx := nx) (k := e) (a := 2) hp2 (by rw [cMv_N]; exact he) x1 ⟨2, by omega, by omega, rfl⟩
      obtain ⟨b1, b2⟩ := nJ_69 hJ
      have f1 : fr c m c1 (scM e (fX c 23 l 1) 2 (uM 69 e (m 1 0 + m 37 l) (mMv e 2 (iN l) m))) := fr_trans (fr_put2 hlt69) (fr_sc t2)
      rw [List.nodup_cons] at nd
      have hN26 : fN c1 26 = fN c 26 := f1.1 26 (by decide)
      have hN23 : fN c1 23 = fN c 23 := f1.1 23 (by decide)
      have hL20 : fL c1 20 = fL c 20 := by
        rw [t2.2.2.2.2.1 20 (by decide) (by decide), mvL hJ he (by intro p hp; cases hp; exact Or.inr (Or.inr rfl)) (by decide) (by decide) (by decide)]
      have rows : ∀ t x, x ≠ e → t ≠ 1 → t ≠ 32 → t ≠ 33 → (t < 91 ∨ 94 < t) → scM e (fX c 23 l 1) 2 (uM 69 e (m 1 0 + m 37 l) (mMv e 2 (iN l) m)) t x = m t x := fun t x hx y1 y2 y3 y4 => by
        rw [scM_ne ⟨y1, y2, y3, y4⟩, uM_k hx, mMv_k y1 hx]
      obtain ⟨c', m', n', u1, u2, u3, u4, u5⟩ := ih (j + 1) (i + 1) c1 _ (some (vR 26 (some e))) (some (vI (iN e))) t1 (by omega) (f1.2.2.2.1.trans ck) hh (by rw [hN23]; exact hl) (by rw [scM_ne (by decide), uM_ne (by decide), mMv_ne (by decide)]; exact e39) (by rw [hL20, ← List.drop_drop, hQ]; rfl) (by rw [hL20]; exact hlen) (by omega) h40
        (fun x hx => by
          rw [hN26] at hx
          unfold cM
          by_cases z : x = e
          · subst z
            rw [scM_ne (by decide), uM_ne (by decide), mMv_66]
            exact ⟨fun w => absurd (of_decide_eq_true w).1 (by decide), fun w => absurd w nd.1⟩
          · rw [rows 66 x z (by decide) (by decide) (by decide) (by decide), rows 67 x z (by decide) (by decide) (by decide) (by decide), rows 95 x z (by decide) (by decide) (by decide) (by decide)]
            have := hm x hx
            unfold cM at this
            rw [this, List.mem_cons]
            exact ⟨fun w => w.resolve_left z, Or.inr⟩)
        (fun x hx => by rw [hN26]; exact hN x (List.mem_cons_of_mem _ hx)) nd.2
        (by
          refine List.Pairwise.imp_of_mem ?_ (List.pairwise_cons.mp hp).2
          intro a b ha hb hab
          have e1 : a ≠ e := fun z => nd.1 (by rw [← z]; exact ha)
          have e2 : b ≠ e := fun z => nd.1 (by rw [← z]; exact hb)
          unfold aM at hab ⊢
          rw [scM_ne (t := 54) (by decide), uM_ne (t' := 54) (by decide), mMv_ne (t := 54) (by decide), rows 68 a e1 (by decide) (by decide) (by decide) (by decide), rows 68 b e2 (by decide) (by decide) (by decide) (by decide)]
          exact hab)
        (by rw [scM_ne (by decide), uM_ne (by decide), mMv_ne (by decide)]; exact h44)
      refine ⟨c', m', n' + 1, by rw [List.length_cons]; omega, by rw [show i + (n' + 1) = i + 1 + n' by omega]; exact u2, fr_trans f1 u3, fun z => ?_, fun s a3 c9 z => ?_⟩
      · rw [d_115_10]
        dsimp only
        rw [hlen, if_pos hlt, f7, e39, if_pos hjR, if_neg (iN_pos (by omega)), i32_nat (by omega), hg, nn_some]
        rw [mvR hJ he (Or.inr (Or.inr ⟨l, hl, Or.inr rfl⟩)), (nJ_ck hJ).1, bV_none]
        dsimp only
        rw [cMv_X, t3 z, bV_none, iN_add1]
        exact u4 z
      · have hcM : cM (uM 44 l s m) = cM m := by
          funext w a x
          unfold cM
          rw [uM_ne (by decide), uM_ne (by decide), uM_ne (by decide)]
        have haM : aM (uM 44 l s m) = aM m := by
          funext w x
          unfold aM
          rw [uM_ne (by decide), uM_ne (by decide)]
        have hs := sel_exL (N := fN c 26) (w := 1) (a := iN l) (m := m) hm hN hp
        have er : R1 xs nx 205 0 [some (vR 1 (some 0)), some (vI (1 : Int32)), some (vI (iN l)), none, none, none, none] [] (c9, uM 44 l s m, z) = some (.inl (some (vI (iN e))), (c9, uM 44 l s m, z)) := by
          rw [r205 (N := fN c 26) (by rw [uM_ne (by decide)]; exact h26.2.1) h26.1, hcM, haM, hs]
          rfl
        have e39' : uM 44 l s m 39 l = iN R := by rw [uM_ne (by decide)]; exact e39
        have e35' : uM 44 l s m 35 l = iN (fX c 23 l 1) := by rw [uM_ne (by decide)]; exact x2
        have eb1 : uM 44 l s m 1 69 = iN (fL c 19 0).length := by rw [uM_ne (by decide)]; exact b1
        have hfin : uM 69 e (mMv e 2 (iN l) (scM e (fX c 23 l 1) 2 (uM 44 l s m)) 1 0 + mMv e 2 (iN l) (scM e (fX c 23 l 1) 2 (uM 44 l s m)) 37 l) (mMv e 2 (iN l) (scM e (fX c 23 l 1) 2 (uM 44 l s m))) = uM 44 l s (scM e (fX c 23 l 1) 2 (uM 69 e (m 1 0 + m 37 l) (mMv e 2 (iN l) m))) := by
          have v : mMv e 2 (iN l) (scM e (fX c 23 l 1) 2 (uM 44 l s m)) 1 0 + mMv e 2 (iN l) (scM e (fX c 23 l 1) 2 (uM 44 l s m)) 37 l = m 1 0 + m 37 l := by
            rw [mMv_1 (by decide), scM_1 (by decide), uM_ne (by decide), mMv_ne (by decide), scM_ne (by decide), uM_ne (by decide)]
          rw [v, scM_mMv, mMv_uM (by decide), scM_uM (by omega), uM_comm (Or.inl (by decide)), ← scM_uM (by omega)]
        rw [d_212_123, if_pos lin, len]
        dsimp only
        simp only [e39']
        rw [if_pos hjR, if_pos hlt, er, bI_some, if_pos lin]
        dsimp only
        rw [e35', r193 (B := (fL c 19 0).length) x1 eb1 b2, bV_none, r190 he40, bV_none, if_pos lin, if_pos (iN_in40 he40), i32_nat (show e < 2 ^ 31 by omega)]
        dsimp only
        rw [hfin, iN_add1]
        exact u5 s a3 c9 z
    · have hjR : ¬ iN j < iN R := fun z => hj ((iN_lt (by omega) (by omega)).mp z)
      refine ⟨c, m, 0, Nat.zero_le _, hJ, fr_refl, fun z => ?_, fun s a3 c9 z => ?_⟩
      · rw [d_115_10]
        dsimp only
        rw [hlen, if_pos hlt, f7, e39, if_neg hjR]
      · have e39' : uM 44 l s m 39 l = iN R := by rw [uM_ne (by decide)]; exact e39
        rw [d_212_123, if_pos lin, len]
        dsimp only
        simp only [e39']
        rw [if_neg hjR, d_212_193, if_pos lin, len]
        dsimp only
        rw [uM_uM, uM_id h44]
/-- no parcel is chosen -/
theorem mark212 {N : Nat} {a1 a2 a3 : Int32} (h40 : N ≤ 40) : ∀ (n i : Nat) (m : nM), i + n = N → m 1 24 = iN N → (∀ j, j < i → m 95 j = 0) → ∃ m', (∀ t, t ≠ 95 → m' t = m t) ∧ (∀ j, j < N → m' 95 j = 0) ∧ (∀ i c, nJ κ i c m → nJ κ i c m') ∧
    ∀ c9 z, R1 xs nx 212 97 [some (vR 1 (some 0)), some (vI a1), some (vI a2), some (vI a3), some (vI (iN i)), none] [] (c9, m, z) = R1 xs nx 212 123 [some (vR 1 (some 0)), some (vI a1), some (vI a2), some (vI a3), some (vI (iN 0)), none] [] (c9, m', z) := by
  intro n
  induction n with
  | zero =>
    intro i m e hN hm
    have hn : ¬ iN i < iN N := by rw [iN_lt (by omega) (by omega)]; omega
    refine ⟨m, fun _ _ => rfl, fun j hj => hm j (by omega), fun _ _ h => h, fun c9 z => ?_⟩
    rw [d_212_97]
    simp only [hN, hn, if_false]
    rfl
  | succ n ih =>
    intro i m e hN hm
    have hlt : iN i < iN N := (iN_lt (by omega) (by omega)).mpr (by omega)
    have hin : mIn (iN i) 40 = true := iN_in40 (by omega)
    have en : (iN i).toNatClampNeg = i := i32_nat (by omega)
    obtain ⟨m', t1, t2, t3, t4⟩ := ih (i + 1) (uM 95 i 0 m) (by omega) (by rw [uM_ne (by decide)]; exact hN) (fun j hj => by
      by_cases z : j = i
      · subst z; exact uM_kk
      · rw [uM_k z]; exact hm j (by omega))
    refine ⟨m', fun t ht => by rw [t1 t ht, uM_ne ht], t2, fun i' c h => t3 i' c (nJ_95 h), fun c9 z => ?_⟩
    rw [d_212_97]
    dsimp only
    simp only [hN]
    rw [if_pos hlt, if_pos ⟨hin, Or.inl trivial⟩, en, iN_add1]
    exact t4 c9 z
/-- a trailer is due -/
theorem due50 {i l h : Nat} {c : nC} {m : nM} (hJ : nJ κ i c m) (hl : l < fN c 23) (hh : h < 90000) : ∃ b : Int32, (∀ z, R1 xs nx 50 0 [some (vR 23 (some l)), some (vI (iN h))] [] (c, z) = some (.inl (some (vI b)), (c, z))) ∧
    ∀ c9 z, R1 xs nx 211 0 [some (vR 1 (some 0)), some (vI (iN l)), some (vI (iN h))] [] (c9, m, z) = some (.inl (some (vI b)), (c9, m, z)) := by
  have h12 := hJ.1.1.1
  obtain ⟨-, -, -, -, -, ⟨f1, F, -, f2, f3⟩, ⟨e1, E, e2, e3, e4⟩, -⟩ := hJ.2.2.2.1.1 l hl
  have hin : mIn (iN l) 12 = true := iN_in (by omega) (by omega)
  have en : (iN l).toNatClampNeg = l := i32_nat (by omega)
  have p1 : (0 : Int32) < iN E := (iN_lt (a := 0) (by omega) (by omega)).mpr e2
  have p2 : ¬ iN E = 0 := fun z => by have := (iN_inj (b := 0) (by omega) (by omega)).mp z; omega
  rcases Nat.lt_trichotomy F h with q | q | q
  · have q1 : iN F < iN h := (iN_lt (by omega) (by omega)).mpr q
    have q2 : ¬ iN h < iN F := by rw [iN_lt (by omega) (by omega)]; omega
    have sb : iN h - iN F = iN (h - F) := i32_sub (by omega) (by omega)
    have md : iN (h - F) - iN (h - F) / iN E * iN E = iN ((h - F) % E) := iN_mod (by omega) (by omega)
    have hm := Nat.mod_lt (h - F) e2
    by_cases r : (h - F) % E = 0
    · have r1 : iN ((h - F) % E) = 0 := by rw [r]; rfl
      refine ⟨1, fun z => ?_, fun c9 z => ?_⟩
      · rw [d_50_0, d_49_0]
        dsimp only
        rw [f1, f3, e1, e4, if_pos q1, if_pos p1, if_neg p2, sb, md, if_pos r1, bI_some, if_pos rfl]
      · rw [d_211_0, if_pos hin, en]
        simp only [f3, e4]
        rw [if_neg q2, if_pos hin, if_pos hin, if_neg p2, sb, md, if_pos r1]
    · have r1 : ¬ iN ((h - F) % E) = 0 := fun z => r ((iN_inj (b := 0) (by omega) (by omega)).mp z)
      have fin : iN h + iN E - iN ((h - F) % E) = iN (h + E - (h - F) % E) := by rw [show iN h + iN E = iN (h + E) from i32_add]; exact i32_sub (by omega) (by omega)
      refine ⟨0, fun z => ?_, fun c9 z => ?_⟩
      · rw [d_50_0, d_49_0]
        dsimp only
        rw [f1, f3, e1, e4, if_pos q1, if_pos p1, if_neg p2, sb, md, if_neg r1, fin, bI_some, if_neg (by rw [iN_inj (by omega) (by omega)]; omega)]
      · rw [d_211_0, if_pos hin, en]
        simp only [f3, e4]
        rw [if_neg q2, if_pos hin, if_pos hin, if_neg p2, sb, md, if_neg r1]
  · subst q
    have q1 : ¬ iN F < iN F := by rw [iN_lt (by omega) (by omega)]; omega
    have sb : iN F - iN F = iN 0 := by rw [show iN F - iN F = iN (F - F) from i32_sub (Nat.le_refl _) (by omega), Nat.sub_self]
    have md : iN 0 - iN 0 / iN E * iN E = iN (0 % E) := iN_mod (by omega) (by omega)
    refine ⟨1, fun z => ?_, fun c9 z => ?_⟩
    · rw [d_50_0, d_49_0]
      dsimp only
      rw [f1, f3, if_neg q1, if_neg q1, bI_some, if_pos rfl]
    · rw [d_211_0, if_pos hin, en]
      simp only [f3, e4]
      rw [if_neg q1, if_pos hin, if_pos hin, if_neg p2, sb, md, Nat.zero_mod, if_pos (show iN 0 = (0 : Int32) from rfl)]
  · have q1 : iN h < iN F := (iN_lt (by omega) (by omega)).mpr q
    have q2 : ¬ iN F < iN h := by rw [iN_lt (by omega) (by omega)]; omega
    refine ⟨0, fun z => ?_, fun c9 z => ?_⟩
    · rw [d_50_0, d_49_0]
      dsimp only
      rw [f1, f3, if_neg q2, if_neg q2, bI_some, if_neg (by rw [iN_inj (by omega) (by omega)]; omega)]
    · rw [d_211_0, if_pos hin, en]
      simp only [f3, e4]
      rw [if_pos q1]
/-- the trailer of a lane that waits -/
theorem leave32 {i l h : Nat} {c : nC} {m : nM} (hJ : nJ κ i c m) (hi : i % 100000 < 80000) (hl : l < fN c 23) (ck : m 1 0 = iN h) (hh : h < 1000) :
    ∃ (c' : nC) (m' : nM) (n' : Nat), n' ≤ 40 ∧ nJ κ (i + n') c' m' ∧ fr c m c' m' ∧
      (∀ z, R1 xs nx 116 52 [some (vR 0 (some 0)), some (vI (iN l)), some (vR 23 (some l))] [] (c, z) = R1 xs nx 116 81 [some (vR 0 (some 0)), some (vI (iN l)), some (vR 23 (some l))] [] (c', z)) ∧
      ∀ c9 z, R1 xs nx 212 32 [some (vR 1 (some 0)), some (vI (iN l)), none, none, none, none] [] (c9, m, z) = some (.inl none, (c9, m', z)) := by
  have h12 := hJ.1.1.1
  have h26 := hJ.1.2.2.1
  have lin : mIn (iN l) 12 = true := iN_in (by omega) (by omega)
  have len : (iN l).toNatClampNeg = l := i32_nat (by omega)
  obtain ⟨-, -, -, -, ⟨f7, R, R1', R2, R3⟩, -, -, ⟨f10, S, S1, S2, S3⟩, ⟨f11, -⟩, ⟨f12, hw⟩⟩ := hJ.2.2.2.1.1 l hl
  have ckc := (nJ_ck hJ).1
  by_cases q0 : m 44 l = -1
  · refine ⟨c, m, 0, Nat.zero_le _, hJ, fr_refl, fun z => ?_, fun c9 z => ?_⟩
    · rw [d_116_52]
      dsimp only
      rw [f12, if_pos q0]
    · rw [d_212_32, if_pos lin, len]
      dsimp only
      rw [if_pos q0]
  · obtain ⟨-, g2, -⟩ := hJ.2.2.2.2.2.2.2.2.2.1
    have hlen : (fL c 5 l).length ≤ 40 := by have := nLin_le (g2 l hl); omega
    have hS : iN (fL c 5 l).length < iN S ↔ (fL c 5 l).length < S := iN_lt (by omega) (by omega)
    have h206 := row206 (xs := xs) (nx := nx) hJ hl (M := m) rfl rfl rfl
    have c52 : ∀ z, R1 xs nx 116 52 [some (vR 0 (some 0)), some (vI (iN l)), some (vR 23 (some l))] [] (c, z) = if (fL c 5 l).length < S ∧ m 1 0 - m 44 l < m 43 l then R1 xs nx 116 81 [some (vR 0 (some 0)), some (vI (iN l)), some (vR 23 (some l))] [] (c, z) else bV (R1 xs nx 115 0 [some (vR 0 (some 0)), some (vR 23 (some l)), none, none] [] (uI 23 l 12 (-1) c, z)) (fun s3 => R1 xs nx 116 81 [some (vR 0 (some 0)), some (vI (iN l)), some (vR 23 (some l))] [] s3) hE := by
      intro z
      rw [d_116_52, d_51_0]
      dsimp only
      rw [f12, if_neg q0, f10, S3, f11, ckc]
      by_cases y1 : (fL c 5 l).length < S
      · rw [if_pos (hS.mpr y1)]
        by_cases y2 : m 1 0 - m 44 l < m 43 l
        · rw [if_pos y2, if_pos ⟨y1, y2⟩, bI_some, if_pos rfl]
        · rw [if_neg y2, if_neg (fun z => y2 z.2), bI_some, if_neg n10]
      · rw [if_neg (fun z => y1 (hS.mp z)), if_neg (fun z => y1 z.1), bI_some, if_neg n10]
    have r32 : ∀ c9 z, R1 xs nx 212 32 [some (vR 1 (some 0)), some (vI (iN l)), none, none, none, none] [] (c9, m, z) = if (fL c 5 l).length < S ∧ m 1 0 - m 44 l < m 43 l then some (.inl none, (c9, m, z)) else if (fL c 5 l).length = 0 then some (.inl none, (c9, uM 44 l (-1) m, z)) else R1 xs nx 212 97 [some (vR 1 (some 0)), some (vI (iN l)), some (vI (iN (fL c 5 l).length)), some (vI (if m 1 0 - m 44 l < m 43 l then 0 else 1)), some (vI (iN 0)), none] [] (c9, m, z) := by
      intro c9 z
      have e75 : ∀ b : Int32, R1 xs nx 212 75 [some (vR 1 (some 0)), some (vI (iN l)), some (vI (iN (fL c 5 l).length)), none, none, none] [(vI b)] (c9, m, z) = if (fL c 5 l).length < S ∧ b = 0 then some (.inl none, (c9, m, z)) else if (fL c 5 l).length < S ∧ (fL c 5 l).length = 0 then some (.inl none, (c9, uM 44 l (-1) m, z)) else R1 xs nx 212 97 [some (vR 1 (some 0)), some (vI (iN l)), some (vI (iN (fL c 5 l).length)), some (vI b), some (vI (iN 0)), none] [] (c9, m, z) := by
        intro b
        rw [d_212_75, if_pos lin, len]
        simp only [S3]
        by_cases y1 : (fL c 5 l).length < S
        · rw [if_pos (hS.mpr y1)]
          by_cases y2 : b = 0
          · rw [if_pos y2, if_pos ⟨y1, y2⟩, d_212_203, if_pos y2]
          · rw [if_neg y2, if_neg (fun (z : (fL c 5 l).length < S ∧ b = 0) => y2 z.2)]
            by_cases y3 : (fL c 5 l).length = 0
            · rw [if_neg (fun (w : (0 : Int32) < iN (fL c 5 l).length) => by have := (iN_lt (a := 0) (by omega) (by omega)).mp w; omega), if_pos ⟨y1, y3⟩, d_212_203, if_neg y2, if_pos lin, len]
            · rw [if_pos (show (0 : Int32) < iN (fL c 5 l).length from (iN_lt (a := 0) (by omega) (by omega)).mpr (by omega)), if_neg (fun (z : (fL c 5 l).length < S ∧ (fL c 5 l).length = 0) => y3 z.2), d_212_94]
              rfl
        · rw [if_neg (fun z => y1 (hS.mp z)), if_neg (fun (z : (fL c 5 l).length < S ∧ b = 0) => y1 z.1), if_neg (fun (z : (fL c 5 l).length < S ∧ (fL c 5 l).length = 0) => y1 z.1), d_212_94]
          rfl
      rw [d_212_32, if_pos lin, len]
      dsimp only
      rw [if_neg q0, h206, bI_some, if_pos lin, if_pos lin]
      dsimp only
      by_cases y2 : m 1 0 - m 44 l < m 43 l
      · rw [if_pos y2, e75]
        simp only [y2, and_true, if_true]
        by_cases y1 : (fL c 5 l).length < S
        · rw [if_pos y1, if_pos y1]
        · rw [if_neg y1, if_neg y1, if_neg (fun z => y1 z.1), if_neg (by omega)]
      · rw [if_neg y2, e75]
        simp only [y2, and_false, if_false, n10]
        by_cases y3 : (fL c 5 l).length = 0
        · rw [if_pos y3, if_pos ⟨by omega, y3⟩]
        · rw [if_neg y3, if_neg (fun z => y3 z.2)]
    by_cases qg : (fL c 5 l).length < S ∧ m 1 0 - m 44 l < m 43 l
    · refine ⟨c, m, 0, Nat.zero_le _, hJ, fr_refl, fun z => ?_, fun c9 z => ?_⟩
      · rw [c52, if_pos qg]
      · rw [r32, if_pos qg]
    · have hJ2 := nJ_44 (l := l) (x := -1) hJ hl (Or.inl rfl)
      have hlenC : (fL (uI 23 l 12 (-1) c) 5 l).length ≤ 100 := by show (fL c 5 l).length ≤ 100; omega
      by_cases qz : (fL c 5 l).length = 0
      · have hO : exL (uI 23 l 12 (-1) c) (fL c 5 l) = [] := by
          rw [List.length_eq_zero_iff.mp qz]
          rfl
        refine ⟨uL 20 0 [] (uI 23 l 12 (-1) c), uM 44 l (-1) m, 0, Nat.zero_le _, nJ_L20 hJ2, fr_trans (fr_uI (t := 23) (by decide)) (fr_trans fr_uL (fr_uM (t := 44) (by decide))), fun z => ?_, fun c9 z => ?_⟩
        · have h110 := r110 (xs := xs) (nx := nx) (t := 5) (l := l) (c := uI 23 l 12 (-1) c) rfl (by decide) hlenC (z := z)
          rw [show exL (uI 23 l 12 (-1) c) (fL (uI 23 l 12 (-1) c) 5 l) = [] from hO] at h110
          rw [c52, if_neg qg, d_115_0, h110, bV_none, d_115_10]
          dsimp only
          rw [fL_at, if_pos rfl, if_neg (by decide), bV_none]
        · rw [r32, if_neg qg, if_pos qz]
      · obtain ⟨m1, a1, a2, a3, a4⟩ := mark212 (xs := xs) (nx := nx) (a1 := iN l) (a2 := iN (fL c 5 l).length) (a3 := if m 1 0 - m 44 l < m 43 l then 0 else 1) h26.1 (fN c 26) 0 m (Nat.zero_add _) h26.2.1 (fun j hj => by omega)
        have hJ3 : nJ κ i (uI 23 l 12 (-1) c) (uM 44 l (-1) m1) := nJ_44 (a3 i c hJ) hl (Or.inl rfl)
        obtain ⟨-, g2', -⟩ := hJ3.2.2.2.2.2.2.2.2.2.1
        obtain ⟨x1, x2, x3, x4⟩ := exL_spec (w := 1) hJ3 (g2' l hl)
        have hL20 : fL (uL 20 0 (exL (uI 23 l 12 (-1) c) (fL c 5 l)) (uI 23 l 12 (-1) c)) 20 0 = exL (uI 23 l 12 (-1) c) (fL c 5 l) := by rw [fL_at, if_pos rfl]
        have x4' : (exL (uI 23 l 12 (-1) c) (fL c 5 l)).length = (fL c 5 l).length := x4
        have hrow : ∀ t, t ≠ 44 → t ≠ 95 → uM 44 l (-1) m1 t = m t := fun t t1 t2 => by rw [uM_ne t1, a1 t t2]
        obtain ⟨c', m', n', u1, u2, u3, u4, u5⟩ := leaveL (xs := xs) (nx := nx) (l := l) (h := h) (n := (fL c 5 l).length) (R := R) (by omega) (exL (uI 23 l 12 (-1) c) (fL c 5 l)) 0 i (uL 20 0 (exL (uI 23 l 12 (-1) c) (fL c 5 l)) (uI 23 l 12 (-1) c)) (uM 44 l (-1) m1) none none (nJ_L20 hJ3) (by omega) (by rw [hrow 1 (by decide) (by decide)]; exact ck) hh hl (by rw [hrow 39 (by decide) (by decide)]; exact R3) (by rw [hL20]; rfl) (by rw [hL20]; exact x4') (by omega) hlen
          (fun x hx => by
            have := x1 x
            rw [show x ∈ exL (uI 23 l 12 (-1) c) (fL c 5 l) ↔ _ from this]
            unfold cM
            constructor
            · intro w
              have w := of_decide_eq_true w
              exact ⟨hx, w.1, w.2.1⟩
            · rintro ⟨-, w1, w2⟩
              exact decide_eq_true ⟨w1, w2, by rw [uM_ne (by decide)]; exact a2 x hx⟩)
          (fun x hx => ((x1 x).mp hx).1) x2 x3 uM_kk
        have f0 : fr c m (uL 20 0 (exL (uI 23 l 12 (-1) c) (fL c 5 l)) (uI 23 l 12 (-1) c)) (uM 44 l (-1) m1) := by
          have f01 : fr c m (uL 20 0 (exL (uI 23 l 12 (-1) c) (fL c 5 l)) (uI 23 l 12 (-1) c)) m := fr_trans (fr_uI (t := 23) (by decide)) fr_uL
          refine fr_trans f01 ?_
          refine ⟨fun _ _ => rfl, fun _ => rfl, fun _ _ => rfl, by rw [hrow 1 (by decide) (by decide)], by rw [hrow 1 (by decide) (by decide)], by rw [hrow 1 (by decide) (by decide)], hrow 31 (by decide) (by decide), fun k hk => ?_⟩
          rw [hrow 66 (by decide) (by decide)] at hk
          rw [hrow 67 (by decide) (by decide), hrow 69 (by decide) (by decide)]
          exact Or.inl ⟨hk, rfl, rfl⟩
        refine ⟨c', m', n', by omega, u2, fr_trans f0 u3, fun z => ?_, fun c9 z => ?_⟩
        · have h110 := r110 (xs := xs) (nx := nx) (t := 5) (l := l) (c := uI 23 l 12 (-1) c) rfl (by decide) hlenC (z := z)
          rw [c52, if_neg qg, d_115_0, h110, bV_none]
          have := u4 z
          rw [show R1 xs nx 115 10 [some (vR 0 (some 0)), some (vR 23 (some l)), some (vI (0 : Int32)), none] [] (uL 20 0 (exL (uI 23 l 12 (-1) c) (fL (uI 23 l 12 (-1) c) 5 l)) (uI 23 l 12 (-1) c), z) = _ from this, bV_none]
        · rw [r32, if_neg qg, if_neg qz, a4]
          have := u5 (m 44 l) (if m 1 0 - m 44 l < m 43 l then 0 else 1) c9 z
          rw [uM_uM, uM_id (a1 44 (by decide) ▸ rfl)] at this
          exact this
/-- all trailers that leave -/
theorem leaveA {h : Nat} (hh : h ≤ 600) : ∀ (n l i : Nat) (c : nC) (m : nM) (l2 : Option nV), l + n = fN c 23 → nJ κ i c m → i % 100000 + 40 * n < 80000 → m 1 0 = iN h →
    ∃ (c' : nC) (m' : nM) (n' : Nat), n' ≤ 40 * n ∧ nJ κ (i + n') c' m' ∧ fr c m c' m' ∧
      (∀ z, R1 xs nx 116 2 [some (vR 0 (some 0)), some (vI (iN l)), l2] [] (c, z) = some (.inl none, (c', z))) ∧
      ∀ c9 z, R1 xs nx 222 55 [some (vR 1 (some 0)), some (vI (iN l))] [] (c9, m, z) = R1 xs nx 222 76 [some (vR 1 (some 0)), some (vI (0 : Int32))] [] (c9, m', z) := by
  intro n
  induction n with
  | zero =>
    intro l i c m l2 e hJ hi ck
    have c1 := hJ.1.1
    have : l = fN c 23 := by omega
    subst this
    have hn : ¬ iN (fN c 23) < iN (fN c 23) := by rw [iN_lt (by omega) (by omega)]; omega
    refine ⟨c, m, 0, Nat.le_refl _, hJ, fr_refl, fun z => ?_, fun c9 z => ?_⟩
    · rw [d_116_2]
      dsimp only
      rw [c1.2.2, List.length_range, if_neg hn]
    · rw [d_222_55]
      simp only [c1.2.1, hn, if_false]
  | succ n ih =>
    intro l i c m l2 e hJ hi ck
    have c1 := hJ.1.1
    have hl : l < fN c 23 := by omega
    have hlt : iN l < iN (fN c 23) := (iN_lt (by omega) (by omega)).mpr hl
    have lin : mIn (iN l) 12 = true := iN_in (by omega) (by omega)
    have len : (iN l).toNatClampNeg = l := i32_nat (by omega)
    obtain ⟨-, -, -, -, -, -, -, -, -, ⟨f12, -⟩⟩ := hJ.2.2.2.1.1 l hl
    obtain ⟨b, d1, d2⟩ := due50 (xs := xs) (nx := nx) hJ hl (show h < 90000 by omega)
    have ckc := (nJ_ck hJ).1
    obtain ⟨c0, m0, v1, v2, v3, v4, v5⟩ : ∃ c0 m0, nJ κ i c0 m0 ∧ fr c m c0 m0 ∧ m0 1 0 = iN h ∧ (∀ z, R1 xs nx 116 2 [some (vR 0 (some 0)), some (vI (iN l)), l2] [] (c, z) = R1 xs nx 116 52 [some (vR 0 (some 0)), some (vI (iN l)), some (vR 23 (some l))] [] (c0, z)) ∧ ∀ c9 z, R1 xs nx 212 0 [some (vR 1 (some 0)), some (vI (iN l)), none, none, none, none] [] (c9, m, z) = R1 xs nx 212 32 [some (vR 1 (some 0)), some (vI (iN l)), none, none, none, none] [] (c9, m0, z) := by
      have cst : ∀ z, R1 xs nx 116 2 [some (vR 0 (some 0)), some (vI (iN l)), l2] [] (c, z) = if b = 0 then R1 xs nx 116 52 [some (vR 0 (some 0)), some (vI (iN l)), some (vR 23 (some l))] [] (c, z) else if m 44 l = -1 then R1 xs nx 116 52 [some (vR 0 (some 0)), some (vI (iN l)), some (vR 23 (some l))] [] (uI 23 l 12 (m 1 0) c, z) else R1 xs nx 116 52 [some (vR 0 (some 0)), some (vI (iN l)), some (vR 23 (some l))] [] (c, z) := by
        intro z
        have d1' := d1 z
        rw [← ck, ← ckc] at d1'
        rw [d_116_2]
        dsimp only
        rw [c1.2.2, List.length_range, if_pos hlt, if_neg (iN_pos (by omega)), len, List.getElem?_range hl, nn_some, d1', bI_some]
        dsimp only
        rw [f12, ckc]
      have rst : ∀ c9 z, R1 xs nx 212 0 [some (vR 1 (some 0)), some (vI (iN l)), none, none, none, none] [] (c9, m, z) = if m 44 l = -1 then (if b = 0 then R1 xs nx 212 32 [some (vR 1 (some 0)), some (vI (iN l)), none, none, none, none] [] (c9, m, z) else R1 xs nx 212 32 [some (vR 1 (some 0)), some (vI (iN l)), none, none, none, none] [] (c9, uM 44 l (m 1 0) m, z)) else R1 xs nx 212 32 [some (vR 1 (some 0)), some (vI (iN l)), none, none, none, none] [] (c9, m, z) := by
        intro c9 z
        have d2' := d2 c9 z
        rw [← ck] at d2'
        rw [d_212_0, if_pos lin, len]
        dsimp only
        rw [d2', bI_some]
        simp only [lin, if_true]
      by_cases q : m 44 l = -1 ∧ b ≠ 0
      · refine ⟨uI 23 l 12 (m 1 0) c, uM 44 l (m 1 0) m, nJ_44 hJ hl (Or.inr ⟨(nJ_ck hJ).2, by rw [Int32.le_iff_toInt_le]; omega⟩), fr_trans (fr_uI (t := 23) (by decide)) (fr_uM (t := 44) (by decide)), by rw [uM_ne (by decide)]; exact ck, fun z => ?_, fun c9 z => ?_⟩
        · rw [cst, if_neg q.2, if_pos q.1]
        · rw [rst, if_pos q.1, if_neg q.2]
      · refine ⟨c, m, hJ, fr_refl, ck, fun z => ?_, fun c9 z => ?_⟩
        · rw [cst]
          by_cases y : b = 0
          · rw [if_pos y]
          · rw [if_neg y, if_neg (fun w => q ⟨w, y⟩)]
        · rw [rst]
          by_cases y : m 44 l = -1
          · rw [if_pos y, if_pos (Classical.byContradiction (fun w => q ⟨y, w⟩))]
          · rw [if_neg y]
    have hN0 : fN c0 23 = fN c 23 := v2.1 23 (by decide)
    obtain ⟨c1', m1, n1, t1, t2, t3, t4, t5⟩ := leave32 (xs := xs) (nx := nx) v1 (by omega) (by rw [hN0]; exact hl) v3 (by omega)
    have hN1 : fN c1' 23 = fN c 23 := (t3.1 23 (by decide)).trans hN0
    obtain ⟨c', m', n', u1, u2, u3, u4, u5⟩ := ih (l + 1) (i + n1) c1' m1 (some (vR 23 (some l))) (by omega) t2 (by omega) (by rw [t3.2.2.2.1]; exact v3)
    refine ⟨c', m', n1 + n', by omega, by rw [← Nat.add_assoc]; exact u2, fr_trans v2 (fr_trans t3 u3), fun z => ?_, fun c9 z => ?_⟩
    · rw [v4 z, t4 z, d_116_81, iN_add1]
      exact u4 z
    · rw [d_222_55]
      simp only [c1.2.1, hlt, if_true]
      rw [v5 c9 z, t5 c9 z, bV_none, iN_add1]
      exact u5 c9 z
end OQO
end KAP
