/-! ===== an hour: all vans ===== -/
section KAP
variable {κ : kP}
section ORF
variable {xs : Nat → Int32} {nx : Nat}
theorem absd {a b : Nat} (ha : a ≤ 60) (hb : b ≤ 60) : (if (0 : Int32) ≤ iN a - iN b then iN a - iN b else 0 - (iN a - iN b)) = iN (if b < a then a - b else b - a) := by
  have hs : (iN a - iN b).toInt = (a : Int) - b := iN_subI (by omega) (by omega)
  by_cases q : b < a
  · rw [if_pos q, if_pos (by rw [Int32.le_iff_toInt_le, hs, show (0 : Int32).toInt = 0 from rfl]; omega)]
    exact i32_sub (by omega) (by omega)
  · rw [if_neg q]
    by_cases e : a = b
    · subst e
      rw [if_pos (by rw [Int32.le_iff_toInt_le, hs, show (0 : Int32).toInt = 0 from rfl]; omega)]
      exact i32_sub (by omega) (by omega)
    · rw [if_neg (by rw [Int32.le_iff_toInt_le, hs, show (0 : Int32).toInt = 0 from rfl]; omega), ← Int32.toInt_inj, tI_sub] <;> rw [hs, show (0 : Int32).toInt = 0 from rfl]
      · rw [iN_toInt (by omega)]
        omega
      · omega
      · omega
/-- the hours at which the parcels of a round are to be met, in the class -/
theorem r76L {v S i : Nat} {T F : Nat → Nat} {R : List Nat} {m : nM} (hS : S ≤ 23) (hp : i / 100000 = 2 + v) (h30 : R.length ≤ 30) (nd : R.Nodup) : ∀ (n j : Nat) (c : nC) (l4 l5 : Option nV), j + n = R.length → nJ κ i c m → v < fN c 27 → fL c 11 v = R → nTF T F c m → (∀ k, k ∈ R → k < fN c 26) →
    ∃ c', nJ κ i c' m ∧ c'.2 = c.2 ∧ (∀ t, t ≠ 9 → fI c' t = fI c t) ∧ (∀ k, k ∉ R.drop j → fI c' 9 k 9 = fI c 9 k 9) ∧ (∀ x k, j ≤ x → R[x]? = some k → fI c' 9 k 9 = iN (mMx T F (mTm T F S (R.take x)) k / 60)) ∧
      ∀ z, R1 xs nx 76 12 [some (vR 27 (some v)), some (vI (iN (mTm T F S (R.take j)).2)), some (vI (iN (mTm T F S (R.take j)).1)), some (vI (iN j)), l4, l5] [] (c, z) = some (.inl none, (c', z)) := by
  intro n
  induction n with
  | zero =>
    intro j c l4 l5 e hJ hv hL hTF hR
    have hn : ¬ iN j < iN R.length := by rw [iN_lt (by omega) (by omega)]; omega
    refine ⟨c, hJ, rfl, fun _ _ => rfl, fun _ _ => rfl, fun x k hx hxk => ?_, fun z => ?_⟩
    · rw [List.getElem?_eq_none (by omega)] at hxk; cases hxk
    · rw [d_76_12]
      dsimp only
      rw [hL, if_neg hn]
  | succ n ih =>
    intro j c l4 l5 e hJ hv hL hTF hR
    have hjl : j < R.length := by omega
    have hlt : iN j < iN R.length := (iN_lt (by omega) (by omega)).mpr hjl
    have he : R[j]? = some R[j] := List.getElem?_eq_getElem hjl
    have hdr : R.drop j = R[j] :: R.drop (j + 1) := List.drop_eq_getElem_cons hjl
    generalize R[j] = x at he hdr
    have hxR : x ∈ R := List.mem_of_getElem? he
    have hx := hR x hxR
    have hxd : x ∉ R.drop (j + 1) := by
      have := nd.sublist (List.drop_sublist j R)
      rw [hdr, List.nodup_cons] at this
      exact this.1
    obtain ⟨T1, T2, T3, T4⟩ := hTF x hx
    obtain ⟨g1, g2, -⟩ := goal63 (xs := xs) (nx := nx) hJ hx
    have f1 : fI c 24 (gAd c m x) 1 = iN (T x) := by rw [(hJ.2.2.2.2.1.1 _ g1).2.1.1]; exact T1
    have f12 : fI c 26 x 12 = iN (F x) := by
      obtain ⟨y1, y2, y3, y4, y5, y6, y7, y8, y9, y10, y11, -⟩ := hJ.2.2.2.2.2.1 x hx
      rw [y11.1]; exact T3
    obtain ⟨M1, M2⟩ := mTm_le (T := T) (F := F) (S := S) (P := fN c 26) hS (fun k hk' => ⟨(hTF k hk').2.1, (hTF k hk').2.2.2⟩) (R.take j) (fun k hk => hR k (List.mem_of_mem_take hk))
    have hlenT : (R.take j).length ≤ 30 := by rw [List.length_take]; omega
    have htk : R.take (j + 1) = R.take j ++ [x] := by rw [List.take_succ, he]; rfl
    have hMst : mTm T F S (R.take (j + 1)) = (T x, mMx T F (mTm T F S (R.take j)) x + 5) := by rw [htk]; exact mTm_app
    have hmx : mMx T F (mTm T F S (R.take j)) x ≤ 6000 := by
      unfold mMx
      split <;> omega
    have hdis : ∀ w, w < fN c 27 → w ≠ v → x ∉ fL c 11 w := fun w hw hne hmem => hne (hJ.2.2.2.2.2.2.2.2.2.2.2.1.2.1 v w x hv hw (by rw [hL]; exact hxR) hmem).symm
    have hJ1 := nJ_99 (x := iN (mMx T F (mTm T F S (R.take j)) x / 60)) hJ hp hdis
    have hgad : ∀ k, gAd (uI 9 x 9 (iN (mMx T F (mTm T F S (R.take j)) x / 60)) c) m k = gAd c m k := fun k => rfl
    obtain ⟨c', u1, u2, u3, u4, u5, u6⟩ := ih (j + 1) (uI 9 x 9 (iN (mMx T F (mTm T F S (R.take j)) x / 60)) c) (some (vR 26 (some x))) (some (vI (iN (T x)))) (by omega) hJ1 hv hL (fun k hk => by rw [hgad]; exact hTF k hk) hR
    refine ⟨c', u1, u2, fun t ht => by rw [u3 t ht, fI_ne ht], fun k hk => ?_, fun y k hy hyk => ?_, fun z => ?_⟩
    · rw [hdr, List.mem_cons, not_or] at hk
      rw [u4 k hk.2, fI_n hk.1]
    · by_cases z : y = j
      · subst z
        have hxk : x = k := Option.some.inj (he.symm.trans hyk)
        subst hxk
        rw [u4 x hxd, fI_k, if_pos rfl]
      · exact u5 y k (by omega) hyk
    · have hval : (if iN (mTm T F S (R.take j)).2 + (2 : Int32) * iN (if (mTm T F S (R.take j)).1 < T x then T x - (mTm T F S (R.take j)).1 else (mTm T F S (R.take j)).1 - T x) < (60 : Int32) * iN (F x) then (60 : Int32) * iN (F x) else iN (mTm T F S (R.take j)).2 + (2 : Int32) * iN (if (mTm T F S (R.take j)).1 < T x then T x - (mTm T F S (R.take j)).1 else (mTm T F S (R.take j)).1 - T x)) = iN (mMx T F (mTm T F S (R.take j)) x) := by
        have hd : (if (mTm T F S (R.take j)).1 < T x then T x - (mTm T F S (R.take j)).1 else (mTm T F S (R.take j)).1 - T x) ≤ 60 := by split <;> omega
        unfold mMx
        generalize (if (mTm T F S (R.take j)).1 < T x then T x - (mTm T F S (R.take j)).1 else (mTm T F S (R.take j)).1 - T x) = dd at hd
        rw [show (2 : Int32) * iN dd = iN (2 * dd) from iN_mul (a := 2), show (60 : Int32) * iN (F x) = iN (60 * F x) from iN_mul (a := 60), show iN (mTm T F S (R.take j)).2 + iN (2 * dd) = iN ((mTm T F S (R.take j)).2 + 2 * dd) from i32_add]
        exact if_max (by omega) (by omega)
      rw [d_76_12]
      dsimp only
      rw [hL, if_pos hlt, if_neg (iN_pos (by omega)), i32_nat (by omega), he, nn_some, g2 z, bR_some, nn_some]
      dsimp only
      simp only [f1, f12, absd T2 M1, hval]
      rw [show iN (mMx T F (mTm T F S (R.take j)) x) / (60 : Int32) = iN (mMx T F (mTm T F S (R.take j)) x / 60) from iN_div (b := 60) (by omega) (by omega), show iN (mMx T F (mTm T F S (R.take j)) x) + (5 : Int32) = iN (mMx T F (mTm T F S (R.take j)) x + 5) from i32_add (b := 5), iN_add1]
      have := u6 z
      rw [hMst] at this
      exact this
/-- a van begins -/
theorem begV {v J i : Nat} {c : nC} {m : nM} (hJ : nJ κ i c m) (hp : i / 100000 = 2 + v) (hi : i % 100000 < 80000) (hv : v < fN c 27) (hR : nRd [] v J c m) (hc : gCs c m) :
    ∃ (c' : nC) (m' : nM) (R' : List Nat) (n' : Nat), n' ≤ 30 ∧ nJ κ (i + n') c' m' ∧ nRd R' v 0 c' m' ∧ gCs c' m' ∧ fr c m c' m' ∧
      (∀ z, R1 xs nx 123 0 [some (vR 0 (some 0)), some (vR 27 (some v)), none, none, none] [] (c, z) = some (.inl none, (c', z))) ∧
      ∀ c9 z, R1 xs nx 214 0 [some (vR 1 (some 0)), some (vI (iN v)), none, none, none, none, none, none] [] (c9, m, z) = some (.inl none, (c9, m', z)) := by
  obtain ⟨rL, r2, r3, r1, J3, J2, rf, r4, r5, r6⟩ := hR
  have h27 := hJ.1.2.2.2.1.1
  have vin : mIn (iN v) 6 = true := iN_in (by omega) (by omega)
  have ven : (iN v).toNatClampNeg = v := i32_nat (by omega)
  obtain ⟨⟨x1, x2⟩, ⟨f2, Lf, -, L2, L3⟩, ⟨f3, S, -, S2, S3⟩, -⟩ := hJ.2.2.2.2.2.2.2.2.2.2.2.1.1 v hv
  have ck := (nJ_ck hJ).1
  have hckn := (nJ_ck hJ).2
  have hJ1 : nJ κ i (uI 27 v 6 0 (uI 27 v 5 (m 1 0) c)) m := nJ_van hJ hp hv (fun t ht => by rw [fI_ne ht, fI_ne ht]) (fun v' j h => by
      rw [fI_at, if_neg, fI_at, if_neg]
      · rintro ⟨y1, y2⟩
        rcases h with h | h
        · exact h y1
        · exact h.1 y2
      · rintro ⟨y1, y2⟩
        rcases h with h | h
        · exact h y1
        · exact h.2 y2) rfl rfl rfl rfl (fun _ _ => rfl) (fun _ _ => rfl) (fun k hk => by
        have hk' : k ∈ fL c 11 v := hk
        rw [rL] at hk'
        cases hk') (fun _ _ => rfl) (fun _ _ _ _ => rfl) (fun _ _ _ _ => rfl) (hJ.2.2.2.2.2.2.2.2.2.2.2.1.2.2 v (by omega)).1
  have f1 : fr c m (uI 27 v 6 0 (uI 27 v 5 (m 1 0) c)) m := fr_trans (fr_uI (t := 27) (by decide)) (fr_uI (t := 27) (by decide))
  have hTF0 : nTF (fun k => (m 46 (gAd c m k)).toNatClampNeg) (fun k => (m 57 k).toNatClampNeg) (uI 27 v 6 0 (uI 27 v 5 (m 1 0) c)) m := by
    intro k hk
    obtain ⟨g1, -, -⟩ := goal63 (xs := xs) (nx := nx) hJ hk
    obtain ⟨-, ⟨-, t, -, t1, t2⟩, -⟩ := hJ.2.2.2.2.1.1 _ g1
    obtain ⟨y1, y2, y3, y4, y5, y6, y7, y8, y9, y10, ⟨-, w, -, w1, w2⟩, -⟩ := hJ.2.2.2.2.2.1 k hk
    have eg : gAd (uI 27 v 6 0 (uI 27 v 5 (m 1 0) c)) m k = gAd c m k := rfl
    rw [eg]
    dsimp only
    rw [t2, w2, i32_nat (by omega), i32_nat (by omega)]
    exact ⟨rfl, t1, rfl, w1⟩
  obtain ⟨c', m', R', n', u1, u2, u3, u4, u5, u6, u7, u8, u9, u10, u11, u12, ⟨a2', l4', u13⟩, u14⟩ := begL (xs := xs) (nx := nx) (v := v) (D := fX c 27 v 1) (S := S) (T := fun k => (m 46 (gAd c m k)).toNatClampNeg) (F := fun k => (m 57 k).toNatClampNeg) x1 S2 30 i (uI 27 v 6 0 (uI 27 v 5 (m 1 0) c)) m Lf [] none none L2 hJ1 hp (by omega) hv rfl x2 rL (by simpa using L2) List.nodup_nil hTF0
    (fun j k hjk => by simp at hjk) r4 (fun k hk z => by cases r5 k hk z) hc
  have ip : (i + n') / 100000 = 2 + v := by omega
  have hN27 : fN c' 27 = fN c 27 := (u3.1 27 (by decide)).trans (f1.1 27 (by decide))
  have hRlt : ∀ k, k ∈ R' → k < fN c' 26 := fun k hk' => by
    obtain ⟨j, hj⟩ := List.getElem?_of_mem hk'
    exact (u8 j k hj).1
  obtain ⟨c2, w1, w2, w3, w4, w5, w6⟩ := r76L (xs := xs) (nx := nx) (v := v) (S := S) (i := i + n') (R := R') (m := m') S2 ip u4 u5 R'.length 0 c' none none (Nat.zero_add _) u2 (by rw [hN27]; exact hv) u6 u7 hRlt
  have e3 : fL c2 = fL c' := congrArg (·.2.2.2.1) w2
  have eN : fN c2 = fN c' := congrArg (·.2.2.2.2) w2
  have eX : fX c2 = fX c' := congrArg (·.1) w2
  have eP : fP c2 = fP c' := congrArg (·.2.1) w2
  have e10 : m' 1 0 = m 1 0 := u3.2.2.2.1
  have e27 : fI c2 27 = fI (uI 27 v 6 0 (uI 27 v 5 (m 1 0) c)) 27 := by rw [w3 27 (by decide), u12]
  have hJ3 : nJ κ (i + n') c2 (uM 82 v (m' 1 0) (uM 84 v 0 (uM 83 v (iN R'.length) m'))) := nJ_van w1 ip (by rw [eN, hN27]; exact hv) (fun _ _ => rfl) (fun _ _ _ => rfl) rfl rfl rfl rfl (fun _ _ => rfl) (fun _ _ => rfl) (fun k hk v' hv' hne hmem => hne (w1.2.2.2.2.2.2.2.2.2.2.2.1.2.1 v v' k (by rw [eN, hN27]; exact hv) hv' hk hmem).symm) (fun t ht => by rw [uM_ne (by omega), uM_ne (by omega), uM_ne (by omega)]) (fun t w hw hne => by rw [uM_k hne, uM_k hne, uM_k hne]) (fun t y hy _ => by rw [uM_ne (by omega), uM_ne (by omega), uM_ne (by omega)]) (by rw [uM_ne (by decide), uM_kk]; exact ⟨0, Nat.zero_le _, by omega, rfl⟩)
  have MM : ∀ t, t ≠ 82 → t ≠ 83 → t ≠ 84 → uM 82 v (m' 1 0) (uM 84 v 0 (uM 83 v (iN R'.length) m')) t = m' t := fun t a1 a2 a3 => by rw [uM_ne a1, uM_ne a3, uM_ne a2]
  refine ⟨c2, _, R', n', u1, hJ3, ⟨by rw [e3]; exact u6, u4, u5, ?_, ?_, by omega, fun _ => ⟨Nat.zero_le _, ?_, ?_, ?_, ?_⟩, fun k hk z1 z2 => ?_, fun k hk z => ?_, fun j k hjk => ?_⟩, fun k hk hz => ?_, ?_, fun z => ?_, fun c9 z => ?_⟩
  · rw [uM_ne (by decide), uM_ne (by decide), uM_kk]
  · rw [uM_ne (by decide), uM_kk]; rfl
  · rw [e27, fI_at, if_pos ⟨rfl, rfl⟩]; rfl
  · rw [e27, fI_at, if_neg (fun z => absurd z.2 (by decide)), fI_at, if_pos ⟨rfl, rfl⟩, uM_kk, e10]
  · rw [uM_kk, e10]; exact hckn
  · rw [uM_kk, MM 1 (by decide) (by decide) (by decide), Int32.le_iff_toInt_le]; omega
  · rw [MM 66 (by decide) (by decide) (by decide)] at z1
    rw [MM 67 (by decide) (by decide) (by decide)] at z2
    exact u9 k (by rw [← eN]; exact hk) z1 z2
  · rw [MM 78 (by decide) (by decide) (by decide)] at z
    exact absurd z (u10 k (by rw [← eN]; exact hk))
  · obtain ⟨a1, a2, a3, a4, a5, a6, a7⟩ := u8 j k hjk
    have h9 := w5 j k (Nat.zero_le _) hjk
    have hTa : ∀ q, q < fN c' 26 → (m 46 (gAd c m q)).toNatClampNeg ≤ 60 ∧ (m 57 q).toNatClampNeg ≤ 23 := fun q hq => ⟨(u7 q hq).2.1, (u7 q hq).2.2.2⟩
    obtain ⟨M1, M2⟩ := mTm_le (T := fun k => (m 46 (gAd c m k)).toNatClampNeg) (F := fun k => (m 57 k).toNatClampNeg) (S := S) (P := fN c' 26) S2 hTa (R'.take j) (fun q hq => hRlt q (List.mem_of_mem_take hq))
    have hlenT : (R'.take j).length ≤ 30 := by rw [List.length_take]; omega
    obtain ⟨t1, t2⟩ := hTa k a1
    have hmx : mMx (fun k => (m 46 (gAd c m k)).toNatClampNeg) (fun k => (m 57 k).toNatClampNeg) (mTm (fun k => (m 46 (gAd c m k)).toNatClampNeg) (fun k => (m 57 k).toNatClampNeg) S (R'.take j)) k ≤ 6000 := by
      unfold mMx
      dsimp only
      split <;> omega
    rw [eN, MM 85 (by decide) (by decide) (by decide), MM 86 (by decide) (by decide) (by decide), MM 87 (by decide) (by decide) (by decide), MM 66 (by decide) (by decide) (by decide), MM 67 (by decide) (by decide) (by decide), MM 78 (by decide) (by decide) (by decide), h9]
    exact ⟨a1, a5, a7, ⟨_, Nat.zero_le _, by omega, rfl⟩, Or.inl ⟨a2, a3, a4, Or.inl a6, fun y => by omega, fun _ => a6⟩⟩
  · rw [MM 56 (by decide) (by decide) (by decide)] at hz
    rw [MM 78 (by decide) (by decide) (by decide), eP]
    exact u11 k (by rw [← eN]; exact hk) hz
  · have f2' : fr c' m' c2 m' := by
      refine ⟨fun t _ => by rw [eN], fun d => by rw [w3 21 (by decide)], fun t _ => by rw [eX], rfl, rfl, rfl, rfl, fun k hk => Or.inl ⟨hk, rfl, rfl⟩⟩
    exact fr_trans f1 (fr_trans u3 (fr_trans f2' (fr_trans (fr_uM (t := 83) (by decide)) (fr_trans (fr_uM (t := 84) (by decide)) (fr_uM (t := 82) (by decide))))))
  · have h76 : R1 xs nx 76 0 [some (vR 27 (some v)), none, none, none, none, none] [] (c', z) = some (.inl none, (c2, z)) := by
      rw [d_76_0]
      dsimp only
      have e3' : fI c' 27 v 3 = iN S := by rw [u12, fI_at, if_neg (fun z => absurd z.2 (by decide)), fI_at, if_neg (fun z => absurd z.2 (by decide)), f3, S3]
      rw [e3', show (60 : Int32) * iN S = iN (60 * S) from iN_mul (a := 60)]
      exact w6 z
    have e2' : fI (uI 27 v 6 0 (uI 27 v 5 (m 1 0) c)) 27 v 2 = iN Lf := by rw [fI_at, if_neg (fun z => absurd z.2 (by decide)), fI_at, if_neg (fun z => absurd z.2 (by decide)), f2, L3]
    rw [d_123_0]
    dsimp only
    rw [ck, e2']
    have := u13 z
    rw [show R1 xs nx 123 20 [some (vR 0 (some 0)), some (vR 27 (some v)), some (vI (iN Lf)), some (vI (0 : Int32)), none] [] (uI 27 v 6 0 (uI 27 v 5 (m 1 0) c), z) = _ from this, d_123_96, h76, bV_none]
  · rw [d_214_0, if_pos vin, if_pos vin, ven]
    dsimp only
    rw [L3, S3, show (60 : Int32) * iN S = iN (60 * S) from iN_mul (a := 60)]
    exact u14 c9 z
/-- all vans -/
theorem vanA {t : Nat} (ht : t ≤ 600) : ∀ (n : Nat) (κ : kP) (v i : Nat) (c : nC) (m : nM) (a1 : Int32) (l3 : Option nV), v + n = fN c 27 → nJ κ (100000 + i) c m → i + 150 * n < 70000 → m 1 0 = iN t →
    ∃ (c' : nC) (m' : nM) (g n' : Nat), n' ≤ 150 * n ∧ nJ (κ.1 + g, κ.2) (100000 + (i + n')) c' m' ∧ fv c m c' m' ∧ m' 1 75 = m 1 75 + iN g ∧
      (∀ z, R1 xs nx 124 4 [some (vR 0 (some 0)), some (vI a1), some (vI (iN v)), l3] [] (c, z) = some (.inl (some (vI (a1 + iN g))), (c', z))) ∧
      ∀ c9 z, R1 xs nx 222 76 [some (vR 1 (some 0)), some (vI (iN v))] [] (c9, m, z) = R1 xs nx 222 132 [some (vR 1 (some 0)), some (vI (0 : Int32))] [] (c9, m', z) := by
  intro n
  induction n with
  | zero =>
    intro κ v i c m a1 l3 e hJ hi ck
    have h27 := hJ.1.2.2.2.1
    have : v = fN c 27 := by omega
    subst this
    have hn : ¬ iN (fN c 27) < iN (fN c 27) := by rw [iN_lt (by omega) (by omega)]; omega
    refine ⟨c, m, 0, 0, Nat.le_refl _, hJ, fv_refl, iN_a0.symm, fun z => ?_, fun c9 z => ?_⟩
    · rw [d_124_4]
      dsimp only
      rw [h27.2.2, List.length_range, if_neg hn, show a1 + iN 0 = a1 from iN_a0]
    · rw [d_222_76]
      simp only [h27.2.1, hn, if_false]
  | succ n ih =>
    intro κ v i c m a1 l3 e hJ hi ck
    have h27 := hJ.1.2.2.2.1
    have hv : v < fN c 27 := by omega
    have hv6 : v < 6 := by omega
    have hlt : iN v < iN (fN c 27) := (iN_lt (by omega) (by omega)).mpr hv
    have vin : mIn (iN v) 6 = true := iN_in (by omega) (by omega)
    have ven : (iN v).toNatClampNeg = v := i32_nat (by omega)
    obtain ⟨hJ0, hC0, J0, hR0, hfin0⟩ := toV hJ (show i < 90000 by omega) hv
    obtain ⟨c1, m1, J1, g1, n1, a1', a2', a3', a4', a5', a6', a7', a8', a9'⟩ := drvV (xs := xs) (nx := nx) hJ0 (by omega) (by omega) hv hR0 hC0
    have hN1 : fN c1 27 = fN c 27 := a6'.1 27 (by decide)
    obtain ⟨c2, m2, R2, n2, b1', b2', b3', b4', b5', b6', b7', b8'⟩ := backV (xs := xs) (nx := nx) a3' (by omega) (by omega) (by rw [hN1]; exact hv) a4' a5' a2'
    have hN2 : fN c2 27 = fN c 27 := (b6'.1 27 (by decide)).trans hN1
    have ck2 : m2 1 0 = iN t := by rw [b6'.2.2.2.1, a6'.2.2.2.1]; exact ck
    have h75 : m2 1 75 = m 1 75 + iN g1 := by rw [b6'.2.2.2.2.1]; exact a7'
    have f02 : fv c m c2 m2 := fv_trans a6' (fv_fr b6')
    have ckc2 := (nJ_ck b2').1
    obtain ⟨-, -, ⟨f3, S, -, S2, S3⟩, -⟩ := b2'.2.2.2.2.2.2.2.2.2.2.2.1.1 v (by rw [hN2]; exact hv)
    have e83 : m2 83 v = iN R2.length := b3'.2.2.2.1
    have e11 : fL c2 11 v = R2 := b3'.1
    have hR2 : R2.length ≤ 30 := b3'.2.1
    have r83 : (m2 83 v = 0) ↔ R2 = [] := by
      rw [e83, show (0 : Int32) = iN 0 from rfl, iN_inj (by omega) (by omega)]
      exact List.length_eq_zero_iff
    have cst : ∀ z, R1 xs nx 124 4 [some (vR 0 (some 0)), some (vI a1), some (vI (iN v)), l3] [] (c, z) = if R2 = [] ∧ m2 1 0 - m2 1 0 / 24 * 24 = m2 81 v then bV (R1 xs nx 123 0 [some (vR 0 (some 0)), some (vR 27 (some v)), none, none, none] [] (c2, z)) (fun s5 => bI (R1 xs nx 118 0 [some (vR 0 (some 0)), some (vR 27 (some v)), none, none, none] [] s5) (fun x7 s6 => bV (R1 xs nx 121 0 [some (vR 0 (some 0)), some (vR 27 (some v)), none, none] [] s6) (fun s8 => R1 xs nx 124 82 [some (vR 0 (some 0)), some (vI ((a1 + iN g1) + x7)), some (vI (iN v)), some (vR 27 (some v))] [] s8) hE) hE) hE else R1 xs nx 124 82 [some (vR 0 (some 0)), some (vI (a1 + iN g1)), some (vI (iN v)), some (vR 27 (some v))] [] (c2, z) := by
      intro z
      rw [d_124_4]
      dsimp only
      rw [h27.2.2, List.length_range, if_pos hlt, if_neg (iN_pos (by omega)), ven, List.getElem?_range hv, nn_some, a8' z, bI_some, b7' z, bV_none]
      dsimp only
      rw [e11, ckc2, f3]
      by_cases q : R2 = []
      · rw [if_pos q, if_neg n10]
        by_cases q2 : m2 1 0 - m2 1 0 / 24 * 24 = m2 81 v
        · rw [if_pos q2, if_pos ⟨q, q2⟩]
        · rw [if_neg q2, if_neg (fun w => q2 w.2)]
      · rw [if_neg q, if_pos rfl, if_neg (fun w => q w.1)]
    have rst : ∀ c9 z, R1 xs nx 222 76 [some (vR 1 (some 0)), some (vI (iN v))] [] (c9, m, z) = if R2 = [] ∧ m2 1 0 - m2 1 0 / 24 * 24 = m2 81 v then bV (R1 xs nx 214 0 [some (vR 1 (some 0)), some (vI (iN v)), none, none, none, none, none, none] [] (c9, m2, z)) (fun s2 => bV (R1 xs nx 221 0 [some (vR 1 (some 0)), some (vI (iN v))] [] s2) (fun s3 => R1 xs nx 222 124 [some (vR 1 (some 0)), some (vI (iN v))] [] s3) hE) hE else R1 xs nx 222 124 [some (vR 1 (some 0)), some (vI (iN v))] [] (c9, m2, z) := by
      intro c9 z
      rw [d_222_76]
      simp only [h27.2.1, hlt, if_true]
      rw [a9', b8', bV_none, if_pos vin, ven]
      dsimp only
      by_cases q : R2 = []
      · rw [if_pos (r83.mpr q), if_pos vin]
        by_cases q2 : m2 1 0 - m2 1 0 / 24 * 24 = m2 81 v
        · rw [if_pos q2, if_pos ⟨q, q2⟩]
        · rw [if_neg q2, if_neg (fun w => q2 w.2)]
      · rw [if_neg (fun w => q (r83.mp w)), if_neg (fun w => q w.1)]
    by_cases hb : R2 = [] ∧ m2 1 0 - m2 1 0 / 24 * 24 = m2 81 v
    · obtain ⟨hb1, hb2⟩ := hb
      have b3'' := b3'
      rw [hb1] at b3''
      obtain ⟨c3, m3, R3, n3, d1', d2', d3', d4', d5', d6', d7'⟩ := begV (xs := xs) (nx := nx) b2' (by omega) (by omega) (by rw [hN2]; exact hv) b3'' b5'
      have hN3 : fN c3 27 = fN c 27 := (d5'.1 27 (by decide)).trans hN2
      obtain ⟨c4, m4, J4, g4, n4, e1', e2', e3', e4', e5', e6', e7', e8', e9'⟩ := drvV (xs := xs) (nx := nx) d2' (by omega) (by omega) (by rw [hN3]; exact hv) d3' d4'
      have hN4 : fN c4 27 = fN c 27 := (e6'.1 27 (by decide)).trans hN3
      obtain ⟨c5, m5, R5, n5, h1', h2', h3', h4', h5', h6', h7', h8'⟩ := backV (xs := xs) (nx := nx) e3' (by omega) (by omega) (by rw [hN4]; exact hv) e4' e5' e2'
      have hN5 : fN c5 27 = fN c 27 := (h6'.1 27 (by decide)).trans hN4
      have hJ5 : nJ (κ.1 + g1 + g4, κ.2) (100000 + (i + (n1 + n2 + n3 + n4 + n5))) c5 m5 := by
        refine fromV (v := v) (J := J4) (R := R5) ?_ (by omega) (by rw [hN5]; exact hv) h5' h3' h4'
        rw [show 100000 * (2 + v) + (i + (n1 + n2 + n3 + n4 + n5)) = 100000 * (2 + v) + i + n1 + n2 + n3 + n4 + n5 by omega]
        exact h2'
      have f05 : fv c m c5 m5 := fv_trans f02 (fv_trans (fv_fr d5') (fv_trans e6' (fv_fr h6')))
      have h755 : m5 1 75 = m 1 75 + iN (g1 + g4) := by
        rw [h6'.2.2.2.2.1, e7', d5'.2.2.2.2.1, h75, Int32.add_assoc, show iN g1 + iN g4 = iN (g1 + g4) from i32_add]
      obtain ⟨c', m', g, n', u1, u2, u3, u4, u5, u6⟩ := ih (κ.1 + g1 + g4, κ.2) (v + 1) (i + (n1 + n2 + n3 + n4 + n5)) c5 m5 (a1 + iN (g1 + g4)) (some (vR 27 (some v))) (by omega) hJ5 (by omega) (by rw [f05.2.2.2.1]; exact ck)
      refine ⟨c', m', g1 + g4 + g, n1 + n2 + n3 + n4 + n5 + n', by omega, by rw [show κ.1 + (g1 + g4 + g) = κ.1 + g1 + g4 + g by omega, show i + (n1 + n2 + n3 + n4 + n5 + n') = i + (n1 + n2 + n3 + n4 + n5) + n' by omega]; exact u2, fv_trans f05 u3, ?_, fun z => ?_, fun c9 z => ?_⟩
      · rw [u4, h755, Int32.add_assoc, show iN (g1 + g4) + iN g = iN (g1 + g4 + g) from i32_add]
      · rw [cst, if_pos ⟨hb1, hb2⟩, d6' z, bV_none, e8' z, bI_some, h7' z, bV_none, d_124_82, iN_add1, Int32.add_assoc, show iN g1 + iN g4 = iN (g1 + g4) from i32_add]
        have := u5 z
        rw [Int32.add_assoc, show iN (g1 + g4) + iN g = iN (g1 + g4 + g) from i32_add] at this
        exact this
      · rw [rst, if_pos ⟨hb1, hb2⟩, d7', bV_none, e9', h8', bV_none, d_222_124, iN_add1]
        exact u6 c9 z
    · have hJ2 : nJ (κ.1 + g1, κ.2) (100000 + (i + (n1 + n2))) c2 m2 := by
        refine fromV (v := v) (J := J1) (R := R2) ?_ (by omega) (by rw [hN2]; exact hv) b5' b3' b4'
        rw [show 100000 * (2 + v) + (i + (n1 + n2)) = 100000 * (2 + v) + i + n1 + n2 by omega]
        exact b2'
      obtain ⟨c', m', g, n', u1, u2, u3, u4, u5, u6⟩ := ih (κ.1 + g1, κ.2) (v + 1) (i + (n1 + n2)) c2 m2 (a1 + iN g1) (some (vR 27 (some v))) (by omega) hJ2 (by omega) ck2
      refine ⟨c', m', g1 + g, n1 + n2 + n', by omega, by rw [show κ.1 + (g1 + g) = κ.1 + g1 + g by omega, show i + (n1 + n2 + n') = i + (n1 + n2) + n' by omega]; exact u2, fv_trans f02 u3, ?_, fun z => ?_, fun c9 z => ?_⟩
      · rw [u4, h75, Int32.add_assoc, show iN g1 + iN g = iN (g1 + g) from i32_add]
      · rw [cst, if_neg hb, d_124_82, iN_add1]
        have := u5 z
        rw [Int32.add_assoc, show iN g1 + iN g = iN (g1 + g) from i32_add] at this
        exact this
      · rw [rst, if_neg hb, d_222_124, iN_add1]
        exact u6 c9 z
end ORF
end KAP
