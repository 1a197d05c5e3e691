/-! ===== constructors keep what relates the memories: made by wip/whole/gen2/mk53.py ===== -/
section NCTK
variable {xs : Nat → Int32} {nx y pc : Nat} {L : nLs} {S : List nV} {p : Option Nat} {s : nS} {σ : mS} {g : Nat → Nat → Option (Nat × Nat)} {k : Nat}
theorem nFs_1 : nFs 1 k s = [.ref (mAd 21 (fX s.1 24 k 0)), .int (fI s.1 24 k 1), .int (fI s.1 24 k 2), .int (fI s.1 24 k 3)] := rfl
theorem nVk_1 (h0 : vk (fN s.1) none (vR 21 (some (fX s.1 24 k 0)))) : ∀ j, j < nFl 1 → vk (fN s.1) none (nGet 1 j k s) := fun j hj => match j, hj with
  | 0, _ => h0
  | 1, _ => trivial
  | 2, _ => trivial
  | 3, _ => trivial
  | j + 4, h => absurd h (by rw [show nFl 1 = 4 from rfl]; omega)
theorem nFs_4 : nFs 4 k s = [.int (Int32.ofNat k), .ref (mAd 21 (fX s.1 23 k 1)), .ref (mAd 21 (fX s.1 23 k 2)), .int (fI s.1 23 k 3), .int (fI s.1 23 k 4), .ref (mAd 5 k), .ref (mAd 6 k), .int (fI s.1 23 k 7), .int (fI s.1 23 k 8), .int (fI s.1 23 k 9), .int (fI s.1 23 k 10), .int (fI s.1 23 k 11), .int (fI s.1 23 k 12)] := rfl
theorem nVk_4 (h1 : vk (fN s.1) none (vR 21 (some (fX s.1 23 k 1)))) (h2 : vk (fN s.1) none (vR 21 (some (fX s.1 23 k 2)))) (h5 : vk (fN s.1) none (vL (some (5, k)))) (h6 : vk (fN s.1) none (vL (some (6, k)))) : ∀ j, j < nFl 4 → vk (fN s.1) none (nGet 4 j k s) := fun j hj => match j, hj with
  | 0, _ => trivial
  | 1, _ => h1
  | 2, _ => h2
  | 3, _ => trivial
  | 4, _ => trivial
  | 5, _ => h5
  | 6, _ => h6
  | 7, _ => trivial
  | 8, _ => trivial
  | 9, _ => trivial
  | 10, _ => trivial
  | 11, _ => trivial
  | 12, _ => trivial
  | j + 13, h => absurd h (by rw [show nFl 4 = 13 from rfl]; omega)
theorem nFs_5 : nFs 5 k s = [.int (Int32.ofNat k), .ref (mAd 21 (fX s.1 28 k 1)), .ref (mAd 7 k)] := rfl
theorem nVk_5 (h1 : vk (fN s.1) none (vR 21 (some (fX s.1 28 k 1)))) (h2 : vk (fN s.1) none (vR 7 (some k))) : ∀ j, j < nFl 5 → vk (fN s.1) none (nGet 5 j k s) := fun j hj => match j, hj with
  | 0, _ => trivial
  | 1, _ => h1
  | 2, _ => h2
  | j + 3, h => absurd h (by rw [show nFl 5 = 3 from rfl]; omega)
theorem nFs_6 : nFs 6 k s = [.int (fI s.1 8 k 0), .int (fI s.1 8 k 1), .int (fI s.1 8 k 2), .int (fI s.1 8 k 3), .int (fI s.1 8 k 4), vw (fN s.1) (vR 21 (fP s.1 8 k 5))] := rfl
theorem nVk_6 (h5 : vk (fN s.1) none (vR 21 (fP s.1 8 k 5))) : ∀ j, j < nFl 6 → vk (fN s.1) none (nGet 6 j k s) := fun j hj => match j, hj with
  | 0, _ => trivial
  | 1, _ => trivial
  | 2, _ => trivial
  | 3, _ => trivial
  | 4, _ => trivial
  | 5, _ => h5
  | j + 6, h => absurd h (by rw [show nFl 6 = 6 from rfl]; omega)
theorem nFs_7 : nFs 7 k s = [.int (Int32.ofNat k), .ref (mAd 24 (fX s.1 26 k 1)), .int (fI s.1 26 k 2), .int (fI s.1 26 k 3), .int (fI s.1 26 k 4), .ref (mAd 8 k), .ref (mAd 9 k), .ref (mAd 10 k), vw (fN s.1) (vR 22 (fP s.1 26 k 8)), .int (fI s.1 26 k 9), .ref (mAd 24 (fX s.1 26 k 10)), vw (fN s.1) (vR 24 (fP s.1 26 k 11)), .int (fI s.1 26 k 12), .int (fI s.1 26 k 13), .int (fI s.1 26 k 14), .int (fI s.1 26 k 15), .int (fI s.1 26 k 16), .int (fI s.1 26 k 17)] := rfl
theorem nVk_7 (h1 : vk (fN s.1) none (vR 24 (some (fX s.1 26 k 1)))) (h5 : vk (fN s.1) none (vR 8 (some k))) (h6 : vk (fN s.1) none (vR 9 (some k))) (h7 : vk (fN s.1) none (vL (some (10, k)))) (h8 : vk (fN s.1) none (vR 22 (fP s.1 26 k 8))) (h10 : vk (fN s.1) none (vR 24 (some (fX s.1 26 k 10)))) (h11 : vk (fN s.1) none (vR 24 (fP s.1 26 k 11))) : ∀ j, j < nFl 7 → vk (fN s.1) none (nGet 7 j k s) := fun j hj => match j, hj with
  | 0, _ => trivial
  | 1, _ => h1
  | 2, _ => trivial
  | 3, _ => trivial
  | 4, _ => trivial
  | 5, _ => h5
  | 6, _ => h6
  | 7, _ => h7
  | 8, _ => h8
  | 9, _ => trivial
  | 10, _ => h10
  | 11, _ => h11
  | 12, _ => trivial
  | 13, _ => trivial
  | 14, _ => trivial
  | 15, _ => trivial
  | 16, _ => trivial
  | 17, _ => trivial
  | j + 18, h => absurd h (by rw [show nFl 7 = 18 from rfl]; omega)
theorem nFs_8 : nFs 8 k s = [.int (fI s.1 25 k 0), .ref (mAd 21 (fX s.1 25 k 1)), .int (fI s.1 25 k 2), .int (fI s.1 25 k 3)] := rfl
theorem nVk_8 (h1 : vk (fN s.1) none (vR 21 (some (fX s.1 25 k 1)))) : ∀ j, j < nFl 8 → vk (fN s.1) none (nGet 8 j k s) := fun j hj => match j, hj with
  | 0, _ => trivial
  | 1, _ => h1
  | 2, _ => trivial
  | 3, _ => trivial
  | j + 4, h => absurd h (by rw [show nFl 8 = 4 from rfl]; omega)
theorem nFs_9 : nFs 9 k s = [.int (fI s.1 9 k 0), .int (fI s.1 9 k 1), .int (fI s.1 9 k 2), vw (fN s.1) (vR 21 (fP s.1 9 k 3)), vw (fN s.1) (vL (fQ s.1 k)), vw (fN s.1) (vR 28 (fP s.1 9 k 5)), .int (fI s.1 9 k 6), .int (fI s.1 9 k 7), .int (fI s.1 9 k 8), .int (fI s.1 9 k 9)] := rfl
theorem nVk_9 (h3 : vk (fN s.1) none (vR 21 (fP s.1 9 k 3))) (h4 : vk (fN s.1) none (vL (fQ s.1 k))) (h5 : vk (fN s.1) none (vR 28 (fP s.1 9 k 5))) : ∀ j, j < nFl 9 → vk (fN s.1) none (nGet 9 j k s) := fun j hj => match j, hj with
  | 0, _ => trivial
  | 1, _ => trivial
  | 2, _ => trivial
  | 3, _ => h3
  | 4, _ => h4
  | 5, _ => h5
  | 6, _ => trivial
  | 7, _ => trivial
  | 8, _ => trivial
  | 9, _ => trivial
  | j + 10, h => absurd h (by rw [show nFl 9 = 10 from rfl]; omega)
theorem nFs_10 : nFs 10 k s = [.int (Int32.ofNat k), .ref (mAd 21 (fX s.1 27 k 1)), .int (fI s.1 27 k 2), .int (fI s.1 27 k 3), .ref (mAd 11 k), .int (fI s.1 27 k 5), .int (fI s.1 27 k 6)] := rfl
theorem nVk_10 (h1 : vk (fN s.1) none (vR 21 (some (fX s.1 27 k 1)))) (h4 : vk (fN s.1) none (vL (some (11, k)))) : ∀ j, j < nFl 10 → vk (fN s.1) none (nGet 10 j k s) := fun j hj => match j, hj with
  | 0, _ => trivial
  | 1, _ => h1
  | 2, _ => trivial
  | 3, _ => trivial
  | 4, _ => h4
  | 5, _ => trivial
  | 6, _ => trivial
  | j + 7, h => absurd h (by rw [show nFl 10 = 7 from rfl]; omega)
theorem nTab20 : ∀ c < 13, (nGp (nTg c) = 24 → c = 1) ∧ (nGp (nTg c) = 25 → c = 8) ∧ (nGp (nTg c) = 23 → c = 4) ∧ (nGp (nTg c) = 28 → c = 5) ∧ (nGp (nTg c) = 27 → c = 10) ∧ (nGp (nTg c) = 26 → c = 7 ∨ c = 6 ∨ c = 9) := by decide +kernel
theorem nTab24 : ∀ t < 96, nGp t = 24 → nAt t = 9 ∧ nLt t = 0 := by decide +kernel
theorem nTab25 : ∀ t < 96, nGp t = 25 → nAt t = 9 ∧ nLt t = 0 := by decide +kernel
theorem nTab23 : ∀ t < 96, nGp t = 23 → nAt t = 9 ∧ (nLt t ≠ 0 → t = 5 ∨ t = 6) := by decide +kernel
theorem nTab28 : ∀ t < 96, nGp t = 28 → (nAt t ≠ 9 → t = 7) ∧ nLt t = 0 := by decide +kernel
theorem nTab27 : ∀ t < 96, nGp t = 27 → nAt t = 9 ∧ (nLt t ≠ 0 → t = 11) := by decide +kernel
theorem nTab26 : ∀ t < 96, nGp t = 26 → nAt t = 9 ∧ (nLt t ≠ 0 → t = 10) := by decide +kernel
theorem nTg_13 {c t : Nat} (h : nGp (nTg c) = t) (ht : t < 100) : c < 13 := Nat.lt_of_not_le fun z => by
  rw [nTg_hi z, show nGp 99 = 100 by decide] at h
  omega
theorem nMade (r : nRel p s σ g) {c : Nat} (hp : p = some (nTg c)) (h1 : 1 ≤ c) (h13 : c < 13) : σ.1 (mAd (nTg c) (fN s.1 (nTg c))) = some (.inl (c, (mFk c).map mDf)) := by
  obtain ⟨hg, c', e, h⟩ := r.2.2.2.2.2.1 _ hp
  have := nTg_13 (c := c') (t := nTg c) (by rw [e]; exact hg) (by have := (nTab1 c h13 h1).2.2.1; omega)
  have := nTab2 c h13 c' this h1 e.symm
  subst this
  exact h
theorem vk_RR {N : Nat → Nat} {p q : Option Nat} {t : Nat} {o : Option Nat} (h : vk N p (vR t o)) : vk N q (vR t o) := h
theorem vk_ren {N N' : Nat → Nat} {t k : Nat} {v : nV} {S : List nV} (hN : ∀ t, nCt N t ≤ nCt N' t) (hk : k < nCt N' t) (hl : nLt t = 0) (h : ∀ v ∈ S, vk N (some t) v) (hv : v ∈ nRen t k S) : vk N' none v := by
  unfold nRen at hv
  obtain ⟨w, hw, e⟩ := List.mem_map.mp hv
  have h1 := h w hw
  rcases w with x | x | ⟨t', o⟩ | o | t'
  · subst e; trivial
  · subst e; trivial
  · subst e; exact vk_mono hN (vk_RR h1)
  · subst e; exact vk_mono (p := none) (v := vL o) hN h1
  · subst e; exact fun k' e' => Or.inl (by cases e'; exact ⟨hk, hl⟩)
theorem vw_ren {N N' : Nat → Nat} {t : Nat} {S : List nV} (h : ∀ v ∈ S, vk N (some t) v) : (nRen t (N t) S).map (vw N') = S.map (vw N) := by
  unfold nRen
  rw [List.map_map]
  refine List.map_congr_left fun v hv => ?_
  have h1 := h v hv
  rcases v with x | x | ⟨t', _ | k⟩ | o | t'
  · rfl
  · rfl
  · rfl
  · rfl
  · rcases o with _ | ⟨a, b⟩ <;> rfl
  · cases h1
    rfl
theorem st_spc {i n y' e2 : Nat} {L : mLs} {S As : List Value} {a : Nat} (hy : y' < 1000) (hn : As.length + 1 = e2 % 16) (hc : ∀ v ∈ As, v.category = 1) (hl : S.length ≤ 4) : mStep mFk xs nx (.invokespecial i, n, y', e2) pc L (As ++ .ref a :: S) σ = some (.inr (.inl (y', .ref a :: As.reverse, e2 % 16, S))) := by
  have hg : (As ++ Value.ref a :: S)[e2 % 16 - 1]? = some (.ref a) := by
    rw [List.getElem?_append_right (by omega), show e2 % 16 - 1 - As.length = 0 by omega]
    rfl
  have ht : (As ++ Value.ref a :: S).take (e2 % 16) = As ++ [.ref a] := by
    rw [← hn, List.take_append, List.take_of_length_le (by omega), show As.length + 1 - As.length = 1 by omega]
    rfl
  simp only [mStep, mSpcS]
  rw [if_neg (show ¬ y' = 1000 by omega), hg, if_pos (show mRf (some (Value.ref a)) = true from rfl)]
  unfold mInv
  rw [if_pos]
  · unfold mCall
    rw [ht, List.reverse_append, ← hn, show (As ++ Value.ref a :: S).drop (As.length + 1) = S from ?_]
    · rfl
    · rw [List.drop_append, List.drop_of_length_le (by omega), show As.length + 1 - As.length = 1 by omega]
      rfl
  · refine ⟨by simp; omega, by simp; omega, ?_, Or.inl (by simp; omega)⟩
    rw [ht]
    unfold mA1
    rw [List.all_eq_true]
    intro v hv
    rcases List.mem_append.mp hv with h | h
    · rw [hc v h]; rfl
    · rw [List.mem_singleton] at h; subst h; rfl
theorem nCt_one {i n y' e2 t : Nat} {s' : nS} {A : List nV} {S2 : List nV} {σ' : mS} {g' : Nat → Nat → Option (Nat × Nat)} (f : nCf (some t) s σ g L (A ++ vU t :: S2)) (hF : mF y pc = some (.invokespecial i, n, y', e2)) (hy : y' < 1000) (hn : A.length + 1 = e2 % 16) (hA : A.all nOk1 = true) (hl : S2.length ≤ 4)
    (c : mEv xs nx y' 0 (mL0 ((vU t :: A.reverse).map (vw (fN s.1))) (mLo e2)) [] σ (.inl none, σ')) (hr : nRel none s' σ' g') (hle : nLe s s') (hk : fN s.1 t < nCt (fN s'.1) t) (hlt : nLt t = 0) : nGoes xs nx y pc L (A ++ vU t :: S2) s σ (pc + 3) L (nRen t (fN s.1 t) S2) s' := by
  obtain ⟨r, hL, hS, hp⟩ := f
  have hS2 : ∀ v ∈ S2, vk (fN s.1) (some t) v := fun v hv => hS v (List.mem_append_right _ (List.mem_cons_of_mem _ hv))
  have hv : ∀ v ∈ nRen t (fN s.1 t) S2, vk (fN s'.1) none v := fun v hv => vk_ren hle hk hlt hS2 hv
  refine ⟨none, σ', g', ⟨hr, fun v h => vk_mono hle (hL v h), hv, (pdS_none hv).symm⟩, hle, ?_⟩
  rw [wl_N (N' := fN s'.1) hL, vw_ren hS2, List.map_append, List.map_cons]
  have hst := st_spc (xs := xs) (nx := nx) (pc := pc) (σ := σ) (i := i) (n := n) (L := wl (fN s.1) L) (S := S2.map (vw (fN s.1))) (As := A.map (vw (fN s.1))) (a := mAd t (fN s.1 t)) hy (by rw [List.length_map]; exact hn) (fun v hv => by
    obtain ⟨w, hw, rfl⟩ := List.mem_map.mp hv
    exact nOk_cat hA w hw) (by rw [List.length_map]; exact hl)
  rw [List.map_cons, List.map_reverse] at c
  exact rch_call (v := none) hF hst c
theorem nLe_up {s s' : nS} {t : Nat} (ht : t < 100) (hg : nGp t = t) (hN : fN s'.1 = up1 (fN s.1) t (fN s.1 t + 1)) : nLe s s' ∧ fN s.1 t < nCt (fN s'.1) t := by
  constructor
  · intro t'
    rw [hN, nCt_up ht]
    split
    · rename_i h
      have : nCt (fN s.1) t' = fN s.1 t := by
        unfold nCt
        rw [h, show Nat.ble 100 t = false from (by cases hb : Nat.ble 100 t with | false => rfl | true => have := Nat.le_of_ble_eq_true hb; omega)]
        rfl
      omega
    · exact Nat.le_refl _
  · rw [hN, nCt_up ht, if_pos hg]
    exact Nat.lt_succ_self _
theorem nA_24 {N : Nat → Nat} : nA (up1 N 24 (N 24 + 1)) = nA N + 1 := by simp [nA, up1]; omega
theorem nA_25 {N : Nat → Nat} : nA (up1 N 25 (N 25 + 1)) = nA N + 1 := by simp [nA, up1]; omega
theorem nA_23 {N : Nat → Nat} : nA (up1 N 23 (N 23 + 1)) = nA N + 3 := by simp [nA, up1]; omega
theorem nA_26 {N : Nat → Nat} : nA (up1 N 26 (N 26 + 1)) = nA N + 4 := by simp [nA, up1]; omega
theorem nA_27 {N : Nat → Nat} : nA (up1 N 27 (N 27 + 1)) = nA N + 2 := by simp [nA, up1]; omega
theorem nA_28 {N : Nat → Nat} : nA (up1 N 28 (N 28 + 1)) = nA N + 2 := by simp [nA, up1]; omega
theorem nCnt_of (r : nRel p s σ g) {t t1 : Nat} (hp : p = some t) (hg : nGp t1 = t) (h1 : t1 ≠ t) : σ.2.1 t1 = fN s.1 t := by
  subst hp
  obtain ⟨hgt, c0, hc0, -⟩ := r.2.2.2.2.2.1 t rfl
  have ht : t < 96 := Nat.lt_of_not_le fun z => by have := nGp_hi z; have := nTg_100 (c := c0); omega
  rw [r.2.2.2.2.1 t1 (nGp_lt (by omega)), if_neg (fun z => h1 (Option.some.inj z).symm)]
  unfold nCt
  rw [hg, show Nat.ble 100 t = false from (by cases hb : Nat.ble 100 t with | false => rfl | true => have := Nat.le_of_ble_eq_true hb; omega)]
  rfl
theorem nCt_42 {spot : Int32} {d : Nat} {S2 : List nV} {i n9 : Nat} (f : nCf p s σ g L (.inl spot :: vR 21 (some d) :: vU 24 :: S2)) (hF : mF y pc = some (.invokespecial i, n9, 42, nE2 42)) (hl : S2.length ≤ 4) : nGoes xs nx y pc L (.inl spot :: vR 21 (some d) :: vU 24 :: S2) s σ (pc + 3) L (nRen 24 (fN s.1 24) S2) (uI 24 (fN s.1 24) 3 0 (uI 24 (fN s.1 24) 2 0 (uI 24 (fN s.1 24) 1 spot (uX 24 (fN s.1 24) 0 d (uN 24 (fN s.1 24 + 1) s.1)))), s.2) := by
  obtain ⟨r, hL, hS, hp⟩ := id f
  rw [show nE2 42 = 307 from rfl] at hF
  have hp : p = some 24 := hp
  subst hp
  have hM : σ.1 (mAd 24 (fN s.1 24)) = some (.inl (1, (mFk 1).map mDf)) := nMade r (c := 1) rfl (by decide) (by decide)
  have hv0 := (kd1 hS).1
  have hv1 := (kd1 (kd1 hS).2).1
  have hle : nLe s (uI 24 (fN s.1 24) 3 0 (uI 24 (fN s.1 24) 2 0 (uI 24 (fN s.1 24) 1 spot (uX 24 (fN s.1 24) 0 d (uN 24 (fN s.1 24 + 1) s.1)))), s.2) ∧ fN s.1 24 < nCt (fN (uI 24 (fN s.1 24) 3 0 (uI 24 (fN s.1 24) 2 0 (uI 24 (fN s.1 24) 1 spot (uX 24 (fN s.1 24) 0 d (uN 24 (fN s.1 24 + 1) s.1)))))) 24 := nLe_up (s := s) (s' := (uI 24 (fN s.1 24) 3 0 (uI 24 (fN s.1 24) 2 0 (uI 24 (fN s.1 24) 1 spot (uX 24 (fN s.1 24) 0 d (uN 24 (fN s.1 24 + 1) s.1)))), s.2)) (t := 24) (by decide) rfl rfl
  have hkk : ∀ t', nGp t' = 24 → fN s.1 24 < nCt (fN (uI 24 (fN s.1 24) 3 0 (uI 24 (fN s.1 24) 2 0 (uI 24 (fN s.1 24) 1 spot (uX 24 (fN s.1 24) 0 d (uN 24 (fN s.1 24 + 1) s.1)))))) t' := fun t' h => by
    rw [show fN (uI 24 (fN s.1 24) 3 0 (uI 24 (fN s.1 24) 2 0 (uI 24 (fN s.1 24) 1 spot (uX 24 (fN s.1 24) 0 d (uN 24 (fN s.1 24 + 1) s.1))))) = up1 (fN s.1) 24 (fN s.1 24 + 1) from rfl, nCt_up (by decide), if_pos h]
    exact Nat.lt_succ_self _
  have hr := r.ctor (s' := (uI 24 (fN s.1 24) 3 0 (uI 24 (fN s.1 24) 2 0 (uI 24 (fN s.1 24) 1 spot (uX 24 (fN s.1 24) 0 d (uN 24 (fN s.1 24 + 1) s.1)))), s.2)) (t := 24) (w := 1) (X := .inl (1, [.ref (mAd 21 d), .int spot, .int 0, .int 0])) (l := []) (by show nOff _ _ (uI 24 (fN s.1 24) 3 0 (uI 24 (fN s.1 24) 2 0 (uI 24 (fN s.1 24) 1 spot (uX 24 (fN s.1 24) 0 d (uN 24 (fN s.1 24 + 1) s.1))))) _; (try unfold nParcel); (repeat first | refine nOff.uI ?_ (by decide) | refine nOff.uX ?_ (by decide) | refine nOff.uP ?_ (by decide) | refine nOff.uW ?_ (by decide) | refine nOff.uL ?_ (by decide) | refine nOff.uQ ?_ rfl); exact nOff.rf.uN) rfl rfl (show ([] : List Nat).Nodup by decide) (fun t' h => Or.inl (nTab15 t' (nGp_lt (by omega)) h)) (fun t' h => by simp at h) (fun c9 h => by
    have e := (nTab20 c9 (nTg_13 h (by decide))).1 h
    subst e
    exact ⟨Or.inl ⟨rfl, by rw [nFs_1]; simp [nParcel, fI_uI, fI_uW, fI_uX, fI_uP, fI_uQ, fI_uL, fI_uN, fX_uI, fX_uW, fX_uX, fX_uP, fX_uQ, fX_uL, fX_uN, fP_uI, fP_uW, fP_uX, fP_uP, fP_uQ, fP_uL, fP_uN, fQ_uI, fQ_uW, fQ_uX, fQ_uP, fQ_uQ, fQ_uL, fQ_uN, fL_uI, fL_uW, fL_uX, fL_uP, fL_uQ, fL_uL, fL_uN, fN_uI, fN_uW, fN_uX, fN_uP, fN_uQ, fN_uL, fN_uN, up3, up2, up1, vw]⟩, nVk_1 (by rw [show fX (uI 24 (fN s.1 24) 3 0 (uI 24 (fN s.1 24) 2 0 (uI 24 (fN s.1 24) 1 spot (uX 24 (fN s.1 24) 0 d (uN 24 (fN s.1 24 + 1) s.1))))) 24 (fN s.1 24) 0 = d by simp [nParcel, fI_uI, fI_uW, fI_uX, fI_uP, fI_uQ, fI_uL, fI_uN, fX_uI, fX_uW, fX_uX, fX_uP, fX_uQ, fX_uL, fX_uN, fP_uI, fP_uW, fP_uX, fP_uP, fP_uQ, fP_uL, fP_uN, fQ_uI, fQ_uW, fQ_uX, fQ_uP, fQ_uQ, fQ_uL, fQ_uN, fL_uI, fL_uW, fL_uX, fL_uP, fL_uQ, fL_uL, fL_uN, fN_uI, fN_uW, fN_uX, fN_uP, fN_uQ, fN_uL, fN_uN, up3, up2, up1]]; exact vk_mono (p := none) hle.1 (vk_RR hv1))⟩) (fun t' h9 h => absurd (nTab24 t' (nGp_lt (by omega)) h).1 h9) (fun t' h9 h => absurd (nTab24 t' (nGp_lt (by omega)) h).2 h9) (by simp) (by simp) nA_24
  have hrun := C_42 (xs := xs) (nx := nx) (d := mAd 21 d) (x1 := spot) hM 
  exact nCt_one (A := [.inl spot, vR 21 (some d)]) f hF (by decide) rfl rfl hl hrun hr hle.1 hle.2 rfl
theorem nCt_73 {kd ck q : Int32} {d : Nat} {S2 : List nV} {i n9 : Nat} (f : nCf p s σ g L (.inl kd :: .inl ck :: vR 21 (some d) :: .inl q :: vU 25 :: S2)) (hF : mF y pc = some (.invokespecial i, n9, 73, nE2 73)) (hl : S2.length ≤ 4) : nGoes xs nx y pc L (.inl kd :: .inl ck :: vR 21 (some d) :: .inl q :: vU 25 :: S2) s σ (pc + 3) L (nRen 25 (fN s.1 25) S2) (uI 25 (fN s.1 25) 3 kd (uI 25 (fN s.1 25) 2 ck (uX 25 (fN s.1 25) 1 d (uI 25 (fN s.1 25) 0 q (uN 25 (fN s.1 25 + 1) s.1)))), s.2) := by
  obtain ⟨r, hL, hS, hp⟩ := id f
  rw [show nE2 73 = 2133 from rfl] at hF
  have hp : p = some 25 := hp
  subst hp
  have hM : σ.1 (mAd 25 (fN s.1 25)) = some (.inl (8, (mFk 8).map mDf)) := nMade r (c := 8) rfl (by decide) (by decide)
  have hv0 := (kd1 hS).1
  have hv1 := (kd1 (kd1 hS).2).1
  have hv2 := (kd1 (kd1 (kd1 hS).2).2).1
  have hv3 := (kd1 (kd1 (kd1 (kd1 hS).2).2).2).1
  have hle : nLe s (uI 25 (fN s.1 25) 3 kd (uI 25 (fN s.1 25) 2 ck (uX 25 (fN s.1 25) 1 d (uI 25 (fN s.1 25) 0 q (uN 25 (fN s.1 25 + 1) s.1)))), s.2) ∧ fN s.1 25 < nCt (fN (uI 25 (fN s.1 25) 3 kd (uI 25 (fN s.1 25) 2 ck (uX 25 (fN s.1 25) 1 d (uI 25 (fN s.1 25) 0 q (uN 25 (fN s.1 25 + 1) s.1)))))) 25 := nLe_up (s := s) (s' := (uI 25 (fN s.1 25) 3 kd (uI 25 (fN s.1 25) 2 ck (uX 25 (fN s.1 25) 1 d (uI 25 (fN s.1 25) 0 q (uN 25 (fN s.1 25 + 1) s.1)))), s.2)) (t := 25) (by decide) rfl rfl
  have hkk : ∀ t', nGp t' = 25 → fN s.1 25 < nCt (fN (uI 25 (fN s.1 25) 3 kd (uI 25 (fN s.1 25) 2 ck (uX 25 (fN s.1 25) 1 d (uI 25 (fN s.1 25) 0 q (uN 25 (fN s.1 25 + 1) s.1)))))) t' := fun t' h => by
    rw [show fN (uI 25 (fN s.1 25) 3 kd (uI 25 (fN s.1 25) 2 ck (uX 25 (fN s.1 25) 1 d (uI 25 (fN s.1 25) 0 q (uN 25 (fN s.1 25 + 1) s.1))))) = up1 (fN s.1) 25 (fN s.1 25 + 1) from rfl, nCt_up (by decide), if_pos h]
    exact Nat.lt_succ_self _
  have hr := r.ctor (s' := (uI 25 (fN s.1 25) 3 kd (uI 25 (fN s.1 25) 2 ck (uX 25 (fN s.1 25) 1 d (uI 25 (fN s.1 25) 0 q (uN 25 (fN s.1 25 + 1) s.1)))), s.2)) (t := 25) (w := 1) (X := .inl (8, [.int q, .ref (mAd 21 d), .int ck, .int kd])) (l := []) (by show nOff _ _ (uI 25 (fN s.1 25) 3 kd (uI 25 (fN s.1 25) 2 ck (uX 25 (fN s.1 25) 1 d (uI 25 (fN s.1 25) 0 q (uN 25 (fN s.1 25 + 1) s.1))))) _; (try unfold nParcel); (repeat first | refine nOff.uI ?_ (by decide) | refine nOff.uX ?_ (by decide) | refine nOff.uP ?_ (by decide) | refine nOff.uW ?_ (by decide) | refine nOff.uL ?_ (by decide) | refine nOff.uQ ?_ rfl); exact nOff.rf.uN) rfl rfl (show ([] : List Nat).Nodup by decide) (fun t' h => Or.inl (nTab16 t' (nGp_lt (by omega)) h)) (fun t' h => by simp at h) (fun c9 h => by
    have e := (nTab20 c9 (nTg_13 h (by decide))).2.1 h
    subst e
    exact ⟨Or.inl ⟨rfl, by rw [nFs_8]; simp [nParcel, fI_uI, fI_uW, fI_uX, fI_uP, fI_uQ, fI_uL, fI_uN, fX_uI, fX_uW, fX_uX, fX_uP, fX_uQ, fX_uL, fX_uN, fP_uI, fP_uW, fP_uX, fP_uP, fP_uQ, fP_uL, fP_uN, fQ_uI, fQ_uW, fQ_uX, fQ_uP, fQ_uQ, fQ_uL, fQ_uN, fL_uI, fL_uW, fL_uX, fL_uP, fL_uQ, fL_uL, fL_uN, fN_uI, fN_uW, fN_uX, fN_uP, fN_uQ, fN_uL, fN_uN, up3, up2, up1, vw]⟩, nVk_8 (by rw [show fX (uI 25 (fN s.1 25) 3 kd (uI 25 (fN s.1 25) 2 ck (uX 25 (fN s.1 25) 1 d (uI 25 (fN s.1 25) 0 q (uN 25 (fN s.1 25 + 1) s.1))))) 25 (fN s.1 25) 1 = d by simp [nParcel, fI_uI, fI_uW, fI_uX, fI_uP, fI_uQ, fI_uL, fI_uN, fX_uI, fX_uW, fX_uX, fX_uP, fX_uQ, fX_uL, fX_uN, fP_uI, fP_uW, fP_uX, fP_uP, fP_uQ, fP_uL, fP_uN, fQ_uI, fQ_uW, fQ_uX, fQ_uP, fQ_uQ, fQ_uL, fQ_uN, fL_uI, fL_uW, fL_uX, fL_uP, fL_uQ, fL_uL, fL_uN, fN_uI, fN_uW, fN_uX, fN_uP, fN_uQ, fN_uL, fN_uN, up3, up2, up1]]; exact vk_mono (p := none) hle.1 (vk_RR hv2))⟩) (fun t' h9 h => absurd (nTab25 t' (nGp_lt (by omega)) h).1 h9) (fun t' h9 h => absurd (nTab25 t' (nGp_lt (by omega)) h).2 h9) (by simp) (by simp) nA_25
  have hrun := C_73 (xs := xs) (nx := nx) (d := mAd 21 d) (x1 := q) (x2 := ck) (x3 := kd) hM 
  exact nCt_one (A := [.inl kd, .inl ck, vR 21 (some d), .inl q]) f hF (by decide) rfl rfl hl hrun hr hle.1 hle.2 rfl
theorem nCt_75 {st rm n : Int32} {d : Nat} {S2 : List nV} {i n9 : Nat} (f : nCf p s σ g L (.inl st :: .inl rm :: vR 21 (some d) :: .inl n :: vU 27 :: S2)) (hF : mF y pc = some (.invokespecial i, n9, 75, nE2 75)) (hl : S2.length ≤ 4) (hn : n = Int32.ofNat (fN s.1 27)) : nGoes xs nx y pc L (.inl st :: .inl rm :: vR 21 (some d) :: .inl n :: vU 27 :: S2) s σ (pc + 3) L (nRen 27 (fN s.1 27) S2) (uI 27 (fN s.1 27) 6 0 (uI 27 (fN s.1 27) 5 0 (uI 27 (fN s.1 27) 3 st (uI 27 (fN s.1 27) 2 rm (uX 27 (fN s.1 27) 1 d (uL 11 (fN s.1 27) [] (uN 27 (fN s.1 27 + 1) s.1)))))), s.2) := by
  obtain ⟨r, hL, hS, hp⟩ := id f
  rw [show nE2 75 = 2645 from rfl] at hF
  have hp : p = some 27 := hp
  subst hp
  have hM : σ.1 (mAd 27 (fN s.1 27)) = some (.inl (10, (mFk 10).map mDf)) := nMade r (c := 10) rfl (by decide) (by decide)
  have hv0 := (kd1 hS).1
  have hv1 := (kd1 (kd1 hS).2).1
  have hv2 := (kd1 (kd1 (kd1 hS).2).2).1
  have hv3 := (kd1 (kd1 (kd1 (kd1 hS).2).2).2).1
  have hc11 : σ.2.1 11 = fN s.1 27 := nCnt_of r rfl rfl (by decide)
  have hle : nLe s (uI 27 (fN s.1 27) 6 0 (uI 27 (fN s.1 27) 5 0 (uI 27 (fN s.1 27) 3 st (uI 27 (fN s.1 27) 2 rm (uX 27 (fN s.1 27) 1 d (uL 11 (fN s.1 27) [] (uN 27 (fN s.1 27 + 1) s.1)))))), s.2) ∧ fN s.1 27 < nCt (fN (uI 27 (fN s.1 27) 6 0 (uI 27 (fN s.1 27) 5 0 (uI 27 (fN s.1 27) 3 st (uI 27 (fN s.1 27) 2 rm (uX 27 (fN s.1 27) 1 d (uL 11 (fN s.1 27) [] (uN 27 (fN s.1 27 + 1) s.1)))))))) 27 := nLe_up (s := s) (s' := (uI 27 (fN s.1 27) 6 0 (uI 27 (fN s.1 27) 5 0 (uI 27 (fN s.1 27) 3 st (uI 27 (fN s.1 27) 2 rm (uX 27 (fN s.1 27) 1 d (uL 11 (fN s.1 27) [] (uN 27 (fN s.1 27 + 1) s.1)))))), s.2)) (t := 27) (by decide) rfl rfl
  have hkk : ∀ t', nGp t' = 27 → fN s.1 27 < nCt (fN (uI 27 (fN s.1 27) 6 0 (uI 27 (fN s.1 27) 5 0 (uI 27 (fN s.1 27) 3 st (uI 27 (fN s.1 27) 2 rm (uX 27 (fN s.1 27) 1 d (uL 11 (fN s.1 27) [] (uN 27 (fN s.1 27 + 1) s.1)))))))) t' := fun t' h => by
    rw [show fN (uI 27 (fN s.1 27) 6 0 (uI 27 (fN s.1 27) 5 0 (uI 27 (fN s.1 27) 3 st (uI 27 (fN s.1 27) 2 rm (uX 27 (fN s.1 27) 1 d (uL 11 (fN s.1 27) [] (uN 27 (fN s.1 27 + 1) s.1))))))) = up1 (fN s.1) 27 (fN s.1 27 + 1) from rfl, nCt_up (by decide), if_pos h]
    exact Nat.lt_succ_self _
  have hr := r.ctor (s' := (uI 27 (fN s.1 27) 6 0 (uI 27 (fN s.1 27) 5 0 (uI 27 (fN s.1 27) 3 st (uI 27 (fN s.1 27) 2 rm (uX 27 (fN s.1 27) 1 d (uL 11 (fN s.1 27) [] (uN 27 (fN s.1 27 + 1) s.1)))))), s.2)) (t := 27) (w := 2) (X := .inl (10, [.int n, .ref (mAd 21 d), .int rm, .int st, .ref (mAd 11 (fN s.1 27)), .int 0, .int 0])) (l := [(11, .inl (0, [.int 0, .ref mEMP, .int 0]), 3)]) (by show nOff _ _ (uI 27 (fN s.1 27) 6 0 (uI 27 (fN s.1 27) 5 0 (uI 27 (fN s.1 27) 3 st (uI 27 (fN s.1 27) 2 rm (uX 27 (fN s.1 27) 1 d (uL 11 (fN s.1 27) [] (uN 27 (fN s.1 27 + 1) s.1))))))) _; (try unfold nParcel); (repeat first | refine nOff.uI ?_ (by decide) | refine nOff.uX ?_ (by decide) | refine nOff.uP ?_ (by decide) | refine nOff.uW ?_ (by decide) | refine nOff.uL ?_ (by decide) | refine nOff.uQ ?_ rfl); exact nOff.rf.uN) rfl rfl (show [11].Nodup by decide) (fun t' h => by rcases nTab13 t' (nGp_lt (by omega)) h with rfl | rfl <;> simp) (fun t' h => by simp at h; rcases h with rfl <;> decide) (fun c9 h => by
    have e := (nTab20 c9 (nTg_13 h (by decide))).2.2.2.2.1 h
    subst e
    exact ⟨Or.inl ⟨rfl, by rw [nFs_10]; simp [nParcel, hn, fI_uI, fI_uW, fI_uX, fI_uP, fI_uQ, fI_uL, fI_uN, fX_uI, fX_uW, fX_uX, fX_uP, fX_uQ, fX_uL, fX_uN, fP_uI, fP_uW, fP_uX, fP_uP, fP_uQ, fP_uL, fP_uN, fQ_uI, fQ_uW, fQ_uX, fQ_uP, fQ_uQ, fQ_uL, fQ_uN, fL_uI, fL_uW, fL_uX, fL_uP, fL_uQ, fL_uL, fL_uN, fN_uI, fN_uW, fN_uX, fN_uP, fN_uQ, fN_uL, fN_uN, up3, up2, up1, vw]⟩, nVk_10 (by rw [show fX (uI 27 (fN s.1 27) 6 0 (uI 27 (fN s.1 27) 5 0 (uI 27 (fN s.1 27) 3 st (uI 27 (fN s.1 27) 2 rm (uX 27 (fN s.1 27) 1 d (uL 11 (fN s.1 27) [] (uN 27 (fN s.1 27 + 1) s.1))))))) 27 (fN s.1 27) 1 = d by simp [nParcel, fI_uI, fI_uW, fI_uX, fI_uP, fI_uQ, fI_uL, fI_uN, fX_uI, fX_uW, fX_uX, fX_uP, fX_uQ, fX_uL, fX_uN, fP_uI, fP_uW, fP_uX, fP_uP, fP_uQ, fP_uL, fP_uN, fQ_uI, fQ_uW, fQ_uX, fQ_uP, fQ_uQ, fQ_uL, fQ_uN, fL_uI, fL_uW, fL_uX, fL_uP, fL_uQ, fL_uL, fL_uN, fN_uI, fN_uW, fN_uX, fN_uP, fN_uQ, fN_uL, fN_uN, up3, up2, up1]]; exact vk_mono (p := none) hle.1 (vk_RR hv2)) (fun t' k' e => by cases e; exact ⟨hkk 11 rfl, by decide⟩)⟩) (fun t' h9 h => absurd (nTab27 t' (nGp_lt (by omega)) h).1 h9) (fun t' h9 h => by
    rcases (nTab27 t' (nGp_lt (by omega)) h).2 h9 with e
    · subst e
      exact ⟨⟨3, by simp⟩, by simp [nParcel, fI_uI, fI_uW, fI_uX, fI_uP, fI_uQ, fI_uL, fI_uN, fX_uI, fX_uW, fX_uX, fX_uP, fX_uQ, fX_uL, fX_uN, fP_uI, fP_uW, fP_uX, fP_uP, fP_uQ, fP_uL, fP_uN, fQ_uI, fQ_uW, fQ_uX, fQ_uP, fQ_uQ, fQ_uL, fQ_uN, fL_uI, fL_uW, fL_uX, fL_uP, fL_uQ, fL_uL, fL_uN, fN_uI, fN_uW, fN_uX, fN_uP, fN_uQ, fN_uL, fN_uN, up3, up2, up1]⟩) (by simp) (by simp) nA_27
  have hrun := C_75 (xs := xs) (nx := nx) (d := mAd 21 d) (x1 := n) (x2 := rm) (x3 := st) hM (by rw [hc11]; exact mAd_ne (by decide) (by decide) (by omega))
  rw [hc11] at hrun
  exact nCt_one (A := [.inl st, .inl rm, vR 21 (some d), .inl n]) f hF (by decide) rfl rfl hl hrun hr hle.1 hle.2 rfl
theorem nCt_48 {cr hx n : Int32} {a b : Nat} {S2 : List nV} {i n9 : Nat} (f : nCf p s σ g L (.inl cr :: .inl hx :: vR 21 (some b) :: vR 21 (some a) :: .inl n :: vU 23 :: S2)) (hF : mF y pc = some (.invokespecial i, n9, 48, nE2 48)) (hl : S2.length ≤ 4) (hn : n = Int32.ofNat (fN s.1 23)) (hb : cr = 0 ∨ cr = 1) : nGoes xs nx y pc L (.inl cr :: .inl hx :: vR 21 (some b) :: vR 21 (some a) :: .inl n :: vU 23 :: S2) s σ (pc + 3) L (nRen 23 (fN s.1 23) S2) (uI 23 (fN s.1 23) 12 (-1) (uI 23 (fN s.1 23) 11 1 (uI 23 (fN s.1 23) 10 1 (uI 23 (fN s.1 23) 9 1 (uI 23 (fN s.1 23) 8 0 (uI 23 (fN s.1 23) 7 10 (uI 23 (fN s.1 23) 4 cr (uI 23 (fN s.1 23) 3 hx (uX 23 (fN s.1 23) 2 b (uX 23 (fN s.1 23) 1 a (uL 6 (fN s.1 23) [] (uL 5 (fN s.1 23) [] (uN 23 (fN s.1 23 + 1) s.1)))))))))))), s.2) := by
  obtain ⟨r, hL, hS, hp⟩ := id f
  rw [show nE2 48 = 1126 from rfl] at hF
  have hp : p = some 23 := hp
  subst hp
  have hM : σ.1 (mAd 23 (fN s.1 23)) = some (.inl (4, (mFk 4).map mDf)) := nMade r (c := 4) rfl (by decide) (by decide)
  have hv0 := (kd1 hS).1
  have hv1 := (kd1 (kd1 hS).2).1
  have hv2 := (kd1 (kd1 (kd1 hS).2).2).1
  have hv3 := (kd1 (kd1 (kd1 (kd1 hS).2).2).2).1
  have hv4 := (kd1 (kd1 (kd1 (kd1 (kd1 hS).2).2).2).2).1
  have hc6 : σ.2.1 6 = fN s.1 23 := nCnt_of r rfl rfl (by decide)
  have hc5 : σ.2.1 5 = fN s.1 23 := nCnt_of r rfl rfl (by decide)
  have hle : nLe s (uI 23 (fN s.1 23) 12 (-1) (uI 23 (fN s.1 23) 11 1 (uI 23 (fN s.1 23) 10 1 (uI 23 (fN s.1 23) 9 1 (uI 23 (fN s.1 23) 8 0 (uI 23 (fN s.1 23) 7 10 (uI 23 (fN s.1 23) 4 cr (uI 23 (fN s.1 23) 3 hx (uX 23 (fN s.1 23) 2 b (uX 23 (fN s.1 23) 1 a (uL 6 (fN s.1 23) [] (uL 5 (fN s.1 23) [] (uN 23 (fN s.1 23 + 1) s.1)))))))))))), s.2) ∧ fN s.1 23 < nCt (fN (uI 23 (fN s.1 23) 12 (-1) (uI 23 (fN s.1 23) 11 1 (uI 23 (fN s.1 23) 10 1 (uI 23 (fN s.1 23) 9 1 (uI 23 (fN s.1 23) 8 0 (uI 23 (fN s.1 23) 7 10 (uI 23 (fN s.1 23) 4 cr (uI 23 (fN s.1 23) 3 hx (uX 23 (fN s.1 23) 2 b (uX 23 (fN s.1 23) 1 a (uL 6 (fN s.1 23) [] (uL 5 (fN s.1 23) [] (uN 23 (fN s.1 23 + 1) s.1)))))))))))))) 23 := nLe_up (s := s) (s' := (uI 23 (fN s.1 23) 12 (-1) (uI 23 (fN s.1 23) 11 1 (uI 23 (fN s.1 23) 10 1 (uI 23 (fN s.1 23) 9 1 (uI 23 (fN s.1 23) 8 0 (uI 23 (fN s.1 23) 7 10 (uI 23 (fN s.1 23) 4 cr (uI 23 (fN s.1 23) 3 hx (uX 23 (fN s.1 23) 2 b (uX 23 (fN s.1 23) 1 a (uL 6 (fN s.1 23) [] (uL 5 (fN s.1 23) [] (uN 23 (fN s.1 23 + 1) s.1)))))))))))), s.2)) (t := 23) (by decide) rfl rfl
  have hkk : ∀ t', nGp t' = 23 → fN s.1 23 < nCt (fN (uI 23 (fN s.1 23) 12 (-1) (uI 23 (fN s.1 23) 11 1 (uI 23 (fN s.1 23) 10 1 (uI 23 (fN s.1 23) 9 1 (uI 23 (fN s.1 23) 8 0 (uI 23 (fN s.1 23) 7 10 (uI 23 (fN s.1 23) 4 cr (uI 23 (fN s.1 23) 3 hx (uX 23 (fN s.1 23) 2 b (uX 23 (fN s.1 23) 1 a (uL 6 (fN s.1 23) [] (uL 5 (fN s.1 23) [] (uN 23 (fN s.1 23 + 1) s.1)))))))))))))) t' := fun t' h => by
    rw [show fN (uI 23 (fN s.1 23) 12 (-1) (uI 23 (fN s.1 23) 11 1 (uI 23 (fN s.1 23) 10 1 (uI 23 (fN s.1 23) 9 1 (uI 23 (fN s.1 23) 8 0 (uI 23 (fN s.1 23) 7 10 (uI 23 (fN s.1 23) 4 cr (uI 23 (fN s.1 23) 3 hx (uX 23 (fN s.1 23) 2 b (uX 23 (fN s.1 23) 1 a (uL 6 (fN s.1 23) [] (uL 5 (fN s.1 23) [] (uN 23 (fN s.1 23 + 1) s.1))))))))))))) = up1 (fN s.1) 23 (fN s.1 23 + 1) from rfl, nCt_up (by decide), if_pos h]
    exact Nat.lt_succ_self _
  have hr := r.ctor (s' := (uI 23 (fN s.1 23) 12 (-1) (uI 23 (fN s.1 23) 11 1 (uI 23 (fN s.1 23) 10 1 (uI 23 (fN s.1 23) 9 1 (uI 23 (fN s.1 23) 8 0 (uI 23 (fN s.1 23) 7 10 (uI 23 (fN s.1 23) 4 cr (uI 23 (fN s.1 23) 3 hx (uX 23 (fN s.1 23) 2 b (uX 23 (fN s.1 23) 1 a (uL 6 (fN s.1 23) [] (uL 5 (fN s.1 23) [] (uN 23 (fN s.1 23 + 1) s.1)))))))))))), s.2)) (t := 23) (w := 3) (X := .inl (4, [.int n, .ref (mAd 21 a), .ref (mAd 21 b), .int hx, .int cr, .ref (mAd 5 (fN s.1 23)), .ref (mAd 6 (fN s.1 23)), .int 10, .int 0, .int 1, .int 1, .int 1, .int (-1)])) (l := [(6, .inl (0, [.int 0, .ref mEMP, .int 0]), 3), (5, .inl (0, [.int 0, .ref mEMP, .int 0]), 3)]) (by show nOff _ _ (uI 23 (fN s.1 23) 12 (-1) (uI 23 (fN s.1 23) 11 1 (uI 23 (fN s.1 23) 10 1 (uI 23 (fN s.1 23) 9 1 (uI 23 (fN s.1 23) 8 0 (uI 23 (fN s.1 23) 7 10 (uI 23 (fN s.1 23) 4 cr (uI 23 (fN s.1 23) 3 hx (uX 23 (fN s.1 23) 2 b (uX 23 (fN s.1 23) 1 a (uL 6 (fN s.1 23) [] (uL 5 (fN s.1 23) [] (uN 23 (fN s.1 23 + 1) s.1))))))))))))) _; (try unfold nParcel); (repeat first | refine nOff.uI ?_ (by decide) | refine nOff.uX ?_ (by decide) | refine nOff.uP ?_ (by decide) | refine nOff.uW ?_ (by decide) | refine nOff.uL ?_ (by decide) | refine nOff.uQ ?_ rfl); exact nOff.rf.uN) rfl rfl (show [6, 5].Nodup by decide) (fun t' h => by rcases nTab12 t' (nGp_lt (by omega)) h with rfl | rfl | rfl <;> simp) (fun t' h => by simp at h; rcases h with rfl | rfl <;> decide) (fun c9 h => by
    have e := (nTab20 c9 (nTg_13 h (by decide))).2.2.1 h
    subst e
    exact ⟨Or.inl ⟨rfl, by rw [nFs_4]; simp [nParcel, hn, fI_uI, fI_uW, fI_uX, fI_uP, fI_uQ, fI_uL, fI_uN, fX_uI, fX_uW, fX_uX, fX_uP, fX_uQ, fX_uL, fX_uN, fP_uI, fP_uW, fP_uX, fP_uP, fP_uQ, fP_uL, fP_uN, fQ_uI, fQ_uW, fQ_uX, fQ_uP, fQ_uQ, fQ_uL, fQ_uN, fL_uI, fL_uW, fL_uX, fL_uP, fL_uQ, fL_uL, fL_uN, fN_uI, fN_uW, fN_uX, fN_uP, fN_uQ, fN_uL, fN_uN, up3, up2, up1, vw]⟩, nVk_4 (by rw [show fX (uI 23 (fN s.1 23) 12 (-1) (uI 23 (fN s.1 23) 11 1 (uI 23 (fN s.1 23) 10 1 (uI 23 (fN s.1 23) 9 1 (uI 23 (fN s.1 23) 8 0 (uI 23 (fN s.1 23) 7 10 (uI 23 (fN s.1 23) 4 cr (uI 23 (fN s.1 23) 3 hx (uX 23 (fN s.1 23) 2 b (uX 23 (fN s.1 23) 1 a (uL 6 (fN s.1 23) [] (uL 5 (fN s.1 23) [] (uN 23 (fN s.1 23 + 1) s.1))))))))))))) 23 (fN s.1 23) 1 = a by simp [nParcel, fI_uI, fI_uW, fI_uX, fI_uP, fI_uQ, fI_uL, fI_uN, fX_uI, fX_uW, fX_uX, fX_uP, fX_uQ, fX_uL, fX_uN, fP_uI, fP_uW, fP_uX, fP_uP, fP_uQ, fP_uL, fP_uN, fQ_uI, fQ_uW, fQ_uX, fQ_uP, fQ_uQ, fQ_uL, fQ_uN, fL_uI, fL_uW, fL_uX, fL_uP, fL_uQ, fL_uL, fL_uN, fN_uI, fN_uW, fN_uX, fN_uP, fN_uQ, fN_uL, fN_uN, up3, up2, up1]]; exact vk_mono (p := none) hle.1 (vk_RR hv3)) (by rw [show fX (uI 23 (fN s.1 23) 12 (-1) (uI 23 (fN s.1 23) 11 1 (uI 23 (fN s.1 23) 10 1 (uI 23 (fN s.1 23) 9 1 (uI 23 (fN s.1 23) 8 0 (uI 23 (fN s.1 23) 7 10 (uI 23 (fN s.1 23) 4 cr (uI 23 (fN s.1 23) 3 hx (uX 23 (fN s.1 23) 2 b (uX 23 (fN s.1 23) 1 a (uL 6 (fN s.1 23) [] (uL 5 (fN s.1 23) [] (uN 23 (fN s.1 23 + 1) s.1))))))))))))) 23 (fN s.1 23) 2 = b by simp [nParcel, fI_uI, fI_uW, fI_uX, fI_uP, fI_uQ, fI_uL, fI_uN, fX_uI, fX_uW, fX_uX, fX_uP, fX_uQ, fX_uL, fX_uN, fP_uI, fP_uW, fP_uX, fP_uP, fP_uQ, fP_uL, fP_uN, fQ_uI, fQ_uW, fQ_uX, fQ_uP, fQ_uQ, fQ_uL, fQ_uN, fL_uI, fL_uW, fL_uX, fL_uP, fL_uQ, fL_uL, fL_uN, fN_uI, fN_uW, fN_uX, fN_uP, fN_uQ, fN_uL, fN_uN, up3, up2, up1]]; exact vk_mono (p := none) hle.1 (vk_RR hv2)) (fun t' k' e => by cases e; exact ⟨hkk 5 rfl, by decide⟩) (fun t' k' e => by cases e; exact ⟨hkk 6 rfl, by decide⟩)⟩) (fun t' h9 h => absurd (nTab23 t' (nGp_lt (by omega)) h).1 h9) (fun t' h9 h => by
    rcases (nTab23 t' (nGp_lt (by omega)) h).2 h9 with e | e
    · subst e
      exact ⟨⟨3, by simp⟩, by simp [nParcel, fI_uI, fI_uW, fI_uX, fI_uP, fI_uQ, fI_uL, fI_uN, fX_uI, fX_uW, fX_uX, fX_uP, fX_uQ, fX_uL, fX_uN, fP_uI, fP_uW, fP_uX, fP_uP, fP_uQ, fP_uL, fP_uN, fQ_uI, fQ_uW, fQ_uX, fQ_uP, fQ_uQ, fQ_uL, fQ_uN, fL_uI, fL_uW, fL_uX, fL_uP, fL_uQ, fL_uL, fL_uN, fN_uI, fN_uW, fN_uX, fN_uP, fN_uQ, fN_uL, fN_uN, up3, up2, up1]⟩
    · subst e
      exact ⟨⟨3, by simp⟩, by simp [nParcel, fI_uI, fI_uW, fI_uX, fI_uP, fI_uQ, fI_uL, fI_uN, fX_uI, fX_uW, fX_uX, fX_uP, fX_uQ, fX_uL, fX_uN, fP_uI, fP_uW, fP_uX, fP_uP, fP_uQ, fP_uL, fP_uN, fQ_uI, fQ_uW, fQ_uX, fQ_uP, fQ_uQ, fQ_uL, fQ_uN, fL_uI, fL_uW, fL_uX, fL_uP, fL_uQ, fL_uL, fL_uN, fN_uI, fN_uW, fN_uX, fN_uP, fN_uQ, fN_uL, fN_uN, up3, up2, up1]⟩) (by simp) (by simp) nA_23
  have hrun := C_48 (xs := xs) (nx := nx) (d1 := mAd 21 a) (d2 := mAd 21 b) (x1 := n) (x2 := hx) (x3 := cr) hM (by rw [hc5]; exact mAd_ne (by decide) (by decide) (by omega)) (by rw [hc6]; exact mAd_ne (by decide) (by decide) (by omega)) hb
  rw [hc5, hc6] at hrun
  exact nCt_one (A := [.inl cr, .inl hx, vR 21 (some b), vR 21 (some a), .inl n]) f hF (by decide) rfl rfl hl hrun hr hle.1 hle.2 rfl
theorem nCt_52 {z w u n : Int32} {d : Nat} {S2 : List nV} {i n9 : Nat} (f : nCf p s σ g L (.inl z :: .inl w :: .inl u :: vR 21 (some d) :: .inl n :: vU 28 :: S2)) (hF : mF y pc = some (.invokespecial i, n9, 52, nE2 52)) (hl : S2.length ≤ 4) (hn : n = Int32.ofNat (fN s.1 28)) : nGoes xs nx y pc L (.inl z :: .inl w :: .inl u :: vR 21 (some d) :: .inl n :: vU 28 :: S2) s σ (pc + 3) L (nRen 28 (fN s.1 28) S2) (uW 7 (fN s.1 28) (upd (upd (upd (upd (fun _ => 0) 0 0) 1 u) 2 w) 3 z) (uX 28 (fN s.1 28) 1 d (uN 28 (fN s.1 28 + 1) s.1)), s.2) := by
  obtain ⟨r, hL, hS, hp⟩ := id f
  rw [show nE2 52 = 1382 from rfl] at hF
  have hp : p = some 28 := hp
  subst hp
  have hM : σ.1 (mAd 28 (fN s.1 28)) = some (.inl (5, (mFk 5).map mDf)) := nMade r (c := 5) rfl (by decide) (by decide)
  have hv0 := (kd1 hS).1
  have hv1 := (kd1 (kd1 hS).2).1
  have hv2 := (kd1 (kd1 (kd1 hS).2).2).1
  have hv3 := (kd1 (kd1 (kd1 (kd1 hS).2).2).2).1
  have hv4 := (kd1 (kd1 (kd1 (kd1 (kd1 hS).2).2).2).2).1
  have hc7 : σ.2.1 7 = fN s.1 28 := nCnt_of r rfl rfl (by decide)
  have hle : nLe s (uW 7 (fN s.1 28) (upd (upd (upd (upd (fun _ => 0) 0 0) 1 u) 2 w) 3 z) (uX 28 (fN s.1 28) 1 d (uN 28 (fN s.1 28 + 1) s.1)), s.2) ∧ fN s.1 28 < nCt (fN (uW 7 (fN s.1 28) (upd (upd (upd (upd (fun _ => 0) 0 0) 1 u) 2 w) 3 z) (uX 28 (fN s.1 28) 1 d (uN 28 (fN s.1 28 + 1) s.1)))) 28 := nLe_up (s := s) (s' := (uW 7 (fN s.1 28) (upd (upd (upd (upd (fun _ => 0) 0 0) 1 u) 2 w) 3 z) (uX 28 (fN s.1 28) 1 d (uN 28 (fN s.1 28 + 1) s.1)), s.2)) (t := 28) (by decide) rfl rfl
  have hkk : ∀ t', nGp t' = 28 → fN s.1 28 < nCt (fN (uW 7 (fN s.1 28) (upd (upd (upd (upd (fun _ => 0) 0 0) 1 u) 2 w) 3 z) (uX 28 (fN s.1 28) 1 d (uN 28 (fN s.1 28 + 1) s.1)))) t' := fun t' h => by
    rw [show fN (uW 7 (fN s.1 28) (upd (upd (upd (upd (fun _ => 0) 0 0) 1 u) 2 w) 3 z) (uX 28 (fN s.1 28) 1 d (uN 28 (fN s.1 28 + 1) s.1))) = up1 (fN s.1) 28 (fN s.1 28 + 1) from rfl, nCt_up (by decide), if_pos h]
    exact Nat.lt_succ_self _
  have hr := r.ctor (s' := (uW 7 (fN s.1 28) (upd (upd (upd (upd (fun _ => 0) 0 0) 1 u) 2 w) 3 z) (uX 28 (fN s.1 28) 1 d (uN 28 (fN s.1 28 + 1) s.1)), s.2)) (t := 28) (w := 2) (X := .inl (5, [.int n, .ref (mAd 21 d), .ref (mAd 7 (fN s.1 28))])) (l := [(7, .inr (0, 4, .inl (upd (upd (upd (upd (fun _ => 0) 0 0) 1 u) 2 w) 3 z)), 4)]) (by show nOff _ _ (uW 7 (fN s.1 28) (upd (upd (upd (upd (fun _ => 0) 0 0) 1 u) 2 w) 3 z) (uX 28 (fN s.1 28) 1 d (uN 28 (fN s.1 28 + 1) s.1))) _; (try unfold nParcel); (repeat first | refine nOff.uI ?_ (by decide) | refine nOff.uX ?_ (by decide) | refine nOff.uP ?_ (by decide) | refine nOff.uW ?_ (by decide) | refine nOff.uL ?_ (by decide) | refine nOff.uQ ?_ rfl); exact nOff.rf.uN) rfl rfl (show [7].Nodup by decide) (fun t' h => by rcases nTab14 t' (nGp_lt (by omega)) h with rfl | rfl <;> simp) (fun t' h => by simp at h; rcases h with rfl <;> decide) (fun c9 h => by
    have e := (nTab20 c9 (nTg_13 h (by decide))).2.2.2.1 h
    subst e
    exact ⟨Or.inl ⟨rfl, by rw [nFs_5]; simp [nParcel, hn, fI_uI, fI_uW, fI_uX, fI_uP, fI_uQ, fI_uL, fI_uN, fX_uI, fX_uW, fX_uX, fX_uP, fX_uQ, fX_uL, fX_uN, fP_uI, fP_uW, fP_uX, fP_uP, fP_uQ, fP_uL, fP_uN, fQ_uI, fQ_uW, fQ_uX, fQ_uP, fQ_uQ, fQ_uL, fQ_uN, fL_uI, fL_uW, fL_uX, fL_uP, fL_uQ, fL_uL, fL_uN, fN_uI, fN_uW, fN_uX, fN_uP, fN_uQ, fN_uL, fN_uN, up3, up2, up1, vw]⟩, nVk_5 (by rw [show fX (uW 7 (fN s.1 28) (upd (upd (upd (upd (fun _ => 0) 0 0) 1 u) 2 w) 3 z) (uX 28 (fN s.1 28) 1 d (uN 28 (fN s.1 28 + 1) s.1))) 28 (fN s.1 28) 1 = d by simp [nParcel, fI_uI, fI_uW, fI_uX, fI_uP, fI_uQ, fI_uL, fI_uN, fX_uI, fX_uW, fX_uX, fX_uP, fX_uQ, fX_uL, fX_uN, fP_uI, fP_uW, fP_uX, fP_uP, fP_uQ, fP_uL, fP_uN, fQ_uI, fQ_uW, fQ_uX, fQ_uP, fQ_uQ, fQ_uL, fQ_uN, fL_uI, fL_uW, fL_uX, fL_uP, fL_uQ, fL_uL, fL_uN, fN_uI, fN_uW, fN_uX, fN_uP, fN_uQ, fN_uL, fN_uN, up3, up2, up1]]; exact vk_mono (p := none) hle.1 (vk_RR hv3)) (fun k' e => by cases e; exact Or.inl ⟨hkk 7 rfl, by decide⟩)⟩) (fun t' h9 h => by
    have e := (nTab28 t' (nGp_lt (by omega)) h).1 h9
    subst e
    refine ⟨4, ?_⟩
    have e2 : nRw (uW 7 (fN s.1 28) (upd (upd (upd (upd (fun _ => 0) 0 0) 1 u) 2 w) 3 z) (uX 28 (fN s.1 28) 1 d (uN 28 (fN s.1 28 + 1) s.1)), s.2) 7 (fN s.1 28) = (0, 4, .inl (upd (upd (upd (upd (fun _ => 0) 0 0) 1 u) 2 w) 3 z)) := by
      show (0, nAl 7, Sum.inl (fI (uW 7 (fN s.1 28) (upd (upd (upd (upd (fun _ => 0) 0 0) 1 u) 2 w) 3 z) (uX 28 (fN s.1 28) 1 d (uN 28 (fN s.1 28 + 1) s.1))) 7 (fN s.1 28))) = _
      rw [show fI (uW 7 (fN s.1 28) (upd (upd (upd (upd (fun _ => 0) 0 0) 1 u) 2 w) 3 z) (uX 28 (fN s.1 28) 1 d (uN 28 (fN s.1 28 + 1) s.1))) 7 (fN s.1 28) = upd (upd (upd (upd (fun _ => 0) 0 0) 1 u) 2 w) 3 z from by funext j; simp [fI_uI, fI_uW, fI_uX, fI_uP, fI_uQ, fI_uL, fI_uN, fX_uI, fX_uW, fX_uX, fX_uP, fX_uQ, fX_uL, fX_uN, fP_uI, fP_uW, fP_uX, fP_uP, fP_uQ, fP_uL, fP_uN, fQ_uI, fQ_uW, fQ_uX, fQ_uP, fQ_uQ, fQ_uL, fQ_uN, fL_uI, fL_uW, fL_uX, fL_uP, fL_uQ, fL_uL, fL_uN, fN_uI, fN_uW, fN_uX, fN_uP, fN_uQ, fN_uL, fN_uN, up3, up2, up1]]
      rfl
    rw [e2]
    exact List.mem_cons_self) (fun t' h9 h => absurd (nTab28 t' (nGp_lt (by omega)) h).2 h9) (by simp) (by simp) nA_28
  have hrun := C_52 (xs := xs) (nx := nx) (d := mAd 21 d) (x1 := n) (x2 := u) (x3 := w) (x4 := z) hM (by rw [hc7]; exact mAd_ne (by decide) (by decide) (by omega))
  rw [hc7] at hrun
  exact nCt_one (A := [.inl z, .inl w, .inl u, vR 21 (some d), .inl n]) f hF (by decide) rfl rfl hl hrun hr hle.1 hle.2 rfl
theorem nCt_62 {told ex sz n : Int32} {rc sd : Nat} {S2 : List nV} {i n9 : Nat} (f : nCf p s σ g L (.inl told :: .inl ex :: .inl sz :: vR 24 (some rc) :: vR 24 (some sd) :: .inl n :: vU 26 :: S2)) (hF : mF y pc = some (.invokespecial i, n9, 62, nE2 62)) (hl : S2.length ≤ 4) (hn : n = Int32.ofNat (fN s.1 26)) (hb : ex = 0 ∨ ex = 1) : nGoes xs nx y pc L (.inl told :: .inl ex :: .inl sz :: vR 24 (some rc) :: vR 24 (some sd) :: .inl n :: vU 26 :: S2) s σ (pc + 3) L (nRen 26 (fN s.1 26) S2) (nParcel (fN s.1 26) sd rc sz ex told s.1, s.2) := by
  obtain ⟨r, hL, hS, hp⟩ := id f
  rw [show nE2 62 = 1911 from rfl] at hF
  have hp : p = some 26 := hp
  subst hp
  have hM : σ.1 (mAd 26 (fN s.1 26)) = some (.inl (7, (mFk 7).map mDf)) := nMade r (c := 7) rfl (by decide) (by decide)
  have hv0 := (kd1 hS).1
  have hv1 := (kd1 (kd1 hS).2).1
  have hv2 := (kd1 (kd1 (kd1 hS).2).2).1
  have hv3 := (kd1 (kd1 (kd1 (kd1 hS).2).2).2).1
  have hv4 := (kd1 (kd1 (kd1 (kd1 (kd1 hS).2).2).2).2).1
  have hv5 := (kd1 (kd1 (kd1 (kd1 (kd1 (kd1 hS).2).2).2).2).2).1
  have hc10 : σ.2.1 10 = fN s.1 26 := nCnt_of r rfl rfl (by decide)
  have hc9 : σ.2.1 9 = fN s.1 26 := nCnt_of r rfl rfl (by decide)
  have hc8 : σ.2.1 8 = fN s.1 26 := nCnt_of r rfl rfl (by decide)
  have hle : nLe s (nParcel (fN s.1 26) sd rc sz ex told s.1, s.2) ∧ fN s.1 26 < nCt (fN (nParcel (fN s.1 26) sd rc sz ex told s.1)) 26 := nLe_up (s := s) (s' := (nParcel (fN s.1 26) sd rc sz ex told s.1, s.2)) (t := 26) (by decide) rfl rfl
  have hkk : ∀ t', nGp t' = 26 → fN s.1 26 < nCt (fN (nParcel (fN s.1 26) sd rc sz ex told s.1)) t' := fun t' h => by
    rw [show fN (nParcel (fN s.1 26) sd rc sz ex told s.1) = up1 (fN s.1) 26 (fN s.1 26 + 1) from rfl, nCt_up (by decide), if_pos h]
    exact Nat.lt_succ_self _
  have hr := r.ctor (s' := (nParcel (fN s.1 26) sd rc sz ex told s.1, s.2)) (t := 26) (w := 4) (X := .inl (7, [.int n, .ref (mAd 24 sd), .int sz, .int ex, .int told, .ref (mAd 8 (fN s.1 26)), .ref (mAd 9 (fN s.1 26)), .ref (mAd 10 (fN s.1 26)), .null, .int 0, .ref (mAd 24 rc), .null, .int 0, .int 24, .int (told + 100), .int 0, .int 0, .int 1])) (l := [(10, .inl (0, [.int 0, .ref mEMP, .int 0]), 3), (9, .inl (9, [.int 0, .int (-1), .int 0, .null, .null, .null, .int 0, .int 0, .int 0, .int 0]), 10), (8, .inl (6, [.int 0, .int 0, .int 0, .int 0, .int 0, .null]), 6)]) (by show nOff _ _ (nParcel (fN s.1 26) sd rc sz ex told s.1) _; (try unfold nParcel); (repeat first | refine nOff.uI ?_ (by decide) | refine nOff.uX ?_ (by decide) | refine nOff.uP ?_ (by decide) | refine nOff.uW ?_ (by decide) | refine nOff.uL ?_ (by decide) | refine nOff.uQ ?_ rfl); exact nOff.rf.uN) rfl rfl (show [10, 9, 8].Nodup by decide) (fun t' h => by rcases nTab11 t' (nGp_lt (by omega)) h with rfl | rfl | rfl | rfl <;> simp) (fun t' h => by simp at h; rcases h with rfl | rfl | rfl <;> decide) (fun c9 h => by
    rcases (nTab20 c9 (nTg_13 h (by decide))).2.2.2.2.2 h with rfl | rfl | rfl
    · exact ⟨Or.inl ⟨rfl, by rw [nFs_7]; simp [nParcel, hn, fI_uI, fI_uW, fI_uX, fI_uP, fI_uQ, fI_uL, fI_uN, fX_uI, fX_uW, fX_uX, fX_uP, fX_uQ, fX_uL, fX_uN, fP_uI, fP_uW, fP_uX, fP_uP, fP_uQ, fP_uL, fP_uN, fQ_uI, fQ_uW, fQ_uX, fQ_uP, fQ_uQ, fQ_uL, fQ_uN, fL_uI, fL_uW, fL_uX, fL_uP, fL_uQ, fL_uL, fL_uN, fN_uI, fN_uW, fN_uX, fN_uP, fN_uQ, fN_uL, fN_uN, up3, up2, up1, vw]⟩, nVk_7 (by rw [show fX (nParcel (fN s.1 26) sd rc sz ex told s.1) 26 (fN s.1 26) 1 = sd by simp [nParcel, fI_uI, fI_uW, fI_uX, fI_uP, fI_uQ, fI_uL, fI_uN, fX_uI, fX_uW, fX_uX, fX_uP, fX_uQ, fX_uL, fX_uN, fP_uI, fP_uW, fP_uX, fP_uP, fP_uQ, fP_uL, fP_uN, fQ_uI, fQ_uW, fQ_uX, fQ_uP, fQ_uQ, fQ_uL, fQ_uN, fL_uI, fL_uW, fL_uX, fL_uP, fL_uQ, fL_uL, fL_uN, fN_uI, fN_uW, fN_uX, fN_uP, fN_uQ, fN_uL, fN_uN, up3, up2, up1]]; exact vk_mono (p := none) hle.1 (vk_RR hv4)) (fun k' e => by cases e; exact Or.inl ⟨hkk 8 rfl, by decide⟩) (fun k' e => by cases e; exact Or.inl ⟨hkk 9 rfl, by decide⟩) (fun t' k' e => by cases e; exact ⟨hkk 10 rfl, by decide⟩) (by rw [show fP (nParcel (fN s.1 26) sd rc sz ex told s.1) 26 (fN s.1 26) 8 = none by simp [nParcel, fI_uI, fI_uW, fI_uX, fI_uP, fI_uQ, fI_uL, fI_uN, fX_uI, fX_uW, fX_uX, fX_uP, fX_uQ, fX_uL, fX_uN, fP_uI, fP_uW, fP_uX, fP_uP, fP_uQ, fP_uL, fP_uN, fQ_uI, fQ_uW, fQ_uX, fQ_uP, fQ_uQ, fQ_uL, fQ_uN, fL_uI, fL_uW, fL_uX, fL_uP, fL_uQ, fL_uL, fL_uN, fN_uI, fN_uW, fN_uX, fN_uP, fN_uQ, fN_uL, fN_uN, up3, up2, up1]]; exact fun k' e => by cases e) (by rw [show fX (nParcel (fN s.1 26) sd rc sz ex told s.1) 26 (fN s.1 26) 10 = rc by simp [nParcel, fI_uI, fI_uW, fI_uX, fI_uP, fI_uQ, fI_uL, fI_uN, fX_uI, fX_uW, fX_uX, fX_uP, fX_uQ, fX_uL, fX_uN, fP_uI, fP_uW, fP_uX, fP_uP, fP_uQ, fP_uL, fP_uN, fQ_uI, fQ_uW, fQ_uX, fQ_uP, fQ_uQ, fQ_uL, fQ_uN, fL_uI, fL_uW, fL_uX, fL_uP, fL_uQ, fL_uL, fL_uN, fN_uI, fN_uW, fN_uX, fN_uP, fN_uQ, fN_uL, fN_uN, up3, up2, up1]]; exact vk_mono (p := none) hle.1 (vk_RR hv3)) (by rw [show fP (nParcel (fN s.1 26) sd rc sz ex told s.1) 26 (fN s.1 26) 11 = none by simp [nParcel, fI_uI, fI_uW, fI_uX, fI_uP, fI_uQ, fI_uL, fI_uN, fX_uI, fX_uW, fX_uX, fX_uP, fX_uQ, fX_uL, fX_uN, fP_uI, fP_uW, fP_uX, fP_uP, fP_uQ, fP_uL, fP_uN, fQ_uI, fQ_uW, fQ_uX, fQ_uP, fQ_uQ, fQ_uL, fQ_uN, fL_uI, fL_uW, fL_uX, fL_uP, fL_uQ, fL_uL, fL_uN, fN_uI, fN_uW, fN_uX, fN_uP, fN_uQ, fN_uL, fN_uN, up3, up2, up1]]; exact fun k' e => by cases e)⟩
    · exact ⟨Or.inr ⟨6, by rw [nFs_6]; simp [nParcel, fI_uI, fI_uW, fI_uX, fI_uP, fI_uQ, fI_uL, fI_uN, fX_uI, fX_uW, fX_uX, fX_uP, fX_uQ, fX_uL, fX_uN, fP_uI, fP_uW, fP_uX, fP_uP, fP_uQ, fP_uL, fP_uN, fQ_uI, fQ_uW, fQ_uX, fQ_uP, fQ_uQ, fQ_uL, fQ_uN, fL_uI, fL_uW, fL_uX, fL_uP, fL_uQ, fL_uL, fL_uN, fN_uI, fN_uW, fN_uX, fN_uP, fN_uQ, fN_uL, fN_uN, up3, up2, up1, vw, show nTg 6 = 8 from rfl]⟩, nVk_6 (by rw [show fP (nParcel (fN s.1 26) sd rc sz ex told s.1) 8 (fN s.1 26) 5 = none by simp [nParcel, fI_uI, fI_uW, fI_uX, fI_uP, fI_uQ, fI_uL, fI_uN, fX_uI, fX_uW, fX_uX, fX_uP, fX_uQ, fX_uL, fX_uN, fP_uI, fP_uW, fP_uX, fP_uP, fP_uQ, fP_uL, fP_uN, fQ_uI, fQ_uW, fQ_uX, fQ_uP, fQ_uQ, fQ_uL, fQ_uN, fL_uI, fL_uW, fL_uX, fL_uP, fL_uQ, fL_uL, fL_uN, fN_uI, fN_uW, fN_uX, fN_uP, fN_uQ, fN_uL, fN_uN, up3, up2, up1]]; exact fun k' e => by cases e)⟩
    · exact ⟨Or.inr ⟨10, by rw [nFs_9]; simp [nParcel, fI_uI, fI_uW, fI_uX, fI_uP, fI_uQ, fI_uL, fI_uN, fX_uI, fX_uW, fX_uX, fX_uP, fX_uQ, fX_uL, fX_uN, fP_uI, fP_uW, fP_uX, fP_uP, fP_uQ, fP_uL, fP_uN, fQ_uI, fQ_uW, fQ_uX, fQ_uP, fQ_uQ, fQ_uL, fQ_uN, fL_uI, fL_uW, fL_uX, fL_uP, fL_uQ, fL_uL, fL_uN, fN_uI, fN_uW, fN_uX, fN_uP, fN_uQ, fN_uL, fN_uN, up3, up2, up1, vw, show nTg 9 = 9 from rfl]⟩, nVk_9 (by rw [show fP (nParcel (fN s.1 26) sd rc sz ex told s.1) 9 (fN s.1 26) 3 = none by simp [nParcel, fI_uI, fI_uW, fI_uX, fI_uP, fI_uQ, fI_uL, fI_uN, fX_uI, fX_uW, fX_uX, fX_uP, fX_uQ, fX_uL, fX_uN, fP_uI, fP_uW, fP_uX, fP_uP, fP_uQ, fP_uL, fP_uN, fQ_uI, fQ_uW, fQ_uX, fQ_uP, fQ_uQ, fQ_uL, fQ_uN, fL_uI, fL_uW, fL_uX, fL_uP, fL_uQ, fL_uL, fL_uN, fN_uI, fN_uW, fN_uX, fN_uP, fN_uQ, fN_uL, fN_uN, up3, up2, up1]]; exact fun k' e => by cases e) (by rw [show fQ (nParcel (fN s.1 26) sd rc sz ex told s.1) (fN s.1 26) = none by simp [nParcel, fI_uI, fI_uW, fI_uX, fI_uP, fI_uQ, fI_uL, fI_uN, fX_uI, fX_uW, fX_uX, fX_uP, fX_uQ, fX_uL, fX_uN, fP_uI, fP_uW, fP_uX, fP_uP, fP_uQ, fP_uL, fP_uN, fQ_uI, fQ_uW, fQ_uX, fQ_uP, fQ_uQ, fQ_uL, fQ_uN, fL_uI, fL_uW, fL_uX, fL_uP, fL_uQ, fL_uL, fL_uN, fN_uI, fN_uW, fN_uX, fN_uP, fN_uQ, fN_uL, fN_uN, up3, up2, up1]]; exact fun t' k' e => by cases e) (by rw [show fP (nParcel (fN s.1 26) sd rc sz ex told s.1) 9 (fN s.1 26) 5 = none by simp [nParcel, fI_uI, fI_uW, fI_uX, fI_uP, fI_uQ, fI_uL, fI_uN, fX_uI, fX_uW, fX_uX, fX_uP, fX_uQ, fX_uL, fX_uN, fP_uI, fP_uW, fP_uX, fP_uP, fP_uQ, fP_uL, fP_uN, fQ_uI, fQ_uW, fQ_uX, fQ_uP, fQ_uQ, fQ_uL, fQ_uN, fL_uI, fL_uW, fL_uX, fL_uP, fL_uQ, fL_uL, fL_uN, fN_uI, fN_uW, fN_uX, fN_uP, fN_uQ, fN_uL, fN_uN, up3, up2, up1]]; exact fun k' e => by cases e)⟩) (fun t' h9 h => absurd (nTab26 t' (nGp_lt (by omega)) h).1 h9) (fun t' h9 h => by
    rcases (nTab26 t' (nGp_lt (by omega)) h).2 h9 with e
    · subst e
      exact ⟨⟨3, by simp⟩, by simp [nParcel, fI_uI, fI_uW, fI_uX, fI_uP, fI_uQ, fI_uL, fI_uN, fX_uI, fX_uW, fX_uX, fX_uP, fX_uQ, fX_uL, fX_uN, fP_uI, fP_uW, fP_uX, fP_uP, fP_uQ, fP_uL, fP_uN, fQ_uI, fQ_uW, fQ_uX, fQ_uP, fQ_uQ, fQ_uL, fQ_uN, fL_uI, fL_uW, fL_uX, fL_uP, fL_uQ, fL_uL, fL_uN, fN_uI, fN_uW, fN_uX, fN_uP, fN_uQ, fN_uL, fN_uN, up3, up2, up1]⟩) (by simp) (by simp) nA_26
  have hrun := C_62 (xs := xs) (nx := nx) (d1 := mAd 24 sd) (d2 := mAd 24 rc) (x1 := n) (x2 := sz) (x3 := ex) (x4 := told) hM (by rw [hc8]; exact mAd_ne (by decide) (by decide) (by omega)) (by rw [hc9]; exact mAd_ne (by decide) (by decide) (by omega)) (by rw [hc10]; exact mAd_ne (by decide) (by decide) (by omega)) hb
  rw [hc8, hc9, hc10] at hrun
  exact nCt_one (A := [.inl told, .inl ex, .inl sz, vR 24 (some rc), vR 24 (some sd), .inl n]) f hF (by decide) rfl rfl hl hrun hr hle.1 hle.2 rfl
theorem nCt_ok : nCtOK xs nx := by
  intro p s σ g y pc i n y' pc' L L' S S' s' f hF hm h
  unfold nCtor at h
  split at h
  · rename_i spot od S2
    rcases od with _ | od
    · cases h
    simp only [nn] at h
    cases hb9 : Nat.ble (nRen 24 (fN s.1 24) S2).length 4 with
    | false => rw [hb9] at h; cases h
    | true =>
      rw [hb9] at h
      cases h
      exact nCt_42 f hF (by have := Nat.le_of_ble_eq_true hb9; unfold nRen at this; rwa [List.length_map] at this)
  · rename_i cr h9 ob oa n9 S2
    rcases ob with _ | ob
    · cases h
    simp only [nn] at h
    rcases oa with _ | oa
    · cases h
    simp only [nn] at h
    split at h
    · rename_i hc
      obtain ⟨e1, e2⟩ := hc
      cases hb9 : Nat.ble (nRen 23 (fN s.1 23) S2).length 4 with
      | false => rw [hb9] at h; cases h
      | true =>
        rw [hb9] at h
        cases h
        exact nCt_48 f hF (by have := Nat.le_of_ble_eq_true hb9; unfold nRen at this; rwa [List.length_map] at this) e1 e2
    · cases h
  · rename_i z w u od n9 S2
    rcases od with _ | od
    · cases h
    simp only [nn] at h
    split at h
    · rename_i e1
      cases hb9 : Nat.ble (nRen 28 (fN s.1 28) S2).length 4 with
      | false => rw [hb9] at h; cases h
      | true =>
        rw [hb9] at h
        cases h
        exact nCt_52 f hF (by have := Nat.le_of_ble_eq_true hb9; unfold nRen at this; rwa [List.length_map] at this) e1
    · cases h
  · rename_i told ex sz or9 os n9 S2
    rcases or9 with _ | or9
    · cases h
    simp only [nn] at h
    rcases os with _ | os
    · cases h
    simp only [nn] at h
    split at h
    · rename_i hc
      obtain ⟨e1, e2⟩ := hc
      cases hb9 : Nat.ble (nRen 26 (fN s.1 26) S2).length 4 with
      | false => rw [hb9] at h; cases h
      | true =>
        rw [hb9] at h
        cases h
        exact nCt_62 f hF (by have := Nat.le_of_ble_eq_true hb9; unfold nRen at this; rwa [List.length_map] at this) e1 e2
    · cases h
  · rename_i kd ck od q9 S2
    rcases od with _ | od
    · cases h
    simp only [nn] at h
    cases hb9 : Nat.ble (nRen 25 (fN s.1 25) S2).length 4 with
    | false => rw [hb9] at h; cases h
    | true =>
      rw [hb9] at h
      cases h
      exact nCt_73 f hF (by have := Nat.le_of_ble_eq_true hb9; unfold nRen at this; rwa [List.length_map] at this)
  · rename_i st rm od n9 S2
    rcases od with _ | od
    · cases h
    simp only [nn] at h
    split at h
    · rename_i e1
      cases hb9 : Nat.ble (nRen 27 (fN s.1 27) S2).length 4 with
      | false => rw [hb9] at h; cases h
      | true =>
        rw [hb9] at h
        cases h
        exact nCt_75 f hF (by have := Nat.le_of_ble_eq_true hb9; unfold nRen at this; rwa [List.length_map] at this) e1
    · cases h
  · cases h
end NCTK
