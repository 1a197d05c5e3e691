/-! ===== adding to a list; all methods of lists ===== -/
def nNx (c : Nat) : Nat := match c with
  | 10 => 15
  | 15 => 22
  | 22 => 33
  | 33 => 49
  | 49 => 73
  | 73 => 109
  | 109 => 163
  | 163 => 244
  | 244 => 366
  | _ => 549
theorem nLv_cases {c : Nat} (h : nLv c ≠ 0) : c = 10 ∨ c = 15 ∨ c = 22 ∨ c = 33 ∨ c = 49 ∨ c = 73 ∨ c = 109 ∨ c = 163 ∨ c = 244 ∨ c = 366 ∨ c = 549 := by
  unfold nLv at h
  split at h <;> first | omega | exact absurd rfl h
theorem nLv_nx {c : Nat} (h : nLv c ≠ 0) (h2 : c < 500) : nLv (nNx c) = nLv c + 1 ∧ c < nNx c ∧ nNx c ≤ 549 ∧ 0 < c ∧ Int32.ofNat c + (if Int32.ofNat c + Int32.ofInt 1 - Int32.ofNat c < Int32.ofNat c >>> ((Int32.ofInt 1) &&& 31) then Int32.ofNat c >>> ((Int32.ofInt 1) &&& 31) else Int32.ofNat c + Int32.ofInt 1 - Int32.ofNat c) = Int32.ofNat (nNx c) := by
  rcases nLv_cases h with rfl | rfl | rfl | rfl | rfl | rfl | rfl | rfl | rfl | rfl | rfl <;> first | (exact ⟨by decide, by decide, by decide, by decide, by decide⟩) | omega
section LADD
variable {xs : Nat → Int32} {nx : Nat} {σ σ1 : mS}
theorem L_newLen {x y w v : Int32} (hv : x + (if y < w then w else y) = v) (h0 : 0 < v) (h1 : v ≤ 2147483639) : mEv xs nx 273 0 [some (.int x), some (.int y), some (.int w), none] [] σ (.inl (some (.int v)), σ) := by
  refine ev_go rfl rfl (ev_go rfl rfl (ev_go rfl rfl (ev_go rfl rfl (ev_go rfl rfl (ev_go rfl rfl ?_)))))
  show mEv xs nx 273 8 [some (.int x), some (.int y), some (.int w), some (.int (x + (if y < w then w else y)))] [] σ _
  rw [hv]
  exact ev_go rfl rfl (ev_go rfl rfl (ev_go rfl (st_icF (by simp only [mCmp, decide_eq_false_iff_not]; exact Int32.not_le.mpr h0)) (ev_go rfl rfl (ev_go rfl rfl (ev_go rfl (st_icF (by simp only [mCmp, decide_eq_false_iff_not]; exact Int32.not_lt.mpr h1)) (ev_go rfl rfl (ev_end rfl rfl)))))))
/-- copyOf: a longer row with the same at its head -/
theorem L_copy {D c c' : Nat} {f : Nat → Option Nat} (h96 : D % 128 = 96) (hc : c ≤ c') (hc' : c' ≤ 549) (hD : σ.1 D = some (.inr (3, c, rRf f))) (hne : D ≠ mAd 96 (σ.2.1 96)) :
    ∃ f', (∀ j, j < c → f' j = f j) ∧ mEv xs nx 275 0 [some (.ref D), some (.int (Int32.ofNat c'))] [] σ (.inl (some (.ref (mAd 96 (σ.2.1 96)))), mNew 96 (.inr (3, c', rRf f')) c' σ) := by
  have e1 : (Int32.ofNat c').toNatClampNeg = c' := i32_nat (by omega)
  have e2 : (if Int32.ofNat c' < Int32.ofNat c then Int32.ofNat c' else Int32.ofNat c) = Int32.ofNat c := by
    rw [if_neg]
    intro z
    rw [Int32.lt_iff_toInt_lt, Int32.toInt_ofNat_of_lt (by omega), Int32.toInt_ofNat_of_lt (by omega)] at z
    omega
  refine ⟨va_cpy f (fun _ => none) 0 0 c, fun j hj => ?_, ?_⟩
  · unfold va_cpy
    rw [if_pos (by omega)]
    congr 1
    omega
  refine ev_go rfl rfl (ev_go rfl rfl (ev_go rfl rfl (ev_go rfl (st_cls hD (Nat.le_of_ble_eq_true rfl)) (ev_call rfl rfl (v := some (.ref (mAd 96 (σ.2.1 96)))) (σ1 := mNew 96 (.inr (3, c', rRf (va_cpy f (fun _ => none) 0 0 c))) c' σ) ?_ (ev_end rfl rfl)))))
  have hDn : (mNew 96 (.inr (3, c', rRf fun _ => none)) c' σ).1 D = some (.inr (3, c, rRf f)) := (va_up_ne _ _ hne).trans hD
  have hNn : (mNew 96 (.inr (3, c', rRf fun _ => none)) c' σ).1 (mAd 96 (σ.2.1 96)) = some (.inr (3, c', rRf fun _ => none)) := va_up_self _ _ _
  have hs1 : D ≠ mSCR := fun z => by rw [z] at h96; simp [mSCR] at h96
  have hs2 : D ≠ mEMP := fun z => by rw [z] at h96; simp [mEMP] at h96
  refine ev_go rfl rfl (ev_go rfl rfl (ev_go rfl rfl (ev_go rfl rfl (ev_go rfl (st_newR (i32_pos (by omega)) (by rw [e1]; omega)) ?_))))
  rw [e1]
  refine ev_go rfl rfl (ev_go rfl rfl (ev_go rfl rfl (ev_go rfl rfl (ev_go rfl rfl (ev_go rfl rfl (ev_go rfl rfl (ev_go rfl (st_alen hDn hs1 hs2) (ev_go rfl rfl (ev_go rfl rfl ?_)))))))))
  show mEv xs nx 274 35 _ (.int (if Int32.ofNat c' < Int32.ofNat c then Int32.ofNat c' else Int32.ofNat c) :: _) _ _
  rw [e2]
  refine ev_go rfl (st_acp hDn hNn (by decide) (by decide) (i32_pos (by omega)) ?_ ?_ (Nat.le_of_ble_eq_true rfl)) ?_
  · rw [i32_nat (by omega)]
    show 0 + c ≤ c
    omega
  · rw [i32_nat (by omega)]
    show 0 + c ≤ c'
    omega
  · rw [i32_nat (n := c) (by omega)]
    have hfin : mPut (mAd 96 (σ.2.1 96)) (.inr (3, c', rRf (va_cpy f (fun _ => none) 0 0 c))) (mNew 96 (.inr (3, c', rRf fun _ => none)) c' σ) = mNew 96 (.inr (3, c', rRf (va_cpy f (fun _ => none) 0 0 c))) c' σ := by
      unfold mPut mNew
      simp only [va_up_up]
    refine ev_go rfl rfl ?_
    rw [show (Int32.ofInt 0).toNatClampNeg = 0 by decide, hfin]
    exact ev_end rfl rfl
/-- the row with room for one more: its number, its length, what it holds -/
theorem L_grow0 {a : Nat} {mc : Int32} (h1 : σ.1 a = some (.inl (0, [.int mc, .ref mEMP, .int (Int32.ofNat 0)]))) (hne : a ≠ mAd 96 (σ.2.1 96)) :
    mEv xs nx 277 0 [some (.ref a)] [] σ (.inl (some (.ref (mAd 96 (σ.2.1 96)))), mPut a (.inl (0, [.int mc, .ref (mAd 96 (σ.2.1 96)), .int (Int32.ofNat 0)])) (mNew 96 (.inr (3, 10, rRf fun _ => none)) 10 σ)) := by
  refine ev_go rfl rfl (ev_go rfl rfl (ev_go rfl (st_get h1 rfl) (ev_go rfl rfl (ev_go rfl rfl (ev_call (v := some (.ref (mAd 96 (σ.2.1 96)))) (σ1 := mPut a (.inl (0, [.int mc, .ref (mAd 96 (σ.2.1 96)), .int (Int32.ofNat 0)])) (mNew 96 (.inr (3, 10, rRf fun _ => none)) 10 σ)) rfl (st_vrt (As := [.int (Int32.ofNat 0 + Int32.ofInt 1)]) h1 (by decide) rfl (fun v hv => by rw [List.mem_singleton] at hv; subst hv; rfl) (Nat.le_of_ble_eq_true rfl)) ?_ (ev_end rfl rfl))))))
  have e10 : (if Int32.ofInt 10 < Int32.ofNat 0 + Int32.ofInt 1 then Int32.ofNat 0 + Int32.ofInt 1 else Int32.ofInt 10) = Int32.ofNat 10 := by decide
  refine ev_go rfl rfl (ev_go rfl (st_get h1 rfl) (ev_go rfl rfl (ev_go rfl rfl (ev_go rfl rfl (ev_go rfl (st_ifF (by decide)) (ev_go rfl rfl (ev_go rfl (st_get h1 rfl) (ev_go rfl rfl (ev_go rfl rfl (ev_go rfl rfl (ev_go rfl rfl (ev_go rfl rfl (ev_go rfl rfl ?_)))))))))))))
  show mEv xs nx 276 52 _ (.int (if Int32.ofInt 10 < Int32.ofNat 0 + Int32.ofInt 1 then Int32.ofNat 0 + Int32.ofInt 1 else Int32.ofInt 10) :: _) _ _
  rw [e10]
  refine ev_go rfl (st_newR (by decide) (by decide)) ?_
  rw [show (Int32.ofNat 10).toNatClampNeg = 10 by decide]
  exact ev_go rfl rfl (ev_go rfl (st_put ((va_up_ne _ _ hne).trans h1) (Nat.le_of_ble_eq_true rfl) rfl) (ev_end rfl rfl))
theorem L_grow1 {a D c : Nat} {mc : Int32} {f : Nat → Option Nat} (h96 : D % 128 = 96) (hc : nLv c ≠ 0) (hc5 : c < 500) (h1 : σ.1 a = some (.inl (0, [.int mc, .ref D, .int (Int32.ofNat c)]))) (hD : σ.1 D = some (.inr (3, c, rRf f))) (hne : a ≠ mAd 96 (σ.2.1 96)) (hneD : D ≠ mAd 96 (σ.2.1 96)) :
    ∃ f', (∀ j, j < c → f' j = f j) ∧ mEv xs nx 277 0 [some (.ref a)] [] σ (.inl (some (.ref (mAd 96 (σ.2.1 96)))), mPut a (.inl (0, [.int mc, .ref (mAd 96 (σ.2.1 96)), .int (Int32.ofNat c)])) (mNew 96 (.inr (3, nNx c, rRf f')) (nNx c) σ)) := by
  obtain ⟨n1, n2, n3, n4, n5⟩ := nLv_nx hc hc5
  obtain ⟨f', g1, g2⟩ := L_copy (xs := xs) (nx := nx) (c' := nNx c) h96 (by omega) n3 hD hneD
  refine ⟨f', g1, ?_⟩
  have hs1 : D ≠ mSCR := fun z => by rw [z] at h96; simp [mSCR] at h96
  have hs2 : D ≠ mEMP := fun z => by rw [z] at h96; simp [mEMP] at h96
  have hpos : (0 : Int32) < Int32.ofNat c := by
    rw [Int32.lt_iff_toInt_lt, Int32.toInt_ofNat_of_lt (by omega)]
    show (0 : Int) < c
    omega
  have hpos2 : (0 : Int32) < Int32.ofNat (nNx c) := by
    rw [Int32.lt_iff_toInt_lt, Int32.toInt_ofNat_of_lt (by omega)]
    show (0 : Int) < (nNx c : Nat)
    omega
  have hle2 : Int32.ofNat (nNx c) ≤ 2147483639 := by
    rw [Int32.le_iff_toInt_le, Int32.toInt_ofNat_of_lt (by omega)]
    show ((nNx c : Nat) : Int) ≤ 2147483639
    omega
  refine ev_go rfl rfl (ev_go rfl rfl (ev_go rfl (st_get h1 rfl) (ev_go rfl rfl (ev_go rfl rfl (ev_call (v := some (.ref (mAd 96 (σ.2.1 96)))) (σ1 := mPut a (.inl (0, [.int mc, .ref (mAd 96 (σ.2.1 96)), .int (Int32.ofNat c)])) (mNew 96 (.inr (3, nNx c, rRf f')) (nNx c) σ)) rfl (st_vrt (As := [.int (Int32.ofNat c + Int32.ofInt 1)]) h1 (by decide) rfl (fun v hv => by rw [List.mem_singleton] at hv; subst hv; rfl) (Nat.le_of_ble_eq_true rfl)) ?_ (ev_end rfl rfl))))))
  refine ev_go rfl rfl (ev_go rfl (st_get h1 rfl) (ev_go rfl (st_alen hD hs1 hs2) (ev_go rfl rfl (ev_go rfl rfl (ev_go rfl (st_ifT (by simp only [mCmp, decide_eq_true_eq]; exact hpos)) (ev_go rfl rfl (ev_go rfl rfl (ev_go rfl rfl (ev_go rfl rfl (ev_go rfl rfl (ev_go rfl rfl (ev_go rfl rfl (ev_call rfl rfl (L_newLen n5 hpos2 hle2) (ev_go rfl rfl (ev_go rfl rfl (ev_go rfl rfl (ev_go rfl (st_get h1 rfl) (ev_go rfl rfl (ev_call rfl rfl g2 (ev_go rfl rfl (ev_go rfl (st_put ((va_up_ne _ _ hne).trans h1) (Nat.le_of_ble_eq_true rfl) rfl) (ev_end rfl rfl))))))))))))))))))))))
/-- behind the growing: the element and the size are written -/
theorem L_addT {a D c n v : Nat} {mc : Int32} {f : Nat → Option Nat} (hn : n < c) (hn5 : n < 500) (hne : a ≠ D) (h1 : σ.1 a = some (.inl (0, [.int mc, .ref D, .int (Int32.ofNat n)]))) (hD : σ.1 D = some (.inr (3, c, rRf f))) (hv : mMay σ.1 3 v = true) {q : Option Value} :
    mEv xs nx 278 11 [some (.ref a), some (.ref v), some (.ref D), some (.int (Int32.ofNat n))] [] σ (.inl none, mPut a (.inl (0, [.int mc, .ref D, .int (Int32.ofNat (n + 1))])) (mPut D (.inr (3, c, rRf (va_up f n (some v)))) σ)) := by
  refine ev_go rfl rfl (ev_go rfl rfl (ev_go rfl rfl (ev_go rfl (st_aast hD (mIn_iff.mpr ⟨i32_pos (by omega), by rw [i32_nat (by omega)]; exact hn⟩) hv) (ev_go rfl rfl (ev_go rfl rfl (ev_go rfl rfl (ev_go rfl rfl (ev_go rfl (st_put ((mPut_ne hne).trans h1) (Nat.le_of_ble_eq_true rfl) rfl) ?_))))))))
  have e1 : Int32.ofNat n + Int32.ofInt 1 = Int32.ofNat (n + 1) := i32_add
  rw [i32_nat (by omega)]
  show mEv xs nx 278 22 _ _ (mPut a (.inl (0, [.int mc, .ref D, .int (Int32.ofNat n + Int32.ofInt 1)])) _) _
  rw [e1]
  exact ev_end rfl rfl
theorem mMay_obj {h : Nat → Option mC} {a t v c : Nat} {fs fs' : List Value} (ha : h a = some (.inl (c, fs))) : mMay (va_up h a (some (.inl (c, fs')))) t v = mMay h t v := by
  unfold mMay
  by_cases e : v = a
  · subst e
    rw [va_up_self, ha]
  · rw [va_up_ne _ _ e]
theorem mMay_new {h : Nat → Option mC} {a t v : Nat} {x} (ha : h a = none) (hv : mMay h t v = true) : mMay (va_up h a (some (.inr x))) t v = true := by
  unfold mMay at hv ⊢
  by_cases e : v = a
  · subst e
    rw [ha] at hv
    cases hv
  · rw [va_up_ne _ _ e]
    exact hv
theorem L_add {a v : Nat} {mc : Int32} {d : Value} {n : Nat} (hn5 : n < 500) (h1 : σ.1 a = some (.inl (0, [.int mc, d, .int (Int32.ofNat n)]))) (h278 : mEv xs nx 278 0 [some (.ref a), some (.ref v), some d, some (.int (Int32.ofNat n))] [] (mPut a (.inl (0, [.int (mc + Int32.ofInt 1), d, .int (Int32.ofNat n)])) σ) (.inl none, σ1)) (hd : ∃ x, d = .ref x) : mEv xs nx 279 0 [some (.ref a), some (.ref v)] [] σ (.inl (some (.int 1)), σ1) := by
  obtain ⟨x, rfl⟩ := hd
  exact ev_go rfl rfl (ev_go rfl rfl (ev_go rfl (st_get h1 rfl) (ev_go rfl rfl (ev_go rfl rfl (ev_go rfl (st_put h1 (Nat.le_of_ble_eq_true rfl) rfl) (ev_go rfl rfl (ev_go rfl rfl (ev_go rfl rfl (ev_go rfl (st_get mPut_at rfl) (ev_go rfl rfl (ev_go rfl (st_get mPut_at rfl) (ev_call rfl (st_vrt (As := [.ref v, .ref x, .int (Int32.ofNat n)]) mPut_at (by decide) rfl (fun v hv => by rcases List.mem_cons.mp hv with rfl | hv; rfl; rcases List.mem_cons.mp hv with rfl | hv; rfl; rw [List.mem_singleton] at hv; subst hv; rfl) (Nat.le_of_ble_eq_true rfl)) h278 (ev_go rfl rfl (ev_end rfl rfl))))))))))))))
end LADD
