/-! ===== the first objects: made by wip/whole/gen2/mk54.py ===== -/
section INIT
variable {xs : Nat → Int32} {nx y pc : Nat} {e : mE} {L : mLs} {S : List Value} {σ σ1 : mS} {r : mRes × mS}
/-- an array of references is made -/
theorem ev_arrR {i9 n ty t a m : Nat} {x : Int32} {X : mC} (hF1 : mF y pc = some (.anewarray i9, n, ty, t)) (h0 : ¬ x < 0) (hm : x.toNatClampNeg = m) (hm2 : m ≤ 100000) (hne : mAd t (σ.2.1 t) ≠ a) (k : mEv xs nx y (pc + n) L (.ref (mAd t (σ.2.1 t)) :: S) (mPut a X (mNew t (.inr (ty, m, rRf fun _ => none)) m σ)) r) : mEv xs nx y pc L (.int x :: S) (mPut a X σ) r := by
  rw [← mNew_put hne] at k
  refine ev_go hF1 ?_ k
  subst hm
  exact st_newR h0 hm2
theorem st_aastT {n e1 e2 a m v t : Nat} {f : Nat → Option Nat} {i : Int32} (h : σ.1 a = some (.inr (t, m, rRf f))) (hi : mIn i m = true) (hv : mMay σ.1 t v = true) : mStep mFk xs nx (.aastore, n, e1, e2) pc L (.ref v :: .int i :: .ref a :: S) σ = some (.inl (pc + n, L, S, mPut a (.inr (t, m, rRf (va_up f i.toNatClampNeg (some v)))) σ)) := by
  simp only [mStep, mAast, h, rRf, hi, hv, and_self, if_true]
  rfl
theorem C_43 {a : Nat} {x : Int32} (h : σ.1 a = some (.inl (2, (mFk 2).map mDf))) : mEv xs nx 43 0 [some (.ref a), some (.int x)] [] σ (.inl none, mPut a (.inl (2, [.int x, .int 0])) σ) := by
  suffices k : mEv xs nx 43 0 [some (.ref a), some (.int x)] [] (mPut a (.inl (2, (mFk 2).map mDf)) σ) (.inl none, mPut a (.inl (2, [.int x, .int 0])) σ) by
    rw [mPut_self h] at k
    exact k
  exact ev_go rfl rfl (ev_go rfl rfl (ev_go rfl rfl (ev_go rfl rfl (ev_p0 rfl (Nat.le_of_ble_eq_true rfl) rfl (ev_go rfl rfl (ev_go rfl rfl (ev_p0 rfl (Nat.le_of_ble_eq_true rfl) rfl (ev_end rfl rfl))))))))
theorem C_44 {a : Nat} {x : Int32} (h : σ.1 a = some (.inl (3, (mFk 3).map mDf))) (h3 : mAd 3 (σ.2.1 3) ≠ a) (h4 : mAd 4 (σ.2.1 4) ≠ a) : mEv xs nx 44 0 [some (.ref a), some (.int x)] [] σ (.inl none, mPut a (.inl (3, [.int x, .ref (mAd 3 (σ.2.1 3)), .ref (mAd 4 (σ.2.1 4)), .int 10, .int 0, .int 0, .int 0, .int 0])) (mNew 4 (.inr (6, 10, rRf fun _ => none)) 10 (mNew 3 (.inl (0, [.int 0, .ref mEMP, .int 0])) 3 σ))) := by
  suffices k : mEv xs nx 44 0 [some (.ref a), some (.int x)] [] (mPut a (.inl (3, (mFk 3).map mDf)) σ) (.inl none, mPut a (.inl (3, [.int x, .ref (mAd 3 (σ.2.1 3)), .ref (mAd 4 (σ.2.1 4)), .int 10, .int 0, .int 0, .int 0, .int 0])) (mNew 4 (.inr (6, 10, rRf fun _ => none)) 10 (mNew 3 (.inl (0, [.int 0, .ref mEMP, .int 0])) 3 σ))) by
    rw [mPut_self h] at k
    exact k
  exact ev_go rfl rfl (ev_go rfl rfl (ev_go rfl rfl (ev_new rfl rfl rfl (by decide) (by decide) rfl (Nat.le_of_ble_eq_true rfl) h3 (fun τ h => C_265 h) (ev_p0 rfl (Nat.le_of_ble_eq_true rfl) rfl (ev_go rfl rfl (ev_go rfl rfl (ev_arrR rfl (by decide) rfl (by decide) h4 (ev_p0 rfl (Nat.le_of_ble_eq_true rfl) rfl (ev_go rfl rfl (ev_go rfl rfl (ev_p0 rfl (Nat.le_of_ble_eq_true rfl) rfl (ev_go rfl rfl (ev_go rfl rfl (ev_p0 rfl (Nat.le_of_ble_eq_true rfl) rfl (ev_go rfl rfl (ev_go rfl rfl (ev_p0 rfl (Nat.le_of_ble_eq_true rfl) rfl (ev_go rfl rfl (ev_go rfl rfl (ev_p0 rfl (Nat.le_of_ble_eq_true rfl) rfl (ev_go rfl rfl (ev_go rfl rfl (ev_p0 rfl (Nat.le_of_ble_eq_true rfl) rfl (ev_go rfl rfl (ev_go rfl rfl (ev_p0 rfl (Nat.le_of_ble_eq_true rfl) rfl (ev_end rfl rfl)))))))))))))))))))))))))))
def nDep (x : Int32) (σ : mS) : mS := mPut (mAd 21 (σ.2.1 21)) (.inl (3, [.int x, .ref (mAd 3 (σ.2.1 3)), .ref (mAd 4 (σ.2.1 4)), .int 10, .int 0, .int 0, .int 0, .int 0])) (mNew 4 (.inr (6, 10, rRf fun _ => none)) 10 (mNew 3 (.inl (0, [.int 0, .ref mEMP, .int 0])) 3 (mNew 21 (.inl (3, (mFk 3).map mDf)) 8 σ)))
def nCus (x : Int32) (σ : mS) : mS := mPut (mAd 22 (σ.2.1 22)) (.inl (2, [.int x, .int 0])) (mNew 22 (.inl (2, (mFk 2).map mDf)) 2 σ)
theorem D_it {fs : List Value} {f : Nat → Option Nat} {x : Int32} {j : Nat} (hj : σ.2.1 21 = j) (hA : σ.1 (mAd 0 0) = some (.inl (11, fs))) (hfs : fs[0]? = some (.ref (mAd 12 0))) (hB : σ.1 (mAd 12 0) = some (.inr (4, 5, rRf f))) (hx : ¬ 5 ≤ x) (hin : mIn x 5 = true) (hB2 : (nDep x σ).1 (mAd 12 0) = some (.inr (4, 5, rRf f))) (hm : mMay (nDep x σ).1 4 (mAd 21 j) = true)
    (h3 : mAd 3 (σ.2.1 3) ≠ mAd 21 j) (h4 : mAd 4 (σ.2.1 4) ≠ mAd 21 j)
    (k : mEv xs nx 77 104 [some (.ref (mAd 0 0)), some (.int (x + 1))] [] (mPut (mAd 12 0) (.inr (4, 5, rRf (va_up f x.toNatClampNeg (some (mAd 21 j))))) (nDep x σ)) r) : mEv xs nx 77 104 [some (.ref (mAd 0 0)), some (.int x)] [] σ r := by
  subst hj
  refine ev_go rfl rfl (ev_go rfl rfl (ev_go rfl (st_get hA hfs) (ev_go rfl (st_alen hB (by decide) (by decide)) (ev_go rfl (st_icF (by simp only [mCmp, decide_eq_false_iff_not]; exact hx)) (ev_go rfl rfl (ev_go rfl (st_get hA hfs) (ev_go rfl rfl (ev_go rfl rfl (ev_go rfl rfl (ev_go rfl rfl (ev_call (v := none) rfl rfl (C_44 (va_up_self _ _ _) h3 h4) (ev_go rfl (st_aastT (hB2 : _) hin hm) (ev_go rfl rfl (ev_go rfl rfl k))))))))))))))
theorem E_it {fs : List Value} {f : Nat → Option Nat} {x : Int32} {j : Nat} (hj : σ.2.1 22 = j) (hA : σ.1 (mAd 0 0) = some (.inl (11, fs))) (hfs : fs[1]? = some (.ref (mAd 13 0))) (hB : σ.1 (mAd 13 0) = some (.inr (5, 4, rRf f))) (hx : ¬ 4 ≤ x) (hin : mIn x 4 = true) (hB2 : (nCus x σ).1 (mAd 13 0) = some (.inr (5, 4, rRf f))) (hm : mMay (nCus x σ).1 5 (mAd 22 j) = true)
    (k : mEv xs nx 77 135 [some (.ref (mAd 0 0)), some (.int (x + 1))] [] (mPut (mAd 13 0) (.inr (5, 4, rRf (va_up f x.toNatClampNeg (some (mAd 22 j))))) (nCus x σ)) r) : mEv xs nx 77 135 [some (.ref (mAd 0 0)), some (.int x)] [] σ r := by
  subst hj
  refine ev_go rfl rfl (ev_go rfl rfl (ev_go rfl (st_get hA hfs) (ev_go rfl (st_alen hB (by decide) (by decide)) (ev_go rfl (st_icF (by simp only [mCmp, decide_eq_false_iff_not]; exact hx)) (ev_go rfl rfl (ev_go rfl (st_get hA hfs) (ev_go rfl rfl (ev_go rfl rfl (ev_go rfl rfl (ev_go rfl rfl (ev_call (v := none) rfl rfl (C_43 (va_up_self _ _ _)) (ev_go rfl (st_aastT (hB2 : _) hin hm) (ev_go rfl rfl (ev_go rfl rfl k))))))))))))))
def nI0 : mS := mNew 0 (.inl (11, (mFk 11).map mDf)) 10 (fun _ => none, fun _ => 0, 0, 0)
def nI1 : mS := mPut (mAd 0 0) (.inl (11, [.ref (mAd 12 0), .ref (mAd 13 0), .ref (mAd 14 0), .ref (mAd 15 0), .ref (mAd 16 0), .ref (mAd 17 0), .ref (mAd 18 0), .ref (mAd 19 0), .ref (mAd 20 0), .int 0])) (mNew 20 (.inl (0, [.int 0, .ref mEMP, .int 0])) 3 (mNew 19 (.inl (0, [.int 0, .ref mEMP, .int 0])) 3 (mNew 18 (.inl (0, [.int 0, .ref mEMP, .int 0])) 3 (mNew 17 (.inl (0, [.int 0, .ref mEMP, .int 0])) 3 (mNew 16 (.inl (0, [.int 0, .ref mEMP, .int 0])) 3 (mNew 15 (.inl (0, [.int 0, .ref mEMP, .int 0])) 3 (mNew 14 (.inl (0, [.int 0, .ref mEMP, .int 0])) 3 (mNew 13 (.inr (5, 4, rRf fun _ => none)) 4 (mNew 12 (.inr (4, 5, rRf fun _ => none)) 5 nI0)))))))))
def nI2 : Nat → mS
  | 0 => nI1
  | i + 1 => mPut (mAd 12 0) (.inr (4, 5, rRf fun j => if j < i + 1 then some (mAd 21 j) else none)) (nDep (Int32.ofNat i) (nI2 i))
def nI3 : Nat → mS
  | 0 => nI2 5
  | i + 1 => mPut (mAd 13 0) (.inr (5, 4, rRf fun j => if j < i + 1 then some (mAd 22 j) else none)) (nCus (Int32.ofNat i) (nI3 i))
theorem va_fn {t i : Nat} : va_up (fun j => if j < i then some (mAd t j) else none) i (some (mAd t i)) = fun j => if j < i + 1 then some (mAd t j) else none := by
  funext j
  by_cases h : j = i
  · subst h
    rw [va_up_self, if_pos (Nat.lt_succ_self j)]
  · rw [va_up_ne _ _ h]
    by_cases h2 : j < i
    · rw [if_pos h2, if_pos (by omega)]
    · rw [if_neg h2, if_neg (by omega)]
theorem va_f0 {t : Nat} : (fun _ => none : Nat → Option Nat) = fun j => if j < 0 then some (mAd t j) else none := by
  funext j
  rw [if_neg (Nat.not_lt_zero j)]
theorem nI77 : mEv xs nx 77 0 [some (.ref (mAd 0 0)), none] [] nI0 (.inl none, nI3 4) := by
  have k : mEv xs nx 77 104 [some (.ref (mAd 0 0)), some (.int (Int32.ofNat 0))] [] (nI2 0) (.inl none, nI3 4) := by
    refine D_it (fs := [.ref (mAd 12 0), .ref (mAd 13 0), .ref (mAd 14 0), .ref (mAd 15 0), .ref (mAd 16 0), .ref (mAd 17 0), .ref (mAd 18 0), .ref (mAd 19 0), .ref (mAd 20 0), .int 0]) (f := fun _ => none) (x := Int32.ofNat 0) (j := 0) rfl rfl rfl rfl (by decide) (by decide) rfl rfl (by decide) (by decide) ?_
    rw [show va_up (fun _ => none) (Int32.ofNat 0).toNatClampNeg (some (mAd 21 0)) = fun j => if j < 0 + 1 then some (mAd 21 j) else none from (congrArg (fun f => va_up f 0 (some (mAd 21 0))) va_f0).trans (va_fn (i := 0))]
    show mEv xs nx 77 104 [some (.ref (mAd 0 0)), some (.int (Int32.ofNat 1))] [] (nI2 1) _
    refine D_it (fs := [.ref (mAd 12 0), .ref (mAd 13 0), .ref (mAd 14 0), .ref (mAd 15 0), .ref (mAd 16 0), .ref (mAd 17 0), .ref (mAd 18 0), .ref (mAd 19 0), .ref (mAd 20 0), .int 0]) (f := fun j => if j < 1 then some (mAd 21 j) else none) (x := Int32.ofNat 1) (j := 1) rfl rfl rfl rfl (by decide) (by decide) rfl rfl (by decide) (by decide) ?_
    rw [show va_up (fun j => if j < 1 then some (mAd 21 j) else none) (Int32.ofNat 1).toNatClampNeg (some (mAd 21 1)) = fun j => if j < 1 + 1 then some (mAd 21 j) else none from va_fn (i := 1)]
    show mEv xs nx 77 104 [some (.ref (mAd 0 0)), some (.int (Int32.ofNat 2))] [] (nI2 2) _
    refine D_it (fs := [.ref (mAd 12 0), .ref (mAd 13 0), .ref (mAd 14 0), .ref (mAd 15 0), .ref (mAd 16 0), .ref (mAd 17 0), .ref (mAd 18 0), .ref (mAd 19 0), .ref (mAd 20 0), .int 0]) (f := fun j => if j < 2 then some (mAd 21 j) else none) (x := Int32.ofNat 2) (j := 2) rfl rfl rfl rfl (by decide) (by decide) rfl rfl (by decide) (by decide) ?_
    rw [show va_up (fun j => if j < 2 then some (mAd 21 j) else none) (Int32.ofNat 2).toNatClampNeg (some (mAd 21 2)) = fun j => if j < 2 + 1 then some (mAd 21 j) else none from va_fn (i := 2)]
    show mEv xs nx 77 104 [some (.ref (mAd 0 0)), some (.int (Int32.ofNat 3))] [] (nI2 3) _
    refine D_it (fs := [.ref (mAd 12 0), .ref (mAd 13 0), .ref (mAd 14 0), .ref (mAd 15 0), .ref (mAd 16 0), .ref (mAd 17 0), .ref (mAd 18 0), .ref (mAd 19 0), .ref (mAd 20 0), .int 0]) (f := fun j => if j < 3 then some (mAd 21 j) else none) (x := Int32.ofNat 3) (j := 3) rfl rfl rfl rfl (by decide) (by decide) rfl rfl (by decide) (by decide) ?_
    rw [show va_up (fun j => if j < 3 then some (mAd 21 j) else none) (Int32.ofNat 3).toNatClampNeg (some (mAd 21 3)) = fun j => if j < 3 + 1 then some (mAd 21 j) else none from va_fn (i := 3)]
    show mEv xs nx 77 104 [some (.ref (mAd 0 0)), some (.int (Int32.ofNat 4))] [] (nI2 4) _
    refine D_it (fs := [.ref (mAd 12 0), .ref (mAd 13 0), .ref (mAd 14 0), .ref (mAd 15 0), .ref (mAd 16 0), .ref (mAd 17 0), .ref (mAd 18 0), .ref (mAd 19 0), .ref (mAd 20 0), .int 0]) (f := fun j => if j < 4 then some (mAd 21 j) else none) (x := Int32.ofNat 4) (j := 4) rfl rfl rfl rfl (by decide) (by decide) rfl rfl (by decide) (by decide) ?_
    rw [show va_up (fun j => if j < 4 then some (mAd 21 j) else none) (Int32.ofNat 4).toNatClampNeg (some (mAd 21 4)) = fun j => if j < 4 + 1 then some (mAd 21 j) else none from va_fn (i := 4)]
    show mEv xs nx 77 104 [some (.ref (mAd 0 0)), some (.int (Int32.ofNat 5))] [] (nI2 5) _
    refine ev_go rfl rfl (ev_go rfl rfl (ev_go rfl rfl (ev_go rfl rfl (ev_go rfl (st_icT (by decide)) (ev_go rfl rfl (ev_go rfl rfl ?_))))))
    show mEv xs nx 77 135 [some (.ref (mAd 0 0)), some (.int (Int32.ofNat 0))] [] (nI3 0) _
    refine E_it (fs := [.ref (mAd 12 0), .ref (mAd 13 0), .ref (mAd 14 0), .ref (mAd 15 0), .ref (mAd 16 0), .ref (mAd 17 0), .ref (mAd 18 0), .ref (mAd 19 0), .ref (mAd 20 0), .int 0]) (f := fun _ => none) (x := Int32.ofNat 0) (j := 0) rfl rfl rfl rfl (by decide) (by decide) rfl rfl ?_
    rw [show va_up (fun _ => none) (Int32.ofNat 0).toNatClampNeg (some (mAd 22 0)) = fun j => if j < 0 + 1 then some (mAd 22 j) else none from (congrArg (fun f => va_up f 0 (some (mAd 22 0))) va_f0).trans (va_fn (i := 0))]
    show mEv xs nx 77 135 [some (.ref (mAd 0 0)), some (.int (Int32.ofNat 1))] [] (nI3 1) _
    refine E_it (fs := [.ref (mAd 12 0), .ref (mAd 13 0), .ref (mAd 14 0), .ref (mAd 15 0), .ref (mAd 16 0), .ref (mAd 17 0), .ref (mAd 18 0), .ref (mAd 19 0), .ref (mAd 20 0), .int 0]) (f := fun j => if j < 1 then some (mAd 22 j) else none) (x := Int32.ofNat 1) (j := 1) rfl rfl rfl rfl (by decide) (by decide) rfl rfl ?_
    rw [show va_up (fun j => if j < 1 then some (mAd 22 j) else none) (Int32.ofNat 1).toNatClampNeg (some (mAd 22 1)) = fun j => if j < 1 + 1 then some (mAd 22 j) else none from va_fn (i := 1)]
    show mEv xs nx 77 135 [some (.ref (mAd 0 0)), some (.int (Int32.ofNat 2))] [] (nI3 2) _
    refine E_it (fs := [.ref (mAd 12 0), .ref (mAd 13 0), .ref (mAd 14 0), .ref (mAd 15 0), .ref (mAd 16 0), .ref (mAd 17 0), .ref (mAd 18 0), .ref (mAd 19 0), .ref (mAd 20 0), .int 0]) (f := fun j => if j < 2 then some (mAd 22 j) else none) (x := Int32.ofNat 2) (j := 2) rfl rfl rfl rfl (by decide) (by decide) rfl rfl ?_
    rw [show va_up (fun j => if j < 2 then some (mAd 22 j) else none) (Int32.ofNat 2).toNatClampNeg (some (mAd 22 2)) = fun j => if j < 2 + 1 then some (mAd 22 j) else none from va_fn (i := 2)]
    show mEv xs nx 77 135 [some (.ref (mAd 0 0)), some (.int (Int32.ofNat 3))] [] (nI3 3) _
    refine E_it (fs := [.ref (mAd 12 0), .ref (mAd 13 0), .ref (mAd 14 0), .ref (mAd 15 0), .ref (mAd 16 0), .ref (mAd 17 0), .ref (mAd 18 0), .ref (mAd 19 0), .ref (mAd 20 0), .int 0]) (f := fun j => if j < 3 then some (mAd 22 j) else none) (x := Int32.ofNat 3) (j := 3) rfl rfl rfl rfl (by decide) (by decide) rfl rfl ?_
    rw [show va_up (fun j => if j < 3 then some (mAd 22 j) else none) (Int32.ofNat 3).toNatClampNeg (some (mAd 22 3)) = fun j => if j < 3 + 1 then some (mAd 22 j) else none from va_fn (i := 3)]
    show mEv xs nx 77 135 [some (.ref (mAd 0 0)), some (.int (Int32.ofNat 4))] [] (nI3 4) _
    exact ev_go rfl rfl (ev_go rfl rfl (ev_go rfl rfl (ev_go rfl rfl (ev_go rfl (st_icT (by decide)) (ev_end rfl rfl)))))
  have e : nI0 = mPut (mAd 0 0) (.inl (11, (mFk 11).map mDf)) nI0 := (mPut_self rfl).symm
  rw [e]
  exact ev_go rfl rfl (ev_go rfl rfl (ev_go rfl rfl (ev_go rfl rfl (ev_arrR rfl (by decide) rfl (by decide) (by decide) (ev_p0 rfl (Nat.le_of_ble_eq_true rfl) rfl (ev_go rfl rfl (ev_go rfl rfl (ev_arrR rfl (by decide) rfl (by decide) (by decide) (ev_p0 rfl (Nat.le_of_ble_eq_true rfl) rfl (ev_go rfl rfl (ev_new rfl rfl rfl (by decide) (by decide) rfl (Nat.le_of_ble_eq_true rfl) (by decide) (fun τ h => C_265 h) (ev_p0 rfl (Nat.le_of_ble_eq_true rfl) rfl (ev_go rfl rfl (ev_new rfl rfl rfl (by decide) (by decide) rfl (Nat.le_of_ble_eq_true rfl) (by decide) (fun τ h => C_265 h) (ev_p0 rfl (Nat.le_of_ble_eq_true rfl) rfl (ev_go rfl rfl (ev_new rfl rfl rfl (by decide) (by decide) rfl (Nat.le_of_ble_eq_true rfl) (by decide) (fun τ h => C_265 h) (ev_p0 rfl (Nat.le_of_ble_eq_true rfl) rfl (ev_go rfl rfl (ev_new rfl rfl rfl (by decide) (by decide) rfl (Nat.le_of_ble_eq_true rfl) (by decide) (fun τ h => C_265 h) (ev_p0 rfl (Nat.le_of_ble_eq_true rfl) rfl (ev_go rfl rfl (ev_new rfl rfl rfl (by decide) (by decide) rfl (Nat.le_of_ble_eq_true rfl) (by decide) (fun τ h => C_265 h) (ev_p0 rfl (Nat.le_of_ble_eq_true rfl) rfl (ev_go rfl rfl (ev_new rfl rfl rfl (by decide) (by decide) rfl (Nat.le_of_ble_eq_true rfl) (by decide) (fun τ h => C_265 h) (ev_p0 rfl (Nat.le_of_ble_eq_true rfl) rfl (ev_go rfl rfl (ev_new rfl rfl rfl (by decide) (by decide) rfl (Nat.le_of_ble_eq_true rfl) (by decide) (fun τ h => C_265 h) (ev_p0 rfl (Nat.le_of_ble_eq_true rfl) rfl (ev_go rfl rfl (ev_go rfl rfl (ev_p0 rfl (Nat.le_of_ble_eq_true rfl) rfl (ev_go rfl rfl (ev_go rfl rfl k)))))))))))))))))))))))))))))))))))
end INIT
