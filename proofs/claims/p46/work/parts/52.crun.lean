/-! ===== constructors, run on the first machine: made by wip/whole/gen2/mk52.py ===== -/
section CRUN
variable {xs : Nat → Int32} {nx y pc : Nat} {e : mE} {L : mLs} {S : List Value} {σ σ1 : mS} {r : mRes × mS}
theorem st_iast {n e1 e2 a m : Nat} {f : Nat → Int32} {i x : Int32} (h : σ.1 a = some (.inr (0, m, .inl f))) (hi : mIn i m = true) : mStep mFk xs nx (.iastore, n, e1, e2) pc L (.int x :: .int i :: .ref a :: S) σ = some (.inl (pc + n, L, S, mPut a (.inr (0, m, .inl (upd f i.toNatClampNeg x))) σ)) := by
  simp only [mStep, mIast, h, hi, if_true]
  rfl
theorem ev_p0 {i n c e2 a : Nat} {fs : List Value} {v : Value} (hF : mF y pc = some (.putfield i, n, c, e2)) (hl : e2 % 128 < fs.length) (hf : mFit (e2 / 128) v = true) (k : mEv xs nx y (pc + n) L S (mPut a (.inl (c, fs.set (e2 % 128) v)) σ) r) : mEv xs nx y pc L (v :: .ref a :: S) (mPut a (.inl (c, fs)) σ) r := by
  refine ev_go hF (st_put mPut_at hl hf) ?_
  rw [mPut_up]
  exact k
theorem mPut_new {a t n : Nat} {c c' d : mC} (h : mAd t (σ.2.1 t) ≠ a) : mPut (mAd t (σ.2.1 t)) d (mNew t c n (mPut a c' σ)) = mPut a c' (mNew t d n σ) := by
  unfold mPut mNew
  simp only [va_up_up]
  have : va_up (va_up σ.1 a (some c')) (mAd t (σ.2.1 t)) (some d) = va_up (va_up σ.1 (mAd t (σ.2.1 t)) (some d)) a (some c') := by
    funext j
    by_cases e : j = a
    · subst e
      rw [va_up_self, va_up_ne _ _ (Ne.symm h), va_up_self]
    · rw [va_up_ne (va_up σ.1 (mAd t (σ.2.1 t)) (some d)) _ e]
      by_cases e2 : j = mAd t (σ.2.1 t)
      · subst e2; rw [va_up_self, va_up_self]
      · rw [va_up_ne _ _ e2, va_up_ne _ _ e2, va_up_ne _ _ e]
  rw [this]
theorem mNew_put {a t n : Nat} {c' d : mC} (h : mAd t (σ.2.1 t) ≠ a) : mNew t d n (mPut a c' σ) = mPut a c' (mNew t d n σ) := by
  have h1 := mPut_new (σ := σ) (n := n) (c := d) (c' := c') (d := d) h
  rw [← h1]
  exact (mPut_self (va_up_self _ _ _)).symm
/-- a part is made -/
theorem ev_new {i i2 y' e1 e2 t a : Nat} {X d : mC} (hF1 : mF y pc = some (.new i, 3, e1, t)) (hF2 : mF y (pc + 3) = some (.dup, 1, 0, 0)) (hF3 : mF y (pc + 3 + 1) = some (.invokespecial i2, 3, y', e2)) (he : e1 < 100) (hy : y' < 1000) (h2 : e2 % 16 = 1) (hS : S.length ≤ 3) (hne : mAd t (σ.2.1 t) ≠ a)
    (hc : ∀ τ : mS, τ.1 (mAd t (σ.2.1 t)) = some (.inl (e1, (mFk e1).map mDf)) → mEv xs nx y' 0 (mL0 [.ref (mAd t (σ.2.1 t))] (mLo e2)) [] τ (.inl none, mPut (mAd t (σ.2.1 t)) d τ))
    (k : mEv xs nx y (pc + 3 + 1 + 3) L (.ref (mAd t (σ.2.1 t)) :: S) (mPut a X (mNew t d (mFk e1).length σ)) r) : mEv xs nx y pc L S (mPut a X σ) r := by
  have k1 := hc (mNew t (.inl (e1, (mFk e1).map mDf)) (mFk e1).length (mPut a X σ)) (va_up_self _ _ _)
  rw [mPut_new hne] at k1
  refine ev_go (pc' := pc + 3) (L' := L) (S' := .ref (mAd t (σ.2.1 t)) :: S) (σ' := mNew t (.inl (e1, (mFk e1).map mDf)) (mFk e1).length (mPut a X σ)) hF1 ?_ (ev_go (pc' := pc + 3 + 1) (L' := L) (S' := .ref (mAd t (σ.2.1 t)) :: .ref (mAd t (σ.2.1 t)) :: S) (σ' := mNew t (.inl (e1, (mFk e1).map mDf)) (mFk e1).length (mPut a X σ)) hF2 rfl (ev_call (v := none) (k9 := 1) hF3 ?_ k1 k))
  · simp only [mStep, mNewS]
    rw [if_neg (by omega)]
    rfl
  · simp only [mStep, mSpcS]
    rw [if_neg (show ¬ y' = 1000 by omega), h2, if_pos (show mRf (Value.ref (mAd t (σ.2.1 t)) :: Value.ref (mAd t (σ.2.1 t)) :: S)[1 - 1]? = true from rfl)]
    unfold mInv
    rw [if_pos]
    · rfl
    · refine ⟨by simp, by simp; omega, rfl, Or.inl (by simp; omega)⟩
theorem C_264 {a : Nat} : mEv xs nx 264 0 [some (.ref a)] [] (mPut a (.inl (0, [.int 0, .null, .int 0])) σ) (.inl none, mPut a (.inl (0, [.int 0, .null, .int 0])) σ) :=
  ev_go rfl rfl (ev_call rfl rfl (v := none) (σ1 := mPut a (.inl (0, [.int 0, .null, .int 0])) σ) (ev_go rfl rfl (ev_go rfl rfl (ev_end rfl rfl))) (ev_go rfl rfl (ev_go rfl rfl (ev_p0 rfl (Nat.le_of_ble_eq_true rfl) rfl (ev_end rfl rfl)))))
theorem C_265 {a : Nat} (h : σ.1 a = some (.inl (0, (mFk 0).map mDf))) : mEv xs nx 265 0 [some (.ref a)] [] σ (.inl none, mPut a (.inl (0, [.int 0, .ref mEMP, .int 0])) σ) := by
  suffices k : mEv xs nx 265 0 [some (.ref a)] [] (mPut a (.inl (0, (mFk 0).map mDf)) σ) (.inl none, mPut a (.inl (0, [.int 0, .ref mEMP, .int 0])) σ) by
    rw [mPut_self h] at k
    exact k
  exact ev_go rfl rfl (ev_call rfl rfl (v := none) C_264 (ev_go rfl rfl (ev_go rfl rfl (ev_p0 rfl (Nat.le_of_ble_eq_true rfl) rfl (ev_end rfl rfl)))))
theorem C_42 {a : Nat} {d : Nat} {x1 : Int32} (h : σ.1 a = some (.inl (1, (mFk 1).map mDf))) : mEv xs nx 42 0 [some (.ref a), some (.ref d), some (.int x1)] [] σ (.inl none, mPut a (.inl (1, [.ref d, .int x1, .int 0, .int 0])) σ) := by
  suffices k : mEv xs nx 42 0 [some (.ref a), some (.ref d), some (.int x1)] [] (mPut a (.inl (1, (mFk 1).map mDf)) σ) (.inl none, mPut a (.inl (1, [.ref d, .int x1, .int 0, .int 0])) σ) by
    rw [mPut_self h] at k
    exact k
  exact ev_go rfl rfl (ev_go rfl rfl (ev_go rfl rfl (ev_go rfl rfl (ev_p0 rfl (Nat.le_of_ble_eq_true rfl) rfl (ev_go rfl rfl (ev_go rfl rfl (ev_p0 rfl (Nat.le_of_ble_eq_true rfl) rfl (ev_go rfl rfl (ev_go rfl rfl (ev_p0 rfl (Nat.le_of_ble_eq_true rfl) rfl (ev_go rfl rfl (ev_go rfl rfl (ev_p0 rfl (Nat.le_of_ble_eq_true rfl) rfl (ev_end rfl rfl))))))))))))))
theorem C_59 {a : Nat} (h : σ.1 a = some (.inl (6, (mFk 6).map mDf))) : mEv xs nx 59 0 [some (.ref a)] [] σ (.inl none, mPut a (.inl (6, [.int 0, .int 0, .int 0, .int 0, .int 0, .null])) σ) := by
  suffices k : mEv xs nx 59 0 [some (.ref a)] [] (mPut a (.inl (6, (mFk 6).map mDf)) σ) (.inl none, mPut a (.inl (6, [.int 0, .int 0, .int 0, .int 0, .int 0, .null])) σ) by
    rw [mPut_self h] at k
    exact k
  exact ev_go rfl rfl (ev_go rfl rfl (ev_go rfl rfl (ev_go rfl rfl (ev_p0 rfl (Nat.le_of_ble_eq_true rfl) rfl (ev_go rfl rfl (ev_go rfl rfl (ev_p0 rfl (Nat.le_of_ble_eq_true rfl) rfl (ev_go rfl rfl (ev_go rfl rfl (ev_p0 rfl (Nat.le_of_ble_eq_true rfl) rfl (ev_go rfl rfl (ev_go rfl rfl (ev_p0 rfl (Nat.le_of_ble_eq_true rfl) rfl (ev_go rfl rfl (ev_go rfl rfl (ev_p0 rfl (Nat.le_of_ble_eq_true rfl) rfl (ev_go rfl rfl (ev_go rfl rfl (ev_p0 rfl (Nat.le_of_ble_eq_true rfl) rfl (ev_end rfl rfl))))))))))))))))))))
theorem C_61 {a : Nat} (h : σ.1 a = some (.inl (9, (mFk 9).map mDf))) : mEv xs nx 61 0 [some (.ref a)] [] σ (.inl none, mPut a (.inl (9, [.int 0, .int (-1), .int 0, .null, .null, .null, .int 0, .int 0, .int 0, .int 0])) σ) := by
  suffices k : mEv xs nx 61 0 [some (.ref a)] [] (mPut a (.inl (9, (mFk 9).map mDf)) σ) (.inl none, mPut a (.inl (9, [.int 0, .int (-1), .int 0, .null, .null, .null, .int 0, .int 0, .int 0, .int 0])) σ) by
    rw [mPut_self h] at k
    exact k
  exact ev_go rfl rfl (ev_go rfl rfl (ev_go rfl rfl (ev_go rfl rfl (ev_p0 rfl (Nat.le_of_ble_eq_true rfl) rfl (ev_go rfl rfl (ev_go rfl rfl (ev_p0 rfl (Nat.le_of_ble_eq_true rfl) rfl (ev_go rfl rfl (ev_go rfl rfl (ev_p0 rfl (Nat.le_of_ble_eq_true rfl) rfl (ev_go rfl rfl (ev_go rfl rfl (ev_p0 rfl (Nat.le_of_ble_eq_true rfl) rfl (ev_go rfl rfl (ev_go rfl rfl (ev_p0 rfl (Nat.le_of_ble_eq_true rfl) rfl (ev_go rfl rfl (ev_go rfl rfl (ev_p0 rfl (Nat.le_of_ble_eq_true rfl) rfl (ev_go rfl rfl (ev_go rfl rfl (ev_p0 rfl (Nat.le_of_ble_eq_true rfl) rfl (ev_go rfl rfl (ev_go rfl rfl (ev_p0 rfl (Nat.le_of_ble_eq_true rfl) rfl (ev_go rfl rfl (ev_go rfl rfl (ev_p0 rfl (Nat.le_of_ble_eq_true rfl) rfl (ev_go rfl rfl (ev_go rfl rfl (ev_p0 rfl (Nat.le_of_ble_eq_true rfl) rfl (ev_end rfl rfl))))))))))))))))))))))))))))))))
theorem C_73 {a : Nat} {d : Nat} {x1 x2 x3 : Int32} (h : σ.1 a = some (.inl (8, (mFk 8).map mDf))) : mEv xs nx 73 0 [some (.ref a), some (.int x1), some (.ref d), some (.int x2), some (.int x3)] [] σ (.inl none, mPut a (.inl (8, [.int x1, .ref d, .int x2, .int x3])) σ) := by
  suffices k : mEv xs nx 73 0 [some (.ref a), some (.int x1), some (.ref d), some (.int x2), some (.int x3)] [] (mPut a (.inl (8, (mFk 8).map mDf)) σ) (.inl none, mPut a (.inl (8, [.int x1, .ref d, .int x2, .int x3])) σ) by
    rw [mPut_self h] at k
    exact k
  exact ev_go rfl rfl (ev_go rfl rfl (ev_go rfl rfl (ev_go rfl rfl (ev_p0 rfl (Nat.le_of_ble_eq_true rfl) rfl (ev_go rfl rfl (ev_go rfl rfl (ev_p0 rfl (Nat.le_of_ble_eq_true rfl) rfl (ev_go rfl rfl (ev_go rfl rfl (ev_p0 rfl (Nat.le_of_ble_eq_true rfl) rfl (ev_go rfl rfl (ev_go rfl rfl (ev_p0 rfl (Nat.le_of_ble_eq_true rfl) rfl (ev_end rfl rfl))))))))))))))
theorem C_75 {a : Nat} {d : Nat} {x1 x2 x3 : Int32} (h : σ.1 a = some (.inl (10, (mFk 10).map mDf))) (h11 : mAd 11 (σ.2.1 11) ≠ a) : mEv xs nx 75 0 [some (.ref a), some (.int x1), some (.ref d), some (.int x2), some (.int x3)] [] σ (.inl none, mPut a (.inl (10, [.int x1, .ref d, .int x2, .int x3, .ref (mAd 11 (σ.2.1 11)), .int 0, .int 0])) (mNew 11 (.inl (0, [.int 0, .ref mEMP, .int 0])) 3 σ)) := by
  suffices k : mEv xs nx 75 0 [some (.ref a), some (.int x1), some (.ref d), some (.int x2), some (.int x3)] [] (mPut a (.inl (10, (mFk 10).map mDf)) σ) (.inl none, mPut a (.inl (10, [.int x1, .ref d, .int x2, .int x3, .ref (mAd 11 (σ.2.1 11)), .int 0, .int 0])) (mNew 11 (.inl (0, [.int 0, .ref mEMP, .int 0])) 3 σ)) by
    rw [mPut_self h] at k
    exact k
  exact ev_go rfl rfl (ev_go rfl rfl (ev_go rfl rfl (ev_new rfl rfl rfl (by decide) (by decide) rfl (Nat.le_of_ble_eq_true rfl) h11 (fun τ h => C_265 h) (ev_p0 rfl (Nat.le_of_ble_eq_true rfl) rfl (ev_go rfl rfl (ev_go rfl rfl (ev_p0 rfl (Nat.le_of_ble_eq_true rfl) rfl (ev_go rfl rfl (ev_go rfl rfl (ev_p0 rfl (Nat.le_of_ble_eq_true rfl) rfl (ev_go rfl rfl (ev_go rfl rfl (ev_p0 rfl (Nat.le_of_ble_eq_true rfl) rfl (ev_go rfl rfl (ev_go rfl rfl (ev_p0 rfl (Nat.le_of_ble_eq_true rfl) rfl (ev_go rfl rfl (ev_go rfl rfl (ev_p0 rfl (Nat.le_of_ble_eq_true rfl) rfl (ev_go rfl rfl (ev_go rfl rfl (ev_p0 rfl (Nat.le_of_ble_eq_true rfl) rfl (ev_end rfl rfl)))))))))))))))))))))))
theorem C_48 {a : Nat} {d1 d2 : Nat} {x1 x2 x3 : Int32} (h : σ.1 a = some (.inl (4, (mFk 4).map mDf))) (h5 : mAd 5 (σ.2.1 5) ≠ a) (h6 : mAd 6 (σ.2.1 6) ≠ a) (hb : x3 = 0 ∨ x3 = 1) : mEv xs nx 48 0 [some (.ref a), some (.int x1), some (.ref d1), some (.ref d2), some (.int x2), some (.int x3)] [] σ (.inl none, mPut a (.inl (4, [.int x1, .ref d1, .ref d2, .int x2, .int x3, .ref (mAd 5 (σ.2.1 5)), .ref (mAd 6 (σ.2.1 6)), .int 10, .int 0, .int 1, .int 1, .int 1, .int (-1)])) (mNew 6 (.inl (0, [.int 0, .ref mEMP, .int 0])) 3 (mNew 5 (.inl (0, [.int 0, .ref mEMP, .int 0])) 3 σ))) := by
  suffices k : mEv xs nx 48 0 [some (.ref a), some (.int x1), some (.ref d1), some (.ref d2), some (.int x2), some (.int x3)] [] (mPut a (.inl (4, (mFk 4).map mDf)) σ) (.inl none, mPut a (.inl (4, [.int x1, .ref d1, .ref d2, .int x2, .int x3, .ref (mAd 5 (σ.2.1 5)), .ref (mAd 6 (σ.2.1 6)), .int 10, .int 0, .int 1, .int 1, .int 1, .int (-1)])) (mNew 6 (.inl (0, [.int 0, .ref mEMP, .int 0])) 3 (mNew 5 (.inl (0, [.int 0, .ref mEMP, .int 0])) 3 σ))) by
    rw [mPut_self h] at k
    exact k
  exact ev_go rfl rfl (ev_go rfl rfl (ev_go rfl rfl (ev_new rfl rfl rfl (by decide) (by decide) rfl (Nat.le_of_ble_eq_true rfl) h5 (fun τ h => C_265 h) (ev_p0 rfl (Nat.le_of_ble_eq_true rfl) rfl (ev_go rfl rfl (ev_new rfl rfl rfl (by decide) (by decide) rfl (Nat.le_of_ble_eq_true rfl) h6 (fun τ h => C_265 h) (ev_p0 rfl (Nat.le_of_ble_eq_true rfl) rfl (ev_go rfl rfl (ev_go rfl rfl (ev_p0 rfl (Nat.le_of_ble_eq_true rfl) rfl (ev_go rfl rfl (ev_go rfl rfl (ev_p0 rfl (Nat.le_of_ble_eq_true rfl) rfl (ev_go rfl rfl (ev_go rfl rfl (ev_p0 rfl (Nat.le_of_ble_eq_true rfl) rfl (ev_go rfl rfl (ev_go rfl rfl (ev_p0 rfl (Nat.le_of_ble_eq_true rfl) rfl (ev_go rfl rfl (ev_go rfl rfl (ev_p0 rfl (Nat.le_of_ble_eq_true rfl) rfl (ev_go rfl rfl (ev_go rfl rfl (ev_p0 rfl (Nat.le_of_ble_eq_true rfl) rfl (ev_go rfl rfl (ev_go rfl rfl (ev_p0 rfl (Nat.le_of_ble_eq_true rfl) rfl (ev_go rfl rfl (ev_go rfl rfl (ev_p0 rfl (Nat.le_of_ble_eq_true rfl) rfl (ev_go rfl rfl (ev_go rfl rfl (ev_p0 rfl (Nat.le_of_ble_eq_true rfl) rfl (ev_go rfl rfl (ev_go rfl rfl (ev_p0 rfl (Nat.le_of_ble_eq_true rfl) rfl (ev_go rfl rfl (ev_go rfl rfl (ev_p0 rfl (Nat.le_of_ble_eq_true rfl) (by simp only [mFit]; rcases hb with z | z <;> subst z <;> rfl) (ev_end rfl rfl)))))))))))))))))))))))))))))))))))))))))
theorem C_62 {a : Nat} {d1 d2 : Nat} {x1 x2 x3 x4 : Int32} (h : σ.1 a = some (.inl (7, (mFk 7).map mDf))) (h8 : mAd 8 (σ.2.1 8) ≠ a) (h9 : mAd 9 (σ.2.1 9) ≠ a) (h10 : mAd 10 (σ.2.1 10) ≠ a) (hb : x3 = 0 ∨ x3 = 1) : mEv xs nx 62 0 [some (.ref a), some (.int x1), some (.ref d1), some (.ref d2), some (.int x2), some (.int x3), some (.int x4)] [] σ (.inl none, mPut a (.inl (7, [.int x1, .ref d1, .int x2, .int x3, .int x4, .ref (mAd 8 (σ.2.1 8)), .ref (mAd 9 (σ.2.1 9)), .ref (mAd 10 (σ.2.1 10)), .null, .int 0, .ref d2, .null, .int 0, .int 24, .int (x4 + 100), .int 0, .int 0, .int 1])) (mNew 10 (.inl (0, [.int 0, .ref mEMP, .int 0])) 3 (mNew 9 (.inl (9, [.int 0, .int (-1), .int 0, .null, .null, .null, .int 0, .int 0, .int 0, .int 0])) 10 (mNew 8 (.inl (6, [.int 0, .int 0, .int 0, .int 0, .int 0, .null])) 6 σ)))) := by
  suffices k : mEv xs nx 62 0 [some (.ref a), some (.int x1), some (.ref d1), some (.ref d2), some (.int x2), some (.int x3), some (.int x4)] [] (mPut a (.inl (7, (mFk 7).map mDf)) σ) (.inl none, mPut a (.inl (7, [.int x1, .ref d1, .int x2, .int x3, .int x4, .ref (mAd 8 (σ.2.1 8)), .ref (mAd 9 (σ.2.1 9)), .ref (mAd 10 (σ.2.1 10)), .null, .int 0, .ref d2, .null, .int 0, .int 24, .int (x4 + 100), .int 0, .int 0, .int 1])) (mNew 10 (.inl (0, [.int 0, .ref mEMP, .int 0])) 3 (mNew 9 (.inl (9, [.int 0, .int (-1), .int 0, .null, .null, .null, .int 0, .int 0, .int 0, .int 0])) 10 (mNew 8 (.inl (6, [.int 0, .int 0, .int 0, .int 0, .int 0, .null])) 6 σ)))) by
    rw [mPut_self h] at k
    exact k
  exact ev_go rfl rfl (ev_go rfl rfl (ev_go rfl rfl (ev_new rfl rfl rfl (by decide) (by decide) rfl (Nat.le_of_ble_eq_true rfl) h8 (fun τ h => C_59 h) (ev_p0 rfl (Nat.le_of_ble_eq_true rfl) rfl (ev_go rfl rfl (ev_new rfl rfl rfl (by decide) (by decide) rfl (Nat.le_of_ble_eq_true rfl) h9 (fun τ h => C_61 h) (ev_p0 rfl (Nat.le_of_ble_eq_true rfl) rfl (ev_go rfl rfl (ev_new rfl rfl rfl (by decide) (by decide) rfl (Nat.le_of_ble_eq_true rfl) h10 (fun τ h => C_265 h) (ev_p0 rfl (Nat.le_of_ble_eq_true rfl) rfl (ev_go rfl rfl (ev_go rfl rfl (ev_p0 rfl (Nat.le_of_ble_eq_true rfl) rfl (ev_go rfl rfl (ev_go rfl rfl (ev_p0 rfl (Nat.le_of_ble_eq_true rfl) rfl (ev_go rfl rfl (ev_go rfl rfl (ev_p0 rfl (Nat.le_of_ble_eq_true rfl) rfl (ev_go rfl rfl (ev_go rfl rfl (ev_p0 rfl (Nat.le_of_ble_eq_true rfl) rfl (ev_go rfl rfl (ev_go rfl rfl (ev_p0 rfl (Nat.le_of_ble_eq_true rfl) rfl (ev_go rfl rfl (ev_go rfl rfl (ev_p0 rfl (Nat.le_of_ble_eq_true rfl) rfl (ev_go rfl rfl (ev_go rfl rfl (ev_p0 rfl (Nat.le_of_ble_eq_true rfl) rfl (ev_go rfl rfl (ev_go rfl rfl (ev_p0 rfl (Nat.le_of_ble_eq_true rfl) rfl (ev_go rfl rfl (ev_go rfl rfl (ev_p0 rfl (Nat.le_of_ble_eq_true rfl) rfl (ev_go rfl rfl (ev_go rfl rfl (ev_p0 rfl (Nat.le_of_ble_eq_true rfl) rfl (ev_go rfl rfl (ev_go rfl rfl (ev_p0 rfl (Nat.le_of_ble_eq_true rfl) (by simp only [mFit]; rcases hb with z | z <;> subst z <;> rfl) (ev_go rfl rfl (ev_go rfl rfl (ev_p0 rfl (Nat.le_of_ble_eq_true rfl) rfl (ev_go rfl rfl (ev_go rfl rfl (ev_go rfl rfl (ev_go rfl rfl (ev_p0 rfl (Nat.le_of_ble_eq_true rfl) rfl (ev_end rfl rfl))))))))))))))))))))))))))))))))))))))))))))))))))))
/-- an array is made -/
theorem ev_arr {e9 : _} {n t a m : Nat} {x : Int32} {X : mC} (hF1 : mF y pc = some (.newarray e9, n, 0, t)) (h0 : ¬ x < 0) (hm : x.toNatClampNeg = m) (hm2 : m ≤ 100000) (hne : mAd t (σ.2.1 t) ≠ a) (k : mEv xs nx y (pc + n) L (.ref (mAd t (σ.2.1 t)) :: S) (mPut a X (mNew t (.inr (0, m, .inl fun _ => 0)) m σ)) r) : mEv xs nx y pc L (.int x :: S) (mPut a X σ) r := by
  rw [← mNew_put hne] at k
  refine ev_go hF1 ?_ k
  subst hm
  simp only [mStep, mNewA]
  rw [if_pos ⟨h0, hm2⟩]
  rfl
theorem ev_ia {n e1 e2 t a m : Nat} {X : mC} {f : Nat → Int32} {i x : Int32} (hF : mF y pc = some (.iastore, n, e1, e2)) (hi : mIn i m = true) (hne : mAd t (σ.2.1 t) ≠ a) (k : mEv xs nx y (pc + n) L S (mPut a X (mNew t (.inr (0, m, .inl (upd f i.toNatClampNeg x))) m σ)) r) : mEv xs nx y pc L (.int x :: .int i :: .ref (mAd t (σ.2.1 t)) :: S) (mPut a X (mNew t (.inr (0, m, .inl f)) m σ)) r := by
  rw [← mPut_new (σ := σ) (c := .inr (0, m, .inl f)) hne] at k
  refine ev_go hF (st_iast (m := m) (f := f) ?_ hi) ?_
  · exact (mPut_ne hne).trans (va_up_self _ _ _)
  · rw [mNew_put hne] at k
    exact k
theorem C_52 {a d : Nat} {x1 x2 x3 x4 : Int32} (h : σ.1 a = some (.inl (5, (mFk 5).map mDf))) (h7 : mAd 7 (σ.2.1 7) ≠ a) : mEv xs nx 52 0 [some (.ref a), some (.int x1), some (.ref d), some (.int x2), some (.int x3), some (.int x4)] [] σ (.inl none, mPut a (.inl (5, [.int x1, .ref d, .ref (mAd 7 (σ.2.1 7))])) (mNew 7 (.inr (0, 4, .inl (upd (upd (upd (upd (fun _ => 0) 0 0) 1 x2) 2 x3) 3 x4))) 4 σ)) := by
  suffices k : mEv xs nx 52 0 [some (.ref a), some (.int x1), some (.ref d), some (.int x2), some (.int x3), some (.int x4)] [] (mPut a (.inl (5, (mFk 5).map mDf)) σ) (.inl none, mPut a (.inl (5, [.int x1, .ref d, .ref (mAd 7 (σ.2.1 7))])) (mNew 7 (.inr (0, 4, .inl (upd (upd (upd (upd (fun _ => 0) 0 0) 1 x2) 2 x3) 3 x4))) 4 σ)) by
    rw [mPut_self h] at k
    exact k
  exact ev_go rfl rfl (ev_go rfl rfl (ev_go rfl rfl (ev_go rfl rfl (ev_p0 rfl (Nat.le_of_ble_eq_true rfl) rfl (ev_go rfl rfl (ev_go rfl rfl (ev_p0 rfl (Nat.le_of_ble_eq_true rfl) rfl (ev_go rfl rfl (ev_go rfl rfl (ev_arr rfl (by decide) rfl (by decide) h7 (ev_go rfl rfl (ev_go rfl rfl (ev_go rfl rfl (ev_ia rfl rfl h7 (ev_go rfl rfl (ev_go rfl rfl (ev_go rfl rfl (ev_ia rfl rfl h7 (ev_go rfl rfl (ev_go rfl rfl (ev_go rfl rfl (ev_ia rfl rfl h7 (ev_go rfl rfl (ev_go rfl rfl (ev_go rfl rfl (ev_ia rfl rfl h7 (ev_p0 rfl (Nat.le_of_ble_eq_true rfl) rfl (ev_end rfl rfl))))))))))))))))))))))))))))
end CRUN
