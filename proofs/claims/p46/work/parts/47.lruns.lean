/-! ===== each method of a list ===== -/
section LRUN
variable {xs : Nat → Int32} {nx y pc : Nat} {e : mE} {L : mLs} {S : List Value} {σ σ1 : mS}
theorem rch_call {y' k9 : Nat} {A S' : List Value} {v : Option Value} (hF : mF y pc = some e) (h : mStep mFk xs nx e pc L S σ = some (.inr (.inl (y', A, k9, S')))) (c : mEv xs nx y' 0 (mL0 A (mLo e.2.2.2)) [] σ (.inl v, σ1)) : mRch xs nx y (pc, L, S, σ) (pc + 3, L, v.toList ++ S', σ1) := by
  intro n r hr
  exact ev_call hF h c ⟨n, hr⟩
theorem mPut_self {a : Nat} {c : mC} (h : σ.1 a = some c) : mPut a c σ = σ := by
  unfold mPut
  have : va_up σ.1 a (some c) = σ.1 := by
    funext b
    by_cases e : b = a
    · subst e; rw [va_up_self, h]
    · rw [va_up_ne _ _ e]
  rw [this]
theorem mPut_at {a : Nat} {c : mC} : (mPut a c σ).1 a = some c := va_up_self _ _ _
theorem mPut_ne {a b : Nat} {c : mC} (h : b ≠ a) : (mPut a c σ).1 b = σ.1 b := va_up_ne _ _ h
theorem mPut_comm {a b : Nat} {c d : mC} (h : a ≠ b) : mPut a c (mPut b d σ) = mPut b d (mPut a c σ) := by
  unfold mPut
  have : va_up (va_up σ.1 b (some d)) a (some c) = va_up (va_up σ.1 a (some c)) b (some d) := by
    funext j
    by_cases e : j = a
    · subst e
      rw [va_up_self, va_up_ne _ _ h, va_up_self]
    · rw [va_up_ne _ _ e]
      by_cases e2 : j = b
      · subst e2; rw [va_up_self, va_up_self]
      · rw [va_up_ne _ _ e2, va_up_ne _ _ e2, va_up_ne _ _ e]
  simp only [this]
theorem L_chk {i : Int32} {n : Nat} (h0 : ¬ i < 0) (h : i.toNatClampNeg < n) (hn : n < 2 ^ 31) : mEv xs nx 268 0 [some (.int i), some (.int (Int32.ofNat n))] [] σ (.inl (some (.int i)), σ) := by
  have h2 := i32_lt h0 h hn
  refine ev_go rfl rfl (ev_go rfl rfl (ev_go rfl rfl (ev_call (v := some (.int i)) (σ1 := σ) rfl rfl ?_ (ev_end rfl rfl))))
  refine ev_go rfl rfl (ev_go rfl (st_ifF (by simp [mCmp, h0])) (ev_go rfl rfl (ev_go rfl rfl (ev_go rfl (st_icT (by simp [mCmp, h2])) (ev_go rfl rfl (ev_end rfl rfl))))))
theorem L_size {a : Nat} {mc z : Int32} {d : Value} (h1 : σ.1 a = some (.inl (0, [.int mc, d, .int z]))) : mEv xs nx 266 0 [some (.ref a)] [] σ (.inl (some (.int z)), σ) :=
  ev_go rfl rfl (ev_go rfl (st_get h1 rfl) (ev_end rfl rfl))
theorem L_empty {a n : Nat} {mc : Int32} {d : Value} (hn : n < 2 ^ 31) (h1 : σ.1 a = some (.inl (0, [.int mc, d, .int (Int32.ofNat n)]))) : mEv xs nx 280 0 [some (.ref a)] [] σ (.inl (some (.int (if n = 0 then 1 else 0))), σ) := by
  refine ev_go rfl rfl (ev_go rfl (st_get h1 rfl) ?_)
  by_cases h : n = 0
  · subst h
    exact ev_go rfl (st_ifF (by decide)) (ev_go rfl rfl (ev_go rfl rfl (ev_end rfl rfl)))
  · have h2 : ¬ Int32.ofNat n = 0 := by
      intro z
      have := congrArg Int32.toInt z
      rw [Int32.toInt_ofNat_of_lt hn] at this
      have h3 : (0 : Int32).toInt = 0 := rfl
      omega
    rw [if_neg h]
    exact ev_go rfl (st_ifT (by simp [mCmp, h2])) (ev_go rfl rfl (ev_end rfl rfl))
theorem L_get {a D cap n e : Nat} {mc i : Int32} {f : Nat → Option Nat} (h0 : ¬ i < 0) (hi : i.toNatClampNeg < n) (hn : n ≤ 500) (hc : n ≤ cap) (h1 : σ.1 a = some (.inl (0, [.int mc, .ref D, .int (Int32.ofNat n)]))) (hD : σ.1 D = some (.inr (3, cap, rRf f))) (he : f i.toNatClampNeg = some e) : mEv xs nx 270 0 [some (.ref a), some (.int i)] [] σ (.inl (some (.ref e)), σ) := by
  refine ev_go rfl rfl (ev_go rfl rfl (ev_go rfl (st_get h1 rfl) (ev_call rfl rfl (L_chk h0 hi (by omega)) (ev_go rfl rfl (ev_go rfl rfl (ev_go rfl rfl (ev_call (v := some (.ref e)) (σ1 := σ) rfl (st_vrt (As := [.int i]) h1 (by decide) rfl (fun v hv => by rw [List.mem_singleton] at hv; subst hv; rfl) (Nat.le_of_ble_eq_true rfl)) ?_ (ev_end rfl rfl))))))))
  refine ev_go rfl rfl (ev_go rfl (st_get h1 rfl) (ev_go rfl rfl (ev_go rfl (st_aald hD (mIn_iff.mpr ⟨h0, by omega⟩)) ?_)))
  rw [he]
  exact ev_end rfl rfl
theorem L_clr_loop {a D cap n : Nat} (hn : n ≤ 500) (hc : n ≤ cap) : ∀ (m i : Nat) (σ : mS) (f : Nat → Option Nat), i + m = n → σ.1 D = some (.inr (3, cap, rRf f)) → ∃ f', mEv xs nx 281 27 [some (.ref a), some (.ref D), some (.int (Int32.ofNat n)), some (.int (Int32.ofNat i))] [] σ (.inl none, mPut D (.inr (3, cap, rRf f')) σ) := by
  intro m
  induction m with
  | zero =>
    intro i σ f hi hD
    have : i = n := by omega
    subst this
    refine ⟨f, ?_⟩
    rw [mPut_self hD]
    exact ev_go rfl rfl (ev_go rfl rfl (ev_go rfl (st_icT (by simp [mCmp])) (ev_end rfl rfl)))
  | succ m ih =>
    intro i σ f hi hD
    have hlt : Int32.ofNat i < Int32.ofNat n := by
      rw [Int32.lt_iff_toInt_lt, Int32.toInt_ofNat_of_lt (by omega), Int32.toInt_ofNat_of_lt (by omega)]
      omega
    have hin : mIn (Int32.ofNat i) cap = true := mIn_iff.mpr ⟨i32_pos (by omega), by rw [i32_nat (by omega)]; omega⟩
    obtain ⟨f', hf'⟩ := ih (i + 1) (mPut D (.inr (3, cap, rRf (va_up f (Int32.ofNat i).toNatClampNeg none))) σ) _ (by omega) mPut_at
    rw [mPut_up] at hf'
    refine ⟨f', ev_go rfl rfl (ev_go rfl rfl (ev_go rfl (st_icF (by simp [mCmp, hlt])) (ev_go rfl rfl (ev_go rfl rfl (ev_go rfl rfl (ev_go rfl (st_aastN hD hin) (ev_go rfl rfl (ev_go rfl rfl ?_))))))))⟩
    have e1 : Int32.ofNat i + Int32.ofInt 1 = Int32.ofNat (i + 1) := i32_add
    show mEv xs nx 281 27 [some (.ref a), some (.ref D), some (.int (Int32.ofNat n)), some (.int (Int32.ofNat i + Int32.ofInt 1))] [] _ _
    rw [e1]
    exact hf'
theorem L_clear {a D n : Nat} {mc : Int32} {r : mRes × mS} (h1 : σ.1 a = some (.inl (0, [.int mc, .ref D, .int (Int32.ofNat n)]))) (hk : mEv xs nx 281 27 [some (.ref a), some (.ref D), some (.int (Int32.ofNat n)), some (.int (Int32.ofNat 0))] [] (mPut a (.inl (0, [.int (mc + Int32.ofInt 1), .ref D, .int 0])) σ) r) : mEv xs nx 281 0 [some (.ref a), none, none, none] [] σ r := by
  refine ev_go rfl rfl (ev_go rfl rfl (ev_go rfl (st_get h1 rfl) (ev_go rfl rfl (ev_go rfl rfl (ev_go rfl (st_put h1 (Nat.le_of_ble_eq_true rfl) rfl) (ev_go rfl rfl (ev_go rfl (st_get mPut_at rfl) (ev_go rfl rfl (ev_go rfl rfl (ev_go rfl (st_get mPut_at rfl) (ev_go rfl rfl (ev_go rfl rfl (ev_go rfl rfl (ev_go rfl rfl (ev_go rfl (st_put mPut_at (Nat.le_of_ble_eq_true rfl) rfl) (ev_go rfl rfl ?_))))))))))))))))
  rw [mPut_up]
  exact hk
theorem L_fastR {a D cap n : Nat} {mc i : Int32} {f : Nat → Option Nat} (h0 : ¬ i < 0) (hi : i.toNatClampNeg < n) (hn : n ≤ 500) (hc : n ≤ cap) (hne : D ≠ a) (h1 : σ.1 a = some (.inl (0, [.int mc, .ref D, .int (Int32.ofNat n)]))) (hD : σ.1 D = some (.inr (3, cap, rRf f))) :
    ∃ f', (∀ j, j < n - 1 → f' j = if j < i.toNatClampNeg then f j else f (j + 1)) ∧ mEv xs nx 271 0 [some (.ref a), some (.ref D), some (.int i), none] [] σ (.inl none, mPut D (.inr (3, cap, rRf f')) (mPut a (.inl (0, [.int (mc + Int32.ofInt 1), .ref D, .int (Int32.ofNat (n - 1))])) σ)) := by
  have es : Int32.ofNat n - Int32.ofInt 1 = Int32.ofNat (n - 1) := i32_sub (b := 1) (by omega) (by omega)
  have hin : mIn (Int32.ofNat (n - 1)) cap = true := mIn_iff.mpr ⟨i32_pos (by omega), by rw [i32_nat (by omega)]; omega⟩
  -- the end, from 34 on
  have tail : ∀ (σ2 : mS) (f2 : Nat → Option Nat), σ2.1 a = some (.inl (0, [.int (mc + Int32.ofInt 1), .ref D, .int (Int32.ofNat n)])) → σ2.1 D = some (.inr (3, cap, rRf f2)) → mEv xs nx 271 34 [some (.ref a), some (.ref D), some (.int i), some (.int (Int32.ofNat n - Int32.ofInt 1))] [] σ2 (.inl none, mPut D (.inr (3, cap, rRf (va_up f2 (n - 1) none))) (mPut a (.inl (0, [.int (mc + Int32.ofInt 1), .ref D, .int (Int32.ofNat (n - 1))])) σ2)) := by
    intro σ2 f2 g1 g2
    rw [es]
    refine ev_go rfl rfl (ev_go rfl rfl (ev_go rfl rfl (ev_go rfl rfl (ev_go rfl (st_put g1 (Nat.le_of_ble_eq_true rfl) rfl) (ev_go rfl rfl (ev_go rfl (st_aastN ((mPut_ne hne).trans g2) hin) ?_))))))
    rw [i32_nat (by omega)]
    exact ev_end rfl rfl
  have hP1 : (mPut a (.inl (0, [.int (mc + Int32.ofInt 1), .ref D, .int (Int32.ofNat n)])) σ).1 a = some (.inl (0, [.int (mc + Int32.ofInt 1), .ref D, .int (Int32.ofNat n)])) := mPut_at
  have hPD : (mPut a (.inl (0, [.int (mc + Int32.ofInt 1), .ref D, .int (Int32.ofNat n)])) σ).1 D = some (.inr (3, cap, rRf f)) := (mPut_ne hne).trans hD
  by_cases hb : i.toNatClampNeg < n - 1
  · -- the rest moves
    have hlt : i < Int32.ofNat (n - 1) := i32_lt h0 hb (by omega)
    have ei := i32_eq h0
    have e1 : i + Int32.ofInt 1 = Int32.ofNat (i.toNatClampNeg + 1) := by rw [ei, i32_nat (by omega)]; exact i32_add
    have e2 : Int32.ofNat (n - 1) - i = Int32.ofNat (n - 1 - i.toNatClampNeg) := by rw [ei, i32_nat (by omega)]; exact i32_sub (by omega) (by omega)
    refine ⟨va_up (va_cpy f f (i.toNatClampNeg + 1) i.toNatClampNeg (n - 1 - i.toNatClampNeg)) (n - 1) none, fun j hj => ?_, ?_⟩
    · rw [va_up_ne _ _ (by omega)]
      unfold va_cpy
      by_cases hji : j < i.toNatClampNeg
      · rw [if_neg (by omega), if_pos hji]
      · rw [if_pos (by omega), if_neg hji]
        congr 1
        omega
    · refine ev_go rfl rfl (ev_go rfl rfl (ev_go rfl (st_get h1 rfl) (ev_go rfl rfl (ev_go rfl rfl (ev_go rfl (st_put h1 (Nat.le_of_ble_eq_true rfl) rfl) (ev_go rfl rfl (ev_go rfl (st_get hP1 rfl) (ev_go rfl rfl (ev_go rfl rfl (ev_go rfl rfl (ev_go rfl rfl (ev_go rfl rfl (ev_go rfl (st_icF (show mCmp .le (Int32.ofNat n - Int32.ofInt 1) i = false by rw [es]; simp only [mCmp, decide_eq_false_iff_not]; exact Int32.not_le.mpr hlt)) (ev_go rfl rfl (ev_go rfl rfl (ev_go rfl rfl (ev_go rfl rfl (ev_go rfl rfl (ev_go rfl rfl (ev_go rfl rfl (ev_go rfl rfl (ev_go rfl rfl (ev_go rfl (st_acp hPD hPD ?_ h0 ?_ ?_ ?_ (Nat.le_of_ble_eq_true rfl)) ?_)))))))))))))))))))))))
      · show ¬ i + Int32.ofInt 1 < 0
        rw [e1]; exact i32_pos (by omega)
      · show ¬ Int32.ofNat n - Int32.ofInt 1 - i < 0
        rw [es, e2]; exact i32_pos (by omega)
      · show (i + Int32.ofInt 1).toNatClampNeg + (Int32.ofNat n - Int32.ofInt 1 - i).toNatClampNeg ≤ cap
        rw [e1, es, e2, i32_nat (by omega), i32_nat (by omega)]; omega
      · show i.toNatClampNeg + (Int32.ofNat n - Int32.ofInt 1 - i).toNatClampNeg ≤ cap
        rw [es, e2, i32_nat (by omega)]; omega
      · have ht := tail (mPut D (.inr (3, cap, rRf (va_cpy f f (i.toNatClampNeg + 1) i.toNatClampNeg (n - 1 - i.toNatClampNeg)))) (mPut a (.inl (0, [.int (mc + Int32.ofInt 1), .ref D, .int (Int32.ofNat n)])) σ)) _ ((mPut_ne (Ne.symm hne)).trans hP1) mPut_at
        show mEv xs nx 271 34 _ _ (mPut D (.inr (3, cap, rRf (va_cpy f f (i + Int32.ofInt 1).toNatClampNeg i.toNatClampNeg (Int32.ofNat n - Int32.ofInt 1 - i).toNatClampNeg))) _) _
        rw [show (i + Int32.ofInt 1).toNatClampNeg = i.toNatClampNeg + 1 by rw [e1, i32_nat (by omega)], show (Int32.ofNat n - Int32.ofInt 1 - i).toNatClampNeg = n - 1 - i.toNatClampNeg by rw [es, e2, i32_nat (by omega)]]
        rw [mPut_comm (Ne.symm hne), mPut_up, mPut_up] at ht
        exact ht
  · have hge : ¬ i < Int32.ofNat (n - 1) := by
      intro z
      rw [Int32.lt_iff_toInt_lt, Int32.toInt_ofNat_of_lt (by omega)] at z
      have h9 : i.toNatClampNeg = i.toInt.toNat := rfl
      have h8 : ¬ i.toInt < 0 := fun w => h0 (by rw [Int32.lt_iff_toInt_lt]; exact w)
      omega
    refine ⟨va_up f (n - 1) none, fun j hj => ?_, ?_⟩
    · rw [va_up_ne _ _ (by omega), if_pos (by omega)]
    · refine ev_go rfl rfl (ev_go rfl rfl (ev_go rfl (st_get h1 rfl) (ev_go rfl rfl (ev_go rfl rfl (ev_go rfl (st_put h1 (Nat.le_of_ble_eq_true rfl) rfl) (ev_go rfl rfl (ev_go rfl (st_get hP1 rfl) (ev_go rfl rfl (ev_go rfl rfl (ev_go rfl rfl (ev_go rfl rfl (ev_go rfl rfl (ev_go rfl (st_icT (show mCmp .le (Int32.ofNat n - Int32.ofInt 1) i = true by rw [es]; simp only [mCmp, decide_eq_true_eq]; exact Int32.not_lt.mp hge)) ?_)))))))))))))
      have ht := tail _ f hP1 hPD
      rw [mPut_up] at ht
      exact ht
theorem L_remove {a D cap n e : Nat} {mc i : Int32} {f : Nat → Option Nat} (h0 : ¬ i < 0) (hi : i.toNatClampNeg < n) (hn : n ≤ 500) (hc : n ≤ cap) (hne : D ≠ a) (h1 : σ.1 a = some (.inl (0, [.int mc, .ref D, .int (Int32.ofNat n)]))) (hD : σ.1 D = some (.inr (3, cap, rRf f))) (he : f i.toNatClampNeg = some e) :
    ∃ f', (∀ j, j < n - 1 → f' j = if j < i.toNatClampNeg then f j else f (j + 1)) ∧ mEv xs nx 272 0 [some (.ref a), some (.int i), none, none] [] σ (.inl (some (.ref e)), mPut D (.inr (3, cap, rRf f')) (mPut a (.inl (0, [.int (mc + Int32.ofInt 1), .ref D, .int (Int32.ofNat (n - 1))])) σ)) := by
  obtain ⟨f', g1, g2⟩ := L_fastR (xs := xs) (nx := nx) h0 hi hn hc hne h1 hD
  refine ⟨f', g1, ?_⟩
  refine ev_go rfl rfl (ev_go rfl rfl (ev_go rfl (st_get h1 rfl) (ev_call rfl rfl (L_chk h0 hi (by omega)) (ev_go rfl rfl (ev_go rfl rfl (ev_go rfl (st_get h1 rfl) (ev_go rfl rfl (ev_go rfl rfl (ev_go rfl rfl (ev_go rfl (st_aald hD (mIn_iff.mpr ⟨h0, by omega⟩)) ?_))))))))))
  rw [he]
  exact ev_go rfl rfl (ev_go rfl rfl (ev_go rfl rfl (ev_go rfl rfl (ev_call rfl (st_vrt (As := [.ref D, .int i]) h1 (by decide) rfl (fun v hv => by rcases List.mem_cons.mp hv with rfl | hv; rfl; rw [List.mem_singleton] at hv; subst hv; rfl) (Nat.le_of_ble_eq_true rfl)) g2 (ev_go rfl rfl (ev_end rfl rfl))))))
end LRUN
