/-! ===== the methods of lists, run on the first machine ===== -/
def mEv (xs : Nat → Int32) (nx y pc : Nat) (L : mLs) (S : List Value) (σ : mS) (r : mRes × mS) : Prop := ∃ n, mX mF mHs mFk xs nx n y pc L S σ = some r
section MEV
variable {xs : Nat → Int32} {nx y pc pc' : Nat} {e : mE} {L L' : mLs} {S S' : List Value} {σ σ' σ1 : mS} {r : mRes × mS}
theorem ev_go (hF : mF y pc = some e) (h : mStep mFk xs nx e pc L S σ = some (.inl (pc', L', S', σ'))) (k : mEv xs nx y pc' L' S' σ' r) : mEv xs nx y pc L S σ r := by
  obtain ⟨n, k⟩ := k
  refine ⟨n + 1, ?_⟩
  unfold mX
  simp only [hF, h]
  exact k
theorem ev_call {y' k9 : Nat} {A : List Value} {v : Option Value} (hF : mF y pc = some e) (h : mStep mFk xs nx e pc L S σ = some (.inr (.inl (y', A, k9, S')))) (c : mEv xs nx y' 0 (mL0 A (mLo e.2.2.2)) [] σ (.inl v, σ1)) (k : mEv xs nx y (pc + 3) L (v.toList ++ S') σ1 r) : mEv xs nx y pc L S σ r := by
  obtain ⟨n1, c⟩ := c
  obtain ⟨n2, k⟩ := k
  refine ⟨max n1 n2 + 1, ?_⟩
  unfold mX
  simp only [hF, h]
  rw [mX_mono (Nat.le_max_left n1 n2) c]
  exact mX_mono (Nat.le_max_right n1 n2) k
theorem ev_end (hF : mF y pc = some e) (h : mStep mFk xs nx e pc L S σ = some (.inr (.inr r))) : mEv xs nx y pc L S σ r := by
  refine ⟨1, ?_⟩
  unfold mX
  simp only [hF, h]
theorem st_get {i n c j a : Nat} {fs : List Value} {v : Value} (h : σ.1 a = some (.inl (c, fs))) (hv : fs[j]? = some v) : mStep mFk xs nx (.getfield i, n, c, j) pc L (.ref a :: S) σ = some (.inl (pc + n, L, v :: S, σ)) := by
  simp only [mStep, mGetS, h, if_true, hv]
  rfl
theorem st_put {i n c e2 a : Nat} {fs : List Value} {v : Value} (h : σ.1 a = some (.inl (c, fs))) (hl : e2 % 128 < fs.length) (hf : mFit (e2 / 128) v = true) : mStep mFk xs nx (.putfield i, n, c, e2) pc L (v :: .ref a :: S) σ = some (.inl (pc + n, L, S, mPut a (.inl (c, fs.set (e2 % 128) v)) σ)) := by
  simp only [mStep, mPutS, h, hl, hf, and_self, if_true]
  rfl
theorem st_aald {n e1 e2 a m t : Nat} {f : Nat → Option Nat} {i : Int32} (h : σ.1 a = some (.inr (t, m, rRf f))) (hi : mIn i m = true) : mStep mFk xs nx (.aaload, n, e1, e2) pc L (.int i :: .ref a :: S) σ = some (.inl (pc + n, L, va_rf (f i.toNatClampNeg) :: S, σ)) := by
  simp only [mStep, mAald, h, rRf, hi, if_true]
  rfl
theorem st_aast {n e1 e2 a m v : Nat} {f : Nat → Option Nat} {i : Int32} (h : σ.1 a = some (.inr (3, m, rRf f))) (hi : mIn i m = true) (hv : mMay σ.1 3 v = true) : mStep mFk xs nx (.aastore, n, e1, e2) pc L (.ref v :: .int i :: .ref a :: S) σ = some (.inl (pc + n, L, S, mPut a (.inr (3, m, rRf (va_up f i.toNatClampNeg (some v)))) σ)) := by
  simp only [mStep, mAast, h, rRf, hi, hv, and_self, if_true]
  rfl
theorem st_aastN {n e1 e2 a m t : Nat} {f : Nat → Option Nat} {i : Int32} (h : σ.1 a = some (.inr (t, m, rRf f))) (hi : mIn i m = true) : mStep mFk xs nx (.aastore, n, e1, e2) pc L (.null :: .int i :: .ref a :: S) σ = some (.inl (pc + n, L, S, mPut a (.inr (t, m, rRf (va_up f i.toNatClampNeg none))) σ)) := by
  simp only [mStep, mAast, h, rRf, hi, if_true]
  rfl
theorem st_alen {n e1 e2 a m t : Nat} {x} (h : σ.1 a = some (.inr (t, m, x))) (h1 : a ≠ mSCR) (h2 : a ≠ mEMP) : mStep mFk xs nx (.arraylength, n, e1, e2) pc L (.ref a :: S) σ = some (.inl (pc + n, L, .int (Int32.ofNat m) :: S, σ)) := by
  simp only [mStep, mLenS, if_neg h1, if_neg h2, h]
  rfl
theorem st_ifT {c : Jvm.ClassFile.Cond} {o : Int} {n e1 e2 : Nat} {x : Int32} (h : mCmp c x 0 = true) : mStep mFk xs nx (.ifCond c o, n, e1, e2) pc L (.int x :: S) σ = some (.inl (e1, L, S, σ)) := by
  simp only [mStep, mIfS, mBr, h, if_true]
  rfl
theorem st_ifF {c : Jvm.ClassFile.Cond} {o : Int} {n e1 e2 : Nat} {x : Int32} (h : mCmp c x 0 = false) : mStep mFk xs nx (.ifCond c o, n, e1, e2) pc L (.int x :: S) σ = some (.inl (pc + n, L, S, σ)) := by
  simp only [mStep, mIfS, mBr, h]
  rfl
theorem st_icT {c : Jvm.ClassFile.Cond} {o : Int} {n e1 e2 : Nat} {x y : Int32} (h : mCmp c x y = true) : mStep mFk xs nx (.if_icmp c o, n, e1, e2) pc L (.int y :: .int x :: S) σ = some (.inl (e1, L, S, σ)) := by
  simp only [mStep, mIcS, mBr, h, if_true]
  rfl
theorem st_icF {c : Jvm.ClassFile.Cond} {o : Int} {n e1 e2 : Nat} {x y : Int32} (h : mCmp c x y = false) : mStep mFk xs nx (.if_icmp c o, n, e1, e2) pc L (.int y :: .int x :: S) σ = some (.inl (pc + n, L, S, σ)) := by
  simp only [mStep, mIcS, mBr, h]
  rfl
theorem st_acp {i n e2 a a0 m0 m1 : Nat} {f g : Nat → Option Nat} {sp dp c : Int32} (h0 : σ.1 a0 = some (.inr (3, m0, rRf f))) (h1 : σ.1 a = some (.inr (3, m1, rRf g))) (k1 : ¬ sp < 0) (k2 : ¬ dp < 0) (k3 : ¬ c < 0) (k4 : sp.toNatClampNeg + c.toNatClampNeg ≤ m0) (k5 : dp.toNatClampNeg + c.toNatClampNeg ≤ m1) (k6 : S.length ≤ 4) : mStep mFk xs nx (.invokestatic i, n, 1001, e2) pc L (.int c :: .int dp :: .ref a :: .int sp :: .ref a0 :: S) σ = some (.inl (pc + n, L, S, mPut a (.inr (3, m1, rRf (va_cpy f g sp.toNatClampNeg dp.toNatClampNeg c.toNatClampNeg))) σ)) := by
  simp only [mStep, mSttS, h0, h1, rRf, if_true]
  rw [if_pos ⟨k1, k2, k3, k4, k5, k6⟩]
  rfl
theorem st_newR {i n e1 e2 : Nat} {x : Int32} (h : ¬ x < 0) (h2 : x.toNatClampNeg ≤ 100000) : mStep mFk xs nx (.anewarray i, n, e1, e2) pc L (.int x :: S) σ = some (.inl (pc + n, L, .ref (mAd e2 (σ.2.1 e2)) :: S, mNew e2 (.inr (e1, x.toNatClampNeg, rRf fun _ => none)) x.toNatClampNeg σ)) := by
  simp only [mStep, mNewR, h, h2, not_false_eq_true, and_self, if_true]
  rfl
theorem st_cls {i n e2 a m : Nat} {x} (h : σ.1 a = some (.inr (3, m, x))) (k6 : S.length ≤ 4) : mStep mFk xs nx (.invokevirtual i, n, 1002, e2) pc L (.ref a :: S) σ = some (.inl (pc + n, L, .ref mMIR :: S, σ)) := by
  simp only [mStep, mVrtS, h, if_true, if_pos k6]
  rfl
/-- a call of a list's own method -/
theorem st_vrt {i n y' e2 a : Nat} {fs : List Value} {As : List Value} (h : σ.1 a = some (.inl (e2 / 256, fs))) (hy : y' < 1000) (hn : As.length + 1 = e2 % 16) (hc : ∀ v ∈ As, v.category = 1) (hl : S.length ≤ 4) : mStep mFk xs nx (.invokevirtual i, n, y', e2) pc L (As.reverse ++ .ref a :: S) σ = some (.inr (.inl (y', .ref a :: As, e2 % 16, S))) := by
  have hg : (As.reverse ++ Value.ref a :: S)[e2 % 16 - 1]? = some (.ref a) := by
    rw [List.getElem?_append_right (by rw [List.length_reverse]; omega), List.length_reverse, show e2 % 16 - 1 - As.length = 0 by omega]
    rfl
  simp only [mStep, mVrtS]
  rw [if_neg (show ¬ y' = 1002 by omega), hg, if_pos (show mIs σ.1 (e2 / 256) (some (.ref a)) = true by unfold mIs; simp only [h]; simp)]
  unfold mInv
  have hlen : (As.reverse ++ Value.ref a :: S).length = As.length + 1 + S.length := by
    rw [List.length_append, List.length_reverse, List.length_cons]
    omega
  have ht : (As.reverse ++ Value.ref a :: S).take (e2 % 16) = As.reverse ++ [.ref a] := by
    rw [show As.reverse ++ Value.ref a :: S = (As.reverse ++ [.ref a]) ++ S by simp, ← hn]
    rw [List.take_append_of_le_length (by simp), List.take_of_length_le (by simp)]
  have hd : (As.reverse ++ Value.ref a :: S).drop (e2 % 16) = S := by
    rw [show As.reverse ++ Value.ref a :: S = (As.reverse ++ [.ref a]) ++ S by simp, ← hn]
    rw [List.drop_append_of_le_length (by simp), List.drop_of_length_le (by simp)]
    rfl
  have hm : mA1 ((As.reverse ++ Value.ref a :: S).take (e2 % 16)) = true := by
    rw [ht]
    unfold mA1
    rw [List.all_eq_true]
    intro v hv
    rcases List.mem_append.mp hv with hv | hv
    · rw [hc v (List.mem_reverse.mp hv)]; rfl
    · rw [List.mem_singleton] at hv; subst hv; rfl
  rw [if_pos ⟨by omega, by omega, hm, Or.inl (by omega)⟩, ht, hd]
  unfold mCall
  simp
end MEV
theorem i32_lt {i : Int32} {n : Nat} (h0 : ¬ i < 0) (h : i.toNatClampNeg < n) (hn : n < 2 ^ 31) : i < Int32.ofNat n := by
  rw [Int32.lt_iff_toInt_lt, Int32.toInt_ofNat_of_lt hn]
  have h1 : ¬ i.toInt < 0 := fun z => h0 (by rw [Int32.lt_iff_toInt_lt]; exact z)
  have h2 : i.toNatClampNeg = i.toInt.toNat := rfl
  omega
theorem i32_nat {n : Nat} (h : n < 2 ^ 31) : (Int32.ofNat n).toNatClampNeg = n := Int32.toNatClampNeg_ofNat_of_lt h
theorem i32_pos {n : Nat} (h : n < 2 ^ 31) : ¬ Int32.ofNat n < 0 := by
  rw [Int32.lt_iff_toInt_lt, Int32.toInt_ofNat_of_lt h]
  show ¬ (n : Int) < 0
  omega
theorem i32_eq {i : Int32} (h0 : ¬ i < 0) : i = Int32.ofNat i.toNatClampNeg := by
  apply Int32.toInt_inj.mp
  have h1 : ¬ i.toInt < 0 := fun z => h0 (by rw [Int32.lt_iff_toInt_lt]; exact z)
  have h2 : i.toNatClampNeg = i.toInt.toNat := rfl
  have h3 := Int32.toInt_lt i
  rw [Int32.toInt_ofNat_of_lt (by omega)]
  omega
theorem i32_add {a b : Nat} : Int32.ofNat a + Int32.ofNat b = Int32.ofNat (a + b) := (Int32.ofNat_add a b).symm
theorem i32_sub {a b : Nat} (h : b ≤ a) (ha : a < 2 ^ 31) : Int32.ofNat a - Int32.ofNat b = Int32.ofNat (a - b) := by
  exact (Int32.ofNat_sub a b h).symm
theorem va_up_up {α : Type} {f : Nat → α} {k : Nat} {v w : α} : va_up (va_up f k v) k w = va_up f k w := by
  funext j
  by_cases h : j = k
  · subst h; rw [va_up_self, va_up_self]
  · rw [va_up_ne _ _ h, va_up_ne _ _ h, va_up_ne _ _ h]
theorem mPut_up {a : Nat} {c c' : mC} {σ : mS} : mPut a c (mPut a c' σ) = mPut a c σ := by
  unfold mPut
  simp only [va_up_up]
theorem sum_up {l : List Nat} (hn : l.Nodup) {F F' : Nat → Nat} {t : Nat} (ht : t ∈ l) (h : ∀ x ∈ l, x ≠ t → F' x = F x) : (l.map F').sum + F t = (l.map F).sum + F' t := by
  induction l with
  | nil => cases ht
  | cons a l ih =>
    rw [List.nodup_cons] at hn
    simp only [List.map_cons, List.sum_cons]
    rcases List.mem_cons.mp ht with rfl | ht
    · have : l.map F' = l.map F := List.map_congr_left fun x hx => h x (List.mem_cons_of_mem _ hx) fun e => hn.1 (e ▸ hx)
      rw [this]
      omega
    · have h1 := ih hn.2 ht fun x hx => h x (List.mem_cons_of_mem _ hx)
      have h2 := h a List.mem_cons_self fun e => hn.1 (e ▸ ht)
      omega
theorem nLT_mem {t : Nat} (h : nLt t ≠ 0) : t ∈ nLT := by
  have hA : ∀ t < 96, nLt t = 0 ∨ t ∈ nLT := by decide +kernel
  have ht : t < 96 := Nat.lt_of_not_le fun z => h (nLt_hi z)
  exact (hA t ht).resolve_left h
theorem nSm_up {N : Nat → Nat} {g : Nat → Nat → Option (Nat × Nat)} {t k : Nat} {q : Option (Nat × Nat)} (hl : nLt t ≠ 0) (hk : k < nCt N t) : nSm N (up2 g t k q) + nGl (g t k) = nSm N g + nGl q := by
  unfold nSm
  have h1 := sum_up (l := nLT) (by decide) (F := fun t => ((List.range (nCt N t)).map fun k => nGl (g t k)).sum) (F' := fun t9 => ((List.range (nCt N t9)).map fun k9 => nGl (up2 g t k q t9 k9)).sum) (t := t) (nLT_mem hl) (fun x hx hne => by
    refine congrArg List.sum (List.map_congr_left fun j _ => ?_)
    show nGl (up2 g t k q x j) = nGl (g x j)
    simp [up2, hne])
  have h2 := sum_up (l := List.range (nCt N t)) List.nodup_range (F := fun k => nGl (g t k)) (F' := fun k9 => nGl (up2 g t k q t k9)) (t := k) (List.mem_range.mpr hk) (fun x hx hne => by
    show nGl (up2 g t k q t x) = nGl (g t x)
    simp [up2, hne])
  have h3 : up2 g t k q t k = q := by simp [up2]
  rw [h3] at h2
  omega
section NSL
variable {p : Option Nat} {s : nS} {σ : mS} {g : Nat → Nat → Option (Nat × Nat)}
theorem nRel.setL (r : nRel p s σ g) {t k : Nat} (hl : nLt t ≠ 0) (hk : k < nCt (fN s.1) t) {l' : List Nat} {σ' : mS} {q' : Option (Nat × Nat)} (ho : nLo σ' l' t k q')
    (hfr : ∀ b, b ≠ mAd t k → (∀ j c, g t k = some (j, c) → b ≠ mAd 96 j) → (∀ j c, q' = some (j, c) → b ≠ mAd 96 j) → σ'.1 b = σ.1 b)
    (hc : ∀ t', t' < 96 → σ'.2.1 t' = σ.2.1 t') (h96 : σ.2.1 96 ≤ σ'.2.1 96) (hq : ∀ j c, q' = some (j, c) → (∃ c0, g t k = some (j, c0)) ∨ σ.2.1 96 ≤ j)
    (hel : ∀ x ∈ l', x < nCt (fN s.1) (nLt t)) (hc1 : σ'.2.2.1 + nGl (g t k) ≤ σ.2.2.1 + nGl q') (hc2 : σ'.2.2.2 + 549 * nGl (g t k) ≤ σ.2.2.2 + 549 * nGl q') : nRel p (uL t k l' s.1, s.2) σ' (up2 g t k q') := by
  obtain ⟨r1, r2, r3, r4, r5, r6, r7, r8, r9, r10⟩ := r
  have ht := nCt_lt hk
  have hd : ∀ j c, g t k = some (j, c) → j < σ.2.1 96 := by
    intro j c e
    obtain ⟨mc, d, -, -, a3⟩ := r3 t k hl hk
    rw [e] at a3
    exact a3.2.1
  have hfr2 : ∀ (t' k' : Nat), t' < 96 → ¬ (t' = t ∧ k' = k) → σ'.1 (mAd t' k') = σ.1 (mAd t' k') := fun t' k' h1 h2 => hfr _ (mAd_ne (by omega) (by omega) h2) (fun j c _ => mAd_ne (by omega) (by omega) (by omega)) (fun j c _ => mAd_ne (by omega) (by omega) (by omega))
  have hup : ∀ (t' k' : Nat), ¬ (t' = t ∧ k' = k) → up2 g t k q' t' k' = g t' k' := fun t' k' h => by simp [up2, h]
  have hupL : ∀ (t' k' : Nat), ¬ (t' = t ∧ k' = k) → up2 (fL s.1) t k l' t' k' = fL s.1 t' k' := fun t' k' h => by simp [up2, h]
  have hself : up2 g t k q' t k = q' := by simp [up2]
  refine ⟨fun c' k' h => ?_, fun t' k' h9 h => ?_, fun t' k' hl' h => ?_, ?_, fun t' h => ?_, fun t' h => ?_, r7, fun t' k' x hl' h hx => ?_, r9, ?_⟩
  · have h0 := nTg_lt h
    rw [hfr2 _ _ (nCt_lt h) (fun z => hl (by rw [← z.1]; exact (nTab1 c' h0.2 h0.1).2.1))]
    exact r1 c' k' h
  · rw [hfr2 _ _ (nCt_lt h) (fun z => hl (by rw [← z.1]; exact nTab3 t' (nCt_lt h) h9))]
    exact r2 t' k' h9 h
  · show nLo σ' (up2 (fL s.1) t k l' t' k') t' k' (up2 g t k q' t' k')
    by_cases e : t' = t ∧ k' = k
    · obtain ⟨rfl, rfl⟩ := e
      rw [hself, show up2 (fL s.1) t' k' l' t' k' = l' by simp [up2]]
      exact ho
    · rw [hup _ _ e, hupL _ _ e]
      refine (r3 t' k' hl' h).mono (hfr2 _ _ (nCt_lt h) e) (fun j c hj => ?_) h96
      have hjlt : j < σ.2.1 96 := by
        obtain ⟨mc, d, -, -, a3⟩ := r3 t' k' hl' h
        rw [hj] at a3
        exact a3.2.1
      have hnj : ∀ c0, g t k ≠ some (j, c0) := fun c0 z => e (r4 t' k' t k j c c0 hl' h hl hk hj z)
      refine hfr _ (mAd_ne (by omega) (by omega) (by omega)) (fun j2 c2 h2 z => ?_) (fun j2 c2 h2 z => ?_)
      · have := (mAd_inj (by omega) (by omega) z).2
        subst this
        exact hnj _ h2
      · have := (mAd_inj (by omega) (by omega) z).2
        subst this
        rcases hq _ _ h2 with ⟨c0, h3⟩ | h3
        · exact hnj _ h3
        · omega
  · intro t1 k1 t2 k2 j c1 c2 hl1 hk1 hl2 hk2 e1 e2
    have key : ∀ (t3 k3 c3 : Nat), nLt t3 ≠ 0 → k3 < nCt (fN s.1) t3 → ¬ (t3 = t ∧ k3 = k) → g t3 k3 = some (j, c3) → ∀ c4, q' ≠ some (j, c4) := by
      intro t3 k3 c3 hl3 hk3 hn3 e3 c4 e4
      have hjlt : j < σ.2.1 96 := by
        obtain ⟨mc, d, -, -, a3⟩ := r3 t3 k3 hl3 hk3
        rw [e3] at a3
        exact a3.2.1
      rcases hq _ _ e4 with ⟨c0, h3⟩ | h3
      · exact hn3 (r4 t3 k3 t k j c3 c0 hl3 hk3 hl hk e3 h3)
      · omega
    by_cases f1 : t1 = t ∧ k1 = k
    · by_cases f2 : t2 = t ∧ k2 = k
      · exact ⟨f1.1.trans f2.1.symm, f1.2.trans f2.2.symm⟩
      · rw [f1.1, f1.2, hself] at e1
        rw [hup _ _ f2] at e2
        exact absurd e1 (key t2 k2 c2 hl2 hk2 f2 e2 c1)
    · rw [hup _ _ f1] at e1
      by_cases f2 : t2 = t ∧ k2 = k
      · rw [f2.1, f2.2, hself] at e2
        exact absurd e2 (key t1 k1 c1 hl1 hk1 f1 e1 c2)
      · rw [hup _ _ f2] at e2
        exact r4 t1 k1 t2 k2 j c1 c2 hl1 hk1 hl2 hk2 e1 e2
  · rw [hc t' h]
    exact r5 t' h
  · obtain ⟨a1, c9, a2, a3⟩ := r6 t' h
    have ht' : t' < 96 := Nat.lt_of_not_le fun z => by have := nGp_hi z; have := nTg_100 (c := c9); omega
    refine ⟨a1, c9, a2, ?_⟩
    show σ'.1 (mAd t' (fN s.1 t')) = _
    rw [hfr2 _ _ ht' ?_]
    · exact a3
    · rintro ⟨z1, z2⟩
      have hq9 : nLt t' = 0 := by
        have hA : ∀ t < 96, nGp t = t → nLt t = 0 := by decide +kernel
        exact hA t' ht' a1
      rw [z1] at hq9
      exact hl hq9
  · have hx : x ∈ up2 (fL s.1) t k l' t' k' := hx
    by_cases e : t' = t ∧ k' = k
    · obtain ⟨rfl, rfl⟩ := e
      rw [show up2 (fL s.1) t' k' l' t' k' = l' by simp [up2]] at hx
      exact hel x hx
    · rw [hupL _ _ e] at hx
      exact r8 t' k' x hl' h hx
  · have hs := nSm_up (N := fN s.1) (g := g) (q := q') hl hk
    unfold nCost at r10 ⊢
    obtain ⟨a, b⟩ := r10
    refine ⟨?_, ?_⟩
    · show σ'.2.2.1 ≤ 1000 + nA (fN s.1) + s.2.2.1 + nSm (fN s.1) (up2 g t k q') + nPn p
      omega
    · show σ'.2.2.2 ≤ 20000 + 20 * nA (fN s.1) + 6 * s.2.2.1 + 549 * nSm (fN s.1) (up2 g t k q') + 20 * nPn p
      omega
end NSL
