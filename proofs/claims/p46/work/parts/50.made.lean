/-! ===== an object is made ===== -/
theorem nTab11 : ∀ t < 96, nGp t = 26 → t = 26 ∨ t = 8 ∨ t = 9 ∨ t = 10 := by decide +kernel
theorem nTab12 : ∀ t < 96, nGp t = 23 → t = 23 ∨ t = 5 ∨ t = 6 := by decide +kernel
theorem nTab13 : ∀ t < 96, nGp t = 27 → t = 27 ∨ t = 11 := by decide +kernel
theorem nTab14 : ∀ t < 96, nGp t = 28 → t = 28 ∨ t = 7 := by decide +kernel
theorem nTab15 : ∀ t < 96, nGp t = 24 → t = 24 := by decide +kernel
theorem nTab16 : ∀ t < 96, nGp t = 25 → t = 25 := by decide +kernel
theorem nGp_lt {t : Nat} (h : nGp t < 100) : t < 96 := Nat.lt_of_not_le fun z => by have := nGp_hi z; omega
theorem nCt_up {N : Nat → Nat} {t t' v : Nat} (ht : t < 100) : nCt (up1 N t v) t' = if nGp t' = t then v else nCt N t' := by
  unfold nCt
  by_cases h : nGp t' = t
  · rw [h, if_pos rfl, show Nat.ble 100 t = false from (by cases hb : Nat.ble 100 t with | false => rfl | true => have := Nat.le_of_ble_eq_true hb; omega)]
    simp [up1]
  · rw [if_neg h]
    cases Nat.ble 100 (nGp t') with
    | true => rfl
    | false => simp [up1, h]
theorem map_sum_le {l : List Nat} {F F' : Nat → Nat} (h : ∀ x ∈ l, F x ≤ F' x) : (l.map F).sum ≤ (l.map F').sum := by
  induction l with
  | nil => exact Nat.le_refl _
  | cons a l ih =>
    simp only [List.map_cons, List.sum_cons]
    have h1 := h a List.mem_cons_self
    have h2 := ih fun x hx => h x (List.mem_cons_of_mem _ hx)
    omega
section NMADE
variable {s s' : nS} {σ σ' : mS} {g : Nat → Nat → Option (Nat × Nat)}
theorem nRel.made {t w : Nat} (r : nRel (some t) s σ g) (hN : fN s'.1 = up1 (fN s.1) t (fN s.1 t + 1)) (hT : s'.2.2.1 = s.2.2.1)
    (hoO : ∀ c k j, k < nCt (fN s.1) (nTg c) → nGet c j k s' = nGet c j k s) (hoA : ∀ t' k, nAt t' ≠ 9 → k < nCt (fN s.1) t' → nRw s' t' k = nRw s t' k) (hoL : ∀ t' k, nLt t' ≠ 0 → k < nCt (fN s.1) t' → fL s'.1 t' k = fL s.1 t' k)
    (ho4 : ∀ k i, k < nCt (fN s.1) 4 → fP s'.1 4 k i = fP s.1 4 k i)
    (hnO : ∀ c, nGp (nTg c) = t → σ'.1 (mAd (nTg c) (fN s.1 t)) = some (.inl (c, nFs c (fN s.1 t) s')) ∧ ∀ j, j < nFl c → vk (fN s'.1) none (nGet c j (fN s.1 t) s'))
    (hnA : ∀ t', nAt t' ≠ 9 → nGp t' = t → σ'.1 (mAd t' (fN s.1 t)) = some (.inr (nRw s' t' (fN s.1 t))))
    (hnL : ∀ t', nLt t' ≠ 0 → nGp t' = t → σ'.1 (mAd t' (fN s.1 t)) = some (.inl (0, [.int 0, .ref mEMP, .int 0])) ∧ fL s'.1 t' (fN s.1 t) = [])
    (hh : ∀ t' k, t' < 97 → (t' < 96 → k < nCt (fN s.1) t') → (t' = 96 → k < σ.2.1 96) → σ'.1 (mAd t' k) = σ.1 (mAd t' k)) (h96 : σ'.2.1 96 = σ.2.1 96) (hcnt : ∀ t', t' < 96 → σ'.2.1 t' = nCt (fN s'.1) t')
    (hc1 : σ'.2.2.1 + 1 ≤ σ.2.2.1 + w) (hc2 : σ'.2.2.2 + 20 ≤ σ.2.2.2 + 20 * w) (hw : nA (fN s'.1) = nA (fN s.1) + w) :
    nRel none s' σ' (fun t' k => if nGp t' = t ∧ k = fN s.1 t then none else g t' k) := by
  obtain ⟨r1, r2, r3, r4, r5, r6, r7, r8, r9, r10⟩ := r
  obtain ⟨p1, cP, p2, p3⟩ := r6 t rfl
  have ht : t < 96 := Nat.lt_of_not_le fun z => by have := nGp_hi z; have := nTg_100 (c := cP); omega
  have hct : ∀ t', nCt (fN s'.1) t' = if nGp t' = t then fN s.1 t + 1 else nCt (fN s.1) t' := fun t' => by rw [hN]; exact nCt_up (by omega)
  have hctG : ∀ t', nGp t' = t → nCt (fN s.1) t' = fN s.1 t := fun t' h => by
    unfold nCt
    rw [h, show Nat.ble 100 t = false from (by cases hb : Nat.ble 100 t with | false => rfl | true => have := Nat.le_of_ble_eq_true hb; omega)]
    rfl
  have hle : ∀ t', nCt (fN s.1) t' ≤ nCt (fN s'.1) t' := fun t' => by
    rw [hct]
    split
    · rename_i h; rw [hctG t' h]; omega
    · exact Nat.le_refl _
  have hcase : ∀ t' k, k < nCt (fN s'.1) t' → (k < nCt (fN s.1) t' ∧ ¬ (nGp t' = t ∧ k = fN s.1 t)) ∨ (nGp t' = t ∧ k = fN s.1 t) := fun t' k h => by
    rw [hct] at h
    split at h
    · rename_i hg
      by_cases e : k = fN s.1 t
      · exact Or.inr ⟨hg, e⟩
      · exact Or.inl ⟨by rw [hctG t' hg]; omega, fun z => e z.2⟩
    · rename_i hg
      exact Or.inl ⟨h, fun z => hg z.1⟩
  refine ⟨fun c k h => ?_, fun t' k h9 h => ?_, fun t' k hl h => ?_, fun t1 k1 t2 k2 j c1 c2 hl1 hk1 hl2 hk2 e1 e2 => ?_, fun t' h => ?_, (fun t' h => by cases h), fun c k j h hj => ?_, fun t' k x hl h hx => ?_, fun k i l h hl => ?_, ?_⟩
  · rcases hcase _ _ h with ⟨h1, -⟩ | ⟨h1, h2⟩
    · rw [hh _ _ (by have := nCt_lt h1; omega) (fun _ => h1) (fun z => by have := nCt_lt h1; omega), r1 c k h1]
      congr 3
      unfold nFs
      refine List.map_congr_left fun j hj => ?_
      rw [hoO c k j h1]
      exact (vw_N (r7 c k j h1 (List.mem_range.mp hj))).symm
    · subst h2
      exact (hnO c h1).1
  · rcases hcase _ _ h with ⟨h1, -⟩ | ⟨h1, h2⟩
    · rw [hh _ _ (by have := nCt_lt h1; omega) (fun _ => h1) (fun z => by have := nCt_lt h1; omega), r2 t' k h9 h1, hoA t' k h9 h1]
    · subst h2
      exact hnA t' h9 h1
  · rcases hcase _ _ h with ⟨h1, h2⟩ | ⟨h1, h2⟩
    · show nLo σ' _ t' k (if nGp t' = t ∧ k = fN s.1 t then none else g t' k)
      rw [if_neg h2, hoL t' k hl h1]
      refine (r3 t' k hl h1).mono (hh _ _ (by have := nCt_lt h1; omega) (fun _ => h1) (fun z => by have := nCt_lt h1; omega)) (fun j c hj => hh _ _ (by omega) (fun z => by omega) (fun _ => ?_)) (by rw [h96]; exact Nat.le_refl _)
      obtain ⟨mc, d, -, -, a3⟩ := r3 t' k hl h1
      rw [hj] at a3
      exact a3.2.1
    · subst h2
      show nLo σ' _ t' _ (if nGp t' = t ∧ fN s.1 t = fN s.1 t then none else g t' _)
      rw [if_pos ⟨h1, rfl⟩]
      obtain ⟨a1, a2⟩ := hnL t' hl h1
      rw [a2]
      exact ⟨_, _, a1, by simp, rfl, rfl⟩
  · by_cases f1 : nGp t1 = t ∧ k1 = fN s.1 t
    · simp only [if_pos f1] at e1
      cases e1
    · by_cases f2 : nGp t2 = t ∧ k2 = fN s.1 t
      · simp only [if_pos f2] at e2
        cases e2
      · simp only [if_neg f1] at e1
        simp only [if_neg f2] at e2
        rcases hcase _ _ hk1 with ⟨g1, -⟩ | g1
        · rcases hcase _ _ hk2 with ⟨g2, -⟩ | g2
          · exact r4 t1 k1 t2 k2 j c1 c2 hl1 g1 hl2 g2 e1 e2
          · exact absurd g2 f2
        · exact absurd g1 f1
  · rw [hcnt t' h]
    rfl
  · rcases hcase _ _ h with ⟨h1, -⟩ | ⟨h1, h2⟩
    · rw [hoO c k j h1]
      exact vk_mono hle (r7 c k j h1 hj)
    · subst h2
      exact (hnO c h1).2 j hj
  · rcases hcase _ _ h with ⟨h1, -⟩ | ⟨h1, h2⟩
    · rw [hoL t' k hl h1] at hx
      exact Nat.lt_of_lt_of_le (r8 t' k x hl h1 hx) (hle _)
    · subst h2
      rw [(hnL t' hl h1).2] at hx
      cases hx
  · have h1 : k < nCt (fN s.1) 4 := by
      rcases hcase _ _ h with ⟨h1, -⟩ | ⟨h1, -⟩
      · exact h1
      · exfalso
        have : nGp 4 = 105 := by decide
        omega
    rw [ho4 k i h1] at hl
    exact Nat.lt_of_lt_of_le (r9 k i l h1 hl) (hle _)
  · have hsm : nSm (fN s.1) g ≤ nSm (fN s'.1) (fun t' k => if nGp t' = t ∧ k = fN s.1 t then none else g t' k) := by
      unfold nSm
      refine map_sum_le fun t' _ => ?_
      rw [hct t']
      by_cases hg : nGp t' = t
      · rw [if_pos hg, List.range_succ, List.map_append, List.sum_append, hctG t' hg]
        refine Nat.le_trans (map_sum_le fun k hk => ?_) (Nat.le_add_right _ _)
        show _ ≤ nGl (if nGp t' = t ∧ k = fN s.1 t then none else g t' k)
        rw [if_neg (by rintro ⟨-, z⟩; rw [List.mem_range] at hk; omega)]
        exact Nat.le_refl _
      · rw [if_neg hg]
        refine map_sum_le fun k hk => ?_
        show _ ≤ nGl (if nGp t' = t ∧ k = fN s.1 t then none else g t' k)
        rw [if_neg (fun z => hg z.1)]
        exact Nat.le_refl _
    unfold nCost at r10 ⊢
    rw [hT, hw]
    simp only [nPn] at r10 ⊢
    omega
end NMADE
