/-! ===== the parts of an object that is made ===== -/
def nNew : List (Nat × mC × Nat) → mS → mS
  | [], σ => σ
  | (t, c, n) :: l, σ => mNew t c n (nNew l σ)
section NNEW
variable {σ : mS}
theorem nNew_cnt {t : Nat} : ∀ {l : List (Nat × mC × Nat)}, (l.map (·.1)).Nodup → (nNew l σ).2.1 t = σ.2.1 t + if t ∈ l.map (·.1) then 1 else 0 := by
  intro l
  induction l with
  | nil => intro _; rfl
  | cons a l ih =>
    obtain ⟨t1, c, n⟩ := a
    intro hd
    rw [List.map_cons, List.nodup_cons] at hd
    have ih := ih hd.2
    show va_up (nNew l σ).2.1 t1 ((nNew l σ).2.1 t1 + 1) t = _
    by_cases e : t = t1
    · subst e
      rw [va_up_self, ih, if_neg hd.1, if_pos (by simp)]
    · rw [va_up_ne _ _ e, ih]
      simp only [List.map_cons, List.mem_cons]
      by_cases h : t ∈ l.map (·.1)
      · rw [if_pos h, if_pos (Or.inr h)]
      · rw [if_neg h, if_neg (by rintro (z | z); exact e z; exact h z)]
theorem nNew_ne {t k : Nat} (ht : t < 128) : ∀ {l : List (Nat × mC × Nat)}, (l.map (·.1)).Nodup → (∀ t1 ∈ l.map (·.1), t1 < 128 ∧ ¬ (t = t1 ∧ k = σ.2.1 t1)) → (nNew l σ).1 (mAd t k) = σ.1 (mAd t k) := by
  intro l
  induction l with
  | nil => intro _ _; rfl
  | cons a l ih =>
    obtain ⟨t1, c, n⟩ := a
    intro hd h
    rw [List.map_cons, List.nodup_cons] at hd
    show va_up (nNew l σ).1 (mAd t1 ((nNew l σ).2.1 t1)) (some c) (mAd t k) = _
    rw [nNew_cnt hd.2, if_neg hd.1, Nat.add_zero]
    have h1 := h t1 (by simp)
    rw [va_up_ne _ _ (mAd_ne ht h1.1 h1.2)]
    exact ih hd.2 fun t2 h2 => h t2 (by rw [List.map_cons]; exact List.mem_cons_of_mem _ h2)
theorem nNew_at {t n : Nat} {c : mC} (ht : t < 128) : ∀ {l : List (Nat × mC × Nat)}, (l.map (·.1)).Nodup → (∀ t1 ∈ l.map (·.1), t1 < 128) → (t, c, n) ∈ l → (nNew l σ).1 (mAd t (σ.2.1 t)) = some c := by
  intro l
  induction l with
  | nil => intro _ _ h; cases h
  | cons a l ih =>
    obtain ⟨t1, c1, n1⟩ := a
    intro hd hb h
    rw [List.map_cons, List.nodup_cons] at hd
    show va_up (nNew l σ).1 (mAd t1 ((nNew l σ).2.1 t1)) (some c1) (mAd t (σ.2.1 t)) = _
    rw [nNew_cnt hd.2, if_neg hd.1, Nat.add_zero]
    rcases List.mem_cons.mp h with e | h
    · cases e
      exact va_up_self _ _ _
    · have hm : t ∈ l.map (·.1) := List.mem_map.mpr ⟨_, h, rfl⟩
      rw [va_up_ne _ _ (mAd_ne ht (hb t1 (by simp)) fun z => hd.1 (z.1 ▸ hm))]
      exact ih hd.2 (fun t2 h2 => hb t2 (by rw [List.map_cons]; exact List.mem_cons_of_mem _ h2)) h
theorem nNew_c1 : ∀ {l : List (Nat × mC × Nat)}, (nNew l σ).2.2.1 = σ.2.2.1 + l.length := by
  intro l
  induction l with
  | nil => rfl
  | cons a l ih =>
    show (nNew l σ).2.2.1 + 1 = _
    rw [ih, List.length_cons, Nat.add_assoc]
theorem nNew_c2 : ∀ {l : List (Nat × mC × Nat)}, (nNew l σ).2.2.2 = σ.2.2.2 + (l.map (·.2.2)).sum := by
  intro l
  induction l with
  | nil => rfl
  | cons a l ih =>
    show (nNew l σ).2.2.2 + a.2.2 = _
    rw [ih, List.map_cons, List.sum_cons]
    omega
end NNEW
/-- the same off the new object -/
def nOff (t k : Nat) (a b : nC) : Prop :=
  (∀ t' k', ¬ (nGp t' = t ∧ k' = k) → (∀ j, fI a t' k' j = fI b t' k' j) ∧ (∀ j, fX a t' k' j = fX b t' k' j) ∧ (∀ j, fP a t' k' j = fP b t' k' j) ∧ fL a t' k' = fL b t' k') ∧ ∀ k', ¬ (t = 26 ∧ k' = k) → fQ a k' = fQ b k'
section NOFF
variable {t k : Nat} {a b : nC}
theorem nOff.rf : nOff t k a a := ⟨fun _ _ _ => ⟨fun _ => rfl, fun _ => rfl, fun _ => rfl, rfl⟩, fun _ _ => rfl⟩
theorem nOff.uI {t1 j : Nat} {x : Int32} (h : nOff t k a b) (ht : nGp t1 = t) : nOff t k (uI t1 k j x a) b :=
  ⟨fun t' k' hn => ⟨fun j' => (up3_ne (fun z => hn ⟨by rw [z.1]; exact ht, z.2.1⟩)).trans ((h.1 t' k' hn).1 j'), (h.1 t' k' hn).2⟩, h.2⟩
theorem nOff.uX {t1 j : Nat} {x : Nat} (h : nOff t k a b) (ht : nGp t1 = t) : nOff t k (uX t1 k j x a) b :=
  ⟨fun t' k' hn => ⟨(h.1 t' k' hn).1, fun j' => (up3_ne (fun z => hn ⟨by rw [z.1]; exact ht, z.2.1⟩)).trans ((h.1 t' k' hn).2.1 j'), (h.1 t' k' hn).2.2⟩, h.2⟩
theorem nOff.uP {t1 j : Nat} {x : Option Nat} (h : nOff t k a b) (ht : nGp t1 = t) : nOff t k (uP t1 k j x a) b :=
  ⟨fun t' k' hn => ⟨(h.1 t' k' hn).1, (h.1 t' k' hn).2.1, fun j' => (up3_ne (fun z => hn ⟨by rw [z.1]; exact ht, z.2.1⟩)).trans ((h.1 t' k' hn).2.2.1 j'), (h.1 t' k' hn).2.2.2⟩, h.2⟩
theorem nOff.uW {t1 : Nat} {f : Nat → Int32} (h : nOff t k a b) (ht : nGp t1 = t) : nOff t k (uW t1 k f a) b :=
  ⟨fun t' k' hn => ⟨fun j' => by
    show up2 a.1 t1 k f t' k' j' = _
    unfold up2
    rw [if_neg (fun z => hn ⟨by rw [z.1]; exact ht, z.2⟩)]
    exact (h.1 t' k' hn).1 j', (h.1 t' k' hn).2⟩, h.2⟩
theorem nOff.uL {t1 : Nat} {x : List Nat} (h : nOff t k a b) (ht : nGp t1 = t) : nOff t k (uL t1 k x a) b :=
  ⟨fun t' k' hn => ⟨(h.1 t' k' hn).1, (h.1 t' k' hn).2.1, (h.1 t' k' hn).2.2.1, by
    show up2 (fL a) t1 k x t' k' = _
    unfold up2
    rw [if_neg (fun z => hn ⟨by rw [z.1]; exact ht, z.2⟩)]
    exact (h.1 t' k' hn).2.2.2⟩, h.2⟩
theorem nOff.uQ {x : Option (Nat × Nat)} (h : nOff t k a b) (ht : t = 26) : nOff t k (uQ k x a) b :=
  ⟨h.1, fun k' hn => by
    show up1 (fQ a) k x k' = _
    unfold up1
    rw [if_neg (fun z => hn ⟨ht, z⟩)]
    exact h.2 k' hn⟩
theorem nOff.uN {x : Nat} (h : nOff t k a b) : nOff t k (uN t x a) b := h
end NOFF
section NCT
variable {s s' : nS} {σ : mS} {g : Nat → Nat → Option (Nat × Nat)}
theorem nTab17 : ∀ c < 13, (nKd c 4).1 = 6 → c = 9 := by decide +kernel
theorem nRel.ctor {t w : Nat} {X : mC} {l : List (Nat × mC × Nat)} (r : nRel (some t) s σ g) (ho : nOff t (fN s.1 t) s'.1 s.1) (h2 : s'.2 = s.2) (hN : fN s'.1 = up1 (fN s.1) t (fN s.1 t + 1))
    (hd : (l.map (·.1)).Nodup) (hm : ∀ t', nGp t' = t → t' = t ∨ t' ∈ l.map (·.1)) (hm2 : ∀ t1 ∈ l.map (·.1), nGp t1 = t ∧ t1 ≠ t)
    (hO : ∀ c, nGp (nTg c) = t → ((nTg c = t ∧ X = .inl (c, nFs c (fN s.1 t) s')) ∨ ∃ n, (nTg c, .inl (c, nFs c (fN s.1 t) s'), n) ∈ l) ∧ ∀ j, j < nFl c → vk (fN s'.1) none (nGet c j (fN s.1 t) s'))
    (hA : ∀ t', nAt t' ≠ 9 → nGp t' = t → ∃ n, (t', .inr (nRw s' t' (fN s.1 t)), n) ∈ l)
    (hL : ∀ t', nLt t' ≠ 0 → nGp t' = t → (∃ n, (t', .inl (0, [.int 0, .ref mEMP, .int 0]), n) ∈ l) ∧ fL s'.1 t' (fN s.1 t) = [])
    (hw1 : l.length + 1 ≤ w) (hw2 : (l.map (·.2.2)).sum + 20 ≤ 20 * w) (hw : nA (fN s'.1) = nA (fN s.1) + w) :
    nRel none s' (mPut (mAd t (fN s.1 t)) X (nNew l σ)) (fun t' k => if nGp t' = t ∧ k = fN s.1 t then none else g t' k) := by
  obtain ⟨hgt, c0, hc0, -⟩ := r.2.2.2.2.2.1 t rfl
  have ht : t < 96 := Nat.lt_of_not_le fun z => by have := nGp_hi z; have := nTg_100 (c := c0); omega
  have hctG : ∀ t', nGp t' = t → nCt (fN s.1) t' = fN s.1 t := fun t' h => by
    unfold nCt
    rw [h, show Nat.ble 100 t = false from (by cases hb : Nat.ble 100 t with | false => rfl | true => have := Nat.le_of_ble_eq_true hb; omega)]
    rfl
  have hg96 : ∀ t', nGp t' = t → t' < 96 := fun t' h => nGp_lt (by omega)
  have hσ : ∀ t', nGp t' = t → t' ≠ t → σ.2.1 t' = fN s.1 t := fun t' h1 h2 => by
    rw [r.2.2.2.2.1 t' (hg96 t' h1), hctG t' h1, if_neg (fun z => h2 (Option.some.inj z).symm)]
    rfl
  have hσt : σ.2.1 t = fN s.1 t + 1 := by
    rw [r.2.2.2.2.1 t ht, hctG t hgt, if_pos rfl]
  have hb : ∀ t1 ∈ l.map (·.1), t1 < 128 := fun t1 h => by have := hg96 t1 (hm2 t1 h).1; omega
  have hat : ∀ t' c n, (t', c, n) ∈ l → (mPut (mAd t (fN s.1 t)) X (nNew l σ)).1 (mAd t' (fN s.1 t)) = some c := fun t' c n h => by
    have h1 := hm2 t' (List.mem_map.mpr ⟨_, h, rfl⟩)
    have h3 := hg96 t' h1.1
    rw [mPut_ne (mAd_ne (by omega) (by omega) fun z => h1.2 z.1)]
    have := nNew_at (σ := σ) (by omega) hd hb h
    rw [hσ t' h1.1 h1.2] at this
    exact this
  have h21 : s'.2.1 = s.2.1 := by rw [h2]
  refine nRel.made r hN (by rw [h2]) (fun c k j hk => ?_) (fun t' k h9 hk => ?_) (fun t' k h9 hk => ?_) (fun k i hk => ?_) (fun c hc => ⟨?_, (hO c hc).2⟩) (fun t' h9 h => ?_) (fun t' h9 h => ?_) (fun t' k h97 h1 h3 => ?_) ?_ (fun t' h => ?_) ?_ ?_ hw
  · have hn : ¬ (nGp (nTg c) = t ∧ k = fN s.1 t) := fun z => by rw [hctG _ z.1] at hk; omega
    obtain ⟨q1, q2, q3, q4⟩ := ho.1 _ _ hn
    unfold nGet
    split
    · rw [q1]
    · rw [q1]
    · rw [h21]
    · rfl
    · rfl
    · rw [q2]
    · rw [q3]
    · rename_i h6
      rw [ho.2 k]
      rintro ⟨z1, z2⟩
      have hc13 := (nTg_lt hk).2
      by_cases hj : j < 128
      · have := nTab7 c hc13 j hj (by rw [h6])
        rw [this.1] at hn
        exact hn ⟨by rw [z1]; rfl, z2⟩
      · rw [nKd_big (by omega)] at h6
        cases h6
    · rfl
  · have hn : ¬ (nGp t' = t ∧ k = fN s.1 t) := fun z => by rw [hctG _ z.1] at hk; omega
    obtain ⟨q1, q2, q3, q4⟩ := ho.1 _ _ hn
    refine nRw_of h9 (fun _ => funext q1) (fun _ => by rw [h21]) (fun _ => by rw [h2]) (funext (ho.1 4 k fun z => ?_).2.2.1)
    rw [show nGp 4 = 105 by decide] at z
    omega
  · have hn : ¬ (nGp t' = t ∧ k = fN s.1 t) := fun z => by rw [hctG _ z.1] at hk; omega
    exact (ho.1 _ _ hn).2.2.2
  · refine (ho.1 4 k fun z => ?_).2.2.1 i
    rw [show nGp 4 = 105 by decide] at z
    omega
  · rcases (hO c hc).1 with ⟨e1, e2⟩ | ⟨n, h⟩
    · rw [e1, e2]
      exact mPut_at
    · exact hat _ _ _ h
  · obtain ⟨n, h⟩ := hA t' h9 h
    exact hat _ _ _ h
  · obtain ⟨⟨n, h⟩, h3⟩ := hL t' h9 h
    exact ⟨hat _ _ _ h, h3⟩
  · have hoff : nGp t' = t → ¬ k = fN s.1 t := fun z1 z2 => by
      have h4 := h1 (hg96 t' z1)
      rw [hctG t' z1] at h4
      omega
    rw [mPut_ne (mAd_ne (by omega) (by omega) (by rintro ⟨z1, z2⟩; exact hoff (by rw [z1]; exact hgt) z2))]
    refine nNew_ne (by omega) hd fun t1 h4 => ⟨hb t1 h4, ?_⟩
    rintro ⟨z1, z2⟩
    have h5 := hm2 t1 h4
    rw [hσ t1 h5.1 h5.2] at z2
    exact hoff (by rw [z1]; exact h5.1) z2
  · show (nNew l σ).2.1 96 = _
    rw [nNew_cnt hd, if_neg (fun z => by have := hg96 96 (hm2 96 z).1; omega)]
    rfl
  · show (nNew l σ).2.1 t' = _
    rw [nNew_cnt hd, hN, nCt_up (by omega)]
    by_cases hg : nGp t' = t
    · rw [if_pos hg]
      rcases hm t' hg with e | h4
      · subst e
        rw [hσt, if_neg (fun z => (hm2 _ z).2 rfl)]
      · rw [hσ t' hg (hm2 t' h4).2, if_pos h4]
    · rw [if_neg hg, r.2.2.2.2.1 t' h, if_neg (fun z => hg (by rw [← Option.some.inj z]; exact hgt)), if_neg (fun z => hg (hm2 _ z).1)]
      rfl
  · show (nNew l σ).2.2.1 + 1 ≤ _
    rw [nNew_c1]
    omega
  · show (nNew l σ).2.2.2 + 20 ≤ _
    rw [nNew_c2]
    omega
end NCT
