/-! ===== a step of the second machine is a step of the first ===== -/
def mRch (xs : Nat → Int32) (nx y : Nat) (a b : Nat × mLs × List Value × mS) : Prop := ∀ n r, mX mF mHs mFk xs nx n y b.1 b.2.1 b.2.2.1 b.2.2.2 = some r → ∃ m, mX mF mHs mFk xs nx m y a.1 a.2.1 a.2.2.1 a.2.2.2 = some r
theorem mRch.one {xs : Nat → Int32} {nx y pc pc' : Nat} {e : mE} {L L' : mLs} {S S' : List Value} {σ σ' : mS} (hF : mF y pc = some e) (h : mStep mFk xs nx e pc L S σ = some (.inl (pc', L', S', σ'))) : mRch xs nx y (pc, L, S, σ) (pc', L', S', σ') := by
  intro n r hr
  refine ⟨n + 1, ?_⟩
  unfold mX
  simp only [hF, h]
  exact hr
/-- what is being made -/
def pdS (S : List nV) : Option Nat := match S with
  | [] => none
  | .inr (.inr (.inr (.inr t))) :: _ => some t
  | .inl _ :: S => pdS S
  | .inr (.inl _) :: S => pdS S
  | .inr (.inr (.inl _)) :: S => pdS S
  | .inr (.inr (.inr (.inl _))) :: S => pdS S
def wl (N : Nat → Nat) (L : nLs) : mLs := L.map fun o => o.map (vw N)
def nCf (p : Option Nat) (s : nS) (σ : mS) (g : Nat → Nat → Option (Nat × Nat)) (L : nLs) (S : List nV) : Prop :=
  nRel p s σ g ∧ (∀ v, some v ∈ L → vk (fN s.1) none v) ∧ (∀ v ∈ S, vk (fN s.1) p v) ∧ p = pdS S
def nLe (s s' : nS) : Prop := ∀ t, nCt (fN s.1) t ≤ nCt (fN s'.1) t
theorem nLe.rf {s : nS} : nLe s s := fun _ => Nat.le_refl _
theorem nLe.tr {s s1 s2 : nS} (h : nLe s s1) (k : nLe s1 s2) : nLe s s2 := fun t => Nat.le_trans (h t) (k t)
theorem nLe.of {s s' : nS} (h : fN s'.1 = fN s.1) : nLe s s' := fun t => by rw [h]; exact Nat.le_refl _
theorem vk_up {N : Nat → Nat} {p : Option Nat} {v : nV} (h : vk N none v) : vk N p v := by
  rcases v with x | x | ⟨t, o⟩ | o | t
  · trivial
  · trivial
  · exact h
  · exact h
  · cases h
theorem vk_mono {N N' : Nat → Nat} {p : Option Nat} {v : nV} (hN : ∀ t, nCt N t ≤ nCt N' t) (h : vk N p v) : vk N' p v := by
  rcases v with x | x | ⟨t, o⟩ | o | t
  · trivial
  · trivial
  · intro k e
    rcases h k e with ⟨a, b⟩ | b
    · exact Or.inl ⟨Nat.lt_of_lt_of_le a (hN t), b⟩
    · exact Or.inr b
  · intro t k e
    obtain ⟨a, b⟩ := h t k e
    exact ⟨Nat.lt_of_lt_of_le a (hN t), b⟩
  · exact h
theorem pdS_cons {N : Nat → Nat} {v : nV} {S : List nV} (h : vk N none v) : pdS (v :: S) = pdS S := by
  rcases v with x | x | ⟨t, o⟩ | o | t
  · rfl
  · rfl
  · rfl
  · rfl
  · cases h
theorem vw_N {N N' : Nat → Nat} {v : nV} (h : vk N none v) : vw N' v = vw N v := by
  rcases v with x | x | ⟨t, _ | k⟩ | o | t
  · rfl
  · rfl
  · rfl
  · rfl
  · rcases o with _ | ⟨a, b⟩ <;> rfl
  · cases h
theorem wl_at {N : Nat → Nat} {L : nLs} {k : Nat} {v : nV} (h : L[k]? = some (some v)) : (wl N L)[k]? = some (some (vw N v)) := by
  unfold wl
  rw [List.getElem?_map, h]
  rfl
theorem wl_set {N : Nat → Nat} {L : nLs} {k : Nat} {v : nV} : (wl N L).set k (some (vw N v)) = wl N (L.set k (some v)) := by
  unfold wl
  rw [List.map_set]
  rfl
theorem wl_len {N : Nat → Nat} {L : nLs} : (wl N L).length = L.length := by
  unfold wl
  rw [List.length_map]
theorem vk_set {N : Nat → Nat} {L : nLs} {k : Nat} {v : nV} (h : ∀ w, some w ∈ L → vk N none w) (hv : vk N none v) : ∀ w, some w ∈ L.set k (some v) → vk N none w := by
  intro w hw
  rcases List.mem_or_eq_of_mem_set hw with h1 | h1
  · exact h w h1
  · cases h1; exact hv
theorem nTg_127 {c : Nat} : nTg c ≠ 127 := by
  by_cases h : c < 13
  · revert h; revert c; decide +kernel
  · rw [nTg_hi (by omega)]; decide
theorem nCk_ofInt (i : Int) : nCk i = Int32.ofInt i := by
  cases i with
  | ofNat n => exact (Int32.ofInt_eq_ofNat).symm
  | negSucc n =>
    show -(Int32.ofNat (n + 1)) = Int32.ofInt (Int.negSucc n)
    rw [Int.negSucc_eq, Int32.ofInt_neg]
    congr 1
set_option maxRecDepth 100000 in
set_option maxHeartbeats 4000000 in
theorem nKd_big {c j : Nat} (h : 128 ≤ j) : nKd c j = (9, 0) := by
  have h1 : ∀ k, k ≤ 128 → ¬ j < k := fun k hk => by omega
  have h2 : ∀ k, k < 128 → ¬ j = k := fun k hk => by omega
  unfold nKd
  simp (disch := decide) only [nKd_1, nKd_2, nKd_3, nKd_4, nKd_5, nKd_6, nKd_7, nKd_8, nKd_9, nKd_10, nKd_11, nKd_12, cond_ite, blt_iff, beq_iff, h1, h2, if_false]
  repeat' split
  all_goals rfl
theorem nTab6 : ∀ c < 13, ∀ j < 128, (nKd c j).1 = 7 → c = 12 := by decide +kernel
theorem nTab7 : ∀ c < 13, ∀ j < 128, (nKd c j).1 = 6 → c = 9 ∧ j = 4 := by decide +kernel
theorem nKd_hi : ∀ c < 13, ∀ j < 128, (nKd c j).1 < 10 := by decide +kernel
section NST
variable {p : Option Nat} {s : nS} {σ : mS} {g : Nat → Nat → Option (Nat × Nat)}
theorem up3_self {α : Type} (f : Nat → Nat → Nat → α) (t k j : Nat) (x : α) : up3 f t k j x t k j = x := by simp [up3]
theorem up3_ne {α : Type} {f : Nat → Nat → Nat → α} {t k j t' k' j' : Nat} {x : α} (h : ¬ (t' = t ∧ k' = k ∧ j' = j)) : up3 f t k j x t' k' j' = f t' k' j' := by
  unfold up3
  rw [if_neg h]
theorem nRw_of {s' : nS} {t k : Nat} (h9 : nAt t ≠ 9) (h0 : nAt t = 0 → fI s'.1 t k = fI s.1 t k) (h1 : (nAt t = 1 ∨ nAt t = 6) → s'.2.1 t = s.2.1 t) (h2 : nAt t = 2 → s'.2.2.2 = s.2.2.2) (h5 : fP s'.1 4 k = fP s.1 4 k) : nRw s' t k = nRw s t k := by
  unfold nRw
  split
  · rename_i h; rw [h0 h]
  · rename_i h; rw [h1 (Or.inl h)]
  · rename_i h; rw [h1 (Or.inr h)]
  · rename_i h; rw [h2 h]
  · rfl
  · rw [h5]
theorem nPut_ok {c j k q : Nat} {v : nV} {L : nLs} {S : List nV} {a : nAct} (h : nPut c j k v s (fun s => some (.inl (q, L, S, s))) = some a) (hk : k < nCt (fN s.1) (nTg c)) (hj128 : j < 128) :
    ∃ s', a = .inl (q, L, S, s') ∧ fN s'.1 = fN s.1 ∧ j < nFl c ∧ mFit (nFk c j) (vw (fN s.1) v) = true ∧ (vk (fN s.1) none v → nRel p s σ g → nRel p s' (mPut (mAd (nTg c) k) (.inl (c, (nFs c k s).set j (vw (fN s.1) v))) σ) g) := by
  obtain ⟨c1, c13⟩ := nTg_lt hk
  obtain ⟨t1, t2, t3, t4, -, -⟩ := nTab1 c c13 c1
  have hkd : (nKd c j).1 ≠ 9 → j < nFl c := fun h9 => (nTab4 c c13 j hj128 h9).1
  have hob : ∀ c' k' j', k' < nCt (fN s.1) (nTg c') → ¬ (c' = c ∧ k' = k ∧ j' = j) → ¬ (nTg c' = nTg c ∧ k' = k ∧ j' = j) := fun c' k' j' h n z => n ⟨nTab2 c' (nTg_lt h).2 c c13 (nTg_lt h).1 z.1, z.2⟩
  have hta : ∀ t, nAt t ≠ 9 → t ≠ nTg c := fun t h9 e => h9 (by rw [e]; exact t1)
  unfold nPut at h
  split at h
  · rename_i t x hq
    cases h
    have hjn := hkd (by rw [hq]; exact fun z => by cases z)
    refine ⟨_, rfl, rfl, hjn, by unfold nFk; rw [hq]; rfl, fun hv r => ?_⟩
    refine r.put hk hjn rfl rfl rfl ?_ hv ?_ ?_ (fun _ _ _ => rfl)
    · unfold nGet; rw [hq]; exact congrArg vI (up3_self _ _ _ _ _)
    · intro c' k' j' h n
      have n2 := hob c' k' j' h n
      unfold nGet
      split <;> first | rfl | exact congrArg vI (up3_ne n2)
    · intro t k' h9 h
      exact nRw_of h9 (fun _ => funext fun i => up3_ne fun z => hta t h9 z.1) (fun _ => rfl) (fun _ => rfl) rfl
  · rename_i t x hq
    cases h
    have hjn := hkd (by rw [hq]; exact fun z => by cases z)
    have hc12 : c = 12 := nTab6 c c13 j hj128 (by rw [hq])
    refine ⟨_, rfl, rfl, hjn, by unfold nFk; rw [hq]; rfl, fun hv r => ?_⟩
    refine r.put hk hjn rfl rfl rfl ?_ hv ?_ ?_ (fun _ _ _ => rfl)
    · unfold nGet; rw [hq]; show vI (uM 1 j x s.2.1 1 j) = vI x; simp [uM, up2]
    · intro c' k' j' h n
      unfold nGet
      split <;> try rfl
      rename_i t' hq'
      show vI (uM 1 j x s.2.1 1 j') = vI (s.2.1 1 j')
      by_cases e : j' = j
      · exfalso
        subst e
        have hc' : c' = 12 := nTab6 c' (nTg_lt h).2 j' hj128 (by rw [hq'])
        subst hc' hc12
        exact absurd (show k' < 0 from h) (Nat.not_lt_zero _)
      · simp [uM, up2, e]
    · intro t k' h9 h
      refine nRw_of h9 (fun _ => rfl) (fun _ => funext fun i => ?_) (fun _ => rfl) rfl
      have : t ≠ 1 := fun e => h9 (by rw [e]; decide)
      show uM 1 j x s.2.1 t i = s.2.1 t i
      simp [uM, up2, this]
  · rename_i t x hq
    split at h
    · rename_i h01
      cases h
      have hjn := hkd (by rw [hq]; exact fun z => by cases z)
      refine ⟨_, rfl, rfl, hjn, by rcases h01 with rfl | rfl <;> (unfold nFk; rw [hq]; rfl), fun hv r => ?_⟩
      refine r.put hk hjn rfl rfl rfl ?_ hv ?_ ?_ (fun _ _ _ => rfl)
      · unfold nGet; rw [hq]; exact congrArg vI (up3_self _ _ _ _ _)
      · intro c' k' j' h n
        have n2 := hob c' k' j' h n
        unfold nGet
        split <;> first | rfl | exact congrArg vI (up3_ne n2)
      · intro t k' h9 h
        exact nRw_of h9 (fun _ => funext fun i => up3_ne fun z => hta t h9 z.1) (fun _ => rfl) (fun _ => rfl) rfl
    · cases h
  · rename_i t t' o hq
    unfold ntg at h
    cases hb : Nat.beq t' t with
    | false => rw [hb] at h; cases h
    | true =>
      rw [hb] at h
      have := Nat.eq_of_beq_eq_true hb
      subst this
      cases o with
      | none => cases h
      | some i =>
        cases h
        have hjn := hkd (by rw [hq]; exact fun z => by cases z)
        refine ⟨_, rfl, rfl, hjn, by unfold nFk; rw [hq]; rfl, fun hv r => ?_⟩
        refine r.put hk hjn rfl rfl rfl ?_ hv ?_ ?_ (fun _ _ _ => rfl)
        · unfold nGet; rw [hq]; show vR t' (some (up3 (fX s.1) (nTg c) k j i (nTg c) k j)) = _; rw [up3_self]
        · intro c' k' j' h n
          have n2 := hob c' k' j' h n
          unfold nGet
          split <;> first | rfl | skip
          rename_i t9 hq9
          show vR t9 (some (up3 (fX s.1) (nTg c) k j i (nTg c') k' j')) = vR t9 (some (fX s.1 (nTg c') k' j'))
          rw [up3_ne n2]
        · intro t k' h9 h
          exact nRw_of h9 (fun _ => rfl) (fun _ => rfl) (fun _ => rfl) rfl
  · rename_i t t' o hq
    unfold ntg at h
    cases hb : Nat.beq t' t with
    | false => rw [hb] at h; cases h
    | true =>
      rw [hb] at h
      have := Nat.eq_of_beq_eq_true hb
      subst this
      cases h
      have hjn := hkd (by rw [hq]; exact fun z => by cases z)
      refine ⟨_, rfl, rfl, hjn, by cases o <;> (unfold nFk; rw [hq]; rfl), fun hv r => ?_⟩
      refine r.put hk hjn rfl rfl rfl ?_ hv ?_ ?_ ?_
      · unfold nGet; rw [hq]; show vR t' (up3 (fP s.1) (nTg c) k j o (nTg c) k j) = _; rw [up3_self]
      · intro c' k' j' h n
        have n2 := hob c' k' j' h n
        unfold nGet
        split <;> first | rfl | skip
        rename_i t9 hq9
        show vR t9 (up3 (fP s.1) (nTg c) k j o (nTg c') k' j') = vR t9 (fP s.1 (nTg c') k' j')
        rw [up3_ne n2]
      · intro t k' h9 h
        refine nRw_of h9 (fun _ => rfl) (fun _ => rfl) (fun _ => rfl) (funext fun i => ?_)
        exact up3_ne fun z => t4 z.1.symm
      · intro k' i h
        exact up3_ne fun z => t4 z.1.symm
  · rename_i t o hq
    cases h
    have hjn := hkd (by rw [hq]; exact fun z => by cases z)
    obtain ⟨h9c, h9j⟩ := nTab7 c c13 j hj128 (by rw [hq])
    refine ⟨_, rfl, rfl, hjn, by rcases o with _ | ⟨a, b⟩ <;> (unfold nFk; rw [hq]; rfl), fun hv r => ?_⟩
    refine r.put hk hjn rfl rfl rfl ?_ hv ?_ ?_ (fun _ _ _ => rfl)
    · unfold nGet; rw [hq]; show vL (up1 (fQ s.1) k o k) = _; simp [up1]
    · intro c' k' j' h n
      unfold nGet
      split <;> first | rfl | skip
      rename_i t9 hq9
      show vL (up1 (fQ s.1) k o k') = vL (fQ s.1 k')
      have e : k' ≠ k := by
        intro e
        by_cases hj' : j' < 128
        · obtain ⟨a, b⟩ := nTab7 c' (nTg_lt h).2 j' hj' (by rw [hq9])
          exact n ⟨a.trans h9c.symm, e, b.trans h9j.symm⟩
        · have hb := nKd_big (c := c') (j := j') (by omega)
          rw [hq9] at hb
          cases hb
      simp [up1, e]
    · intro t k' h9 h
      exact nRw_of h9 (fun _ => rfl) (fun _ => rfl) (fun _ => rfl) rfl
  · cases h
end NST
