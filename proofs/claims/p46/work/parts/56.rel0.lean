/-! ===== at the start the memories are related: made by wip/p46/gen2/mk56.py ===== -/
def nI7 : mS := mNew 2 (.inr (0, 64, .inl fun _ => 0)) 64 (mNew 80 (.inr (0, 6, .inl fun _ => 0)) 6 (mNew 29 (.inr (0, 5, .inl fun _ => 0)) 5 (mNew 79 (.inr (0, 6, .inl fun _ => 0)) 6 (mNew 45 (.inr (0, 20, .inl fun _ => 0)) 20 (mNew 35 (.inr (0, 12, .inl fun _ => 0)) 12 (nI3 4))))))
def nS0 : nS := ((fun t _ j => if t = 21 ∧ j = 3 then 10 else 0, fun _ _ _ => 0, fun _ _ _ => none, fun _ => none, fun _ _ => [], fun _ => 0), fun _ _ => 0, 0, fun _ => 0)
section REL0
variable {xs : Nat → Int32} {nx : Nat}
theorem nCt0 {t : Nat} : nCt (fN nS0.1) t = nGp t - 100 := by
  unfold nCt
  cases h : Nat.ble 100 (nGp t) with
  | true => rfl
  | false =>
    show 0 = _
    have : ¬ 100 ≤ nGp t := fun z => by rw [Nat.ble_eq.mpr z] at h; cases h
    omega
theorem nTabC : ∀ c < 13, 1 ≤ c → nGp (nTg c) - 100 = 0 ∨ c = 2 ∨ c = 3 ∨ c = 11 := by decide +kernel
theorem nTabA : ∀ t < 96, nAt t ≠ 9 → t = 7 ∨ t = 4 ∨ t = 2 ∨ t = 12 ∨ t = 13 ∨ t = 29 ∨ t = 35 ∨ t = 45 ∨ t = 79 ∨ t = 80 ∨ nGp t - 100 = 0 := by decide +kernel
theorem nTabL : ∀ t < 96, nLt t ≠ 0 → nGp t - 100 = 0 ∨ t = 3 ∨ t = 14 ∨ t = 15 ∨ t = 16 ∨ t = 17 ∨ t = 18 ∨ t = 19 ∨ t = 20 := by decide +kernel
set_option maxRecDepth 100000 in
set_option maxHeartbeats 4000000 in
theorem nO_2_0 : nI7.1 (mAd 22 0) = some (.inl (2, nFs 2 0 nS0)) := rfl
set_option maxRecDepth 100000 in
set_option maxHeartbeats 4000000 in
theorem nO_2_1 : nI7.1 (mAd 22 1) = some (.inl (2, nFs 2 1 nS0)) := rfl
set_option maxRecDepth 100000 in
set_option maxHeartbeats 4000000 in
theorem nO_2_2 : nI7.1 (mAd 22 2) = some (.inl (2, nFs 2 2 nS0)) := rfl
set_option maxRecDepth 100000 in
set_option maxHeartbeats 4000000 in
theorem nO_2_3 : nI7.1 (mAd 22 3) = some (.inl (2, nFs 2 3 nS0)) := rfl
set_option maxRecDepth 100000 in
set_option maxHeartbeats 4000000 in
theorem nO_3_0 : nI7.1 (mAd 21 0) = some (.inl (3, nFs 3 0 nS0)) := rfl
set_option maxRecDepth 100000 in
set_option maxHeartbeats 4000000 in
theorem nO_3_1 : nI7.1 (mAd 21 1) = some (.inl (3, nFs 3 1 nS0)) := rfl
set_option maxRecDepth 100000 in
set_option maxHeartbeats 4000000 in
theorem nO_3_2 : nI7.1 (mAd 21 2) = some (.inl (3, nFs 3 2 nS0)) := rfl
set_option maxRecDepth 100000 in
set_option maxHeartbeats 4000000 in
theorem nO_3_3 : nI7.1 (mAd 21 3) = some (.inl (3, nFs 3 3 nS0)) := rfl
set_option maxRecDepth 100000 in
set_option maxHeartbeats 4000000 in
theorem nO_3_4 : nI7.1 (mAd 21 4) = some (.inl (3, nFs 3 4 nS0)) := rfl
set_option maxRecDepth 100000 in
set_option maxHeartbeats 4000000 in
theorem nO_11_0 : nI7.1 (mAd 0 0) = some (.inl (11, nFs 11 0 nS0)) := rfl
set_option maxRecDepth 100000 in
set_option maxHeartbeats 4000000 in
theorem nA_4_0 : nI7.1 (mAd 4 0) = some (.inr (nRw nS0 4 0)) := rfl
set_option maxRecDepth 100000 in
set_option maxHeartbeats 4000000 in
theorem nL_3_0 : nI7.1 (mAd 3 0) = some (.inl (0, [.int 0, .ref mEMP, .int 0])) := rfl
set_option maxRecDepth 100000 in
set_option maxHeartbeats 4000000 in
theorem nA_4_1 : nI7.1 (mAd 4 1) = some (.inr (nRw nS0 4 1)) := rfl
set_option maxRecDepth 100000 in
set_option maxHeartbeats 4000000 in
theorem nL_3_1 : nI7.1 (mAd 3 1) = some (.inl (0, [.int 0, .ref mEMP, .int 0])) := rfl
set_option maxRecDepth 100000 in
set_option maxHeartbeats 4000000 in
theorem nA_4_2 : nI7.1 (mAd 4 2) = some (.inr (nRw nS0 4 2)) := rfl
set_option maxRecDepth 100000 in
set_option maxHeartbeats 4000000 in
theorem nL_3_2 : nI7.1 (mAd 3 2) = some (.inl (0, [.int 0, .ref mEMP, .int 0])) := rfl
set_option maxRecDepth 100000 in
set_option maxHeartbeats 4000000 in
theorem nA_4_3 : nI7.1 (mAd 4 3) = some (.inr (nRw nS0 4 3)) := rfl
set_option maxRecDepth 100000 in
set_option maxHeartbeats 4000000 in
theorem nL_3_3 : nI7.1 (mAd 3 3) = some (.inl (0, [.int 0, .ref mEMP, .int 0])) := rfl
set_option maxRecDepth 100000 in
set_option maxHeartbeats 4000000 in
theorem nA_4_4 : nI7.1 (mAd 4 4) = some (.inr (nRw nS0 4 4)) := rfl
set_option maxRecDepth 100000 in
set_option maxHeartbeats 4000000 in
theorem nL_3_4 : nI7.1 (mAd 3 4) = some (.inl (0, [.int 0, .ref mEMP, .int 0])) := rfl
set_option maxRecDepth 100000 in
set_option maxHeartbeats 4000000 in
theorem nA_2_0 : nI7.1 (mAd 2 0) = some (.inr (nRw nS0 2 0)) := rfl
set_option maxRecDepth 100000 in
set_option maxHeartbeats 4000000 in
theorem nA_12_0 : nI7.1 (mAd 12 0) = some (.inr (nRw nS0 12 0)) := rfl
set_option maxRecDepth 100000 in
set_option maxHeartbeats 4000000 in
theorem nA_13_0 : nI7.1 (mAd 13 0) = some (.inr (nRw nS0 13 0)) := rfl
set_option maxRecDepth 100000 in
set_option maxHeartbeats 4000000 in
theorem nA_29_0 : nI7.1 (mAd 29 0) = some (.inr (nRw nS0 29 0)) := rfl
set_option maxRecDepth 100000 in
set_option maxHeartbeats 4000000 in
theorem nA_35_0 : nI7.1 (mAd 35 0) = some (.inr (nRw nS0 35 0)) := rfl
set_option maxRecDepth 100000 in
set_option maxHeartbeats 4000000 in
theorem nA_45_0 : nI7.1 (mAd 45 0) = some (.inr (nRw nS0 45 0)) := rfl
set_option maxRecDepth 100000 in
set_option maxHeartbeats 4000000 in
theorem nA_79_0 : nI7.1 (mAd 79 0) = some (.inr (nRw nS0 79 0)) := rfl
set_option maxRecDepth 100000 in
set_option maxHeartbeats 4000000 in
theorem nA_80_0 : nI7.1 (mAd 80 0) = some (.inr (nRw nS0 80 0)) := rfl
set_option maxRecDepth 100000 in
set_option maxHeartbeats 4000000 in
theorem nL_14_0 : nI7.1 (mAd 14 0) = some (.inl (0, [.int 0, .ref mEMP, .int 0])) := rfl
set_option maxRecDepth 100000 in
set_option maxHeartbeats 4000000 in
theorem nL_15_0 : nI7.1 (mAd 15 0) = some (.inl (0, [.int 0, .ref mEMP, .int 0])) := rfl
set_option maxRecDepth 100000 in
set_option maxHeartbeats 4000000 in
theorem nL_16_0 : nI7.1 (mAd 16 0) = some (.inl (0, [.int 0, .ref mEMP, .int 0])) := rfl
set_option maxRecDepth 100000 in
set_option maxHeartbeats 4000000 in
theorem nL_17_0 : nI7.1 (mAd 17 0) = some (.inl (0, [.int 0, .ref mEMP, .int 0])) := rfl
set_option maxRecDepth 100000 in
set_option maxHeartbeats 4000000 in
theorem nL_18_0 : nI7.1 (mAd 18 0) = some (.inl (0, [.int 0, .ref mEMP, .int 0])) := rfl
set_option maxRecDepth 100000 in
set_option maxHeartbeats 4000000 in
theorem nL_19_0 : nI7.1 (mAd 19 0) = some (.inl (0, [.int 0, .ref mEMP, .int 0])) := rfl
set_option maxRecDepth 100000 in
set_option maxHeartbeats 4000000 in
theorem nL_20_0 : nI7.1 (mAd 20 0) = some (.inl (0, [.int 0, .ref mEMP, .int 0])) := rfl
set_option maxRecDepth 100000 in
set_option maxHeartbeats 4000000 in
theorem nI7_c : ∀ t < 97, nI7.2.1 t = if t < 96 then nGp t - 100 else 0 := by
  decide +kernel
set_option maxRecDepth 100000 in
set_option maxHeartbeats 4000000 in
theorem nI7_1 : nI7.2.2.1 ≤ 1000 := by
  decide +kernel
set_option maxRecDepth 100000 in
set_option maxHeartbeats 4000000 in
theorem nI7_2 : nI7.2.2.2 ≤ 20000 := by
  decide +kernel
theorem nLo0 {σ : mS} {t k : Nat} (h : σ.1 (mAd t k) = some (.inl (0, [.int 0, .ref mEMP, .int 0]))) : nLo σ [] t k none := ⟨_, _, h, Nat.zero_le _, rfl, rfl⟩
theorem nTabS : ∀ c < 13, 1 ≤ c → ∀ j < 128, (nKd c j).1 = 3 → 0 < nGp (nTg c) - 100 → nGp (nKd c j).2 - 100 = nGp (nTg c) - 100 := by decide +kernel
theorem nTabX : ∀ c < 13, 1 ≤ c → ∀ j < 128, 0 < nGp (nTg c) - 100 → (nKd c j).1 ≠ 4 := by decide +kernel
theorem nTabN : ∀ c < 13, 1 ≤ c → ∀ j < 128, j < nFl c → (nKd c j).1 < 8 := by decide +kernel
theorem nRel0 : nRel none nS0 nI7 (fun _ _ => none) := by
  refine ⟨fun c k h => ?_, fun t k h9 h => ?_, fun t k hl h => ?_, (fun t k t' k' j c c' _ _ _ _ e => by cases e), fun t h => ?_, (fun t h => by cases h), fun c k j h hj => ?_, (fun t k x _ _ hx => by cases hx), (fun k i l _ hl => by cases hl), ?_⟩
  · obtain ⟨h1, h13⟩ := nTg_lt h
    rw [nCt0] at h
    rcases nTabC c h13 h1 with e | rfl | rfl | rfl
    · omega
    · have h : k < 4 := h
      match k, h with
      | 0, _ => exact nO_2_0
      | 1, _ => exact nO_2_1
      | 2, _ => exact nO_2_2
      | 3, _ => exact nO_2_3
      | k + 4, h => omega
    · have h : k < 5 := h
      match k, h with
      | 0, _ => exact nO_3_0
      | 1, _ => exact nO_3_1
      | 2, _ => exact nO_3_2
      | 3, _ => exact nO_3_3
      | 4, _ => exact nO_3_4
      | k + 5, h => omega
    · have h : k < 1 := h
      match k, h with
      | 0, _ => exact nO_11_0
      | k + 1, h => omega
  · have ht := nCt_lt h
    rw [nCt0] at h
    rcases nTabA t ht h9 with rfl | rfl | rfl | rfl | rfl | rfl | rfl | rfl | rfl | rfl | hg
    · exact absurd h (Nat.not_lt_zero k)
    · have h : k < 5 := h
      match k, h with
      | 0, _ => exact nA_4_0
      | 1, _ => exact nA_4_1
      | 2, _ => exact nA_4_2
      | 3, _ => exact nA_4_3
      | 4, _ => exact nA_4_4
      | k + 5, h => omega
    · have e : k = 0 := by have h : k < 1 := h; omega
      subst e
      exact nA_2_0
    · have e : k = 0 := by have h : k < 1 := h; omega
      subst e
      exact nA_12_0
    · have e : k = 0 := by have h : k < 1 := h; omega
      subst e
      exact nA_13_0
    · have e : k = 0 := by have h : k < 1 := h; omega
      subst e
      exact nA_29_0
    · have e : k = 0 := by have h : k < 1 := h; omega
      subst e
      exact nA_35_0
    · have e : k = 0 := by have h : k < 1 := h; omega
      subst e
      exact nA_45_0
    · have e : k = 0 := by have h : k < 1 := h; omega
      subst e
      exact nA_79_0
    · have e : k = 0 := by have h : k < 1 := h; omega
      subst e
      exact nA_80_0
    · omega
  · have ht := nCt_lt h
    rw [nCt0] at h
    refine nLo0 ?_
    rcases nTabL t ht hl with e | rfl | rfl | rfl | rfl | rfl | rfl | rfl | rfl
    · omega
    · have h : k < 5 := h
      match k, h with
      | 0, _ => exact nL_3_0
      | 1, _ => exact nL_3_1
      | 2, _ => exact nL_3_2
      | 3, _ => exact nL_3_3
      | 4, _ => exact nL_3_4
      | k + 5, h => omega
    · have e : k = 0 := by have h : k < 1 := h; omega
      subst e
      exact nL_14_0
    · have e : k = 0 := by have h : k < 1 := h; omega
      subst e
      exact nL_15_0
    · have e : k = 0 := by have h : k < 1 := h; omega
      subst e
      exact nL_16_0
    · have e : k = 0 := by have h : k < 1 := h; omega
      subst e
      exact nL_17_0
    · have e : k = 0 := by have h : k < 1 := h; omega
      subst e
      exact nL_18_0
    · have e : k = 0 := by have h : k < 1 := h; omega
      subst e
      exact nL_19_0
    · have e : k = 0 := by have h : k < 1 := h; omega
      subst e
      exact nL_20_0
  · rw [nI7_c t (by omega), if_pos h, nCt0, if_neg (by intro z; cases z), Nat.add_zero]
  · obtain ⟨h1, h13⟩ := nTg_lt h
    rw [nCt0] at h
    have hs : ∀ t, (nKd c j).1 = 3 → (nKd c j).2 = t → k < nCt (fN nS0.1) t := fun t e1 e2 => by
      rw [nCt0]
      have := nTabS c h13 h1 j (Nat.lt_of_lt_of_le hj (nTab1 c h13 h1).2.2.2.2.2) e1 (by omega)
      rw [← e2, this]
      exact h
    have hx : (nKd c j).1 ≠ 4 := nTabX c h13 h1 j (Nat.lt_of_lt_of_le hj (nTab1 c h13 h1).2.2.2.2.2) (by omega)
    have h9 := nTabN c h13 h1 j (Nat.lt_of_lt_of_le hj (nTab1 c h13 h1).2.2.2.2.2) hj
    unfold nGet
    split
    · trivial
    · trivial
    · trivial
    · trivial
    · rename_i t e
      have := hs t (by rw [e]) (by rw [e])
      cases hb : Nat.beq (nLt t) 0 with
      | true =>
        intro k' e'
        cases e'
        exact Or.inl ⟨this, Nat.eq_of_beq_eq_true hb⟩
      | false =>
        intro t' k' e'
        cases e'
        exact ⟨this, fun z => by rw [z] at hb; cases hb⟩
    · rename_i t e
      exact absurd (by rw [e]) hx
    · intro k' e'
      cases e'
    · intro t' k' e'
      cases e'
    · rename_i n0 n1 n2 n3 n4 n5 n6 n7
      exfalso
      generalize hq : nKd c j = q at *
      obtain ⟨a, b⟩ := q
      have h9 : a < 8 := h9
      match a, h9 with
      | 0, _ => exact n0 b rfl
      | 1, _ => exact n1 b rfl
      | 2, _ => exact n3 b rfl
      | 3, _ => exact n4 b rfl
      | 4, _ => exact n5 b rfl
      | 5, _ => exact n6 b rfl
      | 6, _ => exact n7 b rfl
      | 7, _ => exact n2 b rfl
      | a + 8, h => omega
  · unfold nCost
    refine ⟨Nat.le_trans nI7_1 ?_, Nat.le_trans nI7_2 ?_⟩ <;> omega
set_option maxRecDepth 100000 in
theorem nRuns (h : ∃ (n : Nat) (s1 : nS), nX xs nx n 0 41 [some (vR 127 (some 1)), some (vR 0 (some 0)), some (vR 35 (some 0)), some (vR 45 (some 0)), some (vR 79 (some 0)), some (vR 29 (some 0)), some (vR 80 (some 0)), some (vR 2 (some 0)), none, none, none, none, none, none, none, none] [] nS0 = some (.inl (some (vI 1)), s1) ∧ fN s1.1 23 ≤ 12 ∧ fN s1.1 24 ≤ 20 ∧ fN s1.1 25 ≤ 400 ∧ fN s1.1 26 ≤ 40 ∧ fN s1.1 27 ≤ 6 ∧ fN s1.1 28 ≤ 5 ∧ s1.2.2.1 ≤ 100000) :
    ∃ (n : Nat) (σ1 : mS), mX mF mHs mFk xs nx n 0 0 (mL0 [.ref mSCR] 16) [] (fun _ => none, fun _ => 0, 0, 0) = some (.inl (some (.int 1)), σ1) ∧ σ1.2.2.1 ≤ 200000 ∧ σ1.2.2.2 ≤ 2000000 := by
  obtain ⟨n, s1, hr, b1, b2, b3, b4, b5, b6, b7⟩ := h
  have hL0 : ∀ v, some v ∈ [some (vR 127 (some 1)), some (vR 0 (some 0)), some (vR 35 (some 0)), some (vR 45 (some 0)), some (vR 79 (some 0)), some (vR 29 (some 0)), some (vR 80 (some 0)), some (vR 2 (some 0)), none, none, none, none, none, none, none, none] → vk (fN nS0.1) none v := by
    intro v hv
    simp only [List.mem_cons, Option.some.injEq, List.not_mem_nil, or_false, reduceCtorEq] at hv
    rcases hv with e | e | e | e | e | e | e | e <;> subst e <;> intro k e' <;> cases e'
    · exact Or.inr ⟨rfl, rfl⟩
    all_goals exact Or.inl ⟨by rw [nCt0]; decide, by decide⟩
  obtain ⟨m, σ', g', hx, hrel, -, -⟩ := nSim (nLm_ok) (nCt_ok) n 0 41 _ [] nS0 _ s1 none nI7 (fun _ _ => none) hr ⟨nRel0, hL0, (fun v hv => by cases hv), rfl⟩
  have hk : mEv xs nx 0 41 [some (.ref mSCR), some (.ref (mAd 0 0)), some (.ref (mAd 35 0)), some (.ref (mAd 45 0)), some (.ref (mAd 79 0)), some (.ref (mAd 29 0)), some (.ref (mAd 80 0)), some (.ref (mAd 2 0)), none, none, none, none, none, none, none, none] [] nI7 (.inl (some (.int 1)), σ') := ⟨m, hx⟩
  have hgo : mEv xs nx 0 0 [some (.ref mSCR), none, none, none, none, none, none, none, none, none, none, none, none, none, none, none] [] (fun _ => none, fun _ => 0, 0, 0) (.inl (some (.int 1)), σ') := by
    refine ev_go rfl (σ' := nI0) rfl (ev_go rfl rfl (ev_call rfl rfl (v := none) nI77 (ev_go rfl rfl (ev_go rfl rfl (ev_go (σ' := mNew 35 (.inr (0, 12, .inl fun _ => 0)) 12 (nI3 4)) rfl rfl (ev_go rfl rfl (ev_go rfl rfl (ev_go (σ' := mNew 45 (.inr (0, 20, .inl fun _ => 0)) 20 (mNew 35 (.inr (0, 12, .inl fun _ => 0)) 12 (nI3 4))) rfl rfl (ev_go rfl rfl (ev_go rfl rfl (ev_go (σ' := mNew 79 (.inr (0, 6, .inl fun _ => 0)) 6 (mNew 45 (.inr (0, 20, .inl fun _ => 0)) 20 (mNew 35 (.inr (0, 12, .inl fun _ => 0)) 12 (nI3 4)))) rfl rfl (ev_go rfl rfl (ev_go rfl rfl (ev_go (σ' := mNew 29 (.inr (0, 5, .inl fun _ => 0)) 5 (mNew 79 (.inr (0, 6, .inl fun _ => 0)) 6 (mNew 45 (.inr (0, 20, .inl fun _ => 0)) 20 (mNew 35 (.inr (0, 12, .inl fun _ => 0)) 12 (nI3 4))))) rfl rfl (ev_go rfl rfl (ev_go rfl rfl (ev_go (σ' := mNew 80 (.inr (0, 6, .inl fun _ => 0)) 6 (mNew 29 (.inr (0, 5, .inl fun _ => 0)) 5 (mNew 79 (.inr (0, 6, .inl fun _ => 0)) 6 (mNew 45 (.inr (0, 20, .inl fun _ => 0)) 20 (mNew 35 (.inr (0, 12, .inl fun _ => 0)) 12 (nI3 4)))))) rfl rfl (ev_go rfl rfl (ev_go rfl rfl (ev_go (σ' := mNew 2 (.inr (0, 64, .inl fun _ => 0)) 64 (mNew 80 (.inr (0, 6, .inl fun _ => 0)) 6 (mNew 29 (.inr (0, 5, .inl fun _ => 0)) 5 (mNew 79 (.inr (0, 6, .inl fun _ => 0)) 6 (mNew 45 (.inr (0, 20, .inl fun _ => 0)) 20 (mNew 35 (.inr (0, 12, .inl fun _ => 0)) 12 (nI3 4))))))) rfl rfl (ev_go rfl rfl (hk))))))))))))))))))))))
  obtain ⟨n9, h9⟩ := hgo
  refine ⟨n9, σ', h9, ?_⟩
  obtain ⟨c1, c2⟩ := hrel.2.2.2.2.2.2.2.2.2
  have hsm : nSm (fN s1.1) g' ≤ 11 * 82 := by
    have hg : ∀ q, nGl q ≤ 11 := fun q => by
      rcases q with _ | ⟨a, c⟩
      · exact Nat.zero_le _
      · show nLv c ≤ 11
        unfold nLv
        split <;> omega
    have hrow : ∀ t, (((List.range (nCt (fN s1.1) t)).map fun k => nGl (g' t k)).sum) ≤ 11 * nCt (fN s1.1) t := fun t => by
      have : ∀ (l : List Nat) (f : Nat → Nat), (∀ x ∈ l, f x ≤ 11) → (l.map f).sum ≤ 11 * l.length := by
        intro l f
        induction l with
        | nil => intro _; exact Nat.zero_le _
        | cons a l ih =>
          intro h
          have h1 := h a List.mem_cons_self
          have h2 := ih fun x hx => h x (List.mem_cons_of_mem _ hx)
          simp only [List.map_cons, List.sum_cons, List.length_cons]
          omega
      have h2 := this (List.range (nCt (fN s1.1) t)) (fun k => nGl (g' t k)) fun x _ => hg _
      rw [List.length_range] at h2
      exact h2
    have e5 : nCt (fN s1.1) 5 = fN s1.1 23 := rfl
    have e6 : nCt (fN s1.1) 6 = fN s1.1 23 := rfl
    have e10 : nCt (fN s1.1) 10 = fN s1.1 26 := rfl
    have e11 : nCt (fN s1.1) 11 = fN s1.1 27 := rfl
    have e3 : nCt (fN s1.1) 3 = 5 := rfl
    have e14 : nCt (fN s1.1) 14 = 1 := rfl
    have e15 : nCt (fN s1.1) 15 = 1 := rfl
    have e16 : nCt (fN s1.1) 16 = 1 := rfl
    have e17 : nCt (fN s1.1) 17 = 1 := rfl
    have e18 : nCt (fN s1.1) 18 = 1 := rfl
    have e19 : nCt (fN s1.1) 19 = 1 := rfl
    have e20 : nCt (fN s1.1) 20 = 1 := rfl
    have q3 := hrow 3
    have q5 := hrow 5
    have q6 := hrow 6
    have q10 := hrow 10
    have q11 := hrow 11
    have q14 := hrow 14
    have q15 := hrow 15
    have q16 := hrow 16
    have q17 := hrow 17
    have q18 := hrow 18
    have q19 := hrow 19
    have q20 := hrow 20
    unfold nSm
    simp only [List.map_cons, List.map_nil, List.sum_cons, List.sum_nil]
    omega
  have hnA : nA (fN s1.1) ≤ 638 := by
    unfold nA
    omega
  simp only [nPn] at c1 c2
  omega
end REL0
