/-! ===== runs of the second machine are runs of the first ===== -/
theorem mX_up (xs : Nat → Int32) (nx : Nat) : ∀ (n y pc : Nat) (L : mLs) (S : List Value) (σ : mS) (r : mRes × mS), mX mF mHs mFk xs nx n y pc L S σ = some r → mX mF mHs mFk xs nx (n + 1) y pc L S σ = some r := by
  intro n
  induction n with
  | zero => intro y pc L S σ r h; cases h
  | succ n ih =>
    intro y pc L S σ r h
    unfold mX at h ⊢
    cases hF : mF y pc with
    | none => rw [hF] at h; cases h
    | some e =>
      rw [hF] at h
      simp only at h ⊢
      cases hs : mStep mFk xs nx e pc L S σ with
      | none => rw [hs] at h; cases h
      | some a =>
        rw [hs] at h
        rcases a with ⟨pc', L', S', σ'⟩ | ⟨y', A, k, S'⟩ | r'
        · exact ih _ _ _ _ _ _ h
        · simp only at h ⊢
          cases hc : mX mF mHs mFk xs nx n y' 0 (mL0 A (mLo e.2.2.2)) [] σ with
          | none => rw [hc] at h; cases h
          | some q =>
            rw [hc] at h
            rw [ih _ _ _ _ _ _ hc]
            obtain ⟨r2, σ2⟩ := q
            rcases r2 with v | E
            · exact ih _ _ _ _ _ _ h
            · simp only at h ⊢
              cases hh : mHd (mHs y) pc E with
              | none => rw [hh] at h; exact h
              | some q => rw [hh] at h; exact ih _ _ _ _ _ _ h
        · exact h
theorem mX_mono {xs : Nat → Int32} {nx n m y pc : Nat} {L : mLs} {S : List Value} {σ : mS} {r : mRes × mS} (hm : n ≤ m) (h : mX mF mHs mFk xs nx n y pc L S σ = some r) : mX mF mHs mFk xs nx m y pc L S σ = some r := by
  induction hm with
  | refl => exact h
  | step _ ih => exact mX_up xs nx _ _ _ _ _ _ _ ih
def wr (N : Nat → Nat) (r : nRes) : mRes := match r with
  | .inl v => .inl (v.map (vw N))
  | .inr E => .inr E
def vkr (N : Nat → Nat) (r : nRes) : Prop := ∀ v, r = .inl (some v) → vk N none v
theorem wl_L0 {N : Nat → Nat} {A : List nV} {n : Nat} : wl N (nL0 A n) = mL0 (A.map (vw N)) n := by
  unfold wl nL0 mL0
  rw [List.map_append, List.map_replicate, List.map_map, List.length_map, List.map_map]
  rfl
theorem wl_N {N N' : Nat → Nat} {L : nLs} (h : ∀ v, some v ∈ L → vk N none v) : wl N' L = wl N L := by
  unfold wl
  refine List.map_congr_left fun o ho => ?_
  cases o with
  | none => rfl
  | some v => exact congrArg some (vw_N (h v ho))
theorem ws_N {N N' : Nat → Nat} {S : List nV} (h : ∀ v ∈ S, vk N none v) : S.map (vw N') = S.map (vw N) := List.map_congr_left fun v hv => vw_N (h v hv)
theorem pdS_none {N : Nat → Nat} {S : List nV} (h : ∀ v ∈ S, vk N none v) : pdS S = none := by
  induction S with
  | nil => rfl
  | cons v S ih =>
    rw [pdS_cons (h v List.mem_cons_self)]
    exact ih fun w hw => h w (List.mem_cons_of_mem _ hw)
theorem nOk_pd {S : List nV} (h : S.all nOk1 = true) : pdS S = none := by
  induction S with
  | nil => rfl
  | cons v S ih =>
    rw [List.all_cons, Bool.and_eq_true] at h
    rcases v with x | x | q | q | q
    · exact ih h.2
    · exact ih h.2
    · exact ih h.2
    · exact ih h.2
    · cases h.1
theorem nOk_cat {N : Nat → Nat} {S : List nV} (h : S.all nOk1 = true) : ∀ v ∈ S, (vw N v).category = 1 := by
  intro v hv
  have h1 := List.all_eq_true.mp h v hv
  rcases v with x | x | ⟨t, _ | k⟩ | o | t
  · rfl
  · cases h1
  · rfl
  · rfl
  · rcases o with _ | ⟨a, b⟩ <;> rfl
  · cases h1
section NSIM
variable {xs : Nat → Int32} {nx : Nat} {p : Option Nat} {s : nS} {σ : mS} {g : Nat → Nat → Option (Nat × Nat)} {y pc : Nat} {e : mE} {L : nLs} {S : List nV} {s' : nS}
theorem nInv {y' n : Nat} (h : (Nat.ble n S.length && Nat.ble S.length (n + 8) && S.all nOk1) = true) : mInv y' n (S.map (vw (fN s.1))) = some (.inr (.inl (y', ((S.take n).reverse).map (vw (fN s.1)), n, (S.drop n).map (vw (fN s.1))))) := by
  simp only [Bool.and_eq_true] at h
  obtain ⟨⟨h1, h2⟩, h3⟩ := h
  have h1 := Nat.le_of_ble_eq_true h1
  have h2 := Nat.le_of_ble_eq_true h2
  unfold mInv
  rw [if_pos]
  · unfold mCall
    rw [List.map_reverse, List.map_take, List.map_drop]
  · refine ⟨by rw [List.length_map]; exact h1, by rw [List.length_map]; exact h2, ?_, Or.inr ?_⟩
    · unfold mA1
      rw [List.all_eq_true]
      intro v hv
      rw [← List.map_take] at hv
      obtain ⟨w, hw, rfl⟩ := List.mem_map.mp hv
      rw [nOk_cat h3 w (List.mem_of_mem_take hw)]
      rfl
    · unfold mA1
      rw [List.all_eq_true]
      intro v hv
      obtain ⟨w, hw, rfl⟩ := List.mem_map.mp hv
      rw [nOk_cat h3 w hw]
      rfl
theorem nRcv {n : Nat} {v : nV} {A : List nV} (h1 : n ≤ S.length) (h : (S.take n).reverse = v :: A) : S[n - 1]? = some v := by
  have h2 : S.take n = A.reverse ++ [v] := by
    have := congrArg List.reverse h
    rw [List.reverse_reverse, List.reverse_cons] at this
    exact this
  have hl : n = A.length + 1 := by
    have := congrArg List.length h2
    rw [List.length_take, List.length_append, List.length_reverse] at this
    simp at this
    omega
  have h3 : (S.take n)[n - 1]? = S[n - 1]? := List.getElem?_take_of_lt (by omega)
  rw [← h3, h2, List.getElem?_append_right (by rw [List.length_reverse]; omega), List.length_reverse]
  simp [show n - 1 - A.length = 0 by omega]
theorem nCl_ok {kd ci y9 n ml9 y' ml : Nat} {A S1 : List nV} {s1 : nS} (f : nCf p s σ g L S) (h : nCl kd ci y9 n ml9 S s (fun y A ml S s => some (.inr (.inl (y, A, ml, S, s)))) = (some (.inr (.inl (y', A, ml, S1, s1))) : Option nAct)) :
    p = none ∧ s = s1 ∧ y' = y9 ∧ ml = ml9 ∧ (∀ v ∈ A, vk (fN s.1) none v) ∧ (∀ v ∈ S1, vk (fN s.1) none v) ∧ mInv y9 n (S.map (vw (fN s.1))) = some (.inr (.inl (y9, A.map (vw (fN s.1)), n, S1.map (vw (fN s.1))))) ∧ (kd = 0 ∨ ∃ k, (S.map (vw (fN s.1)))[n - 1]? = some (.ref (mAd (nTg ci) k)) ∧ k < nCt (fN s.1) (nTg ci)) := by
  unfold nCl at h
  cases hb : (Nat.ble n S.length && Nat.ble S.length (n + 8) && S.all nOk1) with
  | false => rw [hb] at h; cases h
  | true =>
    have hinv := nInv (s := s) (y' := y9) hb
    rw [hb] at h
    simp only [Bool.and_eq_true] at hb
    have hn := Nat.le_of_ble_eq_true hb.1.1
    have hp : p = none := f.2.2.2.trans (nOk_pd hb.2)
    subst hp
    have hvA : ∀ v ∈ (S.take n).reverse, vk (fN s.1) none v := fun v hv => f.2.2.1 v (List.mem_of_mem_take (List.mem_reverse.mp hv))
    have hvS : ∀ v ∈ S.drop n, vk (fN s.1) none v := fun v hv => f.2.2.1 v (List.mem_of_mem_drop hv)
    simp only [cond_true] at h
    split at h
    · cases h
      exact ⟨rfl, rfl, rfl, rfl, hvA, hvS, hinv, Or.inl rfl⟩
    · split at h
      · rename_i t o A1 hA
        unfold ntg at h
        cases hb2 : Nat.beq t (nTg ci) with
        | false => rw [hb2] at h; cases h
        | true =>
          rw [hb2] at h
          cases o with
          | none => cases h
          | some k =>
            cases h
            have hrc := nRcv hn hA
            rw [hA] at hvA hinv
            obtain ⟨e, hk⟩ := nIs_obj f.1 hb2 (hvA _ List.mem_cons_self)
            refine ⟨rfl, rfl, rfl, rfl, hvA, hvS, hinv, Or.inr ⟨k, ?_, hk⟩⟩
            rw [List.getElem?_map, hrc, e]
            rfl
      · cases h
abbrev goA : Nat → nLs → List nV → nS → Option nAct := fun pc L S s => some (.inl (pc, L, S, s))
abbrev callA : Nat → List nV → Nat → List nV → nS → Option nAct := fun y A ml S s => some (.inr (.inl (y, A, ml, S, s)))
abbrev finA : nRes → nS → Option nAct := fun r s => some (.inr (.inr (r, s)))
theorem nStep_nocall {ins : Instr} {n e1 e2 : Nat} {q} (h1 : ∀ i, ins ≠ .invokestatic i) (h2 : ∀ i, ins ≠ .invokespecial i) (h3 : ∀ i, ins ≠ .invokevirtual i) (h : nStep xs nx (ins, n, e1, e2) y pc L S s = some (.inr (.inl q))) : False := by
  have k2 := nK_int (go := goA) (call := fun _ _ _ _ _ => none) (fin := finA) xs nx ins n e1 e2 y pc L S s
  rw [h] at k2
  have k1 : nK xs nx goA (fun _ _ _ _ _ => none) finA ins n e1 e2 y pc L S s = nStep xs nx (ins, n, e1, e2) y pc L S s := nK_nocall h1 h2 h3
  rw [k1, h] at k2
  cases k2
theorem nStep_nofin {ins : Instr} {n e1 e2 : Nat} {q} (h1 : ∀ i, ins ≠ .new i) (h2 : ins ≠ .ireturn) (h3 : ins ≠ .areturn) (h4 : ins ≠ .return_) (h : nStep xs nx (ins, n, e1, e2) y pc L S s = some (.inr (.inr q))) : False := by
  have k2 := nK_int (go := goA) (call := callA) (fin := fun _ _ => none) xs nx ins n e1 e2 y pc L S s
  rw [h] at k2
  have k1 : nK xs nx goA callA (fun _ _ => none) ins n e1 e2 y pc L S s = nStep xs nx (ins, n, e1, e2) y pc L S s := nK_nofin h1 h2 h3 h4
  rw [k1, h] at k2
  cases k2
theorem nCtor_no {y' q : Nat} {b} (h : nCtor y' q L S s (fun q L S s => cond (Nat.ble S.length 4) (goA q L S s) none) = some (.inr b)) : False := by
  have k := nI_ctor (go := goA) (call := fun _ _ _ _ _ => none) (fin := fun _ _ => none) (y := y') (q := q) (L := L) (S := S) (s := s) (g := fun q L S s => cond (Nat.ble S.length 4) (goA q L S s) none)
  have e : (fun (q : Nat) (L : nLs) (S : List nV) (s : nS) => nInt goA (fun _ _ _ _ _ => none) (fun _ _ => none) (cond (Nat.ble S.length 4) (goA q L S s) none)) = (fun q L S s => cond (Nat.ble S.length 4) (goA q L S s) none) := by
    funext q L S s
    cases Nat.ble S.length 4 <;> rfl
  rw [e, h] at k
  rcases b with b | b <;> cases k
theorem nLm_no {y' q : Nat} {b} (h : nLm y' q L S s goA = some (.inr b)) : False := by
  have k := nI_lm (go := goA) (call := fun _ _ _ _ _ => none) (fin := fun _ _ => none) (y := y') (q := q) (L := L) (S := S) (s := s) (g := goA)
  have e : (fun (q : Nat) (L : nLs) (S : List nV) (s : nS) => nInt goA (fun _ _ _ _ _ => none) (fun _ _ => none) (goA q L S s)) = goA := rfl
  rw [e, h] at k
  rcases b with b | b <;> cases k
theorem nStep_call {y' ml : Nat} {A S1 : List nV} {s1 : nS} (f : nCf p s σ g L S) (h : nStep xs nx e y pc L S s = some (.inr (.inl (y', A, ml, S1, s1)))) :
    p = none ∧ s = s1 ∧ ml = mLo e.2.2.2 ∧ (∀ v ∈ A, vk (fN s.1) none v) ∧ (∀ v ∈ S1, vk (fN s.1) none v) ∧ ∃ n9, mStep mFk xs nx e pc (wl (fN s.1) L) (S.map (vw (fN s.1))) σ = some (.inr (.inl (y', A.map (vw (fN s.1)), n9, S1.map (vw (fN s.1))))) := by
  obtain ⟨ins, n, e1, e2⟩ := e
  by_cases hs : ∃ i, ins = .invokestatic i
  · obtain ⟨i, rfl⟩ := hs
    unfold nStep at h
    simp only [nK] at h
    cases h1000 : Nat.ble 1000 e1 with
    | true =>
      exfalso
      rw [h1000] at h
      simp only [cond_true] at h
      split at h
      · rename_i b a S2
        cases h4 : Nat.ble S2.length 4 <;> rw [h4] at h <;> cases h
      · rename_i b a S2
        cases h4 : Nat.ble S2.length 4 <;> rw [h4] at h <;> cases h
      · rename_i a S2
        cases h4 : Nat.ble S2.length 4 <;> rw [h4] at h <;> cases h
      · cases h
    | false =>
      rw [h1000] at h
      simp only [cond_false] at h
      obtain ⟨a1, a2, a3, a4, a5, a6, a7, -⟩ := nCl_ok f h
      have hlt : ¬ 1000 ≤ e1 := fun z => by rw [Nat.ble_eq_true_of_le z] at h1000; cases h1000
      refine ⟨a1, a2, a4, a5, a6, e2 % 16, ?_⟩
      show (if e1 = 1001 then _ else _) = _
      rw [if_neg (show ¬ e1 = 1001 by omega), if_neg (show ¬ e1 = 1003 by omega), if_neg (show ¬ e1 = 1004 by omega), if_neg (show ¬ e1 = 1005 by omega), a7, a3]
  by_cases hs2 : ∃ i, ins = .invokespecial i
  · obtain ⟨i, rfl⟩ := hs2
    unfold nStep at h
    simp only [nK] at h
    cases hm : nMk e1 with
    | true =>
      exfalso
      rw [hm] at h
      cases h2 : Nat.beq e2 (nE2 e1) with
      | false => rw [h2] at h; cases h
      | true =>
        rw [h2] at h
        exact nCtor_no h
    | false =>
      rw [hm] at h
      cases h1000 : Nat.beq e1 1000 with
      | true => rw [h1000] at h; cases h
      | false =>
        rw [h1000] at h
        simp only [cond_false] at h
        obtain ⟨a1, a2, a3, a4, a5, a6, a7, a8⟩ := nCl_ok f h
        rcases a8 with a8 | ⟨k, a8, a9⟩
        · cases a8
        · refine ⟨a1, a2, a4, a5, a6, e2 % 16, ?_⟩
          show (if e1 = 1000 then _ else _) = _
          rw [if_neg (fun z => by rw [z] at h1000; cases h1000), a8, if_pos (show mRf (some (Value.ref (mAd (nTg (e2 / 256)) k))) = true from rfl), a7, a3]
  by_cases hs3 : ∃ i, ins = .invokevirtual i
  · obtain ⟨i, rfl⟩ := hs3
    unfold nStep at h
    simp only [nK] at h
    cases hm : nLst e1 with
    | true =>
      exfalso
      rw [hm] at h
      cases h2 : (Nat.beq e2 (nE2 e1) && Nat.ble S.length 5) with
      | false => rw [h2] at h; cases h
      | true =>
        rw [h2] at h
        exact nLm_no h
    | false =>
      rw [hm] at h
      cases h1000 : Nat.ble 1000 e1 with
      | true => rw [h1000] at h; cases h
      | false =>
        rw [h1000] at h
        simp only [cond_false] at h
        obtain ⟨a1, a2, a3, a4, a5, a6, a7, a8⟩ := nCl_ok f h
        rcases a8 with a8 | ⟨k, a8, a9⟩
        · cases a8
        · refine ⟨a1, a2, a4, a5, a6, e2 % 16, ?_⟩
          have hlt : ¬ 1000 ≤ e1 := fun z => by rw [Nat.ble_eq_true_of_le z] at h1000; cases h1000
          show (if e1 = 1002 then _ else _) = _
          rw [if_neg (show ¬ e1 = 1002 by omega), a8, if_pos (show mIs σ.1 (e2 / 256) (some (Value.ref (mAd (nTg (e2 / 256)) k))) = true by unfold mIs; simp only [f.1.obj a9]; simp), a7, a3]
  exact (nStep_nocall (fun i z => hs ⟨i, z⟩) (fun i z => hs2 ⟨i, z⟩) (fun i z => hs3 ⟨i, z⟩) h).elim
theorem nStep_fin {r : nRes} {s1 : nS} (f : nCf p s σ g L S) (h : nStep xs nx e y pc L S s = some (.inr (.inr (r, s1)))) :
    ∃ σ', mStep mFk xs nx e pc (wl (fN s.1) L) (S.map (vw (fN s.1))) σ = some (.inr (.inr (wr (fN s.1) r, σ'))) ∧ nRel none s1 σ' g ∧ fN s1.1 = fN s.1 ∧ vkr (fN s.1) r := by
  obtain ⟨ins, n, e1, e2⟩ := e
  obtain ⟨hr, hL, hS, hp⟩ := id f
  by_cases h1 : ∃ i, ins = .new i
  · obtain ⟨i, rfl⟩ := h1
    unfold nStep at h
    simp only [nK] at h
    cases ha : S.all nOk1 with
    | false => rw [ha] at h; cases h
    | true =>
      rw [ha] at h
      have hp0 : p = none := hp.trans (nOk_pd ha)
      subst hp0
      cases h100 : Nat.ble 100 e1 with
      | false =>
        rw [h100] at h
        cases hb : (Nat.beq (nTg e1) e2 && Nat.beq (nGp e2) e2) <;> rw [hb] at h <;> cases h
      | true =>
        rw [h100] at h
        cases h4 : Nat.ble S.length 4 with
        | false => rw [h4] at h; cases h
        | true =>
          rw [h4] at h
          cases h
          refine ⟨mThr σ, ?_, hr.thr, rfl, fun v z => by cases z⟩
          show (if 100 ≤ e1 then (if (S.map (vw (fN s.1))).length ≤ 4 then _ else none) else _) = _
          rw [if_pos (Nat.le_of_ble_eq_true h100), if_pos (by rw [List.length_map]; exact Nat.le_of_ble_eq_true h4)]
          rfl
  by_cases h2 : ins = .ireturn
  · subst h2
    unfold nStep at h
    simp only [nK] at h
    split at h
    · rename_i x
      have hp0 : p = none := hp
      subst hp0
      cases hb : Nat.beq e1 1 with
      | true =>
        rw [hb] at h
        cases h
        have := Nat.eq_of_beq_eq_true hb
        subst this
        exact ⟨σ, rfl, hr, rfl, fun v z => by cases z; trivial⟩
      | false =>
        rw [hb] at h
        cases hb2 : Nat.beq e1 2 with
        | false => rw [hb2] at h; cases h
        | true =>
          rw [hb2] at h
          simp only [cond_true, cond_false] at h
          have := Nat.eq_of_beq_eq_true hb2
          subst this
          split at h
          · rename_i h01
            cases h
            refine ⟨σ, ?_, hr, rfl, fun v z => by cases z; trivial⟩
            show (if mFit 1 (.int x) = true then _ else _) = _
            rw [if_pos (by rcases h01 with rfl | rfl <;> rfl)]
            rfl
          · cases h
    · cases h
  by_cases h3 : ins = .areturn
  · subst h3
    unfold nStep at h
    simp only [nK] at h
    split at h
    · rename_i t o
      have hp0 : p = none := hp
      subst hp0
      cases h
      exact ⟨σ, by cases o <;> rfl, hr, rfl, fun v z => by cases z; exact (kd1 hS).1⟩
    · cases h
  by_cases h4 : ins = .return_
  · subst h4
    unfold nStep at h
    simp only [nK] at h
    split at h
    · have hp0 : p = none := hp
      subst hp0
      cases h
      exact ⟨σ, rfl, hr, rfl, fun v z => by cases z⟩
    · cases h
  exact (nStep_nofin (fun i z => h1 ⟨i, z⟩) h2 h3 h4 h).elim
set_option maxHeartbeats 4000000 in
theorem nSim (hlm : nLmOK xs nx) (hct : nCtOK xs nx) : ∀ (n : Nat) (y pc : Nat) (L : nLs) (S : List nV) (s : nS) (r : nRes) (s' : nS) (p : Option Nat) (σ : mS) (g : Nat → Nat → Option (Nat × Nat)), nX xs nx n y pc L S s = some (r, s') → nCf p s σ g L S →
    ∃ (m : Nat) (σ' : mS) (g' : Nat → Nat → Option (Nat × Nat)), mX mF mHs mFk xs nx m y pc (wl (fN s.1) L) (S.map (vw (fN s.1))) σ = some (wr (fN s'.1) r, σ') ∧ nRel none s' σ' g' ∧ nLe s s' ∧ vkr (fN s'.1) r := by
  intro n
  induction n with
  | zero => intro y pc L S s r s' p σ g h; cases h
  | succ n ih =>
    intro y pc L S s r s' p σ g h f
    unfold nX at h
    cases hF : mF y pc with
    | none => rw [hF] at h; cases h
    | some e =>
      rw [hF] at h
      simp only [nK_int] at h
      cases hst : nStep xs nx (e.1, e.2.1, e.2.2.1, e.2.2.2) y pc L S s with
      | none => rw [hst] at h; cases h
      | some a =>
        rw [hst] at h
        rcases a with ⟨pc', L', S', s1⟩ | ⟨y', A, ml, S1, s1⟩ | ⟨r1, s1⟩
        · have h : nX xs nx n y pc' L' S' s1 = some (r, s') := h
          obtain ⟨p', σ', g', f', hle, hrch⟩ := nStep_go hlm hct hF f hst
          obtain ⟨m, σ2, g2, k1, k2, k3, k4⟩ := ih y pc' L' S' s1 r s' p' σ' g' h f'
          obtain ⟨m2, k5⟩ := hrch m _ k1
          exact ⟨m2, σ2, g2, k5, k2, hle.tr k3, k4⟩
        · have h : nCall y pc L (nX xs nx n y) (nX xs nx n) y' A ml S1 s1 = some (r, s') := h
          obtain ⟨rfl, rfl, rfl, hA, hS1, n9, hm⟩ := nStep_call f hst
          have hL := f.2.1
          unfold nCall at h
          cases hq : nX xs nx n y' 0 (nL0 A (mLo e.2.2.2)) [] s with
          | none => rw [hq] at h; cases h0 : (nRt y').beq 0 <;> cases h1 : (nRt y').beq 1 <;> simp [h0, h1, bV, bI, bR] at h
          | some q =>
            obtain ⟨r1, s1⟩ := q
            have fA : nCf none s σ g (nL0 A (mLo e.2.2.2)) [] := by
              refine ⟨f.1, fun v hv => ?_, (fun v hv => by cases hv), rfl⟩
              unfold nL0 at hv
              rcases List.mem_append.mp hv with hv | hv
              · obtain ⟨w, hw, e9⟩ := List.mem_map.mp hv
                cases e9
                exact hA v hw
              · rw [List.mem_replicate] at hv
                cases hv.2
            obtain ⟨m1, σ1, g1, k1, k2, k3, k4⟩ := ih y' 0 _ [] s r1 s1 none σ g hq fA
            rw [wl_L0, List.map_nil] at k1
            have hL1 : ∀ v, some v ∈ L → vk (fN s1.1) none v := fun v hv => vk_mono k3 (hL v hv)
            have hS2 : ∀ v ∈ S1, vk (fN s1.1) none v := fun v hv => vk_mono k3 (hS1 v hv)
            have eL : wl (fN s.1) L = wl (fN s1.1) L := (wl_N hL).symm
            have eS : S1.map (vw (fN s.1)) = S1.map (vw (fN s1.1)) := (ws_N hS1).symm
            -- goes on behind the call
            have cont : ∀ (v : Option nV), r1 = .inl v → ∀ q9 : nX xs nx n y (pc + 3) L (v.toList ++ S1) s1 = some (r, s'), ∃ (m : Nat) (σ' : mS) (g' : Nat → Nat → Option (Nat × Nat)), mX mF mHs mFk xs nx m y pc (wl (fN s.1) L) (S.map (vw (fN s.1))) σ = some (wr (fN s'.1) r, σ') ∧ nRel none s' σ' g' ∧ nLe s s' ∧ vkr (fN s'.1) r := by
              intro v hv q9
              subst hv
              have hvs : ∀ w ∈ v.toList ++ S1, vk (fN s1.1) none w := by
                intro w hw
                rcases List.mem_append.mp hw with hw | hw
                · cases v with
                  | none => cases hw
                  | some v =>
                    have : w = v := by simpa using hw
                    subst this
                    exact k4 w rfl
                · exact hS2 w hw
              obtain ⟨m2, σ2, g2, j1, j2, j3, j4⟩ := ih y (pc + 3) L _ s1 r s' none σ1 g1 q9 ⟨k2, hL1, hvs, (pdS_none hvs).symm⟩
              refine ⟨max m1 m2 + 1, σ2, g2, ?_, j2, k3.tr j3, j4⟩
              unfold mX
              simp only [hF]
              rw [hm]
              simp only
              rw [mX_mono (Nat.le_max_left m1 m2) k1]
              show mX mF mHs mFk xs nx (max m1 m2) y (pc + 3) _ ((v.map (vw (fN s1.1))).toList ++ _) σ1 = _
              rw [eL, eS, show (v.map (vw (fN s1.1))).toList ++ S1.map (vw (fN s1.1)) = (v.toList ++ S1).map (vw (fN s1.1)) by cases v <;> rfl]
              exact mX_mono (Nat.le_max_right m1 m2) j1
            have contx : ∀ (E : Nat), r1 = .inr E → nHx y pc L (nX xs nx n y) E s1 = some (r, s') → ∃ (m : Nat) (σ' : mS) (g' : Nat → Nat → Option (Nat × Nat)), mX mF mHs mFk xs nx m y pc (wl (fN s.1) L) (S.map (vw (fN s.1))) σ = some (wr (fN s'.1) r, σ') ∧ nRel none s' σ' g' ∧ nLe s s' ∧ vkr (fN s'.1) r := by
              intro E hE q9
              subst hE
              unfold nHx at q9
              cases hh : mHd (mHs y) pc E with
              | none =>
                rw [hh] at q9
                cases q9
                refine ⟨m1 + 1, σ1, g1, ?_, k2, k3, fun v z => by cases z⟩
                unfold mX
                simp only [hF]
                rw [hm]
                simp only
                rw [k1]
                simp only [wr, hh]
              | some hi =>
                obtain ⟨hpc, i⟩ := hi
                rw [hh] at q9
                have q9 : nX xs nx n y hpc (L.set i none) [] s1 = some (r, s') := q9
                have hL2 : ∀ v, some v ∈ L.set i none → vk (fN s1.1) none v := by
                  intro w hw
                  rcases List.mem_or_eq_of_mem_set hw with h1 | h1
                  · exact hL1 w h1
                  · cases h1
                obtain ⟨m2, σ2, g2, j1, j2, j3, j4⟩ := ih y hpc (L.set i none) [] s1 r s' none σ1 g1 q9 ⟨k2, hL2, (fun v hv => by cases hv), rfl⟩
                refine ⟨max m1 m2 + 1, σ2, g2, ?_, j2, k3.tr j3, j4⟩
                unfold mX
                simp only [hF]
                rw [hm]
                simp only
                rw [mX_mono (Nat.le_max_left m1 m2) k1]
                simp only [wr, hh]
                rw [eL, show (wl (fN s1.1) L).set i none = wl (fN s1.1) (L.set i none) by unfold wl; rw [List.map_set]; rfl]
                exact mX_mono (Nat.le_max_right m1 m2) j1
            rw [hq] at h
            cases h0 : (nRt y').beq 0 with
            | true =>
              rw [h0] at h
              simp only [cond_true] at h
              unfold bV at h
              split at h
              · rename_i q s2 he
                cases he
                exact cont none rfl h
              · rename_i q E s2 he
                cases he
                exact contx E rfl h
              · cases h
            | false =>
              rw [h0] at h
              simp only [cond_false] at h
              cases h1 : (nRt y').beq 1 with
              | true =>
                rw [h1] at h
                simp only [cond_true] at h
                unfold bI at h
                split at h
                · rename_i q x s2 he
                  cases he
                  exact cont (some (vI x)) rfl h
                · rename_i q E s2 he
                  cases he
                  exact contx E rfl h
                · cases h
              | false =>
                rw [h1] at h
                simp only [cond_false] at h
                unfold bR at h
                split at h
                · rename_i q t o s2 he
                  cases he
                  unfold ntg at h
                  cases hb : Nat.beq t (nRt y' - 100) with
                  | true =>
                    rw [hb] at h
                    have := Nat.eq_of_beq_eq_true hb
                    subst this
                    exact cont (some (vR (nRt y' - 100) o)) rfl h
                  | false => rw [hb] at h; cases h
                · rename_i q E s2 he
                  cases he
                  exact contx E rfl h
                · cases h
        · have h : nFin r1 s1 = some (r, s') := h
          cases h
          obtain ⟨σ', k1, k2, k3, k4⟩ := nStep_fin f hst
          refine ⟨1, σ', g, ?_, k2, nLe.of k3, by rw [k3]; exact k4⟩
          unfold mX
          simp only [hF]
          rw [k1, k3]
end NSIM
