/-! ===== the methods of lists keep what relates the memories ===== -/
theorem nTab9 : ∀ t < 96, nLt t = 0 ∨ (nLt (nLt t) = 0 ∧ nLt t ≠ 127 ∧ nLt t < 96) := by decide +kernel
theorem nTab10 : ∀ t < 96, nLt t = 0 ∨ ∃ c < 13, nTg c = nLt t := by decide +kernel
section NLM
variable {xs : Nat → Int32} {nx : Nat} {p : Option Nat} {s : nS} {σ : mS} {g : Nat → Nat → Option (Nat × Nat)}
theorem mMay_eq {h h' : Nat → Option mC} {t v : Nat} (e : h v = h' v) : mMay h t v = mMay h' t v := by
  unfold mMay
  rw [e]
theorem nAdd (r : nRel p s σ g) {t k e : Nat} (hlt : nLt t ≠ 0) (hk : k < nCt (fN s.1) t) (he : e < nCt (fN s.1) (nLt t)) (hl5 : (fL s.1 t k).length < 500) {σB : mS} {mc' : Int32} {j c : Nat} {f' : Nat → Option Nat}
    (hB : ∀ b, b ≠ mAd t k → b ≠ mAd 96 j → σB.1 b = σ.1 b) (hc : ∀ t', t' < 96 → σB.2.1 t' = σ.2.1 t') (h96 : σ.2.1 96 ≤ σB.2.1 96) (hj : j < σB.2.1 96) (hq : (∃ c0, g t k = some (j, c0)) ∨ σ.2.1 96 ≤ j) (hlen : (fL s.1 t k).length < c) (hlv : nLv c ≠ 0)
    (hf : ∀ i x, (fL s.1 t k)[i]? = some x → f' i = some (mAd (nLt t) x)) (h1 : σB.2.2.1 + nGl (g t k) ≤ σ.2.2.1 + nLv c) (h2 : σB.2.2.2 + 549 * nGl (g t k) ≤ σ.2.2.2 + 549 * nLv c) :
    nRel p (uL t k (fL s.1 t k ++ [e]) s.1, s.2) (mPut (mAd t k) (.inl (0, [.int mc', .ref (mAd 96 j), .int (Int32.ofNat ((fL s.1 t k).length + 1))])) (mPut (mAd 96 j) (.inr (3, c, rRf (va_up f' (fL s.1 t k).length (some (mAd (nLt t) e))))) σB)) (up2 g t k (some (j, c))) := by
  have ht := nCt_lt hk
  have hne : mAd 96 j ≠ mAd t k := mAd_ne (by omega) (by omega) (by omega)
  have hll : (fL s.1 t k ++ [e]).length = (fL s.1 t k).length + 1 := by simp
  refine r.setL hlt hk ⟨mc', _, by rw [hll]; exact mPut_at, by omega, rfl, hj, by omega, hlv, _, (mPut_ne hne).trans mPut_at, fun i x z => ?_⟩ (fun b hb _ hb2 => (mPut_ne hb).trans ((mPut_ne (hb2 j c rfl)).trans (hB b hb (hb2 j c rfl)))) hc h96 (fun j2 c2 z => by cases z; exact hq) (fun x hx => ?_) h1 h2
  · by_cases hi : i = (fL s.1 t k).length
    · subst hi
      rw [va_up_self]
      rw [List.getElem?_append_right (Nat.le_refl _)] at z
      simp at z
      rw [z]
    · rw [va_up_ne _ _ hi]
      have hlt2 := (List.getElem?_eq_some_iff.mp z).1
      rw [hll] at hlt2
      rw [List.getElem?_append_left (by omega)] at z
      exact hf i x z
  · rcases List.mem_append.mp hx with hx | hx
    · exact r.2.2.2.2.2.2.2.1 t k x hlt hk hx
    · rw [List.mem_singleton] at hx
      subst hx
      exact he
theorem rch_lst {y pc i n y' e2 a : Nat} {fs As S : List Value} {L L9 : mLs} {v : Option Value} {σ1 : mS} (hF : mF y pc = some (.invokevirtual i, n, y', e2)) (h : σ.1 a = some (.inl (0, fs))) (h256 : e2 / 256 = 0) (hy : y' < 1000) (hn : As.length + 1 = e2 % 16) (hc : ∀ v ∈ As, v.category = 1) (hl : S.length ≤ 4) (hml : mL0 (.ref a :: As) (mLo e2) = L9) (c : mEv xs nx y' 0 L9 [] σ (.inl v, σ1)) : mRch xs nx y (pc, L, As.reverse ++ .ref a :: S, σ) (pc + 3, L, v.toList ++ S, σ1) := by
  subst hml
  exact rch_call hF (st_vrt (by rw [h256]; exact h) hy hn hc hl) c
theorem cat0 : ∀ v ∈ ([] : List Value), v.category = 1 := fun v hv => by cases hv
theorem cat1 {x : Int32} : ∀ v ∈ [Value.int x], v.category = 1 := fun v hv => by rw [List.mem_singleton] at hv; subst hv; rfl
theorem catR {x : Nat} : ∀ v ∈ [Value.ref x], v.category = 1 := fun v hv => by rw [List.mem_singleton] at hv; subst hv; rfl
theorem nLm_ok : nLmOK xs nx := by
  intro p s σ g y pc i n y' pc' L L' S S' s' f hF hlst h5 h
  obtain ⟨r, hL, hS, hp⟩ := id f
  unfold nLm at h
  split at h
  · -- size
    rename_i o S1
    have h4 : S1.length ≤ 4 := by simp at h5; omega
    rw [show nE2 266 = 17 from rfl] at hF
    rcases o with _ | ⟨t, k⟩
    · cases h
    simp only [nnL] at h
    cases h
    obtain ⟨hk, hlt⟩ := (kd1 hS).1 t k rfl
    obtain ⟨mc, d, c1, c2, c3⟩ := r.2.2.1 t k hlt hk
    exact ⟨p, σ, g, ⟨r, hL, kc1 trivial (kd1 hS).2, hp⟩, nLe.rf, rch_lst (As := []) (S := List.map (vw (fN s.1)) S1) hF c1 rfl (by decide) rfl cat0 (by rw [List.length_map]; exact h4) rfl (L_size c1)⟩
  · -- isEmpty
    rename_i o S1
    have h4 : S1.length ≤ 4 := by simp at h5; omega
    rw [show nE2 280 = 17 from rfl] at hF
    rcases o with _ | ⟨t, k⟩
    · cases h
    simp only [nnL] at h
    obtain ⟨hk, hlt⟩ := (kd1 hS).1 t k rfl
    obtain ⟨mc, d, c1, c2, c3⟩ := r.2.2.1 t k hlt hk
    have hrun := rch_lst (xs := xs) (nx := nx) (L := wl (fN s.1) L) (As := []) (S := List.map (vw (fN s.1)) S1) hF c1 rfl (by decide) rfl cat0 (by rw [List.length_map]; exact h4) rfl (L_empty (xs := xs) (nx := nx) (by omega) c1)
    split at h
    · rename_i hl
      cases h
      refine ⟨p, σ, g, ⟨r, hL, kc1 trivial (kd1 hS).2, hp⟩, nLe.rf, ?_⟩
      rw [hl] at hrun
      exact hrun
    · rename_i hl
      cases h
      refine ⟨p, σ, g, ⟨r, hL, kc1 trivial (kd1 hS).2, hp⟩, nLe.rf, ?_⟩
      rw [if_neg (by rw [List.length_eq_zero_iff]; exact hl)] at hrun
      exact hrun
  · -- clear
    rename_i o S1
    have h4 : S1.length ≤ 4 := by simp at h5; omega
    rw [show nE2 281 = 65 from rfl] at hF
    rcases o with _ | ⟨t, k⟩
    · cases h
    simp only [nnL] at h
    cases h
    obtain ⟨hk, hlt⟩ := (kd1 hS).1 t k rfl
    obtain ⟨mc, d, c1, c2, c3⟩ := r.2.2.1 t k hlt hk
    have ht := nCt_lt hk
    have hS2 := (kd1 hS).2
    cases hg : g t k with
    | none =>
      rw [hg] at c3
      obtain ⟨rfl, hl0⟩ := c3
      rw [hl0] at c1
      have hr := r.setL hlt hk (l' := []) (σ' := mPut (mAd t k) (.inl (0, [.int (mc + Int32.ofInt 1), .ref mEMP, .int 0])) σ) (q' := none) ⟨_, _, mPut_at, by simp, rfl, rfl⟩ (fun b hb _ _ => mPut_ne hb) (fun _ _ => rfl) (Nat.le_refl _) (fun j c z => by cases z) (fun x hx => by cases hx) (by rw [hg]; exact Nat.le_refl _) (by rw [hg]; exact Nat.le_refl _)
      refine ⟨p, _, _, ⟨hr, hL, hS2, hp⟩, nLe.rf, rch_lst (As := []) (S := List.map (vw (fN s.1)) S') hF c1 rfl (by decide) rfl cat0 (by rw [List.length_map]; exact h4) rfl (L_clear (n := 0) c1 (ev_go rfl rfl (ev_go rfl rfl (ev_go rfl (st_icT (by decide)) (ev_end rfl rfl)))))⟩
    | some jc =>
      obtain ⟨j, cap⟩ := jc
      rw [hg] at c3
      obtain ⟨rfl, d2, d3, d4, ff, d5, d6⟩ := c3
      have hne : mAd 96 j ≠ mAd t k := mAd_ne (by omega) (by omega) (by omega)
      obtain ⟨f', hf'⟩ := L_clr_loop (xs := xs) (nx := nx) (a := mAd t k) c2 d3 _ 0 (mPut (mAd t k) (.inl (0, [.int (mc + Int32.ofInt 1), .ref (mAd 96 j), .int 0])) σ) ff (Nat.zero_add _) ((mPut_ne hne).trans d5)
      have hr := r.setL hlt hk (l' := []) (σ' := mPut (mAd 96 j) (.inr (3, cap, rRf f')) (mPut (mAd t k) (.inl (0, [.int (mc + Int32.ofInt 1), .ref (mAd 96 j), .int 0])) σ)) (q' := some (j, cap)) ⟨_, _, (mPut_ne (Ne.symm hne)).trans mPut_at, by simp, rfl, d2, Nat.zero_le _, d4, f', mPut_at, fun i x z => by simp at z⟩ (fun b hb h1 h2 => (mPut_ne (h2 j cap rfl)).trans (mPut_ne hb)) (fun _ _ => rfl) (Nat.le_refl _) (fun j2 c z => by cases z; exact Or.inl ⟨_, hg⟩) (fun x hx => by cases hx) (by rw [hg]; exact Nat.le_refl _) (by rw [hg]; exact Nat.le_refl _)
      exact ⟨p, _, _, ⟨hr, hL, hS2, hp⟩, nLe.rf, rch_lst (As := []) (S := List.map (vw (fN s.1)) S') hF c1 rfl (by decide) rfl cat0 (by rw [List.length_map]; exact h4) rfl (L_clear c1 hf')⟩
  · -- get
    rename_i idx o S1
    have h4 : S1.length ≤ 4 := by simp at h5; omega
    rw [show nE2 270 = 34 from rfl] at hF
    rcases o with _ | ⟨t, k⟩
    · cases h
    simp only [nnL] at h
    split at h
    · cases h
    · rename_i h0
      cases he : (fL s.1 t k)[idx.toNatClampNeg]? with
      | none => rw [he] at h; cases h
      | some e =>
        rw [he] at h
        cases h
        obtain ⟨hk, hlt⟩ := (kd1 (kd1 hS).2).1 t k rfl
        obtain ⟨mc, d, c1, c2, c3⟩ := r.2.2.1 t k hlt hk
        have ht := nCt_lt hk
        have hil := (List.getElem?_eq_some_iff.mp he).1
        cases hg : g t k with
        | none =>
          rw [hg] at c3
          rw [c3.2] at he
          simp at he
        | some jc =>
          obtain ⟨j, cap⟩ := jc
          rw [hg] at c3
          obtain ⟨rfl, d2, d3, d4, ff, d5, d6⟩ := c3
          have hv : vk (fN s.1) p (vR (nLt t) (some e)) := fun k9 e9 => by
            cases e9
            exact Or.inl ⟨r.2.2.2.2.2.2.2.1 t k e hlt hk (List.mem_of_getElem? he), ((nTab9 t ht).resolve_left hlt).1⟩
          exact ⟨p, σ, g, ⟨r, hL, kc1 hv (kd1 (kd1 hS).2).2, hp⟩, nLe.rf, rch_lst (As := [.int idx]) (S := List.map (vw (fN s.1)) S1) hF c1 rfl (by decide) rfl cat1 (by rw [List.length_map]; exact h4) rfl (L_get h0 hil c2 d3 c1 d5 (d6 _ _ he))⟩
  · -- remove
    rename_i idx o S1
    have h4 : S1.length ≤ 4 := by simp at h5; omega
    rw [show nE2 272 = 66 from rfl] at hF
    rcases o with _ | ⟨t, k⟩
    · cases h
    simp only [nnL] at h
    split at h
    · cases h
    · rename_i h0
      cases he : (fL s.1 t k)[idx.toNatClampNeg]? with
      | none => rw [he] at h; cases h
      | some e =>
        rw [he] at h
        cases h
        obtain ⟨hk, hlt⟩ := (kd1 (kd1 hS).2).1 t k rfl
        obtain ⟨mc, d, c1, c2, c3⟩ := r.2.2.1 t k hlt hk
        have ht := nCt_lt hk
        have hil := (List.getElem?_eq_some_iff.mp he).1
        cases hg : g t k with
        | none =>
          rw [hg] at c3
          rw [c3.2] at he
          simp at he
        | some jc =>
          obtain ⟨j, cap⟩ := jc
          rw [hg] at c3
          obtain ⟨rfl, d2, d3, d4, ff, d5, d6⟩ := c3
          have hne : mAd 96 j ≠ mAd t k := mAd_ne (by omega) (by omega) (by omega)
          have hv : vk (fN s.1) p (vR (nLt t) (some e)) := fun k9 e9 => by
            cases e9
            exact Or.inl ⟨r.2.2.2.2.2.2.2.1 t k e hlt hk (List.mem_of_getElem? he), ((nTab9 t ht).resolve_left hlt).1⟩
          obtain ⟨f', g1, g2⟩ := L_remove (xs := xs) (nx := nx) h0 hil c2 d3 hne c1 d5 (d6 _ _ he)
          have hlen : ((fL s.1 t k).eraseIdx idx.toNatClampNeg).length = (fL s.1 t k).length - 1 := by
            rw [List.length_eraseIdx, if_pos hil]
          have hr := r.setL hlt hk (l' := (fL s.1 t k).eraseIdx idx.toNatClampNeg) (σ' := mPut (mAd 96 j) (.inr (3, cap, rRf f')) (mPut (mAd t k) (.inl (0, [.int (mc + Int32.ofInt 1), .ref (mAd 96 j), .int (Int32.ofNat ((fL s.1 t k).length - 1))])) σ)) (q' := some (j, cap)) ⟨_, _, (mPut_ne (Ne.symm hne)).trans (by rw [hlen]; exact mPut_at), by omega, rfl, d2, by omega, d4, f', mPut_at, fun i x z => by
              have hlt2 := (List.getElem?_eq_some_iff.mp z).1
              rw [hlen] at hlt2
              rw [List.getElem?_eraseIdx] at z
              rw [g1 i hlt2]
              split at z
              · rename_i hc
                rw [if_pos hc]
                exact d6 i x z
              · rename_i hc
                rw [if_neg hc]
                exact d6 (i + 1) x z⟩ (fun b hb h1 h2 => (mPut_ne (h2 j cap rfl)).trans (mPut_ne hb)) (fun _ _ => rfl) (Nat.le_refl _) (fun j2 c z => by cases z; exact Or.inl ⟨_, hg⟩) (fun x hx => r.2.2.2.2.2.2.2.1 t k x hlt hk (List.mem_of_mem_eraseIdx hx)) (by rw [hg]; exact Nat.le_refl _) (by rw [hg]; exact Nat.le_refl _)
          exact ⟨p, _, _, ⟨hr, hL, kc1 hv (kd1 (kd1 hS).2).2, hp⟩, nLe.rf, rch_lst (As := [.int idx]) (S := List.map (vw (fN s.1)) S1) hF c1 rfl (by decide) rfl cat1 (by rw [List.length_map]; exact h4) rfl g2⟩
  · -- add
    rename_i t' oe o S1
    have h4 : S1.length ≤ 4 := by simp at h5; omega
    rw [show nE2 279 = 34 from rfl] at hF
    rcases o with _ | ⟨t, k⟩
    · cases h
    simp only [nnL] at h
    unfold ntg at h
    cases hb : Nat.beq t' (nLt t) with
    | false => rw [hb] at h; cases h
    | true =>
      rw [hb] at h
      have e9 := Nat.eq_of_beq_eq_true hb
      subst e9
      rcases oe with _ | e
      · cases h
      simp only [cond_true, nn] at h
      split at h
      · rename_i hl5
        cases h
        obtain ⟨hk, hlt⟩ := (kd1 (kd1 hS).2).1 t k rfl
        obtain ⟨mc, d, c1, c2, c3⟩ := r.2.2.1 t k hlt hk
        have ht := nCt_lt hk
        obtain ⟨q1, q2, q3⟩ := (nTab9 t ht).resolve_left hlt
        have he : e < nCt (fN s.1) (nLt t) := by
          rcases (kd1 hS).1 e rfl with z | z
          · exact z.1
          · exact absurd z.1 q2
        have hmay : mMay σ.1 3 (mAd (nLt t) e) = true := by
          obtain ⟨c9, hc9, hc⟩ := (nTab10 t ht).resolve_left hlt
          unfold mMay
          rw [← hc] at he ⊢
          rw [r.obj he]
          rfl
        have hS2 : ∀ v ∈ vI 1 :: S1, vk (fN s.1) p v := kc1 trivial (kd1 (kd1 hS).2).2
        have hcall : ∀ (σ1 : mS), mEv xs nx 279 0 [some (.ref (mAd t k)), some (.ref (mAd (nLt t) e))] [] σ (.inl (some (.int 1)), σ1) → mRch xs nx y (pc, wl (fN s.1) L, (vR (nLt t) (some e) :: vL (some (t, k)) :: S1).map (vw (fN s.1)), σ) (pc + 3, wl (fN s.1) L, (vI 1 :: S1).map (vw (fN s.1)), σ1) := fun σ1 hr => rch_lst (As := [.ref (mAd (nLt t) e)]) (S := List.map (vw (fN s.1)) S1) hF c1 rfl (by decide) rfl catR (by rw [List.length_map]; exact h4) rfl hr
        have hat : mAd t k ≠ mAd 96 (σ.2.1 96) := mAd_ne (by omega) (by omega) (by omega)
        have hev : mAd (nLt t) e ≠ mAd 96 (σ.2.1 96) := mAd_ne (by omega) (by omega) (by omega)
        cases hg : g t k with
        | none =>
          rw [hg] at c3
          obtain ⟨rfl, hl0⟩ := c3
          have hlen0 : (fL s.1 t k).length = 0 := by rw [hl0]; rfl
          rw [hlen0] at c1
          have hP : (mPut (mAd t k) (.inl (0, [.int (mc + Int32.ofInt 1), .ref mEMP, .int (Int32.ofNat 0)])) σ).1 (mAd t k) = _ := mPut_at
          have hg0 := L_grow0 (xs := xs) (nx := nx) hP hat
          have hA : (mPut (mAd t k) (.inl (0, [.int (mc + Int32.ofInt 1), .ref (mAd 96 (σ.2.1 96)), .int (Int32.ofNat 0)])) (mNew 96 (.inr (3, 10, rRf fun _ => none)) 10 (mPut (mAd t k) (.inl (0, [.int (mc + Int32.ofInt 1), .ref mEMP, .int (Int32.ofNat 0)])) σ))).1 (mAd 96 (σ.2.1 96)) = some (.inr (3, 10, rRf fun _ => none)) := (mPut_ne (Ne.symm hat)).trans (va_up_self _ _ _)
          have hm2 : mMay (mPut (mAd t k) (.inl (0, [.int (mc + Int32.ofInt 1), .ref (mAd 96 (σ.2.1 96)), .int (Int32.ofNat 0)])) (mNew 96 (.inr (3, 10, rRf fun _ => none)) 10 (mPut (mAd t k) (.inl (0, [.int (mc + Int32.ofInt 1), .ref mEMP, .int (Int32.ofNat 0)])) σ))).1 3 (mAd (nLt t) e) = true :=
            (mMay_obj (c := 0) (fs := [.int (mc + Int32.ofInt 1), .ref mEMP, .int (Int32.ofNat 0)]) ((va_up_ne _ _ hat).trans mPut_at)).trans ((mMay_eq (va_up_ne _ _ hev)).trans ((mMay_obj c1).trans hmay))
          have hT := L_addT (xs := xs) (nx := nx) (n := 0) (q := none) (by decide) (by decide) hat mPut_at hA hm2
          have h278 := ev_go (xs := xs) (nx := nx) (y := 278) (pc := 0) (L := [some (.ref (mAd t k)), some (.ref (mAd (nLt t) e)), some (.ref mEMP), some (.int (Int32.ofNat 0))]) (S := []) rfl rfl (ev_go rfl rfl (ev_go rfl rfl (ev_go rfl (st_icF (by decide)) (ev_go rfl rfl (ev_call rfl (st_vrt (As := []) (S := []) hP (by decide) rfl cat0 (by decide)) hg0 (ev_go rfl rfl hT))))))
          have hadd := L_add (by decide) c1 h278 ⟨_, rfl⟩
          refine ⟨p, _, _, ⟨nAdd r hlt hk he hl5 (j := σ.2.1 96) (c := 10) (f' := fun _ => none) ?_ ?_ ?_ ?_ (Or.inr (Nat.le_refl _)) (by omega) (by decide) (fun i x z => by rw [hl0] at z; simp at z) ?_ ?_, hL, hS2, hp⟩, nLe.rf, hcall _ (by rw [hlen0]; exact hadd)⟩
          · intro b hb1 hb2
            exact (mPut_ne hb1).trans ((va_up_ne _ _ hb2).trans (mPut_ne hb1))
          · intro t' ht'
            exact va_up_ne _ _ (by omega)
          · show σ.2.1 96 ≤ va_up σ.2.1 96 (σ.2.1 96 + 1) 96
            rw [va_up_self]; omega
          · show σ.2.1 96 < va_up σ.2.1 96 (σ.2.1 96 + 1) 96
            rw [va_up_self]; omega
          · rw [hg]; exact Nat.le_refl _
          · rw [hg]
            show σ.2.2.2 + 10 + 549 * 0 ≤ σ.2.2.2 + 549 * 1
            omega
        | some jc =>
          obtain ⟨j, cap⟩ := jc
          rw [hg] at c3
          obtain ⟨rfl, d2, d3, d4, ff, d5, d6⟩ := c3
          have hne : mAd 96 j ≠ mAd t k := mAd_ne (by omega) (by omega) (by omega)
          have hD96 : mAd 96 j % 128 = 96 := by unfold mAd; omega
          have hP : (mPut (mAd t k) (.inl (0, [.int (mc + Int32.ofInt 1), .ref (mAd 96 j), .int (Int32.ofNat (fL s.1 t k).length)])) σ).1 (mAd t k) = _ := mPut_at
          have hPD : (mPut (mAd t k) (.inl (0, [.int (mc + Int32.ofInt 1), .ref (mAd 96 j), .int (Int32.ofNat (fL s.1 t k).length)])) σ).1 (mAd 96 j) = some (.inr (3, cap, rRf ff)) := (mPut_ne hne).trans d5
          have hs1 : mAd 96 j ≠ mSCR := fun z => by rw [z] at hD96; simp [mSCR] at hD96
          have hs2 : mAd 96 j ≠ mEMP := fun z => by rw [z] at hD96; simp [mEMP] at hD96
          by_cases hfull : (fL s.1 t k).length = cap
          · have hneD : mAd 96 j ≠ mAd 96 (σ.2.1 96) := mAd_ne (by omega) (by omega) (by omega)
            have hc5 : cap < 500 := by omega
            obtain ⟨n1, n2, n3, n4, n5⟩ := nLv_nx d4 hc5
            rw [hfull] at hP hPD c1
            obtain ⟨f', g1, g2⟩ := L_grow1 (xs := xs) (nx := nx) hD96 d4 hc5 hP hPD hat hneD
            have hA : (mPut (mAd t k) (.inl (0, [.int (mc + Int32.ofInt 1), .ref (mAd 96 (σ.2.1 96)), .int (Int32.ofNat cap)])) (mNew 96 (.inr (3, nNx cap, rRf f')) (nNx cap) (mPut (mAd t k) (.inl (0, [.int (mc + Int32.ofInt 1), .ref (mAd 96 j), .int (Int32.ofNat cap)])) σ))).1 (mAd 96 (σ.2.1 96)) = some (.inr (3, nNx cap, rRf f')) := (mPut_ne (Ne.symm hat)).trans (va_up_self _ _ _)
            have hm2 : mMay (mPut (mAd t k) (.inl (0, [.int (mc + Int32.ofInt 1), .ref (mAd 96 (σ.2.1 96)), .int (Int32.ofNat cap)])) (mNew 96 (.inr (3, nNx cap, rRf f')) (nNx cap) (mPut (mAd t k) (.inl (0, [.int (mc + Int32.ofInt 1), .ref (mAd 96 j), .int (Int32.ofNat cap)])) σ))).1 3 (mAd (nLt t) e) = true :=
              (mMay_obj (c := 0) (fs := [.int (mc + Int32.ofInt 1), .ref (mAd 96 j), .int (Int32.ofNat cap)]) ((va_up_ne _ _ hat).trans mPut_at)).trans ((mMay_eq (va_up_ne _ _ hev)).trans ((mMay_obj c1).trans hmay))
            have hT := L_addT (xs := xs) (nx := nx) (n := cap) (q := none) n2 hc5 hat mPut_at hA hm2
            have h278 := ev_go (xs := xs) (nx := nx) (y := 278) (pc := 0) (L := [some (.ref (mAd t k)), some (.ref (mAd (nLt t) e)), some (.ref (mAd 96 j)), some (.int (Int32.ofNat cap))]) (S := []) rfl rfl (ev_go rfl rfl (ev_go rfl (st_alen hPD hs1 hs2) (ev_go rfl (st_icF (by simp [mCmp])) (ev_go rfl rfl (ev_call rfl (st_vrt (As := []) (S := []) hP (by decide) rfl cat0 (by decide)) g2 (ev_go rfl rfl hT))))))
            have hadd := L_add hc5 c1 h278 ⟨_, rfl⟩
            refine ⟨p, _, _, ⟨nAdd r hlt hk he hl5 (j := σ.2.1 96) (c := nNx cap) (f' := f') ?_ ?_ ?_ ?_ (Or.inr (Nat.le_refl _)) (by omega) (by omega) (fun i x z => ?_) ?_ ?_, hL, hS2, hp⟩, nLe.rf, hcall _ (by rw [hfull]; exact hadd)⟩
            · intro b hb1 hb2
              exact (mPut_ne hb1).trans ((va_up_ne _ _ hb2).trans (mPut_ne hb1))
            · intro t' ht'
              exact va_up_ne _ _ (by omega)
            · show σ.2.1 96 ≤ va_up σ.2.1 96 (σ.2.1 96 + 1) 96
              rw [va_up_self]; omega
            · show σ.2.1 96 < va_up σ.2.1 96 (σ.2.1 96 + 1) 96
              rw [va_up_self]; omega
            · rw [g1 i (by have := (List.getElem?_eq_some_iff.mp z).1; omega)]
              exact d6 i x z
            · rw [hg, n1]
              show σ.2.2.1 + 1 + nLv cap ≤ σ.2.2.1 + (nLv cap + 1)
              omega
            · rw [hg, n1]
              show σ.2.2.2 + nNx cap + 549 * nLv cap ≤ σ.2.2.2 + 549 * (nLv cap + 1)
              omega
          · have hm2 : mMay (mPut (mAd t k) (.inl (0, [.int (mc + Int32.ofInt 1), .ref (mAd 96 j), .int (Int32.ofNat (fL s.1 t k).length)])) σ).1 3 (mAd (nLt t) e) = true := (mMay_obj c1).trans hmay
            have hT := L_addT (xs := xs) (nx := nx) (q := none) (by omega) hl5 (Ne.symm hne) hP hPD hm2
            have hnc : ¬ Int32.ofNat (fL s.1 t k).length = Int32.ofNat cap := by
              intro z
              have hb := nLv_cases d4
              have := congrArg Int32.toInt z
              rw [Int32.toInt_ofNat_of_lt (by omega), Int32.toInt_ofNat_of_lt (by omega)] at this
              omega
            have h278 := ev_go (xs := xs) (nx := nx) (y := 278) (pc := 0) (L := [some (.ref (mAd t k)), some (.ref (mAd (nLt t) e)), some (.ref (mAd 96 j)), some (.int (Int32.ofNat (fL s.1 t k).length))]) (S := []) rfl rfl (ev_go rfl rfl (ev_go rfl (st_alen hPD hs1 hs2) (ev_go rfl (st_icT (by simp only [mCmp, decide_eq_true_eq]; exact hnc)) hT)))
            have hadd := L_add hl5 c1 h278 ⟨_, rfl⟩
            refine ⟨p, _, _, ⟨nAdd r hlt hk he hl5 (σB := mPut (mAd t k) (.inl (0, [.int (mc + Int32.ofInt 1), .ref (mAd 96 j), .int (Int32.ofNat (fL s.1 t k).length)])) σ) (j := j) (c := cap) (f' := ff) ?_ ?_ ?_ d2 (Or.inl ⟨_, hg⟩) (by omega) d4 d6 ?_ ?_, hL, hS2, hp⟩, nLe.rf, hcall _ hadd⟩
            · intro b hb1 hb2
              exact mPut_ne hb1
            · intro t' ht'
              rfl
            · exact Nat.le_refl _
            · rw [hg]; exact Nat.le_refl _
            · rw [hg]; exact Nat.le_refl _
      · cases h
  · cases h
end NLM
