/-! ===== a step that goes on ===== -/
theorem kc1 {N : Nat → Nat} {p : Option Nat} {v : nV} {S : List nV} (hv : vk N p v) (hS : ∀ w ∈ S, vk N p w) : ∀ w ∈ v :: S, vk N p w := fun w hw => (List.mem_cons.mp hw).elim (fun e => e ▸ hv) (hS w)
theorem kd1 {N : Nat → Nat} {p : Option Nat} {v : nV} {S : List nV} (h : ∀ w ∈ v :: S, vk N p w) : vk N p v ∧ ∀ w ∈ S, vk N p w := ⟨h v List.mem_cons_self, fun w hw => h w (List.mem_cons_of_mem _ hw)⟩
def nGoes (xs : Nat → Int32) (nx y pc : Nat) (L : nLs) (S : List nV) (s : nS) (σ : mS) (pc' : Nat) (L' : nLs) (S' : List nV) (s' : nS) : Prop :=
  ∃ (p' : Option Nat) (σ' : mS) (g' : Nat → Nat → Option (Nat × Nat)), nCf p' s' σ' g' L' S' ∧ nLe s s' ∧ mRch xs nx y (pc, wl (fN s.1) L, S.map (vw (fN s.1)), σ) (pc', wl (fN s'.1) L', S'.map (vw (fN s'.1)), σ')
/-- owed of the methods of lists -/
def nLmOK (xs : Nat → Int32) (nx : Nat) : Prop := ∀ (p : Option Nat) (s : nS) (σ : mS) (g : Nat → Nat → Option (Nat × Nat)) (y pc i n y' pc' : Nat) (L L' : nLs) (S S' : List nV) (s' : nS), nCf p s σ g L S → mF y pc = some (.invokevirtual i, n, y', nE2 y') → nLst y' = true → S.length ≤ 5 → nLm y' (pc + 3) L S s (fun pc L S s => some (Sum.inl (pc, L, S, s))) = (some (Sum.inl (pc', L', S', s')) : Option nAct) → nGoes xs nx y pc L S s σ pc' L' S' s'
/-- owed of the constructors -/
def nCtOK (xs : Nat → Int32) (nx : Nat) : Prop := ∀ (p : Option Nat) (s : nS) (σ : mS) (g : Nat → Nat → Option (Nat × Nat)) (y pc i n y' pc' : Nat) (L L' : nLs) (S S' : List nV) (s' : nS), nCf p s σ g L S → mF y pc = some (.invokespecial i, n, y', nE2 y') → nMk y' = true → nCtor y' (pc + 3) L S s (fun q L S s => cond (Nat.ble S.length 4) (some (Sum.inl (q, L, S, s))) none) = (some (Sum.inl (pc', L', S', s')) : Option nAct) → nGoes xs nx y pc L S s σ pc' L' S' s'
section NGO
variable {xs : Nat → Int32} {nx : Nat} {p : Option Nat} {s : nS} {σ : mS} {g : Nat → Nat → Option (Nat × Nat)} {y pc pc' : Nat} {e : mE} {L L' : nLs} {S S' : List nV} {s' : nS}
theorem nCf.same (f : nCf p s σ g L S) (hF : mF y pc = some e) (hL' : ∀ v, some v ∈ L' → vk (fN s.1) none v) (hS' : ∀ v ∈ S', vk (fN s.1) p v) (hp' : p = pdS S') (hst : mStep mFk xs nx e pc (wl (fN s.1) L) (S.map (vw (fN s.1))) σ = some (.inl (pc', wl (fN s.1) L', S'.map (vw (fN s.1)), σ))) : nGoes xs nx y pc L S s σ pc' L' S' s :=
  ⟨p, σ, g, ⟨f.1, hL', hS', hp'⟩, nLe.rf, mRch.one hF hst⟩
theorem nLd {k : Nat} {v : nV} (hx : L[k]? = some (some v)) (f : nCf p s σ g L S) : vk (fN s.1) none v := f.2.1 v (List.mem_of_getElem? hx)
theorem nIs_obj (r : nRel p s σ g) {c t k : Nat} (hb : Nat.beq t (nTg c) = true) (hv : vk (fN s.1) p (vR t (some k))) : t = nTg c ∧ k < nCt (fN s.1) (nTg c) := by
  have e := Nat.eq_of_beq_eq_true hb
  subst e
  rcases hv k rfl with h | h
  · exact ⟨rfl, h.1⟩
  · exact absurd h.1 nTg_127
theorem mFit_vw {N : Nat → Nat} {t : Nat} {o : Option Nat} : ∃ w, (vw N (vR t o) = w ∧ ((∃ a, w = .ref a) ∨ w = .null)) := ⟨_, rfl, by cases o; exact Or.inr rfl; exact Or.inl ⟨_, rfl⟩⟩
theorem nSw_ok {x : Int32} {pc : Nat} {β : Type} {d : Option β} {f : Nat → Option β} : ∀ (offs : List Int) (lo : Int), 0 ≤ lo → lo + offs.length ≤ 1000 → nSw x lo offs pc d f = (if x.toInt < lo ∨ lo + offs.length ≤ x.toInt then d else match offs[(x.toInt - lo).toNat]? with
    | some o => f ((pc : Int) + o).toNat
    | none => none) := by
  intro offs
  induction offs with
  | nil =>
    intro lo h0 h1
    unfold nSw
    rw [if_pos (by simp; omega)]
  | cons o os ih =>
    intro lo h0 h1
    simp only [List.length_cons] at h1 ⊢
    unfold nSw
    have hck : (nCk lo).toInt = lo := by
      rw [nCk_ofInt, Int32.toInt_ofInt_of_le (by omega) (by omega)]
    by_cases e : x = nCk lo
    · rw [if_pos e]
      have e2 : x.toInt = lo := by rw [e, hck]
      rw [if_neg (by omega), e2, show (lo - lo).toNat = 0 by omega]
      rfl
    · rw [if_neg e, ih (lo + 1) (by omega) (by omega)]
      have e2 : x.toInt ≠ lo := fun z => e (Int32.toInt_inj.mp (z.trans hck.symm))
      by_cases hc : x.toInt < lo ∨ lo + ((os.length : Nat) + 1 : Int) ≤ x.toInt
      · rw [if_pos (by omega), if_pos (by omega)]
      · rw [if_neg (by omega), if_neg (by omega)]
        rw [show (x.toInt - lo).toNat = (x.toInt - (lo + 1)).toNat + 1 by omega, List.getElem?_cons_succ]
theorem mIn_iff {i : Int32} {n : Nat} : mIn i n = true ↔ ¬ i < 0 ∧ i.toNatClampNeg < n := by
  unfold mIn
  simp
theorem nVk_arr (r : nRel p s σ g) {t k : Nat} (hv : vk (fN s.1) p (vR t (some k))) (h : t ≠ 127) : k < nCt (fN s.1) t := by
  rcases hv k rfl with h1 | h1
  · exact h1.1
  · exact absurd h1.1 h
theorem beq_ne {a b c : Nat} (h : Nat.beq a b = true) (hc : b ≠ c) : a ≠ c := fun z => hc ((Nat.eq_of_beq_eq_true h).symm.trans z)
theorem nTab8 : ∀ c < 13, nTg c < 100 := by decide +kernel
theorem nTg_100 {c : Nat} : nTg c < 100 := by
  by_cases hc : c < 13
  · exact nTab8 c hc
  · rw [nTg_hi (by omega)]; decide
theorem nNew_ok {i n c t : Nat} (f : nCf p s σ g L S) (hF : mF y pc = some (.new i, n, c, t)) (ha : S.all nOk1 = true) (h100 : ¬ 100 ≤ c) (b1 : nTg c = t) (b2 : nGp t = t) : nGoes xs nx y pc L S s σ (pc + n) L (vU t :: S) s := by
  obtain ⟨r, hL, hS, hp⟩ := f
  have hpn : p = none := by
    rw [hp]
    clear hp hS hF r hL
    induction S with
    | nil => rfl
    | cons v S ih =>
      rw [List.all_cons, Bool.and_eq_true] at ha
      rcases v with x | x | q | q | q
      · exact ih ha.2
      · exact ih ha.2
      · exact ih ha.2
      · exact ih ha.2
      · cases ha.1
  subst hpn
  have ht : t < 96 := by
    refine Nat.lt_of_not_le fun z => ?_
    have := nGp_hi z
    have h9 : nTg c < 100 := nTg_100
    omega
  have hc13 : c < 13 := Nat.lt_of_not_le fun z => by rw [nTg_hi z] at b1; omega
  have hc1 : 1 ≤ c := by
    refine Nat.lt_of_not_le fun z => ?_
    have : c = 0 := by omega
    subst this
    have : nTg 0 = 99 := by decide
    omega
  have hct : nCt (fN s.1) t = fN s.1 t := by
    unfold nCt
    rw [b2, show Nat.ble 100 t = false from (by cases hb : Nat.ble 100 t with | false => rfl | true => have := Nat.le_of_ble_eq_true hb; omega)]
    rfl
  obtain ⟨r1, r2, r3, r4, r5, r6, r7, r8, r9, r10⟩ := r
  have hcnt : σ.2.1 t = fN s.1 t := by rw [r5 t ht, hct]; rfl
  have hne : ∀ (t' k' : Nat), t' < 128 → ¬ (t' = t ∧ k' = fN s.1 t) → (mNew t (.inl (c, (mFk c).map mDf)) (mFk c).length σ).1 (mAd t' k') = σ.1 (mAd t' k') := fun t' k' h1 h2 => by
    show va_up σ.1 (mAd t (σ.2.1 t)) _ (mAd t' k') = _
    rw [hcnt]
    exact va_up_ne _ _ (mAd_ne h1 (by omega) h2)
  have hlt : ∀ {t' k'}, k' < nCt (fN s.1) t' → ¬ (t' = t ∧ k' = fN s.1 t) := fun h z => by rw [z.1, hct] at h; omega
  refine ⟨some t, mNew t (.inl (c, (mFk c).map mDf)) (mFk c).length σ, g, ⟨⟨fun c' k' h => ?_, fun t' k' h9 h => ?_, fun t' k' hl h => ?_, r4, fun t' h => ?_, fun t' h => ?_, r7, r8, r9, ?_⟩, hL, ?_, rfl⟩, nLe.rf, mRch.one hF ?_⟩
  · rw [hne _ _ (by have := nCt_lt h; omega) (hlt h)]; exact r1 c' k' h
  · rw [hne _ _ (by have := nCt_lt h; omega) (hlt h)]; exact r2 t' k' h9 h
  · refine (r3 t' k' hl h).mono (hne _ _ (by have := nCt_lt h; omega) (hlt h)) (fun j c9 _ => hne 96 j (by omega) (fun z => by omega)) ?_
    show σ.2.1 96 ≤ va_up σ.2.1 t (σ.2.1 t + 1) 96
    rw [va_up_ne _ _ (by omega)]
    exact Nat.le_refl _
  · show va_up σ.2.1 t (σ.2.1 t + 1) t' = _
    by_cases e : t' = t
    · subst e
      rw [va_up_self, if_pos rfl, r5 t' h]
      rfl
    · rw [va_up_ne _ _ e, if_neg (fun z => e (by cases z; rfl)), r5 t' h]
      rfl
  · cases h
    refine ⟨b2, c, b1, ?_⟩
    show va_up σ.1 (mAd t (σ.2.1 t)) _ (mAd t (fN s.1 t)) = _
    rw [hcnt]
    exact va_up_self _ _ _
  · unfold nCost at r10 ⊢
    have hl : (mFk c).length ≤ 20 := by
      have : ∀ c < 13, 1 ≤ c → nGp (nTg c) = nTg c → (mFk c).length ≤ 20 := by decide +kernel
      exact this c hc13 hc1 (by rw [b1]; exact b2)
    obtain ⟨a, b⟩ := r10
    refine ⟨?_, ?_⟩
    · show σ.2.2.1 + 1 ≤ _ + 1
      simp only [nPn] at a
      omega
    · show σ.2.2.2 + (mFk c).length ≤ _ + 20 * 1
      simp only [nPn] at b
      omega
  · intro v hv
    rcases List.mem_cons.mp hv with rfl | hv
    · rfl
    · exact vk_up (hS v hv)
  · show (if 100 ≤ c then _ else _) = _
    rw [if_neg h100, hcnt]
    rfl
theorem nCl_no {kd ci y' n ml : Nat} (h : nCl kd ci y' n ml S s (fun y A ml S s => some (.inr (.inl (y, A, ml, S, s)))) = (some (.inl (pc', L', S', s')) : Option nAct)) : False := by
  unfold nCl at h
  cases hb : (Nat.ble n S.length && Nat.ble S.length (n + 8) && S.all nOk1) with
  | false => rw [hb] at h; cases h
  | true =>
    rw [hb] at h
    simp only [cond_true] at h
    split at h
    · cases h
    · split at h
      · unfold ntg at h
        rename_i t o A _
        cases hb2 : Nat.beq t (nTg ci) with
        | false => rw [hb2] at h; cases h
        | true =>
          rw [hb2] at h
          cases o <;> cases h
      · cases h
theorem band {a b : Bool} (h : (a && b) = true) : a = true ∧ b = true := by simpa using h
theorem nArr_iald {n e1 e2 : Nat} (f : nCf p s σ g L S) (hF : mF y pc = some (.iaload, n, e1, e2)) (h : nK xs nx (fun pc L S s => some (.inl (pc, L, S, s))) (fun y A ml S s => some (.inr (.inl (y, A, ml, S, s)))) (fun r s => some (.inr (.inr (r, s)))) .iaload n e1 e2 y pc L S s = (some (.inl (pc', L', S', s')) : Option nAct)) : nGoes xs nx y pc L S s σ pc' L' S' s' := by
  obtain ⟨r, hL, hS, hp⟩ := id f
  simp only [nK] at h
  split at h
  · rename_i i t o S1
    cases o with
    | none => cases h
    | some k =>
      simp only [nn] at h
      have hv := (kd1 (kd1 hS).2).1
      have hS2 := (kd1 (kd1 hS).2).2
      cases h127 : Nat.beq t 127 with
      | true =>
        rw [h127] at h
        simp only [cond_true] at h
        have e := Nat.eq_of_beq_eq_true h127
        subst e
        have hk1 : k = 1 := by
          rcases hv k rfl with ⟨h1, -⟩ | ⟨-, h1⟩
          · have := nCt_lt h1; omega
          · exact h1
        subst hk1
        split at h
        · rename_i hi
          cases h
          exact f.same hF hL (kc1 trivial hS2) hp (by
            simp only [mStep, mIald, List.map_cons, vw]
            rw [if_pos (show mAd 127 1 = mSCR from rfl), if_pos hi]
            rfl)
        · cases h
      | false =>
        rw [h127] at h
        simp only [cond_false] at h
        have hn127 : t ≠ 127 := fun z => by rw [z] at h127; cases h127
        have hk := nVk_arr r hv hn127
        have ht := nCt_lt hk
        have hscr : ¬ mAd t k = mSCR := by unfold mAd mSCR; omega
        cases h6 : (Nat.beq (nAt t) 6 && nYo y) with
        | true =>
          rw [h6] at h
          simp only [cond_true] at h
          split at h
          · rename_i hi
            cases h
            have e6 := Nat.eq_of_beq_eq_true (band h6).1
            refine f.same hF hL (kc1 trivial hS2) hp ?_
            show (if mAd t k = mSCR then _ else match σ.1 (mAd t k) with | some (.inr (0, n, .inl f)) => _ | _ => none) = _
            rw [if_neg hscr, r.arr (by omega) hk]
            unfold nRw
            rw [e6]
            simp only [hi, if_true]
            rfl
          · cases h
        | false =>
          rw [h6] at h
          simp only [cond_false] at h
          cases h0 : Nat.beq (nAt t) 0 with
          | false => rw [h0] at h; cases h
          | true =>
            rw [h0] at h
            simp only [cond_true] at h
            split at h
            · rename_i hi
              cases h
              have e0 := Nat.eq_of_beq_eq_true h0
              refine f.same hF hL (kc1 trivial hS2) hp ?_
              show (if mAd t k = mSCR then _ else match σ.1 (mAd t k) with | some (.inr (0, n, .inl f)) => _ | _ => none) = _
              rw [if_neg hscr, r.arr (by omega) hk]
              unfold nRw
              rw [e0]
              simp only [hi, if_true]
              rfl
            · cases h
  · cases h
theorem nArr_bald {n e1 e2 : Nat} (f : nCf p s σ g L S) (hF : mF y pc = some (.baload, n, e1, e2)) (h : nK xs nx (fun pc L S s => some (.inl (pc, L, S, s))) (fun y A ml S s => some (.inr (.inl (y, A, ml, S, s)))) (fun r s => some (.inr (.inr (r, s)))) .baload n e1 e2 y pc L S s = (some (.inl (pc', L', S', s')) : Option nAct)) : nGoes xs nx y pc L S s σ pc' L' S' s' := by
  obtain ⟨r, hL, hS, hp⟩ := id f
  simp only [nK] at h
  split at h
  · rename_i i t o S1
    cases o with
    | none => cases h
    | some k =>
      simp only [nn] at h
      have hv := (kd1 (kd1 hS).2).1
      have hS2 := (kd1 (kd1 hS).2).2
      cases h6 : (Nat.beq (nAt t) 1 && nYo y) with
      | false => rw [h6] at h; cases h
      | true =>
        rw [h6] at h
        simp only [cond_true] at h
        split at h
        · rename_i hi
          cases h
          have e6 := Nat.eq_of_beq_eq_true (band h6).1
          have hk := nVk_arr r hv (fun z => by rw [z, nAt_hi (by decide)] at e6; cases e6)
          refine f.same hF hL (kc1 trivial hS2) hp ?_
          show (match σ.1 (mAd t k) with | some (.inr (1, n, .inl f)) => _ | _ => none) = _
          rw [r.arr (by omega) hk]
          unfold nRw
          rw [e6]
          simp only [hi, if_true]
          rfl
        · cases h
  · cases h
theorem nArr_lald {n e1 e2 : Nat} (f : nCf p s σ g L S) (hF : mF y pc = some (.laload, n, e1, e2)) (h : nK xs nx (fun pc L S s => some (.inl (pc, L, S, s))) (fun y A ml S s => some (.inr (.inl (y, A, ml, S, s)))) (fun r s => some (.inr (.inr (r, s)))) .laload n e1 e2 y pc L S s = (some (.inl (pc', L', S', s')) : Option nAct)) : nGoes xs nx y pc L S s σ pc' L' S' s' := by
  obtain ⟨r, hL, hS, hp⟩ := id f
  simp only [nK] at h
  split at h
  · rename_i i t o S1
    cases o with
    | none => cases h
    | some k =>
      simp only [nn] at h
      have hv := (kd1 (kd1 hS).2).1
      have hS2 := (kd1 (kd1 hS).2).2
      cases h6 : (Nat.beq t 2 && Nat.beq (nAt t) 2) with
      | false => rw [h6] at h; cases h
      | true =>
        have e6 := Nat.eq_of_beq_eq_true (band h6).1
        subst e6
        exact absurd (band h6).2 (by decide)
  · cases h
theorem nRel.putM (r : nRel p s σ g) {t k i : Nat} {x : Int32} (h16 : nAt t = 1 ∨ nAt t = 6) (hk : k < nCt (fN s.1) t) : nRel p (s.1, uM t i x s.2.1, s.2.2) (mPut (mAd t k) (.inr (nRw (s.1, uM t i x s.2.1, s.2.2) t k)) σ) g := by
  have h9 : nAt t ≠ 9 := by rcases h16 with h | h <;> omega
  refine r.arp h9 hk rfl rfl rfl ?_ ?_ (fun k' i' l h hl => r.2.2.2.2.2.2.2.2.1 k' i' l h hl)
  · intro c' k' j' h
    unfold nGet
    split <;> first | rfl | skip
    rename_i t9 hq
    show vI (uM t i x s.2.1 1 j') = vI (s.2.1 1 j')
    have : (1 : Nat) ≠ t := fun e => by
      rw [← e] at h16
      rcases h16 with h | h <;> exact absurd h (by decide)
    simp [uM, up2, this]
  · intro t' k' h9' h n
    refine nRw_of h9' (fun _ => rfl) (fun h2 => ?_) (fun _ => rfl) rfl
    have hne : t' ≠ t := by
      intro e
      subst e
      have h1 : nCt (fN s.1) t' ≤ 1 := by
        have hA : ∀ t < 96, (nAt t = 1 ∨ nAt t = 6) → nGp t = 101 ∨ nGp t = 100 := by decide +kernel
        unfold nCt
        rcases hA t' (nCt_lt hk) h16 with e | e
        · rw [e]; exact (show (1 : Nat) ≤ 1 from Nat.le_refl 1)
        · rw [e]; exact (show (0 : Nat) ≤ 1 from Nat.zero_le 1)
      exact n ⟨rfl, by omega⟩
    funext j
    simp [uM, up2, hne]
theorem nRw_M {t k i : Nat} {x : Int32} (h : nAt t = 6) : nRw (s.1, uM t i x s.2.1, s.2.2) t k = (0, nAl t, .inl (upd (s.2.1 t) i x)) := by
  unfold nRw
  rw [h]
  show (0, nAl t, Sum.inl (uM t i x s.2.1 t)) = _
  congr 3
  funext j
  simp [uM, up2, upd]
theorem nRw_B {t k i : Nat} {x : Int32} (h : nAt t = 1) : nRw (s.1, uM t i x s.2.1, s.2.2) t k = (1, nAl t, .inl (upd (s.2.1 t) i x)) := by
  unfold nRw
  rw [h]
  show (1, nAl t, Sum.inl (uM t i x s.2.1 t)) = _
  congr 3
  funext j
  simp [uM, up2, upd]
theorem nRel.putC (r : nRel p s σ g) {t k i : Nat} {x : Int32} (h0 : nAt t = 0) (hk : k < nCt (fN s.1) t) : nRel p (uI t k i x s.1, s.2) (mPut (mAd t k) (.inr (nRw (uI t k i x s.1, s.2) t k)) σ) g := by
  have h9 : nAt t ≠ 9 := by omega
  refine r.arp h9 hk rfl rfl rfl ?_ ?_ (fun k' i' l h hl => r.2.2.2.2.2.2.2.2.1 k' i' l h hl)
  · intro c' k' j' h
    have hne : nTg c' ≠ t := fun e => by
      have := (nTab1 c' (nTg_lt h).2 (nTg_lt h).1).1
      rw [e] at this
      omega
    unfold nGet
    split <;> first | rfl | exact congrArg vI (up3_ne fun z => hne z.1)
  · intro t' k' h9' h n
    refine nRw_of h9' (fun _ => ?_) (fun _ => rfl) (fun _ => rfl) rfl
    funext j
    exact up3_ne fun z => n ⟨z.1, z.2.1⟩
theorem nRw_C {t k i : Nat} {x : Int32} (h : nAt t = 0) : nRw (uI t k i x s.1, s.2) t k = (0, nAl t, .inl (upd (fI s.1 t k) i x)) := by
  unfold nRw
  rw [h]
  show (0, nAl t, Sum.inl (up3 (fI s.1) t k i x t k)) = _
  congr 3
  funext j
  simp [up3, upd]
theorem nArr_iast {n e1 e2 : Nat} (f : nCf p s σ g L S) (hF : mF y pc = some (.iastore, n, e1, e2)) (h : nK xs nx (fun pc L S s => some (.inl (pc, L, S, s))) (fun y A ml S s => some (.inr (.inl (y, A, ml, S, s)))) (fun r s => some (.inr (.inr (r, s)))) .iastore n e1 e2 y pc L S s = (some (.inl (pc', L', S', s')) : Option nAct)) : nGoes xs nx y pc L S s σ pc' L' S' s' := by
  obtain ⟨r, hL, hS, hp⟩ := id f
  simp only [nK] at h
  split at h
  · rename_i x i t o S1
    cases o with
    | none => cases h
    | some k =>
      simp only [nn] at h
      have hv := (kd1 (kd1 (kd1 hS).2).2).1
      have hS2 := (kd1 (kd1 (kd1 hS).2).2).2
      cases h6 : (Nat.beq (nAt t) 6 && nYo y) with
      | true =>
        rw [h6] at h
        simp only [cond_true] at h
        split at h
        · rename_i hi
          cases h
          have e6 := Nat.eq_of_beq_eq_true (band h6).1
          have hk := nVk_arr r hv (fun z => by rw [z, nAt_hi (by decide)] at e6; cases e6)
          refine ⟨p, _, g, ⟨r.putM (Or.inr e6) hk, hL, hS2, hp⟩, nLe.rf, mRch.one hF ?_⟩
          rw [nRw_M e6]
          show (match σ.1 (mAd t k) with | some (.inr (0, n, .inl f)) => _ | _ => none) = _
          rw [r.arr (by omega) hk]
          unfold nRw
          rw [e6]
          simp only [hi, if_true]
          rfl
        · cases h
      | false =>
        rw [h6] at h
        simp only [cond_false] at h
        cases h0 : Nat.beq (nAt t) 0 with
        | false => rw [h0] at h; cases h
        | true =>
          rw [h0] at h
          simp only [cond_true] at h
          split at h
          · rename_i hi
            cases h
            have e6 := Nat.eq_of_beq_eq_true h0
            have hk := nVk_arr r hv (fun z => by rw [z, nAt_hi (by decide)] at e6; cases e6)
            refine ⟨p, _, g, ⟨r.putC e6 hk, hL, hS2, hp⟩, nLe.rf, mRch.one hF ?_⟩
            rw [nRw_C e6]
            show (match σ.1 (mAd t k) with | some (.inr (0, n, .inl f)) => _ | _ => none) = _
            rw [r.arr (by omega) hk]
            unfold nRw
            rw [e6]
            simp only [hi, if_true]
            rfl
          · cases h
  · cases h
theorem nArr_bast {n e1 e2 : Nat} (f : nCf p s σ g L S) (hF : mF y pc = some (.bastore, n, e1, e2)) (h : nK xs nx (fun pc L S s => some (.inl (pc, L, S, s))) (fun y A ml S s => some (.inr (.inl (y, A, ml, S, s)))) (fun r s => some (.inr (.inr (r, s)))) .bastore n e1 e2 y pc L S s = (some (.inl (pc', L', S', s')) : Option nAct)) : nGoes xs nx y pc L S s σ pc' L' S' s' := by
  obtain ⟨r, hL, hS, hp⟩ := id f
  simp only [nK] at h
  split at h
  · rename_i x i t o S1
    cases o with
    | none => cases h
    | some k =>
      simp only [nn] at h
      have hv := (kd1 (kd1 (kd1 hS).2).2).1
      have hS2 := (kd1 (kd1 (kd1 hS).2).2).2
      cases h6 : (Nat.beq (nAt t) 1 && nYo y) with
      | false => rw [h6] at h; cases h
      | true =>
        rw [h6] at h
        simp only [cond_true] at h
        split at h
        · rename_i hi
          cases h
          have e6 := Nat.eq_of_beq_eq_true (band h6).1
          have hk := nVk_arr r hv (fun z => by rw [z, nAt_hi (by decide)] at e6; cases e6)
          refine ⟨p, _, g, ⟨r.putM (Or.inl e6) hk, hL, hS2, hp⟩, nLe.rf, mRch.one hF ?_⟩
          rw [nRw_B e6]
          show (match σ.1 (mAd t k) with | some (.inr (1, n, .inl f)) => _ | _ => none) = _
          rw [r.arr (by omega) hk]
          unfold nRw
          rw [e6]
          have hfit : mFit 1 (.int x) = true := by rcases hi.2 with rfl | rfl <;> rfl
          simp only [hi.1, hfit, and_self, if_true]
          rfl
        · cases h
  · cases h
theorem nArr_last {n e1 e2 : Nat} (f : nCf p s σ g L S) (hF : mF y pc = some (.lastore, n, e1, e2)) (h : nK xs nx (fun pc L S s => some (.inl (pc, L, S, s))) (fun y A ml S s => some (.inr (.inl (y, A, ml, S, s)))) (fun r s => some (.inr (.inr (r, s)))) .lastore n e1 e2 y pc L S s = (some (.inl (pc', L', S', s')) : Option nAct)) : nGoes xs nx y pc L S s σ pc' L' S' s' := by
  obtain ⟨r, hL, hS, hp⟩ := id f
  simp only [nK] at h
  split at h
  · rename_i x i t o S1
    cases o with
    | none => cases h
    | some k =>
      simp only [nn] at h
      have hv := (kd1 (kd1 (kd1 hS).2).2).1
      have hS2 := (kd1 (kd1 (kd1 hS).2).2).2
      cases h6 : (Nat.beq t 2 && Nat.beq (nAt t) 2) with
      | false => rw [h6] at h; cases h
      | true =>
        have e6 := Nat.eq_of_beq_eq_true (band h6).1
        subst e6
        exact absurd (band h6).2 (by decide)
  · cases h
theorem nArr_aald {n e1 e2 : Nat} (f : nCf p s σ g L S) (hF : mF y pc = some (.aaload, n, e1, e2)) (h : nK xs nx (fun pc L S s => some (.inl (pc, L, S, s))) (fun y A ml S s => some (.inr (.inl (y, A, ml, S, s)))) (fun r s => some (.inr (.inr (r, s)))) .aaload n e1 e2 y pc L S s = (some (.inl (pc', L', S', s')) : Option nAct)) : nGoes xs nx y pc L S s σ pc' L' S' s' := by
  obtain ⟨r, hL, hS, hp⟩ := id f
  simp only [nK] at h
  split at h
  · rename_i i t o S1
    cases o with
    | none => cases h
    | some k =>
      simp only [nn] at h
      have hv := (kd1 (kd1 hS).2).1
      have hS2 := (kd1 (kd1 hS).2).2
      cases h4 : Nat.beq t 4 with
      | true =>
        rw [h4] at h
        simp only [cond_true] at h
        split at h
        · rename_i hi
          cases h
          have e6 := Nat.eq_of_beq_eq_true h4
          subst e6
          have hk := nVk_arr r hv (by decide)
          have hvl : vk (fN s.1) p (vR 23 (fP s.1 4 k i.toNatClampNeg)) := fun l hl => Or.inl ⟨r.2.2.2.2.2.2.2.2.1 k _ l hk hl, by decide⟩
          refine f.same hF hL (kc1 hvl hS2) hp ?_
          show (match σ.1 (mAd 4 k) with | some (.inr (t, n, .inr (.inr (.inr (.inr f))))) => _ | _ => none) = _
          rw [r.arr (by decide) hk]
          show (if mIn i 10 = true then _ else none) = _
          rw [if_pos hi]
          show mGo _ _ (va_rf ((fP s.1 4 k i.toNatClampNeg).map (mAd 23)) :: _) _ = _
          cases fP s.1 4 k i.toNatClampNeg <;> rfl
        · cases h
      | false =>
        rw [h4] at h
        simp only [cond_false] at h
        cases h12 : Nat.beq t 12 with
        | true =>
          rw [h12] at h
          simp only [cond_true] at h
          split at h
          · rename_i hi
            cases h
            have e6 := Nat.eq_of_beq_eq_true h12
            subst e6
            have hk := nVk_arr r hv (by decide)
            have hi2 := (mIn_iff.mp hi).2
            have hvl : vk (fN s.1) p (vR 21 (some i.toNatClampNeg)) := fun l hl => by cases hl; exact Or.inl ⟨hi2, by decide⟩
            refine f.same hF hL (kc1 hvl hS2) hp ?_
            show (match σ.1 (mAd 12 k) with | some (.inr (t, n, .inr (.inr (.inr (.inr f))))) => _ | _ => none) = _
            rw [r.arr (by decide) hk]
            show (if mIn i 5 = true then _ else none) = _
            rw [if_pos hi]
            show mGo _ _ (va_rf (if i.toNatClampNeg < 5 then some (mAd 21 i.toNatClampNeg) else none) :: _) _ = _
            rw [if_pos hi2]
            rfl
          · cases h
        | false =>
          rw [h12] at h
          simp only [cond_false] at h
          cases h13 : Nat.beq t 13 with
          | false => rw [h13] at h; cases h
          | true =>
            rw [h13] at h
            simp only [cond_true] at h
            split at h
            · rename_i hi
              cases h
              have e6 := Nat.eq_of_beq_eq_true h13
              subst e6
              have hk := nVk_arr r hv (by decide)
              have hi2 := (mIn_iff.mp hi).2
              have hvl : vk (fN s.1) p (vR 22 (some i.toNatClampNeg)) := fun l hl => by cases hl; exact Or.inl ⟨hi2, by decide⟩
              refine f.same hF hL (kc1 hvl hS2) hp ?_
              show (match σ.1 (mAd 13 k) with | some (.inr (t, n, .inr (.inr (.inr (.inr f))))) => _ | _ => none) = _
              rw [r.arr (by decide) hk]
              show (if mIn i 4 = true then _ else none) = _
              rw [if_pos hi]
              show mGo _ _ (va_rf (if i.toNatClampNeg < 4 then some (mAd 22 i.toNatClampNeg) else none) :: _) _ = _
              rw [if_pos hi2]
              rfl
            · cases h
  · cases h
theorem nArr_aast {n e1 e2 : Nat} (f : nCf p s σ g L S) (hF : mF y pc = some (.aastore, n, e1, e2)) (h : nK xs nx (fun pc L S s => some (.inl (pc, L, S, s))) (fun y A ml S s => some (.inr (.inl (y, A, ml, S, s)))) (fun r s => some (.inr (.inr (r, s)))) .aastore n e1 e2 y pc L S s = (some (.inl (pc', L', S', s')) : Option nAct)) : nGoes xs nx y pc L S s σ pc' L' S' s' := by
  obtain ⟨r, hL, hS, hp⟩ := id f
  simp only [nK] at h
  split at h
  · rename_i t' v i t o S1
    cases o with
    | none => cases h
    | some k =>
      simp only [nn] at h
      have hv := (kd1 (kd1 (kd1 hS).2).2).1
      have hS2 := (kd1 (kd1 (kd1 hS).2).2).2
      have hvv := (kd1 hS).1
      cases h4 : Nat.beq t 4 with
      | false => rw [h4] at h; cases h
      | true =>
        rw [h4] at h
        simp only [cond_true] at h
        unfold ntg at h
        cases h23 : Nat.beq t' 23 with
        | false => rw [h23] at h; cases h
        | true =>
          rw [h23] at h
          simp only [cond_true] at h
          split at h
          · rename_i hi
            cases h
            have e6 := Nat.eq_of_beq_eq_true h4
            subst e6
            have e7 := Nat.eq_of_beq_eq_true h23
            subst e7
            have hk := nVk_arr r hv (by decide)
            have hv2 : ∀ l, v = some l → l < nCt (fN s.1) 23 := fun l hl => by
              rcases hvv l hl with h1 | h1
              · exact h1.1
              · exact absurd h1.1 (by decide)
            refine ⟨p, _, g, ⟨r.arp (s' := (uP 4 k i.toNatClampNeg v s.1, s.2)) (t := 4) (k := k) (by decide) hk rfl rfl rfl ?_ ?_ ?_, hL, hS2, hp⟩, nLe.rf, mRch.one hF ?_⟩
            · intro c' k' j' h
              have hne : nTg c' ≠ 4 := (nTab1 c' (nTg_lt h).2 (nTg_lt h).1).2.2.2.1
              unfold nGet
              split <;> first | rfl | skip
              rename_i t9 hq
              show vR t9 (up3 (fP s.1) 4 k i.toNatClampNeg v (nTg c') k' j') = vR t9 (fP s.1 (nTg c') k' j')
              rw [up3_ne fun z => hne z.1]
            · intro t2 k' h9' h n
              by_cases hk' : k' = k
              · subst hk'
                have ht2 : t2 ≠ 4 := fun z => n ⟨z, rfl⟩
                unfold nRw
                split <;> first | rfl | skip
                exfalso
                have hA : ∀ t < 96, nAt t = 0 ∨ nAt t = 1 ∨ nAt t = 6 ∨ nAt t = 2 ∨ nAt t = 4 ∨ nAt t = 9 ∨ t = 4 := by decide +kernel
                rcases hA t2 (nCt_lt h) with z | z | z | z | z | z | z <;> contradiction
              · refine nRw_of h9' (fun _ => rfl) (fun _ => rfl) (fun _ => rfl) (funext fun j => ?_)
                exact up3_ne fun z => hk' z.2.1
            · intro k' i' l h hl
              by_cases e : k' = k ∧ i' = i.toNatClampNeg
              · obtain ⟨rfl, rfl⟩ := e
                rw [show fP (uP 4 k' i.toNatClampNeg v s.1) 4 k' i.toNatClampNeg = v from up3_self _ _ _ _ _] at hl
                exact hv2 l hl
              · rw [show fP (uP 4 k i.toNatClampNeg v s.1) 4 k' i' = fP s.1 4 k' i' from up3_ne fun z => e z.2] at hl
                exact r.2.2.2.2.2.2.2.2.1 k' i' l h hl
            · have hrw : nRw (uP 4 k i.toNatClampNeg v s.1, s.2) 4 k = (6, 10, .inr (.inr (.inr (.inr (va_up (fun i => (fP s.1 4 k i).map (mAd 23)) i.toNatClampNeg (v.map (mAd 23))))))) := by
                show (6, 10, rRf fun j => (up3 (fP s.1) 4 k i.toNatClampNeg v 4 k j).map (mAd 23)) = _
                congr 2
                unfold rRf
                congr 4
                funext j
                by_cases e : j = i.toNatClampNeg
                · subst e
                  rw [up3_self, va_up_self]
                · rw [up3_ne (fun z => e z.2.2), va_up_ne _ _ e]
              rw [hrw]
              cases v with
              | none =>
                show (match σ.1 (mAd 4 k) with | some (.inr (t, n, .inr (.inr (.inr (.inr f))))) => _ | _ => none) = _
                rw [r.arr (by decide) hk]
                show (if mIn i 10 = true then _ else none) = _
                rw [if_pos hi]
                rfl
              | some l =>
                show (match σ.1 (mAd 4 k) with | some (.inr (t, n, .inr (.inr (.inr (.inr f))))) => _ | _ => none) = _
                rw [r.arr (by decide) hk]
                show (if mIn i 10 = true ∧ mMay σ.1 6 (mAd 23 l) = true then _ else none) = _
                rw [if_pos ⟨hi, by unfold mMay; rw [show σ.1 (mAd 23 l) = _ from r.obj (c := 4) (hv2 l rfl)]; rfl⟩]
                rfl
          · cases h
  · cases h
set_option maxHeartbeats 8000000 in
theorem nStep_go (hlm : nLmOK xs nx) (hct : nCtOK xs nx) (hF : mF y pc = some e) (f : nCf p s σ g L S) (h : nStep xs nx e y pc L S s = some (.inl (pc', L', S', s'))) : nGoes xs nx y pc L S s σ pc' L' S' s' := by
  obtain ⟨r, hL, hS, hp⟩ := id f
  obtain ⟨ins, n, e1, e2⟩ := e
  unfold nStep at h
  cases ins
  case iload_n k =>
    simp only [nK] at h
    split at h
    · rename_i x hx
      cases h
      exact f.same hF hL (kc1 trivial hS) hp (by show mLdI _ _ _ _ _ = _; unfold mLdI; rw [wl_at hx]; rfl)
    · cases h
  case iload k =>
    simp only [nK] at h
    split at h
    · rename_i x hx
      cases h
      exact f.same hF hL (kc1 trivial hS) hp (by show mLdI _ _ _ _ _ = _; unfold mLdI; rw [wl_at hx]; rfl)
    · cases h
  case aload_n k =>
    simp only [nK] at h
    split at h
    · rename_i q hx
      cases h
      obtain ⟨t, o⟩ := q
      exact f.same hF hL (kc1 (vk_up (nLd hx f)) hS) hp (by show mLdA _ _ _ _ _ = _; unfold mLdA; rw [wl_at hx]; cases o <;> rfl)
    · rename_i q hx
      cases h
      exact f.same hF hL (kc1 (vk_up (nLd hx f)) hS) hp (by show mLdA _ _ _ _ _ = _; unfold mLdA; rw [wl_at hx]; rcases q with _ | ⟨a, b⟩ <;> rfl)
    · cases h
  case aload k =>
    simp only [nK] at h
    split at h
    · rename_i q hx
      cases h
      obtain ⟨t, o⟩ := q
      exact f.same hF hL (kc1 (vk_up (nLd hx f)) hS) hp (by show mLdA _ _ _ _ _ = _; unfold mLdA; rw [wl_at hx]; cases o <;> rfl)
    · rename_i q hx
      cases h
      exact f.same hF hL (kc1 (vk_up (nLd hx f)) hS) hp (by show mLdA _ _ _ _ _ = _; unfold mLdA; rw [wl_at hx]; rcases q with _ | ⟨a, b⟩ <;> rfl)
    · cases h
  case istore_n k =>
    simp only [nK] at h
    split at h
    · rename_i x S1
      split at h
      · rename_i w hw
        cases h
        have hlt := (List.getElem?_eq_some_iff.mp hw).1
        exact f.same hF (vk_set hL trivial) (kd1 hS).2 hp (by show mSt _ _ _ _ _ _ = _; unfold mSt; rw [if_pos (by rw [wl_len]; exact hlt), show Value.int x = vw (fN s.1) (vI x) from rfl, wl_set]; rfl)
      · cases h
    · cases h
  case istore k =>
    simp only [nK] at h
    split at h
    · rename_i x S1
      split at h
      · rename_i w hw
        cases h
        have hlt := (List.getElem?_eq_some_iff.mp hw).1
        exact f.same hF (vk_set hL trivial) (kd1 hS).2 hp (by show mSt _ _ _ _ _ _ = _; unfold mSt; rw [if_pos (by rw [wl_len]; exact hlt), show Value.int x = vw (fN s.1) (vI x) from rfl, wl_set]; rfl)
      · cases h
    · cases h
  case astore_n k =>
    simp only [nK] at h
    split at h
    · rename_i q S1
      split at h
      · rename_i w hw
        cases h
        have hlt := (List.getElem?_eq_some_iff.mp hw).1
        obtain ⟨t, o⟩ := q
        refine f.same hF (vk_set hL (kd1 hS).1) (kd1 hS).2 hp ?_
        rw [← wl_set]
        cases o <;> (show mSt _ _ _ _ _ _ = _; unfold mSt; rw [if_pos (by rw [wl_len]; exact hlt)]; rfl)
      · cases h
    · rename_i q S1
      split at h
      · rename_i w hw
        cases h
        have hlt := (List.getElem?_eq_some_iff.mp hw).1
        refine f.same hF (vk_set hL (kd1 hS).1) (kd1 hS).2 hp ?_
        rw [← wl_set]
        rcases q with _ | ⟨a, b⟩ <;> (show mSt _ _ _ _ _ _ = _; unfold mSt; rw [if_pos (by rw [wl_len]; exact hlt)]; rfl)
      · cases h
    · cases h
  case astore k =>
    simp only [nK] at h
    split at h
    · rename_i q S1
      split at h
      · rename_i w hw
        cases h
        have hlt := (List.getElem?_eq_some_iff.mp hw).1
        obtain ⟨t, o⟩ := q
        refine f.same hF (vk_set hL (kd1 hS).1) (kd1 hS).2 hp ?_
        rw [← wl_set]
        cases o <;> (show mSt _ _ _ _ _ _ = _; unfold mSt; rw [if_pos (by rw [wl_len]; exact hlt)]; rfl)
      · cases h
    · rename_i q S1
      split at h
      · rename_i w hw
        cases h
        have hlt := (List.getElem?_eq_some_iff.mp hw).1
        refine f.same hF (vk_set hL (kd1 hS).1) (kd1 hS).2 hp ?_
        rw [← wl_set]
        rcases q with _ | ⟨a, b⟩ <;> (show mSt _ _ _ _ _ _ = _; unfold mSt; rw [if_pos (by rw [wl_len]; exact hlt)]; rfl)
      · cases h
    · cases h
  case iconst i =>
    simp only [nK] at h
    cases h
    exact f.same hF hL (kc1 trivial hS) hp (by show mGo _ _ (.int (Int32.ofInt i) :: _) _ = _; rw [← nCk_ofInt]; rfl)
  case bipush i =>
    simp only [nK] at h
    cases h
    exact f.same hF hL (kc1 trivial hS) hp (by show mGo _ _ (.int (Int32.ofInt i) :: _) _ = _; rw [← nCk_ofInt]; rfl)
  case sipush i =>
    simp only [nK] at h
    cases h
    exact f.same hF hL (kc1 trivial hS) hp (by show mGo _ _ (.int (Int32.ofInt i) :: _) _ = _; rw [← nCk_ofInt]; rfl)
  case lconst i =>
    simp only [nK] at h
    cases h
    exact f.same hF hL (kc1 trivial hS) hp rfl
  case ldc i =>
    simp only [nK] at h
    cases hb : (Nat.ble 3 e1 && Nat.blt e1 9) with
    | false => rw [hb] at h; cases h
    | true =>
      rw [hb] at h
      cases h
      have h3 := Nat.le_of_ble_eq_true (band hb).1
      have h9 := blt_iff.mp (band hb).2
      refine f.same hF hL (kc1 trivial hS) hp ?_
      show mLdcS _ e1 _ _ _ = _
      unfold mLdcS
      rw [if_neg (by omega), if_neg (by omega), if_pos ⟨h3, h9⟩]
      rfl
  case aconst_null =>
    simp only [nK] at h
    cases hb : Nat.beq (nNt y pc) 200 with
    | true =>
      rw [hb] at h
      cases h
      exact f.same hF hL (kc1 (fun t k e => by cases e) hS) hp rfl
    | false =>
      rw [hb] at h
      cases hb2 : Nat.beq (nNt y pc) 99 with
      | true => rw [hb2] at h; cases h
      | false =>
        rw [hb2] at h
        cases h
        exact f.same hF hL (kc1 (fun k e => by cases e) hS) hp rfl
  case idiv =>
    simp only [nK] at h
    split at h
    · split at h
      · cases h
      · rename_i b a S1 hz
        cases h
        exact f.same hF hL (kc1 trivial (kd1 (kd1 hS).2).2) hp (by show (if b = 0 then none else _) = _; rw [if_neg hz]; rfl)
    · cases h
  case irem =>
    simp only [nK] at h
    split at h
    · split at h
      · cases h
      · rename_i b a S1 hz
        cases h
        exact f.same hF hL (kc1 trivial (kd1 (kd1 hS).2).2) hp (by show (if b = 0 then none else _) = _; rw [if_neg hz]; rfl)
    · cases h
  case iinc i c =>
    simp only [nK] at h
    split at h
    · rename_i x hx
      cases h
      have hlt := (List.getElem?_eq_some_iff.mp hx).1
      refine f.same hF (vk_set hL trivial) hS hp ?_
      show mIincS _ _ _ _ _ _ = _
      unfold mIincS
      rw [wl_at hx]
      show mSt _ _ _ _ _ _ = _
      unfold mSt
      rw [if_pos (by rw [wl_len]; exact hlt), ← wl_set, nCk_ofInt]
      rfl
    · cases h
  case dup =>
    simp only [nK] at h
    split at h
    · cases h
      exact f.same hF hL (kc1 trivial hS) hp rfl
    · rename_i t o S1
      cases o with
      | none => cases h
      | some k =>
        cases h
        exact f.same hF hL (kc1 (kd1 hS).1 hS) hp rfl
    · cases h
      exact f.same hF hL (kc1 (kd1 hS).1 hS) hp rfl
    · cases h
  case dup_x1 =>
    simp only [nK] at h
    split at h
    · cases h
      exact f.same hF hL (kc1 trivial (kc1 (kd1 (kd1 hS).2).1 (kc1 trivial (kd1 (kd1 hS).2).2))) hp rfl
    · cases h
  case dup2 =>
    simp only [nK] at h
    split at h
    · cases h
      exact f.same hF hL (kc1 trivial (kc1 (kd1 (kd1 hS).2).1 hS)) hp rfl
    · cases h
  case pop =>
    simp only [nK] at h
    split at h
    · cases h
      exact f.same hF hL (kd1 hS).2 hp rfl
    · rename_i q S1
      obtain ⟨t, o⟩ := q
      cases h
      exact f.same hF hL (kd1 hS).2 hp (by cases o <;> rfl)
    · cases h
  case goto o =>
    simp only [nK] at h
    cases h
    exact f.same hF hL hS hp rfl
  case ifCond c o =>
    simp only [nK] at h
    split at h
    · rename_i x S1
      cases c <;> (simp only [nCmp] at h; split at h <;> (rename_i hc; cases h; exact f.same hF hL (kd1 hS).2 hp (by show mBr _ _ _ _ _ _ = _; unfold mBr; simp only [mCmp, decide_eq_true_eq]; first | rw [if_pos hc]; rfl | rw [if_neg hc]; rfl | (rw [if_neg (by rw [← Int32.not_lt]; exact fun z => z hc)]; rfl) | (rw [if_pos (by rw [← Int32.not_lt]; exact hc)]; rfl) | (rw [if_neg (fun z => z hc)]; rfl))))
    · cases h
  case if_icmp c o =>
    simp only [nK] at h
    split at h
    · rename_i b a S1
      cases c <;> (simp only [nCmp] at h; split at h <;> (rename_i hc; cases h; exact f.same hF hL (kd1 (kd1 hS).2).2 hp (by show mBr _ _ _ _ _ _ = _; unfold mBr; simp only [mCmp, decide_eq_true_eq]; first | rw [if_pos hc]; rfl | rw [if_neg hc]; rfl | (rw [if_neg (by rw [← Int32.not_lt]; exact fun z => z hc)]; rfl) | (rw [if_pos (by rw [← Int32.not_lt]; exact hc)]; rfl) | (rw [if_neg (fun z => z hc)]; rfl))))
    · cases h
  case ifnull o =>
    simp only [nK] at h
    split at h
    · rename_i t o S1
      cases o <;> (cases h; exact f.same hF hL (kd1 hS).2 hp rfl)
    · rename_i o S1
      rcases o with _ | ⟨a, b⟩ <;> (cases h; exact f.same hF hL (kd1 hS).2 hp rfl)
    · cases h
  case ifnonnull o =>
    simp only [nK] at h
    split at h
    · rename_i t o S1
      cases o <;> (cases h; exact f.same hF hL (kd1 hS).2 hp rfl)
    · rename_i o S1
      rcases o with _ | ⟨a, b⟩ <;> (cases h; exact f.same hF hL (kd1 hS).2 hp rfl)
    · cases h
  case if_acmp c o =>
    simp only [nK] at h
    split at h
    · rename_i t' b t a S1
      unfold ntg at h
      cases hb : Nat.beq t t' with
      | false => rw [hb] at h; cases h
      | true =>
        rw [hb] at h
        have e := Nat.eq_of_beq_eq_true hb
        subst e
        have hS2 := (kd1 (kd1 hS).2).2
        have hvb := (kd1 hS).1
        have hva := (kd1 (kd1 hS).2).1
        have key : mAcS c (pc + n) e1 (wl (fN s.1) L) ((vR t b :: vR t a :: S1).map (vw (fN s.1))) σ = (match c with
            | .eq => if a = b then mGo e1 (wl (fN s.1) L) (S1.map (vw (fN s.1))) σ else mGo (pc + n) (wl (fN s.1) L) (S1.map (vw (fN s.1))) σ
            | .ne => if a = b then mGo (pc + n) (wl (fN s.1) L) (S1.map (vw (fN s.1))) σ else mGo e1 (wl (fN s.1) L) (S1.map (vw (fN s.1))) σ) := by
          cases a with
          | none =>
            cases b with
            | none => cases c <;> rfl
            | some b => cases c <;> rfl
          | some a =>
            cases b with
            | none => cases c <;> rfl
            | some b =>
              have hcond : mAd t a = mAd t b ∨ ((mAd t a % 128 ≠ 127 ∨ mAd t b % 128 ≠ 127) ∧ mAd t a ≠ mMIR ∧ mAd t b ≠ mMIR) := by
                rcases hva a rfl with ⟨h1, -⟩ | ⟨h1, h2⟩
                · have := nCt_lt h1
                  right
                  unfold mAd mMIR
                  omega
                · rcases hvb b rfl with ⟨h3, -⟩ | ⟨-, h3⟩
                  · have := nCt_lt h3
                    omega
                  · left; rw [h2, h3]
              have hab : (mAd t a = mAd t b) ↔ (some a = some b) := by
                constructor
                · intro z
                  unfold mAd at z
                  congr 1
                  omega
                · intro z
                  cases z
                  rfl
              show (if _ then mBr _ _ _ _ _ _ else none) = _
              rw [if_pos hcond]
              unfold mBr mAc
              cases c
              · simp only [decide_eq_true_eq, Option.some.injEq] at hab ⊢
                by_cases z : a = b
                · rw [if_pos (hab.mpr z), if_pos z]
                · rw [if_neg (fun w => z (hab.mp w)), if_neg z]
              · simp only [decide_eq_true_eq, Option.some.injEq] at hab ⊢
                by_cases z : a = b
                · rw [if_neg (fun w => w (hab.mpr z)), if_pos z]
                · rw [if_pos (fun w => z (hab.mp w)), if_neg z]
        cases c
        · simp only [cond_true] at h
          split at h <;> (rename_i hc; cases h; refine f.same hF hL hS2 hp (key.trans ?_))
          · exact if_pos hc
          · exact if_neg hc
        · simp only [cond_true] at h
          split at h <;> (rename_i hc; cases h; refine f.same hF hL hS2 hp (key.trans ?_))
          · exact if_pos hc
          · exact if_neg hc
    · cases h
  case tableswitch d lo hi offs =>
    simp only [nK] at h
    split at h
    · rename_i x S1
      cases hb : (decide (0 ≤ lo) && decide (hi < 1000) && decide (hi - lo + 1 = offs.size)) with
      | false => rw [hb] at h; cases h
      | true =>
        rw [hb] at h
        simp only [Bool.and_eq_true, decide_eq_true_eq] at hb
        obtain ⟨⟨b1, b2⟩, b3⟩ := hb
        have hlen : offs.toList.length = offs.size := rfl
        simp only [cond_true] at h
        rw [nSw_ok _ _ b1 (by rw [hlen]; omega), hlen] at h
        by_cases hc : x.toInt < lo ∨ lo + (offs.size : Int) ≤ x.toInt
        · rw [if_pos hc] at h
          cases h
          refine f.same hF hL (kd1 hS).2 hp ?_
          show (if _ then _ else _) = _
          rw [if_pos (by omega)]
          rfl
        · rw [if_neg hc] at h
          split at h
          · rename_i o ho
            cases h
            refine f.same hF hL (kd1 hS).2 hp ?_
            show (if _ then _ else _) = _
            rw [if_neg (by omega)]
            rw [Array.getElem?_toList] at ho
            rw [ho]
            rfl
          · cases h
    · cases h
  case getfield i =>
    simp only [nK] at h
    split at h
    · rename_i t o S1
      cases hlt : Nat.blt e2 (nFl e1) with
      | false => rw [hlt] at h; cases h
      | true =>
        rw [hlt] at h
        simp only [cond_true] at h
        unfold ntg at h
        cases hb : Nat.beq t (nTg e1) with
        | false => rw [hb] at h; cases h
        | true =>
          rw [hb] at h
          cases o with
          | none => cases h
          | some k =>
            cases h
            obtain ⟨rfl, hk⟩ := nIs_obj r hb (kd1 hS).1
            have hj := blt_iff.mp hlt
            have hvk := r.2.2.2.2.2.2.1 e1 k e2 hk hj
            refine f.same hF hL (kc1 (vk_up hvk) (kd1 hS).2) ((show p = pdS S1 from hp).trans (pdS_cons hvk).symm) ?_
            show (match σ.1 (mAd (nTg e1) k) with | some (.inl (c, fs)) => _ | _ => none) = _
            rw [r.obj hk]
            simp only [if_true, nFs_at hj]
            rfl
    · cases h
  case putfield i =>
    simp only [nK] at h
    split at h
    · rename_i v t o S1
      cases hlt : Nat.beq (e2 / 128) (nFk e1 (e2 % 128)) with
      | false => rw [hlt] at h; cases h
      | true =>
        rw [hlt] at h
        simp only [cond_true] at h
        unfold ntg at h
        cases hb : Nat.beq t (nTg e1) with
        | false => rw [hb] at h; cases h
        | true =>
          rw [hb] at h
          cases o with
          | none => cases h
          | some k =>
            simp only [cond_true, nn] at h
            obtain ⟨rfl, hk⟩ := nIs_obj r hb (kd1 (kd1 hS).2).1
            obtain ⟨s2, e9, hN, hj, hfit, hput⟩ := nPut_ok (p := p) (σ := σ) (g := g) h hk (Nat.mod_lt _ (by decide))
            cases e9
            have hvn : vk (fN s.1) none v := by
              have h9 := (kd1 hS).1
              rcases v with x | x | ⟨t, o⟩ | o | t
              · trivial
              · trivial
              · exact h9
              · exact h9
              · exfalso
                unfold nPut at h
                split at h <;> first | (rename_i z; cases z; done) | cases h
            have hS2 := (kd1 (kd1 hS).2).2
            refine ⟨p, _, g, ⟨hput hvn r, fun w hw => hN ▸ hL w hw, fun w hw => hN ▸ hS2 w hw, ?_⟩, nLe.of hN, mRch.one hF ?_⟩
            · rw [pdS_cons hvn] at hp
              exact hp
            · rw [hN]
              show (match σ.1 (mAd (nTg e1) k) with | some (.inl (c, fs)) => _ | _ => none) = _
              rw [r.obj hk]
              have hkk := Nat.eq_of_beq_eq_true hlt
              simp only
              rw [if_pos ⟨trivial, by rw [nFs_len]; exact hj, by rw [hkk]; exact hfit⟩]
              rfl
    · cases h
  case checkcast i =>
    simp only [nK] at h
    split at h
    · rename_i t o S1
      unfold ntg at h
      cases hb : Nat.beq t (nTg e1) with
      | false => rw [hb] at h; cases h
      | true =>
        rw [hb] at h
        cases h
        have e := Nat.eq_of_beq_eq_true hb
        subst e
        refine f.same hF hL hS hp ?_
        cases o with
        | none => rfl
        | some k =>
          obtain ⟨-, hk⟩ := nIs_obj r hb (kd1 hS).1
          show (if mIs σ.1 e1 (some (.ref (mAd (nTg e1) k))) = true then _ else none) = _
          unfold mIs
          simp only [r.obj hk, beq_self_eq_true, if_true]
          rfl
    · cases h
  case arraylength =>
    simp only [nK] at h
    split at h
    · rename_i t o S1
      cases o with
      | none => cases h
      | some k =>
        simp only [nn] at h
        have hv := (kd1 hS).1 k rfl
        cases h127 : Nat.beq t 127 with
        | true =>
          rw [h127] at h
          cases h
          have e := Nat.eq_of_beq_eq_true h127
          subst e
          have hk1 : k = 1 := by
            rcases hv with ⟨h1, -⟩ | ⟨-, h1⟩
            · have := nCt_lt h1; omega
            · exact h1
          subst hk1
          exact f.same hF hL (kc1 trivial (kd1 hS).2) hp rfl
        | false =>
          rw [h127] at h
          cases h9 : Nat.beq (nAt t) 9 with
          | true => rw [h9] at h; cases h
          | false =>
            rw [h9] at h
            cases h
            have hn9 : nAt t ≠ 9 := fun z => by rw [z] at h9; cases h9
            have hk : k < nCt (fN s.1) t := by
              rcases hv with ⟨h1, -⟩ | ⟨h1, -⟩
              · exact h1
              · rw [h1] at h127; cases h127
            have ht := nCt_lt hk
            refine f.same hF hL (kc1 trivial (kd1 hS).2) hp ?_
            show (if mAd t k = mSCR then _ else if mAd t k = mEMP then _ else match σ.1 (mAd t k) with | some (.inr (_, n, _)) => _ | _ => none) = _
            rw [if_neg (by unfold mAd mSCR; omega), if_neg (by unfold mAd mEMP; omega), r.arr hn9 hk]
            have hl : (nRw s t k).2.1 = nAl t := by
              have hA : ∀ t < 96, nAt t = 0 ∨ nAt t = 1 ∨ nAt t = 6 ∨ nAt t = 4 ∨ nAt t = 9 ∨ (if nAt t = 2 then 1 else 10) = nAl t := by decide +kernel
              unfold nRw
              split
              · rfl
              · rfl
              · rfl
              · rename_i hq
                rcases hA t ht with z | z | z | z | z | z
                iterate 5 exact absurd hq (by omega)
                rw [if_pos hq] at z
                exact z
              · rfl
              · rcases hA t ht with z | z | z | z | z | z
                iterate 5 contradiction
                rw [if_neg (by assumption)] at z
                exact z
            show mGo _ _ (.int (Int32.ofNat (nRw s t k).2.1) :: _) _ = _
            rw [hl]
            rfl
    · cases h
  case new i =>
    simp only [nK] at h
    cases ha : S.all nOk1 with
    | false => rw [ha] at h; cases h
    | true =>
      rw [ha] at h
      cases h100 : Nat.ble 100 e1 with
      | true =>
        rw [h100] at h
        cases hl4 : Nat.ble S.length 4 <;> rw [hl4] at h <;> cases h
      | false =>
        rw [h100] at h
        cases hb : (Nat.beq (nTg e1) e2 && Nat.beq (nGp e2) e2) with
        | false => rw [hb] at h; cases h
        | true =>
          rw [hb] at h
          cases h
          simp only [Bool.and_eq_true] at hb
          have b1 := Nat.eq_of_beq_eq_true hb.1
          have b2 := Nat.eq_of_beq_eq_true hb.2
          exact nNew_ok f hF ha (fun z => by rw [Nat.ble_eq_true_of_le z] at h100; cases h100) b1 b2
  case invokespecial i =>
    simp only [nK] at h
    cases hm : nMk e1 with
    | true =>
      rw [hm] at h
      cases h11 : Nat.beq e2 (nE2 e1) with
      | false => rw [h11] at h; cases h
      | true =>
        rw [h11] at h
        have he := Nat.eq_of_beq_eq_true h11
        subst he
        exact hct p s σ g y pc i n e1 pc' L L' S S' s' f hF hm h
    | false =>
      exfalso
      rw [hm] at h
      cases h1000 : Nat.beq e1 1000 with
      | true => rw [h1000] at h; cases h
      | false =>
        rw [h1000] at h
        simp only [cond_false] at h
        exact nCl_no h
  case invokevirtual i =>
    simp only [nK] at h
    cases hm : nLst e1 with
    | true =>
      rw [hm] at h
      cases h5 : (Nat.beq e2 (nE2 e1) && Nat.ble S.length 5) with
      | false => rw [h5] at h; cases h
      | true =>
        rw [h5] at h
        simp only [Bool.and_eq_true] at h5
        have he := Nat.eq_of_beq_eq_true h5.1
        subst he
        exact hlm p s σ g y pc i n e1 pc' L L' S S' s' f hF hm (Nat.le_of_ble_eq_true h5.2) h
    | false =>
      exfalso
      rw [hm] at h
      cases h1000 : Nat.ble 1000 e1 with
      | true => rw [h1000] at h; cases h
      | false =>
        rw [h1000] at h
        simp only [cond_false] at h
        exact nCl_no h
  case invokestatic i =>
    simp only [nK] at h
    cases h1000 : Nat.ble 1000 e1 with
    | false =>
      exfalso
      rw [h1000] at h
      simp only [cond_false] at h
      exact nCl_no h
    | true =>
      rw [h1000] at h
      simp only [cond_true] at h
      split at h
      · rename_i b a S1
        cases h4 : Nat.ble S1.length 4 with
        | false => rw [h4] at h; cases h
        | true =>
          rw [h4] at h
          cases h
          have := Nat.le_of_ble_eq_true h4
          refine f.same hF hL (kc1 trivial (kd1 (kd1 hS).2).2) hp ?_
          show (if _ then _ else _) = _
          rw [if_pos (by simp; omega)]
          rfl
      · rename_i b a S1
        cases h4 : Nat.ble S1.length 4 with
        | false => rw [h4] at h; cases h
        | true =>
          rw [h4] at h
          cases h
          have := Nat.le_of_ble_eq_true h4
          refine f.same hF hL (kc1 trivial (kd1 (kd1 hS).2).2) hp ?_
          show (if _ then _ else _) = _
          rw [if_pos (by simp; omega)]
          rfl
      · rename_i a S1
        cases h4 : Nat.ble S1.length 4 with
        | false => rw [h4] at h; cases h
        | true =>
          rw [h4] at h
          cases h
          have := Nat.le_of_ble_eq_true h4
          refine f.same hF hL (kc1 trivial (kd1 hS).2) hp ?_
          show (if _ then _ else _) = _
          rw [if_pos (by simp; omega)]
          rfl
      · cases h
  case iaload => exact nArr_iald f hF h
  case iastore => exact nArr_iast f hF h
  case baload => exact nArr_bald f hF h
  case bastore => exact nArr_bast f hF h
  case laload => exact nArr_lald f hF h
  case lastore => exact nArr_last f hF h
  case aaload => exact nArr_aald f hF h
  case aastore => exact nArr_aast f hF h
  case ireturn =>
    exfalso
    simp only [nK] at h
    split at h
    · cases hb : Nat.beq e1 1 with
      | true => rw [hb] at h; cases h
      | false =>
        rw [hb] at h
        cases hb2 : Nat.beq e1 2 with
        | false => rw [hb2] at h; cases h
        | true =>
          rw [hb2] at h
          simp only [cond_true, cond_false] at h
          split at h <;> cases h
    · cases h
  case areturn =>
    exfalso
    simp only [nK] at h
    split at h <;> cases h
  case return_ =>
    exfalso
    simp only [nK] at h
    split at h <;> cases h
  all_goals
    simp only [nK] at h
    first
    | (cases h; done)
    | (split at h
       · cases h
         exact f.same hF hL (kc1 trivial (kd1 (kd1 hS).2).2) hp rfl
       · cases h)
    | (split at h
       · cases h
         exact f.same hF hL (kc1 trivial (kd1 hS).2) hp rfl
       · cases h)
end NGO
