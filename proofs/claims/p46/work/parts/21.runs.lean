/-! ===== runs of the second machine ===== -/
def nL0 (A : List nV) (n : Nat) : nLs := A.map some ++ List.replicate (n - A.length) none
def bV (r : Option nOut) (k : nS → Option nOut) (hx : Nat → nS → Option nOut) : Option nOut := match r with
  | some (.inl none, s) => k s
  | some (.inr E, s) => hx E s
  | _ => none
def bI (r : Option nOut) (k : Int32 → nS → Option nOut) (hx : Nat → nS → Option nOut) : Option nOut := match r with
  | some (.inl (some (.inl x)), s) => k x s
  | some (.inr E, s) => hx E s
  | _ => none
def bR (t : Nat) (r : Option nOut) (k : Option Nat → nS → Option nOut) (hx : Nat → nS → Option nOut) : Option nOut := match r with
  | some (.inl (some (.inr (.inr (.inl (t', o))))), s) => ntg t' t (k o s)
  | some (.inr E, s) => hx E s
  | _ => none
def nHx (y pc : Nat) (L : nLs) (go : Nat → nLs → List nV → nS → Option nOut) (E : Nat) (s : nS) : Option nOut := match mHd (mHs y) pc E with
  | none => some (.inr E, s)
  | some (hp, i) => go hp (L.set i none) [] s
def nCall (y pc : Nat) (L : nLs) (go : Nat → nLs → List nV → nS → Option nOut) (R : Nat → Nat → nLs → List nV → nS → Option nOut) (y' : Nat) (A : List nV) (ml : Nat) (S : List nV) (s : nS) : Option nOut :=
  cond (Nat.beq (nRt y') 0) (bV (R y' 0 (nL0 A ml) [] s) (fun s => go (pc + 3) L S s) (nHx y pc L go))
    (cond (Nat.beq (nRt y') 1) (bI (R y' 0 (nL0 A ml) [] s) (fun x s => go (pc + 3) L (vI x :: S) s) (nHx y pc L go))
      (bR (nRt y' - 100) (R y' 0 (nL0 A ml) [] s) (fun o s => go (pc + 3) L (vR (nRt y' - 100) o :: S) s) (nHx y pc L go)))
def nFin (r : nRes) (s : nS) : Option nOut := some (r, s)
def nX (xs : Nat → Int32) (nx : Nat) : Nat → Nat → Nat → nLs → List nV → nS → Option nOut
  | 0, _, _, _, _, _ => none
  | n + 1, y, pc, L, S, s => match mF y pc with
    | none => none
    | some e => nK xs nx (nX xs nx n y) (nCall y pc L (nX xs nx n y) (nX xs nx n)) nFin e.1 e.2.1 e.2.2.1 e.2.2.2 y pc L S s
/-- the first-order step -/
def nStep (xs : Nat → Int32) (nx : Nat) (e : mE) (y pc : Nat) (L : nLs) (S : List nV) (s : nS) : Option nAct :=
  nK xs nx (fun pc L S s => some (.inl (pc, L, S, s))) (fun y A ml S s => some (.inr (.inl (y, A, ml, S, s)))) (fun r s => some (.inr (.inr (r, s)))) e.1 e.2.1 e.2.2.1 e.2.2.2 y pc L S s
def nInt {β : Type} (go : Nat → nLs → List nV → nS → Option β) (call : Nat → List nV → Nat → List nV → nS → Option β) (fin : nRes → nS → Option β) (a : Option nAct) : Option β := match a with
  | none => none
  | some (.inl (pc, L, S, s)) => go pc L S s
  | some (.inr (.inl (y, A, ml, S, s))) => call y A ml S s
  | some (.inr (.inr (r, s))) => fin r s
section NI
variable {β : Type} {go : Nat → nLs → List nV → nS → Option β} {call : Nat → List nV → Nat → List nV → nS → Option β} {fin : nRes → nS → Option β}
theorem nI_cond {c : Bool} {a b : Option nAct} : nInt go call fin (cond c a b) = cond c (nInt go call fin a) (nInt go call fin b) := by cases c <;> rfl
theorem nI_ite {c : Prop} [Decidable c] {a b : Option nAct} : nInt go call fin (if c then a else b) = if c then nInt go call fin a else nInt go call fin b := by split <;> rfl
theorem nI_none : nInt go call fin none = none := rfl
theorem nI_nn {o : Option Nat} {f : Nat → Option nAct} : nInt go call fin (nn o f) = nn o fun k => nInt go call fin (f k) := by cases o <;> rfl
theorem nI_nnL {o : Option (Nat × Nat)} {f : Nat → Nat → Option nAct} : nInt go call fin (nnL o f) = nnL o fun t k => nInt go call fin (f t k) := by cases o <;> rfl
theorem nI_nz {o : Option Nat} {a b : Option nAct} : nInt go call fin (nz o a b) = nz o (nInt go call fin a) (nInt go call fin b) := by cases o <;> rfl
theorem nI_nzL {o : Option (Nat × Nat)} {a b : Option nAct} : nInt go call fin (nzL o a b) = nzL o (nInt go call fin a) (nInt go call fin b) := by cases o <;> rfl
theorem nI_ntg {t t' : Nat} {a : Option nAct} : nInt go call fin (ntg t t' a) = ntg t t' (nInt go call fin a) := nI_cond
theorem nI_cmp {c : Jvm.ClassFile.Cond} {x y : Int32} {a b : Option nAct} : nInt go call fin (nCmp c x y a b) = nCmp c x y (nInt go call fin a) (nInt go call fin b) := by cases c <;> exact nI_ite
theorem nI_sw {x : Int32} {offs : List Int} {pc : Nat} {d : Option nAct} {f : Nat → Option nAct} : ∀ {lo : Int}, nInt go call fin (nSw x lo offs pc d f) = nSw x lo offs pc (nInt go call fin d) fun p => nInt go call fin (f p) := by
  induction offs with
  | nil => intro lo; rfl
  | cons o os ih =>
    intro lo
    unfold nSw
    rw [nI_ite, ih]
theorem nI_put {c j k : Nat} {v : nV} {s : nS} {g : nS → Option nAct} : nInt go call fin (nPut c j k v s g) = nPut c j k v s fun s => nInt go call fin (g s) := by
  unfold nPut
  generalize nKd c j = q
  split <;> first | rfl | exact nI_ite | exact nI_ntg | (rw [nI_ntg, nI_nn])
theorem nI_ctor {y q : Nat} {L : nLs} {S : List nV} {s : nS} {g : Nat → nLs → List nV → nS → Option nAct} : nInt go call fin (nCtor y q L S s g) = nCtor y q L S s fun q L S s => nInt go call fin (g q L S s) := by
  unfold nCtor
  split <;> first | rfl | (simp only [nI_nn, nI_ite]; done) | (simp only [nI_nn, nI_ite]; rfl)
theorem nI_lm {y q : Nat} {L : nLs} {S : List nV} {s : nS} {g : Nat → nLs → List nV → nS → Option nAct} : nInt go call fin (nLm y q L S s g) = nLm y q L S s fun q L S s => nInt go call fin (g q L S s) := by
  unfold nLm
  split
  · rw [nI_nnL]
  · rw [nI_nnL]; congr; funext t k; exact nI_ite
  · rw [nI_nnL]
  · rw [nI_nnL]; congr; funext t k; rw [nI_ite, nI_nn]; rfl
  · rw [nI_nnL]; congr; funext t k; rw [nI_ite, nI_nn]; rfl
  · rw [nI_nnL]; congr; funext t k; rw [nI_ntg, nI_nn]; congr 2; funext e; exact nI_ite
  · rfl
theorem nI_cl {kd ci y n ml : Nat} {S : List nV} {s : nS} {c : Nat → List nV → Nat → List nV → nS → Option nAct} : nInt go call fin (nCl kd ci y n ml S s c) = nCl kd ci y n ml S s fun y A ml S s => nInt go call fin (c y A ml S s) := by
  unfold nCl
  rw [nI_cond]
  congr 1
  split
  · rfl
  · split
    · rw [nI_ntg, nI_nn]
    · rfl
set_option maxHeartbeats 4000000 in
theorem nK_int (xs : Nat → Int32) (nx : Nat) (ins : Instr) (n e1 e2 y pc : Nat) (L : nLs) (S : List nV) (s : nS) : nK xs nx go call fin ins n e1 e2 y pc L S s = nInt go call fin (nStep xs nx (ins, n, e1, e2) y pc L S s) := by
  unfold nStep
  cases ins
  case ifCond c o => simp only [nK]; split <;> first | rfl | (rw [nI_cmp]; rfl)
  case if_icmp c o => simp only [nK]; split <;> first | rfl | (rw [nI_cmp]; rfl)
  case if_acmp c o => simp only [nK]; split <;> first | rfl | (rw [nI_ntg]; congr 1; cases c <;> (simp only [nI_ite]; rfl))
  case tableswitch d lo hi offs => simp only [nK]; split <;> first | rfl | (rw [nI_cond, nI_sw]; rfl)
  case putfield i => simp only [nK]; split <;> first | rfl | (rw [nI_cond, nI_ntg, nI_nn]; congr 1; congr 1; congr 1; funext k; rw [nI_put]; rfl)
  case getfield i => simp only [nK]; split <;> first | rfl | (rw [nI_cond, nI_ntg, nI_nn]; rfl)
  case invokespecial i => simp only [nK]; rw [nI_cond, nI_cond, nI_cond, nI_ctor, nI_cl]; simp only [nI_cond]; rfl
  case invokevirtual i => simp only [nK]; rw [nI_cond, nI_cond, nI_cond, nI_lm, nI_cl]; rfl
  case invokestatic i => simp only [nK]; rw [nI_cond, nI_cl]; congr 1; split <;> first | rfl | (rw [nI_cond]; rfl)
  case aaload => simp only [nK]; split <;> first | rfl | (simp only [nI_nn, nI_cond, nI_ite, nI_ntg]; rfl)
  case aastore => simp only [nK]; split <;> first | rfl | (simp only [nI_nn, nI_cond, nI_ite, nI_ntg]; rfl)
  case iaload => simp only [nK]; split <;> first | rfl | (simp only [nI_nn, nI_cond, nI_ite, nI_ntg]; rfl)
  case iastore => simp only [nK]; split <;> first | rfl | (simp only [nI_nn, nI_cond, nI_ite, nI_ntg]; rfl)
  case baload => simp only [nK]; split <;> first | rfl | (simp only [nI_nn, nI_cond, nI_ite, nI_ntg]; rfl)
  case bastore => simp only [nK]; split <;> first | rfl | (simp only [nI_nn, nI_cond, nI_ite, nI_ntg]; rfl)
  case laload => simp only [nK]; split <;> first | rfl | (simp only [nI_nn, nI_cond, nI_ite, nI_ntg]; rfl)
  case lastore => simp only [nK]; split <;> first | rfl | (simp only [nI_nn, nI_cond, nI_ite, nI_ntg]; rfl)
  case arraylength => simp only [nK]; split <;> first | rfl | (simp only [nI_nn, nI_cond, nI_ite, nI_ntg]; rfl)
  case checkcast => simp only [nK]; split <;> first | rfl | (simp only [nI_nn, nI_cond, nI_ite, nI_ntg]; rfl)
  case ifnull => simp only [nK]; split <;> first | rfl | (simp only [nI_nz, nI_nzL]; rfl)
  case ifnonnull => simp only [nK]; split <;> first | rfl | (simp only [nI_nz, nI_nzL]; rfl)
  case dup => simp only [nK]; split <;> first | rfl | (simp only [nI_nn]; rfl)
  case new => simp only [nK, nI_cond]; rfl
  case aconst_null => simp only [nK, nI_cond]; rfl
  case ldc => simp only [nK, nI_cond]; rfl
  case ireturn => simp only [nK]; split <;> first | rfl | (simp only [nI_cond, nI_ite]; rfl)
  case idiv => simp only [nK]; split <;> first | rfl | (simp only [nI_cond, nI_ite]; rfl)
  case irem => simp only [nK]; split <;> first | rfl | (simp only [nI_cond, nI_ite]; rfl)
  all_goals
    simp only [nK]
    first
    | rfl
    | (split <;> first | rfl | (split <;> rfl))
end NI
theorem nCall_mono {y pc : Nat} {L : nLs} {go go' : Nat → nLs → List nV → nS → Option nOut} {R R' : Nat → Nat → nLs → List nV → nS → Option nOut} (hg : ∀ pc L S s r, go pc L S s = some r → go' pc L S s = some r) (hR : ∀ y pc L S s r, R y pc L S s = some r → R' y pc L S s = some r) {y' : Nat} {A : List nV} {ml : Nat} {S : List nV} {s : nS} {r : nOut} (h : nCall y pc L go R y' A ml S s = some r) : nCall y pc L go' R' y' A ml S s = some r := by
  have hx : ∀ E s r, nHx y pc L go E s = some r → nHx y pc L go' E s = some r := by
    intro E s r h
    unfold nHx at h ⊢
    split at h
    · exact h
    · exact hg _ _ _ _ _ h
  unfold nCall at h ⊢
  cases hq : R y' 0 (nL0 A ml) [] s with
  | none => rw [hq] at h; cases nRt y' |>.beq 0 <;> cases nRt y' |>.beq 1 <;> simp [bV, bI, bR] at h
  | some q =>
    rw [hq] at h
    rw [hR _ _ _ _ _ _ hq]
    obtain ⟨r1, s1⟩ := q
    cases h0 : (nRt y').beq 0 with
    | true =>
      rw [h0] at h
      simp only [cond_true] at h ⊢
      unfold bV at h ⊢
      split at h
      · exact hg _ _ _ _ _ h
      · exact hx _ _ _ h
      · cases h
    | false =>
      rw [h0] at h
      simp only [cond_false] at h ⊢
      cases h1 : (nRt y').beq 1 with
      | true =>
        rw [h1] at h
        simp only [cond_true] at h ⊢
        unfold bI at h ⊢
        split at h
        · exact hg _ _ _ _ _ h
        · exact hx _ _ _ h
        · cases h
      | false =>
        rw [h1] at h
        simp only [cond_false] at h ⊢
        unfold bR at h ⊢
        split at h
        · rename_i q t o s2 he
          unfold ntg at h ⊢
          cases hb : Nat.beq t (nRt y' - 100) with
          | true => rw [hb] at h; exact hg _ _ _ _ _ h
          | false => rw [hb] at h; cases h
        · exact hx _ _ _ h
        · cases h
theorem nX_mono1 (xs : Nat → Int32) (nx : Nat) : ∀ (n y pc : Nat) (L : nLs) (S : List nV) (s : nS) (r : nOut), nX xs nx n y pc L S s = some r → nX xs nx (n + 1) y pc L S s = some r := by
  intro n
  induction n with
  | zero => intro y pc L S s r h; cases h
  | succ n ih =>
    intro y pc L S s r h
    unfold nX at h ⊢
    split at h
    · cases h
    · rename_i e he
      simp only [nK_int] at h ⊢
      unfold nInt at h ⊢
      split at h
      · cases h
      · exact ih _ _ _ _ _ _ h
      · exact nCall_mono (fun pc L S s r => ih _ pc L S s r) (fun y pc L S s r => ih y pc L S s r) h
      · exact h
theorem nX_mono {xs : Nat → Int32} {nx n m y pc : Nat} {L : nLs} {S : List nV} {s : nS} {r : nOut} (hm : n ≤ m) (h : nX xs nx n y pc L S s = some r) : nX xs nx m y pc L S s = some r := by
  induction hm with
  | refl => exact h
  | step _ ih => exact nX_mono1 xs nx _ _ _ _ _ _ _ ih
/-- what a run comes to -/
noncomputable def R1 (xs : Nat → Int32) (nx y pc : Nat) (L : nLs) (S : List nV) (s : nS) : Option nOut :=
  have := Classical.propDecidable (∃ r n, nX xs nx n y pc L S s = some r)
  if h : ∃ r n, nX xs nx n y pc L S s = some r then some (Classical.choose h) else none
theorem R1_iff {xs : Nat → Int32} {nx y pc : Nat} {L : nLs} {S : List nV} {s : nS} {r : nOut} : R1 xs nx y pc L S s = some r ↔ ∃ n, nX xs nx n y pc L S s = some r := by
  unfold R1
  by_cases h : ∃ r n, nX xs nx n y pc L S s = some r
  · simp only [h, ↓reduceDIte, Option.some.injEq]
    obtain ⟨n, hn⟩ := Classical.choose_spec h
    constructor
    · intro e
      exact ⟨n, e ▸ hn⟩
    · rintro ⟨m, hm⟩
      have h1 := nX_mono (Nat.le_max_left n m) hn
      have h2 := nX_mono (Nat.le_max_right n m) hm
      exact Option.some.inj (h1.symm.trans h2)
  · simp only [h, ↓reduceDIte]
    constructor
    · intro e; cases e
    · rintro ⟨m, hm⟩
      exact absurd ⟨r, m, hm⟩ h
theorem nCall_R1 {xs : Nat → Int32} {nx y pc : Nat} {L : nLs} {y' : Nat} {A : List nV} {ml : Nat} {S : List nV} {s : nS} {r : nOut} : nCall y pc L (R1 xs nx y) (R1 xs nx) y' A ml S s = some r ↔ ∃ n, nCall y pc L (nX xs nx n y) (nX xs nx n) y' A ml S s = some r := by
  constructor
  · intro h
    have up : ∀ (n : Nat) (q : nOut), R1 xs nx y' 0 (nL0 A ml) [] s = some q → nX xs nx n y' 0 (nL0 A ml) [] s = some q → (∀ (k : nOut → Option nOut), True) := fun _ _ _ _ _ => trivial
    cases hq : R1 xs nx y' 0 (nL0 A ml) [] s with
    | none =>
      unfold nCall at h
      rw [hq] at h
      cases h0 : (nRt y').beq 0 <;> cases h1 : (nRt y').beq 1 <;> simp [h0, h1, bV, bI, bR] at h
    | some q =>
      obtain ⟨n1, hn1⟩ := R1_iff.mp hq
      obtain ⟨r1, s1⟩ := q
      have key : ∀ (pc' : Nat) (L' : nLs) (S' : List nV) (s' : nS), R1 xs nx y pc' L' S' s' = some r → ∃ n2, n1 ≤ n2 ∧ nX xs nx n2 y pc' L' S' s' = some r := by
        intro pc' L' S' s' h
        obtain ⟨n2, h2⟩ := R1_iff.mp h
        exact ⟨max n1 n2, Nat.le_max_left _ _, nX_mono (Nat.le_max_right _ _) h2⟩
      have keyx : ∀ (E : Nat) (s' : nS), nHx y pc L (R1 xs nx y) E s' = some r → ∃ n2, n1 ≤ n2 ∧ nHx y pc L (nX xs nx n2 y) E s' = some r := by
        intro E s' h
        unfold nHx at h ⊢
        split at h
        · exact ⟨n1, Nat.le_refl _, h⟩
        · exact key _ _ _ _ h
      unfold nCall at h ⊢
      rw [hq] at h
      have hn : ∀ n2, n1 ≤ n2 → nX xs nx n2 y' 0 (nL0 A ml) [] s = some (r1, s1) := fun n2 h2 => nX_mono h2 hn1
      cases h0 : (nRt y').beq 0 with
      | true =>
        rw [h0] at h
        simp only [cond_true] at h ⊢
        unfold bV at h
        split at h
        · rename_i q s2 he
          cases he
          obtain ⟨n2, h2, h3⟩ := key _ _ _ _ h
          exact ⟨n2, by rw [hn n2 h2]; exact h3⟩
        · rename_i q E s2 he
          cases he
          obtain ⟨n2, h2, h3⟩ := keyx _ _ h
          exact ⟨n2, by rw [hn n2 h2]; exact h3⟩
        · cases h
      | false =>
        rw [h0] at h
        simp only [cond_false] at h ⊢
        cases h1 : (nRt y').beq 1 with
        | true =>
          rw [h1] at h
          simp only [cond_true] at h ⊢
          unfold bI at h
          split at h
          · rename_i q x s2 he
            cases he
            obtain ⟨n2, h2, h3⟩ := key _ _ _ _ h
            exact ⟨n2, by rw [hn n2 h2]; exact h3⟩
          · rename_i q E s2 he
            cases he
            obtain ⟨n2, h2, h3⟩ := keyx _ _ h
            exact ⟨n2, by rw [hn n2 h2]; exact h3⟩
          · cases h
        | false =>
          rw [h1] at h
          simp only [cond_false] at h ⊢
          unfold bR at h
          split at h
          · rename_i q t o s2 he
            cases he
            unfold ntg at h
            cases hb : Nat.beq t (nRt y' - 100) with
            | true =>
              rw [hb] at h
              obtain ⟨n2, h2, h3⟩ := key _ _ _ _ h
              refine ⟨n2, ?_⟩
              rw [hn n2 h2]
              unfold bR ntg
              simp only [hb, cond_true]
              exact h3
            | false => rw [hb] at h; cases h
          · rename_i q E s2 he
            cases he
            obtain ⟨n2, h2, h3⟩ := keyx _ _ h
            exact ⟨n2, by rw [hn n2 h2]; exact h3⟩
          · cases h
  · rintro ⟨n, h⟩
    exact nCall_mono (fun pc L S s r h => R1_iff.mpr ⟨n, h⟩) (fun y pc L S s r h => R1_iff.mpr ⟨n, h⟩) h
theorem R1_eq (xs : Nat → Int32) (nx y pc : Nat) (L : nLs) (S : List nV) (s : nS) : R1 xs nx y pc L S s = match mF y pc with
    | none => none
    | some e => nK xs nx (R1 xs nx y) (nCall y pc L (R1 xs nx y) (R1 xs nx)) nFin e.1 e.2.1 e.2.2.1 e.2.2.2 y pc L S s := by
  apply Option.ext
  intro r
  rw [R1_iff]
  have h0 : (∃ n, nX xs nx n y pc L S s = some r) ↔ ∃ n, nX xs nx (n + 1) y pc L S s = some r := by
    constructor
    · rintro ⟨n, h⟩
      exact ⟨n, nX_mono1 _ _ _ _ _ _ _ _ _ h⟩
    · rintro ⟨n, h⟩
      exact ⟨n + 1, h⟩
  rw [h0]
  unfold nX
  cases hF : mF y pc with
  | none =>
    constructor
    · rintro ⟨n, h⟩; cases h
    · intro h; cases h
  | some e =>
    simp only [nK_int]
    cases hs : nStep xs nx (e.1, e.2.1, e.2.2.1, e.2.2.2) y pc L S s with
    | none =>
      constructor
      · rintro ⟨n, h⟩; cases h
      · intro h; cases h
    | some a =>
      rcases a with ⟨pc', L', S', s'⟩ | ⟨y', A, ml, S', s'⟩ | ⟨r', s'⟩
      · exact R1_iff.symm
      · exact nCall_R1.symm
      · constructor
        · rintro ⟨n, h⟩; exact h
        · intro h; exact ⟨0, h⟩
/-- a stretch of steps: as far as the cuts, n steps at most -/
noncomputable def nT (cut : Nat → Bool) (xs : Nat → Int32) (nx : Nat) : Nat → Nat → Nat → nLs → List nV → nS → Option nOut
  | 0, y, pc, L, S, s => R1 xs nx y pc L S s
  | n + 1, y, pc, L, S, s => match mF y pc with
    | none => none
    | some e => nK xs nx (fun pc L S s => cond (cut pc) (R1 xs nx y pc L S s) (nT cut xs nx n y pc L S s)) (nCall y pc L (fun pc L S s => cond (cut pc) (R1 xs nx y pc L S s) (nT cut xs nx n y pc L S s)) (R1 xs nx)) nFin e.1 e.2.1 e.2.2.1 e.2.2.2 y pc L S s
theorem R1_T (cut : Nat → Bool) (n : Nat) {xs : Nat → Int32} {nx : Nat} : ∀ {y pc : Nat} {L : nLs} {S : List nV} {s : nS}, R1 xs nx y pc L S s = nT cut xs nx n y pc L S s := by
  induction n with
  | zero => intro y pc L S s; rfl
  | succ n ih =>
    intro y pc L S s
    have hf : (fun pc L S s => cond (cut pc) (R1 xs nx y pc L S s) (nT cut xs nx n y pc L S s)) = R1 xs nx y := by
      funext pc L S s
      cases cut pc
      · exact ih.symm
      · rfl
    rw [R1_eq]
    unfold nT
    rw [hf]
def hE : Nat → nS → Option nOut := fun E s => some (.inr E, s)
