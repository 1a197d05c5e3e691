/-! ===== the law's loop, from what is owed of each call: made by wip/whole/gen2/mk80.py ===== -/
def nHl (l : List (Nat × Int32)) (E : Nat) : Option Int32 := match l with
  | [] => none
  | (e, c) :: l => if E = e then some c else nHl l E
theorem nHq_l {l : List (Nat × Int32)} {E : Nat} {e : Int32} {s : nS} (h : nHl l E = some e) : nHq l E s = some (.inl (some (vI e)), s) := by
  induction l with
  | nil => cases h
  | cons a l ih =>
    obtain ⟨e0, c⟩ := a
    unfold nHl at h
    unfold nHq
    split at h
    · rename_i hE
      cases h
      rw [if_pos hE]
    · rename_i hE
      rw [if_neg hE]
      exact ih h
/-- a call of the class and the same of the reference answer alike -/
def nDoes (Inv : Nat → nC → nM → Prop) (i : Nat) (hs : List (Nat × Int32)) (c m : nS → Option nOut) : Prop := ∀ s, Inv i s.1 s.2.1 → ∃ (c' : nC) (m' : nM) (v : Int32), Inv (i + 1) c' m' ∧ (∀ z, m (c', s.2.1, z) = some (.inl (some (vI v)), (c', m', z))) ∧
  ((c s = some (.inl (some (vI v)), (c', s.2)) ∧ m' 1 76 = 0) ∨ ∃ E, c s = some (.inr E, (c', s.2.1, s.2.2.1 + 1, s.2.2.2)) ∧ nHl hs E = some (m' 1 76) ∧ m' 1 76 ≠ 0)
def nDoesB (Inv : Nat → nC → nM → Prop) (i : Nat) (hs : List (Nat × Int32)) (c m : nS → Option nOut) : Prop := ∀ s, Inv i s.1 s.2.1 → ∃ (c' : nC) (m' : nM) (v : Int32), Inv (i + 1) c' m' ∧ (v = 0 ∨ v = 1) ∧ (∀ z, m (c', s.2.1, z) = some (.inl (some (vI v)), (c', m', z))) ∧
  ((c s = some (.inl (some (vI v)), (c', s.2)) ∧ m' 1 76 = 0) ∨ ∃ E, c s = some (.inr E, (c', s.2.1, s.2.2.1 + 1, s.2.2.2)) ∧ nHl hs E = some (m' 1 76) ∧ m' 1 76 ≠ 0)
def nLL (a4 : Int32) (l5 l6 : Option nV) : nLs := [some (vR 127 (some 1)), some (vR 0 (some 0)), some (vR 1 (some 0)), some (vR 2 (some 0)), some (vI a4), l5, l6]
def nOver (xs : Nat → Int32) (nx : Nat) (Inv : Nat → nC → nM → Prop) (i : Nat) (a4 : Int32) (X : Option nOut) : Prop := ∃ (s' : nS) (l5 l6 : Option nV), X = R1 xs nx 0 3193 (nLL a4 l5 l6) [] s' ∧ Inv (i + 1) s'.1 s'.2.1 ∧ s'.2.2.1 ≤ i + 1
theorem lg_cmp_self {x : Int64} : lg_cmp x x = 0 := by simp [lg_cmp]
theorem mIn_01 : mIn (0 : Int32) 1 = true := rfl
section LAWL
variable {xs : Nat → Int32} {nx : Nat} {Inv : Nat → nC → nM → Prop} {i : Nat} {a4 : Int32} {hs : List (Nat × Int32)} {c m : nS → Option nOut} {s : nS} {H : Option nOut}
noncomputable def nK1 (xs : Nat → Int32) (nx : Nat) (a4 : Int32) (m : nS → Option nOut) (H : Option nOut) : Option nOut := bI H (fun x2 s1 => bI (m s1) (fun x4 s3 => bI (R1 xs nx 171 0 [some (vR 1 (some 0))] [] s3) (fun x6 s5 => if x6 = x2 then if x2 = 0 then if mIn (0 : Int32) 1 = true then if (lg_cmp (s5.2.2.2 (0 : Int32).toNatClampNeg) (x4).toInt64) = 0 then R1 xs nx 0 3193 (nLL a4 (some (vI x2)) (some (vI x4))) [] s5 else some (.inl (some (vI (0 : Int32))), s5) else none else R1 xs nx 0 3193 (nLL a4 (some (vI x2)) (some (vI x4))) [] s5 else some (.inl (some (vI (0 : Int32))), s5)) hE) hE) hE
theorem nK1_ok (h : nDoes Inv i hs c m) (hI : Inv i s.1 s.2.1) (hT : s.2.2.1 ≤ i) (hH : H = bI (c s) (fun x2 s1 => if mIn (0 : Int32) 1 = true then some (.inl (some (vI (0 : Int32))), (s1.1, s1.2.1, (s1.2.2.1, up1 s1.2.2.2 (0 : Int32).toNatClampNeg (x2).toInt64))) else none) (nHq hs)) : nOver xs nx Inv i a4 (nK1 xs nx a4 m H) := by
  obtain ⟨c', m', v, h1, h2, h3⟩ := h s hI
  rcases h3 with ⟨h3, h4⟩ | ⟨E, h3, h4, h5⟩
  · refine ⟨(c', m', s.2.2.1, up1 s.2.2.2 0 v.toInt64), some (vI 0), some (vI v), ?_, h1, Nat.le_succ_of_le hT⟩
    rw [hH, h3]
    simp only [nK1, bI, mIn_01, if_true]
    rw [h2]
    simp only [d_171_0, h4, if_true]
    exact (if_pos (by rw [show up1 s.2.2.2 (0 : Int32).toNatClampNeg v.toInt64 (0 : Int32).toNatClampNeg = v.toInt64 by simp [up1]]; exact lg_cmp_self)).trans rfl
  · refine ⟨(c', m', s.2.2.1 + 1, s.2.2.2), some (vI (m' 1 76)), some (vI v), ?_, h1, Nat.succ_le_succ hT⟩
    rw [hH, h3]
    simp only [nK1, bI, nHq_l h4]
    rw [h2]
    simp only [d_171_0, h5, if_true, if_false]
noncomputable def nK2 (xs : Nat → Int32) (nx : Nat) (a4 : Int32) (m : nS → Option nOut) (H : Option nOut) : Option nOut := bI H (fun x2 s1 => bI (m s1) (fun x4 s3 => bI (R1 xs nx 171 0 [some (vR 1 (some 0))] [] s3) (fun x6 s5 => if x6 = x2 then if x2 = 0 then if mIn (0 : Int32) 1 = true then if x4 = 0 then if (lg_cmp (s5.2.2.2 (0 : Int32).toNatClampNeg) (0 : Int64)) = 0 then R1 xs nx 0 3193 (nLL a4 (some (vI x2)) (some (vI x4))) [] s5 else some (.inl (some (vI (0 : Int32))), s5) else if (lg_cmp (s5.2.2.2 (0 : Int32).toNatClampNeg) (1 : Int64)) = 0 then R1 xs nx 0 3193 (nLL a4 (some (vI x2)) (some (vI x4))) [] s5 else some (.inl (some (vI (0 : Int32))), s5) else none else R1 xs nx 0 3193 (nLL a4 (some (vI x2)) (some (vI x4))) [] s5 else some (.inl (some (vI (0 : Int32))), s5)) hE) hE) hE
theorem nK2_ok (h : nDoesB Inv i hs c m) (hI : Inv i s.1 s.2.1) (hT : s.2.2.1 ≤ i) (hH : H = bI (c s) (fun x2 s1 => if x2 = 0 then if mIn (0 : Int32) 1 = true then some (.inl (some (vI (0 : Int32))), (s1.1, s1.2.1, (s1.2.2.1, up1 s1.2.2.2 (0 : Int32).toNatClampNeg (0 : Int64)))) else none else if mIn (0 : Int32) 1 = true then some (.inl (some (vI (0 : Int32))), (s1.1, s1.2.1, (s1.2.2.1, up1 s1.2.2.2 (0 : Int32).toNatClampNeg (1 : Int64)))) else none) (nHq hs)) : nOver xs nx Inv i a4 (nK2 xs nx a4 m H) := by
  obtain ⟨c', m', v, h1, hv, h2, h3⟩ := h s hI
  rcases h3 with ⟨h3, h4⟩ | ⟨E, h3, h4, h5⟩
  · rcases hv with rfl | rfl
    · refine ⟨(c', m', s.2.2.1, up1 s.2.2.2 0 0), some (vI 0), some (vI 0), ?_, h1, Nat.le_succ_of_le hT⟩
      rw [hH, h3]
      simp only [nK2, bI, mIn_01, if_true]
      rw [h2]
      simp only [d_171_0, h4, if_true]
      exact (if_pos (by rw [show up1 s.2.2.2 (0 : Int32).toNatClampNeg 0 (0 : Int32).toNatClampNeg = 0 by simp [up1]]; exact lg_cmp_self)).trans rfl
    · refine ⟨(c', m', s.2.2.1, up1 s.2.2.2 0 1), some (vI 0), some (vI 1), ?_, h1, Nat.le_succ_of_le hT⟩
      have h10 : ¬ (1 : Int32) = 0 := by decide
      rw [hH, h3]
      simp only [nK2, bI, mIn_01, if_true, h10, if_false]
      rw [h2]
      simp only [d_171_0, h4, if_true, h10, if_false]
      exact (if_pos (by rw [show up1 s.2.2.2 (0 : Int32).toNatClampNeg 1 (0 : Int32).toNatClampNeg = 1 by simp [up1]]; exact lg_cmp_self)).trans rfl
  · refine ⟨(c', m', s.2.2.1 + 1, s.2.2.2), some (vI (m' 1 76)), some (vI v), ?_, h1, Nat.succ_le_succ hT⟩
    rw [hH, h3]
    simp only [nK2, bI, nHq_l h4]
    rw [h2]
    simp only [d_171_0, h5, if_true, if_false]
noncomputable def nK3 (xs : Nat → Int32) (nx : Nat) (a4 : Int32) (l5 l6 : Option nV) (m : nS → Option nOut) (H : Option nOut) : Option nOut := bI H (fun x2 s1 => bI (m s1) (fun x4 s3 => if x2 = x4 then R1 xs nx 0 3193 (nLL a4 l5 l6) [] s3 else some (.inl (some (vI (0 : Int32))), s3)) hE) hE
theorem nK3_ok {l5 l6 : Option nV} (h : nDoes Inv i [] c m) (hI : Inv i s.1 s.2.1) (hT : s.2.2.1 ≤ i) : nOver xs nx Inv i a4 (nK3 xs nx a4 l5 l6 m (c s)) := by
  obtain ⟨c', m', v, h1, h2, h3⟩ := h s hI
  rcases h3 with ⟨h3, h4⟩ | ⟨E, h3, h4, h5⟩
  · refine ⟨(c', m', s.2.2), l5, l6, ?_, h1, Nat.le_succ_of_le hT⟩
    rw [h3]
    simp only [nK3, bI]
    rw [show ((c', s.2) : nS) = (c', s.2.1, s.2.2) from rfl, h2]
    simp only [if_true]
  · cases h4
/-- what is owed of each call -/
def nOps (xs : Nat → Int32) (nx : Nat) (Inv : Nat → nC → nM → Prop) : Prop :=
  (∀ i c m, i < 1000 → Inv i c m → Inv (i + 1) c m) ∧
  (∀ i, i < 512 → ∀ (a1 a2 : Int32), nDoes Inv i [(0, 1), (1, 2)] (fun s => R1 xs nx 81 0 [some (vR 0 (some 0)), some (vI a1), some (vI a2), none, none] [] s) (fun s => R1 xs nx 180 0 [some (vR 1 (some 0)), some (vI a1), some (vI a2), none] [] s)) ∧
  (∀ i, i < 512 → ∀ (a1 a2 a3 : Int32), nDoes Inv i [(0, 1), (1, 2)] (fun s => R1 xs nx 82 0 [some (vR 0 (some 0)), some (vI a1), some (vI a2), some (vI a3), none, none] [] s) (fun s => R1 xs nx 181 0 [some (vR 1 (some 0)), some (vI a1), some (vI a2), some (vI a3), none] [] s)) ∧
  (∀ i, i < 512 → ∀ (a1 a2 a3 : Int32), (a3 = 0 ∨ a3 = 1) → nDoes Inv i [(0, 1), (1, 2)] (fun s => R1 xs nx 83 0 [some (vR 0 (some 0)), some (vI a1), some (vI a2), some (vI a3), none, none] [] s) (fun s => R1 xs nx 182 0 [some (vR 1 (some 0)), some (vI a1), some (vI a2), some (vI a3), none] [] s)) ∧
  (∀ i, i < 512 → ∀ (a1 a2 a3 a4 : Int32), (a4 = 0 ∨ a4 = 1) → nDoes Inv i [(0, 1), (1, 2), (2, 3)] (fun s => R1 xs nx 85 0 [some (vR 0 (some 0)), some (vI a1), some (vI a2), some (vI a3), some (vI a4), none, none, none] [] s) (fun s => R1 xs nx 183 0 [some (vR 1 (some 0)), some (vI a1), some (vI a2), some (vI a3), some (vI a4), none, none] [] s)) ∧
  (∀ i, i < 512 → ∀ (a1 a2 a3 a4 a5 a6 : Int32), nDoes Inv i [(0, 1), (1, 2)] (fun s => R1 xs nx 87 0 [some (vR 0 (some 0)), some (vI a1), some (vI a2), some (vI a3), some (vI a4), some (vI a5), some (vI a6), none, none] [] s) (fun s => R1 xs nx 184 0 [some (vR 1 (some 0)), some (vI a1), some (vI a2), some (vI a3), some (vI a4), some (vI a5), some (vI a6), none, none] [] s)) ∧
  (∀ i, i < 512 → ∀ (a1 a2 a3 a4 : Int32), nDoes Inv i [(0, 1), (1, 2)] (fun s => R1 xs nx 88 0 [some (vR 0 (some 0)), some (vI a1), some (vI a2), some (vI a3), some (vI a4), none, none, none, none] [] s) (fun s => R1 xs nx 186 0 [some (vR 1 (some 0)), some (vI a1), some (vI a2), some (vI a3), some (vI a4), none, none, none] [] s)) ∧
  (∀ i, i < 512 → ∀ (a1 a2 : Int32), nDoes Inv i [(0, 1), (1, 2), (2, 3)] (fun s => R1 xs nx 89 0 [some (vR 0 (some 0)), some (vI a1), some (vI a2), none] [] s) (fun s => R1 xs nx 187 0 [some (vR 1 (some 0)), some (vI a1), some (vI a2)] [] s)) ∧
  (∀ i, i < 512 → ∀ (a1 a2 a3 : Int32), nDoes Inv i [(0, 1), (1, 2)] (fun s => R1 xs nx 91 0 [some (vR 0 (some 0)), some (vI a1), some (vI a2), some (vI a3), none] [] s) (fun s => R1 xs nx 188 0 [some (vR 1 (some 0)), some (vI a1), some (vI a2), some (vI a3), none] [] s)) ∧
  (∀ i, i < 512 → ∀ (a1 a2 a3 a4 a5 a6 : Int32), (a6 = 0 ∨ a6 = 1) → nDoes Inv i [(0, 1), (1, 2), (2, 3)] (fun s => R1 xs nx 96 0 [some (vR 0 (some 0)), some (vI a1), some (vI a2), some (vI a3), some (vI a4), some (vI a5), some (vI a6), none, none, none, none] [] s) (fun s => R1 xs nx 194 0 [some (vR 1 (some 0)), some (vI a1), some (vI a2), some (vI a3), some (vI a4), some (vI a5), some (vI a6), none, none, none] [] s)) ∧
  (∀ i, i < 512 → ∀ (a1 a2 a3 : Int32), nDoes Inv i [(0, 1), (1, 2), (2, 3)] (fun s => R1 xs nx 98 0 [some (vR 0 (some 0)), some (vI a1), some (vI a2), some (vI a3), none] [] s) (fun s => R1 xs nx 196 0 [some (vR 1 (some 0)), some (vI a1), some (vI a2), some (vI a3), none, none] [] s)) ∧
  (∀ i, i < 512 → ∀ (a1 a2 a3 a4 : Int32), nDoes Inv i [(0, 1), (1, 2), (2, 3)] (fun s => R1 xs nx 99 0 [some (vR 0 (some 0)), some (vI a1), some (vI a2), some (vI a3), some (vI a4), none] [] s) (fun s => R1 xs nx 197 0 [some (vR 1 (some 0)), some (vI a1), some (vI a2), some (vI a3), some (vI a4), none, none] [] s)) ∧
  (∀ i, i < 512 → ∀ (a1 a2 : Int32), nDoesB Inv i [(0, 1), (1, 2), (2, 3)] (fun s => R1 xs nx 100 0 [some (vR 0 (some 0)), some (vI a1), some (vI a2), none, none, none] [] s) (fun s => R1 xs nx 198 0 [some (vR 1 (some 0)), some (vI a1), some (vI a2), none, none, none] [] s)) ∧
  (∀ i, i < 512 → ∀ (a1 a2 a3 : Int32), nDoes Inv i [(0, 1), (1, 2), (2, 3)] (fun s => R1 xs nx 101 0 [some (vR 0 (some 0)), some (vI a1), some (vI a2), some (vI a3), none, none] [] s) (fun s => R1 xs nx 199 0 [some (vR 1 (some 0)), some (vI a1), some (vI a2), some (vI a3), none] [] s)) ∧
  (∀ i, i < 512 → ∀ (a1 a2 a3 a4 : Int32), nDoes Inv i [(0, 1), (1, 2), (2, 3)] (fun s => R1 xs nx 102 0 [some (vR 0 (some 0)), some (vI a1), some (vI a2), some (vI a3), some (vI a4), none, none] [] s) (fun s => R1 xs nx 200 0 [some (vR 1 (some 0)), some (vI a1), some (vI a2), some (vI a3), some (vI a4), none] [] s)) ∧
  (∀ i, i < 512 → ∀ (a1 : Int32), nDoes Inv i [(1, 1), (2, 2)] (fun s => R1 xs nx 126 0 [some (vR 0 (some 0)), some (vI a1), none, none] [] s) (fun s => R1 xs nx 223 0 [some (vR 1 (some 0)), some (vI a1), none] [] s)) ∧
  (∀ i, i < 512 → ∀ (a1 a2 : Int32), (a2 = 0 ∨ a2 = 1) → nDoes Inv i [(0, 1), (2, 2)] (fun s => R1 xs nx 128 0 [some (vR 0 (some 0)), some (vI a1), some (vI a2), none, none] [] s) (fun s => R1 xs nx 225 0 [some (vR 1 (some 0)), some (vI a1), some (vI a2), none] [] s)) ∧
  (∀ i, i < 512 → ∀ (a1 : Int32), nDoes Inv i [(0, 1), (2, 2)] (fun s => R1 xs nx 129 0 [some (vR 0 (some 0)), some (vI a1), none, none] [] s) (fun s => R1 xs nx 226 0 [some (vR 1 (some 0)), some (vI a1), none] [] s)) ∧
  (∀ i, i < 512 → ∀ (a1 a2 : Int32), nDoes Inv i [(0, 1), (2, 2)] (fun s => R1 xs nx 131 0 [some (vR 0 (some 0)), some (vI a1), some (vI a2), none, none] [] s) (fun s => R1 xs nx 229 0 [some (vR 1 (some 0)), some (vI a1), some (vI a2), none] [] s)) ∧
  (∀ i, i < 512 → ∀ (a1 : Int32), nDoes Inv i [(0, 1), (2, 2)] (fun s => R1 xs nx 132 0 [some (vR 0 (some 0)), some (vI a1), none] [] s) (fun s => R1 xs nx 230 0 [some (vR 1 (some 0)), some (vI a1), none] [] s)) ∧
  (∀ i, i < 512 → ∀ (a1 : Int32), nDoes Inv i [(0, 1), (2, 2)] (fun s => R1 xs nx 133 0 [some (vR 0 (some 0)), some (vI a1), none, none] [] s) (fun s => R1 xs nx 231 0 [some (vR 1 (some 0)), some (vI a1), none, none] [] s)) ∧
  (∀ i, i < 512 → ∀ (a1 a2 : Int32), nDoes Inv i [(0, 1), (2, 2)] (fun s => R1 xs nx 134 0 [some (vR 0 (some 0)), some (vI a1), some (vI a2), none, none, none] [] s) (fun s => R1 xs nx 232 0 [some (vR 1 (some 0)), some (vI a1), some (vI a2), none] [] s)) ∧
  (∀ i, i < 512 → ∀ (a1 a2 : Int32), nDoes Inv i [(0, 1), (2, 2)] (fun s => R1 xs nx 137 0 [some (vR 0 (some 0)), some (vI a1), some (vI a2), none, none] [] s) (fun s => R1 xs nx 234 0 [some (vR 1 (some 0)), some (vI a1), some (vI a2), none, none, none] [] s)) ∧
  (∀ i, i < 512 → ∀ (a1 a2 a3 : Int32), (a3 = 0 ∨ a3 = 1) → nDoes Inv i [(0, 1), (1, 2), (2, 3)] (fun s => R1 xs nx 140 0 [some (vR 0 (some 0)), some (vI a1), some (vI a2), some (vI a3), none, none] [] s) (fun s => R1 xs nx 237 0 [some (vR 1 (some 0)), some (vI a1), some (vI a2), some (vI a3), none, none, none] [] s)) ∧
  (∀ i, i < 512 → ∀ (a1 a2 : Int32), nDoes Inv i [(0, 1), (1, 2)] (fun s => R1 xs nx 142 0 [some (vR 0 (some 0)), some (vI a1), some (vI a2), none, none, none, none, none, none] [] s) (fun s => R1 xs nx 238 0 [some (vR 1 (some 0)), some (vI a1), some (vI a2), none, none, none, none] [] s)) ∧
  (∀ i, i < 512 → nDoes Inv i [] (fun s => R1 xs nx 143 0 [some (vR 0 (some 0))] [] s) (fun s => R1 xs nx 239 0 [some (vR 1 (some 0))] [] s)) ∧
  (∀ i, i < 512 → ∀ (a1 : Int32), nDoes Inv i [(0, 1)] (fun s => R1 xs nx 144 0 [some (vR 0 (some 0)), some (vI a1)] [] s) (fun s => R1 xs nx 240 0 [some (vR 1 (some 0)), some (vI a1)] [] s)) ∧
  (∀ i, i < 512 → ∀ (a1 : Int32), nDoes Inv i [(0, 1)] (fun s => R1 xs nx 145 0 [some (vR 0 (some 0)), some (vI a1)] [] s) (fun s => R1 xs nx 241 0 [some (vR 1 (some 0)), some (vI a1)] [] s)) ∧
  (∀ i, i < 512 → ∀ (a1 a2 : Int32), nDoes Inv i [(0, 1), (1, 2)] (fun s => R1 xs nx 146 0 [some (vR 0 (some 0)), some (vI a1), some (vI a2), none] [] s) (fun s => R1 xs nx 242 0 [some (vR 1 (some 0)), some (vI a1), some (vI a2)] [] s)) ∧
  (∀ i, i < 512 → ∀ (a1 : Int32), nDoes Inv i [(1, 1)] (fun s => R1 xs nx 147 0 [some (vR 0 (some 0)), some (vI a1), none, none] [] s) (fun s => R1 xs nx 243 0 [some (vR 1 (some 0)), some (vI a1), none, none] [] s)) ∧
  (∀ i, i < 512 → ∀ (a1 : Int32), nDoes Inv i [(0, 1)] (fun s => R1 xs nx 148 0 [some (vR 0 (some 0)), some (vI a1), none, none, none] [] s) (fun s => R1 xs nx 244 0 [some (vR 1 (some 0)), some (vI a1), none, none] [] s)) ∧
  (∀ i, i < 512 → ∀ (a1 : Int32), nDoes Inv i [(0, 1)] (fun s => R1 xs nx 149 0 [some (vR 0 (some 0)), some (vI a1), none] [] s) (fun s => R1 xs nx 245 0 [some (vR 1 (some 0)), some (vI a1)] [] s)) ∧
  (∀ i, i < 512 → ∀ (a1 : Int32), nDoes Inv i [(0, 1)] (fun s => R1 xs nx 150 0 [some (vR 0 (some 0)), some (vI a1)] [] s) (fun s => R1 xs nx 246 0 [some (vR 1 (some 0)), some (vI a1)] [] s)) ∧
  (∀ i, i < 512 → ∀ (a1 : Int32), nDoes Inv i [(0, 1)] (fun s => R1 xs nx 152 0 [some (vR 0 (some 0)), some (vI a1), none, none, none] [] s) (fun s => R1 xs nx 247 0 [some (vR 1 (some 0)), some (vI a1)] [] s)) ∧
  (∀ i, i < 512 → ∀ (a1 a2 : Int32), nDoes Inv i [(0, 1), (1, 2)] (fun s => R1 xs nx 153 0 [some (vR 0 (some 0)), some (vI a1), some (vI a2), none] [] s) (fun s => R1 xs nx 248 0 [some (vR 1 (some 0)), some (vI a1), some (vI a2)] [] s)) ∧
  (∀ i, i < 512 → ∀ (a1 : Int32), nDoes Inv i [(0, 1)] (fun s => R1 xs nx 154 0 [some (vR 0 (some 0)), some (vI a1)] [] s) (fun s => R1 xs nx 249 0 [some (vR 1 (some 0)), some (vI a1)] [] s)) ∧
  (∀ i, i < 512 → ∀ (a1 : Int32), nDoes Inv i [(0, 1)] (fun s => R1 xs nx 155 0 [some (vR 0 (some 0)), some (vI a1), none, none, none, none] [] s) (fun s => R1 xs nx 250 0 [some (vR 1 (some 0)), some (vI a1), none, none] [] s)) ∧
  (∀ i, i < 512 → nDoes Inv i [] (fun s => R1 xs nx 156 0 [some (vR 0 (some 0))] [] s) (fun s => R1 xs nx 251 0 [some (vR 1 (some 0))] [] s)) ∧
  (∀ i, i < 512 → ∀ (a1 a2 : Int32), nDoes Inv i [(0, 1), (1, 2)] (fun s => R1 xs nx 158 0 [some (vR 0 (some 0)), some (vI a1), some (vI a2), none] [] s) (fun s => R1 xs nx 252 0 [some (vR 1 (some 0)), some (vI a1), some (vI a2)] [] s)) ∧
  (∀ i, i < 512 → ∀ (a1 a2 : Int32), nDoes Inv i [(0, 1)] (fun s => R1 xs nx 159 0 [some (vR 0 (some 0)), some (vI a1), some (vI a2), none, none, none, none, none] [] s) (fun s => R1 xs nx 253 0 [some (vR 1 (some 0)), some (vI a1), some (vI a2), none, none, none] [] s)) ∧
  (∀ i, i < 512 → ∀ (a1 : Int32), nDoes Inv i [(0, 1)] (fun s => R1 xs nx 161 0 [some (vR 0 (some 0)), some (vI a1), none, none, none, none, none, none] [] s) (fun s => R1 xs nx 255 0 [some (vR 1 (some 0)), some (vI a1), none, none, none] [] s)) ∧
  (∀ i, i < 512 → ∀ (a1 : Int32), nDoes Inv i [(0, 1)] (fun s => R1 xs nx 162 0 [some (vR 0 (some 0)), some (vI a1), none, none, none] [] s) (fun s => R1 xs nx 257 0 [some (vR 1 (some 0)), some (vI a1), none, none] [] s)) ∧
  (∀ i, i < 512 → ∀ (a1 : Int32), nDoes Inv i [(0, 1)] (fun s => R1 xs nx 163 0 [some (vR 0 (some 0)), some (vI a1), none, none, none, none] [] s) (fun s => R1 xs nx 258 0 [some (vR 1 (some 0)), some (vI a1), none, none, none, none, none] [] s)) ∧
  (∀ i, i < 512 → ∀ (a1 : Int32), nDoes Inv i [(0, 1)] (fun s => R1 xs nx 169 0 [some (vR 0 (some 0)), some (vI a1), none] [] s) (fun s => R1 xs nx 262 0 [some (vR 1 (some 0)), some (vI a1), none, none, none, none, none] [] s))
theorem nOps.up (h : nOps xs nx Inv) : ∀ i c m, i < 1000 → Inv i c m → Inv (i + 1) c m := h.1
theorem nOps.o0 (h : nOps xs nx Inv) : ∀ i, i < 512 → ∀ (a1 a2 : Int32), nDoes Inv i [(0, 1), (1, 2)] (fun s => R1 xs nx 81 0 [some (vR 0 (some 0)), some (vI a1), some (vI a2), none, none] [] s) (fun s => R1 xs nx 180 0 [some (vR 1 (some 0)), some (vI a1), some (vI a2), none] [] s) := h.2.1
theorem nOps.o1 (h : nOps xs nx Inv) : ∀ i, i < 512 → ∀ (a1 a2 a3 : Int32), nDoes Inv i [(0, 1), (1, 2)] (fun s => R1 xs nx 82 0 [some (vR 0 (some 0)), some (vI a1), some (vI a2), some (vI a3), none, none] [] s) (fun s => R1 xs nx 181 0 [some (vR 1 (some 0)), some (vI a1), some (vI a2), some (vI a3), none] [] s) := h.2.2.1
theorem nOps.o2 (h : nOps xs nx Inv) : ∀ i, i < 512 → ∀ (a1 a2 a3 : Int32), (a3 = 0 ∨ a3 = 1) → nDoes Inv i [(0, 1), (1, 2)] (fun s => R1 xs nx 83 0 [some (vR 0 (some 0)), some (vI a1), some (vI a2), some (vI a3), none, none] [] s) (fun s => R1 xs nx 182 0 [some (vR 1 (some 0)), some (vI a1), some (vI a2), some (vI a3), none] [] s) := h.2.2.2.1
theorem nOps.o3 (h : nOps xs nx Inv) : ∀ i, i < 512 → ∀ (a1 a2 a3 a4 : Int32), (a4 = 0 ∨ a4 = 1) → nDoes Inv i [(0, 1), (1, 2), (2, 3)] (fun s => R1 xs nx 85 0 [some (vR 0 (some 0)), some (vI a1), some (vI a2), some (vI a3), some (vI a4), none, none, none] [] s) (fun s => R1 xs nx 183 0 [some (vR 1 (some 0)), some (vI a1), some (vI a2), some (vI a3), some (vI a4), none, none] [] s) := h.2.2.2.2.1
theorem nOps.o4 (h : nOps xs nx Inv) : ∀ i, i < 512 → ∀ (a1 a2 a3 a4 a5 a6 : Int32), nDoes Inv i [(0, 1), (1, 2)] (fun s => R1 xs nx 87 0 [some (vR 0 (some 0)), some (vI a1), some (vI a2), some (vI a3), some (vI a4), some (vI a5), some (vI a6), none, none] [] s) (fun s => R1 xs nx 184 0 [some (vR 1 (some 0)), some (vI a1), some (vI a2), some (vI a3), some (vI a4), some (vI a5), some (vI a6), none, none] [] s) := h.2.2.2.2.2.1
theorem nOps.o5 (h : nOps xs nx Inv) : ∀ i, i < 512 → ∀ (a1 a2 a3 a4 : Int32), nDoes Inv i [(0, 1), (1, 2)] (fun s => R1 xs nx 88 0 [some (vR 0 (some 0)), some (vI a1), some (vI a2), some (vI a3), some (vI a4), none, none, none, none] [] s) (fun s => R1 xs nx 186 0 [some (vR 1 (some 0)), some (vI a1), some (vI a2), some (vI a3), some (vI a4), none, none, none] [] s) := h.2.2.2.2.2.2.1
theorem nOps.o6 (h : nOps xs nx Inv) : ∀ i, i < 512 → ∀ (a1 a2 : Int32), nDoes Inv i [(0, 1), (1, 2), (2, 3)] (fun s => R1 xs nx 89 0 [some (vR 0 (some 0)), some (vI a1), some (vI a2), none] [] s) (fun s => R1 xs nx 187 0 [some (vR 1 (some 0)), some (vI a1), some (vI a2)] [] s) := h.2.2.2.2.2.2.2.1
theorem nOps.o7 (h : nOps xs nx Inv) : ∀ i, i < 512 → ∀ (a1 a2 a3 : Int32), nDoes Inv i [(0, 1), (1, 2)] (fun s => R1 xs nx 91 0 [some (vR 0 (some 0)), some (vI a1), some (vI a2), some (vI a3), none] [] s) (fun s => R1 xs nx 188 0 [some (vR 1 (some 0)), some (vI a1), some (vI a2), some (vI a3), none] [] s) := h.2.2.2.2.2.2.2.2.1
theorem nOps.o8 (h : nOps xs nx Inv) : ∀ i, i < 512 → ∀ (a1 a2 a3 a4 a5 a6 : Int32), (a6 = 0 ∨ a6 = 1) → nDoes Inv i [(0, 1), (1, 2), (2, 3)] (fun s => R1 xs nx 96 0 [some (vR 0 (some 0)), some (vI a1), some (vI a2), some (vI a3), some (vI a4), some (vI a5), some (vI a6), none, none, none, none] [] s) (fun s => R1 xs nx 194 0 [some (vR 1 (some 0)), some (vI a1), some (vI a2), some (vI a3), some (vI a4), some (vI a5), some (vI a6), none, none, none] [] s) := h.2.2.2.2.2.2.2.2.2.1
theorem nOps.o9 (h : nOps xs nx Inv) : ∀ i, i < 512 → ∀ (a1 a2 a3 : Int32), nDoes Inv i [(0, 1), (1, 2), (2, 3)] (fun s => R1 xs nx 98 0 [some (vR 0 (some 0)), some (vI a1), some (vI a2), some (vI a3), none] [] s) (fun s => R1 xs nx 196 0 [some (vR 1 (some 0)), some (vI a1), some (vI a2), some (vI a3), none, none] [] s) := h.2.2.2.2.2.2.2.2.2.2.1
theorem nOps.o10 (h : nOps xs nx Inv) : ∀ i, i < 512 → ∀ (a1 a2 a3 a4 : Int32), nDoes Inv i [(0, 1), (1, 2), (2, 3)] (fun s => R1 xs nx 99 0 [some (vR 0 (some 0)), some (vI a1), some (vI a2), some (vI a3), some (vI a4), none] [] s) (fun s => R1 xs nx 197 0 [some (vR 1 (some 0)), some (vI a1), some (vI a2), some (vI a3), some (vI a4), none, none] [] s) := h.2.2.2.2.2.2.2.2.2.2.2.1
theorem nOps.o11 (h : nOps xs nx Inv) : ∀ i, i < 512 → ∀ (a1 a2 : Int32), nDoesB Inv i [(0, 1), (1, 2), (2, 3)] (fun s => R1 xs nx 100 0 [some (vR 0 (some 0)), some (vI a1), some (vI a2), none, none, none] [] s) (fun s => R1 xs nx 198 0 [some (vR 1 (some 0)), some (vI a1), some (vI a2), none, none, none] [] s) := h.2.2.2.2.2.2.2.2.2.2.2.2.1
theorem nOps.o12 (h : nOps xs nx Inv) : ∀ i, i < 512 → ∀ (a1 a2 a3 : Int32), nDoes Inv i [(0, 1), (1, 2), (2, 3)] (fun s => R1 xs nx 101 0 [some (vR 0 (some 0)), some (vI a1), some (vI a2), some (vI a3), none, none] [] s) (fun s => R1 xs nx 199 0 [some (vR 1 (some 0)), some (vI a1), some (vI a2), some (vI a3), none] [] s) := h.2.2.2.2.2.2.2.2.2.2.2.2.2.1
theorem nOps.o13 (h : nOps xs nx Inv) : ∀ i, i < 512 → ∀ (a1 a2 a3 a4 : Int32), nDoes Inv i [(0, 1), (1, 2), (2, 3)] (fun s => R1 xs nx 102 0 [some (vR 0 (some 0)), some (vI a1), some (vI a2), some (vI a3), some (vI a4), none, none] [] s) (fun s => R1 xs nx 200 0 [some (vR 1 (some 0)), some (vI a1), some (vI a2), some (vI a3), some (vI a4), none] [] s) := h.2.2.2.2.2.2.2.2.2.2.2.2.2.2.1
theorem nOps.o14 (h : nOps xs nx Inv) : ∀ i, i < 512 → ∀ (a1 : Int32), nDoes Inv i [(1, 1), (2, 2)] (fun s => R1 xs nx 126 0 [some (vR 0 (some 0)), some (vI a1), none, none] [] s) (fun s => R1 xs nx 223 0 [some (vR 1 (some 0)), some (vI a1), none] [] s) := h.2.2.2.2.2.2.2.2.2.2.2.2.2.2.2.1
theorem nOps.o15 (h : nOps xs nx Inv) : ∀ i, i < 512 → ∀ (a1 a2 : Int32), (a2 = 0 ∨ a2 = 1) → nDoes Inv i [(0, 1), (2, 2)] (fun s => R1 xs nx 128 0 [some (vR 0 (some 0)), some (vI a1), some (vI a2), none, none] [] s) (fun s => R1 xs nx 225 0 [some (vR 1 (some 0)), some (vI a1), some (vI a2), none] [] s) := h.2.2.2.2.2.2.2.2.2.2.2.2.2.2.2.2.1
theorem nOps.o16 (h : nOps xs nx Inv) : ∀ i, i < 512 → ∀ (a1 : Int32), nDoes Inv i [(0, 1), (2, 2)] (fun s => R1 xs nx 129 0 [some (vR 0 (some 0)), some (vI a1), none, none] [] s) (fun s => R1 xs nx 226 0 [some (vR 1 (some 0)), some (vI a1), none] [] s) := h.2.2.2.2.2.2.2.2.2.2.2.2.2.2.2.2.2.1
theorem nOps.o17 (h : nOps xs nx Inv) : ∀ i, i < 512 → ∀ (a1 a2 : Int32), nDoes Inv i [(0, 1), (2, 2)] (fun s => R1 xs nx 131 0 [some (vR 0 (some 0)), some (vI a1), some (vI a2), none, none] [] s) (fun s => R1 xs nx 229 0 [some (vR 1 (some 0)), some (vI a1), some (vI a2), none] [] s) := h.2.2.2.2.2.2.2.2.2.2.2.2.2.2.2.2.2.2.1
theorem nOps.o18 (h : nOps xs nx Inv) : ∀ i, i < 512 → ∀ (a1 : Int32), nDoes Inv i [(0, 1), (2, 2)] (fun s => R1 xs nx 132 0 [some (vR 0 (some 0)), some (vI a1), none] [] s) (fun s => R1 xs nx 230 0 [some (vR 1 (some 0)), some (vI a1), none] [] s) := h.2.2.2.2.2.2.2.2.2.2.2.2.2.2.2.2.2.2.2.1
theorem nOps.o19 (h : nOps xs nx Inv) : ∀ i, i < 512 → ∀ (a1 : Int32), nDoes Inv i [(0, 1), (2, 2)] (fun s => R1 xs nx 133 0 [some (vR 0 (some 0)), some (vI a1), none, none] [] s) (fun s => R1 xs nx 231 0 [some (vR 1 (some 0)), some (vI a1), none, none] [] s) := h.2.2.2.2.2.2.2.2.2.2.2.2.2.2.2.2.2.2.2.2.1
theorem nOps.o20 (h : nOps xs nx Inv) : ∀ i, i < 512 → ∀ (a1 a2 : Int32), nDoes Inv i [(0, 1), (2, 2)] (fun s => R1 xs nx 134 0 [some (vR 0 (some 0)), some (vI a1), some (vI a2), none, none, none] [] s) (fun s => R1 xs nx 232 0 [some (vR 1 (some 0)), some (vI a1), some (vI a2), none] [] s) := h.2.2.2.2.2.2.2.2.2.2.2.2.2.2.2.2.2.2.2.2.2.1
theorem nOps.o21 (h : nOps xs nx Inv) : ∀ i, i < 512 → ∀ (a1 a2 : Int32), nDoes Inv i [(0, 1), (2, 2)] (fun s => R1 xs nx 137 0 [some (vR 0 (some 0)), some (vI a1), some (vI a2), none, none] [] s) (fun s => R1 xs nx 234 0 [some (vR 1 (some 0)), some (vI a1), some (vI a2), none, none, none] [] s) := h.2.2.2.2.2.2.2.2.2.2.2.2.2.2.2.2.2.2.2.2.2.2.1
theorem nOps.o22 (h : nOps xs nx Inv) : ∀ i, i < 512 → ∀ (a1 a2 a3 : Int32), (a3 = 0 ∨ a3 = 1) → nDoes Inv i [(0, 1), (1, 2), (2, 3)] (fun s => R1 xs nx 140 0 [some (vR 0 (some 0)), some (vI a1), some (vI a2), some (vI a3), none, none] [] s) (fun s => R1 xs nx 237 0 [some (vR 1 (some 0)), some (vI a1), some (vI a2), some (vI a3), none, none, none] [] s) := h.2.2.2.2.2.2.2.2.2.2.2.2.2.2.2.2.2.2.2.2.2.2.2.1
theorem nOps.o23 (h : nOps xs nx Inv) : ∀ i, i < 512 → ∀ (a1 a2 : Int32), nDoes Inv i [(0, 1), (1, 2)] (fun s => R1 xs nx 142 0 [some (vR 0 (some 0)), some (vI a1), some (vI a2), none, none, none, none, none, none] [] s) (fun s => R1 xs nx 238 0 [some (vR 1 (some 0)), some (vI a1), some (vI a2), none, none, none, none] [] s) := h.2.2.2.2.2.2.2.2.2.2.2.2.2.2.2.2.2.2.2.2.2.2.2.2.1
theorem nOps.o24 (h : nOps xs nx Inv) : ∀ i, i < 512 → nDoes Inv i [] (fun s => R1 xs nx 143 0 [some (vR 0 (some 0))] [] s) (fun s => R1 xs nx 239 0 [some (vR 1 (some 0))] [] s) := h.2.2.2.2.2.2.2.2.2.2.2.2.2.2.2.2.2.2.2.2.2.2.2.2.2.1
theorem nOps.o25 (h : nOps xs nx Inv) : ∀ i, i < 512 → ∀ (a1 : Int32), nDoes Inv i [(0, 1)] (fun s => R1 xs nx 144 0 [some (vR 0 (some 0)), some (vI a1)] [] s) (fun s => R1 xs nx 240 0 [some (vR 1 (some 0)), some (vI a1)] [] s) := h.2.2.2.2.2.2.2.2.2.2.2.2.2.2.2.2.2.2.2.2.2.2.2.2.2.2.1
theorem nOps.o26 (h : nOps xs nx Inv) : ∀ i, i < 512 → ∀ (a1 : Int32), nDoes Inv i [(0, 1)] (fun s => R1 xs nx 145 0 [some (vR 0 (some 0)), some (vI a1)] [] s) (fun s => R1 xs nx 241 0 [some (vR 1 (some 0)), some (vI a1)] [] s) := h.2.2.2.2.2.2.2.2.2.2.2.2.2.2.2.2.2.2.2.2.2.2.2.2.2.2.2.1
theorem nOps.o27 (h : nOps xs nx Inv) : ∀ i, i < 512 → ∀ (a1 a2 : Int32), nDoes Inv i [(0, 1), (1, 2)] (fun s => R1 xs nx 146 0 [some (vR 0 (some 0)), some (vI a1), some (vI a2), none] [] s) (fun s => R1 xs nx 242 0 [some (vR 1 (some 0)), some (vI a1), some (vI a2)] [] s) := h.2.2.2.2.2.2.2.2.2.2.2.2.2.2.2.2.2.2.2.2.2.2.2.2.2.2.2.2.1
theorem nOps.o28 (h : nOps xs nx Inv) : ∀ i, i < 512 → ∀ (a1 : Int32), nDoes Inv i [(1, 1)] (fun s => R1 xs nx 147 0 [some (vR 0 (some 0)), some (vI a1), none, none] [] s) (fun s => R1 xs nx 243 0 [some (vR 1 (some 0)), some (vI a1), none, none] [] s) := h.2.2.2.2.2.2.2.2.2.2.2.2.2.2.2.2.2.2.2.2.2.2.2.2.2.2.2.2.2.1
theorem nOps.o29 (h : nOps xs nx Inv) : ∀ i, i < 512 → ∀ (a1 : Int32), nDoes Inv i [(0, 1)] (fun s => R1 xs nx 148 0 [some (vR 0 (some 0)), some (vI a1), none, none, none] [] s) (fun s => R1 xs nx 244 0 [some (vR 1 (some 0)), some (vI a1), none, none] [] s) := h.2.2.2.2.2.2.2.2.2.2.2.2.2.2.2.2.2.2.2.2.2.2.2.2.2.2.2.2.2.2.1
theorem nOps.o30 (h : nOps xs nx Inv) : ∀ i, i < 512 → ∀ (a1 : Int32), nDoes Inv i [(0, 1)] (fun s => R1 xs nx 149 0 [some (vR 0 (some 0)), some (vI a1), none] [] s) (fun s => R1 xs nx 245 0 [some (vR 1 (some 0)), some (vI a1)] [] s) := h.2.2.2.2.2.2.2.2.2.2.2.2.2.2.2.2.2.2.2.2.2.2.2.2.2.2.2.2.2.2.2.1
theorem nOps.o31 (h : nOps xs nx Inv) : ∀ i, i < 512 → ∀ (a1 : Int32), nDoes Inv i [(0, 1)] (fun s => R1 xs nx 150 0 [some (vR 0 (some 0)), some (vI a1)] [] s) (fun s => R1 xs nx 246 0 [some (vR 1 (some 0)), some (vI a1)] [] s) := h.2.2.2.2.2.2.2.2.2.2.2.2.2.2.2.2.2.2.2.2.2.2.2.2.2.2.2.2.2.2.2.2.1
theorem nOps.o32 (h : nOps xs nx Inv) : ∀ i, i < 512 → ∀ (a1 : Int32), nDoes Inv i [(0, 1)] (fun s => R1 xs nx 152 0 [some (vR 0 (some 0)), some (vI a1), none, none, none] [] s) (fun s => R1 xs nx 247 0 [some (vR 1 (some 0)), some (vI a1)] [] s) := h.2.2.2.2.2.2.2.2.2.2.2.2.2.2.2.2.2.2.2.2.2.2.2.2.2.2.2.2.2.2.2.2.2.1
theorem nOps.o33 (h : nOps xs nx Inv) : ∀ i, i < 512 → ∀ (a1 a2 : Int32), nDoes Inv i [(0, 1), (1, 2)] (fun s => R1 xs nx 153 0 [some (vR 0 (some 0)), some (vI a1), some (vI a2), none] [] s) (fun s => R1 xs nx 248 0 [some (vR 1 (some 0)), some (vI a1), some (vI a2)] [] s) := h.2.2.2.2.2.2.2.2.2.2.2.2.2.2.2.2.2.2.2.2.2.2.2.2.2.2.2.2.2.2.2.2.2.2.1
theorem nOps.o34 (h : nOps xs nx Inv) : ∀ i, i < 512 → ∀ (a1 : Int32), nDoes Inv i [(0, 1)] (fun s => R1 xs nx 154 0 [some (vR 0 (some 0)), some (vI a1)] [] s) (fun s => R1 xs nx 249 0 [some (vR 1 (some 0)), some (vI a1)] [] s) := h.2.2.2.2.2.2.2.2.2.2.2.2.2.2.2.2.2.2.2.2.2.2.2.2.2.2.2.2.2.2.2.2.2.2.2.1
theorem nOps.o35 (h : nOps xs nx Inv) : ∀ i, i < 512 → ∀ (a1 : Int32), nDoes Inv i [(0, 1)] (fun s => R1 xs nx 155 0 [some (vR 0 (some 0)), some (vI a1), none, none, none, none] [] s) (fun s => R1 xs nx 250 0 [some (vR 1 (some 0)), some (vI a1), none, none] [] s) := h.2.2.2.2.2.2.2.2.2.2.2.2.2.2.2.2.2.2.2.2.2.2.2.2.2.2.2.2.2.2.2.2.2.2.2.2.1
theorem nOps.o36 (h : nOps xs nx Inv) : ∀ i, i < 512 → nDoes Inv i [] (fun s => R1 xs nx 156 0 [some (vR 0 (some 0))] [] s) (fun s => R1 xs nx 251 0 [some (vR 1 (some 0))] [] s) := h.2.2.2.2.2.2.2.2.2.2.2.2.2.2.2.2.2.2.2.2.2.2.2.2.2.2.2.2.2.2.2.2.2.2.2.2.2.1
theorem nOps.o37 (h : nOps xs nx Inv) : ∀ i, i < 512 → ∀ (a1 a2 : Int32), nDoes Inv i [(0, 1), (1, 2)] (fun s => R1 xs nx 158 0 [some (vR 0 (some 0)), some (vI a1), some (vI a2), none] [] s) (fun s => R1 xs nx 252 0 [some (vR 1 (some 0)), some (vI a1), some (vI a2)] [] s) := h.2.2.2.2.2.2.2.2.2.2.2.2.2.2.2.2.2.2.2.2.2.2.2.2.2.2.2.2.2.2.2.2.2.2.2.2.2.2.1
theorem nOps.o38 (h : nOps xs nx Inv) : ∀ i, i < 512 → ∀ (a1 a2 : Int32), nDoes Inv i [(0, 1)] (fun s => R1 xs nx 159 0 [some (vR 0 (some 0)), some (vI a1), some (vI a2), none, none, none, none, none] [] s) (fun s => R1 xs nx 253 0 [some (vR 1 (some 0)), some (vI a1), some (vI a2), none, none, none] [] s) := h.2.2.2.2.2.2.2.2.2.2.2.2.2.2.2.2.2.2.2.2.2.2.2.2.2.2.2.2.2.2.2.2.2.2.2.2.2.2.2.1
theorem nOps.o39 (h : nOps xs nx Inv) : ∀ i, i < 512 → ∀ (a1 : Int32), nDoes Inv i [(0, 1)] (fun s => R1 xs nx 161 0 [some (vR 0 (some 0)), some (vI a1), none, none, none, none, none, none] [] s) (fun s => R1 xs nx 255 0 [some (vR 1 (some 0)), some (vI a1), none, none, none] [] s) := h.2.2.2.2.2.2.2.2.2.2.2.2.2.2.2.2.2.2.2.2.2.2.2.2.2.2.2.2.2.2.2.2.2.2.2.2.2.2.2.2.1
theorem nOps.o40 (h : nOps xs nx Inv) : ∀ i, i < 512 → ∀ (a1 : Int32), nDoes Inv i [(0, 1)] (fun s => R1 xs nx 162 0 [some (vR 0 (some 0)), some (vI a1), none, none, none] [] s) (fun s => R1 xs nx 257 0 [some (vR 1 (some 0)), some (vI a1), none, none] [] s) := h.2.2.2.2.2.2.2.2.2.2.2.2.2.2.2.2.2.2.2.2.2.2.2.2.2.2.2.2.2.2.2.2.2.2.2.2.2.2.2.2.2.1
theorem nOps.o41 (h : nOps xs nx Inv) : ∀ i, i < 512 → ∀ (a1 : Int32), nDoes Inv i [(0, 1)] (fun s => R1 xs nx 163 0 [some (vR 0 (some 0)), some (vI a1), none, none, none, none] [] s) (fun s => R1 xs nx 258 0 [some (vR 1 (some 0)), some (vI a1), none, none, none, none, none] [] s) := h.2.2.2.2.2.2.2.2.2.2.2.2.2.2.2.2.2.2.2.2.2.2.2.2.2.2.2.2.2.2.2.2.2.2.2.2.2.2.2.2.2.2.1
theorem nOps.o42 (h : nOps xs nx Inv) : ∀ i, i < 512 → ∀ (a1 : Int32), nDoes Inv i [(0, 1)] (fun s => R1 xs nx 169 0 [some (vR 0 (some 0)), some (vI a1), none] [] s) (fun s => R1 xs nx 262 0 [some (vR 1 (some 0)), some (vI a1), none, none, none, none, none] [] s) := h.2.2.2.2.2.2.2.2.2.2.2.2.2.2.2.2.2.2.2.2.2.2.2.2.2.2.2.2.2.2.2.2.2.2.2.2.2.2.2.2.2.2.2
theorem w_228 (o : nOps xs nx Inv) (hi : i < 512) (hI : Inv i s.1 s.2.1) (hT : s.2.2.1 ≤ i) (h1 : mIn (a4 + (1 : Int32)) nx = true) (h2 : mIn (a4 + (2 : Int32)) nx = true) (l5 l6 : Option nV) : nOver xs nx Inv i a4 (R1 xs nx 0 228 (nLL a4 l5 l6) [] s) := by
  unfold nLL
  rw [d_0_228]
  simp only [h1, h2, if_true]
  exact nK1_ok (o.o0 i hi (xs (a4 + (1 : Int32)).toNatClampNeg) (xs (a4 + (2 : Int32)).toNatClampNeg)) hI hT (d_1_0 (xs (a4 + (1 : Int32)).toNatClampNeg) (xs (a4 + (2 : Int32)).toNatClampNeg) s)
theorem w_296 (o : nOps xs nx Inv) (hi : i < 512) (hI : Inv i s.1 s.2.1) (hT : s.2.2.1 ≤ i) (h1 : mIn (a4 + (1 : Int32)) nx = true) (h2 : mIn (a4 + (2 : Int32)) nx = true) (h3 : mIn (a4 + (3 : Int32)) nx = true) (l5 l6 : Option nV) : nOver xs nx Inv i a4 (R1 xs nx 0 296 (nLL a4 l5 l6) [] s) := by
  unfold nLL
  rw [d_0_296]
  simp only [h1, h2, h3, if_true]
  exact nK1_ok (o.o1 i hi (xs (a4 + (1 : Int32)).toNatClampNeg) (xs (a4 + (2 : Int32)).toNatClampNeg) (xs (a4 + (3 : Int32)).toNatClampNeg)) hI hT (d_2_0 (xs (a4 + (1 : Int32)).toNatClampNeg) (xs (a4 + (2 : Int32)).toNatClampNeg) (xs (a4 + (3 : Int32)).toNatClampNeg) s)
theorem w_376 (o : nOps xs nx Inv) (hi : i < 512) (hI : Inv i s.1 s.2.1) (hT : s.2.2.1 ≤ i) (h1 : mIn (a4 + (1 : Int32)) nx = true) (h2 : mIn (a4 + (2 : Int32)) nx = true) (h3 : mIn (a4 + (3 : Int32)) nx = true) (l5 l6 : Option nV) : nOver xs nx Inv i a4 (R1 xs nx 0 376 (nLL a4 l5 l6) [] s) := by
  unfold nLL
  rw [d_0_376]
  by_cases hb : xs (a4 + (3 : Int32)).toNatClampNeg = 0
  · simp only [h1, h2, h3, if_true, if_pos hb]
    exact nK1_ok (o.o2 i hi (xs (a4 + (1 : Int32)).toNatClampNeg) (xs (a4 + (2 : Int32)).toNatClampNeg) 0 (by decide)) hI hT (d_3_0 (xs (a4 + (1 : Int32)).toNatClampNeg) (xs (a4 + (2 : Int32)).toNatClampNeg) 0 s)
  · simp only [h1, h2, h3, if_true, if_neg hb]
    exact nK1_ok (o.o2 i hi (xs (a4 + (1 : Int32)).toNatClampNeg) (xs (a4 + (2 : Int32)).toNatClampNeg) 1 (by decide)) hI hT (d_3_0 (xs (a4 + (1 : Int32)).toNatClampNeg) (xs (a4 + (2 : Int32)).toNatClampNeg) 1 s)
theorem w_472 (o : nOps xs nx Inv) (hi : i < 512) (hI : Inv i s.1 s.2.1) (hT : s.2.2.1 ≤ i) (h1 : mIn (a4 + (1 : Int32)) nx = true) (h2 : mIn (a4 + (2 : Int32)) nx = true) (h3 : mIn (a4 + (3 : Int32)) nx = true) (h4 : mIn (a4 + (4 : Int32)) nx = true) (l5 l6 : Option nV) : nOver xs nx Inv i a4 (R1 xs nx 0 472 (nLL a4 l5 l6) [] s) := by
  unfold nLL
  rw [d_0_472]
  by_cases hb : xs (a4 + (4 : Int32)).toNatClampNeg = 0
  · simp only [h1, h2, h3, h4, if_true, if_pos hb]
    exact nK1_ok (o.o3 i hi (xs (a4 + (1 : Int32)).toNatClampNeg) (xs (a4 + (2 : Int32)).toNatClampNeg) (xs (a4 + (3 : Int32)).toNatClampNeg) 0 (by decide)) hI hT (d_4_0 (xs (a4 + (1 : Int32)).toNatClampNeg) (xs (a4 + (2 : Int32)).toNatClampNeg) (xs (a4 + (3 : Int32)).toNatClampNeg) 0 s)
  · simp only [h1, h2, h3, h4, if_true, if_neg hb]
    exact nK1_ok (o.o3 i hi (xs (a4 + (1 : Int32)).toNatClampNeg) (xs (a4 + (2 : Int32)).toNatClampNeg) (xs (a4 + (3 : Int32)).toNatClampNeg) 1 (by decide)) hI hT (d_4_0 (xs (a4 + (1 : Int32)).toNatClampNeg) (xs (a4 + (2 : Int32)).toNatClampNeg) (xs (a4 + (3 : Int32)).toNatClampNeg) 1 s)
theorem w_580 (o : nOps xs nx Inv) (hi : i < 512) (hI : Inv i s.1 s.2.1) (hT : s.2.2.1 ≤ i) (h1 : mIn (a4 + (1 : Int32)) nx = true) (h2 : mIn (a4 + (2 : Int32)) nx = true) (h3 : mIn (a4 + (3 : Int32)) nx = true) (h4 : mIn (a4 + (4 : Int32)) nx = true) (h5 : mIn (a4 + (5 : Int32)) nx = true) (h6 : mIn (a4 + (6 : Int32)) nx = true) (l5 l6 : Option nV) : nOver xs nx Inv i a4 (R1 xs nx 0 580 (nLL a4 l5 l6) [] s) := by
  unfold nLL
  rw [d_0_580]
  simp only [h1, h2, h3, h4, h5, h6, if_true]
  exact nK1_ok (o.o4 i hi (xs (a4 + (1 : Int32)).toNatClampNeg) (xs (a4 + (2 : Int32)).toNatClampNeg) (xs (a4 + (3 : Int32)).toNatClampNeg) (xs (a4 + (4 : Int32)).toNatClampNeg) (xs (a4 + (5 : Int32)).toNatClampNeg) (xs (a4 + (6 : Int32)).toNatClampNeg)) hI hT (d_5_0 (xs (a4 + (1 : Int32)).toNatClampNeg) (xs (a4 + (2 : Int32)).toNatClampNeg) (xs (a4 + (3 : Int32)).toNatClampNeg) (xs (a4 + (4 : Int32)).toNatClampNeg) (xs (a4 + (5 : Int32)).toNatClampNeg) (xs (a4 + (6 : Int32)).toNatClampNeg) s)
theorem w_698 (o : nOps xs nx Inv) (hi : i < 512) (hI : Inv i s.1 s.2.1) (hT : s.2.2.1 ≤ i) (h1 : mIn (a4 + (1 : Int32)) nx = true) (h2 : mIn (a4 + (2 : Int32)) nx = true) (h3 : mIn (a4 + (3 : Int32)) nx = true) (h4 : mIn (a4 + (4 : Int32)) nx = true) (l5 l6 : Option nV) : nOver xs nx Inv i a4 (R1 xs nx 0 698 (nLL a4 l5 l6) [] s) := by
  unfold nLL
  rw [d_0_698]
  simp only [h1, h2, h3, h4, if_true]
  exact nK1_ok (o.o5 i hi (xs (a4 + (1 : Int32)).toNatClampNeg) (xs (a4 + (2 : Int32)).toNatClampNeg) (xs (a4 + (3 : Int32)).toNatClampNeg) (xs (a4 + (4 : Int32)).toNatClampNeg)) hI hT (d_6_0 (xs (a4 + (1 : Int32)).toNatClampNeg) (xs (a4 + (2 : Int32)).toNatClampNeg) (xs (a4 + (3 : Int32)).toNatClampNeg) (xs (a4 + (4 : Int32)).toNatClampNeg) s)
theorem w_790 (o : nOps xs nx Inv) (hi : i < 512) (hI : Inv i s.1 s.2.1) (hT : s.2.2.1 ≤ i) (h1 : mIn (a4 + (1 : Int32)) nx = true) (h2 : mIn (a4 + (2 : Int32)) nx = true) (l5 l6 : Option nV) : nOver xs nx Inv i a4 (R1 xs nx 0 790 (nLL a4 l5 l6) [] s) := by
  unfold nLL
  rw [d_0_790]
  simp only [h1, h2, if_true]
  exact nK1_ok (o.o6 i hi (xs (a4 + (1 : Int32)).toNatClampNeg) (xs (a4 + (2 : Int32)).toNatClampNeg)) hI hT (d_7_0 (xs (a4 + (1 : Int32)).toNatClampNeg) (xs (a4 + (2 : Int32)).toNatClampNeg) s)
theorem w_858 (o : nOps xs nx Inv) (hi : i < 512) (hI : Inv i s.1 s.2.1) (hT : s.2.2.1 ≤ i) (h1 : mIn (a4 + (1 : Int32)) nx = true) (h2 : mIn (a4 + (2 : Int32)) nx = true) (h3 : mIn (a4 + (3 : Int32)) nx = true) (l5 l6 : Option nV) : nOver xs nx Inv i a4 (R1 xs nx 0 858 (nLL a4 l5 l6) [] s) := by
  unfold nLL
  rw [d_0_858]
  simp only [h1, h2, h3, if_true]
  exact nK1_ok (o.o7 i hi (xs (a4 + (1 : Int32)).toNatClampNeg) (xs (a4 + (2 : Int32)).toNatClampNeg) (xs (a4 + (3 : Int32)).toNatClampNeg)) hI hT (d_8_0 (xs (a4 + (1 : Int32)).toNatClampNeg) (xs (a4 + (2 : Int32)).toNatClampNeg) (xs (a4 + (3 : Int32)).toNatClampNeg) s)
theorem w_938 (o : nOps xs nx Inv) (hi : i < 512) (hI : Inv i s.1 s.2.1) (hT : s.2.2.1 ≤ i) (h1 : mIn (a4 + (1 : Int32)) nx = true) (h2 : mIn (a4 + (2 : Int32)) nx = true) (h3 : mIn (a4 + (3 : Int32)) nx = true) (h4 : mIn (a4 + (4 : Int32)) nx = true) (h5 : mIn (a4 + (5 : Int32)) nx = true) (h6 : mIn (a4 + (6 : Int32)) nx = true) (l5 l6 : Option nV) : nOver xs nx Inv i a4 (R1 xs nx 0 938 (nLL a4 l5 l6) [] s) := by
  unfold nLL
  rw [d_0_938]
  by_cases hb : xs (a4 + (6 : Int32)).toNatClampNeg = 0
  · simp only [h1, h2, h3, h4, h5, h6, if_true, if_pos hb]
    exact nK1_ok (o.o8 i hi (xs (a4 + (1 : Int32)).toNatClampNeg) (xs (a4 + (2 : Int32)).toNatClampNeg) (xs (a4 + (3 : Int32)).toNatClampNeg) (xs (a4 + (4 : Int32)).toNatClampNeg) (xs (a4 + (5 : Int32)).toNatClampNeg) 0 (by decide)) hI hT (d_9_0 (xs (a4 + (1 : Int32)).toNatClampNeg) (xs (a4 + (2 : Int32)).toNatClampNeg) (xs (a4 + (3 : Int32)).toNatClampNeg) (xs (a4 + (4 : Int32)).toNatClampNeg) (xs (a4 + (5 : Int32)).toNatClampNeg) 0 s)
  · simp only [h1, h2, h3, h4, h5, h6, if_true, if_neg hb]
    exact nK1_ok (o.o8 i hi (xs (a4 + (1 : Int32)).toNatClampNeg) (xs (a4 + (2 : Int32)).toNatClampNeg) (xs (a4 + (3 : Int32)).toNatClampNeg) (xs (a4 + (4 : Int32)).toNatClampNeg) (xs (a4 + (5 : Int32)).toNatClampNeg) 1 (by decide)) hI hT (d_9_0 (xs (a4 + (1 : Int32)).toNatClampNeg) (xs (a4 + (2 : Int32)).toNatClampNeg) (xs (a4 + (3 : Int32)).toNatClampNeg) (xs (a4 + (4 : Int32)).toNatClampNeg) (xs (a4 + (5 : Int32)).toNatClampNeg) 1 s)
theorem w_1072 (o : nOps xs nx Inv) (hi : i < 512) (hI : Inv i s.1 s.2.1) (hT : s.2.2.1 ≤ i) (h1 : mIn (a4 + (1 : Int32)) nx = true) (h2 : mIn (a4 + (2 : Int32)) nx = true) (h3 : mIn (a4 + (3 : Int32)) nx = true) (l5 l6 : Option nV) : nOver xs nx Inv i a4 (R1 xs nx 0 1072 (nLL a4 l5 l6) [] s) := by
  unfold nLL
  rw [d_0_1072]
  simp only [h1, h2, h3, if_true]
  exact nK1_ok (o.o9 i hi (xs (a4 + (1 : Int32)).toNatClampNeg) (xs (a4 + (2 : Int32)).toNatClampNeg) (xs (a4 + (3 : Int32)).toNatClampNeg)) hI hT (d_10_0 (xs (a4 + (1 : Int32)).toNatClampNeg) (xs (a4 + (2 : Int32)).toNatClampNeg) (xs (a4 + (3 : Int32)).toNatClampNeg) s)
theorem w_1152 (o : nOps xs nx Inv) (hi : i < 512) (hI : Inv i s.1 s.2.1) (hT : s.2.2.1 ≤ i) (h1 : mIn (a4 + (1 : Int32)) nx = true) (h2 : mIn (a4 + (2 : Int32)) nx = true) (h3 : mIn (a4 + (3 : Int32)) nx = true) (h4 : mIn (a4 + (4 : Int32)) nx = true) (l5 l6 : Option nV) : nOver xs nx Inv i a4 (R1 xs nx 0 1152 (nLL a4 l5 l6) [] s) := by
  unfold nLL
  rw [d_0_1152]
  simp only [h1, h2, h3, h4, if_true]
  exact nK1_ok (o.o10 i hi (xs (a4 + (1 : Int32)).toNatClampNeg) (xs (a4 + (2 : Int32)).toNatClampNeg) (xs (a4 + (3 : Int32)).toNatClampNeg) (xs (a4 + (4 : Int32)).toNatClampNeg)) hI hT (d_11_0 (xs (a4 + (1 : Int32)).toNatClampNeg) (xs (a4 + (2 : Int32)).toNatClampNeg) (xs (a4 + (3 : Int32)).toNatClampNeg) (xs (a4 + (4 : Int32)).toNatClampNeg) s)
theorem w_1244 (o : nOps xs nx Inv) (hi : i < 512) (hI : Inv i s.1 s.2.1) (hT : s.2.2.1 ≤ i) (h1 : mIn (a4 + (1 : Int32)) nx = true) (h2 : mIn (a4 + (2 : Int32)) nx = true) (l5 l6 : Option nV) : nOver xs nx Inv i a4 (R1 xs nx 0 1244 (nLL a4 l5 l6) [] s) := by
  unfold nLL
  rw [d_0_1244]
  simp only [h1, h2, if_true]
  exact nK2_ok (o.o11 i hi (xs (a4 + (1 : Int32)).toNatClampNeg) (xs (a4 + (2 : Int32)).toNatClampNeg)) hI hT (d_12_0 (xs (a4 + (1 : Int32)).toNatClampNeg) (xs (a4 + (2 : Int32)).toNatClampNeg) s)
theorem w_1319 (o : nOps xs nx Inv) (hi : i < 512) (hI : Inv i s.1 s.2.1) (hT : s.2.2.1 ≤ i) (h1 : mIn (a4 + (1 : Int32)) nx = true) (h2 : mIn (a4 + (2 : Int32)) nx = true) (h3 : mIn (a4 + (3 : Int32)) nx = true) (l5 l6 : Option nV) : nOver xs nx Inv i a4 (R1 xs nx 0 1319 (nLL a4 l5 l6) [] s) := by
  unfold nLL
  rw [d_0_1319]
  simp only [h1, h2, h3, if_true]
  exact nK1_ok (o.o12 i hi (xs (a4 + (1 : Int32)).toNatClampNeg) (xs (a4 + (2 : Int32)).toNatClampNeg) (xs (a4 + (3 : Int32)).toNatClampNeg)) hI hT (d_13_0 (xs (a4 + (1 : Int32)).toNatClampNeg) (xs (a4 + (2 : Int32)).toNatClampNeg) (xs (a4 + (3 : Int32)).toNatClampNeg) s)
theorem w_1399 (o : nOps xs nx Inv) (hi : i < 512) (hI : Inv i s.1 s.2.1) (hT : s.2.2.1 ≤ i) (h1 : mIn (a4 + (1 : Int32)) nx = true) (h2 : mIn (a4 + (2 : Int32)) nx = true) (h3 : mIn (a4 + (3 : Int32)) nx = true) (h4 : mIn (a4 + (4 : Int32)) nx = true) (l5 l6 : Option nV) : nOver xs nx Inv i a4 (R1 xs nx 0 1399 (nLL a4 l5 l6) [] s) := by
  unfold nLL
  rw [d_0_1399]
  simp only [h1, h2, h3, h4, if_true]
  exact nK1_ok (o.o13 i hi (xs (a4 + (1 : Int32)).toNatClampNeg) (xs (a4 + (2 : Int32)).toNatClampNeg) (xs (a4 + (3 : Int32)).toNatClampNeg) (xs (a4 + (4 : Int32)).toNatClampNeg)) hI hT (d_14_0 (xs (a4 + (1 : Int32)).toNatClampNeg) (xs (a4 + (2 : Int32)).toNatClampNeg) (xs (a4 + (3 : Int32)).toNatClampNeg) (xs (a4 + (4 : Int32)).toNatClampNeg) s)
theorem w_1491 (o : nOps xs nx Inv) (hi : i < 512) (hI : Inv i s.1 s.2.1) (hT : s.2.2.1 ≤ i) (h1 : mIn (a4 + (1 : Int32)) nx = true) (l5 l6 : Option nV) : nOver xs nx Inv i a4 (R1 xs nx 0 1491 (nLL a4 l5 l6) [] s) := by
  unfold nLL
  rw [d_0_1491]
  simp only [h1, if_true]
  exact nK1_ok (o.o14 i hi (xs (a4 + (1 : Int32)).toNatClampNeg)) hI hT (d_15_0 (xs (a4 + (1 : Int32)).toNatClampNeg) s)
theorem w_1547 (o : nOps xs nx Inv) (hi : i < 512) (hI : Inv i s.1 s.2.1) (hT : s.2.2.1 ≤ i) (h1 : mIn (a4 + (1 : Int32)) nx = true) (h2 : mIn (a4 + (2 : Int32)) nx = true) (l5 l6 : Option nV) : nOver xs nx Inv i a4 (R1 xs nx 0 1547 (nLL a4 l5 l6) [] s) := by
  unfold nLL
  rw [d_0_1547]
  by_cases hb : xs (a4 + (2 : Int32)).toNatClampNeg = 0
  · simp only [h1, h2, if_true, if_pos hb]
    exact nK1_ok (o.o15 i hi (xs (a4 + (1 : Int32)).toNatClampNeg) 0 (by decide)) hI hT (d_16_0 (xs (a4 + (1 : Int32)).toNatClampNeg) 0 s)
  · simp only [h1, h2, if_true, if_neg hb]
    exact nK1_ok (o.o15 i hi (xs (a4 + (1 : Int32)).toNatClampNeg) 1 (by decide)) hI hT (d_16_0 (xs (a4 + (1 : Int32)).toNatClampNeg) 1 s)
theorem w_1631 (o : nOps xs nx Inv) (hi : i < 512) (hI : Inv i s.1 s.2.1) (hT : s.2.2.1 ≤ i) (h1 : mIn (a4 + (1 : Int32)) nx = true) (l5 l6 : Option nV) : nOver xs nx Inv i a4 (R1 xs nx 0 1631 (nLL a4 l5 l6) [] s) := by
  unfold nLL
  rw [d_0_1631]
  simp only [h1, if_true]
  exact nK1_ok (o.o16 i hi (xs (a4 + (1 : Int32)).toNatClampNeg)) hI hT (d_17_0 (xs (a4 + (1 : Int32)).toNatClampNeg) s)
theorem w_1687 (o : nOps xs nx Inv) (hi : i < 512) (hI : Inv i s.1 s.2.1) (hT : s.2.2.1 ≤ i) (h1 : mIn (a4 + (1 : Int32)) nx = true) (h2 : mIn (a4 + (2 : Int32)) nx = true) (l5 l6 : Option nV) : nOver xs nx Inv i a4 (R1 xs nx 0 1687 (nLL a4 l5 l6) [] s) := by
  unfold nLL
  rw [d_0_1687]
  simp only [h1, h2, if_true]
  exact nK1_ok (o.o17 i hi (xs (a4 + (1 : Int32)).toNatClampNeg) (xs (a4 + (2 : Int32)).toNatClampNeg)) hI hT (d_18_0 (xs (a4 + (1 : Int32)).toNatClampNeg) (xs (a4 + (2 : Int32)).toNatClampNeg) s)
theorem w_1755 (o : nOps xs nx Inv) (hi : i < 512) (hI : Inv i s.1 s.2.1) (hT : s.2.2.1 ≤ i) (h1 : mIn (a4 + (1 : Int32)) nx = true) (l5 l6 : Option nV) : nOver xs nx Inv i a4 (R1 xs nx 0 1755 (nLL a4 l5 l6) [] s) := by
  unfold nLL
  rw [d_0_1755]
  simp only [h1, if_true]
  exact nK1_ok (o.o18 i hi (xs (a4 + (1 : Int32)).toNatClampNeg)) hI hT (d_19_0 (xs (a4 + (1 : Int32)).toNatClampNeg) s)
theorem w_1811 (o : nOps xs nx Inv) (hi : i < 512) (hI : Inv i s.1 s.2.1) (hT : s.2.2.1 ≤ i) (h1 : mIn (a4 + (1 : Int32)) nx = true) (l5 l6 : Option nV) : nOver xs nx Inv i a4 (R1 xs nx 0 1811 (nLL a4 l5 l6) [] s) := by
  unfold nLL
  rw [d_0_1811]
  simp only [h1, if_true]
  exact nK1_ok (o.o19 i hi (xs (a4 + (1 : Int32)).toNatClampNeg)) hI hT (d_20_0 (xs (a4 + (1 : Int32)).toNatClampNeg) s)
theorem w_1867 (o : nOps xs nx Inv) (hi : i < 512) (hI : Inv i s.1 s.2.1) (hT : s.2.2.1 ≤ i) (h1 : mIn (a4 + (1 : Int32)) nx = true) (h2 : mIn (a4 + (2 : Int32)) nx = true) (l5 l6 : Option nV) : nOver xs nx Inv i a4 (R1 xs nx 0 1867 (nLL a4 l5 l6) [] s) := by
  unfold nLL
  rw [d_0_1867]
  simp only [h1, h2, if_true]
  exact nK1_ok (o.o20 i hi (xs (a4 + (1 : Int32)).toNatClampNeg) (xs (a4 + (2 : Int32)).toNatClampNeg)) hI hT (d_21_0 (xs (a4 + (1 : Int32)).toNatClampNeg) (xs (a4 + (2 : Int32)).toNatClampNeg) s)
theorem w_1935 (o : nOps xs nx Inv) (hi : i < 512) (hI : Inv i s.1 s.2.1) (hT : s.2.2.1 ≤ i) (h1 : mIn (a4 + (1 : Int32)) nx = true) (h2 : mIn (a4 + (2 : Int32)) nx = true) (l5 l6 : Option nV) : nOver xs nx Inv i a4 (R1 xs nx 0 1935 (nLL a4 l5 l6) [] s) := by
  unfold nLL
  rw [d_0_1935]
  simp only [h1, h2, if_true]
  exact nK1_ok (o.o21 i hi (xs (a4 + (1 : Int32)).toNatClampNeg) (xs (a4 + (2 : Int32)).toNatClampNeg)) hI hT (d_22_0 (xs (a4 + (1 : Int32)).toNatClampNeg) (xs (a4 + (2 : Int32)).toNatClampNeg) s)
theorem w_2003 (o : nOps xs nx Inv) (hi : i < 512) (hI : Inv i s.1 s.2.1) (hT : s.2.2.1 ≤ i) (h1 : mIn (a4 + (1 : Int32)) nx = true) (h2 : mIn (a4 + (2 : Int32)) nx = true) (h3 : mIn (a4 + (3 : Int32)) nx = true) (l5 l6 : Option nV) : nOver xs nx Inv i a4 (R1 xs nx 0 2003 (nLL a4 l5 l6) [] s) := by
  unfold nLL
  rw [d_0_2003]
  by_cases hb : xs (a4 + (3 : Int32)).toNatClampNeg = 0
  · simp only [h1, h2, h3, if_true, if_pos hb]
    exact nK1_ok (o.o22 i hi (xs (a4 + (1 : Int32)).toNatClampNeg) (xs (a4 + (2 : Int32)).toNatClampNeg) 0 (by decide)) hI hT (d_23_0 (xs (a4 + (1 : Int32)).toNatClampNeg) (xs (a4 + (2 : Int32)).toNatClampNeg) 0 s)
  · simp only [h1, h2, h3, if_true, if_neg hb]
    exact nK1_ok (o.o22 i hi (xs (a4 + (1 : Int32)).toNatClampNeg) (xs (a4 + (2 : Int32)).toNatClampNeg) 1 (by decide)) hI hT (d_23_0 (xs (a4 + (1 : Int32)).toNatClampNeg) (xs (a4 + (2 : Int32)).toNatClampNeg) 1 s)
theorem w_2099 (o : nOps xs nx Inv) (hi : i < 512) (hI : Inv i s.1 s.2.1) (hT : s.2.2.1 ≤ i) (h1 : mIn (a4 + (1 : Int32)) nx = true) (h2 : mIn (a4 + (2 : Int32)) nx = true) (l5 l6 : Option nV) : nOver xs nx Inv i a4 (R1 xs nx 0 2099 (nLL a4 l5 l6) [] s) := by
  unfold nLL
  rw [d_0_2099]
  simp only [h1, h2, if_true]
  exact nK1_ok (o.o23 i hi (xs (a4 + (1 : Int32)).toNatClampNeg) (xs (a4 + (2 : Int32)).toNatClampNeg)) hI hT (d_24_0 (xs (a4 + (1 : Int32)).toNatClampNeg) (xs (a4 + (2 : Int32)).toNatClampNeg) s)
theorem w_2167 (o : nOps xs nx Inv) (hi : i < 512) (hI : Inv i s.1 s.2.1) (hT : s.2.2.1 ≤ i) (l5 l6 : Option nV) : nOver xs nx Inv i a4 (R1 xs nx 0 2167 (nLL a4 l5 l6) [] s) := by
  unfold nLL
  rw [d_0_2167]
  exact nK3_ok (o.o24 i hi) hI hT
theorem w_2180 (o : nOps xs nx Inv) (hi : i < 512) (hI : Inv i s.1 s.2.1) (hT : s.2.2.1 ≤ i) (h1 : mIn (a4 + (1 : Int32)) nx = true) (l5 l6 : Option nV) : nOver xs nx Inv i a4 (R1 xs nx 0 2180 (nLL a4 l5 l6) [] s) := by
  unfold nLL
  rw [d_0_2180]
  simp only [h1, if_true]
  exact nK1_ok (o.o25 i hi (xs (a4 + (1 : Int32)).toNatClampNeg)) hI hT (d_25_0 (xs (a4 + (1 : Int32)).toNatClampNeg) s)
theorem w_2236 (o : nOps xs nx Inv) (hi : i < 512) (hI : Inv i s.1 s.2.1) (hT : s.2.2.1 ≤ i) (h1 : mIn (a4 + (1 : Int32)) nx = true) (l5 l6 : Option nV) : nOver xs nx Inv i a4 (R1 xs nx 0 2236 (nLL a4 l5 l6) [] s) := by
  unfold nLL
  rw [d_0_2236]
  simp only [h1, if_true]
  exact nK1_ok (o.o26 i hi (xs (a4 + (1 : Int32)).toNatClampNeg)) hI hT (d_26_0 (xs (a4 + (1 : Int32)).toNatClampNeg) s)
theorem w_2292 (o : nOps xs nx Inv) (hi : i < 512) (hI : Inv i s.1 s.2.1) (hT : s.2.2.1 ≤ i) (h1 : mIn (a4 + (1 : Int32)) nx = true) (h2 : mIn (a4 + (2 : Int32)) nx = true) (l5 l6 : Option nV) : nOver xs nx Inv i a4 (R1 xs nx 0 2292 (nLL a4 l5 l6) [] s) := by
  unfold nLL
  rw [d_0_2292]
  simp only [h1, h2, if_true]
  exact nK1_ok (o.o27 i hi (xs (a4 + (1 : Int32)).toNatClampNeg) (xs (a4 + (2 : Int32)).toNatClampNeg)) hI hT (d_27_0 (xs (a4 + (1 : Int32)).toNatClampNeg) (xs (a4 + (2 : Int32)).toNatClampNeg) s)
theorem w_2360 (o : nOps xs nx Inv) (hi : i < 512) (hI : Inv i s.1 s.2.1) (hT : s.2.2.1 ≤ i) (h1 : mIn (a4 + (1 : Int32)) nx = true) (l5 l6 : Option nV) : nOver xs nx Inv i a4 (R1 xs nx 0 2360 (nLL a4 l5 l6) [] s) := by
  unfold nLL
  rw [d_0_2360]
  simp only [h1, if_true]
  exact nK1_ok (o.o28 i hi (xs (a4 + (1 : Int32)).toNatClampNeg)) hI hT (d_28_0 (xs (a4 + (1 : Int32)).toNatClampNeg) s)
theorem w_2416 (o : nOps xs nx Inv) (hi : i < 512) (hI : Inv i s.1 s.2.1) (hT : s.2.2.1 ≤ i) (h1 : mIn (a4 + (1 : Int32)) nx = true) (l5 l6 : Option nV) : nOver xs nx Inv i a4 (R1 xs nx 0 2416 (nLL a4 l5 l6) [] s) := by
  unfold nLL
  rw [d_0_2416]
  simp only [h1, if_true]
  exact nK1_ok (o.o29 i hi (xs (a4 + (1 : Int32)).toNatClampNeg)) hI hT (d_29_0 (xs (a4 + (1 : Int32)).toNatClampNeg) s)
theorem w_2472 (o : nOps xs nx Inv) (hi : i < 512) (hI : Inv i s.1 s.2.1) (hT : s.2.2.1 ≤ i) (h1 : mIn (a4 + (1 : Int32)) nx = true) (l5 l6 : Option nV) : nOver xs nx Inv i a4 (R1 xs nx 0 2472 (nLL a4 l5 l6) [] s) := by
  unfold nLL
  rw [d_0_2472]
  simp only [h1, if_true]
  exact nK1_ok (o.o30 i hi (xs (a4 + (1 : Int32)).toNatClampNeg)) hI hT (d_30_0 (xs (a4 + (1 : Int32)).toNatClampNeg) s)
theorem w_2528 (o : nOps xs nx Inv) (hi : i < 512) (hI : Inv i s.1 s.2.1) (hT : s.2.2.1 ≤ i) (h1 : mIn (a4 + (1 : Int32)) nx = true) (l5 l6 : Option nV) : nOver xs nx Inv i a4 (R1 xs nx 0 2528 (nLL a4 l5 l6) [] s) := by
  unfold nLL
  rw [d_0_2528]
  simp only [h1, if_true]
  exact nK1_ok (o.o31 i hi (xs (a4 + (1 : Int32)).toNatClampNeg)) hI hT (d_31_0 (xs (a4 + (1 : Int32)).toNatClampNeg) s)
theorem w_2584 (o : nOps xs nx Inv) (hi : i < 512) (hI : Inv i s.1 s.2.1) (hT : s.2.2.1 ≤ i) (h1 : mIn (a4 + (1 : Int32)) nx = true) (l5 l6 : Option nV) : nOver xs nx Inv i a4 (R1 xs nx 0 2584 (nLL a4 l5 l6) [] s) := by
  unfold nLL
  rw [d_0_2584]
  simp only [h1, if_true]
  exact nK1_ok (o.o32 i hi (xs (a4 + (1 : Int32)).toNatClampNeg)) hI hT (d_32_0 (xs (a4 + (1 : Int32)).toNatClampNeg) s)
theorem w_2640 (o : nOps xs nx Inv) (hi : i < 512) (hI : Inv i s.1 s.2.1) (hT : s.2.2.1 ≤ i) (h1 : mIn (a4 + (1 : Int32)) nx = true) (h2 : mIn (a4 + (2 : Int32)) nx = true) (l5 l6 : Option nV) : nOver xs nx Inv i a4 (R1 xs nx 0 2640 (nLL a4 l5 l6) [] s) := by
  unfold nLL
  rw [d_0_2640]
  simp only [h1, h2, if_true]
  exact nK1_ok (o.o33 i hi (xs (a4 + (1 : Int32)).toNatClampNeg) (xs (a4 + (2 : Int32)).toNatClampNeg)) hI hT (d_33_0 (xs (a4 + (1 : Int32)).toNatClampNeg) (xs (a4 + (2 : Int32)).toNatClampNeg) s)
theorem w_2708 (o : nOps xs nx Inv) (hi : i < 512) (hI : Inv i s.1 s.2.1) (hT : s.2.2.1 ≤ i) (h1 : mIn (a4 + (1 : Int32)) nx = true) (l5 l6 : Option nV) : nOver xs nx Inv i a4 (R1 xs nx 0 2708 (nLL a4 l5 l6) [] s) := by
  unfold nLL
  rw [d_0_2708]
  simp only [h1, if_true]
  exact nK1_ok (o.o34 i hi (xs (a4 + (1 : Int32)).toNatClampNeg)) hI hT (d_34_0 (xs (a4 + (1 : Int32)).toNatClampNeg) s)
theorem w_2764 (o : nOps xs nx Inv) (hi : i < 512) (hI : Inv i s.1 s.2.1) (hT : s.2.2.1 ≤ i) (h1 : mIn (a4 + (1 : Int32)) nx = true) (l5 l6 : Option nV) : nOver xs nx Inv i a4 (R1 xs nx 0 2764 (nLL a4 l5 l6) [] s) := by
  unfold nLL
  rw [d_0_2764]
  simp only [h1, if_true]
  exact nK1_ok (o.o35 i hi (xs (a4 + (1 : Int32)).toNatClampNeg)) hI hT (d_35_0 (xs (a4 + (1 : Int32)).toNatClampNeg) s)
theorem w_2820 (o : nOps xs nx Inv) (hi : i < 512) (hI : Inv i s.1 s.2.1) (hT : s.2.2.1 ≤ i) (l5 l6 : Option nV) : nOver xs nx Inv i a4 (R1 xs nx 0 2820 (nLL a4 l5 l6) [] s) := by
  unfold nLL
  rw [d_0_2820]
  exact nK3_ok (o.o36 i hi) hI hT
theorem w_2833 (o : nOps xs nx Inv) (hi : i < 512) (hI : Inv i s.1 s.2.1) (hT : s.2.2.1 ≤ i) (h1 : mIn (a4 + (1 : Int32)) nx = true) (h2 : mIn (a4 + (2 : Int32)) nx = true) (l5 l6 : Option nV) : nOver xs nx Inv i a4 (R1 xs nx 0 2833 (nLL a4 l5 l6) [] s) := by
  unfold nLL
  rw [d_0_2833]
  simp only [h1, h2, if_true]
  exact nK1_ok (o.o37 i hi (xs (a4 + (1 : Int32)).toNatClampNeg) (xs (a4 + (2 : Int32)).toNatClampNeg)) hI hT (d_36_0 (xs (a4 + (1 : Int32)).toNatClampNeg) (xs (a4 + (2 : Int32)).toNatClampNeg) s)
theorem w_2901 (o : nOps xs nx Inv) (hi : i < 512) (hI : Inv i s.1 s.2.1) (hT : s.2.2.1 ≤ i) (h1 : mIn (a4 + (1 : Int32)) nx = true) (h2 : mIn (a4 + (2 : Int32)) nx = true) (l5 l6 : Option nV) : nOver xs nx Inv i a4 (R1 xs nx 0 2901 (nLL a4 l5 l6) [] s) := by
  unfold nLL
  rw [d_0_2901]
  simp only [h1, h2, if_true]
  exact nK1_ok (o.o38 i hi (xs (a4 + (1 : Int32)).toNatClampNeg) (xs (a4 + (2 : Int32)).toNatClampNeg)) hI hT (d_37_0 (xs (a4 + (1 : Int32)).toNatClampNeg) (xs (a4 + (2 : Int32)).toNatClampNeg) s)
theorem w_2969 (o : nOps xs nx Inv) (hi : i < 512) (hI : Inv i s.1 s.2.1) (hT : s.2.2.1 ≤ i) (h1 : mIn (a4 + (1 : Int32)) nx = true) (l5 l6 : Option nV) : nOver xs nx Inv i a4 (R1 xs nx 0 2969 (nLL a4 l5 l6) [] s) := by
  unfold nLL
  rw [d_0_2969]
  simp only [h1, if_true]
  exact nK1_ok (o.o39 i hi (xs (a4 + (1 : Int32)).toNatClampNeg)) hI hT (d_38_0 (xs (a4 + (1 : Int32)).toNatClampNeg) s)
theorem w_3025 (o : nOps xs nx Inv) (hi : i < 512) (hI : Inv i s.1 s.2.1) (hT : s.2.2.1 ≤ i) (h1 : mIn (a4 + (1 : Int32)) nx = true) (l5 l6 : Option nV) : nOver xs nx Inv i a4 (R1 xs nx 0 3025 (nLL a4 l5 l6) [] s) := by
  unfold nLL
  rw [d_0_3025]
  simp only [h1, if_true]
  exact nK1_ok (o.o40 i hi (xs (a4 + (1 : Int32)).toNatClampNeg)) hI hT (d_39_0 (xs (a4 + (1 : Int32)).toNatClampNeg) s)
theorem w_3081 (o : nOps xs nx Inv) (hi : i < 512) (hI : Inv i s.1 s.2.1) (hT : s.2.2.1 ≤ i) (h1 : mIn (a4 + (1 : Int32)) nx = true) (l5 l6 : Option nV) : nOver xs nx Inv i a4 (R1 xs nx 0 3081 (nLL a4 l5 l6) [] s) := by
  unfold nLL
  rw [d_0_3081]
  simp only [h1, if_true]
  exact nK1_ok (o.o41 i hi (xs (a4 + (1 : Int32)).toNatClampNeg)) hI hT (d_40_0 (xs (a4 + (1 : Int32)).toNatClampNeg) s)
theorem w_3137 (o : nOps xs nx Inv) (hi : i < 512) (hI : Inv i s.1 s.2.1) (hT : s.2.2.1 ≤ i) (h1 : mIn (a4 + (1 : Int32)) nx = true) (l5 l6 : Option nV) : nOver xs nx Inv i a4 (R1 xs nx 0 3137 (nLL a4 l5 l6) [] s) := by
  unfold nLL
  rw [d_0_3137]
  simp only [h1, if_true]
  exact nK1_ok (o.o42 i hi (xs (a4 + (1 : Int32)).toNatClampNeg)) hI hT (d_41_0 (xs (a4 + (1 : Int32)).toNatClampNeg) s)
theorem nStep7 (o : nOps xs nx Inv) (hnx : nx ≤ 3584) (hi : 7 * i + 7 ≤ nx) (hI : Inv i s.1 s.2.1) (hT : s.2.2.1 ≤ i) (l5 l6 : Option nV) : nOver xs nx Inv i (Int32.ofNat (7 * i)) (R1 xs nx 0 23 (nLL (Int32.ofNat (7 * i)) l5 l6) [] s) := by
  have hi5 : i < 512 := by omega
  have hin : ∀ j, j < 7 → mIn (Int32.ofNat (7 * i) + Int32.ofNat j) nx = true := fun j hj => by
    rw [i32_add]
    exact mIn_iff.mpr ⟨i32_pos (by omega), by rw [i32_nat (by omega)]; omega⟩
  have h0 : mIn (Int32.ofNat (7 * i)) nx = true := mIn_iff.mpr ⟨i32_pos (by omega), by rw [i32_nat (by omega)]; omega⟩
  have h1 : mIn (Int32.ofNat (7 * i) + (1 : Int32)) nx = true := hin 1 (by omega)
  have h2 : mIn (Int32.ofNat (7 * i) + (2 : Int32)) nx = true := hin 2 (by omega)
  have h3 : mIn (Int32.ofNat (7 * i) + (3 : Int32)) nx = true := hin 3 (by omega)
  have h4 : mIn (Int32.ofNat (7 * i) + (4 : Int32)) nx = true := hin 4 (by omega)
  have h5 : mIn (Int32.ofNat (7 * i) + (5 : Int32)) nx = true := hin 5 (by omega)
  have h6 : mIn (Int32.ofNat (7 * i) + (6 : Int32)) nx = true := hin 6 (by omega)
  have hlt : ¬ Int32.ofNat nx - (7 : Int32) < Int32.ofNat (7 * i) := by
    have e : Int32.ofNat nx - (7 : Int32) = Int32.ofNat (nx - 7) := i32_sub (b := 7) (by omega) (by omega)
    rw [e, Int32.lt_iff_toInt_lt, Int32.toInt_ofNat_of_lt (by omega), Int32.toInt_ofNat_of_lt (by omega)]
    omega
  unfold nLL
  rw [d_0_23, if_neg hlt, if_pos h0]
  by_cases e0 : (xs (Int32.ofNat (7 * i)).toNatClampNeg &&& (63 : Int32)) = (0 : Int32)
  · rw [if_pos e0]
    exact w_228 o hi5 hI hT h1 h2 l5 l6
  rw [if_neg e0]
  by_cases e1 : (xs (Int32.ofNat (7 * i)).toNatClampNeg &&& (63 : Int32)) = (1 : Int32)
  · rw [if_pos e1]
    exact w_296 o hi5 hI hT h1 h2 h3 l5 l6
  rw [if_neg e1]
  by_cases e2 : (xs (Int32.ofNat (7 * i)).toNatClampNeg &&& (63 : Int32)) = (2 : Int32)
  · rw [if_pos e2]
    exact w_376 o hi5 hI hT h1 h2 h3 l5 l6
  rw [if_neg e2]
  by_cases e3 : (xs (Int32.ofNat (7 * i)).toNatClampNeg &&& (63 : Int32)) = (3 : Int32)
  · rw [if_pos e3]
    exact w_472 o hi5 hI hT h1 h2 h3 h4 l5 l6
  rw [if_neg e3]
  by_cases e4 : (xs (Int32.ofNat (7 * i)).toNatClampNeg &&& (63 : Int32)) = (4 : Int32)
  · rw [if_pos e4]
    exact w_580 o hi5 hI hT h1 h2 h3 h4 h5 h6 l5 l6
  rw [if_neg e4]
  by_cases e5 : (xs (Int32.ofNat (7 * i)).toNatClampNeg &&& (63 : Int32)) = (5 : Int32)
  · rw [if_pos e5]
    exact w_698 o hi5 hI hT h1 h2 h3 h4 l5 l6
  rw [if_neg e5]
  by_cases e6 : (xs (Int32.ofNat (7 * i)).toNatClampNeg &&& (63 : Int32)) = (6 : Int32)
  · rw [if_pos e6]
    exact w_790 o hi5 hI hT h1 h2 l5 l6
  rw [if_neg e6]
  by_cases e7 : (xs (Int32.ofNat (7 * i)).toNatClampNeg &&& (63 : Int32)) = (7 : Int32)
  · rw [if_pos e7]
    exact w_858 o hi5 hI hT h1 h2 h3 l5 l6
  rw [if_neg e7]
  by_cases e8 : (xs (Int32.ofNat (7 * i)).toNatClampNeg &&& (63 : Int32)) = (8 : Int32)
  · rw [if_pos e8]
    exact w_938 o hi5 hI hT h1 h2 h3 h4 h5 h6 l5 l6
  rw [if_neg e8]
  by_cases e9 : (xs (Int32.ofNat (7 * i)).toNatClampNeg &&& (63 : Int32)) = (9 : Int32)
  · rw [if_pos e9]
    exact w_1072 o hi5 hI hT h1 h2 h3 l5 l6
  rw [if_neg e9]
  by_cases e10 : (xs (Int32.ofNat (7 * i)).toNatClampNeg &&& (63 : Int32)) = (10 : Int32)
  · rw [if_pos e10]
    exact w_1152 o hi5 hI hT h1 h2 h3 h4 l5 l6
  rw [if_neg e10]
  by_cases e11 : (xs (Int32.ofNat (7 * i)).toNatClampNeg &&& (63 : Int32)) = (11 : Int32)
  · rw [if_pos e11]
    exact w_1244 o hi5 hI hT h1 h2 l5 l6
  rw [if_neg e11]
  by_cases e12 : (xs (Int32.ofNat (7 * i)).toNatClampNeg &&& (63 : Int32)) = (12 : Int32)
  · rw [if_pos e12]
    exact w_1319 o hi5 hI hT h1 h2 h3 l5 l6
  rw [if_neg e12]
  by_cases e13 : (xs (Int32.ofNat (7 * i)).toNatClampNeg &&& (63 : Int32)) = (13 : Int32)
  · rw [if_pos e13]
    exact w_1399 o hi5 hI hT h1 h2 h3 h4 l5 l6
  rw [if_neg e13]
  by_cases e14 : (xs (Int32.ofNat (7 * i)).toNatClampNeg &&& (63 : Int32)) = (14 : Int32)
  · rw [if_pos e14]
    exact w_1491 o hi5 hI hT h1 l5 l6
  rw [if_neg e14]
  by_cases e15 : (xs (Int32.ofNat (7 * i)).toNatClampNeg &&& (63 : Int32)) = (15 : Int32)
  · rw [if_pos e15]
    exact w_1547 o hi5 hI hT h1 h2 l5 l6
  rw [if_neg e15]
  by_cases e16 : (xs (Int32.ofNat (7 * i)).toNatClampNeg &&& (63 : Int32)) = (16 : Int32)
  · rw [if_pos e16]
    exact w_1631 o hi5 hI hT h1 l5 l6
  rw [if_neg e16]
  by_cases e17 : (xs (Int32.ofNat (7 * i)).toNatClampNeg &&& (63 : Int32)) = (17 : Int32)
  · rw [if_pos e17]
    exact w_1687 o hi5 hI hT h1 h2 l5 l6
  rw [if_neg e17]
  by_cases e18 : (xs (Int32.ofNat (7 * i)).toNatClampNeg &&& (63 : Int32)) = (18 : Int32)
  · rw [if_pos e18]
    exact w_1755 o hi5 hI hT h1 l5 l6
  rw [if_neg e18]
  by_cases e19 : (xs (Int32.ofNat (7 * i)).toNatClampNeg &&& (63 : Int32)) = (19 : Int32)
  · rw [if_pos e19]
    exact w_1811 o hi5 hI hT h1 l5 l6
  rw [if_neg e19]
  by_cases e20 : (xs (Int32.ofNat (7 * i)).toNatClampNeg &&& (63 : Int32)) = (20 : Int32)
  · rw [if_pos e20]
    exact w_1867 o hi5 hI hT h1 h2 l5 l6
  rw [if_neg e20]
  by_cases e21 : (xs (Int32.ofNat (7 * i)).toNatClampNeg &&& (63 : Int32)) = (21 : Int32)
  · rw [if_pos e21]
    exact w_1935 o hi5 hI hT h1 h2 l5 l6
  rw [if_neg e21]
  by_cases e22 : (xs (Int32.ofNat (7 * i)).toNatClampNeg &&& (63 : Int32)) = (22 : Int32)
  · rw [if_pos e22]
    exact w_2003 o hi5 hI hT h1 h2 h3 l5 l6
  rw [if_neg e22]
  by_cases e23 : (xs (Int32.ofNat (7 * i)).toNatClampNeg &&& (63 : Int32)) = (23 : Int32)
  · rw [if_pos e23]
    exact w_2099 o hi5 hI hT h1 h2 l5 l6
  rw [if_neg e23]
  by_cases e24 : (xs (Int32.ofNat (7 * i)).toNatClampNeg &&& (63 : Int32)) = (24 : Int32)
  · rw [if_pos e24]
    exact w_2167 o hi5 hI hT l5 l6
  rw [if_neg e24]
  by_cases e25 : (xs (Int32.ofNat (7 * i)).toNatClampNeg &&& (63 : Int32)) = (25 : Int32)
  · rw [if_pos e25]
    exact w_2180 o hi5 hI hT h1 l5 l6
  rw [if_neg e25]
  by_cases e26 : (xs (Int32.ofNat (7 * i)).toNatClampNeg &&& (63 : Int32)) = (26 : Int32)
  · rw [if_pos e26]
    exact w_2236 o hi5 hI hT h1 l5 l6
  rw [if_neg e26]
  by_cases e27 : (xs (Int32.ofNat (7 * i)).toNatClampNeg &&& (63 : Int32)) = (27 : Int32)
  · rw [if_pos e27]
    exact w_2292 o hi5 hI hT h1 h2 l5 l6
  rw [if_neg e27]
  by_cases e28 : (xs (Int32.ofNat (7 * i)).toNatClampNeg &&& (63 : Int32)) = (28 : Int32)
  · rw [if_pos e28]
    exact w_2360 o hi5 hI hT h1 l5 l6
  rw [if_neg e28]
  by_cases e29 : (xs (Int32.ofNat (7 * i)).toNatClampNeg &&& (63 : Int32)) = (29 : Int32)
  · rw [if_pos e29]
    exact w_2416 o hi5 hI hT h1 l5 l6
  rw [if_neg e29]
  by_cases e30 : (xs (Int32.ofNat (7 * i)).toNatClampNeg &&& (63 : Int32)) = (30 : Int32)
  · rw [if_pos e30]
    exact w_2472 o hi5 hI hT h1 l5 l6
  rw [if_neg e30]
  by_cases e31 : (xs (Int32.ofNat (7 * i)).toNatClampNeg &&& (63 : Int32)) = (31 : Int32)
  · rw [if_pos e31]
    exact w_2528 o hi5 hI hT h1 l5 l6
  rw [if_neg e31]
  by_cases e32 : (xs (Int32.ofNat (7 * i)).toNatClampNeg &&& (63 : Int32)) = (32 : Int32)
  · rw [if_pos e32]
    exact w_2584 o hi5 hI hT h1 l5 l6
  rw [if_neg e32]
  by_cases e33 : (xs (Int32.ofNat (7 * i)).toNatClampNeg &&& (63 : Int32)) = (33 : Int32)
  · rw [if_pos e33]
    exact w_2640 o hi5 hI hT h1 h2 l5 l6
  rw [if_neg e33]
  by_cases e34 : (xs (Int32.ofNat (7 * i)).toNatClampNeg &&& (63 : Int32)) = (34 : Int32)
  · rw [if_pos e34]
    exact w_2708 o hi5 hI hT h1 l5 l6
  rw [if_neg e34]
  by_cases e35 : (xs (Int32.ofNat (7 * i)).toNatClampNeg &&& (63 : Int32)) = (35 : Int32)
  · rw [if_pos e35]
    exact w_2764 o hi5 hI hT h1 l5 l6
  rw [if_neg e35]
  by_cases e36 : (xs (Int32.ofNat (7 * i)).toNatClampNeg &&& (63 : Int32)) = (36 : Int32)
  · rw [if_pos e36]
    exact w_2820 o hi5 hI hT l5 l6
  rw [if_neg e36]
  by_cases e37 : (xs (Int32.ofNat (7 * i)).toNatClampNeg &&& (63 : Int32)) = (37 : Int32)
  · rw [if_pos e37]
    exact w_2833 o hi5 hI hT h1 h2 l5 l6
  rw [if_neg e37]
  by_cases e38 : (xs (Int32.ofNat (7 * i)).toNatClampNeg &&& (63 : Int32)) = (38 : Int32)
  · rw [if_pos e38]
    exact w_2901 o hi5 hI hT h1 h2 l5 l6
  rw [if_neg e38]
  by_cases e39 : (xs (Int32.ofNat (7 * i)).toNatClampNeg &&& (63 : Int32)) = (39 : Int32)
  · rw [if_pos e39]
    exact w_2969 o hi5 hI hT h1 l5 l6
  rw [if_neg e39]
  by_cases e40 : (xs (Int32.ofNat (7 * i)).toNatClampNeg &&& (63 : Int32)) = (40 : Int32)
  · rw [if_pos e40]
    exact w_3025 o hi5 hI hT h1 l5 l6
  rw [if_neg e40]
  by_cases e41 : (xs (Int32.ofNat (7 * i)).toNatClampNeg &&& (63 : Int32)) = (41 : Int32)
  · rw [if_pos e41]
    exact w_3081 o hi5 hI hT h1 l5 l6
  rw [if_neg e41]
  by_cases e42 : (xs (Int32.ofNat (7 * i)).toNatClampNeg &&& (63 : Int32)) = (42 : Int32)
  · rw [if_pos e42]
    exact w_3137 o hi5 hI hT h1 l5 l6
  rw [if_neg e42]
  exact ⟨s, l5, l6, rfl, o.up _ _ _ (by omega) hI, Nat.le_succ_of_le hT⟩
theorem nLawRun (o : nOps xs nx Inv) (hnx : nx ≤ 3584) : ∀ (m i : Nat) (s : nS) (l5 l6 : Option nV), nx < 7 * (i + m) + 7 → 7 * i ≤ nx → Inv i s.1 s.2.1 → s.2.2.1 ≤ i → ∃ (s' : nS) (j : Nat), R1 xs nx 0 23 (nLL (Int32.ofNat (7 * i)) l5 l6) [] s = some (.inl (some (vI 1)), s') ∧ j ≤ 512 ∧ Inv j s'.1 s'.2.1 ∧ s'.2.2.1 ≤ j := by
  intro m
  induction m with
  | zero =>
    intro i s l5 l6 h1 h2 hI hT
    refine ⟨s, i, ?_, by omega, hI, hT⟩
    have hlt : Int32.ofNat nx - (7 : Int32) < Int32.ofNat (7 * i) := by
      rw [Int32.lt_iff_toInt_lt, Int32.toInt_sub, Int32.toInt_ofNat_of_lt (by omega), Int32.toInt_ofNat_of_lt (by omega), show ((7 : Int32)).toInt = 7 from rfl, Int.bmod_def]
      split <;> omega
    unfold nLL
    rw [d_0_23, if_pos hlt]
  | succ m ih =>
    intro i s l5 l6 h1 h2 hI hT
    by_cases h7 : 7 * i + 7 ≤ nx
    · obtain ⟨s1, k5, k6, e, hI1, hT1⟩ := nStep7 o hnx h7 hI hT l5 l6
      obtain ⟨s2, j, e2, hj, hI2, hT2⟩ := ih (i + 1) s1 k5 k6 (by omega) (by omega) hI1 hT1
      refine ⟨s2, j, ?_, hj, hI2, hT2⟩
      rw [e]
      unfold nLL
      rw [d_0_3193]
      rw [show Int32.ofNat (7 * i) + (7 : Int32) = Int32.ofNat (7 * (i + 1)) from i32_add (b := 7)]
      exact e2
    · refine ⟨s, i, ?_, by omega, hI, hT⟩
      have hlt : Int32.ofNat nx - (7 : Int32) < Int32.ofNat (7 * i) := by
        rw [Int32.lt_iff_toInt_lt, Int32.toInt_sub, Int32.toInt_ofNat_of_lt (by omega), Int32.toInt_ofNat_of_lt (by omega), show ((7 : Int32)).toInt = 7 from rfl, Int.bmod_def]
        split <;> omega
      unfold nLL
      rw [d_0_23, if_pos hlt]
end LAWL
