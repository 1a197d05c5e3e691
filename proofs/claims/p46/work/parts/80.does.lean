/-! ===== a call of the class and the same of the reference do alike ===== -/
def nHl (l : List (Nat × Int32)) (E : Nat) : Option Int32 := match l with
  | [] => none
  | (e, c) :: l => if E = e then some c else nHl l E
theorem nHq_l {l : List (Nat × Int32)} {E : Nat} {e : Int32} {s : nS} (h : nHl l E = some e) : nHq l E s = some (.inl (some (vI e)), s) := by
  induction l with
  | nil => cases h
  | cons a l ih =>
    obtain ⟨e0, c⟩ := a
    unfold nHl at h
    unfold nHq
    split at h
    · rename_i hE
      cases h
      rw [if_pos hE]
    · rename_i hE
      rw [if_neg hE]
      exact ih h
/-- what a refusal says: no such thing, a wrong number, not now -/
def f3 (a b d : Prop) (E : Nat) : Prop := match E with
  | 0 => a
  | 1 => b
  | _ => d
