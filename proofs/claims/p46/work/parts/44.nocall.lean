/-! ===== which instructions call, which end ===== -/
section NNC
variable {xs : Nat → Int32} {nx : Nat} {s : nS} {y pc : Nat} {L : nLs} {S : List nV}
theorem nK_nocall {β : Type} {go : Nat → nLs → List nV → nS → Option β} {call call' : Nat → List nV → Nat → List nV → nS → Option β} {fin : nRes → nS → Option β} {ins : Instr} {n e1 e2 : Nat} (h1 : ∀ i, ins ≠ .invokestatic i) (h2 : ∀ i, ins ≠ .invokespecial i) (h3 : ∀ i, ins ≠ .invokevirtual i) : nK xs nx go call fin ins n e1 e2 y pc L S s = nK xs nx go call' fin ins n e1 e2 y pc L S s := by
  cases ins <;> first | rfl | exact absurd rfl (h1 _) | exact absurd rfl (h2 _) | exact absurd rfl (h3 _)
theorem nK_nofin {β : Type} {go : Nat → nLs → List nV → nS → Option β} {call : Nat → List nV → Nat → List nV → nS → Option β} {fin fin' : nRes → nS → Option β} {ins : Instr} {n e1 e2 : Nat} (h1 : ∀ i, ins ≠ .new i) (h2 : ins ≠ .ireturn) (h3 : ins ≠ .areturn) (h4 : ins ≠ .return_) : nK xs nx go call fin ins n e1 e2 y pc L S s = nK xs nx go call fin' ins n e1 e2 y pc L S s := by
  cases ins <;> first | rfl | exact absurd rfl (h1 _) | exact absurd rfl h2 | exact absurd rfl h3 | exact absurd rfl h4
end NNC
