/-! THE FRESH MEMORY -/
theorem em_s1_ne {M : Nat → Nat → Int} {b j : Nat} (h : ¬ (b = 45 ∧ j = 7)) (h1 : b ≠ 47) (h2 : b ≠ 48) : ∀ k, (em_s1 M k).2 b j = M b j
  | 0 => rfl
  | k + 1 => by
    have ih := em_s1_ne (M := M) h h1 h2 k
    unfold em_s1
    split
    · dsimp only
      rw [eg_u_ne h2]
      unfold eg_u
      rw [if_neg h]
      exact ih
    · dsimp only
      rw [eg_u_ne h1]
      exact ih
