/-- expression, unary, atom, callInside, call -/
theorem p_E : ∀ n, CX n ∧ CU n ∧ CA n ∧ CI n ∧ CC n
  | 0 => ⟨fun C y m s lev deep _ _ _ _ _ _ h => absurd h (by omega), fun C y m s deep _ _ _ _ _ _ h => absurd h (by omega), fun C y m s deep _ _ _ _ _ _ h => absurd h (by omega), fun C y m s k i a deep _ _ _ _ _ _ h => absurd h.2.2.2.2.2 (by omega), fun C y m s k i a deep inside _ _ _ _ _ _ h => absurd h.2.2.2.2.2 (by omega)⟩
  | n + 1 => ⟨p_expr (p_E n).1 (p_E n).2.1, p_unary (p_E n).2.1 (p_E n).2.2.1, p_atom (p_E n).1 (p_E n).2.2.2.1, p_callInside (p_E n).2.2.2.2, p_call (p_E n).1⟩
