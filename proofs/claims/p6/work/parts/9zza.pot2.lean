/-! How many turns there can be: the other kinds. -/
section POT2
variable {s s2 : tab} {Q Q2 : Nat → Nat} {act : Nat → Prop} {p M : Nat}
/-- it waits -/
theorem M_W (hq : Q p = 1) (ap : act p) (hp : p < M) (e0 : ∀ j, s2 100 j = s 100 j) (e4 : ∀ j, j ≠ p → s2 144 j = s 144 j) (e7 : ∀ j, s2 147 j = s 147 j) (eQ : ∀ r, Q2 r = if r = p then 0 else Q r) : Mzx s2 Q2 act M + 1 ≤ Mzx s Q act M + 3 * ind (s 144 p < 0) := by
  have k := Mz_le (s := s) (s2 := s2) (Q := Q) (Q2 := Q2) (act := act) (act2 := act) (p := p) (M := M) (d1 := -1 + 3 * ind (s 144 p < 0)) (d2 := 0) (y := 0) hp (fun i => ?_) (by omega)
  · omega
  unfold hwx
  rw [e0, e7, eQ]
  by_cases e : i = p
  · subst e
    rw [if_pos rfl, if_pos rfl, hq, ind_f (P := 0 < 0 ∧ s2 144 i < 0) (fun h => absurd h.1 (by omega)), ind_e (P := 0 < 1 ∧ s 144 i < 0) (R := s 144 i < 0) ⟨fun h => h.2, fun h => ⟨by omega, h⟩⟩]
    split <;> omega
  · rw [if_neg e, if_neg e, e4 i e]
    split <;> omega
/-- a PAR counts -/
theorem M_N (hq : 0 < Q p) (hp : p < M) (e0 : ∀ j, s2 100 j = s 100 j) (e4 : ∀ j, j ≠ p → s2 144 j = s 144 j) (h4 : 0 ≤ s 144 p) (e7 : ∀ j, s2 147 j = s 147 j) (eQ : ∀ r, Q2 r = if r = p then Q p - 1 else Q r) : Mzx s2 Q2 act M + 1 ≤ Mzx s Q act M := by
  have k := Mz_le (s := s) (s2 := s2) (Q := Q) (Q2 := Q2) (act := act) (act2 := act) (p := p) (M := M) (d1 := -1) (d2 := 0) (y := 0) hp (fun i => ?_) (by omega)
  · omega
  unfold hwx
  rw [e0, e7, eQ]
  by_cases e : i = p
  · subst e
    rw [if_pos rfl, if_pos rfl, ind_f (P := 0 < Q i ∧ s 144 i < 0) (fun h => by omega)]
    have := ind_r (P := 0 < Q i - 1 ∧ s2 144 i < 0)
    split <;> omega
  · rw [if_neg e, if_neg e, e4 i e]
    split <;> omega
/-- it has a value, and was ready -/
theorem M_S (hq : Q p = 1) (ap : act p) (hk : s 100 p = 407) (h7 : s 147 p = 0) (h7b : s2 147 p = 1) (hp : p < M) (e0 : ∀ j, s2 100 j = s 100 j) (e4 : ∀ j, j ≠ p → s2 144 j = s 144 j) (e7 : ∀ j, j ≠ p → s2 147 j = s 147 j) (eQ : ∀ r, Q2 r = if r = p then 1 else Q r) : Mzx s2 Q2 act M + 1 ≤ Mzx s Q act M + 3 * ind (s 144 p < 0) := by
  have k := Mz_le (s := s) (s2 := s2) (Q := Q) (Q2 := Q2) (act := act) (act2 := act) (p := p) (M := M) (d1 := -1 + 3 * ind (s 144 p < 0)) (d2 := 0) (y := 0) hp (fun i => ?_) (by omega)
  · omega
  unfold hwx
  rw [e0, eQ]
  by_cases e : i = p
  · subst e
    rw [if_pos rfl, if_pos rfl, hq, ind_t ap, ind_t (P := act i ∧ s 100 i = 407 ∧ s 147 i = 0) ⟨ap, hk, h7⟩, ind_f (P := act i ∧ s 100 i = 407 ∧ s2 147 i = 0) (fun h => by omega), ind_e (P := 0 < 1 ∧ s 144 i < 0) (R := s 144 i < 0) ⟨fun h => h.2, fun h => ⟨by omega, h⟩⟩]
    have := ind_r (P := 0 < 1 ∧ s2 144 i < 0)
    split <;> omega
  · rw [if_neg e, if_neg e, e4 i e, e7 i e]
    split <;> omega
/-- it has a value, and waited -/
theorem M_R (hq : Q p = 0) (ap : act p) (hk : s 100 p = 407) (h7 : s 147 p = 0) (h7b : s2 147 p = 1) (hp : p < M) (e0 : ∀ j, s2 100 j = s 100 j) (e4 : ∀ j, j ≠ p → s2 144 j = s 144 j) (e7 : ∀ j, j ≠ p → s2 147 j = s 147 j) (eQ : ∀ r, Q2 r = if r = p then 1 else Q r) : Mzx s2 Q2 act M ≤ Mzx s Q act M := by
  have k := Mz_le (s := s) (s2 := s2) (Q := Q) (Q2 := Q2) (act := act) (act2 := act) (p := p) (M := M) (d1 := 0) (d2 := 0) (y := 0) hp (fun i => ?_) (by omega)
  · omega
  unfold hwx
  rw [e0, eQ]
  by_cases e : i = p
  · subst e
    rw [if_pos rfl, if_pos rfl, hq, ind_t ap, ind_t (P := act i ∧ s 100 i = 407 ∧ s 147 i = 0) ⟨ap, hk, h7⟩, ind_f (P := act i ∧ s 100 i = 407 ∧ s2 147 i = 0) (fun h => by omega), ind_f (P := 0 < 0 ∧ s 144 i < 0) (fun h => absurd h.1 (by omega))]
    have := ind_r (P := 0 < 1 ∧ s2 144 i < 0)
    split <;> omega
  · rw [if_neg e, if_neg e, e4 i e, e7 i e]
    split <;> omega
/-- one that waited is done -/
theorem M_T0 (hq : Q p = 0) (ap : act p) (hp : p < M) (e0 : ∀ j, s2 100 j = s 100 j) (e4 : ∀ j, j ≠ p → s2 144 j = s 144 j) (e7 : ∀ j, j ≠ p → s2 147 j = s 147 j) (hn : s 143 p ≠ (p : Int)) (eQ : ∀ r, Q2 r = (if r = p then 0 else Q r) + (if s 143 p = (r : Int) then 1 else 0)) : Mzx s2 Q2 (fun r => act r ∧ r ≠ p) M ≤ Mzx s Q act M := by
  have k := Mz_le (s := s) (s2 := s2) (Q := Q) (Q2 := Q2) (act := act) (act2 := fun r => act r ∧ r ≠ p) (p := p) (M := M) (d1 := -1) (d2 := 1) (y := (s 143 p).toNat) hp (fun i => ?_) (by omega)
  · omega
  by_cases e : i = p
  · subst e
    have q0 : Q2 i = 0 := by rw [eQ, if_pos rfl, if_neg hn]
    have a1 : hwx s2 Q2 (fun r => act r ∧ r ≠ i) i = 0 := by
      unfold hwx
      rw [q0, ind_f (fun h => h.2 rfl), ind_f (fun h => h.1.2 rfl), ind_f (fun h => absurd h.1 (by omega))]
      rfl
    have a2 : hwx s Q act i = 1 + ind (act i ∧ s 100 i = 407 ∧ s 147 i = 0) := by
      unfold hwx
      rw [hq, ind_t ap, ind_f (P := 0 < 0 ∧ s 144 i < 0) (fun h => absurd h.1 (by omega))]
      omega
    have w := ind_r (P := act i ∧ s 100 i = 407 ∧ s 147 i = 0)
    rw [a1, a2, if_pos rfl]
    split <;> omega
  · rw [if_neg e]
    have b1 : ind ((fun r => act r ∧ r ≠ p) i) = ind (act i) := ind_e ⟨fun h => h.1, fun h => ⟨h, e⟩⟩
    have b2 : ind ((fun r => act r ∧ r ≠ p) i ∧ s2 100 i = 407 ∧ s2 147 i = 0) = ind (act i ∧ s 100 i = 407 ∧ s 147 i = 0) := by
      rw [e0, e7 i e]
      exact ind_e ⟨fun h => ⟨h.1.1, h.2⟩, fun h => ⟨⟨h.1, e⟩, h.2⟩⟩
    unfold hwx
    rw [b1, b2, e4 i e, eQ, if_neg e]
    by_cases k : s 143 p = (i : Int)
    · have m := ind_le (P := 0 < Q i ∧ s 144 i < 0) (R := 0 < Q i + 1 ∧ s 144 i < 0) (fun h => ⟨by omega, h.2⟩)
      rw [if_pos k, if_pos (show i = (s 143 p).toNat by omega)]
      omega
    · rw [if_neg k, Nat.add_zero]
      split <;> omega
/-- a PAR begins -/
theorem M_P {n : Nat} {m : Nat → Nat} (hq : Q p = 1) (ap : act p) (hp : p < M) (nc : ∀ i, i < n → ¬ act (m i) ∧ Q (m i) = 0 ∧ m i ≠ p) (e0 : ∀ j, s2 100 j = s 100 j) (e4 : ∀ i, i < n → s2 144 (m i) = -1) (e4o : ∀ j, j ≠ p → (∀ i, i < n → j ≠ m i) → s2 144 j = s 144 j) (e7 : ∀ j, s2 147 j = s 147 j) (eQ : ∀ i, i < n → Q2 (m i) = 1) (eQp : Q2 p = 0) (eQo : ∀ r, r ≠ p → (∀ i, i < n → r ≠ m i) → Q2 r = Q r) : Mzx s2 Q2 (fun r => act r ∨ ∃ i, i < n ∧ r = m i) M + 1 ≤ Mzx s Q act M + 3 * ind (s 144 p < 0) := by
  have k := Mz_le (s := s) (s2 := s2) (Q := Q) (Q2 := Q2) (act := act) (act2 := fun r => act r ∨ ∃ i, i < n ∧ r = m i) (p := p) (M := M) (d1 := -1 + 3 * ind (s 144 p < 0)) (d2 := 0) (y := 0) hp (fun i => ?_) (by omega)
  · omega
  by_cases ec : ∃ j, j < n ∧ i = m j
  · obtain ⟨j, hj, rfl⟩ := ec
    obtain ⟨n1, n2, n3⟩ := nc j hj
    rw [if_neg n3]
    have a1 : hwx s2 Q2 (fun r => act r ∨ ∃ i, i < n ∧ r = m i) (m j) = -1 + ind ((act (m j) ∨ ∃ i, i < n ∧ m j = m i) ∧ s2 100 (m j) = 407 ∧ s2 147 (m j) = 0) := by
      unfold hwx
      dsimp only
      rw [eQ j hj, ind_t (P := act (m j) ∨ ∃ i, i < n ∧ m j = m i) (.inr ⟨j, hj, rfl⟩), ind_t (P := 0 < 1 ∧ s2 144 (m j) < 0) ⟨by omega, by rw [e4 j hj]; omega⟩]
      omega
    have a2 : hwx s Q act (m j) = 0 := by
      unfold hwx
      rw [n2, ind_f n1, ind_f (fun h => n1 h.1), ind_f (fun h => absurd h.1 (by omega))]
      rfl
    have w := ind_r (P := (act (m j) ∨ ∃ i, i < n ∧ m j = m i) ∧ s2 100 (m j) = 407 ∧ s2 147 (m j) = 0)
    rw [a1, a2]
    split <;> omega
  · have no : ∀ j, j < n → i ≠ m j := fun j hj e => ec ⟨j, hj, e⟩
    have b1 : ind ((fun r => act r ∨ ∃ i, i < n ∧ r = m i) i) = ind (act i) := ind_e ⟨fun h => h.elim id (fun q => absurd q ec), fun h => .inl h⟩
    have b2 : ind ((fun r => act r ∨ ∃ i, i < n ∧ r = m i) i ∧ s2 100 i = 407 ∧ s2 147 i = 0) = ind (act i ∧ s 100 i = 407 ∧ s 147 i = 0) := by
      rw [e0, e7]
      exact ind_e ⟨fun h => ⟨h.1.elim id (fun q => absurd q ec), h.2⟩, fun h => ⟨.inl h.1, h.2⟩⟩
    unfold hwx
    rw [b1, b2]
    by_cases e : i = p
    · subst e
      rw [eQp, if_pos rfl, hq, ind_f (P := 0 < 0 ∧ s2 144 i < 0) (fun h => absurd h.1 (by omega)), ind_e (P := 0 < 1 ∧ s 144 i < 0) (R := s 144 i < 0) ⟨fun h => h.2, fun h => ⟨by omega, h⟩⟩]
      split <;> omega
    · rw [eQo i e no, if_neg e, e4o i e no]
      split <;> omega
end POT2
