/-! How many turns there can be. -/
section POT1
noncomputable def ind (P : Prop) : Int := @ite Int P (Classical.propDecidable P) 1 0
theorem ind_t {P : Prop} (h : P) : ind P = 1 := by
  unfold ind
  exact if_pos h
theorem ind_f {P : Prop} (h : ¬ P) : ind P = 0 := by
  unfold ind
  exact if_neg h
theorem ind_r {P : Prop} : 0 ≤ ind P ∧ ind P ≤ 1 := by
  by_cases h : P
  · rw [ind_t h]
    omega
  · rw [ind_f h]
    omega
theorem ind_le {P R : Prop} (h : P → R) : ind P ≤ ind R := by
  by_cases k : P
  · rw [ind_t k, ind_t (h k)]
    exact Int.le_refl _
  · rw [ind_f k]
    exact ind_r.1
theorem ind_e {P R : Prop} (h : P ↔ R) : ind P = ind R := Int.le_antisymm (ind_le h.mp) (ind_le h.mpr)
def smx (f : Nat → Int) : Nat → Int
  | 0 => 0
  | n + 1 => smx f n + f n
theorem smz_le {f g : Nat → Int} : ∀ n, (∀ i, i < n → f i ≤ g i) → smx f n ≤ smx g n
  | 0, _ => Int.le_refl _
  | n + 1, h => by
    have a := smz_le n (fun i hi => h i (by omega))
    have b := h n (by omega)
    show smx f n + f n ≤ smx g n + g n
    omega
theorem smz_u {g : Nat → Int} {p : Nat} {d : Int} : ∀ n, smx (fun i => g i + (if i = p then d else 0)) n = smx g n + (if p < n then d else 0)
  | 0 => by
    rw [if_neg (by omega)]
    rfl
  | n + 1 => by
    show smx (fun i => g i + (if i = p then d else 0)) n + (g n + (if n = p then d else 0)) = smx g n + g n + (if p < n + 1 then d else 0)
    rw [smz_u n]
    by_cases e : n = p
    · rw [if_pos e, if_neg (by omega), if_pos (by omega)]
      omega
    · rw [if_neg e]
      by_cases e2 : p < n
      · rw [if_pos e2, if_pos (by omega)]
        omega
      · rw [if_neg e2, if_neg (by omega)]
        omega
theorem smz_b {f : Nat → Int} {a b : Int} : ∀ n : Nat, (∀ i, i < n → a ≤ f i ∧ f i ≤ b) → a * (n : Int) ≤ smx f n ∧ smx f n ≤ b * (n : Int)
  | 0, _ => by
    show a * ((0 : Nat) : Int) ≤ 0 ∧ 0 ≤ b * ((0 : Nat) : Int)
    rw [show ((0 : Nat) : Int) = 0 from rfl, Int.mul_zero, Int.mul_zero]
    exact ⟨Int.le_refl _, Int.le_refl _⟩
  | n + 1, h => by
    have k := smz_b n (fun i hi => h i (by omega))
    have w := h n (by omega)
    show a * ((n + 1 : Nat) : Int) ≤ smx f n + f n ∧ smx f n + f n ≤ b * ((n + 1 : Nat) : Int)
    rw [show ((n + 1 : Nat) : Int) = (n : Int) + 1 from rfl, Int.mul_add, Int.mul_add, Int.mul_one, Int.mul_one]
    omega
/-- the weight of a part -/
noncomputable def hwx (s : tab) (Q : Nat → Nat) (act : Nat → Prop) (r : Nat) : Int := (Q r : Int) + ind (act r) + ind (act r ∧ s 100 r = 407 ∧ s 147 r = 0) - 3 * ind (0 < Q r ∧ s 144 r < 0)
noncomputable def Mzx (s : tab) (Q : Nat → Nat) (act : Nat → Prop) (M : Nat) : Int := smx (hwx s Q act) M
variable {s s2 : tab} {Q Q2 : Nat → Nat} {act : Nat → Prop} {p M : Nat}
theorem Mz_le {act2 : Nat → Prop} {d1 d2 : Int} {y : Nat} (hp : p < M) (h : ∀ i, hwx s2 Q2 act2 i ≤ hwx s Q act i + (if i = p then d1 else 0) + (if i = y then d2 else 0)) (h2 : 0 ≤ d2) : Mzx s2 Q2 act2 M ≤ Mzx s Q act M + d1 + d2 := by
  have k := smz_le M (fun i _ => h i)
  rw [smz_u (g := fun i => hwx s Q act i + (if i = p then d1 else 0)), smz_u (g := hwx s Q act), if_pos hp] at k
  unfold Mzx
  split at k <;> omega
/-- a part is done -/
theorem M_T (hq : Q p = 1) (ap : act p) (hp : p < M) (e0 : ∀ j, s2 100 j = s 100 j) (e4 : ∀ j, j ≠ p → s2 144 j = s 144 j) (e7 : ∀ j, j ≠ p → s2 147 j = s 147 j) (hn : s 143 p ≠ (p : Int)) (eQ : ∀ r, Q2 r = (if r = p then 0 else Q r) + (if s 143 p = (r : Int) then 1 else 0)) : Mzx s2 Q2 (fun r => act r ∧ r ≠ p) M + 1 ≤ Mzx s Q act M + 3 * ind (s 144 p < 0) := by
  have k := Mz_le (s := s) (s2 := s2) (Q := Q) (Q2 := Q2) (act := act) (act2 := fun r => act r ∧ r ≠ p) (p := p) (M := M) (d1 := -2 + 3 * ind (s 144 p < 0)) (d2 := 1) (y := (s 143 p).toNat) hp (fun i => ?_) (by omega)
  · omega
  by_cases e : i = p
  · subst e
    have q0 : Q2 i = 0 := by rw [eQ, if_pos rfl, if_neg hn]
    have a1 : hwx s2 Q2 (fun r => act r ∧ r ≠ i) i = 0 := by
      unfold hwx
      rw [q0, ind_f (fun h => h.2 rfl), ind_f (fun h => h.1.2 rfl), ind_f (fun h => absurd h.1 (by omega))]
      rfl
    have a2 : hwx s Q act i = 2 + ind (act i ∧ s 100 i = 407 ∧ s 147 i = 0) - 3 * ind (s 144 i < 0) := by
      unfold hwx
      rw [hq, ind_t ap, ind_e (P := 0 < 1 ∧ s 144 i < 0) (R := s 144 i < 0) ⟨fun h => h.2, fun h => ⟨by omega, h⟩⟩]
      omega
    have w := ind_r (P := act i ∧ s 100 i = 407 ∧ s 147 i = 0)
    rw [a1, a2, if_pos rfl]
    split <;> omega
  · rw [if_neg e]
    have b1 : ind ((fun r => act r ∧ r ≠ p) i) = ind (act i) := ind_e ⟨fun h => h.1, fun h => ⟨h, e⟩⟩
    have b2 : ind ((fun r => act r ∧ r ≠ p) i ∧ s2 100 i = 407 ∧ s2 147 i = 0) = ind (act i ∧ s 100 i = 407 ∧ s 147 i = 0) := by
      rw [e0, e7 i e]
      exact ind_e ⟨fun h => ⟨h.1.1, h.2⟩, fun h => ⟨⟨h.1, e⟩, h.2⟩⟩
    unfold hwx
    rw [b1, b2, e4 i e, eQ, if_neg e]
    by_cases k : s 143 p = (i : Int)
    · have m := ind_le (P := 0 < Q i ∧ s 144 i < 0) (R := 0 < Q i + 1 ∧ s 144 i < 0) (fun h => ⟨by omega, h.2⟩)
      rw [if_pos k, if_pos (show i = (s 143 p).toNat by omega)]
      omega
    · rw [if_neg k, Nat.add_zero]
      split <;> omega
/-- a part is asked -/
theorem M_A {c : Nat} (hq : Q p = 1) (ap : act p) (hp : p < M) (hc : c ≠ p) (nc : ¬ act c) (qc : Q c = 0) (e0 : ∀ j, s2 100 j = s 100 j) (e4 : ∀ j, j ≠ p → j ≠ c → s2 144 j = s 144 j) (e4c : s2 144 c = -1) (e7 : ∀ j, s2 147 j = s 147 j) (eQ : ∀ r, Q2 r = if r = c then 1 else if r = p then 0 else Q r) : Mzx s2 Q2 (fun r => act r ∨ r = c) M + 1 ≤ Mzx s Q act M + 3 * ind (s 144 p < 0) := by
  have k := Mz_le (s := s) (s2 := s2) (Q := Q) (Q2 := Q2) (act := act) (act2 := fun r => act r ∨ r = c) (p := p) (M := M) (d1 := -1 + 3 * ind (s 144 p < 0)) (d2 := 0) (y := 0) hp (fun i => ?_) (by omega)
  · omega
  by_cases ec : i = c
  · subst ec
    rw [if_neg hc]
    have a1 : hwx s2 Q2 (fun r => act r ∨ r = i) i = -1 + ind ((act i ∨ i = i) ∧ s2 100 i = 407 ∧ s2 147 i = 0) := by
      unfold hwx
      dsimp only
      rw [eQ, if_pos rfl, ind_t (P := act i ∨ i = i) (.inr rfl), ind_t (P := 0 < 1 ∧ s2 144 i < 0) ⟨by omega, by omega⟩]
      omega
    have a2 : hwx s Q act i = 0 := by
      unfold hwx
      rw [qc, ind_f nc, ind_f (fun h => nc h.1), ind_f (fun h => absurd h.1 (by omega))]
      rfl
    have w := ind_r (P := (act i ∨ i = i) ∧ s2 100 i = 407 ∧ s2 147 i = 0)
    rw [a1, a2]
    split <;> omega
  · have b1 : ind ((fun r => act r ∨ r = c) i) = ind (act i) := ind_e ⟨fun h => h.elim id (fun q => absurd q ec), fun h => .inl h⟩
    have b2 : ind ((fun r => act r ∨ r = c) i ∧ s2 100 i = 407 ∧ s2 147 i = 0) = ind (act i ∧ s 100 i = 407 ∧ s 147 i = 0) := by
      rw [e0, e7]
      exact ind_e ⟨fun h => ⟨h.1.elim id (fun q => absurd q ec), h.2⟩, fun h => ⟨.inl h.1, h.2⟩⟩
    unfold hwx
    rw [b1, b2, eQ, if_neg ec]
    by_cases e : i = p
    · subst e
      rw [if_pos rfl, if_pos rfl, hq, ind_f (P := 0 < 0 ∧ s2 144 i < 0) (fun h => absurd h.1 (by omega)), ind_e (P := 0 < 1 ∧ s 144 i < 0) (R := s 144 i < 0) ⟨fun h => h.2, fun h => ⟨by omega, h⟩⟩]
      split <;> omega
    · rw [if_neg e, if_neg e, e4 i e ec]
      split <;> omega
end POT1
