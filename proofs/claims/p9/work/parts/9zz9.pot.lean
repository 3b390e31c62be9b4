/-! How many turns there can be. -/
section POT1
noncomputable def ind (P : Prop) : Int := @ite Int P (Classical.propDecidable P) 1 0
theorem ind_t {P : Prop} (h : P) : ind P = 1 := by
  unfold ind
  exact if_pos h
theorem ind_f {P : Prop} (h : ¬ P) : ind P = 0 := by
  unfold ind
  exact if_neg h
theorem ind_r {P : Prop} : 0 ≤ ind P ∧ ind P ≤ 1 := by
  by_cases h : P
  · rw [ind_t h]
    omega
  · rw [ind_f h]
    omega
theorem ind_le {P R : Prop} (h : P → R) : ind P ≤ ind R := by
  by_cases k : P
  · rw [ind_t k, ind_t (h k)]
    exact Int.le_refl _
  · rw [ind_f k]
    exact ind_r.1
theorem ind_e {P R : Prop} (h : P ↔ R) : ind P = ind R := Int.le_antisymm (ind_le h.mp) (ind_le h.mpr)
def smx (f : Nat → Int) : Nat → Int
  | 0 => 0
  | n + 1 => smx f n + f n
theorem smz_le {f g : Nat → Int} : ∀ n, (∀ i, i < n → f i ≤ g i) → smx f n ≤ smx g n
  | 0, _ => Int.le_refl _
  | n + 1, h => by
    have a := smz_le n (fun i hi => h i (by omega))
    have b := h n (by omega)
    show smx f n + f n ≤ smx g n + g n
    omega
theorem smz_u {g : Nat → Int} {p : Nat} {d : Int} : ∀ n, smx (fun i => g i + (if i = p then d else 0)) n = smx g n + (if p < n then d else 0)
  | 0 => by
    rw [if_neg (by omega)]
    rfl
  | n + 1 => by
    show smx (fun i => g i + (if i = p then d else 0)) n + (g n + (if n = p then d else 0)) = smx g n + g n + (if p < n + 1 then d else 0)
    rw [smz_u n]
    by_cases e : n = p
    · rw [if_pos e, if_neg (by omega), if_pos (by omega)]
      omega
    · rw [if_neg e]
      by_cases e2 : p < n
      · rw [if_pos e2, if_pos (by omega)]
        omega
      · rw [if_neg e2, if_neg (by omega)]
        omega
theorem smz_b {f : Nat → Int} {a b : Int} : ∀ n : Nat, (∀ i, i < n → a ≤ f i ∧ f i ≤ b) → a * (n : Int) ≤ smx f n ∧ smx f n ≤ b * (n : Int)
  | 0, _ => by
    show a * ((0 : Nat) : Int) ≤ 0 ∧ 0 ≤ b * ((0 : Nat) : Int)
    rw [show ((0 : Nat) : Int) = 0 from rfl, Int.mul_zero, Int.mul_zero]
    exact ⟨Int.le_refl _, Int.le_refl _⟩
  | n + 1, h => by
    have k := smz_b n (fun i hi => h i (by omega))
    have w := h n (by omega)
    show a * ((n + 1 : Nat) : Int) ≤ smx f n + f n ∧ smx f n + f n ≤ b * ((n + 1 : Nat) : Int)
    rw [show ((n + 1 : Nat) : Int) = (n : Int) + 1 from rfl, Int.mul_add, Int.mul_add, Int.mul_one, Int.mul_one]
    omega
/-- the weight of a part -/
noncomputable def hwx (s : tab) (Q : Nat → Nat) (act : Nat → Prop) (r : Nat) : Int := (Q r : Int) + ind (act r) - 2 * ind (0 < Q r ∧ s 144 r < 0)
noncomputable def Mzx (s : tab) (Q : Nat → Nat) (act : Nat → Prop) (M : Nat) : Int := smx (hwx s Q act) M
variable {s s2 : tab} {Q Q2 : Nat → Nat} {act : Nat → Prop} {p M : Nat}
theorem Mz_le {act2 : Nat → Prop} {d1 d2 : Int} {y : Nat} (hp : p < M) (h : ∀ i, hwx s2 Q2 act2 i ≤ hwx s Q act i + (if i = p then d1 else 0) + (if i = y then d2 else 0)) (h2 : 0 ≤ d2) : Mzx s2 Q2 act2 M ≤ Mzx s Q act M + d1 + d2 := by
  have k := smz_le M (fun i _ => h i)
  rw [smz_u (g := fun i => hwx s Q act i + (if i = p then d1 else 0)), smz_u (g := hwx s Q act), if_pos hp] at k
  unfold Mzx
  split at k <;> omega
theorem hw_1 {i : Nat} (hq : Q i = 1) : hwx s Q act i = 1 + ind (act i) - 2 * ind (s 144 i < 0) := by
  unfold hwx
  rw [hq, ind_e (P := 0 < 1 ∧ s 144 i < 0) (R := s 144 i < 0) ⟨fun h => h.2, fun h => ⟨by omega, h⟩⟩]
  omega
theorem hw_0 {i : Nat} (hq : Q i = 0) : hwx s Q act i = ind (act i) := by
  unfold hwx
  rw [hq, ind_f (P := 0 < 0 ∧ s 144 i < 0) (fun h => absurd h.1 (by omega))]
  omega
theorem hw_e {act2 : Nat → Prop} {i : Nat} (hq : Q2 i = Q i) (ha : act2 i ↔ act i) (h4 : s2 144 i = s 144 i) : hwx s2 Q2 act2 i = hwx s Q act i := by
  unfold hwx
  rw [hq, h4, ind_e ha]
theorem hw_s {act2 : Nat → Prop} {i : Nat} (hq : Q2 i = Q i + 1) (ha : act2 i ↔ act i) (h4 : s2 144 i = s 144 i) : hwx s2 Q2 act2 i ≤ hwx s Q act i + 1 := by
  unfold hwx
  rw [hq, h4, ind_e ha]
  have m := ind_le (P := 0 < Q i ∧ s 144 i < 0) (R := 0 < Q i + 1 ∧ s 144 i < 0) (fun h => ⟨by omega, h.2⟩)
  omega
/-- one is done: what it was worth, and one more for who asked it -/
theorem M_told {w : Int} (ap : act p) (hp : p < M) (hw : hwx s Q act p = w) (e4 : ∀ j, j ≠ p → s2 144 j = s 144 j) (hn : s 143 p ≠ (p : Int)) (eQ : ∀ r, Q2 r = (if r = p then 0 else Q r) + (if s 143 p = (r : Int) then 1 else 0)) : Mzx s2 Q2 (fun r => act r ∧ r ≠ p) M ≤ Mzx s Q act M - w + 1 := by
  have k := Mz_le (s := s) (s2 := s2) (Q := Q) (Q2 := Q2) (act := act) (act2 := fun r => act r ∧ r ≠ p) (p := p) (M := M) (d1 := -w) (d2 := 1) (y := (s 143 p).toNat) hp (fun i => ?_) (by omega)
  · omega
  by_cases e : i = p
  · subst e
    have q0 : Q2 i = 0 := by rw [eQ, if_pos rfl, if_neg hn]
    rw [hw_0 q0, ind_f (fun h => h.2 rfl), hw, if_pos rfl]
    split <;> omega
  · have ha : (act i ∧ i ≠ p) ↔ act i := ⟨fun h => h.1, fun h => ⟨h, e⟩⟩
    rw [if_neg e]
    by_cases k : s 143 p = (i : Int)
    · have := hw_s (act2 := fun r => act r ∧ r ≠ p) (i := i) (s := s) (s2 := s2) (Q := Q) (Q2 := Q2) (act := act) (by rw [eQ, if_neg e, if_pos k]) ha (e4 i e)
      rw [if_pos (show i = (s 143 p).toNat by omega)]
      omega
    · have := hw_e (act2 := fun r => act r ∧ r ≠ p) (i := i) (s := s) (s2 := s2) (Q := Q) (Q2 := Q2) (act := act) (by rw [eQ, if_neg e, if_neg k]; rfl) ha (e4 i e)
      rw [this]
      split <;> omega
theorem M_T (hq : Q p = 1) (ap : act p) (hp : p < M) (e4 : ∀ j, j ≠ p → s2 144 j = s 144 j) (hn : s 143 p ≠ (p : Int)) (eQ : ∀ r, Q2 r = (if r = p then 0 else Q r) + (if s 143 p = (r : Int) then 1 else 0)) : Mzx s2 Q2 (fun r => act r ∧ r ≠ p) M + 1 ≤ Mzx s Q act M + 2 * ind (s 144 p < 0) := by
  have := M_told (s2 := s2) (Q2 := Q2) ap hp (by rw [hw_1 hq, ind_t ap]) e4 hn eQ
  omega
theorem M_T0 (hq : Q p = 0) (ap : act p) (hp : p < M) (e4 : ∀ j, j ≠ p → s2 144 j = s 144 j) (hn : s 143 p ≠ (p : Int)) (eQ : ∀ r, Q2 r = (if r = p then 0 else Q r) + (if s 143 p = (r : Int) then 1 else 0)) : Mzx s2 Q2 (fun r => act r ∧ r ≠ p) M ≤ Mzx s Q act M := by
  have := M_told (s2 := s2) (Q2 := Q2) ap hp (by rw [hw_0 hq, ind_t ap]) e4 hn eQ
  omega
/-- only p changes, and who is new -/
theorem M_one {act2 : Nat → Prop} {d : Int} (hp : p < M) (h1 : hwx s2 Q2 act2 p ≤ hwx s Q act p + d) (h2 : ∀ i, i ≠ p → hwx s2 Q2 act2 i ≤ hwx s Q act i) : Mzx s2 Q2 act2 M ≤ Mzx s Q act M + d := by
  have k := Mz_le (s := s) (s2 := s2) (Q := Q) (Q2 := Q2) (act := act) (act2 := act2) (p := p) (M := M) (d1 := d) (d2 := 0) (y := 0) hp (fun i => ?_) (by omega)
  · omega
  by_cases e : i = p
  · subst e
    rw [if_pos rfl]
    split <;> omega
  · have := h2 i e
    rw [if_neg e]
    split <;> omega
/-- one that is new weighs nothing -/
theorem hw_n {act2 : Nat → Prop} {i : Nat} (q2 : Q2 i = 1) (a2 : act2 i) (h4 : s2 144 i = -1) (nc : ¬ act i) (qc : Q i = 0) : hwx s2 Q2 act2 i ≤ hwx s Q act i := by
  rw [hw_1 q2, hw_0 qc, ind_t a2, ind_f nc, ind_t (P := s2 144 i < 0) (by omega)]
  omega
/-- children are asked -/
theorem M_A {act2 : Nat → Prop} {C : Nat → Prop} (hq : Q p = 1) (ap : act p) (hp : p < M) (hC : ∀ i, C i → i ≠ p ∧ ¬ act i ∧ Q i = 0 ∧ s2 144 i = -1 ∧ Q2 i = 1) (ha : ∀ i, act2 i ↔ act i ∨ C i) (q0 : Q2 p = 0) (ho : ∀ i, i ≠ p → ¬ C i → Q2 i = Q i ∧ s2 144 i = s 144 i) : Mzx s2 Q2 act2 M + 1 ≤ Mzx s Q act M + 2 * ind (s 144 p < 0) := by
  have k := M_one (s := s) (s2 := s2) (Q := Q) (Q2 := Q2) (act := act) (act2 := act2) (d := -1 + 2 * ind (s 144 p < 0)) hp (by
    rw [hw_0 q0, hw_1 hq, ind_t ap, ind_t ((ha p).mpr (.inl ap))]
    omega) (fun i e => by
    by_cases c : C i
    · obtain ⟨c1, c2, c3, c4, c5⟩ := hC i c
      exact hw_n c5 ((ha i).mpr (.inr c)) c4 c2 c3
    · obtain ⟨o1, o2⟩ := ho i e c
      rw [hw_e (act2 := act2) (act := act) o1 ⟨fun h => ((ha i).mp h).elim id (fun q => absurd q c), fun h => (ha i).mpr (.inl h)⟩ o2]
      exact Int.le_refl _)
  omega
/-- it waits -/
theorem M_W (hq : Q p = 1) (ap : act p) (hp : p < M) (e4 : ∀ j, j ≠ p → s2 144 j = s 144 j) (eQ : ∀ r, Q2 r = if r = p then 0 else Q r) : Mzx s2 Q2 act M + 1 ≤ Mzx s Q act M + 2 * ind (s 144 p < 0) := by
  have k := M_one (s := s) (s2 := s2) (Q := Q) (Q2 := Q2) (act := act) (act2 := act) (d := -1 + 2 * ind (s 144 p < 0)) hp (by
    rw [hw_0 (by rw [eQ, if_pos rfl]), hw_1 hq, ind_t ap]
    omega) (fun i e => by
    rw [hw_e (act2 := act) (act := act) (by rw [eQ, if_neg e]) Iff.rfl (e4 i e)]
    exact Int.le_refl _)
  omega
/-- a PAR counts -/
theorem M_N (hq : 0 < Q p) (hp : p < M) (e4 : ∀ j, j ≠ p → s2 144 j = s 144 j) (h4 : 0 ≤ s 144 p) (eQ : ∀ r, Q2 r = if r = p then Q p - 1 else Q r) : Mzx s2 Q2 act M + 1 ≤ Mzx s Q act M := by
  have k := M_one (s := s) (s2 := s2) (Q := Q) (Q2 := Q2) (act := act) (act2 := act) (d := -1) hp (by
    unfold hwx
    rw [eQ, if_pos rfl, ind_f (P := 0 < Q p ∧ s 144 p < 0) (fun h => by omega)]
    have := ind_r (P := 0 < Q p - 1 ∧ s2 144 p < 0)
    omega) (fun i e => by
    rw [hw_e (act2 := act) (act := act) (by rw [eQ, if_neg e]) Iff.rfl (e4 i e)]
    exact Int.le_refl _)
  omega
/-- it has a value -/
theorem M_S (hq : Q p = 1) (hp : p < M) (e4 : ∀ j, j ≠ p → s2 144 j = s 144 j) (eQ : ∀ r, Q2 r = if r = p then 1 else Q r) : Mzx s2 Q2 act M ≤ Mzx s Q act M + 2 * ind (s 144 p < 0) := by
  refine M_one hp ?_ (fun i e => by
    rw [hw_e (act2 := act) (act := act) (by rw [eQ, if_neg e]) Iff.rfl (e4 i e)]
    exact Int.le_refl _)
  rw [hw_1 (by rw [eQ, if_pos rfl]), hw_1 hq]
  have := ind_r (P := s2 144 p < 0)
  omega
theorem M_R (hq : Q p = 0) (hp : p < M) (e4 : ∀ j, j ≠ p → s2 144 j = s 144 j) (eQ : ∀ r, Q2 r = if r = p then 1 else Q r) : Mzx s2 Q2 act M ≤ Mzx s Q act M + 1 := by
  refine M_one hp ?_ (fun i e => by
    rw [hw_e (act2 := act) (act := act) (by rw [eQ, if_neg e]) Iff.rfl (e4 i e)]
    exact Int.le_refl _)
  rw [hw_1 (by rw [eQ, if_pos rfl]), hw_0 hq]
  have := ind_r (P := s2 144 p < 0)
  omega
end POT1
