/-! Masks, names and procs: single facts. -/
theorem TG_C {C : Nat} (hC : C = 177 ∨ C = 186) : tb_TG C = some (.inr 8, 19) := by rcases hC with rfl | rfl <;> rfl
theorem TG_C1 {C : Nat} (hC : C = 177 ∨ C = 186) : tb_TG (C + 1) = some (.inl .int, 24000) := by rcases hC with rfl | rfl <;> rfl
theorem TG_C2 {C : Nat} (hC : C = 177 ∨ C = 186) : tb_TG (C + 2) = some (.inl .int, 24) := by rcases hC with rfl | rfl <;> rfl
theorem TG_C3 {C : Nat} (hC : C = 177 ∨ C = 186) : tb_TG (C + 3) = some (.inl .int, 6) := by rcases hC with rfl | rfl <;> rfl
theorem rc_C0 {C : Nat} (hC : C = 177 ∨ C = 186) : tb_rc C 0 = some (C + 1) := by rcases hC with rfl | rfl <;> rfl
/-- all but the first four masks are kept -/
def KM (r r2 : tab) : Prop := ∀ k j, ¬ (k = 170 ∧ 22 ≤ j ∧ j ≤ 26) → r2 k j = r k j
section MORE
variable {C k i : Nat} {y : gH} {r r1 r2 : tab} {z : Int} {j : Nat}
theorem KM_rf : KM r r := fun _ _ _ => rfl
theorem KM_up (h : KM r r1) (hj : 22 ≤ j ∧ j ≤ 26) : KM r (up2 r1 170 j z) := fun k j2 hn => (if_neg (by rintro ⟨rfl, rfl⟩; exact hn ⟨rfl, hj⟩)).trans (h k j2 hn)
theorem KM_nums (hC : C = 177 ∨ C = 186) (h : KM r r2) : r2 C 1 = r C 1 ∧ r2 C 3 = r C 3 ∧ r2 C 10 = r C 10 ∧ r2 170 4 = r 170 4 ∧ r2 170 5 = r 170 5 ∧ r2 170 6 = r 170 6 ∧ r2 170 7 = r 170 7 ∧ r2 170 14 = r 170 14 ∧ r2 170 16 = r 170 16 ∧ r2 170 21 = r 170 21 := ⟨h _ _ (by omega), h _ _ (by omega), h _ _ (by omega), h _ _ (by omega), h _ _ (by omega), h _ _ (by omega), h _ _ (by omega), h _ _ (by omega), h _ _ (by omega), h _ _ (by omega)⟩
theorem BX_KM (hC : C = 177 ∨ C = 186) (hP : PI C y r) (h : KM r r2) (hM : True ∧ (MB (gn y) (r 170 26) → MB (gn y) (r2 170 26))) : BX C (gn y) r r2 := by
  obtain ⟨a1, a2, a3, a4, a5, a6, a7, a8, a9, a10, a11, a12⟩ := PI_rf hP
  obtain ⟨n1, n3, n10, n4, n5, n6, n7, n14, n16, n21⟩ := KM_nums hC h
  exact ⟨fun k j hn => h k j fun q => hn (by unfold SS; omega), LX_at a2 (fun j h1 h2 => h _ _ (by omega)), NM_at a3 (h _ _ (by omega)) (fun k j h1 h2 => h _ _ (by omega)), by omega, by omega, by omega, by rw [h C 4 (by omega)]; omega, by rw [h C 4 (by omega)]; exact a8, by rw [h C 4 (by omega)]; exact a9, fun k h1 h2 => absurd h2 (by omega), by rw [n21]; exact id, hM⟩
theorem MB_up {a b : Nat} {z : Int} (h : MB a z) (hab : a ≤ b) : MB b z := by
  obtain ⟨m, h1, h2⟩ := h
  exact ⟨m, h1, fun i hi => by have := h2 i hi; omega⟩
theorem nr_of (hP : PI C y r) : gn y ≤ 12 := hP.2.2.2.2.1.1
theorem R1_of (hP : PI C y r) (hi : i < gn y) : R1 y r i := hP.2.2.2.2.2.2.2.2.2.1 i hi
theorem R1_par (hP : PI C y r) (hi : i < gn y) : 0 ≤ r 201 i ∧ r 201 i ≤ 4 ∧ 0 ≤ r 202 i ∧ r 202 i + r 201 i ≤ 24 := by
  obtain ⟨h1, h2, h3, h4, h5, -⟩ := R1_of hP hi
  exact ⟨h2, h3, h4, h5⟩
theorem N_var (hP : PI C y r) (hk : (k : Int) < r 170 14) (hw : r 174 k = 0) : 0 ≤ r 175 k ∧ r 175 k < 24 := by
  have := (NM_of hP).2.2 k hk
  exact ⟨this.2.2.2.2.2.1, this.2.2.2.2.2.2.1 hw⟩
theorem N_arr (hP : PI C y r) (hk : (k : Int) < r 170 14) (hw : r 174 k = 1) : 0 ≤ r 175 k ∧ r 175 k < (ga y : Int) := by
  have h1 := (NM_of hP).2.2 k hk
  have h2 := hP.2.2.2.2.2.2.2.2.2.2.1 k hk
  have h3 := hP.2.2.2.2.1.2
  exact ⟨h1.2.2.2.2.2.1, by have := h2.1 hw; omega⟩
theorem N_fun (hP : PI C y r) (hk : (k : Int) < r 170 14) (hw : r 174 k = 6) (hr : r 175 k ≠ r 170 35) : ∃ i : Nat, i < gn y ∧ r 175 k = (i : Int) ∧ fk (gd y i) = 3 := by
  have h2 := hP.2.2.2.2.2.2.2.2.2.2.1 k hk
  exact (h2.2.2 hw).resolve_left hr
theorem N_proc (hP : PI C y r) (hk : (k : Int) < r 170 14) (hw : r 174 k = 5) (hr : r 175 k ≠ r 170 35) : ∃ i : Nat, i < gn y ∧ r 175 k = (i : Int) ∧ fk (gd y i) = 2 := by
  have h2 := hP.2.2.2.2.2.2.2.2.2.2.1 k hk
  exact (h2.2.1 hw).resolve_left hr
theorem bits_lt {m n : Nat} (h : ∀ i, m.testBit i = true → i < n) : m < 2 ^ n := Nat.lt_pow_two_of_testBit m fun i hi => by
  cases e : m.testBit i with
  | false => rfl
  | true => have := h i e; omega
theorem MB_lt {nr : Nat} {a : Int} (h : MB nr a) (hn : nr ≤ 12) : ∃ m : Nat, a = (m : Int) ∧ m < 4096 ∧ ∀ i, m.testBit i = true → i < nr := by
  obtain ⟨m, h1, h2⟩ := h
  have h3 := bits_lt h2
  have h4 : (2 : Nat) ^ nr ≤ 2 ^ 12 := Nat.pow_le_pow_right (by omega) hn
  exact ⟨m, h1, by omega, h2⟩
/-- a mask joined to another -/
theorem MB_or {nr : Nat} {a b : Int} (ha : MB nr a) (hb : MB nr b) (hn : nr ≤ 12) (hz : ∀ m n : Nat, a = (m : Int) → b = (n : Int) → m < 4096 → n < 4096 → z = ((m ||| n : Nat) : Int)) : MB nr z ∧ (∀ i, a.toNat.testBit i = true → z.toNat.testBit i = true) ∧ ∀ i, b.toNat.testBit i = true → z.toNat.testBit i = true := by
  obtain ⟨m, h1, h2, h3⟩ := MB_lt ha hn
  obtain ⟨n, h4, h5, h6⟩ := MB_lt hb hn
  have h7 := hz m n h1 h4 h2 h5
  subst h1 h4 h7
  refine ⟨⟨m ||| n, rfl, fun i hi => ?_⟩, fun i hi => ?_, fun i hi => ?_⟩
  · rw [Nat.testBit_or, Bool.or_eq_true] at hi
    exact hi.elim (h3 i) (h6 i)
  · rw [Int.toNat_natCast] at hi ⊢
    rw [Nat.testBit_or, hi]
    rfl
  · rw [Int.toNat_natCast] at hi ⊢
    rw [Nat.testBit_or, hi, Bool.or_true]
theorem R1_mask (hP : PI C y r) (hi : i < gn y) : MB (gn y) (r 199 i) ∧ ∀ x, fz (gd y i) x → ZM (gk y) (r 199 i).toNat x := by
  obtain ⟨-, -, -, -, -, -, -, -, -, m, h1, h2, h3⟩ := R1_of hP hi
  rw [h1]
  exact ⟨⟨m, rfl, fun j hj => by have := h2 j hj; omega⟩, by rw [Int.toNat_natCast]; exact h3⟩
theorem ZM_bits {ko : Nat → Nat} {m n : Nat} (h : ∀ i, m.testBit i = true → n.testBit i = true) : ∀ x, ZM ko m x → ZM ko n x := fun _ ⟨i, h1, h2⟩ => ⟨i, h i h1, h2⟩
end MORE
theorem R1_call {C i : Nat} {y : gH} {r : tab} (hP : PI C y r) (hi : i < gn y) : (2 ≤ fk (gd y i) ∧ fk (gd y i) ≤ 3) ∧ frk (gd y i) < gn y ∧ 2 * (frm (gd y i) : Int) ≤ gt y ∧ r 200 i = (ge y i : Int) := by
  obtain ⟨h1, -, -, -, -, h2, h3, h4, h5, -⟩ := R1_of hP hi
  exact ⟨⟨h3, h4⟩, by omega, h5, h1⟩
