/-! What reading an E gives. -/
def NE (C : Nat) (r : tab) : Prop := r C 1 ≤ 12 * r 170 5 ∧ 0 ≤ r C 3 ∧ r C 3 ≤ r C 1
def NXE (C : Nat) (r r2 : tab) : Prop := r 170 5 < r2 170 5 ∧ r2 C 1 - r C 1 ≤ 12 * (r2 170 5 - r 170 5) - 9 ∧ r C 1 ≤ r2 C 1 ∧ r C 3 ≤ r2 C 3 ∧ r2 C 3 - r C 3 ≤ r2 C 1 - r C 1 ∧ r2 C 10 = r C 10 ∧ r2 170 14 = r 170 14 ∧ r2 170 16 = r 170 16 ∧ r2 170 21 = r 170 21
/-- the code from m to m2 is that of something with k values -/
def EC (C : Nat) (y : gH) (m m2 k e : Nat) (r r2 : tab) : Prop := ∀ h0 : Nat, 2 * (h0 : Int) + gt y ≤ r 170 5 → SG (ga y) (r2 (C + 1)) (gG y) m m2 h0 (h0 + k) ((r2 170 5).toNat + e) (gn y) (ZM (gk y) (r2 170 26).toNat)
def EP (C : Nat) (y : gH) (m k e : Nat) (s : rS) : rS → hm_Out → Prop := fun s2 out => ∃ b : Int, out = some (some (vi b)) ∧ s2.2 = s.2 ∧ (b = 0 ∧ FR C s.1 s2.1 ∨ b = 1 ∧ RF s2.1 ∧ BX C (gn y) s.1 s2.1 ∧ CS s.1 s2.1 ∧ NXE C s.1 s2.1 ∧ s.1 170 5 + 2 ≤ s2.1 170 5 + (e : Int) ∧ ∃ m2 : Nat, s2.1 C 1 = (m2 : Int) ∧ EC C y m m2 k e s.1 s2.1)
/-- expression, unary, atom, callInside, call: n deep -/
def CX (n : Nat) : Prop := ∀ (C : Nat) (y : gH) (m : Nat) (s : rS) (lev deep : Int), (C = 177 ∨ C = 186) → RF s.1 → PI C y s.1 → MB (gn y) (s.1 170 26) → s.1 C 1 = (m : Int) → NE C s.1 → (0 ≤ lev ∧ lev ≤ 10 ∧ 0 ≤ deep ∧ deep ≤ 20 ∧ 16 * (20 - deep) + (10 - lev) + 4 ≤ (n : Int)) → cr (n + 20) 144 [.ref 170, vi lev, vi deep] s (EP C y m 1 1 s)
def CU (n : Nat) : Prop := ∀ (C : Nat) (y : gH) (m : Nat) (s : rS) (deep : Int), (C = 177 ∨ C = 186) → RF s.1 → PI C y s.1 → MB (gn y) (s.1 170 26) → s.1 C 1 = (m : Int) → NE C s.1 → (0 ≤ deep ∧ deep ≤ 20 ∧ 16 * (20 - deep) + 3 ≤ (n : Int)) → cr (n + 20) 145 [.ref 170, vi deep] s (EP C y m 1 1 s)
def CA (n : Nat) : Prop := ∀ (C : Nat) (y : gH) (m : Nat) (s : rS) (deep : Int), (C = 177 ∨ C = 186) → RF s.1 → PI C y s.1 → MB (gn y) (s.1 170 26) → s.1 C 1 = (m : Int) → NE C s.1 → (0 ≤ deep ∧ deep ≤ 20 ∧ 16 * (20 - deep) + 2 ≤ (n : Int)) → cr (n + 20) 146 [.ref 170, vi deep] s (EP C y m 1 1 s)
def CI (n : Nat) : Prop := ∀ (C : Nat) (y : gH) (m : Nat) (s : rS) (k i : Nat) (a deep : Int), (C = 177 ∨ C = 186) → RF s.1 → PI C y s.1 → MB (gn y) (s.1 170 26) → s.1 C 1 = (m : Int) → NE C s.1 → ((k : Int) < s.1 170 14 ∧ i < gn y ∧ s.1 175 k = (i : Int) ∧ s.1 170 4 = 1 ∧ i32 a ∧ 0 ≤ deep ∧ deep ≤ 20 ∧ 16 * (20 - deep) + 1 ≤ (n : Int)) → cr (n + 20) 149 [.ref 170, vi (k : Int), vi a, vi deep] s (EP C y m (fk (gd y i) - 2) 0 s)
def CC (n : Nat) : Prop := ∀ (C : Nat) (y : gH) (m : Nat) (s : rS) (k i : Nat) (a deep inside : Int), (C = 177 ∨ C = 186) → RF s.1 → PI C y s.1 → MB (gn y) (s.1 170 26) → s.1 C 1 = (m : Int) → NE C s.1 → ((k : Int) < s.1 170 14 ∧ i < gn y ∧ s.1 175 k = (i : Int) ∧ s.1 170 4 = 1 ∧ i32 a ∧ 0 ≤ deep ∧ deep ≤ 20 ∧ 0 ≤ inside ∧ inside ≤ 1 ∧ 16 * (20 - deep) + 15 ≤ (n : Int)) → cr (n + 20) 150 [.ref 170, vi (k : Int), vi a, vi deep, vi inside] s (EP C y m (fk (gd y i) - 2) 0 s)
theorem ZM_CS {ko : Nat → Nat} {r r2 : tab} (h : CS r r2) : ∀ x, ZM ko (r 170 26).toNat x → ZM ko (r2 170 26).toNat x := fun _ ⟨i, h1, h2⟩ => ⟨i, h i h1, h2⟩
theorem KL_CS {C : Nat} {r r2 : tab} (h : KL C r r2) : CS r r2 := CS_eq h.2.2.2.2.2.2.2
theorem KC_CS {C : Nat} {r r2 : tab} (h : KC C r r2) : CS r r2 := CS_eq h.2.2.2.2.2.2.2.2.2
theorem LX_nums {C : Nat} {y : gH} {r : tab} (h : PI C y r) : 0 ≤ r 170 5 ∧ r 170 5 ≤ r 170 6 ∧ r 170 6 ≤ 2000 := by
  have := LX_of h
  unfold LX at this
  omega
theorem LX_lt {C : Nat} {y : gH} {r : tab} (h : PI C y r) (hk : 1 ≤ r 170 4) : r 170 5 < r 170 6 := by
  have := LX_of h
  unfold LX at this
  omega
theorem LX_num {C : Nat} {y : gH} {r : tab} (h : PI C y r) (hk : r 170 4 = 3) : 0 ≤ r 170 7 ∧ r 170 7 ≤ 65535 := by
  have := LX_of h
  unfold LX at this
  omega
theorem gt_of {C : Nat} {y : gH} {r : tab} (h : PI C y r) : 0 ≤ gt y ∧ gt y ≤ r 170 5 := ⟨h.2.2.2.2.2.2.1, h.2.2.2.2.2.2.2.1⟩
theorem BX_mb {C nr : Nat} {r r2 : tab} (h : BX C nr r r2) (q : MB nr (r 170 26)) : MB nr (r2 170 26) := h.2.2.2.2.2.2.2.2.2.2.2.2 q
