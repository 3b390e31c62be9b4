/-! TARGETS. -/
def TP (C : Nat) (y : gH) (m w : Nat) (s : rS) : rS → hm_Out → Prop := fun s2 out => ∃ b : Int, out = some (some (vi b)) ∧ s2.2 = s.2 ∧ (b = 0 ∧ FR C s.1 s2.1 ∨ b = 1 ∧ RF s2.1 ∧ BX C (gn y) s.1 s2.1 ∧ CS s.1 s2.1 ∧ NXE C s.1 s2.1 ∧ ∃ m2 : Nat, s2.1 C 1 = (m2 : Int) ∧ ∀ h0 : Nat, 2 * (h0 : Int) + gt y ≤ s.1 170 5 → SH (ga y) (s2.1 (C + 1)) (gG y) m m2 h0 (h0 + w) ((s2.1 170 5).toNat) (gn y) (ZM (gk y) (s2.1 170 26).toNat))
def CTg (n : Nat) : Prop := ∀ (C : Nat) (y : gH) (m : Nat) (s : rS) (k w : Nat) (a deep : Int), (C = 177 ∨ C = 186) → RF s.1 → PI C y s.1 → MB (gn y) (s.1 170 26) → s.1 C 1 = (m : Int) → (s.1 C 1 ≤ 12 * s.1 170 5 + 1 ∧ 0 ≤ s.1 C 3 ∧ s.1 C 3 ≤ s.1 C 1) → ((k : Int) < s.1 170 14 ∧ s.1 174 k = (w : Int) ∧ w ≤ 1 ∧ s.1 170 4 = 1 ∧ i32 a ∧ 0 ≤ deep ∧ deep ≤ 19) → cr (n + 380) 157 [.ref 170, vi (k : Int), vi a, vi deep] s (TP C y m w s)
theorem N_rng {C k : Nat} {y : gH} {r : tab} (hP : PI C y r) (hk : (k : Int) < r 170 14) : 0 ≤ r 174 k ∧ r 174 k ≤ 6 ∧ 0 ≤ r 175 k := by
  have := (NM_of hP).2.2 k hk
  exact ⟨this.2.2.2.1, this.2.2.2.2.1, this.2.2.2.2.2.1⟩
theorem N_io {C k : Nat} {y : gH} {r : tab} (hP : PI C y r) (hk : (k : Int) < r 170 14) : (3 ≤ r 174 k ∧ r 174 k ≤ 4) → r 175 k < 4 := by
  intro h
  have := (NM_of hP).2.2 k hk
  have e : r 174 k = 3 ∨ r 174 k = 4 := by omega
  rcases e with e | e
  · exact this.2.2.2.2.2.2.2.2.2.1 e
  · exact this.2.2.2.2.2.2.2.2.2.2.1 e
/-- a token that comes behind another one -/
theorem LX_prog {C : Nat} {y : gH} {r r2 : tab} (h : PI C y r) (h2 : PI C y r2) (he : r2 170 2 = r 170 2) (hf : r 170 6 ≤ r2 170 5) (hk : 1 ≤ r2 170 4) : r 170 5 + 1 ≤ r2 170 5 := by
  have a := LX_of h
  have b := LX_of h2
  unfold LX at a b
  omega
