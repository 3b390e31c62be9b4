/-- all that reads a STATEMENT -/
theorem p_S : ∀ n, CSt n ∧ CBl n ∧ CT1 143 tk1 1 19 n ∧ CT1 153 tk1 1 19 n ∧ CT1 154 tk1 1 19 n ∧ CT1 155 tk3 1 19 n ∧ CT1 156 tkN 1 19 n
  | 0 => ⟨fun C y m k0 s deep _ _ _ _ _ _ h => absurd h (by omega), fun C y m k0 s deep _ _ _ _ _ _ h => absurd h (by omega), fun C y m k0 s deep _ _ _ _ _ _ h => absurd h (by omega), fun C y m k0 s deep _ _ _ _ _ _ h => absurd h (by omega), fun C y m k0 s deep _ _ _ _ _ _ h => absurd h (by omega), fun C y m k0 s deep _ _ _ _ _ _ h => absurd h (by omega), fun C y m k0 s deep _ _ _ _ _ _ h => absurd h (by omega)⟩
  | n + 1 => by
    obtain ⟨hSt, hBl, hBr, hLo, hRe, hPa, hBn⟩ := p_S n
    have hE := p_E 340
    exact ⟨p_statement hBl hBr hLo hRe hPa hBn, p_block hSt, p_branch hE.1 hSt, p_loop hE.1 hSt, p_repeat hE.1 hSt, p_par hSt, p_byName hE.1 hE.2.2.2.2 (fun n => p_target hE.1)⟩
/-! The body of a fun. -/
def NXB (C : Nat) (r r2 : tab) : Prop := r2 C 1 - r C 1 ≤ 12 * (r2 170 5 - r 170 5) - 9 ∧ r C 1 ≤ r2 C 1 ∧ r C 3 ≤ r2 C 3 ∧ r2 C 3 - r C 3 ≤ r2 C 1 - r C 1 ∧ r C 10 ≤ r2 C 10 ∧ r2 C 10 - r C 10 ≤ r2 170 5 - r 170 5 ∧ r 170 16 ≤ r2 170 16 ∧ r2 170 16 - r 170 16 ≤ r2 170 5 - r 170 5
def BP (C : Nat) (y : gH) (m k0 h1 : Nat) (s : rS) : rS → hm_Out → Prop := fun s2 out => ∃ b : Int, out = some (some (vi b)) ∧ s2.2 = s.2 ∧ (b = 0 ∧ FR C s.1 s2.1 ∨ b = 1 ∧ RF s2.1 ∧ BX C (gn y) s.1 s2.1 ∧ CS s.1 s2.1 ∧ NXB C s.1 s2.1 ∧ ∃ m2 k1 : Nat, s2.1 C 1 = (m2 : Int) ∧ (k0 ≤ k1 ∧ s.1 170 5 + 3 * k1 + 2 ≤ s2.1 170 5 + 3 * k0) ∧ (s2.1 170 21 < 0 → SG (ga y) (s2.1 (C + 1)) (gG y) m m2 0 h1 ((s2.1 170 5).toNat - 1) (gn y) (SZ (gk y) (s2.1 170 26).toNat k0 k1)))
def CBo (d : Nat) : Prop := ∀ (C : Nat) (y : gH) (m k0 : Nat) (s : rS), (C = 177 ∨ C = 186) → RF s.1 → PI C y s.1 → MB (gn y) (s.1 170 26) → s.1 C 1 = (m : Int) → NS C 2 s.1 → gk y (gn y) ≤ k0 → (∀ i j, i ≤ j → j ≤ gn y → gk y i ≤ gk y j) → cr (d + 470) 159 [.ref 170] s (BP C y m k0 1 s)
