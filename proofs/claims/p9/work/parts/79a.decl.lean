/-! Declarations. -/
theorem rc_C11 {C : Nat} (hC : C = 177 ∨ C = 186) : tb_rc C 11 = some (C + 2) := by rcases hC with rfl | rfl <;> rfl
theorem rc_C12 {C : Nat} (hC : C = 177 ∨ C = 186) : tb_rc C 12 = some (C + 3) := by rcases hC with rfl | rfl <;> rfl
theorem rc_C13 {C : Nat} (hC : C = 177 ∨ C = 186) : tb_rc C 13 = some (C + 4) := by rcases hC with rfl | rfl <;> rfl
theorem rc_C14 {C : Nat} (hC : C = 177 ∨ C = 186) : tb_rc C 14 = some (C + 5) := by rcases hC with rfl | rfl <;> rfl
theorem rc_C15 {C : Nat} (hC : C = 177 ∨ C = 186) : tb_rc C 15 = some (C + 6) := by rcases hC with rfl | rfl <;> rfl
theorem rc_C16 {C : Nat} (hC : C = 177 ∨ C = 186) : tb_rc C 16 = some (C + 7) := by rcases hC with rfl | rfl <;> rfl
theorem rc_C17 {C : Nat} (hC : C = 177 ∨ C = 186) : tb_rc C 17 = some (C + 8) := by rcases hC with rfl | rfl <;> rfl
theorem TG_C4 {C : Nat} (hC : C = 177 ∨ C = 186) : tb_TG (C + 4) = some (.inl .byte, 2000) := by rcases hC with rfl | rfl <;> rfl
theorem TG_C5 {C : Nat} (hC : C = 177 ∨ C = 186) : tb_TG (C + 5) = some (.inl .int, 100) := by rcases hC with rfl | rfl <;> rfl
theorem TG_C6 {C : Nat} (hC : C = 177 ∨ C = 186) : tb_TG (C + 6) = some (.inl .int, 100) := by rcases hC with rfl | rfl <;> rfl
theorem TG_C7 {C : Nat} (hC : C = 177 ∨ C = 186) : tb_TG (C + 7) = some (.inl .int, 100) := by rcases hC with rfl | rfl <;> rfl
theorem TG_C8 {C : Nat} (hC : C = 177 ∨ C = 186) : tb_TG (C + 8) = some (.inl .int, 100) := by rcases hC with rfl | rfl <;> rfl
def DC (r r2 : tab) (N : Nat) (w u : Int) : Prop := (∀ k j, ¬ (k = 170 ∧ (3 ≤ j ∧ j ≤ 7 ∨ j = 14)) → ¬ (172 ≤ k ∧ k ≤ 176 ∧ j = N) → r2 k j = r k j) ∧ LX r2 ∧ r2 170 14 = (N : Int) + 1 ∧ r2 172 N = r 170 5 ∧ r2 173 N = r 170 6 ∧ r2 174 N = w ∧ r2 175 N = u ∧ r 170 5 + 1 ≤ r2 170 5
theorem x_declare {d C N : Nat} {y : gH} {w u : Int} (s : rS) (hR : RF s.1) (hP : PI C y s.1) (hw : i32 w) (hu : i32 u) (hN : s.1 170 14 = (N : Int)) (hk : s.1 170 4 = 1) : cr (d + 7) 133 [.ref 170, vi w, vi u] s (fun s2 out => ∃ b : Int, out = some (some (vi b)) ∧ s2.2 = s.2 ∧ (b = 0 ∧ FR C s.1 s2.1 ∨ b = 1 ∧ DC s.1 s2.1 N w u)) := by
  obtain ⟨p1, p2, p3, p4, p5⟩ := id hP
  unfold CT at p4
  have hn58 : s.1 170 14 ≤ 58 := by omega
  clear p5
  refine cr_mono (c_declare (d := d) s hR p2 p3 hw hu (by omega)) ?_
  rintro s2 out ⟨b, rfl, h1, ⟨rfl, h2⟩ | ⟨rfl, h2, h3, h4⟩⟩
  · exact ⟨0, rfl, h1, .inl ⟨rfl, FR_bad h2⟩⟩
  · have hlt := LX_lt hP (by omega)
    clear p1 p2 p3 p4
    rw [show (s.1 170 14).toNat = N by omega] at h2
    have v : ∀ k j, ¬ (k = 170 ∧ 3 ≤ j ∧ j ≤ 7) → s2.1 k j = up2 (up2 (up2 (up2 (up2 (up2 s.1 172 N (s.1 170 5)) 173 N (s.1 170 6)) 174 N w) 175 N u) 176 N (s.1 170 15)) 170 14 (s.1 170 14 + 1) k j := fun k j hn => h2 k j (by
      rintro ⟨q1, q2⟩
      simp only [List.mem_cons, List.not_mem_nil, or_false] at q2
      omega)
    refine ⟨1, rfl, h1, .inr ⟨rfl, fun k j e1 e2 => ?_, h3, ?_, ?_, ?_, ?_, ?_, by omega⟩⟩
    · rw [v k j (by omega)]
      exact (if_neg (by omega)).trans ((if_neg (by omega)).trans ((if_neg (by omega)).trans ((if_neg (by omega)).trans ((if_neg (by omega)).trans (if_neg (by omega))))))
    · rw [v 170 14 (by omega), ← hN]; exact up_self
    · rw [v 172 N (by omega)]
      exact (if_neg (by omega)).trans ((if_neg (by omega)).trans ((if_neg (by omega)).trans ((if_neg (by omega)).trans ((if_neg (by omega)).trans up_self))))
    · rw [v 173 N (by omega)]
      exact (if_neg (by omega)).trans ((if_neg (by omega)).trans ((if_neg (by omega)).trans ((if_neg (by omega)).trans up_self)))
    · rw [v 174 N (by omega)]
      exact (if_neg (by omega)).trans ((if_neg (by omega)).trans ((if_neg (by omega)).trans up_self))
    · rw [v 175 N (by omega)]
      exact (if_neg (by omega)).trans ((if_neg (by omega)).trans up_self)
/-- what a new name's numbers may be -/
def NW (r : tab) (N : Nat) : Prop := (r 174 N = 0 → r 175 N < 24) ∧ (r 174 N = 1 → r 175 N < 6) ∧ (r 174 N = 2 → r 175 N < 8) ∧ (r 174 N = 3 → r 175 N < 4) ∧ (r 174 N = 4 → r 175 N < 4) ∧ (5 ≤ r 174 N → r 175 N < 12)
def H35 (C : Nat) (y : gH) (r : tab) : Prop := r 170 35 = -1 ∧ r C 9 = (gn y : Int) ∨ r 170 35 = (gn y : Int) ∧ r C 9 = (gn y : Int) + 1
/-- another number of arrays -/
abbrev ya (y : gH) (n : Nat) : gH := (y.1, y.2.1, n, y.2.2.2)
theorem PI_decl {C N na : Nat} {y : gH} {r r2 : tab} (hC : C = 177 ∨ C = 186) (hP : PI C y r) (hN : r 170 14 = (N : Int)) (hf : ∀ k j, ¬ (k = 170 ∧ (3 ≤ j ∧ j ≤ 8 ∨ 14 ≤ j ∧ j ≤ 16 ∨ 35 ≤ j ∧ j ≤ 37)) → ¬ (172 ≤ k ∧ k ≤ 176 ∧ j = N) → ¬ (k = C ∧ 5 ≤ j ∧ j ≤ 9) → ¬ (k = C + 3 ∧ (j : Int) = r C 5) → ¬ ((k = 201 ∨ k = 202) ∧ gn y ≤ j) → r2 k j = r k j) (hL : LX r2) (hfr : r 170 5 ≤ r2 170 5) (hn : r2 170 14 = (N : Int) + 1) (hct : CT C r2) (he : (0 ≤ r2 172 N ∧ r2 172 N < r2 173 N ∧ r2 173 N ≤ 2000) ∧ (0 ≤ r2 174 N ∧ r2 174 N ≤ 6) ∧ 0 ≤ r2 175 N) (he2 : NW r2 N) (h5 : r2 C 5 = (na : Int)) (h5b : r C 5 ≤ r2 C 5) (h35 : H35 C y r2) (hnew : N1 C y r2 N) (hsz : ∀ a : Nat, (a : Int) < r2 C 5 → 1 ≤ r2 (C + 3) a ∧ r2 (C + 3) a ≤ 64) (hold : r 170 35 = -1) : PI C (ya y na) r2 := by
  have f1 : ∀ k, 172 ≤ k → k ≤ 175 → ∀ j, j ≠ N → r2 k j = r k j := fun k h1 h2 j h3 => hf k j (by omega) (by omega) (by omega) (by omega) (by omega)
  have f2 : ∀ k, 199 ≤ k → k ≤ 202 → ∀ j, j < gn y → r2 k j = r k j := fun k h1 h2 j h3 => hf k j (by omega) (by omega) (by omega) (by omega) (by omega)
  have f3 : r2 170 19 = r 170 19 := hf 170 19 (by omega) (by omega) (by omega) (by omega) (by omega)
  have f4 : r2 170 26 = r 170 26 := hf 170 26 (by omega) (by omega) (by omega) (by omega) (by omega)
  clear hf
  have hn58 : r 170 14 ≤ 58 := by have p4 := hP.2.2.2.1; unfold CT at p4; omega
  obtain ⟨p1, p2, p3, p4, q0, q1, q2, q3, q4, q5, q6, q7⟩ := hP
  clear p4 q1
  have g5 : gt y ≤ r2 170 5 := Int.le_trans q3 hfr
  have g0 : 0 ≤ r2 170 14 ∧ r2 170 14 ≤ 100 := by omega
  refine ⟨f3.trans p1, hL, ⟨g0.1, g0.2, fun k hk => ?_⟩, hct, ⟨q0.1, h5⟩, h35, q2, g5, trivial, fun i hi => ?_, fun k hk => ?_, hsz⟩
  · by_cases e : k = N
    · subst e
      exact ⟨he.1.1, he.1.2.1, he.1.2.2, he.2.1.1, he.2.1.2, he.2.2, he2⟩
    · rw [f1 172 (by omega) (by omega) k e, f1 173 (by omega) (by omega) k e, f1 174 (by omega) (by omega) k e, f1 175 (by omega) (by omega) k e]
      exact p3.2.2 k (by omega)
  · have := q5 i hi
    unfold R1 at this ⊢
    rw [f2 199 (by decide) (by decide) i hi, f2 200 (by decide) (by decide) i hi, f2 201 (by decide) (by decide) i hi, f2 202 (by decide) (by decide) i hi]
    exact this
  · by_cases e : k = N
    · subst e
      exact hnew
    · have hkN : (k : Int) < r 170 14 := by omega
      have g3 := (p3.2.2 k hkN).2.2.2.2.2.1
      have g1 := f1 174 (by omega) (by omega) k e
      have g2 := f1 175 (by omega) (by omega) k e
      have g4 := q6 k hkN
      unfold N1 at g4 ⊢
      rw [g1, g2]
      have hne : ¬ r 175 k = r 170 35 := fun e2 => by rw [hold] at e2; rw [e2] at g3; exact absurd g3 (by decide)
      exact ⟨fun e1 => Int.lt_of_lt_of_le (g4.1 e1) h5b, fun e1 => .inr ((g4.2.1 e1).resolve_left hne), fun e1 => .inr ((g4.2.2 e1).resolve_left hne)⟩
/-- tables of the proc or fun that is being read -/
theorem PI_tab {C : Nat} {y : gH} {r r2 : tab} (hC : C = 177 ∨ C = 186) (hP : PI C y r) (hf : ∀ k j, ¬ (195 ≤ k ∧ k ≤ 202 ∧ gn y ≤ j) → r2 k j = r k j) : PI C y r2 := by
  obtain ⟨p1, p2, p3, p4, q0, q1, q2, q3, q4, q5, q6, q7⟩ := hP
  have g : ∀ k j, ¬ (195 ≤ k ∧ k ≤ 202) → r2 k j = r k j := fun k j h => hf k j (by omega)
  refine ⟨(g _ _ (by omega)).trans p1, LX_at p2 fun j _ _ => g _ _ (by omega), NM_at p3 (g _ _ (by omega)) fun k j _ _ => g _ _ (by omega), ?_, ⟨q0.1, (g _ _ (by omega)).trans q0.2⟩, by rw [g 170 35 (by omega), g C 9 (by omega)]; exact q1, q2, by rw [g 170 5 (by omega)]; exact q3, trivial, fun i hi => ?_, fun k hk => ?_, fun a ha => ?_⟩
  · unfold CT at p4 ⊢
    rw [g C 4 (by omega), g C 5 (by omega), g C 6 (by omega), g C 7 (by omega), g C 8 (by omega), g C 9 (by omega), g 170 14 (by omega)]
    exact p4
  · have g1 := hf 199 i (by omega)
    have g2 := hf 200 i (by omega)
    have g3 := hf 201 i (by omega)
    have g4 := hf 202 i (by omega)
    have := q5 i hi
    unfold R1 at this ⊢
    rw [g1, g2, g3, g4]
    exact this
  · rw [g 170 14 (by omega)] at hk
    have g1 := g 174 k (by omega)
    have g2 := g 175 k (by omega)
    have g3 := g C 5 (by omega)
    have g4 := g 170 35 (by omega)
    have := q6 k hk
    unfold N1 at this ⊢
    rw [g1, g2, g3, g4]
    exact this
  · rw [g C 5 (by omega)] at ha
    rw [g (C + 3) a (by omega)]
    exact q7 a ha
/-- between declarations -/
def DI (C : Nat) (y : gH) (mr : Nat) (r : tab) : Prop := PI C y r ∧ r 170 35 = -1 ∧ (r C 1 ≤ 12 * r 170 5 ∧ (mr : Int) ≤ r C 1 ∧ 0 ≤ r C 3 ∧ r C 3 ≤ r C 1 ∧ 0 ≤ r 170 16 ∧ r 170 16 ≤ r 170 5 + 1 ∧ 0 ≤ r C 10 ∧ r C 10 ≤ r 170 5 ∧ 3 * (gk y (gn y) : Int) ≤ r 170 5) ∧ (∀ i j, i ≤ j → j ≤ gn y → gk y i ≤ gk y j) ∧ (r 170 21 < 0 → EV (ga y) (r (C + 1)) mr (gn y) (ge y) (gw y) (gd y))
def DP (C : Nat) (s : rS) : rS → hm_Out → Prop := fun s2 out => ∃ b : Int, out = some (some (vi b)) ∧ s2.2 = s.2 ∧ (b = 0 ∧ FR C s.1 s2.1 ∨ b = 1 ∧ RF s2.1 ∧ FR C s.1 s2.1 ∧ s.1 170 5 + 1 ≤ s2.1 170 5 ∧ ∃ (y : gH) (mr : Nat), DI C y mr s2.1)
theorem DC_FR {C N : Nat} {r r2 : tab} {w u : Int} (h : DC r r2 N w u) : FR C r r2 := fun k j hn => h.1 k j (fun q => hn (by unfold PS; omega)) (fun q => hn (by unfold PS; omega))
section PORT
variable {C N c : Nat} {y : gH} {r rd r2 : tab} {w : Int}
theorem PI_port (hC : C = 177 ∨ C = 186) (hP : PI C y r) (hN : r 170 14 = (N : Int)) (hk : r 170 4 = 1) (h35 : r 170 35 = -1) (hd : DC r rd N w (r C c)) (hc : c = 6 ∧ w = 2 ∧ r C c < 8 ∨ c = 7 ∧ w = 3 ∧ r C c < 4 ∨ c = 8 ∧ w = 4 ∧ r C c < 4) (hf : ∀ k j, ¬ (k = 170 ∧ 3 ≤ j ∧ j ≤ 8) → ¬ (k = C ∧ j = c) → r2 k j = rd k j) (hv : r2 C c = r C c + 1) (hL : LX r2) (hfr : r 170 5 ≤ r2 170 5) : PI C y r2 := by
  obtain ⟨d1, d2, d3, d4, d5, d6, d7, d8⟩ := hd
  have hlt := LX_lt hP (by omega)
  have hx := LX_nums hP
  have g : ∀ k j, ¬ (k = 170 ∧ (3 ≤ j ∧ j ≤ 8 ∨ j = 14)) → ¬ (172 ≤ k ∧ k ≤ 176 ∧ j = N) → ¬ (k = C ∧ j = c) → r2 k j = r k j := fun k j e1 e2 e3 => (hf k j (by omega) e3).trans (d1 k j (by omega) e2)
  have hc4 := hP.2.2.2.1
  have h5 : r2 C 5 = r C 5 := g C 5 (by omega) (by omega) (by omega)
  have e4 : r2 174 N = w := (hf 174 N (by omega) (by omega)).trans d6
  have e5 : r2 175 N = r C c := (hf 175 N (by omega) (by omega)).trans d7
  have e2 : r2 172 N = r 170 5 := (hf 172 N (by omega) (by omega)).trans d4
  have e3 : r2 173 N = r 170 6 := (hf 173 N (by omega) (by omega)).trans d5
  have en : r2 170 14 = (N : Int) + 1 := (hf 170 14 (by omega) (by omega)).trans d3
  have hga := hP.2.2.2.2.1.2
  have h9 : r2 C 9 = r C 9 := g C 9 (by omega) (by omega) (by omega)
  have hq := hP.2.2.2.2.2.1
  have g4 : r2 C 4 = r C 4 := g C 4 (by omega) (by omega) (by omega)
  have key : CT C r2 := by
    unfold CT at hc4 ⊢
    rcases hc with ⟨rfl, -, hl⟩ | ⟨rfl, -, hl⟩ | ⟨rfl, -, hl⟩
    · have g7 : r2 C 7 = r C 7 := g C 7 (by omega) (by omega) (by omega)
      have g8 : r2 C 8 = r C 8 := g C 8 (by omega) (by omega) (by omega)
      omega
    · have g7 : r2 C 6 = r C 6 := g C 6 (by omega) (by omega) (by omega)
      have g8 : r2 C 8 = r C 8 := g C 8 (by omega) (by omega) (by omega)
      omega
    · have g7 : r2 C 6 = r C 6 := g C 6 (by omega) (by omega) (by omega)
      have g8 : r2 C 7 = r C 7 := g C 7 (by omega) (by omega) (by omega)
      omega
  have hcn : 0 ≤ r C c := by
    unfold CT at hc4
    rcases hc with ⟨rfl, -, hl⟩ | ⟨rfl, -, hl⟩ | ⟨rfl, -, hl⟩ <;> omega
  have : PI C (ya y (ga y)) r2 := PI_decl (na := ga y) (y := y) hC hP hN (fun k j e1 e2 e3 e4 e5 => g k j (by omega) e2 (by omega)) hL hfr en key (by rw [e2, e3, e4, e5]; omega) (by unfold NW; rw [e4, e5]; omega) (h5.trans hga) (by omega) (by unfold H35; rw [g 170 35 (by omega) (by omega) (by omega), h9]; omega) (by unfold N1; rw [e4]; exact ⟨fun q => absurd q (by omega), fun q => absurd q (by omega), fun q => absurd q (by omega)⟩) (fun a ha => by rw [h5] at ha; rw [g (C + 3) a (by omega) (by omega) (by omega)]; exact hP.2.2.2.2.2.2.2.2.2.2.2 a ha) h35
  exact this
theorem PI_array (hC : C = 177 ∨ C = 186) (hP : PI C y r) (hN : r 170 14 = (N : Int)) (hk : r 170 4 = 1) (h35 : r 170 35 = -1) (hd : DC r rd N 1 (r C 5)) (hl : r C 5 < 6) (hf : ∀ k j : Nat, ¬ (k = 170 ∧ 3 ≤ j ∧ j ≤ 8) → ¬ (k = C ∧ j = 5) → ¬ (k = C + 3 ∧ (j : Int) = r C 5) → r2 k j = rd k j) (hv : r2 C 5 = r C 5 + 1) (hz : 1 ≤ r2 (C + 3) (r C 5).toNat ∧ r2 (C + 3) (r C 5).toNat ≤ 64) (hL : LX r2) (hfr : r 170 5 ≤ r2 170 5) : PI C (ya y (ga y + 1)) r2 := by
  obtain ⟨d1, d2, d3, d4, d5, d6, d7, d8⟩ := hd
  have hlt := LX_lt hP (by omega)
  have hx := LX_nums hP
  have g : ∀ k j : Nat, ¬ (k = 170 ∧ (3 ≤ j ∧ j ≤ 8 ∨ j = 14)) → ¬ (172 ≤ k ∧ k ≤ 176 ∧ j = N) → ¬ (k = C ∧ j = 5) → ¬ (k = C + 3 ∧ (j : Int) = r C 5) → r2 k j = r k j := fun k j e1 e2 e3 e4 => (hf k j (by omega) e3 e4).trans (d1 k j (by omega) e2)
  have hc4 := hP.2.2.2.1
  have e4 : r2 174 N = 1 := (hf 174 N (by omega) (by omega) (by omega)).trans d6
  have e5 : r2 175 N = r C 5 := (hf 175 N (by omega) (by omega) (by omega)).trans d7
  have e2 : r2 172 N = r 170 5 := (hf 172 N (by omega) (by omega) (by omega)).trans d4
  have e3 : r2 173 N = r 170 6 := (hf 173 N (by omega) (by omega) (by omega)).trans d5
  have en : r2 170 14 = (N : Int) + 1 := (hf 170 14 (by omega) (by omega) (by omega)).trans d3
  have hga := hP.2.2.2.2.1.2
  have h9 : r2 C 9 = r C 9 := g C 9 (by omega) (by omega) (by omega) (by omega)
  have hq := hP.2.2.2.2.2.1
  have g4 : r2 C 4 = r C 4 := g C 4 (by omega) (by omega) (by omega) (by omega)
  have g6 : r2 C 6 = r C 6 := g C 6 (by omega) (by omega) (by omega) (by omega)
  have g7 : r2 C 7 = r C 7 := g C 7 (by omega) (by omega) (by omega) (by omega)
  have g8 : r2 C 8 = r C 8 := g C 8 (by omega) (by omega) (by omega) (by omega)
  unfold CT at hc4
  have key : CT C r2 := by
    unfold CT
    omega
  refine PI_decl (na := ga y + 1) (y := y) hC hP hN (fun k j e1 e2 e3 e4 e5 => g k j (by omega) e2 (by omega) e4) hL hfr en key (by rw [e2, e3, e4, e5]; omega) (by unfold NW; rw [e4, e5]; omega) (by omega) (by omega) (by unfold H35; rw [g 170 35 (by omega) (by omega) (by omega) (by omega), h9]; omega) (by unfold N1; rw [e4, e5]; exact ⟨fun q => by omega, fun q => absurd q (by omega), fun q => absurd q (by omega)⟩) (fun a ha => ?_) h35
  by_cases e : (a : Int) = r C 5
  · rw [show a = (r C 5).toNat by omega]; exact hz
  · rw [g (C + 3) a (by omega) (by omega) (by omega) (by omega)]
    exact hP.2.2.2.2.2.2.2.2.2.2.2 a (by omega)
end PORT
