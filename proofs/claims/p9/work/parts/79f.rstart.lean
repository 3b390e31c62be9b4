/-! The head of a proc or fun. -/
theorem RQ_start {C mr N kd : Nat} {y : gH} {r1 rd r2 : tab} (hC : C = 177 ∨ C = 186) (hP : PI C y r1) (h35 : r1 170 35 = -1) (hN : r1 170 14 = (N : Int)) (hk : r1 170 4 = 1) (hd : DC r1 rd N ((kd : Int) + 3) (gn y : Int)) (hkd : kd = 2 ∨ kd = 3) (hlim : r1 C 9 < 12) (hf : ∀ k j, ¬ (k = 170 ∧ (15 ≤ j ∧ j ≤ 16 ∨ 35 ≤ j ∧ j ≤ 37)) → ¬ ((k = 201 ∨ k = 202) ∧ j = gn y) → ¬ (k = C ∧ j = 9) → r2 k j = rd k j) (h9 : r2 C 9 = (gn y : Int) + 1) (h35b : r2 170 35 = (gn y : Int)) (h16 : r2 170 16 = r1 170 16 + 1) (h201 : r2 201 (gn y) = 0) (h202 : r2 202 (gn y) = r1 C 4) (hn : r1 C 1 ≤ 12 * r1 170 5 ∧ (mr : Int) ≤ r1 C 1 ∧ 0 ≤ r1 C 3 ∧ r1 C 3 ≤ r1 C 1 ∧ 0 ≤ r1 170 16 ∧ r1 170 16 ≤ r1 170 5 ∧ 0 ≤ r1 C 10 ∧ r1 C 10 ≤ r1 170 5 ∧ 3 * (gk y (gn y) : Int) ≤ r1 170 5 ∧ 1 ≤ r1 170 5) (hko : ∀ i j, i ≤ j → j ≤ gn y → gk y i ≤ gk y j) (hEV : r1 170 21 < 0 → EV (ga y) (r1 (C + 1)) mr (gn y) (ge y) (gw y) (gd y)) : RQ C y mr N kd r2 ∧ RQp C y r2 := by
  obtain ⟨d1, d2, d3, d4, d5, d6, d7, d8⟩ := hd
  have hlt := LX_lt hP (by omega)
  have hx := LX_nums hP
  have g : ∀ k j, ¬ (k = 170 ∧ (3 ≤ j ∧ j ≤ 7 ∨ 14 ≤ j ∧ j ≤ 16 ∨ 35 ≤ j ∧ j ≤ 37)) → ¬ (172 ≤ k ∧ k ≤ 176 ∧ j = N) → ¬ (k = C ∧ j = 9) → ¬ ((k = 201 ∨ k = 202) ∧ j = gn y) → r2 k j = r1 k j := fun k j e1 e2 e3 e4 => (hf k j (by omega) e4 e3).trans (d1 k j (by omega) e2)
  have e4 : r2 174 N = (kd : Int) + 3 := (hf 174 N (by omega) (by omega) (by omega)).trans d6
  have e5 : r2 175 N = (gn y : Int) := (hf 175 N (by omega) (by omega) (by omega)).trans d7
  have e2 : r2 172 N = r1 170 5 := (hf 172 N (by omega) (by omega) (by omega)).trans d4
  have e3 : r2 173 N = r1 170 6 := (hf 173 N (by omega) (by omega) (by omega)).trans d5
  have en : r2 170 14 = (N : Int) + 1 := (hf 170 14 (by omega) (by omega) (by omega)).trans d3
  have f5 : r2 170 5 = rd 170 5 := hf 170 5 (by omega) (by omega) (by omega)
  have h19 : r1 C 9 = (gn y : Int) := by rcases hP.2.2.2.2.2.1 with h | h <;> omega
  have g4 : r2 C 4 = r1 C 4 := g C 4 (by omega) (by omega) (by omega) (by omega)
  have g5 : r2 C 5 = r1 C 5 := g C 5 (by omega) (by omega) (by omega) (by omega)
  have g6 : r2 C 6 = r1 C 6 := g C 6 (by omega) (by omega) (by omega) (by omega)
  have g7 : r2 C 7 = r1 C 7 := g C 7 (by omega) (by omega) (by omega) (by omega)
  have g8 : r2 C 8 = r1 C 8 := g C 8 (by omega) (by omega) (by omega) (by omega)
  have hga := hP.2.2.2.2.1.2
  have hct := hP.2.2.2.1
  have hLX : LX r2 := LX_at d2 fun j _ _ => hf 170 j (by omega) (by omega) (by omega)
  have key : CT C r2 := by unfold CT at hct ⊢; omega
  have hn0 := (NM_of hP).1
  have hPI : PI C (ya y (ga y)) r2 := PI_decl (na := ga y) (y := y) hC hP hN (fun k j e1 e2 e3 e4 e5 => g k j (by omega) e2 (by omega) (by omega)) hLX (by omega) en key (by rw [e2, e3, e4, e5]; omega) (by unfold NW; rw [e4, e5]; omega) (g5.trans hga) (by omega) (.inr ⟨h35b, h9⟩) (by unfold N1; rw [e4, e5, h35b]; exact ⟨fun q => absurd q (by omega), fun _ => .inl rfl, fun _ => .inl rfl⟩) (fun a ha => by rw [g5] at ha; rw [g (C + 3) a (by omega) (by omega) (by omega) (by omega)]; exact hP.2.2.2.2.2.2.2.2.2.2.2 a ha) h35
  have hnn : ∀ k : Nat, k < N → 0 ≤ r1 175 k := fun k hk => ((NM_of hP).2.2 k (by omega)).2.2.2.2.2.1
  have hcode : ∀ p, r2 (C + 1) p = r1 (C + 1) p := fun p => g (C + 1) p (by omega) (by omega) (by omega) (by omega)
  have g21 : r2 170 21 = r1 170 21 := g 170 21 (by omega) (by omega) (by omega) (by omega)
  have g1 : r2 C 1 = r1 C 1 := g C 1 (by omega) (by omega) (by omega) (by omega)
  have g3 : r2 C 3 = r1 C 3 := g C 3 (by omega) (by omega) (by omega) (by omega)
  have g10 : r2 C 10 = r1 C 10 := g C 10 (by omega) (by omega) (by omega) (by omega)
  have hC4 := PI_C4 hP
  refine ⟨⟨hPI, h35b, ⟨fun k hk => ?_, e4, e5, by omega⟩, by unfold RQn; omega, hko, fun hp => EV_agr (fun p _ => hcode p) (hEV (by omega))⟩, by unfold RQp; omega⟩
  have a1 := g 174 k (by omega) (by omega) (by omega) (by omega)
  have a2 := g 175 k (by omega) (by omega) (by omega) (by omega)
  have a3 := hnn k hk
  have a4 : ¬ r1 175 k = r1 170 35 := by omega
  have a5 := hP.2.2.2.2.2.2.2.2.2.2.1 k (by omega)
  rw [a1, a2]
  exact ⟨fun q => (a5.2.1 q).resolve_left a4, fun q => (a5.2.2 q).resolve_left a4⟩
