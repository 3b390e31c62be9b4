/-! While a proc or fun is read. -/
def pk (p : Int) (kd : Nat) : Prop := p = 1 ∧ kd = 2 ∨ p = 0 ∧ kd = 3
def RQn (C : Nat) (y : gH) (mr : Nat) (t : tab) : Prop := t C 1 ≤ 12 * t 170 5 ∧ (mr : Int) ≤ t C 1 ∧ 0 ≤ t C 3 ∧ t C 3 ≤ t C 1 ∧ 0 ≤ t 170 16 ∧ t 170 16 ≤ t 170 5 + 1 ∧ 0 ≤ t C 10 ∧ t C 10 ≤ t 170 5 ∧ 3 * (gk y (gn y) : Int) ≤ t 170 5 ∧ 1 ≤ t 170 5
def RQp (C : Nat) (y : gH) (t : tab) : Prop := 0 ≤ t 201 (gn y) ∧ t 201 (gn y) ≤ 4 ∧ 0 ≤ t 202 (gn y) ∧ t 202 (gn y) + t 201 (gn y) = t C 4
def RQ (C : Nat) (y : gH) (mr N kd : Nat) (t : tab) : Prop := PI C y t ∧ t 170 35 = (gn y : Int) ∧ NO y N kd t ∧ RQn C y mr t ∧ (∀ i j, i ≤ j → j ≤ gn y → gk y i ≤ gk y j) ∧ (t 170 21 < 0 → EV (ga y) (t (C + 1)) mr (gn y) (ge y) (gw y) (gd y))
/-- behind BACK -/
def RE (C : Nat) (y : gH) (mr e m k1 N kd : Nat) (t : tab) : Prop := PI C y t ∧ t 170 35 = (gn y : Int) ∧ NO y N kd t ∧ (t 200 (gn y) = (e : Int) ∧ 0 ≤ t 201 (gn y) ∧ t 201 (gn y) ≤ 4 ∧ 0 ≤ t 202 (gn y) ∧ t 202 (gn y) + t 201 (gn y) ≤ 24 ∧ mr ≤ e ∧ e ≤ m ∧ t C 1 = ((m + 1 : Nat) : Int) ∧ t (C + 1) m = 12) ∧ (t C 1 ≤ 12 * t 170 5 ∧ 0 ≤ t C 3 ∧ t C 3 ≤ t C 1 ∧ 0 ≤ t 170 16 ∧ t 170 16 ≤ t 170 5 + 1 ∧ 0 ≤ t C 10 ∧ t C 10 ≤ t 170 5 ∧ gk y (gn y) ≤ k1 ∧ 3 * (k1 : Int) ≤ t 170 5 ∧ 1 ≤ t 170 5) ∧ (∀ i j, i ≤ j → j ≤ gn y → gk y i ≤ gk y j) ∧ (t 170 21 < 0 → EV (ga y) (t (C + 1)) mr (gn y) (ge y) (gw y) (gd y)) ∧ (t 170 21 < 0 → SG (ga y) (t (C + 1)) (gG y) e m 0 (kd - 2) ((t 170 5).toNat - 1) (gn y) (SZ (gk y) (t 170 26).toNat (gk y (gn y)) k1)) ∧ MB (gn y) (t 170 26)
theorem RE_22 {C mr e m k1 N kd : Nat} {y : gH} {r r2 : tab} (hC : C = 177 ∨ C = 186) (h : RE C y mr e m k1 N kd r) (hu : U1 170 22 r r2) : RE C y mr e m k1 N kd r2 := by
  obtain ⟨h1, h2, h3, h4, h5, h6, h7, h8, h9⟩ := h
  have hk : KM r r2 := fun k j hn => hu k j (by omega)
  have hb : BX C (gn y) r r2 := BX_KM hC h1 hk (by rw [hu 170 26 (by omega)]; exact ⟨trivial, id⟩)
  have e1 : ∀ k j, ¬ (k = 170) → r2 k j = r k j := fun k j hn => hu k j (by omega)
  refine ⟨PI_BX hC h1 hb, by rw [hu 170 35 (by omega)]; exact h2, NO_BX hC h3 hb, ?_, ?_, h6, fun hp => ?_, fun hp => ?_, by rw [hu 170 26 (by omega)]; exact h9⟩
  · rw [e1 200 _ (by omega), e1 201 _ (by omega), e1 202 _ (by omega), e1 C 1 (by omega), e1 (C + 1) m (by omega)]
    exact h4
  · rw [e1 C 1 (by omega), e1 C 3 (by omega), e1 C 10 (by omega), hu 170 5 (by omega), hu 170 16 (by omega)]
    exact h5
  · rw [hu 170 21 (by omega)] at hp
    exact EV_agr (fun p _ => e1 (C + 1) p (by omega)) (h7 hp)
  · rw [hu 170 21 (by omega)] at hp
    rw [hu 170 5 (by omega), hu 170 26 (by omega)]
    exact SG_agr (fun p _ _ => e1 (C + 1) p (by omega)) (h8 hp)
theorem RQ_tab {C mr N kd : Nat} {y : gH} {r r2 : tab} (hC : C = 177 ∨ C = 186) (h : RQ C y mr N kd r) (hf : ∀ k j, ¬ (195 ≤ k ∧ k ≤ 202 ∧ gn y ≤ j) → r2 k j = r k j) : RQ C y mr N kd r2 := by
  obtain ⟨h1, h2, h3, h4, h5, h6⟩ := h
  have g : ∀ k j, ¬ (195 ≤ k ∧ k ≤ 202) → r2 k j = r k j := fun k j hn => hf k j (by omega)
  refine ⟨PI_tab hC h1 hf, (g _ _ (by omega)).trans h2, NO_at h3 (by rw [g 170 14 (by omega)]; exact h3.2.2.2) (fun k _ => g _ _ (by omega)) (fun k _ => g _ _ (by omega)), ?_, h5, fun hp => ?_⟩
  · unfold RQn at h4 ⊢
    rw [g C 1 (by omega), g C 3 (by omega), g C 10 (by omega), g 170 5 (by omega), g 170 16 (by omega)]
    exact h4
  · rw [g 170 21 (by omega)] at hp
    exact EV_agr (fun p _ => g (C + 1) p (by omega)) (h6 hp)
/-- steps that keep the code, with a token further on -/
theorem RQ_BX {C mr N kd : Nat} {y : gH} {r r2 : tab} (hC : C = 177 ∨ C = 186) (h : RQ C y mr N kd r) (hb : BX C (gn y) r r2) (hn : RQn C y mr r2) : RQ C y mr N kd r2 := by
  obtain ⟨h1, h2, h3, h4, h5, h6⟩ := h
  have h42 := h4.2.1
  refine ⟨PI_BX hC h1 hb, (hb.1 170 35 (by unfold SS; omega)).trans h2, NO_BX hC h3 hb, hn, h5, fun hp => EV_agr (fun p hp2 => BX_code hC hb (by omega)) (h6 (BX_po hb hp))⟩
theorem PI_C4 {C : Nat} {y : gH} {r : tab} (h : PI C y r) : 0 ≤ r C 4 ∧ r C 4 ≤ 24 := h.2.2.2.1.1
