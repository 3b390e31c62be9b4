/-! The end of a proc or fun. -/
/-- the names before a proc's or fun's own, and that one -/
def NO (y : gH) (N kd : Nat) (r : tab) : Prop := (∀ k : Nat, k < N → (r 174 k = 5 → ∃ i : Nat, i < gn y ∧ r 175 k = (i : Int) ∧ fk (gd y i) = 2) ∧ (r 174 k = 6 → ∃ i : Nat, i < gn y ∧ r 175 k = (i : Int) ∧ fk (gd y i) = 3)) ∧ r 174 N = (kd : Int) + 3 ∧ r 175 N = (gn y : Int) ∧ (N : Int) + 1 ≤ r 170 14
theorem NO_at {y : gH} {N kd : Nat} {r r2 : tab} (h : NO y N kd r) (h14 : (N : Int) + 1 ≤ r2 170 14) (e4 : ∀ k, k ≤ N → r2 174 k = r 174 k) (e5 : ∀ k, k ≤ N → r2 175 k = r 175 k) : NO y N kd r2 := by
  obtain ⟨h1, h2, h3, h4⟩ := h
  refine ⟨fun k hk => ?_, by rw [e4 N (Nat.le_refl _)]; exact h2, by rw [e5 N (Nat.le_refl _)]; exact h3, h14⟩
  rw [e4 k (by omega), e5 k (by omega)]
  exact h1 k hk
theorem NO_BX {C nr N kd : Nat} {y : gH} {r r2 : tab} (hC : C = 177 ∨ C = 186) (h : NO y N kd r) (hb : BX C nr r r2) : NO y N kd r2 := by
  have h4 := h.2.2.2
  have h6 := hb.2.2.2.2.2.1
  exact NO_at h (by omega) (fun k hk => hb.1 174 k (by unfold SS; omega)) (fun k hk => hb.1 175 k (by unfold SS; omega))
theorem DI_end {C N kd m e mr k1 : Nat} {y : gH} {t r2 : tab} (hC : C = 177 ∨ C = 186) (hP : PI C y t) (hmb : MB (gn y) (t 170 26)) (h35 : t 170 35 = (gn y : Int)) (hfrm : ∀ k j, ¬ (195 ≤ k ∧ k ≤ 199 ∧ j = gn y) → ¬ (k = 170 ∧ (j = 14 ∨ j = 15 ∨ j = 35 ∨ j = 37)) → r2 k j = t k j) (h199 : ∀ cm : Nat, t 170 26 = (cm : Int) → cm < 4096 → r2 199 (gn y) = ((cm ||| 2 ^ gn y : Nat) : Int)) (h14 : r2 170 14 = (N : Int) + 1) (h35b : r2 170 35 = -1) (hkd : kd = 2 ∨ kd = 3) (hno : NO y N kd t) (he : t 200 (gn y) = (e : Int)) (hpar : 0 ≤ t 201 (gn y) ∧ t 201 (gn y) ≤ 4 ∧ 0 ≤ t 202 (gn y) ∧ t 202 (gn y) + t 201 (gn y) ≤ 24) (hmr : mr ≤ e) (hem : e ≤ m) (hm : t C 1 = ((m + 1 : Nat) : Int)) (hbk : t (C + 1) m = 12) (hnum : t C 1 ≤ 12 * t 170 5 ∧ 0 ≤ t C 3 ∧ t C 3 ≤ t C 1 ∧ 0 ≤ t 170 16 ∧ t 170 16 ≤ t 170 5 + 1 ∧ 0 ≤ t C 10 ∧ t C 10 ≤ t 170 5 ∧ gk y (gn y) ≤ k1 ∧ 3 * (k1 : Int) ≤ t 170 5 ∧ 1 ≤ t 170 5) (hko : ∀ i j, i ≤ j → j ≤ gn y → gk y i ≤ gk y j) (hEV : t 170 21 < 0 → EV (ga y) (t (C + 1)) mr (gn y) (ge y) (gw y) (gd y)) (hSG : t 170 21 < 0 → SG (ga y) (t (C + 1)) (gG y) e m 0 (kd - 2) ((t 170 5).toNat - 1) (gn y) (SZ (gk y) (t 170 26).toNat (gk y (gn y)) k1)) : ∃ y2 : gH, DI C y2 (m + 1) r2 := by
  have hnr := nr_of hP
  obtain ⟨cm, c1, c2, c3⟩ := MB_lt hmb hnr
  have c4 := h199 cm c1 c2
  obtain ⟨p1, p2, p3, p4, q0, q1, q2, q3, q4, q5, q6, q7⟩ := id hP
  have hx := LX_nums hP
  have h9 : t C 9 = (gn y : Int) + 1 := by rcases q1 with q1 | q1 <;> omega
  have g12 : gn y < 12 := by unfold CT at p4; omega
  clear q1
  let ko2 : Nat → Nat := gup (gk y) (gn y + 1) k1
  have kz : ∀ i, i ≤ gn y → ko2 i = gk y i := fun i hi => gup_ne (by omega)
  have kz1 : ko2 (gn y + 1) = k1 := gup_self
  let M : Nat := cm ||| 2 ^ gn y
  have hMb : ∀ j, M.testBit j = true → j ≤ gn y := by
    intro j hj
    have hj2 : (cm ||| 2 ^ gn y).testBit j = true := hj
    rw [Nat.testBit_or, Bool.or_eq_true, Nat.testBit_two_pow] at hj2
    rcases hj2 with hj2 | hj2
    · have := c3 j hj2; omega
    · have := of_decide_eq_true hj2; omega
  have hMs : M.testBit (gn y) = true := by
    show (cm ||| 2 ^ gn y).testBit (gn y) = true
    rw [Nat.testBit_or, Nat.testBit_two_pow]
    simp
  have hMc : ∀ j, cm.testBit j = true → M.testBit j = true := by
    intro j hj
    show (cm ||| 2 ^ gn y).testBit j = true
    rw [Nat.testBit_or, hj]
    rfl
  have zz : ∀ x, SZ (gk y) cm (gk y (gn y)) k1 x → ZM ko2 M x := by
    rintro x (⟨a1, a2⟩ | ⟨j, a1, a2, a3⟩)
    · exact ⟨gn y, hMs, by rw [kz (gn y) (Nat.le_refl _)]; exact a1, by rw [kz1]; exact a2⟩
    · have a4 := c3 j a1
      exact ⟨j, hMc j a1, by rw [kz j (by omega)]; exact a2, by rw [kz (j + 1) (by omega)]; exact a3⟩
  let dn : fR := (kd, gn y, (t 170 5).toNat / 2, 0, ZM ko2 M)
  have hw : ∃ w0 : Nat, t 170 21 < 0 → EV (ga y) (t (C + 1)) (m + 1) (gn y + 1) (gup (ge y) (gn y) e) (gup (gw y) (gn y) w0) (gup (gd y) (gn y) dn) := by
    by_cases hp : t 170 21 < 0
    · have hs := hSG hp
      rw [c1, Int.toNat_natCast] at hs
      obtain ⟨w0, hw⟩ := EV_add (y := dn) (hEV hp) hmr hem hs hbk (by omega) (by show 2 ≤ kd; omega) (by show kd - 2 + 2 = kd; omega) ⟨by show (t 170 5).toNat - 1 ≤ 2 * ((t 170 5).toNat / 2); omega, Nat.le_refl _, zz⟩
      exact ⟨w0, fun _ => hw⟩
    · exact ⟨0, fun h => absurd h hp⟩
  obtain ⟨w0, hw⟩ := hw
  have f : ∀ k j, ¬ (195 ≤ k ∧ k ≤ 199) → ¬ (k = 170 ∧ (j = 14 ∨ j = 15 ∨ j = 35 ∨ j = 37)) → r2 k j = t k j := fun k j e1 e2 => hfrm k j (by omega) e2
  have f5 : r2 170 5 = t 170 5 := f 170 5 (by omega) (by omega)
  have f26 : r2 170 26 = t 170 26 := f 170 26 (by omega) (by omega)
  have hn14 := hno.2.2.2
  refine ⟨(gn y + 1, t 170 5, ga y, gup (ge y) (gn y) e, gup (gw y) (gn y) w0, gup (gd y) (gn y) dn, ko2), ⟨(f _ _ (by omega) (by omega)).trans p1, LX_at p2 (fun j _ _ => f _ _ (by omega) (by omega)), ⟨by omega, by have := p3.2.1; omega, fun k hk => ?_⟩, ?_, ⟨g12, (f _ _ (by omega) (by omega)).trans q0.2⟩, .inl ⟨h35b, by rw [f C 9 (by omega) (by omega), h9]; rfl⟩, by show 0 ≤ t 170 5; omega, by show t 170 5 ≤ r2 170 5; omega, trivial, fun i hi => ?_, fun k hk => ?_, fun a ha => ?_⟩, h35b, ?_, fun i j hij hj => ?_, fun hp => ?_⟩
  · rw [f 172 k (by omega) (by omega), f 173 k (by omega) (by omega), f 174 k (by omega) (by omega), f 175 k (by omega) (by omega)]
    exact p3.2.2 k (by omega)
  · unfold CT at p4 ⊢
    rw [f C 4 (by omega) (by omega), f C 5 (by omega) (by omega), f C 6 (by omega) (by omega), f C 7 (by omega) (by omega), f C 8 (by omega) (by omega), f C 9 (by omega) (by omega)]
    omega
  · by_cases ei : i = gn y
    · subst ei
      unfold R1
      show r2 200 (gn y) = ((gup (ge y) (gn y) e (gn y) : Nat) : Int) ∧ 0 ≤ r2 201 (gn y) ∧ r2 201 (gn y) ≤ 4 ∧ 0 ≤ r2 202 (gn y) ∧ r2 202 (gn y) + r2 201 (gn y) ≤ 24 ∧ frk (gup (gd y) (gn y) dn (gn y)) = gn y ∧ 2 ≤ fk (gup (gd y) (gn y) dn (gn y)) ∧ fk (gup (gd y) (gn y) dn (gn y)) ≤ 3 ∧ 2 * (frm (gup (gd y) (gn y) dn (gn y)) : Int) ≤ t 170 5 ∧ ∃ m : Nat, r2 199 (gn y) = (m : Int) ∧ (∀ j, m.testBit j = true → j ≤ gn y) ∧ ∀ x, fz (gup (gd y) (gn y) dn (gn y)) x → ZM ko2 m x
      rw [gup_self, gup_self, f 200 _ (by omega) (by omega), f 201 _ (by omega) (by omega), f 202 _ (by omega) (by omega)]
      exact ⟨he, hpar.1, hpar.2.1, hpar.2.2.1, hpar.2.2.2, rfl, by show 2 ≤ kd; omega, by show kd ≤ 3; omega, by show 2 * (((t 170 5).toNat / 2 : Nat) : Int) ≤ t 170 5; omega, M, c4, hMb, fun _ q => q⟩
    · have hi2 : i < gn y := by have : i < gn y + 1 := hi; omega
      have := q5 i hi2
      unfold R1 at this ⊢
      show r2 200 i = ((gup (ge y) (gn y) e i : Nat) : Int) ∧ 0 ≤ r2 201 i ∧ r2 201 i ≤ 4 ∧ 0 ≤ r2 202 i ∧ r2 202 i + r2 201 i ≤ 24 ∧ frk (gup (gd y) (gn y) dn i) = i ∧ 2 ≤ fk (gup (gd y) (gn y) dn i) ∧ fk (gup (gd y) (gn y) dn i) ≤ 3 ∧ 2 * (frm (gup (gd y) (gn y) dn i) : Int) ≤ t 170 5 ∧ ∃ m : Nat, r2 199 i = (m : Int) ∧ (∀ j, m.testBit j = true → j ≤ i) ∧ ∀ x, fz (gup (gd y) (gn y) dn i) x → ZM ko2 m x
      rw [gup_ne ei, gup_ne ei, f 200 _ (by omega) (by omega), f 201 _ (by omega) (by omega), f 202 _ (by omega) (by omega), hfrm 199 i (by omega) (by omega)]
      obtain ⟨a1, a2, a3, a4, a5, a6, a7, a8, a9, b, b1, b2, b3⟩ := this
      refine ⟨a1, a2, a3, a4, a5, a6, a7, a8, Int.le_trans a9 q3, b, b1, b2, fun x hx => ?_⟩
      obtain ⟨j, j1, j2, j3⟩ := b3 x hx
      have := b2 j j1
      exact ⟨j, j1, by rw [kz j (by omega)]; exact j2, by rw [kz (j + 1) (by omega)]; exact j3⟩
  · have hN := hno
    unfold N1
    show (r2 174 k = 1 → r2 175 k < r2 C 5) ∧ (r2 174 k = 5 → r2 175 k = r2 170 35 ∨ ∃ i : Nat, i < gn y + 1 ∧ r2 175 k = (i : Int) ∧ fk (gup (gd y) (gn y) dn i) = 2) ∧ (r2 174 k = 6 → r2 175 k = r2 170 35 ∨ ∃ i : Nat, i < gn y + 1 ∧ r2 175 k = (i : Int) ∧ fk (gup (gd y) (gn y) dn i) = 3)
    rw [f 174 k (by omega) (by omega), f 175 k (by omega) (by omega), f C 5 (by omega) (by omega)]
    have hk2 : (k : Int) < t 170 14 := by omega
    refine ⟨(q6 k hk2).1, fun e1 => .inr ?_, fun e1 => .inr ?_⟩
    · by_cases ek : k = N
      · subst ek
        have e2 := hno.2.1
        refine ⟨gn y, by omega, hno.2.2.1, ?_⟩
        rw [gup_self]
        show kd = 2
        omega
      · obtain ⟨i, i1, i2, i3⟩ := (hno.1 k (by omega)).1 e1
        exact ⟨i, by omega, i2, by rw [gup_ne (by omega)]; exact i3⟩
    · by_cases ek : k = N
      · subst ek
        have e2 := hno.2.1
        refine ⟨gn y, by omega, hno.2.2.1, ?_⟩
        rw [gup_self]
        show kd = 3
        omega
      · obtain ⟨i, i1, i2, i3⟩ := (hno.1 k (by omega)).2 e1
        exact ⟨i, by omega, i2, by rw [gup_ne (by omega)]; exact i3⟩
  · rw [f C 5 (by omega) (by omega)] at ha
    rw [f (C + 3) a (by omega) (by omega)]
    exact q7 a ha
  · show r2 C 1 ≤ 12 * r2 170 5 ∧ ((m + 1 : Nat) : Int) ≤ r2 C 1 ∧ 0 ≤ r2 C 3 ∧ r2 C 3 ≤ r2 C 1 ∧ 0 ≤ r2 170 16 ∧ r2 170 16 ≤ r2 170 5 + 1 ∧ 0 ≤ r2 C 10 ∧ r2 C 10 ≤ r2 170 5 ∧ 3 * (ko2 (gn y + 1) : Int) ≤ r2 170 5
    rw [kz1, f5, f C 1 (by omega) (by omega), f C 3 (by omega) (by omega), f 170 16 (by omega) (by omega), f C 10 (by omega) (by omega)]
    omega
  · show ko2 i ≤ ko2 j
    have hj2 : j ≤ gn y + 1 := hj
    by_cases ej : j = gn y + 1
    · by_cases ei : i = gn y + 1
      · rw [ei, ej]; exact Nat.le_refl _
      · rw [ej, kz1, kz i (by omega)]
        have := hko i (gn y) (by omega) (Nat.le_refl _)
        omega
    · rw [kz i (by omega), kz j (by omega)]
      exact hko i j hij (by omega)
  · rw [f 170 21 (by omega) (by omega)] at hp
    exact EV_agr (fun p _ => f (C + 1) p (by omega) (by omega)) (hw hp)
