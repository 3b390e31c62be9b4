/-! What a text that was read has become. -/
def LK (C : Nat) (r : tab) : Prop := 0 ≤ r C 18 ∧ r C 18 ≤ 100 ∧ ∀ i : Nat, (i : Int) < r C 18 → 0 ≤ r (C + 5) i ∧ r (C + 5) i ≤ r (C + 6) i ∧ r (C + 6) i ≤ 2000 ∧ (r (C + 7) i = 0 ∧ 0 ≤ r (C + 8) i ∧ r (C + 8) i < 24 ∨ r (C + 7) i = 1 ∧ 0 ≤ r (C + 8) i ∧ r (C + 8) i < r C 5)
def CW (C : Nat) (r : tab) : Prop := (∃ (F : Ph) (w0 na st : Nat), (∀ p h w x, F p h w x → inst na (r (C + 1)) F p h w x) ∧ F st 0 w0 (0, 12, 1000, 0, fun n => n < 699) ∧ r C 2 = (st : Int) ∧ r C 5 = (na : Int) ∧ na ≤ 6 ∧ ∀ a : Nat, a < na → 1 ≤ r (C + 3) a ∧ r (C + 3) a ≤ 64) ∧ (0 ≤ r C 7 ∧ r C 7 ≤ 4 ∧ 0 ≤ r C 8 ∧ r C 8 ≤ 4) ∧ LK C r
def FR0 (C : Nat) (r r2 : tab) : Prop := (∀ k j, ¬ PS C k j → ¬ (k = 170 ∧ (j = 1 ∨ j = 19)) → r2 k j = r k j) ∧ r2 170 1 = 0
def RP (C : Nat) (s : rS) : rS → hm_Out → Prop := fun s2 out => ∃ b : Int, out = some (some (vi b)) ∧ s2.2 = s.2 ∧ RF s2.1 ∧ FR0 C s.1 s2.1 ∧ (b = 0 ∨ b = 1 ∧ CW C s2.1)
section CWS
variable {C mr N : Nat} {y : gH} {r r1 r2 : tab}
theorem FR0_FR (hC : C = 177 ∨ C = 186) (h : FR0 C r r1) (k : FR C r1 r2) : FR0 C r r2 := ⟨fun a b h1 h2 => (k a b h1).trans (h.1 a b h1 h2), (k 170 1 (by unfold PS; omega)).trans h.2⟩
theorem LK_at (h : LK C r) (e : ∀ k j, (k = C ∧ (j = 5 ∨ j = 18) ∨ C + 5 ≤ k ∧ k ≤ C + 8) → r2 k j = r k j) : LK C r2 := by
  obtain ⟨h1, h2, h3⟩ := h
  refine ⟨by rw [e C 18 (by omega)]; exact h1, by rw [e C 18 (by omega)]; exact h2, fun i hi => ?_⟩
  rw [e C 18 (by omega)] at hi
  rw [e (C + 5) i (by omega), e (C + 6) i (by omega), e (C + 7) i (by omega), e (C + 8) i (by omega), e C 5 (by omega)]
  exact h3 i hi
theorem LK_BX {nr : Nat} (hC : C = 177 ∨ C = 186) (h : LK C r) (hb : BX C nr r r2) : LK C r2 := LK_at h fun k j hk => hb.1 k j (by unfold SS; omega)
theorem DI_fr (hC : C = 177 ∨ C = 186) (h : DI C y mr r) (hf : ∀ k j, ¬ (C + 4 ≤ k ∧ k ≤ C + 8) → ¬ (k = C ∧ (j = 2 ∨ j = 18)) → r2 k j = r k j) : DI C y mr r2 := by
  obtain ⟨⟨p1, p2, p3, p4, q0, q1, q2, q3, q4, q5, q6, q7⟩, h2, h3, h4, h5⟩ := h
  have f1 : ∀ k j, k < 177 → r2 k j = r k j := fun k j hk => hf k j (by omega) (by omega)
  have f2 : ∀ k j, 195 ≤ k → r2 k j = r k j := fun k j hk => hf k j (by omega) (by omega)
  have f3 : ∀ j, ¬ (j = 2 ∨ j = 18) → r2 C j = r C j := fun j hj => hf C j (by omega) (by omega)
  have f4 : ∀ j, r2 (C + 1) j = r (C + 1) j := fun j => hf (C + 1) j (by omega) (by omega)
  have f5 : ∀ j, r2 (C + 3) j = r (C + 3) j := fun j => hf (C + 3) j (by omega) (by omega)
  clear hf
  have c1 := f3 1 (by decide)
  have c3 := f3 3 (by decide)
  have c4 := f3 4 (by decide)
  have c5 := f3 5 (by decide)
  have c6 := f3 6 (by decide)
  have c7 := f3 7 (by decide)
  have c8 := f3 8 (by decide)
  have c9 := f3 9 (by decide)
  have c10 := f3 10 (by decide)
  refine ⟨⟨(f1 170 19 (by decide)).trans p1, LX_at p2 fun j _ _ => f1 170 j (by decide), NM_at p3 (f1 170 14 (by decide)) fun k j _ hk => f1 k j (by omega), ?_, ⟨q0.1, c5.trans q0.2⟩, by rw [f1 170 35 (by decide), c9]; exact q1, q2, by rw [f1 170 5 (by decide)]; exact q3, trivial, fun i hi => ?_, fun k hk => ?_, fun a ha => ?_⟩, by rw [f1 170 35 (by decide)]; exact h2, by rw [c1, c3, c10, f1 170 5 (by decide), f1 170 16 (by decide)]; exact h3, h4, fun hp => ?_⟩
  · unfold CT at p4 ⊢
    rw [c4, c5, c6, c7, c8, c9, f1 170 14 (by decide)]
    exact p4
  · have := q5 i hi
    unfold R1 at this ⊢
    rw [f2 199 i (by decide), f2 200 i (by decide), f2 201 i (by decide), f2 202 i (by decide)]
    exact this
  · rw [f1 170 14 (by decide)] at hk
    have := q6 k hk
    unfold N1 at this ⊢
    rw [f1 174 k (by decide), f1 175 k (by decide), c5, f1 170 35 (by decide)]
    exact this
  · rw [c5] at ha
    rw [f5]
    exact q7 a ha
  · rw [f1 170 21 (by decide)] at hp
    exact EV_agr (fun p _ => f4 p) (h5 hp)
/-- no declarations yet -/
theorem DI_init (h19 : r 170 19 = (C : Int)) (hL : LX r) (h14 : r 170 14 = 0) (h4 : r C 4 = 0) (h5 : r C 5 = 0) (h6 : r C 6 = 0) (h7 : r C 7 = 0) (h8 : r C 8 = 0) (h9 : r C 9 = 0) (h35 : r 170 35 = -1) (h1 : r C 1 = 0) (h3 : r C 3 = 0) (h10 : r C 10 = 0) (h16 : r 170 16 = 1) : DI C (0, 0, 0, fun _ => 0, fun _ => 0, fun _ => (0, 0, 0, 0, fun _ => False), fun _ => 0) 0 r := by
  have hf : 0 ≤ r 170 5 := hL.1
  refine ⟨⟨h19, hL, ⟨by omega, by omega, fun k hk => absurd hk (by omega)⟩, by unfold CT; omega, ⟨by decide, h5⟩, .inl ⟨h35, h9⟩, by decide, hf, trivial, fun i hi => absurd hi (by show ¬ i < 0; omega), fun k hk => absurd hk (by omega), fun a ha => absurd ha (by omega)⟩, h35, ?_, fun _ _ _ _ => Nat.le_refl _, fun _ => EV_zero⟩
  show r C 1 ≤ 12 * r 170 5 ∧ ((0 : Nat) : Int) ≤ r C 1 ∧ 0 ≤ r C 3 ∧ r C 3 ≤ r C 1 ∧ 0 ≤ r 170 16 ∧ r 170 16 ≤ r 170 5 + 1 ∧ 0 ≤ r C 10 ∧ r C 10 ≤ r 170 5 ∧ 3 * ((0 : Nat) : Int) ≤ r 170 5
  omega
theorem CW_of {a m k1 : Nat} (hP : PI C y r) (hmb : MB (gn y) (r 170 26)) (hEV : EV (ga y) (r (C + 1)) mr (gn y) (ge y) (gw y) (gd y)) (hma : mr ≤ a) (ham : a ≤ m) (hSG : SG (ga y) (r (C + 1)) (gG y) a m 0 0 ((r 170 5).toNat - 1) (gn y) (SZ (gk y) (r 170 26).toNat (gk y (gn y)) k1)) (he : r (C + 1) m = 21) (hm : m + 1 ≤ 24000) (hko : ∀ i j, i ≤ j → j ≤ gn y → gk y i ≤ gk y j) (hk : gk y (gn y) ≤ k1) (hk1 : 3 * (k1 : Int) ≤ 2000) (h2 : r C 2 = (a : Int)) (hL : LK C r) : CW C r := by
  have hx := LX_nums hP
  have hnr := nr_of hP
  obtain ⟨cm, c1, c2, c3⟩ := MB_lt hmb hnr
  have hct := hP.2.2.2.1
  unfold CT at hct
  have hga := hP.2.2.2.2.1.2
  have hsz := hP.2.2.2.2.2.2.2.2.2.2.2
  obtain ⟨F, w0, h3, h4⟩ := EV_main (y := (0, 12, 1000, 0, fun n => n < 699)) hEV hma ham hSG he hm rfl ⟨by show (r 170 5).toNat - 1 ≤ 2 * 1000; omega, hnr, by
    rintro x (⟨e1, e2⟩ | ⟨i, e1, e2, e3⟩)
    · show x < 699
      omega
    · rw [c1, Int.toNat_natCast] at e1
      have := c3 i e1
      have := hko (i + 1) (gn y) (by omega) (Nat.le_refl _)
      show x < 699
      omega⟩
  exact ⟨⟨F, w0, ga y, a, h3, h4, h2, hga, by omega, fun a ha => hsz a (by omega)⟩, by omega, hL⟩
theorem LK_step {l : Nat} {a b c e : Int} (hC : C = 177 ∨ C = 186) (h : LK C r) (hl : r C 18 = (l : Int)) (hl2 : l < 100) (ha : 0 ≤ a ∧ a ≤ b ∧ b ≤ 2000) (hc : c = 0 ∧ 0 ≤ e ∧ e < 24 ∨ c = 1 ∧ 0 ≤ e ∧ e < r C 5) (hf : ∀ k j, ¬ (C + 5 ≤ k ∧ k ≤ C + 8 ∧ j = l) → ¬ (k = C ∧ j = 18) → r2 k j = r k j) (h5 : r2 (C + 5) l = a) (h6 : r2 (C + 6) l = b) (h7 : r2 (C + 7) l = c) (h8 : r2 (C + 8) l = e) (h18 : r2 C 18 = (l : Int) + 1) : LK C r2 := by
  obtain ⟨g1, g2, g3⟩ := h
  have e5 : r2 C 5 = r C 5 := hf C 5 (by omega) (by omega)
  refine ⟨by omega, by omega, fun i hi => ?_⟩
  by_cases ei : i = l
  · subst ei
    rw [h5, h6, h7, h8, e5]
    exact ⟨ha.1, ha.2.1, ha.2.2, hc⟩
  · rw [hf (C + 5) i (by omega) (by omega), hf (C + 6) i (by omega) (by omega), hf (C + 7) i (by omega) (by omega), hf (C + 8) i (by omega) (by omega), e5]
    exact g3 i (by omega)
end CWS
