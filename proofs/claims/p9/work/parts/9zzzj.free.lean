/-! Looking for another branch on the same line. -/
section FREEX
variable {r : tab} {y1 : Nat}
theorem im_5 : imi 5 2 = 3 ∧ imi 5 3 = 2 := by decide
theorem xc_b {a b : Nat} (ha : a < 700) (hb : b < 700) : imi (ipl (a : Int) (b : Int)) (b : Int) = (a : Int) ∧ imi (ipl (a : Int) (b : Int)) (a : Int) = (b : Int) := by
  rw [ipl_e (by omega), imi_e (by omega), imi_e (by omega)]
  omega
theorem xc_e {bs br : Nat} : phE (up2 r 208 bs (imi (r 208 bs) 1)) (br : Int) ((up2 r 208 bs (imi (r 208 bs) 1)) (220 + bs) ((imi (r 208 bs) 1).toNat)) = xct r bs br := by
  unfold xct pos poz
  rw [Int.toNat_natCast, show up2 r 208 bs (imi (r 208 bs) 1) (220 + bs) (imi (r 208 bs) 1).toNat = r (220 + bs) (imi (r 208 bs) 1).toNat from if_neg (by omega)]
theorem if_66 (h1 : y1 < 700) (h55 : r 170 55 ≤ 700) (hm : r 206 y1 = 2 ∨ r 206 y1 = 3) : ∀ (k y2 : Nat), r 170 55 ≤ (y2 : Int) + (k : Int) → (∃ y : Nat, y2 ≤ y ∧ (y : Int) < r 170 55 ∧ r 206 y = 5 - r 206 y1 ∧ r 207 y = r 207 y1 ∧ y ≠ y1 ∧ eG 21 [(y1 : Int), (y2 : Int)] r = some (some (1, up2 (if r 206 y1 = 2 then xct r y1 y else xct r y y1) 206 y 1))) ∨ (eG 21 [(y1 : Int), (y2 : Int)] r = some (some (0, r)) ∧ ∀ y : Nat, y2 ≤ y → (y : Int) < r 170 55 → r 206 y = 5 - r 206 y1 → r 207 y = r 207 y1 → y = y1)
  | 0, y2, hk => by
    right
    rw [eG_163_66]
    unfold eM163_66
    rw [if_pos (by omega)]
    exact ⟨rfl, fun y q1 q2 => by omega⟩
  | k + 1, y2, hk => by
    by_cases e : r 170 55 ≤ (y2 : Int)
    · right
      rw [eG_163_66]
      unfold eM163_66
      rw [if_pos e]
      exact ⟨rfl, fun y q1 q2 => by omega⟩
    have ih := if_66 h1 h55 hm k (y2 + 1) (by omega)
    have i5 : imi 5 (r 206 y1) = 5 - r 206 y1 := by
      rcases hm with q | q <;> rw [q]
      · exact im_5.1
      · exact im_5.2
    have skip : eG 21 [(y1 : Int), (y2 : Int)] r = eG 21 [(y1 : Int), ((y2 + 1 : Nat) : Int)] r → (¬ (r 206 y2 = 5 - r 206 y1 ∧ r 207 y2 = r 207 y1 ∧ y2 ≠ y1)) → (∃ y : Nat, y2 ≤ y ∧ (y : Int) < r 170 55 ∧ r 206 y = 5 - r 206 y1 ∧ r 207 y = r 207 y1 ∧ y ≠ y1 ∧ eG 21 [(y1 : Int), (y2 : Int)] r = some (some (1, up2 (if r 206 y1 = 2 then xct r y1 y else xct r y y1) 206 y 1))) ∨ (eG 21 [(y1 : Int), (y2 : Int)] r = some (some (0, r)) ∧ ∀ y : Nat, y2 ≤ y → (y : Int) < r 170 55 → r 206 y = 5 - r 206 y1 → r 207 y = r 207 y1 → y = y1) := fun he hno => by
      rw [he]
      rcases ih with ⟨y, q1, q⟩ | ⟨q1, q2⟩
      · exact .inl ⟨y, by omega, q⟩
      · refine .inr ⟨q1, fun y w1 w2 w3 w4 => ?_⟩
        by_cases ey : y = y2
        · rw [ey] at w3 w4 ⊢
          exact Classical.byContradiction fun q => hno ⟨w3, w4, q⟩
        · exact q2 y (by omega) w2 w3 w4
    have un : eG 21 [(y1 : Int), (y2 : Int)] r = _ := eG_163_66
    unfold eM163_66 at un
    rw [if_neg e, if_pos (show (0 : Int) ≤ (y2 : Int) ∧ (y2 : Int) < 700 by omega), Int.toNat_natCast, Int.toNat_natCast, i5] at un
    by_cases c1 : r 206 y2 = 5 - r 206 y1
    · by_cases c2 : r 207 y2 = r 207 y1
      · by_cases c3 : y2 = y1
        · rw [if_neg (fun w => w c1), if_neg (fun w => w c2), if_neg (by omega)] at un
          exact skip un (fun w => w.2.2 c3)
        · rw [if_neg (fun w => w c1), if_neg (fun w => w c2), if_pos (by omega), (xc_b h1 (by omega)).1, (xc_b h1 (by omega)).2] at un
          refine .inl ⟨y2, Nat.le_refl _, by omega, c1, c2, c3, ?_⟩
          rw [un]
          by_cases c4 : r 206 y1 = 2
          · rw [if_neg (by omega), if_pos c4, xc_e]
          · rw [if_pos c4, if_neg c4, xc_e]
      · rw [if_neg (fun w => w c1), if_pos c2] at un
        exact skip un (fun w => c2 w.2.1)
    · rw [if_pos c1] at un
      exact skip un (fun w => c1 w.1)
end FREEX
