/-! Values come and go between runs. -/
section GIVEX
variable {K : SCt} {M : Nat} {C : Int} {t e : tab}
theorem BTW_st (h : BTW K M C t e) : t 142 14 = e 170 52 ∧ 0 ≤ e 170 52 ∧ e 170 52 ≤ 3 := by
  rcases h.2.2.2 with ⟨a, b, _⟩ | ⟨a, b, _⟩ | ⟨a, b, _⟩ | ⟨a, b⟩ <;> omega
theorem BTW_sh (h : BTW K M C t e) (h3 : t 142 14 ≠ 3) : QBx t ∧ SHx K e (zp t) := by
  rcases h.2.2.2 with ⟨a1, a2, b1, b2, b3, b4, b5, _⟩ | ⟨a1, a2, n, act, lf, dr, LG, a3, a4, a5⟩ | ⟨a1, a2, a3, a4, a5⟩ | ⟨a1, a2⟩
  · exact ⟨b4, b5⟩
  · obtain ⟨⟨_, _, _, _, _, qb⟩, _⟩ := id a3
    exact ⟨QB_z.mp qb, a4.2.2.2.2.2.2.1⟩
  · obtain ⟨⟨_, _, _, _, _, qb⟩, _⟩ := id a4
    exact ⟨QB_z.mp qb, a5⟩
  · exact absurd a1 h3
theorem gv_eq (hB : BTW K M C t e) (hn : t 109 3 = e 177 7 ∧ 0 ≤ e 177 7 ∧ e 177 7 ≤ 4) (h20 : t 96 3 = e 170 20) {x v : Int} : ∃ z t2 e2, wG 44 [x, v] t = some (some (z, t2)) ∧ eG 13 [x, v] e = some (some (z, e2)) ∧ BTW K M C t2 e2 ∧ (∀ k j, k < 154 → t2 k j = t k j) ∧ ∀ k j, k < 1622 → e2 k j = e k j := by
  have st := BTW_st hB
  have i1 : imi (e 177 7) 1 = e 177 7 - 1 := imi_e (by omega)
  rw [wG_111, eG_173]
  unfold wM111 eM173
  rw [i1]
  by_cases a : t 96 3 = 0
  · rw [if_pos a, if_pos (by omega)]
    exact ⟨_, _, _, rfl, rfl, hB, fun _ _ _ => rfl, fun _ _ _ => rfl⟩
  rw [if_neg a, if_neg (show ¬ e 170 20 = 0 by omega)]
  by_cases b : t 142 14 = 3
  · rw [if_pos b, if_pos (by omega)]
    exact ⟨_, _, _, rfl, rfl, hB, fun _ _ _ => rfl, fun _ _ _ => rfl⟩
  rw [if_neg b, if_neg (show ¬ e 170 52 = 3 by omega)]
  by_cases c : 0 ≤ x ∧ x < t 109 3
  · obtain ⟨i, rfl⟩ : ∃ i : Nat, x = (i : Int) := ⟨x.toNat, by omega⟩
    have i4 : i < 4 := by omega
    have iz : inz (i : Int) 0 (e 177 7 - 1) ≠ 0 := by
      unfold inz
      rw [if_pos (by omega)]
      decide
    rw [if_neg (by omega), if_pos c.2, if_pos iz, Int.toNat_natCast]
    obtain ⟨qb, sh⟩ := BTW_sh hB b
    obtain ⟨⟨b1, b2, b3, b4⟩, _⟩ := qb i i4
    have zq : ∀ (y : tab) (k j : Nat), 154 ≤ k → zp y k j = y k j := fun y k j w => zp_o (by omega)
    have qq := (sh.2.2.2.2 i i4).1
    obtain ⟨u1, u2, u3, _, _, _⟩ := id qq
    have u1 : e 1630 i = t (154 + 2 * i) 2 := u1.trans (zq t _ _ (by omega))
    by_cases f : t (154 + 2 * i) 2 < 40
    · have z1 : qaz t ((154 + 2 * i : Nat) : Int) = 1 := by
        unfold qaz
        rw [Int.toNat_natCast, if_pos f]
      obtain ⟨t2, ht2⟩ : ∃ t2, t2 = qad t ((154 + 2 * i : Nat) : Int) (i2s v) := ⟨_, rfl⟩
      have h2 : t2 = up2 (up2 t (154 + 2 * i + 1) ((t (154 + 2 * i) 1 + t (154 + 2 * i) 2) % 40).toNat (i2s v)) (154 + 2 * i) 2 (t (154 + 2 * i) 2 + 1) := by
        rw [ht2]
        unfold qad
        rw [Int.toNat_natCast, if_pos f, rm_e (by omega) (by omega)]
        rw [show up2 t (154 + 2 * i + 1) ((t (154 + 2 * i) 1 + t (154 + 2 * i) 2) % 40).toNat (i2s v) (154 + 2 * i) 2 = t (154 + 2 * i) 2 from if_neg (by omega), ipl_e (by omega)]
      have so : ∀ k j, k ≠ 154 + 2 * i → k ≠ 155 + 2 * i → t2 k j = t k j := fun k j w1 w2 => by
        rw [h2]
        exact (if_neg (by omega)).trans (if_neg (by omega))
      have eA : t2 (154 + 2 * i) 2 = t (154 + 2 * i) 2 + 1 := by rw [h2]; exact up_self
      have eB : t2 (154 + 2 * i) 1 = t (154 + 2 * i) 1 := by rw [h2]; exact (if_neg (by omega)).trans (if_neg (by omega))
      have eC : ∀ k, t2 (155 + 2 * i) k = if k = ((t (154 + 2 * i) 1 + t (154 + 2 * i) 2) % 40).toNat then i2s v else t (155 + 2 * i) k := fun k => by
        rw [h2]
        refine (if_neg (by omega)).trans ?_
        by_cases w : k = ((t (154 + 2 * i) 1 + t (154 + 2 * i) 2) % 40).toNat
        · rw [if_pos w]
          exact if_pos ⟨by omega, w⟩
        · rw [if_neg w]
          exact if_neg (fun q => w q.2)
      have r3 : up2 e (1622 + i) ((e 1630 i).toNat) (i2s v) 1630 i = e 1630 i := if_neg (by omega)
      rw [z1, if_neg (by decide), if_pos (by omega), ← ht2, r3, ipl_e (by omega)]
      obtain ⟨e2, he2⟩ : ∃ e2, e2 = up2 (up2 e (1622 + i) ((e 1630 i).toNat) (i2s v)) 1630 i (e 1630 i + 1) := ⟨_, rfl⟩
      rw [← he2]
      have ro : ∀ k j, k ≠ 1622 + i → ¬ (k = 1630 ∧ j = i) → e2 k j = e k j := fun k j w1 w2 => by
        rw [he2]
        exact (if_neg w2).trans (if_neg (fun w => w1 w.1))
      have rA : e2 1630 i = e 1630 i + 1 := by rw [he2]; exact up_self
      have rC : ∀ k : Nat, e2 (1622 + i) k = if (k : Int) = e 1630 i then i2s v else e (1622 + i) k := fun k => by
        rw [he2]
        refine (if_neg (by omega)).trans ?_
        by_cases w : (k : Int) = e 1630 i
        · rw [if_pos w]
          exact if_pos ⟨rfl, by omega⟩
        · rw [if_neg w]
          exact if_neg (fun q => w (by omega))
      refine ⟨t2 (154 + 2 * i) 2, t2, e2, rfl, by rw [eA, u1], BTW_q hB (fun k j w => so k j (by omega) (by omega)) (fun k j w => ro k j (by omega) (by omega)) (fun q1 s1 _ => ⟨fun m hm => ?_, ?_⟩), fun k j w => so k j (by omega) (by omega), fun k j w => ro k j (by omega) (by omega)⟩
      · have w := q1 m hm
        by_cases em : m = i
        · rw [em] at w ⊢
          rw [eA, eB, so (162 + 2 * i) 1 (by omega) (by omega), so (162 + 2 * i) 2 (by omega) (by omega)]
          omega
        · rw [so (154 + 2 * m) 1 (by omega) (by omega), so (154 + 2 * m) 2 (by omega) (by omega), so (162 + 2 * m) 1 (by omega) (by omega), so (162 + 2 * m) 2 (by omega) (by omega)]
          exact w
      · refine SH_in s1 i4 (fun k j _ w1 w2 => ro k j w1 w2) (fun k j w w1 w2 => ?_) ?_
        · by_cases k7 : 154 ≤ k
          · rw [zq _ _ _ k7, zq _ _ _ k7]
            exact so k j w1 w2
          · rw [zp_o (by omega), zp_o (by omega)]
            exact so k j w1 w2
        · rw [rA]
          exact QQ_put (v := i2s v) qq (by omega) rC (by rw [zq _ _ _ (by omega), zq _ _ _ (by omega)]; exact eB) (by rw [zq _ _ _ (by omega), zq _ _ _ (by omega)]; exact eA) (fun k => by rw [zq _ _ _ (by omega), zq _ _ _ (by omega), zq _ _ _ (by omega), zq _ _ _ (by omega)]; exact eC k)
    · have z1 : qaz t ((154 + 2 * i : Nat) : Int) = 0 := by
        unfold qaz
        rw [Int.toNat_natCast, if_neg f]
      have z2 : qad t ((154 + 2 * i : Nat) : Int) (i2s v) = t := by
        unfold qad
        rw [Int.toNat_natCast, if_neg f]
      rw [z1, if_pos rfl, if_neg (by omega), z2]
      exact ⟨_, _, _, rfl, rfl, hB, fun _ _ _ => rfl, fun _ _ _ => rfl⟩
  · have iz : inz x 0 (e 177 7 - 1) = 0 := by
      unfold inz
      rw [if_neg (by omega)]
    rw [if_neg (show ¬ inz x 0 (e 177 7 - 1) ≠ 0 from fun w => w iz)]
    by_cases d : x < 0
    · rw [if_pos d]
      exact ⟨_, _, _, rfl, rfl, hB, fun _ _ _ => rfl, fun _ _ _ => rfl⟩
    · rw [if_neg d, if_neg (by omega)]
      exact ⟨_, _, _, rfl, rfl, hB, fun _ _ _ => rfl, fun _ _ _ => rfl⟩
theorem tk_eq (hB : BTW K M C t e) (hn : t 109 4 = e 177 8 ∧ 0 ≤ e 177 8 ∧ e 177 8 ≤ 4) (h20 : t 96 3 = e 170 20) {x : Int} : ∃ z t2 e2, wG 45 [x] t = some (some (z, t2)) ∧ eG 14 [x] e = some (some (z, e2)) ∧ BTW K M C t2 e2 ∧ (∀ k j, k < 154 → t2 k j = t k j) ∧ ∀ k j, k < 1622 → e2 k j = e k j := by
  have st := BTW_st hB
  have i1 : imi (e 177 8) 1 = e 177 8 - 1 := imi_e (by omega)
  rw [wG_112, eG_174]
  unfold wM112 eM174
  rw [i1]
  by_cases a : t 96 3 = 0
  · rw [if_pos a, if_pos (by omega)]
    exact ⟨_, _, _, rfl, rfl, hB, fun _ _ _ => rfl, fun _ _ _ => rfl⟩
  rw [if_neg a, if_neg (show ¬ e 170 20 = 0 by omega)]
  by_cases b : t 142 14 = 3
  · rw [if_pos b, if_pos (by omega)]
    exact ⟨_, _, _, rfl, rfl, hB, fun _ _ _ => rfl, fun _ _ _ => rfl⟩
  rw [if_neg b, if_neg (show ¬ e 170 52 = 3 by omega)]
  by_cases c : 0 ≤ x ∧ x < t 109 4
  · obtain ⟨i, rfl⟩ : ∃ i : Nat, x = (i : Int) := ⟨x.toNat, by omega⟩
    have i4 : i < 4 := by omega
    have iz : inz (i : Int) 0 (e 177 8 - 1) ≠ 0 := by
      unfold inz
      rw [if_pos (by omega)]
      decide
    have e4 : ipl 4 (i : Int) = ((4 + i : Nat) : Int) := by
      rw [ipl_e (by omega)]
      omega
    rw [if_neg (by omega), if_pos c.2, if_neg iz, e4, Int.toNat_natCast, Int.toNat_natCast]
    obtain ⟨qb, sh⟩ := BTW_sh hB b
    obtain ⟨_, b1, b2, b3, b4⟩ := qb i i4
    have zq : ∀ (y : tab) (k j : Nat), 154 ≤ k → zp y k j = y k j := fun y k j w => zp_o (by omega)
    have qq := (sh.2.2.2.2 i i4).2
    obtain ⟨u1, u2, u3, _, _, _⟩ := id qq
    have u1 : e 1630 (4 + i) = t (162 + 2 * i) 2 := u1.trans (zq t _ _ (by omega))
    by_cases f : t (162 + 2 * i) 2 ≤ 0
    · rw [if_pos f, if_neg (by omega)]
      exact ⟨_, _, _, rfl, rfl, hB, fun _ _ _ => rfl, fun _ _ _ => rfl⟩
    · obtain ⟨h9, hh9⟩ : ∃ h9 : Nat, e 1630 (4 + i) = (h9 : Int) + 1 := ⟨(e 1630 (4 + i) - 1).toNat, by omega⟩
      obtain ⟨e2, g1, g2, g3, g4⟩ := fst_e (r := e) (w := 4 + i) (h9 := h9) (by omega) (by omega) hh9
      rw [if_neg f, if_pos (by omega)]
      rw [show eG 5 [((4 + i : Nat) : Int)] e = some (some (e (1622 + (4 + i)) 0, e2)) from g1, bo_s]
      obtain ⟨t2, ht2⟩ : ∃ t2, t2 = qrm t ((162 + 2 * i : Nat) : Int) := ⟨_, rfl⟩
      have h2 : t2 = up2 (up2 t (162 + 2 * i) 1 ((t (162 + 2 * i) 1 + 1) % 40)) (162 + 2 * i) 2 (t (162 + 2 * i) 2 - 1) := by
        rw [ht2]
        unfold qrm
        rw [Int.toNat_natCast, if_pos (by omega), rm_e (by omega) (by omega), imi_e (by omega)]
      have so : ∀ k j, ¬ (k = 162 + 2 * i ∧ (j = 1 ∨ j = 2)) → t2 k j = t k j := fun k j w => by
        rw [h2]
        exact (if_neg (by omega)).trans (if_neg (by omega))
      have eA : t2 (162 + 2 * i) 2 = t (162 + 2 * i) 2 - 1 := by rw [h2]; exact up_self
      have eB : t2 (162 + 2 * i) 1 = (t (162 + 2 * i) 1 + 1) % 40 := by rw [h2]; exact (if_neg (by omega)).trans up_self
      obtain ⟨qg1, qg2⟩ := QQ_get qq (h2 := e2 1630 (4 + i)) (f2 := e2 (1626 + i)) (q2 := zp t2 (162 + 2 * i)) (by omega) (by omega) (fun k hk => by
        rw [show 1626 + i = 1622 + (4 + i) by omega]
        exact g3 k (by omega)) (by rw [zq _ _ _ (by omega), zq _ _ _ (by omega)]; exact eB) (by rw [zq _ _ _ (by omega), zq _ _ _ (by omega)]; exact eA)
      have zv : qrz t ((162 + 2 * i : Nat) : Int) = e (1622 + (4 + i)) 0 := by
        unfold qrz
        rw [Int.toNat_natCast, if_pos (by omega), show 1622 + (4 + i) = 1626 + i by omega, qg2, zq _ _ _ (by omega), zq _ _ _ (by omega), show 162 + 2 * i + 1 = 163 + 2 * i by omega]
      rw [← ht2, zv]
      have ro : ∀ k j, k ≠ 1626 + i → ¬ (k = 1630 ∧ j = 4 + i) → e2 k j = e k j := fun k j w1 w2 => g4 k j w2 (by omega)
      refine ⟨_, t2, e2, rfl, rfl, BTW_q hB (fun k j w => so k j (by omega)) (fun k j w => ro k j (by omega) (by omega)) (fun q1 s1 _ => ⟨fun m hm => ?_, ?_⟩), fun k j w => so k j (by omega), fun k j w => ro k j (by omega) (by omega)⟩
      · have w := q1 m hm
        by_cases em : m = i
        · rw [em] at w ⊢
          rw [eA, eB, so (154 + 2 * i) 1 (by omega), so (154 + 2 * i) 2 (by omega)]
          omega
        · rw [so (154 + 2 * m) 1 (by omega), so (154 + 2 * m) 2 (by omega), so (162 + 2 * m) 1 (by omega), so (162 + 2 * m) 2 (by omega)]
          exact w
      · refine SH_out s1 i4 (fun k j _ w1 w2 => ro k j w1 w2) (fun k j w w1 w2 => ?_) ?_
        · by_cases k7 : 154 ≤ k
          · rw [zq _ _ _ k7, zq _ _ _ k7]
            exact so k j (by omega)
          · rw [zp_o (by omega), zp_o (by omega)]
            exact so k j (by omega)
        · rw [show zp t2 (163 + 2 * i) = zp t (163 + 2 * i) from funext fun k => by rw [zq _ _ _ (by omega), zq _ _ _ (by omega)]; exact so _ _ (by omega)]
          exact qg1
  · have iz : inz x 0 (e 177 8 - 1) = 0 := by
      unfold inz
      rw [if_neg (by omega)]
    rw [if_pos iz]
    by_cases d : x < 0
    · rw [if_pos d]
      exact ⟨_, _, _, rfl, rfl, hB, fun _ _ _ => rfl, fun _ _ _ => rfl⟩
    · rw [if_neg d, if_neg (by omega)]
      exact ⟨_, _, _, rfl, rfl, hB, fun _ _ _ => rfl, fun _ _ _ => rfl⟩
end GIVEX
