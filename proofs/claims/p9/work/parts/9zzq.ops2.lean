/-! Instructions of the reference: what comes in, counters, branches. -/
section OPS2
variable {r r2 r3 : tab} {b pc : Nat} {S B : List Int} {v x : Int}
/-- the first value of a queue goes -/
theorem fst_l {w h9 : Nat} {v : Int} (hw : w < 8) (h40 : h9 < 40) : ∀ (m y : Nat) (r : tab), m + y = h9 → r 1630 w = (h9 : Int) → ∃ r2, eG 18 [(w : Int), v, (y : Int)] r = some (some (v, r2)) ∧ (∀ i, y ≤ i → i < h9 → r2 (1622 + w) i = r (1622 + w) (i + 1)) ∧ ∀ k j, ¬ (k = 1622 + w ∧ y ≤ j) → r2 k j = r k j
  | 0, y, r, hm, hh => by
    refine ⟨r, ?_, fun i q1 q2 => by omega, fun _ _ _ => rfl⟩
    rw [eG_172_21]
    unfold eM172_21
    rw [if_pos (by rw [Int.toNat_natCast, hh]; omega)]
  | m + 1, y, r, hm, hh => by
    obtain ⟨ra, hra⟩ : ∃ ra, ra = up2 r (1622 + w) y (r (1622 + w) (y + 1)) := ⟨_, rfl⟩
    have o : ∀ k j, ¬ (k = 1622 + w ∧ j = y) → ra k j = r k j := fun k j q => by rw [hra]; exact if_neg q
    obtain ⟨r2, k1, k2, k3⟩ := fst_l hw h40 m (y + 1) ra (by omega) ((o _ _ (by omega)).trans hh)
    refine ⟨r2, ?_, fun i q1 q2 => ?_, fun k j q => ?_⟩
    · rw [eG_172_21]
      unfold eM172_21
      rw [if_neg (by rw [Int.toNat_natCast, hh]; omega), Int.toNat_natCast, Int.toNat_natCast, ipl_e (by omega), show ((y : Int) + 1).toNat = y + 1 by omega, ← hra]
      exact k1
    · by_cases e : i = y
      · rw [e, k3 _ _ (by omega), hra]
        exact up_self
      · rw [k2 i (by omega) q2]
        exact o _ _ (by omega)
    · exact (k3 k j (by omega)).trans (o k j (by omega))
theorem fst_e {w h9 : Nat} (hw : w < 8) (h40 : h9 < 40) (hh : r 1630 w = (h9 : Int) + 1) : ∃ r2, eG 5 [(w : Int)] r = some (some (r (1622 + w) 0, r2)) ∧ r2 1630 w = (h9 : Int) ∧ (∀ i, i < h9 → r2 (1622 + w) i = r (1622 + w) (i + 1)) ∧ ∀ k j, ¬ (k = 1630 ∧ j = w) → k ≠ 1622 + w → r2 k j = r k j := by
  obtain ⟨r2, k1, k2, k3⟩ := fst_l (v := r (1622 + w) 0) hw h40 h9 0 (up2 r 1630 w (h9 : Int)) (by omega) up_self
  refine ⟨r2, ?_, (k3 _ _ (by omega)).trans up_self, fun i q => (k2 i (by omega) q).trans (if_neg (by omega)), fun k j q1 q2 => (k3 k j (by omega)).trans (if_neg q1)⟩
  rw [eG_172]
  unfold eM172
  rw [Int.toNat_natCast, hh, imi_e (by omega), show (h9 : Int) + 1 - 1 = (h9 : Int) by omega]
  exact k1
/-- a value comes in -/
theorem o_get1 (hb : b < 700) (h : BVx r b pc S B) (hp : pc < 25000) (hc : r 178 pc = 16) (hs : S.length < 10000) {a h9 : Nat} (ha : r 178 (pc + 1) = (a : Int)) (ha4 : a < 4) (hh : r 1630 a = (h9 : Int) + 1) (h40 : h9 < 40) : ∃ r2, ON1 b r r2 ∧ BVx r2 b (pc + 2) (r (1622 + a) 0 :: S) B ∧ r2 1630 a = (h9 : Int) ∧ (∀ i, i < h9 → r2 (1622 + a) i = r (1622 + a) (i + 1)) ∧ ∀ k j, ¬ ((k = 205 ∨ k = 208 ∨ k = 209) ∧ j = b) → k ≠ 220 + b → k ≠ 921 + b → ¬ (k = 1630 ∧ j = a) → k ≠ 1622 + a → r2 k j = r k j := by
  obtain ⟨z1, z2, v2, f2⟩ := BV_r2 hb h hp
  rw [hc] at z1
  obtain ⟨r3, k1, k2, k3, k4⟩ := fst_e (r := rds (rds r (b : Int)) (b : Int)) (w := a) (by omega) h40 ((f2 _ _ (by omega) (by omega) (by omega)).trans hh)
  have e0 : rds (rds r (b : Int)) (b : Int) (1622 + a) 0 = r (1622 + a) 0 := f2 _ _ (by omega) (by omega) (by omega)
  rw [e0] at k1
  have v3 : BVx r3 b (pc + 2) S B := BV_fr v2 (fun k j q => k4 k j (by omega) (by omega))
  obtain ⟨v5, f5⟩ := BV_ph (v := r (1622 + a) 0) hb v3 (by omega)
  have ex : eG 8 [(b : Int), 16, (a : Int), r 205 (b : Int).toNat] (rds (rds r (b : Int)) (b : Int)) = some (some (0, phE r3 (b : Int) (r (1622 + a) 0))) := by
    rw [eG_170]
    unfold eM170
    rw [if_neg (by decide), if_neg (by decide), if_neg (by decide), Int.toNat_natCast, if_neg (by rw [f2 _ _ (by omega) (by omega) (by omega), hh]; omega), k1, bo_s]
  refine ⟨phE r3 (b : Int) (r (1622 + a) 0), ?_, v5, (f5 _ _ (by omega) (by omega) (by omega)).trans k2, fun i q => ?_, fun k j a1 a2 a3 a4 a5 => ?_⟩
  · show eG 11 [(b : Int)] r = _
    rw [eG_165]
    unfold eM165
    rw [if_pos ⟨by omega, by omega⟩, z1, if_neg (by decide), if_neg (by decide), if_neg (by decide), if_neg (by decide), if_neg (by decide), if_neg (by decide), if_neg (by decide), if_neg (by decide), if_neg (by decide), if_neg (by decide), if_neg (by decide), if_neg (by decide), if_neg (by decide), if_neg (by decide), if_neg (by decide), if_neg (by decide), if_pos rfl, z2, ha]
    rw [ex, bo_s]
  · rw [f5 _ _ (by omega) (by omega) (by omega), k3 i q]
    exact f2 _ _ (by omega) (by omega) (by omega)
  · rw [f5 k j a1 a2 a3, k4 k j a4 a5]
    exact f2 k j a1 a2 a3
theorem o_count (hb : b < 700) (h : BVx r b pc S B) (hp : pc < 25000) (hc : r 178 pc = 17) {a : Nat} (ha : r 178 (pc + 1) = (a : Int)) : ∃ r2, ON1 b r r2 ∧ BVx r2 b (pc + 3) S B ∧ FRb b (up2 r 204 a (r 178 (pc + 2))) r2 := by
  obtain ⟨z1, z2, _, _⟩ := BV_r2 hb h hp
  obtain ⟨z3, v3, f3⟩ := BV_r3 hb h hp
  rw [hc] at z1
  refine ⟨up2 (rds (rds (rds r (b : Int)) (b : Int)) (b : Int)) 204 a (r 178 (pc + 2)), ?_, BV_fr v3 (fun k j q => if_neg (by omega)), fun k j a1 a2 a3 => ?_⟩
  · show eG 11 [(b : Int)] r = _
    rw [eG_165]
    unfold eM165
    rw [if_pos ⟨by omega, by omega⟩, z1, if_neg (by decide), if_neg (by decide), if_neg (by decide), if_neg (by decide), if_neg (by decide), if_neg (by decide), if_neg (by decide), if_neg (by decide), if_neg (by decide), if_neg (by decide), if_neg (by decide), if_neg (by decide), if_neg (by decide), if_neg (by decide), if_neg (by decide), if_neg (by decide), if_neg (by decide), if_pos rfl, z2, z3, ha, Int.toNat_natCast]
  · by_cases e : k = 204 ∧ j = a
    · exact (if_pos e).trans (if_pos e).symm
    · exact (if_neg e).trans ((f3 k j a1 a2 a3).trans (if_neg e).symm)
theorem o_again (hb : b < 700) (h : BVx r b pc S B) (hp : pc < 25000) (hc : r 178 pc = 18) {a m : Nat} (ha : r 178 (pc + 1) = (a : Int)) (hm : r 178 (pc + 2) = (m : Int)) {c : Int} (hcc : r 204 a = c) (hcr : -1000 ≤ c ∧ c ≤ 1000000) : ∃ r2, ON1 b r r2 ∧ BVx r2 b (if 1 ≤ c then pc + 3 else m) S B ∧ FRb b (up2 r 204 a (c - 1)) r2 := by
  obtain ⟨z1, z2, _, _⟩ := BV_r2 hb h hp
  obtain ⟨z3, v3, f3⟩ := BV_r3 hb h hp
  rw [hc] at z1
  have e4 : imi (rds (rds (rds r (b : Int)) (b : Int)) (b : Int) 204 a) 1 = c - 1 := by
    rw [f3 204 a (by omega) (by omega) (by omega), hcc, imi_e (by omega)]
  have fr : ∀ k j, ¬ ((k = 205 ∨ k = 208 ∨ k = 209) ∧ j = b) → k ≠ 220 + b → k ≠ 921 + b → up2 (rds (rds (rds r (b : Int)) (b : Int)) (b : Int)) 204 a (c - 1) k j = up2 r 204 a (c - 1) k j := fun k j a1 a2 a3 => by
    by_cases e : k = 204 ∧ j = a
    · exact (if_pos e).trans (if_pos e).symm
    · exact (if_neg e).trans ((f3 k j a1 a2 a3).trans (if_neg e).symm)
  have v4 : BVx (up2 (rds (rds (rds r (b : Int)) (b : Int)) (b : Int)) 204 a (c - 1)) b (pc + 3) S B := BV_fr v3 (fun k j q => if_neg (by omega))
  by_cases e : 1 ≤ c
  · rw [if_pos e]
    refine ⟨_, ?_, v4, fr⟩
    show eG 11 [(b : Int)] r = _
    rw [eG_165]
    unfold eM165
    rw [if_pos ⟨by omega, by omega⟩, z1, if_neg (by decide), if_neg (by decide), if_neg (by decide), if_neg (by decide), if_neg (by decide), if_neg (by decide), if_neg (by decide), if_neg (by decide), if_neg (by decide), if_neg (by decide), if_neg (by decide), if_neg (by decide), if_neg (by decide), if_neg (by decide), if_neg (by decide), if_neg (by decide), if_neg (by decide), if_neg (by decide), if_pos rfl, z2, z3, ha, Int.toNat_natCast, e4, if_pos (by omega)]
  · rw [if_neg e]
    refine ⟨up2 (up2 (rds (rds (rds r (b : Int)) (b : Int)) (b : Int)) 204 a (c - 1)) 205 b (m : Int), ?_, BV_pc v4, Fb_tr fr Fb_pc⟩
    show eG 11 [(b : Int)] r = _
    rw [eG_165]
    unfold eM165
    rw [if_pos ⟨by omega, by omega⟩, z1, if_neg (by decide), if_neg (by decide), if_neg (by decide), if_neg (by decide), if_neg (by decide), if_neg (by decide), if_neg (by decide), if_neg (by decide), if_neg (by decide), if_neg (by decide), if_neg (by decide), if_neg (by decide), if_neg (by decide), if_neg (by decide), if_neg (by decide), if_neg (by decide), if_neg (by decide), if_neg (by decide), if_pos rfl, z2, z3, ha, Int.toNat_natCast, e4, if_neg (by omega), Int.toNat_natCast, hm]
/-- a branch is over: one of several, the last one -/
theorem o_over (hb : b < 700) (h : BVx r b pc S B) (hp : pc < 25000) (hc : r 178 pc = 20) {q : Nat} {c : Int} (hq : r 210 b = (q : Int)) (hcc : r 211 q = c) (hcr : 1 ≤ c ∧ c ≤ 1000000) : ∃ r2, ON1 b r r2 ∧ FRb b (if c = 1 then up2 (up2 (up2 r 206 b 0) 211 q (c - 1)) 206 q 1 else up2 (up2 r 206 b 0) 211 q (c - 1)) r2 := by
  obtain ⟨z1, v1, f1⟩ := BV_rd hb h (by omega)
  rw [hc] at z1
  have e0 : rds r (b : Int) 210 b = (q : Int) := (f1 _ _ (by omega) (by omega) (by omega)).trans hq
  have e1 : imi (rds r (b : Int) 211 q) 1 = c - 1 := by
    rw [f1 _ _ (by omega) (by omega) (by omega), hcc, imi_e (by omega)]
  have fr : ∀ k j, ¬ ((k = 205 ∨ k = 208 ∨ k = 209) ∧ j = b) → k ≠ 220 + b → k ≠ 921 + b → up2 (up2 (rds r (b : Int)) 206 b 0) 211 q (c - 1) k j = up2 (up2 r 206 b 0) 211 q (c - 1) k j := fun k j a1 a2 a3 => by
    by_cases e : k = 211 ∧ j = q
    · exact (if_pos e).trans (if_pos e).symm
    · refine (if_neg e).trans (Eq.trans ?_ (if_neg e).symm)
      by_cases e2 : k = 206 ∧ j = b
      · exact (if_pos e2).trans (if_pos e2).symm
      · exact (if_neg e2).trans ((f1 k j a1 a2 a3).trans (if_neg e2).symm)
  by_cases e : c = 1
  · rw [if_pos e]
    refine ⟨up2 (up2 (up2 (rds r (b : Int)) 206 b 0) 211 q (c - 1)) 206 q 1, ?_, fun k j a1 a2 a3 => ?_⟩
    · show eG 11 [(b : Int)] r = _
      rw [eG_165]
      unfold eM165
      rw [if_pos ⟨by omega, by omega⟩, z1, if_neg (by decide), if_neg (by decide), if_neg (by decide), if_neg (by decide), if_neg (by decide), if_neg (by decide), if_neg (by decide), if_neg (by decide), if_neg (by decide), if_neg (by decide), if_neg (by decide), if_neg (by decide), if_neg (by decide), if_neg (by decide), if_neg (by decide), if_neg (by decide), if_neg (by decide), if_neg (by decide), if_neg (by decide), if_neg (by decide), if_pos rfl, Int.toNat_natCast, e0, Int.toNat_natCast, e1, if_neg (by omega)]
    · by_cases e2 : k = 206 ∧ j = q
      · exact (if_pos e2).trans (if_pos e2).symm
      · exact (if_neg e2).trans ((fr k j a1 a2 a3).trans (if_neg e2).symm)
  · rw [if_neg e]
    refine ⟨up2 (up2 (rds r (b : Int)) 206 b 0) 211 q (c - 1), ?_, fr⟩
    show eG 11 [(b : Int)] r = _
    rw [eG_165]
    unfold eM165
    rw [if_pos ⟨by omega, by omega⟩, z1, if_neg (by decide), if_neg (by decide), if_neg (by decide), if_neg (by decide), if_neg (by decide), if_neg (by decide), if_neg (by decide), if_neg (by decide), if_neg (by decide), if_neg (by decide), if_neg (by decide), if_neg (by decide), if_neg (by decide), if_neg (by decide), if_neg (by decide), if_neg (by decide), if_neg (by decide), if_neg (by decide), if_neg (by decide), if_neg (by decide), if_pos rfl, Int.toNat_natCast, e0, Int.toNat_natCast, e1, if_pos (by omega)]
theorem o_end (hb : b < 700) (h : BVx r b pc S B) (hp : pc < 25000) (hc : r 178 pc = 21) : ∃ r2, ON1 b r r2 ∧ FRb b (up2 (up2 r 206 b 0) 170 52 1) r2 := by
  obtain ⟨z1, v1, f1⟩ := BV_rd hb h (by omega)
  rw [hc] at z1
  refine ⟨up2 (up2 (rds r (b : Int)) 206 b 0) 170 52 1, ?_, fun k j a1 a2 a3 => ?_⟩
  · show eG 11 [(b : Int)] r = _
    rw [eG_165]
    unfold eM165
    rw [if_pos ⟨by omega, by omega⟩, z1, if_neg (by decide), if_neg (by decide), if_neg (by decide), if_neg (by decide), if_neg (by decide), if_neg (by decide), if_neg (by decide), if_neg (by decide), if_neg (by decide), if_neg (by decide), if_neg (by decide), if_neg (by decide), if_neg (by decide), if_neg (by decide), if_neg (by decide), if_neg (by decide), if_neg (by decide), if_neg (by decide), if_neg (by decide), if_neg (by decide), if_neg (by decide), if_pos rfl, Int.toNat_natCast]
  · by_cases e : k = 170 ∧ j = 52
    · exact (if_pos e).trans (if_pos e).symm
    · refine (if_neg e).trans (Eq.trans ?_ (if_neg e).symm)
      by_cases e2 : k = 206 ∧ j = b
      · exact (if_pos e2).trans (if_pos e2).symm
      · exact (if_neg e2).trans ((f1 k j a1 a2 a3).trans (if_neg e2).symm)
end OPS2
