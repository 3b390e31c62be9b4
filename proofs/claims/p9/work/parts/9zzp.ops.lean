/-! Instructions of the reference, as a branch sees them. -/
section OPS
variable {r r2 r3 : tab} {b pc : Nat} {S B : List Int} {v x : Int}
/-- a branch: its place, its stack, where it goes back to -/
def BVx (r : tab) (b pc : Nat) (S B : List Int) : Prop := r 205 b = (pc : Int) ∧ (r 208 b = (S.length : Int) ∧ LSx (r (220 + b)) S) ∧ r 209 b = (B.length : Int) ∧ LSx (r (921 + b)) B
/-- only a branch's own rows have changed -/
def FRb (b : Nat) (r r2 : tab) : Prop := ∀ k j, ¬ ((k = 205 ∨ k = 208 ∨ k = 209) ∧ j = b) → k ≠ 220 + b → k ≠ 921 + b → r2 k j = r k j
theorem Fb_rf : FRb b r r := fun _ _ _ _ _ => rfl
theorem Fb_tr (h : FRb b r r2) (k : FRb b r2 r3) : FRb b r r3 := fun i j a1 a2 a3 => (k i j a1 a2 a3).trans (h i j a1 a2 a3)
theorem BV_fr (h : BVx r b pc S B) (hf : ∀ k j, ((k = 205 ∨ k = 208 ∨ k = 209) ∧ j = b) ∨ k = 220 + b ∨ k = 921 + b → r2 k j = r k j) : BVx r2 b pc S B := by
  obtain ⟨h1, ⟨h2, h3⟩, h4, h5⟩ := h
  exact ⟨(hf _ _ (by omega)).trans h1, ⟨(hf _ _ (by omega)).trans h2, LS_e S (fun i _ => hf _ _ (by omega)) h3⟩, (hf _ _ (by omega)).trans h4, LS_e B (fun i _ => hf _ _ (by omega)) h5⟩
theorem BV_rd (hb : b < 700) (h : BVx r b pc S B) (hp : pc < 30000) : rdz r (b : Int) = r 178 pc ∧ BVx (rds r (b : Int)) b (pc + 1) S B ∧ FRb b r (rds r (b : Int)) := by
  have h1 := h.1
  have e : rds r (b : Int) = up2 r 205 b ((pc + 1 : Nat) : Int) := by
    unfold rds
    rw [Int.toNat_natCast, h1, ipl_e (by omega)]
    rfl
  refine ⟨?_, ?_, ?_⟩
  · unfold rdz
    rw [Int.toNat_natCast, h1, ipl_e (by omega), imi_e (by omega), show ((pc : Int) + 1 - 1).toNat = pc by omega]
  · rw [e]
    obtain ⟨_, ⟨h2, h3⟩, h4, h5⟩ := h
    exact ⟨up_self, ⟨(if_neg (by omega)).trans h2, LS_e S (fun i _ => if_neg (by omega)) h3⟩, (if_neg (by omega)).trans h4, LS_e B (fun i _ => if_neg (by omega)) h5⟩
  · rw [e]
    exact fun k j a1 a2 a3 => if_neg (by omega)
theorem BV_po (hb : b < 700) (h : BVx r b pc (v :: S) B) (hs : S.length < 100000) : poz r (b : Int) = v ∧ BVx (pos r (b : Int)) b pc S B ∧ FRb b r (pos r (b : Int)) := by
  obtain ⟨h1, ⟨h2, h3⟩, h4, h5⟩ := h
  rw [List.length_cons] at h2
  have e2 : imi (r 208 b) 1 = (S.length : Int) := by
    rw [h2, imi_e (by omega)]
    omega
  have e : pos r (b : Int) = up2 r 208 b (S.length : Int) := by
    unfold pos
    rw [Int.toNat_natCast, e2]
  refine ⟨?_, ?_, ?_⟩
  · unfold poz
    rw [Int.toNat_natCast, e2, Int.toNat_natCast]
    exact h3.1
  · rw [e]
    exact ⟨(if_neg (by omega)).trans h1, ⟨up_self, LS_e S (fun i _ => if_neg (by omega)) h3.2⟩, (if_neg (by omega)).trans h4, LS_e B (fun i _ => if_neg (by omega)) h5⟩
  · rw [e]
    exact fun k j a1 a2 a3 => if_neg (by omega)
theorem BV_ph (hb : b < 700) (h : BVx r b pc S B) (hs : S.length < 100000) : BVx (phE r (b : Int) v) b pc (v :: S) B ∧ FRb b r (phE r (b : Int) v) := by
  obtain ⟨h1, ⟨h2, h3⟩, h4, h5⟩ := h
  have e : phE r (b : Int) v = up2 (up2 r (220 + b) S.length v) 208 b ((S.length + 1 : Nat) : Int) := by
    unfold phE
    rw [Int.toNat_natCast, h2, Int.toNat_natCast, ipl_e (by omega)]
    rfl
  rw [e]
  refine ⟨⟨(if_neg (by omega)).trans ((if_neg (by omega)).trans h1), ⟨up_self, ?_, LS_e S (fun i hi => (if_neg (by omega)).trans (if_neg (by omega))) h3⟩, (if_neg (by omega)).trans ((if_neg (by omega)).trans h4), LS_e B (fun i _ => (if_neg (by omega)).trans (if_neg (by omega))) h5⟩, fun k j a1 a2 a3 => (if_neg (by omega)).trans (if_neg (by omega))⟩
  exact (if_neg (by omega)).trans up_self
/-- two reads -/
theorem BV_r2 (hb : b < 700) (h : BVx r b pc S B) (hp : pc < 25000) : rdz r (b : Int) = r 178 pc ∧ rdz (rds r (b : Int)) (b : Int) = r 178 (pc + 1) ∧ BVx (rds (rds r (b : Int)) (b : Int)) b (pc + 2) S B ∧ FRb b r (rds (rds r (b : Int)) (b : Int)) := by
  obtain ⟨z1, v1, f1⟩ := BV_rd hb h (by omega)
  obtain ⟨z2, v2, f2⟩ := BV_rd hb v1 (by omega)
  exact ⟨z1, z2.trans (f1 _ _ (by omega) (by omega) (by omega)), v2, Fb_tr f1 f2⟩
theorem BV_r3 (hb : b < 700) (h : BVx r b pc S B) (hp : pc < 25000) : rdz (rds (rds r (b : Int)) (b : Int)) (b : Int) = r 178 (pc + 2) ∧ BVx (rds (rds (rds r (b : Int)) (b : Int)) (b : Int)) b (pc + 3) S B ∧ FRb b r (rds (rds (rds r (b : Int)) (b : Int)) (b : Int)) := by
  obtain ⟨z1, z2, v2, f2⟩ := BV_r2 hb h hp
  obtain ⟨z3, v3, f3⟩ := BV_rd hb v2 (by omega)
  exact ⟨z3.trans (f2 _ _ (by omega) (by omega) (by omega)), v3, Fb_tr f2 f3⟩
theorem BV_pc (h : BVx r b pc S B) {m : Nat} : BVx (up2 r 205 b (m : Int)) b m S B := by
  obtain ⟨_, ⟨h2, h3⟩, h4, h5⟩ := h
  have o : ∀ k j, k ≠ 205 → up2 r 205 b (m : Int) k j = r k j := fun k j q => if_neg (fun w => q w.1)
  exact ⟨up_self, ⟨(o _ _ (by omega)).trans h2, LS_e S (fun i _ => o _ _ (by omega)) h3⟩, (o _ _ (by omega)).trans h4, LS_e B (fun i _ => o _ _ (by omega)) h5⟩
theorem Fb_pc {m : Int} : FRb b r (up2 r 205 b m) := fun k j a1 a2 a3 => if_neg (by omega)
/-- what one() does -/
abbrev ON1 (b : Nat) (r r2 : tab) : Prop := eG 11 [(b : Int)] r = some (some (0, r2))
theorem o_part (hb : b < 700) (h : BVx r b pc (S) B) (hp : pc < 25000) (hc : r 178 pc = 0) (hs : r 170 53 ≠ r 170 54) (hn : 0 ≤ r 170 53 ∧ r 170 53 ≤ 1000000) : ∃ r2, ON1 b r r2 ∧ BVx r2 b (pc + 1) S B ∧ FRb b (up2 r 170 53 (r 170 53 + 1)) r2 := by
  obtain ⟨z1, v1, f1⟩ := BV_rd hb h (by omega)
  rw [hc] at z1
  have e53 := f1 170 53 (by omega) (by omega) (by omega)
  have e54 := f1 170 54 (by omega) (by omega) (by omega)
  refine ⟨up2 (rds r (b : Int)) 170 53 (r 170 53 + 1), ?_, BV_fr v1 (fun k j q => if_neg (by omega)), fun k j a1 a2 a3 => ?_⟩
  · show eG 11 [(b : Int)] r = _
    rw [eG_165]
    unfold eM165
    rw [if_pos ⟨by omega, by omega⟩, z1, if_pos rfl]
    rw [if_pos (by rw [e53, e54]; exact hs), e53, ipl_e (by omega)]
  · by_cases e : k = 170 ∧ j = 53
    · exact (if_pos e).trans (if_pos e).symm
    · exact (if_neg e).trans ((f1 k j a1 a2 a3).trans (if_neg e).symm)
theorem o_lost (hb : b < 700) (h : BVx r b pc (S) B) (hp : pc < 25000) (hc : r 178 pc = 0) (hs : r 170 53 = r 170 54) : ∃ r2, ON1 b r r2 ∧ r2 170 52 = 3 ∧ ∀ k j, k ≠ 170 → k ≠ 205 → r2 k j = r k j := by
  obtain ⟨z1, v1, f1⟩ := BV_rd hb h (by omega)
  rw [hc] at z1
  have e53 := f1 170 53 (by omega) (by omega) (by omega)
  have e54 := f1 170 54 (by omega) (by omega) (by omega)
  refine ⟨up2 (rds r (b : Int)) 170 52 3, ?_, up_self, fun k j q1 q2 => (if_neg (fun w => q1 w.1)).trans (if_neg (fun w => q2 w.1))⟩
  show eG 11 [(b : Int)] r = _
  rw [eG_165]
  unfold eM165
  rw [if_pos ⟨by omega, by omega⟩, z1, if_pos rfl]
  rw [if_neg (by rw [e53, e54]; exact fun q => q hs)]
theorem o_noth (hb : b < 700) (h : BVx r b pc (S) B) (hp : pc < 25000) (hc : r 178 pc = 1) : ∃ r2, ON1 b r r2 ∧ BVx r2 b (pc + 1) S B ∧ FRb b r r2 := by
  obtain ⟨z1, v1, f1⟩ := BV_rd hb h (by omega)
  rw [hc] at z1
  refine ⟨rds r (b : Int), ?_, v1, f1⟩
  show eG 11 [(b : Int)] r = _
  rw [eG_165]
  unfold eM165
  rw [if_pos ⟨by omega, by omega⟩, z1, if_neg (by decide), if_pos rfl]
theorem o_const (hb : b < 700) (h : BVx r b pc (S) B) (hp : pc < 25000) (hc : r 178 pc = 2) (hs : S.length < 10000) : ∃ r2, ON1 b r r2 ∧ BVx r2 b (pc + 2) (r 178 (pc + 1) :: S) B ∧ FRb b r r2 := by
  obtain ⟨z1, z2, v2, f2⟩ := BV_r2 hb h hp
  rw [hc] at z1
  obtain ⟨v3, f3⟩ := BV_ph (v := r 178 (pc + 1)) hb v2 (by omega)
  refine ⟨_, ?_, v3, Fb_tr f2 f3⟩
  show eG 11 [(b : Int)] r = _
  rw [eG_165]
  unfold eM165
  rw [if_pos ⟨by omega, by omega⟩, z1, if_neg (by decide), if_neg (by decide), if_pos rfl, z2]
theorem o_load (hb : b < 700) (h : BVx r b pc (S) B) (hp : pc < 25000) (hc : r 178 pc = 3) (hs : S.length < 10000) : ∃ r2, ON1 b r r2 ∧ BVx r2 b (pc + 2) (r 203 (r 178 (pc + 1)).toNat :: S) B ∧ FRb b r r2 := by
  obtain ⟨z1, z2, v2, f2⟩ := BV_r2 hb h hp
  rw [hc] at z1
  obtain ⟨v3, f3⟩ := BV_ph (v := r 203 (r 178 (pc + 1)).toNat) hb v2 (by omega)
  refine ⟨_, ?_, v3, Fb_tr f2 f3⟩
  show eG 11 [(b : Int)] r = _
  rw [eG_165]
  unfold eM165
  rw [if_pos ⟨by omega, by omega⟩, z1, if_neg (by decide), if_neg (by decide), if_neg (by decide), if_pos rfl, z2, f2 203 _ (by omega) (by omega) (by omega)]
theorem o_item (hb : b < 700) (h : BVx r b pc (v :: S) B) (hp : pc < 25000) (hc : r 178 pc = 4) (hs : S.length < 10000) {a : Nat} (ha : r 178 (pc + 1) = (a : Int)) (ha6 : a < 6) : ∃ r2, ON1 b r r2 ∧ BVx r2 b (pc + 2) (r (213 + a) (ian v (imi (r 180 a) 1)).toNat :: S) B ∧ FRb b r r2 := by
  obtain ⟨z1, z2, v2, f2⟩ := BV_r2 hb h hp
  rw [hc] at z1
  obtain ⟨z3, v3, f3⟩ := BV_po hb v2 (by omega)
  have f4 := Fb_tr f2 f3
  obtain ⟨v5, f5⟩ := BV_ph (v := r (213 + a) (ian v (imi (r 180 a) 1)).toNat) hb v3 (by omega)
  refine ⟨_, ?_, v5, Fb_tr f4 f5⟩
  show eG 11 [(b : Int)] r = _
  rw [eG_165]
  unfold eM165
  rw [if_pos ⟨by omega, by omega⟩, z1, if_neg (by decide), if_neg (by decide), if_neg (by decide), if_neg (by decide), if_pos rfl, z2, z3, ha, Int.toNat_natCast, f4 180 a (by omega) (by omega) (by omega), f4 (213 + a) _ (by omega) (by omega) (by omega)]
/-- the bits that a variable keeps -/
def asv (bits v : Int) : Int := if bits = 0 then i2s v else ian v (imi (isl 1 bits) 1)
theorem o_store (hb : b < 700) (h : BVx r b pc (v :: S) B) (hp : pc < 25000) (hc : r 178 pc = 5) (hs : S.length < 10000) {a : Nat} (ha : r 178 (pc + 1) = (a : Int)) : ∃ r2, ON1 b r r2 ∧ BVx r2 b (pc + 2) S B ∧ FRb b (up2 r 203 a (asv (r 179 a) v)) r2 := by
  obtain ⟨z1, z2, v2, f2⟩ := BV_r2 hb h hp
  rw [hc] at z1
  obtain ⟨z3, v3, f3⟩ := BV_po hb v2 (by omega)
  have f4 := Fb_tr f2 f3
  refine ⟨up2 (pos (rds (rds r (b : Int)) (b : Int)) (b : Int)) 203 a (asv (r 179 a) v), ?_, BV_fr v3 (fun k j q => if_neg (by omega)), fun k j a1 a2 a3 => ?_⟩
  · show eG 11 [(b : Int)] r = _
    rw [eG_165]
    unfold eM165
    rw [if_pos ⟨by omega, by omega⟩, z1, if_neg (by decide), if_neg (by decide), if_neg (by decide), if_neg (by decide), if_neg (by decide), if_pos rfl, z2, z3, ha, Int.toNat_natCast, f4 179 a (by omega) (by omega) (by omega)]
    unfold asv
    by_cases e : r 179 a = 0
    · rw [if_neg (fun q => q e), if_pos e]
    · rw [if_pos e, if_neg e]
  · by_cases e : k = 203 ∧ j = a
    · exact (if_pos e).trans (if_pos e).symm
    · exact (if_neg e).trans ((f4 k j a1 a2 a3).trans (if_neg e).symm)
theorem o_stori (hb : b < 700) (h : BVx r b pc (v :: x :: S) B) (hp : pc < 25000) (hc : r 178 pc = 6) (hs : S.length < 10000) {a : Nat} (ha : r 178 (pc + 1) = (a : Int)) (ha6 : a < 6) : ∃ r2, ON1 b r r2 ∧ BVx r2 b (pc + 2) S B ∧ FRb b (up2 r (213 + a) (ian x (imi (r 180 a) 1)).toNat (i2s v)) r2 := by
  obtain ⟨z1, z2, v2, f2⟩ := BV_r2 hb h hp
  rw [hc] at z1
  obtain ⟨z3, v3, f3⟩ := BV_po hb v2 (by rw [List.length_cons]; omega)
  obtain ⟨z4, v4, f4'⟩ := BV_po hb v3 (by omega)
  have f4 := Fb_tr f2 (Fb_tr f3 f4')
  refine ⟨up2 (pos (pos (rds (rds r (b : Int)) (b : Int)) (b : Int)) (b : Int)) (213 + a) (ian x (imi (r 180 a) 1)).toNat (i2s v), ?_, BV_fr v4 (fun k j q => if_neg (by omega)), fun k j a1 a2 a3 => ?_⟩
  · show eG 11 [(b : Int)] r = _
    rw [eG_165]
    unfold eM165
    rw [if_pos ⟨by omega, by omega⟩, z1, if_neg (by decide), if_neg (by decide), if_neg (by decide), if_neg (by decide), if_neg (by decide), if_neg (by decide), if_pos rfl, z2, z3, z4, ha, Int.toNat_natCast, f4 180 a (by omega) (by omega) (by omega)]
  · by_cases e : k = 213 + a ∧ j = (ian x (imi (r 180 a) 1)).toNat
    · exact (if_pos e).trans (if_pos e).symm
    · exact (if_neg e).trans ((f4 k j a1 a2 a3).trans (if_neg e).symm)
theorem o_sign (hb : b < 700) (h : BVx r b pc (v :: x :: S) B) (hp : pc < 25000) (hc : r 178 pc = 7) (hs : S.length < 10000) : ∃ r2, ON1 b r r2 ∧ BVx r2 b (pc + 2) (tgx (r 178 (pc + 1)) x v :: S) B ∧ FRb b r r2 := by
  obtain ⟨z1, z2, v2, f2⟩ := BV_r2 hb h hp
  rw [hc] at z1
  obtain ⟨z3, v3, f3⟩ := BV_po hb v2 (by rw [List.length_cons]; omega)
  obtain ⟨z4, v4, f4⟩ := BV_po hb v3 (by omega)
  obtain ⟨v5, f5⟩ := BV_ph (v := tgx (r 178 (pc + 1)) x v) hb v4 (by omega)
  refine ⟨_, ?_, v5, Fb_tr f2 (Fb_tr f3 (Fb_tr f4 f5))⟩
  show eG 11 [(b : Int)] r = _
  rw [eG_165]
  unfold eM165
  rw [if_pos ⟨by omega, by omega⟩, z1, if_neg (by decide), if_neg (by decide), if_neg (by decide), if_neg (by decide), if_neg (by decide), if_neg (by decide), if_neg (by decide), if_pos rfl, z2, z3, z4]
theorem o_turn (hb : b < 700) (h : BVx r b pc (v :: S) B) (hp : pc < 25000) (hc : r 178 pc = 8) (hs : S.length < 10000) : ∃ r2, ON1 b r r2 ∧ BVx r2 b (pc + 2) (s1x (r 178 (pc + 1)) v :: S) B ∧ FRb b r r2 := by
  obtain ⟨z1, z2, v2, f2⟩ := BV_r2 hb h hp
  rw [hc] at z1
  obtain ⟨z3, v3, f3⟩ := BV_po hb v2 (by omega)
  obtain ⟨v5, f5⟩ := BV_ph (v := s1x (r 178 (pc + 1)) v) hb v3 (by omega)
  refine ⟨_, ?_, v5, Fb_tr f2 (Fb_tr f3 f5)⟩
  show eG 11 [(b : Int)] r = _
  rw [eG_165]
  unfold eM165
  rw [if_pos ⟨by omega, by omega⟩, z1, if_neg (by decide), if_neg (by decide), if_neg (by decide), if_neg (by decide), if_neg (by decide), if_neg (by decide), if_neg (by decide), if_neg (by decide), if_pos rfl, z2, z3]
  unfold s1x tru
  by_cases e1 : r 178 (pc + 1) = 45
  · rw [if_neg (fun q => q e1), if_pos e1]
  · rw [if_pos e1, if_neg e1]
    by_cases e2 : r 178 (pc + 1) = 126
    · rw [if_neg (fun q => q e2), if_pos e2]
    · rw [if_pos e2, if_neg e2]
      by_cases e3 : v = 0
      · rw [if_neg (fun q => q e3), if_pos e3]
      · rw [if_pos e3, if_neg e3]
theorem o_jump (hb : b < 700) (h : BVx r b pc (S) B) (hp : pc < 25000) (hc : r 178 pc = 9) {m : Nat} (hm : r 178 (pc + 1) = (m : Int)) : ∃ r2, ON1 b r r2 ∧ BVx r2 b m S B ∧ FRb b r r2 := by
  obtain ⟨z1, v1, f1⟩ := BV_rd hb h (by omega)
  rw [hc] at z1
  refine ⟨up2 (rds r (b : Int)) 205 b (m : Int), ?_, BV_pc v1, Fb_tr f1 Fb_pc⟩
  show eG 11 [(b : Int)] r = _
  rw [eG_165]
  unfold eM165
  rw [if_pos ⟨by omega, by omega⟩, z1, if_neg (by decide), if_neg (by decide), if_neg (by decide), if_neg (by decide), if_neg (by decide), if_neg (by decide), if_neg (by decide), if_neg (by decide), if_neg (by decide), if_pos rfl, Int.toNat_natCast, v1.1, Int.toNat_natCast, f1 178 _ (by omega) (by omega) (by omega), hm]
theorem o_unl0 (hb : b < 700) (h : BVx r b pc (v :: S) B) (hp : pc < 25000) (hc : r 178 pc = 10) (hs : S.length < 10000) {m : Nat} (hm : r 178 (pc + 1) = (m : Int)) (hv : v = 0) : ∃ r2, ON1 b r r2 ∧ BVx r2 b m S B ∧ FRb b r r2 := by
  obtain ⟨z1, z2, v2, f2⟩ := BV_r2 hb h hp
  rw [hc] at z1
  obtain ⟨z3, v3, f3⟩ := BV_po hb v2 (by omega)
  refine ⟨up2 (pos (rds (rds r (b : Int)) (b : Int)) (b : Int)) 205 b (m : Int), ?_, BV_pc v3, Fb_tr f2 (Fb_tr f3 Fb_pc)⟩
  show eG 11 [(b : Int)] r = _
  rw [eG_165]
  unfold eM165
  rw [if_pos ⟨by omega, by omega⟩, z1, if_neg (by decide), if_neg (by decide), if_neg (by decide), if_neg (by decide), if_neg (by decide), if_neg (by decide), if_neg (by decide), if_neg (by decide), if_neg (by decide), if_neg (by decide), if_pos rfl, z3, if_neg (fun q => q hv), Int.toNat_natCast, z2, hm]
theorem o_unl1 (hb : b < 700) (h : BVx r b pc (v :: S) B) (hp : pc < 25000) (hc : r 178 pc = 10) (hs : S.length < 10000) (hv : v ≠ 0) : ∃ r2, ON1 b r r2 ∧ BVx r2 b (pc + 2) S B ∧ FRb b r r2 := by
  obtain ⟨z1, z2, v2, f2⟩ := BV_r2 hb h hp
  rw [hc] at z1
  obtain ⟨z3, v3, f3⟩ := BV_po hb v2 (by omega)
  refine ⟨_, ?_, v3, Fb_tr f2 f3⟩
  show eG 11 [(b : Int)] r = _
  rw [eG_165]
  unfold eM165
  rw [if_pos ⟨by omega, by omega⟩, z1, if_neg (by decide), if_neg (by decide), if_neg (by decide), if_neg (by decide), if_neg (by decide), if_neg (by decide), if_neg (by decide), if_neg (by decide), if_neg (by decide), if_neg (by decide), if_pos rfl, z3, if_pos hv]
theorem o_call (hb : b < 700) (h : BVx r b pc (S) B) (hp : pc < 25000) (hc : r 178 pc = 11) (hB : B.length < 10000) {m : Nat} (hm : r 178 (pc + 1) = (m : Int)) : ∃ r2, ON1 b r r2 ∧ BVx r2 b m S (((pc + 2 : Nat) : Int) :: B) ∧ FRb b r r2 := by
  obtain ⟨z1, z2, v2, f2⟩ := BV_r2 hb h hp
  rw [hc] at z1
  obtain ⟨w1, ⟨w2, w3⟩, w4, w5⟩ := id v2
  obtain ⟨ra, hra⟩ : ∃ ra, ra = up2 (up2 (up2 (rds (rds r (b : Int)) (b : Int)) (921 + b) B.length ((pc + 2 : Nat) : Int)) 209 b ((B.length + 1 : Nat) : Int)) 205 b (m : Int) := ⟨_, rfl⟩
  have o : ∀ k j, ¬ (k = 205 ∧ j = b) → ¬ (k = 209 ∧ j = b) → ¬ (k = 921 + b ∧ j = B.length) → ra k j = rds (rds r (b : Int)) (b : Int) k j := fun k j q1 q2 q3 => by
    rw [hra]
    exact (if_neg q1).trans ((if_neg q2).trans (if_neg q3))
  refine ⟨ra, ?_, ⟨by rw [hra]; exact up_self, ⟨(o _ _ (by omega) (by omega) (by omega)).trans w2, LS_e S (fun i _ => o _ _ (by omega) (by omega) (by omega)) w3⟩, by rw [hra]; exact (if_neg (by omega)).trans up_self, ?_, LS_e B (fun i hi => o _ _ (by omega) (by omega) (by omega)) w5⟩, Fb_tr f2 (fun k j a1 a2 a3 => o k j (by omega) (by omega) (by omega))⟩
  · show eG 11 [(b : Int)] r = _
    rw [eG_165]
    unfold eM165
    rw [if_pos ⟨by omega, by omega⟩, z1, if_neg (by decide), if_neg (by decide), if_neg (by decide), if_neg (by decide), if_neg (by decide), if_neg (by decide), if_neg (by decide), if_neg (by decide), if_neg (by decide), if_neg (by decide), if_neg (by decide), if_pos rfl, Int.toNat_natCast, z2, hm, w4, Int.toNat_natCast, w1]
    rw [show (up2 (rds (rds r (b : Int)) (b : Int)) (921 + b) B.length ((pc + 2 : Nat) : Int)) 209 b = (B.length : Int) from (if_neg (by omega)).trans w4, ipl_e (by omega), hra]
    rfl
  · rw [hra]
    exact (if_neg (by omega)).trans ((if_neg (by omega)).trans up_self)
theorem o_back (hb : b < 700) {m : Nat} (h : BVx r b pc S ((m : Int) :: B)) (hp : pc < 25000) (hc : r 178 pc = 12) (hB : B.length < 10000) : ∃ r2, ON1 b r r2 ∧ BVx r2 b m S B ∧ FRb b r r2 := by
  obtain ⟨z1, v1, f1⟩ := BV_rd hb h (by omega)
  rw [hc] at z1
  obtain ⟨w1, ⟨w2, w3⟩, w4, w5⟩ := id v1
  rw [List.length_cons] at w4
  have e : imi (rds r (b : Int) 209 b) 1 = (B.length : Int) := by
    rw [w4, imi_e (by omega)]
    omega
  refine ⟨up2 (up2 (rds r (b : Int)) 209 b (B.length : Int)) 205 b (m : Int), ?_, ⟨up_self, ⟨(if_neg (by omega)).trans ((if_neg (by omega)).trans w2), LS_e S (fun i _ => (if_neg (by omega)).trans (if_neg (by omega))) w3⟩, (if_neg (by omega)).trans up_self, LS_e B (fun i _ => (if_neg (by omega)).trans (if_neg (by omega))) w5.2⟩, Fb_tr f1 (fun k j a1 a2 a3 => (if_neg (by omega)).trans (if_neg (by omega)))⟩
  show eG 11 [(b : Int)] r = _
  rw [eG_165]
  unfold eM165
  rw [if_pos ⟨by omega, by omega⟩, z1, if_neg (by decide), if_neg (by decide), if_neg (by decide), if_neg (by decide), if_neg (by decide), if_neg (by decide), if_neg (by decide), if_neg (by decide), if_neg (by decide), if_neg (by decide), if_neg (by decide), if_neg (by decide), if_pos rfl, Int.toNat_natCast, e, Int.toNat_natCast]
  rw [show (up2 (rds r (b : Int)) 209 b (B.length : Int)) (921 + b) B.length = (m : Int) from (if_neg (by omega)).trans w5.1]
theorem o_send (hb : b < 700) (h : BVx r b pc (S) B) (hp : pc < 25000) (hc : r 178 pc = 13) : ∃ r2, ON1 b r r2 ∧ BVx r2 b (pc + 2) S B ∧ FRb b (up2 (up2 r 206 b 2) 207 b (r 178 (pc + 1))) r2 := by
  obtain ⟨z1, z2, v2, f2⟩ := BV_r2 hb h hp
  rw [hc] at z1
  refine ⟨wtE (rds (rds r (b : Int)) (b : Int)) (b : Int) 2 (r 178 (pc + 1)), ?_, BV_fr v2 (fun k j q => ?_), fun k j a1 a2 a3 => ?_⟩
  · show eG 11 [(b : Int)] r = _
    rw [eG_165]
    unfold eM165
    rw [if_pos ⟨by omega, by omega⟩, z1, if_neg (by decide), if_neg (by decide), if_neg (by decide), if_neg (by decide), if_neg (by decide), if_neg (by decide), if_neg (by decide), if_neg (by decide), if_neg (by decide), if_neg (by decide), if_neg (by decide), if_neg (by decide), if_neg (by decide), if_pos rfl, z2]
    rw [show eG 8 [(b : Int), 13, r 178 (pc + 1), r 205 (b : Int).toNat] (rds (rds r (b : Int)) (b : Int)) = some (some (0, wtE (rds (rds r (b : Int)) (b : Int)) (b : Int) 2 (r 178 (pc + 1)))) from ?_, bo_s]
    rw [eG_170]
    unfold eM170
    rw [if_pos rfl]
  · unfold wtE
    rw [Int.toNat_natCast]
    exact (if_neg (by omega)).trans (if_neg (by omega))
  · unfold wtE
    rw [Int.toNat_natCast]
    by_cases e : k = 207 ∧ j = b
    · exact (if_pos e).trans (if_pos e).symm
    · refine (if_neg e).trans (Eq.trans ?_ (if_neg e).symm)
      by_cases e2 : k = 206 ∧ j = b
      · exact (if_pos e2).trans (if_pos e2).symm
      · exact (if_neg e2).trans ((f2 k j a1 a2 a3).trans (if_neg e2).symm)
theorem o_recv (hb : b < 700) (h : BVx r b pc (S) B) (hp : pc < 25000) (hc : r 178 pc = 14) : ∃ r2, ON1 b r r2 ∧ BVx r2 b (pc + 2) S B ∧ FRb b (up2 (up2 r 206 b 3) 207 b (r 178 (pc + 1))) r2 := by
  obtain ⟨z1, z2, v2, f2⟩ := BV_r2 hb h hp
  rw [hc] at z1
  refine ⟨wtE (rds (rds r (b : Int)) (b : Int)) (b : Int) 3 (r 178 (pc + 1)), ?_, BV_fr v2 (fun k j q => ?_), fun k j a1 a2 a3 => ?_⟩
  · show eG 11 [(b : Int)] r = _
    rw [eG_165]
    unfold eM165
    rw [if_pos ⟨by omega, by omega⟩, z1, if_neg (by decide), if_neg (by decide), if_neg (by decide), if_neg (by decide), if_neg (by decide), if_neg (by decide), if_neg (by decide), if_neg (by decide), if_neg (by decide), if_neg (by decide), if_neg (by decide), if_neg (by decide), if_neg (by decide), if_neg (by decide), if_pos rfl, z2]
    rw [show eG 8 [(b : Int), 14, r 178 (pc + 1), r 205 (b : Int).toNat] (rds (rds r (b : Int)) (b : Int)) = some (some (0, wtE (rds (rds r (b : Int)) (b : Int)) (b : Int) 3 (r 178 (pc + 1)))) from ?_, bo_s]
    rw [eG_170]
    unfold eM170
    rw [if_neg (by decide), if_pos rfl]
  · unfold wtE
    rw [Int.toNat_natCast]
    exact (if_neg (by omega)).trans (if_neg (by omega))
  · unfold wtE
    rw [Int.toNat_natCast]
    by_cases e : k = 207 ∧ j = b
    · exact (if_pos e).trans (if_pos e).symm
    · refine (if_neg e).trans (Eq.trans ?_ (if_neg e).symm)
      by_cases e2 : k = 206 ∧ j = b
      · exact (if_pos e2).trans (if_pos e2).symm
      · exact (if_neg e2).trans ((f2 k j a1 a2 a3).trans (if_neg e2).symm)
theorem o_put1 (hb : b < 700) (h : BVx r b pc (v :: S) B) (hp : pc < 25000) (hc : r 178 pc = 15) (hs : S.length < 10000) {a h9 : Nat} (ha : r 178 (pc + 1) = (a : Int)) (ha4 : a < 4) (hh : r 1630 (4 + a) = (h9 : Int)) (h40 : h9 < 40) : ∃ r2, ON1 b r r2 ∧ BVx r2 b (pc + 2) S B ∧ FRb b (up2 (up2 r (1626 + a) h9 (i2s v)) 1630 (4 + a) ((h9 : Int) + 1)) r2 := by
  obtain ⟨z1, z2, v2, f2⟩ := BV_r2 hb h hp
  rw [hc] at z1
  obtain ⟨z3, v3, f3⟩ := BV_po hb v2 (by omega)
  have f4 := Fb_tr f2 f3
  have eh : rds (rds r (b : Int)) (b : Int) 1630 (4 + a) = (h9 : Int) := (f2 _ _ (by omega) (by omega) (by omega)).trans hh
  have e4 : (ipl 4 (a : Int)).toNat = 4 + a := by rw [ipl_e (by omega)]; omega
  have ex : eG 8 [(b : Int), 15, (a : Int), r 205 (b : Int).toNat] (rds (rds r (b : Int)) (b : Int)) = some (some (0, up2 (up2 (pos (rds (rds r (b : Int)) (b : Int)) (b : Int)) (1626 + a) h9 (i2s v)) 1630 (4 + a) ((h9 : Int) + 1))) := by
    rw [eG_170]
    unfold eM170
    rw [if_neg (by decide), if_neg (by decide), if_pos rfl, e4, eh, if_neg (by omega), z3, Int.toNat_natCast, show 1622 + (4 + a) = 1626 + a by omega]
    rw [show (up2 (pos (rds (rds r (b : Int)) (b : Int)) (b : Int)) (1626 + a) h9 (i2s v)) 1630 (4 + a) = (h9 : Int) from (if_neg (by omega)).trans ((f3 _ _ (by omega) (by omega) (by omega)).trans eh), ipl_e (by omega)]
  refine ⟨up2 (up2 (pos (rds (rds r (b : Int)) (b : Int)) (b : Int)) (1626 + a) h9 (i2s v)) 1630 (4 + a) ((h9 : Int) + 1), ?_, BV_fr v3 (fun k j q => (if_neg (by omega)).trans (if_neg (by omega))), fun k j a1 a2 a3 => ?_⟩
  · show eG 11 [(b : Int)] r = _
    rw [eG_165]
    unfold eM165
    rw [if_pos ⟨by omega, by omega⟩, z1, if_neg (by decide), if_neg (by decide), if_neg (by decide), if_neg (by decide), if_neg (by decide), if_neg (by decide), if_neg (by decide), if_neg (by decide), if_neg (by decide), if_neg (by decide), if_neg (by decide), if_neg (by decide), if_neg (by decide), if_neg (by decide), if_neg (by decide), if_pos rfl, z2, ha]
    rw [ex, bo_s]
  · by_cases e : k = 1630 ∧ j = 4 + a
    · exact (if_pos e).trans (if_pos e).symm
    · refine (if_neg e).trans (Eq.trans ?_ (if_neg e).symm)
      by_cases e2 : k = 1626 + a ∧ j = h9
      · exact (if_pos e2).trans (if_pos e2).symm
      · exact (if_neg e2).trans ((f4 k j a1 a2 a3).trans (if_neg e2).symm)
theorem o_put0 (hb : b < 700) (h : BVx r b pc (S) B) (hp : pc < 25000) (hc : r 178 pc = 15) {a : Nat} (ha : r 178 (pc + 1) = (a : Int)) (ha4 : a < 4) (hh : 40 ≤ r 1630 (4 + a)) : ∃ r2, ON1 b r r2 ∧ BVx r2 b pc S B ∧ FRb b (up2 (up2 r 206 b 4) 207 b (a : Int)) r2 := by
  obtain ⟨z1, z2, v2, f2⟩ := BV_r2 hb h hp
  rw [hc] at z1
  have e4 : (ipl 4 (a : Int)).toNat = 4 + a := by rw [ipl_e (by omega)]; omega
  have ex : eG 8 [(b : Int), 15, (a : Int), r 205 (b : Int).toNat] (rds (rds r (b : Int)) (b : Int)) = some (some (0, wtE (up2 (rds (rds r (b : Int)) (b : Int)) 205 b (pc : Int)) (b : Int) 4 (a : Int))) := by
    rw [eG_170]
    unfold eM170
    rw [if_neg (by decide), if_neg (by decide), if_pos rfl, e4, if_pos (by rw [f2 _ _ (by omega) (by omega) (by omega)]; exact hh)]
    rw [Int.toNat_natCast, h.1]
  refine ⟨wtE (up2 (rds (rds r (b : Int)) (b : Int)) 205 b (pc : Int)) (b : Int) 4 (a : Int), ?_, BV_fr (BV_pc v2) (fun k j q => ?_), fun k j a1 a2 a3 => ?_⟩
  · show eG 11 [(b : Int)] r = _
    rw [eG_165]
    unfold eM165
    rw [if_pos ⟨by omega, by omega⟩, z1, if_neg (by decide), if_neg (by decide), if_neg (by decide), if_neg (by decide), if_neg (by decide), if_neg (by decide), if_neg (by decide), if_neg (by decide), if_neg (by decide), if_neg (by decide), if_neg (by decide), if_neg (by decide), if_neg (by decide), if_neg (by decide), if_neg (by decide), if_pos rfl, z2, ha]
    rw [ex, bo_s]
  · unfold wtE
    rw [Int.toNat_natCast]
    exact (if_neg (by omega)).trans (if_neg (by omega))
  · unfold wtE
    rw [Int.toNat_natCast]
    by_cases e : k = 207 ∧ j = b
    · exact (if_pos e).trans (if_pos e).symm
    · refine (if_neg e).trans (Eq.trans ?_ (if_neg e).symm)
      by_cases e2 : k = 206 ∧ j = b
      · exact (if_pos e2).trans (if_pos e2).symm
      · exact (if_neg e2).trans ((Fb_tr f2 Fb_pc k j a1 a2 a3).trans (if_neg e2).symm)
theorem o_get0 (hb : b < 700) (h : BVx r b pc (S) B) (hp : pc < 25000) (hc : r 178 pc = 16) {a : Nat} (ha : r 178 (pc + 1) = (a : Int)) (ha4 : a < 4) (hh : r 1630 a ≤ 0) : ∃ r2, ON1 b r r2 ∧ BVx r2 b pc S B ∧ FRb b (up2 (up2 r 206 b 5) 207 b (a : Int)) r2 := by
  obtain ⟨z1, z2, v2, f2⟩ := BV_r2 hb h hp
  rw [hc] at z1
  have e4 : (ipl 4 (a : Int)).toNat = 4 + a := by rw [ipl_e (by omega)]; omega
  have ex : eG 8 [(b : Int), 16, (a : Int), r 205 (b : Int).toNat] (rds (rds r (b : Int)) (b : Int)) = some (some (0, wtE (up2 (rds (rds r (b : Int)) (b : Int)) 205 b (pc : Int)) (b : Int) 5 (a : Int))) := by
    rw [eG_170]
    unfold eM170
    rw [if_neg (by decide), if_neg (by decide), if_neg (by decide), Int.toNat_natCast, if_pos (by rw [f2 _ _ (by omega) (by omega) (by omega)]; exact hh)]
    rw [Int.toNat_natCast, h.1]
  refine ⟨wtE (up2 (rds (rds r (b : Int)) (b : Int)) 205 b (pc : Int)) (b : Int) 5 (a : Int), ?_, BV_fr (BV_pc v2) (fun k j q => ?_), fun k j a1 a2 a3 => ?_⟩
  · show eG 11 [(b : Int)] r = _
    rw [eG_165]
    unfold eM165
    rw [if_pos ⟨by omega, by omega⟩, z1, if_neg (by decide), if_neg (by decide), if_neg (by decide), if_neg (by decide), if_neg (by decide), if_neg (by decide), if_neg (by decide), if_neg (by decide), if_neg (by decide), if_neg (by decide), if_neg (by decide), if_neg (by decide), if_neg (by decide), if_neg (by decide), if_neg (by decide), if_neg (by decide), if_pos rfl, z2, ha]
    rw [ex, bo_s]
  · unfold wtE
    rw [Int.toNat_natCast]
    exact (if_neg (by omega)).trans (if_neg (by omega))
  · unfold wtE
    rw [Int.toNat_natCast]
    by_cases e : k = 207 ∧ j = b
    · exact (if_pos e).trans (if_pos e).symm
    · refine (if_neg e).trans (Eq.trans ?_ (if_neg e).symm)
      by_cases e2 : k = 206 ∧ j = b
      · exact (if_pos e2).trans (if_pos e2).symm
      · exact (if_neg e2).trans ((Fb_tr f2 Fb_pc k j a1 a2 a3).trans (if_neg e2).symm)
end OPS
