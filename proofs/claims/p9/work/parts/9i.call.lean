/-! Calls, in both. -/
section CALL
variable {T : Nat → Int} {n e N : Nat} {g : Gtt} {s t s2 t2 : tab} {rc : MRq}
theorem bo_up {i : Nat} {xs : List Int} {k : Int → tab → RO} {v : Option (Int × tab)} (hrc : rle rc rG) (h : bo (rc i xs t) k = some v) : bo (rG i xs t) k = some v := by
  rcases bo_inv h with ⟨e1, e2⟩ | ⟨z1, t1, e1, e2⟩
  · rw [hrc _ _ _ _ e1, e2]
    rfl
  · rw [hrc _ _ _ _ e1, bo_s]
    exact e2
/-- the masks behind a call -/
def mk5 (t : tab) (r : Int) : tab := up2 (up2 (up2 (up2 (up2 t 170 22 (lo (t 170 22) (t 195 r.toNat))) 170 23 (lo (t 170 23) (t 196 r.toNat))) 170 24 (lo (t 170 24) (t 197 r.toNat))) 170 25 (lo (t 170 25) (t 198 r.toNat))) 170 26 (lo (t 170 26) (t 199 r.toNat))
def cm5 (s : tab) (r : Int) : tab := up2 (up2 (up2 s 131 7 (lo (s 131 7) (s 134 r.toNat))) 131 8 (lo (s 131 8) (s 135 r.toNat))) 131 9 (lo (s 131 9) (lo (s 136 r.toNat) (lsl 1 (24 + r))))
theorem cm5_o {r : Int} : ∀ k j, ¬ (k = 131 ∧ (j = 7 ∨ j = 8 ∨ j = 9)) → (cm5 s r) k j = s k j := fun k j a => (if_neg (by omega)).trans ((if_neg (by omega)).trans (if_neg (by omega)))
theorem mk5_o {r : Int} : ∀ k j, ¬ (k = 170 ∧ 22 ≤ j ∧ j ≤ 26) → (mk5 t r) k j = t k j := fun k j a => (if_neg (by omega)).trans ((if_neg (by omega)).trans ((if_neg (by omega)).trans ((if_neg (by omega)).trans (if_neg (by omega)))))
theorem mk5_m {r : Int} : (mk5 t r) 170 22 = lo (t 170 22) (t 195 r.toNat) ∧ (mk5 t r) 170 23 = lo (t 170 23) (t 196 r.toNat) ∧ (mk5 t r) 170 24 = lo (t 170 24) (t 197 r.toNat) ∧ (mk5 t r) 170 25 = lo (t 170 25) (t 198 r.toNat) ∧ (mk5 t r) 170 26 = lo (t 170 26) (t 199 r.toNat) := ⟨rfl, rfl, rfl, rfl, rfl⟩
theorem mk5_g {r : Int} : MGx t (mk5 t r) := fun j q1 q2 v w => by
  obtain ⟨e1, e2, e3, e4, e5⟩ := mk5_m (t := t) (r := r)
  have : j = 22 ∨ j = 23 ∨ j = 24 ∨ j = 25 ∨ j = 26 := by omega
  rcases this with rfl | rfl | rfl | rfl | rfl
  · rw [e1]; exact mbt_lo.mpr (.inl w)
  · rw [e2]; exact mbt_lo.mpr (.inl w)
  · rw [e3]; exact mbt_lo.mpr (.inl w)
  · rw [e4]; exact mbt_lo.mpr (.inl w)
  · rw [e5]; exact mbt_lo.mpr (.inl w)
theorem RE_call (h : REx T n e N g s t) {r : Int} (r0 : 0 ≤ r) (r1 : r < s 109 5) (r2 : r ≠ s 131 13) (rf : t 170 37 ≠ 0 → g.2.2.2.1.2.2 r.toNat) : REx T n e N g (cm5 s r) (mk5 t r) ∧ FEc s (cm5 s r) ∧ FEr t (mk5 t r) ∧ (cm5 s r) 137 5 = s 137 5 := by
  have hv := h.2.2.2.2.2.2 r.toNat (by omega) (by omega)
  have key : REx T n e N g (cm5 s r) (mk5 t r) ∧ FEc s (cm5 s r) ∧ FEr t (mk5 t r) := by
    refine RE_mask h cm5_o mk5_o ⟨rfl, rfl, h.2.2.2.1.2.2.2.2.2.2⟩ ⟨⟨fun k q => ?_, fun v q => ?_, fun q v => ?_⟩, h.2.2.2.2.1.2⟩ ?_
    · rw [mk5_m.2.2.2.2] at q
      rcases mbt_lo.mp q with q | q
      · exact h.2.2.2.2.1.1.1 k q
      · have := hv.2.2.2.2.1 k q
        exact ⟨by omega, this.2⟩
    · rw [mk5_m.1, mk5_m.2.1] at q
      rcases q with q | q
      · rcases mbt_lo.mp q with q | q
        · exact h.2.2.2.2.1.1.2.1 v (.inl q)
        · exact hv.2.2.2.2.2.2.2.2.2.2.2.1 v (.inl q)
      · rcases mbt_lo.mp q with q | q
        · exact h.2.2.2.2.1.1.2.1 v (.inr q)
        · exact hv.2.2.2.2.2.2.2.2.2.2.2.1 v (.inr q)
    · rw [mk5_o 170 37 (by omega)] at q
      rw [mk5_m.2.2.1, mk5_m.2.2.2.1]
      have f1 := h.2.2.2.2.1.1.2.2 q v
      have f2 := hv.2.2.2.2.2.2.2.2.2.2.2.2 (rf q) v
      exact ⟨fun w => (mbt_lo.mp w).elim f1.1 f2.1, fun w => (mbt_lo.mp w).elim f1.2 f2.2⟩
    obtain ⟨m1, m2, m3, m4⟩ := h.2.2.1
    obtain ⟨_, q2, q3, q4, q5⟩ := h.2.1.2.2.1 r.toNat (by omega) (by omega)
    rw [show ((r.toNat : Nat) : Int) = r by omega] at q4
    refine ⟨?_, ?_, ?_, MB_lo m4 q5⟩
    · show lo (s 131 7) (s 134 r.toNat) = lo g.1 (lo (lo (t 170 23) (t 196 r.toNat)) (lo (t 170 22) (t 195 r.toNat)))
      rw [m1, q2]
      simp only [lo_assoc, lo_comm, lo_lc]
    · show lo (s 131 8) (s 135 r.toNat) = lo g.2.1 (lo (t 170 22) (t 195 r.toNat))
      rw [m2, q3, lo_0m]
    · show lo (s 131 9) (lo (s 136 r.toNat) (lsl 1 (24 + r))) = lo g.2.2.1 (pkm (lo (t 170 24) (t 197 r.toNat)) (lo (t 170 25) (t 198 r.toNat)) (lo (t 170 26) (t 199 r.toNat)))
      rw [m3, q4, pkm_lo, lo_assoc]
  exact ⟨key.1, key.2.1, key.2.2, cm5_o 137 5 (by omega)⟩
/-- what a call may touch is in reach behind it -/
theorem SB_call (h : REx T n e N g s t) {r : Int} (r0 : 0 ≤ r) (r1 : r < s 109 5) (r2 : r ≠ s 131 13) (hm : MGx (mk5 t r) t2) : SBx (g.2.2.2.1.2.1 r.toNat) (cxt g s2 t2) ∧ (cxt g s2 t2).2.2.2 (24 + r.toNat) := by
  obtain ⟨_, _, ⟨P, hP⟩, h4, h5, h6, _⟩ := h.2.2.2.2.2.2 r.toNat (by omega) (by omega)
  obtain ⟨e1, e2, e3, e4, e5⟩ := mk5_m (t := t) (r := r)
  have k : ∀ j, 22 ≤ j → j ≤ 26 → ∀ v, mbt ((mk5 t r) 170 j) v → mbt (t2 170 j) v := hm
  have ka : ∀ v, mbt (t 195 r.toNat) v → mbt (t2 170 22) v := fun v q => k 22 (by omega) (by omega) v (by rw [e1]; exact mbt_lo.mpr (.inr q))
  have kb : ∀ v, mbt (t 196 r.toNat) v → mbt (t2 170 23) v := fun v q => k 23 (by omega) (by omega) v (by rw [e2]; exact mbt_lo.mpr (.inr q))
  have kc : ∀ v, mbt (t 197 r.toNat) v → mbt (t2 170 24) v := fun v q => k 24 (by omega) (by omega) v (by rw [e3]; exact mbt_lo.mpr (.inr q))
  have kd : ∀ v, mbt (t 198 r.toNat) v → mbt (t2 170 25) v := fun v q => k 25 (by omega) (by omega) v (by rw [e4]; exact mbt_lo.mpr (.inr q))
  have ke : ∀ v, mbt (t 199 r.toNat) v → mbt (t2 170 26) v := fun v q => k 26 (by omega) (by omega) v (by rw [e5]; exact mbt_lo.mpr (.inr q))
  refine ⟨⟨fun z q => (h6 z q).2.elim fun k w => .inr ⟨k, ke _ w.1, w.2⟩, fun v q => ?_, fun v q => ?_, fun k q => ?_⟩, .inr (.inr ⟨by omega, by rw [show 24 + r.toNat - 24 = r.toNat by omega]; exact ke _ h4⟩)⟩
  · rw [hP] at q
    exact q.imp (kb v) (ka v)
  · rw [hP] at q
    exact ka v q
  · rw [hP] at q
    rcases q with ⟨q1, q2⟩ | ⟨q1, q2, q3⟩ | ⟨q1, q2⟩
    · exact .inl ⟨q1, kc _ q2⟩
    · exact .inr (.inl ⟨q1, q2, kd _ q3⟩)
    · exact .inr (.inr ⟨q1, ke _ q2⟩)
/-- the stores and the call itself -/
def OMx (t : tab) (i r : Int) (k : Nat) (v : Option (Int × tab)) : Prop := ∃ t3, CWx t t3 (2 * k + 2) ∧ (∀ j, j < k → t3 178 ((t 177 1).toNat + 2 * j) = 5 ∧ t3 178 ((t 177 1).toNat + 2 * j + 1) = ipl (t 202 r.toNat) ((k - 1 - j : Nat) : Int)) ∧ t3 178 ((t 177 1).toNat + 2 * k) = 11 ∧ t3 178 ((t 177 1).toNat + 2 * k + 1) = t 200 r.toNat ∧ (i ≠ 0 → v = some (1, mk5 t3 r)) ∧ (i = 0 → bo (rG 8 [30] (mk5 t3 r)) (fun z t2 => if z = 0 then some (some (0, t2)) else some (some (1, t2))) = some v)
def PMx (rc : MRq) : Prop := ∀ (t : tab) (i r m : Int) (k : Nat) (v : Option (Int × tab)), 0 ≤ t 177 1 → t 177 1 + 2 * (k : Int) ≤ 90000 → m = (k : Int) - 1 → rc 55 [i, r, m] t = some v → OMx t i r k v
theorem p_M (hrc : rle rc rG) (hM : PMx rc) : ∀ (t : tab) (i r m : Int) (k : Nat) (v : Option (Int × tab)), 0 ≤ t 177 1 → t 177 1 + 2 * (k : Int) ≤ 90000 → m = (k : Int) - 1 → rM150_128 rc i r m t = some v → OMx t i r k v := by
  intro t i r m k v h0 h1 hk h
  unfold rM150_128 at h
  by_cases hm : m < 0
  · rw [if_pos hm] at h
    have k0 : k = 0 := by omega
    subst k0
    obtain ⟨t3, ht3⟩ : ∃ t3, t3 = pt2 t 11 (t 200 r.toNat) := ⟨_, rfl⟩
    obtain ⟨c1, c2, c3⟩ := pt2_cw (t := t) 11 (t 200 r.toNat) (by omega)
    rw [← ht3] at h c1 c2 c3
    have em : mk5 t3 r = up2 (up2 (up2 (up2 (up2 t3 170 22 (lo (t 170 22) (t 195 r.toNat))) 170 23 (lo (t 170 23) (t 196 r.toNat))) 170 24 (lo (t 170 24) (t 197 r.toNat))) 170 25 (lo (t 170 25) (t 198 r.toNat))) 170 26 (lo (t 170 26) (t 199 r.toNat)) := by
      unfold mk5
      rw [CW_k (k := 170) (j := 22) c1 (by omega), CW_k (k := 170) (j := 23) c1 (by omega), CW_k (k := 170) (j := 24) c1 (by omega), CW_k (k := 170) (j := 25) c1 (by omega), CW_k (k := 170) (j := 26) c1 (by omega), CW_k (k := 195) c1 (by omega), CW_k (k := 196) c1 (by omega), CW_k (k := 197) c1 (by omega), CW_k (k := 198) c1 (by omega), CW_k (k := 199) c1 (by omega)]
    rw [← em] at h
    refine ⟨t3, c1, fun j q => absurd q (by omega), c2, c3, fun hi => ?_, fun hi => ?_⟩
    · rw [if_pos hi] at h
      exact (Option.some.inj h).symm
    · rw [if_neg (fun q => q hi)] at h
      exact bo_up hrc h
  · rw [if_neg hm] at h
    obtain ⟨k, rfl⟩ : ∃ k2, k = k2 + 1 := ⟨k - 1, by omega⟩
    obtain ⟨c1, c2, c3⟩ := pt2_cw (t := t) 5 (ipl (t 202 r.toNat) m) (by omega)
    obtain ⟨t1, ht1⟩ : ∃ t1, t1 = pt2 t 5 (ipl (t 202 r.toNat) m) := ⟨_, rfl⟩
    rw [← ht1] at h c1 c2 c3
    have e1 := c1.1
    obtain ⟨t3, d1, d2, d3, d4, d5⟩ := hM t1 i r (m + (-1)) k v (by omega) (by omega) (by omega) h
    have ep : (t1 177 1).toNat = (t 177 1).toNat + 2 := by omega
    rw [ep] at d2 d3 d4
    rw [CW_k (k := 202) c1 (by omega)] at d2
    rw [CW_k (k := 200) c1 (by omega)] at d4
    have dd := CW_tr h0 c1 d1
    refine ⟨t3, ?_, fun j q => ?_, ?_, ?_, d5⟩
    · rw [show 2 * (k + 1) + 2 = 2 + (2 * k + 2) by omega]
      exact dd
    · by_cases e : j = 0
      · subst e
        refine ⟨(d1.2 _ _ (by omega) (by omega)).trans c2, ((d1.2 _ _ (by omega) (by omega)).trans c3).trans ?_⟩
        rw [show ((k + 1 - 1 - 0 : Nat) : Int) = m by omega]
      · obtain ⟨j, rfl⟩ : ∃ j2, j = j2 + 1 := ⟨j - 1, by omega⟩
        have := d2 j (by omega)
        rw [show (t 177 1).toNat + 2 * (j + 1) = (t 177 1).toNat + 2 + 2 * j by omega, show k + 1 - 1 - (j + 1) = k - 1 - j by omega]
        exact this
    · rw [show (t 177 1).toNat + 2 * (k + 1) = (t 177 1).toNat + 2 + 2 * k by omega]
      exact d3
    · rw [show (t 177 1).toNat + 2 * (k + 1) + 1 = (t 177 1).toNat + 2 + 2 * k + 1 by omega]
      exact d4
/-- a call in an E, or a STATEMENT with its ; -/
noncomputable def XCx (i : Int) (X : RO) : RO := if i ≠ 0 then X else bo X fun z s1 => bo (cG 29 [59] s1) fun _ s2 => some (some (z, s2))
theorem XC_no {i : Int} : XCx i (some none) = some none := by
  unfold XCx
  split <;> rfl
/-- how a call ends -/
def CLx (g : Gtt) (r : Int) (s t s2 t2 : tab) : Prop := s2 100 (s2 99 12 - 1).toNat = 404 ∧ s2 101 (s2 99 12 - 1).toNat = r ∧ s 99 12 < s2 99 12 ∧ CLk s2 t2 g.2.2.2.1 (CO s2 t2 g.2.2.2.1) (s 99 12).toNat (s2 99 12 - 1).toNat (t 177 1).toNat (t2 177 1).toNat (cxt g s2 t2)
def OCx (T : Nat → Int) (n e N : Nat) (g : Gtt) (r : Int) (s t : tab) (X : RO) (v : Option (Int × tab)) : Prop := ∃ z t2, v = some (z, t2) ∧ ((z = 1 ∧ ∃ s2, X = some (some (s2 99 12 - 1, s2)) ∧ REx T n e N g s2 t2 ∧ FEc s s2 ∧ FEr t t2 ∧ s 137 5 < s2 137 5 ∧ CLx g r s t s2 t2 ∧ EMr s t s2 t2) ∨ (z = 0 ∧ X = some none))
theorem OC_no {X : RO} {r : Int} {t9 : tab} (h : X = some none) : OCx T n e N g r s t X (some (0, t9)) := ⟨0, t9, rfl, .inr ⟨rfl, h⟩⟩
/-- the E of a call so far: k of them, the first y4, the last y5 -/
def CAx (g : Gtt) (s0 t0 s t : tab) (k : Nat) (y4 y5 : Int) : Prop := (CO s t g.2.2.2.1 2 k (s0 99 12).toNat (s 99 12).toNat y4 ((t0 177 1).toNat + 1) (t 177 1).toNat 0 0 0 (cxt g s t) ∧ t 178 (t0 177 1).toNat = 0 ∧ (k = 0 → y4 = -1 ∧ y5 = -1) ∧ (0 < k → y5 = s 99 12 - 1)) ∧ (PFx s0 t0 s t ∧ FEc s0 s ∧ FEr t0 t) ∧ (s 99 12 + s0 137 5 + 2 ≤ s0 99 12 + s 137 5 ∧ t 177 1 + 12 * (s0 137 5 + 2) ≤ t0 177 1 + 1 + 12 * s 137 5 ∧ t 177 10 = t0 177 10) ∧ (0 ≤ s0 99 12 ∧ s0 99 12 + s0 131 6 ≤ s0 137 5 ∧ 0 ≤ t0 177 1 ∧ t0 177 1 ≤ 12 * s0 137 5 ∧ ((g.2.2.2.2.1 + g.2.2.2.2.2 : Nat) : Int) ≤ s0 99 12)
theorem CA_up {s0 t0 : tab} {k : Nat} {y4 y5 : Int} (h : CAx g s0 t0 s t k y4 y5) (hp : PWx s t s2 t2) (hc : FEc s s2) (hr : FEr t t2) : CAx g s0 t0 s2 t2 k y4 y5 := by
  obtain ⟨⟨a1, a2, a3, a4⟩, ⟨b1, b2, b3⟩, ⟨c1, c2, c3⟩, d1, d2, d3, d4, d5⟩ := h
  obtain ⟨p1, p2, p3, p4⟩ := hp
  have h5 := hc.2.2.2
  have l := CO_le a1
  have k1 := EM_up a1 (by have := b1.1.1; omega) (by omega) (fun q => absurd q (by omega)) p1
  rw [← p2, ← p3] at k1
  refine ⟨⟨k1, (p1.2.1.2 _ (by omega)).trans a2, a3, fun q => by rw [p2]; exact a4 q⟩, ⟨PF_tr b1 p1, FEc_tr b2 hc, FEr_tr b3 hr⟩, ⟨by omega, by omega, p4.trans c3⟩, d1, d2, d3, d4, d5⟩
def PCLx (rc : MRq) : Prop := ∀ (T : Nat → Int) (n e N : Nat) (g : Gtt) (s0 t0 s t : tab) (x i r y4 y5 : Int) (k : Nat) (v : Option (Int × tab)), REx T n e N g s t → 0 ≤ x → x ≤ 20 → 0 ≤ s 131 6 → s 131 6 ≤ 10 * x → 0 ≤ r → r < s 109 5 → r ≠ s 131 13 → (t0 170 37 ≠ 0 → g.2.2.2.1.2.2 r.toNat) → (k : Int) ≤ s 137 5 → CAx g s0 t0 s t k y4 y5 → rc 54 [x, i, r, (k : Int)] t = some v → OCx T n e N g r s0 t0 (XCx i (cG 65 [r, x, y4, y5, (k : Int)] s)) v
/-- behind the last E of a call -/
theorem p_fin (hrc : rle rc rG) (hM : PMx rc) {s0 t0 : tab} {i r y4 y5 : Int} {k : Nat} {v : Option (Int × tab)} (hR : REx T n e N g s t) (b0 : 0 ≤ s 131 6) (r0 : 0 ≤ r) (r1 : r < s 109 5) (r2 : r ≠ s 131 13) (rf : t0 170 37 ≠ 0 → g.2.2.2.1.2.2 r.toNat) (hk : kkd s = 41) (hkr : (k : Int) = s 112 r.toNat) (hca : CAx g s0 t0 s t k y4 y5) (h : (bo (rc 4 [] t) fun z10 t10 => rc 55 [i, r, imi (k : Int) 1] t10) = some v) : OCx T n e N g r s0 t0 (XCx i (some (some (cadz (cm5 (stp s) r), cad (cm5 (stp s) r) 404 r y4 (k : Int))))) v := by
  obtain ⟨t2, a1, a2, a3, a4, a5⟩ := RE_step hR (by omega) (by omega)
  have pst := PF_stp hR.1 (by omega) (by omega) a1
  have h := bxr hrc a1 h
  try dsimp only at h
  have hv := hR.2.2.2.2.2.2 r.toNat (by omega) (by omega)
  obtain ⟨v1, v2, v3, v4, v5, v6, v7, v8, v9, v10, v11, v12, v13⟩ := hv
  have hca2 := CA_up hca pst a3 a4
  obtain ⟨⟨w1, w2, w3, w4⟩, ⟨w5, w6, w7⟩, ⟨w8, w9, w10⟩, w11, w12, w13, w14, w15⟩ := hca2
  obtain ⟨_, _, ⟨x8, x9, _⟩, _⟩ := hca
  obtain ⟨u1, u2, u3, u4, u5, u6, u7⟩ := a2.2.2.2.1
  have hin := RL_in a2.1
  have pe := pst.2.2.1
  have c6 := w6.2.1
  have a36 := a3.2.1
  rw [imi_e (by omega)] at h
  obtain ⟨t3, d1, d2, d3, d4, d5, d6⟩ := hM t2 i r _ k v u3 (by omega) rfl h
  have e3 := d1.1
  obtain ⟨r3, r4, r5, r6⟩ := RE_cw a2 d1 (by omega)
  have e109 : (stp s) 109 5 = s 109 5 := a3.1 109 5 (by omega) (by omega) (by omega)
  have e13 : (stp s) 131 13 = s 131 13 := a3.1 131 13 (by omega) (by omega) (by omega)
  obtain ⟨b1, b2, b3, b4⟩ := RE_call r3 r0 (by omega) (by omega) (fun q => rf (by rw [CW_k (k := 170) (j := 37) d1 (by omega), w7 170 37 (by omega)] at q; exact q))
  have pn : PWx (stp s) t3 (cm5 (stp s) r) (mk5 t3 r) := PN_mk cm5_o mk5_o mk5_g
  obtain ⟨s4, hs4⟩ : ∃ s4, s4 = cm5 (stp s) r := ⟨_, rfl⟩
  obtain ⟨t4, ht4⟩ : ∃ t4, t4 = mk5 t3 r := ⟨_, rfl⟩
  have hsb : SBx (g.2.2.2.1.2.1 r.toNat) (cxt g (cad s4 404 r y4 (k : Int)) t4) ∧ (cxt g (cad s4 404 r y4 (k : Int)) t4).2.2.2 (24 + r.toNat) := SB_call r3 r0 (by omega) (by omega) (by rw [ht4]; exact MG_rf)
  rw [← hs4, ← ht4] at pn
  rw [← hs4] at b1 b2 b4
  rw [← ht4] at b1 b3
  have o4 : ∀ k j, ¬ (k = 131 ∧ (j = 7 ∨ j = 8 ∨ j = 9)) → s4 k j = (stp s) k j := by rw [hs4]; exact cm5_o
  have o4t : ∀ k j, ¬ (k = 170 ∧ 22 ≤ j ∧ j ≤ 26) → t4 k j = t3 k j := by rw [ht4]; exact mk5_o
  have e46 : s4 131 6 = (stp s) 131 6 := o4 131 6 (by omega)
  have p12 := pn.2.1
  obtain ⟨s5, hs5⟩ : ∃ s5, s5 = cad s4 404 r y4 (k : Int) := ⟨_, rfl⟩
  obtain ⟨f1, f2, ⟨f3, f4, f5, f6, f7⟩, f8, f9, f10, f11⟩ := RE_cad b1 (by omega) hs5 (by omega)
  rw [← hs4, f1, ← hs5]
  rw [← hs5] at hsb
  have hx : s5 99 12 - 1 = s4 99 12 := by omega
  have e5 : s5 137 5 = s4 137 5 := f8 137 5 (by omega) (by omega)
  have pf5 : PFx (stp s) t2 s5 t4 := PF_tr r5 (PF_tr pn.1 f11)
  have hco := CO_le w1
  have h113 : s5 113 r.toNat = s 113 r.toNat := (f8 113 _ (by omega) (by omega)).trans ((o4 113 _ (by omega)).trans (a3.1 113 _ (by omega) (by omega) (by omega)))
  have t41 : t4 177 1 = t3 177 1 := o4t 177 1 (by omega)
  have t178 : ∀ i, t4 178 i = t3 178 i := fun i => o4t 178 i (by omega)
  have h202 : t2 202 r.toNat = s 113 r.toNat := (a4 202 _ (by omega)).trans v2
  have h200 : t2 200 r.toNat = g.2.2.2.1.1 r.toNat := (a4 200 _ (by omega)).trans v1
  have clx : CLx g r s0 t0 s5 t4 := by
    unfold CLx
    rw [hx]
    refine ⟨f3, f4, by omega, r.toNat, k, (t2 177 1).toNat, by rw [f4]; omega, by have := hR.2.1.2.1 5 (by omega); have h12 : LIM 5 = 12 := rfl; omega, f6, by omega, ?_, ?_, fun j q => ?_, ?_, ?_, by omega, hsb.2, hsb.1, by omega, by omega, fun j q => ?_, fun z q => ?_⟩
    · exact (pf5.2.1.2 _ (by omega)).trans w2
    · rw [f5, p12]
      exact EM_up w1 (by omega) (by omega) (fun q => absurd q (by omega)) pf5
    · obtain ⟨q1, q2⟩ := d2 j q
      rw [t178, t178, q1, q2, h202, h113, ipl_e (by omega)]
      exact ⟨rfl, rfl⟩
    · rw [t178]; exact d3
    · rw [t178, d4]; exact h200
    · rw [h113]
      exact hsb.1.2.2.1 _ (v11 j (by omega))
    · have := (v6 z q).1
      omega
  have emr : EMr s0 t0 s5 t4 := ⟨by rw [hx]; exact f7, PF_tr w5 pf5, by omega, by omega, by have := pn.2.2.2; omega⟩
  have fc5 : FEc s0 s5 := FEc_tr w6 (FEc_tr b2 f10)
  have fr5 : FEr t0 t4 := FEr_tr w7 (FEr_tr r4 b3)
  by_cases hi : i ≠ 0
  · rw [d5 hi, ← ht4]
    refine ⟨1, _, rfl, .inl ⟨rfl, s5, ?_, f9, fc5, fr5, by omega, clx, emr⟩⟩
    rw [hx]
    exact if_pos hi
  · have h2 := d6 (by omega)
    rw [← ht4] at h2
    have hx5 : XCx i (some (some (s4 99 12, s5))) = bo (cG 29 [59] s5) fun _ s2 => some (some (s4 99 12, s2)) := if_neg hi
    rw [hx5]
    rcases RE_take f9 is_30 (by decide) with ⟨t6, c1, c2, c3, c4, c5, c6, c7⟩ | ⟨c1, c2, c3⟩
    · have pt := PF_take f9 is_30 (by decide) c2 c1
      rw [c1, bo_s, if_neg (by decide)] at h2
      cases h2
      have e12 := pt.2.1
      refine ⟨1, t6, rfl, .inl ⟨rfl, stp s5, by rw [c3, bo_s, e12, hx], c4, FEc_tr fc5 c5, FEr_tr fr5 c6, by omega, ?_, ?_⟩⟩
      · obtain ⟨g1, g2, g3, r', n', m', k1, k2, k3, k4, k5, k6, k7, k8, k9, k10, k11, k12, k13, k14, k15, k16⟩ := clx
        have hl := CO_le k6
        have op : ∀ k j : Nat, 100 ≤ k → k ≤ 104 → (j : Int) < s5 99 12 → (stp s5) k j = s5 k j := pt.1.1.2
        have ot : ∀ j : Nat, (j : Int) < t4 177 1 → t6 178 j = t4 178 j := pt.1.2.1.2
        have sb := cxt_sb (g := g) pt.1.1.1 pt.1.2.2.2.1
        have et1 := pt.2.2.1
        have y113 := pt.1.2.2.2.2.2 r'
        unfold CLx
        rw [e12, et1]
        refine ⟨(op _ _ (by omega) (by omega) (by omega)).trans g1, (op _ _ (by omega) (by omega) (by omega)).trans g2, g3, r', n', m', (op _ _ (by omega) (by omega) (by omega)).trans k1, k2, (op _ _ (by omega) (by omega) (by omega)).trans k3, k4, (ot _ (by omega)).trans k5, ?_, fun j q => ?_, (ot _ (by omega)).trans k8, (ot _ (by omega)).trans k9, k10, sb.2.2.2 _ k11, SB_tr k12 sb, by omega, by omega, fun j q => ?_, k16⟩
        · rw [op 102 _ (by omega) (by omega) (by omega)]
          exact EM_up k6 (by omega) (by omega) (fun q => absurd q (by omega)) pt.1
        · rw [ot _ (by omega), ot _ (by omega), y113]
          exact k7 j q
        · rw [y113]
          exact sb.2.2.1 _ (k15 j q)
      · obtain ⟨g1, g2, g3, g4, g5⟩ := emr
        have := pt.2.2.1
        have := pt.2.2.2
        refine ⟨?_, PF_tr g2 pt.1, by omega, by omega, by omega⟩
        rw [e12]
        exact (pt.1.1.2 _ _ (by omega) (by omega) (by omega)).trans g1
    · rw [c1, bo_s, if_pos rfl] at h2
      cases h2
      exact OC_no (by rw [c3, bo_n])
theorem c_args {r x y4 y5 m : Int} (h0 : 0 ≤ m) (hm : m < 2000 ∨ kkd s = 3 ∨ kkd s = 4) : cG 65 [r, x, y4, y5, m] s = if m = 0 ∧ kkd s ≠ 41 ∧ m < 2000 then bo (cG 40 [x] s) (fun z s1 => cG 65 [r, x, if 0 < m then y4 else z, z, m + 1] (lnk s1 y5 z)) else if m ≠ 0 ∧ kkd s = 44 ∧ m < 2000 then bo (cG 40 [x] (stp s)) (fun z s1 => cG 65 [r, x, if 0 < m then y4 else z, z, m + 1] (lnk s1 y5 z)) else if kkd s ≠ 41 then some none else if m ≠ prm s r then some none else some (some (cadz (cm5 (stp s) r), cad (cm5 (stp s) r) 404 r y4 m)) := by
  rw [cG_65_36]
  conv => lhs; unfold cM65_36
  by_cases c1 : 2000 ≤ m
  · rw [if_pos c1, if_neg (show ¬ (m = 0 ∧ kkd s ≠ 41 ∧ m < 2000) by omega), if_neg (show ¬ (m ≠ 0 ∧ kkd s = 44 ∧ m < 2000) by omega)]
    rfl
  · rw [if_neg c1]
    by_cases c2 : m ≠ 0
    · have e : (fun z s1 => cG 65 [r, x, if 0 < m then y4 else z, z, m + 1] (lnk s1 y5 z)) = fun z s1 => cG 65 [r, x, y4, z, m + 1] (lnk s1 y5 z) := by
        funext z s1
        rw [if_pos (show 0 < m by omega)]
      rw [e, if_pos c2, if_neg (show ¬ (m = 0 ∧ kkd s ≠ 41 ∧ m < 2000) by omega)]
      by_cases c3 : kkd s = 44
      · rw [if_neg (show ¬ (kkd s ≠ 44) from fun q => q c3), if_neg (show ¬ m ≤ 0 by omega), if_pos (show m ≠ 0 ∧ kkd s = 44 ∧ m < 2000 from ⟨c2, c3, by omega⟩)]
      · rw [if_pos (show kkd s ≠ 44 from c3), if_neg (show ¬ (m ≠ 0 ∧ kkd s = 44 ∧ m < 2000) by omega)]
        rfl
    · have e : (fun z s1 => cG 65 [r, x, if 0 < m then y4 else z, z, m + 1] (lnk s1 y5 z)) = fun z s1 => cG 65 [r, x, z, z, m + 1] (lnk s1 y5 z) := by
        funext z s1
        rw [if_neg (show ¬ 0 < m by omega)]
      rw [e, if_neg c2]
      by_cases c3 : kkd s = 41
      · rw [if_pos c3, if_neg (show ¬ (m = 0 ∧ kkd s ≠ 41 ∧ m < 2000) by omega), if_neg (show ¬ (m ≠ 0 ∧ kkd s = 44 ∧ m < 2000) by omega), if_neg (show ¬ (kkd s ≠ 41) from fun q => q c3)]
        rfl
      · rw [if_neg c3, if_pos (show m ≤ 0 by omega), if_pos (show m = 0 ∧ kkd s ≠ 41 ∧ m < 2000 from ⟨by omega, c3, by omega⟩)]
/-- one more E of a call -/
theorem p_arg (hX : PXx rc) (hC : PCLx rc) {s0 t0 : tab} {x i r y4 y5 : Int} {k : Nat} {v : Option (Int × tab)} (hR : REx T n e N g s t) (x0 : 0 ≤ x) (x1 : x ≤ 20) (b0 : 0 ≤ s 131 6) (b1 : s 131 6 ≤ 10 * x) (r0 : 0 ≤ r) (r1 : r < s 109 5) (r2 : r ≠ s 131 13) (rf : t0 170 37 ≠ 0 → g.2.2.2.1.2.2 r.toNat) (m1 : (k : Int) ≤ s 137 5) (hca : CAx g s0 t0 s t k y4 y5) (h : (bo (rc 22 [0, x] t) fun z19 t19 => if z19 ≠ 0 then rc 54 [x, i, r, ipl (k : Int) 1] t19 else some (some (0, t19))) = some v) : OCx T n e N g r s0 t0 (XCx i (bo (cG 40 [x] s) fun z s1 => cG 65 [r, x, if 0 < (k : Int) then y4 else z, z, (k : Int) + 1] (lnk s1 y5 z))) v := by
  have hin := RL_in hR.1
  rw [ipl_e (by omega)] at h
  rcases bo_inv h with ⟨h9, _⟩ | ⟨z6, t6, h9, h⟩
  · obtain ⟨z, t3, e1, _⟩ := p_Ex hX hR x0 x1 b0 b1 h9
    cases e1
  · obtain ⟨z, t3, e1, e2⟩ := p_Ex hX hR x0 x1 b0 b1 h9
    cases e1
    rcases e2 with ⟨rfl, s4, f1, f2, f3, f4, f5, q1, q2, q3, q4, q5, q6⟩ | ⟨rfl, f1⟩
    · rw [if_pos (by decide)] at h
      rw [f1, bo_s]
      obtain ⟨⟨w1, w2, w3, w4⟩, ⟨w5, w6, w7⟩, ⟨w8, w9, w10⟩, w11, w12, w13, w14, w15⟩ := hca
      obtain ⟨u1, u2, u3, u4, u5, u6, u7⟩ := hR.2.2.2.1
      obtain ⟨s5, hs5⟩ : ∃ s5, s5 = lnk s4 y5 (s4 99 12 - 1) := ⟨_, rfl⟩
      obtain ⟨d1, d2, d3⟩ := RE_lnk f2 hs5
      rw [← hs5]
      have l1 := CO_le w1
      have l2 := CO_le q1
      have row := EM_up w1 (by omega) (by omega) (fun q => absurd q (by omega)) q3
      have r1' := ROW_s (md := 2) (e := 0) (.inl ⟨rfl, rfl⟩) k _ _ _ _ row q1 (fun _ => ⟨rfl, rfl, rfl⟩) rfl q2 (fun _ => trivial)
      have hk0 := ROW_x w1 (.inl rfl)
      have e5 : s5 = if 0 < k then up2 s4 104 ((s 99 12).toNat - 1) (s4 99 12 - 1) else s4 := by
        rw [hs5]
        unfold lnk
        by_cases c : 0 < k
        · have := w4 c
          rw [if_pos c, if_pos (by omega), show y5.toNat = (s 99 12).toNat - 1 by omega]
        · have := w3 (by omega)
          rw [if_neg c, if_neg (by omega)]
      rw [← e5] at r1'
      have e12 : s5 99 12 = s4 99 12 := d3 99 12 (by omega)
      have ecx : cxt g s5 t6 = cxt g s4 t6 := by
        unfold cxt
        rw [e12]
      have e55 : s5 137 5 = s4 137 5 := d3 137 5 (by omega)
      have ep : (if 0 < (k : Int) then y4 else s4 99 12 - 1) = if 0 < k then y4 else s4 99 12 - 1 := by
        by_cases c : 0 < k
        · rw [if_pos c, if_pos (by omega)]
        · rw [if_neg c, if_neg (by omega)]
      rw [ep]
      refine hC T n e N g s0 t0 s5 t6 x i r _ _ (k + 1) v d1 x0 x1 (by rw [d2.2.1, f3.2.1]; exact b0) (by rw [d2.2.1, f3.2.1]; exact b1) r0 (by rw [d2.1 109 5 (by omega) (by omega) (by omega), f3.1 109 5 (by omega) (by omega) (by omega)]; exact r1) (by rw [d2.1 131 13 (by omega) (by omega) (by omega), f3.1 131 13 (by omega) (by omega) (by omega)]; exact r2) rf (by omega) ⟨⟨?_, ?_, fun q => absurd q (by omega), fun _ => by rw [e12]⟩, ⟨?_, FEc_tr w6 (FEc_tr f3 d2), FEr_tr w7 f4⟩, ⟨by omega, by omega, q6.trans w10⟩, w11, w12, w13, w14, w15⟩ h
      · rw [ecx, e12]
        exact r1'
      · exact (q3.2.1.2 _ (by omega)).trans w2
      · obtain ⟨⟨p1, p2⟩, p3, p4, p5, p6, p7⟩ := PF_tr w5 q3
        refine ⟨⟨by omega, fun k2 j j1 j2 j3 => ?_⟩, p3, p4, p5, p6, fun r => (d3 113 r (by omega)).trans (p7 r)⟩
        refine (d3 k2 j ?_).trans (p2 k2 j j1 j2 j3)
        rintro ⟨_, j5⟩
        by_cases c : 0 < k
        · have := w4 c
          omega
        · have := w3 (by omega)
          omega
    · rw [if_neg (by decide)] at h
      cases h
      rw [f1, bo_n]
      exact OC_no XC_no
/-- the E of a call -/
theorem p_CL (hrc : rle rc rG) (hM : PMx rc) (hX : PXx rc) (hC : PCLx rc) : ∀ (T : Nat → Int) (n e N : Nat) (g : Gtt) (s0 t0 s t : tab) (x i r y4 y5 : Int) (k : Nat) (v : Option (Int × tab)), REx T n e N g s t → 0 ≤ x → x ≤ 20 → 0 ≤ s 131 6 → s 131 6 ≤ 10 * x → 0 ≤ r → r < s 109 5 → r ≠ s 131 13 → (t0 170 37 ≠ 0 → g.2.2.2.1.2.2 r.toNat) → (k : Int) ≤ s 137 5 → CAx g s0 t0 s t k y4 y5 → rM150_31 rc x i r (k : Int) t = some v → OCx T n e N g r s0 t0 (XCx i (cG 65 [r, x, y4, y5, (k : Int)] s)) v := by
  intro T n e N g s0 t0 s t x i r y4 y5 k v hR x0 x1 b0 b1 r0 r1 r2 rf m1 hca h
  have hin := RL_in hR.1
  have hct := hR.2.1.2.1 5 (by omega)
  have h12 : LIM 5 = 12 := rfl
  have hpr : prm s r = s 112 r.toNat := by
    unfold prm
    rw [if_pos (by omega)]
  have hprm : prm s r = t 201 r.toNat := by
    rw [hpr]
    exact (hR.2.1.2.2.1 r.toNat (by omega) (by omega)).1.symm
  have hm : (k : Int) < 2000 ∨ kkd s = 3 ∨ kkd s = 4 := by
    by_cases q : (s 137 5).toNat = e
    · have hk := RL_kk hR.1
      have he := hR.1.1.2.2.1
      rw [q] at hk
      omega
    · have h1 := hR.1.1.1
      have h2 := hR.1.1.2.1
      omega
  rw [c_args (by omega) hm]
  have fin : ∀ hk : kkd s = 41, (if (k : Int) = t 201 r.toNat then bo (rc 4 [] t) (fun z10 t10 => rc 55 [i, r, imi (k : Int) 1] t10) else some (some (0, t))) = some v → OCx T n e N g r s0 t0 (XCx i (if (k : Int) ≠ prm s r then some none else some (some (cadz (cm5 (stp s) r), cad (cm5 (stp s) r) 404 r y4 (k : Int))))) v := fun hk h => by
    rw [hprm]
    by_cases c : (k : Int) = t 201 r.toNat
    · rw [if_pos c] at h
      rw [if_neg (fun q => q c)]
      exact p_fin hrc hM hR b0 r0 r1 r2 rf hk (by omega) hca h
    · rw [if_neg c] at h
      cases h
      rw [if_pos c]
      exact OC_no XC_no
  unfold rM150_31 at h
  by_cases c0 : (k : Int) ≠ 0
  · rw [if_pos c0] at h
    rw [if_neg (by omega)]
    have h := bxr hrc (RL_is is_26 hR.1) h
    try dsimp only at h
    by_cases k1 : kkd s = 44
    · rw [if_pos k1, if_neg (by decide), if_neg (by omega)] at h
      rw [if_pos ⟨c0, k1, by omega⟩]
      obtain ⟨t2, a1, a2, a3, a4, a5⟩ := RE_step hR (by omega) (by omega)
      have pst := PF_stp hR.1 (by omega) (by omega) a1
      have h := bxr hrc a1 h
      try dsimp only at h
      exact p_arg hX hC a2 x0 x1 (by rw [a3.2.1]; exact b0) (by rw [a3.2.1]; exact b1) r0 (by rw [a3.1 109 5 (by omega) (by omega) (by omega)]; exact r1) (by rw [a3.1 131 13 (by omega) (by omega) (by omega)]; exact r2) rf (by omega) (CA_up hca pst a3 a4) h
    · rw [if_neg k1, if_pos rfl] at h
      rw [if_neg (by omega)]
      have h := bxr hrc (RL_is is_24 hR.1) h
      try dsimp only at h
      by_cases k2 : kkd s = 41
      · rw [if_pos k2, if_pos (by decide)] at h
        rw [if_neg (fun q => q k2)]
        exact fin k2 h
      · rw [if_neg k2, if_neg (by decide)] at h
        cases h
        rw [if_pos k2]
        exact OC_no XC_no
  · rw [if_neg c0] at h
    have h := bxr hrc (RL_is is_24 hR.1) h
    try dsimp only at h
    by_cases k2 : kkd s = 41
    · rw [if_pos k2, if_pos (by decide)] at h
      rw [if_neg (by omega), if_neg (by omega), if_neg (fun q => q k2)]
      exact fin k2 h
    · rw [if_neg k2, if_neg (by decide), if_pos (by omega)] at h
      rw [if_pos ⟨by omega, k2, by omega⟩]
      exact p_arg hX hC hR x0 x1 b0 b1 r0 r1 r2 rf m1 hca h
def PCx (rc : MRq) : Prop := ∀ (T : Nat → Int) (n e N : Nat) (g : Gtt) (s t : tab) (k x i : Int) (v : Option (Int × tab)), REx T n e N g s t → 0 ≤ x → x ≤ 20 → 0 ≤ s 131 6 → s 131 6 ≤ 10 * x → 0 ≤ k → k < (N : Int) → nnm s k < s 109 5 → nnm s k ≠ s 131 13 → (t 170 37 ≠ 0 → g.2.2.2.1.2.2 (nnm s k).toNat) → kkd s = 1 → kkd (stp s) = 40 → rc 26 [k, x, i] t = some v → OCx T n e N g (nnm s k) s t (XCx i (cG 39 [nnm s k, x] (stp s))) v
/-- call(..) -/
theorem p_C (hrc : rle rc rG) (hC : PCLx rc) : ∀ (T : Nat → Int) (n e N : Nat) (g : Gtt) (s t : tab) (k x i : Int) (v : Option (Int × tab)), REx T n e N g s t → 0 ≤ x → x ≤ 20 → 0 ≤ s 131 6 → s 131 6 ≤ 10 * x → 0 ≤ k → k < (N : Int) → nnm s k < s 109 5 → nnm s k ≠ s 131 13 → (t 170 37 ≠ 0 → g.2.2.2.1.2.2 (nnm s k).toNat) → kkd s = 1 → kkd (stp s) = 40 → rM150 rc k x i t = some v → OCx T n e N g (nnm s k) s t (XCx i (cG 39 [nnm s k, x] (stp s))) v := by
  intro T n e N g s t k x i v hR x0 x1 b0 b1 k0 k1 r1 r2 rf hk hk2 h
  have hct := hR.2.1.2.1 5 (by omega)
  have h12 : LIM 5 = 12 := rfl
  obtain ⟨n1, n2, n3, n4, n5, _⟩ := RS_nm hR.2.1 k0 k1
  unfold rM150 at h
  rw [n2] at h
  obtain ⟨u1, u2, u3, u4, u5, u6, u7⟩ := hR.2.2.2.1
  have hin0 := RL_in hR.1
  obtain ⟨cw, cw2⟩ := prt_cw (t := t) (by omega)
  obtain ⟨t2, a1, a2, a3, a4, a5, a6, a7, a8, a9, a10⟩ := RE_wst hR cw (by omega) (by omega) (by omega)
  have h := bxr hrc a1 h
  try dsimp only at h
  rcases RE_take a2 is_22 (by decide) with ⟨t4, c1, c2, c3, c4, c5, c6, c7⟩ | ⟨c1, c2, c3⟩
  · have pt := PF_take a2 is_22 (by decide) c2 c1
    have h := bxr hrc c1 h
    try dsimp only at h
    rw [if_pos (by decide)] at h
    have hcc : cG 39 [nnm s k, x] (stp s) = cG 65 [nnm s k, x, -1, -1, 0] (stp (stp s)) := by
      rw [cG_65]
      unfold cM65
      rw [if_neg (by omega), if_neg (by omega)]
    rw [hcc]
    have f6 : (stp (stp s)) 131 6 = s 131 6 := c5.2.1.trans a3.2.1
    have hin := RL_in c4.1
    have e1 := pt.2.2.1
    have e2 := pt.2.1
    have e10 := pt.2.2.2
    refine hC T n e N g s t _ t4 x i (nnm s k) (-1) (-1) 0 v c4 x0 x1 (by rw [f6]; exact b0) (by rw [f6]; exact b1) n5 ?_ ?_ rf (by omega) ⟨⟨?_, ?_, fun _ => ⟨rfl, rfl⟩, fun q => absurd q (by omega)⟩, ⟨PF_tr a6 pt.1, FEc_tr a3 c5, FEr_tr a4 c6⟩, ⟨by omega, by omega, by omega⟩, u1, u2, u3, u4, u7⟩ h
    · rw [c5.1 109 5 (by omega) (by omega) (by omega), a3.1 109 5 (by omega) (by omega) (by omega)]
      exact r1
    · rw [c5.1 131 13 (by omega) (by omega) (by omega), a3.1 131 13 (by omega) (by omega) (by omega)]
      exact r2
    · rw [show ((stp (stp s)) 99 12).toNat = (s 99 12).toNat by omega, show (t4 177 1).toNat = (t 177 1).toNat + 1 by omega]
      exact ROW0 (.inl rfl)
    · rw [pt.1.2.1.2 _ (by omega), a10]
      exact cw2
  · exact absurd hk2 c2
/-- a call as an E -/
theorem CL_E {r : Int} (h : CLx g r s t s2 t2) (hf : g.2.2.2.1.2.2 r.toNat) (h0 : 0 ≤ s 99 12) (ha : ((g.2.2.2.2.1 + g.2.2.2.2.2 : Nat) : Int) ≤ s 99 12) : CO s2 t2 g.2.2.2.1 0 0 (s 99 12).toNat (s2 99 12).toNat (s2 99 12 - 1) (t 177 1).toNat (t2 177 1).toNat 0 0 0 (cxt g s2 t2) := by
  obtain ⟨h1, h2, h3, h4⟩ := h
  refine CO_mk (.inl ⟨rfl, by omega, by omega, by omega, cxt_au, .inl ⟨by omega, by omega⟩, .inr (.inr (.inr (.inr (.inr ⟨h1, h4, ?_⟩))))⟩)
  rw [h2]
  exact hf
/-- a call as a STATEMENT -/
theorem CL_S {r : Int} {k : Nat} (h : CLx g r s t s2 t2) (hf : ¬ g.2.2.2.1.2.2 r.toNat) (h0 : 0 ≤ s 99 12) (ha : ((g.2.2.2.2.1 + g.2.2.2.2.2 : Nat) : Int) ≤ s 99 12) : CO s2 t2 g.2.2.2.1 1 0 (s 99 12).toNat (s2 99 12).toNat (s2 99 12 - 1) (t 177 1).toNat (t2 177 1).toNat k k 0 (cxt g s2 t2) := by
  obtain ⟨h1, h2, h3, h4⟩ := h
  refine CO_mk (.inr (.inl ⟨rfl, by omega, by omega, by omega, cxt_au, .inl ⟨by omega, by omega⟩, .inr (.inr (.inr (.inr (.inr (.inr (.inr (.inl ⟨h1, h4, rfl, ?_⟩)))))))⟩))
  rw [h2]
  exact hf
end CALL
