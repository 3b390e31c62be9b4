/-! par, in both. -/
section PAR
variable {T : Nat → Int} {n e N : Nat} {g : Gtt} {s t s2 t2 : tab} {rc : MRq}
def zrC (s : tab) : tab := up2 (up2 (up2 s 131 7 0) 131 8 0) 131 9 0
def fiC (a b c : Int) (s : tab) : tab := up2 (up2 (up2 s 131 7 a) 131 8 b) 131 9 c
def pfC (w pl : Int) (s : tab) : tab := if w = 0 then s else if s 131 3 = -2 then up2 s 131 3 pl else if s 131 3 ≤ pl then s else up2 s 131 3 pl
def fiR (a b c d f : Int) (t : tab) : tab := up2 (up2 (up2 (up2 (up2 t 170 22 a) 170 23 b) 170 24 c) 170 25 d) 170 26 f
def pfR (w pl : Int) (t : tab) : tab := if w = 0 then t else if t 170 21 < 0 then up2 t 170 21 pl else if t 170 21 ≤ pl then t else up2 t 170 21 pl
noncomputable def WBx (x pl a3 a5 a7 c9 c11 c13 w y16 y17 m : Int) (s : tab) : RO := bo (cG 46 [x + 1] (zrC s)) fun z s7 => cG 69 [x, pl, a3, a5, a7, lo c9 ((lnk s7 y17 z) 131 7), lo c11 ((lnk s7 y17 z) 131 8), lo c13 ((lnk s7 y17 z) 131 9), ior w (if lo (lo (la ((lnk s7 y17 z) 131 8) c9) (la ((lnk s7 y17 z) 131 7) c11)) (la ((lnk s7 y17 z) 131 9) c13) = 0 then 0 else 1), if 0 < m then y16 else z, z, m + 1] (lnk s7 y17 z)
theorem c_par0 {x pl a3 a5 a7 c9 c11 c13 w y16 y17 : Int} (hx : 0 ≤ x ∧ x ≤ 20) : cG 69 [x, pl, a3, a5, a7, c9, c11, c13, w, y16, y17, 0] s = bo (cG 29 [123] s) fun _ s1 => WBx x pl a3 a5 a7 c9 c11 c13 w y16 y17 0 s1 := by
  rw [cG_70_53]
  unfold cM70_53
  rw [if_pos (by decide), if_neg (by decide), ipl_e (by omega)]
  congr 1
  funext z1 s1
  unfold WBx
  congr 1
  funext z2 s2
  rw [if_neg (show ¬ (0 : Int) < 0 by omega)]
  split <;> rfl
theorem c_par1 {x pl a3 a5 a7 c9 c11 c13 w y16 y17 m : Int} (hx : 0 ≤ x ∧ x ≤ 20) (hm : m = 1 ∨ (2 ≤ m ∧ m < 6 ∧ kkd s = 124)) : cG 69 [x, pl, a3, a5, a7, c9, c11, c13, w, y16, y17, m] s = bo (cG 29 [124] s) fun _ s1 => WBx x pl a3 a5 a7 c9 c11 c13 w y16 y17 m s1 := by
  have key : (bo (cG 29 [124] s) fun z3 t3 => bo (cG 46 [x + 1] (up2 (up2 (up2 t3 131 7 0) 131 8 0) 131 9 0)) fun z8 t8 => if lo (lo (la ((lnk t8 y17 z8) 131 8) c9) (la ((lnk t8 y17 z8) 131 7) c11)) (la ((lnk t8 y17 z8) 131 9) c13) = 0 then cG 69 [x, pl, a3, a5, a7, lo c9 ((lnk t8 y17 z8) 131 7), lo c11 ((lnk t8 y17 z8) 131 8), lo c13 ((lnk t8 y17 z8) 131 9), ior w 0, y16, z8, m + 1] (lnk t8 y17 z8) else cG 69 [x, pl, a3, a5, a7, lo c9 ((lnk t8 y17 z8) 131 7), lo c11 ((lnk t8 y17 z8) 131 8), lo c13 ((lnk t8 y17 z8) 131 9), ior w 1, y16, z8, m + 1] (lnk t8 y17 z8)) = bo (cG 29 [124] s) fun _ s1 => WBx x pl a3 a5 a7 c9 c11 c13 w y16 y17 m s1 := by
    congr 1
    funext z1 s1
    unfold WBx
    congr 1
    funext z2 s2
    rw [if_pos (show 0 < m by omega)]
    split <;> rfl
  rw [cG_70_53]
  unfold cM70_53
  rw [ipl_e (by omega)]
  rcases hm with hm | ⟨h1, h2, h3⟩
  · rw [if_pos (by omega), if_pos (by omega)]
    exact key
  · rw [if_neg (by omega), if_neg (by omega), if_neg (fun q => q h3), if_pos (by omega)]
    exact key
theorem c_par2 {x pl a3 a5 a7 c9 c11 c13 w y16 y17 m : Int} (hm : 2 ≤ m) (h6 : 6 ≤ m ∨ kkd s ≠ 124) : cG 69 [x, pl, a3, a5, a7, c9, c11, c13, w, y16, y17, m] s = bo (cG 29 [125] s) fun _ s1 => some (some (cadz (pfC w pl (fiC (lo a3 c9) (lo a5 c11) (lo a7 c13) s1)), cad (pfC w pl (fiC (lo a3 c9) (lo a5 c11) (lo a7 c13) s1)) 312 y16 m (-1))) := by
  have key : (bo (cG 29 [125] s) fun z40 t40 => if w = 0 then some (some (cadz (up2 (up2 (up2 t40 131 7 (lo a3 c9)) 131 8 (lo a5 c11)) 131 9 (lo a7 c13)), cad (up2 (up2 (up2 t40 131 7 (lo a3 c9)) 131 8 (lo a5 c11)) 131 9 (lo a7 c13)) 312 y16 m (-1))) else if t40 131 3 = (-2) then some (some (cadz (up2 (up2 (up2 (up2 t40 131 7 (lo a3 c9)) 131 8 (lo a5 c11)) 131 9 (lo a7 c13)) 131 3 pl), cad (up2 (up2 (up2 (up2 t40 131 7 (lo a3 c9)) 131 8 (lo a5 c11)) 131 9 (lo a7 c13)) 131 3 pl) 312 y16 m (-1))) else if t40 131 3 ≤ pl then some (some (cadz (up2 (up2 (up2 t40 131 7 (lo a3 c9)) 131 8 (lo a5 c11)) 131 9 (lo a7 c13)), cad (up2 (up2 (up2 t40 131 7 (lo a3 c9)) 131 8 (lo a5 c11)) 131 9 (lo a7 c13)) 312 y16 m (-1))) else some (some (cadz (up2 (up2 (up2 (up2 t40 131 7 (lo a3 c9)) 131 8 (lo a5 c11)) 131 9 (lo a7 c13)) 131 3 pl), cad (up2 (up2 (up2 (up2 t40 131 7 (lo a3 c9)) 131 8 (lo a5 c11)) 131 9 (lo a7 c13)) 131 3 pl) 312 y16 m (-1)))) = bo (cG 29 [125] s) fun _ s1 => some (some (cadz (pfC w pl (fiC (lo a3 c9) (lo a5 c11) (lo a7 c13) s1)), cad (pfC w pl (fiC (lo a3 c9) (lo a5 c11) (lo a7 c13) s1)) 312 y16 m (-1))) := by
    congr 1
    funext z1 s1
    unfold pfC
    rw [show (fiC (lo a3 c9) (lo a5 c11) (lo a7 c13) s1) 131 3 = s1 131 3 from rfl]
    by_cases h1 : w = 0
    · rw [if_pos h1, if_pos h1]
      rfl
    · rw [if_neg h1, if_neg h1]
      by_cases h2 : s1 131 3 = -2
      · rw [if_pos h2, if_pos h2]
        rfl
      · rw [if_neg h2, if_neg h2]
        by_cases h3 : s1 131 3 ≤ pl
        · rw [if_pos h3, if_pos h3]
          rfl
        · rw [if_neg h3, if_neg h3]
          rfl
  rw [cG_70_53]
  unfold cM70_53
  rw [if_neg (by omega)]
  by_cases h7 : 6 ≤ m
  · rw [if_pos h7]
    exact key
  · rw [if_neg h7, if_pos (show kkd s ≠ 124 by omega)]
    exact key
/-- masks put aside; masks of the branches before -/
def SAV (g : Gtt) (a3 a5 a7 y7 y9 y11 y13 y15 : Int) : Prop := a3 = lo g.1 (lo y9 y7) ∧ a5 = lo g.2.1 y7 ∧ a7 = lo g.2.2.1 (pkm y11 y13 y15) ∧ MB3 y11 y13 y15
def ACC (c9 c11 c13 r17 r19 r21 r23 r25 : Int) : Prop := c9 = lo r19 r17 ∧ c11 = r17 ∧ c13 = pkm r21 r23 r25 ∧ MB3 r21 r23 r25
/-- ghosts of a branch -/
def gBr (g : Gtt) (s : tab) : Gtt := (0, 0, 0, g.2.2.2.1, g.2.2.2.2.1, (s 99 12).toNat - g.2.2.2.2.1)
theorem ACC_up {sb : tab} {c9 c11 c13 r17 r19 r21 r23 r25 : Int} (h : ACC c9 c11 c13 r17 r19 r21 r23 r25) (hm : RMk (gBr g sb) s t) : ACC (lo c9 (s 131 7)) (lo c11 (s 131 8)) (lo c13 (s 131 9)) (lo r17 (t 170 22)) (lo r19 (t 170 23)) (lo r21 (t 170 24)) (lo r23 (t 170 25)) (lo r25 (t 170 26)) := by
  obtain ⟨h1, h2, h3, h4⟩ := h
  have m1 : s 131 7 = lo 0 (lo (t 170 23) (t 170 22)) := hm.1
  have m2 : s 131 8 = lo 0 (t 170 22) := hm.2.1
  have m3 : s 131 9 = lo 0 (pkm (t 170 24) (t 170 25) (t 170 26)) := hm.2.2.1
  refine ⟨?_, ?_, ?_, MB_lo h4 hm.2.2.2⟩
  · rw [h1, m1, lo_lo0]
    simp only [lo_assoc, lo_comm, lo_lc]
  · rw [h2, m2, lo_lo0]
  · rw [h3, m3, lo_lo0, pkm_lo]
theorem zrC_o : ∀ k j, ¬ (k = 131 ∧ (j = 7 ∨ j = 8 ∨ j = 9)) → (zrC s) k j = s k j := fun k j a => (if_neg (by omega)).trans ((if_neg (by omega)).trans (if_neg (by omega)))
theorem rfg_o : ∀ k j, ¬ (k = 170 ∧ 22 ≤ j ∧ j ≤ 26) → (rfg t) k j = t k j := fun k j a => (if_neg (by omega)).trans ((if_neg (by omega)).trans ((if_neg (by omega)).trans ((if_neg (by omega)).trans (if_neg (by omega)))))
theorem RQ_zr (h : RQx T n e N g s t) : RQx T n e N (gBr g s) (zrC s) (rfg t) ∧ FEc s (zrC s) ∧ FEr t (rfg t) := by
  obtain ⟨u1, u2, u3, u4, u5, u6, u7⟩ := h.1.2.2.2.1
  have k := RE_mask (g2 := gBr g s) (s3 := zrC s) (t3 := rfg t) h.1 zrC_o rfg_o ⟨rfl, rfl, by show ((g.2.2.2.2.1 + ((s 99 12).toNat - g.2.2.2.2.1) : Nat) : Int) ≤ s 99 12; omega⟩ ⟨⟨fun k q => absurd (show mbt 0 k from q) mbt_0, fun v q => q.elim (fun w => absurd (show mbt 0 v from w) mbt_0) (fun w => absurd (show mbt 0 v from w) mbt_0), fun _ v => ⟨fun w => absurd (show mbt 0 v from w) mbt_0, fun w => absurd (show mbt 0 v from w) mbt_0⟩⟩, h.1.2.2.2.2.1.2⟩ ⟨by show (0 : Int) = lo 0 (lo 0 0); decide, by show (0 : Int) = lo 0 0; decide, by show (0 : Int) = lo 0 (pkm 0 0 0); decide, show MB3 0 0 0 from ⟨⟨by decide, by decide⟩, ⟨by decide, by decide⟩, by decide, by decide⟩⟩
  exact ⟨RQ_E h k.1 k.2.1 k.2.2, k.2⟩
theorem PQ_zr : PQx s t (zrC s) (rfg t) := by
  refine ⟨⟨by rw [zrC_o 99 12 (by omega)]; exact Int.le_refl _, fun k j q1 q2 _ => zrC_o k j (by omega)⟩, ⟨by rw [rfg_o 177 1 (by omega)]; exact Int.le_refl _, fun j _ => rfg_o 178 j (by omega)⟩, by rw [rfg_o 177 10 (by omega)]; exact Int.le_refl _, fun q => by rw [rfg_o 170 21 (by omega)] at q; exact q, fun r => zrC_o 113 r (by omega)⟩
theorem RQ_pf (h : RQx T n e N g s t) {w pl : Int} (hp : 0 ≤ pl) : RQx T n e N g (pfC w pl s) (pfR w pl t) ∧ FSc s (pfC w pl s) ∧ FSr N t (pfR w pl t) ∧ (pfC w pl s) 137 5 = s 137 5 ∧ (∀ k j, ¬ (k = 131 ∧ j = 3) → (pfC w pl s) k j = s k j) ∧ (∀ k j, ¬ (k = 170 ∧ j = 21) → (pfR w pl t) k j = t k j) ∧ ((pfR w pl t) 170 21 = -1 → w = 0 ∧ t 170 21 = -1) := by
  have key : RQx T n e N g (up2 s 131 3 pl) (up2 t 170 21 pl) := by
    obtain ⟨⟨⟨hT, hx, l3, l4, l5⟩, ⟨⟨a1, a2, a3, a4, a5⟩, b, c, d1, d2⟩, m, v1, v2, v3, v4⟩, p, ⟨c1, c2, c3, c4⟩, q1, q2⟩ := h
    exact ⟨⟨⟨hT, hx, l3, l4, l5⟩, ⟨⟨a1, a2, a3, a4, a5⟩, b, c, d1, d2⟩, m, v1, v2, v3, v4⟩, .inr ⟨hp, rfl⟩, ⟨c1, c2, c3, c4⟩, q1, q2⟩
  have all : RQx T n e N g (up2 s 131 3 pl) (up2 t 170 21 pl) ∧ FSc s (up2 s 131 3 pl) ∧ FSr N t (up2 t 170 21 pl) ∧ (up2 s 131 3 pl) 137 5 = s 137 5 ∧ (∀ k j, ¬ (k = 131 ∧ j = 3) → (up2 s 131 3 pl) k j = s k j) ∧ (∀ k j, ¬ (k = 170 ∧ j = 21) → (up2 t 170 21 pl) k j = t k j) ∧ ((up2 t 170 21 pl) 170 21 = -1 → w = 0 ∧ t 170 21 = -1) := ⟨key, ⟨fun _ => rfl, fun _ => rfl, rfl, rfl, rfl, Int.le_refl _⟩, ⟨rfl, fun _ _ hk _ => if_neg (by omega), rfl, rfl, rfl, fun _ => rfl, fun _ => rfl⟩, rfl, fun k j q => if_neg q, fun k j q => if_neg q, fun q => by rw [up_self] at q; omega⟩
  have p := h.2.1
  unfold RPf at p
  unfold pfC pfR
  by_cases h1 : w = 0
  · rw [if_pos h1, if_pos h1]
    exact ⟨h, FSc_rf, FSr_rf, rfl, fun _ _ _ => rfl, fun _ _ _ => rfl, fun q => ⟨h1, q⟩⟩
  · rw [if_neg h1, if_neg h1]
    rcases p with ⟨p1, p2⟩ | ⟨p1, p2⟩
    · rw [if_pos p1, if_pos (show t 170 21 < 0 by omega)]
      exact all
    · rw [if_neg (show ¬ s 131 3 = -2 by omega), if_neg (show ¬ t 170 21 < 0 by omega), p2]
      by_cases h3 : t 170 21 ≤ pl
      · rw [if_pos h3, if_pos h3]
        exact ⟨h, FSc_rf, FSr_rf, rfl, fun _ _ _ => rfl, fun _ _ _ => rfl, fun q => by omega⟩
      · rw [if_neg h3, if_neg h3]
        exact all
theorem fiC_o {a b c : Int} : ∀ k j, ¬ (k = 131 ∧ (j = 7 ∨ j = 8 ∨ j = 9)) → (fiC a b c s) k j = s k j := fun k j a => (if_neg (by omega)).trans ((if_neg (by omega)).trans (if_neg (by omega)))
theorem fiR_o {a b c d f : Int} : ∀ k j, ¬ (k = 170 ∧ 22 ≤ j ∧ j ≤ 26) → (fiR a b c d f t) k j = t k j := fun k j a => (if_neg (by omega)).trans ((if_neg (by omega)).trans ((if_neg (by omega)).trans ((if_neg (by omega)).trans (if_neg (by omega)))))
theorem RQ_fi {sb : tab} (h : RQx T n e N (gBr g sb) s t) {a3 a5 a7 y7 y9 y11 y13 y15 c9 c11 c13 r17 r19 r21 r23 r25 : Int} (ha0 : ((g.2.2.2.2.1 + g.2.2.2.2.2 : Nat) : Int) ≤ s 99 12) (hk : MKr g s (lo y7 r17) (lo y9 r19) (lo y11 r21) (lo y13 r23) (lo y15 r25) (t 170 37)) (hs : SAV g a3 a5 a7 y7 y9 y11 y13 y15) (ha : ACC c9 c11 c13 r17 r19 r21 r23 r25) : RQx T n e N g (fiC (lo a3 c9) (lo a5 c11) (lo a7 c13) s) (fiR (lo y7 r17) (lo y9 r19) (lo y11 r21) (lo y13 r23) (lo y15 r25) t) ∧ FEc s (fiC (lo a3 c9) (lo a5 c11) (lo a7 c13) s) ∧ FEr t (fiR (lo y7 r17) (lo y9 r19) (lo y11 r21) (lo y13 r23) (lo y15 r25) t) := by
  obtain ⟨h1, h2, h3, h4⟩ := hs
  obtain ⟨k1, k2, k3, k4⟩ := ha
  have k := RE_mask (g2 := g) (s3 := fiC (lo a3 c9) (lo a5 c11) (lo a7 c13) s) (t3 := fiR (lo y7 r17) (lo y9 r19) (lo y11 r21) (lo y13 r23) (lo y15 r25) t) h.1 fiC_o fiR_o ⟨rfl, rfl, ha0⟩ ⟨hk, h.1.2.2.2.2.1.2⟩ (by
    refine ⟨?_, ?_, ?_, MB_lo h4 k4⟩
    · show lo a3 c9 = lo g.1 (lo (lo y9 r19) (lo y7 r17))
      rw [h1, k1]
      simp only [lo_assoc, lo_comm, lo_lc]
    · show lo a5 c11 = lo g.2.1 (lo y7 r17)
      rw [h2, k2]
      simp only [lo_assoc, lo_comm, lo_lc]
    · show lo a7 c13 = lo g.2.2.1 (pkm (lo y11 r21) (lo y13 r23) (lo y15 r25))
      rw [h3, k3, pkm_lo]
      simp only [lo_assoc, lo_comm, lo_lc])
  exact ⟨RQ_E h k.1 k.2.1 k.2.2, k.2⟩
theorem ior_0 {w c : Int} (hw : w = 0 ∨ w = 1) (hc : c = 0 ∨ c = 1) : (ior w c = 0 → w = 0 ∧ c = 0) ∧ (ior w c = 0 ∨ ior w c = 1) := by
  rcases hw with rfl | rfl <;> rcases hc with rfl | rfl
  · exact ⟨fun _ => ⟨rfl, rfl⟩, .inl (by decide)⟩
  · exact ⟨fun q => absurd q (by decide), .inr (by decide)⟩
  · exact ⟨fun q => absurd q (by decide), .inr (by decide)⟩
  · exact ⟨fun q => absurd q (by decide), .inr (by decide)⟩
/-- how a par ends: parts and code are told from s0, t0 on -/
def OPx (T : Nat → Int) (n e N : Nat) (g : Gtt) (s0 t0 s t : tab) (X : RO) (v : Option (Int × tab)) : Prop := ∃ z t2, v = some (z, t2) ∧ ((z = 1 ∧ ∃ s2, X = some (some (s2 99 12 - 1, s2)) ∧ RQx T n e N g s2 t2 ∧ FSc s s2 ∧ FSr N t t2 ∧ s 137 5 < s2 137 5 ∧ ESx g s0 t0 s2 t2) ∨ (z = 0 ∧ X = some none))
theorem OP_no {s0 t0 : tab} {X : RO} {t9 : tab} (h : X = some none) : OPx T n e N g s0 t0 s t X (some (0, t9)) := ⟨0, t9, rfl, .inr ⟨rfl, h⟩⟩
theorem OP_pre {s0 t0 s9 t9 : tab} {X : RO} {v : Option (Int × tab)} (h : OPx T n e N g s9 t9 s t X v) (hc : FSc s0 s) (hr : FSr N t0 t) : OPx T n e N g s9 t9 s0 t0 X v := by
  obtain ⟨z, t2, e1, h⟩ := h
  refine ⟨z, t2, e1, ?_⟩
  rcases h with ⟨h1, s2, h2, h3, h4, h5, h6, h7⟩ | h
  · exact .inl ⟨h1, s2, h2, h3, FSc_tr hc h4, FSr_tr hr h5, Int.lt_of_le_of_lt hc.2.2.2.2.2 h6, h7⟩
  · exact .inr h
/-- where a par began -/
def PBs (g : Gtt) (s0 t0 : tab) : Prop := 0 ≤ s0 99 12 ∧ s0 99 12 ≤ s0 137 5 ∧ 0 ≤ t0 177 1 ∧ t0 177 1 ≤ 12 * s0 137 5 ∧ 0 ≤ t0 177 10 ∧ ((g.2.2.2.2.1 + g.2.2.2.2.2 : Nat) : Int) ≤ s0 99 12 ∧ MKx g s0 t0
/-- branches so far: m of them, the first y16, the last y17 -/
def PRx (g : Gtt) (s0 t0 s t : tab) (m : Nat) (y16 y17 r17 r19 r21 r23 r25 w : Int) : Prop := ((t 170 21 = -1 → w = 0 → CO s t g.2.2.2.1 4 m (s0 99 12).toNat (s 99 12).toNat y16 ((t0 177 1).toNat + 11) (t 177 1).toNat (t0 177 10).toNat (t 177 10).toNat ((t0 177 1).toNat + 3) (CAc g.2.2.2.1 (s0 99 12).toNat (s 99 12) r17 r19 r21 r23 r25)) ∧ (t 178 (t0 177 1).toNat = 0 ∧ t 178 ((t0 177 1).toNat + 1) = 19 ∧ t 178 ((t0 177 1).toNat + 9) = 9) ∧ t0 177 1 + 11 ≤ t 177 1 ∧ (m = 0 → y16 = -1 ∧ y17 = -1 ∧ s 99 12 = s0 99 12 ∧ t 177 1 = t0 177 1 + 11 ∧ t 177 10 = t0 177 10) ∧ (0 < m → y17 = s 99 12 - 1 ∧ s0 99 12 < s 99 12 ∧ s 104 (s 99 12 - 1).toNat = -1) ∧ MKr g s r17 r19 r21 r23 r25 (t0 170 37) ∧ (w = 0 ∨ w = 1)) ∧ PQx s0 t0 s t ∧ (s 99 12 + s0 137 5 + 2 ≤ s0 99 12 + s 137 5 ∧ t 177 1 + 12 * (s0 137 5 + 2) ≤ t0 177 1 + 11 + (m : Int) + 12 * s 137 5 ∧ t 177 10 + s0 137 5 ≤ t0 177 10 + s 137 5) ∧ FBx s0 t0 s t ∧ PBs g s0 t0
theorem PR_pw {s0 t0 : tab} {m : Nat} {y16 y17 r17 r19 r21 r23 r25 w : Int} (h : PRx g s0 t0 s t m y16 y17 r17 r19 r21 r23 r25 w) (hm : m ≤ 6) (hp : PWx s t s2 t2) (h5 : s 137 5 ≤ s2 137 5) (hb : FBx s t s2 t2) : PRx g s0 t0 s2 t2 m y16 y17 r17 r19 r21 r23 r25 w := by
  obtain ⟨⟨a1, ⟨a2, a3, a4⟩, a5, a6, a7, a8, a9⟩, b1, ⟨c1, c2, c3⟩, d1, e1, e2, e3, e4, e5, e6, e7⟩ := h
  obtain ⟨p1, p2, p3, p4⟩ := hp
  have hm0 := b1.1.1
  have cp : ∀ i : Nat, (i : Int) < t 177 1 → t2 178 i = t 178 i := p1.2.1.2
  refine ⟨⟨fun q q2 => ?_, ⟨(cp _ (by omega)).trans a2, (cp _ (by omega)).trans a3, (cp _ (by omega)).trans a4⟩, by omega, fun q => ?_, fun q => ?_, MKr_mv a8 rfl rfl hb.2.1 (hb.2.2 0).2.2.2.1 (hb.2.2 0).2.2.2.2.1, a9⟩, PQ_tr b1 (PQ_F p1), ⟨by omega, by omega, by omega⟩, FB_tr d1 hb, e1, e2, e3, e4, e5, e6, e7⟩
  · rw [p2, p3, p4]
    exact CO_pq (a1 (p1.2.2.2.2.1 q) q2) (by omega) (by omega) (fun _ => by omega) (PQ_F p1)
  · have := a6 q
    exact ⟨this.1, this.2.1, by omega, by omega, by omega⟩
  · have := a7 q
    refine ⟨by omega, by omega, ?_⟩
    rw [p2]
    exact (p1.1.2 104 _ (by omega) (by omega) (by omega)).trans this.2.2
end PAR
