/-! ints declared in a BLOCK, names cut, in both. -/
section VARS
variable {T : Nat → Int} {n e N : Nat} {g : Gtt} {s t s2 t2 : tab} {rc : MRq}
theorem r_isName {a b : Int} : rG 16 [a, b] t = some (some (if t 170 4 ≠ 1 then 0 else if a < b then 1 else 0, t)) := by
  rw [rG_130]
  unfold rM130
  split
  · rfl
  · split <;> rfl
theorem RQ_bit (h : RQx T n e N g s t) (a b : Nat) (z y : Int) : RQx T n e N g (up2 s 110 a z) (up2 t 179 b y) := by
  obtain ⟨⟨⟨hT, hx, l3, l4, l5⟩, ⟨⟨a1, a2, a3, a4, a5⟩, b', c, d1, d2⟩, ⟨m1, m2, m3⟩, ⟨v1, v2, v3, v4⟩⟩, p, ⟨c1, c2, c3, c4⟩, q⟩ := h
  exact ⟨⟨⟨hT, hx, l3, l4, l5⟩, ⟨⟨a1, a2, a3, a4, a5⟩, b', c, d1, d2⟩, ⟨m1, m2, m3⟩, ⟨v1, v2, v3, v4⟩⟩, p, ⟨c1, c2, c3, c4⟩, q⟩
/-- declared with all of a STATEMENT's relation: an int -/
theorem p_var (hQ : RQx T n e N g s t) {b : Int} (hsc : SCb N b t) : (∃ s2 t2, rG 17 [0] t = some (some (1, t2)) ∧ cG 32 [b] s = some (some (0, s2)) ∧ RQx T n e (N + 1) g s2 t2 ∧ SCb (N + 1) b t2 ∧ FSc s s2 ∧ FSr N t t2 ∧ s2 137 5 = s 137 5 + 1 ∧ PWx s t s2 t2 ∧ FBx s t s2 t2) ∨ ∃ t9, rG 17 [0] t = some (some (0, t9)) ∧ cG 32 [b] s = some none := by
  have hH := RQ_H hQ
  have hk4 := RL_k4 hQ.1.1
  have h0 := hQ.1.2.1.2.1 0 (by omega)
  have h04 : t 177 4 = s 109 0 := h0.1
  have hl : LIM 0 = 24 := rfl
  have h3 : s 105 3 = (N : Int) := hQ.1.2.1.1.1
  have hN58 : s 109 0 < LIM 0 → N < 58 := fun q => by
    have hsu := hQ.2.2.2.1
    have q1 := (hQ.1.2.1.2.1 1 (by omega)).2.2
    have q2 := (hQ.1.2.1.2.1 2 (by omega)).2.2
    have q3 := (hQ.1.2.1.2.1 3 (by omega)).2.2
    have q4 := (hQ.1.2.1.2.1 4 (by omega)).2.2
    have q5 := (hQ.1.2.1.2.1 5 (by omega)).2.2
    have l1 : LIM 1 = 6 := rfl
    have l2 : LIM 2 = 8 := rfl
    have l3 : LIM 3 = 4 := rfl
    have l4 : LIM 4 = 4 := rfl
    have l5 : LIM 5 = 12 := rfl
    omega
  have hcd := c_dec (b := b) (w := 0) (c := 0) h3 hN58 (by decide) (by decide)
  rw [rG_137, cG_45]
  unfold rM137 cM45
  rw [r_isName, bo_s, h04]
  by_cases k1 : kkd s = 1
  · rw [if_neg (show ¬ (t 170 4 ≠ 1) from fun q => q (by rw [hk4, k1]; rfl))]
    by_cases k2 : s 109 0 < 24
    · rw [if_pos k2, if_neg (by decide)]
      rcases p_dec hH (b := b) (w := 0) (m := s 109 0) (c := 0) (u2 := s 131 13) (by omega) rfl (by decide) (by decide) (.inl ⟨by decide, rfl⟩) hsc k1 (by omega) with ⟨a1, a2⟩ | ⟨t2, a1, a2, a3, a4, a5, a6, a7, a8, a9, a10, a11⟩
      · refine .inr ⟨t, ?_, by rw [a1]; rfl⟩
        rw [a2, bo_s, if_neg (by decide)]
      · have a7' : t2 177 4 = s 109 0 := a7
        have hsb : sbi (stp (cnm s N 0 0 (s 109 0))) (s 109 0) 0 = up2 (stp (cnm s N 0 0 (s 109 0))) 110 (s 109 0).toNat 0 := by
          unfold sbi
          exact if_pos (by omega)
        obtain ⟨w1, w2, w3, w4, w5, w6, w7⟩ := hQ.1.2.2.2.1
        have t1 : (up2 t2 177 4 (s 109 0 + 1)) 177 1 = t 177 1 := a6.1 177 1 (by unfold lexs; omega) (by omega) (by omega)
        have t10 : (up2 t2 177 4 (s 109 0 + 1)) 177 10 = t 177 10 := a6.1 177 10 (by unfold lexs; omega) (by omega) (by omega)
        have s12 : (stp (cnm s N 0 0 (s 109 0))) 99 12 = s 99 12 := a5.1 99 12 (by omega) (by omega)
        have s16 : (stp (cnm s N 0 0 (s 109 0))) 131 6 = s 131 6 := a5.1 131 6 (by omega) (by omega)
        have s5 := a5.2
        have s1095 : (stp (cnm s N 0 0 (s 109 0))) 109 5 = s 109 5 := by rw [a11, if_neg (by omega)]
        have s1091 : (stp (cnm s N 0 0 (s 109 0))) 109 1 = s 109 1 := by rw [a11, if_neg (by omega)]
        have s1090 : (stp (cnm s N 0 0 (s 109 0))) 109 0 = s 109 0 + 1 := by rw [a11, if_pos rfl]
        have pw : PWx s t (stp (cnm s N 0 0 (s 109 0))) (up2 t2 177 4 (s 109 0 + 1)) := by
          refine ⟨⟨⟨by omega, fun k j q1 q2 q3 => a5.1 k j (by omega) (by omega)⟩, ⟨by omega, fun j q => a6.1 178 j (by unfold lexs; omega) (by omega) (by omega)⟩, by omega, fun j q1 q2 v w => by rw [a6.1 170 j (by unfold lexs; omega) (by omega) (by omega)]; exact w, fun q => by rw [a6.1 170 21 (by unfold lexs; omega) (by omega) (by omega)] at q; exact q, fun r => a5.1 113 r (by omega) (by omega)⟩, s12, t1, t10⟩
        refine .inl ⟨up2 (stp (cnm s N 0 0 (s 109 0))) 110 (s 109 0).toNat 0, up2 (up2 t2 177 4 (s 109 0 + 1)) 179 (s 109 0).toNat 0, ?_, by rw [a2, bo_s, hsb], RQ_bit ?_ _ _ _ _, a4, ?_, ?_, a5.2, ?_, ?_⟩
        · rw [a1, bo_s, if_pos (by decide), a7', ipl_e (by omega), up_comm (by omega)]
        · obtain ⟨z1, z2, z3, z4, z5, z6, z7⟩ := a3
          have s13 : (stp (cnm s N 0 0 (s 109 0))) 131 13 = s 131 13 := a5.1 131 13 (by omega) (by omega)
          have s14 : (stp (cnm s N 0 0 (s 109 0))) 131 14 = s 131 14 := a5.1 131 14 (by omega) (by omega)
          have r35 : (up2 t2 177 4 (s 109 0 + 1)) 170 35 = t 170 35 := a6.1 170 35 (by unfold lexs; omega) (by omega) (by omega)
          have r36 : (up2 t2 177 4 (s 109 0 + 1)) 170 36 = t 170 36 := a6.1 170 36 (by unfold lexs; omega) (by omega) (by omega)
          have r37 : (up2 t2 177 4 (s 109 0 + 1)) 170 37 = t 170 37 := a6.1 170 37 (by unfold lexs; omega) (by omega) (by omega)
          obtain ⟨y1, y2⟩ := hQ.1.2.1.2.2.2
          have hfo := hQ.2.2.2.2
          refine ⟨⟨z1, ⟨z2, z3, ?_, ?_, ?_⟩, ?_, ⟨by omega, by omega, by omega, by omega, by omega, by omega, by omega⟩, ?_, ?_, ?_⟩, z5, z6, z7, ?_⟩
          · intro r q1 q2
            rw [s13] at q2
            exact z4 r q1 q2
          · rw [s13, r35]
            exact y1
          · rw [s14, r36, r37]
            rcases y2 with y2 | ⟨y2, y3, y4⟩
            · exact .inl y2
            · refine .inr ⟨y2, y3, fun j hj => ?_⟩
              by_cases ej : j = N
              · subst ej
                rw [a9, a10]
                have := hfo y2
                exact ⟨fun _ => ⟨rfl, this.2⟩, fun q => absurd q (by omega)⟩
              · rw [(a8 j (by omega)).1, (a8 j (by omega)).2]
                exact y4 j (by omega)
          · obtain ⟨m1, m2, m3⟩ := hQ.1.2.2.1
            unfold RMk
            rw [a5.1 131 7 (by omega) (by omega), a5.1 131 8 (by omega) (by omega), a5.1 131 9 (by omega) (by omega), a6.1 170 22 (by unfold lexs; omega) (by omega) (by omega), a6.1 170 23 (by unfold lexs; omega) (by omega) (by omega), a6.1 170 24 (by unfold lexs; omega) (by omega) (by omega), a6.1 170 25 (by unfold lexs; omega) (by omega) (by omega), a6.1 170 26 (by unfold lexs; omega) (by omega) (by omega)]
            exact ⟨m1, m2, m3⟩
          · have hmk := hQ.1.2.2.2.2.1
            unfold MKx
            rw [a6.1 170 22 (by unfold lexs; omega) (by omega) (by omega), a6.1 170 23 (by unfold lexs; omega) (by omega) (by omega), a6.1 170 24 (by unfold lexs; omega) (by omega) (by omega), a6.1 170 25 (by unfold lexs; omega) (by omega) (by omega), a6.1 170 26 (by unfold lexs; omega) (by omega) (by omega), r37]
            refine ⟨MKr_mv hmk.1 rfl rfl s1095 ?_ ?_, fun q => ?_⟩
            · rw [a11, if_pos rfl]
              omega
            · rw [a11, if_neg (by omega)]
              exact Int.le_refl _
            · rw [s13] at q ⊢
              rw [a5.1 113 _ (by omega) (by omega), a5.1 112 _ (by omega) (by omega), a11, if_pos rfl]
              have := hmk.2 q
              omega
          · intro j hj
            rw [z2.1] at hj
            by_cases ej : j = N
            · subst ej
              rw [a9]
              exact ⟨fun q => absurd q (by omega), fun q => absurd q (by omega)⟩
            · rw [(a8 j (by omega)).1, (a8 j (by omega)).2]
              exact hQ.1.2.2.2.2.2.1 j (by omega)
          · intro r q1 q2
            rw [s1095] at q1
            rw [s13] at q2
            have hv := hQ.1.2.2.2.2.2.2 r q1 q2
            unfold RVx at hv ⊢
            rw [a5.1 113 r (by omega) (by omega), a5.1 112 r (by omega) (by omega), a6.1 200 r (by unfold lexs; omega) (by omega) (by omega), a6.1 202 r (by unfold lexs; omega) (by omega) (by omega), a6.1 195 r (by unfold lexs; omega) (by omega) (by omega), a6.1 196 r (by unfold lexs; omega) (by omega) (by omega), a6.1 197 r (by unfold lexs; omega) (by omega) (by omega), a6.1 198 r (by unfold lexs; omega) (by omega) (by omega), a6.1 199 r (by unfold lexs; omega) (by omega) (by omega)]
            obtain ⟨x1, x2, x3, x4, x5, x6, x7, x8, x9, x10, x11, x12, x13⟩ := hv
            refine ⟨x1, x2, x3, x4, x5, x6, x7, x8, x9, x10, x11, fun v q => bnd_m ?_ ?_ (x12 v q), x13⟩
            · rw [a11, if_pos rfl]
              omega
            · rw [a11, if_neg (by omega)]
              exact Int.le_refl _
          · rw [r36, r37, s14, a11, if_pos rfl]
            intro q
            have := hfo q
            omega
        · exact ⟨fun j => a5.1 112 j (by omega) (by omega), fun j => a5.1 113 j (by omega) (by omega), a5.1 131 13 (by omega) (by omega), a5.1 131 14 (by omega) (by omega), a5.1 131 6 (by omega) (by omega), show s 137 5 ≤ (stp (cnm s N 0 0 (s 109 0))) 137 5 by rw [a5.2]; omega⟩
        · exact ⟨a6.1 170 15 (by unfold lexs; omega) (by omega) (by omega), fun k j hk hj => (if_neg (by omega)).trans (a6.2 k j hk hj), a6.1 170 35 (by unfold lexs; omega) (by omega) (by omega), a6.1 170 36 (by unfold lexs; omega) (by omega) (by omega), a6.1 170 37 (by unfold lexs; omega) (by omega) (by omega), fun j => a6.1 201 j (by unfold lexs; omega) (by omega) (by omega), fun j => a6.1 202 j (by unfold lexs; omega) (by omega) (by omega)⟩
        · obtain ⟨⟨⟨p1, p2⟩, ⟨p3, p4⟩, p5, p6, p7, p8⟩, p9, p10, p11⟩ := pw
          exact ⟨⟨⟨p1, fun k j q1 q2 q3 => (if_neg (by omega)).trans (p2 k j q1 q2 q3)⟩, ⟨p3, p4⟩, p5, p6, p7, p8⟩, p9, p10, p11⟩
        · refine ⟨fun q => ⟨fun v hv => ?_, fun v hv => ?_⟩, s1095, fun r => ⟨(if_neg (by omega)).trans (a5.1 114 r (by omega) (by omega)), (if_neg (by omega)).trans (a6.1 200 r (by unfold lexs; omega) (by omega) (by omega)), (if_neg (by omega)).trans (a6.1 177 2 (by unfold lexs; omega) (by omega) (by omega)), (show s 109 0 ≤ (stp (cnm s N 0 0 (s 109 0))) 109 0 by rw [a11, if_pos rfl]; omega), (show s 109 1 ≤ (stp (cnm s N 0 0 (s 109 0))) 109 1 by rw [a11, if_neg (by omega)]; exact Int.le_refl _), (if_neg (by omega)).trans (a6.1 170 37 (by unfold lexs; omega) (by omega) (by omega))⟩⟩
          · by_cases ev : v = (s 109 0).toNat
            · rw [ev, up_self, up_self]
            · have hv : (v : Int) < (stp (cnm s N 0 0 (s 109 0))) 109 0 := hv
              rw [show (up2 (stp (cnm s N 0 0 (s 109 0))) 110 (s 109 0).toNat 0) 110 v = (stp (cnm s N 0 0 (s 109 0))) 110 v from if_neg (by omega), show (up2 (up2 t2 177 4 (s 109 0 + 1)) 179 (s 109 0).toNat 0) 179 v = (up2 t2 177 4 (s 109 0 + 1)) 179 v from if_neg (by omega), a5.1 110 v (by omega) (by omega), a6.1 179 v (by unfold lexs; omega) (by omega) (by omega)]
              exact q.1 v (by omega)
          · have hv : (v : Int) < (stp (cnm s N 0 0 (s 109 0))) 109 1 := hv
            have e1 : (up2 (stp (cnm s N 0 0 (s 109 0))) 110 (s 109 0).toNat 0) 111 v = s 111 v := (if_neg (by omega)).trans (a5.1 111 v (by omega) (by omega))
            have e2 : (up2 (up2 t2 177 4 (s 109 0 + 1)) 179 (s 109 0).toNat 0) 180 v = t 180 v := (if_neg (by omega)).trans (a6.1 180 v (by unfold lexs; omega) (by omega) (by omega))
            rw [e1, e2]
            exact q.2 v (by omega)
    · rw [if_neg k2, if_pos rfl]
      refine .inr ⟨t, rfl, ?_⟩
      rw [hcd, if_neg (fun q => q k1)]
      by_cases q : 0 ≤ fdn s (vlu s) b
      · rw [if_pos q]
        rfl
      · rw [if_neg q, if_pos (by omega)]
        rfl
  · rw [if_pos (show t 170 4 ≠ 1 from fun q => k1 (rkn_1 (hk4.symm.trans q))), if_pos rfl]
    refine .inr ⟨t, rfl, ?_⟩
    rw [hcd, if_pos k1]
    rfl
theorem ncu_e {M : Nat} (h : s 105 3 = (N : Int)) (hM : M ≤ N) : ncu s (M : Int) = up2 s 105 3 (M : Int) := by
  unfold ncu
  by_cases c : M = N
  · rw [if_neg (by omega), c, ← h, up_id]
  · rw [if_pos (by omega)]
/-- names cut -/
theorem RQ_cut {M : Nat} (hQ : RQx T n e N g s t) (hM : M ≤ N) (hf : t 170 37 = 1 → s 131 14 ≤ (M : Int)) : RQx T n e M g (ncu s (M : Int)) (up2 t 170 14 (M : Int)) := by
  rw [ncu_e hQ.1.2.1.1.1 hM]
  obtain ⟨⟨⟨hT, hx, l3, l4, l5⟩, ⟨⟨a1, a2, a3, a4, a5⟩, b, c, d1, d2⟩, m, v1, v2, v3, v4⟩, p, ⟨c1, c2, c3, c4⟩, q1, q2⟩ := hQ
  refine ⟨⟨⟨hT, hx, l3, l4, l5⟩, ⟨⟨up_self, up_self, ⟨by omega, fun i j hi hj hq => a3.2 i j hi (by omega) hq⟩, fun j hj => a4 j (by omega), fun j hj => a5 j (by omega)⟩, b, c, d1, ?_⟩, m, v1, v2, fun j hj => v3 j (by rw [show (up2 s 105 3 (M : Int)) 105 3 = (M : Int) from up_self] at hj; omega), v4⟩, p, ⟨c1, c2, c3, fun j hj => c4 j (by omega)⟩, ?_, fun q => ⟨hf q, (q2 q).2⟩⟩
  · rcases d2 with d2 | ⟨d2, d3, d4⟩
    · exact .inl d2
    · exact .inr ⟨d2, d3, fun j hj => d4 j (by omega)⟩
  · show (M : Int) ≤ s 109 0 + s 109 1 + s 109 2 + s 109 3 + s 109 4 + s 109 5
    omega
end VARS
