/-! par, in both: its branches. -/
section PAR2
variable {T : Nat → Int} {n e N : Nat} {g : Gtt} {s t s2 t2 : tab} {rc : MRq}
/-- masks of the par's own are those at its beginning -/
def YM (t0 : tab) (y7 y9 y11 y13 y15 : Int) : Prop := y7 = t0 170 22 ∧ y9 = t0 170 23 ∧ y11 = t0 170 24 ∧ y13 = t0 170 25 ∧ y15 = t0 170 26
def P273 (rc : MRq) : Prop := ∀ (T : Nat → Int) (n e N : Nat) (g : Gtt) (sb s0 t0 s t : tab) (x pl y3 y4 y6 y16 y17 a3 a5 a7 y7 y9 y11 y13 y15 c9 c11 c13 r17 r19 r21 r23 r25 cl w : Int) (m : Nat) (v : Option (Int × tab)), RQx T n e N (gBr g sb) s t → 1 ≤ x → x ≤ 20 → s 131 6 = 0 → 0 ≤ pl → m ≤ 5 → y3 = t0 177 1 + 2 → y4 = t0 177 1 + 3 → y6 = t0 177 1 + 10 → YM t0 y7 y9 y11 y13 y15 → SAV g a3 a5 a7 y7 y9 y11 y13 y15 → ACC c9 c11 c13 r17 r19 r21 r23 r25 → PRx g s0 t0 s t (m + 1) y16 y17 (lo r17 (t 170 22)) (lo r19 (t 170 23)) (lo r21 (t 170 24)) (lo r23 (t 170 25)) (lo r25 (t 170 26)) (ior w cl) → rc 60 [x - 1, pl, y3, y4, (m : Int), y6, y7, y9, y11, y13, y15, r17, r19, r21, r23, r25, cl, w] t = some v → OPx T n e N g s0 t0 s t (cG 69 [x, pl, a3, a5, a7, lo c9 (s 131 7), lo c11 (s 131 8), lo c13 (s 131 9), ior w cl, y16, y17, (m : Int) + 1] s) v
def P134 (rc : MRq) : Prop := ∀ (T : Nat → Int) (n e N : Nat) (g gx : Gtt) (s0 t0 s t : tab) (x pl y3 y4 y6 y16 y17 a3 a5 a7 y7 y9 y11 y13 y15 c9 c11 c13 r17 r19 r21 r23 r25 w : Int) (m : Nat) (v : Option (Int × tab)), RQx T n e N gx s t → gx.2.2.2.1 = g.2.2.2.1 → gx.2.2.2.2.1 = g.2.2.2.2.1 → 1 ≤ x → x ≤ 20 → s 131 6 = 0 → 0 ≤ pl → m ≤ 6 → (m ≠ 0 → kkd s = 124) → y3 = t0 177 1 + 2 → y4 = t0 177 1 + 3 → y6 = t0 177 1 + 10 → YM t0 y7 y9 y11 y13 y15 → SAV g a3 a5 a7 y7 y9 y11 y13 y15 → ACC c9 c11 c13 r17 r19 r21 r23 r25 → PRx g s0 t0 s t m y16 y17 r17 r19 r21 r23 r25 w → rc 59 [x - 1, pl, y3, y4, (m : Int), y6, y7, y9, y11, y13, y15, r17, r19, r21, r23, r25, w] t = some v → OPx T n e N g s0 t0 s t (if m = 0 then WBx x pl a3 a5 a7 c9 c11 c13 w y16 y17 0 s else cG 69 [x, pl, a3, a5, a7, c9, c11, c13, w, y16, y17, (m : Int)] s) v
theorem p_273 (hrc : rle rc rG) (h134 : P134 rc) : ∀ (T : Nat → Int) (n e N : Nat) (g : Gtt) (sb s0 t0 s t : tab) (x pl y3 y4 y6 y16 y17 a3 a5 a7 y7 y9 y11 y13 y15 c9 c11 c13 r17 r19 r21 r23 r25 cl w : Int) (m : Nat) (v : Option (Int × tab)), RQx T n e N (gBr g sb) s t → 1 ≤ x → x ≤ 20 → s 131 6 = 0 → 0 ≤ pl → m ≤ 5 → y3 = t0 177 1 + 2 → y4 = t0 177 1 + 3 → y6 = t0 177 1 + 10 → YM t0 y7 y9 y11 y13 y15 → SAV g a3 a5 a7 y7 y9 y11 y13 y15 → ACC c9 c11 c13 r17 r19 r21 r23 r25 → PRx g s0 t0 s t (m + 1) y16 y17 (lo r17 (t 170 22)) (lo r19 (t 170 23)) (lo r21 (t 170 24)) (lo r23 (t 170 25)) (lo r25 (t 170 26)) (ior w cl) → rM155_273 rc (x - 1) pl y3 y4 (m : Int) y6 y7 y9 y11 y13 y15 r17 r19 r21 r23 r25 cl w t = some v → OPx T n e N g s0 t0 s t (cG 69 [x, pl, a3, a5, a7, lo c9 (s 131 7), lo c11 (s 131 8), lo c13 (s 131 9), ior w cl, y16, y17, (m : Int) + 1] s) v := by
  intro T n e N g sb s0 t0 s t x pl y3 y4 y6 y16 y17 a3 a5 a7 y7 y9 y11 y13 y15 c9 c11 c13 r17 r19 r21 r23 r25 cl w m v hQ x0 x1 p0 pl0 m1 hy3 hy4 hy6 hY hs ha hP h
  have ha2 := ACC_up ha hQ.1.2.2.1
  unfold rM155_273 at h
  rw [ipl_e (show -2147483648 ≤ (m : Int) + 1 ∧ (m : Int) + 1 ≤ 2147483647 by omega)] at h
  have next : kkd s = 124 → rc 59 [x - 1, pl, y3, y4, (m : Int) + 1, y6, y7, y9, y11, y13, y15, lo r17 (t 170 22), lo r19 (t 170 23), lo r21 (t 170 24), lo r23 (t 170 25), lo r25 (t 170 26), ior w cl] t = some v → OPx T n e N g s0 t0 s t (cG 69 [x, pl, a3, a5, a7, lo c9 (s 131 7), lo c11 (s 131 8), lo c13 (s 131 9), ior w cl, y16, y17, (m : Int) + 1] s) v := fun hk h => by
    have := h134 T n e N g (gBr g sb) s0 t0 s t x pl y3 y4 y6 y16 y17 a3 a5 a7 y7 y9 y11 y13 y15 _ _ _ _ _ _ _ _ _ (m + 1) v hQ rfl rfl x0 x1 p0 pl0 (by omega) (fun _ => hk) hy3 hy4 hy6 hY hs ha2 hP h
    rw [if_neg (by omega)] at this
    exact this
  by_cases hm : (m : Int) + 1 ≠ 1
  · rw [if_pos hm] at h
    have h := bxr hrc (RL_is is_50 hQ.1.1) h
    try dsimp only at h
    by_cases k1 : kkd s = 124
    · rw [if_pos k1, if_pos (by decide)] at h
      exact next k1 h
    · rw [if_neg k1, if_neg (by decide)] at h
      rw [c_par2 (by omega) (.inr k1)]
      rcases RE_take hQ.1 is_32 (by decide) with ⟨t7, c1, c2, c3, c4, c5, c6, c7⟩ | ⟨c1, c2, c3⟩
      · have pt := PF_take hQ.1 is_32 (by decide) c2 c1
        have h := bxr hrc c1 h
        try dsimp only at h
        rw [if_pos (by decide)] at h
        have hQ4 := RQ_E hQ c4 c5 c6
        have hP7 := PR_pw hP (by omega) pt (by omega) (FB_E c5 c6)
        have pt1 := pt.2.1
        have pt2 := pt.2.2.1
        have pt3 := pt.2.2.2
        obtain ⟨⟨g1, ⟨g2, g3, g4⟩, g5, g6, g7, g8, g9⟩, b1, ⟨n1, n2, n3⟩, fb7, e1, e2, e3, e4, e5, e6, e7⟩ := hP7
        obtain ⟨hY1, hY2, hY3, hY4, hY5⟩ := hY
        have hp0 := b1.1.1
        have ey3 : y3.toNat = (t0 177 1).toNat + 2 := by omega
        have ey6 : y6.toNat = (t0 177 1).toNat + 10 := by omega
        obtain ⟨t8, ht8⟩ : ∃ t8, t8 = up2 (up2 t7 178 y3.toNat ((m : Int) + 1)) 178 y6.toNat (t7 177 1) := ⟨_, rfl⟩
        have o8 : ∀ k j, ¬ (k = 178 ∧ (j = (t0 177 1).toNat + 2 ∨ j = (t0 177 1).toNat + 10)) → t8 k j = t7 k j := fun k j q => by rw [ht8]; exact (if_neg (by omega)).trans (if_neg (by omega))
        have o8a : t8 178 ((t0 177 1).toNat + 2) = (m : Int) + 1 := by rw [ht8, ← ey3]; exact (if_neg (by omega)).trans up_self
        have o8b : t8 178 ((t0 177 1).toNat + 10) = t7 177 1 := by rw [ht8, ← ey6]; exact up_self
        obtain ⟨r1, r2⟩ := RE_pat (t2 := t8) c4 (fun k j q1 q2 => o8 k j (by omega))
        have hQ8 := RQ_E hQ4 r1 FEc_rf r2
        obtain ⟨f1, f2, f3⟩ := RQ_fi hQ8 (by omega) (by
          have e37 : t8 170 37 = t0 170 37 := (o8 170 37 (by omega)).trans (fb7.2.2 0).2.2.2.2.2
          rw [e37, hY1, hY2, hY3, hY4, hY5]
          exact MKr_lo (MKr_mv e7.1 rfl rfl fb7.2.1 (fb7.2.2 0).2.2.2.1 (fb7.2.2 0).2.2.2.2.1) g8) hs ha2
        obtain ⟨w1, w2, w3, w4, w5, w6, w7⟩ := RQ_pf (w := ior w cl) f1 pl0
        rw [c3, bo_s]
        have hv : some (some ((1 : Int), pfR (ior w cl) pl (fiR (lo y7 (lo r17 (t 170 22))) (lo y9 (lo r19 (t 170 23))) (lo y11 (lo r21 (t 170 24))) (lo y13 (lo r23 (t 170 25))) (lo y15 (lo r25 (t 170 26))) t8))) = some v := by
          rw [← h, ht8]
          unfold pfR
          rw [show (fiR (lo y7 (lo r17 (t 170 22))) (lo y9 (lo r19 (t 170 23))) (lo y11 (lo r21 (t 170 24))) (lo y13 (lo r23 (t 170 25))) (lo y15 (lo r25 (t 170 26))) (up2 (up2 t7 178 y3.toNat ((m : Int) + 1)) 178 y6.toNat (t7 177 1))) 170 21 = t7 170 21 from rfl]
          by_cases h1 : ior w cl = 0
          · rw [if_pos h1, if_pos h1]
            rfl
          · rw [if_neg h1, if_neg h1]
            by_cases h2 : t7 170 21 < 0
            · rw [if_pos h2, if_pos h2]
              rfl
            · rw [if_neg h2, if_neg h2]
              by_cases h3 : t7 170 21 ≤ pl
              · rw [if_pos h3, if_pos h3]
                rfl
              · rw [if_neg h3, if_neg h3]
                rfl
        cases hv
        obtain ⟨t9, ht9⟩ : ∃ t9, t9 = fiR (lo y7 (lo r17 (t 170 22))) (lo y9 (lo r19 (t 170 23))) (lo y11 (lo r21 (t 170 24))) (lo y13 (lo r23 (t 170 25))) (lo y15 (lo r25 (t 170 26))) t8 := ⟨_, rfl⟩
        obtain ⟨s9, hs9⟩ : ∃ s9, s9 = fiC (lo a3 (lo c9 (s 131 7))) (lo a5 (lo c11 (s 131 8))) (lo a7 (lo c13 (s 131 9))) (stp s) := ⟨_, rfl⟩
        have o9 : ∀ k j, ¬ (k = 170 ∧ 22 ≤ j ∧ j ≤ 26) → t9 k j = t8 k j := by rw [ht9]; exact fiR_o
        have p9 : ∀ k j, ¬ (k = 131 ∧ (j = 7 ∨ j = 8 ∨ j = 9)) → s9 k j = (stp s) k j := by rw [hs9]; exact fiC_o
        have m9 : t9 170 22 = lo y7 (lo r17 (t 170 22)) ∧ t9 170 23 = lo y9 (lo r19 (t 170 23)) ∧ t9 170 24 = lo y11 (lo r21 (t 170 24)) ∧ t9 170 25 = lo y13 (lo r23 (t 170 25)) ∧ t9 170 26 = lo y15 (lo r25 (t 170 26)) := by rw [ht9]; exact ⟨rfl, rfl, rfl, rfl, rfl⟩
        rw [← ht9] at w1 w3 w6 w7 f3 ⊢
        rw [← hs9] at w1 w2 w4 w5 f2 ⊢
        obtain ⟨t10, ht10⟩ : ∃ t10, t10 = pfR (ior w cl) pl t9 := ⟨_, rfl⟩
        obtain ⟨s10, hs10⟩ : ∃ s10, s10 = pfC (ior w cl) pl s9 := ⟨_, rfl⟩
        rw [← ht10] at w1 w3 w6 w7 ⊢
        rw [← hs10] at w1 w2 w4 w5 ⊢
        have tt : ∀ k j, ¬ (k = 170) → ¬ (k = 178 ∧ (j = (t0 177 1).toNat + 2 ∨ j = (t0 177 1).toNat + 10)) → t10 k j = t7 k j := fun k j q1 q2 => (w6 k j (by omega)).trans ((o9 k j (by omega)).trans (o8 k j q2))
        have ss : ∀ k j, k ≠ 131 → s10 k j = (stp s) k j := fun k j q => (w5 k j (by omega)).trans (p9 k j (by omega))
        have s12 := ss 99 12 (by omega)
        have s5 := ss 137 5 (by omega)
        have s6' : s10 131 6 = 0 := by
          rw [w5 131 6 (by omega), p9 131 6 (by omega), c5.2.1]
          exact p0
        have t101 := tt 177 1 (by omega) (by omega)
        have t1010 := tt 177 10 (by omega) (by omega)
        obtain ⟨s11, hs11⟩ : ∃ s11, s11 = cad s10 312 y16 ((m : Int) + 1) (-1) := ⟨_, rfl⟩
        have u8 := w1.1.2.2.2.1
        have v2 := c4.2.2.2.1.2.1
        have c56 := c5.2.1
        have hq2 := hQ.1.2.2.2.1.2.1
        obtain ⟨m1', m2, ⟨m3, m4, m5, m6, m7⟩, m8, m9', m10, m11⟩ := RE_cad w1.1 (by omega) hs11 (by omega)
        have e115 := m8 137 5 (by omega) (by omega)
        have hx : s11 99 12 - 1 = s10 99 12 := by omega
        have mg : MGx t0 t10 := fun j q1 q2 v w => by
          rw [w6 170 j (by omega)]
          have : j = 22 ∨ j = 23 ∨ j = 24 ∨ j = 25 ∨ j = 26 := by omega
          rcases this with rfl | rfl | rfl | rfl | rfl
          · rw [m9.1, hY1]; exact mbt_lo.mpr (.inl w)
          · rw [m9.2.1, hY2]; exact mbt_lo.mpr (.inl w)
          · rw [m9.2.2.1, hY3]; exact mbt_lo.mpr (.inl w)
          · rw [m9.2.2.2.1, hY4]; exact mbt_lo.mpr (.inl w)
          · rw [m9.2.2.2.2, hY5]; exact mbt_lo.mpr (.inl w)
        have q21 : t10 170 21 = -1 → ior w cl = 0 ∧ t7 170 21 = -1 := fun q => by
          have := w7 q
          exact ⟨this.1, by rw [← this.2, o9 170 21 (by omega), o8 170 21 (by omega)]⟩
        have pf10 : PFx s0 t0 s10 t10 := by
          obtain ⟨⟨z1, z2⟩, ⟨z3, z4⟩, z5, z6, z7⟩ := b1
          exact ⟨⟨by omega, fun k j j1 j2 j3 => (ss k j (by omega)).trans (z2 k j j1 j2 j3)⟩, ⟨by omega, fun j j1 => (tt 178 j (by omega) (by omega)).trans (z4 j j1)⟩, by omega, mg, fun q => z6 (q21 q).2, fun r => (ss 113 r (by omega)).trans (z7 r)⟩
        have fb10 : FBx s9 t9 s10 t10 := by
          refine ⟨fun q => ⟨fun v hv => ?_, fun v hv => ?_⟩, w5 109 5 (by omega), fun r => ⟨w5 114 r (by omega), w6 200 r (by omega), w6 177 2 (by omega), Int.le_of_eq (w5 109 0 (by omega)).symm, Int.le_of_eq (w5 109 1 (by omega)).symm, w6 170 37 (by omega)⟩⟩
          · rw [w5 109 0 (by omega)] at hv
            rw [w5 110 v (by omega), w6 179 v (by omega)]
            exact q.1 v hv
          · rw [w5 109 1 (by omega)] at hv
            rw [w5 111 v (by omega), w6 180 v (by omega)]
            exact q.2 v hv
        rw [m1', ← hs11]
        refine ⟨1, t10, rfl, .inl ⟨rfl, s11, by rw [hx], RQ_E w1 m9' m10 FEr_rf, FSc_tr (FSc_E c5) (FSc_tr (FSc_E f2) (FSc_tr w2 (FSc_E m10))), FSr_tr (FSr_E c6) (FSr_tr (FSr_E r2) (FSr_tr (FSr_E f3) w3)), by omega, fun q => ?_, by omega, by rw [hx]; exact m7, PF_tr pf10 m11, ⟨by omega, by omega, by omega⟩, FB_tr fb7 (FB_tr (FB_E FEc_rf r2) (FB_tr (FB_E f2 f3) (FB_tr fb10 (FB_E m10 FEr_rf))))⟩⟩
        obtain ⟨q1, q2⟩ := q21 q
        have row := g1 q2 q1
        have r3 := CO_pat4 (t2 := t10) row (fun i z1 z2 => tt 178 i (by omega) (by omega)) (fun i z1 z2 => tt 178 i (by omega) (by omega))
        have r4 := CO_pq (s2 := s10) (t2 := t10) r3 (by omega) (by omega) (fun _ => by omega) ⟨⟨by omega, fun k j z1 z2 _ => ss k j (by omega)⟩, ⟨Int.le_refl _, fun _ _ => rfl⟩, Int.le_refl _, fun q => q, fun r => ss 113 r (by omega)⟩
        have r5 := CO_pq r4 (by omega) (by omega) (fun _ => by omega) (PQ_F m11)
        have r6 := CO_sub r5 (CA_sb (g := g) (s := s11) (t := t10) rfl (by omega) (by omega) ⟨fun v z => by rw [w6 170 22 (by omega), m9.1]; exact mbt_lo.mpr (.inr z), fun v z => by rw [w6 170 23 (by omega), m9.2.1]; exact mbt_lo.mpr (.inr z), fun v z => by rw [w6 170 24 (by omega), m9.2.2.1]; exact mbt_lo.mpr (.inr z), fun v z => by rw [w6 170 25 (by omega), m9.2.2.2.1]; exact mbt_lo.mpr (.inr z), fun v z => by rw [w6 170 26 (by omega), m9.2.2.2.2]; exact mbt_lo.mpr (.inr z)⟩) cxt_au
        rw [hx]
        have tl : ∀ i : Nat, (i = (t0 177 1).toNat + 2 ∨ i = (t0 177 1).toNat + 10) → t10 178 i = t8 178 i := fun i _ => (w6 178 i (by omega)).trans (o9 178 i (by omega))
        refine CO_mk (.inr (.inl ⟨rfl, by omega, by omega, by omega, cxt_au, .inl ⟨by omega, by omega⟩, .inr (.inr (.inr (.inr (.inr (.inr (.inr (.inr (.inr (.inr (.inr ⟨m3, ?_, ?_, ?_, ?_, ?_, m + 1, by rw [m5]; omega, by omega, by omega, ?_⟩))))))))))⟩))
        · rw [tt 178 _ (by omega) (by omega)]
          exact g2
        · rw [tt 178 _ (by omega) (by omega)]
          exact g3
        · rw [tl _ (.inl rfl), o8a, m5]
        · rw [tt 178 _ (by omega) (by omega)]
          exact g4
        · rw [tl _ (.inr rfl), o8b]
          omega
        · rw [m4, show (s10 99 12).toNat = ((stp s) 99 12).toNat by omega, t101, t1010]
          exact r6
      · have h := bxr hrc c1 h
        try dsimp only at h
        rw [if_neg (by decide)] at h
        cases h
        refine OP_no ?_
        rw [c3]
        rfl
  · rw [if_neg hm] at h
    have h := bxr hrc (RL_is is_50 hQ.1.1) h
    try dsimp only at h
    by_cases k1 : kkd s = 124
    · rw [if_pos k1, if_pos (by decide)] at h
      exact next k1 h
    · rw [if_neg k1, if_neg (by decide)] at h
      cases h
      refine OP_no ?_
      rw [c_par1 (by omega) (.inl (by omega)), cG_43]
      unfold cM43
      rw [if_pos k1]
      rfl
/-- one branch -/
theorem p_br (hS : PSx rc) (h273 : P273 rc) {gx : Gtt} {s0 t0 : tab} {x pl y3 y4 y6 y16 y17 a3 a5 a7 y7 y9 y11 y13 y15 c9 c11 c13 r17 r19 r21 r23 r25 w : Int} {m : Nat} {v : Option (Int × tab)} (hQ : RQx T n e N gx s t) (hg1 : gx.2.2.2.1 = g.2.2.2.1) (hg2 : gx.2.2.2.2.1 = g.2.2.2.2.1) (x0 : 1 ≤ x) (x1 : x ≤ 20) (p0 : s 131 6 = 0) (pl0 : 0 ≤ pl) (m1 : m ≤ 5) (hy3 : y3 = t0 177 1 + 2) (hy4 : y4 = t0 177 1 + 3) (hy6 : y6 = t0 177 1 + 10) (hY : YM t0 y7 y9 y11 y13 y15) (hs : SAV g a3 a5 a7 y7 y9 y11 y13 y15) (ha : ACC c9 c11 c13 r17 r19 r21 r23 r25) (hP : PRx g s0 t0 s t m y16 y17 r17 r19 r21 r23 r25 w)
    (h : (bo (rc 29 [ipl (x - 1) 1] (up2 (rfg t) 178 ((ipl y4 (m : Int)).toNat) ((rfg t) 177 1))) fun z11 t11 => if z11 ≠ 0 then (if la r17 (lo (t11 170 23) (t11 170 22)) ≠ 0 then rc 60 [x - 1, pl, y3, y4, (m : Int), y6, y7, y9, y11, y13, y15, r17, r19, r21, r23, r25, 1, w] (pt1 t11 20) else if la (t11 170 22) (lo r19 r17) ≠ 0 then rc 60 [x - 1, pl, y3, y4, (m : Int), y6, y7, y9, y11, y13, y15, r17, r19, r21, r23, r25, 1, w] (pt1 t11 20) else if la r21 (t11 170 24) ≠ 0 then rc 60 [x - 1, pl, y3, y4, (m : Int), y6, y7, y9, y11, y13, y15, r17, r19, r21, r23, r25, 1, w] (pt1 t11 20) else if la r23 (t11 170 25) ≠ 0 then rc 60 [x - 1, pl, y3, y4, (m : Int), y6, y7, y9, y11, y13, y15, r17, r19, r21, r23, r25, 1, w] (pt1 t11 20) else if la r25 (t11 170 26) = 0 then rc 60 [x - 1, pl, y3, y4, (m : Int), y6, y7, y9, y11, y13, y15, r17, r19, r21, r23, r25, 0, w] (pt1 t11 20) else rc 60 [x - 1, pl, y3, y4, (m : Int), y6, y7, y9, y11, y13, y15, r17, r19, r21, r23, r25, 1, w] (pt1 t11 20)) else some (some (0, t11))) = some v) : OPx T n e N g s0 t0 s t (WBx x pl a3 a5 a7 c9 c11 c13 w y16 y17 (m : Int) s) v := by
  obtain ⟨z1, z2, z3⟩ := RQ_zr hQ
  have hgb : gBr gx s = gBr g s := by unfold gBr; rw [hg1, hg2]
  rw [hgb] at z1
  obtain ⟨⟨g1, ⟨g2, g3, g4⟩, g5, g6, g7, g8, g9⟩, b1, ⟨n1, n2, n3⟩, fb, e1, e2, e3, e4, e5, e6, e7⟩ := hP
  have hp0 := b1.1.1
  have ez12 : (zrC s) 99 12 = s 99 12 := zrC_o 99 12 (by omega)
  have er1 : (rfg t) 177 1 = t 177 1 := rfg_o 177 1 (by omega)
  have er10 : (rfg t) 177 10 = t 177 10 := rfg_o 177 10 (by omega)
  have hin0 := RL_in hQ.1.1
  have hv4 := hQ.1.2.2.2.1.2.2.2.1
  rw [ipl_e (a := y4) (by omega), show (y4 + (m : Int)).toNat = (t0 177 1).toNat + 3 + m by omega, er1] at h
  obtain ⟨t1, ht1⟩ : ∃ t1, t1 = up2 (rfg t) 178 ((t0 177 1).toNat + 3 + m) (t 177 1) := ⟨_, rfl⟩
  rw [← ht1] at h
  have o1 : ∀ k j, ¬ (k = 178 ∧ j = (t0 177 1).toNat + 3 + m) → t1 k j = (rfg t) k j := fun k j q => by rw [ht1]; exact if_neg q
  have o1f : t1 178 ((t0 177 1).toNat + 3 + m) = t 177 1 := by rw [ht1]; exact up_self
  obtain ⟨r1, r2⟩ := RE_pat (t2 := t1) z1.1 (fun k j q1 q2 => o1 k j (by omega))
  have hQ1 := RQ_E z1 r1 FEc_rf r2
  have pz6 : (zrC s) 131 6 = 0 := by rw [zrC_o 131 6 (by omega)]; exact p0
  have et1 : t1 177 1 = t 177 1 := (o1 177 1 (by omega)).trans er1
  have et10 : t1 177 10 = t 177 10 := (o1 177 10 (by omega)).trans er10
  have ez5 : (zrC s) 137 5 = s 137 5 := zrC_o 137 5 (by omega)
  unfold WBx
  rcases p_stm hS hQ1 x0 x1 pz6 h with ⟨s3, t3, k1, k2, k3, k4, k5, h, j1, j2, j3, j4, ⟨j5, j6, j7⟩, j8⟩ | ⟨⟨t9, rfl⟩, k1⟩
  · rw [k1, bo_s]
    obtain ⟨s4, hs4⟩ : ∃ s4, s4 = lnk s3 y17 (s3 99 12 - 1) := ⟨_, rfl⟩
    obtain ⟨l1, l2, l3⟩ := RE_lnk k2.1 hs4
    rw [← hs4]
    obtain ⟨u1, u2, u3, u4, u5, u6, u7⟩ := k2.1.2.2.2.1
    have hin3 := RL_in k2.1.1
    have jb := j4.1.1
    have jc := j4.2.1.1
    obtain ⟨cw, cw1⟩ := pt1_cw (t := t3) 20 (by omega)
    obtain ⟨t4, ht4⟩ : ∃ t4, t4 = pt1 t3 20 := ⟨_, rfl⟩
    rw [← ht4] at cw cw1 h
    have e4' := cw.1
    have l36 := l2.2.1
    have e45 : s4 137 5 = s3 137 5 := l3 137 5 (by omega)
    obtain ⟨i1, i2, i3, i4⟩ := RE_cw l1 cw (by omega)
    have hQ4 := RQ_E (RQ_E k2 l1 l2 FEr_rf) i1 FEc_rf i2
    have m31 : ∀ j, s4 131 j = s3 131 j := fun j => l3 131 j (by omega)
    have m70 : ∀ j, t4 170 j = t3 170 j := fun j => CW_k cw (by omega)
    have hmk := k2.1.2.2.1
    have q7 : s4 131 7 = lo 0 (lo (t3 170 23) (t3 170 22)) := (m31 7).trans hmk.1
    have q8 : s4 131 8 = lo 0 (t3 170 22) := (m31 8).trans hmk.2.1
    have q9 : s4 131 9 = lo 0 (pkm (t3 170 24) (t3 170 25) (t3 170 26)) := (m31 9).trans hmk.2.2.1
    have hce := clash_e q7 q8 q9 hmk.2.2.2 ha.1 ha.2.1 ha.2.2.1 ha.2.2.2
    have e12 : s4 99 12 = s3 99 12 := l3 99 12 (by omega)
    have p4 : s4 131 6 = 0 := by rw [l36, k3.2.2.2.2.1]; exact pz6
    have hy17 : ∀ j : Nat, (j : Int) = y17 → s0 99 12 ≤ (j : Int) ∧ (j : Int) < s 99 12 := fun j q => by
      by_cases c : 0 < m
      · have := g7 c
        omega
      · have := g6 (by omega)
        omega
    have fbz : FBx s t s4 t4 := FB_tr (FB_E z2 z3) (FB_tr (FB_E FEc_rf r2) (FB_tr j8 (FB_tr (FB_E l2 FEr_rf) (FB_E FEc_rf i2))))
    have pq1 : PQx s0 t0 (zrC s) t1 := PQ_pat (PQ_tr b1 PQ_zr) e3 (fun k j z1 z2 => o1 k j (by omega))
    have pq3 : PQx s0 t0 s3 t4 := PQ_tr pq1 (PQ_tr (PQ_F j4) (PQ_F (CW_PF (s := s3) (by omega) cw)))
    have pq4 : PQx s0 t0 s4 t4 := by
      obtain ⟨⟨z1, z2⟩, z3, z4, z5, z6⟩ := pq3
      refine ⟨⟨by omega, fun k2' j j1' j2' j3' => (l3 k2' j ?_).trans (z2 k2' j j1' j2' j3')⟩, z3, z4, z5, fun r => (l3 113 r (by omega)).trans (z6 r)⟩
      rintro ⟨_, jq⟩
      have := hy17 _ jq
      omega
    have cell : ∀ i : Nat, (i : Int) < t1 177 1 → i ≠ (t0 177 1).toNat + 3 + m → t4 178 i = t 178 i := fun i q1 q2 => by
      rw [cw.2 178 i (by omega) (by omega), j4.2.1.2 i q1, o1 178 i (by omega), rfg_o 178 i (by omega)]
    have hown3 : ∀ k, mbt (t3 170 26) k → ∀ z, ownx g.2.2.2.1 k z → z < g.2.2.2.2.1 := fun k q => (k2.1.2.2.2.2.1.1.1 k q).2
    have fin : ∀ cl : Int, (cl = 0 ∨ cl = 1) → (if lo (lo (la (s4 131 8) c9) (la (s4 131 7) c11)) (la (s4 131 9) c13) = 0 then (0 : Int) else 1) = cl → rc 60 [x - 1, pl, y3, y4, (m : Int), y6, y7, y9, y11, y13, y15, r17, r19, r21, r23, r25, cl, w] t4 = some v → OPx T n e N g s0 t0 s t (cG 69 [x, pl, a3, a5, a7, lo c9 (s4 131 7), lo c11 (s4 131 8), lo c13 (s4 131 9), ior w (if lo (lo (la (s4 131 8) c9) (la (s4 131 7) c11)) (la (s4 131 9) c13) = 0 then 0 else 1), if 0 < (m : Int) then y16 else s3 99 12 - 1, s3 99 12 - 1, (m : Int) + 1] s4) v := fun cl hc01 hcl hh => by
      rw [hcl]
      obtain ⟨io1, io2⟩ := ior_0 g9 hc01
      refine OP_pre (h273 T n e N g s s0 t0 s4 t4 x pl y3 y4 y6 _ _ a3 a5 a7 y7 y9 y11 y13 y15 c9 c11 c13 r17 r19 r21 r23 r25 cl w m v hQ4 x0 x1 p4 pl0 m1 hy3 hy4 hy6 hY hs ha ⟨⟨fun q qw => ?_, ⟨?_, ?_, ?_⟩, by omega, fun q => absurd q (by omega), fun _ => ⟨by omega, by omega, ?_⟩, ?_, io2⟩, pq4, ⟨by omega, by omega, by omega⟩, FB_tr fb fbz, e1, e2, e3, e4, e5, e6, e7⟩ hh) (FSc_tr (FSc_E z2) (FSc_tr k3 (FSc_E l2))) (FSr_tr (FSr_E z3) (FSr_tr (FSr_E r2) (FSr_tr k4 (FSr_E i2))))
      · obtain ⟨w0, c0⟩ := io1 qw
        rw [m70] at q
        have q1 : t1 170 21 = -1 := j4.2.2.2.2.1 q
        have qt : t 170 21 = -1 := by
          rw [← q1, o1 170 21 (by omega), rfg_o 170 21 (by omega)]
        have row := g1 qt w0
        have cz : lo (lo (la (s4 131 8) c9) (la (s4 131 7) c11)) (la (s4 131 9) c13) = 0 := by
          by_cases cc : lo (lo (la (s4 131 8) c9) (la (s4 131 7) c11)) (la (s4 131 9) c13) = 0
          · exact cc
          · rw [if_neg cc] at hcl
            omega
        have hcl5 := hce.mp cz
        have ra := CO_pq row (by omega) (by omega) (fun _ => by omega) (PQ_zr (s := s) (t := t))
        have rb := CO_pat4 (t2 := t1) ra (fun i z1 z2 => o1 178 i (by omega)) (fun i z1 z2 => o1 178 i (by omega))
        have rc' := CO_pq rb (by omega) (by omega) (fun _ => by omega) (PQ_tr (PQ_F j4) (PQ_F (CW_PF (s := s3) (by omega) cw)))
        have br := CO_pq (j1 q) (by omega) (by omega) (fun q => absurd q (by omega)) (PQ_F (CW_PF (s := s3) (by omega) cw))
        rw [ez12, et1, et10] at br
        have nc := NC_m (s := s3) (t := t3) (G := g.2.2.2.1) (g := gBr g s) (a := (s0 99 12).toNat) (h := s 99 12) (A := r17) (U := r19) (S := r21) (R := r23) (K := r25) rfl (by show g.2.2.2.2.1 ≤ _; omega) (by show s 99 12 ≤ ((g.2.2.2.2.1 + ((s 99 12).toNat - g.2.2.2.2.1) : Nat) : Int); omega) (fun k qk => (g8.1 k qk).2) hown3 hcl5
        have r4 := ROW4_s m _ _ _ _ _ _ rc' br cw1 (by
          rw [cw.2 178 _ (by omega) (by omega), j4.2.1.2 _ (by omega), o1f]
          omega) nc (fun z qz => by
          rcases qz with ⟨_, qz⟩ | ⟨r, qz1, qz2⟩
          · omega
          · have := hown3 r qz1 z qz2
            omega) j3
        have r5 := CO_sub r4 (CA_un (g := gBr g s) (s := s3) (t := t3) rfl (by show ((s0 99 12).toNat : Int) ≤ ((g.2.2.2.2.1 + ((s 99 12).toNat - g.2.2.2.2.1) : Nat) : Int); omega) (by omega)) CA_au
        have es4 : (if 0 < m then up2 s3 104 ((s 99 12).toNat - 1) (s3 99 12 - 1) else s3) = s4 := by
          rw [hs4]
          unfold lnk
          by_cases c : 0 < m
          · have := g7 c
            rw [if_pos c, if_pos (by omega), show y17.toNat = (s 99 12).toNat - 1 by omega]
          · have := g6 (by omega)
            rw [if_neg c, if_neg (by omega)]
        rw [es4] at r5
        have ey : (if 0 < (m : Int) then y16 else s3 99 12 - 1) = if 0 < m then y16 else s3 99 12 - 1 := by
          by_cases c : 0 < m
          · rw [if_pos c, if_pos (by omega)]
          · rw [if_neg c, if_neg (by omega)]
        rw [ey, e12, m70, m70, m70, m70, m70, show (t4 177 1).toNat = (t3 177 1).toNat + 1 by omega, show (t4 177 10).toNat = (t3 177 10).toNat by omega]
        exact r5
      · rw [cell _ (by omega) (by omega)]
        exact g2
      · rw [cell _ (by omega) (by omega)]
        exact g3
      · rw [cell _ (by omega) (by omega)]
        exact g4
      · rw [e12]
        refine (l3 104 _ ?_).trans j3
        rintro ⟨_, jq⟩
        have := hy17 _ jq
        omega
      · rw [m70, m70, m70, m70, m70]
        have e37 : t3 170 37 = t0 170 37 := (m70 37).symm.trans ((fbz.2.2 0).2.2.2.2.2.trans (fb.2.2 0).2.2.2.2.2)
        have k3' := k2.1.2.2.2.2.1.1
        rw [e37] at k3'
        exact MKr_lo (MKr_mv g8 rfl rfl fbz.2.1 (fbz.2.2 0).2.2.2.1 (fbz.2.2 0).2.2.2.2.1) (MKr_mv k3' rfl rfl (l3 109 5 (by omega)) (Int.le_of_eq (l3 109 0 (by omega)).symm) (Int.le_of_eq (l3 109 1 (by omega)).symm))
    by_cases q1 : la r17 (lo (t3 170 23) (t3 170 22)) ≠ 0
    · rw [if_pos q1] at h
      exact fin 1 (.inr rfl) (if_neg (fun q => q1 (hce.mp q).1)) h
    rw [if_neg q1] at h
    by_cases q2 : la (t3 170 22) (lo r19 r17) ≠ 0
    · rw [if_pos q2] at h
      exact fin 1 (.inr rfl) (if_neg (fun q => q2 (hce.mp q).2.1)) h
    rw [if_neg q2] at h
    by_cases q3 : la r21 (t3 170 24) ≠ 0
    · rw [if_pos q3] at h
      exact fin 1 (.inr rfl) (if_neg (fun q => q3 (hce.mp q).2.2.1)) h
    rw [if_neg q3] at h
    by_cases q4 : la r23 (t3 170 25) ≠ 0
    · rw [if_pos q4] at h
      exact fin 1 (.inr rfl) (if_neg (fun q => q4 (hce.mp q).2.2.2.1)) h
    rw [if_neg q4] at h
    by_cases q5 : la r25 (t3 170 26) = 0
    · rw [if_pos q5] at h
      exact fin 0 (.inl rfl) (if_pos (hce.mpr ⟨Decidable.not_not.mp q1, Decidable.not_not.mp q2, Decidable.not_not.mp q3, Decidable.not_not.mp q4, q5⟩)) h
    · rw [if_neg q5] at h
      exact fin 1 (.inr rfl) (if_neg (fun q => q5 (hce.mp q).2.2.2.2)) h
  · refine OP_no ?_
    rw [k1]
    rfl
end PAR2
