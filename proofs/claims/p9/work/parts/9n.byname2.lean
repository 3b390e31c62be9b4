/-! byName(..) of the reference, all of it. -/
section BYN2
variable {T : Nat → Int} {n e N : Nat} {g : Gtt} {s t s2 t2 : tab} {rc : MRq}
/-- assignments -/
theorem p_asg (hrc : rle rc rG) (hX : PXx rc) (hT : PTx rc) {x k : Int} {v : Option (Int × tab)} (hR : REx T n e N g s t) (x0 : 1 ≤ x) (x1 : x ≤ 20) (b0 : 0 ≤ s 131 6) (b1 : s 131 6 ≤ 10 * x) (k0 : 0 ≤ k) (k1 : k < (N : Int)) (hk : kkd s = 1) (hkind : ((nkd s k = 1 ∧ kkd (stp s) = 91) ∨ (nkd s k = 0 ∧ kkd (stp s) ≠ 91))) (hfun : t 170 37 = 0 ∨ (t 170 37 = 1 ∧ nkd s k = 0 ∧ t 170 36 ≤ nnm s k)) (h : (bo (rc 27 [k, x - 1] (prt t)) fun z93 t93 => if z93 ≠ 0 then bo (rc 8 [88] t93) fun z95 t95 => if z95 = 0 then some (some (0, t95)) else bo (rc 22 [0, ipl (x - 1) 1] t95) fun z98 t98 => if z98 ≠ 0 then bo (rc 8 [30] (sto t98 (nkd s k) (nnm s k))) fun z101 t101 => some (some (z101, t101)) else some (some (0, t98)) else some (some (0, t93))) = some v) : ONx T n e N g s t (asgX x k (stp s)) v := by
  rw [ipl_e (by omega), show x - 1 + 1 = x by omega] at h
  obtain ⟨n1, n2, n3, n4, n5, n6, n7, _⟩ := RS_nm hR.2.1 k0 k1
  obtain ⟨w1, w2, w3, w4, w5, w6, w7⟩ := hR.2.2.2.1
  have hin0 := RL_in hR.1
  have hlim := hR.2.1.2.1
  obtain ⟨cw0, cw00⟩ := prt_cw (t := t) (by omega)
  unfold asgX
  rcases bo_inv h with ⟨h9, _⟩ | ⟨z6, t6, h9, h⟩
  · obtain ⟨z, t3, e1, _⟩ := hT T n e N g s t _ 1 k x _ hR cw0 (by omega) x0 x1 b0 b1 k0 k1 hk hkind hfun h9
    cases e1
  · obtain ⟨z, t3, e1, e2⟩ := hT T n e N g s t _ 1 k x _ hR cw0 (by omega) x0 x1 b0 b1 k0 k1 hk hkind hfun h9
    cases e1
    rcases e2 with ⟨rfl, s4, yy, f1, f2, f3, f4, m1, m2, m3, m4, m5, m6, m7⟩ | ⟨rfl, f1⟩
    · rw [if_pos (by decide)] at h
      rw [f1]
      have b6 : s4 131 6 = s 131 6 := f3.2.1
      have hp1 := m3.1.1
      have hp2 := m3.2.1.1
      obtain ⟨u1, u2, u3, u4, u5, u6, u7⟩ := f2.2.2.2.1
      rcases RE_take f2 is_88 (by decide) with ⟨t7, c1, c2, c3, c4, c5, c6, c7⟩ | ⟨c1, c2, c3⟩
      · have pt := PF_take f2 is_88 (by decide) c2 c1
        have qt1 := pt.2.1
        have qt2 := pt.2.2.1
        have qt3 := pt.2.2.2
        have h := bxr hrc c1 h
        try dsimp only at h
        rw [if_neg (by decide)] at h
        rw [c3, bo_s]
        have b7 : (stp s4) 131 6 = s 131 6 := c5.2.1.trans b6
        rcases bo_inv h with ⟨h9, _⟩ | ⟨z8, t8, h9, h⟩
        · obtain ⟨z, t3, e1, _⟩ := p_Ex hX c4 (by omega) x1 (by omega) (by omega) h9
          cases e1
        · obtain ⟨z, t3, e1, e2⟩ := p_Ex hX c4 (by omega) x1 (by omega) (by omega) h9
          cases e1
          rcases e2 with ⟨rfl, s5, g1, g2, g3, g4, g5, l1, l2, l3, l4, l5, l6⟩ | ⟨rfl, g1⟩
          · rw [if_pos (by decide)] at h
            rw [g1, bo_s]
            have d6 := g3.2.1
            obtain ⟨v1, v2, v3, v4, v5, v6, v7⟩ := g2.2.2.2.1
            have hin5 := RL_in g2.1
            unfold sto at h
            obtain ⟨t10, ht10⟩ : ∃ t10, t10 = pt2 t8 (if nkd s k ≠ 0 then 6 else 5) (nnm s k) := ⟨_, rfl⟩
            obtain ⟨cv, cv1, cv2⟩ := pt2_cw (t := t8) (if nkd s k ≠ 0 then 6 else 5) (nnm s k) (by omega)
            rw [← ht10] at cv cv1 cv2 h
            have e10 := cv.1
            have lq := l3.2.1.1
            have lp := l3.1.1
            obtain ⟨j1, j2, j3, j4⟩ := RE_cw g2 cv (by omega)
            rcases p_last (kd := 405) (a := fun _ => tgn s k) (A := tgn s k) (b := s5 99 12 - 1) (c := yy) hrc j1 (by omega) (fun _ _ => rfl) h with ⟨s8, t9, rfl, z1, z2, z3, z4, z5, z6, z7, z8, z9, z10, z11, z12, z13, z14⟩ | ⟨t9, rfl, z1⟩
            · have pf5 : PFx s5 t8 s8 t9 := PF_tr j3 z9
              have pf4 : PFx s4 t6 s8 t9 := PF_tr pt.1 (PF_tr l3 pf5)
              have hx : s8 99 12 - 1 = s5 99 12 := by omega
              refine ⟨1, t9, rfl, .inl ⟨rfl, s8, z1, z2, FEc_tr f3 (FEc_tr c5 (FEc_tr g3 z3)), FEr_tr f4 (FEr_tr c6 (FEr_tr g4 (FEr_tr j2 z4))), by omega, ?_, by rw [hx]; exact z14, PF_tr m3 pf4, by omega, by omega, by omega⟩⟩
              rw [hx]
              have hA : (cxt g s8 t9).2.2.1 (tgn s k).toNat := pf4.2.2.2.1 22 (by omega) (by omega) _ m7
              have o8 : t9 178 (t8 177 1).toNat = (if nkd s k ≠ 0 then 6 else 5) := by
                rw [z9.2.1.2 _ (by omega)]
                exact cv1
              have o9 : t9 178 ((t8 177 1).toNat + 1) = nnm s k := by
                rw [z9.2.1.2 _ (by omega)]
                exact cv2
              have of : t9 178 (t 177 1).toNat = 0 := by
                rw [pf4.2.1.2 _ (by rcases m1 with q | q; omega; have := CO_le q.2.2; omega), m2 _ (by omega)]
                exact cw00
              have k2 := EM_up l1 (by omega) (by omega) (fun q => absurd q (by omega)) pf5
              have lco := CO_le l1
              rcases m1 with ⟨y1, y2, y3, y4⟩ | ⟨y1, y2, y3⟩
              · have ht : tgn s k = nnm s k := if_pos y1
                have hl6 := hlim 0 (by omega)
                have h6 : LIM 0 = 24 := rfl
                have n6' : nnm s k < s 109 0 := by rw [y1] at n6; exact n6
                rw [ht] at z11 hA
                rw [if_neg (fun q => q y1)] at o8
                rw [y2] at z13
                rw [show ((stp s4) 99 12).toNat = (s 99 12).toNat by omega, show (t7 177 1).toNat = (t 177 1).toNat + 1 by omega] at k2
                refine CO_mk (.inr (.inl ⟨rfl, by omega, by omega, by omega, cxt_au, cx_new v7 v1 (by omega) rfl, .inr (.inr (.inr (.inl ⟨z10, of, rfl, z13, ⟨(t8 177 1).toNat, by rw [z12]; exact k2, o8, by rw [o9, z11], by omega⟩, by omega, by omega, by rw [z11]; exact hA⟩)))⟩))
              · have ht : tgn s k = 24 + nnm s k := if_neg (by omega)
                have hl6 := hlim 1 (by omega)
                have h6 : LIM 1 = 6 := rfl
                have n6' : nnm s k < s 109 1 := by rw [y1] at n6; exact n6
                rw [ht] at z11 hA
                rw [if_pos (by omega)] at o8
                have hco := CO_le y3
                have k1' := EM_up y3 (by omega) (by omega) (fun q => absurd q (by omega)) pf4
                rw [show ((stp s4) 99 12).toNat = (s4 99 12).toNat by omega, show (t7 177 1).toNat = (t6 177 1).toNat by omega] at k2
                refine CO_mk (.inr (.inl ⟨rfl, by omega, by omega, by omega, cxt_au, cx_new v7 v1 (by omega) rfl, .inr (.inr (.inr (.inr (.inl ⟨z10, of, rfl, ⟨(s4 99 12).toNat, (t6 177 1).toNat, (t8 177 1).toNat, by rw [z13]; exact k1', by rw [z12]; exact k2, o8, by rw [o9, z11]; omega, by omega⟩, by omega, by omega, by rw [z11]; exact hA⟩))))⟩))
            · exact ON_no z1
          · rw [if_neg (by decide)] at h
            cases h
            exact ON_no (by rw [g1, bo_n])
      · have h := bxr hrc c1 h
        try dsimp only at h
        rw [if_pos rfl] at h
        cases h
        exact ON_no (by rw [c3, bo_n])
    · rw [if_neg (by decide)] at h
      cases h
      exact ON_no (f1 _)
theorem p_NL (hrc : rle rc rG) (hX : PXx rc) (hT : PTx rc) (hC : PCx rc) : ∀ (T : Nat → Int) (n e N : Nat) (g : Gtt) (s t : tab) (x k a c : Int) (v : Option (Int × tab)), REx T n e N g s t → 1 ≤ x → x ≤ 20 → 0 ≤ s 131 6 → s 131 6 ≤ 10 * x → kkd s = 1 → 0 ≤ k → k < (N : Int) → (c ≠ 0 → canP s t k) → (c = 0 → ¬ canP s t k) → rM156_164 rc (x - 1) k a (nkd s k) (nnm s k) c t = some v → ONx T n e N g s t (NXx x k s) v := by
  intro T n e N g s t x k a c v hR x0 x1 b0 b1 hk k0 k1 hc1 hc0 h
  obtain ⟨n1, n2, n3, n4, n5, n6, n7, _⟩ := RS_nm hR.2.1 k0 k1
  have hown := own_in hR k0 k1
  obtain ⟨t2, a1, a2, a3, a4, a5⟩ := RE_step hR (by omega) (by omega)
  have hbeh := fun (q : Int) (hq : q = 61 ∨ q = 91 ∨ q = 40 ∨ q = 33 ∨ q = 63) => RL_beh hR.1 (show kkd s ≠ 3 by omega) (show kkd s ≠ 4 by omega) hq
  have e1 := nkd_E a3 k
  obtain ⟨u1, u2, u3, u4, u5, u6, u7⟩ := hR.2.2.2.1
  have hin0 := RL_in hR.1
  obtain ⟨cw0, cw00⟩ := prt_cw (t := t) (by omega)
  obtain ⟨t3, y1, y2, y3, y4, y5, y6, y7, y8, y9, y10⟩ := RE_wst hR cw0 (by omega) (show kkd s ≠ 3 by omega) (show kkd s ≠ 4 by omega)
  unfold rM156_164 at h
  by_cases hc : c ≠ 0
  · rw [if_pos hc] at h
    have hcan := hc1 hc
    unfold canP at hcan
    unfold NXx
    by_cases h5 : nkd s k = 5
    · rw [if_neg (fun q => q h5)] at h
      have g5 : kkd (stp s) = 40 ∧ t 170 37 = 0 ∧ nnm s k ≠ s 131 13 := by omega
      rw [if_neg (show ¬ ((nkd s k = 5 ∧ nnm s k = s 131 13) ∨ nkd s k = 6 ∨ k < s 131 14) by omega), if_neg (by omega), if_neg (by omega), if_neg (by omega), if_pos ⟨g5.1, h5⟩, nnm_E a3]
      rw [ipl_e (by omega), show x - 1 + 1 = x by omega] at h
      have d3 : nnm s k < s 109 5 := by rw [h5] at n6; exact n6
      rcases bo_inv h with ⟨h9, _⟩ | ⟨z6, t6, h9, h⟩
      · obtain ⟨z, t3, w1, _⟩ := hC T n e N g s t k x 0 _ hR (by omega) x1 b0 b1 k0 k1 d3 g5.2.2 (fun q => absurd g5.2.1 q) hk g5.1 h9
        cases w1
      · cases h
        obtain ⟨z, t9, w1, w2⟩ := hC T n e N g s t k x 0 _ hR (by omega) x1 b0 b1 k0 k1 d3 g5.2.2 (fun q => absurd g5.2.1 q) hk g5.1 h9
        refine ⟨z, t9, w1, ?_⟩
        obtain ⟨_, _, _, _, _, _, _, n8, n9⟩ := RS_nm hR.2.1 k0 k1
        rcases w2 with ⟨f0, s4, f1, f2, f3, f4, f5, f6, f7⟩ | f
        · refine .inl ⟨f0, s4, f1, f2, f3, f4, f5, CL_S f6 ?_ u1 u7, f7⟩
          rw [n9]
          exact (hR.2.2.2.2.2.1 k.toNat (by have := hR.2.1.1.1; omega)).2 (by rw [← n8]; exact h5)
        · exact .inr f
    · rw [if_pos h5] at h
      by_cases hw : 1 < nkd s k
      · rw [if_pos hw] at h
        have g5 : t 170 37 = 0 ∧ ((nkd s k = 2 ∨ nkd s k = 4) ∧ kkd (stp s) = 33 ∨ (nkd s k = 2 ∨ nkd s k = 3) ∧ kkd (stp s) = 63) := by omega
        rw [if_neg (show ¬ ((nkd s k = 5 ∧ nnm s k = s 131 13) ∨ nkd s k = 6 ∨ k < s 131 14) by omega)]
        have h := bxr hrc y1 h
        try dsimp only at h
        have h := bxr hrc (RL_is is_42 y2.1) h
        try dsimp only at h
        have hl := lin_r hR k0 k1 (by omega)
        have l2 : LIM 2 = 8 := rfl
        have hl2 := (hR.2.1.2.1 2 (by omega)).2.2
        have n62 : nkd s k = 2 → nnm s k < 8 := fun q => by
          rw [q] at n6
          have n6 : nnm s k < s 109 2 := n6
          omega
        have sn : ∀ t4, rG 4 [] t3 = some (some (0, t4)) → kkd (stp s) ≠ 3 → kkd (stp s) ≠ 4 → SNx g s t (stp (stp s)) t4 := fun t4 q q3 q4 => by
          obtain ⟨t5, d1, d2, d3, d4, d5⟩ := RE_step y2 q3 q4
          rw [q] at d1
          cases d1
          obtain ⟨p1, p2, p3, p4⟩ := PF_stp y2.1 q3 q4 q
          refine ⟨⟨by omega, by omega, by omega, ?_, by omega⟩, PF_tr y6 p1, FEc_tr y3 d3, FEr_tr y4 d4, u1, u2, u3, u4, u7⟩
          rw [p1.2.1.2 _ (by omega), y10]
          exact cw00
        by_cases c33 : kkd (stp s) = 33
        · rw [if_pos c33, if_neg (by decide)] at h
          rw [if_pos c33, if_pos (by omega)]
          obtain ⟨t4, d1, d2, d3, d4, d5⟩ := RE_step y2 (by omega) (by omega)
          have hsn := sn t4 d1 (by omega) (by omega)
          have h := bxr hrc d1 h
          try dsimp only at h
          have b6 : (stp (stp s)) 131 6 = s 131 6 := d3.2.1.trans a3.2.1
          have hle : lin (stp (stp s)) k = lin s k := (lin_E d3 k).trans (lin_E a3 k)
          by_cases w2 : nkd s k = 2
          · have q1 := hl.2.2.1 w2
            have q2 := n62 w2
            refine p_send hrc hX (b := nnm s k) (cd := 13) (y := nnm s k) hsn d2 x0 x1 (by omega) (by omega) (by rw [hle]; exact q1.symm) (by rw [hle]; omega) (by rw [hle, q1, if_pos q2]) (by rw [hle, q1, if_pos q2]) ((d4 170 37 (by omega)).trans ((y4 170 37 (by omega)).trans g5.1)) ?_
            rw [← h]
            congr 1
            funext z80 t80
            by_cases q : z80 ≠ 0
            · rw [if_pos q, if_pos q, if_neg (fun w => w w2)]
            · rw [if_neg q, if_neg q]
          · have q1 := hl.2.2.2 w2
            have q2 : ipl 8 (nnm s k) = 8 + nnm s k := ipl_e (by omega)
            refine p_send hrc hX (b := ipl 8 (nnm s k)) (cd := 15) (y := nnm s k) hsn d2 x0 x1 (by omega) (by omega) (by rw [hle]; exact q1.symm) (by rw [hle]; omega) (by rw [hle, q1, if_neg (by omega)]) (by rw [hle, q1, if_neg (by omega)]; omega) ((d4 170 37 (by omega)).trans ((y4 170 37 (by omega)).trans g5.1)) ?_
            rw [← h]
            congr 1
            funext z80 t80
            by_cases q : z80 ≠ 0
            · rw [if_pos q, if_pos q, if_pos w2]
            · rw [if_neg q, if_neg q]
        · rw [if_neg c33, if_pos rfl] at h
          rw [if_neg c33, if_neg (by omega), if_pos (by omega), if_pos (by omega)]
          obtain ⟨t4, d1, d2, d3, d4, d5⟩ := RE_step y2 (by omega) (by omega)
          have hsn := sn t4 d1 (by omega) (by omega)
          have h := bxr hrc d1 h
          try dsimp only at h
          have b6 : (stp (stp s)) 131 6 = s 131 6 := d3.2.1.trans a3.2.1
          have hle : lin (stp (stp s)) k = lin s k := (lin_E d3 k).trans (lin_E a3 k)
          have hf4 : t4 170 37 = 0 := (d4 170 37 (by omega)).trans ((y4 170 37 (by omega)).trans g5.1)
          by_cases w2 : nkd s k = 2
          · have q1 := hl.2.2.1 w2
            have q2 := n62 w2
            refine p_recv hrc hT (b := nnm s k) (cd := 14) (y := nnm s k) hsn d2 x0 x1 (by omega) (by omega) (by rw [hle]; exact q1.symm) (by rw [hle]; omega) (by rw [hle, q1, if_pos q2]) (by rw [hle, q1, if_pos q2]) hf4 ?_
            rw [← h]
            simp only [w2, ne_eq, not_true_eq_false, if_false]
          · have q1 := hl.2.2.2 w2
            have q2 : ipl 8 (nnm s k) = 8 + nnm s k := ipl_e (by omega)
            refine p_recv hrc hT (b := ipl 8 (nnm s k)) (cd := 16) (y := nnm s k) hsn d2 x0 x1 (by omega) (by omega) (by rw [hle]; exact q1.symm) (by rw [hle]; omega) (by rw [hle, q1, if_neg (by omega)]) (by rw [hle, q1, if_neg (by omega)]; omega) hf4 ?_
            rw [← h]
            simp only [w2, ne_eq, not_false_eq_true, if_true]
      · rw [if_neg hw] at h
        have g5 : (nkd s k = 0 ∧ kkd (stp s) = 61) ∨ (nkd s k = 1 ∧ kkd (stp s) = 91) := by omega
        have hkind : ((nkd s k = 1 ∧ kkd (stp s) = 91) ∨ (nkd s k = 0 ∧ kkd (stp s) ≠ 91)) := by omega
        by_cases ho : k < s 131 14
        · rw [if_pos (.inr (.inr ho))]
          have hf1 : t 170 37 = 1 := by omega
          rcases bo_inv h with ⟨h9, _⟩ | ⟨z6, t6, h9, h⟩
          · obtain ⟨t9, w⟩ := p_Tbad hrc hR cw0 k0 k1 hk hf1 (by omega) h9
            cases w
          · obtain ⟨t9, w⟩ := p_Tbad hrc hR cw0 k0 k1 hk hf1 (by omega) h9
            cases w
            rw [if_neg (by decide)] at h
            cases h
            exact ON_no rfl
        · rw [if_neg (show ¬ ((nkd s k = 5 ∧ nnm s k = s 131 13) ∨ nkd s k = 6 ∨ k < s 131 14) by omega), if_neg (by omega), if_pos (by omega)]
          exact p_asg hrc hX hT hR x0 x1 b0 b1 k0 k1 hk hkind (by omega) h
  · rw [if_neg hc] at h
    have hcan := hc0 (by omega)
    unfold canP at hcan
    have hv : ∃ t9, v = some (0, t9) := by
      have h := bxr hrc (hbeh 61 (by decide)) h
      try dsimp only at h
      by_cases q1 : kkd (stp s) = 61
      · rw [if_pos q1, if_pos (by decide)] at h
        cases h
        exact ⟨_, rfl⟩
      · rw [if_neg q1, if_neg (by decide)] at h
        have h := bxr hrc (hbeh 91 (by decide)) h
        try dsimp only at h
        by_cases q2 : kkd (stp s) = 91
        · rw [if_pos q2, if_pos (by decide)] at h
          cases h
          exact ⟨_, rfl⟩
        · rw [if_neg q2, if_neg (by decide)] at h
          have h := bxr hrc (hbeh 40 (by decide)) h
          try dsimp only at h
          by_cases q3 : kkd (stp s) = 40
          · rw [if_pos q3, if_pos (by decide)] at h
            cases h
            exact ⟨_, rfl⟩
          · rw [if_neg q3, if_neg (by decide)] at h
            have h := bxr hrc (hbeh 33 (by decide)) h
            try dsimp only at h
            by_cases q4 : kkd (stp s) = 33
            · rw [if_pos q4, if_pos (by decide)] at h
              cases h
              exact ⟨_, rfl⟩
            · rw [if_neg q4, if_neg (by decide)] at h
              have h := bxr hrc (hbeh 63 (by decide)) h
              try dsimp only at h
              by_cases q5 : kkd (stp s) = 63
              · rw [if_pos q5, if_pos (by decide)] at h
                cases h
                exact ⟨_, rfl⟩
              · rw [if_neg q5, if_neg (by decide)] at h
                have h := bxr hrc a1 h
                cases h
                exact ⟨_, rfl⟩
    obtain ⟨t9, hv⟩ := hv
    rw [hv]
    refine ON_no ?_
    unfold NXx
    by_cases r0 : (nkd s k = 5 ∧ nnm s k = s 131 13) ∨ nkd s k = 6 ∨ k < s 131 14
    · rw [if_pos r0]
    · rw [if_neg r0]
      by_cases q1 : kkd (stp s) = 33
      · rw [if_pos q1, if_neg (by omega)]
      · rw [if_neg q1]
        by_cases q2 : kkd (stp s) = 61 ∨ kkd (stp s) = 91
        · rw [if_pos q2]
          unfold asgX TXk
          rw [cG_72]
          unfold cM72
          rw [e1]
          by_cases q3 : kkd (stp s) = 91
          · rw [if_neg (fun w => w q3), if_pos (by omega)]
            rfl
          · rw [if_pos q3, if_pos (by omega)]
            rfl
        · rw [if_neg q2]
          by_cases q3 : kkd (stp s) = 63
          · rw [if_pos q3, if_neg (by omega)]
          · rw [if_neg q3, if_neg (by omega)]
end BYN2
