/-! byName(..) of the reference, all of it. -/
section BYN2
variable {T : Nat → Int} {n e N : Nat} {g : Int × Int × Int} {s t s2 t2 : tab} {rc : MRq}
/-- assignments -/
theorem p_asg (hrc : rle rc rG) (hX : PXx rc) (hT : PTx rc) {x k : Int} {v : Option (Int × tab)} (hR : REx T n e N g s t) (x0 : 1 ≤ x) (x1 : x ≤ 20) (b0 : 0 ≤ s 131 6) (b1 : s 131 6 ≤ 10 * x) (k0 : 0 ≤ k) (k1 : k < (N : Int)) (hk : kkd s = 1) (hkind : ((nkd s k = 1 ∧ kkd (stp s) = 91) ∨ (nkd s k = 0 ∧ kkd (stp s) ≠ 91))) (hfun : t 170 37 = 0 ∨ (t 170 37 = 1 ∧ nkd s k = 0 ∧ t 170 36 ≤ nnm s k)) (h : (bo (rc 27 [k, x - 1] t) fun z93 t93 => if z93 ≠ 0 then bo (rc 8 [88] t93) fun z95 t95 => if z95 = 0 then some (some (0, t95)) else bo (rc 22 [0, ipl (x - 1) 1] t95) fun z98 t98 => if z98 ≠ 0 then bo (rc 8 [30] t98) fun z101 t101 => some (some (z101, t101)) else some (some (0, t98)) else some (some (0, t93))) = some v) : OEx T n e N g s t (asgX x k (stp s)) v := by
  rw [ipl_e (by omega), show x - 1 + 1 = x by omega] at h
  unfold asgX
  rcases bo_inv h with ⟨h9, _⟩ | ⟨z6, t6, h9, h⟩
  · obtain ⟨z, t3, e1, _⟩ := hT T n e N g s t k x _ hR x0 x1 b0 b1 k0 k1 hk hkind hfun h9
    cases e1
  · obtain ⟨z, t3, e1, e2⟩ := hT T n e N g s t k x _ hR x0 x1 b0 b1 k0 k1 hk hkind hfun h9
    cases e1
    rcases e2 with ⟨rfl, s4, f1, f2, f3, f4, f5⟩ | ⟨rfl, f1⟩
    · rw [if_pos (by decide)] at h
      rw [f1, bo_s]
      refine OE_pre ?_ f3 f4
      have b6 : s4 131 6 = s 131 6 := f3.2.1
      rcases RE_take f2 is_88 (by decide) with ⟨t7, c1, c2, c3, c4, c5, c6, c7⟩ | ⟨c1, c2, c3⟩
      · have h := bxr hrc c1 h
        try dsimp only at h
        rw [if_neg (by decide)] at h
        rw [c3, bo_s]
        refine OE_pre ?_ c5 c6
        have b7 : (stp s4) 131 6 = s 131 6 := c5.2.1.trans b6
        rcases bo_inv h with ⟨h9, _⟩ | ⟨z8, t8, h9, h⟩
        · obtain ⟨z, t3, e1, _⟩ := p_Ex hX c4 (by omega) x1 (by omega) (by omega) h9
          cases e1
        · obtain ⟨z, t3, e1, e2⟩ := p_Ex hX c4 (by omega) x1 (by omega) (by omega) h9
          cases e1
          rcases e2 with ⟨rfl, s5, g1, g2, g3, g4, g5⟩ | ⟨rfl, g1⟩
          · rw [if_pos (by decide)] at h
            rw [g1, bo_s]
            exact OE_pre (p_last hrc g2 h) g3 g4
          · rw [if_neg (by decide)] at h
            cases h
            exact OE_no (by rw [g1, bo_n])
      · have h := bxr hrc c1 h
        try dsimp only at h
        rw [if_pos rfl] at h
        cases h
        exact OE_no (by rw [c3, bo_n])
    · rw [if_neg (by decide)] at h
      cases h
      exact OE_no (by rw [f1, bo_n])
theorem p_NL (hrc : rle rc rG) (hX : PXx rc) (hT : PTx rc) (hC : PCx rc) : ∀ (T : Nat → Int) (n e N : Nat) (g : Int × Int × Int) (s t : tab) (x k a c : Int) (v : Option (Int × tab)), REx T n e N g s t → 1 ≤ x → x ≤ 20 → 0 ≤ s 131 6 → s 131 6 ≤ 10 * x → kkd s = 1 → 0 ≤ k → k < (N : Int) → (c ≠ 0 → canP s t k) → (c = 0 → ¬ canP s t k) → rM156_164 rc (x - 1) k a (nkd s k) (nnm s k) c t = some v → OEx T n e N g s t (NXx x k s) v := by
  intro T n e N g s t x k a c v hR x0 x1 b0 b1 hk k0 k1 hc1 hc0 h
  obtain ⟨n1, n2, n3, n4, n5, n6, n7, _⟩ := RS_nm hR.2.1 k0 k1
  have hown := own_in hR k0 k1
  obtain ⟨t2, a1, a2, a3, a4, a5⟩ := RE_step hR (by omega) (by omega)
  have hbeh := fun (q : Int) (hq : q = 61 ∨ q = 91 ∨ q = 40 ∨ q = 33 ∨ q = 63) => RL_beh hR.1 (show kkd s ≠ 3 by omega) (show kkd s ≠ 4 by omega) hq
  have e1 := nkd_E a3 k
  unfold rM156_164 at h
  by_cases hc : c ≠ 0
  · rw [if_pos hc] at h
    have hcan := hc1 hc
    unfold canP at hcan
    unfold NXx
    by_cases h5 : nkd s k = 5
    · rw [if_neg (fun q => q h5)] at h
      have g5 : kkd (stp s) = 40 ∧ t 170 37 = 0 ∧ nnm s k ≠ s 131 13 := by omega
      rw [if_neg (show ¬ ((nkd s k = 5 ∧ nnm s k = s 131 13) ∨ nkd s k = 6 ∨ k < s 131 14) by omega), if_neg (by omega), if_neg (by omega), if_neg (by omega), if_pos ⟨g5.1, h5⟩, nnm_E a3]
      rw [ipl_e (by omega), show x - 1 + 1 = x by omega] at h
      have d3 : nnm s k < s 109 5 := by rw [h5] at n6; exact n6
      rcases bo_inv h with ⟨h9, _⟩ | ⟨z6, t6, h9, h⟩
      · obtain ⟨z, t3, w1, _⟩ := hC T n e N g s t k x 0 _ hR (by omega) x1 b0 b1 k0 k1 d3 g5.2.2 hk g5.1 h9
        cases w1
      · cases h
        exact hC T n e N g s t k x 0 _ hR (by omega) x1 b0 b1 k0 k1 d3 g5.2.2 hk g5.1 h9
    · rw [if_pos h5] at h
      by_cases hw : 1 < nkd s k
      · rw [if_pos hw] at h
        have g5 : t 170 37 = 0 ∧ ((nkd s k = 2 ∨ nkd s k = 4) ∧ kkd (stp s) = 33 ∨ (nkd s k = 2 ∨ nkd s k = 3) ∧ kkd (stp s) = 63) := by omega
        rw [if_neg (show ¬ ((nkd s k = 5 ∧ nnm s k = s 131 13) ∨ nkd s k = 6 ∨ k < s 131 14) by omega)]
        have h := bxr hrc a1 h
        try dsimp only at h
        have h := bxr hrc (RL_is is_42 a2.1) h
        try dsimp only at h
        have hl := lin_r hR k0 k1 (by omega)
        by_cases c33 : kkd (stp s) = 33
        · rw [if_pos c33, if_neg (by decide)] at h
          rw [if_pos c33, if_pos (by omega)]
          obtain ⟨t4, d1, d2, d3, d4, d5⟩ := RE_step a2 (by omega) (by omega)
          have h := bxr hrc d1 h
          try dsimp only at h
          have b6 : (stp (stp s)) 131 6 = s 131 6 := d3.2.1.trans a3.2.1
          have hle : lin (stp (stp s)) k = lin s k := (lin_E d3 k).trans (lin_E a3 k)
          refine OE_pre ?_ (FEc_tr a3 d3) (FEr_tr a4 d4)
          by_cases w2 : nkd s k = 2
          · refine p_send hrc hX (b := nnm s k) d2 x0 x1 (by omega) (by omega) (by rw [hle]; exact (hl.2.2.1 w2).symm) (by rw [hle]; omega) ?_
            rw [← h]
            congr 1
            funext z80 t80
            by_cases q : z80 ≠ 0
            · rw [if_pos q, if_pos q, if_neg (fun w => w w2)]
            · rw [if_neg q, if_neg q]
          · refine p_send hrc hX (b := ipl 8 (nnm s k)) d2 x0 x1 (by omega) (by omega) (by rw [hle]; exact (hl.2.2.2 w2).symm) (by rw [hle]; omega) ?_
            rw [← h]
            congr 1
            funext z80 t80
            by_cases q : z80 ≠ 0
            · rw [if_pos q, if_pos q, if_pos w2]
            · rw [if_neg q, if_neg q]
        · rw [if_neg c33, if_pos rfl] at h
          rw [if_neg c33, if_neg (by omega), if_pos (by omega), if_pos (by omega)]
          obtain ⟨t4, d1, d2, d3, d4, d5⟩ := RE_step a2 (by omega) (by omega)
          have h := bxr hrc d1 h
          try dsimp only at h
          have b6 : (stp (stp s)) 131 6 = s 131 6 := d3.2.1.trans a3.2.1
          have hle : lin (stp (stp s)) k = lin s k := (lin_E d3 k).trans (lin_E a3 k)
          have hf4 : t4 170 37 = 0 := (d4 170 37 (by omega)).trans ((a4 170 37 (by omega)).trans g5.1)
          refine OE_pre ?_ (FEc_tr a3 d3) (FEr_tr a4 d4)
          by_cases w2 : nkd s k = 2
          · refine p_recv hrc hT (b := nnm s k) d2 x0 x1 (by omega) (by omega) (by rw [hle]; exact (hl.2.2.1 w2).symm) (by rw [hle]; omega) hf4 ?_
            rw [← h]
            simp only [w2, ne_eq, not_true_eq_false, if_false]
          · refine p_recv hrc hT (b := ipl 8 (nnm s k)) d2 x0 x1 (by omega) (by omega) (by rw [hle]; exact (hl.2.2.2 w2).symm) (by rw [hle]; omega) hf4 ?_
            rw [← h]
            simp only [w2, ne_eq, not_false_eq_true, if_true]
      · rw [if_neg hw] at h
        have g5 : (nkd s k = 0 ∧ kkd (stp s) = 61) ∨ (nkd s k = 1 ∧ kkd (stp s) = 91) := by omega
        have hkind : ((nkd s k = 1 ∧ kkd (stp s) = 91) ∨ (nkd s k = 0 ∧ kkd (stp s) ≠ 91)) := by omega
        by_cases ho : k < s 131 14
        · rw [if_pos (.inr (.inr ho))]
          have hf1 : t 170 37 = 1 := by omega
          rcases bo_inv h with ⟨h9, _⟩ | ⟨z6, t6, h9, h⟩
          · obtain ⟨t9, w⟩ := p_Tbad hrc hR k0 k1 hk hf1 (by omega) h9
            cases w
          · obtain ⟨t9, w⟩ := p_Tbad hrc hR k0 k1 hk hf1 (by omega) h9
            cases w
            rw [if_neg (by decide)] at h
            cases h
            exact OE_no rfl
        · rw [if_neg (show ¬ ((nkd s k = 5 ∧ nnm s k = s 131 13) ∨ nkd s k = 6 ∨ k < s 131 14) by omega), if_neg (by omega), if_pos (by omega)]
          exact p_asg hrc hX hT hR x0 x1 b0 b1 k0 k1 hk hkind (by omega) h
  · rw [if_neg hc] at h
    have hcan := hc0 (by omega)
    unfold canP at hcan
    have hv : ∃ t9, v = some (0, t9) := by
      have h := bxr hrc (hbeh 61 (by decide)) h
      try dsimp only at h
      by_cases q1 : kkd (stp s) = 61
      · rw [if_pos q1, if_pos (by decide)] at h
        cases h
        exact ⟨_, rfl⟩
      · rw [if_neg q1, if_neg (by decide)] at h
        have h := bxr hrc (hbeh 91 (by decide)) h
        try dsimp only at h
        by_cases q2 : kkd (stp s) = 91
        · rw [if_pos q2, if_pos (by decide)] at h
          cases h
          exact ⟨_, rfl⟩
        · rw [if_neg q2, if_neg (by decide)] at h
          have h := bxr hrc (hbeh 40 (by decide)) h
          try dsimp only at h
          by_cases q3 : kkd (stp s) = 40
          · rw [if_pos q3, if_pos (by decide)] at h
            cases h
            exact ⟨_, rfl⟩
          · rw [if_neg q3, if_neg (by decide)] at h
            have h := bxr hrc (hbeh 33 (by decide)) h
            try dsimp only at h
            by_cases q4 : kkd (stp s) = 33
            · rw [if_pos q4, if_pos (by decide)] at h
              cases h
              exact ⟨_, rfl⟩
            · rw [if_neg q4, if_neg (by decide)] at h
              have h := bxr hrc (hbeh 63 (by decide)) h
              try dsimp only at h
              by_cases q5 : kkd (stp s) = 63
              · rw [if_pos q5, if_pos (by decide)] at h
                cases h
                exact ⟨_, rfl⟩
              · rw [if_neg q5, if_neg (by decide)] at h
                have h := bxr hrc a1 h
                cases h
                exact ⟨_, rfl⟩
    obtain ⟨t9, hv⟩ := hv
    rw [hv]
    refine OE_no ?_
    unfold NXx
    by_cases r0 : (nkd s k = 5 ∧ nnm s k = s 131 13) ∨ nkd s k = 6 ∨ k < s 131 14
    · rw [if_pos r0]
    · rw [if_neg r0]
      by_cases q1 : kkd (stp s) = 33
      · rw [if_pos q1, if_neg (by omega)]
      · rw [if_neg q1]
        by_cases q2 : kkd (stp s) = 61 ∨ kkd (stp s) = 91
        · rw [if_pos q2]
          unfold asgX TXx
          rw [cG_72]
          unfold cM72
          rw [e1]
          by_cases q3 : kkd (stp s) = 91
          · rw [if_neg (fun w => w q3), if_pos (by omega)]
            rfl
          · rw [if_pos q3, if_pos (by omega)]
            rfl
        · rw [if_neg q2]
          by_cases q3 : kkd (stp s) = 63
          · rw [if_pos q3, if_neg (by omega)]
          · rw [if_neg q3, if_neg (by omega)]
end BYN2
