/-! Declarations with bits and sizes, in both. -/
section DECX2
variable {T : Nat → Int} {n e N : Nat} {s t s2 t2 s0 t0 : tab} {rc : MRq} {u : Int}
theorem H_s0 (h : RHx T n e N u s t) (a : Nat) (z : Int) : RHx T n e N u (up2 s 110 a z) t := by
  obtain ⟨⟨hT, hx, l3, l4, l5⟩, ⟨a1, a2, a3, a4, a5⟩, b', c, p, ⟨c1, c2, c3, c4⟩, q⟩ := h
  exact ⟨⟨hT, hx, l3, l4, l5⟩, ⟨a1, a2, a3, a4, a5⟩, b', c, p, ⟨c1, c2, c3, c4⟩, q⟩
theorem H_s1 (h : RHx T n e N u s t) (a : Nat) (z : Int) : RHx T n e N u (up2 s 111 a z) t := by
  obtain ⟨⟨hT, hx, l3, l4, l5⟩, ⟨a1, a2, a3, a4, a5⟩, b', c, p, ⟨c1, c2, c3, c4⟩, q⟩ := h
  exact ⟨⟨hT, hx, l3, l4, l5⟩, ⟨a1, a2, a3, a4, a5⟩, b', c, p, ⟨c1, c2, c3, c4⟩, q⟩
theorem H_t1 (h : RHx T n e N u s t) (b : Nat) (y : Int) : RHx T n e N u s (up2 t 180 b y) := by
  obtain ⟨⟨hT, hx, l3, l4, l5⟩, ⟨a1, a2, a3, a4, a5⟩, b', c, p, ⟨c1, c2, c3, c4⟩, q⟩ := h
  exact ⟨⟨hT, hx, l3, l4, l5⟩, ⟨a1, a2, a3, a4, a5⟩, b', c, p, ⟨c1, c2, c3, c4⟩, q⟩
theorem DG_b {k0 a : Nat} {z : Int} (hk : k0 = 110 ∨ k0 = 111) : DGc s (up2 s k0 a z) ∧ DNx s (up2 s k0 a z) := by
  refine ⟨⟨fun k j q1 q2 => if_neg (by omega), ?_⟩, DN_eq (fun k j q1 q2 => if_neg (by omega))⟩
  rw [show (up2 s k0 a z) 137 5 = s 137 5 from if_neg (by omega)]
  exact Int.le_refl _
theorem DR_b {k0 a : Nat} {z : Int} (hk : k0 = 179 ∨ k0 = 180) : DGr N t (up2 t k0 a z) := ⟨fun k j q1 q2 q3 => if_neg (by omega), fun j _ => if_neg (by omega)⟩
/-- array -/
theorem p_arr (hrc : rle rc rG) {v : Option (Int × tab)} (h0 : RDx T n e N s0 t0) (hH : RHx T n e N (-1) s t) (hsc : SCb N 0 t) (hc : DGc s0 s) (hr : DGr N t0 t) (hn : DNx s0 s) (hb : RBx s0 t0 → RBx s t) (h : (bo (rc 16 [t 177 5, 6] t) fun z46 t46 => if z46 = 0 then some (some (0, t)) else bo (rc 10 [1, t 177 5] t) fun z49 t49 => if z49 = 0 then some (some (0, t49)) else bo (rc 8 [94] t49) fun z51 t51 => if z51 ≠ 0 then (if t51 170 4 ≠ 3 then some (some (0, t51)) else if inz (t51 170 7) 1 64 = 0 then some (some (0, t51)) else bo (rc 39 [t51 170 7] t51) fun z62 t62 => if z62 = 1 then (bo (rc 4 [] (up2 (up2 t62 180 ((t62 177 5).toNat) (t62 170 7)) 177 5 (ipl (t62 177 5) 1))) fun z72 t72 => bo (rc 8 [44] t72) fun z73 t73 => if z73 = 0 then some (some (0, t73)) else bo (rc 8 [30] t73) fun z75 t75 => if z75 = 0 then some (some (0, t75)) else some (some (1, t75))) else some (some (0, t62))) else some (some (0, t51))) = some v) : ODx T n e s0 t0 (bo (cG 31 [1, 0] s) fun z12 s1 => bo (cG 29 [91] s1) fun _ s3 => bo (cG 30 [1, 64] s3) fun z15 s4 => bo (cG 57 [z15] s4) fun z16 s5 => if z16 ≠ 1 then some none else bo (cG 29 [93] (ssi s5 z12 z15)) fun _ s6 => bo (cG 29 [59] s6) fun _ s7 => some (some (0, s7))) v := by
  rcases p_nm (b := 0) (w := 1) (c := 1) (u2 := -1) (L := 6) (D := 5) rfl rfl hH (by omega) (by decide) (by decide) (.inl ⟨by decide, rfl⟩) hsc with ⟨a1, a2⟩ | ⟨a1, ⟨a2, a3⟩ | ⟨s2, t2, a2, a3, a4, a5, a6, a7, a8, a9, a10, a11, a12, a13⟩⟩
  · have h := bxr hrc a1 h
    try dsimp only at h
    rw [if_pos rfl] at h
    cases h
    refine OD_no ?_
    rw [a2]
    rfl
  · have h := bxr hrc a1 h
    try dsimp only at h
    rw [if_neg (by decide)] at h
    have h := bxr hrc a2 h
    try dsimp only at h
    rw [if_pos rfl] at h
    cases h
    refine OD_no ?_
    rw [a3]
    rfl
  · have h := bxr hrc a1 h
    try dsimp only at h
    rw [if_neg (by decide)] at h
    have h := bxr hrc a2 h
    try dsimp only at h
    rw [if_neg (by decide)] at h
    rw [a3, bo_s]
    have hL2 : RLx T n e s2 t2 := by
      obtain ⟨q1, q2, q3, q4, q5⟩ := a4.1
      exact ⟨q1, q2, q3, q4, q5⟩
    rcases RL_take hL2 is_94 (by decide) with ⟨t7, c1, c2, c3, c4, c5, c6, c7⟩ | ⟨c1, c2, c3⟩
    · have h := bxr hrc c1 h
      try dsimp only at h
      rw [if_pos (by decide)] at h
      rw [c3, bo_s]
      have k4 := RL_k4 c4
      have hc59 : cG 30 [1, 64] (stp s2) = if kkd (stp s2) ≠ 2 then some none else if vlu (stp s2) < 1 then some none else if 64 < vlu (stp s2) then some none else some (some (l2x (vlu (stp s2)), stp (stp s2))) := by
        rw [cG_59]
        rfl
      rw [hc59]
      by_cases k2 : kkd (stp s2) = 2
      · rw [if_neg (show ¬ (t7 170 4 ≠ 3) from fun q => q (by rw [k4, k2]; rfl))] at h
        rw [if_neg (show ¬ (kkd (stp s2) ≠ 2) from fun q => q k2)]
        obtain ⟨v7, v0, v1⟩ := RL_num c4 k2
        rw [v7] at h
        unfold inz at h
        by_cases k3 : 1 ≤ vlu (stp s2) ∧ vlu (stp s2) ≤ 64
        · rw [if_pos k3, if_neg (by decide)] at h
          rw [if_neg (by omega), if_neg (by omega), bo_s, l2x_e (by omega), c_bc, bo_s]
          have h := bxr hrc r_bc h
          try dsimp only at h
          by_cases k5 : bcx (vlu (stp s2)) = 1
          · rw [if_pos k5] at h
            rw [if_neg (fun q => q k5)]
            have m0 := (hH.2.2.1 1 (by omega)).2.1
            have e75 : t7 177 5 = s 109 1 := (c7 177 5 (by unfold lexs; omega)).trans a13
            have hv7 : t7 170 7 = vlu (stp s2) := v7
            rw [e75, hv7] at h
            obtain ⟨mm, hmm⟩ : ∃ mm : Nat, mm = (s 109 1).toNat := ⟨_, rfl⟩
            rw [← hmm] at h
            have e7 : ∀ k j, ¬ lexs k j → (up2 (up2 t7 180 mm (vlu (stp s2))) 177 5 (ipl (s 109 1) 1)) k j = (up2 (up2 t2 177 5 (ipl (t2 177 5) 1)) 180 mm (vlu (stp s2))) k j := fun k j q => by
              by_cases y : k = 177 ∧ j = 5
              · rw [y.1, y.2, up_self, show (up2 (up2 t2 177 5 (ipl (t2 177 5) 1)) 180 mm (vlu (stp s2))) 177 5 = (up2 t2 177 5 (ipl (t2 177 5) 1)) 177 5 from if_neg (by omega), up_self, a13]
              · rw [show (up2 (up2 t7 180 mm (vlu (stp s2))) 177 5 (ipl (s 109 1) 1)) k j = (up2 t7 180 mm (vlu (stp s2))) k j from if_neg y]
                by_cases y2 : k = 180 ∧ j = mm
                · rw [y2.1, y2.2, up_self, up_self]
                · exact (if_neg y2).trans ((c7 k j q).trans ((if_neg y2).trans (if_neg y)).symm)
            have hL8 : RLx T n e (stp s2) (up2 (up2 t7 180 mm (vlu (stp s2))) 177 5 (ipl (s 109 1) 1)) := by
              obtain ⟨q1, q2, q3, q4, q5⟩ := c4
              exact ⟨q1, q2, q3, q4, q5⟩
            have hH8 := H_lex hL8 (H_t1 a4 mm (vlu (stp s2))).2 c5 (by omega) e7
            have hs8 := SC_lex (t := up2 (up2 t2 177 5 (ipl (t2 177 5) 1)) 180 mm (vlu (stp s2))) a5 e7
            have stk := RL_stk hL8 (by omega) (by omega)
            obtain ⟨t9, d1, d2, d3, d4⟩ := RL_step hL8 (by omega) (by omega)
            have h := bxr hrc d1 h
            try dsimp only at h
            have hH9' := H_lex d2 hH8.2 stk (by omega) d4
            have hs9 := SC_lex hs8 d4
            have hssi : ssi (stp (stp s2)) (s 109 1) (vlu (stp s2)) = up2 (stp (stp s2)) 111 mm (vlu (stp s2)) := by
              unfold ssi
              rw [if_pos (by omega), hmm]
            rw [hssi]
            have hH9 := H_s1 hH9' mm (vlu (stp s2))
            obtain ⟨dgb, dnb⟩ := DG_b (s := stp (stp s2)) (k0 := 111) (a := mm) (z := vlu (stp s2)) (.inr rfl)
            have hc9 : DGc s0 (up2 (stp (stp s2)) 111 mm (vlu (stp s2))) := DG_tr hc (DG_tr (DG_F a6) (DG_tr (DG_lex c5 c6) (DG_tr (DG_lex stk d3) dgb)))
            have hn9 : DNx s0 (up2 (stp (stp s2)) 111 mm (vlu (stp s2))) := DN_tr hn (DN_tr (DN_nm (w := 1) (by omega) hH.2.1.1 a4.2.1.1 (by rw [a11, if_neg (by omega)]) a8 a9 ⟨by rw [a11, if_neg (by omega)]; exact Int.le_refl _, by rw [a11, if_pos rfl]; omega⟩) (DN_tr (DN_eq (fun k j _ _ => c5 k j (by omega))) (DN_tr (DN_eq (fun k j _ _ => stk k j (by omega))) dnb)))
            have hr9 : DGr N t0 t9 := DR_tr hr (DR_tr (DR_F a7) (DR_tr (DR_b (N := N) (k0 := 180) (a := mm) (z := vlu (stp s2)) (.inr rfl)) (DR_tr (DR_lex (N := N) e7) (DR_lex (N := N) d4) (Nat.le_refl _)) (Nat.le_refl _)) (Nat.le_refl _)) (Nat.le_refl _)
            have hb9 : RBx s0 t0 → RBx (up2 (stp (stp s2)) 111 mm (vlu (stp s2))) t9 := fun b => by
              have hb0 := hb b
              have ss : ∀ k j, ¬ (k = 137 ∧ j = 5) → (stp (stp s2)) k j = s2 k j := fun k j q => (stk k j q).trans (c5 k j q)
              refine ⟨fun v hv => ?_, fun v hv => ?_⟩
              · have hv : (v : Int) < (stp (stp s2)) 109 0 := hv
                rw [ss 109 0 (by omega), a11, if_neg (by omega)] at hv
                rw [show (up2 (stp (stp s2)) 111 mm (vlu (stp s2))) 110 v = s2 110 v from (if_neg (by omega)).trans (ss 110 v (by omega)), a6.1 110 v (by omega) (by omega), d4 179 v (by unfold lexs; omega), e7 179 v (by unfold lexs; omega), show (up2 (up2 t2 177 5 (ipl (t2 177 5) 1)) 180 mm (vlu (stp s2))) 179 v = (up2 t2 177 5 (ipl (t2 177 5) 1)) 179 v from if_neg (by omega), a7.1 179 v (by unfold lexs; omega) (by omega) (by omega)]
                exact hb0.1 v hv
              · have hv : (v : Int) < (stp (stp s2)) 109 1 := hv
                rw [ss 109 1 (by omega), a11, if_pos rfl] at hv
                rw [d4 180 v (by unfold lexs; omega), e7 180 v (by unfold lexs; omega)]
                by_cases ev : v = mm
                · rw [ev, up_self, up_self]
                · rw [show (up2 (stp (stp s2)) 111 mm (vlu (stp s2))) 111 v = s2 111 v from (if_neg (by omega)).trans (ss 111 v (by omega)), a6.1 111 v (by omega) (by omega), show (up2 (up2 t2 177 5 (ipl (t2 177 5) 1)) 180 mm (vlu (stp s2))) 180 v = (up2 t2 177 5 (ipl (t2 177 5) 1)) 180 v from if_neg (by omega), a7.1 180 v (by unfold lexs; omega) (by omega) (by omega)]
                  exact hb0.2 v (by omega)
            rcases RL_take hH9.1 is_44 (by decide) with ⟨t10, g1, g2, g3, g4, g5, g6, g7⟩ | ⟨g1, g2, g3⟩
            · have h := bxr hrc g1 h
              try dsimp only at h
              rw [if_neg (by decide)] at h
              rw [g3, bo_s]
              exact p_semi hrc h0 (H_lex g4 hH9.2 g5 (by omega) g7) (SC_lex hs9 g7) (DG_tr hc9 (DG_lex g5 g6)) (DR_tr hr9 (DR_lex (N := N) g7) (Nat.le_refl _)) (DN_tr hn9 (DN_eq (fun k j _ _ => g5 k j (by omega)))) (fun b => RB_lex (hb9 b) g5 g7) (fun _ => rfl) (fun _ => rfl) h
            · have h := bxr hrc g1 h
              try dsimp only at h
              rw [if_pos rfl] at h
              cases h
              refine OD_no ?_
              rw [g3]
              rfl
          · rw [if_neg k5] at h
            rw [if_pos k5]
            cases h
            exact OD_no rfl
        · rw [if_neg k3, if_pos rfl] at h
          cases h
          refine OD_no ?_
          by_cases k5 : vlu (stp s2) < 1
          · rw [if_pos k5]
            rfl
          · rw [if_neg k5, if_pos (by omega)]
            rfl
      · rw [if_pos (show t7 170 4 ≠ 3 from fun q => k2 (rkn_3 (k4.symm.trans q)))] at h
        rw [if_pos k2]
        cases h
        exact OD_no rfl
    · have h := bxr hrc c1 h
      try dsimp only at h
      rw [if_neg (by decide)] at h
      cases h
      refine OD_no ?_
      rw [c3]
      rfl
/-- reg -/
theorem p_reg (hrc : rle rc rG) {v : Option (Int × tab)} (h0 : RDx T n e N s0 t0) (hH : RHx T n e N (-1) s t) (hsc : SCb N 0 t) (hc : DGc s0 s) (hr : DGr N t0 t) (hn : DNx s0 s) (hb : RBx s0 t0 → RBx s t) (h : (bo (rc 17 [16] t) fun z79 t79 => if z79 = 0 then some (some (0, t79)) else bo (rc 8 [92] t79) fun z81 t81 => if z81 ≠ 0 then (if t81 170 4 ≠ 3 then some (some (0, t81)) else if inz (t81 170 7) 1 16 ≠ 0 then (bo (rc 4 [] (up2 t81 179 ((imi (t81 177 4) 1).toNat) (t81 170 7))) fun z96 t96 => bo (rc 8 [30] t96) fun z97 t97 => some (some (z97, t97))) else some (some (0, t81))) else some (some (0, t81))) = some v) : ODx T n e s0 t0 (bo (cG 31 [0, 0] s) fun z2 s1 => bo (cG 29 [58] s1) fun _ s3 => bo (cG 30 [1, 16] s3) fun z4 s4 => bo (cG 29 [59] (sbi s4 z2 z4)) fun _ s7 => some (some (0, s7))) v := by
  rcases p_int (b := 0) hH hsc with ⟨t9, a1, a2⟩ | ⟨s2, t2, a2, a3, a4, a5, a6, a7, a8, a9, a10, a11, a12⟩
  · have h := bxr hrc a1 h
    try dsimp only at h
    rw [if_pos rfl] at h
    cases h
    refine OD_no ?_
    rw [a2]
    rfl
  · have h := bxr hrc a2 h
    try dsimp only at h
    rw [if_neg (by decide)] at h
    rw [a3, bo_s]
    have m0 := (hH.2.2.1 0 (by omega)).2.1
    obtain ⟨mm, hmm⟩ : ∃ mm : Nat, mm = (s 109 0).toNat := ⟨_, rfl⟩
    rw [← hmm] at h
    have a4' := H_bt a4 mm 16
    have a5' : SCb (N + 1) 0 (up2 t2 179 mm 16) := a5
    rcases RL_take a4'.1 is_92 (by decide) with ⟨t7, c1, c2, c3, c4, c5, c6, c7⟩ | ⟨c1, c2, c3⟩
    · have h := bxr hrc c1 h
      try dsimp only at h
      rw [if_pos (by decide)] at h
      rw [c3, bo_s]
      have k4 := RL_k4 c4
      have hc59 : cG 30 [1, 16] (stp s2) = if kkd (stp s2) ≠ 2 then some none else if vlu (stp s2) < 1 then some none else if 16 < vlu (stp s2) then some none else some (some (l2x (vlu (stp s2)), stp (stp s2))) := by
        rw [cG_59]
        rfl
      rw [hc59]
      by_cases k2 : kkd (stp s2) = 2
      · rw [if_neg (show ¬ (t7 170 4 ≠ 3) from fun q => q (by rw [k4, k2]; rfl))] at h
        rw [if_neg (show ¬ (kkd (stp s2) ≠ 2) from fun q => q k2)]
        obtain ⟨v7, v0, v1⟩ := RL_num c4 k2
        rw [v7] at h
        unfold inz at h
        by_cases k3 : 1 ≤ vlu (stp s2) ∧ vlu (stp s2) ≤ 16
        · rw [if_pos k3, if_pos (by decide)] at h
          rw [if_neg (by omega), if_neg (by omega), bo_s, l2x_e (by omega)]
          have e74 : t7 177 4 = s 109 0 + 1 := by
            have h1 : t2 177 4 = s2 109 0 := (a4.2.2.1 0 (by omega)).1
            rw [a11, if_pos rfl] at h1
            exact (c7 177 4 (by unfold lexs; omega)).trans h1
          rw [e74, imi_e (by omega), show (s 109 0 + 1 - 1).toNat = mm by omega] at h
          have hH8 := H_lex c4 a4'.2 c5 (by omega) c7
          have hs8 := SC_lex a5' c7
          have hL9 : RLx T n e (stp s2) (up2 t7 179 mm (vlu (stp s2))) := by
            obtain ⟨q1, q2, q3, q4, q5⟩ := c4
            exact ⟨q1, q2, q3, q4, q5⟩
          have hH9 := H_bt hH8 mm (vlu (stp s2))
          have stk := RL_stk c4 (by omega) (by omega)
          obtain ⟨t9, d1, d2, d3, d4⟩ := RL_step hL9 (by omega) (by omega)
          have h := bxr hrc d1 h
          try dsimp only at h
          have hsbi : sbi (stp (stp s2)) (s 109 0) (vlu (stp s2)) = up2 (stp (stp s2)) 110 mm (vlu (stp s2)) := by
            unfold sbi
            rw [if_pos (by omega), hmm]
          rw [hsbi]
          obtain ⟨dgb, dnb⟩ := DG_b (s := stp (stp s2)) (k0 := 110) (a := mm) (z := vlu (stp s2)) (.inl rfl)
          have hs9 : SCb (N + 1) 0 (up2 t7 179 mm (vlu (stp s2))) := hs8
          refine p_semi hrc h0 (H_s0 (H_lex d2 hH9.2 stk (by omega) d4) mm (vlu (stp s2))) (SC_lex hs9 d4) (DG_tr hc (DG_tr (DG_F a6) (DG_tr (DG_lex c5 c6) (DG_tr (DG_lex stk d3) dgb)))) (DR_tr hr (DR_tr (DR_F a7) (DR_tr (DR_b (N := N) (k0 := 179) (a := mm) (z := 16) (.inl rfl)) (DR_tr (DR_lex (N := N) c7) (DR_tr (DR_b (N := N) (k0 := 179) (a := mm) (z := vlu (stp s2)) (.inl rfl)) (DR_lex (N := N) d4) (Nat.le_refl _)) (Nat.le_refl _)) (Nat.le_refl _)) (Nat.le_refl _)) (Nat.le_refl _)) (DN_tr hn (DN_tr (DN_nm (w := 0) (by omega) hH.2.1.1 a4.2.1.1 (by rw [a11, if_neg (by omega)]) a8 a9 ⟨by rw [a11, if_pos rfl]; omega, by rw [a11, if_neg (by omega)]; exact Int.le_refl _⟩) (DN_tr (DN_eq (fun k j _ _ => c5 k j (by omega))) (DN_tr (DN_eq (fun k j _ _ => stk k j (by omega))) dnb)))) (fun b => ?_) (fun _ => rfl) (fun _ => rfl) h
          have hb0 := hb b
          have ss : ∀ k j, ¬ (k = 137 ∧ j = 5) → (stp (stp s2)) k j = s2 k j := fun k j q => (stk k j q).trans (c5 k j q)
          refine ⟨fun v hv => ?_, fun v hv => ?_⟩
          · have hv : (v : Int) < (stp (stp s2)) 109 0 := hv
            rw [ss 109 0 (by omega), a11, if_pos rfl] at hv
            rw [d4 179 v (by unfold lexs; omega)]
            by_cases ev : v = mm
            · rw [ev, up_self, up_self]
            · rw [show (up2 (stp (stp s2)) 110 mm (vlu (stp s2))) 110 v = s2 110 v from (if_neg (by omega)).trans (ss 110 v (by omega)), a6.1 110 v (by omega) (by omega), show (up2 t7 179 mm (vlu (stp s2))) 179 v = t7 179 v from if_neg (by omega), c7 179 v (by unfold lexs; omega), show (up2 t2 179 mm 16) 179 v = t2 179 v from if_neg (by omega), a7.1 179 v (by unfold lexs; omega) (by omega) (by omega)]
              exact hb0.1 v (by omega)
          · have hv : (v : Int) < (stp (stp s2)) 109 1 := hv
            rw [ss 109 1 (by omega), a11, if_neg (by omega)] at hv
            rw [d4 180 v (by unfold lexs; omega), show (up2 (stp (stp s2)) 110 mm (vlu (stp s2))) 111 v = s2 111 v from (if_neg (by omega)).trans (ss 111 v (by omega)), a6.1 111 v (by omega) (by omega), show (up2 t7 179 mm (vlu (stp s2))) 180 v = t7 180 v from if_neg (by omega), c7 180 v (by unfold lexs; omega), show (up2 t2 179 mm 16) 180 v = t2 180 v from if_neg (by omega), a7.1 180 v (by unfold lexs; omega) (by omega) (by omega)]
            exact hb0.2 v hv
        · rw [if_neg k3, if_neg (by decide)] at h
          cases h
          refine OD_no ?_
          by_cases k5 : vlu (stp s2) < 1
          · rw [if_pos k5]
            rfl
          · rw [if_neg k5, if_pos (by omega)]
            rfl
      · rw [if_pos (show t7 170 4 ≠ 3 from fun q => k2 (rkn_3 (k4.symm.trans q)))] at h
        rw [if_pos k2]
        cases h
        exact OD_no rfl
    · have h := bxr hrc c1 h
      try dsimp only at h
      rw [if_neg (by decide)] at h
      cases h
      refine OD_no ?_
      rw [c3]
      rfl
/-- int -/
theorem p_intd (hrc : rle rc rG) {v : Option (Int × tab)} (h0 : RDx T n e N s0 t0) (hH : RHx T n e N (-1) s t) (hsc : SCb N 0 t) (hc : DGc s0 s) (hr : DGr N t0 t) (hn : DNx s0 s) (hb : RBx s0 t0 → RBx s t) (h : (bo (rc 17 [0] t) fun z100 t100 => if z100 = 0 then some (some (0, t100)) else bo (rc 8 [30] t100) fun z102 t102 => if z102 = 0 then some (some (0, t102)) else some (some (1, t102))) = some v) : ODx T n e s0 t0 (bo (cG 31 [0, 0] s) fun z8 s1 => bo (cG 29 [59] (sbi s1 z8 0)) fun _ s2 => some (some (0, s2))) v := by
  rcases p_int (b := 0) hH hsc with ⟨t9, a1, a2⟩ | ⟨s2, t2, a2, a3, a4, a5, a6, a7, a8, a9, a10, a11, a12⟩
  · have h := bxr hrc a1 h
    try dsimp only at h
    rw [if_pos rfl] at h
    cases h
    refine OD_no ?_
    rw [a2]
    rfl
  · have h := bxr hrc a2 h
    try dsimp only at h
    rw [if_neg (by decide)] at h
    rw [a3, bo_s]
    have m0 := (hH.2.2.1 0 (by omega)).2.1
    obtain ⟨mm, hmm⟩ : ∃ mm : Nat, mm = (s 109 0).toNat := ⟨_, rfl⟩
    rw [← hmm] at h
    have hsbi : sbi s2 (s 109 0) 0 = up2 s2 110 mm 0 := by
      unfold sbi
      rw [if_pos (by omega), hmm]
    rw [hsbi]
    obtain ⟨dgb, dnb⟩ := DG_b (s := s2) (k0 := 110) (a := mm) (z := 0) (.inl rfl)
    have a5' : SCb (N + 1) 0 (up2 t2 179 mm 0) := a5
    refine p_semi hrc h0 (H_b1 a4 mm mm 0 0) a5' (DG_tr hc (DG_tr (DG_F a6) dgb)) (DR_tr hr (DR_tr (DR_F a7) (DR_b (N := N) (k0 := 179) (a := mm) (z := 0) (.inl rfl)) (Nat.le_refl _)) (Nat.le_refl _)) (DN_tr hn (DN_tr (DN_nm (w := 0) (by omega) hH.2.1.1 a4.2.1.1 (by rw [a11, if_neg (by omega)]) a8 a9 ⟨by rw [a11, if_pos rfl]; omega, by rw [a11, if_neg (by omega)]; exact Int.le_refl _⟩) dnb)) (fun b => ?_) (fun _ => rfl) (fun _ => rfl) h
    have hb0 := hb b
    refine ⟨fun v hv => ?_, fun v hv => ?_⟩
    · have hv : (v : Int) < s2 109 0 := hv
      rw [a11, if_pos rfl] at hv
      by_cases ev : v = mm
      · rw [ev, up_self, up_self]
      · rw [show (up2 s2 110 mm 0) 110 v = s2 110 v from if_neg (by omega), a6.1 110 v (by omega) (by omega), show (up2 t2 179 mm 0) 179 v = t2 179 v from if_neg (by omega), a7.1 179 v (by unfold lexs; omega) (by omega) (by omega)]
        exact hb0.1 v (by omega)
    · have hv : (v : Int) < s2 109 1 := hv
      rw [a11, if_neg (by omega)] at hv
      rw [show (up2 s2 110 mm 0) 111 v = s2 111 v from if_neg (by omega), a6.1 111 v (by omega) (by omega), show (up2 t2 179 mm 0) 180 v = t2 180 v from if_neg (by omega), a7.1 180 v (by unfold lexs; omega) (by omega) (by omega)]
      exact hb0.2 v hv
end DECX2
