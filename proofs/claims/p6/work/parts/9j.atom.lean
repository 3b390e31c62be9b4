/-! Atoms, and all of E, in both. -/
section ATOM
variable {T : Nat → Int} {n e N : Nat} {g : Int × Int × Int} {s t s2 t2 : tab} {rc : MRq}
def PIx (rc : MRq) : Prop := ∀ (T : Nat → Int) (n e N : Nat) (g : Int × Int × Int) (s t : tab) (k x : Int) (v : Option (Int × tab)), REx T n e N g s t → 0 ≤ x → x ≤ 20 → 0 ≤ s 131 6 → s 131 6 ≤ 10 * x + 10 → 0 ≤ k → k < (N : Int) → nnm s k < s 109 5 → nnm s k ≠ s 131 13 → kkd s = 1 → kkd (stp s) = 40 → rc 25 [k, x] t = some v → OEx T n e N g s t (if 20 ≤ x then some none else cG 39 [nnm s k, x + 1] (stp s)) v
def PJx (rc : MRq) : Prop := ∀ (T : Nat → Int) (n e N : Nat) (g : Int × Int × Int) (s t : tab) (k x : Int) (y : Nat) (v : Option (Int × tab)), REx T n e N g s t → 0 ≤ x → x ≤ 20 → 0 ≤ s 131 6 → s 131 6 ≤ 10 * x + 10 → 0 ≤ k → k < (N : Int) → nnm s k < s 109 5 → nnm s k ≠ s 131 13 → kkd s = 1 → kkd (stp s) = 40 → y ≤ n → upto blk T n y = nxt T n (pls T n (s 137 5).toNat) → rc 53 [k, x, (y : Int)] t = some v → OEx T n e N g s t (if 20 ≤ x then some none else cG 39 [nnm s k, x + 1] (stp s)) v
theorem stp_kd (h : RLx T n e s t) (h3 : kkd s ≠ 3) (h4 : kkd s ≠ 4) : kkd (stp s) = kd T n (nxt T n (pls T n (s 137 5).toNat)) := by
  obtain ⟨t2, a1, a2, a3, _⟩ := RL_step h h3 h4
  have hi := RL_in h
  rw [RL_kk a2, a3, show (s 137 5 + 1).toNat = (s 137 5).toNat + 1 by omega]
  rfl
theorem p_J (hC : PCx rc) (hJ : PJx rc) : ∀ (T : Nat → Int) (n e N : Nat) (g : Int × Int × Int) (s t : tab) (k x : Int) (y : Nat) (v : Option (Int × tab)), REx T n e N g s t → 0 ≤ x → x ≤ 20 → 0 ≤ s 131 6 → s 131 6 ≤ 10 * x + 10 → 0 ≤ k → k < (N : Int) → nnm s k < s 109 5 → nnm s k ≠ s 131 13 → kkd s = 1 → kkd (stp s) = 40 → y ≤ n → upto blk T n y = nxt T n (pls T n (s 137 5).toNat) → rM149_6 rc k x (y : Int) t = some v → OEx T n e N g s t (if 20 ≤ x then some none else cG 39 [nnm s k, x + 1] (stp s)) v := by
  intro T n e N g s t k x y v hR x0 x1 b0 b1 k0 k1 r1 r2 hk hk2 hy hup h
  have hx := hR.1.2.1
  have hx1 := hx.1
  have hx2 := hx.2.1
  have hs := stp_kd hR.1 (by omega) (by omega)
  rw [hk2] at hs
  obtain ⟨q1, q2, _⟩ := (kd_one (c := 40) (by decide)).mp hs.symm
  rw [← hup] at q1 q2
  unfold rM149_6 at h
  by_cases c0 : n ≤ y
  · rw [upto_no (by omega)] at q1
    omega
  · rw [if_neg (by omega), Int.toNat_natCast, (hx.2.2 y (by omega)).1] at h
    have go : ∀ hb : blk (T y) = true, rc 53 [k, x, (y : Int) + 1] t = some v → OEx T n e N g s t (if 20 ≤ x then some none else cG 39 [nnm s k, x + 1] (stp s)) v := fun hb h => hJ T n e N g s t k x (y + 1) v hR x0 x1 b0 b1 k0 k1 r1 r2 hk hk2 (by omega) (by rw [← hup]; exact (upto_yes (by omega) hb).symm) h
    by_cases c1 : T y = 32
    · rw [if_pos c1] at h
      exact go (blk_iff.mpr (.inl c1)) h
    · rw [if_neg c1] at h
      by_cases c2 : T y = 10
      · rw [if_neg (fun q => q c2)] at h
        exact go (blk_iff.mpr (.inr c2)) h
      · rw [if_pos c2] at h
        have hb : ¬ (y < n ∧ blk (T y) = true) := fun q => by have := blk_iff.mp q.2; omega
        rw [upto_no hb] at q2
        rw [if_pos q2] at h
        by_cases c3 : x ≠ 20
        · rw [if_pos c3, ipl_e (by omega)] at h
          rw [if_neg (by omega)]
          have hX1 : XCx 1 (cG 39 [nnm s k, x + 1] (stp s)) = cG 39 [nnm s k, x + 1] (stp s) := if_pos (by decide)
          rcases bo_inv h with ⟨h9, _⟩ | ⟨z6, t6, h9, h⟩
          · obtain ⟨z, t3, e1, _⟩ := hC T n e N g s t k (x + 1) 1 _ hR (by omega) (by omega) b0 (by omega) k0 k1 r1 r2 hk hk2 h9
            cases e1
          · cases h
            rw [← hX1]
            exact hC T n e N g s t k (x + 1) 1 _ hR (by omega) (by omega) b0 (by omega) k0 k1 r1 r2 hk hk2 h9
        · rw [if_neg c3] at h
          cases h
          exact OE_no (if_pos (by omega))
theorem p_I (hJ : PJx rc) : ∀ (T : Nat → Int) (n e N : Nat) (g : Int × Int × Int) (s t : tab) (k x : Int) (v : Option (Int × tab)), REx T n e N g s t → 0 ≤ x → x ≤ 20 → 0 ≤ s 131 6 → s 131 6 ≤ 10 * x + 10 → 0 ≤ k → k < (N : Int) → nnm s k < s 109 5 → nnm s k ≠ s 131 13 → kkd s = 1 → kkd (stp s) = 40 → rM149 rc k x t = some v → OEx T n e N g s t (if 20 ≤ x then some none else cG 39 [nnm s k, x + 1] (stp s)) v := by
  intro T n e N g s t k x v hR x0 x1 b0 b1 k0 k1 r1 r2 hk hk2 h
  unfold rM149 at h
  rw [hR.1.2.2.2.2.2.1] at h
  exact hJ T n e N g s t k x _ v hR x0 x1 b0 b1 k0 k1 r1 r2 hk hk2 (nx_le (RL_le hR.1)) rfl h
theorem c_num (hR : REx T n e N g s t) (hk : kkd s = 2) : cG 30 [0, 65535] s = some (some (l2x (vlu s), stp s)) := by
  have hv := RL_vl hR.1 (.inr hk)
  have hk2 := RL_kk hR.1
  have hr := kd_num (hk2.symm.trans hk)
  rw [cG_59]
  unfold cM59
  rw [if_neg (fun q => q hk), if_neg (by omega), if_neg (by omega)]
/-- subscripts: [ E ] -/
theorem p_sub (hrc : rle rc rG) (hX : PXx rc) {x : Int} {v : Option (Int × tab)} (hR : REx T n e N g s t) (x0 : 0 ≤ x) (x1 : x ≤ 20) (b0 : 0 ≤ s 131 6) (b1 : s 131 6 ≤ 10 * x + 10) (hk : kkd s = 91) (h : (if x ≠ 20 then bo (rc 4 [] t) fun z39 t39 => bo (rc 22 [0, ipl x 1] t39) fun z40 t40 => if z40 = 0 then some (some (0, t40)) else bo (rc 8 [44] t40) fun z42 t42 => if z42 ≠ 0 then some (some (1, t42)) else some (some (0, t42)) else some (some (0, t))) = some v) : OEx T n e N g s t (cG 37 [x] s) v := by
  rw [cG_64]
  unfold cM64
  by_cases c3 : x ≠ 20
  · rw [if_pos c3, ipl_e (by omega)] at h
    rw [if_neg (by omega)]
    obtain ⟨t2, a1, a2, a3, a4, a5⟩ := RE_step hR (by omega) (by omega)
    have h := bxr hrc a1 h
    try dsimp only at h
    have b6 : (stp s) 131 6 = s 131 6 := a3.2.1
    rcases bo_inv h with ⟨h9, _⟩ | ⟨z6, t6, h9, h⟩
    · obtain ⟨z, t3, e1, _⟩ := p_Ex hX a2 (by omega) (by omega) (by omega) (by omega) h9
      cases e1
    · obtain ⟨z, t3, e1, e2⟩ := p_Ex hX a2 (by omega) (by omega) (by omega) (by omega) h9
      cases e1
      rcases e2 with ⟨rfl, s4, f1, f2, f3, f4, f5⟩ | ⟨rfl, f1⟩
      · rw [if_neg (by decide)] at h
        rw [f1, bo_s]
        rcases RE_take f2 is_44 (by decide) with ⟨t7, c1, c2, c3, c4, c5, c6, c7⟩ | ⟨c1, c2, c3⟩
        · have h := bxr hrc c1 h
          try dsimp only at h
          rw [if_pos (by decide)] at h
          cases h
          exact ⟨1, t7, rfl, .inl ⟨rfl, stp s4, by rw [c3, bo_s], c4, FEc_tr a3 (FEc_tr f3 c5), FEr_tr a4 (FEr_tr f4 c6), by omega⟩⟩
        · have h := bxr hrc c1 h
          try dsimp only at h
          rw [if_neg (by decide)] at h
          cases h
          exact OE_no (by rw [c3, bo_n])
      · rw [if_pos rfl] at h
        cases h
        exact OE_no (by rw [f1, bo_n])
  · rw [if_neg c3] at h
    cases h
    exact OE_no (if_pos (by omega))
/-- atom(..) -/
theorem p_A (hrc : rle rc rG) (hX : PXx rc) (hI : PIx rc) : ∀ (T : Nat → Int) (n e N : Nat) (g : Int × Int × Int) (s t : tab) (x : Int) (v : Option (Int × tab)), REx T n e N g s t → 0 ≤ x → x ≤ 20 → 0 ≤ s 131 6 → s 131 6 ≤ 10 * x + 10 → kkd s ≠ 33 → kkd s ≠ 45 → kkd s ≠ 126 → rM146 rc x t = some v → OEx T n e N g s t (cG 41 [x] s) v := by
  intro T n e N g s t x v hR x0 x1 b0 b1 u1 u2 u3 h
  have hk4 := RL_k4 hR.1
  rw [cG_58]
  unfold cM58
  unfold rM146 at h
  by_cases k2 : kkd s = 2
  · rw [if_pos k2, c_num hR k2, bo_s]
    rw [if_neg (fun q => q (by rw [hk4, k2]; rfl))] at h
    obtain ⟨t2, a1, a2, a3, a4, a5⟩ := RE_step hR (by omega) (by omega)
    have h := bxr hrc a1 h
    try dsimp only at h
    cases h
    exact ⟨1, t2, rfl, .inl ⟨rfl, stp s, rfl, a2, a3, a4, by omega⟩⟩
  · rw [if_neg k2, if_neg u1]
    rw [if_pos (fun q => k2 (rkn_3 (hk4.symm.trans q)))] at h
    have h := bxr hrc (RL_is is_22 hR.1) h
    try dsimp only at h
    by_cases k40 : kkd s = 40
    · rw [if_pos k40]
      rw [if_pos k40, if_neg (by decide)] at h
      by_cases c3 : x ≠ 20
      · rw [if_pos c3, ipl_e (by omega)] at h
        rw [if_neg (by omega)]
        obtain ⟨t2, a1, a2, a3, a4, a5⟩ := RE_step hR (by omega) (by omega)
        have h := bxr hrc a1 h
        try dsimp only at h
        have b6 : (stp s) 131 6 = s 131 6 := a3.2.1
        rcases bo_inv h with ⟨h9, _⟩ | ⟨z6, t6, h9, h⟩
        · obtain ⟨z, t3, e1, _⟩ := p_Ex hX a2 (by omega) (by omega) (by omega) (by omega) h9
          cases e1
        · obtain ⟨z, t3, e1, e2⟩ := p_Ex hX a2 (by omega) (by omega) (by omega) (by omega) h9
          cases e1
          rcases e2 with ⟨rfl, s4, f1, f2, f3, f4, f5⟩ | ⟨rfl, f1⟩
          · rw [if_neg (by decide)] at h
            rw [f1, bo_s]
            rcases RE_take f2 is_24 (by decide) with ⟨t7, c1, c2, c3, c4, c5, c6, c7⟩ | ⟨c1, c2, c3⟩
            · have h := bxr hrc c1 h
              try dsimp only at h
              rw [if_neg (by decide)] at h
              cases h
              exact ⟨1, t7, rfl, .inl ⟨rfl, stp s4, by rw [c3, bo_s], c4, FEc_tr a3 (FEc_tr f3 c5), FEr_tr a4 (FEr_tr f4 c6), by omega⟩⟩
            · have h := bxr hrc c1 h
              try dsimp only at h
              rw [if_pos rfl] at h
              cases h
              exact OE_no (by rw [c3, bo_n])
          · rw [if_pos rfl] at h
            cases h
            exact OE_no (by rw [f1, bo_n])
      · rw [if_neg c3] at h
        cases h
        exact OE_no (if_pos (by omega))
    · rw [if_neg k40, if_neg u2, if_neg u3]
      rw [if_neg k40, if_pos rfl] at h
      by_cases k1 : kkd s = 1
      · rw [if_pos (by rw [hk4, k1]; rfl)] at h
        obtain ⟨w1, w2, w3⟩ := RE_name hR k1
        have h := bxr hrc w1 h
        try dsimp only at h
        obtain ⟨k, hkd⟩ : ∃ k, k = fdn s (vlu s) 0 := ⟨_, rfl⟩
        have hme := c_mean k1
        rw [← hkd] at h w2 w3 hme
        rw [cG_60]
        unfold cM60
        rw [hme]
        by_cases c0 : k < 0
        · rw [if_pos c0] at h
          cases h
          rw [if_pos c0]
          exact OE_no rfl
        · rw [if_neg c0] at h
          rw [if_neg c0, bo_s]
          obtain ⟨n1, n2, n3, n4, n5, n6, n7, _⟩ := RS_nm hR.2.1 (show 0 ≤ k by omega) w2
          have h := bxr hrc (RL_beh hR.1 (by omega) (by omega) (c := 91) (by decide)) h
          try dsimp only at h
          obtain ⟨t2, a1, a2, a3, a4, a5⟩ := RE_step hR (by omega) (by omega)
          have m1 : t2 174 k.toNat = nkd s k := (a4 174 _ (by omega)).trans n1
          have m2 : t2 175 k.toNat = nnm s k := (a4 175 _ (by omega)).trans n2
          by_cases k91 : kkd (stp s) = 91
          · rw [if_pos k91, if_neg (by decide)] at h
            rw [if_neg (fun q => q k91)]
            rw [n1] at h
            by_cases d1 : nkd s k = 1
            · rw [if_pos d1, if_pos (by omega)] at h
              rw [if_neg (fun q => q d1)]
              have h := bxr hrc a1 h
              try dsimp only at h
              rw [m1, m2, if_neg (fun q => q d1), if_pos (by omega)] at h
              obtain ⟨b1', b2', b3'⟩ := RE_used a2 (lsl 1 (ipl 24 (nnm s k)))
              have hk9 : kkd (up2 (stp s) 131 7 (lo ((stp s) 131 7) (lsl 1 (ipl 24 (nnm s k))))) = 91 := by
                rw [← k91]
                unfold kkd
                rfl
              have hb6 : (up2 (stp s) 131 7 (lo ((stp s) 131 7) (lsl 1 (ipl 24 (nnm s k))))) 131 6 = s 131 6 := b2'.2.1.trans a3.2.1
              have := p_sub hrc hX b1' x0 x1 (by rw [hb6]; exact b0) (by rw [hb6]; exact b1) hk9 h
              have := OE_pre this (FEc_tr a3 b2') (FEr_tr a4 b3')
              obtain ⟨z, t9, e1, e2⟩ := this
              refine ⟨z, t9, e1, ?_⟩
              rcases e2 with ⟨q1, s9, q2, q3⟩ | ⟨q1, q2⟩
              · exact .inl ⟨q1, s9, by rw [q2, bo_s, bo_s], q3⟩
              · exact .inr ⟨q1, by rw [q2, bo_n, bo_n]⟩
            · rw [if_neg d1] at h
              cases h
              rw [if_pos d1]
              exact OE_no rfl
          · rw [if_neg k91, if_pos rfl] at h
            rw [if_pos k91]
            have h := bxr hrc (RL_beh hR.1 (by omega) (by omega) (c := 40) (by decide)) h
            try dsimp only at h
            by_cases k9 : kkd (stp s) = 40
            · rw [if_pos k9, if_neg (by decide)] at h
              rw [if_neg (fun q => q k9)]
              rw [n1] at h
              by_cases d1 : nkd s k = 6
              · rw [if_pos d1, n2, ← hR.2.1.2.2.2.1] at h
                rw [if_neg (fun q => q d1)]
                have e13 : (stp s) 131 13 = s 131 13 := a3.1 131 13 (by omega) (by omega) (by omega)
                rw [e13]
                by_cases d2 : nnm s k ≠ s 131 13
                · rw [if_pos d2] at h
                  rw [if_neg d2]
                  have d3 : nnm s k < s 109 5 := by rw [d1] at n6; exact n6
                  rcases bo_inv h with ⟨h9, _⟩ | ⟨z6, t6, h9, h⟩
                  · obtain ⟨z, t3, e1, _⟩ := hI T n e N g s t k x _ hR x0 x1 b0 b1 (by omega) w2 d3 d2 k1 k9 h9
                    cases e1
                  · cases h
                    obtain ⟨z, t9, e1, e2⟩ := hI T n e N g s t k x _ hR x0 x1 b0 b1 (by omega) w2 d3 d2 k1 k9 h9
                    refine ⟨z, t9, e1, ?_⟩
                    rcases e2 with ⟨q1, s9, q2, q3⟩ | ⟨q1, q2⟩
                    · refine .inl ⟨q1, s9, ?_, q3⟩
                      by_cases c20 : 20 ≤ x
                      · rw [if_pos c20] at q2
                        cases q2
                      · rw [if_neg c20] at q2 ⊢
                        rw [q2, bo_s, bo_s]
                    · refine .inr ⟨q1, ?_⟩
                      by_cases c20 : 20 ≤ x
                      · rw [if_pos c20]
                        rfl
                      · rw [if_neg c20] at q2 ⊢
                        rw [q2, bo_n, bo_n]
                · rw [if_neg d2] at h
                  cases h
                  rw [if_pos (show nnm s k = s 131 13 by omega)]
                  exact OE_no rfl
              · rw [if_neg d1] at h
                cases h
                rw [if_pos d1]
                exact OE_no rfl
            · rw [if_neg k9, if_pos rfl] at h
              rw [if_pos k9]
              rw [n1] at h
              by_cases d1 : nkd s k = 0
              · rw [if_pos d1, if_pos (by omega)] at h
                rw [if_neg (fun q => q d1)]
                have h := bxr hrc a1 h
                try dsimp only at h
                rw [m1, m2, if_pos (by omega), if_neg (fun q => q d1), ipl_e (by omega), Int.zero_add] at h
                cases h
                obtain ⟨b1', b2', b3'⟩ := RE_used a2 (lsl 1 (nnm s k))
                refine ⟨1, _, rfl, .inl ⟨rfl, _, rfl, b1', FEc_tr a3 b2', FEr_tr a4 b3', ?_⟩⟩
                show s 137 5 < (up2 (stp s) 131 7 (lo ((stp s) 131 7) (lsl 1 (nnm s k)))) 137 5
                rw [show (up2 (stp s) 131 7 (lo ((stp s) 131 7) (lsl 1 (nnm s k)))) 137 5 = (stp s) 137 5 from if_neg (by omega)]
                omega
              · rw [if_neg d1] at h
                cases h
                rw [if_pos d1]
                exact OE_no rfl
      · rw [if_neg (fun q => k1 (rkn_1 (hk4.symm.trans q)))] at h
        cases h
        rw [cG_60]
        unfold cM60
        rw [cG_61]
        unfold cM61
        rw [if_pos k1]
        exact OE_no rfl
/-- all of E -/
def PEA (rc : MRq) : Prop := PUx rc ∧ PAx rc ∧ PXx rc ∧ PLx rc ∧ PMx rc ∧ PCLx rc ∧ PCx rc ∧ PIx rc ∧ PJx rc
theorem p_EA (hrc : rle rc rG) (h : PEA rc) : PEA (rB rc) := by
  obtain ⟨hU, hA, hX, hL, hM, hCL, hC, hI, hJ⟩ := h
  refine ⟨?_, ?_, ?_, ?_, ?_, ?_, ?_, ?_, ?_⟩
  · intro T n e N g s t x v a1 a2 a3 a4 a5 h
    exact p_U hrc hU hA T n e N g s t x v a1 a2 a3 a4 a5 h
  · intro T n e N g s t x v a1 a2 a3 a4 a5 a6 a7 a8 h
    exact p_A hrc hX hI T n e N g s t x v a1 a2 a3 a4 a5 a6 a7 a8 h
  · intro T n e N g s t L x b i v a1 a2 a3 a4 a5 a6 a7 a8 a9 a10 h
    exact p_X hU hX hL T n e N g s t L x b i v a1 a2 a3 a4 a5 a6 a7 a8 a9 a10 h
  · intro T n e N g s t L x b i v a1 a2 a3 a4 a5 a6 a7 a8 a9 a10 a11 h
    exact p_L hrc hX hL T n e N g s t L x b i v a1 a2 a3 a4 a5 a6 a7 a8 a9 a10 a11 h
  · intro t i r m v h
    exact p_M hrc hM t i r m v h
  · intro T n e N g s t x i r m v a1 a2 a3 a4 a5 a6 a7 a8 a9 a10 h
    exact p_CL hrc hM hX hCL T n e N g s t x i r m v a1 a2 a3 a4 a5 a6 a7 a8 a9 a10 h
  · intro T n e N g s t k x i v a1 a2 a3 a4 a5 a6 a7 a8 a9 a10 a11 h
    exact p_C hrc hCL T n e N g s t k x i v a1 a2 a3 a4 a5 a6 a7 a8 a9 a10 a11 h
  · intro T n e N g s t k x v a1 a2 a3 a4 a5 a6 a7 a8 a9 a10 a11 h
    exact p_I hJ T n e N g s t k x v a1 a2 a3 a4 a5 a6 a7 a8 a9 a10 a11 h
  · intro T n e N g s t k x y v a1 a2 a3 a4 a5 a6 a7 a8 a9 a10 a11 a12 a13 h
    exact p_J hC hJ T n e N g s t k x y v a1 a2 a3 a4 a5 a6 a7 a8 a9 a10 a11 a12 a13 h
theorem it_rG (f : Nat) : rle (it rB f) rG := fun i xs t v h => lim_of rB_k h
theorem p_EA0 : ∀ f, PEA (it rB f)
  | 0 => by unfold PEA PUx PAx PXx PLx PMx PCLx PCx PIx PJx; refine ⟨?_, ?_, ?_, ?_, ?_, ?_, ?_, ?_, ?_⟩ <;> (intros; rename_i h; cases h)
  | f + 1 => p_EA (it_rG f) (p_EA0 f)
end ATOM
