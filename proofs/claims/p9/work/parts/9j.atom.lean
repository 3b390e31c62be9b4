/-! Atoms, and all of E, in both. -/
section ATOM
variable {T : Nat → Int} {n e N : Nat} {g : Gtt} {s t s2 t2 : tab} {rc : MRq}
def PIx (rc : MRq) : Prop := ∀ (T : Nat → Int) (n e N : Nat) (g : Gtt) (s t : tab) (k x : Int) (v : Option (Int × tab)), REx T n e N g s t → 0 ≤ x → x ≤ 20 → 0 ≤ s 131 6 → s 131 6 ≤ 10 * x + 10 → 0 ≤ k → k < (N : Int) → nnm s k < s 109 5 → nnm s k ≠ s 131 13 → nkd s k = 6 → kkd s = 1 → kkd (stp s) = 40 → rc 25 [k, x] t = some v → OEx T n e N g s t (if 20 ≤ x then some none else cG 39 [nnm s k, x + 1] (stp s)) v
def PJx (rc : MRq) : Prop := ∀ (T : Nat → Int) (n e N : Nat) (g : Gtt) (s t : tab) (k x : Int) (y : Nat) (v : Option (Int × tab)), REx T n e N g s t → 0 ≤ x → x ≤ 20 → 0 ≤ s 131 6 → s 131 6 ≤ 10 * x + 10 → 0 ≤ k → k < (N : Int) → nnm s k < s 109 5 → nnm s k ≠ s 131 13 → nkd s k = 6 → kkd s = 1 → kkd (stp s) = 40 → y ≤ n → upto blk T n y = nxt T n (pls T n (s 137 5).toNat) → rc 53 [k, x, (y : Int)] t = some v → OEx T n e N g s t (if 20 ≤ x then some none else cG 39 [nnm s k, x + 1] (stp s)) v
theorem stp_kd (h : RLx T n e s t) (h3 : kkd s ≠ 3) (h4 : kkd s ≠ 4) : kkd (stp s) = kd T n (nxt T n (pls T n (s 137 5).toNat)) := by
  obtain ⟨t2, a1, a2, a3, _⟩ := RL_step h h3 h4
  have hi := RL_in h
  rw [RL_kk a2, a3, show (s 137 5 + 1).toNat = (s 137 5).toNat + 1 by omega]
  rfl
theorem p_J (hC : PCx rc) (hJ : PJx rc) : ∀ (T : Nat → Int) (n e N : Nat) (g : Gtt) (s t : tab) (k x : Int) (y : Nat) (v : Option (Int × tab)), REx T n e N g s t → 0 ≤ x → x ≤ 20 → 0 ≤ s 131 6 → s 131 6 ≤ 10 * x + 10 → 0 ≤ k → k < (N : Int) → nnm s k < s 109 5 → nnm s k ≠ s 131 13 → nkd s k = 6 → kkd s = 1 → kkd (stp s) = 40 → y ≤ n → upto blk T n y = nxt T n (pls T n (s 137 5).toNat) → rM149_6 rc k x (y : Int) t = some v → OEx T n e N g s t (if 20 ≤ x then some none else cG 39 [nnm s k, x + 1] (stp s)) v := by
  intro T n e N g s t k x y v hR x0 x1 b0 b1 k0 k1 r1 r2 hf hk hk2 hy hup h
  have hx := hR.1.2.1
  have hx1 := hx.1
  have hx2 := hx.2.1
  have hs := stp_kd hR.1 (by omega) (by omega)
  rw [hk2] at hs
  obtain ⟨q1, q2, _⟩ := (kd_one (c := 40) (by decide)).mp hs.symm
  rw [← hup] at q1 q2
  unfold rM149_6 at h
  by_cases c0 : n ≤ y
  · rw [upto_no (by omega)] at q1
    omega
  · rw [if_neg (by omega), Int.toNat_natCast, (hx.2.2 y (by omega)).1] at h
    have go : ∀ hb : blk (T y) = true, rc 53 [k, x, (y : Int) + 1] t = some v → OEx T n e N g s t (if 20 ≤ x then some none else cG 39 [nnm s k, x + 1] (stp s)) v := fun hb h => hJ T n e N g s t k x (y + 1) v hR x0 x1 b0 b1 k0 k1 r1 r2 hf hk hk2 (by omega) (by rw [← hup]; exact (upto_yes (by omega) hb).symm) h
    by_cases c1 : T y = 32
    · rw [if_pos c1] at h
      exact go (blk_iff.mpr (.inl c1)) h
    · rw [if_neg c1] at h
      by_cases c2 : T y = 10
      · rw [if_neg (fun q => q c2)] at h
        exact go (blk_iff.mpr (.inr c2)) h
      · rw [if_pos c2] at h
        have hb : ¬ (y < n ∧ blk (T y) = true) := fun q => by have := blk_iff.mp q.2; omega
        rw [upto_no hb] at q2
        rw [if_pos q2] at h
        by_cases c3 : x ≠ 20
        · rw [if_pos c3, ipl_e (by omega)] at h
          rw [if_neg (by omega)]
          have hX1 : XCx 1 (cG 39 [nnm s k, x + 1] (stp s)) = cG 39 [nnm s k, x + 1] (stp s) := if_pos (by decide)
          have hfn : g.2.2.2.1.2.2 (nnm s k).toNat := by
            obtain ⟨_, _, _, _, _, _, _, n8, n9⟩ := RS_nm hR.2.1 k0 k1
            rw [n9]
            exact (hR.2.2.2.2.2.1 k.toNat (by have := hR.2.1.1.1; omega)).1 (by rw [← n8]; exact hf)
          rcases bo_inv h with ⟨h9, _⟩ | ⟨z6, t6, h9, h⟩
          · obtain ⟨z, t3, e1, _⟩ := hC T n e N g s t k (x + 1) 1 _ hR (by omega) (by omega) b0 (by omega) k0 k1 r1 r2 (fun _ => hfn) hk hk2 h9
            cases e1
          · cases h
            rw [← hX1]
            obtain ⟨z, t3, e1, e2⟩ := hC T n e N g s t k (x + 1) 1 _ hR (by omega) (by omega) b0 (by omega) k0 k1 r1 r2 (fun _ => hfn) hk hk2 h9
            refine ⟨z, t3, e1, ?_⟩
            obtain ⟨w1, w2, w3, w4, w5, w6, w7⟩ := hR.2.2.2.1
            obtain ⟨_, _, _, _, _, _, _, n8, n9⟩ := RS_nm hR.2.1 k0 k1
            rcases e2 with ⟨f0, s4, f1, f2, f3, f4, f5, f6, f7⟩ | f
            · refine .inl ⟨f0, s4, f1, f2, f3, f4, f5, CL_E f6 ?_ w1 w7, f7⟩
              rw [n9]
              exact (hR.2.2.2.2.2.1 k.toNat (by have := hR.2.1.1.1; omega)).1 (by rw [← n8]; exact hf)
            · exact .inr f
        · rw [if_neg c3] at h
          cases h
          exact OE_no (if_pos (by omega))
theorem p_I (hJ : PJx rc) : ∀ (T : Nat → Int) (n e N : Nat) (g : Gtt) (s t : tab) (k x : Int) (v : Option (Int × tab)), REx T n e N g s t → 0 ≤ x → x ≤ 20 → 0 ≤ s 131 6 → s 131 6 ≤ 10 * x + 10 → 0 ≤ k → k < (N : Int) → nnm s k < s 109 5 → nnm s k ≠ s 131 13 → nkd s k = 6 → kkd s = 1 → kkd (stp s) = 40 → rM149 rc k x t = some v → OEx T n e N g s t (if 20 ≤ x then some none else cG 39 [nnm s k, x + 1] (stp s)) v := by
  intro T n e N g s t k x v hR x0 x1 b0 b1 k0 k1 r1 r2 hf hk hk2 h
  unfold rM149 at h
  rw [hR.1.2.2.2.2.2.1] at h
  exact hJ T n e N g s t k x _ v hR x0 x1 b0 b1 k0 k1 r1 r2 hf hk hk2 (nx_le (RL_le hR.1)) rfl h
theorem c_num (hR : REx T n e N g s t) (hk : kkd s = 2) : cG 30 [0, 65535] s = some (some (l2x (vlu s), stp s)) := by
  have hv := RL_vl hR.1 (.inr hk)
  have hk2 := RL_kk hR.1
  have hr := kd_num (hk2.symm.trans hk)
  rw [cG_59]
  unfold cM59
  rw [if_neg (fun q => q hk), if_neg (by omega), if_neg (by omega)]
theorem l2x_n {v : Int} (h : 0 ≤ v ∧ v ≤ 65535) : l2x v = v := by
  unfold l2x
  rw [Int64.toInt_toInt32, i64_to (by omega) (by omega)]
  exact Int.bmod_eq_of_le (by omega) (by omega)
theorem EM_post {s3 t3 : tab} (h : EMx g s t s2 t2) (h0 : 0 ≤ t2 177 1) (hp : PWx s2 t2 s3 t3) (h5 : s2 137 5 ≤ s3 137 5) : EMx g s t s3 t3 := by
  obtain ⟨m1, m2, m3, m4, m5, m6⟩ := h
  obtain ⟨p1, p2, p3, p4⟩ := hp
  have hb := (CO_rt m1 (by omega)).2.1
  have hl := (CO_le m1).2.2 (by omega)
  refine ⟨?_, ?_, PF_tr m3 p1, by omega, by omega, p4.trans m6⟩
  · rw [p2, p3]
    exact EM_up m1 hb (by omega) (fun q => absurd q (by omega)) p1
  · rw [p2]
    exact (p1.1.2 104 _ (by omega) (by omega) (by omega)).trans m2
/-- subscripts: [ E ] -/
theorem p_sub (hrc : rle rc rG) (hX : PXx rc) {F : tab → tab} {x : Int} {v : Option (Int × tab)} (hR : REx T n e N g s t) (x0 : 0 ≤ x) (x1 : x ≤ 20) (b0 : 0 ≤ s 131 6) (b1 : s 131 6 ≤ 10 * x + 10) (hk : kkd s = 91) (h : (if x ≠ 20 then bo (rc 4 [] t) fun z39 t39 => bo (rc 22 [0, ipl x 1] t39) fun z40 t40 => if z40 = 0 then some (some (0, t40)) else bo (rc 8 [44] t40) fun z42 t42 => if z42 ≠ 0 then some (some (1, F t42)) else some (some (0, t42)) else some (some (0, t))) = some v) : (∃ t9, v = some (1, F t9) ∧ OEx T n e N g s t (cG 37 [x] s) (some (1, t9))) ∨ ∃ t9, v = some (0, t9) ∧ OEx T n e N g s t (cG 37 [x] s) (some (0, t9)) := by
  rw [cG_64]
  unfold cM64
  by_cases c3 : x ≠ 20
  · rw [if_pos c3, ipl_e (by omega)] at h
    rw [if_neg (by omega)]
    obtain ⟨t2, a1, a2, a3, a4, a5⟩ := RE_step hR (by omega) (by omega)
    have pst := PF_stp hR.1 (by omega) (by omega) a1
    have h := bxr hrc a1 h
    try dsimp only at h
    have b6 : (stp s) 131 6 = s 131 6 := a3.2.1
    rcases bo_inv h with ⟨h9, _⟩ | ⟨z6, t6, h9, h⟩
    · obtain ⟨z, t3, e1, _⟩ := p_Ex hX a2 (by omega) (by omega) (by omega) (by omega) h9
      cases e1
    · obtain ⟨z, t3, e1, e2⟩ := p_Ex hX a2 (by omega) (by omega) (by omega) (by omega) h9
      cases e1
      rcases e2 with ⟨rfl, s4, f1, f2, f3, f4, f5, f6⟩ | ⟨rfl, f1⟩
      · rw [if_neg (by decide)] at h
        rw [f1, bo_s]
        rcases RE_take f2 is_44 (by decide) with ⟨t7, c1, c2, c3, c4, c5, c6, c7⟩ | ⟨c1, c2, c3⟩
        · have pt := PF_take f2 is_44 (by decide) c2 c1
          have h := bxr hrc c1 h
          try dsimp only at h
          rw [if_pos (by decide)] at h
          cases h
          refine .inl ⟨t7, rfl, 1, t7, rfl, .inl ⟨rfl, stp s4, by rw [c3, bo_s, pt.2.1], c4, FEc_tr a3 (FEc_tr f3 c5), FEr_tr a4 (FEr_tr f4 c6), by omega, EM_pre (EM_post f6 f2.2.2.2.1.2.2.1 pt (by omega)) pst (by omega)⟩⟩
        · have h := bxr hrc c1 h
          try dsimp only at h
          rw [if_neg (by decide)] at h
          cases h
          exact .inr ⟨_, rfl, OE_no (by rw [c3, bo_n])⟩
      · rw [if_pos rfl] at h
        cases h
        exact .inr ⟨_, rfl, OE_no (by rw [f1, bo_n])⟩
  · rw [if_neg c3] at h
    cases h
    exact .inr ⟨_, rfl, OE_no (if_pos (by omega))⟩
/-- atom(..) -/
theorem p_A (hrc : rle rc rG) (hX : PXx rc) (hI : PIx rc) : ∀ (T : Nat → Int) (n e N : Nat) (g : Gtt) (s t : tab) (x : Int) (v : Option (Int × tab)), REx T n e N g s t → 0 ≤ x → x ≤ 20 → 0 ≤ s 131 6 → s 131 6 ≤ 10 * x + 10 → kkd s ≠ 33 → kkd s ≠ 45 → kkd s ≠ 126 → rM146 rc x t = some v → OEx T n e N g s t (cG 41 [x] s) v := by
  intro T n e N g s t x v hR x0 x1 b0 b1 u1 u2 u3 h
  have hk4 := RL_k4 hR.1
  rw [cG_58]
  unfold cM58
  unfold rM146 at h
  by_cases k2 : kkd s = 2
  · rw [if_pos k2, c_num hR k2, bo_s]
    rw [if_neg (fun q => q (by rw [hk4, k2]; rfl))] at h
    obtain ⟨u1, u2, u3, u4, u5, u6, u7⟩ := hR.2.2.2.1
    have hin0 := RL_in hR.1
    have hv7 : t 170 7 = vlu s := by
      rw [RL_vl hR.1 (.inr k2)]
      exact hR.1.2.2.2.2.2.2.2.2 (by rw [← RL_kk hR.1]; exact k2)
    have hr7 := kd_num (T := T) (n := n) (p := pls T n (s 137 5).toNat) (by rw [← RL_kk hR.1]; exact k2)
    rw [← RL_vl hR.1 (.inr k2)] at hr7
    obtain ⟨cw, cw1, cw2, cw3⟩ := pt3_cw (t := t) 2 (t 170 7) (by omega)
    obtain ⟨t2, a1, a2, a3, a4, a5, a6, a7, a8, a9, a10⟩ := RE_wst hR cw (by omega) (by omega) (by omega)
    have h := bxr hrc a1 h
    try dsimp only at h
    cases h
    have e6 := a3.2.1
    obtain ⟨s5, hs5⟩ : ∃ s5, s5 = cad (stp s) 2 (l2x (vlu s)) (-1) (-1) := ⟨_, rfl⟩
    obtain ⟨d1, d2, ⟨d3, d4, d5, d6, d7⟩, d8, d9, d10, d11⟩ := RE_cad a2 (by omega) hs5 (by omega)
    have e5 := d8 137 5 (by omega) (by omega)
    have hx : s5 99 12 - 1 = s 99 12 := by omega
    rw [a7] at d3 d4 d7
    rw [d1, ← hs5]
    refine ⟨1, t2, rfl, .inl ⟨rfl, s5, by rw [hx, a7], d9, FEc_tr a3 d10, a4, by omega, ?_, by rw [hx]; exact d7, PF_tr a6 d11, by omega, by omega, a9⟩⟩
    rw [hx]
    refine CO_mk (.inl ⟨rfl, by omega, by omega, by omega, cxt_au, cx_new u7 u1 (by omega) rfl, .inl ⟨d3, rfl, by omega, ?_, ?_, ?_⟩⟩)
    · rw [a10]; exact cw1
    · rw [a10]; exact cw2
    · rw [a10, cw3, d4, hv7, l2x_n hr7]
  · rw [if_neg k2, if_neg u1]
    rw [if_pos (fun q => k2 (rkn_3 (hk4.symm.trans q)))] at h
    have h := bxr hrc (RL_is is_22 hR.1) h
    try dsimp only at h
    by_cases k40 : kkd s = 40
    · rw [if_pos k40]
      rw [if_pos k40, if_neg (by decide)] at h
      by_cases c3 : x ≠ 20
      · rw [if_pos c3, ipl_e (by omega)] at h
        rw [if_neg (by omega)]
        obtain ⟨t2, a1, a2, a3, a4, a5⟩ := RE_step hR (by omega) (by omega)
        have pst := PF_stp hR.1 (by omega) (by omega) a1
        have h := bxr hrc a1 h
        try dsimp only at h
        have b6 : (stp s) 131 6 = s 131 6 := a3.2.1
        rcases bo_inv h with ⟨h9, _⟩ | ⟨z6, t6, h9, h⟩
        · obtain ⟨z, t3, e1, _⟩ := p_Ex hX a2 (by omega) (by omega) (by omega) (by omega) h9
          cases e1
        · obtain ⟨z, t3, e1, e2⟩ := p_Ex hX a2 (by omega) (by omega) (by omega) (by omega) h9
          cases e1
          rcases e2 with ⟨rfl, s4, f1, f2, f3, f4, f5, f6⟩ | ⟨rfl, f1⟩
          · rw [if_neg (by decide)] at h
            rw [f1, bo_s]
            rcases RE_take f2 is_24 (by decide) with ⟨t7, c1, c2, c3, c4, c5, c6, c7⟩ | ⟨c1, c2, c3⟩
            · have pt := PF_take f2 is_24 (by decide) c2 c1
              have h := bxr hrc c1 h
              try dsimp only at h
              rw [if_neg (by decide)] at h
              cases h
              exact ⟨1, t7, rfl, .inl ⟨rfl, stp s4, by rw [c3, bo_s, pt.2.1], c4, FEc_tr a3 (FEc_tr f3 c5), FEr_tr a4 (FEr_tr f4 c6), by omega, EM_pre (EM_post f6 f2.2.2.2.1.2.2.1 pt (by omega)) pst (by omega)⟩⟩
            · have h := bxr hrc c1 h
              try dsimp only at h
              rw [if_pos rfl] at h
              cases h
              exact OE_no (by rw [c3, bo_n])
          · rw [if_pos rfl] at h
            cases h
            exact OE_no (by rw [f1, bo_n])
      · rw [if_neg c3] at h
        cases h
        exact OE_no (if_pos (by omega))
    · rw [if_neg k40, if_neg u2, if_neg u3]
      rw [if_neg k40, if_pos rfl] at h
      by_cases k1 : kkd s = 1
      · rw [if_pos (by rw [hk4, k1]; rfl)] at h
        obtain ⟨w1, w2, w3⟩ := RE_name hR k1
        have h := bxr hrc w1 h
        try dsimp only at h
        obtain ⟨k, hkd⟩ : ∃ k, k = fdn s (vlu s) 0 := ⟨_, rfl⟩
        have hme := c_mean k1
        rw [← hkd] at h w2 w3 hme
        rw [cG_60]
        unfold cM60
        rw [hme]
        by_cases c0 : k < 0
        · rw [if_pos c0] at h
          cases h
          rw [if_pos c0]
          exact OE_no rfl
        · rw [if_neg c0] at h
          rw [if_neg c0, bo_s]
          obtain ⟨n1, n2, n3, n4, n5, n6, n7, _⟩ := RS_nm hR.2.1 (show 0 ≤ k by omega) w2
          have h := bxr hrc (RL_beh hR.1 (by omega) (by omega) (c := 91) (by decide)) h
          try dsimp only at h
          obtain ⟨t2, a1, a2, a3, a4, a5⟩ := RE_step hR (by omega) (by omega)
          have pst := PF_stp hR.1 (by omega) (by omega) a1
          obtain ⟨u1, u2, u3, u4, u5, u6, u7⟩ := hR.2.2.2.1
          have hin0 := RL_in hR.1
          have ps1 := pst.2.1
          have ps2 := pst.2.2.1
          have ps3 := pst.2.2.2
          have m1 : t2 174 k.toNat = nkd s k := (a4 174 _ (by omega)).trans n1
          have m2 : t2 175 k.toNat = nnm s k := (a4 175 _ (by omega)).trans n2
          by_cases k91 : kkd (stp s) = 91
          · rw [if_pos k91, if_neg (by decide)] at h
            rw [if_neg (fun q => q k91)]
            rw [n1] at h
            by_cases d1 : nkd s k = 1
            · rw [if_pos d1, if_pos (by omega)] at h
              rw [if_neg (fun q => q d1)]
              have h := bxr hrc a1 h
              try dsimp only at h
              rw [m1, m2, if_neg (fun q => q d1), if_pos (by omega)] at h
              obtain ⟨t3, ht3⟩ : ∃ t3, t3 = prt t2 := ⟨_, rfl⟩
              obtain ⟨cw, cw1⟩ := prt_cw (t := t2) (by omega)
              rw [← ht3] at cw cw1 h
              have et := cw.1
              obtain ⟨r1, r2, r3, r4⟩ := RE_cw a2 cw (by omega)
              rw [← CW_k (k := 170) (j := 23) cw (by omega)] at h
              obtain ⟨b1', b2', b3'⟩ := RE_used r1 (lsl 1 (ipl 24 (nnm s k))) (fun v q => by
                have hl6 := hR.2.1.2.1 1 (by omega)
                have h6 : LIM 1 = 6 := rfl
                have n6' : nnm s k < s 109 1 := by rw [d1] at n6; exact n6
                rw [ipl_e (by omega)] at q
                have := (mbt_l (by omega)).mp q
                have e1 : (stp s) 109 1 = s 109 1 := a3.1 109 1 (by omega) (by omega) (by omega)
                exact ⟨fun w => by omega, fun _ => by rw [e1]; omega⟩)
              have pnu := PN_used (s := stp s) (t := t3) (lsl 1 (ipl 24 (nnm s k)))
              have hk9 : kkd (up2 (stp s) 131 7 (lo ((stp s) 131 7) (lsl 1 (ipl 24 (nnm s k))))) = 91 := by
                rw [← k91]
                unfold kkd
                rfl
              have hb6 : (up2 (stp s) 131 7 (lo ((stp s) 131 7) (lsl 1 (ipl 24 (nnm s k))))) 131 6 = s 131 6 := b2'.2.1.trans a3.2.1
              have hl6 := hR.2.1.2.1 1 (by omega)
              have h6 : LIM 1 = 6 := rfl
              have n6' : nnm s k < s 109 1 := by rw [d1] at n6; exact n6
              have hmb : mbt ((up2 t3 170 23 (lo (t3 170 23) (lsl 1 (ipl 24 (nnm s k))))) 170 23) (24 + (nnm s k).toNat) := by
                rw [up_self]
                refine mbt_lo.mpr (.inr ?_)
                rw [ipl_e (by omega)]
                exact (mbt_l (by omega)).mpr (by omega)
              obtain ⟨s4, hs4⟩ : ∃ s4, s4 = up2 (stp s) 131 7 (lo ((stp s) 131 7) (lsl 1 (ipl 24 (nnm s k)))) := ⟨_, rfl⟩
              obtain ⟨t4, ht4⟩ : ∃ t4, t4 = up2 t3 170 23 (lo (t3 170 23) (lsl 1 (ipl 24 (nnm s k)))) := ⟨_, rfl⟩
              rw [← hs4] at b1' b2' pnu hk9 hb6 ⊢
              rw [← ht4] at b1' b3' pnu hmb h
              have e45 : s4 137 5 = s 137 5 + 1 := by rw [hs4, ← a5]; exact if_neg (by omega)
              rcases p_sub (F := fun t9 => pt2 t9 4 (t9 175 k.toNat)) hrc hX b1' x0 x1 (by rw [hb6]; exact b0) (by rw [hb6]; exact b1) hk9 h with ⟨t9, rfl, z, t9', e1, e2⟩ | ⟨t9, rfl, z, t9', e1, e2⟩
              · cases e1
                rcases e2 with ⟨_, s9, q1, q2, q3, q4, q5, q6⟩ | ⟨q1, _⟩
                · obtain ⟨m1', m2', m3', m4', m5', m6'⟩ := q6
                  obtain ⟨y1, y2, y3, y4, y5, y6, y7⟩ := q2.2.2.2.1
                  have hin9 := RL_in q2.1
                  have e175 : t9 175 k.toNat = nnm s k := (q4 175 _ (by omega)).trans ((b3' 175 _ (by omega)).trans ((r2 175 _ (by omega)).trans m2))
                  have p2 := pnu.2.1
                  have p3 := pnu.2.2.1
                  have p4 := pnu.2.2.2
                  have c6 := q3.2.1
                  obtain ⟨t8, ht8⟩ : ∃ t8, t8 = pt2 t9 4 (nnm s k) := ⟨_, rfl⟩
                  obtain ⟨cx, cx1, cx2⟩ := pt2_cw (t := t9) 4 (nnm s k) (by omega)
                  rw [← ht8] at cx cx1 cx2
                  have ex := cx.1
                  obtain ⟨j1, j2, j3, j4⟩ := RE_cw q2 cx (by omega)
                  obtain ⟨s8, hs8⟩ : ∃ s8, s8 = cad s9 401 (nnm s k) (s9 99 12 - 1) (-1) := ⟨_, rfl⟩
                  obtain ⟨f1, f2, ⟨f3, f4, f5, f6, f7⟩, f8, f9, f10, f11⟩ := RE_cad j1 (by omega) hs8 (by omega)
                  have e85 := f8 137 5 (by omega) (by omega)
                  have pf8 : PFx s9 t9 s8 t8 := PF_tr j3 f11
                  have hx : s8 99 12 - 1 = s9 99 12 := by omega
                  have hco := CO_le m1'
                  refine ⟨1, t8, by rw [ht8, ← e175], .inl ⟨rfl, s8, ?_, f9, FEc_tr a3 (FEc_tr b2' (FEc_tr q3 f10)), FEr_tr a4 (FEr_tr r2 (FEr_tr b3' (FEr_tr q4 j2))), by omega, ?_, by rw [hx]; exact f7, PF_tr pst.1 (PF_tr r3 (PF_tr pnu.1 (PF_tr m3' pf8))), by omega, by omega, by omega⟩⟩
                  · rw [q1, bo_s, f1, ← hs8, hx]
                    rfl
                  · rw [hx]
                    have k1' := EM_up m1' (by omega) (by omega) (fun q => absurd q (by omega)) pf8
                    rw [show (s4 99 12).toNat = (s 99 12).toNat by omega, show (t4 177 1).toNat = (t 177 1).toNat + 1 by omega] at k1'
                    refine CO_mk (.inl ⟨rfl, by omega, by omega, by omega, cxt_au, cx_new y7 y1 (by omega) rfl, .inr (.inr (.inl ⟨f3, ?_, ⟨(t9 177 1).toNat, ?_, cx1, cx2.trans f4.symm, by omega⟩, by omega, by omega, ?_⟩))⟩)
                    · rw [pf8.2.1.2 _ (by omega), m3'.2.1.2 _ (by omega), pnu.1.2.1.2 _ (by omega), ← cw1, pst.2.2.1]
                    · rw [f5]
                      exact k1'
                    · rw [f4]
                      exact .inl (pf8.2.2.2.1 23 (by omega) (by omega) _ (m3'.2.2.2.1 23 (by omega) (by omega) _ hmb))
                · exact absurd q1 (by decide)
              · cases e1
                rcases e2 with ⟨q1, _⟩ | ⟨_, q2⟩
                · exact absurd q1 (by decide)
                · exact OE_no (by rw [q2, bo_n]; rfl)
            · rw [if_neg d1] at h
              cases h
              rw [if_pos d1]
              exact OE_no rfl
          · rw [if_neg k91, if_pos rfl] at h
            rw [if_pos k91]
            have h := bxr hrc (RL_beh hR.1 (by omega) (by omega) (c := 40) (by decide)) h
            try dsimp only at h
            by_cases k9 : kkd (stp s) = 40
            · rw [if_pos k9, if_neg (by decide)] at h
              rw [if_neg (fun q => q k9)]
              rw [n1] at h
              by_cases d1 : nkd s k = 6
              · rw [if_pos d1, n2, ← hR.2.1.2.2.2.1] at h
                rw [if_neg (fun q => q d1)]
                have e13 : (stp s) 131 13 = s 131 13 := a3.1 131 13 (by omega) (by omega) (by omega)
                rw [e13]
                by_cases d2 : nnm s k ≠ s 131 13
                · rw [if_pos d2] at h
                  rw [if_neg d2]
                  have d3 : nnm s k < s 109 5 := by rw [d1] at n6; exact n6
                  rcases bo_inv h with ⟨h9, _⟩ | ⟨z6, t6, h9, h⟩
                  · obtain ⟨z, t3, e1, _⟩ := hI T n e N g s t k x _ hR x0 x1 b0 b1 (by omega) w2 d3 d2 d1 k1 k9 h9
                    cases e1
                  · cases h
                    obtain ⟨z, t9, e1, e2⟩ := hI T n e N g s t k x _ hR x0 x1 b0 b1 (by omega) w2 d3 d2 d1 k1 k9 h9
                    refine ⟨z, t9, e1, ?_⟩
                    rcases e2 with ⟨q1, s9, q2, q3⟩ | ⟨q1, q2⟩
                    · refine .inl ⟨q1, s9, ?_, q3⟩
                      by_cases c20 : 20 ≤ x
                      · rw [if_pos c20] at q2
                        cases q2
                      · rw [if_neg c20] at q2 ⊢
                        rw [q2, bo_s, bo_s]
                    · refine .inr ⟨q1, ?_⟩
                      by_cases c20 : 20 ≤ x
                      · rw [if_pos c20]
                        rfl
                      · rw [if_neg c20] at q2 ⊢
                        rw [q2, bo_n, bo_n]
                · rw [if_neg d2] at h
                  cases h
                  rw [if_pos (show nnm s k = s 131 13 by omega)]
                  exact OE_no rfl
              · rw [if_neg d1] at h
                cases h
                rw [if_pos d1]
                exact OE_no rfl
            · rw [if_neg k9, if_pos rfl] at h
              rw [if_pos k9]
              rw [n1] at h
              by_cases d1 : nkd s k = 0
              · rw [if_pos d1, if_pos (by omega)] at h
                rw [if_neg (fun q => q d1)]
                have h := bxr hrc a1 h
                try dsimp only at h
                rw [m1, m2, if_pos (by omega), if_neg (fun q => q d1), ipl_e (by omega), Int.zero_add] at h
                obtain ⟨t3, ht3⟩ : ∃ t3, t3 = prt t2 := ⟨_, rfl⟩
                obtain ⟨cw, cw1⟩ := prt_cw (t := t2) (by omega)
                rw [← ht3] at cw cw1 h
                have et := cw.1
                obtain ⟨r1, r2, r3, r4⟩ := RE_cw a2 cw (by omega)
                rw [← CW_k (k := 170) (j := 23) cw (by omega)] at h
                obtain ⟨b1', b2', b3'⟩ := RE_used r1 (lsl 1 (nnm s k)) (fun v q => by
                  have hl6 := hR.2.1.2.1 0 (by omega)
                  have h6 : LIM 0 = 24 := rfl
                  have n6' : nnm s k < s 109 0 := by rw [d1] at n6; exact n6
                  have := (mbt_l (by omega)).mp q
                  have e1 : (stp s) 109 0 = s 109 0 := a3.1 109 0 (by omega) (by omega) (by omega)
                  exact ⟨fun _ => by rw [e1]; omega, fun w => by omega⟩)
                have pnu := PN_used (s := stp s) (t := t3) (lsl 1 (nnm s k))
                have hl6 := hR.2.1.2.1 0 (by omega)
                have h6 : LIM 0 = 24 := rfl
                have n6' : nnm s k < s 109 0 := by rw [d1] at n6; exact n6
                have hmb : mbt ((up2 t3 170 23 (lo (t3 170 23) (lsl 1 (nnm s k)))) 170 23) (nnm s k).toNat := by
                  rw [up_self]
                  refine mbt_lo.mpr (.inr ?_)
                  exact (mbt_l (by omega)).mpr (by omega)
                obtain ⟨s4, hs4⟩ : ∃ s4, s4 = up2 (stp s) 131 7 (lo ((stp s) 131 7) (lsl 1 (nnm s k))) := ⟨_, rfl⟩
                obtain ⟨t4, ht4⟩ : ∃ t4, t4 = up2 t3 170 23 (lo (t3 170 23) (lsl 1 (nnm s k))) := ⟨_, rfl⟩
                rw [← hs4] at b1' b2' pnu ⊢
                rw [← ht4] at b1' b3' pnu hmb h
                have e45 : s4 137 5 = s 137 5 + 1 := by rw [hs4, ← a5]; exact if_neg (by omega)
                have p2 := pnu.2.1
                have p3 := pnu.2.2.1
                have p4 := pnu.2.2.2
                have c6 := b2'.2.1
                have c6' := a3.2.1
                obtain ⟨t8, ht8⟩ : ∃ t8, t8 = pt2 t4 3 (nnm s k) := ⟨_, rfl⟩
                obtain ⟨cx, cx1, cx2⟩ := pt2_cw (t := t4) 3 (nnm s k) (by omega)
                rw [← ht8] at cx cx1 cx2 h
                cases h
                have ex := cx.1
                obtain ⟨j1, j2, j3, j4⟩ := RE_cw b1' cx (by omega)
                obtain ⟨s8, hs8⟩ : ∃ s8, s8 = cad s4 400 (nnm s k) (-1) (-1) := ⟨_, rfl⟩
                obtain ⟨f1, f2, ⟨f3, f4, f5, f6, f7⟩, f8, f9, f10, f11⟩ := RE_cad j1 (by omega) hs8 (by omega)
                have e85 := f8 137 5 (by omega) (by omega)
                have pf8 : PFx s4 t4 s8 t8 := PF_tr j3 f11
                have hx : s8 99 12 - 1 = s4 99 12 := by omega
                rw [bo_s, f1, ← hs8]
                refine ⟨1, t8, rfl, .inl ⟨rfl, s8, by rw [hx], f9, FEc_tr a3 (FEc_tr b2' f10), FEr_tr a4 (FEr_tr r2 (FEr_tr b3' j2)), by omega, ?_, by rw [hx]; exact f7, PF_tr pst.1 (PF_tr r3 (PF_tr pnu.1 pf8)), by omega, by omega, by omega⟩⟩
                rw [hx]
                have ea : (s 99 12).toNat = (s4 99 12).toNat := by omega
                have ef : (t4 177 1).toNat = (t 177 1).toNat + 1 := by omega
                refine CO_mk (.inl ⟨rfl, by omega, by omega, by omega, cxt_au, cx_new (by omega) (by omega) (by omega) rfl, .inr (.inl ⟨f3, ea.symm, by omega, ?_, ?_, ?_, by omega, by omega, ?_⟩)⟩)
                · rw [pf8.2.1.2 _ (by omega), pnu.1.2.1.2 _ (by omega), ← cw1, pst.2.2.1]
                · rw [← ef]; exact cx1
                · rw [show (t 177 1).toNat + 2 = (t4 177 1).toNat + 1 by omega]; exact cx2.trans f4.symm
                · rw [f4]
                  exact .inl (pf8.2.2.2.1 23 (by omega) (by omega) _ hmb)
              · rw [if_neg d1] at h
                cases h
                rw [if_pos d1]
                exact OE_no rfl
      · rw [if_neg (fun q => k1 (rkn_1 (hk4.symm.trans q)))] at h
        cases h
        rw [cG_60]
        unfold cM60
        rw [cG_61]
        unfold cM61
        rw [if_pos k1]
        exact OE_no rfl
/-- all of E -/
def PEA (rc : MRq) : Prop := PUx rc ∧ PAx rc ∧ PXx rc ∧ PLx rc ∧ PMx rc ∧ PCLx rc ∧ PCx rc ∧ PIx rc ∧ PJx rc
theorem p_EA (hrc : rle rc rG) (h : PEA rc) : PEA (rB rc) := by
  obtain ⟨hU, hA, hX, hL, hM, hCL, hC, hI, hJ⟩ := h
  refine ⟨?_, ?_, ?_, ?_, ?_, ?_, ?_, ?_, ?_⟩
  · intro T n e N g s t x v a1 a2 a3 a4 a5 h
    exact p_U hrc hU hA T n e N g s t x v a1 a2 a3 a4 a5 h
  · intro T n e N g s t x v a1 a2 a3 a4 a5 a6 a7 a8 h
    exact p_A hrc hX hI T n e N g s t x v a1 a2 a3 a4 a5 a6 a7 a8 h
  · intro T n e N g s t L x b i v a1 a2 a3 a4 a5 a6 a7 a8 a9 a10 a11 h
    exact p_X hU hX hL T n e N g s t L x b i v a1 a2 a3 a4 a5 a6 a7 a8 a9 a10 a11 h
  · intro T n e N g s t L x b w i h m a f v a1 a2 a3 a4 a5 a6 a7 a8 a9 a10 a11 a12 a13 a14 hh
    exact p_L hrc hX hL T n e N g s t L x b w i h m a f v a1 a2 a3 a4 a5 a6 a7 a8 a9 a10 a11 a12 a13 a14 hh
  · intro t i r m k v a1 a2 a3 h
    exact p_M hrc hM t i r m k v a1 a2 a3 h
  · intro T n e N g s0 t0 s t x i r y4 y5 k v a1 a2 a3 a4 a5 a6 a7 a8 a9 a10 a11 h
    exact p_CL hrc hM hX hCL T n e N g s0 t0 s t x i r y4 y5 k v a1 a2 a3 a4 a5 a6 a7 a8 a9 a10 a11 h
  · intro T n e N g s t k x i v a1 a2 a3 a4 a5 a6 a7 a8 a9 a10 a11 a12 h
    exact p_C hrc hCL T n e N g s t k x i v a1 a2 a3 a4 a5 a6 a7 a8 a9 a10 a11 a12 h
  · intro T n e N g s t k x v a1 a2 a3 a4 a5 a6 a7 a8 a9 a10 a11 a12 h
    exact p_I hJ T n e N g s t k x v a1 a2 a3 a4 a5 a6 a7 a8 a9 a10 a11 a12 h
  · intro T n e N g s t k x y v a1 a2 a3 a4 a5 a6 a7 a8 a9 a10 a11 a12 a13 a14 h
    exact p_J hC hJ T n e N g s t k x y v a1 a2 a3 a4 a5 a6 a7 a8 a9 a10 a11 a12 a13 a14 h
theorem it_rG (f : Nat) : rle (it rB f) rG := fun i xs t v h => lim_of rB_k h
theorem p_EA0 : ∀ f, PEA (it rB f)
  | 0 => by unfold PEA PUx PAx PXx PLx PMx PCLx PCx PIx PJx; refine ⟨?_, ?_, ?_, ?_, ?_, ?_, ?_, ?_, ?_⟩ <;> (intros; rename_i h; cases h)
  | f + 1 => p_EA (it_rG f) (p_EA0 f)
end ATOM
