/-! STATEMENTS but par, in both. -/
section STT
variable {T : Nat → Int} {n e N : Nat} {g : Gtt} {s t s2 t2 : tab} {rc : MRq}
theorem RQ_sc (h : RQx T n e N g s t) {m : Int} (m0 : 0 ≤ m) (m1 : m < t 170 16) : RQx T n e N g s (up2 t 170 15 m) := by
  obtain ⟨⟨⟨hT, hx, l3, l4, l5⟩, ⟨⟨a1, a2, a3, a4, a5⟩, b, c, d1, d2⟩, m, v1, v2, v3, v4⟩, p, ⟨c1, c2, c3, c4⟩, q1, q2⟩ := h
  exact ⟨⟨⟨hT, hx, l3, l4, l5⟩, ⟨⟨a1, a2, a3, a4, a5⟩, b, c, d1, d2⟩, m, v1, v2, v3, v4⟩, p, ⟨m0, m1, c3, c4⟩, q1, q2⟩
theorem RQ_rop (h : RQx T n e N g s t) : RQw T n e N g s (rop t) ∧ SCb N (N : Int) (rop t) := by
  have hin := RL_in h.1.1
  obtain ⟨⟨⟨hT, hx, l3, l4, l5⟩, ⟨⟨a1, a2, a3, a4, a5⟩, b, c, d1, d2⟩, m, v1, v2, v3, v4⟩, p, ⟨c1, c2, c3, c4⟩, q1, q2⟩ := h
  have e16 : (rop t) 170 16 = t 170 16 + 1 := by
    show ipl (t 170 16) 1 = _
    exact ipl_e (by omega)
  have e15 : (rop t) 170 15 = t 170 16 := rfl
  refine ⟨⟨⟨⟨hT, hx, l3, l4, l5⟩, ⟨⟨a1, a2, a3, a4, a5⟩, b, c, d1, d2⟩, m, v1, v2, v3, v4⟩, p, ⟨?_, ?_, ?_, fun j hj => ?_⟩, q1, q2⟩, by omega, Int.le_refl _, fun j hj => ?_⟩
  · rw [e15]; omega
  · rw [e15, e16]; omega
  · rw [e16]; omega
  · rw [e16]
    have : 0 ≤ t 176 j ∧ t 176 j < t 170 16 := c4 j hj
    exact ⟨this.1, Int.lt_trans this.2 (by omega)⟩
  · rw [e15]
    have : t 176 j < t 170 16 := (c4 j hj).2
    exact ⟨fun q => absurd q (by have h2 : t 176 j ≠ t 170 16 := by omega
                                 exact h2), fun q => absurd q (by omega)⟩
/-- counters and code change alone -/
theorem RE_cx (h : REx T n e N g s t) (o : ∀ k j, ¬ (k = 177 ∧ (j = 1 ∨ j = 3 ∨ j = 10)) → k ≠ 178 → t2 k j = t k j) (hn : 0 ≤ t2 177 1 ∧ t2 177 1 ≤ 12 * s 137 5 ∧ 0 ≤ t2 177 10 ∧ t2 177 10 ≤ s 137 5) : REx T n e N g s t2 ∧ FEr t t2 := by
  have fr : FEr t t2 := fun k j q => o k j (by omega) (by omega)
  obtain ⟨w1, w2, w3, w4, w5, w6, w7⟩ := h.2.2.2.1
  refine ⟨RE_fr h FEc_rf fr rfl (fun j q1 q2 => o 170 j (by omega) (by omega)) ⟨w1, w2, hn.1, hn.2.1, hn.2.2.1, hn.2.2.2, w7⟩ ⟨rfl, rfl⟩ (MK_e h.2.2.2.2.1 (fun j q1 q2 => o 170 j (by omega) (by omega)) (o 170 37 (by omega) (by omega))) ?_, fr⟩
  · have m := h.2.2.1
    unfold RMk at m ⊢
    rw [o 170 22 (by omega) (by omega), o 170 23 (by omega) (by omega), o 170 24 (by omega) (by omega), o 170 25 (by omega) (by omega), o 170 26 (by omega) (by omega)]
    exact m
/-- code is mended elsewhere -/
theorem CO_pt {md m a b f l k0 k1 q : Nat} {x : Int} (h : CO s t g.2.2.2.1 md m a b x f l k0 k1 q (cxt g s t)) (hmd : md ≤ 3) (o : ∀ k j, ¬ (k = 178 ∧ ¬ (f ≤ j ∧ j < l)) → ¬ (k = 177 ∧ (j = 1 ∨ j = 3 ∨ j = 10)) → t2 k j = t k j) : CO s t2 g.2.2.2.1 md m a b x f l k0 k1 q (cxt g s t2) := by
  rw [cxt_eq (s := s) (t := t) rfl (fun j q1 q2 => o 170 j (by omega) (by omega))]
  exact CO_pat h hmd (fun i q1 q2 => o 178 i (by omega) (by omega))
/-- PFx, code behind it is mended -/
theorem PF_pt {s0 t0 : tab} (h : PFx s0 t0 s t) (h0 : 0 ≤ t0 177 1) (o : ∀ k j, ¬ (k = 178 ∧ (t0 177 1).toNat ≤ j) → ¬ (k = 177 ∧ (j = 1 ∨ j = 3 ∨ j = 10)) → t2 k j = t k j) (h1 : t0 177 1 ≤ t2 177 1) (h10 : t0 177 10 ≤ t2 177 10) : PFx s0 t0 s t2 := by
  obtain ⟨a1, ⟨a2, a3⟩, a4, a5, a6, a7⟩ := h
  refine ⟨a1, ⟨h1, fun j q => (o 178 j (by omega) (by omega)).trans (a3 j q)⟩, h10, fun j q1 q2 v w => by rw [o 170 j (by omega) (by omega)]; exact a5 j q1 q2 v w, fun q => a6 (by rw [← o 170 21 (by omega) (by omega)]; exact q), a7⟩
theorem ptz_e (h : 0 ≤ t 177 1 ∧ t 177 1 ≤ 100000) : ptz t = t 177 1 := by
  unfold ptz
  rw [ipl_e (by omega), imi_e (by omega)]
  omega
/-- parts and code of ( E ) behind a word -/
def CDx (g : Gtt) (s t s2 t2 : tab) : Prop := CO s2 t2 g.2.2.2.1 0 0 (s 99 12).toNat (s2 99 12).toNat (s2 99 12 - 1) ((t 177 1).toNat + 1) (t2 177 1).toNat 0 0 0 (cxt g s2 t2) ∧ t2 178 (t 177 1).toNat = 0 ∧ PFx s t s2 t2 ∧ (s 99 12 < s2 99 12 ∧ t 177 1 < t2 177 1 ∧ s2 99 12 + s 137 5 + 2 ≤ s 99 12 + s2 137 5 ∧ t2 177 1 + 12 * (s 137 5 + 2) ≤ t 177 1 + 1 + 12 * s2 137 5 ∧ t2 177 10 = t 177 10)
/-- ( E ) -/
theorem p_cond (hrc : rle rc rG) (hX : PXx rc) {x : Int} {K : Int → tab → RO} {v : Option (Int × tab)} (hR : REx T n e N g s t) (x0 : 1 ≤ x) (x1 : x ≤ 20) (p0 : s 131 6 = 0) (h3 : kkd s ≠ 3) (h4 : kkd s ≠ 4) (h : (bo (rc 4 [] (prt t)) fun _ t2 => bo (rc 8 [22] t2) fun z3 t3 => if z3 = 0 then some (some (0, t3)) else bo (rc 22 [0, ipl (x - 1) 1] t3) fun z6 t6 => if z6 = 0 then some (some (0, t6)) else bo (rc 8 [24] t6) fun z8 t8 => if z8 ≠ 0 then K (t2 177 1) t8 else some (some (0, t8))) = some v) : (∃ s2 t2, cG 38 [x] s = some (some (s2 99 12 - 1, s2)) ∧ REx T n e N g s2 t2 ∧ FEc s s2 ∧ FEr t t2 ∧ s 137 5 < s2 137 5 ∧ K (t 177 1 + 1) t2 = some v ∧ CDx g s t s2 t2) ∨ ((∃ t9, v = some (0, t9)) ∧ cG 38 [x] s = some none) := by
  have ex : ipl (x - 1) 1 = x := by rw [ipl_e (by omega)]; omega
  rw [ex] at h
  have hc : cG 38 [x] s = bo (cG 29 [40] (stp s)) fun _ s2 => bo (cG 40 [x] s2) fun z s3 => bo (cG 29 [41] s3) fun _ s4 => some (some (z, s4)) := by
    rw [cG_56]
    rfl
  rw [hc]
  obtain ⟨u1, u2, u3, u4, u5, u6, u7⟩ := hR.2.2.2.1
  have hin0 := RL_in hR.1
  obtain ⟨cw0, cw00⟩ := prt_cw (t := t) (by omega)
  obtain ⟨t2, a1, a2, a3, a4, a5, a6, a7, a8, a9, a10⟩ := RE_wst hR cw0 (by omega) h3 h4
  have h := bxr hrc a1 h
  try dsimp only at h
  rw [show t2 177 1 = t 177 1 + 1 from a8] at h
  rcases RE_take a2 is_22 (by decide) with ⟨t3, b1, b2, b3, b4, b5, b6, b7⟩ | ⟨b1, b2, b3⟩
  · have pt1 := PF_take a2 is_22 (by decide) b2 b1
    have h := bxr hrc b1 h
    try dsimp only at h
    rw [if_neg (by decide)] at h
    rw [b3, bo_s]
    have q6 : (stp (stp s)) 131 6 = 0 := by rw [b5.2.1, a3.2.1]; exact p0
    rcases bo_inv h with ⟨h9, _⟩ | ⟨z6, t6, h9, h⟩
    · obtain ⟨z, t9, w1, _⟩ := p_Ex hX b4 (by omega) x1 (by omega) (by omega) h9
      cases w1
    · obtain ⟨z, t9, w1, w2⟩ := p_Ex hX b4 (by omega) x1 (by omega) (by omega) h9
      cases w1
      rcases w2 with ⟨rfl, s4, f1, f2, f3, f4, f5, f6⟩ | ⟨rfl, f1⟩
      · rw [if_neg (by decide)] at h
        rw [f1, bo_s]
        rcases RE_take f2 is_24 (by decide) with ⟨t7, c1, c2, c3, c4, c5, c6, c7⟩ | ⟨c1, c2, c3⟩
        · have pt2 := PF_take f2 is_24 (by decide) c2 c1
          obtain ⟨m1, m2, m3, m4, m5, m6⟩ := EM_post f6 f2.2.2.2.1.2.2.1 pt2 (by omega)
          have h := bxr hrc c1 h
          try dsimp only at h
          rw [if_pos (by decide)] at h
          have e1 := pt1.2.1
          have e2 := pt1.2.2.1
          have e3 := pt1.2.2.2
          have hco := CO_le m1
          have hlt := hco.2.2 (by omega)
          refine .inl ⟨stp s4, t7, ?_, c4, FEc_tr a3 (FEc_tr b5 (FEc_tr f3 c5)), FEr_tr a4 (FEr_tr b6 (FEr_tr f4 c6)), by omega, h, ?_, ?_, PF_tr a6 (PF_tr pt1.1 m3), by omega, by have := m3.2.1.1; omega, by omega, by omega, by omega⟩
          · rw [c3, bo_s, pt2.2.1]
          · rw [show (s 99 12).toNat = ((stp (stp s)) 99 12).toNat by omega, show (t 177 1).toNat + 1 = (t3 177 1).toNat by omega]
            exact m1
          · rw [m3.2.1.2 _ (by omega), pt1.1.2.1.2 _ (by omega), a10]
            exact cw00
        · have h := bxr hrc c1 h
          try dsimp only at h
          rw [if_neg (by decide)] at h
          cases h
          refine .inr ⟨⟨_, rfl⟩, ?_⟩
          rw [c3]
          rfl
      · rw [if_pos rfl] at h
        cases h
        refine .inr ⟨⟨_, rfl⟩, ?_⟩
        rw [f1]
        rfl
  · have h := bxr hrc b1 h
    try dsimp only at h
    rw [if_pos rfl] at h
    cases h
    refine .inr ⟨⟨_, rfl⟩, ?_⟩
    rw [b3]
    rfl
/-- a STATEMENT inside -/
theorem p_stm (hS : PSx rc) {x : Int} {K : tab → RO} {v : Option (Int × tab)} (hQ : RQx T n e N g s t) (x0 : 1 ≤ x) (x1 : x ≤ 20) (p0 : s 131 6 = 0) (h : (bo (rc 29 [ipl (x - 1) 1] t) fun z t2 => if z ≠ 0 then K t2 else some (some (0, t2))) = some v) : (∃ s2 t2, cG 46 [x + 1] s = some (some (s2 99 12 - 1, s2)) ∧ RQx T n e N g s2 t2 ∧ FSc s s2 ∧ FSr N t t2 ∧ s 137 5 < s2 137 5 ∧ K t2 = some v ∧ ESx g s t s2 t2) ∨ ((∃ t9, v = some (0, t9)) ∧ cG 46 [x + 1] s = some none) := by
  have ex : ipl (x - 1) 1 = x + 1 - 1 := by rw [ipl_e (by omega)]; omega
  rw [ex] at h
  rcases bo_inv h with ⟨h9, _⟩ | ⟨z6, t6, h9, h⟩
  · obtain ⟨z, t9, w1, _⟩ := hS T n e N g s t (x + 1) _ hQ (by omega) (by omega) p0 h9
    cases w1
  · obtain ⟨z, t9, w1, w2⟩ := hS T n e N g s t (x + 1) _ hQ (by omega) (by omega) p0 h9
    cases w1
    rcases w2 with ⟨rfl, s4, f1, f2, f3, f4, f5, f6⟩ | ⟨rfl, f1⟩
    · rw [if_pos (by decide)] at h
      exact .inl ⟨s4, t6, f1, f2, f3, f4, f5, h, f6⟩
    · rw [if_neg (by decide)] at h
      cases h
      exact .inr ⟨⟨_, rfl⟩, f1⟩
def P143 (rc : MRq) : Prop := ∀ (T : Nat → Int) (n e N : Nat) (g : Gtt) (s t : tab) (x : Int) (v : Option (Int × tab)), RQx T n e N g s t → 1 ≤ x → x ≤ 20 → s 131 6 = 0 → kkd s = 308 → rc 30 [x - 1] t = some v → OSx T n e N g s t (cG 47 [x] s) v
theorem p_143 (hrc : rle rc rG) (hX : PXx rc) (hS : PSx rc) : ∀ (T : Nat → Int) (n e N : Nat) (g : Gtt) (s t : tab) (x : Int) (v : Option (Int × tab)), RQx T n e N g s t → 1 ≤ x → x ≤ 20 → s 131 6 = 0 → kkd s = 308 → rM143 rc (x - 1) t = some v → OSx T n e N g s t (cG 47 [x] s) v := by
  intro T n e N g s t x v hQ x0 x1 p0 hk h
  unfold rM143 at h
  have hc : cG 47 [x] s = bo (cG 38 [x] s) fun z1 s1 => bo (cG 46 [x + 1] s1) fun z3 s2 => if kkd s2 ≠ 309 then some (some (cadz s2, cad s2 308 z1 z3 (-1))) else bo (cG 46 [x + 1] (stp s2)) fun z9 s7 => some (some (cadz s7, cad s7 308 z1 z3 z9)) := by
    rw [cG_55]
    unfold cM55
    rw [ipl_e (by omega)]
  rw [hc]
  obtain ⟨u1, u2, u3, u4, u5, u6, u7⟩ := hQ.1.2.2.2.1
  rcases p_cond (K := fun _ t8 => bo (rc 29 [ipl (x - 1) 1] (pt1 (pt1 t8 10) 0)) fun z13 t13 => if z13 ≠ 0 then bo (rc 5 [80] t13) fun z15 t15 => if z15 = 0 then some (some (1, up2 t13 178 ((ptz (pt1 t8 10)).toNat) (t13 177 1))) else bo (rc 4 [] t13) fun z21 t21 => bo (rc 29 [ipl (x - 1) 1] (up2 (pt1 (pt1 t21 9) 0) 178 ((ptz (pt1 t8 10)).toNat) ((pt1 (pt1 t21 9) 0) 177 1))) fun z29 t29 => if z29 ≠ 0 then some (some (1, up2 t29 178 ((ptz (pt1 t21 9)).toNat) (t29 177 1))) else some (some (0, t29)) else some (some (0, t13))) hrc hX hQ.1 x0 x1 p0 (by omega) (by omega) h with ⟨s2, t2, a1, a2, a3, a4, a5, h, q1, q2, q3, q4, q5, q6, q7, q8⟩ | ⟨⟨t9, rfl⟩, a1⟩
  · have hQ2 := RQ_E hQ a2 a3 a4
    rw [a1, bo_s]
    have hin2 := RL_in a2.1
    obtain ⟨v1, v2, v3, v4, v5, v6, v7⟩ := a2.2.2.2.1
    obtain ⟨c1, c2, c3⟩ := pt2_cw (t := t2) 10 0 (by omega)
    have hp1 := (pt1_cw (t := t2) 10 (by omega)).1.1
    have hpz : ptz (pt1 t2 10) = t2 177 1 + 1 := by rw [ptz_e (by omega)]; omega
    try dsimp only at h
    rw [hpz] at h
    obtain ⟨t3, ht3⟩ : ∃ t3, t3 = pt2 t2 10 0 := ⟨_, rfl⟩
    rw [← ht3] at c1 c2 c3
    rw [show pt1 (pt1 t2 10) 0 = t3 by rw [ht3]; rfl] at h
    have e3 := c1.1
    have a36 := a3.2.1
    obtain ⟨r1, r2, r3, r4⟩ := RE_cw a2 c1 (by omega)
    have hQ3 := RQ_E hQ2 r1 FEc_rf r2
    rcases p_stm hS hQ3 x0 x1 (by omega) h with ⟨s3, t4, b1, b2, b3, b4, b5, h, j1, j2, j3, j4, ⟨j5, j6, j7⟩, j8⟩ | ⟨⟨t9, rfl⟩, b1⟩
    · rw [b1, bo_s]
      have fc : FSc s s3 := FSc_tr (FSc_E a3) b3
      have fr : FSr N t t4 := FSr_tr (FSr_E a4) (FSr_tr (FSr_E r2) b4)
      have h := bxr hrc (RL_is is_80 b2.1.1) h
      try dsimp only at h
      obtain ⟨w1, w2, w3, w4, w5, w6, w7⟩ := b2.1.2.2.2.1
      have hin3 := RL_in b2.1.1
      have b36 := fc.2.2.2.2.1
      have pfb := j4.2.1.1
      have ep : (t2 177 1 + 1).toNat = (t2 177 1).toNat + 1 := by omega
      rw [ep] at h
      have pf2 : PFx s2 t2 s3 t4 := PF_tr r3 j4
      have fb2 : FBx s t s3 t4 := FB_tr (FB_E a3 a4) (FB_tr (FB_E FEc_rf r2) j8)
      by_cases k1 : kkd s3 = 309
      · rw [if_pos k1, if_neg (by decide)] at h
        rw [if_neg (fun q => q k1)]
        obtain ⟨t5, d1, d2, d3, d4, d5⟩ := RE_step b2.1 (by omega) (by omega)
        have pst := PF_stp b2.1.1 (by omega) (by omega) d1
        have ps1 := pst.2.1
        have ps2 := pst.2.2.1
        have ps3 := pst.2.2.2
        have hQ4 := RQ_E b2 d2 d3 d4
        have h := bxr hrc d1 h
        try dsimp only at h
        obtain ⟨g1, g2, g3⟩ := pt2_cw (t := t5) 9 0 (by omega)
        have hp5 := (pt1_cw (t := t5) 9 (by omega)).1.1
        have hpz5 : ptz (pt1 t5 9) = t5 177 1 + 1 := by rw [ptz_e (by omega)]; omega
        rw [hpz5] at h
        obtain ⟨t6, ht6⟩ : ∃ t6, t6 = pt2 t5 9 0 := ⟨_, rfl⟩
        rw [← ht6] at g1 g2 g3
        rw [show pt1 (pt1 t5 9) 0 = t6 by rw [ht6]; rfl] at h
        have e6 := g1.1
        have ep5 : (t5 177 1 + 1).toNat = (t5 177 1).toNat + 1 := by omega
        rw [ep5] at h
        obtain ⟨x1', x2, x3, x4⟩ := RE_cw d2 g1 (by omega)
        obtain ⟨t7, ht7⟩ : ∃ t7, t7 = up2 t6 178 ((t2 177 1).toNat + 1) (t6 177 1) := ⟨_, rfl⟩
        rw [← ht7] at h
        have o7 : ∀ k j, ¬ (k = 178 ∧ j = (t2 177 1).toNat + 1) → t7 k j = t6 k j := fun k j q => by rw [ht7]; exact if_neg q
        have o7f : t7 178 ((t2 177 1).toNat + 1) = t6 177 1 := by rw [ht7]; exact up_self
        obtain ⟨y1, y2⟩ := RE_pat (t2 := t7) x1' (fun k j q1 q2 => o7 k j (by omega))
        have hQ7 := RQ_E (RQ_E hQ4 x1' FEc_rf x2) y1 FEc_rf y2
        have p7 : (stp s3) 131 6 = 0 := by rw [d3.2.1, b36]; exact p0
        have e71 : t7 177 1 = t6 177 1 := o7 177 1 (by omega)
        have e710 : t7 177 10 = t6 177 10 := o7 177 10 (by omega)
        rcases p_stm (K := fun t29 => some (some (1, up2 t29 178 ((t5 177 1).toNat + 1) (t29 177 1)))) hS hQ7 x0 x1 p7 h with ⟨s6, t8, l1, l2, l3, l4, l5, h, i1, i2, i3, i4, ⟨i5, i6, i7⟩, i8⟩ | ⟨⟨t9, rfl⟩, l1⟩
        · cases h
          rw [l1, bo_s]
          have ib := i4.2.1.1
          obtain ⟨t9, ht9⟩ : ∃ t9, t9 = up2 t8 178 ((t5 177 1).toNat + 1) (t8 177 1) := ⟨_, rfl⟩
          rw [← ht9]
          have o9 : ∀ k j, ¬ (k = 178 ∧ j = (t5 177 1).toNat + 1) → t9 k j = t8 k j := fun k j q => by rw [ht9]; exact if_neg q
          have o9f : t9 178 ((t5 177 1).toNat + 1) = t8 177 1 := by rw [ht9]; exact up_self
          have e91 : t9 177 1 = t8 177 1 := o9 177 1 (by omega)
          have e910 : t9 177 10 = t8 177 10 := o9 177 10 (by omega)
          have e921 : t9 170 21 = t8 170 21 := o9 170 21 (by omega)
          obtain ⟨y3, y4⟩ := RE_pat (t2 := t9) l2.1 (fun k j q1 q2 => o9 k j (by omega))
          have hQ9 := RQ_E l2 y3 FEc_rf y4
          have l36 := l3.2.2.2.2.1
          have hin6 := RL_in l2.1.1
          obtain ⟨s7, hs7⟩ : ∃ s7, s7 = cad s6 308 (s2 99 12 - 1) (s3 99 12 - 1) (s6 99 12 - 1) := ⟨_, rfl⟩
          obtain ⟨m1, m2, ⟨m3, m4, m5, m6, m7⟩, m8, m9, m10, m11⟩ := RE_cad y3 (by omega) hs7 (by omega)
          have e75 := m8 137 5 (by omega) (by omega)
          have hx : s7 99 12 - 1 = s6 99 12 := by omega
          have jb := j4.1.1
          have ibp := i4.1.1
          have pfA : PFx s t (stp s3) t6 := PF_tr q3 (PF_tr pf2 (PF_tr pst.1 x3))
          have pfB : PFx s t (stp s3) t7 := PF_pat pfA u3 (fun k j z1 z2 => o7 k j (by omega))
          have pfC : PFx s t s6 t9 := PF_pat (PF_tr pfB i4) u3 (fun k j z1 z2 => o9 k j (by omega))
          have pfD : PFx s2 t2 (stp s3) t6 := PF_tr pf2 (PF_tr pst.1 x3)
          have pfE : PFx s2 t2 (stp s3) t7 := PF_pat pfD v3 (fun k j z1 z2 => o7 k j (by omega))
          have pfF : PFx s2 t2 s6 t9 := PF_pat (PF_tr pfE i4) v3 (fun k j z1 z2 => o9 k j (by omega))
          have fb9 : FBx s t s7 t9 := FB_tr fb2 (FB_tr (FB_E d3 d4) (FB_tr (FB_E FEc_rf x2) (FB_tr (FB_E FEc_rf y2) (FB_tr i8 (FB_tr (FB_E FEc_rf y4) (FB_E m10 FEr_rf))))))
          refine ⟨1, t9, rfl, .inl ⟨rfl, s7, by rw [m1, ← hs7, hx], RQ_E hQ9 m9 m10 FEr_rf, FSc_tr fc (FSc_tr (FSc_E d3) (FSc_tr l3 (FSc_E m10))), FSr_tr fr (FSr_tr (FSr_E d4) (FSr_tr (FSr_E x2) (FSr_tr (FSr_E y2) (FSr_tr l4 (FSr_E y4))))), by omega, fun q => ?_, by omega, by rw [hx]; exact m7, PF_tr pfC m11, ⟨by omega, by omega, by omega⟩, fb9⟩⟩
          rw [hx]
          rw [e921] at q
          have qC := i1 q
          have q7 : t7 170 21 = -1 := i4.2.2.2.2.1 q
          have q4 : t4 170 21 = -1 := by
            have : t7 170 21 = t6 170 21 := o7 170 21 (by omega)
            exact (PF_tr pst.1 x3).2.2.2.2.1 (by rw [← this]; exact q7)
          have qB := j1 q4
          have lB := CO_le qB
          have lC := CO_le qC
          have kA := EM_up q1 (by omega) (by omega) (fun q => absurd q (by omega)) (PF_tr pfF m11)
          have kB1 := EM_up qB (by omega) (by omega) (fun q => absurd q (by omega)) (PF_tr pst.1 x3)
          have kB2 := CO_pt (t2 := t7) kB1 (by omega) (fun k j z1 z2 => o7 k j (by omega))
          have kB3 := EM_up kB2 (by omega) (by omega) (fun q => absurd q (by omega)) i4
          have kB4 := CO_pt (t2 := t9) kB3 (by omega) (fun k j z1 z2 => o9 k j (by omega))
          have kB := EM_up kB4 (by omega) (by omega) (fun q => absurd q (by omega)) m11
          have kC1 := CO_pt (t2 := t9) qC (by omega) (fun k j z1 z2 => o9 k j (by omega))
          have kC := EM_up kC1 (by omega) (by omega) (fun q => absurd q (by omega)) m11
          have f10 : t9 178 (t2 177 1).toNat = 10 := by
            rw [o9 178 _ (by omega), i4.2.1.2 _ (by omega), o7 178 _ (by omega), g1.2 178 _ (by omega) (by omega), pst.1.2.1.2 _ (by omega), j4.2.1.2 _ (by omega)]
            exact c2
          have f11 : t9 178 ((t2 177 1).toNat + 1) = t6 177 1 := by
            rw [o9 178 _ (by omega), i4.2.1.2 _ (by omega)]
            exact o7f
          have f12 : t9 178 (t5 177 1).toNat = 9 := by
            rw [o9 178 _ (by omega), i4.2.1.2 _ (by omega), o7 178 _ (by omega)]
            exact g2
          refine CO_mk (.inr (.inl ⟨rfl, by omega, by omega, by omega, cxt_au, .inl ⟨by omega, by omega⟩, .inr (.inr (.inr (.inr (.inr (.inr (.inr (.inr (.inl ⟨m3, ?_, (s2 99 12).toNat, (t2 177 1).toNat, (t5 177 1).toNat, by rw [m4]; exact kA, f10, .inr ⟨(s3 99 12).toNat, (t4 177 10).toNat, ?_, ?_, f12, ?_, ?_⟩⟩))))))))⟩))
          · rw [pfF.2.1.2 _ (by omega)]
            exact q2
          · rw [m5, show (t2 177 1).toNat + 2 = (t3 177 1).toNat by omega, show (t5 177 1).toNat = (t4 177 1).toNat by omega, show (t 177 10).toNat = (t3 177 10).toNat by omega]
            exact kB
          · rw [m6, show (t5 177 1).toNat + 2 = (t7 177 1).toNat by omega, show (t4 177 10).toNat = (t7 177 10).toNat by omega, show (s3 99 12).toNat = ((stp s3) 99 12).toNat by omega, e91, e910]
            exact kC
          · rw [o9f, e91]
            omega
          · rw [f11]
            omega
        · refine OS_no ?_
          rw [l1]
          rfl
      · rw [if_neg k1, if_pos rfl] at h
        rw [if_pos k1]
        cases h
        obtain ⟨t5, ht5⟩ : ∃ t5, t5 = up2 t4 178 ((t2 177 1).toNat + 1) (t4 177 1) := ⟨_, rfl⟩
        rw [← ht5]
        have o5 : ∀ k j, ¬ (k = 178 ∧ j = (t2 177 1).toNat + 1) → t5 k j = t4 k j := fun k j q => by rw [ht5]; exact if_neg q
        have o5f : t5 178 ((t2 177 1).toNat + 1) = t4 177 1 := by rw [ht5]; exact up_self
        have e51 : t5 177 1 = t4 177 1 := o5 177 1 (by omega)
        have e510 : t5 177 10 = t4 177 10 := o5 177 10 (by omega)
        have e521 : t5 170 21 = t4 170 21 := o5 170 21 (by omega)
        obtain ⟨y3, y4⟩ := RE_pat (t2 := t5) b2.1 (fun k j q1 q2 => o5 k j (by omega))
        have hQ5 := RQ_E b2 y3 FEc_rf y4
        obtain ⟨s7, hs7⟩ : ∃ s7, s7 = cad s3 308 (s2 99 12 - 1) (s3 99 12 - 1) (-1) := ⟨_, rfl⟩
        obtain ⟨m1, m2, ⟨m3, m4, m5, m6, m7⟩, m8, m9, m10, m11⟩ := RE_cad y3 (by omega) hs7 (by omega)
        have e75 := m8 137 5 (by omega) (by omega)
        have hx : s7 99 12 - 1 = s3 99 12 := by omega
        have jb := j4.1.1
        have pfC : PFx s t s3 t5 := PF_pat (PF_tr q3 pf2) u3 (fun k j z1 z2 => o5 k j (by omega))
        have pfF : PFx s2 t2 s3 t5 := PF_pat pf2 v3 (fun k j z1 z2 => o5 k j (by omega))
        refine ⟨1, t5, rfl, .inl ⟨rfl, s7, by rw [m1, ← hs7, hx], RQ_E hQ5 m9 m10 FEr_rf, FSc_tr fc (FSc_E m10), FSr_tr fr (FSr_E y4), by omega, fun q => ?_, by omega, by rw [hx]; exact m7, PF_tr pfC m11, ⟨by omega, by omega, by omega⟩, FB_tr fb2 (FB_tr (FB_E FEc_rf y4) (FB_E m10 FEr_rf))⟩⟩
        rw [hx]
        rw [e521] at q
        have qB := j1 q
        have lB := CO_le qB
        have kA := EM_up q1 (by omega) (by omega) (fun q => absurd q (by omega)) (PF_tr pfF m11)
        have kB1 := CO_pt (t2 := t5) qB (by omega) (fun k j z1 z2 => o5 k j (by omega))
        have kB := EM_up kB1 (by omega) (by omega) (fun q => absurd q (by omega)) m11
        have f10 : t5 178 (t2 177 1).toNat = 10 := by
          rw [o5 178 _ (by omega), j4.2.1.2 _ (by omega)]
          exact c2
        refine CO_mk (.inr (.inl ⟨rfl, by omega, by omega, by omega, cxt_au, .inl ⟨by omega, by omega⟩, .inr (.inr (.inr (.inr (.inr (.inr (.inr (.inr (.inl ⟨m3, ?_, (s2 99 12).toNat, (t2 177 1).toNat, (t4 177 1).toNat, by rw [m4]; exact kA, f10, .inl ⟨m6, ?_, ?_, by omega⟩⟩))))))))⟩))
        · rw [pfF.2.1.2 _ (by omega)]
          exact q2
        · rw [m5, show (t2 177 1).toNat + 2 = (t3 177 1).toNat by omega, show (t 177 10).toNat = (t3 177 10).toNat by omega, e510]
          exact kB
        · rw [o5f]
          omega
    · refine OS_no ?_
      rw [b1]
      rfl
  · refine OS_no ?_
    rw [a1]
    rfl
end STT
