/-! STATEMENTS but par, in both. -/
section STT
variable {T : Nat → Int} {n e N : Nat} {g : Int × Int × Int} {s t s2 t2 : tab} {rc : MRq}
theorem RQ_sc (h : RQx T n e N g s t) {m : Int} (m0 : 0 ≤ m) (m1 : m < t 170 16) : RQx T n e N g s (up2 t 170 15 m) := by
  obtain ⟨⟨⟨hT, hx, l3, l4, l5⟩, ⟨⟨a1, a2, a3, a4, a5⟩, b, c, d1, d2⟩, m⟩, p, ⟨c1, c2, c3, c4⟩, q1, q2⟩ := h
  exact ⟨⟨⟨hT, hx, l3, l4, l5⟩, ⟨⟨a1, a2, a3, a4, a5⟩, b, c, d1, d2⟩, m⟩, p, ⟨m0, m1, c3, c4⟩, q1, q2⟩
theorem RQ_rop (h : RQx T n e N g s t) : RQw T n e N g s (rop t) ∧ SCb N (N : Int) (rop t) := by
  have hin := RL_in h.1.1
  obtain ⟨⟨⟨hT, hx, l3, l4, l5⟩, ⟨⟨a1, a2, a3, a4, a5⟩, b, c, d1, d2⟩, m⟩, p, ⟨c1, c2, c3, c4⟩, q1, q2⟩ := h
  have e16 : (rop t) 170 16 = t 170 16 + 1 := by
    show ipl (t 170 16) 1 = _
    exact ipl_e (by omega)
  have e15 : (rop t) 170 15 = t 170 16 := rfl
  refine ⟨⟨⟨⟨hT, hx, l3, l4, l5⟩, ⟨⟨a1, a2, a3, a4, a5⟩, b, c, d1, d2⟩, m⟩, p, ⟨?_, ?_, ?_, fun j hj => ?_⟩, q1, q2⟩, by omega, Int.le_refl _, fun j hj => ?_⟩
  · rw [e15]; omega
  · rw [e15, e16]; omega
  · rw [e16]; omega
  · rw [e16]
    have : 0 ≤ t 176 j ∧ t 176 j < t 170 16 := c4 j hj
    exact ⟨this.1, Int.lt_trans this.2 (by omega)⟩
  · rw [e15]
    have : t 176 j < t 170 16 := (c4 j hj).2
    exact ⟨fun q => absurd q (by have h2 : t 176 j ≠ t 170 16 := by omega
                                 exact h2), fun q => absurd q (by omega)⟩
/-- ( E ) -/
theorem p_cond (hrc : rle rc rG) (hX : PXx rc) {x : Int} {K : tab → RO} {v : Option (Int × tab)} (hR : REx T n e N g s t) (x0 : 1 ≤ x) (x1 : x ≤ 20) (p0 : s 131 6 = 0) (h3 : kkd s ≠ 3) (h4 : kkd s ≠ 4) (h : (bo (rc 4 [] t) fun _ t2 => bo (rc 8 [22] t2) fun z3 t3 => if z3 = 0 then some (some (0, t3)) else bo (rc 22 [0, ipl (x - 1) 1] t3) fun z6 t6 => if z6 = 0 then some (some (0, t6)) else bo (rc 8 [24] t6) fun z8 t8 => if z8 ≠ 0 then K t8 else some (some (0, t8))) = some v) : (∃ s2 t2, cG 38 [x] s = some (some (0, s2)) ∧ REx T n e N g s2 t2 ∧ FEc s s2 ∧ FEr t t2 ∧ s 137 5 < s2 137 5 ∧ K t2 = some v) ∨ ((∃ t9, v = some (0, t9)) ∧ cG 38 [x] s = some none) := by
  have ex : ipl (x - 1) 1 = x := by rw [ipl_e (by omega)]; omega
  rw [ex] at h
  have hc : cG 38 [x] s = bo (cG 29 [40] (stp s)) fun _ s2 => bo (cG 40 [x] s2) fun _ s3 => bo (cG 29 [41] s3) fun _ s4 => some (some (0, s4)) := by
    rw [cG_56]
    rfl
  rw [hc]
  obtain ⟨t2, a1, a2, a3, a4, a5⟩ := RE_step hR h3 h4
  have h := bxr hrc a1 h
  try dsimp only at h
  rcases RE_take a2 is_22 (by decide) with ⟨t3, b1, b2, b3, b4, b5, b6, b7⟩ | ⟨b1, b2, b3⟩
  · have h := bxr hrc b1 h
    try dsimp only at h
    rw [if_neg (by decide)] at h
    rw [b3, bo_s]
    have q6 : (stp (stp s)) 131 6 = 0 := by rw [b5.2.1, a3.2.1]; exact p0
    rcases bo_inv h with ⟨h9, _⟩ | ⟨z6, t6, h9, h⟩
    · obtain ⟨z, t9, w1, _⟩ := p_Ex hX b4 (by omega) x1 (by omega) (by omega) h9
      cases w1
    · obtain ⟨z, t9, w1, w2⟩ := p_Ex hX b4 (by omega) x1 (by omega) (by omega) h9
      cases w1
      rcases w2 with ⟨rfl, s4, f1, f2, f3, f4, f5⟩ | ⟨rfl, f1⟩
      · rw [if_neg (by decide)] at h
        rw [f1, bo_s]
        rcases RE_take f2 is_24 (by decide) with ⟨t7, c1, c2, c3, c4, c5, c6, c7⟩ | ⟨c1, c2, c3⟩
        · have h := bxr hrc c1 h
          try dsimp only at h
          rw [if_pos (by decide)] at h
          refine .inl ⟨stp s4, t7, ?_, c4, FEc_tr a3 (FEc_tr b5 (FEc_tr f3 c5)), FEr_tr a4 (FEr_tr b6 (FEr_tr f4 c6)), by omega, h⟩
          rw [c3, bo_s]
        · have h := bxr hrc c1 h
          try dsimp only at h
          rw [if_neg (by decide)] at h
          cases h
          refine .inr ⟨⟨_, rfl⟩, ?_⟩
          rw [c3]
          rfl
      · rw [if_pos rfl] at h
        cases h
        refine .inr ⟨⟨_, rfl⟩, ?_⟩
        rw [f1]
        rfl
  · have h := bxr hrc b1 h
    try dsimp only at h
    rw [if_pos rfl] at h
    cases h
    refine .inr ⟨⟨_, rfl⟩, ?_⟩
    rw [b3]
    rfl
/-- a STATEMENT inside -/
theorem p_stm (hS : PSx rc) {x : Int} {K : tab → RO} {v : Option (Int × tab)} (hQ : RQx T n e N g s t) (x0 : 1 ≤ x) (x1 : x ≤ 20) (p0 : s 131 6 = 0) (h : (bo (rc 29 [ipl (x - 1) 1] t) fun z t2 => if z ≠ 0 then K t2 else some (some (0, t2))) = some v) : (∃ s2 t2, cG 46 [x + 1] s = some (some (0, s2)) ∧ RQx T n e N g s2 t2 ∧ FSc s s2 ∧ FSr N t t2 ∧ s 137 5 < s2 137 5 ∧ K t2 = some v) ∨ ((∃ t9, v = some (0, t9)) ∧ cG 46 [x + 1] s = some none) := by
  have ex : ipl (x - 1) 1 = x + 1 - 1 := by rw [ipl_e (by omega)]; omega
  rw [ex] at h
  rcases bo_inv h with ⟨h9, _⟩ | ⟨z6, t6, h9, h⟩
  · obtain ⟨z, t9, w1, _⟩ := hS T n e N g s t (x + 1) _ hQ (by omega) (by omega) p0 h9
    cases w1
  · obtain ⟨z, t9, w1, w2⟩ := hS T n e N g s t (x + 1) _ hQ (by omega) (by omega) p0 h9
    cases w1
    rcases w2 with ⟨rfl, s4, f1, f2, f3, f4, f5⟩ | ⟨rfl, f1⟩
    · rw [if_pos (by decide)] at h
      exact .inl ⟨s4, t6, f1, f2, f3, f4, f5, h⟩
    · rw [if_neg (by decide)] at h
      cases h
      exact .inr ⟨⟨_, rfl⟩, f1⟩
def P143 (rc : MRq) : Prop := ∀ (T : Nat → Int) (n e N : Nat) (g : Int × Int × Int) (s t : tab) (x : Int) (v : Option (Int × tab)), RQx T n e N g s t → 1 ≤ x → x ≤ 20 → s 131 6 = 0 → kkd s = 308 → rc 30 [x - 1] t = some v → OSx T n e N g s t (cG 47 [x] s) v
theorem p_143 (hrc : rle rc rG) (hX : PXx rc) (hS : PSx rc) : ∀ (T : Nat → Int) (n e N : Nat) (g : Int × Int × Int) (s t : tab) (x : Int) (v : Option (Int × tab)), RQx T n e N g s t → 1 ≤ x → x ≤ 20 → s 131 6 = 0 → kkd s = 308 → rM143 rc (x - 1) t = some v → OSx T n e N g s t (cG 47 [x] s) v := by
  intro T n e N g s t x v hQ x0 x1 p0 hk h
  unfold rM143 at h
  have hc : cG 47 [x] s = bo (cG 38 [x] s) fun _ s1 => bo (cG 46 [x + 1] s1) fun _ s2 => if kkd s2 ≠ 309 then some (some (0, s2)) else bo (cG 46 [x + 1] (stp s2)) fun _ s7 => some (some (0, s7)) := by
    rw [cG_55]
    unfold cM55
    rw [ipl_e (by omega)]
  rw [hc]
  rcases p_cond hrc hX hQ.1 x0 x1 p0 (by omega) (by omega) h with ⟨s2, t2, a1, a2, a3, a4, a5, h⟩ | ⟨⟨t9, rfl⟩, a1⟩
  · have hQ2 := RQ_E hQ a2 a3 a4
    rw [a1, bo_s]
    rcases p_stm hS hQ2 x0 x1 (by rw [a3.2.1]; exact p0) h with ⟨s3, t3, b1, b2, b3, b4, b5, h⟩ | ⟨⟨t9, rfl⟩, b1⟩
    · rw [b1, bo_s]
      have fc : FSc s s3 := FSc_tr (FSc_E a3) b3
      have fr : FSr N t t3 := FSr_tr (FSr_E a4) b4
      have h := bxr hrc (RL_is is_80 b2.1.1) h
      try dsimp only at h
      by_cases k1 : kkd s3 = 309
      · rw [if_pos k1, if_neg (by decide)] at h
        rw [if_neg (fun q => q k1)]
        obtain ⟨t4, c1, c2, c3, c4, c5⟩ := RE_step b2.1 (by omega) (by omega)
        have hQ4 := RQ_E b2 c2 c3 c4
        have h := bxr hrc c1 h
        try dsimp only at h
        have p4 : (stp s3) 131 6 = 0 := by rw [c3.2.1, fc.2.2.2.2.1]; exact p0
        rcases p_stm (K := fun t => some (some (1, t))) hS hQ4 x0 x1 p4 h with ⟨s5, t5, d1, d2, d3, d4, d5, h⟩ | ⟨⟨t9, rfl⟩, d1⟩
        · cases h
          refine ⟨1, _, rfl, .inl ⟨rfl, s5, ?_, d2, FSc_tr fc (FSc_tr (FSc_E c3) d3), FSr_tr fr (FSr_tr (FSr_E c4) d4), by omega⟩⟩
          rw [d1, bo_s]
        · refine OS_no ?_
          rw [d1]
          rfl
      · rw [if_neg k1, if_pos rfl] at h
        rw [if_pos k1]
        cases h
        exact ⟨1, _, rfl, .inl ⟨rfl, s3, rfl, b2, fc, fr, by omega⟩⟩
    · refine OS_no ?_
      rw [b1]
      rfl
  · refine OS_no ?_
    rw [a1]
    rfl
def P153 (rc : MRq) : Prop := ∀ (T : Nat → Int) (n e N : Nat) (g : Int × Int × Int) (s t : tab) (x : Int) (v : Option (Int × tab)), RQx T n e N g s t → 1 ≤ x → x ≤ 20 → s 131 6 = 0 → kkd s = 310 → rc 31 [x - 1] t = some v → OSx T n e N g s t (bo (cG 38 [x] s) fun _ s1 => bo (cG 46 [x + 1] s1) fun _ s2 => some (some (0, s2))) v
theorem p_153 (hrc : rle rc rG) (hX : PXx rc) (hS : PSx rc) : ∀ (T : Nat → Int) (n e N : Nat) (g : Int × Int × Int) (s t : tab) (x : Int) (v : Option (Int × tab)), RQx T n e N g s t → 1 ≤ x → x ≤ 20 → s 131 6 = 0 → kkd s = 310 → rM153 rc (x - 1) t = some v → OSx T n e N g s t (bo (cG 38 [x] s) fun _ s1 => bo (cG 46 [x + 1] s1) fun _ s2 => some (some (0, s2))) v := by
  intro T n e N g s t x v hQ x0 x1 p0 hk h
  unfold rM153 at h
  rcases p_cond hrc hX hQ.1 x0 x1 p0 (by omega) (by omega) h with ⟨s2, t2, a1, a2, a3, a4, a5, h⟩ | ⟨⟨t9, rfl⟩, a1⟩
  · have hQ2 := RQ_E hQ a2 a3 a4
    rw [a1, bo_s]
    rcases p_stm (K := fun t => some (some (1, t))) hS hQ2 x0 x1 (by rw [a3.2.1]; exact p0) h with ⟨s3, t3, b1, b2, b3, b4, b5, h⟩ | ⟨⟨t9, rfl⟩, b1⟩
    · cases h
      refine ⟨1, _, rfl, .inl ⟨rfl, s3, ?_, b2, FSc_tr (FSc_E a3) b3, FSr_tr (FSr_E a4) b4, by omega⟩⟩
      rw [b1, bo_s]
    · refine OS_no ?_
      rw [b1]
      rfl
  · refine OS_no ?_
    rw [a1]
    rfl
def P154 (rc : MRq) : Prop := ∀ (T : Nat → Int) (n e N : Nat) (g : Int × Int × Int) (s t : tab) (x : Int) (v : Option (Int × tab)), RQx T n e N g s t → 1 ≤ x → x ≤ 20 → s 131 6 = 0 → kkd s = 311 → rc 32 [x - 1] t = some v → OSx T n e N g s t (bo (cG 30 [0, 65535] (stp s)) fun _ s1 => bo (cG 46 [x + 1] s1) fun _ s2 => some (some (0, s2))) v
theorem p_154 (hrc : rle rc rG) (hS : PSx rc) : ∀ (T : Nat → Int) (n e N : Nat) (g : Int × Int × Int) (s t : tab) (x : Int) (v : Option (Int × tab)), RQx T n e N g s t → 1 ≤ x → x ≤ 20 → s 131 6 = 0 → kkd s = 311 → rM154 rc (x - 1) t = some v → OSx T n e N g s t (bo (cG 30 [0, 65535] (stp s)) fun _ s1 => bo (cG 46 [x + 1] s1) fun _ s2 => some (some (0, s2))) v := by
  intro T n e N g s t x v hQ x0 x1 p0 hk h
  unfold rM154 at h
  obtain ⟨t2, a1, a2, a3, a4, a5⟩ := RE_step hQ.1 (by omega) (by omega)
  have hQ2 := RQ_E hQ a2 a3 a4
  have h := bxr hrc a1 h
  try dsimp only at h
  have k4 := RL_k4 a2.1
  by_cases k2 : kkd (stp s) = 2
  · rw [if_pos (show t2 170 4 = 3 by rw [k4, k2]; decide)] at h
    rw [c_num a2 k2, bo_s]
    obtain ⟨t3, c1, c2, c3, c4, c5⟩ := RE_step a2 (by omega) (by omega)
    have hQ3 := RQ_E hQ2 c2 c3 c4
    have h := bxr hrc c1 h
    try dsimp only at h
    have p4 : (stp (stp s)) 131 6 = 0 := by rw [c3.2.1, a3.2.1]; exact p0
    rcases p_stm (K := fun t => some (some (1, t))) hS hQ3 x0 x1 p4 h with ⟨s5, t5, d1, d2, d3, d4, d5, h⟩ | ⟨⟨t9, rfl⟩, d1⟩
    · cases h
      refine ⟨1, _, rfl, .inl ⟨rfl, s5, ?_, d2, FSc_tr (FSc_E a3) (FSc_tr (FSc_E c3) d3), FSr_tr (FSr_E a4) (FSr_tr (FSr_E c4) d4), by omega⟩⟩
      rw [d1, bo_s]
    · refine OS_no ?_
      rw [d1]
      rfl
  · rw [if_neg (show ¬ t2 170 4 = 3 from fun q => k2 (rkn_3 (k4.symm.trans q)))] at h
    cases h
    refine OS_no ?_
    rw [cG_59]
    unfold cM59
    rw [if_pos k2]
    rfl
def PPx (rc : MRq) : Prop := ∀ (T : Nat → Int) (n e N : Nat) (g : Int × Int × Int) (s t : tab) (x : Int) (v : Option (Int × tab)), RQx T n e N g s t → 1 ≤ x → x ≤ 20 → s 131 6 = 0 → kkd s = 312 → rc 33 [x - 1] t = some v → OSx T n e N g s t (cG 48 [x] s) v
theorem bo_same {X : RO} (hX : X = some none ∨ ∃ s2, X = some (some (0, s2))) : (bo X fun _ s2 => some (some (0, s2))) = X := by
  rcases hX with hX | ⟨s2, hX⟩ <;> rw [hX] <;> rfl
theorem OS_bo {X : RO} {v : Option (Int × tab)} (h : OSx T n e N g s t X v) : OSx T n e N g s t (bo X fun _ s2 => some (some (0, s2))) v := by
  obtain ⟨z, t2, e1, h⟩ := h
  rw [bo_same]
  · exact ⟨z, t2, e1, h⟩
  · rcases h with ⟨h1, s2, h2, _⟩ | ⟨h1, h2⟩
    · exact .inr ⟨s2, h2⟩
    · exact .inl h2
theorem vbo {X : RO} {v : Option (Int × tab)} (h : (bo X fun z t2 => some (some (z, t2))) = some v) : X = some v := by
  rcases bo_inv h with ⟨a, b⟩ | ⟨z, t2, a, b⟩
  · rw [a, b]
  · rw [a]
    exact b
/-- statement(..) -/
theorem p_Sx (hrc : rle rc rG) (hB : PBx rc) (h3 : P143 rc) (h13 : P153 rc) (h14 : P154 rc) (hP : PPx rc) (hN : PNx rc) : ∀ (T : Nat → Int) (n e N : Nat) (g : Int × Int × Int) (s t : tab) (x : Int) (v : Option (Int × tab)), RQx T n e N g s t → 1 ≤ x → x ≤ 21 → s 131 6 = 0 → rM141 rc (x - 1) t = some v → OSx T n e N g s t (cG 46 [x] s) v := by
  intro T n e N g s t x v hQ x0 x1 p0 h
  have hL := hQ.1.1
  rw [cG_52]
  unfold rM141 at h
  unfold cM52
  by_cases x2 : x = 21
  · rw [if_neg (by omega)] at h
    rw [if_pos (by omega)]
    cases h
    exact OS_no rfl
  rw [if_pos (by omega)] at h
  rw [if_neg (by omega)]
  have h := bxr hrc (RL_is is_28 hL) h
  try dsimp only at h
  by_cases k1 : kkd s = 123
  · rw [if_pos k1, if_neg (by decide)] at h
    rw [if_pos k1]
    have ex : ipl (x - 1) 1 = x := by rw [ipl_e (by omega)]; omega
    rw [ex] at h
    obtain ⟨r1, r2⟩ := RQ_rop hQ
    have e3 : s 105 3 = (N : Int) := hQ.1.2.1.1.1
    rw [e3]
    rcases bo_inv h with ⟨h9, _⟩ | ⟨z6, t6, h9, h⟩
    · obtain ⟨z, t9, w1, _⟩ := hB T n e N g s (rop t) x (N : Int) _ r1 r2 (by omega) (by omega) p0 h9
      cases w1
    · obtain ⟨z, t9, w1, w2⟩ := hB T n e N g s (rop t) x (N : Int) _ r1 r2 (by omega) (by omega) p0 h9
      cases w1
      rcases w2 with ⟨rfl, M, s5, t5, f1, f2, f3, f4, f5, f6, f7⟩ | ⟨rfl, f1⟩
      · rw [if_pos (by decide)] at h
        cases h
        rw [f1, bo_s, f2]
        have g15 : t5 170 15 = t 170 16 := f6.1
        have g37 : t5 170 37 = t 170 37 := f6.2.2.2.2.1
        have c1 := hQ.2.2.1.1
        have c2 := hQ.2.2.1.2.1
        have q2 := hQ.2.2.2.2
        have c5 := f4.2.2.1.2.1
        have hcut := RQ_cut f4 f3 (fun q => by rw [f5.2.2.2.1]; exact (q2 (by rw [← g37]; exact q)).1)
        refine ⟨1, _, rfl, .inl ⟨rfl, ncu s5 (N : Int), rfl, RQ_sc hcut c1 (by show t 170 15 < t5 170 16; omega), ?_, ⟨up_self, f6.2.1, f6.2.2.1, f6.2.2.2.1, f6.2.2.2.2.1, f6.2.2.2.2.2.1, f6.2.2.2.2.2.2⟩, ?_⟩⟩
        · rw [ncu_e f4.1.2.1.1.1 f3]
          exact f5
        · rw [ncu_e f4.1.2.1.1.1 f3]
          exact f7
      · rw [if_neg (by decide)] at h
        cases h
        refine OS_no ?_
        rw [f1]
        rfl
  rw [if_neg k1, if_pos rfl] at h
  rw [if_neg k1]
  have h := bxr hrc (RL_is is_34 hL) h
  try dsimp only at h
  by_cases k2 : kkd s = 314
  · rw [if_pos k2, if_neg (by decide)] at h
    rw [if_neg (show ¬ kkd s = 308 by omega), if_neg (show ¬ kkd s = 310 by omega), if_neg (show ¬ kkd s = 311 by omega), if_neg (show ¬ kkd s = 312 by omega), if_pos k2]
    obtain ⟨t2, a1, a2, a3, a4, a5⟩ := RE_step hQ.1 (by omega) (by omega)
    have h := bxr hrc a1 h
    exact OS_E hQ (OE_pre (p_last hrc a2 h) a3 a4)
  rw [if_neg k2, if_pos rfl] at h
  have h := bxr hrc (RL_is is_36 hL) h
  try dsimp only at h
  by_cases k3 : kkd s = 308
  · rw [if_pos k3, if_neg (by decide)] at h
    rw [if_pos k3]
    exact OS_bo (h3 T n e N g s t x v hQ x0 (by omega) p0 k3 (vbo h))
  rw [if_neg k3, if_pos rfl] at h
  rw [if_neg k3]
  have h := bxr hrc (RL_is is_82 hL) h
  try dsimp only at h
  by_cases k4 : kkd s = 310
  · rw [if_pos k4, if_neg (by decide)] at h
    rw [if_pos k4]
    exact h13 T n e N g s t x v hQ x0 (by omega) p0 k4 (vbo h)
  rw [if_neg k4, if_pos rfl] at h
  rw [if_neg k4]
  have h := bxr hrc (RL_is is_84 hL) h
  try dsimp only at h
  by_cases k5 : kkd s = 311
  · rw [if_pos k5, if_neg (by decide)] at h
    rw [if_pos k5]
    exact h14 T n e N g s t x v hQ x0 (by omega) p0 k5 (vbo h)
  rw [if_neg k5, if_pos rfl] at h
  rw [if_neg k5]
  have h := bxr hrc (RL_is is_86 hL) h
  try dsimp only at h
  by_cases k6 : kkd s = 312
  · rw [if_pos k6, if_neg (by decide)] at h
    rw [if_pos k6]
    exact OS_bo (hP T n e N g s t x v hQ x0 (by omega) p0 k6 (vbo h))
  rw [if_neg k6, if_pos rfl] at h
  rw [if_neg k6, if_neg k2]
  have hk4 := RL_k4 hL
  by_cases k7 : kkd s = 1
  · rw [if_neg (show ¬ t 170 4 ≠ 1 by rw [hk4, k7]; decide)] at h
    exact OS_bo (OS_E hQ (hN T n e N g s t x v hQ.1 x0 (by omega) (by omega) (by omega) k7 (vbo h)))
  · rw [if_pos (show t 170 4 ≠ 1 from fun q => k7 (rkn_1 (hk4.symm.trans q)))] at h
    cases h
    refine OS_no ?_
    rw [cG_71]
    unfold cM71
    rw [cG_61]
    unfold cM61
    rw [if_pos k7]
    rfl
end STT
