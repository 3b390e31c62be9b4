/-! The body of a fun, in both. -/
section BODYX
variable {T : Nat → Int} {n e N : Nat} {g : Int × Int × Int} {s t s2 t2 : tab} {rc : MRq}
/-- how a body ends: N names at its beginning -/
def OYx (T : Nat → Int) (n e N : Nat) (g : Int × Int × Int) (b : Int) (s t : tab) (X : RO) (v : Option (Int × tab)) : Prop := ∃ z t2, v = some (z, t2) ∧ ((z = 1 ∧ ∃ M s5, X = some (some (0, ncu s5 b)) ∧ N ≤ M ∧ RQx T n e M g s5 t2 ∧ FSc s s5 ∧ FSr N t t2 ∧ s 137 5 < s5 137 5) ∨ (z = 0 ∧ X = some none))
theorem OY_no {b : Int} {X : RO} {t9 : tab} (h : X = some none) : OYx T n e N g b s t X (some (0, t9)) := ⟨0, t9, rfl, .inr ⟨rfl, h⟩⟩
theorem OY_pre {M : Nat} {s0 t0 : tab} {b : Int} {X : RO} {v : Option (Int × tab)} (h : OYx T n e M g b s t X v) (hM : N ≤ M) (hc : FSc s0 s) (hr : FSr N t0 t) : OYx T n e N g b s0 t0 X v := by
  obtain ⟨z, t2, e1, h⟩ := h
  refine ⟨z, t2, e1, ?_⟩
  rcases h with ⟨h1, M5, s5, h2, h4, h5, h6, h7, h8⟩ | h
  · exact .inl ⟨h1, M5, s5, h2, by omega, h5, FSc_tr hc h6, FSr_tr hr (FSr_le h7 hM), Int.lt_of_le_of_lt hc.2.2.2.2.2 h8⟩
  · exact .inr h
/-- our return E ; } -/
noncomputable def Y3x (b : Int) (s : tab) : RO := bo (cG 29 [313] s) fun _ s5 => bo (cG 40 [0] s5) fun _ s6 => bo (cG 29 [59] s6) fun _ s8 => bo (cG 29 [125] s8) fun _ s9 => some (some (0, ncu s9 b))
noncomputable def Y2x (b m : Int) (s : tab) : RO := bo (cG 68 [313, 0, m] s) fun _ s3 => Y3x b s3
def P44 (rc : MRq) : Prop := ∀ (T : Nat → Int) (n e N : Nat) (g : Int × Int × Int) (s t : tab) (b m : Int) (v : Option (Int × tab)), RQx T n e N g s t → s 131 6 = 0 → 0 ≤ m → m ≤ s 137 5 → rc 63 [] t = some v → OYx T n e N g b s t (Y2x b m s) v
theorem p_ret (hrc : rle rc rG) (hX : PXx rc) {b : Int} {v : Option (Int × tab)} (hQ : RQx T n e N g s t) (p0 : s 131 6 = 0) (hk : kkd s = 313) (h : (bo (rc 4 [] t) fun _ t3 => bo (rc 22 [0, 0] t3) fun z4 t4 => if z4 = 0 then some (some (0, t4)) else bo (rc 8 [30] t4) fun z6 t6 => if z6 = 0 then some (some (0, t6)) else bo (rc 8 [32] t6) fun z8 t8 => if z8 = 0 then some (some (0, t8)) else some (some (1, t8))) = some v) : OYx T n e N g b s t (Y3x b s) v := by
  obtain ⟨t2, a1, a2, a3, a4, a5⟩ := RE_step hQ.1 (by omega) (by omega)
  have hQ2 := RQ_E hQ a2 a3 a4
  have h := bxr hrc a1 h
  try dsimp only at h
  have hex : cG 29 [313] s = some (some (0, stp s)) := by
    rw [cG_43]
    unfold cM43
    exact if_neg (fun q => q hk)
  unfold Y3x
  rw [hex, bo_s]
  have p2 : (stp s) 131 6 = 0 := by rw [a3.2.1]; exact p0
  rcases bo_inv h with ⟨h9, _⟩ | ⟨z6, t6, h9, h⟩
  · obtain ⟨z, t9, w1, _⟩ := p_Ex hX a2 (by omega) (by omega) (by omega) (by omega) h9
    cases w1
  · obtain ⟨z, t9, w1, w2⟩ := p_Ex hX a2 (by omega) (by omega) (by omega) (by omega) h9
    cases w1
    rcases w2 with ⟨rfl, s4, f1, f2, f3, f4, f5⟩ | ⟨rfl, f1⟩
    · rw [if_neg (by decide)] at h
      rw [f1, bo_s]
      have hQ4 := RQ_E hQ2 f2 f3 f4
      rcases RE_take f2 is_30 (by decide) with ⟨t7, c1, c2, c3, c4, c5, c6, c7⟩ | ⟨c1, c2, c3⟩
      · have h := bxr hrc c1 h
        try dsimp only at h
        rw [if_neg (by decide)] at h
        rw [c3, bo_s]
        have hQ5 := RQ_E hQ4 c4 c5 c6
        rcases RE_take c4 is_32 (by decide) with ⟨t8, d1, d2, d3, d4, d5, d6, d7⟩ | ⟨d1, d2, d3⟩
        · have h := bxr hrc d1 h
          try dsimp only at h
          rw [if_neg (by decide)] at h
          rw [d3, bo_s]
          cases h
          exact ⟨1, _, rfl, .inl ⟨rfl, N, _, rfl, Nat.le_refl _, RQ_E hQ5 d4 d5 d6, FSc_tr (FSc_E a3) (FSc_tr (FSc_E f3) (FSc_tr (FSc_E c5) (FSc_E d5))), FSr_tr (FSr_E a4) (FSr_tr (FSr_E f4) (FSr_tr (FSr_E c6) (FSr_E d6))), by omega⟩⟩
        · have h := bxr hrc d1 h
          try dsimp only at h
          rw [if_pos rfl] at h
          cases h
          refine OY_no ?_
          rw [d3]
          rfl
      · have h := bxr hrc c1 h
        try dsimp only at h
        rw [if_pos rfl] at h
        cases h
        refine OY_no ?_
        rw [c3]
        rfl
    · rw [if_pos rfl] at h
      cases h
      refine OY_no ?_
      rw [f1]
      rfl
theorem p_44 (hrc : rle rc rG) (hX : PXx rc) (hS : PSx rc) (h44 : P44 rc) : ∀ (T : Nat → Int) (n e N : Nat) (g : Int × Int × Int) (s t : tab) (b m : Int) (v : Option (Int × tab)), RQx T n e N g s t → s 131 6 = 0 → 0 ≤ m → m ≤ s 137 5 → rM159_44 rc t = some v → OYx T n e N g b s t (Y2x b m s) v := by
  intro T n e N g s t b m v hQ p0 m0 m1 h
  have hin := RL_in hQ.1.1
  have hm : m < 2000 ∨ (s 137 5).toNat = e := by
    by_cases q : (s 137 5).toNat = e
    · exact .inr q
    · have h1 := hQ.1.1.1.1
      have h2 := hQ.1.1.1.2.1
      omega
  unfold rM159_44 at h
  have h := bxr hrc (RL_is is_90 hQ.1.1) h
  try dsimp only at h
  by_cases k1 : kkd s = 313
  · rw [if_pos k1, if_pos (by decide)] at h
    obtain ⟨hQ2, hf⟩ := RQ_16 hQ m
    have kk : kkd (up2 s 131 16 m) = 313 := k1
    have hrow : cG 68 [313, 0, m] s = some (some (0, up2 s 131 16 m)) := by
      rw [cG_51_8]
      unfold cM51_8
      split
      · rfl
      · rfl
    unfold Y2x
    rw [hrow, bo_s]
    exact OY_pre (p_ret hrc hX hQ2 p0 kk h) (Nat.le_refl _) hf ⟨rfl, fun _ _ => rfl, rfl, rfl, rfl, fun _ => rfl, fun _ => rfl⟩
  · rw [if_neg k1, if_neg (by decide)] at h
    rcases bo_inv h with ⟨h9, _⟩ | ⟨z6, t6, h9, h⟩
    · obtain ⟨z, t3, w1, _⟩ := hS T n e N g s t 1 _ hQ (by omega) (by omega) p0 (by rw [show (1 : Int) - 1 = 0 by omega]; exact h9)
      cases w1
    · obtain ⟨z, t3, w1, w2⟩ := hS T n e N g s t 1 _ hQ (by omega) (by omega) p0 (by rw [show (1 : Int) - 1 = 0 by omega]; exact h9)
      cases w1
      rcases hm with hm | hm
      · have hrow : cG 68 [313, 0, m] s = bo (cG 46 [1] s) fun _ s1 => cG 68 [313, 0, m + 1] s1 := by
          rw [cG_51_8]
          conv => lhs; unfold cM51_8
          rw [if_neg (by omega), if_neg k1, ipl_e (by omega), show (0 : Int) + 1 = 1 by omega]
        rcases w2 with ⟨rfl, s4, f1, f2, f3, f4, f5⟩ | ⟨rfl, f1⟩
        · rw [if_pos (by decide)] at h
          have hz : Y2x b m s = Y2x b (m + 1) s4 := by
            unfold Y2x
            rw [hrow, f1, bo_s]
          rw [hz]
          exact OY_pre (h44 T n e N g s4 t6 b (m + 1) v f2 (by rw [f3.2.2.2.2.1]; exact p0) (by omega) (by omega) h) (Nat.le_refl _) f3 f4
        · rw [if_neg (by decide)] at h
          cases h
          refine OY_no ?_
          unfold Y2x
          rw [hrow, f1]
          rfl
      · have hk := RL_kk hQ.1.1
        have he := hQ.1.1.1.2.2.1
        rw [hm] at hk
        rcases w2 with ⟨rfl, s4, f1, f2, f3, f4, f5⟩ | ⟨rfl, f1⟩
        · have := RL_in f2.1.1
          omega
        · rw [if_neg (by decide)] at h
          cases h
          refine OY_no ?_
          unfold Y2x Y3x
          rw [cG_51_8]
          unfold cM51_8
          by_cases c2 : 2000 ≤ m
          · rw [if_pos c2, bo_s, cG_43]
            unfold cM43
            rw [if_pos (show kkd (up2 s 131 16 m) ≠ 313 from k1)]
            rfl
          · rw [if_neg c2, if_neg k1, ipl_e (by omega), show (0 : Int) + 1 = 1 by omega, f1]
            rfl
/-- our ints, row and return -/
noncomputable def Y1x (b i : Int) (s : tab) : RO := bo (cG 67 [b, i] s) fun _ s2 => Y2x b 0 s2
def P12 (rc : MRq) : Prop := ∀ (T : Nat → Int) (n e N : Nat) (g : Int × Int × Int) (s t : tab) (b i : Int) (v : Option (Int × tab)), RQx T n e N g s t → SCb N b t → s 131 6 = 0 → 0 ≤ i → i ≤ s 137 5 → rc 62 [] t = some v → OYx T n e N g b s t (Y1x b i s) v
theorem p_12 (hrc : rle rc rG) (h44 : P44 rc) (h12 : P12 rc) : ∀ (T : Nat → Int) (n e N : Nat) (g : Int × Int × Int) (s t : tab) (b i : Int) (v : Option (Int × tab)), RQx T n e N g s t → SCb N b t → s 131 6 = 0 → 0 ≤ i → i ≤ s 137 5 → rM159_12 rc t = some v → OYx T n e N g b s t (Y1x b i s) v := by
  intro T n e N g s t b i v hQ hsc p0 i0 i1 h
  have hin := RL_in hQ.1.1
  unfold rM159_12 at h
  have h := bxr hrc (RL_is is_8 hQ.1.1) h
  try dsimp only at h
  by_cases k1 : kkd s = 301
  · rw [if_pos k1, if_neg (by decide)] at h
    have hi2 : i < 2000 := by
      have hk := RL_kk hQ.1.1
      have he := hQ.1.1.1.2.2.1
      have h1 := hQ.1.1.1.1
      have h2 := hQ.1.1.1.2.1
      have : (s 137 5).toNat ≠ e := fun q => by rw [q] at hk; omega
      omega
    have hloop : cG 67 [b, i] s = bo (cG 32 [b] (stp s)) fun _ s5 => bo (cG 29 [59] s5) fun _ s6 => cG 67 [b, i + 1] s6 := by
      rw [cG_50_2]
      conv => lhs; unfold cM50_2
      rw [if_neg (by omega), if_neg (fun q => q k1)]
    obtain ⟨t2, a1, a2, a3, a4, a5⟩ := RE_step hQ.1 (by omega) (by omega)
    have hQ2 := RQ_E hQ a2 a3 a4
    have h := bxr hrc a1 h
    try dsimp only at h
    have hsc2 : SCb N b t2 := ⟨hsc.1, hsc.2.1, fun j hj => by rw [a4 176 j (by omega), a4 170 15 (by omega)]; exact hsc.2.2 j hj⟩
    rcases p_var hQ2 hsc2 with ⟨s3, t3, b1, b2, b3, b4, b5, b6, b7⟩ | ⟨t9, b1, b2⟩
    · have h := bxr hrc b1 h
      try dsimp only at h
      rw [if_neg (by decide)] at h
      rcases RE_take b3.1 is_30 (by decide) with ⟨t7, c1, c2, c3, c4, c5, c6, c7⟩ | ⟨c1, c2, c3⟩
      · have h := bxr hrc c1 h
        try dsimp only at h
        rw [if_pos (by decide)] at h
        have hQ4 := RQ_E b3 c4 c5 c6
        have hsc4 : SCb (N + 1) b t7 := ⟨b4.1, b4.2.1, fun j hj => by rw [c6 176 j (by omega), c6 170 15 (by omega)]; exact b4.2.2 j hj⟩
        have hz : Y1x b i s = Y1x b (i + 1) (stp s3) := by
          unfold Y1x
          rw [hloop, b2, bo_s, c3, bo_s]
        rw [hz]
        have fc : FSc s (stp s3) := FSc_tr (FSc_E a3) (FSc_tr b5 (FSc_E c5))
        exact OY_pre (h12 T n e (N + 1) g (stp s3) t7 b (i + 1) v hQ4 hsc4 (by rw [fc.2.2.2.2.1]; exact p0) (by omega) (by omega) h) (by omega) fc (FSr_tr (FSr_E a4) (FSr_tr b6 (FSr_E c6)))
      · have h := bxr hrc c1 h
        try dsimp only at h
        rw [if_neg (by decide)] at h
        cases h
        refine OY_no ?_
        unfold Y1x
        rw [hloop, b2, bo_s, c3]
        rfl
    · have h := bxr hrc b1 h
      try dsimp only at h
      rw [if_pos rfl] at h
      cases h
      refine OY_no ?_
      unfold Y1x
      rw [hloop, b2]
      rfl
  · rw [if_neg k1, if_pos rfl] at h
    have hz : Y1x b i s = Y2x b 0 s := by
      unfold Y1x
      rw [cG_50_2]
      unfold cM50_2
      split
      · rfl
      · rfl
    rw [hz]
    exact h44 T n e N g s t b 0 v hQ p0 (by omega) (by omega) h
def PYx (rc : MRq) : Prop := ∀ (T : Nat → Int) (n e N : Nat) (g : Int × Int × Int) (s t : tab) (b : Int) (v : Option (Int × tab)), RQx T n e N g s t → SCb N b t → s 131 6 = 0 → rc 35 [] t = some v → OYx T n e N g b s t (cG 53 [b] s) v
/-- the body of a fun -/
theorem p_Y (hrc : rle rc rG) (h12 : P12 rc) : ∀ (T : Nat → Int) (n e N : Nat) (g : Int × Int × Int) (s t : tab) (b : Int) (v : Option (Int × tab)), RQx T n e N g s t → SCb N b t → s 131 6 = 0 → rM159 rc t = some v → OYx T n e N g b s t (cG 53 [b] s) v := by
  intro T n e N g s t b v hQ hsc p0 h
  have hcb : cG 53 [b] s = bo (cG 29 [123] s) fun _ s1 => Y1x b 0 s1 := by
    rw [cG_49]
    unfold cM49 Y1x Y2x Y3x
    congr 1
    funext z1 s1
    rw [cG_50]
    unfold cM50
    congr 1
    funext z2 s2
    rw [cG_51]
    rfl
  rw [hcb]
  unfold rM159 at h
  rcases RE_take hQ.1 is_28 (by decide) with ⟨t7, c1, c2, c3, c4, c5, c6, c7⟩ | ⟨c1, c2, c3⟩
  · have h := bxr hrc c1 h
    try dsimp only at h
    rw [if_pos (by decide)] at h
    have hQ4 := RQ_E hQ c4 c5 c6
    rw [c3, bo_s]
    have hsc4 : SCb N b t7 := ⟨hsc.1, hsc.2.1, fun j hj => by rw [c6 176 j (by omega), c6 170 15 (by omega)]; exact hsc.2.2 j hj⟩
    have hin := RL_in hQ4.1.1
    exact OY_pre (h12 T n e N g (stp s) t7 b 0 v hQ4 hsc4 (by rw [c5.2.1]; exact p0) (Int.le_refl _) (by omega) h) (Nat.le_refl _) (FSc_E c5) (FSr_E c6)
  · have h := bxr hrc c1 h
    try dsimp only at h
    rw [if_neg (by decide)] at h
    cases h
    refine OY_no ?_
    rw [c3]
    rfl
end BODYX
