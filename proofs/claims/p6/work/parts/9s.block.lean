/-! BLOCKS, in both. -/
section BLOCK
variable {T : Nat → Int} {n e N : Nat} {g : Int × Int × Int} {s t s2 t2 : tab} {rc : MRq}
/-- as RQx, with one scope more -/
def RQw (T : Nat → Int) (n e N : Nat) (g : Int × Int × Int) (s t : tab) : Prop := REx T n e N g s t ∧ RPf s t ∧ (0 ≤ t 170 15 ∧ t 170 15 < t 170 16 ∧ t 170 16 ≤ s 137 5 + 2 ∧ ∀ j : Nat, j < N → 0 ≤ t 176 j ∧ t 176 j < t 170 16) ∧ RCn N s t
theorem RQ_w (h : RQx T n e N g s t) : RQw T n e N g s t := ⟨h.1, h.2.1, ⟨h.2.2.1.1, h.2.2.1.2.1, by have := h.2.2.1.2.2.1; omega, h.2.2.1.2.2.2⟩, h.2.2.2⟩
theorem RQ_wE (h : RQw T n e N g s t) (hR : REx T n e N g s2 t2) (hc : FEc s s2) (hr : FEr t t2) (hi : s 137 5 < s2 137 5) : RQx T n e N g s2 t2 := by
  obtain ⟨_, p, ⟨c1, c2, c3, c4⟩, d⟩ := h
  refine ⟨hR, ?_, ⟨?_, ?_, ?_, fun j hj => ?_⟩, ?_⟩
  · unfold RPf
    rw [hc.1 131 3 (by omega) (by omega) (by omega), hr 170 21 (by omega)]
    exact p
  · rw [hr 170 15 (by omega)]
    exact c1
  · rw [hr 170 15 (by omega), hr 170 16 (by omega)]
    exact c2
  · rw [hr 170 16 (by omega)]
    omega
  · rw [hr 170 16 (by omega), hr 176 j (by omega)]
    exact c4 j hj
  · unfold RCn
    rw [hr 170 37 (by omega), hr 170 36 (by omega), hc.1 131 14 (by omega) (by omega) (by omega), hc.1 109 0 (by omega) (by omega) (by omega), hc.1 109 1 (by omega) (by omega) (by omega), hc.1 109 2 (by omega) (by omega) (by omega), hc.1 109 3 (by omega) (by omega) (by omega), hc.1 109 4 (by omega) (by omega) (by omega), hc.1 109 5 (by omega) (by omega) (by omega)]
    exact d
theorem RQ_16 (h : RQx T n e N g s t) (m : Int) : RQx T n e N g (up2 s 131 16 m) t ∧ FSc s (up2 s 131 16 m) := by
  obtain ⟨⟨⟨hT, hx, l3, l4, l5⟩, ⟨⟨a1, a2, a3, a4, a5⟩, b, c, d1, d2⟩, m1, m2, m3⟩, p, ⟨c1, c2, c3, c4⟩, q⟩ := h
  exact ⟨⟨⟨⟨hT, hx, l3, l4, l5⟩, ⟨⟨a1, a2, a3, a4, a5⟩, b, c, d1, d2⟩, m1, m2, m3⟩, p, ⟨c1, c2, c3, c4⟩, q⟩, ⟨fun _ => rfl, fun _ => rfl, rfl, rfl, rfl, Int.le_refl _⟩⟩
def PSx (rc : MRq) : Prop := ∀ (T : Nat → Int) (n e N : Nat) (g : Int × Int × Int) (s t : tab) (x : Int) (v : Option (Int × tab)), RQx T n e N g s t → 1 ≤ x → x ≤ 21 → s 131 6 = 0 → rc 29 [x - 1] t = some v → OSx T n e N g s t (cG 46 [x] s) v
/-- how a BLOCK ends: N names at its beginning, K of them are what the reference keeps -/
def OBx (T : Nat → Int) (n e N : Nat) (g : Int × Int × Int) (K b : Int) (s t : tab) (X : RO) (v : Option (Int × tab)) : Prop := ∃ z t2, v = some (z, t2) ∧ ((z = 1 ∧ ∃ M s5 t5, X = some (some (0, ncu s5 b)) ∧ t2 = up2 t5 170 14 K ∧ N ≤ M ∧ RQx T n e M g s5 t5 ∧ FSc s s5 ∧ FSr N t t5 ∧ s 137 5 < s5 137 5) ∨ (z = 0 ∧ X = some none))
theorem OB_no {K b : Int} {X : RO} {t9 : tab} (h : X = some none) : OBx T n e N g K b s t X (some (0, t9)) := ⟨0, t9, rfl, .inr ⟨rfl, h⟩⟩
theorem FSr_le {M : Nat} (h : FSr M t t2) (hM : N ≤ M) : FSr N t t2 := ⟨h.1, fun j hj => h.2.1 j (by omega), h.2.2⟩
theorem OB_pre {M : Nat} {s0 t0 : tab} {K b : Int} {X : RO} {v : Option (Int × tab)} (h : OBx T n e M g K b s t X v) (hM : N ≤ M) (hc : FSc s0 s) (hr : FSr N t0 t) : OBx T n e N g K b s0 t0 X v := by
  obtain ⟨z, t2, e1, h⟩ := h
  refine ⟨z, t2, e1, ?_⟩
  rcases h with ⟨h1, M5, s5, t5, h2, h3, h4, h5, h6, h7, h8⟩ | h
  · exact .inl ⟨h1, M5, s5, t5, h2, h3, by omega, h5, FSc_tr hc h6, FSr_tr hr (FSr_le h7 hM), Int.lt_of_le_of_lt hc.2.2.2.2.2 h8⟩
  · exact .inr h
/-- our row of STATEMENTS and the } -/
noncomputable def Z2x (b d m : Int) (s : tab) : RO := bo (cG 68 [125, d, m] s) fun _ s3 => bo (cG 29 [125] s3) fun _ s5 => some (some (0, ncu s5 b))
def P58 (rc : MRq) : Prop := ∀ (T : Nat → Int) (n e N : Nat) (g : Int × Int × Int) (s t : tab) (d K y b m : Int) (v : Option (Int × tab)), RQx T n e N g s t → 0 ≤ d → d ≤ 20 → s 131 6 = 0 → 0 ≤ m → m ≤ s 137 5 → rc 57 [d, K, y] t = some v → OBx T n e N g K b s t (Z2x b d m s) v
theorem p_58 (hrc : rle rc rG) (hS : PSx rc) (h58 : P58 rc) : ∀ (T : Nat → Int) (n e N : Nat) (g : Int × Int × Int) (s t : tab) (d K y b m : Int) (v : Option (Int × tab)), RQx T n e N g s t → 0 ≤ d → d ≤ 20 → s 131 6 = 0 → 0 ≤ m → m ≤ s 137 5 → rM139_58 rc d K y t = some v → OBx T n e N g K b s t (Z2x b d m s) v := by
  intro T n e N g s t d K y b m v hQ d0 d1 p0 m0 m1 h
  have hin := RL_in hQ.1.1
  have hm : m < 2000 ∨ (s 137 5).toNat = e := by
    by_cases q : (s 137 5).toNat = e
    · exact .inr q
    · have h1 := hQ.1.1.1.1
      have h2 := hQ.1.1.1.2.1
      omega
  unfold rM139_58 at h
  have h := bxr hrc (RL_is is_32 hQ.1.1) h
  try dsimp only at h
  by_cases k1 : kkd s = 125
  · rw [if_pos k1, if_pos (by decide)] at h
    obtain ⟨hQ2, hf⟩ := RQ_16 hQ m
    have kk : kkd (up2 s 131 16 m) = 125 := k1
    obtain ⟨t2, a1, a2, a3, a4, a5⟩ := RE_step hQ2.1 (by omega) (by omega)
    have hst : rG 4 [] t = some (some (0, t2)) := a1
    have h := bxr hrc hst h
    cases h
    have hrow : cG 68 [125, d, m] s = some (some (0, up2 s 131 16 m)) := by
      rw [cG_51_8]
      unfold cM51_8
      split
      · rfl
      · rfl
    have hex : cG 29 [125] (up2 s 131 16 m) = some (some (0, stp (up2 s 131 16 m))) := by
      rw [cG_43]
      unfold cM43
      exact if_neg (fun q => q kk)
    refine ⟨1, _, rfl, .inl ⟨rfl, N, stp (up2 s 131 16 m), t2, ?_, rfl, Nat.le_refl _, RQ_E hQ2 a2 a3 a4, FSc_tr hf (FSc_E a3), FSr_E a4, ?_⟩⟩
    · unfold Z2x
      rw [hrow, bo_s, hex, bo_s]
    · rw [a5]
      show s 137 5 < s 137 5 + 1
      omega
  · rw [if_neg k1, if_neg (by decide)] at h
    rcases bo_inv h with ⟨h9, _⟩ | ⟨z6, t6, h9, h⟩
    · obtain ⟨z, t3, w1, _⟩ := hS T n e N g s t (d + 1) _ hQ (by omega) (by omega) p0 (by rw [show d + 1 - 1 = d by omega]; exact h9)
      cases w1
    · obtain ⟨z, t3, w1, w2⟩ := hS T n e N g s t (d + 1) _ hQ (by omega) (by omega) p0 (by rw [show d + 1 - 1 = d by omega]; exact h9)
      cases w1
      rcases hm with hm | hm
      · have hrow : cG 68 [125, d, m] s = bo (cG 46 [d + 1] s) fun _ s1 => cG 68 [125, d, m + 1] s1 := by
          rw [cG_51_8]
          conv => lhs; unfold cM51_8
          rw [if_neg (by omega), if_neg k1, ipl_e (by omega)]
        rcases w2 with ⟨rfl, s4, f1, f2, f3, f4, f5⟩ | ⟨rfl, f1⟩
        · rw [if_pos (by decide)] at h
          have hz : Z2x b d m s = Z2x b d (m + 1) s4 := by
            unfold Z2x
            rw [hrow, f1, bo_s]
          rw [hz]
          exact OB_pre (h58 T n e N g s4 t6 d K _ b (m + 1) v f2 d0 d1 (by rw [f3.2.2.2.2.1]; exact p0) (by omega) (by omega) h) (Nat.le_refl _) f3 f4
        · rw [if_neg (by decide)] at h
          cases h
          refine OB_no ?_
          unfold Z2x
          rw [hrow, f1]
          rfl
      · have hk := RL_kk hQ.1.1
        have he := hQ.1.1.1.2.2.1
        rw [hm] at hk
        rcases w2 with ⟨rfl, s4, f1, f2, f3, f4, f5⟩ | ⟨rfl, f1⟩
        · have := RL_in f2.1.1
          omega
        · rw [if_neg (by decide)] at h
          cases h
          refine OB_no ?_
          unfold Z2x
          rw [cG_51_8]
          unfold cM51_8
          by_cases c2 : 2000 ≤ m
          · rw [if_pos c2, bo_s, cG_43]
            unfold cM43
            rw [if_pos (show kkd (up2 s 131 16 m) ≠ 125 from k1)]
            rfl
          · rw [if_neg c2, if_neg k1, ipl_e (by omega), f1]
            rfl
/-- our ints, row and } -/
noncomputable def Z1x (b d i : Int) (s : tab) : RO := bo (cG 67 [b, i] s) fun _ s2 => Z2x b d 0 s2
def P26 (rc : MRq) : Prop := ∀ (T : Nat → Int) (n e N : Nat) (g : Int × Int × Int) (s t : tab) (d K y b i : Int) (v : Option (Int × tab)), RQx T n e N g s t → SCb N b t → 0 ≤ d → d ≤ 20 → s 131 6 = 0 → 0 ≤ i → i ≤ s 137 5 → rc 56 [d, K, y] t = some v → OBx T n e N g K b s t (Z1x b d i s) v
theorem p_26 (hrc : rle rc rG) (h58 : P58 rc) (h26 : P26 rc) : ∀ (T : Nat → Int) (n e N : Nat) (g : Int × Int × Int) (s t : tab) (d K y b i : Int) (v : Option (Int × tab)), RQx T n e N g s t → SCb N b t → 0 ≤ d → d ≤ 20 → s 131 6 = 0 → 0 ≤ i → i ≤ s 137 5 → rM139_26 rc d K y t = some v → OBx T n e N g K b s t (Z1x b d i s) v := by
  intro T n e N g s t d K y b i v hQ hsc d0 d1 p0 i0 i1 h
  have hin := RL_in hQ.1.1
  unfold rM139_26 at h
  have h := bxr hrc (RL_is is_8 hQ.1.1) h
  try dsimp only at h
  by_cases k1 : kkd s = 301
  · rw [if_pos k1, if_neg (by decide)] at h
    have hi2 : i < 2000 := by
      have hk := RL_kk hQ.1.1
      have he := hQ.1.1.1.2.2.1
      have h1 := hQ.1.1.1.1
      have h2 := hQ.1.1.1.2.1
      have : (s 137 5).toNat ≠ e := fun q => by rw [q] at hk; omega
      omega
    have hloop : cG 67 [b, i] s = bo (cG 32 [b] (stp s)) fun _ s5 => bo (cG 29 [59] s5) fun _ s6 => cG 67 [b, i + 1] s6 := by
      rw [cG_50_2]
      conv => lhs; unfold cM50_2
      rw [if_neg (by omega), if_neg (fun q => q k1)]
    obtain ⟨t2, a1, a2, a3, a4, a5⟩ := RE_step hQ.1 (by omega) (by omega)
    have hQ2 := RQ_E hQ a2 a3 a4
    have h := bxr hrc a1 h
    try dsimp only at h
    have hsc2 : SCb N b t2 := ⟨hsc.1, hsc.2.1, fun j hj => by rw [a4 176 j (by omega), a4 170 15 (by omega)]; exact hsc.2.2 j hj⟩
    rcases p_var hQ2 hsc2 with ⟨s3, t3, b1, b2, b3, b4, b5, b6, b7⟩ | ⟨t9, b1, b2⟩
    · have h := bxr hrc b1 h
      try dsimp only at h
      rw [if_neg (by decide)] at h
      rcases RE_take b3.1 is_30 (by decide) with ⟨t7, c1, c2, c3, c4, c5, c6, c7⟩ | ⟨c1, c2, c3⟩
      · have h := bxr hrc c1 h
        try dsimp only at h
        rw [if_pos (by decide)] at h
        have hQ4 := RQ_E b3 c4 c5 c6
        have hsc4 : SCb (N + 1) b t7 := ⟨b4.1, b4.2.1, fun j hj => by rw [c6 176 j (by omega), c6 170 15 (by omega)]; exact b4.2.2 j hj⟩
        have hz : Z1x b d i s = Z1x b d (i + 1) (stp s3) := by
          unfold Z1x
          rw [hloop, b2, bo_s, c3, bo_s]
        rw [hz]
        have fc : FSc s (stp s3) := FSc_tr (FSc_E a3) (FSc_tr b5 (FSc_E c5))
        exact OB_pre (h26 T n e (N + 1) g (stp s3) t7 d K y b (i + 1) v hQ4 hsc4 d0 d1 (by rw [fc.2.2.2.2.1]; exact p0) (by omega) (by omega) h) (by omega) fc (FSr_tr (FSr_E a4) (FSr_tr b6 (FSr_E c6)))
      · have h := bxr hrc c1 h
        try dsimp only at h
        rw [if_neg (by decide)] at h
        cases h
        refine OB_no ?_
        unfold Z1x
        rw [hloop, b2, bo_s, c3]
        rfl
    · have h := bxr hrc b1 h
      try dsimp only at h
      rw [if_pos rfl] at h
      cases h
      refine OB_no ?_
      unfold Z1x
      rw [hloop, b2]
      rfl
  · rw [if_neg k1, if_pos rfl] at h
    have hz : Z1x b d i s = Z2x b d 0 s := by
      unfold Z1x
      rw [cG_50_2]
      unfold cM50_2
      split
      · rfl
      · rfl
    rw [hz]
    exact h58 T n e N g s t d K y b 0 v hQ d0 d1 p0 (by omega) (by omega) h
def PBx (rc : MRq) : Prop := ∀ (T : Nat → Int) (n e N : Nat) (g : Int × Int × Int) (s t : tab) (d b : Int) (v : Option (Int × tab)), RQw T n e N g s t → SCb N b t → 0 ≤ d → d ≤ 20 → s 131 6 = 0 → rc 28 [d] t = some v → OBx T n e N g (N : Int) b s t (cG 45 [d, b] s) v
/-- block(..) -/
theorem p_B (hrc : rle rc rG) (h26 : P26 rc) : ∀ (T : Nat → Int) (n e N : Nat) (g : Int × Int × Int) (s t : tab) (d b : Int) (v : Option (Int × tab)), RQw T n e N g s t → SCb N b t → 0 ≤ d → d ≤ 20 → s 131 6 = 0 → rM139 rc d t = some v → OBx T n e N g (N : Int) b s t (cG 45 [d, b] s) v := by
  intro T n e N g s t d b v hQ hsc d0 d1 p0 h
  have hcb : cG 45 [d, b] s = bo (cG 29 [123] s) fun _ s1 => Z1x b d 0 s1 := by
    rw [cG_53]
    unfold cM53 Z1x Z2x
    congr 1
    funext z1 s1
    rw [cG_50]
    unfold cM50
    congr 1
    funext z2 s2
    rw [cG_51]
    rfl
  rw [hcb]
  unfold rM139 at h
  rcases RE_take hQ.1 is_28 (by decide) with ⟨t7, c1, c2, c3, c4, c5, c6, c7⟩ | ⟨c1, c2, c3⟩
  · have h := bxr hrc c1 h
    try dsimp only at h
    rw [if_pos (by decide)] at h
    have hQ4 := RQ_wE hQ c4 c5 c6 (by omega)
    rw [hQ4.1.2.1.1.2.1] at h
    rw [c3, bo_s]
    have hsc4 : SCb N b t7 := ⟨hsc.1, hsc.2.1, fun j hj => by rw [c6 176 j (by omega), c6 170 15 (by omega)]; exact hsc.2.2 j hj⟩
    have hin := RL_in hQ4.1.1
    exact OB_pre (h26 T n e N g (stp s) t7 d (N : Int) 0 b 0 v hQ4 hsc4 d0 d1 (by rw [c5.2.1]; exact p0) (Int.le_refl _) (by omega) h) (Nat.le_refl _) (FSc_E c5) (FSr_E c6)
  · have h := bxr hrc c1 h
    try dsimp only at h
    rw [if_neg (by decide)] at h
    cases h
    refine OB_no ?_
    rw [c3]
    rfl
end BLOCK
