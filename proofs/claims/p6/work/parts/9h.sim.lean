/-! An E read by both: small things. -/
section SIM
variable {T : Nat → Int} {n e N : Nat} {g : Int × Int × Int} {s t s2 t2 : tab} {rc : MRq}
theorem kd_name {p : Nat} (h : kd T n p = 1) : p < n ∧ ltr (T p) = true := by
  have hp : p < n := by
    rcases Nat.lt_or_ge p n with a | a
    · exact a
    · rw [kd_end.mpr a] at h; omega
  refine ⟨hp, ?_⟩
  by_cases hl : ltr (T p) = true
  · exact hl
  · exfalso
    by_cases hd : dgt (T p) = true
    · rcases kd_dgt hp hl hd with a | a <;> omega
    · rcases kd_sgn hp hl hd with ⟨a, b, _⟩ | ⟨a, b, c, _⟩ | ⟨a, b, c, _⟩
      · have := sg2_r a; omega
      · have := sg1_r b; omega
      · omega
theorem kd_num {p : Nat} (h : kd T n p = 2) : 0 ≤ vl9 T n p ∧ vl9 T n p ≤ 65535 := by
  have hp : p < n := by
    rcases Nat.lt_or_ge p n with a | a
    · exact a
    · rw [kd_end.mpr a] at h; omega
  by_cases hl : ltr (T p) = true
  · exfalso
    rcases kd_ltr hp hl with a | a | ⟨i, a, _⟩ <;> omega
  · by_cases hd : dgt (T p) = true
    · have hk : kd T n p = if nmn 65536 T p (upto dgt T n p - p) ≤ 65535 then 2 else 4 := by unfold kd; rw [if_neg (by omega), if_neg hl, if_pos hd]
      have hr := nmn_rng (T := T) (p := p) (c := 65536) (by omega) (q := upto dgt T n p) upto_ge (fun j a b => (upto_in (q := dgt) (T := T) (n := n) (p := p) j a b).2)
      unfold vl9
      rw [if_neg hl]
      rw [hk] at h
      split at h
      · omega
      · omega
    · exfalso
      rcases kd_sgn hp hl hd with ⟨a, b, _⟩ | ⟨a, b, c, _⟩ | ⟨a, b, c, _⟩
      · have := sg2_r a; omega
      · have := sg1_r b; omega
      · omega
/-- a name at hand -/
theorem RE_name (h : REx T n e N g s t) (hk : kkd s = 1) : rG 9 [] t = some (some (fdn s (vlu s) 0, t)) ∧ fdn s (vlu s) 0 < (N : Int) ∧ -1 ≤ fdn s (vlu s) 0 := by
  obtain ⟨hL, ⟨⟨a1, a2, a3, a4, a5⟩, _⟩, _⟩ := h
  have hk2 := RL_kk hL
  rw [hk] at hk2
  obtain ⟨hp, hl⟩ := kd_name hk2.symm
  have hv := RL_vl hL (.inl hk)
  have e1 : vl9 T n (pls T n (s 137 5).toNat) = wdn T (pls T n (s 137 5).toNat) (nx T n (pls T n (s 137 5).toNat) - pls T n (s 137 5).toNat) := by
    unfold vl9 nx
    rw [if_pos hl, if_neg (by omega), if_pos hl]
  have hf := r_find hL.2.1 hL.2.2.2.2 hp hl a2 (by omega) a4
  rw [← e1, ← hv, fdw_fdl] at hf
  have hl2 := fdl_lt (t := s) (w := vlu s) N
  have e2 : fdn s (vlu s) 0 = fdl s (vlu s) N := by
    unfold fdn
    rw [show mxx 0 0 = 0 from by decide, a1, Int.toNat_natCast]
    split <;> omega
  rw [e2]
  exact ⟨hf, hl2.1, hl2.2⟩
theorem c_mean (hk : kkd s = 1) : cG 33 [] s = if fdn s (vlu s) 0 < 0 then some none else some (some (fdn s (vlu s) 0, s)) := by
  rw [cG_61]
  unfold cM61
  rw [if_neg (fun q => q hk)]
/-- what a name means, in both -/
theorem RS_nm (h : RSt T n N s t) {k : Int} (h0 : 0 ≤ k) (h1 : k < (N : Int)) : t 174 k.toNat = nkd s k ∧ t 175 k.toNat = nnm s k ∧ 0 ≤ nkd s k ∧ nkd s k ≤ 6 ∧ 0 ≤ nnm s k ∧ nnm s k < s 109 (kcn (nkd s k)) ∧ nnm s k ≤ 24 ∧ nkd s k = s 107 k.toNat ∧ nnm s k = s 108 k.toNat := by
  obtain ⟨⟨a1, a2, a3, a4, a5⟩, b, _⟩ := h
  obtain ⟨c1, c2, c3, c4, c5, c6⟩ := a5 k.toNat (by omega)
  have e1 : nkd s k = s 107 k.toNat := by unfold nkd; rw [if_pos (by omega)]
  have e2 : nnm s k = s 108 k.toNat := by unfold nnm; rw [if_pos (by omega)]
  rw [e1, e2]
  have hc : kcn (s 107 k.toNat) < 6 := by unfold kcn; split <;> omega
  have hb := b _ hc
  have hl := LIM_le (j := kcn (s 107 k.toNat))
  exact ⟨c1, c2, c3, c4, c5, c6, by omega, rfl, rfl⟩
/-- masks change alone -/
theorem RE_mask {s3 t3 : tab} {g2 : Int × Int × Int} (h : REx T n e N g s t) (hs : ∀ k j, ¬ (k = 131 ∧ (j = 7 ∨ j = 8 ∨ j = 9)) → s3 k j = s k j) (ht : ∀ k j, ¬ (k = 170 ∧ 22 ≤ j ∧ j ≤ 26) → t3 k j = t k j) (hm : RMk g2 s3 t3) : REx T n e N g2 s3 t3 ∧ FEc s s3 ∧ FEr t t3 := by
  have fc : FEc s s3 := ⟨fun k j a b c => hs k j (by omega), hs 131 6 (by omega), fun j _ => hs 132 j (by omega), by rw [hs 137 5 (by omega)]; exact Int.le_refl _⟩
  have fr : FEr t t3 := fun k j a => ht k j (by omega)
  refine ⟨⟨?_, RSt_fr h.2.1 fc fr, hm⟩, fc, fr⟩
  obtain ⟨⟨b1, b2, b3, b4, b5⟩, l2, l3, l4, l5⟩ := h.1
  have c5 := hs 137 5 (by omega)
  refine ⟨⟨b1, b2, b3, b4, fun j hj => ?_⟩, ⟨(ht 170 2 (by omega)).trans l2.1, l2.2.1, fun j hj => ?_⟩, by rw [c5]; exact l3, by rw [c5]; exact l4, ?_⟩
  · rw [hs 139 j (by omega), hs 140 j (by omega), hs 141 j (by omega)]
    exact b5 j hj
  · rw [ht 171 j (by omega)]
    exact l2.2.2 j hj
  · rw [c5]
    obtain ⟨q1, q2, q3, q4, q5⟩ := l5
    exact ⟨(ht 170 5 (by omega)).trans q1, (ht 170 3 (by omega)).trans q2, (ht 170 6 (by omega)).trans q3, (ht 170 4 (by omega)).trans q4, fun w => (ht 170 7 (by omega)).trans (q5 w)⟩
theorem RE_used (h : REx T n e N g s t) (b : Int) : REx T n e N g (up2 s 131 7 (lo (s 131 7) b)) (up2 t 170 23 (lo (t 170 23) b)) ∧ FEc s (up2 s 131 7 (lo (s 131 7) b)) ∧ FEr t (up2 t 170 23 (lo (t 170 23) b)) := by
  refine RE_mask h (fun k j a => if_neg (by omega)) (fun k j a => if_neg (by omega)) ?_
  obtain ⟨m1, m2, m3⟩ := h.2.2
  refine ⟨?_, ?_, ?_⟩
  · show lo (s 131 7) b = lo g.1 (lo (lo (t 170 23) b) (t 170 22))
    rw [m1]
    simp only [lo_assoc, lo_comm, lo_lc]
  · exact m2
  · exact m3
/-- how the reading of an E ends -/
def OEx (T : Nat → Int) (n e N : Nat) (g : Int × Int × Int) (s t : tab) (X : RO) (v : Option (Int × tab)) : Prop := ∃ z t2, v = some (z, t2) ∧ ((z = 1 ∧ ∃ s2, X = some (some (0, s2)) ∧ REx T n e N g s2 t2 ∧ FEc s s2 ∧ FEr t t2 ∧ s 137 5 < s2 137 5) ∨ (z = 0 ∧ X = some none))
theorem OE_no {X : RO} {t9 : tab} (h : X = some none) : OEx T n e N g s t X (some (0, t9)) := ⟨0, t9, rfl, .inr ⟨rfl, h⟩⟩
/-- what went before -/
theorem OE_pre {s0 t0 : tab} {X : RO} {v : Option (Int × tab)} (h : OEx T n e N g s t X v) (hc : FEc s0 s) (hr : FEr t0 t) : OEx T n e N g s0 t0 X v := by
  obtain ⟨z, t2, e1, h⟩ := h
  refine ⟨z, t2, e1, ?_⟩
  rcases h with ⟨h1, s2, h2, h3, h4, h5, h6⟩ | h
  · exact .inl ⟨h1, s2, h2, h3, FEc_tr hc h4, FEr_tr hr h5, Int.lt_of_le_of_lt hc.2.2.2 h6⟩
  · exact .inr h
def PUx (rc : MRq) : Prop := ∀ (T : Nat → Int) (n e N : Nat) (g : Int × Int × Int) (s t : tab) (x : Int) (v : Option (Int × tab)), REx T n e N g s t → 0 ≤ x → x ≤ 20 → 0 ≤ s 131 6 → s 131 6 ≤ 10 * x + 10 → rc 23 [x] t = some v → OEx T n e N g s t (cG 41 [x] s) v
def PAx (rc : MRq) : Prop := ∀ (T : Nat → Int) (n e N : Nat) (g : Int × Int × Int) (s t : tab) (x : Int) (v : Option (Int × tab)), REx T n e N g s t → 0 ≤ x → x ≤ 20 → 0 ≤ s 131 6 → s 131 6 ≤ 10 * x + 10 → kkd s ≠ 33 → kkd s ≠ 45 → kkd s ≠ 126 → rc 24 [x] t = some v → OEx T n e N g s t (cG 41 [x] s) v
def PXx (rc : MRq) : Prop := ∀ (T : Nat → Int) (n e N : Nat) (g : Int × Int × Int) (s t : tab) (L x b i : Int) (v : Option (Int × tab)), REx T n e N g s t → 0 ≤ x → x ≤ 20 → 0 ≤ L → L ≤ 10 → 0 ≤ b → b ≤ 10 * x → SIx b s → 0 ≤ i → i ≤ s 137 5 → rc 22 [L, x] t = some v → ∃ z t2, v = some (z, t2) ∧ ((z = 1 ∧ ∃ s2 i2, Kst x b i s = cG 66 [x, b, lvl (kkd s2), i2] s2 ∧ REx T n e N g s2 t2 ∧ SIx b s2 ∧ FKc b s s2 ∧ FEr t t2 ∧ s 137 5 < s2 137 5 ∧ 0 ≤ i2 ∧ i2 ≤ s2 137 5 ∧ lvl (kkd s2) ≤ L) ∨ (z = 0 ∧ Kst x b i s = some none))
def PLx (rc : MRq) : Prop := ∀ (T : Nat → Int) (n e N : Nat) (g : Int × Int × Int) (s t : tab) (L x b i : Int) (v : Option (Int × tab)), REx T n e N g s t → 0 ≤ x → x ≤ 20 → 0 ≤ L → L ≤ 9 → 0 ≤ b → b ≤ 10 * x → SIx b s → 0 ≤ i → i ≤ s 137 5 → lvl (kkd s) ≤ L + 1 → rc 52 [L, x] t = some v → ∃ z t2, v = some (z, t2) ∧ ((z = 1 ∧ ∃ s2 i2, cG 66 [x, b, lvl (kkd s), i] s = cG 66 [x, b, lvl (kkd s2), i2] s2 ∧ REx T n e N g s2 t2 ∧ SIx b s2 ∧ FKc b s s2 ∧ FEr t t2 ∧ s 137 5 ≤ s2 137 5 ∧ 0 ≤ i2 ∧ i2 ≤ s2 137 5 ∧ lvl (kkd s2) ≤ L) ∨ (z = 0 ∧ cG 66 [x, b, lvl (kkd s), i] s = some none))
theorem FKc_rf {b : Int} : FKc b s s := ⟨fun _ _ _ _ _ => rfl, fun _ _ => rfl, Int.le_refl _⟩
/-- expression(level, ..) -/
theorem p_X (hU : PUx rc) (hX : PXx rc) (hL : PLx rc) : ∀ (T : Nat → Int) (n e N : Nat) (g : Int × Int × Int) (s t : tab) (L x b i : Int) (v : Option (Int × tab)), REx T n e N g s t → 0 ≤ x → x ≤ 20 → 0 ≤ L → L ≤ 10 → 0 ≤ b → b ≤ 10 * x → SIx b s → 0 ≤ i → i ≤ s 137 5 → rM144 rc L x t = some v → ∃ z t2, v = some (z, t2) ∧ ((z = 1 ∧ ∃ s2 i2, Kst x b i s = cG 66 [x, b, lvl (kkd s2), i2] s2 ∧ REx T n e N g s2 t2 ∧ SIx b s2 ∧ FKc b s s2 ∧ FEr t t2 ∧ s 137 5 < s2 137 5 ∧ 0 ≤ i2 ∧ i2 ≤ s2 137 5 ∧ lvl (kkd s2) ≤ L) ∨ (z = 0 ∧ Kst x b i s = some none)) := by
  intro T n e N g s t L x b i v hR x0 x1 L0 L1 b0 b1 hs i0 i1 h
  have hpd := SI_le b0 hs
  unfold rM144 at h
  by_cases hl : L ≤ 9
  · rw [if_pos hl] at h
    rw [ipl_e (by omega)] at h
    rcases bo_inv h with ⟨h9, _⟩ | ⟨z3, t3, h9, h⟩
    · obtain ⟨z, t2, e1, _⟩ := hX T n e N g s t (L + 1) x b i _ hR x0 x1 (by omega) (by omega) b0 b1 hs i0 i1 h9
      cases e1
    · obtain ⟨z, t2, e1, e2⟩ := hX T n e N g s t (L + 1) x b i _ hR x0 x1 (by omega) (by omega) b0 b1 hs i0 i1 h9
      cases e1
      rcases e2 with ⟨rfl, s3, i3, f1, f2, f3, f4, f5, f6, f7, f8, f9⟩ | ⟨rfl, f1⟩
      · rw [if_pos (by decide)] at h
        obtain ⟨z, t4, e1, e2⟩ := hL T n e N g s3 t3 L x b i3 _ f2 x0 x1 L0 hl b0 b1 f3 f7 f8 f9 h
        refine ⟨z, t4, e1, ?_⟩
        rcases e2 with ⟨rfl, s4, i4, k1, k2, k3, k4, k5, k6, k7, k8, k9⟩ | ⟨rfl, k1⟩
        · exact .inl ⟨rfl, s4, i4, f1.trans k1, k2, k3, FKc_tr f4 k4, FEr_tr f5 k5, by omega, k7, k8, k9⟩
        · exact .inr ⟨rfl, f1.trans k1⟩
      · rw [if_neg (by decide)] at h
        cases h
        exact ⟨0, t3, rfl, .inr ⟨rfl, f1⟩⟩
  · rw [if_neg hl] at h
    rcases bo_inv h with ⟨h9, _⟩ | ⟨z3, t3, h9, h⟩
    · obtain ⟨z, t2, e1, _⟩ := hU T n e N g s t x _ hR x0 x1 (by have := hs.1; omega) (by omega) h9
      cases e1
    · obtain ⟨z, t2, e1, e2⟩ := hU T n e N g s t x _ hR x0 x1 (by have := hs.1; omega) (by omega) h9
      cases e1
      cases h
      refine ⟨z3, t3, rfl, ?_⟩
      rcases e2 with ⟨rfl, s3, f1, f2, f3, f4, f5⟩ | ⟨rfl, f1⟩
      · refine .inl ⟨rfl, s3, i, ?_, f2, SI_E hs f3, FKc_E f3 hs.1, f4, f5, i0, by omega, by have := (lvl_rng (kkd s3)).2; omega⟩
        unfold Kst
        rw [f1, bo_s]
      · refine .inr ⟨rfl, ?_⟩
        unfold Kst
        rw [f1, bo_n]
/-- its loop -/
theorem p_L (hrc : rle rc rG) (hX : PXx rc) (hL : PLx rc) : ∀ (T : Nat → Int) (n e N : Nat) (g : Int × Int × Int) (s t : tab) (L x b i : Int) (v : Option (Int × tab)), REx T n e N g s t → 0 ≤ x → x ≤ 20 → 0 ≤ L → L ≤ 9 → 0 ≤ b → b ≤ 10 * x → SIx b s → 0 ≤ i → i ≤ s 137 5 → lvl (kkd s) ≤ L + 1 → rM144_25 rc L x t = some v → ∃ z t2, v = some (z, t2) ∧ ((z = 1 ∧ ∃ s2 i2, cG 66 [x, b, lvl (kkd s), i] s = cG 66 [x, b, lvl (kkd s2), i2] s2 ∧ REx T n e N g s2 t2 ∧ SIx b s2 ∧ FKc b s s2 ∧ FEr t t2 ∧ s 137 5 ≤ s2 137 5 ∧ 0 ≤ i2 ∧ i2 ≤ s2 137 5 ∧ lvl (kkd s2) ≤ L) ∨ (z = 0 ∧ cG 66 [x, b, lvl (kkd s), i] s = some none)) := by
  intro T n e N g s t L x b i v hR x0 x1 L0 L1 b0 b1 hs i0 i1 hlv h
  unfold rM144_25 at h
  have h := bxr hrc (RL_lev hR.1) h
  try dsimp only at h
  by_cases hl : lvl (kkd s) - 1 ≠ L
  · rw [if_pos hl] at h
    cases h
    exact ⟨1, t, rfl, .inl ⟨rfl, s, i, rfl, hR, hs, FKc_rf, FEr_rf, Int.le_refl _, i0, i1, by omega⟩⟩
  · rw [if_neg hl] at h
    obtain ⟨s3, t3, a1, a2, a3, a4, a5, a6, a7⟩ := c_round (x := x) hR ⟨b0, by omega⟩ hs (by omega) i1
    have h := bxr hrc a2 h
    try dsimp only at h
    rw [ipl_e (by omega)] at h
    rcases bo_inv h with ⟨h9, _⟩ | ⟨z6, t6, h9, h⟩
    · obtain ⟨z, t2, e1, _⟩ := hX T n e N g s3 t3 (L + 1) x b (i + 1) _ a3 x0 x1 (by omega) (by omega) b0 b1 a4 (by omega) (by omega) h9
      cases e1
    · obtain ⟨z, t2, e1, e2⟩ := hX T n e N g s3 t3 (L + 1) x b (i + 1) _ a3 x0 x1 (by omega) (by omega) b0 b1 a4 (by omega) (by omega) h9
      cases e1
      rcases e2 with ⟨rfl, s4, i4, f1, f2, f3, f4, f5, f6, f7, f8, f9⟩ | ⟨rfl, f1⟩
      · rw [if_pos (by decide)] at h
        obtain ⟨z, t4, e1, e2⟩ := hL T n e N g s4 t6 L x b i4 _ f2 x0 x1 L0 L1 b0 b1 f3 f7 f8 f9 h
        refine ⟨z, t4, e1, ?_⟩
        rcases e2 with ⟨rfl, s5, i5, k1, k2, k3, k4, k5, k6, k7, k8, k9⟩ | ⟨rfl, k1⟩
        · exact .inl ⟨rfl, s5, i5, a1.trans (f1.trans k1), k2, k3, FKc_tr a5 (FKc_tr f4 k4), FEr_tr a6 (FEr_tr f5 k5), by omega, k7, k8, k9⟩
        · exact .inr ⟨rfl, a1.trans (f1.trans k1)⟩
      · rw [if_neg (by decide)] at h
        cases h
        exact ⟨0, t6, rfl, .inr ⟨rfl, a1.trans f1⟩⟩
/-- a whole E -/
theorem p_Ex (hX : PXx rc) {x : Int} {v : Option (Int × tab)} (hR : REx T n e N g s t) (x0 : 0 ≤ x) (x1 : x ≤ 20) (b0 : 0 ≤ s 131 6) (b1 : s 131 6 ≤ 10 * x) (h : rc 22 [0, x] t = some v) : OEx T n e N g s t (cG 40 [x] s) v := by
  have hin := RL_in hR.1
  have hs : SIx (s 131 6) s := ⟨Int.le_refl _, fun j a b => absurd a (by omega)⟩
  obtain ⟨z, t2, e1, e2⟩ := hX T n e N g s t 0 x (s 131 6) 0 v hR x0 x1 (by omega) (by omega) b0 b1 hs (by omega) (by omega) h
  have hc : cG 40 [x] s = Kst x (s 131 6) 0 s := by rw [cG_57]; rfl
  refine ⟨z, t2, e1, ?_⟩
  rw [hc]
  rcases e2 with ⟨rfl, s3, i3, f1, f2, f3, f4, f5, f6, f7, f8, f9⟩ | ⟨rfl, f1⟩
  · refine .inl ⟨rfl, up2 s3 131 6 (s 131 6), ?_, PEq_RE f2 (fun k j a _ => if_neg a), ⟨fun k j a1 a2 a3 => (if_neg (by omega)).trans (f4.1 k j a1 a2 a3), up_self, fun j hj => (if_neg (by omega)).trans (f4.2.1 j hj), ?_⟩, f5, ?_⟩
    · rw [f1]
      exact c_Eend b0 f3 f9
    · rw [show (up2 s3 131 6 (s 131 6)) 137 5 = s3 137 5 from if_neg (by omega)]
      omega
    · rw [show (up2 s3 131 6 (s 131 6)) 137 5 = s3 137 5 from if_neg (by omega)]
      exact f6
  · exact .inr ⟨rfl, f1⟩
/-- a sign before an E, in ours -/
theorem c_sign {x : Int} (hk : kkd s = 33 ∨ kkd s = 45 ∨ kkd s = 126) : cG 41 [x] s = if 20 ≤ x then some none else bo (cG 41 [x + 1] (stp s)) fun _ s1 => some (some (0, s1)) := by
  rw [cG_58]
  conv => lhs; unfold cM58
  rcases hk with hk | hk | hk
  · rw [if_neg (by omega), if_pos hk]
  · rw [if_neg (by omega), if_neg (by omega), if_neg (by omega), if_pos hk]
  · rw [if_neg (by omega), if_neg (by omega), if_neg (by omega), if_neg (by omega), if_pos hk]
theorem p_sign (hrc : rle rc rG) (hU : PUx rc) {x : Int} {v : Option (Int × tab)} (hR : REx T n e N g s t) (x0 : 0 ≤ x) (x1 : x ≤ 20) (b0 : 0 ≤ s 131 6) (b1 : s 131 6 ≤ 10 * x + 10) (hk : kkd s = 33 ∨ kkd s = 45 ∨ kkd s = 126) (h : (if x ≠ 20 then bo (rc 4 [] t) fun z8 t8 => bo (rc 23 [ipl x 1] t8) fun z10 t10 => if z10 ≠ 0 then some (some (1, t10)) else some (some (0, t10)) else some (some (0, t))) = some v) : OEx T n e N g s t (cG 41 [x] s) v := by
  rw [c_sign hk]
  by_cases hx : x ≠ 20
  · rw [if_pos hx] at h
    rw [if_neg (by omega)]
    obtain ⟨t2, a1, a2, a3, a4, a5⟩ := RE_step hR (by omega) (by omega)
    have h := bxr hrc a1 h
    try dsimp only at h
    rw [ipl_e (by omega)] at h
    refine OE_pre ?_ a3 a4
    have b6 : (stp s) 131 6 = s 131 6 := a3.2.1
    rcases bo_inv h with ⟨h9, _⟩ | ⟨z6, t6, h9, h⟩
    · obtain ⟨z, t3, e1, _⟩ := hU T n e N g (stp s) t2 (x + 1) _ a2 (by omega) (by omega) (by omega) (by omega) h9
      cases e1
    · obtain ⟨z, t3, e1, e2⟩ := hU T n e N g (stp s) t2 (x + 1) _ a2 (by omega) (by omega) (by omega) (by omega) h9
      cases e1
      rcases e2 with ⟨rfl, s4, f1, f2, f3, f4, f5⟩ | ⟨rfl, f1⟩
      · rw [if_pos (by decide)] at h
        cases h
        exact ⟨1, t6, rfl, .inl ⟨rfl, s4, by rw [f1, bo_s], f2, f3, f4, f5⟩⟩
      · rw [if_neg (by decide)] at h
        cases h
        exact OE_no (by rw [f1, bo_n])
  · rw [if_neg hx] at h
    cases h
    exact OE_no (if_pos (by omega))
/-- unary(..) -/
theorem p_U (hrc : rle rc rG) (hU : PUx rc) (hA : PAx rc) : ∀ (T : Nat → Int) (n e N : Nat) (g : Int × Int × Int) (s t : tab) (x : Int) (v : Option (Int × tab)), REx T n e N g s t → 0 ≤ x → x ≤ 20 → 0 ≤ s 131 6 → s 131 6 ≤ 10 * x + 10 → rM145 rc x t = some v → OEx T n e N g s t (cG 41 [x] s) v := by
  intro T n e N g s t x v hR x0 x1 b0 b1 h
  unfold rM145 at h
  have h := bxr hrc (RL_is is_38 hR.1) h
  try dsimp only at h
  by_cases k1 : kkd s = 45
  · rw [if_pos k1, if_pos (by decide)] at h
    exact p_sign hrc hU hR x0 x1 b0 b1 (.inr (.inl k1)) h
  · rw [if_neg k1, if_neg (by decide)] at h
    have h := bxr hrc (RL_is is_40 hR.1) h
    try dsimp only at h
    by_cases k2 : kkd s = 126
    · rw [if_pos k2, if_pos (by decide)] at h
      exact p_sign hrc hU hR x0 x1 b0 b1 (.inr (.inr k2)) h
    · rw [if_neg k2, if_neg (by decide)] at h
      have h := bxr hrc (RL_is is_42 hR.1) h
      try dsimp only at h
      by_cases k3 : kkd s = 33
      · rw [if_pos k3, if_pos (by decide)] at h
        exact p_sign hrc hU hR x0 x1 b0 b1 (.inl k3) h
      · rw [if_neg k3, if_neg (by decide)] at h
        rcases bo_inv h with ⟨h9, _⟩ | ⟨z6, t6, h9, h⟩
        · obtain ⟨z, t3, e1, _⟩ := hA T n e N g s t x _ hR x0 x1 b0 b1 k3 k1 k2 h9
          cases e1
        · cases h
          exact hA T n e N g s t x _ hR x0 x1 b0 b1 k3 k1 k2 h9
end SIM
