/-! Programs, in both. -/
section PROGX
variable {T : Nat → Int} {n e N : Nat} {s t s2 t2 : tab} {rc : MRq}
/-- our declaration -/
noncomputable def DCx (s : tab) : RO := if kkd s = 306 then (bo (cG 51 [5] (stp s)) fun z s1 => BDx 1 z s1) else if kkd s = 307 then (bo (cG 51 [6] (stp s)) fun z s1 => BDx 0 z s1) else cG 54 [kkd s] (stp s)
def P128 (rc : MRq) : Prop := ∀ (T : Nat → Int) (n e N : Nat) (s t : tab) (v : Option (Int × tab)), RDx T n e N s t → 300 ≤ kkd s → kkd s ≤ 307 → rc 37 [] t = some v → ODx T n e s (DCx s) v
theorem p_128 (hrc : rle rc rG) (h129 : P129 rc) : ∀ (T : Nat → Int) (n e N : Nat) (s t : tab) (v : Option (Int × tab)), RDx T n e N s t → 300 ≤ kkd s → kkd s ≤ 307 → rM128 rc t = some v → ODx T n e s (DCx s) v := by
  intro T n e N s t v h0 k0 k1 h
  have hL := h0.1.1
  unfold rM128 at h
  have h := bxr hrc (RL_is is_6 hL) h
  try dsimp only at h
  have h := bxr hrc (RL_is is_10 hL) h
  try dsimp only at h
  have h := bxr hrc (RL_is is_18 hL) h
  try dsimp only at h
  unfold DCx
  by_cases k6 : kkd s = 306
  · rw [if_pos k6, if_pos (by decide)] at h
    rw [if_pos k6]
    have := h129 T n e N 1 s t v h0 (by omega) (by omega) (vbo h)
    rw [if_neg (by decide)] at this
    exact this
  rw [if_neg k6, if_neg (by decide)] at h
  rw [if_neg k6]
  have h := bxr hrc (RL_is is_20 hL) h
  try dsimp only at h
  by_cases k7 : kkd s = 307
  · rw [if_pos k7, if_neg (by decide)] at h
    rw [if_pos k7]
    have := h129 T n e N 0 s t v h0 (by omega) (by omega) (vbo h)
    rw [if_pos rfl] at this
    exact this
  rw [if_neg k7, if_pos rfl] at h
  rw [if_neg k7]
  have h := bxr hrc (RL_is is_8 hL) h
  try dsimp only at h
  have stk := RL_stk hL (by omega) (by omega)
  obtain ⟨t9, d1, d2, d3, d4⟩ := RL_step hL (by omega) (by omega)
  have hH := H_lex d2 h0.1.2 stk (by omega) d4
  have hsc := SC_lex h0.2.1 d4
  have hc := DG_lex stk d3
  have hr : DFr N t t9 := DR_lex d4
  rw [cG_75]
  unfold cM75
  by_cases k2 : kkd s = 301
  · rw [if_pos k2, if_neg (by decide)] at h
    rw [if_neg (show ¬ kkd s = 300 by omega), if_pos k2]
    have h := bxr hrc d1 h
    exact p_intd hrc h0 hH hsc hc hr h
  rw [if_neg k2, if_pos rfl] at h
  by_cases k3 : kkd s = 300
  · rw [if_pos k3, if_neg (show ¬ ((1 : Int) = 0) by decide)] at h
    rw [if_pos k3]
    have h := bxr hrc d1 h
    exact p_reg hrc h0 hH hsc hc hr h
  rw [if_neg k3, if_pos rfl] at h
  rw [if_neg k3, if_neg k2]
  by_cases k4 : kkd s = 302
  · rw [if_pos k4, if_neg (show ¬ ((1 : Int) = 0) by decide)] at h
    rw [if_pos k4]
    have h := bxr hrc d1 h
    exact p_arr hrc h0 hH hsc hc hr h
  rw [if_neg k4, if_pos rfl] at h
  rw [if_neg k4]
  have h := bxr hrc (RL_is is_12 hL) h
  try dsimp only at h
  have h := bxr hrc (RL_is is_14 hL) h
  try dsimp only at h
  have h := bxr hrc d1 h
  try dsimp only at h
  by_cases k5 : kkd s = 303
  · rw [if_pos k5, if_neg (show ¬ ((1 : Int) = 0) by decide)] at h
    rw [if_pos k5]
    exact p_ch hrc (w := 2) (c := 2) (L := 8) (D := 6) rfl rfl (by decide) (by decide) (by decide) h0 hH hsc hc hr h
  rw [if_neg k5, if_pos rfl] at h
  rw [if_neg k5]
  by_cases k8 : kkd s = 304
  · rw [if_pos k8, if_neg (show ¬ ((1 : Int) = 0) by decide)] at h
    rw [if_pos k8]
    exact p_ch hrc (w := 3) (c := 3) (L := 4) (D := 7) rfl rfl (by decide) (by decide) (by decide) h0 hH hsc hc hr h
  rw [if_neg k8, if_pos rfl] at h
  rw [if_neg k8]
  exact p_ch hrc (w := 4) (c := 4) (L := 4) (D := 8) rfl rfl (by decide) (by decide) (by decide) h0 hH hsc hc hr h
/-- how a program ends -/
def OPx (X : RO) (v : Option (Int × tab)) : Prop := ∃ z t2, v = some (z, t2) ∧ ((z = 1 ∧ ∃ s2, X = some (some (0, s2)) ∧ s2 131 3 = -2) ∨ (z = 0 ∧ (X = some none ∨ ∃ s2, X = some (some (0, s2)) ∧ 0 ≤ s2 131 3)))
theorem OP_no {X : RO} {t9 : tab} (h : X = some none) : OPx X (some (0, t9)) := ⟨0, t9, rfl, .inr ⟨rfl, .inl h⟩⟩
/-- our BLOCK of the program -/
noncomputable def MNx (s : tab) : RO := bo (cG 45 [0, s 105 3] s) fun _ s3 => if kkd s3 ≠ 3 then some none else some (some (0, s3))
theorem RD_Q (h : RDx T n e N s t) : RQw T n e N (s 131 7, s 131 8, s 131 9) s (rop (rfg t)) ∧ SCb N (N : Int) (rop (rfg t)) := by
  have hin := RL_in h.1.1
  obtain ⟨⟨⟨hT, ⟨x1, x2, x3⟩, l3, l4, l5⟩, ⟨a1, a2, a3, a4, a5⟩, b, c, hpf, ⟨c1, c2, c3, c4⟩, hsu⟩, hsc, p0, s13, s14, r35, r37, m1, m2, m3⟩ := h
  have e16 : (rop (rfg t)) 170 16 = t 170 16 + 1 := by
    show ipl (t 170 16) 1 = _
    exact ipl_e (by omega)
  have e15 : (rop (rfg t)) 170 15 = t 170 16 := rfl
  refine ⟨⟨⟨⟨hT, ⟨x1, x2, x3⟩, l3, l4, l5⟩, ⟨⟨a1, a2, a3, a4, a5⟩, b, fun r h1 h2 => c r h1 (by omega), s13.trans r35.symm, .inl ⟨r37, s14⟩⟩, ?_, ?_, ?_, ?_⟩, hpf, ⟨by rw [e15]; omega, by rw [e15, e16]; omega, by rw [e16]; omega, fun j hj => ?_⟩, hsu, fun q => ?_⟩, by omega, Int.le_refl _, fun j hj => ?_⟩
  · show s 131 7 = lo (s 131 7) (lo 0 0)
    rw [show lo 0 0 = 0 from by decide, lo_comm]
    exact m1.symm
  · show s 131 8 = lo (s 131 8) 0
    rw [lo_comm]
    exact m2.symm
  · show s 131 9 = lo (s 131 9) (pkm 0 0 0)
    rw [show pkm 0 0 0 = 0 from by decide, lo_comm]
    exact m3.symm
  · show MB3 0 0 0
    exact ⟨⟨by decide, by decide⟩, ⟨by decide, by decide⟩, by decide, by decide⟩
  · rw [e16]
    have : 0 ≤ t 176 j ∧ t 176 j < t 170 16 := c4 j hj
    show 0 ≤ t 176 j ∧ t 176 j < t 170 16 + 1
    omega
  · have q : t 170 37 = 1 := q
    omega
  · rw [e15]
    have : 0 ≤ t 176 j ∧ t 176 j < t 170 16 := c4 j hj
    show t 176 j = t 170 16 ↔ _
    exact ⟨fun z => by omega, fun z => by omega⟩
def P233 (rc : MRq) : Prop := ∀ (T : Nat → Int) (n e N : Nat) (y : Int) (s t : tab) (v : Option (Int × tab)), RDx T n e N s t → rc 67 [y] t = some v → OPx (MNx s) v
theorem p_233 (hB : PBx rc) (h233 : P233 rc) : ∀ (T : Nat → Int) (n e N : Nat) (y : Int) (s t : tab) (v : Option (Int × tab)), RDx T n e N s t → rM122_233 rc y t = some v → OPx (MNx s) v := by
  intro T n e N y s t v h0 h
  unfold rM122_233 at h
  by_cases c : t 170 14 ≤ y
  · rw [if_pos c] at h
    obtain ⟨hQ, hsc⟩ := RD_Q h0
    unfold MNx
    rw [show s 105 3 = (N : Int) from h0.1.2.1.1]
    rcases bo_inv h with ⟨h9, _⟩ | ⟨z6, t6, h9, h⟩
    · obtain ⟨z, t9, w1, _⟩ := hB T n e N _ s _ 0 (N : Int) _ hQ hsc (by omega) (by omega) h0.2.2.1 h9
      cases w1
    · obtain ⟨z, t9, w1, w2⟩ := hB T n e N _ s _ 0 (N : Int) _ hQ hsc (by omega) (by omega) h0.2.2.1 h9
      cases w1
      rcases w2 with ⟨rfl, M, s5, t5, f1, f0, f2, f3, f4, f5, f6⟩ | ⟨rfl, f1⟩
      · rw [if_pos (by decide)] at h
        rw [f1, bo_s, ncu_e f3.1.2.1.1.1 f2]
        have e4 : t6 170 4 = rkn (kkd s5) := by
          rw [f0]
          exact RL_k4 f3.1.1
        have e21 : t6 170 21 = t5 170 21 := by
          rw [f0]
          rfl
        have kk : kkd (up2 s5 105 3 (N : Int)) = kkd s5 := rfl
        rw [kk]
        have hpf := f3.2.1
        unfold RPf at hpf
        by_cases k3 : kkd s5 = 3
        · rw [if_pos (show t6 170 4 = 0 by rw [e4, k3]; rfl)] at h
          rw [if_neg (fun q => q k3)]
          by_cases c2 : t6 170 21 < 0
          · rw [if_pos c2] at h
            cases h
            refine ⟨1, _, rfl, .inl ⟨rfl, _, rfl, ?_⟩⟩
            show s5 131 3 = -2
            omega
          · rw [if_neg c2] at h
            cases h
            refine ⟨0, _, rfl, .inr ⟨rfl, .inr ⟨_, rfl, ?_⟩⟩⟩
            show 0 ≤ s5 131 3
            omega
        · rw [if_neg (show ¬ t6 170 4 = 0 from fun q => k3 (rkn_0 (e4.symm.trans q)))] at h
          rw [if_pos k3]
          cases h
          exact OP_no rfl
      · rw [if_neg (by decide)] at h
        cases h
        refine OP_no ?_
        rw [f1]
        rfl
  · rw [if_neg c] at h
    exact h233 T n e N (y + 1) s t v h0 h
def P142 (rc : MRq) : Prop := ∀ (T : Nat → Int) (n e N : Nat) (y : Int) (s t : tab) (v : Option (Int × tab)), RDx T n e N s t → 0 ≤ y → y ≤ s 137 5 → rc 66 [] t = some v → OPx (cG 71 [y] s) v
/-- our loop, at a declaration -/
theorem c_42y {y : Int} (h1 : y < 2000) (h2 : 300 ≤ kkd s) (h3 : kkd s ≤ 307) : cG 71 [y] s = bo (DCx s) fun _ s2 => cG 71 [y + 1] s2 := by
  rw [cG_20_42]
  conv => lhs; unfold cM20_42
  rw [if_neg (show ¬ (2000 ≤ y) by omega), if_neg (show ¬ (kkd s < 300) by omega), if_neg (show ¬ (307 < kkd s) by omega)]
  unfold DCx
  by_cases k6 : kkd s = 306
  · rw [if_pos k6, if_pos k6, if_pos (show kkd s ≠ 307 by omega), bo_as]
    congr 1
    funext z1 s1
    unfold BDx
    rw [bo_as, if_neg (show ¬ ((1 : Int) = 0) by decide)]
  · rw [if_neg k6, if_neg k6]
    by_cases k7 : kkd s = 307
    · rw [if_neg (show ¬ (kkd s ≠ 307) from fun q => q k7), if_pos k7, bo_as]
      congr 1
      funext z1 s1
      unfold BDx
      rw [bo_as, if_pos rfl]
    · rw [if_pos k7, if_neg k7]
theorem c_42n {y : Int} (h : kkd s < 300 ∨ 307 < kkd s) : cG 71 [y] s = MNx s := by
  rw [cG_20_42]
  unfold cM20_42 MNx
  by_cases h1 : 2000 ≤ y
  · rw [if_pos h1]
  · rw [if_neg h1]
    by_cases h2 : kkd s < 300
    · rw [if_pos h2]
    · rw [if_neg h2, if_pos (show 307 < kkd s by omega)]
theorem p_dcl (h128 : P128 rc) (h142 : P142 rc) {y : Int} {v : Option (Int × tab)} (h0 : RDx T n e N s t) (y0 : 0 ≤ y) (y1 : y ≤ s 137 5) (k0 : 300 ≤ kkd s) (k1 : kkd s ≤ 307) (h : (bo (rc 37 [] t) fun z3 t3 => if z3 ≠ 0 then rc 66 [] t3 else some (some (0, t3))) = some v) : OPx (cG 71 [y] s) v := by
  have hL := h0.1.1
  have hy : y < 2000 := by
    have hk := RL_kk hL
    have hin := RL_in hL
    have he := hL.1.2.2.1
    have h1 := hL.1.1
    have h2 := hL.1.2.1
    have : (s 137 5).toNat ≠ e := fun q => by rw [q] at hk; omega
    omega
  rw [c_42y hy k0 k1]
  rcases bo_inv h with ⟨h9, _⟩ | ⟨z6, t6, h9, h⟩
  · obtain ⟨z, t9, w1, _⟩ := h128 T n e N s t _ h0 k0 k1 h9
    cases w1
  · obtain ⟨z, t9, w1, w2⟩ := h128 T n e N s t _ h0 k0 k1 h9
    cases w1
    rcases w2 with ⟨rfl, M, s5, f1, f2, f3⟩ | ⟨rfl, f1⟩
    · rw [if_pos (by decide)] at h
      rw [f1, bo_s]
      exact h142 T n e M (y + 1) s5 t6 v f2 (by omega) (by omega) h
    · rw [if_neg (by decide)] at h
      cases h
      refine OP_no ?_
      rw [f1]
      rfl
theorem p_142 (hrc : rle rc rG) (h128 : P128 rc) (h233 : P233 rc) (h142 : P142 rc) : ∀ (T : Nat → Int) (n e N : Nat) (y : Int) (s t : tab) (v : Option (Int × tab)), RDx T n e N s t → 0 ≤ y → y ≤ s 137 5 → rM122_142 rc t = some v → OPx (cG 71 [y] s) v := by
  intro T n e N y s t v h0 y0 y1 h
  have hL := h0.1.1
  unfold rM122_142 at h
  have h := bxr hrc (RL_is is_6 hL) h
  try dsimp only at h
  by_cases k0 : kkd s = 300
  · rw [if_pos k0, if_pos (by decide)] at h
    exact p_dcl h128 h142 h0 y0 y1 (by omega) (by omega) h
  rw [if_neg k0, if_neg (by decide)] at h
  have h := bxr hrc (RL_is is_8 hL) h
  try dsimp only at h
  by_cases k1 : kkd s = 301
  · rw [if_pos k1, if_pos (by decide)] at h
    exact p_dcl h128 h142 h0 y0 y1 (by omega) (by omega) h
  rw [if_neg k1, if_neg (by decide)] at h
  have h := bxr hrc (RL_is is_10 hL) h
  try dsimp only at h
  by_cases k2 : kkd s = 302
  · rw [if_pos k2, if_pos (by decide)] at h
    exact p_dcl h128 h142 h0 y0 y1 (by omega) (by omega) h
  rw [if_neg k2, if_neg (by decide)] at h
  have h := bxr hrc (RL_is is_12 hL) h
  try dsimp only at h
  by_cases k3 : kkd s = 303
  · rw [if_pos k3, if_pos (by decide)] at h
    exact p_dcl h128 h142 h0 y0 y1 (by omega) (by omega) h
  rw [if_neg k3, if_neg (by decide)] at h
  have h := bxr hrc (RL_is is_14 hL) h
  try dsimp only at h
  by_cases k4 : kkd s = 304
  · rw [if_pos k4, if_pos (by decide)] at h
    exact p_dcl h128 h142 h0 y0 y1 (by omega) (by omega) h
  rw [if_neg k4, if_neg (by decide)] at h
  have h := bxr hrc (RL_is is_16 hL) h
  try dsimp only at h
  by_cases k5 : kkd s = 305
  · rw [if_pos k5, if_pos (by decide)] at h
    exact p_dcl h128 h142 h0 y0 y1 (by omega) (by omega) h
  rw [if_neg k5, if_neg (by decide)] at h
  have h := bxr hrc (RL_is is_18 hL) h
  try dsimp only at h
  by_cases k6 : kkd s = 306
  · rw [if_pos k6, if_pos (by decide)] at h
    exact p_dcl h128 h142 h0 y0 y1 (by omega) (by omega) h
  rw [if_neg k6, if_neg (by decide)] at h
  have h := bxr hrc (RL_is is_20 hL) h
  try dsimp only at h
  by_cases k7 : kkd s = 307
  · rw [if_pos k7, if_neg (by decide)] at h
    exact p_dcl h128 h142 h0 y0 y1 (by omega) (by omega) h
  rw [if_neg k7, if_pos rfl] at h
  rw [c_42n (by omega)]
  exact h233 T n e N 0 s t v h0 h
end PROGX
