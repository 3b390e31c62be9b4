/-! Both read the same texts. -/
section READX
variable {T : Nat → Int} {n e N : Nat} {s t s2 t2 : tab} {rc : MRq}
/-- all of reading -/
def PSA (rc : MRq) : Prop := PEA rc ∧ PTx rc ∧ PNLx rc ∧ PNx rc ∧ PSx rc ∧ P58 rc ∧ P26 rc ∧ PBx rc ∧ P143 rc ∧ P153 rc ∧ P154 rc ∧ PPx rc ∧ P273 rc ∧ P134 rc ∧ P53 rc ∧ P44 rc ∧ P12 rc ∧ PYx rc ∧ P277 rc ∧ P131 rc ∧ P129 rc ∧ P128 rc ∧ P233 rc ∧ P142 rc
theorem p_SA (hrc : rle rc rG) (h : PSA rc) : PSA (rB rc) := by
  obtain ⟨hE, hT, hNL, hN, hS, h58, h26, hB, h143, h153, h154, hP, h273, h134, h53, h44, h12, hY, h277, h131, h129, h128, h233, h142⟩ := h
  have hE2 := hE
  obtain ⟨hU, hA, hX, hL, hM, hCL, hC, hI, hJ⟩ := hE2
  refine ⟨p_EA hrc hE, ?_, ?_, ?_, ?_, ?_, ?_, ?_, ?_, ?_, ?_, ?_, ?_, ?_, ?_, ?_, ?_, ?_, ?_, ?_, ?_, ?_, ?_, ?_⟩
  · exact p_T hrc hX
  · exact p_NL hrc hX hT hC
  · exact p_N hrc hNL
  · exact p_Sx hrc hB h143 h153 h154 hP hN
  · exact p_58 hrc hS h58
  · exact p_26 hrc h58 h26
  · exact p_B hrc h26
  · exact p_143 hrc hX hS
  · exact p_153 hrc hX hS
  · exact p_154 hrc hS
  · exact p_P hrc h53
  · exact p_273 hrc h134
  · exact p_134 hrc hS h273
  · exact p_53 h134 h53
  · exact p_44 hrc hX hS h44
  · exact p_12 hrc h44 h12
  · exact p_Y hrc h12
  · exact p_277 h277
  · exact p_131 hrc hY hB h277 h131
  · exact p_129 hrc h131
  · exact p_128 hrc h129
  · exact p_233 hrc hB h233
  · exact p_142 hrc h128 h233 h142
theorem p_SA0 : ∀ f, PSA (it rB f)
  | 0 => by
    refine ⟨p_EA0 0, ?_, ?_, ?_, ?_, ?_, ?_, ?_, ?_, ?_, ?_, ?_, ?_, ?_, ?_, ?_, ?_, ?_, ?_, ?_, ?_, ?_, ?_, ?_⟩
    · unfold PTx; intros; rename_i h; cases h
    · unfold PNLx; intros; rename_i h; cases h
    · unfold PNx; intros; rename_i h; cases h
    · unfold PSx; intros; rename_i h; cases h
    · unfold P58; intros; rename_i h; cases h
    · unfold P26; intros; rename_i h; cases h
    · unfold PBx; intros; rename_i h; cases h
    · unfold P143; intros; rename_i h; cases h
    · unfold P153; intros; rename_i h; cases h
    · unfold P154; intros; rename_i h; cases h
    · unfold PPx; intros; rename_i h; cases h
    · unfold P273; intros; rename_i h; cases h
    · unfold P134; intros; rename_i h; cases h
    · unfold P53; intros; rename_i h; cases h
    · unfold P44; intros; rename_i h; cases h
    · unfold P12; intros; rename_i h; cases h
    · unfold PYx; intros; rename_i h; cases h
    · unfold P277; intros; rename_i h; cases h
    · unfold P131; intros; rename_i h; cases h
    · unfold P129; intros; rename_i h; cases h
    · unfold P128; intros; rename_i h; cases h
    · unfold P233; intros; rename_i h; cases h
    · unfold P142; intros; rename_i h; cases h
  | f + 1 => p_SA (it_rG f) (p_SA0 f)
theorem ncu_o {x : Int} (k j : Nat) (h : ¬ (k = 105 ∧ j = 3)) : (ncu s x) k j = s k j := by
  unfold ncu
  split
  · exact if_neg h
  · rfl
theorem cst_o (k j : Nat) (h : k ≠ 105 ∧ k ≠ 109 ∧ k ≠ 99) (h2 : ¬ (k = 131 ∧ (j = 3 ∨ j = 6 ∨ j = 13 ∨ j = 14))) : (cst s) k j = s k j := by
  unfold cst ccl
  exact (if_neg (by omega)).trans ((if_neg (by omega)).trans ((if_neg (by omega)).trans ((if_neg (by omega)).trans ((if_neg (by omega)).trans ((if_neg (by omega)).trans ((if_neg (by omega)).trans ((if_neg (by omega)).trans ((if_neg (by omega)).trans ((if_neg (by omega)).trans ((if_neg (by omega)).trans ((if_neg (by omega)).trans (ncu_o k j (by omega)))))))))))))
/-- the reference's table as it begins to read -/
def r00 (t : tab) : tab := up2 (up2 (up2 (up2 (up2 (up2 (up2 (up2 (up2 (up2 (up2 (up2 (up2 (up2 (up2 (up2 (up2 (up2 (up2 t 177 1 0) 177 3 0) 177 4 0) 177 5 0) 177 6 0) 177 7 0) 177 8 0) 177 9 0) 177 10 0) 170 2 (t 170 1)) 170 1 0) 170 3 0) 170 21 (-1)) 170 14 0) 170 15 0) 170 16 1) 170 35 (-1)) 170 37 0) 170 36 0
theorem p_prog {v : Option (Int × tab)} (hC : CSc T n (cst s)) (h105 : 0 ≤ s 105 3) (hR : RTx T n (r00 t)) (hM : MLx s) (h : rG 38 [] t = some v) : OGx (cG 55 [] s) v := by
  rw [rG_122] at h
  unfold rM122 at h
  obtain ⟨t2, a1, a2, a3⟩ := r_step (q := 0) hR rfl (Nat.zero_le _)
  have a1 : rG 4 [] (r00 t) = some (some (0, t2)) := a1
  have h : (bo (rG 4 [] (r00 t)) fun z22 t22 => rG 66 [] t22) = some v := h
  rw [a1, bo_s] at h
  obtain ⟨s2, e, g1, g2, g3, g4, g5⟩ := cs_scan hC
  have hX : cG 55 [] s = cG 71 [0] s2 := by
    rw [cG_20]
    unfold cM20
    show (bo (cG 13 [] (cst s)) fun z6 t6 => cG 71 [0] t6) = _
    rw [g1, bo_s]
  rw [hX]
  have cs : ∀ k j, k ≠ 137 → k ≠ 139 → k ≠ 140 → k ≠ 141 → s2 k j = (cst s) k j := g4
  have rs : ∀ k j, ¬ lexs k j → t2 k j = (r00 t) k j := a3
  have c105 : s2 105 3 = 0 := by
    rw [cs 105 3 (by omega) (by omega) (by omega) (by omega)]
    show (ncu s 0) 105 3 = 0
    unfold ncu
    split
    · exact up_self
    · omega
  have c109 : ∀ c, c < 6 → s2 109 c = 0 := fun c hc => by
    rw [cs 109 c (by omega) (by omega) (by omega) (by omega)]
    have : c = 0 ∨ c = 1 ∨ c = 2 ∨ c = 3 ∨ c = 4 ∨ c = 5 := by omega
    rcases this with z | z | z | z | z | z <;> subst z <;> rfl
  have r177 : ∀ c, c < 6 → t2 177 (4 + c) = 0 := fun c hc => by
    rw [rs 177 (4 + c) (by unfold lexs; omega)]
    have : c = 0 ∨ c = 1 ∨ c = 2 ∨ c = 3 ∨ c = 4 ∨ c = 5 := by omega
    rcases this with z | z | z | z | z | z <;> subst z <;> rfl
  have m0 : ∀ j, j ≠ 3 → j ≠ 6 → j ≠ 13 → j ≠ 14 → s2 131 j = s 131 j := fun j z1 z2 z3 z4 => (cs 131 j (by omega) (by omega) (by omega) (by omega)).trans (cst_o 131 j (by omega) (by omega))
  have m3 : s2 131 3 = -2 := (cs 131 3 (by omega) (by omega) (by omega) (by omega)).trans rfl
  have m6 : s2 131 6 = 0 := (cs 131 6 (by omega) (by omega) (by omega) (by omega)).trans rfl
  have m13 : s2 131 13 = -1 := (cs 131 13 (by omega) (by omega) (by omega) (by omega)).trans rfl
  have m14 : s2 131 14 = 0 := (cs 131 14 (by omega) (by omega) (by omega) (by omega)).trans rfl
  have r14 : t2 170 14 = 0 := (rs 170 14 (by unfold lexs; omega)).trans rfl
  have r15 : t2 170 15 = 0 := (rs 170 15 (by unfold lexs; omega)).trans rfl
  have r16 : t2 170 16 = 1 := (rs 170 16 (by unfold lexs; omega)).trans rfl
  have r21 : t2 170 21 = -1 := (rs 170 21 (by unfold lexs; omega)).trans rfl
  have r35 : t2 170 35 = -1 := (rs 170 35 (by unfold lexs; omega)).trans rfl
  have r37 : t2 170 37 = 0 := (rs 170 37 (by unfold lexs; omega)).trans rfl
  have hD : RDx T n e 0 s2 t2 := by
    refine ⟨⟨⟨g2, RTx_fr hR a3, by omega, by rw [g3]; exact Nat.zero_le _, ?_⟩, ⟨c105, r14, ⟨by omega, fun i j _ hj => absurd hj (Nat.not_lt_zero _)⟩, fun j hj => absurd hj (Nat.not_lt_zero _), fun j hj => absurd hj (Nat.not_lt_zero _)⟩, fun c hc => ?_, fun r hr => ?_, .inl ⟨m3, r21⟩, ⟨by omega, by omega, by omega, fun j hj => absurd hj (Nat.not_lt_zero _)⟩, ?_⟩, ⟨Int.le_refl _, Int.le_refl _, fun j hj => absurd hj (Nat.not_lt_zero _)⟩, m6, m13, m14, r35, r37, ?_⟩
    · rw [g3]
      exact a2
    · rw [r177 c hc, c109 c hc]
      have : c = 0 ∨ c = 1 ∨ c = 2 ∨ c = 3 ∨ c = 4 ∨ c = 5 := by omega
      refine ⟨rfl, Int.le_refl _, ?_⟩
      rcases this with z | z | z | z | z | z <;> subst z <;> decide
    · rw [c109 5 (by omega)] at hr
      omega
    · unfold RSu
      rw [c109 0 (by omega), c109 1 (by omega), c109 2 (by omega), c109 3 (by omega), c109 4 (by omega), c109 5 (by omega)]
      decide
    · unfold MLx
      rw [m0 7 (by omega) (by omega) (by omega) (by omega), m0 8 (by omega) (by omega) (by omega) (by omega), m0 9 (by omega) (by omega) (by omega) (by omega)]
      exact hM
  have hGD : GDy (((fun _ => 0), (fun _ => NOc), fun _ => False), fun _ => 0) s2 t2 := by
    have c12 : s2 99 12 = 0 := (cs 99 12 (by omega) (by omega) (by omega) (by omega)).trans rfl
    have d1 : t2 177 1 = 0 := (rs 177 1 (by unfold lexs; omega)).trans rfl
    have d10 : t2 177 10 = 0 := (rs 177 10 (by unfold lexs; omega)).trans rfl
    refine ⟨⟨by omega, by omega, by omega, by omega, by omega, by omega⟩, fun j hj => ?_, fun r hr => ?_, ?_⟩
    · rw [c105] at hj
      omega
    · rw [c109 5 (by omega)] at hr
      omega
    · rw [d10]
      exact ⟨rfl, Nat.zero_le _⟩
  have hRB : RBx s2 t2 := by
    refine ⟨fun v hv => ?_, fun v hv => ?_⟩
    · rw [c109 0 (by omega)] at hv
      omega
    · rw [c109 1 (by omega)] at hv
      omega
  obtain ⟨f, hf⟩ := lim_ex h
  exact (p_SA0 f).2.2.2.2.2.2.2.2.2.2.2.2.2.2.2.2.2.2.2.2.2.2.2 T n e 0 0 s2 t2 v hD ⟨_, hGD⟩ hRB (by omega) (by omega) hf
end READX
