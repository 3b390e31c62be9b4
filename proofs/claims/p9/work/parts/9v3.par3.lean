/-! par, in both: all of it. -/
section PAR3
variable {T : Nat → Int} {n e N : Nat} {g : Gtt} {s t s2 t2 : tab} {rc : MRq}
theorem MK_stp (h : RLx T n e s t) (h3 : kkd s ≠ 3) (h4 : kkd s ≠ 4) (hg : rG 4 [] t = some (some (0, t2))) : ∀ k j, ¬ lexs k j → t2 k j = t k j := by
  obtain ⟨t3, a1, _, _, a4⟩ := RL_step h h3 h4
  rw [hg] at a1
  cases a1
  exact a4
theorem MK_take {q c : Int} (h : REx T n e N g s t) (hq : ∀ {p : Nat}, RTx T n t → RTk T n p t → p ≤ n → rG 5 [q] t = some (some (if kd T n p = c then 1 else 0, t))) (hc : c ≠ 3 ∧ c ≠ 4) (hk : kkd s = c) (hg : rG 8 [q] t = some (some (1, t2))) : ∀ k j, ¬ lexs k j → t2 k j = t k j := by
  have hi := RL_is hq h.1
  rw [rG_136] at hg
  unfold rM136 at hg
  rw [hi, bo_s, if_pos hk, if_pos (by decide)] at hg
  obtain ⟨t3, a1, _⟩ := RE_step h (by omega) (by omega)
  rw [a1] at hg
  cases hg
  exact MK_stp h.1 (by omega) (by omega) a1
theorem p_134 (hrc : rle rc rG) (hS : PSx rc) (h273 : P273 rc) : ∀ (T : Nat → Int) (n e N : Nat) (g gx : Gtt) (s0 t0 s t : tab) (x pl y3 y4 y6 y16 y17 a3 a5 a7 y7 y9 y11 y13 y15 c9 c11 c13 r17 r19 r21 r23 r25 w : Int) (m : Nat) (v : Option (Int × tab)), RQx T n e N gx s t → gx.2.2.2.1 = g.2.2.2.1 → gx.2.2.2.2.1 = g.2.2.2.2.1 → 1 ≤ x → x ≤ 20 → s 131 6 = 0 → 0 ≤ pl → m ≤ 6 → (m ≠ 0 → kkd s = 124) → y3 = t0 177 1 + 2 → y4 = t0 177 1 + 3 → y6 = t0 177 1 + 10 → YM t0 y7 y9 y11 y13 y15 → SAV g a3 a5 a7 y7 y9 y11 y13 y15 → ACC c9 c11 c13 r17 r19 r21 r23 r25 → PRx g s0 t0 s t m y16 y17 r17 r19 r21 r23 r25 w → rM155_134 rc (x - 1) pl y3 y4 (m : Int) y6 y7 y9 y11 y13 y15 r17 r19 r21 r23 r25 w t = some v → OPx T n e N g s0 t0 s t (if m = 0 then WBx x pl a3 a5 a7 c9 c11 c13 w y16 y17 0 s else cG 69 [x, pl, a3, a5, a7, c9, c11, c13, w, y16, y17, (m : Int)] s) v := by
  intro T n e N g gx s0 t0 s t x pl y3 y4 y6 y16 y17 a3 a5 a7 y7 y9 y11 y13 y15 c9 c11 c13 r17 r19 r21 r23 r25 w m v hQ hg1 hg2 x0 x1 p0 pl0 m1 hk hy3 hy4 hy6 hY hs ha hP h
  unfold rM155_134 at h
  by_cases m6 : (m : Int) ≠ 6
  · rw [if_pos m6] at h
    by_cases mz : (m : Int) ≤ 0
    · rw [if_pos mz] at h
      have e0 : m = 0 := by omega
      rw [if_pos e0]
      subst e0
      exact p_br (m := 0) hS h273 hQ hg1 hg2 x0 x1 p0 pl0 (Nat.zero_le _) hy3 hy4 hy6 hY hs ha hP h
    · rw [if_neg mz] at h
      rw [if_neg (by omega)]
      have k1 := hk (by omega)
      obtain ⟨t2, a1, a2, a4, a5', a6⟩ := RE_step hQ.1 (by omega) (by omega)
      have pst := PF_stp hQ.1.1 (by omega) (by omega) a1
      have hQ2 := RQ_E hQ a2 a4 a5'
      have h := bxr hrc a1 h
      try dsimp only at h
      rw [c_par1 (by omega) (by omega)]
      have hex : cG 29 [124] s = some (some (0, stp s)) := by
        rw [cG_43]
        unfold cM43
        exact if_neg (fun q => q k1)
      rw [hex, bo_s]
      exact OP_pre (p_br hS h273 hQ2 hg1 hg2 x0 x1 (by rw [a4.2.1]; exact p0) pl0 (by omega) hy3 hy4 hy6 hY hs ha (PR_pw hP (by omega) pst (by omega) (FB_E a4 a5')) h) (FSc_E a4) (FSr_E a5')
  · rw [if_neg m6] at h
    cases h
    rw [if_neg (by omega)]
    refine OP_no ?_
    have k1 := hk (by omega)
    rw [c_par2 (by omega) (.inl (by omega)), cG_43]
    unfold cM43
    rw [if_pos (show kkd s ≠ 125 by omega)]
    rfl
/-- while a par's table is written: k rows of it -/
def PZx (g : Gtt) (s0 t0 s t : tab) (k : Nat) : Prop := (t 177 1 = t0 177 1 + 3 + (k : Int) ∧ s 99 12 = s0 99 12 ∧ t 177 10 = t0 177 10 ∧ s 137 5 = s0 137 5 + 2 ∧ t 178 (t0 177 1).toNat = 0 ∧ t 178 ((t0 177 1).toNat + 1) = 19) ∧ PQx s0 t0 s t ∧ (∀ j, 22 ≤ j → j ≤ 26 → t 170 j = t0 170 j) ∧ FBx s0 t0 s t ∧ PBs g s0 t0
def P53 (rc : MRq) : Prop := ∀ (T : Nat → Int) (n e N : Nat) (g : Gtt) (s0 t0 s t : tab) (x pl y3 y4 y : Int) (k : Nat) (v : Option (Int × tab)), RQx T n e N g s t → 1 ≤ x → x ≤ 20 → s 131 6 = 0 → 0 ≤ pl → y3 = t0 177 1 + 2 → y4 = t0 177 1 + 3 → y = (k : Int) → k ≤ 6 → PZx g s0 t0 s t k → rc 58 [x - 1, pl, y3, y4, 0, y] t = some v → OPx T n e N g s0 t0 s t (WBx x pl (s 131 7) (s 131 8) (s 131 9) 0 0 0 0 (-1) (-1) 0 s) v
theorem p_53 (h134 : P134 rc) (h53 : P53 rc) : ∀ (T : Nat → Int) (n e N : Nat) (g : Gtt) (s0 t0 s t : tab) (x pl y3 y4 y : Int) (k : Nat) (v : Option (Int × tab)), RQx T n e N g s t → 1 ≤ x → x ≤ 20 → s 131 6 = 0 → 0 ≤ pl → y3 = t0 177 1 + 2 → y4 = t0 177 1 + 3 → y = (k : Int) → k ≤ 6 → PZx g s0 t0 s t k → rM155_53 rc (x - 1) pl y3 y4 0 y t = some v → OPx T n e N g s0 t0 s t (WBx x pl (s 131 7) (s 131 8) (s 131 9) 0 0 0 0 (-1) (-1) 0 s) v := by
  intro T n e N g s0 t0 s t x pl y3 y4 y k v hQ x0 x1 p0 pl0 hy3 hy4 hy hk6 hz h
  obtain ⟨⟨z1, z2, z3, z4, z5, z6⟩, b1, mk, fb, e1, e2, e3, e4, e5, e6, e7⟩ := hz
  have hin := RL_in hQ.1.1
  unfold rM155_53 at h
  by_cases y6 : 6 ≤ y
  · rw [if_pos y6] at h
    have ek : k = 6 := by omega
    subst ek
    obtain ⟨c1, c2, c3⟩ := pt2_cw (t := t) 9 0 (by omega)
    have hp1 := (pt1_cw (t := t) 9 (by omega)).1.1
    have hpz : ptz (pt1 t 9) = t0 177 1 + 10 := by rw [ptz_e (by omega)]; omega
    rw [hpz] at h
    obtain ⟨t3, ht3⟩ : ∃ t3, t3 = pt2 t 9 0 := ⟨_, rfl⟩
    rw [← ht3] at c1 c2 c3
    rw [show pt1 (pt1 t 9) 0 = t3 by rw [ht3]; rfl] at h
    have ec := c1.1
    obtain ⟨r1, r2, r3, r4⟩ := RE_cw hQ.1 c1 (by omega)
    have hQ3 := RQ_E hQ r1 FEc_rf r2
    have mk3 : ∀ j, 22 ≤ j → j ≤ 26 → t3 170 j = t 170 j := fun j q1 q2 => CW_k c1 (by omega)
    have pq3 : PQx s0 t0 s t3 := PQ_tr b1 (PQ_F r3)
    have := h134 T n e N g g s0 t0 s t3 x pl y3 y4 (t0 177 1 + 10) (-1) (-1) (s 131 7) (s 131 8) (s 131 9) _ _ _ _ _ 0 0 0 _ _ _ _ _ _ 0 v hQ3 rfl rfl x0 x1 p0 pl0 (by omega) (fun q => absurd rfl q) hy3 hy4 rfl ⟨mk 22 (by omega) (by omega), mk 23 (by omega) (by omega), mk 24 (by omega) (by omega), mk 25 (by omega) (by omega), mk 26 (by omega) (by omega)⟩ hQ.1.2.2.1 ⟨by decide, rfl, by decide, ⟨by decide, by decide⟩, ⟨by decide, by decide⟩, by decide, by decide⟩ ⟨⟨fun q qw => ?_, ⟨?_, ?_, ?_⟩, by omega, fun _ => ⟨rfl, rfl, z2, by omega, by omega⟩, fun q => absurd q (by omega), ⟨fun k q => absurd q mbt_0, fun v q => q.elim (fun w => absurd w mbt_0) (fun w => absurd w mbt_0), fun _ v => ⟨fun w => absurd w mbt_0, fun w => absurd w mbt_0⟩⟩, .inl rfl⟩, pq3, ⟨by omega, by omega, by omega⟩, FB_tr fb (FB_E FEc_rf r2), e1, e2, e3, e4, e5, e6, e7⟩ h
    · rw [if_pos rfl] at this
      exact OP_pre this FSc_rf (FSr_E r2)
    · rw [show (s 99 12).toNat = (s0 99 12).toNat by omega, show (t3 177 1).toNat = (t0 177 1).toNat + 11 by omega, show (t3 177 10).toNat = (t0 177 10).toNat by omega]
      exact ROW0 (.inr (.inr rfl))
    · rw [c1.2 178 _ (by omega) (by omega)]
      exact z5
    · rw [c1.2 178 _ (by omega) (by omega)]
      exact z6
    · rw [show (t0 177 1).toNat + 9 = (t 177 1).toNat by omega]
      exact c2
  · rw [if_neg y6] at h
    obtain ⟨c1, c2⟩ := pt1_cw (t := t) 0 (by omega)
    obtain ⟨t3, ht3⟩ : ∃ t3, t3 = pt1 t 0 := ⟨_, rfl⟩
    rw [← ht3] at c1 c2 h
    have ec := c1.1
    obtain ⟨r1, r2, r3, r4⟩ := RE_cw hQ.1 c1 (by omega)
    have hQ3 := RQ_E hQ r1 FEc_rf r2
    refine OP_pre (h53 T n e N g s0 t0 s t3 x pl y3 y4 (y + 1) (k + 1) v hQ3 x0 x1 p0 pl0 hy3 hy4 (by omega) (by omega) ⟨⟨by omega, z2, by omega, z4, ?_, ?_⟩, PQ_tr b1 (PQ_F r3), fun j q1 q2 => (CW_k c1 (by omega)).trans (mk j q1 q2), FB_tr fb (FB_E FEc_rf r2), e1, e2, e3, e4, e5, e6, e7⟩ h) FSc_rf (FSr_E r2)
    · rw [c1.2 178 _ (by omega) (by omega)]
      exact z5
    · rw [c1.2 178 _ (by omega) (by omega)]
      exact z6
/-- par(..) -/
theorem p_P (hrc : rle rc rG) (h53 : P53 rc) : ∀ (T : Nat → Int) (n e N : Nat) (g : Gtt) (s t : tab) (x : Int) (v : Option (Int × tab)), RQx T n e N g s t → 1 ≤ x → x ≤ 20 → s 131 6 = 0 → kkd s = 312 → rM155 rc (x - 1) t = some v → OSx T n e N g s t (cG 48 [x] s) v := by
  intro T n e N g s t x v hQ x0 x1 p0 hk h
  unfold rM155 at h
  obtain ⟨u1, u2, u3, u4, u5, u6, u7⟩ := hQ.1.2.2.2.1
  have hin0 := RL_in hQ.1.1
  obtain ⟨cw0, cw00⟩ := prt_cw (t := t) (by omega)
  obtain ⟨t2, a1, a2, a3, a4, a5, a6, a7, a8, a9, a10⟩ := RE_wst hQ.1 cw0 (by omega) (show kkd s ≠ 3 by omega) (show kkd s ≠ 4 by omega)
  have hQ2 := RQ_E hQ a2 a3 a4
  have h := bxr hrc a1 h
  try dsimp only at h
  have e5 : t 170 5 = plc s := by rw [RL_pl hQ.1.1]; exact hQ.1.1.2.2.2.2.1
  have pl0 : 0 ≤ plc s := by rw [RL_pl hQ.1.1]; omega
  rw [cG_70]
  unfold cM70
  rw [c_par0 (by omega)]
  rcases RE_take a2 is_28 (by decide) with ⟨t7, c1, c2, c3, c4, c5, c6, c7⟩ | ⟨c1, c2, c3⟩
  · have pt := PF_take a2 is_28 (by decide) c2 c1
    have pt1' := pt.2.1
    have pt2' := pt.2.2.1
    have pt3' := pt.2.2.2
    have h := bxr hrc c1 h
    try dsimp only at h
    rw [if_pos (by decide)] at h
    have hQ4 := RQ_E hQ2 c4 c5 c6
    rw [c3, bo_s]
    have e7 : ∀ j, (stp (stp s)) 131 j = s 131 j := fun j => by
      rw [stp_e a2.1 (by omega) (by omega)]
      show (stp s) 131 j = s 131 j
      rw [stp_e hQ.1.1 (by omega) (by omega)]
      rfl
    have hin7 := RL_in c4.1
    obtain ⟨d1, d2, d3⟩ := pt2_cw (t := t7) 19 0 (by omega)
    have hp1 := (pt1_cw (t := t7) 19 (by omega)).1.1
    have hpz : ptz (pt1 t7 19) = t 177 1 + 2 := by rw [ptz_e (by omega)]; omega
    obtain ⟨t8, ht8⟩ : ∃ t8, t8 = pt2 t7 19 0 := ⟨_, rfl⟩
    rw [← ht8] at d1 d2 d3
    rw [show pt1 (pt1 t7 19) 0 = t8 by rw [ht8]; rfl, hpz, e5] at h
    have ec := d1.1
    obtain ⟨r1, r2, r3, r4⟩ := RE_cw c4 d1 (by omega)
    have hQ8 := RQ_E hQ4 r1 FEc_rf r2
    have pfx : PFx s t (stp (stp s)) t8 := PF_tr a6 (PF_tr pt.1 r3)
    have := h53 T n e N g s t (stp (stp s)) t8 x (plc s) (t 177 1 + 2) (t8 177 1) 0 0 v hQ8 x0 x1 (by rw [e7]; exact p0) pl0 rfl (by omega) (by omega) (by omega) ⟨⟨by omega, by omega, by omega, by omega, ?_, ?_⟩, PQ_F pfx, fun j q1 q2 => ?_, FB_tr (FB_E a3 a4) (FB_tr (FB_E c5 c6) (FB_E FEc_rf r2)), u1, by omega, u3, u4, u5, u7, hQ.1.2.2.2.2.1⟩ h
    · rw [e7, e7, e7] at this
      have := OP_pre this (FSc_tr (FSc_E a3) (FSc_E c5)) (FSr_tr (FSr_E a4) (FSr_tr (FSr_E c6) (FSr_E r2)))
      exact this
    · rw [d1.2 178 _ (by omega) (by omega), pt.1.2.1.2 _ (by omega), a10]
      exact cw00
    · rw [show (t 177 1).toNat + 1 = (t7 177 1).toNat by omega]
      exact d2
    · rw [CW_k d1 (by omega), MK_take a2 is_28 (by decide) c2 c1 170 j (by unfold lexs; omega), MK_stp (RL_fr (s2 := s) hQ.1.1 rfl (fun _ _ _ => rfl) (fun k j q => CW_k cw0 (by omega))) (by omega) (by omega) a1 170 j (by unfold lexs; omega)]
      exact CW_k cw0 (by omega)
  · have h := bxr hrc c1 h
    try dsimp only at h
    rw [if_neg (by decide)] at h
    cases h
    refine OS_no ?_
    rw [c3]
    rfl
end PAR3
