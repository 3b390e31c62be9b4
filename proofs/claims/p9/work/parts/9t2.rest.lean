/-! STATEMENTS but par, in both: the rest. -/
section STT2
variable {T : Nat → Int} {n e N : Nat} {g : Gtt} {s t s2 t2 : tab} {rc : MRq}
def P153 (rc : MRq) : Prop := ∀ (T : Nat → Int) (n e N : Nat) (g : Gtt) (s t : tab) (x : Int) (v : Option (Int × tab)), RQx T n e N g s t → 1 ≤ x → x ≤ 20 → s 131 6 = 0 → kkd s = 310 → rc 31 [x - 1] t = some v → OSx T n e N g s t (bo (cG 38 [x] s) fun z1 s1 => bo (cG 46 [x + 1] s1) fun z3 s2 => some (some (cadz s2, cad s2 310 z1 z3 (-1)))) v
theorem p_153 (hrc : rle rc rG) (hX : PXx rc) (hS : PSx rc) : ∀ (T : Nat → Int) (n e N : Nat) (g : Gtt) (s t : tab) (x : Int) (v : Option (Int × tab)), RQx T n e N g s t → 1 ≤ x → x ≤ 20 → s 131 6 = 0 → kkd s = 310 → rM153 rc (x - 1) t = some v → OSx T n e N g s t (bo (cG 38 [x] s) fun z1 s1 => bo (cG 46 [x + 1] s1) fun z3 s2 => some (some (cadz s2, cad s2 310 z1 z3 (-1)))) v := by
  intro T n e N g s t x v hQ x0 x1 p0 hk h
  unfold rM153 at h
  obtain ⟨u1, u2, u3, u4, u5, u6, u7⟩ := hQ.1.2.2.2.1
  rcases p_cond (K := fun a t8 => bo (rc 29 [ipl (x - 1) 1] (pt1 (pt1 t8 10) 0)) fun z14 t14 => if z14 ≠ 0 then some (some (1, up2 (pt2 t14 9 a) 178 ((ptz (pt1 t8 10)).toNat) ((pt2 t14 9 a) 177 1))) else some (some (0, t14))) hrc hX hQ.1 x0 x1 p0 (by omega) (by omega) h with ⟨s2, t2, a1, a2, a3, a4, a5, h, q1, q2, q3, q4, q5, q6, q7, q8⟩ | ⟨⟨t9, rfl⟩, a1⟩
  · have hQ2 := RQ_E hQ a2 a3 a4
    rw [a1, bo_s]
    have hin2 := RL_in a2.1
    obtain ⟨v1, v2, v3, v4, v5, v6, v7⟩ := a2.2.2.2.1
    obtain ⟨c1, c2, c3⟩ := pt2_cw (t := t2) 10 0 (by omega)
    have hp1 := (pt1_cw (t := t2) 10 (by omega)).1.1
    have hpz : ptz (pt1 t2 10) = t2 177 1 + 1 := by rw [ptz_e (by omega)]; omega
    try dsimp only at h
    rw [hpz] at h
    obtain ⟨t3, ht3⟩ : ∃ t3, t3 = pt2 t2 10 0 := ⟨_, rfl⟩
    rw [← ht3] at c1 c2 c3
    rw [show pt1 (pt1 t2 10) 0 = t3 by rw [ht3]; rfl] at h
    have e3 := c1.1
    have a36 := a3.2.1
    obtain ⟨r1, r2, r3, r4⟩ := RE_cw a2 c1 (by omega)
    have hQ3 := RQ_E hQ2 r1 FEc_rf r2
    rcases p_stm (K := fun t14 => some (some (1, up2 (pt2 t14 9 (t 177 1 + 1)) 178 (t2 177 1 + 1).toNat ((pt2 t14 9 (t 177 1 + 1)) 177 1)))) hS hQ3 x0 x1 (by omega) h with ⟨s3, t4, b1, b2, b3, b4, b5, h, j1, j2, j3, j4, ⟨j5, j6, j7⟩, j8⟩ | ⟨⟨t9, rfl⟩, b1⟩
    · rw [b1, bo_s]
      have fc : FSc s s3 := FSc_tr (FSc_E a3) b3
      have fr : FSr N t t4 := FSr_tr (FSr_E a4) (FSr_tr (FSr_E r2) b4)
      try dsimp only at h
      obtain ⟨w1, w2, w3, w4, w5, w6, w7⟩ := b2.1.2.2.2.1
      have hin3 := RL_in b2.1.1
      have b36 := fc.2.2.2.2.1
      have pfb := j4.2.1.1
      have ep : (t2 177 1 + 1).toNat = (t2 177 1).toNat + 1 := by omega
      rw [ep] at h
      have pf2 : PFx s2 t2 s3 t4 := PF_tr r3 j4
      have fb2 : FBx s t s3 t4 := FB_tr (FB_E a3 a4) (FB_tr (FB_E FEc_rf r2) j8)
      obtain ⟨g1, g2, g3⟩ := pt2_cw (t := t4) 9 (t 177 1 + 1) (by omega)
      obtain ⟨t6, ht6⟩ : ∃ t6, t6 = pt2 t4 9 (t 177 1 + 1) := ⟨_, rfl⟩
      rw [← ht6] at g1 g2 g3 h
      have e6 := g1.1
      cases h
      obtain ⟨x1', x2, x3, x4⟩ := RE_cw b2.1 g1 (by omega)
      obtain ⟨t7, ht7⟩ : ∃ t7, t7 = up2 t6 178 ((t2 177 1).toNat + 1) (t6 177 1) := ⟨_, rfl⟩
      rw [← ht7]
      have o7 : ∀ k j, ¬ (k = 178 ∧ j = (t2 177 1).toNat + 1) → t7 k j = t6 k j := fun k j q => by rw [ht7]; exact if_neg q
      have o7f : t7 178 ((t2 177 1).toNat + 1) = t6 177 1 := by rw [ht7]; exact up_self
      obtain ⟨y1, y2⟩ := RE_pat (t2 := t7) x1' (fun k j q1 q2 => o7 k j (by omega))
      have hQ7 := RQ_E (RQ_E b2 x1' FEc_rf x2) y1 FEc_rf y2
      have e71 : t7 177 1 = t6 177 1 := o7 177 1 (by omega)
      have e710 : t7 177 10 = t6 177 10 := o7 177 10 (by omega)
      have e721 : t7 170 21 = t4 170 21 := (o7 170 21 (by omega)).trans (CW_k g1 (by omega))
      obtain ⟨s7, hs7⟩ : ∃ s7, s7 = cad s3 310 (s2 99 12 - 1) (s3 99 12 - 1) (-1) := ⟨_, rfl⟩
      obtain ⟨m1, m2, ⟨m3, m4, m5, m6, m7⟩, m8, m9, m10, m11⟩ := RE_cad y1 (by omega) hs7 (by omega)
      have e75 := m8 137 5 (by omega) (by omega)
      have hx : s7 99 12 - 1 = s3 99 12 := by omega
      have jb := j4.1.1
      have pfC : PFx s t s3 t7 := PF_pat (PF_tr q3 (PF_tr pf2 x3)) u3 (fun k j z1 z2 => o7 k j (by omega))
      have pfF : PFx s2 t2 s3 t7 := PF_pat (PF_tr pf2 x3) v3 (fun k j z1 z2 => o7 k j (by omega))
      refine ⟨1, t7, rfl, .inl ⟨rfl, s7, by rw [m1, ← hs7, hx], RQ_E hQ7 m9 m10 FEr_rf, FSc_tr fc (FSc_E m10), FSr_tr fr (FSr_tr (FSr_E x2) (FSr_E y2)), by omega, fun q => ?_, by omega, by rw [hx]; exact m7, PF_tr pfC m11, ⟨by omega, by omega, by omega⟩, FB_tr fb2 (FB_tr (FB_E FEc_rf x2) (FB_tr (FB_E FEc_rf y2) (FB_E m10 FEr_rf)))⟩⟩
      rw [hx]
      rw [e721] at q
      have qB := j1 q
      have lB := CO_le qB
      have kA := EM_up q1 (by omega) (by omega) (fun q => absurd q (by omega)) (PF_tr pfF m11)
      have kB1 := EM_up qB (by omega) (by omega) (fun q => absurd q (by omega)) x3
      have kB2 := CO_pt (t2 := t7) kB1 (by omega) (fun k j z1 z2 => o7 k j (by omega))
      have kB := EM_up kB2 (by omega) (by omega) (fun q => absurd q (by omega)) m11
      have f10 : t7 178 (t2 177 1).toNat = 10 := by
        rw [o7 178 _ (by omega), g1.2 178 _ (by omega) (by omega), j4.2.1.2 _ (by omega)]
        exact c2
      refine CO_mk (.inr (.inl ⟨rfl, by omega, by omega, by omega, cxt_au, .inl ⟨by omega, by omega⟩, .inr (.inr (.inr (.inr (.inr (.inr (.inr (.inr (.inr (.inl ⟨m3, ?_, (s2 99 12).toNat, (t2 177 1).toNat, (t4 177 1).toNat, by rw [m4]; exact kA, f10, ?_, ?_, ?_, ?_, by omega⟩)))))))))⟩))
      · rw [pfF.2.1.2 _ (by omega)]
        exact q2
      · rw [o7f]
        omega
      · rw [m5, show (t2 177 1).toNat + 2 = (t3 177 1).toNat by omega, show (t 177 10).toNat = (t3 177 10).toNat by omega, show (t7 177 10).toNat = (t4 177 10).toNat by omega]
        exact kB
      · rw [o7 178 _ (by omega)]
        exact g2
      · rw [o7 178 _ (by omega), g3]
        omega
    · refine OS_no ?_
      rw [b1]
      rfl
  · refine OS_no ?_
    rw [a1]
    rfl
def P154 (rc : MRq) : Prop := ∀ (T : Nat → Int) (n e N : Nat) (g : Gtt) (s t : tab) (x : Int) (v : Option (Int × tab)), RQx T n e N g s t → 1 ≤ x → x ≤ 20 → s 131 6 = 0 → kkd s = 311 → rc 32 [x - 1] t = some v → OSx T n e N g s t (bo (cG 30 [0, 65535] (stp s)) fun z1 s1 => bo (cG 46 [x + 1] s1) fun z3 s2 => some (some (cadz s2, cad s2 311 z1 z3 (-1)))) v
/-- what a REPEAT writes first -/
theorem rep_w {c m : Int} (h : 0 ≤ t 177 1 ∧ t 177 1 ≤ 90000) (hc : t 177 10 = c ∧ 0 ≤ c ∧ c ≤ 90000) (ht : t2 = pt1 (up2 (pt1 (pt1 (pt1 (pt2 t 17 c) m) 18) c) 177 10 (ipl c 1)) 0) : t2 177 1 = t 177 1 + 6 ∧ t2 177 10 = c + 1 ∧ t2 178 (t 177 1).toNat = 17 ∧ t2 178 ((t 177 1).toNat + 1) = c ∧ t2 178 ((t 177 1).toNat + 2) = m ∧ t2 178 ((t 177 1).toNat + 3) = 18 ∧ t2 178 ((t 177 1).toNat + 4) = c ∧ (∀ k j, ¬ (k = 177 ∧ (j = 1 ∨ j = 3 ∨ j = 10)) → ¬ (k = 178 ∧ (t 177 1).toNat ≤ j) → t2 k j = t k j) ∧ ptz (pt1 (pt2 t 17 c) m) = t 177 1 + 3 ∧ ptz (up2 (pt1 (pt1 (pt1 (pt2 t 17 c) m) 18) c) 177 10 (ipl c 1)) = t 177 1 + 5 := by
  obtain ⟨a1, a2, a3⟩ := pt2_cw (t := t) 17 c (by omega)
  have e1 := a1.1
  obtain ⟨ta, hta⟩ : ∃ ta, ta = pt2 t 17 c := ⟨_, rfl⟩
  rw [← hta] at ht a1 a2 a3 e1 ⊢
  obtain ⟨b1, b2⟩ := pt1_cw (t := ta) m (by omega)
  have e2 := b1.1
  obtain ⟨tb, htb⟩ : ∃ tb, tb = pt1 ta m := ⟨_, rfl⟩
  rw [← htb] at ht b1 b2 e2 ⊢
  obtain ⟨c1, c2⟩ := pt1_cw (t := tb) 18 (by omega)
  have e3 := c1.1
  obtain ⟨tc, htc⟩ : ∃ tc, tc = pt1 tb 18 := ⟨_, rfl⟩
  rw [← htc] at ht c1 c2 e3 ⊢
  obtain ⟨d1, d2⟩ := pt1_cw (t := tc) c (by omega)
  have e4 := d1.1
  obtain ⟨td, htd⟩ : ∃ td, td = pt1 tc c := ⟨_, rfl⟩
  rw [← htd] at ht d1 d2 e4 ⊢
  obtain ⟨te, hte⟩ : ∃ te, te = up2 td 177 10 (ipl c 1) := ⟨_, rfl⟩
  rw [← hte] at ht ⊢
  have o : ∀ k j, ¬ (k = 177 ∧ j = 10) → te k j = td k j := fun k j q => by rw [hte]; exact if_neg q
  have o10 : te 177 10 = c + 1 := by rw [hte, up_self, ipl_e (by omega)]
  have oe := o 177 1 (by omega)
  obtain ⟨f1, f2⟩ := pt1_cw (t := te) 0 (by omega)
  rw [← ht] at f1 f2
  have e5 := f1.1
  have st : ∀ i : Nat, (i : Int) < te 177 1 → t2 178 i = td 178 i := fun i q => (f1.2 178 i (by omega) (by omega)).trans (o 178 i (by omega))
  refine ⟨by omega, (f1.2 177 10 (by omega) (by omega)).trans o10, ?_, ?_, ?_, ?_, ?_, fun k j q1 q2 => ?_, ?_, ?_⟩
  · rw [st _ (by omega), d1.2 178 _ (by omega) (by omega), c1.2 178 _ (by omega) (by omega), b1.2 178 _ (by omega) (by omega)]
    exact a2
  · rw [st _ (by omega), d1.2 178 _ (by omega) (by omega), c1.2 178 _ (by omega) (by omega), b1.2 178 _ (by omega) (by omega)]
    exact a3
  · rw [st _ (by omega), d1.2 178 _ (by omega) (by omega), c1.2 178 _ (by omega) (by omega), show (t 177 1).toNat + 2 = (ta 177 1).toNat by omega]
    exact b2
  · rw [st _ (by omega), d1.2 178 _ (by omega) (by omega), show (t 177 1).toNat + 3 = (tb 177 1).toNat by omega]
    exact c2
  · rw [st _ (by omega), show (t 177 1).toNat + 4 = (tc 177 1).toNat by omega]
    exact d2
  · rw [f1.2 k j (by omega) (by omega), o k j (by omega), d1.2 k j (by omega) (by omega), c1.2 k j (by omega) (by omega), b1.2 k j (by omega) (by omega), a1.2 k j (by omega) (by omega)]
  · rw [ptz_e (by omega)]
    omega
  · rw [ptz_e (by omega)]
    omega
theorem p_154 (hrc : rle rc rG) (hS : PSx rc) : ∀ (T : Nat → Int) (n e N : Nat) (g : Gtt) (s t : tab) (x : Int) (v : Option (Int × tab)), RQx T n e N g s t → 1 ≤ x → x ≤ 20 → s 131 6 = 0 → kkd s = 311 → rM154 rc (x - 1) t = some v → OSx T n e N g s t (bo (cG 30 [0, 65535] (stp s)) fun z1 s1 => bo (cG 46 [x + 1] s1) fun z3 s2 => some (some (cadz s2, cad s2 311 z1 z3 (-1)))) v := by
  intro T n e N g s t x v hQ x0 x1 p0 hk h
  unfold rM154 at h
  obtain ⟨u1, u2, u3, u4, u5, u6, u7⟩ := hQ.1.2.2.2.1
  have hin0 := RL_in hQ.1.1
  obtain ⟨cw0, cw00⟩ := prt_cw (t := t) (by omega)
  obtain ⟨t2, a1, a2, a3, a4, a5, a6, a7, a8, a9, a10⟩ := RE_wst hQ.1 cw0 (by omega) (show kkd s ≠ 3 by omega) (show kkd s ≠ 4 by omega)
  have hQ2 := RQ_E hQ a2 a3 a4
  have h := bxr hrc a1 h
  try dsimp only at h
  have k4 := RL_k4 a2.1
  by_cases k2 : kkd (stp s) = 2
  · rw [if_pos (show t2 170 4 = 3 by rw [k4, k2]; decide)] at h
    rw [c_num a2 k2, bo_s]
    have hin2 := RL_in a2.1
    have a36 := a3.2.1
    have hv7 : t2 170 7 = vlu (stp s) := by
      rw [RL_vl a2.1 (.inr k2)]
      exact a2.1.2.2.2.2.2.2.2.2 (by rw [← RL_kk a2.1]; exact k2)
    have hr7 := kd_num (T := T) (n := n) (p := pls T n ((stp s) 137 5).toNat) (by rw [← RL_kk a2.1]; exact k2)
    rw [← RL_vl a2.1 (.inr k2)] at hr7
    obtain ⟨t3, ht3⟩ : ∃ t3, t3 = pt1 (up2 (pt1 (pt1 (pt1 (pt2 t2 17 (t2 177 10)) (t2 170 7)) 18) (t2 177 10)) 177 10 (ipl (t2 177 10) 1)) 0 := ⟨_, rfl⟩
    obtain ⟨w1, w2, w3, w4, w5, w6, w7, w8, w9, w10⟩ := rep_w (t := t2) (t2 := t3) (c := t2 177 10) (m := t2 170 7) (by omega) (by omega) ht3
    rw [w9, w10, ← ht3] at h
    obtain ⟨r1, r2⟩ := RE_cx (t2 := t3) a2 (fun k j q1 q2 => w8 k j q1 (by omega)) ⟨by omega, by omega, by omega, by omega⟩
    obtain ⟨t4, c1, c2, c3, c4, c5⟩ := RE_step r1 (by omega) (by omega)
    have pst := PF_stp r1.1 (by omega) (by omega) c1
    have ps1 := pst.2.1
    have ps2 := pst.2.2.1
    have ps3 := pst.2.2.2
    have hQ3 := RQ_E (RQ_E hQ2 r1 FEc_rf r2) c2 c3 c4
    have h := bxr hrc c1 h
    try dsimp only at h
    have c36 := c3.2.1
    have pfA : PFx s t (stp s) t3 := PF_pt a6 u3 (fun k j q1 q2 => w8 k j q2 (by omega)) (by omega) (by omega)
    have pfB : PFx s t (stp (stp s)) t4 := PF_tr pfA pst.1
    rcases p_stm (K := fun t18 => some (some (1, up2 (pt2 t18 9 (t2 177 1 + 3)) 178 (t2 177 1 + 5).toNat ((pt2 t18 9 (t2 177 1 + 3)) 177 1)))) hS hQ3 x0 x1 (by omega) h with ⟨s5, t5, d1, d2, d3, d4, d5, h, j1, j2, j3, j4, ⟨j5, j6, j7⟩, j8⟩ | ⟨⟨t9, rfl⟩, d1⟩
    · rw [d1, bo_s]
      try dsimp only at h
      obtain ⟨v1, v2, v3, v4, v5, v6, v7⟩ := d2.1.2.2.2.1
      have hin5 := RL_in d2.1.1
      have d36 := d3.2.2.2.2.1
      have pfb := j4.2.1.1
      have jb := j4.1.1
      have ep : (t2 177 1 + 5).toNat = (t2 177 1).toNat + 5 := by omega
      rw [ep] at h
      obtain ⟨g1, g2, g3⟩ := pt2_cw (t := t5) 9 (t2 177 1 + 3) (by omega)
      obtain ⟨t6, ht6⟩ : ∃ t6, t6 = pt2 t5 9 (t2 177 1 + 3) := ⟨_, rfl⟩
      rw [← ht6] at g1 g2 g3 h
      have e6 := g1.1
      cases h
      obtain ⟨x1', x2, x3, x4⟩ := RE_cw d2.1 g1 (by omega)
      obtain ⟨t7, ht7⟩ : ∃ t7, t7 = up2 t6 178 ((t2 177 1).toNat + 5) (t6 177 1) := ⟨_, rfl⟩
      rw [← ht7]
      have o7 : ∀ k j, ¬ (k = 178 ∧ j = (t2 177 1).toNat + 5) → t7 k j = t6 k j := fun k j q => by rw [ht7]; exact if_neg q
      have o7f : t7 178 ((t2 177 1).toNat + 5) = t6 177 1 := by rw [ht7]; exact up_self
      obtain ⟨y1, y2⟩ := RE_pat (t2 := t7) x1' (fun k j q1 q2 => o7 k j (by omega))
      have hQ7 := RQ_E (RQ_E d2 x1' FEc_rf x2) y1 FEc_rf y2
      have e71 : t7 177 1 = t6 177 1 := o7 177 1 (by omega)
      have e710 : t7 177 10 = t6 177 10 := o7 177 10 (by omega)
      have e721 : t7 170 21 = t5 170 21 := (o7 170 21 (by omega)).trans (CW_k g1 (by omega))
      obtain ⟨s7, hs7⟩ : ∃ s7, s7 = cad s5 311 (l2x (vlu (stp s))) (s5 99 12 - 1) (-1) := ⟨_, rfl⟩
      obtain ⟨m1, m2, ⟨m3, m4, m5, m6, m7⟩, m8, m9, m10, m11⟩ := RE_cad y1 (by omega) hs7 (by omega)
      have e75 := m8 137 5 (by omega) (by omega)
      have hx : s7 99 12 - 1 = s5 99 12 := by omega
      have pfC : PFx s t s5 t7 := PF_pat (PF_tr pfB (PF_tr j4 x3)) u3 (fun k j z1 z2 => o7 k j (by omega))
      have fb : FBx s t s7 t7 := FB_tr (FB_E a3 a4) (FB_tr (FB_E FEc_rf r2) (FB_tr (FB_E c3 c4) (FB_tr j8 (FB_tr (FB_E FEc_rf x2) (FB_tr (FB_E FEc_rf y2) (FB_E m10 FEr_rf))))))
      refine ⟨1, t7, rfl, .inl ⟨rfl, s7, by rw [m1, ← hs7, hx], RQ_E hQ7 m9 m10 FEr_rf, FSc_tr (FSc_E a3) (FSc_tr (FSc_E c3) (FSc_tr d3 (FSc_E m10))), FSr_tr (FSr_E a4) (FSr_tr (FSr_E r2) (FSr_tr (FSr_E c4) (FSr_tr d4 (FSr_tr (FSr_E x2) (FSr_E y2))))), by omega, fun q => ?_, by omega, by rw [hx]; exact m7, PF_tr pfC m11, ⟨by omega, by omega, by omega⟩, fb⟩⟩
      rw [hx]
      rw [e721] at q
      have qB := j1 q
      have lB := CO_le qB
      have kB1 := EM_up qB (by omega) (by omega) (fun q => absurd q (by omega)) x3
      have kB2 := CO_pt (t2 := t7) kB1 (by omega) (fun k j z1 z2 => o7 k j (by omega))
      have kB := EM_up kB2 (by omega) (by omega) (fun q => absurd q (by omega)) m11
      have back : ∀ i : Nat, (i : Int) < t3 177 1 → i ≠ (t2 177 1).toNat + 5 → t7 178 i = t3 178 i := fun i q1 q2 => by
        rw [o7 178 _ (by omega), g1.2 178 _ (by omega) (by omega), j4.2.1.2 _ (by omega), pst.1.2.1.2 _ (by omega)]
      have hl2 : l2x (vlu (stp s)) = t2 170 7 := by rw [l2x_n hr7, hv7]
      refine CO_mk (.inr (.inl ⟨rfl, by omega, by omega, by omega, cxt_au, .inl ⟨by omega, by omega⟩, .inr (.inr (.inr (.inr (.inr (.inr (.inr (.inr (.inr (.inr (.inl ⟨m3, ?_, ?_, ?_, ?_, ?_, ?_, ?_, ?_, ?_, (t5 177 1).toNat, ?_, ?_, ?_, by omega⟩))))))))))⟩))
      · rw [back _ (by omega) (by omega), w8 178 _ (by omega) (by omega), a10]
        exact cw00
      · rw [show (t 177 1).toNat + 1 = (t2 177 1).toNat by omega, back _ (by omega) (by omega)]
        exact w3
      · rw [show (t 177 1).toNat + 2 = (t2 177 1).toNat + 1 by omega, back _ (by omega) (by omega), w4]
        omega
      · rw [show (t 177 1).toNat + 3 = (t2 177 1).toNat + 2 by omega, back _ (by omega) (by omega), w5, m4, hl2]
      · rw [show (t 177 1).toNat + 4 = (t2 177 1).toNat + 3 by omega, back _ (by omega) (by omega)]
        exact w6
      · rw [show (t 177 1).toNat + 5 = (t2 177 1).toNat + 4 by omega, back _ (by omega) (by omega), w7]
        omega
      · rw [show (t 177 1).toNat + 6 = (t2 177 1).toNat + 5 by omega, o7f]
        omega
      · rw [m4, l2x_n hr7]
        exact hr7.1
      · rw [m4, l2x_n hr7]
        exact hr7.2
      · rw [m5, show (s 99 12).toNat = ((stp (stp s)) 99 12).toNat by omega, show (t 177 1).toNat + 7 = (t4 177 1).toNat by omega, show (t 177 10).toNat + 1 = (t4 177 10).toNat by omega, show (t7 177 10).toNat = (t5 177 10).toNat by omega]
        exact kB
      · rw [o7 178 _ (by omega)]
        exact g2
      · rw [o7 178 _ (by omega), g3]
        omega
    · refine OS_no ?_
      rw [d1]
      rfl
  · rw [if_neg (show ¬ t2 170 4 = 3 from fun q => k2 (rkn_3 (k4.symm.trans q)))] at h
    cases h
    refine OS_no ?_
    rw [cG_59]
    unfold cM59
    rw [if_pos k2]
    rfl
def PPx (rc : MRq) : Prop := ∀ (T : Nat → Int) (n e N : Nat) (g : Gtt) (s t : tab) (x : Int) (v : Option (Int × tab)), RQx T n e N g s t → 1 ≤ x → x ≤ 20 → s 131 6 = 0 → kkd s = 312 → rc 33 [x - 1] t = some v → OSx T n e N g s t (cG 48 [x] s) v
theorem bo_same {X : RO} : (bo X fun z s2 => some (some (z, s2))) = X := by
  cases X with
  | none => rfl
  | some y => cases y <;> rfl
theorem vbo {X : RO} {v : Option (Int × tab)} (h : (bo X fun z t2 => some (some (z, t2))) = some v) : X = some v := by
  rwa [bo_same] at h
/-- statement(..) -/
theorem p_Sx (hrc : rle rc rG) (hB : PBx rc) (h3 : P143 rc) (h13 : P153 rc) (h14 : P154 rc) (hP : PPx rc) (hN : PNx rc) : ∀ (T : Nat → Int) (n e N : Nat) (g : Gtt) (s t : tab) (x : Int) (v : Option (Int × tab)), RQx T n e N g s t → 1 ≤ x → x ≤ 21 → s 131 6 = 0 → rM141 rc (x - 1) t = some v → OSx T n e N g s t (cG 46 [x] s) v := by
  intro T n e N g s t x v hQ x0 x1 p0 h
  have hL := hQ.1.1
  rw [cG_52]
  unfold rM141 at h
  unfold cM52
  by_cases x2 : x = 21
  · rw [if_neg (by omega)] at h
    rw [if_pos (by omega)]
    cases h
    exact OS_no rfl
  rw [if_pos (by omega)] at h
  rw [if_neg (by omega)]
  have h := bxr hrc (RL_is is_28 hL) h
  try dsimp only at h
  by_cases k1 : kkd s = 123
  · rw [if_pos k1, if_neg (by decide)] at h
    rw [if_pos k1]
    have ex : ipl (x - 1) 1 = x := by rw [ipl_e (by omega)]; omega
    rw [ex] at h
    obtain ⟨r1, r2⟩ := RQ_rop hQ
    have e3 : s 105 3 = (N : Int) := hQ.1.2.1.1.1
    rw [e3]
    rcases bo_inv h with ⟨h9, _⟩ | ⟨z6, t6, h9, h⟩
    · obtain ⟨z, t9, w1, _⟩ := hB T n e N g s (rop t) x (N : Int) _ r1 r2 (by omega) (by omega) p0 h9
      cases w1
    · obtain ⟨z, t9, w1, w2⟩ := hB T n e N g s (rop t) x (N : Int) _ r1 r2 (by omega) (by omega) p0 h9
      cases w1
      rcases w2 with ⟨rfl, M, s5, t5, f1, f2, f3, f4, f5, f6, f7, f8⟩ | ⟨rfl, f1⟩
      · rw [if_pos (by decide)] at h
        cases h
        rw [f1, bo_s, f2]
        have g15 : t5 170 15 = t 170 16 := f6.1
        have g37 : t5 170 37 = t 170 37 := f6.2.2.2.2.1
        have c1 := hQ.2.2.1.1
        have c2 := hQ.2.2.1.2.1
        have q2 := hQ.2.2.2.2
        have c5 := f4.2.2.1.2.1
        have hcut := RQ_cut f4 f3 (fun q => by rw [f5.2.2.2.1]; exact (q2 (by rw [← g37]; exact q)).1)
        have en := ncu_e f4.1.2.1.1.1 f3
        obtain ⟨u1, u2, u3, u4, u5, u6, u7⟩ := hQ.1.2.2.2.1
        have pw1 : PWx s t s (rop t) := ⟨PF_ne (fun _ _ _ _ => rfl) (fun k j q => by rcases q with q | q <;> subst q <;> rfl) (fun j q1 q2 v w => by
          rw [show (rop t) 170 j = t 170 j from by unfold rop; exact (if_neg (by omega)).trans (if_neg (by omega))]
          exact w) rfl (fun _ => rfl), rfl, rfl, rfl⟩
        have pw2 : PWx s5 t5 (ncu s5 (N : Int)) (up2 (up2 t5 170 14 (N : Int)) 170 15 (t 170 15)) := by
          rw [en]
          exact ⟨PF_ne (fun k j q1 q2 => if_neg (by omega)) (fun k j q => (if_neg (by omega)).trans (if_neg (by omega))) (fun j q1 q2 v w => by
            rw [show (up2 (up2 t5 170 14 (N : Int)) 170 15 (t 170 15)) 170 j = t5 170 j from (if_neg (by omega)).trans (if_neg (by omega))]
            exact w) rfl (fun r => rfl), rfl, rfl, rfl⟩
        have fb2 : FBx s5 t5 (ncu s5 (N : Int)) (up2 (up2 t5 170 14 (N : Int)) 170 15 (t 170 15)) := by
          rw [en]
          exact ⟨fun q => ⟨q.1, q.2⟩, rfl, fun _ => ⟨rfl, rfl, rfl, Int.le_refl _, Int.le_refl _, rfl⟩⟩
        have e12 : (ncu s5 (N : Int)) 99 12 = s5 99 12 := by rw [en]; rfl
        have e5 : (ncu s5 (N : Int)) 137 5 = s5 137 5 := by rw [en]; rfl
        refine ⟨1, _, rfl, .inl ⟨rfl, ncu s5 (N : Int), by rw [e12], RQ_sc hcut c1 (by show t 170 15 < t5 170 16; omega), ?_, ⟨up_self, fun k j hk hj => (if_neg (by omega)).trans ((if_neg (by omega)).trans ((f6.2.1 k j hk hj).trans (show rop t k j = t k j from (if_neg (by omega)).trans (if_neg (by omega))))), f6.2.2.1, f6.2.2.2.1, f6.2.2.2.2.1, f6.2.2.2.2.2.1, f6.2.2.2.2.2.2⟩, ?_, ?_⟩⟩
        · rw [en]
          exact f5
        · rw [e5]
          exact f7
        · exact ES_pre (ES_post f8 ⟨f4.1.2.2.2.1.2.2.1, u1⟩ pw2 (by omega) fb2) pw1 (Int.le_refl _) ⟨fun q => ⟨q.1, q.2⟩, rfl, fun _ => ⟨rfl, rfl, rfl, Int.le_refl _, Int.le_refl _, rfl⟩⟩
      · rw [if_neg (by decide)] at h
        cases h
        refine OS_no ?_
        rw [f1]
        rfl
  rw [if_neg k1, if_pos rfl] at h
  rw [if_neg k1]
  have h := bxr hrc (RL_is is_34 hL) h
  try dsimp only at h
  by_cases k2 : kkd s = 314
  · rw [if_pos k2, if_neg (by decide)] at h
    rw [if_neg (show ¬ kkd s = 308 by omega), if_neg (show ¬ kkd s = 310 by omega), if_neg (show ¬ kkd s = 311 by omega), if_neg (show ¬ kkd s = 312 by omega), if_pos k2]
    obtain ⟨u1, u2, u3, u4, u5, u6, u7⟩ := hQ.1.2.2.2.1
    have hin0 := RL_in hQ.1.1
    obtain ⟨cw0, cw00⟩ := prt_cw (t := t) (by omega)
    obtain ⟨t2, a1, a2, a3, a4, a5, a6, a7, a8, a9, a10⟩ := RE_wst hQ.1 cw0 (by omega) (show kkd s ≠ 3 by omega) (show kkd s ≠ 4 by omega)
    have h := bxr hrc a1 h
    have a36 := a3.2.1
    rcases p_last (kd := 314) (a := fun _ => -1) (A := -1) (b := -1) (c := -1) hrc a2 (by omega) (fun _ _ => rfl) h with ⟨s8, t9, rfl, z1, z2, z3, z4, z5, z6, z7, z8, z9, z10, z11, z12, z13, z14⟩ | ⟨t9, rfl, z1⟩
    · have hx : s8 99 12 - 1 = s 99 12 := by omega
      rw [a7] at z10 z11 z12 z13 z14
      refine ⟨1, t9, rfl, .inl ⟨rfl, s8, z1, RQ_E hQ z2 (FEc_tr a3 z3) (FEr_tr a4 z4), FSc_tr (FSc_E a3) (FSc_E z3), FSr_tr (FSr_E a4) (FSr_E z4), by omega, fun q => ?_, by omega, by rw [hx]; exact z14, PF_tr a6 z9, ⟨by omega, by omega, by omega⟩, FB_E (FEc_tr a3 z3) (FEr_tr a4 z4)⟩⟩
      rw [hx]
      refine CO_mk (.inr (.inl ⟨rfl, by omega, by omega, by omega, cxt_au, .inl ⟨by omega, by omega⟩, .inr (.inl ⟨z10, rfl, by omega, ?_, by omega⟩)⟩))
      rw [z9.2.1.2 _ (by omega), a10]
      exact cw00
    · exact OS_no z1
  rw [if_neg k2, if_pos rfl] at h
  have h := bxr hrc (RL_is is_36 hL) h
  try dsimp only at h
  by_cases k3 : kkd s = 308
  · rw [if_pos k3, if_neg (by decide)] at h
    rw [if_pos k3, bo_same]
    exact (h3 T n e N g s t x v hQ x0 (by omega) p0 k3 (vbo h))
  rw [if_neg k3, if_pos rfl] at h
  rw [if_neg k3]
  have h := bxr hrc (RL_is is_82 hL) h
  try dsimp only at h
  by_cases k4 : kkd s = 310
  · rw [if_pos k4, if_neg (by decide)] at h
    rw [if_pos k4]
    exact h13 T n e N g s t x v hQ x0 (by omega) p0 k4 (vbo h)
  rw [if_neg k4, if_pos rfl] at h
  rw [if_neg k4]
  have h := bxr hrc (RL_is is_84 hL) h
  try dsimp only at h
  by_cases k5 : kkd s = 311
  · rw [if_pos k5, if_neg (by decide)] at h
    rw [if_pos k5]
    exact h14 T n e N g s t x v hQ x0 (by omega) p0 k5 (vbo h)
  rw [if_neg k5, if_pos rfl] at h
  rw [if_neg k5]
  have h := bxr hrc (RL_is is_86 hL) h
  try dsimp only at h
  by_cases k6 : kkd s = 312
  · rw [if_pos k6, if_neg (by decide)] at h
    rw [if_pos k6, bo_same]
    exact (hP T n e N g s t x v hQ x0 (by omega) p0 k6 (vbo h))
  rw [if_neg k6, if_pos rfl] at h
  rw [if_neg k6, if_neg k2]
  have hk4 := RL_k4 hL
  by_cases k7 : kkd s = 1
  · rw [if_neg (show ¬ t 170 4 ≠ 1 by rw [hk4, k7]; decide)] at h
    rw [bo_same]
    exact OS_N hQ (hN T n e N g s t x v hQ.1 x0 (by omega) (by omega) (by omega) k7 (vbo h))
  · rw [if_pos (show t 170 4 ≠ 1 from fun q => k7 (rkn_1 (hk4.symm.trans q)))] at h
    cases h
    refine OS_no ?_
    rw [cG_71]
    unfold cM71
    rw [cG_61]
    unfold cM61
    rw [if_pos k7]
    rfl
end STT2
