/-! The body of a fun, in both. -/
section BODYX
variable {T : Nat → Int} {n e N : Nat} {g : Gtt} {s t s2 t2 : tab} {rc : MRq}
theorem ROW5 {G : Gmx} {b l k1 : Nat} {c : Cxx} {y : Int} {b2 l2 : Nat} : ∀ (n a : Nat) (x : Int) (f k0 : Nat), CO s t G 3 n a b x f l k0 k1 0 c → CO s t G 0 0 b b2 y l l2 0 0 0 c → s 104 y.toNat = -1 → CO (if 0 < n then up2 s 104 (b - 1) y else s) t G 5 n a b2 (if 0 < n then x else y) f l2 k0 k1 0 c := by
  intro n
  induction n with
  | zero =>
    intro a x f k0 h hy hl
    rcases ROW_x h (.inr (.inl rfl)) with ⟨_, e1, e2, e3, e4⟩ | u
    · subst e1
      subst e2
      subst e4
      rw [if_neg (by omega), if_neg (by omega)]
      exact CO_mk (.inr (.inr (.inr (.inr (.inr (.inr ⟨rfl, rfl, hy, hl, rfl⟩))))))
    · omega
  | succ n ih =>
    intro a x f k0 h hy hl
    rw [if_pos (by omega), if_pos (by omega)]
    have yb := (CO_rt hy (by omega)).1
    have yl := (CO_le hy).2.2 (by omega)
    have key : ∀ {b1 m k9 k8 : Nat} {x2 : Int}, b1 ≤ b → CO s t G 1 0 a b1 x2 f m k9 k8 0 c → CO (up2 s 104 (b - 1) y) t G 1 0 a b1 x2 f m k9 k8 0 c := fun hb1 w => by
      have := (CO_le w).2.2 (by omega)
      exact CO_ext w ⟨fun k j w1 w2 w3 w4 => if_neg (by omega), fun j w1 w2 w3 => if_neg (by have := w3 (by omega); omega), fun _ _ _ => rfl, fun w => absurd w (by omega), by rw [show (up2 s 104 (b - 1) y) 99 12 = s 99 12 from if_neg (by omega)]; exact Int.le_refl _, fun r _ => if_neg (by omega)⟩
    rcases CO_un h with u | u | u | u | ⟨h1, n1, b1, m, kk, h2, h3, h4⟩ | u | u
    · exact absurd u.1 (by omega)
    · exact absurd u.1 (by omega)
    · exact absurd u.2.1 (by omega)
    · exact absurd u.1 (by omega)
    · have e1 : n1 = n := by omega
      subst e1
      have r1 := (CO_rt h3 (by omega)).1
      have l1 := (CO_le h4).1
      have l0 := (CO_le h3).2.2 (by omega)
      have := ih b1 _ m kk h4 hy hl
      refine CO_mk (.inr (.inr (.inr (.inr (.inl ⟨.inr rfl, n1, b1, m, kk, rfl, key l1 h3, ?_⟩)))))
      rcases ROW_x h4 (.inr (.inl rfl)) with ⟨v1, v2, v3, v4, _⟩ | ⟨v1, v2, v3⟩
      · subst v1
        rw [if_neg (by omega), if_neg (by omega)] at this
        have e7 : (up2 s 104 (b - 1) y) 104 x.toNat = y := by
          rw [show b - 1 = x.toNat by omega]
          exact up_self
        rw [e7]
        exact CO_ext this ⟨fun k j w1 w2 w3 w4 => if_neg (by omega), fun j w1 w2 w3 => if_neg (by omega), fun _ _ _ => rfl, fun w => absurd w (by omega), by rw [show (up2 s 104 (b - 1) y) 99 12 = s 99 12 from if_neg (by omega)]; exact Int.le_refl _, fun r _ => if_neg (by omega)⟩
      · rw [if_pos v1, if_pos v1] at this
        rw [show (up2 s 104 (b - 1) y) 104 x.toNat = s 104 x.toNat from if_neg (by omega)]
        exact this
    · exact absurd u.1 (by omega)
    · exact absurd u.1 (by omega)
/-- parts and code of a fun's body: m STATEMENTS and the E, the first is z -/
def EYx (g : Gtt) (s0 t0 s t : tab) (m : Nat) (z : Int) : Prop := (t 170 21 = -1 → CO s t g.2.2.2.1 5 m (s0 99 12).toNat (s 99 12).toNat z (t0 177 1).toNat (t 177 1).toNat (t0 177 10).toNat (t 177 10).toNat 0 (cxt g s t)) ∧ (s0 99 12 < s 99 12 ∧ 0 ≤ z) ∧ PFx s0 t0 s t ∧ (s 99 12 + s0 137 5 ≤ s0 99 12 + s 137 5 ∧ t 177 1 + 12 * s0 137 5 + 12 ≤ t0 177 1 + 12 * s 137 5 ∧ t 177 10 + s0 137 5 ≤ t0 177 10 + s 137 5) ∧ FBx s0 t0 s t
/-- how a body ends: N names at its beginning -/
def OYx (T : Nat → Int) (n e N : Nat) (g : Gtt) (b : Int) (s0 t0 s t : tab) (X : RO) (v : Option (Int × tab)) : Prop := ∃ z t2, v = some (z, t2) ∧ ((z = 1 ∧ ∃ M s5 m y, X = some (some (y, ncu s5 b)) ∧ N ≤ M ∧ RQx T n e M g s5 t2 ∧ FSc s s5 ∧ FSr N t t2 ∧ s 137 5 < s5 137 5 ∧ EYx g s0 t0 s5 t2 m y) ∨ (z = 0 ∧ X = some none))
theorem OY_no {b : Int} {s0 t0 : tab} {X : RO} {t9 : tab} (h : X = some none) : OYx T n e N g b s0 t0 s t X (some (0, t9)) := ⟨0, t9, rfl, .inr ⟨rfl, h⟩⟩
theorem OY_pre {M : Nat} {s0 t0 s9 t9 : tab} {b : Int} {X : RO} {v : Option (Int × tab)} (h : OYx T n e M g b s9 t9 s t X v) (hM : N ≤ M) (hc : FSc s0 s) (hr : FSr N t0 t) : OYx T n e N g b s9 t9 s0 t0 X v := by
  obtain ⟨z, t2, e1, h⟩ := h
  refine ⟨z, t2, e1, ?_⟩
  rcases h with ⟨h1, M5, s5, m, y, h2, h4, h5, h6, h7, h8, h9⟩ | h
  · exact .inl ⟨h1, M5, s5, m, y, h2, by omega, h5, FSc_tr hc h6, FSr_tr hr (FSr_le h7 hM), Int.lt_of_le_of_lt hc.2.2.2.2.2 h8, h9⟩
  · exact .inr h
/-- a fun's STATEMENTS so far -/
def RYx (g : Gtt) (s0 t0 s t : tab) (m : Nat) (y3 y4 : Int) : Prop := ((t 170 21 = -1 → CO s t g.2.2.2.1 3 m (s0 99 12).toNat (s 99 12).toNat y3 (t0 177 1).toNat (t 177 1).toNat (t0 177 10).toNat (t 177 10).toNat 0 (cxt g s t)) ∧ (m = 0 → y3 = -1 ∧ y4 = -1 ∧ s 99 12 = s0 99 12) ∧ (0 < m → y4 = s 99 12 - 1 ∧ s0 99 12 < s 99 12 ∧ 0 ≤ y3)) ∧ PFx s0 t0 s t ∧ (s 99 12 + s0 137 5 ≤ s0 99 12 + s 137 5 ∧ t 177 1 + 12 * s0 137 5 ≤ t0 177 1 + 12 * s 137 5 ∧ t 177 10 + s0 137 5 ≤ t0 177 10 + s 137 5) ∧ FBx s0 t0 s t ∧ (0 ≤ s0 99 12 ∧ 0 ≤ t0 177 1 ∧ 0 ≤ t0 177 10)
theorem RY_pw {s0 t0 : tab} {m : Nat} {y3 y4 : Int} (h : RYx g s0 t0 s t m y3 y4) (hp : PWx s t s2 t2) (h5 : s 137 5 ≤ s2 137 5) (hb : FBx s t s2 t2) : RYx g s0 t0 s2 t2 m y3 y4 := by
  obtain ⟨⟨a1, a4, a5⟩, b1, ⟨c1, c2, c3⟩, d1, e1, e2, e3⟩ := h
  obtain ⟨p1, p2, p3, p4⟩ := hp
  have hm := b1.1.1
  have ht := b1.2.1.1
  refine ⟨⟨fun q => ?_, fun q => ?_, fun q => ?_⟩, PF_tr b1 p1, ⟨by omega, by omega, by omega⟩, FB_tr d1 hb, e1, e2, e3⟩
  · rw [p2, p3, p4]
    exact EM_up (a1 (p1.2.2.2.2.1 q)) (by omega) (by omega) (fun q => absurd q (by omega)) p1
  · have := a4 q
    exact ⟨this.1, this.2.1, by omega⟩
  · have := a5 q
    exact ⟨by omega, by omega, this.2.2⟩
/-- our return E ; } -/
noncomputable def Y3x (b y3 y4 : Int) (s : tab) : RO := bo (cG 29 [313] s) fun _ s5 => bo (cG 40 [0] s5) fun z6 s6 => bo (cG 29 [59] (lnk s6 y4 z6)) fun _ s8 => bo (cG 29 [125] s8) fun _ s9 => if 0 ≤ y3 then some (some (y3, ncu s9 b)) else some (some (z6, ncu s9 b))
noncomputable def Y2x (b y3 y4 m : Int) (s : tab) : RO := bo (cG 68 [313, 0, y3, y4, m] s) fun z3 s3 => Y3x b z3 (s3 131 15) s3
def P44 (rc : MRq) : Prop := ∀ (T : Nat → Int) (n e N : Nat) (g : Gtt) (s0 t0 s t : tab) (b y3 y4 : Int) (m : Nat) (v : Option (Int × tab)), RQx T n e N g s t → s 131 6 = 0 → (m : Int) ≤ s 137 5 → RYx g s0 t0 s t m y3 y4 → rc 63 [] t = some v → OYx T n e N g b s0 t0 s t (Y2x b y3 y4 (m : Int) s) v
theorem p_ret (hrc : rle rc rG) (hX : PXx rc) {s0 t0 : tab} {b y3 y4 : Int} {m : Nat} {v : Option (Int × tab)} (hQ : RQx T n e N g s t) (p0 : s 131 6 = 0) (hk : kkd s = 313) (hW : RYx g s0 t0 s t m y3 y4) (h : (bo (rc 4 [] t) fun _ t3 => bo (rc 22 [0, 0] t3) fun z4 t4 => if z4 = 0 then some (some (0, t4)) else bo (rc 8 [30] t4) fun z6 t6 => if z6 = 0 then some (some (0, t6)) else bo (rc 8 [32] t6) fun z8 t8 => if z8 = 0 then some (some (0, t8)) else some (some (1, t8))) = some v) : OYx T n e N g b s0 t0 s t (Y3x b y3 y4 s) v := by
  obtain ⟨t2, a1, a2, a3, a4, a5⟩ := RE_step hQ.1 (by omega) (by omega)
  have pst := PF_stp hQ.1.1 (by omega) (by omega) a1
  have hQ2 := RQ_E hQ a2 a3 a4
  have hW2 := RY_pw hW pst (by omega) (FB_E a3 a4)
  have h := bxr hrc a1 h
  try dsimp only at h
  have hex : cG 29 [313] s = some (some (0, stp s)) := by
    rw [cG_43]
    unfold cM43
    exact if_neg (fun q => q hk)
  unfold Y3x
  rw [hex, bo_s]
  have p2 : (stp s) 131 6 = 0 := by rw [a3.2.1]; exact p0
  rcases bo_inv h with ⟨h9, _⟩ | ⟨z6, t6, h9, h⟩
  · obtain ⟨z, t9, w1, _⟩ := p_Ex hX a2 (by omega) (by omega) (by omega) (by omega) h9
    cases w1
  · obtain ⟨z, t9, w1, w2⟩ := p_Ex hX a2 (by omega) (by omega) (by omega) (by omega) h9
    cases w1
    rcases w2 with ⟨rfl, s4, f1, f2, f3, f4, f5, m1, m2, m3, m4, m5, m6⟩ | ⟨rfl, f1⟩
    · rw [if_neg (by decide)] at h
      rw [f1, bo_s]
      have hQ4 := RQ_E hQ2 f2 f3 f4
      obtain ⟨s5, hs5⟩ : ∃ s5, s5 = lnk s4 y4 (s4 99 12 - 1) := ⟨_, rfl⟩
      obtain ⟨l1, l2, l3⟩ := RE_lnk f2 hs5
      rw [← hs5]
      have hQ5 := RQ_E hQ4 l1 l2 FEr_rf
      obtain ⟨⟨w1, w4, w5⟩, x1, ⟨z1, z2, z3⟩, fb, e1, e2, e3⟩ := hW2
      have x11 := x1.1.1
      have x12 := x1.2.1.1
      have jb := m3.1.1
      have jc := m3.2.1.1
      have l0 := (CO_le m1).2.2 (by omega)
      obtain ⟨u1, u2, u3, u4, u5, u6, u7⟩ := a2.2.2.2.1
      have e12 : s5 99 12 = s4 99 12 := l3 99 12 (by omega)
      have e55 : s5 137 5 = s4 137 5 := l3 137 5 (by omega)
      have hy4 : ∀ j : Nat, (j : Int) = y4 → s0 99 12 ≤ (j : Int) ∧ (j : Int) < (stp s) 99 12 := fun j q => by
        by_cases c : 0 < m
        · have := w5 c
          omega
        · have := w4 (by omega)
          omega
      have pf5 : PFx s0 t0 s5 t6 := by
        obtain ⟨⟨p1, p2⟩, p3, p4, p5, p6, p7⟩ := PF_tr x1 m3
        refine ⟨⟨by omega, fun k2 j j1 j2 j3 => ?_⟩, p3, p4, p5, p6, fun r => (l3 113 r (by omega)).trans (p7 r)⟩
        refine (l3 k2 j ?_).trans (p2 k2 j j1 j2 j3)
        rintro ⟨_, j5⟩
        have := hy4 _ j5
        omega
      have co5 : t6 170 21 = -1 → CO s5 t6 g.2.2.2.1 5 m (s0 99 12).toNat (s5 99 12).toNat (if 0 ≤ y3 then y3 else s4 99 12 - 1) (t0 177 1).toNat (t6 177 1).toNat (t0 177 10).toNat (t6 177 10).toNat 0 (cxt g s5 t6) := fun q => by
        have row := EM_up (w1 (m3.2.2.2.2.1 q)) (by omega) (by omega) (fun q => absurd q (by omega)) m3
        have r1 := ROW5 m _ _ _ _ row m1 m2
        have e5 : (if 0 < m then up2 s4 104 (((stp s) 99 12).toNat - 1) (s4 99 12 - 1) else s4) = s5 := by
          rw [hs5]
          unfold lnk
          by_cases c : 0 < m
          · have := w5 c
            rw [if_pos c, if_pos (by omega), show y4.toNat = ((stp s) 99 12).toNat - 1 by omega]
          · have := w4 (by omega)
            rw [if_neg c, if_neg (by omega)]
        rw [e5] at r1
        have ey : (if 0 ≤ y3 then y3 else s4 99 12 - 1) = if 0 < m then y3 else s4 99 12 - 1 := by
          by_cases c : 0 < m
          · have := w5 c
            rw [if_pos c, if_pos (by omega)]
          · have := w4 (by omega)
            rw [if_neg c, if_neg (by omega)]
        rw [ey, e12, m6, cxt_eq (s := s4) (t := t6) e12 (fun _ _ _ => rfl)]
        exact r1
      have hroot : 0 ≤ (if 0 ≤ y3 then y3 else s4 99 12 - 1) := by
        split
        · assumption
        · omega
      rcases RE_take l1 is_30 (by decide) with ⟨t7, c1, c2, c3, c4, c5, c6, c7⟩ | ⟨c1, c2, c3⟩
      · have pt := PF_take l1 is_30 (by decide) c2 c1
        have h := bxr hrc c1 h
        try dsimp only at h
        rw [if_neg (by decide)] at h
        rw [c3, bo_s]
        have hQ6 := RQ_E hQ5 c4 c5 c6
        rcases RE_take c4 is_32 (by decide) with ⟨t8, d1, d2, d3, d4, d5, d6, d7⟩ | ⟨d1, d2, d3⟩
        · have pt2 := PF_take c4 is_32 (by decide) d2 d1
          have h := bxr hrc d1 h
          try dsimp only at h
          rw [if_neg (by decide)] at h
          rw [d3, bo_s]
          cases h
          have pw := PN_tr pt pt2
          obtain ⟨q1, q2, q3, q4⟩ := pw
          have hX3 : (if 0 ≤ y3 then some (some (y3, ncu (stp (stp s5)) b)) else some (some (s4 99 12 - 1, ncu (stp (stp s5)) b))) = some (some (if 0 ≤ y3 then y3 else s4 99 12 - 1, ncu (stp (stp s5)) b)) := by
            split <;> rfl
          refine ⟨1, _, rfl, .inl ⟨rfl, N, stp (stp s5), m, _, hX3, Nat.le_refl _, RQ_E hQ6 d4 d5 d6, FSc_tr (FSc_E a3) (FSc_tr (FSc_E f3) (FSc_tr (FSc_E l2) (FSc_tr (FSc_E c5) (FSc_E d5)))), FSr_tr (FSr_E a4) (FSr_tr (FSr_E f4) (FSr_tr (FSr_E c6) (FSr_E d6))), by omega, fun q => ?_, ⟨by omega, hroot⟩, PF_tr pf5 q1, ⟨by omega, by omega, by omega⟩, FB_tr fb (FB_tr (FB_E f3 f4) (FB_tr (FB_E l2 FEr_rf) (FB_tr (FB_E c5 c6) (FB_E d5 d6))))⟩⟩
          rw [q2, q3, q4]
          exact EM_up (co5 (q1.2.2.2.2.1 q)) (by omega) (by omega) (fun q => absurd q (by omega)) q1
        · have h := bxr hrc d1 h
          try dsimp only at h
          rw [if_pos rfl] at h
          cases h
          refine OY_no ?_
          rw [d3]
          rfl
      · have h := bxr hrc c1 h
        try dsimp only at h
        rw [if_pos rfl] at h
        cases h
        refine OY_no ?_
        rw [c3]
        rfl
    · rw [if_pos rfl] at h
      cases h
      refine OY_no ?_
      rw [f1]
      rfl
theorem p_44 (hrc : rle rc rG) (hX : PXx rc) (hS : PSx rc) (h44 : P44 rc) : ∀ (T : Nat → Int) (n e N : Nat) (g : Gtt) (s0 t0 s t : tab) (b y3 y4 : Int) (m : Nat) (v : Option (Int × tab)), RQx T n e N g s t → s 131 6 = 0 → (m : Int) ≤ s 137 5 → RYx g s0 t0 s t m y3 y4 → rM159_44 rc t = some v → OYx T n e N g b s0 t0 s t (Y2x b y3 y4 (m : Int) s) v := by
  intro T n e N g s0 t0 s t b y3 y4 m v hQ p0 m1 hW h
  have hin := RL_in hQ.1.1
  have hm : (m : Int) < 2000 ∨ (s 137 5).toNat = e := by
    by_cases q : (s 137 5).toNat = e
    · exact .inr q
    · have h1 := hQ.1.1.1.1
      have h2 := hQ.1.1.1.2.1
      omega
  unfold rM159_44 at h
  have h := bxr hrc (RL_is is_90 hQ.1.1) h
  try dsimp only at h
  by_cases k1 : kkd s = 313
  · rw [if_pos k1, if_pos (by decide)] at h
    obtain ⟨hQ2, hf⟩ := RQ_16 hQ y4 (m : Int)
    obtain ⟨pw16, fb16⟩ := PW_16 (s := s) (t := t) y4 (m : Int)
    have kk : kkd (up2 (up2 s 131 15 y4) 131 16 (m : Int)) = 313 := k1
    have hrow : cG 68 [313, 0, y3, y4, (m : Int)] s = some (some (y3, up2 (up2 s 131 15 y4) 131 16 (m : Int))) := by
      rw [cG_51_8]
      unfold cM51_8
      split
      · rfl
      · rfl
    have e16 : (up2 (up2 s 131 15 y4) 131 16 (m : Int)) 131 15 = y4 := (if_neg (by omega)).trans up_self
    unfold Y2x
    rw [hrow, bo_s, e16]
    exact OY_pre (p_ret hrc hX hQ2 p0 kk (RY_pw hW pw16 (Int.le_refl _) fb16) h) (Nat.le_refl _) hf ⟨rfl, fun _ _ _ _ => rfl, rfl, rfl, rfl, fun _ => rfl, fun _ => rfl⟩
  · rw [if_neg k1, if_neg (by decide)] at h
    rcases bo_inv h with ⟨h9, _⟩ | ⟨z6, t6, h9, h⟩
    · obtain ⟨z, t3, w1, _⟩ := hS T n e N g s t 1 _ hQ (by omega) (by omega) p0 (by rw [show (1 : Int) - 1 = 0 by omega]; exact h9)
      cases w1
    · obtain ⟨z, t3, w1, w2⟩ := hS T n e N g s t 1 _ hQ (by omega) (by omega) p0 (by rw [show (1 : Int) - 1 = 0 by omega]; exact h9)
      cases w1
      rcases hm with hm | hm
      · have hrow : cG 68 [313, 0, y3, y4, (m : Int)] s = bo (cG 46 [1] s) fun z s1 => cG 68 [313, 0, if 0 < m then y3 else z, z, (m : Int) + 1] (lnk s1 y4 z) := by
          rw [cG_51_8]
          conv => lhs; unfold cM51_8
          rw [if_neg (by omega), if_neg k1, ipl_e (by omega), show (0 : Int) + 1 = 1 by omega]
          congr 1
          funext z s1
          by_cases c : 0 < m
          · rw [if_pos c, if_pos (by omega)]
          · rw [if_neg c, if_neg (by omega)]
        rcases w2 with ⟨rfl, s4, f1, f2, f3, f4, f5, f6⟩ | ⟨rfl, f1⟩
        · rw [if_pos (by decide)] at h
          obtain ⟨s5, hs5⟩ : ∃ s5, s5 = lnk s4 y4 (s4 99 12 - 1) := ⟨_, rfl⟩
          obtain ⟨l1, l2, l3⟩ := RE_lnk f2.1 hs5
          have hz : Y2x b y3 y4 (m : Int) s = Y2x b (if 0 < m then y3 else s4 99 12 - 1) (s4 99 12 - 1) ((m + 1 : Nat) : Int) s5 := by
            unfold Y2x
            rw [hrow, f1, bo_s, ← hs5]
            rfl
          rw [hz]
          have e12 : s5 99 12 = s4 99 12 := l3 99 12 (by omega)
          have e55 : s5 137 5 = s4 137 5 := l3 137 5 (by omega)
          obtain ⟨⟨w1, w4, w5⟩, x1, ⟨z1, z2, z3⟩, g0, g1, g2, g3⟩ := hW
          obtain ⟨q1, q2, q3, q4, ⟨q5, q6, q7⟩, q8⟩ := f6
          obtain ⟨u1, u2, u3, u4, u5, u6, u7⟩ := hQ.1.2.2.2.1
          have b1 := x1.1.1
          have b0 := x1.2.1.1
          have b2 := q4.1.1
          have b3 := q4.2.1.1
          have e5 : s5 = if 0 < m then up2 s4 104 ((s 99 12).toNat - 1) (s4 99 12 - 1) else s4 := by
            rw [hs5]
            unfold lnk
            by_cases c : 0 < m
            · have := w5 c
              rw [if_pos c, if_pos (by omega), show y4.toNat = (s 99 12).toNat - 1 by omega]
            · have := w4 (by omega)
              rw [if_neg c, if_neg (by omega)]
          have ecx : cxt g s5 t6 = cxt g s4 t6 := cxt_eq e12 (fun _ _ _ => rfl)
          have hy4 : ∀ j : Nat, (j : Int) = y4 → s0 99 12 ≤ (j : Int) ∧ (j : Int) < s 99 12 := fun j q => by
            by_cases c : 0 < m
            · have := w5 c
              omega
            · have := w4 (by omega)
              omega
          have hr : 0 ≤ (if 0 < m then y3 else s4 99 12 - 1) := by
            by_cases c : 0 < m
            · have := w5 c
              rw [if_pos c]
              omega
            · rw [if_neg c]
              omega
          refine OY_pre (h44 T n e N g s0 t0 s5 t6 b _ _ (m + 1) v (RQ_E f2 l1 l2 FEr_rf) (by rw [l2.2.1, f3.2.2.2.2.1]; exact p0) (by omega) ⟨⟨fun q => ?_, fun q => absurd q (by omega), fun _ => ⟨by omega, by omega, hr⟩⟩, ?_, ⟨by omega, by omega, by omega⟩, FB_tr g0 (FB_tr q8 (FB_E l2 FEr_rf)), g1, g2, g3⟩ h) (Nat.le_refl _) (FSc_tr f3 (FSc_E l2)) f4
          · rw [e12, ecx]
            have row := EM_up (w1 (q4.2.2.2.2.1 q)) (by omega) (by omega) (fun q => absurd q (by omega)) q4
            have r1' := ROW_s (md := 3) (e := 1) (.inr ⟨rfl, rfl⟩) m _ _ _ _ row (q1 q) (fun q => absurd q (by decide)) rfl q3 (fun _ => trivial)
            rw [← e5] at r1'
            exact r1'
          · obtain ⟨⟨p1, p2⟩, p3, p4, p5, p6, p7⟩ := PF_tr x1 q4
            refine ⟨⟨by omega, fun k2 j j1 j2 j3 => ?_⟩, p3, p4, p5, p6, fun r => (l3 113 r (by omega)).trans (p7 r)⟩
            refine (l3 k2 j ?_).trans (p2 k2 j j1 j2 j3)
            rintro ⟨_, j5⟩
            have := hy4 _ j5
            omega
        · rw [if_neg (by decide)] at h
          cases h
          refine OY_no ?_
          unfold Y2x
          rw [hrow, f1]
          rfl
      · have hk := RL_kk hQ.1.1
        have he := hQ.1.1.1.2.2.1
        rw [hm] at hk
        rcases w2 with ⟨rfl, s4, f1, f2, f3, f4, f5, f6⟩ | ⟨rfl, f1⟩
        · have := RL_in f2.1.1
          omega
        · rw [if_neg (by decide)] at h
          cases h
          refine OY_no ?_
          unfold Y2x Y3x
          rw [cG_51_8]
          unfold cM51_8
          by_cases c2 : 2000 ≤ (m : Int)
          · rw [if_pos c2, bo_s, cG_43]
            unfold cM43
            rw [if_pos (show kkd (up2 (up2 s 131 15 y4) 131 16 (m : Int)) ≠ 313 from k1)]
            rfl
          · rw [if_neg c2, if_neg k1, ipl_e (by omega), show (0 : Int) + 1 = 1 by omega, f1]
            rfl
/-- our ints, row and return -/
noncomputable def Y1x (b i : Int) (s : tab) : RO := bo (cG 67 [b, i] s) fun _ s2 => Y2x b (-1) (-1) 0 s2
def P12 (rc : MRq) : Prop := ∀ (T : Nat → Int) (n e N : Nat) (g : Gtt) (s0 t0 s t : tab) (b i : Int) (v : Option (Int × tab)), RQx T n e N g s t → SCb N b t → s 131 6 = 0 → 0 ≤ i → i ≤ s 137 5 → RYx g s0 t0 s t 0 (-1) (-1) → rc 62 [] t = some v → OYx T n e N g b s0 t0 s t (Y1x b i s) v
theorem p_12 (hrc : rle rc rG) (h44 : P44 rc) (h12 : P12 rc) : ∀ (T : Nat → Int) (n e N : Nat) (g : Gtt) (s0 t0 s t : tab) (b i : Int) (v : Option (Int × tab)), RQx T n e N g s t → SCb N b t → s 131 6 = 0 → 0 ≤ i → i ≤ s 137 5 → RYx g s0 t0 s t 0 (-1) (-1) → rM159_12 rc t = some v → OYx T n e N g b s0 t0 s t (Y1x b i s) v := by
  intro T n e N g s0 t0 s t b i v hQ hsc p0 i0 i1 hW h
  have hin := RL_in hQ.1.1
  unfold rM159_12 at h
  have h := bxr hrc (RL_is is_8 hQ.1.1) h
  try dsimp only at h
  by_cases k1 : kkd s = 301
  · rw [if_pos k1, if_neg (by decide)] at h
    have hi2 : i < 2000 := by
      have hk := RL_kk hQ.1.1
      have he := hQ.1.1.1.2.2.1
      have h1 := hQ.1.1.1.1
      have h2 := hQ.1.1.1.2.1
      have : (s 137 5).toNat ≠ e := fun q => by rw [q] at hk; omega
      omega
    have hloop : cG 67 [b, i] s = bo (cG 32 [b] (stp s)) fun _ s5 => bo (cG 29 [59] s5) fun _ s6 => cG 67 [b, i + 1] s6 := by
      rw [cG_50_2]
      conv => lhs; unfold cM50_2
      rw [if_neg (by omega), if_neg (fun q => q k1)]
    obtain ⟨t2, a1, a2, a3, a4, a5⟩ := RE_step hQ.1 (by omega) (by omega)
    have pst := PF_stp hQ.1.1 (by omega) (by omega) a1
    have hQ2 := RQ_E hQ a2 a3 a4
    have hW2 := RY_pw hW pst (by omega) (FB_E a3 a4)
    have h := bxr hrc a1 h
    try dsimp only at h
    have hsc2 : SCb N b t2 := ⟨hsc.1, hsc.2.1, fun j hj => by rw [a4 176 j (by omega), a4 170 15 (by omega)]; exact hsc.2.2 j hj⟩
    rcases p_var hQ2 hsc2 with ⟨s3, t3, b1, b2, b3, b4, b5, b6, b7, b8, b9⟩ | ⟨t9, b1, b2⟩
    · have hW3 := RY_pw hW2 b8 (by omega) b9
      have h := bxr hrc b1 h
      try dsimp only at h
      rw [if_neg (by decide)] at h
      rcases RE_take b3.1 is_30 (by decide) with ⟨t7, c1, c2, c3, c4, c5, c6, c7⟩ | ⟨c1, c2, c3⟩
      · have pt := PF_take b3.1 is_30 (by decide) c2 c1
        have h := bxr hrc c1 h
        try dsimp only at h
        rw [if_pos (by decide)] at h
        have hQ4 := RQ_E b3 c4 c5 c6
        have hsc4 : SCb (N + 1) b t7 := ⟨b4.1, b4.2.1, fun j hj => by rw [c6 176 j (by omega), c6 170 15 (by omega)]; exact b4.2.2 j hj⟩
        have hz : Y1x b i s = Y1x b (i + 1) (stp s3) := by
          unfold Y1x
          rw [hloop, b2, bo_s, c3, bo_s]
        rw [hz]
        have fc : FSc s (stp s3) := FSc_tr (FSc_E a3) (FSc_tr b5 (FSc_E c5))
        exact OY_pre (h12 T n e (N + 1) g s0 t0 (stp s3) t7 b (i + 1) v hQ4 hsc4 (by rw [fc.2.2.2.2.1]; exact p0) (by omega) (by omega) (RY_pw hW3 pt (by omega) (FB_E c5 c6)) h) (by omega) fc (FSr_tr (FSr_E a4) (FSr_tr b6 (FSr_E c6)))
      · have h := bxr hrc c1 h
        try dsimp only at h
        rw [if_neg (by decide)] at h
        cases h
        refine OY_no ?_
        unfold Y1x
        rw [hloop, b2, bo_s, c3]
        rfl
    · have h := bxr hrc b1 h
      try dsimp only at h
      rw [if_pos rfl] at h
      cases h
      refine OY_no ?_
      unfold Y1x
      rw [hloop, b2]
      rfl
  · rw [if_neg k1, if_pos rfl] at h
    have hz : Y1x b i s = Y2x b (-1) (-1) 0 s := by
      unfold Y1x
      rw [cG_50_2]
      unfold cM50_2
      split
      · rfl
      · rfl
    rw [hz]
    exact h44 T n e N g s0 t0 s t b (-1) (-1) 0 v hQ p0 (by omega) hW h
def PYx (rc : MRq) : Prop := ∀ (T : Nat → Int) (n e N : Nat) (g : Gtt) (s t : tab) (b : Int) (v : Option (Int × tab)), RQx T n e N g s t → SCb N b t → s 131 6 = 0 → rc 35 [] t = some v → OYx T n e N g b s t s t (cG 53 [b] s) v
/-- the body of a fun -/
theorem p_Y (hrc : rle rc rG) (h12 : P12 rc) : ∀ (T : Nat → Int) (n e N : Nat) (g : Gtt) (s t : tab) (b : Int) (v : Option (Int × tab)), RQx T n e N g s t → SCb N b t → s 131 6 = 0 → rM159 rc t = some v → OYx T n e N g b s t s t (cG 53 [b] s) v := by
  intro T n e N g s t b v hQ hsc p0 h
  have hcb : cG 53 [b] s = bo (cG 29 [123] s) fun _ s1 => Y1x b 0 s1 := by
    rw [cG_49]
    unfold cM49 Y1x Y2x Y3x
    congr 1
    funext z1 s1
    rw [cG_50]
    unfold cM50
    congr 1
    funext z2 s2
    rw [cG_51]
    rfl
  rw [hcb]
  unfold rM159 at h
  rcases RE_take hQ.1 is_28 (by decide) with ⟨t7, c1, c2, c3, c4, c5, c6, c7⟩ | ⟨c1, c2, c3⟩
  · have pt := PF_take hQ.1 is_28 (by decide) c2 c1
    have h := bxr hrc c1 h
    try dsimp only at h
    rw [if_pos (by decide)] at h
    have hQ4 := RQ_E hQ c4 c5 c6
    rw [c3, bo_s]
    have hsc4 : SCb N b t7 := ⟨hsc.1, hsc.2.1, fun j hj => by rw [c6 176 j (by omega), c6 170 15 (by omega)]; exact hsc.2.2 j hj⟩
    have hin := RL_in hQ4.1.1
    obtain ⟨u1, u2, u3, u4, u5, u6, u7⟩ := hQ.1.2.2.2.1
    have q2 := pt.2.1
    have q3 := pt.2.2.1
    have q4 := pt.2.2.2
    refine OY_pre (h12 T n e N g s t (stp s) t7 b 0 v hQ4 hsc4 (by rw [c5.2.1]; exact p0) (Int.le_refl _) (by omega) ⟨⟨fun q => ?_, fun _ => ⟨rfl, rfl, q2⟩, fun q => absurd q (by omega)⟩, pt.1, ⟨by omega, by omega, by omega⟩, FB_E c5 c6, u1, u3, u5⟩ h) (Nat.le_refl _) (FSc_E c5) (FSr_E c6)
    rw [q2, q3, q4]
    exact ROW0 (.inr (.inl rfl))
  · have h := bxr hrc c1 h
    try dsimp only at h
    rw [if_neg (by decide)] at h
    cases h
    refine OY_no ?_
    rw [c3]
    rfl
end BODYX
