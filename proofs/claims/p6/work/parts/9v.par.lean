/-! par, in both. -/
section PAR
variable {T : Nat → Int} {n e N : Nat} {g : Int × Int × Int} {s t s2 t2 : tab} {rc : MRq}
def zrC (s : tab) : tab := up2 (up2 (up2 s 131 7 0) 131 8 0) 131 9 0
def fiC (a b c : Int) (s : tab) : tab := up2 (up2 (up2 s 131 7 a) 131 8 b) 131 9 c
def pfC (w pl : Int) (s : tab) : tab := if w = 0 then s else if s 131 3 = -2 then up2 s 131 3 pl else if s 131 3 ≤ pl then s else up2 s 131 3 pl
def fiR (a b c d f : Int) (t : tab) : tab := up2 (up2 (up2 (up2 (up2 t 170 22 a) 170 23 b) 170 24 c) 170 25 d) 170 26 f
def pfR (w pl : Int) (t : tab) : tab := if w = 0 then t else if t 170 21 < 0 then up2 t 170 21 pl else if t 170 21 ≤ pl then t else up2 t 170 21 pl
noncomputable def WBx (x pl a3 a5 a7 c9 c11 c13 w m : Int) (s : tab) : RO := bo (cG 46 [x + 1] (zrC s)) fun _ s7 => cG 69 [x, pl, a3, a5, a7, lo c9 (s7 131 7), lo c11 (s7 131 8), lo c13 (s7 131 9), ior w (if lo (lo (la (s7 131 8) c9) (la (s7 131 7) c11)) (la (s7 131 9) c13) = 0 then 0 else 1), m + 1] s7
theorem c_par0 {x pl a3 a5 a7 c9 c11 c13 w : Int} (hx : 0 ≤ x ∧ x ≤ 20) : cG 69 [x, pl, a3, a5, a7, c9, c11, c13, w, 0] s = bo (cG 29 [123] s) fun _ s1 => WBx x pl a3 a5 a7 c9 c11 c13 w 0 s1 := by
  rw [cG_70_53]
  unfold cM70_53
  rw [if_pos (by decide), if_neg (by decide), ipl_e (by omega)]
  congr 1
  funext z1 s1
  unfold WBx
  congr 1
  funext z2 s2
  split <;> rfl
theorem c_par1 {x pl a3 a5 a7 c9 c11 c13 w m : Int} (hx : 0 ≤ x ∧ x ≤ 20) (hm : m = 1 ∨ (2 ≤ m ∧ m < 6 ∧ kkd s = 124)) : cG 69 [x, pl, a3, a5, a7, c9, c11, c13, w, m] s = bo (cG 29 [124] s) fun _ s1 => WBx x pl a3 a5 a7 c9 c11 c13 w m s1 := by
  have key : (bo (cG 29 [124] s) fun z3 t3 => bo (cG 46 [x + 1] (up2 (up2 (up2 t3 131 7 0) 131 8 0) 131 9 0)) fun z7 t7 => if lo (lo (la (t7 131 8) c9) (la (t7 131 7) c11)) (la (t7 131 9) c13) = 0 then cG 69 [x, pl, a3, a5, a7, lo c9 (t7 131 7), lo c11 (t7 131 8), lo c13 (t7 131 9), ior w 0, m + 1] t7 else cG 69 [x, pl, a3, a5, a7, lo c9 (t7 131 7), lo c11 (t7 131 8), lo c13 (t7 131 9), ior w 1, m + 1] t7) = bo (cG 29 [124] s) fun _ s1 => WBx x pl a3 a5 a7 c9 c11 c13 w m s1 := by
    congr 1
    funext z1 s1
    unfold WBx
    congr 1
    funext z2 s2
    split <;> rfl
  rw [cG_70_53]
  unfold cM70_53
  rw [ipl_e (by omega)]
  rcases hm with hm | ⟨h1, h2, h3⟩
  · rw [if_pos (by omega), if_pos (by omega)]
    exact key
  · rw [if_neg (by omega), if_neg (by omega), if_neg (fun q => q h3), if_pos (by omega)]
    exact key
theorem c_par2 {x pl a3 a5 a7 c9 c11 c13 w m : Int} (hm : 2 ≤ m) (h6 : 6 ≤ m ∨ kkd s ≠ 124) : cG 69 [x, pl, a3, a5, a7, c9, c11, c13, w, m] s = bo (cG 29 [125] s) fun _ s1 => some (some (0, pfC w pl (fiC (lo a3 c9) (lo a5 c11) (lo a7 c13) s1))) := by
  have key : (bo (cG 29 [125] s) fun z40 t40 => if w = 0 then some (some ((0 : Int), up2 (up2 (up2 t40 131 7 (lo a3 c9)) 131 8 (lo a5 c11)) 131 9 (lo a7 c13))) else if t40 131 3 = (-2) then some (some (0, up2 (up2 (up2 (up2 t40 131 7 (lo a3 c9)) 131 8 (lo a5 c11)) 131 9 (lo a7 c13)) 131 3 pl)) else if t40 131 3 ≤ pl then some (some (0, up2 (up2 (up2 t40 131 7 (lo a3 c9)) 131 8 (lo a5 c11)) 131 9 (lo a7 c13))) else some (some (0, up2 (up2 (up2 (up2 t40 131 7 (lo a3 c9)) 131 8 (lo a5 c11)) 131 9 (lo a7 c13)) 131 3 pl))) = bo (cG 29 [125] s) fun _ s1 => some (some (0, pfC w pl (fiC (lo a3 c9) (lo a5 c11) (lo a7 c13) s1))) := by
    congr 1
    funext z1 s1
    unfold pfC
    rw [show (fiC (lo a3 c9) (lo a5 c11) (lo a7 c13) s1) 131 3 = s1 131 3 from rfl]
    by_cases h1 : w = 0
    · rw [if_pos h1, if_pos h1]
      rfl
    · rw [if_neg h1, if_neg h1]
      by_cases h2 : s1 131 3 = -2
      · rw [if_pos h2, if_pos h2]
        rfl
      · rw [if_neg h2, if_neg h2]
        by_cases h3 : s1 131 3 ≤ pl
        · rw [if_pos h3, if_pos h3]
          rfl
        · rw [if_neg h3, if_neg h3]
          rfl
  rw [cG_70_53]
  unfold cM70_53
  rw [if_neg (by omega)]
  by_cases h7 : 6 ≤ m
  · rw [if_pos h7]
    exact key
  · rw [if_neg h7, if_pos (show kkd s ≠ 124 by omega)]
    exact key
/-- masks put aside; masks of the branches before -/
def SAV (g : Int × Int × Int) (a3 a5 a7 y7 y9 y11 y13 y15 : Int) : Prop := a3 = lo g.1 (lo y9 y7) ∧ a5 = lo g.2.1 y7 ∧ a7 = lo g.2.2 (pkm y11 y13 y15) ∧ MB3 y11 y13 y15
def ACC (c9 c11 c13 r17 r19 r21 r23 r25 : Int) : Prop := c9 = lo r19 r17 ∧ c11 = r17 ∧ c13 = pkm r21 r23 r25 ∧ MB3 r21 r23 r25
theorem ACC_up {c9 c11 c13 r17 r19 r21 r23 r25 : Int} (h : ACC c9 c11 c13 r17 r19 r21 r23 r25) (hm : RMk (0, 0, 0) s t) : ACC (lo c9 (s 131 7)) (lo c11 (s 131 8)) (lo c13 (s 131 9)) (lo r17 (t 170 22)) (lo r19 (t 170 23)) (lo r21 (t 170 24)) (lo r23 (t 170 25)) (lo r25 (t 170 26)) := by
  obtain ⟨h1, h2, h3, h4⟩ := h
  obtain ⟨m1, m2, m3, m4⟩ := hm
  refine ⟨?_, ?_, ?_, MB_lo h4 m4⟩
  · rw [h1, m1, lo_lo0]
    simp only [lo_assoc, lo_comm, lo_lc]
  · rw [h2, m2, lo_lo0]
  · rw [h3, m3, lo_lo0, pkm_lo]
theorem RQ_zr (h : RQx T n e N g s t) : RQx T n e N (0, 0, 0) (zrC s) (rfg t) ∧ FEc s (zrC s) ∧ FEr t (rfg t) := by
  have k := RE_mask (g2 := (0, 0, 0)) (s3 := zrC s) (t3 := rfg t) h.1 (fun k j a => (if_neg (by omega)).trans ((if_neg (by omega)).trans (if_neg (by omega)))) (fun k j a => (if_neg (by omega)).trans ((if_neg (by omega)).trans ((if_neg (by omega)).trans ((if_neg (by omega)).trans (if_neg (by omega)))))) ⟨by show (0 : Int) = lo 0 (lo 0 0); decide, by show (0 : Int) = lo 0 0; decide, by show (0 : Int) = lo 0 (pkm 0 0 0); decide, show MB3 0 0 0 from ⟨⟨by decide, by decide⟩, ⟨by decide, by decide⟩, by decide, by decide⟩⟩
  exact ⟨RQ_E h k.1 k.2.1 k.2.2, k.2⟩
theorem RQ_pf (h : RQx T n e N g s t) {w pl : Int} (hp : 0 ≤ pl) : RQx T n e N g (pfC w pl s) (pfR w pl t) ∧ FSc s (pfC w pl s) ∧ FSr N t (pfR w pl t) ∧ (pfC w pl s) 137 5 = s 137 5 := by
  have key : RQx T n e N g (up2 s 131 3 pl) (up2 t 170 21 pl) := by
    obtain ⟨⟨⟨hT, hx, l3, l4, l5⟩, ⟨⟨a1, a2, a3, a4, a5⟩, b, c, d1, d2⟩, m⟩, p, ⟨c1, c2, c3, c4⟩, q1, q2⟩ := h
    exact ⟨⟨⟨hT, hx, l3, l4, l5⟩, ⟨⟨a1, a2, a3, a4, a5⟩, b, c, d1, d2⟩, m⟩, .inr ⟨hp, rfl⟩, ⟨c1, c2, c3, c4⟩, q1, q2⟩
  have keep : RQx T n e N g s t ∧ FSc s s ∧ FSr N t t ∧ s 137 5 = s 137 5 := ⟨h, FSc_rf, FSr_rf, rfl⟩
  have all : RQx T n e N g (up2 s 131 3 pl) (up2 t 170 21 pl) ∧ FSc s (up2 s 131 3 pl) ∧ FSr N t (up2 t 170 21 pl) ∧ (up2 s 131 3 pl) 137 5 = s 137 5 := ⟨key, ⟨fun _ => rfl, fun _ => rfl, rfl, rfl, rfl, Int.le_refl _⟩, ⟨rfl, fun _ _ => rfl, rfl, rfl, rfl, fun _ => rfl, fun _ => rfl⟩, rfl⟩
  have p := h.2.1
  unfold RPf at p
  unfold pfC pfR
  by_cases h1 : w = 0
  · rw [if_pos h1, if_pos h1]
    exact keep
  · rw [if_neg h1, if_neg h1]
    rcases p with ⟨p1, p2⟩ | ⟨p1, p2⟩
    · rw [if_pos p1, if_pos (show t 170 21 < 0 by omega)]
      exact all
    · rw [if_neg (show ¬ s 131 3 = -2 by omega), if_neg (show ¬ t 170 21 < 0 by omega), p2]
      by_cases h3 : t 170 21 ≤ pl
      · rw [if_pos h3, if_pos h3]
        exact keep
      · rw [if_neg h3, if_neg h3]
        exact all
theorem RQ_fi (h : RQx T n e N (0, 0, 0) s t) {a3 a5 a7 y7 y9 y11 y13 y15 c9 c11 c13 r17 r19 r21 r23 r25 : Int} (hs : SAV g a3 a5 a7 y7 y9 y11 y13 y15) (ha : ACC c9 c11 c13 r17 r19 r21 r23 r25) : RQx T n e N g (fiC (lo a3 c9) (lo a5 c11) (lo a7 c13) s) (fiR (lo y7 r17) (lo y9 r19) (lo y11 r21) (lo y13 r23) (lo y15 r25) t) ∧ FEc s (fiC (lo a3 c9) (lo a5 c11) (lo a7 c13) s) ∧ FEr t (fiR (lo y7 r17) (lo y9 r19) (lo y11 r21) (lo y13 r23) (lo y15 r25) t) := by
  obtain ⟨h1, h2, h3, h4⟩ := hs
  obtain ⟨k1, k2, k3, k4⟩ := ha
  have k := RE_mask (g2 := g) (s3 := fiC (lo a3 c9) (lo a5 c11) (lo a7 c13) s) (t3 := fiR (lo y7 r17) (lo y9 r19) (lo y11 r21) (lo y13 r23) (lo y15 r25) t) h.1 (fun k j a => (if_neg (by omega)).trans ((if_neg (by omega)).trans (if_neg (by omega)))) (fun k j a => (if_neg (by omega)).trans ((if_neg (by omega)).trans ((if_neg (by omega)).trans ((if_neg (by omega)).trans (if_neg (by omega)))))) (by
    refine ⟨?_, ?_, ?_, MB_lo h4 k4⟩
    · show lo a3 c9 = lo g.1 (lo (lo y9 r19) (lo y7 r17))
      rw [h1, k1]
      simp only [lo_assoc, lo_comm, lo_lc]
    · show lo a5 c11 = lo g.2.1 (lo y7 r17)
      rw [h2, k2]
      simp only [lo_assoc, lo_comm, lo_lc]
    · show lo a7 c13 = lo g.2.2 (pkm (lo y11 r21) (lo y13 r23) (lo y15 r25))
      rw [h3, k3, pkm_lo]
      simp only [lo_assoc, lo_comm, lo_lc])
  exact ⟨RQ_E h k.1 k.2.1 k.2.2, k.2⟩
def P273 (rc : MRq) : Prop := ∀ (T : Nat → Int) (n e N : Nat) (g : Int × Int × Int) (s t : tab) (x pl m a3 a5 a7 y7 y9 y11 y13 y15 c9 c11 c13 r17 r19 r21 r23 r25 cl w : Int) (v : Option (Int × tab)), RQx T n e N (0, 0, 0) s t → 1 ≤ x → x ≤ 20 → s 131 6 = 0 → 0 ≤ pl → 0 ≤ m → m ≤ 5 → SAV g a3 a5 a7 y7 y9 y11 y13 y15 → ACC c9 c11 c13 r17 r19 r21 r23 r25 → rc 60 [x - 1, pl, m, y7, y9, y11, y13, y15, r17, r19, r21, r23, r25, cl, w] t = some v → OSx T n e N g s t (cG 69 [x, pl, a3, a5, a7, lo c9 (s 131 7), lo c11 (s 131 8), lo c13 (s 131 9), ior w cl, m + 1] s) v
def P134 (rc : MRq) : Prop := ∀ (T : Nat → Int) (n e N : Nat) (g gx : Int × Int × Int) (s t : tab) (x pl m a3 a5 a7 y7 y9 y11 y13 y15 c9 c11 c13 r17 r19 r21 r23 r25 w : Int) (v : Option (Int × tab)), RQx T n e N gx s t → 1 ≤ x → x ≤ 20 → s 131 6 = 0 → 0 ≤ pl → 0 ≤ m → m ≤ 6 → (m ≠ 0 → kkd s = 124) → SAV g a3 a5 a7 y7 y9 y11 y13 y15 → ACC c9 c11 c13 r17 r19 r21 r23 r25 → rc 59 [x - 1, pl, m, y7, y9, y11, y13, y15, r17, r19, r21, r23, r25, w] t = some v → OSx T n e N g s t (if m = 0 then WBx x pl a3 a5 a7 c9 c11 c13 w 0 s else cG 69 [x, pl, a3, a5, a7, c9, c11, c13, w, m] s) v
theorem OS_g {g2 : Int × Int × Int} {s0 t0 : tab} {X : RO} {v : Option (Int × tab)} (h : OSx T n e N g2 s t X v) (hc : FSc s0 s) (hr : FSr N t0 t) : OSx T n e N g2 s0 t0 X v := OS_pre h hc hr
theorem p_273 (hrc : rle rc rG) (h134 : P134 rc) : ∀ (T : Nat → Int) (n e N : Nat) (g : Int × Int × Int) (s t : tab) (x pl m a3 a5 a7 y7 y9 y11 y13 y15 c9 c11 c13 r17 r19 r21 r23 r25 cl w : Int) (v : Option (Int × tab)), RQx T n e N (0, 0, 0) s t → 1 ≤ x → x ≤ 20 → s 131 6 = 0 → 0 ≤ pl → 0 ≤ m → m ≤ 5 → SAV g a3 a5 a7 y7 y9 y11 y13 y15 → ACC c9 c11 c13 r17 r19 r21 r23 r25 → rM155_273 rc (x - 1) pl m y7 y9 y11 y13 y15 r17 r19 r21 r23 r25 cl w t = some v → OSx T n e N g s t (cG 69 [x, pl, a3, a5, a7, lo c9 (s 131 7), lo c11 (s 131 8), lo c13 (s 131 9), ior w cl, m + 1] s) v := by
  intro T n e N g s t x pl m a3 a5 a7 y7 y9 y11 y13 y15 c9 c11 c13 r17 r19 r21 r23 r25 cl w v hQ x0 x1 p0 pl0 m0 m1 hs ha h
  have ha2 := ACC_up ha hQ.1.2.2
  unfold rM155_273 at h
  rw [ipl_e (show -2147483648 ≤ m + 1 ∧ m + 1 ≤ 2147483647 by omega)] at h
  have next : kkd s = 124 → rc 59 [x - 1, pl, m + 1, y7, y9, y11, y13, y15, lo r17 (t 170 22), lo r19 (t 170 23), lo r21 (t 170 24), lo r23 (t 170 25), lo r25 (t 170 26), ior w cl] t = some v → OSx T n e N g s t (cG 69 [x, pl, a3, a5, a7, lo c9 (s 131 7), lo c11 (s 131 8), lo c13 (s 131 9), ior w cl, m + 1] s) v := fun hk h => by
    have := h134 T n e N g (0, 0, 0) s t x pl (m + 1) a3 a5 a7 y7 y9 y11 y13 y15 _ _ _ _ _ _ _ _ _ v hQ x0 x1 p0 pl0 (by omega) (by omega) (fun _ => hk) hs ha2 h
    rw [if_neg (by omega)] at this
    exact this
  by_cases hm : m + 1 ≠ 1
  · rw [if_pos hm] at h
    have h := bxr hrc (RL_is is_50 hQ.1.1) h
    try dsimp only at h
    by_cases k1 : kkd s = 124
    · rw [if_pos k1, if_pos (by decide)] at h
      exact next k1 h
    · rw [if_neg k1, if_neg (by decide)] at h
      rw [c_par2 (by omega) (.inr k1)]
      rcases RE_take hQ.1 is_32 (by decide) with ⟨t7, c1, c2, c3, c4, c5, c6, c7⟩ | ⟨c1, c2, c3⟩
      · have h := bxr hrc c1 h
        try dsimp only at h
        rw [if_pos (by decide)] at h
        have hQ4 := RQ_E hQ c4 c5 c6
        obtain ⟨f1, f2, f3⟩ := RQ_fi hQ4 hs ha2
        obtain ⟨w1, w2, w3, w4⟩ := RQ_pf (w := ior w cl) f1 pl0
        rw [c3, bo_s]
        have hv : some (some ((1 : Int), pfR (ior w cl) pl (fiR (lo y7 (lo r17 (t 170 22))) (lo y9 (lo r19 (t 170 23))) (lo y11 (lo r21 (t 170 24))) (lo y13 (lo r23 (t 170 25))) (lo y15 (lo r25 (t 170 26))) t7))) = some v := by
          rw [← h]
          unfold pfR
          rw [show (fiR (lo y7 (lo r17 (t 170 22))) (lo y9 (lo r19 (t 170 23))) (lo y11 (lo r21 (t 170 24))) (lo y13 (lo r23 (t 170 25))) (lo y15 (lo r25 (t 170 26))) t7) 170 21 = t7 170 21 from rfl]
          by_cases h1 : ior w cl = 0
          · rw [if_pos h1, if_pos h1]
            rfl
          · rw [if_neg h1, if_neg h1]
            by_cases h2 : t7 170 21 < 0
            · rw [if_pos h2, if_pos h2]
              rfl
            · rw [if_neg h2, if_neg h2]
              by_cases h3 : t7 170 21 ≤ pl
              · rw [if_pos h3, if_pos h3]
                rfl
              · rw [if_neg h3, if_neg h3]
                rfl
        cases hv
        refine ⟨1, _, rfl, .inl ⟨rfl, _, rfl, w1, FSc_tr (FSc_E c5) (FSc_tr (FSc_E f2) w2), FSr_tr (FSr_E c6) (FSr_tr (FSr_E f3) w3), ?_⟩⟩
        rw [w4]
        show s 137 5 < (stp s) 137 5
        omega
      · have h := bxr hrc c1 h
        try dsimp only at h
        rw [if_neg (by decide)] at h
        cases h
        refine OS_no ?_
        rw [c3]
        rfl
  · rw [if_neg hm] at h
    have h := bxr hrc (RL_is is_50 hQ.1.1) h
    try dsimp only at h
    by_cases k1 : kkd s = 124
    · rw [if_pos k1, if_pos (by decide)] at h
      exact next k1 h
    · rw [if_neg k1, if_neg (by decide)] at h
      cases h
      refine OS_no ?_
      rw [c_par1 (by omega) (.inl (by omega)), cG_43]
      unfold cM43
      rw [if_pos k1]
      rfl
/-- one branch -/
theorem p_br (hS : PSx rc) (h273 : P273 rc) {gx : Int × Int × Int} {x pl m a3 a5 a7 y7 y9 y11 y13 y15 c9 c11 c13 r17 r19 r21 r23 r25 w : Int} {v : Option (Int × tab)} (hQ : RQx T n e N gx s t) (x0 : 1 ≤ x) (x1 : x ≤ 20) (p0 : s 131 6 = 0) (pl0 : 0 ≤ pl) (m0 : 0 ≤ m) (m1 : m ≤ 5) (hs : SAV g a3 a5 a7 y7 y9 y11 y13 y15) (ha : ACC c9 c11 c13 r17 r19 r21 r23 r25)
    (h : (bo (rc 29 [ipl (x - 1) 1] (rfg t)) fun z11 t11 => if z11 ≠ 0 then (if la r17 (lo (t11 170 23) (t11 170 22)) ≠ 0 then rc 60 [x - 1, pl, m, y7, y9, y11, y13, y15, r17, r19, r21, r23, r25, 1, w] t11 else if la (t11 170 22) (lo r19 r17) ≠ 0 then rc 60 [x - 1, pl, m, y7, y9, y11, y13, y15, r17, r19, r21, r23, r25, 1, w] t11 else if la r21 (t11 170 24) ≠ 0 then rc 60 [x - 1, pl, m, y7, y9, y11, y13, y15, r17, r19, r21, r23, r25, 1, w] t11 else if la r23 (t11 170 25) ≠ 0 then rc 60 [x - 1, pl, m, y7, y9, y11, y13, y15, r17, r19, r21, r23, r25, 1, w] t11 else if la r25 (t11 170 26) = 0 then rc 60 [x - 1, pl, m, y7, y9, y11, y13, y15, r17, r19, r21, r23, r25, 0, w] t11 else rc 60 [x - 1, pl, m, y7, y9, y11, y13, y15, r17, r19, r21, r23, r25, 1, w] t11) else some (some (0, t11))) = some v) : OSx T n e N g s t (WBx x pl a3 a5 a7 c9 c11 c13 w m s) v := by
  obtain ⟨z1, z2, z3⟩ := RQ_zr hQ
  unfold WBx
  rcases p_stm hS z1 x0 x1 p0 h with ⟨s3, t3, b1, b2, b3, b4, b5, h⟩ | ⟨⟨t9, rfl⟩, b1⟩
  · rw [b1, bo_s]
    have hce := clash_e b2.1.2.2.1 b2.1.2.2.2.1 b2.1.2.2.2.2.1 b2.1.2.2.2.2.2 ha.1 ha.2.1 ha.2.2.1 ha.2.2.2
    have p3 : s3 131 6 = 0 := by rw [b3.2.2.2.2.1]; exact p0
    have fin : ∀ cl : Int, (if lo (lo (la (s3 131 8) c9) (la (s3 131 7) c11)) (la (s3 131 9) c13) = 0 then (0 : Int) else 1) = cl → rc 60 [x - 1, pl, m, y7, y9, y11, y13, y15, r17, r19, r21, r23, r25, cl, w] t3 = some v → OSx T n e N g s t (cG 69 [x, pl, a3, a5, a7, lo c9 (s3 131 7), lo c11 (s3 131 8), lo c13 (s3 131 9), ior w (if lo (lo (la (s3 131 8) c9) (la (s3 131 7) c11)) (la (s3 131 9) c13) = 0 then 0 else 1), m + 1] s3) v := fun cl hcl hh => by
      rw [hcl]
      exact OS_g (h273 T n e N g s3 t3 x pl m a3 a5 a7 y7 y9 y11 y13 y15 c9 c11 c13 r17 r19 r21 r23 r25 cl w v b2 x0 x1 p3 pl0 m0 m1 hs ha hh) (FSc_tr (FSc_E z2) b3) (FSr_tr (FSr_E z3) b4)
    by_cases q1 : la r17 (lo (t3 170 23) (t3 170 22)) ≠ 0
    · rw [if_pos q1] at h
      exact fin 1 (if_neg (fun q => q1 (hce.mp q).1)) h
    rw [if_neg q1] at h
    by_cases q2 : la (t3 170 22) (lo r19 r17) ≠ 0
    · rw [if_pos q2] at h
      exact fin 1 (if_neg (fun q => q2 (hce.mp q).2.1)) h
    rw [if_neg q2] at h
    by_cases q3 : la r21 (t3 170 24) ≠ 0
    · rw [if_pos q3] at h
      exact fin 1 (if_neg (fun q => q3 (hce.mp q).2.2.1)) h
    rw [if_neg q3] at h
    by_cases q4 : la r23 (t3 170 25) ≠ 0
    · rw [if_pos q4] at h
      exact fin 1 (if_neg (fun q => q4 (hce.mp q).2.2.2.1)) h
    rw [if_neg q4] at h
    by_cases q5 : la r25 (t3 170 26) = 0
    · rw [if_pos q5] at h
      exact fin 0 (if_pos (hce.mpr ⟨Decidable.not_not.mp q1, Decidable.not_not.mp q2, Decidable.not_not.mp q3, Decidable.not_not.mp q4, q5⟩)) h
    · rw [if_neg q5] at h
      exact fin 1 (if_neg (fun q => q5 (hce.mp q).2.2.2.2)) h
  · refine OS_no ?_
    rw [b1]
    rfl
theorem p_134 (hrc : rle rc rG) (hS : PSx rc) (h273 : P273 rc) : ∀ (T : Nat → Int) (n e N : Nat) (g gx : Int × Int × Int) (s t : tab) (x pl m a3 a5 a7 y7 y9 y11 y13 y15 c9 c11 c13 r17 r19 r21 r23 r25 w : Int) (v : Option (Int × tab)), RQx T n e N gx s t → 1 ≤ x → x ≤ 20 → s 131 6 = 0 → 0 ≤ pl → 0 ≤ m → m ≤ 6 → (m ≠ 0 → kkd s = 124) → SAV g a3 a5 a7 y7 y9 y11 y13 y15 → ACC c9 c11 c13 r17 r19 r21 r23 r25 → rM155_134 rc (x - 1) pl m y7 y9 y11 y13 y15 r17 r19 r21 r23 r25 w t = some v → OSx T n e N g s t (if m = 0 then WBx x pl a3 a5 a7 c9 c11 c13 w 0 s else cG 69 [x, pl, a3, a5, a7, c9, c11, c13, w, m] s) v := by
  intro T n e N g gx s t x pl m a3 a5 a7 y7 y9 y11 y13 y15 c9 c11 c13 r17 r19 r21 r23 r25 w v hQ x0 x1 p0 pl0 m0 m1 hk hs ha h
  unfold rM155_134 at h
  by_cases m6 : m ≠ 6
  · rw [if_pos m6] at h
    by_cases mz : m ≤ 0
    · rw [if_pos mz] at h
      have e0 : m = 0 := by omega
      rw [if_pos e0]
      subst e0
      exact p_br hS h273 hQ x0 x1 p0 pl0 (by omega) (by omega) hs ha h
    · rw [if_neg mz] at h
      rw [if_neg (by omega)]
      have k1 := hk (by omega)
      obtain ⟨t2, a1, a2, a4, a5', a6⟩ := RE_step hQ.1 (by omega) (by omega)
      have hQ2 := RQ_E hQ a2 a4 a5'
      have h := bxr hrc a1 h
      try dsimp only at h
      rw [c_par1 (by omega) (by omega)]
      have hex : cG 29 [124] s = some (some (0, stp s)) := by
        rw [cG_43]
        unfold cM43
        exact if_neg (fun q => q k1)
      rw [hex, bo_s]
      exact OS_g (p_br hS h273 hQ2 x0 x1 (by rw [a4.2.1]; exact p0) pl0 m0 (by omega) hs ha h) (FSc_E a4) (FSr_E a5')
  · rw [if_neg m6] at h
    cases h
    rw [if_neg (by omega)]
    refine OS_no ?_
    have k1 := hk (by omega)
    rw [c_par2 (by omega) (.inl (by omega)), cG_43]
    unfold cM43
    rw [if_pos (show kkd s ≠ 125 by omega)]
    rfl
def P53 (rc : MRq) : Prop := ∀ (T : Nat → Int) (n e N : Nat) (g : Int × Int × Int) (s t : tab) (x pl y : Int) (v : Option (Int × tab)), RQx T n e N g s t → 1 ≤ x → x ≤ 20 → s 131 6 = 0 → 0 ≤ pl → rc 58 [x - 1, pl, 0, y] t = some v → OSx T n e N g s t (WBx x pl (s 131 7) (s 131 8) (s 131 9) 0 0 0 0 0 s) v
theorem p_53 (h134 : P134 rc) (h53 : P53 rc) : ∀ (T : Nat → Int) (n e N : Nat) (g : Int × Int × Int) (s t : tab) (x pl y : Int) (v : Option (Int × tab)), RQx T n e N g s t → 1 ≤ x → x ≤ 20 → s 131 6 = 0 → 0 ≤ pl → rM155_53 rc (x - 1) pl 0 y t = some v → OSx T n e N g s t (WBx x pl (s 131 7) (s 131 8) (s 131 9) 0 0 0 0 0 s) v := by
  intro T n e N g s t x pl y v hQ x0 x1 p0 pl0 h
  unfold rM155_53 at h
  by_cases y6 : 6 ≤ y
  · rw [if_pos y6] at h
    have := h134 T n e N g g s t x pl 0 (s 131 7) (s 131 8) (s 131 9) _ _ _ _ _ 0 0 0 _ _ _ _ _ _ v hQ x0 x1 p0 pl0 (by omega) (by omega) (fun q => absurd rfl q) hQ.1.2.2 ⟨by decide, rfl, by decide, ⟨by decide, by decide⟩, ⟨by decide, by decide⟩, by decide, by decide⟩ h
    rw [if_pos rfl] at this
    exact this
  · rw [if_neg y6] at h
    exact h53 T n e N g s t x pl _ v hQ x0 x1 p0 pl0 h
/-- par(..) -/
theorem p_P (hrc : rle rc rG) (h53 : P53 rc) : ∀ (T : Nat → Int) (n e N : Nat) (g : Int × Int × Int) (s t : tab) (x : Int) (v : Option (Int × tab)), RQx T n e N g s t → 1 ≤ x → x ≤ 20 → s 131 6 = 0 → kkd s = 312 → rM155 rc (x - 1) t = some v → OSx T n e N g s t (cG 48 [x] s) v := by
  intro T n e N g s t x v hQ x0 x1 p0 hk h
  unfold rM155 at h
  obtain ⟨t2, a1, a2, a3, a4, a5⟩ := RE_step hQ.1 (by omega) (by omega)
  have hQ2 := RQ_E hQ a2 a3 a4
  have h := bxr hrc a1 h
  try dsimp only at h
  have e5 : t 170 5 = plc s := by rw [RL_pl hQ.1.1]; exact hQ.1.1.2.2.2.2.1
  have pl0 : 0 ≤ plc s := by rw [RL_pl hQ.1.1]; omega
  rw [cG_70]
  unfold cM70
  rw [c_par0 (by omega)]
  rcases RE_take a2 is_28 (by decide) with ⟨t7, c1, c2, c3, c4, c5, c6, c7⟩ | ⟨c1, c2, c3⟩
  · have h := bxr hrc c1 h
    try dsimp only at h
    rw [if_pos (by decide)] at h
    have hQ4 := RQ_E hQ2 c4 c5 c6
    rw [c3, bo_s]
    have e7 : ∀ j, (stp (stp s)) 131 j = s 131 j := fun j => by
      rw [stp_e a2.1 (by omega) (by omega)]
      show (stp s) 131 j = s 131 j
      rw [stp_e hQ.1.1 (by omega) (by omega)]
      rfl
    rw [e5] at h
    have := h53 T n e N g (stp (stp s)) t7 x (plc s) 0 v hQ4 x0 x1 (by rw [e7]; exact p0) pl0 h
    rw [e7, e7, e7] at this
    exact OS_pre this (FSc_tr (FSc_E a3) (FSc_E c5)) (FSr_tr (FSr_E a4) (FSr_E c6))
  · have h := bxr hrc c1 h
    try dsimp only at h
    rw [if_neg (by decide)] at h
    cases h
    refine OS_no ?_
    rw [c3]
    rfl
end PAR
