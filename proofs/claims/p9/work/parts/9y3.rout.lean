/-! Routines, in both: all of it. -/
section ROUT3
variable {T : Nat → Int} {n e N N1 p q M : Nat} {s t s2 t2 s0 t0 : tab} {rc : MRq} {F y1 y3 : Int} {H : Gmx × (Nat → Nat)}
/-- the reference's table behind proc NAME -/
def rtR (y1 : Int) (q : Nat) (t : tab) : tab := up2 (up2 (up2 (up2 (up2 (up2 (up2 t 170 15 (t 170 16)) 170 16 (ipl (t 170 16) 1)) 170 35 (q : Int)) 170 37 (if y1 = 0 then 1 else 0)) 170 36 (t 177 4)) 202 q (t 177 4)) 201 q 0
theorem RP_0 {s1 tU : tab} (h0 : RDx T n e N s0 t0) (hH : RHx T n e (N + 1) (q : Int) s1 tU) (hsc : SCb (N + 1) 0 tU) (hc : DGc s0 s1) (hr : DGr N t0 tU) (h2 : s0 137 5 + 1 ≤ s1 137 5) (q12 : q < 12) : RPx T n e (N + 1) 0 q (tU 177 4) y1 (tU 170 15) s1 (rtR y1 q tU) := by
  have hin := RL_in hH.1
  have z16 : t0 170 16 ≤ s0 137 5 + 1 := h0.1.2.2.2.2.2.1.2.2.1
  have y16 : tU 170 16 = t0 170 16 := hr.1 170 16 (by unfold lexs; omega) (by omega) (by omega)
  have y6 : s1 131 6 = 0 := (hc.1 131 6 (by omega) (by omega)).trans h0.2.2.1
  obtain ⟨⟨l1, ⟨l2, l2', l2''⟩, l3, l4, l5⟩, ⟨b1, b2, b3, b4, b5⟩, hC, hR, hP, ⟨d1, d2, d3, d4⟩, hU⟩ := hH
  have e16 : (rtR y1 q tU) 170 16 = tU 170 16 + 1 := by
    show ipl (tU 170 16) 1 = _
    exact ipl_e (by omega)
  have e15 : (rtR y1 q tU) 170 15 = tU 170 16 := rfl
  have hc0 := hC 0 (by omega)
  have e4 : tU 177 4 = s1 109 0 := hc0.1
  refine ⟨⟨⟨l1, ⟨l2, l2', l2''⟩, l3, l4, l5⟩, ⟨b1, b2, b3, b4, b5⟩, hC, fun r z1 z2 => ?_, hP, ⟨by rw [e15]; omega, by rw [e15, e16]; omega, by rw [e16]; omega, fun j hj => ?_⟩, hU⟩, ⟨by omega, by omega, fun j hj => ?_⟩, ?_, fun j hj => ?_, ⟨rfl, rfl, rfl, ?_, ?_⟩, ⟨q12, by omega, by omega⟩, y6, ⟨d1, by rw [e15]; exact d2⟩, fun j hj => (hsc.2.2 j hj).mpr (by omega)⟩
  · obtain ⟨w1, w2⟩ := hR r z1 z2
    refine ⟨?_, w2⟩
    show (up2 (up2 tU 202 q (tU 177 4)) 201 q 0) 201 r = s1 112 r
    exact (if_neg (by omega)).trans ((if_neg (by omega)).trans w1)
  · rw [e16]
    have : 0 ≤ tU 176 j ∧ tU 176 j < tU 170 16 := d4 j hj
    show 0 ≤ tU 176 j ∧ tU 176 j < tU 170 16 + 1
    omega
  · rw [e15]
    have : 0 ≤ tU 176 j ∧ tU 176 j < tU 170 16 := d4 j hj
    show tU 176 j = tU 170 16 ↔ _
    exact ⟨fun z => by omega, fun z => by omega⟩
  · rw [e4]
    omega
  · refine ⟨fun z => absurd z (by omega), fun _ z => ?_⟩
    obtain ⟨_, _, _, _, _, w⟩ := b5 j hj
    rw [z] at w
    rw [e4]
    exact w
  · show (up2 (up2 tU 202 q (tU 177 4)) 201 q 0) 201 q = ((0 : Nat) : Int)
    exact up_self
  · show (up2 (up2 tU 202 q (tU 177 4)) 201 q 0) 202 q = tU 177 4
    exact (if_neg (by omega)).trans up_self
theorem rt_o {y1 : Int} (k j : Nat) (h : ¬ (k = 170 ∧ (j = 15 ∨ j = 16 ∨ j = 35 ∨ j = 36 ∨ j = 37))) (h2 : ¬ ((k = 201 ∨ k = 202) ∧ j = q)) : (rtR y1 q t) k j = t k j := by
  unfold rtR
  exact (if_neg (by omega)).trans ((if_neg (by omega)).trans ((if_neg (by omega)).trans ((if_neg (by omega)).trans ((if_neg (by omega)).trans ((if_neg (by omega)).trans (if_neg (by omega)))))))
/-- from between declarations into a routine -/
theorem GP_0 {s1 tU : tab} (h : GDy H s0 t0) (h0 : RDx T n e N s0 t0) (hc : DGc s0 s1) (hr : DGr N t0 tU) (h2 : s0 137 5 + 2 ≤ s1 137 5) (hq : s0 109 5 = (q : Int)) (h109 : s1 109 5 = (q : Int) + 1) (h3 : s1 105 3 = ((N + 1 : Nat) : Int)) (h7 : ∀ j : Nat, j < N → s1 107 j = s0 107 j ∧ s1 108 j = s0 108 j) (hN : s1 107 N = (if y1 = 0 then 6 else 5)) (hN8 : s1 108 N = (q : Int)) (hbn : s0 109 0 ≤ s1 109 0 ∧ s0 109 1 ≤ s1 109 1) : GPy H q y1 s1 (rtR y1 q tU) := by
  obtain ⟨⟨a1, a2, a3, a4, a5, a6⟩, b, c, d⟩ := h
  have s12 := hc.1 99 12 (by omega) (by omega)
  have tt : ∀ k j, (k = 177 ∧ (j = 1 ∨ j = 10) ∨ k = 178 ∨ 195 ≤ k ∧ k ≤ 200 ∨ k = 202 ∧ j ≠ q ∨ k = 170 ∧ j = 21) → (rtR y1 q tU) k j = t0 k j := fun k j z => (rt_o k j (by omega) (by omega)).trans (hr.1 k j (by unfold lexs; omega) (by omega) (by omega))
  have t1 := tt 177 1 (by omega)
  have t10 := tt 177 10 (by omega)
  have h03 := h0.1.2.1.1
  refine ⟨⟨by omega, by omega, by omega, by omega, by omega, by omega⟩, fun j hj => ?_, fun r hr' => ?_, ⟨by rw [t10, ← d.1, hq, Int.toNat_natCast], by have := d.2; rw [hq, Int.toNat_natCast] at this; rw [s12]; exact this⟩, h109⟩
  · by_cases ej : j = N
    · subst ej
      rw [hN, hN8]
      by_cases y : y1 = 0
      · rw [if_pos y]
        exact ⟨fun _ => .inl ⟨rfl, y⟩, fun z => absurd z (by decide)⟩
      · rw [if_neg y]
        exact ⟨fun z => absurd z (by decide), fun _ => .inl ⟨rfl, y⟩⟩
    · obtain ⟨z1, z2⟩ := h7 j (by omega)
      have hb := h0.1.2.1.2.2.2.2 j (by omega)
      rw [z1, z2]
      refine ⟨fun z => .inr ⟨?_, (b j (by omega)).1 z⟩, fun z => .inr ⟨?_, (b j (by omega)).2 z⟩⟩
      · have := hb.2.2.2.2.2
        rw [z] at this
        have : s0 108 j < s0 109 5 := this
        omega
      · have := hb.2.2.2.2.2
        rw [z] at this
        have : s0 108 j < s0 109 5 := this
        omega
  · obtain ⟨v, w, m⟩ := c r (by omega)
    refine ⟨?_, RTB_fr w (fun k _ => hc.1 113 k (by omega) (by omega)) (by omega) (fun k j q1 q2 _ => hc.1 k j (by omega) (by omega)) (hc.1 114 r (by omega) (by omega)) (by omega) (fun i _ => tt 178 i (by omega)) (tt 200 r (by omega)) (fun q => by rw [tt 170 21 (by omega)] at q; exact q), m⟩
    rw [s12]
    exact RV_mv v rfl (fun _ _ => rfl) (Nat.le_refl _) (fun k q => hc.1 k r (by omega) (by omega)) (fun k q1 q2 q3 => tt k r (by omega)) hbn (fun q => q)
def P129 (rc : MRq) : Prop := ∀ (T : Nat → Int) (n e N : Nat) (y1 : Int) (s t : tab) (v : Option (Int × tab)), RDx T n e N s t → (∃ H, GDy H s t) → RBx s t → kkd s ≠ 3 → kkd s ≠ 4 → rc 36 [y1] t = some v → ORx T n e s (bo (cG 51 [if y1 = 0 then 6 else 5] (stp s)) fun z s1 => BDx y1 z s1) v
/-- behind ( -/
theorem p_opn (hrc : rle rc rG) (h131 : P131 rc) {s1 t6 : tab} {m : Int} {v : Option (Int × tab)} (h0 : RDx T n e N s0 t0) (hm : m = (q : Int)) (q12 : q < 12) (hH : RHx T n e (N + 1) (q : Int) s1 (up2 t6 177 9 (ipl (t6 177 9) 1))) (hsc : SCb (N + 1) 0 (up2 t6 177 9 (ipl (t6 177 9) 1))) (hc : DGc s0 s1) (hr : DGr N t0 (up2 t6 177 9 (ipl (t6 177 9) 1))) (h2 : s0 137 5 + 2 ≤ s1 137 5) (hG : GDy H s0 t0) (hb : RBx s0 t0 → RBx s1 (up2 t6 177 9 (ipl (t6 177 9) 1))) (hb0 : RBx s0 t0) (hq : s0 109 5 = (q : Int)) (h109 : s1 109 5 = (q : Int) + 1) (h7 : ∀ j : Nat, j < N → s1 107 j = s0 107 j ∧ s1 108 j = s0 108 j) (hN : s1 107 N = (if y1 = 0 then 6 else 5)) (hN8 : s1 108 N = (q : Int)) (hbn : s0 109 0 ≤ s1 109 0 ∧ s0 109 1 ≤ s1 109 1) (h : (bo (rc 8 [22] (rtR y1 q (up2 t6 177 9 (ipl (t6 177 9) 1)))) fun z25 t25 => if z25 ≠ 0 then rc 64 [y1, (q : Int), t6 170 15, t6 170 14] t25 else some (some (0, t25))) = some v) : ORx T n e s0 (bo (cG 29 [40] s1) fun _ s6 => WQx y1 (s1 105 3) m (s1 109 0) s6) v := by
  have hp := RP_0 (y1 := y1) h0 hH hsc hc hr (by omega) q12
  have hgp := GP_0 (y1 := y1) hG h0 hc hr h2 hq h109 hH.2.1.1 h7 hN hN8 hbn
  have hbr : RBx s1 (rtR y1 q (up2 t6 177 9 (ipl (t6 177 9) 1))) := RB_eq (hb hb0) ⟨rfl, rfl⟩ (fun _ _ _ => rfl) (fun k j z => rt_o k j (by omega) (by omega))
  have e3 : s1 105 3 = ((N + 1 : Nat) : Int) := hH.2.1.1
  have e14 : t6 170 14 = ((N + 1 : Nat) : Int) := hH.2.1.2.1
  have e4 : (up2 t6 177 9 (ipl (t6 177 9) 1)) 177 4 = s1 109 0 := (hH.2.2.1 0 (by omega)).1
  rw [e4] at hp
  rw [hm, e3]
  rcases RL_take hp.1.1 is_22 (by decide) with ⟨t7, c1, c2, c3, c4, c5, c6, c7⟩ | ⟨c1, c2, c3⟩
  · have h := bxr hrc c1 h
    try dsimp only at h
    rw [if_pos (by decide), e14] at h
    rw [c3, bo_s]
    have h7' := RP_lex hp c4 c5 (by omega) c7
    have := h131 T n e (N + 1) 0 q (s1 109 0) y1 (t6 170 15) (stp s1) t7 v h7' ⟨H, GP_lex hgp c5 (by omega) c7⟩ (RB_lex hbr c5 c7) h
    rw [if_pos rfl] at this
    exact OR_pre this (by omega)
  · have h := bxr hrc c1 h
    try dsimp only at h
    rw [if_neg (by decide)] at h
    cases h
    refine OR_no ?_
    rw [c3]
    rfl
theorem p_129 (hrc : rle rc rG) (h131 : P131 rc) : ∀ (T : Nat → Int) (n e N : Nat) (y1 : Int) (s t : tab) (v : Option (Int × tab)), RDx T n e N s t → (∃ H, GDy H s t) → RBx s t → kkd s ≠ 3 → kkd s ≠ 4 → rM129 rc y1 t = some v → ORx T n e s (bo (cG 51 [if y1 = 0 then 6 else 5] (stp s)) fun z s1 => BDx y1 z s1) v := by
  intro T n e N y1 s t v h0 hGx hb k3 k4 h
  obtain ⟨H, hG⟩ := hGx
  rw [c_36]
  unfold rM129 at h
  have hL := h0.1.1
  have stk := RL_stk hL k3 k4
  obtain ⟨t9, d1, d2, d3, d4⟩ := RL_step hL k3 k4
  have h := bxr hrc d1 h
  try dsimp only at h
  have hH := H_lex d2 h0.1.2 stk (by omega) d4
  have hsc := SC_lex h0.2.1 d4
  have h5 := hH.2.2.1 5 (by omega)
  have l5 : LIM 5 = 12 := rfl
  obtain ⟨q, hq⟩ : ∃ q : Nat, (stp s) 109 5 = (q : Int) := ⟨((stp s) 109 5).toNat, by omega⟩
  have e9 : t9 177 9 = (q : Int) := h5.1.trans hq
  have hw : 0 ≤ (if y1 = 0 then (6 : Int) else 5) ∧ (if y1 = 0 then (6 : Int) else 5) ≤ 6 := by split <;> omega
  have hcw : kcn (if y1 = 0 then (6 : Int) else 5) = 5 := by split <;> rfl
  have h2 : (bo (rc 16 [t9 177 9, 12] t9) fun z3 t3 => if z3 = 0 then some (some (0, t9)) else bo (rc 10 [if y1 = 0 then 6 else 5, t9 177 9] t9) fun z6 t6 => if z6 ≠ 0 then (bo (rc 8 [22] (rtR y1 q (up2 t6 177 9 (ipl (t6 177 9) 1)))) fun z25 t25 => if z25 ≠ 0 then rc 64 [y1, (q : Int), t6 170 15, t6 170 14] t25 else some (some (0, t25))) else some (some (0, t6))) = some v := by
    rw [← h]
    congr 1
    funext z3 t3
    by_cases z0 : z3 = 0
    · rw [if_pos z0, if_pos z0]
    · rw [if_neg z0, if_neg z0]
      unfold rtR
      rw [e9, Int.toNat_natCast]
      by_cases y : y1 = 0
      · simp only [if_pos y]
        rfl
      · simp only [if_neg y]
        rfl
  rcases p_nm (b := 0) (w := if y1 = 0 then 6 else 5) (c := 5) (u2 := (q : Int)) (L := 12) (D := 9) rfl rfl hH (by omega) hw hcw (.inr ⟨rfl, hq.symm, rfl⟩) hsc with ⟨a1, a2⟩ | ⟨a1, ⟨a2, a3⟩ | ⟨s2, t2, a2, a3, a4, a5, a6, a7, a8, a9, a10, a11, a12, _⟩⟩
  · have h := bxr hrc a1 h2
    try dsimp only at h
    rw [if_pos rfl] at h
    cases h
    refine OR_no ?_
    rw [a2]
    rfl
  · have h := bxr hrc a1 h2
    try dsimp only at h
    rw [if_neg (by decide)] at h
    have h := bxr hrc a2 h
    try dsimp only at h
    rw [if_neg (by decide)] at h
    cases h
    refine OR_no ?_
    rw [a3]
    rfl
  · have h := bxr hrc a1 h2
    try dsimp only at h
    rw [if_neg (by decide)] at h
    have h := bxr hrc a2 h
    try dsimp only at h
    rw [if_pos (by decide)] at h
    rw [a3, bo_s]
    have hq0 : s 109 5 = (q : Int) := by rw [← hq, stk 109 5 (by omega)]
    exact p_opn hrc h131 h0 hq (by omega) a4 a5 (DG_tr (DG_lex stk d3) (DG_F a6)) (DR_tr (DR_lex d4) (DR_F a7) (Nat.le_refl _)) (by rw [a6.2]; omega) hG (fun b => RB_eq (RB_lex b stk d4) ⟨by rw [a11, if_neg (by omega)], by rw [a11, if_neg (by omega)]⟩ (fun k j z => a6.1 k j (by omega) (by omega)) (fun k j z => a7.1 k j (by unfold lexs; omega) (by omega) (by omega))) hb hq0 (by rw [a11, if_pos rfl, hq]) (fun j hj => ⟨((a8 j hj).1).trans (stk 107 j (by omega)), ((a8 j hj).2).trans (stk 108 j (by omega))⟩) a9 (a10.trans hq) ⟨by rw [a11, if_neg (by omega), stk 109 0 (by omega)]; exact Int.le_refl _, by rw [a11, if_neg (by omega), stk 109 1 (by omega)]; exact Int.le_refl _⟩ h
end ROUT3
