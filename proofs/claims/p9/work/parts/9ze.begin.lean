/-! Where the models begin. -/
section MBEG
variable {D K d : Nat} {s : rS} {r r1 : tab}
def fixj (r : tab) : tab := fun k j => if k = 140 ∧ 2001 ≤ j then 0 else r k j
theorem fixj_o (k j : Nat) (h : ¬ (k = 140 ∧ 2001 ≤ j)) : fixj r k j = r k j := if_neg h
theorem rP_fix {g : hm_G} (h : rP g r) : rP g (fixj r) := by
  refine ⟨fun k t n ht => ⟨(h.1 k t n ht).1, fun j hj => ?_⟩, h.2⟩
  by_cases e : k = 140
  · subst e
    have h9 : tb_TG 140 = some (.inl .int, 2001) := rfl
    have h8 : n = 2001 := by
      rw [h9] at ht
      cases ht
      rfl
    rw [fixj_o 140 j (by omega)]
    exact (h.1 140 t n ht).2 j hj
  · rw [fixj_o k j (by omega)]
    exact (h.1 k t n ht).2 j hj
theorem RF_fix (h : RF r) : RF (fixj r) := fun k j v hv => by
  by_cases e : k = 140 ∧ 2001 ≤ j
  · rw [e.1, n0 rfl (by omega) (by omega)] at hv
    cases hv
  · rw [fixj_o k j e]
    exact h k j v hv
/-- the tables that the models begin with -/
def tcx (D : Nat) (r : tab) : tab := fun k j => (up2 (fixj r) 131 1 (D : Int)) (ph cQ D k) j
def trx (D : Nat) (r : tab) : tab := fun k j => (up2 r 170 19 (D : Int)) (ph rPP D k) j
theorem ok_C {k j : Nat} (h : relC k j = true) : okk cQ k := by
  intro q
  have q : 115 ≤ k ∧ k < 131 := q
  unfold relC at h
  rw [if_neg (by omega), if_neg (by omega), if_neg (by omega), if_neg (by omega), if_neg (by omega)] at h
  simp only [Bool.or_eq_true, beq_iff_eq] at h
  omega
theorem ok_R {k j : Nat} (h : relR k j = true) : okk rPP k := by
  intro q
  have q : 186 ≤ k ∧ k < 195 := q
  unfold relR at h
  rw [if_neg (by omega), if_neg (by omega)] at h
  simp only [Bool.or_eq_true, beq_iff_eq] at h
  omega
theorem c_model (hD : D = 99 ∨ D = 115) (hR : RF s.1) (h140 : ∀ j, j < 2001 → 0 ≤ s.1 140 j) (hsc : ∀ z t2, cG 13 [] (cst (tcx D s.1)) = some (some (z, t2)) → ∀ j, 0 ≤ t2 140 j) : ∀ K, pcr K d 20 [.ref 131, .ref D] s (MQx cQ D 0 (cG 55 [] (tcx D s.1))) := by
  intro K g gf out hg hc hr
  have hE : EE cQ D (tcx D s.1) (up2 (fixj s.1) 131 1 (D : Int), s.2) := by
    refine ⟨hD, RF_up (RF_fix hR) rfl, (show (up2 (fixj s.1) 131 1 (D : Int)) 131 1 = (D : Int) from up_self), fun k j hk => ⟨ok_C hk, rfl⟩, fun j => ?_⟩
    show 0 ≤ (up2 (fixj s.1) 131 1 (D : Int)) 140 j
    rw [up_nk (by omega)]
    by_cases e : 2001 ≤ j
    · rw [show fixj s.1 140 j = 0 from if_pos ⟨rfl, e⟩]
      exact Int.le_refl _
    · rw [fixj_o 140 j (by omega)]
      exact h140 j (by omega)
  exact c_top (K := K) (C := D) (d := d) (fixj s.1, s.2) (tcx D s.1) hE hsc g gf out (rP_fix hg) hc hr
theorem r_model (hD : D = 177 ∨ D = 186) (hR : RF s.1) (h18 : s.1 170 18 = (D : Int)) : ∀ K, pcr K d 122 [.ref 170] s (MQx rPP D 3 (rG 38 [] (trx D s.1))) := fun K =>
  r_top (K := K) (C := D) (d := d) s (trx D s.1) ⟨hD, RF_up hR rfl, (show (up2 s.1 170 19 (D : Int)) 170 19 = (D : Int) from up_self), fun k j hk => ⟨ok_R hk, rfl⟩, trivial⟩ h18
/-- bytes and longs are in their bounds -/
def RGx (r : tab) : Prop := (∀ j, j < 2000 → -128 ≤ r 98 j ∧ r 98 j ≤ 127) ∧ ∀ j, j = 7 ∨ j = 8 ∨ j = 9 → -9223372036854775808 ≤ r 131 j ∧ r 131 j ≤ 9223372036854775807
theorem rg_of {g : hm_G} (h : rP g r) : RGx r := by
  refine ⟨fun j hj => ?_, fun j hj => ?_⟩
  · have := Rp_rg h (k := 98) (t := .inl .byte) (n := 2000) rfl hj
    exact this
  · rcases hj with rfl | rfl | rfl
    · have := Rp_rg h (k := 131) (t := .inr 1) (n := 17) (j := 7) rfl (by omega)
      exact this
    · have := Rp_rg h (k := 131) (t := .inr 1) (n := 17) (j := 8) rfl (by omega)
      exact this
    · have := Rp_rg h (k := 131) (t := .inr 1) (n := 17) (j := 9) rfl (by omega)
      exact this
theorem cr_rg {i : Nat} {vs : List Value} {Q : rS → hm_Out → Prop} (h : RGx s.1 → cr d i vs s Q) : cr d i vs s Q := fun g hg hc => h (rg_of hg) g hg hc
theorem lo_i {z : Int} (h : -9223372036854775808 ≤ z ∧ z ≤ 9223372036854775807) : lo 0 z = z := by
  unfold lo
  rw [show Int64.ofInt 0 = 0 from rfl, Int64.zero_or, i64_to h.1 h.2]
theorem c_csc (hK : KI s.1) (hrg : RGx s.1) : CSc (fun j => s.1 98 j) (s.1 97 1).toNat (cst (tcx D s.1)) := by
  have h97 : 0 ≤ s.1 97 1 ∧ s.1 97 1 ≤ 2000 := kb_to rfl (hK.2 97 1)
  refine ⟨?_, by omega, fun j hj => ?_, fun j hj => ?_⟩
  · rw [cst_o 97 1 (by omega) (by omega)]
    show s.1 97 1 = _
    omega
  · rw [cst_o 98 j (by omega) (by omega)]
    exact ⟨rfl, hrg.1 j (by omega)⟩
  · rw [cst_o 138 j (by omega) (by omega)]
    have := kb_to (a := RWf j) (b := RWf j) rfl (hK.2 138 j)
    show s.1 138 j = RWf j
    omega
theorem c_scan0 (hK : KI s.1) (hrg : RGx s.1) (h140 : ∀ j, j < 2001 → 0 ≤ s.1 140 j) : ∀ z t2, cG 13 [] (cst (tcx D s.1)) = some (some (z, t2)) → ∀ j, 0 ≤ t2 140 j := by
  intro z t2 h
  obtain ⟨t3, e, g1, g2, g3, g4, g5⟩ := cs_scan (c_csc (D := D) hK hrg)
  rw [g1] at h
  cases h
  refine g5 (fun j => ?_)
  rw [cst_o 140 j (by omega) (by omega)]
  show 0 ≤ fixj s.1 140 j
  by_cases e : 2001 ≤ j
  · rw [show fixj s.1 140 j = 0 from if_pos ⟨rfl, e⟩]
    exact Int.le_refl _
  · rw [fixj_o 140 j (by omega)]
    exact h140 j (by omega)
theorem p_same {D2 : Nat} {v : Option (Int × tab)} (hD : D = 99 ∨ D = 115) (hK : KI s.1) (hrg : RGx s.1) (hn : r1 170 1 = s.1 97 1) (hb : ∀ j : Nat, (j : Int) < s.1 97 1 → s.1 98 j = r1 171 j) (h : rG 38 [] (trx D2 r1) = some v) : OGx (cG 55 [] (tcx D s.1)) v := by
  have h97 : 0 ≤ s.1 97 1 ∧ s.1 97 1 ≤ 2000 := kb_to rfl (hK.2 97 1)
  refine p_prog (T := fun j => s.1 98 j) (n := (s.1 97 1).toNat) (c_csc hK hrg) ?_ ⟨?_, by omega, fun j hj => ⟨?_, hrg.1 j (by omega)⟩⟩ ⟨lo_i (hrg.2 7 (by omega)), lo_i (hrg.2 8 (by omega)), lo_i (hrg.2 9 (by omega))⟩ h
  · rcases hD with rfl | rfl
    · have := kb_to (a := 0) (b := 58) rfl (hK.2 105 3)
      exact this.1
    · have := kb_to (a := 0) (b := 58) rfl (hK.2 121 3)
      exact this.1
  · show r1 170 1 = _
    omega
  · show r1 171 j = s.1 98 j
    exact (hb j (by omega)).symm
end MBEG
/-- between the law's calls -/
def LV5 (r : tab) : Prop := (r 96 3 = 0 ∨ r 96 3 = 1) ∧ r 96 3 = r 170 20 ∧ (r 96 3 = 0 → (∀ j : Nat, (j : Int) < r 97 1 → r 98 j = r 171 j) ∧ ∀ j, j < 2001 → 0 ≤ r 140 j)
section LV5S
variable {s s1 s2 : rS} {c c2 : Nat} {P P2 : Int → Prop} {o o2 : hm_Out}
theorem XJ_XP (h : XJ c P s s2 o) : XP c P s s2 o := ⟨h.1, h.2.1, h.2.2.1, fun k j hk => h.2.2.2.1 k j (.inl hk), h.2.2.2.2.1⟩
theorem MJ_MP (h : MJ c P s s2 o) : MP c P s s2 o := ⟨h.1, h.2.1, h.2.2.1, fun k j hk => h.2.2.2.1 k j (.inl hk), h.2.2.2.2⟩
theorem LV_step (h : LV5 s.1) (hx : XJ c P s s1 o) (hm : MJ c2 P2 s1 s2 o2) (hle : s1.1 97 1 ≤ s.1 97 1) : LV5 s2.1 := by
  obtain ⟨h1, h2, h3⟩ := h
  have hi := hx.2.2.2.1
  have hl := hm.2.2.2.1
  have e3 : s2.1 96 3 = s.1 96 3 := (hl 96 3 (by omega)).trans (hi 96 3 (by omega))
  have e20 : s2.1 170 20 = s.1 170 20 := (hl 170 20 (by omega)).trans (hi 170 20 (by omega))
  have e97 : s2.1 97 1 = s1.1 97 1 := hl 97 1 (by omega)
  refine ⟨by omega, by omega, fun q => ?_⟩
  have q : s.1 96 3 = 0 := by omega
  obtain ⟨h4, h5⟩ := h3 q
  refine ⟨fun j hj => ?_, fun j hj => ?_⟩
  · rw [hl 98 j (by omega), hi 98 j (by omega), hl 171 j (by omega), hi 171 j (by omega)]
    exact h4 j (by omega)
  · rw [hl 140 j (by omega), hx.2.2.2.2.2 q j]
    exact h5 j hj
theorem vi_inj {a b : Int} (ha : 0 ≤ a ∧ a ≤ 1) (hb : 0 ≤ b ∧ b ≤ 1) (h : vi a = vi b) : a = b := by
  have e : Int32.ofInt a = Int32.ofInt b := by
    injection h
  have e2 := congrArg Int32.toInt e
  rw [i32_to (by omega) (by omega), i32_to (by omega) (by omega)] at e2
  exact e2
/-- a compile while there is no circuit -/
theorem LV_c0 {D D2 : Nat} {X Y : RO} (h : LV5 s.1) (h0 : s.1 96 3 = 0) (hx : XC (MQx cQ D 0 X) s s1 o) (hm : MCx (MQx rPP D2 3 Y) s1 s2 o2) (hop : ∀ v, Y = some v → OGx X v) : LV5 s2.1 := by
  obtain ⟨h1, h2, h3⟩ := h
  obtain ⟨hx1, hx2⟩ := hx
  obtain ⟨hm1, s8, b, hq, hb⟩ := hm
  have hi : HI s.1 s1.1 := hx1.2.2.2.1
  have hl : LO s1.1 s2.1 := hm1.2.2.2.1
  have t97 : s1.1 97 1 = 0 := hx1.2.2.2.2
  have e97 : s2.1 97 1 = 0 := (hl 97 1 (by omega)).trans t97
  have e3 : s2.1 96 3 = s1.1 96 3 := hl 96 3 (by omega)
  have e20 : s1.1 170 20 = s.1 170 20 := hi 170 20 (by omega)
  rcases hq with ⟨ob, z, t, q1, q2, q3, _⟩ | ⟨q1, _⟩
  · cases q1
    have q2 : some (vi b) = some (vi z) ∧ 0 ≤ z ∧ z ≤ 1 := q2
    have hbz : b = z := vi_inj (by omega) q2.2 (Option.some.inj q2.1)
    obtain ⟨z9, t9, w1, w2⟩ := hop _ q3
    cases w1
    rcases hx2 with ⟨m1, s9, n1, n2⟩ | ⟨m1, s9, o9, n1, n3, n4⟩ | ⟨m1, s9, n1, n2⟩
    · rcases n1 with ⟨ob2, z2, t2, p1, p2, p3, p4⟩ | ⟨p1, _⟩
      · have p5 : s9.1 131 3 = t2 131 3 := EE_get p4 (k := 131) (q := 131) rfl rfl
        rcases w2 with ⟨w3, sx, w4, w5⟩ | ⟨w3, w4 | ⟨sx, w4, w5⟩⟩
        · exact ⟨by omega, by omega, fun q => absurd q (by omega)⟩
        · rw [w4] at p3
          cases p3
        · rw [w4] at p3
          cases p3
          omega
      · cases p1
    · rcases w2 with ⟨w3, sx, w4, w5⟩ | ⟨w3, w4⟩
      · exfalso
        rcases n1 with ⟨ob2, z2, t2, p1, p2, p3, p4⟩ | ⟨p1, p2, _⟩
        · have p5 : s9.1 131 3 = t2 131 3 := EE_get p4 (k := 131) (q := 131) rfl rfl
          rw [w4] at p3
          cases p3
          rcases n4 with ⟨n5, n6⟩ | ⟨n5, n6⟩
          · omega
          · rw [n5] at p1
            cases p1
        · rw [w4] at p2
          cases p2
      · refine ⟨by omega, by omega, fun q => ⟨fun j hj => ?_, fun j hj => ?_⟩⟩
        · rw [e97] at hj
          omega
        · rw [hl 140 j (by omega), n3 j hj]
          rcases n1 with ⟨ob2, z2, t2, p1, p2, p3, p4⟩ | ⟨p1, p2, p3⟩
          · rw [EE_get p4 (k := 140) (q := 140) rfl rfl]
            exact p4.2.2.2.2 j
          · exact p3.2 j
    · exfalso
      rcases n1 with ⟨ob2, z2, t2, p1, p2, p3, p4⟩ | ⟨p1, p2, p3⟩
      · cases p1
      · have : 0 ≤ s9.1 131 2 := p3.1
        omega
  · cases q1
/-- a compile while there is one -/
theorem LV_c1 {Q2 Q3 : rS → hm_Out → Prop} (h : LV5 s.1) (h0 : s.1 96 3 ≠ 0) (hx : XC Q2 s s1 o) (hm : MCx Q3 s1 s2 o2) : LV5 s2.1 := by
  obtain ⟨h1, h2, h3⟩ := h
  obtain ⟨hx1, hx2⟩ := hx
  obtain ⟨hm1, s8, b, hq, hb⟩ := hm
  have hi : HI s.1 s1.1 := hx1.2.2.2.1
  have hl : LO s1.1 s2.1 := hm1.2.2.2.1
  have e3 : s2.1 96 3 = s1.1 96 3 := hl 96 3 (by omega)
  have e20 : s1.1 170 20 = s.1 170 20 := hi 170 20 (by omega)
  have m1 : s1.1 96 3 = 1 := by
    rcases hx2 with ⟨m1, _⟩ | ⟨m1, _⟩ | ⟨m1, _⟩ <;> omega
  clear hx2 hx1 hm1 hq
  exact ⟨by omega, by omega, fun q => absurd q (by omega)⟩
theorem LV_end {r2 : tab} (h : LV5 s.1) (hj : HJ s.1 s1.1) (k1 : ∀ j, s1.1 140 j = s.1 140 j) (hle : s1.1 97 1 ≤ s.1 97 1) (hf : ∀ k j, ¬ (k = 170 ∧ j = 1) → r2 k j = s1.1 k j) : LV5 r2 := by
  obtain ⟨h1, h2, h3⟩ := h
  have e3 : r2 96 3 = s.1 96 3 := (hf 96 3 (by omega)).trans (hj 96 3 (by omega))
  have e20 : r2 170 20 = s.1 170 20 := (hf 170 20 (by omega)).trans (hj 170 20 (by omega))
  have e97 : r2 97 1 = s1.1 97 1 := hf 97 1 (by omega)
  refine ⟨by omega, by omega, fun q => ?_⟩
  obtain ⟨h4, h5⟩ := h3 (by omega)
  refine ⟨fun j hj2 => ?_, fun j hj2 => ?_⟩
  · rw [hf 98 j (by omega), hj 98 j (by omega), hf 171 j (by omega), hj 171 j (by omega)]
    exact h4 j (by omega)
  · rw [hf 140 j (by omega), k1 j]
    exact h5 j hj2
theorem LV_feed {A : Nat → Int} (h : LV5 s.1) (c3 : s1.1 170 1 = s.1 97 1) (t0 : 0 ≤ s.1 97 1) (n1 : s1.1 97 1 = s.1 97 1 + 20) (f1 : ∀ i j, ¬ (i = 98 ∧ (s.1 97 1).toNat ≤ j) → ¬ (i = 97 ∧ j = 1) → s1.1 i j = s.1 i j) (y1 : ∀ k : Nat, k < 20 → s1.1 98 ((s.1 97 1).toNat + k) = byt (A k) (24 - 8 * ((k % 4 : Nat) : Int))) (f2 : ∀ i j, ¬ (i = 171 ∧ (s1.1 170 1).toNat ≤ j) → ¬ (i = 170 ∧ j = 1) → s2.1 i j = s1.1 i j) (y2 : ∀ k : Nat, k < 20 → s2.1 171 ((s1.1 170 1).toNat + k) = byt (A k) (24 - 8 * ((k % 4 : Nat) : Int))) : LV5 s2.1 := by
  obtain ⟨h1, h2, h3⟩ := h
  rw [c3] at f2 y2
  have e3 : s2.1 96 3 = s.1 96 3 := (f2 96 3 (by omega) (by omega)).trans (f1 96 3 (by omega) (by omega))
  have e20 : s2.1 170 20 = s.1 170 20 := (f2 170 20 (by omega) (by omega)).trans (f1 170 20 (by omega) (by omega))
  have e97 : s2.1 97 1 = s.1 97 1 + 20 := (f2 97 1 (by omega) (by omega)).trans n1
  refine ⟨by omega, by omega, fun q => ?_⟩
  obtain ⟨h4, h5⟩ := h3 (by omega)
  refine ⟨fun j hj => ?_, fun j hj => ?_⟩
  · by_cases c : (s.1 97 1).toNat ≤ j
    · have w1 := y1 (j - (s.1 97 1).toNat) (by omega)
      have w2 := y2 (j - (s.1 97 1).toNat) (by omega)
      rw [show (s.1 97 1).toNat + (j - (s.1 97 1).toNat) = j by omega] at w1 w2
      rw [f2 98 j (by omega) (by omega), w1, w2]
    · rw [f2 98 j (by omega) (by omega), f1 98 j (by omega) (by omega), f2 171 j (by omega) (by omega), f1 171 j (by omega) (by omega)]
      exact h4 j (by omega)
  · rw [f2 140 j (by omega) (by omega), f1 140 j (by omega) (by omega)]
    exact h5 j hj
end LV5S
