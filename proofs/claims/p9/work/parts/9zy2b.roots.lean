/-! Every part is the root of something. -/
section ROOTS
variable {s t : tab} {G : Gmx} {md n a b f l k0 k1 q : Nat} {x : Int} {c : Cxx}
def RTe (s t : tab) (G : Gmx) (z a : Nat) (c : Cxx) : Prop := ∃ md2 n2 a2 f2 l2 j0 j1 q2 c2, md2 ≤ 1 ∧ CO s t G md2 n2 a2 (z + 1) (z : Int) f2 l2 j0 j1 q2 c2 ∧ SBx c2 c ∧ a ≤ a2
theorem RT_m {z a2 : Nat} {c2 : Cxx} (h : RTe s t G z a2 c2) (ha : a ≤ a2) (hc : SBx c2 c) : RTe s t G z a c := by
  obtain ⟨md3, n3, a3, f3, l3, j0, j1, q3, c3, h1, h2, h3, h4⟩ := h
  exact ⟨md3, n3, a3, f3, l3, j0, j1, q3, c3, h1, h2, SB_tr h3 hc, by omega⟩
def RTq (s t : tab) (G : Gmx) : COt := fun _ _ a b _ _ _ _ _ _ c => ∀ z, a ≤ z → z < b → RTe s t G z a c
theorem CO_rts (h : CO s t G md n a b x f l k0 k1 q c) : RTq s t G md n a b x f l k0 k1 q c := by
  refine CO_ind (Q := RTq s t G) ?_ h
  intro md n a b x f l k0 k1 q c h0 k z z1 z2
  have hle := CO_le h0
  have own : md ≤ 1 → z = x.toNat → RTe s t G z a c := fun hm e => by
    have r := (CO_rt h0 hm).1
    have hb : b = z + 1 := by omega
    have hx : x = (z : Int) := by omega
    subst hb
    rw [hx] at h0
    exact ⟨md, n, a, f, l, k0, k1, q, c, hm, h0, SB_rf, Nat.le_refl _⟩
  rcases k with ⟨h1, h2, h3, h4, h5, h6, k⟩ | ⟨h1, h2, h3, h4, h5, h6, k⟩ | ⟨h1, h2, h3, h4, h5, h6⟩ | ⟨h1, n1, b1, m, h2, h3, h4⟩ | ⟨h1, n1, b1, m, kk, h2, h3, h4⟩ | ⟨h1, n1, b1, m, kk, c1, c2, h2, h3, h4, h5, h6, h7, h8, h9⟩ | ⟨h1, h2, h3, h4, h5⟩
  · by_cases e : z = x.toNat
    · exact own (by omega) e
    have zx : z < x.toNat := by omega
    rcases k with k | k | ⟨k1, k2, ⟨m, k3, k4⟩, k5⟩ | ⟨k1, m, k2, k3⟩ | ⟨k1, b1, m1, m2, k2, k3, k4⟩ | ⟨k1, ⟨r, n, m, g1, g2, g3, g4, g5, g6, g7⟩, k3⟩
    · have := k.2.1
      omega
    · have := k.2.1
      omega
    · exact k3.2 z z1 zx
    · exact k2.2 z z1 zx
    · by_cases w : z < b1
      · exact k2.2 z z1 w
      · exact RT_m (k3.2 z (by omega) zx) (CO_le k2.1).1 SB_rf
    · exact g6.2 z z1 zx
  · by_cases e : z = x.toNat
    · exact own (by omega) e
    have zx : z < x.toNat := by omega
    rcases k with ⟨k1, k2⟩ | k | ⟨k1, k2, n, k3, k4⟩ | ⟨k1, k2, k3, k4, ⟨m, k5, k6⟩, k7⟩ | ⟨k1, k2, k3, ⟨b1, m1, m2, k4, k5, k6⟩, k7⟩ | ⟨k1, k2, k3, ⟨m, k4, k5⟩, k6⟩ | ⟨k1, k2, k3, ⟨m, k4, k5⟩, k6⟩ | ⟨k1, ⟨r, n, m, g1, g2, g3, g4, g5, g6, g7⟩, k3⟩ | ⟨k1, k2, b1, m, m2, k3, k4, k5⟩ | ⟨k1, k2, b1, m, m2, k3, k4, k5, k6, k7⟩ | ⟨k1, k2, k3, k4, k5, k6, k7, k8, k9, k10, m, k11, k12⟩ | ⟨k1, k2, k3, k4, k5, k6, n, k7, k8, k9, k10⟩
    · exact k2.2 z z1 (by omega)
    · have := k.2.1
      omega
    · exact k4.2 z z1 zx
    · exact k5.2 z z1 zx
    · by_cases w : z < b1
      · exact k4.2 z z1 w
      · exact RT_m (k5.2 z (by omega) zx) (CO_le k4.1).1 SB_rf
    · exact k4.2 z z1 zx
    · rcases k4 with k4 | ⟨k4, _⟩
      · omega
      · exact k4.2 z z1 zx
    · exact g6.2 z z1 zx
    · have e1 := (CO_le k3.1).1
      by_cases w : z < b1
      · exact k3.2 z z1 w
      · rcases k5 with ⟨w1, w2, w3⟩ | ⟨b2, kk, w1, w2, w3⟩
        · exact RT_m (w2.2 z (by omega) zx) e1 SB_rf
        · have e2 := (CO_le w1.1).1
          by_cases w9 : z < b2
          · exact RT_m (w1.2 z (by omega) w9) e1 SB_rf
          · exact RT_m (w2.2 z (by omega) zx) (by omega) SB_rf
    · by_cases w : z < b1
      · exact k3.2 z z1 w
      · exact RT_m (k6.2 z (by omega) zx) (CO_le k3.1).1 SB_rf
    · exact k11.2 z z1 zx
    · exact k10.2 z z1 zx
  · omega
  · by_cases w : z < b1
    · exact h3.2 z z1 w
    · exact RT_m (h4.2 z (by omega) z2) (CO_le h3.1).1 SB_rf
  · by_cases w : z < b1
    · exact h3.2 z z1 w
    · exact RT_m (h4.2 z (by omega) z2) (CO_le h3.1).1 SB_rf
  · by_cases w : z < b1
    · exact RT_m (h3.2 z z1 w) (Nat.le_refl _) h7
    · exact RT_m (h6.2 z (by omega) z2) (CO_le h3.1).1 h8
  · exact h3.2 z z1 z2
/-- calls call known routines -/
theorem CO_404r (h : CO s t G md n a b x f l k0 k1 q c) : md ≤ 1 → s 100 x.toNat = 404 → ∃ r : Nat, s 101 x.toNat = (r : Int) ∧ c.2.2.2 (24 + r) := by
  refine CO_ind (Q := fun md _ _ _ x _ _ _ _ _ c => md ≤ 1 → s 100 x.toNat = 404 → ∃ r : Nat, s 101 x.toNat = (r : Int) ∧ c.2.2.2 (24 + r)) ?_ h
  intro md n a b x f l k0 k1 q c h0 k hm hk
  rcases k with ⟨h1, h2, h3, h4, h5, h6, k⟩ | ⟨h1, h2, h3, h4, h5, h6, k⟩ | u | u | u | u | u
  · rcases k with k | k | k | k | k | k
    · omega
    · omega
    · omega
    · omega
    · omega
    · obtain ⟨_, ⟨r, n, m, g1, g2, g3, g4, g5, g6, g7, g8, g9, g10, g11, _⟩, _⟩ := k
      exact ⟨r, g1, g11⟩
  · rcases k with ⟨g1, g2⟩ | k | k | k | k | k | k | k | k | k | k | k
    · have := g2.2 (by omega) (by rw [Int.toNat_natCast]; exact hk)
      rw [Int.toNat_natCast] at this
      exact this
    · omega
    · omega
    · omega
    · omega
    · omega
    · omega
    · obtain ⟨_, ⟨r, n, m, g1, g2, g3, g4, g5, g6, g7, g8, g9, g10, g11, _⟩, _⟩ := k
      exact ⟨r, g1, g11⟩
    · omega
    · omega
    · omega
    · omega
  all_goals
    have := u.1
    omega
theorem CO_404 {N : Nat} (h : CO s t G md n a b x f l k0 k1 q c) (hc : ∀ k, c.2.2.2 (24 + k) → k < N) {z : Nat} (z1 : a ≤ z) (z2 : z < b) (hk : s 100 z = 404) : 0 ≤ s 101 z ∧ s 101 z < (N : Int) := by
  obtain ⟨md2, n2, a2, f2, l2, j0, j1, q2, c2, h1, h2, h3, h4⟩ := CO_rts h z z1 z2
  obtain ⟨r, g1, g2⟩ := CO_404r h2 h1 (by rw [Int.toNat_natCast]; exact hk)
  rw [Int.toNat_natCast] at g1
  have := hc r (h3.2.2.2 _ g2)
  omega
/-- rows lie within -/
theorem CO_top (h : CO s t G md n a b x f l k0 k1 q c) (hm : md = 1 ∨ md = 5) (h1 : md = 1 → flx s x = -1) {i : Nat} (hi : 0 ≤ nth s i x) : (a : Int) ≤ nth s i x ∧ nth s i x < (b : Int) := by
  obtain ⟨_, hP, _, h5⟩ := CO_lab h
  refine hP.2.2.2 _ ?_
  rcases hm with hm | hm
  · cases i with
    | zero => exact (tp_1 (by omega)).mpr rfl
    | succ i =>
      have e : nth s (i + 1) x = nth s i (flx s x) := rfl
      rw [e, h1 hm, nth_m1] at hi
      omega
  · refine (tp_2 (by omega)).mpr ⟨i, ?_, rfl⟩
    by_cases w : i < n + 1
    · omega
    · have := nth_ge (h5 hm) (Nat.not_lt.mp w)
      omega
/-- and are nobody's children there -/
theorem CO_tno (h : CO s t G md n a b x f l k0 k1 q c) (hm : md = 1 ∨ md = 5) (h1 : md = 1 → flx s x = -1) {i : Nat} (hi : 0 ≤ nth s i x) : ∀ y, a ≤ y → y < b → ¬ CHl s y (nth s i x) := fun y y1 y2 hc => by
  obtain ⟨_, hP, _, h5⟩ := CO_lab h
  refine hP.2.2.1 y _ y1 y2 hc ?_
  rcases hm with hm | hm
  · cases i with
    | zero => exact (tp_1 (by omega)).mpr rfl
    | succ i =>
      have e : nth s (i + 1) x = nth s i (flx s x) := rfl
      rw [e, h1 hm, nth_m1] at hi
      omega
  · refine (tp_2 (by omega)).mpr ⟨i, ?_, rfl⟩
    by_cases w : i < n + 1
    · omega
    · have := nth_ge (h5 hm) (Nat.not_lt.mp w)
      omega
end ROOTS
