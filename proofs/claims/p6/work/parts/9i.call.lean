/-! Calls and atoms, in both. -/
section CALL
variable {T : Nat → Int} {n e N : Nat} {g : Int × Int × Int} {s t s2 t2 : tab} {rc : MRq}
theorem bo_up {i : Nat} {xs : List Int} {k : Int → tab → RO} {v : Option (Int × tab)} (hrc : rle rc rG) (h : bo (rc i xs t) k = some v) : bo (rG i xs t) k = some v := by
  rcases bo_inv h with ⟨e1, e2⟩ | ⟨z1, t1, e1, e2⟩
  · rw [hrc _ _ _ _ e1, e2]
    rfl
  · rw [hrc _ _ _ _ e1, bo_s]
    exact e2
/-- the masks behind a call -/
def mk5 (t : tab) (r : Int) : tab := up2 (up2 (up2 (up2 (up2 t 170 22 (lo (t 170 22) (t 195 r.toNat))) 170 23 (lo (t 170 23) (t 196 r.toNat))) 170 24 (lo (t 170 24) (t 197 r.toNat))) 170 25 (lo (t 170 25) (t 198 r.toNat))) 170 26 (lo (t 170 26) (t 199 r.toNat))
def cm5 (s : tab) (r : Int) : tab := up2 (up2 (up2 s 131 7 (lo (s 131 7) (s 134 r.toNat))) 131 8 (lo (s 131 8) (s 135 r.toNat))) 131 9 (lo (s 131 9) (lo (s 136 r.toNat) (lsl 1 (24 + r))))
theorem RE_call (h : REx T n e N g s t) {r : Int} (r0 : 0 ≤ r) (r1 : r < s 109 5) (r2 : r ≠ s 131 13) : REx T n e N g (cm5 s r) (mk5 t r) ∧ FEc s (cm5 s r) ∧ FEr t (mk5 t r) ∧ (cm5 s r) 137 5 = s 137 5 := by
  have key : REx T n e N g (cm5 s r) (mk5 t r) ∧ FEc s (cm5 s r) ∧ FEr t (mk5 t r) := by
    refine RE_mask h (fun k j a => (if_neg (by omega)).trans ((if_neg (by omega)).trans (if_neg (by omega)))) (fun k j a => (if_neg (by omega)).trans ((if_neg (by omega)).trans ((if_neg (by omega)).trans ((if_neg (by omega)).trans (if_neg (by omega)))))) ?_
    obtain ⟨m1, m2, m3, m4⟩ := h.2.2
    obtain ⟨_, q2, q3, q4, q5⟩ := h.2.1.2.2.1 r.toNat (by omega) (by omega)
    rw [show ((r.toNat : Nat) : Int) = r by omega] at q4
    refine ⟨?_, ?_, ?_, MB_lo m4 q5⟩
    · show lo (s 131 7) (s 134 r.toNat) = lo g.1 (lo (lo (t 170 23) (t 196 r.toNat)) (lo (t 170 22) (t 195 r.toNat)))
      rw [m1, q2]
      simp only [lo_assoc, lo_comm, lo_lc]
    · show lo (s 131 8) (s 135 r.toNat) = lo g.2.1 (lo (t 170 22) (t 195 r.toNat))
      rw [m2, q3, lo_0m]
    · show lo (s 131 9) (lo (s 136 r.toNat) (lsl 1 (24 + r))) = lo g.2.2 (pkm (lo (t 170 24) (t 197 r.toNat)) (lo (t 170 25) (t 198 r.toNat)) (lo (t 170 26) (t 199 r.toNat)))
      rw [m3, q4, pkm_lo, lo_assoc]
  refine ⟨key.1, key.2.1, key.2.2, ?_⟩
  unfold cm5
  exact (if_neg (by omega)).trans ((if_neg (by omega)).trans (if_neg (by omega)))
def PMx (rc : MRq) : Prop := ∀ (t : tab) (i r m : Int) (v : Option (Int × tab)), rc 55 [i, r, m] t = some v → (i ≠ 0 → v = some (1, mk5 t r)) ∧ (i = 0 → bo (rG 8 [30] (mk5 t r)) (fun z t2 => if z = 0 then some (some (0, t2)) else some (some (1, t2))) = some v)
theorem p_M (hrc : rle rc rG) (hM : PMx rc) : ∀ (t : tab) (i r m : Int) (v : Option (Int × tab)), rM150_128 rc i r m t = some v → (i ≠ 0 → v = some (1, mk5 t r)) ∧ (i = 0 → bo (rG 8 [30] (mk5 t r)) (fun z t2 => if z = 0 then some (some (0, t2)) else some (some (1, t2))) = some v) := by
  intro t i r m v h
  unfold rM150_128 at h
  by_cases hm : m < 0
  · rw [if_pos hm] at h
    by_cases hi : i ≠ 0
    · rw [if_pos hi] at h
      cases h
      exact ⟨fun _ => rfl, fun q => absurd q hi⟩
    · rw [if_neg hi] at h
      exact ⟨fun q => absurd q hi, fun _ => bo_up hrc h⟩
  · rw [if_neg hm] at h
    exact hM t i r _ v h
/-- a call in an E, or a STATEMENT with its ; -/
noncomputable def XCx (i : Int) (X : RO) : RO := if i ≠ 0 then X else bo X fun _ s1 => bo (cG 29 [59] s1) fun _ s2 => some (some (0, s2))
theorem XC_no {i : Int} : XCx i (some none) = some none := by
  unfold XCx
  split <;> rfl
def PCLx (rc : MRq) : Prop := ∀ (T : Nat → Int) (n e N : Nat) (g : Int × Int × Int) (s t : tab) (x i r m : Int) (v : Option (Int × tab)), REx T n e N g s t → 0 ≤ x → x ≤ 20 → 0 ≤ s 131 6 → s 131 6 ≤ 10 * x → 0 ≤ r → r < s 109 5 → r ≠ s 131 13 → 0 ≤ m → m ≤ s 137 5 → rc 54 [x, i, r, m] t = some v → OEx T n e N g s t (XCx i (cG 65 [r, x, m] s)) v
/-- behind the last E of a call -/
theorem p_fin (hrc : rle rc rG) (hM : PMx rc) {i r m : Int} {v : Option (Int × tab)} (hR : REx T n e N g s t) (r0 : 0 ≤ r) (r1 : r < s 109 5) (r2 : r ≠ s 131 13) (hk : kkd s = 41) (h : (bo (rc 4 [] t) fun z10 t10 => rc 55 [i, r, m] t10) = some v) : OEx T n e N g s t (XCx i (some (some (0, cm5 (stp s) r)))) v := by
  obtain ⟨t2, a1, a2, a3, a4, a5⟩ := RE_step hR (by omega) (by omega)
  have h := bxr hrc a1 h
  try dsimp only at h
  have hm := hM t2 i r m v h
  obtain ⟨b1, b2, b3, b4⟩ := RE_call a2 r0 (by rw [a3.1 109 5 (by omega) (by omega) (by omega)]; exact r1) (by rw [a3.1 131 13 (by omega) (by omega) (by omega)]; exact r2)
  by_cases hi : i ≠ 0
  · rw [hm.1 hi]
    refine ⟨1, _, rfl, .inl ⟨rfl, cm5 (stp s) r, if_pos hi, b1, FEc_tr a3 b2, FEr_tr a4 b3, by omega⟩⟩
  · have h2 := hm.2 (by omega)
    have hx : XCx i (some (some (0, cm5 (stp s) r))) = bo (cG 29 [59] (cm5 (stp s) r)) fun _ s2 => some (some (0, s2)) := if_neg hi
    rw [hx]
    rcases RE_take b1 is_30 (by decide) with ⟨t4, c1, c2, c3, c4, c5, c6, c7⟩ | ⟨c1, c2, c3⟩
    · rw [c1, bo_s, if_neg (by decide)] at h2
      cases h2
      exact ⟨1, t4, rfl, .inl ⟨rfl, stp (cm5 (stp s) r), by rw [c3, bo_s], c4, FEc_tr a3 (FEc_tr b2 c5), FEr_tr a4 (FEr_tr b3 c6), by omega⟩⟩
    · rw [c1, bo_s, if_pos rfl] at h2
      cases h2
      exact OE_no (by rw [c3, bo_n])
theorem c_args {r x m : Int} (h0 : 0 ≤ m) (hm : m < 2000 ∨ kkd s = 3 ∨ kkd s = 4) : cG 65 [r, x, m] s = if m = 0 ∧ kkd s ≠ 41 ∧ m < 2000 then bo (cG 40 [x] s) (fun _ s1 => cG 65 [r, x, m + 1] s1) else if m ≠ 0 ∧ kkd s = 44 ∧ m < 2000 then bo (cG 40 [x] (stp s)) (fun _ s1 => cG 65 [r, x, m + 1] s1) else if kkd s ≠ 41 then some none else if m ≠ prm s r then some none else some (some (0, cm5 (stp s) r)) := by
  rw [cG_65_36]
  conv => lhs; unfold cM65_36
  by_cases c1 : 2000 ≤ m
  · rw [if_pos c1, if_neg (show ¬ (m = 0 ∧ kkd s ≠ 41 ∧ m < 2000) by omega), if_neg (show ¬ (m ≠ 0 ∧ kkd s = 44 ∧ m < 2000) by omega)]
    rfl
  · rw [if_neg c1]
    by_cases c2 : m ≠ 0
    · rw [if_pos c2, if_neg (show ¬ (m = 0 ∧ kkd s ≠ 41 ∧ m < 2000) by omega)]
      by_cases c3 : kkd s = 44
      · rw [if_neg (show ¬ (kkd s ≠ 44) from fun q => q c3), if_neg (show ¬ m ≤ 0 by omega), if_pos (show m ≠ 0 ∧ kkd s = 44 ∧ m < 2000 from ⟨c2, c3, by omega⟩)]
      · rw [if_pos (show kkd s ≠ 44 from c3), if_neg (show ¬ (m ≠ 0 ∧ kkd s = 44 ∧ m < 2000) by omega)]
        rfl
    · rw [if_neg c2]
      by_cases c3 : kkd s = 41
      · rw [if_pos c3, if_neg (show ¬ (m = 0 ∧ kkd s ≠ 41 ∧ m < 2000) by omega), if_neg (show ¬ (m ≠ 0 ∧ kkd s = 44 ∧ m < 2000) by omega), if_neg (show ¬ (kkd s ≠ 41) from fun q => q c3)]
        rfl
      · rw [if_neg c3, if_pos (show m ≤ 0 by omega), if_pos (show m = 0 ∧ kkd s ≠ 41 ∧ m < 2000 from ⟨by omega, c3, by omega⟩)]
/-- one more E of a call -/
theorem p_arg (hX : PXx rc) (hC : PCLx rc) {x i r m : Int} {v : Option (Int × tab)} (hR : REx T n e N g s t) (x0 : 0 ≤ x) (x1 : x ≤ 20) (b0 : 0 ≤ s 131 6) (b1 : s 131 6 ≤ 10 * x) (r0 : 0 ≤ r) (r1 : r < s 109 5) (r2 : r ≠ s 131 13) (m0 : 0 ≤ m) (m1 : m ≤ s 137 5) (h : (bo (rc 22 [0, x] t) fun z19 t19 => if z19 ≠ 0 then rc 54 [x, i, r, ipl m 1] t19 else some (some (0, t19))) = some v) : OEx T n e N g s t (XCx i (bo (cG 40 [x] s) fun _ s1 => cG 65 [r, x, m + 1] s1)) v := by
  have hin := RL_in hR.1
  rw [ipl_e (by omega)] at h
  rcases bo_inv h with ⟨h9, _⟩ | ⟨z6, t6, h9, h⟩
  · obtain ⟨z, t3, e1, _⟩ := p_Ex hX hR x0 x1 b0 b1 h9
    cases e1
  · obtain ⟨z, t3, e1, e2⟩ := p_Ex hX hR x0 x1 b0 b1 h9
    cases e1
    rcases e2 with ⟨rfl, s4, f1, f2, f3, f4, f5⟩ | ⟨rfl, f1⟩
    · rw [if_pos (by decide)] at h
      rw [f1, bo_s]
      exact OE_pre (hC T n e N g s4 t6 x i r (m + 1) v f2 x0 x1 (by rw [f3.2.1]; exact b0) (by rw [f3.2.1]; exact b1) r0 (by rw [f3.1 109 5 (by omega) (by omega) (by omega)]; exact r1) (by rw [f3.1 131 13 (by omega) (by omega) (by omega)]; exact r2) (by omega) (by omega) h) f3 f4
    · rw [if_neg (by decide)] at h
      cases h
      rw [f1, bo_n]
      exact OE_no XC_no
/-- the E of a call -/
theorem p_CL (hrc : rle rc rG) (hM : PMx rc) (hX : PXx rc) (hC : PCLx rc) : ∀ (T : Nat → Int) (n e N : Nat) (g : Int × Int × Int) (s t : tab) (x i r m : Int) (v : Option (Int × tab)), REx T n e N g s t → 0 ≤ x → x ≤ 20 → 0 ≤ s 131 6 → s 131 6 ≤ 10 * x → 0 ≤ r → r < s 109 5 → r ≠ s 131 13 → 0 ≤ m → m ≤ s 137 5 → rM150_31 rc x i r m t = some v → OEx T n e N g s t (XCx i (cG 65 [r, x, m] s)) v := by
  intro T n e N g s t x i r m v hR x0 x1 b0 b1 r0 r1 r2 m0 m1 h
  have hin := RL_in hR.1
  have hct := hR.2.1.2.1 5 (by omega)
  have h12 : LIM 5 = 12 := rfl
  have hprm : prm s r = t 201 r.toNat := by
    have := (hR.2.1.2.2.1 r.toNat (by omega) (by omega)).1
    unfold prm
    rw [if_pos (by omega), this]
  have hm : m < 2000 ∨ kkd s = 3 ∨ kkd s = 4 := by
    by_cases q : (s 137 5).toNat = e
    · have hk := RL_kk hR.1
      have he := hR.1.1.2.2.1
      rw [q] at hk
      omega
    · have h1 := hR.1.1.1
      have h2 := hR.1.1.2.1
      omega
  rw [c_args m0 hm]
  have fin : ∀ hk : kkd s = 41, (if m = t 201 r.toNat then bo (rc 4 [] t) (fun z10 t10 => rc 55 [i, r, imi m 1] t10) else some (some (0, t))) = some v → OEx T n e N g s t (XCx i (if m ≠ prm s r then some none else some (some (0, cm5 (stp s) r)))) v := fun hk h => by
    rw [hprm]
    by_cases c : m = t 201 r.toNat
    · rw [if_pos c] at h
      rw [if_neg (fun q => q c)]
      exact p_fin hrc hM hR r0 r1 r2 hk h
    · rw [if_neg c] at h
      cases h
      rw [if_pos c]
      exact OE_no XC_no
  unfold rM150_31 at h
  by_cases c0 : m ≠ 0
  · rw [if_pos c0] at h
    rw [if_neg (by omega)]
    have h := bxr hrc (RL_is is_26 hR.1) h
    try dsimp only at h
    by_cases k1 : kkd s = 44
    · rw [if_pos k1, if_neg (by decide), if_neg (by omega)] at h
      rw [if_pos ⟨c0, k1, by omega⟩]
      obtain ⟨t2, a1, a2, a3, a4, a5⟩ := RE_step hR (by omega) (by omega)
      have h := bxr hrc a1 h
      try dsimp only at h
      exact OE_pre (p_arg hX hC a2 x0 x1 (by rw [a3.2.1]; exact b0) (by rw [a3.2.1]; exact b1) r0 (by rw [a3.1 109 5 (by omega) (by omega) (by omega)]; exact r1) (by rw [a3.1 131 13 (by omega) (by omega) (by omega)]; exact r2) m0 (by omega) h) a3 a4
    · rw [if_neg k1, if_pos rfl] at h
      rw [if_neg (by omega)]
      have h := bxr hrc (RL_is is_24 hR.1) h
      try dsimp only at h
      by_cases k2 : kkd s = 41
      · rw [if_pos k2, if_pos (by decide)] at h
        rw [if_neg (fun q => q k2)]
        exact fin k2 h
      · rw [if_neg k2, if_neg (by decide)] at h
        cases h
        rw [if_pos k2]
        exact OE_no XC_no
  · rw [if_neg c0] at h
    have h := bxr hrc (RL_is is_24 hR.1) h
    try dsimp only at h
    by_cases k2 : kkd s = 41
    · rw [if_pos k2, if_pos (by decide)] at h
      rw [if_neg (by omega), if_neg (by omega), if_neg (fun q => q k2)]
      exact fin k2 h
    · rw [if_neg k2, if_neg (by decide), if_pos (by omega)] at h
      by_cases c9 : m < 2000
      · rw [if_pos ⟨by omega, k2, c9⟩]
        exact p_arg hX hC hR x0 x1 b0 b1 r0 r1 r2 m0 m1 h
      · omega
def PCx (rc : MRq) : Prop := ∀ (T : Nat → Int) (n e N : Nat) (g : Int × Int × Int) (s t : tab) (k x i : Int) (v : Option (Int × tab)), REx T n e N g s t → 0 ≤ x → x ≤ 20 → 0 ≤ s 131 6 → s 131 6 ≤ 10 * x → 0 ≤ k → k < (N : Int) → nnm s k < s 109 5 → nnm s k ≠ s 131 13 → kkd s = 1 → kkd (stp s) = 40 → rc 26 [k, x, i] t = some v → OEx T n e N g s t (XCx i (cG 39 [nnm s k, x] (stp s))) v
/-- call(..) -/
theorem p_C (hrc : rle rc rG) (hC : PCLx rc) : ∀ (T : Nat → Int) (n e N : Nat) (g : Int × Int × Int) (s t : tab) (k x i : Int) (v : Option (Int × tab)), REx T n e N g s t → 0 ≤ x → x ≤ 20 → 0 ≤ s 131 6 → s 131 6 ≤ 10 * x → 0 ≤ k → k < (N : Int) → nnm s k < s 109 5 → nnm s k ≠ s 131 13 → kkd s = 1 → kkd (stp s) = 40 → rM150 rc k x i t = some v → OEx T n e N g s t (XCx i (cG 39 [nnm s k, x] (stp s))) v := by
  intro T n e N g s t k x i v hR x0 x1 b0 b1 k0 k1 r1 r2 hk hk2 h
  have hct := hR.2.1.2.1 5 (by omega)
  have h12 : LIM 5 = 12 := rfl
  obtain ⟨n1, n2, n3, n4, n5, _⟩ := RS_nm hR.2.1 k0 k1
  unfold rM150 at h
  rw [n2] at h
  obtain ⟨t2, a1, a2, a3, a4, a5⟩ := RE_step hR (by omega) (by omega)
  have h := bxr hrc a1 h
  try dsimp only at h
  rcases RE_take a2 is_22 (by decide) with ⟨t4, c1, c2, c3, c4, c5, c6, c7⟩ | ⟨c1, c2, c3⟩
  · have h := bxr hrc c1 h
    try dsimp only at h
    rw [if_pos (by decide)] at h
    have hcc : cG 39 [nnm s k, x] (stp s) = cG 65 [nnm s k, x, 0] (stp (stp s)) := by
      rw [cG_65]
      unfold cM65
      rw [if_neg (by omega), if_neg (by omega)]
    rw [hcc]
    have f6 : (stp (stp s)) 131 6 = s 131 6 := c5.2.1.trans a3.2.1
    have hin := RL_in c4.1
    refine OE_pre (hC T n e N g _ t4 x i (nnm s k) 0 v c4 x0 x1 (by rw [f6]; exact b0) (by rw [f6]; exact b1) n5 ?_ ?_ (Int.le_refl _) (by omega) h) (FEc_tr a3 c5) (FEr_tr a4 c6)
    · rw [c5.1 109 5 (by omega) (by omega) (by omega), a3.1 109 5 (by omega) (by omega) (by omega)]
      exact r1
    · rw [c5.1 131 13 (by omega) (by omega) (by omega), a3.1 131 13 (by omega) (by omega) (by omega)]
      exact r2
  · exact absurd hk2 c2
end CALL
