/-! Targets, in both. -/
section TARG
variable {T : Nat → Int} {n e N : Nat} {g : Int × Int × Int} {s t s2 t2 : tab} {rc : MRq}
theorem RE_asg (h : REx T n e N g s t) (b : Int) : REx T n e N g (up2 (up2 s 131 7 (lo (s 131 7) b)) 131 8 (lo (s 131 8) b)) (up2 t 170 22 (lo (t 170 22) b)) ∧ FEc s (up2 (up2 s 131 7 (lo (s 131 7) b)) 131 8 (lo (s 131 8) b)) ∧ FEr t (up2 t 170 22 (lo (t 170 22) b)) := by
  refine RE_mask h (fun k j a => (if_neg (by omega)).trans (if_neg (by omega))) (fun k j a => if_neg (by omega)) ?_
  obtain ⟨m1, m2, m3⟩ := h.2.2
  refine ⟨?_, ?_, ?_⟩
  · show lo (s 131 7) b = lo g.1 (lo (t 170 23) (lo (t 170 22) b))
    rw [m1]
    simp only [lo_assoc, lo_comm, lo_lc]
  · show lo (s 131 8) b = lo g.2.1 (lo (t 170 22) b)
    rw [m2]
    simp only [lo_assoc, lo_comm, lo_lc]
  · exact m3
theorem RE_sent (h : REx T n e N g s t) (b : Int) (hb : 0 ≤ b ∧ b < 4096) : REx T n e N g (up2 s 131 9 (lo (s 131 9) b)) (up2 t 170 24 (lo (t 170 24) b)) ∧ FEc s (up2 s 131 9 (lo (s 131 9) b)) ∧ FEr t (up2 t 170 24 (lo (t 170 24) b)) := by
  refine RE_mask h (fun k j a => if_neg (by omega)) (fun k j a => if_neg (by omega)) ?_
  obtain ⟨m1, m2, m3, m4⟩ := h.2.2
  refine ⟨m1, m2, ?_, lo_4k m4.1 hb, m4.2.1, m4.2.2⟩
  show lo (s 131 9) b = lo g.2.2 (pkm (lo (t 170 24) b) (t 170 25) (t 170 26))
  rw [m3]
  unfold pkm
  simp only [lo_assoc, lo_comm, lo_lc]
theorem RE_recv (h : REx T n e N g s t) (b : Int) (hb : 0 ≤ b ∧ b < 4096) : REx T n e N g (up2 s 131 9 (lo (s 131 9) (lsl b 12))) (up2 t 170 25 (lo (t 170 25) b)) ∧ FEc s (up2 s 131 9 (lo (s 131 9) (lsl b 12))) ∧ FEr t (up2 t 170 25 (lo (t 170 25) b)) := by
  refine RE_mask h (fun k j a => if_neg (by omega)) (fun k j a => if_neg (by omega)) ?_
  obtain ⟨m1, m2, m3, m4⟩ := h.2.2
  refine ⟨m1, m2, ?_, m4.1, lo_4k m4.2.1 hb, m4.2.2⟩
  show lo (s 131 9) (lsl b 12) = lo g.2.2 (pkm (t 170 24) (lo (t 170 25) b) (t 170 26))
  rw [m3]
  unfold pkm
  rw [lsl_lo]
  simp only [lo_assoc, lo_comm, lo_lc]
theorem nkd_E (h : FEc s s2) (k : Int) : nkd s2 k = nkd s k := by
  unfold nkd
  rw [h.1 105 3 (by omega) (by omega) (by omega), h.1 107 _ (by omega) (by omega) (by omega)]
theorem nnm_E (h : FEc s s2) (k : Int) : nnm s2 k = nnm s k := by
  unfold nnm
  rw [h.1 105 3 (by omega) (by omega) (by omega), h.1 108 _ (by omega) (by omega) (by omega)]
theorem lin_E (h : FEc s s2) (k : Int) : lin s2 k = lin s k := by
  unfold lin
  rw [nkd_E h, nnm_E h]
/-- our target and its subscript -/
noncomputable def TXx (x k : Int) (s : tab) : RO := bo (cG 35 [k] s) fun _ s1 => if kkd s1 ≠ 91 then some (some (0, s1)) else bo (cG 37 [x] s1) fun _ s2 => some (some (0, s2))
/-- target(..) -/
def PTx (rc : MRq) : Prop := ∀ (T : Nat → Int) (n e N : Nat) (g : Int × Int × Int) (s t : tab) (k x : Int) (v : Option (Int × tab)), REx T n e N g s t → 1 ≤ x → x ≤ 20 → 0 ≤ s 131 6 → s 131 6 ≤ 10 * x → 0 ≤ k → k < (N : Int) → kkd s = 1 → ((nkd s k = 1 ∧ kkd (stp s) = 91) ∨ (nkd s k = 0 ∧ kkd (stp s) ≠ 91)) → (t 170 37 = 0 ∨ (t 170 37 = 1 ∧ nkd s k = 0 ∧ t 170 36 ≤ nnm s k)) → rc 27 [k, x - 1] t = some v → OEx T n e N g s t (TXx x k (stp s)) v
theorem p_sub2 (hrc : rle rc rG) (hX : PXx rc) {x : Int} {v : Option (Int × tab)} (hR : REx T n e N g s t) (x0 : 1 ≤ x) (x1 : x ≤ 20) (b0 : 0 ≤ s 131 6) (b1 : s 131 6 ≤ 10 * x + 10) (hk : kkd s = 91) (h : (if ipl (x - 1) 1 ≠ 20 then bo (rc 4 [] t) fun z20 t20 => bo (rc 22 [0, ipl (x - 1) 2] t20) fun z22 t22 => if z22 = 0 then some (some (0, t22)) else bo (rc 8 [44] t22) fun z24 t24 => if z24 = 0 then some (some (0, t24)) else some (some (1, t24)) else some (some (0, t))) = some v) : OEx T n e N g s t (cG 37 [x] s) v := by
  rw [ipl_e (b := 1) (by omega), ipl_e (b := 2) (by omega)] at h
  rw [cG_64]
  unfold cM64
  by_cases c3 : x ≠ 20
  · rw [if_pos (by omega)] at h
    rw [if_neg (by omega)]
    obtain ⟨t2, a1, a2, a3, a4, a5⟩ := RE_step hR (by omega) (by omega)
    have h := bxr hrc a1 h
    try dsimp only at h
    have b6 : (stp s) 131 6 = s 131 6 := a3.2.1
    rw [show x - 1 + 2 = x + 1 by omega] at h
    rcases bo_inv h with ⟨h9, _⟩ | ⟨z6, t6, h9, h⟩
    · obtain ⟨z, t3, e1, _⟩ := p_Ex hX a2 (by omega) (by omega) (by omega) (by omega) h9
      cases e1
    · obtain ⟨z, t3, e1, e2⟩ := p_Ex hX a2 (by omega) (by omega) (by omega) (by omega) h9
      cases e1
      rcases e2 with ⟨rfl, s4, f1, f2, f3, f4, f5⟩ | ⟨rfl, f1⟩
      · rw [if_neg (by decide)] at h
        rw [f1, bo_s]
        rcases RE_take f2 is_44 (by decide) with ⟨t7, c1, c2, c3, c4, c5, c6, c7⟩ | ⟨c1, c2, c3⟩
        · have h := bxr hrc c1 h
          try dsimp only at h
          rw [if_neg (by decide)] at h
          cases h
          exact ⟨1, t7, rfl, .inl ⟨rfl, stp s4, by rw [c3, bo_s], c4, FEc_tr a3 (FEc_tr f3 c5), FEr_tr a4 (FEr_tr f4 c6), by omega⟩⟩
        · have h := bxr hrc c1 h
          try dsimp only at h
          rw [if_pos rfl] at h
          cases h
          exact OE_no (by rw [c3, bo_n])
      · rw [if_pos rfl] at h
        cases h
        exact OE_no (by rw [f1, bo_n])
  · rw [if_neg (by omega)] at h
    cases h
    exact OE_no (if_pos (by omega))
theorem p_T (hrc : rle rc rG) (hX : PXx rc) : ∀ (T : Nat → Int) (n e N : Nat) (g : Int × Int × Int) (s t : tab) (k x : Int) (v : Option (Int × tab)), REx T n e N g s t → 1 ≤ x → x ≤ 20 → 0 ≤ s 131 6 → s 131 6 ≤ 10 * x → 0 ≤ k → k < (N : Int) → kkd s = 1 → ((nkd s k = 1 ∧ kkd (stp s) = 91) ∨ (nkd s k = 0 ∧ kkd (stp s) ≠ 91)) → (t 170 37 = 0 ∨ (t 170 37 = 1 ∧ nkd s k = 0 ∧ t 170 36 ≤ nnm s k)) → rM157 rc k (x - 1) t = some v → OEx T n e N g s t (TXx x k (stp s)) v := by
  intro T n e N g s t k x v hR x0 x1 b0 b1 k0 k1 hk hkind hfun h
  obtain ⟨n1, n2, n3, n4, n5, n6, n7, _⟩ := RS_nm hR.2.1 k0 k1
  obtain ⟨t2, a1, a2, a3, a4, a5⟩ := RE_step hR (by omega) (by omega)
  have m1 : t2 174 k.toNat = nkd s k := (a4 174 _ (by omega)).trans n1
  have m2 : t2 175 k.toNat = nnm s k := (a4 175 _ (by omega)).trans n2
  have m7 : t2 170 37 = t 170 37 := a4 170 37 (by omega)
  have m6 : t2 170 36 = t 170 36 := a4 170 36 (by omega)
  have e1 := nkd_E a3 k
  have e2 := nnm_E a3 k
  unfold rM157 at h
  have h := bxr hrc a1 h
  try dsimp only at h
  rw [m1, m2, m6, m7] at h
  have hvar : nkd s k = 0 → kkd (stp s) ≠ 91 → some (some ((1 : Int), up2 t2 170 22 (lo (t2 170 22) (lsl 1 (ipl 0 (nnm s k)))))) = some v → OEx T n e N g s t (TXx x k (stp s)) v := fun d1 d2 h => by
    cases h
    obtain ⟨q1, q2, q3⟩ := RE_asg a2 (lsl 1 (nnm s k))
    rw [ipl_e (by omega), Int.zero_add]
    refine ⟨1, _, rfl, .inl ⟨rfl, up2 (up2 (stp s) 131 7 (lo ((stp s) 131 7) (lsl 1 (nnm s k)))) 131 8 (lo ((stp s) 131 8) (lsl 1 (nnm s k))), ?_, q1, FEc_tr a3 q2, FEr_tr a4 q3, ?_⟩⟩
    · unfold TXx
      rw [cG_72]
      unfold cM72
      rw [if_pos d2, e1, e2, if_neg (fun q => q d1), bo_s, ipl_e (by omega), Int.add_zero]
      refine if_pos ?_
      rw [show kkd (up2 (up2 (stp s) 131 7 (lo ((stp s) 131 7) (lsl 1 (nnm s k)))) 131 8 (lo ((stp s) 131 8) (lsl 1 (nnm s k)))) = kkd (stp s) from rfl]
      exact d2
    · rw [show (up2 (up2 (stp s) 131 7 (lo ((stp s) 131 7) (lsl 1 (nnm s k)))) 131 8 (lo ((stp s) 131 8) (lsl 1 (nnm s k)))) 137 5 = (stp s) 137 5 from (if_neg (by omega)).trans (if_neg (by omega))]
      omega
  have harr : nkd s k = 1 → kkd (stp s) = 91 → (if ipl (x - 1) 1 ≠ 20 then bo (rc 4 [] (up2 t2 170 22 (lo (t2 170 22) (lsl 1 (ipl 24 (nnm s k)))))) fun z20 t20 => bo (rc 22 [0, ipl (x - 1) 2] t20) fun z22 t22 => if z22 = 0 then some (some (0, t22)) else bo (rc 8 [44] t22) fun z24 t24 => if z24 = 0 then some (some (0, t24)) else some (some (1, t24)) else some (some (0, up2 t2 170 22 (lo (t2 170 22) (lsl 1 (ipl 24 (nnm s k))))))) = some v → OEx T n e N g s t (TXx x k (stp s)) v := fun d1 d2 h => by
    obtain ⟨q1, q2, q3⟩ := RE_asg a2 (lsl 1 (ipl 24 (nnm s k)))
    have hk9 : kkd (up2 (up2 (stp s) 131 7 (lo ((stp s) 131 7) (lsl 1 (ipl 24 (nnm s k))))) 131 8 (lo ((stp s) 131 8) (lsl 1 (ipl 24 (nnm s k))))) = 91 := d2
    have hb6 : (up2 (up2 (stp s) 131 7 (lo ((stp s) 131 7) (lsl 1 (ipl 24 (nnm s k))))) 131 8 (lo ((stp s) 131 8) (lsl 1 (ipl 24 (nnm s k))))) 131 6 = s 131 6 := q2.2.1.trans a3.2.1
    have hp := OE_pre (p_sub2 hrc hX q1 x0 x1 (by rw [hb6]; exact b0) (by rw [hb6]; omega) hk9 h) (FEc_tr a3 q2) (FEr_tr a4 q3)
    have hx : TXx x k (stp s) = bo (cG 37 [x] (up2 (up2 (stp s) 131 7 (lo ((stp s) 131 7) (lsl 1 (ipl 24 (nnm s k))))) 131 8 (lo ((stp s) 131 8) (lsl 1 (ipl 24 (nnm s k)))))) fun _ s2 => some (some (0, s2)) := by
      unfold TXx
      rw [cG_72]
      unfold cM72
      rw [if_neg (fun q => q d2), e1, e2, if_neg (fun q => q d1), bo_s, show ipl (nnm s k) 24 = ipl 24 (nnm s k) by rw [ipl_e (by omega), ipl_e (by omega), Int.add_comm]]
      exact if_neg (fun q => q hk9)
    rw [hx]
    obtain ⟨z, t9, w1, w2⟩ := hp
    refine ⟨z, t9, w1, ?_⟩
    rcases w2 with ⟨y1, s9, y2, y3⟩ | ⟨y1, y2⟩
    · exact .inl ⟨y1, s9, by rw [y2, bo_s], y3⟩
    · exact .inr ⟨y1, by rw [y2, bo_n]⟩
  rcases hkind with ⟨d1, d2⟩ | ⟨d1, d2⟩
  · rcases hfun with f1 | ⟨f1, f2, _⟩
    · rw [if_pos f1, if_neg (fun q => q d1), if_pos (by omega)] at h
      exact harr d1 d2 h
    · omega
  · rcases hfun with f1 | ⟨f1, f2, f3⟩
    · rw [if_pos f1, if_pos (by omega), if_neg (fun q => q d1)] at h
      exact hvar d1 d2 h
    · rw [if_neg (by omega), if_neg (by omega), if_pos f3, if_neg (fun q => q d1)] at h
      exact hvar d1 d2 h
end TARG
