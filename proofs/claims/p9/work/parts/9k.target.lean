/-! Targets, in both. -/
section TARG
variable {T : Nat → Int} {n e N : Nat} {g : Gtt} {s t s2 t2 : tab} {rc : MRq}
theorem RE_asg (h : REx T n e N g s t) (b : Int) (hb : ∀ v : Nat, mbt b v → bnd s v) : REx T n e N g (up2 (up2 s 131 7 (lo (s 131 7) b)) 131 8 (lo (s 131 8) b)) (up2 t 170 22 (lo (t 170 22) b)) ∧ FEc s (up2 (up2 s 131 7 (lo (s 131 7) b)) 131 8 (lo (s 131 8) b)) ∧ FEr t (up2 t 170 22 (lo (t 170 22) b)) := by
  refine RE_mask h (fun k j a => (if_neg (by omega)).trans (if_neg (by omega))) (fun k j a => if_neg (by omega)) ⟨rfl, rfl, h.2.2.2.1.2.2.2.2.2.2⟩ ⟨⟨h.2.2.2.2.1.1.1, fun v q => q.elim (fun w => (mbt_lo.mp (show mbt (lo (t 170 22) b) v from w)).elim (fun w => h.2.2.2.2.1.1.2.1 v (.inl w)) (hb v)) (fun w => h.2.2.2.2.1.1.2.1 v (.inr w)), h.2.2.2.2.1.1.2.2⟩, h.2.2.2.2.1.2⟩ ?_
  obtain ⟨m1, m2, m3⟩ := h.2.2.1
  refine ⟨?_, ?_, ?_⟩
  · show lo (s 131 7) b = lo g.1 (lo (t 170 23) (lo (t 170 22) b))
    rw [m1]
    simp only [lo_assoc, lo_comm, lo_lc]
  · show lo (s 131 8) b = lo g.2.1 (lo (t 170 22) b)
    rw [m2]
    simp only [lo_assoc, lo_comm, lo_lc]
  · exact m3
theorem RE_sent (h : REx T n e N g s t) (b : Int) (hb : 0 ≤ b ∧ b < 4096) (hf : t 170 37 = 0) : REx T n e N g (up2 s 131 9 (lo (s 131 9) b)) (up2 t 170 24 (lo (t 170 24) b)) ∧ FEc s (up2 s 131 9 (lo (s 131 9) b)) ∧ FEr t (up2 t 170 24 (lo (t 170 24) b)) := by
  refine RE_mask h (fun k j a => if_neg (by omega)) (fun k j a => if_neg (by omega)) ⟨rfl, rfl, h.2.2.2.1.2.2.2.2.2.2⟩ ⟨⟨h.2.2.2.2.1.1.1, h.2.2.2.2.1.1.2.1, fun q => absurd hf q⟩, h.2.2.2.2.1.2⟩ ?_
  obtain ⟨m1, m2, m3, m4⟩ := h.2.2.1
  refine ⟨m1, m2, ?_, lo_4k m4.1 hb, m4.2.1, m4.2.2⟩
  show lo (s 131 9) b = lo g.2.2.1 (pkm (lo (t 170 24) b) (t 170 25) (t 170 26))
  rw [m3]
  unfold pkm
  simp only [lo_assoc, lo_comm, lo_lc]
theorem RE_recv (h : REx T n e N g s t) (b : Int) (hb : 0 ≤ b ∧ b < 4096) (hf : t 170 37 = 0) : REx T n e N g (up2 s 131 9 (lo (s 131 9) (lsl b 12))) (up2 t 170 25 (lo (t 170 25) b)) ∧ FEc s (up2 s 131 9 (lo (s 131 9) (lsl b 12))) ∧ FEr t (up2 t 170 25 (lo (t 170 25) b)) := by
  refine RE_mask h (fun k j a => if_neg (by omega)) (fun k j a => if_neg (by omega)) ⟨rfl, rfl, h.2.2.2.1.2.2.2.2.2.2⟩ ⟨⟨h.2.2.2.2.1.1.1, h.2.2.2.2.1.1.2.1, fun q => absurd hf q⟩, h.2.2.2.2.1.2⟩ ?_
  obtain ⟨m1, m2, m3, m4⟩ := h.2.2.1
  refine ⟨m1, m2, ?_, m4.1, lo_4k m4.2.1 hb, m4.2.2⟩
  show lo (s 131 9) (lsl b 12) = lo g.2.2.1 (pkm (t 170 24) (lo (t 170 25) b) (t 170 26))
  rw [m3]
  unfold pkm
  rw [lsl_lo]
  simp only [lo_assoc, lo_comm, lo_lc]
theorem PN_asg (b : Int) : PWx s t (up2 (up2 s 131 7 (lo (s 131 7) b)) 131 8 (lo (s 131 8) b)) (up2 t 170 22 (lo (t 170 22) b)) := PN_mk (fun k j a => (if_neg (by omega)).trans (if_neg (by omega))) (fun k j a => if_neg (by omega)) MG_up
theorem PN_sent (b c : Int) : PWx s t (up2 s 131 9 c) (up2 t 170 24 (lo (t 170 24) b)) := PN_mk (fun k j a => if_neg (by omega)) (fun k j a => if_neg (by omega)) MG_up
theorem PN_recv (b c : Int) : PWx s t (up2 s 131 9 c) (up2 t 170 25 (lo (t 170 25) b)) := PN_mk (fun k j a => if_neg (by omega)) (fun k j a => if_neg (by omega)) MG_up
theorem nkd_E (h : FEc s s2) (k : Int) : nkd s2 k = nkd s k := by
  unfold nkd
  rw [h.1 105 3 (by omega) (by omega) (by omega), h.1 107 _ (by omega) (by omega) (by omega)]
theorem nnm_E (h : FEc s s2) (k : Int) : nnm s2 k = nnm s k := by
  unfold nnm
  rw [h.1 105 3 (by omega) (by omega) (by omega), h.1 108 _ (by omega) (by omega) (by omega)]
theorem lin_E (h : FEc s s2) (k : Int) : lin s2 k = lin s k := by
  unfold lin
  rw [nkd_E h, nnm_E h]
/-- our target and its subscript, and what comes then -/
noncomputable def TXk (x k : Int) (s : tab) (K : Int → Int → tab → RO) : RO := bo (cG 35 [k] s) fun z s1 => if kkd s1 ≠ 91 then K z (-1) s1 else bo (cG 37 [x] s1) fun y s2 => K z y s2
def tgn (s : tab) (k : Int) : Int := if nkd s k = 0 then nnm s k else 24 + nnm s k
/-- parts and code of a target: d more stood in t1 before -/
def TMx (g : Gtt) (s t t1 : tab) (d : Nat) (k : Int) (s2 t2 : tab) (y : Int) : Prop := ((nkd s k = 0 ∧ y = -1 ∧ s2 99 12 = s 99 12 ∧ t2 177 1 = t 177 1 + (d : Int)) ∨ (nkd s k = 1 ∧ y = s2 99 12 - 1 ∧ CO s2 t2 g.2.2.2.1 0 0 (s 99 12).toNat (s2 99 12).toNat y ((t 177 1).toNat + d) (t2 177 1).toNat 0 0 0 (cxt g s2 t2))) ∧ (∀ i : Nat, (i : Int) < t 177 1 + (d : Int) → t2 178 i = t1 178 i) ∧ PFx s t s2 t2 ∧ s2 99 12 + s 137 5 + 1 ≤ s 99 12 + s2 137 5 ∧ t2 177 1 + 12 * (s 137 5 + 1) ≤ t 177 1 + (d : Int) + 12 * s2 137 5 ∧ t2 177 10 = t 177 10 ∧ mbt (t2 170 22) (tgn s k).toNat
def OTx (T : Nat → Int) (n e N : Nat) (g : Gtt) (s t t1 : tab) (d : Nat) (k x : Int) (v : Option (Int × tab)) : Prop := ∃ z t2, v = some (z, t2) ∧ ((z = 1 ∧ ∃ s2 y, (∀ K, TXk x k (stp s) K = K (tgn s k) y s2) ∧ REx T n e N g s2 t2 ∧ FEc s s2 ∧ FEr t t2 ∧ TMx g s t t1 d k s2 t2 y) ∨ (z = 0 ∧ ∀ K, TXk x k (stp s) K = some none))
/-- target(..) -/
def PTx (rc : MRq) : Prop := ∀ (T : Nat → Int) (n e N : Nat) (g : Gtt) (s t t1 : tab) (d : Nat) (k x : Int) (v : Option (Int × tab)), REx T n e N g s t → CWx t t1 d → d ≤ 12 → 1 ≤ x → x ≤ 20 → 0 ≤ s 131 6 → s 131 6 ≤ 10 * x → 0 ≤ k → k < (N : Int) → kkd s = 1 → ((nkd s k = 1 ∧ kkd (stp s) = 91) ∨ (nkd s k = 0 ∧ kkd (stp s) ≠ 91)) → (t 170 37 = 0 ∨ (t 170 37 = 1 ∧ nkd s k = 0 ∧ t 170 36 ≤ nnm s k)) → rc 27 [k, x - 1] t1 = some v → OTx T n e N g s t t1 d k x v
theorem p_sub2 (hrc : rle rc rG) (hX : PXx rc) {x : Int} {v : Option (Int × tab)} (hR : REx T n e N g s t) (x0 : 1 ≤ x) (x1 : x ≤ 20) (b0 : 0 ≤ s 131 6) (b1 : s 131 6 ≤ 10 * x + 10) (hk : kkd s = 91) (h : (if ipl (x - 1) 1 ≠ 20 then bo (rc 4 [] t) fun z20 t20 => bo (rc 22 [0, ipl (x - 1) 2] t20) fun z22 t22 => if z22 = 0 then some (some (0, t22)) else bo (rc 8 [44] t22) fun z24 t24 => if z24 = 0 then some (some (0, t24)) else some (some (1, t24)) else some (some (0, t))) = some v) : OEx T n e N g s t (cG 37 [x] s) v := by
  rw [ipl_e (b := 1) (by omega), ipl_e (b := 2) (by omega)] at h
  rw [cG_64]
  unfold cM64
  by_cases c3 : x ≠ 20
  · rw [if_pos (by omega)] at h
    rw [if_neg (by omega)]
    obtain ⟨t2, a1, a2, a3, a4, a5⟩ := RE_step hR (by omega) (by omega)
    have pst := PF_stp hR.1 (by omega) (by omega) a1
    have h := bxr hrc a1 h
    try dsimp only at h
    have b6 : (stp s) 131 6 = s 131 6 := a3.2.1
    rw [show x - 1 + 2 = x + 1 by omega] at h
    rcases bo_inv h with ⟨h9, _⟩ | ⟨z6, t6, h9, h⟩
    · obtain ⟨z, t3, e1, _⟩ := p_Ex hX a2 (by omega) (by omega) (by omega) (by omega) h9
      cases e1
    · obtain ⟨z, t3, e1, e2⟩ := p_Ex hX a2 (by omega) (by omega) (by omega) (by omega) h9
      cases e1
      rcases e2 with ⟨rfl, s4, f1, f2, f3, f4, f5, f6⟩ | ⟨rfl, f1⟩
      · rw [if_neg (by decide)] at h
        rw [f1, bo_s]
        rcases RE_take f2 is_44 (by decide) with ⟨t7, c1, c2, c3, c4, c5, c6, c7⟩ | ⟨c1, c2, c3⟩
        · have pt := PF_take f2 is_44 (by decide) c2 c1
          have h := bxr hrc c1 h
          try dsimp only at h
          rw [if_neg (by decide)] at h
          cases h
          exact ⟨1, t7, rfl, .inl ⟨rfl, stp s4, by rw [c3, bo_s, pt.2.1], c4, FEc_tr a3 (FEc_tr f3 c5), FEr_tr a4 (FEr_tr f4 c6), by omega, EM_pre (EM_post f6 f2.2.2.2.1.2.2.1 pt (by omega)) pst (by omega)⟩⟩
        · have h := bxr hrc c1 h
          try dsimp only at h
          rw [if_pos rfl] at h
          cases h
          exact OE_no (by rw [c3, bo_n])
      · rw [if_pos rfl] at h
        cases h
        exact OE_no (by rw [f1, bo_n])
  · rw [if_neg (by omega)] at h
    cases h
    exact OE_no (if_pos (by omega))
theorem p_T (hrc : rle rc rG) (hX : PXx rc) : ∀ (T : Nat → Int) (n e N : Nat) (g : Gtt) (s t t1 : tab) (d : Nat) (k x : Int) (v : Option (Int × tab)), REx T n e N g s t → CWx t t1 d → d ≤ 12 → 1 ≤ x → x ≤ 20 → 0 ≤ s 131 6 → s 131 6 ≤ 10 * x → 0 ≤ k → k < (N : Int) → kkd s = 1 → ((nkd s k = 1 ∧ kkd (stp s) = 91) ∨ (nkd s k = 0 ∧ kkd (stp s) ≠ 91)) → (t 170 37 = 0 ∨ (t 170 37 = 1 ∧ nkd s k = 0 ∧ t 170 36 ≤ nnm s k)) → rM157 rc k (x - 1) t1 = some v → OTx T n e N g s t t1 d k x v := by
  intro T n e N g s t t1 d k x v hR hcw hd x0 x1 b0 b1 k0 k1 hk hkind hfun h
  obtain ⟨n1, n2, n3, n4, n5, n6, n7, _⟩ := RS_nm hR.2.1 k0 k1
  obtain ⟨t2, a1, a2, a3, a4, a5, a6, a7, a8, a9, a10⟩ := RE_wst hR hcw hd (by omega) (by omega)
  obtain ⟨u1, u2, u3, u4, u5, u6, u7⟩ := hR.2.2.2.1
  have m1 : t2 174 k.toNat = nkd s k := (a4 174 _ (by omega)).trans n1
  have m2 : t2 175 k.toNat = nnm s k := (a4 175 _ (by omega)).trans n2
  have m7 : t2 170 37 = t 170 37 := a4 170 37 (by omega)
  have m6 : t2 170 36 = t 170 36 := a4 170 36 (by omega)
  have e1 := nkd_E a3 k
  have e2 := nnm_E a3 k
  unfold rM157 at h
  have h := bxr hrc a1 h
  try dsimp only at h
  rw [m1, m2, m6, m7] at h
  have hvar : nkd s k = 0 → kkd (stp s) ≠ 91 → some (some ((1 : Int), up2 t2 170 22 (lo (t2 170 22) (lsl 1 (ipl 0 (nnm s k)))))) = some v → OTx T n e N g s t t1 d k x v := fun d1 d2 h => by
    obtain ⟨q1, q2, q3⟩ := RE_asg a2 (lsl 1 (nnm s k)) (fun v q => by
                  have hl6 := hR.2.1.2.1 0 (by omega)
                  have h6 : LIM 0 = 24 := rfl
                  have n6' : nnm s k < s 109 0 := by rw [d1] at n6; exact n6
                  have := (mbt_l (by omega)).mp q
                  have e1 : (stp s) 109 0 = s 109 0 := a3.1 109 0 (by omega) (by omega) (by omega)
                  exact ⟨fun _ => by rw [e1]; omega, fun w => by omega⟩)
    have pn := PN_asg (s := stp s) (t := t2) (lsl 1 (nnm s k))
    rw [ipl_e (by omega), Int.zero_add] at h
    cases h
    have hl6 := hR.2.1.2.1 0 (by omega)
    have h6 : LIM 0 = 24 := rfl
    have n6' : nnm s k < s 109 0 := by rw [d1] at n6; exact n6
    have ht : tgn s k = nnm s k := if_pos d1
    have hmb : mbt ((up2 t2 170 22 (lo (t2 170 22) (lsl 1 (nnm s k)))) 170 22) (nnm s k).toNat := by
      rw [up_self]
      exact mbt_lo.mpr (.inr ((mbt_l (by omega)).mpr (by omega)))
    have e35 : (up2 (up2 (stp s) 131 7 (lo ((stp s) 131 7) (lsl 1 (nnm s k)))) 131 8 (lo ((stp s) 131 8) (lsl 1 (nnm s k)))) 137 5 = (stp s) 137 5 := (if_neg (by omega)).trans (if_neg (by omega))
    have hK : ∀ K, TXk x k (stp s) K = K (nnm s k) (-1) (up2 (up2 (stp s) 131 7 (lo ((stp s) 131 7) (lsl 1 (nnm s k)))) 131 8 (lo ((stp s) 131 8) (lsl 1 (nnm s k)))) := fun K => by
      unfold TXk
      rw [cG_72]
      unfold cM72
      rw [if_pos d2, e1, e2, if_neg (fun q => q d1), bo_s, ipl_e (by omega), Int.add_zero]
      refine if_pos ?_
      rw [show kkd (up2 (up2 (stp s) 131 7 (lo ((stp s) 131 7) (lsl 1 (nnm s k)))) 131 8 (lo ((stp s) 131 8) (lsl 1 (nnm s k)))) = kkd (stp s) from rfl]
      exact d2
    obtain ⟨s3, hs3⟩ : ∃ s3, s3 = up2 (up2 (stp s) 131 7 (lo ((stp s) 131 7) (lsl 1 (nnm s k)))) 131 8 (lo ((stp s) 131 8) (lsl 1 (nnm s k))) := ⟨_, rfl⟩
    obtain ⟨t3, ht3⟩ : ∃ t3, t3 = up2 t2 170 22 (lo (t2 170 22) (lsl 1 (nnm s k))) := ⟨_, rfl⟩
    rw [← hs3] at q1 q2 pn e35 hK
    rw [← ht3] at q1 q3 pn hmb ⊢
    have p2 := pn.2.1
    have p3 := pn.2.2.1
    have p4 := pn.2.2.2
    refine ⟨1, t3, rfl, .inl ⟨rfl, s3, -1, by rw [ht]; exact hK, q1, FEc_tr a3 q2, FEr_tr a4 q3, .inl ⟨d1, rfl, by omega, by omega⟩, fun i q => ?_, PF_tr a6 pn.1, by omega, by omega, by omega, by rw [ht]; exact hmb⟩⟩
    rw [pn.1.2.1.2 i (by omega), a10]
  have harr : nkd s k = 1 → kkd (stp s) = 91 → (if ipl (x - 1) 1 ≠ 20 then bo (rc 4 [] (up2 t2 170 22 (lo (t2 170 22) (lsl 1 (ipl 24 (nnm s k)))))) fun z20 t20 => bo (rc 22 [0, ipl (x - 1) 2] t20) fun z22 t22 => if z22 = 0 then some (some (0, t22)) else bo (rc 8 [44] t22) fun z24 t24 => if z24 = 0 then some (some (0, t24)) else some (some (1, t24)) else some (some (0, up2 t2 170 22 (lo (t2 170 22) (lsl 1 (ipl 24 (nnm s k))))))) = some v → OTx T n e N g s t t1 d k x v := fun d1 d2 h => by
    obtain ⟨q1, q2, q3⟩ := RE_asg a2 (lsl 1 (ipl 24 (nnm s k))) (fun v q => by
                have hl6 := hR.2.1.2.1 1 (by omega)
                have h6 : LIM 1 = 6 := rfl
                have n6' : nnm s k < s 109 1 := by rw [d1] at n6; exact n6
                rw [ipl_e (by omega)] at q
                have := (mbt_l (by omega)).mp q
                have e1 : (stp s) 109 1 = s 109 1 := a3.1 109 1 (by omega) (by omega) (by omega)
                exact ⟨fun w => by omega, fun _ => by rw [e1]; omega⟩)
    have pn := PN_asg (s := stp s) (t := t2) (lsl 1 (ipl 24 (nnm s k)))
    have hl6 := hR.2.1.2.1 1 (by omega)
    have h6 : LIM 1 = 6 := rfl
    have n6' : nnm s k < s 109 1 := by rw [d1] at n6; exact n6
    have ht : tgn s k = 24 + nnm s k := if_neg (by omega)
    have hk9 : kkd (up2 (up2 (stp s) 131 7 (lo ((stp s) 131 7) (lsl 1 (ipl 24 (nnm s k))))) 131 8 (lo ((stp s) 131 8) (lsl 1 (ipl 24 (nnm s k))))) = 91 := d2
    have hb6 : (up2 (up2 (stp s) 131 7 (lo ((stp s) 131 7) (lsl 1 (ipl 24 (nnm s k))))) 131 8 (lo ((stp s) 131 8) (lsl 1 (ipl 24 (nnm s k))))) 131 6 = s 131 6 := q2.2.1.trans a3.2.1
    have e35 : (up2 (up2 (stp s) 131 7 (lo ((stp s) 131 7) (lsl 1 (ipl 24 (nnm s k))))) 131 8 (lo ((stp s) 131 8) (lsl 1 (ipl 24 (nnm s k))))) 137 5 = (stp s) 137 5 := (if_neg (by omega)).trans (if_neg (by omega))
    have hmb : mbt ((up2 t2 170 22 (lo (t2 170 22) (lsl 1 (ipl 24 (nnm s k))))) 170 22) (24 + nnm s k).toNat := by
      rw [up_self]
      refine mbt_lo.mpr (.inr ?_)
      rw [ipl_e (by omega)]
      exact (mbt_l (by omega)).mpr (by omega)
    have hx : ∀ K, TXk x k (stp s) K = bo (cG 37 [x] (up2 (up2 (stp s) 131 7 (lo ((stp s) 131 7) (lsl 1 (ipl 24 (nnm s k))))) 131 8 (lo ((stp s) 131 8) (lsl 1 (ipl 24 (nnm s k)))))) fun y s2 => K (24 + nnm s k) y s2 := fun K => by
      unfold TXk
      rw [cG_72]
      unfold cM72
      rw [if_neg (fun q => q d2), e1, e2, if_neg (fun q => q d1), bo_s, show ipl (nnm s k) 24 = ipl 24 (nnm s k) by rw [ipl_e (by omega), ipl_e (by omega), Int.add_comm]]
      rw [if_neg (fun q => q hk9), show ipl 24 (nnm s k) = 24 + nnm s k from ipl_e (by omega)]
    have hp := p_sub2 hrc hX q1 x0 x1 (by rw [hb6]; exact b0) (by rw [hb6]; omega) hk9 h
    obtain ⟨s3, hs3⟩ : ∃ s3, s3 = up2 (up2 (stp s) 131 7 (lo ((stp s) 131 7) (lsl 1 (ipl 24 (nnm s k))))) 131 8 (lo ((stp s) 131 8) (lsl 1 (ipl 24 (nnm s k)))) := ⟨_, rfl⟩
    obtain ⟨t3, ht3⟩ : ∃ t3, t3 = up2 t2 170 22 (lo (t2 170 22) (lsl 1 (ipl 24 (nnm s k)))) := ⟨_, rfl⟩
    rw [← hs3] at q1 q2 pn e35 hx hp
    rw [← ht3] at q1 q3 pn hmb hp
    obtain ⟨z, t9, w1, w2⟩ := hp
    refine ⟨z, t9, w1, ?_⟩
    have p2 := pn.2.1
    have p3 := pn.2.2.1
    have p4 := pn.2.2.2
    rcases w2 with ⟨y1, s9, y2, y3, y4, y5, y6, z1, z2, z3, z4, z5, z6⟩ | ⟨y1, y2⟩
    · have hco := CO_le z1
      rw [show (s3 99 12).toNat = (s 99 12).toNat by omega, show (t3 177 1).toNat = (t 177 1).toNat + d by omega] at z1
      refine .inl ⟨y1, s9, s9 99 12 - 1, fun K => by rw [hx, y2, bo_s, ht], y3, FEc_tr a3 (FEc_tr q2 y4), FEr_tr a4 (FEr_tr q3 y5), .inr ⟨d1, rfl, z1⟩, fun i q => ?_, PF_tr a6 (PF_tr pn.1 z3), by omega, by omega, by omega, ?_⟩
      · rw [z3.2.1.2 i (by omega), pn.1.2.1.2 i (by omega), a10]
      · rw [ht]
        exact z3.2.2.2.1 22 (by omega) (by omega) _ hmb
    · exact .inr ⟨y1, fun K => by rw [hx, y2, bo_n]⟩
  rcases hkind with ⟨d1, d2⟩ | ⟨d1, d2⟩
  · rcases hfun with f1 | ⟨f1, f2, _⟩
    · rw [if_pos f1, if_neg (fun q => q d1), if_pos (by omega)] at h
      exact harr d1 d2 h
    · omega
  · rcases hfun with f1 | ⟨f1, f2, f3⟩
    · rw [if_pos f1, if_pos (by omega), if_neg (fun q => q d1)] at h
      exact hvar d1 d2 h
    · rw [if_neg (by omega), if_neg (by omega), if_pos f3, if_neg (fun q => q d1)] at h
      exact hvar d1 d2 h
end TARG
