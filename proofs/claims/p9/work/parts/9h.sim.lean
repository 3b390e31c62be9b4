/-! An E read by both: small things. -/
section SIM
variable {T : Nat → Int} {n e N : Nat} {g : Gtt} {s t s2 t2 : tab} {rc : MRq}
theorem kd_name {p : Nat} (h : kd T n p = 1) : p < n ∧ ltr (T p) = true := by
  have hp : p < n := by
    rcases Nat.lt_or_ge p n with a | a
    · exact a
    · rw [kd_end.mpr a] at h; omega
  refine ⟨hp, ?_⟩
  by_cases hl : ltr (T p) = true
  · exact hl
  · exfalso
    by_cases hd : dgt (T p) = true
    · rcases kd_dgt hp hl hd with a | a <;> omega
    · rcases kd_sgn hp hl hd with ⟨a, b, _⟩ | ⟨a, b, c, _⟩ | ⟨a, b, c, _⟩
      · have := sg2_r a; omega
      · have := sg1_r b; omega
      · omega
theorem kd_num {p : Nat} (h : kd T n p = 2) : 0 ≤ vl9 T n p ∧ vl9 T n p ≤ 65535 := by
  have hp : p < n := by
    rcases Nat.lt_or_ge p n with a | a
    · exact a
    · rw [kd_end.mpr a] at h; omega
  by_cases hl : ltr (T p) = true
  · exfalso
    rcases kd_ltr hp hl with a | a | ⟨i, a, _⟩ <;> omega
  · by_cases hd : dgt (T p) = true
    · have hk : kd T n p = if nmn 65536 T p (upto dgt T n p - p) ≤ 65535 then 2 else 4 := by unfold kd; rw [if_neg (by omega), if_neg hl, if_pos hd]
      have hr := nmn_rng (T := T) (p := p) (c := 65536) (by omega) (q := upto dgt T n p) upto_ge (fun j a b => (upto_in (q := dgt) (T := T) (n := n) (p := p) j a b).2)
      unfold vl9
      rw [if_neg hl]
      rw [hk] at h
      split at h
      · omega
      · omega
    · exfalso
      rcases kd_sgn hp hl hd with ⟨a, b, _⟩ | ⟨a, b, c, _⟩ | ⟨a, b, c, _⟩
      · have := sg2_r a; omega
      · have := sg1_r b; omega
      · omega
/-- a name at hand -/
theorem RE_name (h : REx T n e N g s t) (hk : kkd s = 1) : rG 9 [] t = some (some (fdn s (vlu s) 0, t)) ∧ fdn s (vlu s) 0 < (N : Int) ∧ -1 ≤ fdn s (vlu s) 0 := by
  obtain ⟨hL, ⟨⟨a1, a2, a3, a4, a5⟩, _⟩, _⟩ := h
  have hk2 := RL_kk hL
  rw [hk] at hk2
  obtain ⟨hp, hl⟩ := kd_name hk2.symm
  have hv := RL_vl hL (.inl hk)
  have e1 : vl9 T n (pls T n (s 137 5).toNat) = wdn T (pls T n (s 137 5).toNat) (nx T n (pls T n (s 137 5).toNat) - pls T n (s 137 5).toNat) := by
    unfold vl9 nx
    rw [if_pos hl, if_neg (by omega), if_pos hl]
  have hf := r_find hL.2.1 hL.2.2.2.2 hp hl a2 (by omega) a4
  rw [← e1, ← hv, fdw_fdl] at hf
  have hl2 := fdl_lt (t := s) (w := vlu s) N
  have e2 : fdn s (vlu s) 0 = fdl s (vlu s) N := by
    unfold fdn
    rw [show mxx 0 0 = 0 from by decide, a1, Int.toNat_natCast]
    split <;> omega
  rw [e2]
  exact ⟨hf, hl2.1, hl2.2⟩
theorem c_mean (hk : kkd s = 1) : cG 33 [] s = if fdn s (vlu s) 0 < 0 then some none else some (some (fdn s (vlu s) 0, s)) := by
  rw [cG_61]
  unfold cM61
  rw [if_neg (fun q => q hk)]
/-- what a name means, in both -/
theorem RS_nm (h : RSt T n N s t) {k : Int} (h0 : 0 ≤ k) (h1 : k < (N : Int)) : t 174 k.toNat = nkd s k ∧ t 175 k.toNat = nnm s k ∧ 0 ≤ nkd s k ∧ nkd s k ≤ 6 ∧ 0 ≤ nnm s k ∧ nnm s k < s 109 (kcn (nkd s k)) ∧ nnm s k ≤ 24 ∧ nkd s k = s 107 k.toNat ∧ nnm s k = s 108 k.toNat := by
  obtain ⟨⟨a1, a2, a3, a4, a5⟩, b, _⟩ := h
  obtain ⟨c1, c2, c3, c4, c5, c6⟩ := a5 k.toNat (by omega)
  have e1 : nkd s k = s 107 k.toNat := by unfold nkd; rw [if_pos (by omega)]
  have e2 : nnm s k = s 108 k.toNat := by unfold nnm; rw [if_pos (by omega)]
  rw [e1, e2]
  have hc : kcn (s 107 k.toNat) < 6 := by unfold kcn; split <;> omega
  have hb := b _ hc
  have hl := LIM_le (j := kcn (s 107 k.toNat))
  exact ⟨c1, c2, c3, c4, c5, c6, by omega, rfl, rfl⟩
/-- the same tokens, names, routines -/
theorem RE_fr {g2 : Gtt} (h : REx T n e N g s t) (fc : FEc s s2) (fr : FEr t t2) (h5 : s2 137 5 = s 137 5) (ht : ∀ j, 3 ≤ j → j ≤ 7 → t2 170 j = t 170 j) (hn : 0 ≤ s2 99 12 ∧ s2 99 12 + s2 131 6 ≤ s2 137 5 ∧ 0 ≤ t2 177 1 ∧ t2 177 1 ≤ 12 * s2 137 5 ∧ 0 ≤ t2 177 10 ∧ t2 177 10 ≤ s2 137 5 ∧ ((g2.2.2.2.2.1 + g2.2.2.2.2.2 : Nat) : Int) ≤ s2 99 12) (hg : g2.2.2.2.1 = g.2.2.2.1 ∧ g2.2.2.2.2.1 = g.2.2.2.2.1) (hk : MKx g s t2) (hm : RMk g2 s2 t2) : REx T n e N g2 s2 t2 := by
  refine ⟨?_, RSt_fr h.2.1 fc fr, hm, IV_fr h.2.2.2 fc fr hn hg hk⟩
  obtain ⟨⟨b1, b2, b3, b4, b5⟩, l2, l3, l4, l5⟩ := h.1
  have cc : ∀ k j, (k = 139 ∨ k = 140 ∨ k = 141) → s2 k j = s k j := fun k j q => fc.1 k j (by omega) (by omega) (by omega)
  refine ⟨⟨b1, b2, b3, b4, fun j hj => ?_⟩, ⟨(fr 170 2 (by omega)).trans l2.1, l2.2.1, fun j hj => ?_⟩, by rw [h5]; exact l3, by rw [h5]; exact l4, ?_⟩
  · rw [cc 139 j (by omega), cc 140 j (by omega), cc 141 j (by omega)]
    exact b5 j hj
  · rw [fr 171 j (by omega)]
    exact l2.2.2 j hj
  · rw [h5]
    obtain ⟨q1, q2, q3, q4, q5⟩ := l5
    exact ⟨(ht 5 (by omega) (by omega)).trans q1, (ht 3 (by omega) (by omega)).trans q2, (ht 6 (by omega) (by omega)).trans q3, (ht 4 (by omega) (by omega)).trans q4, fun w => (ht 7 (by omega) (by omega)).trans (q5 w)⟩
/-- masks change alone -/
theorem RE_mask {s3 t3 : tab} {g2 : Gtt} (h : REx T n e N g s t) (hs : ∀ k j, ¬ (k = 131 ∧ (j = 7 ∨ j = 8 ∨ j = 9)) → s3 k j = s k j) (ht : ∀ k j, ¬ (k = 170 ∧ 22 ≤ j ∧ j ≤ 26) → t3 k j = t k j) (hg : g2.2.2.2.1 = g.2.2.2.1 ∧ g2.2.2.2.2.1 = g.2.2.2.2.1 ∧ ((g2.2.2.2.2.1 + g2.2.2.2.2.2 : Nat) : Int) ≤ s 99 12) (hk : MKx g s t3) (hm : RMk g2 s3 t3) : REx T n e N g2 s3 t3 ∧ FEc s s3 ∧ FEr t t3 := by
  have fc : FEc s s3 := ⟨fun k j a b c => hs k j (by omega), hs 131 6 (by omega), fun j _ => hs 132 j (by omega), by rw [hs 137 5 (by omega)]; exact Int.le_refl _⟩
  have fr : FEr t t3 := fun k j a => ht k j (by omega)
  refine ⟨RE_fr h fc fr (hs 137 5 (by omega)) (fun j q1 q2 => ht 170 j (by omega)) ?_ ⟨hg.1, hg.2.1⟩ hk hm, fc, fr⟩
  rw [hs 99 12 (by omega), hs 131 6 (by omega), hs 137 5 (by omega), ht 177 1 (by omega), ht 177 10 (by omega)]
  obtain ⟨w1, w2, w3, w4, w5, w6, w7⟩ := h.2.2.2.1
  exact ⟨w1, w2, w3, w4, w5, w6, hg.2.2⟩
/-- nothing is written, masks grow -/
def PWx (s t s2 t2 : tab) : Prop := PFx s t s2 t2 ∧ s2 99 12 = s 99 12 ∧ t2 177 1 = t 177 1 ∧ t2 177 10 = t 177 10
theorem PN_tr {s3 t3 : tab} (h : PWx s t s2 t2) (k : PWx s2 t2 s3 t3) : PWx s t s3 t3 := ⟨PF_tr h.1 k.1, k.2.1.trans h.2.1, k.2.2.1.trans h.2.2.1, k.2.2.2.trans h.2.2.2⟩
theorem PN_mk {s3 t3 : tab} (hs : ∀ k j, ¬ (k = 131 ∧ (j = 7 ∨ j = 8 ∨ j = 9)) → s3 k j = s k j) (ht : ∀ k j, ¬ (k = 170 ∧ 22 ≤ j ∧ j ≤ 26) → t3 k j = t k j) (hm : MGx t t3) : PWx s t s3 t3 := ⟨PF_ne (fun k j q1 q2 => hs k j (by omega)) (fun k j q => ht k j (by omega)) hm (ht 170 21 (by omega)) (fun r => hs 113 r (by omega)), hs 99 12 (by omega), ht 177 1 (by omega), ht 177 10 (by omega)⟩
theorem MG_up {j0 : Nat} {b : Int} : MGx t (up2 t 170 j0 (lo (t 170 j0) b)) := fun j q1 q2 v w => by
  by_cases e : j = j0
  · rw [e, up_self]
    rw [e] at w
    exact mbt_lo.mpr (.inl w)
  · rw [show (up2 t 170 j0 (lo (t 170 j0) b)) 170 j = t 170 j from if_neg (by omega)]
    exact w
theorem MG_rf : MGx t t := fun _ _ _ _ q => q
theorem MG_tr {t3 : tab} (h : MGx t t2) (k : MGx t2 t3) : MGx t t3 := fun j q1 q2 v w => k j q1 q2 v (h j q1 q2 v w)
theorem RE_used (h : REx T n e N g s t) (b : Int) (hb : ∀ v : Nat, mbt b v → bnd s v) : REx T n e N g (up2 s 131 7 (lo (s 131 7) b)) (up2 t 170 23 (lo (t 170 23) b)) ∧ FEc s (up2 s 131 7 (lo (s 131 7) b)) ∧ FEr t (up2 t 170 23 (lo (t 170 23) b)) := by
  refine RE_mask h (fun k j a => if_neg (by omega)) (fun k j a => if_neg (by omega)) ⟨rfl, rfl, h.2.2.2.1.2.2.2.2.2.2⟩ ⟨⟨h.2.2.2.2.1.1.1, fun v q => q.elim (fun w => h.2.2.2.2.1.1.2.1 v (.inl w)) (fun w => (mbt_lo.mp (show mbt (lo (t 170 23) b) v from w)).elim (fun w => h.2.2.2.2.1.1.2.1 v (.inr w)) (hb v)), h.2.2.2.2.1.1.2.2⟩, h.2.2.2.2.1.2⟩ ?_
  obtain ⟨m1, m2, m3⟩ := h.2.2.1
  refine ⟨?_, ?_, ?_⟩
  · show lo (s 131 7) b = lo g.1 (lo (lo (t 170 23) b) (t 170 22))
    rw [m1]
    simp only [lo_assoc, lo_comm, lo_lc]
  · exact m2
  · exact m3
theorem PN_used (b : Int) : PWx s t (up2 s 131 7 (lo (s 131 7) b)) (up2 t 170 23 (lo (t 170 23) b)) := PN_mk (fun k j a => if_neg (by omega)) (fun k j a => if_neg (by omega)) MG_up
/-- code is written -/
def CWx (t t2 : tab) (d : Nat) : Prop := t2 177 1 = t 177 1 + (d : Int) ∧ ∀ k j, ¬ (k = 177 ∧ (j = 1 ∨ j = 3)) → ¬ (k = 178 ∧ (t 177 1).toNat ≤ j) → t2 k j = t k j
theorem CW_tr {t3 : tab} {d1 d2 : Nat} (h0 : 0 ≤ t 177 1) (h : CWx t t2 d1) (k : CWx t2 t3 d2) : CWx t t3 (d1 + d2) := by
  have e1 := h.1
  have e2 := k.1
  exact ⟨by omega, fun k2 j q1 q2 => (k.2 k2 j q1 (by omega)).trans (h.2 k2 j q1 q2)⟩
theorem pt1_cw (v : Int) (h : 0 ≤ t 177 1 ∧ t 177 1 ≤ 100010) : CWx t (pt1 t v) 1 ∧ (pt1 t v) 178 (t 177 1).toNat = v := by
  unfold pt1
  rw [ipl_e (by omega)]
  exact ⟨⟨up_self, fun k j q1 q2 => (if_neg (by omega)).trans (if_neg (by omega))⟩, (if_neg (by omega)).trans up_self⟩
theorem prt_cw (h : 0 ≤ t 177 1 ∧ t 177 1 ≤ 100010) : CWx t (prt t) 1 ∧ (prt t) 178 (t 177 1).toNat = 0 := by
  obtain ⟨a, b⟩ := pt1_cw 0 h
  unfold prt
  exact ⟨⟨(if_neg (by omega)).trans a.1, fun k j q1 q2 => (if_neg (by omega)).trans (a.2 k j q1 q2)⟩, (if_neg (by omega)).trans b⟩
theorem pt2_cw (a b : Int) (h : 0 ≤ t 177 1 ∧ t 177 1 ≤ 100005) : CWx t (pt2 t a b) 2 ∧ (pt2 t a b) 178 (t 177 1).toNat = a ∧ (pt2 t a b) 178 ((t 177 1).toNat + 1) = b := by
  obtain ⟨a1, a2⟩ := pt1_cw a (show 0 ≤ t 177 1 ∧ t 177 1 ≤ 100010 by omega)
  obtain ⟨b1, b2⟩ := pt1_cw (t := pt1 t a) b (by have := a1.1; omega)
  unfold pt2
  have e := a1.1
  refine ⟨CW_tr h.1 a1 b1, (b1.2 _ _ (by omega) (by omega)).trans a2, ?_⟩
  rw [show (t 177 1).toNat + 1 = ((pt1 t a) 177 1).toNat by omega]
  exact b2
theorem pt3_cw (a b : Int) (h : 0 ≤ t 177 1 ∧ t 177 1 ≤ 100000) : CWx t (pt2 (prt t) a b) 3 ∧ (pt2 (prt t) a b) 178 (t 177 1).toNat = 0 ∧ (pt2 (prt t) a b) 178 ((t 177 1).toNat + 1) = a ∧ (pt2 (prt t) a b) 178 ((t 177 1).toNat + 2) = b := by
  obtain ⟨a1, a2⟩ := prt_cw (show 0 ≤ t 177 1 ∧ t 177 1 ≤ 100010 by omega)
  have e := a1.1
  obtain ⟨b1, b2, b3⟩ := pt2_cw (t := prt t) a b (by omega)
  refine ⟨CW_tr h.1 a1 b1, (b1.2 _ _ (by omega) (by omega)).trans a2, ?_, ?_⟩
  · rw [show (t 177 1).toNat + 1 = ((prt t) 177 1).toNat by omega]
    exact b2
  · rw [show (t 177 1).toNat + 2 = ((prt t) 177 1).toNat + 1 by omega]
    exact b3
theorem CW_k {d : Nat} (h : CWx t t2 d) {k j : Nat} (q : k ≠ 177 ∧ k ≠ 178) : t2 k j = t k j := h.2 k j (by omega) (by omega)
theorem CW_PF {d : Nat} (h0 : 0 ≤ t 177 1) (h : CWx t t2 d) : PFx s t s t2 := by
  have e := h.1
  exact ⟨⟨Int.le_refl _, fun _ _ _ _ _ => rfl⟩, ⟨by omega, fun j q => h.2 178 j (by omega) (by omega)⟩, by rw [h.2 177 10 (by omega) (by omega)]; exact Int.le_refl _, fun j q1 q2 v w => by rw [CW_k h (by omega)]; exact w, fun q => by rw [CW_k h (by omega)] at q; exact q, fun _ => rfl⟩
theorem RE_cw {d : Nat} (h : REx T n e N g s t) (hc : CWx t t2 d) (hb : t2 177 1 ≤ 12 * s 137 5) : REx T n e N g s t2 ∧ FEr t t2 ∧ PFx s t s t2 ∧ t2 177 10 = t 177 10 := by
  have fr : FEr t t2 := fun k j q => hc.2 k j (by omega) (by omega)
  have e1 := hc.1
  have e10 := hc.2 177 10 (by omega) (by omega)
  obtain ⟨w1, w2, w3, w4, w5, w6, w7⟩ := h.2.2.2.1
  refine ⟨RE_fr h FEc_rf fr rfl (fun j q1 q2 => CW_k hc (by omega)) ⟨w1, w2, by omega, hb, by omega, by omega, w7⟩ ⟨rfl, rfl⟩ (MK_e h.2.2.2.2.1 (fun j q1 q2 => CW_k hc (by omega)) (CW_k hc (by omega))) ?_, fr, CW_PF w3 hc, e10⟩
  · have m := h.2.2.1
    unfold RMk at m ⊢
    rw [CW_k (j := 22) hc (by omega), CW_k (j := 23) hc (by omega), CW_k (j := 24) hc (by omega), CW_k (j := 25) hc (by omega), CW_k (j := 26) hc (by omega)]
    exact m
/-- tokens are the same -/
theorem RL_fr (h : RLx T n e s t) (h5 : s2 137 5 = s 137 5) (cc : ∀ k j, (k = 139 ∨ k = 140 ∨ k = 141) → s2 k j = s k j) (fr : ∀ k j, k = 170 ∧ 2 ≤ j ∧ j ≤ 7 ∨ k = 171 → t2 k j = t k j) : RLx T n e s2 t2 := by
  obtain ⟨⟨b1, b2, b3, b4, b5⟩, l2, l3, l4, l5⟩ := h
  refine ⟨⟨b1, b2, b3, b4, fun j hj => ?_⟩, ⟨(fr 170 2 (by omega)).trans l2.1, l2.2.1, fun j hj => ?_⟩, by rw [h5]; exact l3, by rw [h5]; exact l4, ?_⟩
  · rw [cc 139 j (by omega), cc 140 j (by omega), cc 141 j (by omega)]
    exact b5 j hj
  · rw [fr 171 j (by omega)]
    exact l2.2.2 j hj
  · rw [h5]
    obtain ⟨q1, q2, q3, q4, q5⟩ := l5
    exact ⟨(fr 170 5 (by omega)).trans q1, (fr 170 3 (by omega)).trans q2, (fr 170 6 (by omega)).trans q3, (fr 170 4 (by omega)).trans q4, fun w => (fr 170 7 (by omega)).trans (q5 w)⟩
/-- code is written, then a step -/
theorem RE_wst {t1 : tab} {d : Nat} (h : REx T n e N g s t) (hc : CWx t t1 d) (hd : d ≤ 12) (h3 : kkd s ≠ 3) (h4 : kkd s ≠ 4) : ∃ t2, rG 4 [] t1 = some (some (0, t2)) ∧ REx T n e N g (stp s) t2 ∧ FEc s (stp s) ∧ FEr t t2 ∧ (stp s) 137 5 = s 137 5 + 1 ∧ PFx s t (stp s) t2 ∧ (stp s) 99 12 = s 99 12 ∧ t2 177 1 = t 177 1 + (d : Int) ∧ t2 177 10 = t 177 10 ∧ ∀ i, t2 178 i = t1 178 i := by
  obtain ⟨t2, a1, a2, a3, a4⟩ := RL_step (RL_fr (s2 := s) h.1 rfl (fun _ _ _ => rfl) (fun k j q => CW_k hc (by omega))) h3 h4
  have fc := FEc_stp h.1 h3 h4
  have o : ∀ k j, ¬ lexs k j → ¬ (k = 177 ∧ (j = 1 ∨ j = 3)) → ¬ (k = 178 ∧ (t 177 1).toNat ≤ j) → t2 k j = t k j := fun k j q1 q2 q3 => (a4 k j q1).trans (hc.2 k j q2 q3)
  have fr : FEr t t2 := fun k j q => o k j (by unfold lexs; omega) (by omega) (by omega)
  have es := stp_e h.1 h3 h4
  have c12 : (stp s) 99 12 = s 99 12 := by rw [es]; exact if_neg (by omega)
  have c6 : ∀ j, (stp s) 131 j = s 131 j := fun j => by rw [es]; exact if_neg (by omega)
  have e1 : t2 177 1 = t 177 1 + (d : Int) := (a4 177 1 (by unfold lexs; omega)).trans hc.1
  have e10 : t2 177 10 = t 177 10 := o 177 10 (by unfold lexs; omega) (by omega) (by omega)
  have mm : ∀ j, 21 ≤ j → j ≤ 26 → t2 170 j = t 170 j := fun j q1 q2 => o 170 j (by unfold lexs; omega) (by omega) (by omega)
  obtain ⟨w1, w2, w3, w4, w5, w6, w7⟩ := h.2.2.2.1
  refine ⟨t2, a1, ⟨a2, RSt_fr h.2.1 fc fr, ?_, IV_fr h.2.2.2 fc fr ⟨by omega, by rw [c6]; omega, by omega, by omega, by omega, by omega, by omega⟩ ⟨rfl, rfl⟩ (MK_e h.2.2.2.2.1 (fun j q1 q2 => mm j (by omega) (by omega)) (o 170 37 (by unfold lexs; omega) (by omega) (by omega)))⟩, fc, fr, a3, ⟨⟨by omega, fun k j q1 q2 q3 => by rw [es]; exact if_neg (by omega)⟩, ⟨by omega, fun j q => o 178 j (by unfold lexs; omega) (by omega) (by omega)⟩, by omega, fun j q1 q2 v w => by rw [mm j (by omega) (by omega)]; exact w, fun q => by rw [mm 21 (by omega) (by omega)] at q; exact q, fun r => by rw [es]; exact if_neg (by omega)⟩, c12, e1, e10, fun i => a4 178 i (by unfold lexs; omega)⟩
  · obtain ⟨m1, m2, m3⟩ := h.2.2.1
    unfold RMk
    rw [c6, c6, c6, mm 22 (by omega) (by omega), mm 23 (by omega) (by omega), mm 24 (by omega) (by omega), mm 25 (by omega) (by omega), mm 26 (by omega) (by omega)]
    exact ⟨m1, m2, m3⟩
/-- a part is linked -/
theorem RE_lnk {y z : Int} (h : REx T n e N g s t) (hs2 : s2 = lnk s y z) : REx T n e N g s2 t ∧ FEc s s2 ∧ ∀ k j : Nat, ¬ (k = 104 ∧ (j : Int) = y) → s2 k j = s k j := by
  have o : ∀ k j : Nat, ¬ (k = 104 ∧ (j : Int) = y) → s2 k j = s k j := fun k j q => by
    rw [hs2]
    unfold lnk
    split
    · exact if_neg (by omega)
    · rfl
  have fc : FEc s s2 := ⟨fun k j q1 q2 q3 => o k j (by omega), o 131 6 (by omega), fun j _ => o 132 j (by omega), by rw [o 137 5 (by omega)]; exact Int.le_refl _⟩
  refine ⟨RE_fr h fc FEr_rf (o 137 5 (by omega)) (fun _ _ _ => rfl) ?_ ⟨rfl, rfl⟩ h.2.2.2.2.1 ?_, fc, o⟩
  · rw [o 99 12 (by omega), o 131 6 (by omega), o 137 5 (by omega)]
    exact h.2.2.2.1
  · have m := h.2.2.1
    unfold RMk at m ⊢
    rw [o 131 7 (by omega), o 131 8 (by omega), o 131 9 (by omega)]
    exact m
/-- a part is added -/
theorem RE_cad {k a b c : Int} (h : REx T n e N g s t) (h6 : 0 ≤ s 131 6) (hs2 : s2 = cad s k a b c) (hb : s 99 12 + 1 + s 131 6 ≤ s 137 5) : cadz s = s 99 12 ∧ s2 99 12 = s 99 12 + 1 ∧ (s2 100 (s 99 12).toNat = k ∧ s2 101 (s 99 12).toNat = a ∧ s2 102 (s 99 12).toNat = b ∧ s2 103 (s 99 12).toNat = c ∧ s2 104 (s 99 12).toNat = -1) ∧ (∀ k2 j, ¬ (100 ≤ k2 ∧ k2 ≤ 104 ∧ j = (s 99 12).toNat) → ¬ (k2 = 99 ∧ j = 12) → s2 k2 j = s k2 j) ∧ REx T n e N g s2 t ∧ FEc s s2 ∧ PFx s t s2 t := by
  obtain ⟨w1, w2, w3, w4, w5, w6, w7⟩ := h.2.2.2.1
  have hin := RL_in h.1
  obtain ⟨d1, d2, d3, d8⟩ := cad_all (s := s) (k := k) (a := a) (b := b) (c := c) w1 (by omega)
  rw [← hs2] at d2 d3 d8
  have e5 := d8 137 5 (by omega) (by omega)
  have e6 := d8 131 6 (by omega) (by omega)
  have fc : FEc s s2 := ⟨fun k2 j a b c => d8 k2 j (by omega) (by omega), e6, fun j _ => d8 132 j (by omega) (by omega), by rw [e5]; exact Int.le_refl _⟩
  refine ⟨d1, d2, d3, d8, RE_fr h fc FEr_rf e5 (fun _ _ _ => rfl) ⟨by omega, by omega, w3, by omega, w5, by omega, by omega⟩ ⟨rfl, rfl⟩ h.2.2.2.2.1 ?_, fc, ⟨⟨by omega, fun k j q1 q2 q3 => d8 k j (by omega) (by omega)⟩, ⟨Int.le_refl _, fun _ _ => rfl⟩, Int.le_refl _, MG_rf, fun q => q, fun r => d8 113 r (by omega) (by omega)⟩⟩
  have m := h.2.2.1
  unfold RMk at m ⊢
  rw [d8 131 7 (by omega) (by omega), d8 131 8 (by omega) (by omega), d8 131 9 (by omega) (by omega)]
  exact m
/-- a new part is in reach -/
theorem cx_new {k : Nat} (h1 : ((g.2.2.2.2.1 + g.2.2.2.2.2 : Nat) : Int) ≤ s 99 12) (h2 : 0 ≤ s 99 12) (h3 : s 99 12 < s2 99 12) (e : k = (s 99 12).toNat) : (cxt g s2 t2).1 k := .inl ⟨by omega, by omega⟩
/-- parts and code beside it -/
def EMr (s t s2 t2 : tab) : Prop := s2 104 (s2 99 12 - 1).toNat = -1 ∧ PFx s t s2 t2 ∧ s2 99 12 + s 137 5 ≤ s 99 12 + s2 137 5 ∧ t2 177 1 + 12 * s 137 5 ≤ t 177 1 + 12 * s2 137 5 ∧ t2 177 10 = t 177 10
/-- parts and code of an E -/
def EMx (g : Gtt) (s t s2 t2 : tab) : Prop := CO s2 t2 g.2.2.2.1 0 0 (s 99 12).toNat (s2 99 12).toNat (s2 99 12 - 1) (t 177 1).toNat (t2 177 1).toNat 0 0 0 (cxt g s2 t2) ∧ EMr s t s2 t2
/-- how the reading of an E ends -/
def OEx (T : Nat → Int) (n e N : Nat) (g : Gtt) (s t : tab) (X : RO) (v : Option (Int × tab)) : Prop := ∃ z t2, v = some (z, t2) ∧ ((z = 1 ∧ ∃ s2, X = some (some (s2 99 12 - 1, s2)) ∧ REx T n e N g s2 t2 ∧ FEc s s2 ∧ FEr t t2 ∧ s 137 5 < s2 137 5 ∧ EMx g s t s2 t2) ∨ (z = 0 ∧ X = some none))
theorem OE_no {X : RO} {t9 : tab} (h : X = some none) : OEx T n e N g s t X (some (0, t9)) := ⟨0, t9, rfl, .inr ⟨rfl, h⟩⟩
theorem EM_pre {s0 t0 : tab} (h : EMx g s t s2 t2) (hp : PWx s0 t0 s t) (h5 : s0 137 5 ≤ s 137 5) : EMx g s0 t0 s2 t2 := by
  obtain ⟨p1, p2, p3, p4⟩ := hp
  obtain ⟨h1, h2, h3, h4, h5, h6⟩ := h
  rw [p2, p3] at h1
  exact ⟨h1, h2, PF_tr p1 h3, by omega, by omega, h6.trans p4⟩
/-- what went before -/
theorem OE_pre {s0 t0 : tab} {X : RO} {v : Option (Int × tab)} (h : OEx T n e N g s t X v) (hc : FEc s0 s) (hr : FEr t0 t) (hp : PWx s0 t0 s t) : OEx T n e N g s0 t0 X v := by
  obtain ⟨z, t2, e1, h⟩ := h
  refine ⟨z, t2, e1, ?_⟩
  rcases h with ⟨h1, s2, h2, h3, h4, h5, h6, h7⟩ | h
  · exact .inl ⟨h1, s2, h2, h3, FEc_tr hc h4, FEr_tr hr h5, Int.lt_of_le_of_lt hc.2.2.2 h6, EM_pre h7 hp hc.2.2.2⟩
  · exact .inr h
def PUx (rc : MRq) : Prop := ∀ (T : Nat → Int) (n e N : Nat) (g : Gtt) (s t : tab) (x : Int) (v : Option (Int × tab)), REx T n e N g s t → 0 ≤ x → x ≤ 20 → 0 ≤ s 131 6 → s 131 6 ≤ 10 * x + 10 → rc 23 [x] t = some v → OEx T n e N g s t (cG 41 [x] s) v
def PAx (rc : MRq) : Prop := ∀ (T : Nat → Int) (n e N : Nat) (g : Gtt) (s t : tab) (x : Int) (v : Option (Int × tab)), REx T n e N g s t → 0 ≤ x → x ≤ 20 → 0 ≤ s 131 6 → s 131 6 ≤ 10 * x + 10 → kkd s ≠ 33 → kkd s ≠ 45 → kkd s ≠ 126 → rc 24 [x] t = some v → OEx T n e N g s t (cG 41 [x] s) v
/-- an E of level L on, its last signs wait from h on: parts from a, code from f -/
def XEx (g : Gtt) (s t s2 t2 : tab) (L : Int) (h nn a : Nat) (w : Int) (f : Nat) : Prop := s2 131 6 = ((h + nn : Nat) : Int) ∧ (∀ j : Nat, h ≤ j → j < h + nn → L < lvl (s2 132 j)) ∧ VEx s2 t2 g.2.2.2.1 (cxt g s2 t2) nn h a w f (t2 177 1).toNat ∧ s2 104 (s2 99 12 - 1).toNat = -1 ∧ PFx s t s2 t2 ∧ s2 99 12 + s2 131 6 + s 137 5 ≤ s 99 12 + s 131 6 + s2 137 5 ∧ t2 177 1 + 12 * s 137 5 ≤ t 177 1 + 12 * s2 137 5 ∧ t2 177 10 = t 177 10
def OXx (T : Nat → Int) (n e N : Nat) (g : Gtt) (s t : tab) (L x b i : Int) (v : Option (Int × tab)) : Prop := ∃ z t2, v = some (z, t2) ∧ ((z = 1 ∧ ∃ s2 i2 w nn, Kst x b i s = cG 66 [x, b, w, lvl (kkd s2), i2] s2 ∧ REx T n e N g s2 t2 ∧ SIx b s2 ∧ FKc (s 131 6) s s2 ∧ FEr t t2 ∧ s 137 5 < s2 137 5 ∧ 0 ≤ i2 ∧ i2 ≤ s2 137 5 ∧ lvl (kkd s2) ≤ L ∧ XEx g s t s2 t2 L (s 131 6).toNat nn (s 99 12).toNat w (t 177 1).toNat) ∨ (z = 0 ∧ Kst x b i s = some none))
def OLx (T : Nat → Int) (n e N : Nat) (g : Gtt) (s t : tab) (L x b w i : Int) (h a f : Nat) (v : Option (Int × tab)) : Prop := ∃ z t2, v = some (z, t2) ∧ ((z = 1 ∧ ∃ s2 i2 w2 nn, cG 66 [x, b, w, lvl (kkd s), i] s = cG 66 [x, b, w2, lvl (kkd s2), i2] s2 ∧ REx T n e N g s2 t2 ∧ SIx b s2 ∧ FKc (h : Int) s s2 ∧ FEr t t2 ∧ s 137 5 ≤ s2 137 5 ∧ 0 ≤ i2 ∧ i2 ≤ s2 137 5 ∧ lvl (kkd s2) ≤ L ∧ XEx g s t s2 t2 L h nn a w2 f) ∨ (z = 0 ∧ cG 66 [x, b, w, lvl (kkd s), i] s = some none))
def PXx (rc : MRq) : Prop := ∀ (T : Nat → Int) (n e N : Nat) (g : Gtt) (s t : tab) (L x b i : Int) (v : Option (Int × tab)), REx T n e N g s t → 0 ≤ x → x ≤ 20 → 0 ≤ L → L ≤ 10 → 0 ≤ b → b ≤ 10 * x → SIx b s → (∀ j : Nat, b ≤ (j : Int) → (j : Int) < s 131 6 → lvl (s 132 j) ≤ L) → 0 ≤ i → i ≤ s 137 5 → rc 22 [L, x] t = some v → OXx T n e N g s t L x b i v
def PLx (rc : MRq) : Prop := ∀ (T : Nat → Int) (n e N : Nat) (g : Gtt) (s t : tab) (L x b w i : Int) (h m a f : Nat) (v : Option (Int × tab)), REx T n e N g s t → 0 ≤ x → x ≤ 20 → 0 ≤ L → L ≤ 9 → 0 ≤ b → b ≤ 10 * x → b ≤ (h : Int) → SIx b s → (∀ j : Nat, b ≤ (j : Int) → j < h → lvl (s 132 j) ≤ L) → XEx g s t s t L h m a w f → 0 ≤ i → i ≤ s 137 5 → lvl (kkd s) ≤ L + 1 → rc 52 [L, x] t = some v → OLx T n e N g s t L x b w i h a f v
theorem FKc_rf {b : Int} : FKc b s s := ⟨fun _ _ _ _ _ => rfl, fun _ _ => ⟨rfl, rfl⟩, Int.le_refl _⟩
/-- the same, seen from before -/
theorem XE_pre {s0 t0 : tab} {L w : Int} {h nn a f : Nat} (k : XEx g s t s2 t2 L h nn a w f) (hp : PFx s0 t0 s t) (h1 : s 99 12 + s 131 6 + s0 137 5 ≤ s0 99 12 + s0 131 6 + s 137 5) (h2 : t 177 1 + 12 * s0 137 5 ≤ t0 177 1 + 12 * s 137 5) (h3 : t 177 10 = t0 177 10) : XEx g s0 t0 s2 t2 L h nn a w f := by
  obtain ⟨a1, a2, a3, a4, a5, a6, a7, a8⟩ := k
  exact ⟨a1, a2, a3, a4, PF_tr hp a5, by omega, by omega, a8.trans h3⟩
theorem XE_self {L w : Int} {h nn a f : Nat} (k : XEx g s t s2 t2 L h nn a w f) : XEx g s2 t2 s2 t2 L h nn a w f := by
  obtain ⟨a1, a2, a3, a4, a5, a6, a7, a8⟩ := k
  exact ⟨a1, a2, a3, a4, PF_rf, Int.le_refl _, Int.le_refl _, rfl⟩
theorem XE_lv {L L2 w : Int} {h nn a f : Nat} (k : XEx g s t s2 t2 L h nn a w f) (hl : L2 ≤ L) : XEx g s t s2 t2 L2 h nn a w f := by
  obtain ⟨a1, a2, a3⟩ := k
  exact ⟨a1, fun j q1 q2 => Int.lt_of_le_of_lt hl (a2 j q1 q2), a3⟩
/-- expression(level, ..) -/
theorem p_X (hU : PUx rc) (hX : PXx rc) (hL : PLx rc) : ∀ (T : Nat → Int) (n e N : Nat) (g : Gtt) (s t : tab) (L x b i : Int) (v : Option (Int × tab)), REx T n e N g s t → 0 ≤ x → x ≤ 20 → 0 ≤ L → L ≤ 10 → 0 ≤ b → b ≤ 10 * x → SIx b s → (∀ j : Nat, b ≤ (j : Int) → (j : Int) < s 131 6 → lvl (s 132 j) ≤ L) → 0 ≤ i → i ≤ s 137 5 → rM144 rc L x t = some v → OXx T n e N g s t L x b i v := by
  intro T n e N g s t L x b i v hR x0 x1 L0 L1 b0 b1 hs hlo i0 i1 h
  have hpd := SI_le b0 hs
  have hb6 := hs.1
  unfold rM144 at h
  by_cases hl : L ≤ 9
  · rw [if_pos hl] at h
    rw [ipl_e (by omega)] at h
    have hlo1 : ∀ j : Nat, b ≤ (j : Int) → (j : Int) < s 131 6 → lvl (s 132 j) ≤ L + 1 := fun j q1 q2 => by have := hlo j q1 q2; omega
    rcases bo_inv h with ⟨h9, _⟩ | ⟨z3, t3, h9, h⟩
    · obtain ⟨z, t2, e1, _⟩ := hX T n e N g s t (L + 1) x b i _ hR x0 x1 (by omega) (by omega) b0 b1 hs hlo1 i0 i1 h9
      cases e1
    · obtain ⟨z, t2, e1, e2⟩ := hX T n e N g s t (L + 1) x b i _ hR x0 x1 (by omega) (by omega) b0 b1 hs hlo1 i0 i1 h9
      cases e1
      rcases e2 with ⟨rfl, s3, i3, w3, nn, f1, f2, f3, f4, f5, f6, f7, f8, f9, f10⟩ | ⟨rfl, f1⟩
      · rw [if_pos (by decide)] at h
        obtain ⟨z, t4, e1, e2⟩ := hL T n e N g s3 t3 L x b w3 i3 (s 131 6).toNat nn (s 99 12).toNat (t 177 1).toNat _ f2 x0 x1 L0 hl b0 b1 (by omega) f3 (fun j q1 q2 => by rw [(f4.2.1 j (by omega)).1]; exact hlo j q1 (by omega)) (XE_self (XE_lv f10 (by omega))) f7 f8 f9 h
        refine ⟨z, t4, e1, ?_⟩
        have p := f10.2.2.2.2
        rcases e2 with ⟨rfl, s4, i4, w4, n4, k1, k2, k3, k4, k5, k6, k7, k8, k9, k10⟩ | ⟨rfl, k1⟩
        · exact .inl ⟨rfl, s4, i4, w4, n4, f1.trans k1, k2, k3, FKc_tr f4 (FKc_le k4 (by omega)), FEr_tr f5 k5, by omega, k7, k8, k9, XE_pre k10 p.1 p.2.1 p.2.2.1 p.2.2.2⟩
        · exact .inr ⟨rfl, f1.trans k1⟩
      · rw [if_neg (by decide)] at h
        cases h
        exact ⟨0, t3, rfl, .inr ⟨rfl, f1⟩⟩
  · rw [if_neg hl] at h
    rcases bo_inv h with ⟨h9, _⟩ | ⟨z3, t3, h9, h⟩
    · obtain ⟨z, t2, e1, _⟩ := hU T n e N g s t x _ hR x0 x1 (by omega) (by omega) h9
      cases e1
    · obtain ⟨z, t2, e1, e2⟩ := hU T n e N g s t x _ hR x0 x1 (by omega) (by omega) h9
      cases e1
      cases h
      refine ⟨z3, t3, rfl, ?_⟩
      rcases e2 with ⟨rfl, s3, f1, f2, f3, f4, f5, f6⟩ | ⟨rfl, f1⟩
      · obtain ⟨m1, m2, m3, m4, m5, m6⟩ := f6
        have c6 := f3.2.1
        refine .inl ⟨rfl, s3, i, s3 99 12 - 1, 0, ?_, f2, SI_E hs f3, FKc_E f3 (Int.le_refl _), f4, f5, i0, by omega, by have := (lvl_rng (kkd s3)).2; omega, by omega, fun j q1 q2 => by omega, m1, m2, m3, by omega, m5, m6⟩
        unfold Kst
        rw [f1, bo_s]
      · refine .inr ⟨rfl, ?_⟩
        unfold Kst
        rw [f1, bo_n]
/-- its loop -/
theorem p_L (hrc : rle rc rG) (hX : PXx rc) (hL : PLx rc) : ∀ (T : Nat → Int) (n e N : Nat) (g : Gtt) (s t : tab) (L x b w i : Int) (h m a f : Nat) (v : Option (Int × tab)), REx T n e N g s t → 0 ≤ x → x ≤ 20 → 0 ≤ L → L ≤ 9 → 0 ≤ b → b ≤ 10 * x → b ≤ (h : Int) → SIx b s → (∀ j : Nat, b ≤ (j : Int) → j < h → lvl (s 132 j) ≤ L) → XEx g s t s t L h m a w f → 0 ≤ i → i ≤ s 137 5 → lvl (kkd s) ≤ L + 1 → rM144_25 rc L x t = some v → OLx T n e N g s t L x b w i h a f v := by
  intro T n e N g s t L x b w i h m a f v hR x0 x1 L0 L1 b0 b1 hbh hs hlo hxe i0 i1 hlv hr
  unfold rM144_25 at hr
  have hr := bxr hrc (RL_lev hR.1) hr
  try dsimp only at hr
  by_cases hl : lvl (kkd s) - 1 ≠ L
  · rw [if_pos hl] at hr
    cases hr
    exact ⟨1, t, rfl, .inl ⟨rfl, s, i, w, m, rfl, hR, hs, FKc_rf, FEr_rf, Int.le_refl _, i0, i1, by omega, hxe⟩⟩
  · rw [if_neg hl] at hr
    obtain ⟨y1, y2, y3, y4, y5⟩ := hxe
    obtain ⟨s3, t3, a1, a2, a3, a4, a5, a6, a7, a8, a9, a10, a11, a12, a13, a14, a15⟩ := c_round (x := x) hR ⟨b0, by omega⟩ hbh hs (by omega) i1 y1.symm (fun j q1 q2 => by have := hlo j q1 q2; omega) (fun j q1 q2 => by have := y2 j q1 q2; omega) y3 y4
    have hr := bxr hrc a2 hr
    try dsimp only at hr
    rw [ipl_e (by omega)] at hr
    have hlo3 : ∀ j : Nat, b ≤ (j : Int) → (j : Int) < s3 131 6 → lvl (s3 132 j) ≤ L + 1 := fun j q1 q2 => by
      by_cases e : j = h
      · rw [e, a9]
        omega
      · rw [a10 j (by omega)]
        have := hlo j q1 (by omega)
        omega
    rcases bo_inv hr with ⟨h9, _⟩ | ⟨z6, t6, h9, hr⟩
    · obtain ⟨z, t2, e1, _⟩ := hX T n e N g s3 t3 (L + 1) x b (i + 1) _ a3 x0 x1 (by omega) (by omega) b0 b1 a4 hlo3 (by omega) (by omega) h9
      cases e1
    · obtain ⟨z, t2, e1, e2⟩ := hX T n e N g s3 t3 (L + 1) x b (i + 1) _ a3 x0 x1 (by omega) (by omega) b0 b1 a4 hlo3 (by omega) (by omega) h9
      cases e1
      rcases e2 with ⟨rfl, s4, i4, w4, n4, f1, f2, f3, f4, f5, f6, f7, f8, f9, g1, g2, g3, g4, g5, g6, g7, g8⟩ | ⟨rfl, f1⟩
      · rw [if_pos (by decide)] at hr
        obtain ⟨v1, v2, v3, v4, v5, v6, v7⟩ := hR.2.2.2.1
        obtain ⟨u1, u2, u3, u4, u5, u6, u7⟩ := f2.2.2.2.1
        have hin := RL_in f2.1
        obtain ⟨t7, ht7⟩ : ∃ t7, t7 = pt2 (prt t6) 7 (sgo t) := ⟨_, rfl⟩
        obtain ⟨c1, c2, c3, c4⟩ := pt3_cw (t := t6) 7 (sgo t) (by omega)
        rw [← ht7] at hr c1 c2 c3 c4
        have e7 := c1.1
        obtain ⟨r1, r2, r3, r4⟩ := RE_cw f2 c1 (by omega)
        have s4h := f4.2.1 h (by omega)
        have pf37 := PF_tr g5 r3
        have hth : (s3 131 6).toNat = h + 1 := by omega
        have hsb : SBx (cxt g s4 t6) (cxt g s4 t7) := cxt_sb (Int.le_refl _) r3.2.2.2.1
        have hco := CO_le a11
        have hxe7 : XEx g s t s4 t7 L h (n4 + 1) a w4 f := by
          refine ⟨by omega, fun j q1 q2 => ?_, ?_, g4, PF_tr a12 pf37, by omega, by omega, (r4.trans g8).trans a15⟩
          · by_cases e : j = h
            · rw [e, s4h.1, a9]
              omega
            · have := g2 j (by omega) (by omega)
              omega
          · refine ⟨(s3 99 12).toNat, (t3 177 1).toNat, (t6 177 1).toNat, ?_, ?_, c2, c3, ?_, by omega⟩
            · rw [s4h.2]
              exact EM_up a11 (by omega) (by omega) (fun q => absurd q (by omega)) pf37
            · rw [hth] at g3
              exact VE_ne rfl (fun _ _ _ _ _ => rfl) (fun _ => rfl) hsb cxt_au _ _ _ _ _ _ (fun _ _ _ => ⟨rfl, rfl⟩) (fun j q1 q2 => c1.2 178 j (by omega) (by omega)) g3
            · rw [c4, s4h.1, a9]
              exact sgo_e hR.1 (by omega)
        obtain ⟨z, t8, e1, e2⟩ := hL T n e N g s4 t7 L x b w4 i4 h (n4 + 1) a f _ r1 x0 x1 L0 L1 b0 b1 hbh f3 (fun j q1 q2 => by rw [(f4.2.1 j (by omega)).1, a10 j q2]; exact hlo j q1 q2) (XE_self hxe7) f7 f8 f9 hr
        refine ⟨z, t8, e1, ?_⟩
        rcases e2 with ⟨rfl, s5, i5, w5, n5, k1, k2, k3, k4, k5, k6, k7, k8, k9, k10⟩ | ⟨rfl, k1⟩
        · have p := hxe7.2.2.2.2
          exact .inl ⟨rfl, s5, i5, w5, n5, a1.trans (f1.trans k1), k2, k3, FKc_tr a5 (FKc_tr (FKc_le f4 (by omega)) k4), FEr_tr a6 (FEr_tr f5 (FEr_tr r2 k5)), by omega, k7, k8, k9, XE_pre k10 p.1 p.2.1 p.2.2.1 p.2.2.2⟩
        · exact .inr ⟨rfl, a1.trans (f1.trans k1)⟩
      · rw [if_neg (by decide)] at hr
        cases hr
        exact ⟨0, t6, rfl, .inr ⟨rfl, a1.trans f1⟩⟩
/-- a whole E -/
theorem p_Ex (hX : PXx rc) {x : Int} {v : Option (Int × tab)} (hR : REx T n e N g s t) (x0 : 0 ≤ x) (x1 : x ≤ 20) (b0 : 0 ≤ s 131 6) (b1 : s 131 6 ≤ 10 * x) (h : rc 22 [0, x] t = some v) : OEx T n e N g s t (cG 40 [x] s) v := by
  have hin := RL_in hR.1
  have hs : SIx (s 131 6) s := ⟨Int.le_refl _, fun j a b => absurd a (by omega)⟩
  obtain ⟨z, t2, e1, e2⟩ := hX T n e N g s t 0 x (s 131 6) 0 v hR x0 x1 (by omega) (by omega) b0 b1 hs (fun j a b => absurd a (by omega)) (by omega) (by omega) h
  have hc : cG 40 [x] s = Kst x (s 131 6) 0 s := by rw [cG_57]; rfl
  refine ⟨z, t2, e1, ?_⟩
  rw [hc]
  rcases e2 with ⟨rfl, s3, i3, w3, nn, f1, f2, f3, f4, f5, f6, f7, f8, f9, g1, g2, g3, g4, g5, g6, g7, g8⟩ | ⟨rfl, f1⟩
  · obtain ⟨s2, a1, a2, a3, a4, a5, a6, a7, a8⟩ := c_Eend (x := x) (i := i3) f2 b0 f3 f9 (by omega) g3 g4
    obtain ⟨u1, u2, u3, u4, u5, u6, u7⟩ := f2.2.2.2.1
    have c5 : s2 137 5 = s3 137 5 := a5 137 5 (by omega) (by omega) (by omega)
    refine .inl ⟨rfl, s2, f1.trans a1, PEq_RE f2 a5 ⟨by omega, by omega, by omega⟩, ⟨fun k j q1 q2 q3 => ?_, a3, fun j hj => ((a6 j).1).trans (f4.2.1 j hj).1, by omega⟩, f5, by omega, a2, a8, PF_tr g5 a7, by omega, by omega, g8⟩
    by_cases e : k = 133
    · rw [e]
      exact ((a6 j).2).trans (f4.2.1 j (by omega)).2
    · exact (a5 k j (by omega) q3 (by omega)).trans (f4.1 k j (by omega) q2 q3)
  · exact .inr ⟨rfl, f1⟩
/-- a sign before an E, in ours -/
theorem c_sign {x : Int} (hk : kkd s = 33 ∨ kkd s = 45 ∨ kkd s = 126) : cG 41 [x] s = if 20 ≤ x then some none else bo (cG 41 [x + 1] (stp s)) fun z s1 => some (some (cadz s1, cad s1 402 (kkd s) z (-1))) := by
  rw [cG_58]
  conv => lhs; unfold cM58
  rcases hk with hk | hk | hk
  · rw [if_neg (by omega), if_pos hk]
  · rw [if_neg (by omega), if_neg (by omega), if_neg (by omega), if_pos hk]
  · rw [if_neg (by omega), if_neg (by omega), if_neg (by omega), if_neg (by omega), if_pos hk]
theorem ch_e (h : RLx T n e s t) (hv : kkd s = 33 ∨ kkd s = 45 ∨ kkd s = 126) : t 171 (t 170 5).toNat = kkd s := by
  have hk := RL_kk h
  obtain ⟨x1, x2, x3⟩ := h.2.1
  obtain ⟨k5, _, k6, _⟩ := h.2.2.2.2
  rw [hk] at hv ⊢
  obtain ⟨p, hp⟩ : ∃ p, p = pls T n (s 137 5).toNat := ⟨_, rfl⟩
  rw [← hp] at hv k5 k6 ⊢
  have hpn : p < n := by
    rcases Nat.lt_or_ge p n with a | a
    · exact a
    · rw [kd_end.mpr a] at hv; omega
  have hl0 : ¬ ltr (T p) = true := fun q => by
    rcases kd_ltr hpn q with a | a | ⟨i, a, b, _⟩ <;> omega
  have hd0 : ¬ dgt (T p) = true := fun q => by
    rcases kd_dgt hpn hl0 q with a | a <;> omega
  rw [k5]
  rcases kd_sgn hpn hl0 hd0 with ⟨a, b, c⟩ | ⟨a, b, c, d⟩ | ⟨a, b, c, _⟩
  · have r := sg2_r a
    omega
  · rw [Int.toNat_natCast, (x3 p hpn).1, c]
  · omega
theorem p_sign (hrc : rle rc rG) (hU : PUx rc) {x : Int} {v : Option (Int × tab)} (hR : REx T n e N g s t) (x0 : 0 ≤ x) (x1 : x ≤ 20) (b0 : 0 ≤ s 131 6) (b1 : s 131 6 ≤ 10 * x + 10) (hk : kkd s = 33 ∨ kkd s = 45 ∨ kkd s = 126) (h : (if x ≠ 20 then bo (rc 4 [] t) fun z8 t8 => bo (rc 23 [ipl x 1] t8) fun z10 t10 => if z10 ≠ 0 then some (some (1, pt2 (prt t10) 8 (t 171 ((t 170 5).toNat)))) else some (some (0, t10)) else some (some (0, t))) = some v) : OEx T n e N g s t (cG 41 [x] s) v := by
  rw [c_sign hk]
  by_cases hx : x ≠ 20
  · rw [if_pos hx] at h
    rw [if_neg (by omega)]
    obtain ⟨t2, a1, a2, a3, a4, a5⟩ := RE_step hR (by omega) (by omega)
    obtain ⟨p1, p2, p3, p4⟩ := PF_stp hR.1 (by omega) (by omega) a1
    have h := bxr hrc a1 h
    try dsimp only at h
    rw [ipl_e (by omega)] at h
    have b6 : (stp s) 131 6 = s 131 6 := a3.2.1
    rcases bo_inv h with ⟨h9, _⟩ | ⟨z6, t6, h9, h⟩
    · obtain ⟨z, t3, e1, _⟩ := hU T n e N g (stp s) t2 (x + 1) _ a2 (by omega) (by omega) (by omega) (by omega) h9
      cases e1
    · obtain ⟨z, t3, e1, e2⟩ := hU T n e N g (stp s) t2 (x + 1) _ a2 (by omega) (by omega) (by omega) (by omega) h9
      cases e1
      rcases e2 with ⟨rfl, s4, f1, f2, f3, f4, f5, m1, m2, m3, m4, m5, m6⟩ | ⟨rfl, f1⟩
      · rw [if_pos (by decide), ch_e hR.1 hk] at h
        obtain ⟨v1, v2, v3, v4, v5, v6, v7⟩ := hR.2.2.2.1
        obtain ⟨u1, u2, u3, u4, u5, u6, u7⟩ := f2.2.2.2.1
        have hin := RL_in f2.1
        have c6 := f3.2.1
        obtain ⟨t7, ht7⟩ : ∃ t7, t7 = pt2 (prt t6) 8 (kkd s) := ⟨_, rfl⟩
        obtain ⟨c1, c2, c3, c4⟩ := pt3_cw (t := t6) 8 (kkd s) (by omega)
        rw [← ht7] at h c1 c2 c3 c4
        have e7 := c1.1
        obtain ⟨r1, r2, r3, r4⟩ := RE_cw f2 c1 (by omega)
        obtain ⟨s7, hs7⟩ : ∃ s7, s7 = cad s4 402 (kkd s) (s4 99 12 - 1) (-1) := ⟨_, rfl⟩
        obtain ⟨d1, d2, ⟨d3, d4, d5, d6, d7⟩, d8, d9, d10, d11⟩ := RE_cad r1 (by omega) hs7 (by omega)
        have e5 := d8 137 5 (by omega) (by omega)
        cases h
        refine ⟨1, t7, rfl, .inl ⟨rfl, s7, ?_, d9, FEc_tr a3 (FEc_tr f3 d10), FEr_tr a4 (FEr_tr f4 r2), by omega, ?_, ?_, PF_tr p1 (PF_tr m3 (PF_tr r3 d11)), by omega, by omega, by omega⟩⟩
        · rw [f1, bo_s, d1, ← hs7, d2, show s4 99 12 + 1 - 1 = s4 99 12 by omega]
        · have hco := CO_le m1
          rw [p2, p3] at m1
          have k1 := EM_up m1 (by omega) (by omega) (fun q => absurd q (by omega)) (PF_tr r3 d11)
          rw [show s7 99 12 - 1 = s4 99 12 by omega]
          refine CO_mk (.inl ⟨rfl, by omega, by omega, by omega, cxt_au, cx_new u7 u1 (by omega) rfl, .inr (.inr (.inr (.inl ⟨d3, (t6 177 1).toNat, ?_, c2, c3, c4.trans d4.symm, by omega⟩)))⟩)
          rw [d5]
          exact k1
        · rw [show s7 99 12 - 1 = s4 99 12 by omega]
          exact d7
      · rw [if_neg (by decide)] at h
        cases h
        exact OE_no (by rw [f1, bo_n])
  · rw [if_neg hx] at h
    cases h
    exact OE_no (if_pos (by omega))
/-- unary(..) -/
theorem p_U (hrc : rle rc rG) (hU : PUx rc) (hA : PAx rc) : ∀ (T : Nat → Int) (n e N : Nat) (g : Gtt) (s t : tab) (x : Int) (v : Option (Int × tab)), REx T n e N g s t → 0 ≤ x → x ≤ 20 → 0 ≤ s 131 6 → s 131 6 ≤ 10 * x + 10 → rM145 rc x t = some v → OEx T n e N g s t (cG 41 [x] s) v := by
  intro T n e N g s t x v hR x0 x1 b0 b1 h
  unfold rM145 at h
  have h := bxr hrc (RL_is is_38 hR.1) h
  try dsimp only at h
  by_cases k1 : kkd s = 45
  · rw [if_pos k1, if_pos (by decide)] at h
    exact p_sign hrc hU hR x0 x1 b0 b1 (.inr (.inl k1)) h
  · rw [if_neg k1, if_neg (by decide)] at h
    have h := bxr hrc (RL_is is_40 hR.1) h
    try dsimp only at h
    by_cases k2 : kkd s = 126
    · rw [if_pos k2, if_pos (by decide)] at h
      exact p_sign hrc hU hR x0 x1 b0 b1 (.inr (.inr k2)) h
    · rw [if_neg k2, if_neg (by decide)] at h
      have h := bxr hrc (RL_is is_42 hR.1) h
      try dsimp only at h
      by_cases k3 : kkd s = 33
      · rw [if_pos k3, if_pos (by decide)] at h
        exact p_sign hrc hU hR x0 x1 b0 b1 (.inl k3) h
      · rw [if_neg k3, if_neg (by decide)] at h
        rcases bo_inv h with ⟨h9, _⟩ | ⟨z6, t6, h9, h⟩
        · obtain ⟨z, t3, e1, _⟩ := hA T n e N g s t x _ hR x0 x1 b0 b1 k3 k1 k2 h9
          cases e1
        · cases h
          exact hA T n e N g s t x _ hR x0 x1 b0 b1 k3 k1 k2 h9
end SIM
