/-! byName(..) of the reference. -/
section BYN
variable {T : Nat → Int} {n e N : Nat} {g : Int × Int × Int} {s t s2 t2 : tab} {rc : MRq}
/-- take(..), the last of a STATEMENT -/
theorem p_last (hrc : rle rc rG) {v : Option (Int × tab)} (hR : REx T n e N g s t) (h : (bo (rc 8 [30] t) fun z36 t36 => some (some (z36, t36))) = some v) : OEx T n e N g s t (bo (cG 29 [59] s) fun _ s4 => some (some (0, s4))) v := by
  rcases RE_take hR is_30 (by decide) with ⟨t7, c1, c2, c3, c4, c5, c6, c7⟩ | ⟨c1, c2, c3⟩
  · have h := bxr hrc c1 h
    cases h
    exact ⟨1, t7, rfl, .inl ⟨rfl, stp s, by rw [c3, bo_s], c4, c5, c6, by omega⟩⟩
  · have h := bxr hrc c1 h
    cases h
    exact OE_no (by rw [c3, bo_n])
/-- the ; first, then the mask: the same -/
theorem msk_last {f : tab → Int} (hR : REx T n e N g s t) (hf : ∀ s2, FEc s s2 → f s2 = f s) : (bo (cG 29 [59] s) fun _ s2 => some (some ((0 : Int), up2 s2 131 9 (lo (s2 131 9) (f s2))))) = bo (cG 29 [59] (up2 s 131 9 (lo (s 131 9) (f s)))) fun _ s4 => some (some (0, s4)) := by
  have kk : kkd (up2 s 131 9 (lo (s 131 9) (f s))) = kkd s := rfl
  rw [cG_43, cG_43]
  unfold cM43
  rw [kk]
  by_cases h : kkd s = 59
  · rw [if_neg (fun q => q h), if_neg (fun q => q h), bo_s, bo_s]
    have e1 := stp_e hR.1 (by omega) (by omega)
    have e2 : stp (up2 s 131 9 (lo (s 131 9) (f s))) = up2 (up2 s 131 9 (lo (s 131 9) (f s))) 137 5 (s 137 5 + 1) := by
      have hm := e1
      have hin := RL_in hR.1
      unfold stp
      rw [show (up2 s 131 9 (lo (s 131 9) (f s))) 137 5 = s 137 5 from if_neg (by omega), show (up2 s 131 9 (lo (s 131 9) (f s))) 139 (s 137 5).toNat = s 139 (s 137 5).toNat from if_neg (by omega)]
      have hk9 : kkd s = s 139 (s 137 5).toNat := by unfold kkd; rw [if_pos (by omega)]
      have hne : s 137 5 < 2000 := by
        have hk := RL_kk hR.1
        have he := hR.1.1.2.2.1
        have h1 := hR.1.1.1
        have h2 := hR.1.1.2.1
        have : (s 137 5).toNat ≠ e := fun q => by rw [q] at hk; omega
        omega
      rw [if_pos ⟨by omega, hne, by omega, by omega⟩]
    have hfs := hf (stp s) (FEc_stp hR.1 (by omega) (by omega))
    rw [hfs, e2, e1, show (up2 s 137 5 (s 137 5 + 1)) 131 9 = s 131 9 from if_neg (by omega), up_comm (by omega)]
  · rw [if_pos h, if_pos h]
    rfl
def PNx (rc : MRq) : Prop := ∀ (T : Nat → Int) (n e N : Nat) (g : Int × Int × Int) (s t : tab) (x : Int) (v : Option (Int × tab)), REx T n e N g s t → 1 ≤ x → x ≤ 20 → 0 ≤ s 131 6 → s 131 6 ≤ 10 * x → kkd s = 1 → rc 34 [x - 1] t = some v → OEx T n e N g s t (cG 49 [x] s) v
/-- what can stand behind a name that begins a STATEMENT -/
def canP (s t : tab) (k : Int) : Prop := (nkd s k = 0 ∧ kkd (stp s) = 61) ∨ (nkd s k = 1 ∧ kkd (stp s) = 91) ∨ (nkd s k = 5 ∧ kkd (stp s) = 40 ∧ t 170 37 = 0 ∧ nnm s k ≠ s 131 13) ∨ (t 170 37 = 0 ∧ (nkd s k = 2 ∨ nkd s k = 4) ∧ kkd (stp s) = 33) ∨ (t 170 37 = 0 ∧ (nkd s k = 2 ∨ nkd s k = 3) ∧ kkd (stp s) = 63)
def PNLx (rc : MRq) : Prop := ∀ (T : Nat → Int) (n e N : Nat) (g : Int × Int × Int) (s t : tab) (x k a c : Int) (v : Option (Int × tab)), REx T n e N g s t → 1 ≤ x → x ≤ 20 → 0 ≤ s 131 6 → s 131 6 ≤ 10 * x → kkd s = 1 → 0 ≤ k → k < (N : Int) → (c ≠ 0 → canP s t k) → (c = 0 → ¬ canP s t k) → rc 61 [x - 1, k, a, nkd s k, nnm s k, c] t = some v → OEx T n e N g s t (NXx x k s) v
/-- in a fun: what is its own -/
theorem own_in (hR : REx T n e N g s t) {k : Int} (h0 : 0 ≤ k) (h1 : k < (N : Int)) : (t 170 37 = 0 ∧ s 131 14 = 0) ∨ (t 170 37 = 1 ∧ (s 131 14 ≤ k → nkd s k = 0 ∧ t 170 36 ≤ nnm s k) ∧ (k < s 131 14 → nkd s k = 0 → nnm s k < t 170 36)) := by
  obtain ⟨_, _, _, _, _, _, _, e1, e2⟩ := RS_nm hR.2.1 h0 h1
  rcases hR.2.1.2.2.2.2 with h | ⟨h2, h3, h4⟩
  · exact .inl h
  · have := h4 k.toNat (by omega)
    rw [← e1, ← e2, show ((k.toNat : Nat) : Int) = k by omega] at this
    exact .inr ⟨h2, this⟩
/-- a target that is not the fun's own -/
theorem p_Tbad (hrc : rle rc rG) {k x : Int} {v : Option (Int × tab)} (hR : REx T n e N g s t) (h0 : 0 ≤ k) (h1 : k < (N : Int)) (hk : kkd s = 1) (hf : t 170 37 = 1) (hb : nkd s k = 1 ∨ (nkd s k = 0 ∧ nnm s k < t 170 36)) (h : rc 27 [k, x] t = some v) : ∃ t9, v = some (0, t9) := by
  obtain ⟨n1, n2, _⟩ := RS_nm hR.2.1 h0 h1
  obtain ⟨t2, a1, a2, a3, a4, a5⟩ := RE_step hR (by omega) (by omega)
  have m1 : t2 174 k.toNat = nkd s k := (a4 174 _ (by omega)).trans n1
  have m2 : t2 175 k.toNat = nnm s k := (a4 175 _ (by omega)).trans n2
  have m7 : t2 170 37 = t 170 37 := a4 170 37 (by omega)
  have m6 : t2 170 36 = t 170 36 := a4 170 36 (by omega)
  have h := hrc _ _ _ _ h
  rw [rG_157] at h
  unfold rM157 at h
  rw [a1, bo_s, m1, m2, m6, m7, if_neg (by omega)] at h
  rcases hb with hb | ⟨hb, hb2⟩
  · rw [if_pos hb] at h
    cases h
    exact ⟨_, rfl⟩
  · rw [if_neg (by omega), if_neg (by omega)] at h
    cases h
    exact ⟨_, rfl⟩
theorem lin_r (hR : REx T n e N g s t) {k : Int} (h0 : 0 ≤ k) (h1 : k < (N : Int)) (hk : nkd s k = 2 ∨ nkd s k = 3 ∨ nkd s k = 4) : 0 ≤ lin s k ∧ lin s k < 12 ∧ (nkd s k = 2 → lin s k = nnm s k) ∧ (nkd s k ≠ 2 → lin s k = ipl 8 (nnm s k)) := by
  obtain ⟨n1, n2, n3, n4, n5, n6, n7, _⟩ := RS_nm hR.2.1 h0 h1
  have hct : ∀ c : Nat, c < 6 → s 109 c ≤ LIM c := fun c hc => (hR.2.1.2.1 c hc).2.2
  unfold lin
  by_cases c : nkd s k = 2
  · rw [if_pos c]
    rw [c] at n6
    have h2 := hct 2 (by omega)
    have l2 : LIM 2 = 8 := rfl
    have n6 : nnm s k < s 109 2 := n6
    exact ⟨n5, by omega, fun _ => rfl, fun q => absurd c q⟩
  · rw [if_neg c, ipl_e (by omega)]
    have l3 : LIM 3 = 4 := rfl
    have l4 : LIM 4 = 4 := rfl
    have h3 := hct 3 (by omega)
    have h4 := hct 4 (by omega)
    have : nnm s k < 4 := by
      rcases hk with q | q | q
      · exact absurd q c
      · rw [q] at n6
        have n6 : nnm s k < s 109 3 := n6
        omega
      · rw [q] at n6
        have n6 : nnm s k < s 109 4 := n6
        omega
    exact ⟨by omega, by omega, fun q => absurd q c, fun _ => rfl⟩
/-- sends -/
theorem p_send (hrc : rle rc rG) (hX : PXx rc) {x k b : Int} {v : Option (Int × tab)} (hR : REx T n e N g s t) (x0 : 1 ≤ x) (x1 : x ≤ 20) (b0 : 0 ≤ s 131 6) (b1 : s 131 6 ≤ 10 * x) (hb : b = lin s k) (hl : 0 ≤ lin s k ∧ lin s k < 12) (h : (bo (rc 22 [0, ipl (x - 1) 1] t) fun z80 t80 => if z80 ≠ 0 then bo (rc 8 [30] (up2 t80 170 24 (lo (t80 170 24) (lsl 1 b)))) fun z87 t87 => some (some (z87, t87)) else some (some (0, t80))) = some v) : OEx T n e N g s t (sndX x k s) v := by
  rw [ipl_e (by omega), show x - 1 + 1 = x by omega] at h
  unfold sndX
  rcases bo_inv h with ⟨h9, _⟩ | ⟨z6, t6, h9, h⟩
  · obtain ⟨z, t3, e1, _⟩ := p_Ex hX hR (by omega) x1 b0 b1 h9
    cases e1
  · obtain ⟨z, t3, e1, e2⟩ := p_Ex hX hR (by omega) x1 b0 b1 h9
    cases e1
    rcases e2 with ⟨rfl, s4, f1, f2, f3, f4, f5⟩ | ⟨rfl, f1⟩
    · rw [if_pos (by decide)] at h
      rw [f1, bo_s]
      rw [msk_last (f := fun s2 => lsl 1 (lin s2 k)) f2 (fun s2 hs => by show lsl 1 (lin s2 k) = lsl 1 (lin s4 k); rw [lin_E hs])]
      rw [hb, ← lin_E f3 k] at h
      obtain ⟨q1, q2, q3⟩ := RE_sent f2 (lsl 1 (lin s4 k)) (lsl_4x (by rw [lin_E f3 k]; exact hl))
      exact OE_pre (p_last hrc q1 h) (FEc_tr f3 q2) (FEr_tr f4 q3)
    · rw [if_neg (by decide)] at h
      cases h
      exact OE_no (by rw [f1, bo_n])
/-- receives -/
theorem p_recv (hrc : rle rc rG) (hT : PTx rc) {x k b : Int} {v : Option (Int × tab)} (hR : REx T n e N g s t) (x0 : 1 ≤ x) (x1 : x ≤ 20) (b0 : 0 ≤ s 131 6) (b1 : s 131 6 ≤ 10 * x) (hb : b = lin s k) (hl : 0 ≤ lin s k ∧ lin s k < 12) (hf : t 170 37 = 0) (h : (if t 170 4 ≠ 1 then some (some (0, t)) else bo (rc 9 [] t) fun z13 t13 => if 0 ≤ z13 then bo (rc 19 [91] t) fun z19 t19 => if z19 = 0 then (if t 174 z13.toNat = 0 then bo (rc 27 [z13, x - 1] t) fun z22 t22 => if z22 ≠ 0 then bo (rc 8 [30] (up2 t22 170 25 (lo (t22 170 25) (lsl 1 b)))) fun z36 t36 => some (some (z36, t36)) else some (some (0, t22)) else some (some (0, t))) else (if t 174 z13.toNat = 1 then bo (rc 27 [z13, x - 1] t) fun z22 t22 => if z22 ≠ 0 then bo (rc 8 [30] (up2 t22 170 25 (lo (t22 170 25) (lsl 1 b)))) fun z36 t36 => some (some (z36, t36)) else some (some (0, t22)) else some (some (0, t))) else some (some (0, t))) = some v) : OEx T n e N g s t (rcvX x k s) v := by
  have hk4 := RL_k4 hR.1
  unfold rcvX
  by_cases k1 : kkd s = 1
  · rw [if_neg (fun q => q (by rw [hk4, k1]; rfl))] at h
    obtain ⟨w1, w2, w3⟩ := RE_name hR k1
    have h := bxr hrc w1 h
    try dsimp only at h
    obtain ⟨j, hjd⟩ : ∃ j, j = fdn s (vlu s) 0 := ⟨_, rfl⟩
    have hme := c_mean k1
    rw [← hjd] at h w2 w3 hme
    rw [hme]
    by_cases c0 : 0 ≤ j
    · rw [if_pos c0] at h
      rw [if_neg (by omega), bo_s]
      obtain ⟨n1, n2, n3, n4, n5, n6, n7, _⟩ := RS_nm hR.2.1 c0 w2
      have h := bxr hrc (RL_beh hR.1 (by omega) (by omega) (c := 91) (by decide)) h
      try dsimp only at h
      obtain ⟨t2, a1, a2, a3, a4, a5⟩ := RE_step hR (by omega) (by omega)
      have fin : ∀ hkind : ((nkd s j = 1 ∧ kkd (stp s) = 91) ∨ (nkd s j = 0 ∧ kkd (stp s) ≠ 91)), (bo (rc 27 [j, x - 1] t) fun z22 t22 => if z22 ≠ 0 then bo (rc 8 [30] (up2 t22 170 25 (lo (t22 170 25) (lsl 1 b)))) fun z36 t36 => some (some (z36, t36)) else some (some (0, t22))) = some v → OEx T n e N g s t (bo (TXx x j (stp s)) fun _ s1 => bo (cG 29 [59] s1) fun _ s2 => some (some (0, up2 s2 131 9 (lo (s2 131 9) (lsl 1 (ipl 12 (lin s2 k))))))) v := fun hkind h => by
        rcases bo_inv h with ⟨h9, _⟩ | ⟨z6, t6, h9, h⟩
        · obtain ⟨z, t3, e1, _⟩ := hT T n e N g s t j x _ hR x0 x1 b0 b1 c0 w2 k1 hkind (.inl hf) h9
          cases e1
        · obtain ⟨z, t3, e1, e2⟩ := hT T n e N g s t j x _ hR x0 x1 b0 b1 c0 w2 k1 hkind (.inl hf) h9
          cases e1
          rcases e2 with ⟨rfl, s4, f1, f2, f3, f4, f5⟩ | ⟨rfl, f1⟩
          · rw [if_pos (by decide)] at h
            rw [f1, bo_s]
            rw [msk_last (f := fun s2 => lsl 1 (ipl 12 (lin s2 k))) f2 (fun s2 hs => by show lsl 1 (ipl 12 (lin s2 k)) = lsl 1 (ipl 12 (lin s4 k)); rw [lin_E hs])]
            rw [hb] at h
            have e12 : lsl 1 (ipl 12 (lin s4 k)) = lsl (lsl 1 (lin s k)) 12 := by
              rw [lin_E f3 k, ipl_e (by omega)]
              have := lsl_12 ⟨(lin s k).toNat, by omega⟩
              rw [show (((⟨(lin s k).toNat, by omega⟩ : Fin 12) : Nat) : Int) = lin s k by show (((lin s k).toNat : Nat) : Int) = lin s k; omega] at this
              exact this.symm
            rw [e12]
            obtain ⟨q1, q2, q3⟩ := RE_recv f2 (lsl 1 (lin s k)) (lsl_4x hl)
            exact OE_pre (p_last hrc q1 h) (FEc_tr f3 q2) (FEr_tr f4 q3)
          · rw [if_neg (by decide)] at h
            cases h
            exact OE_no (by rw [f1, bo_n])
      have bad : ∀ hkind : ¬ ((nkd s j = 1 ∧ kkd (stp s) = 91) ∨ (nkd s j = 0 ∧ kkd (stp s) ≠ 91)), (bo (TXx x j (stp s)) fun _ s1 => bo (cG 29 [59] s1) fun _ s2 => some (some ((0 : Int), up2 s2 131 9 (lo (s2 131 9) (lsl 1 (ipl 12 (lin s2 k))))))) = some none := fun hkind => by
        unfold TXx
        rw [cG_72]
        unfold cM72
        rw [nkd_E a3]
        by_cases d : kkd (stp s) = 91
        · rw [if_neg (fun q => q d), if_pos (by omega)]
          rfl
        · rw [if_pos d, if_pos (by omega)]
          rfl
      rw [n1] at h
      by_cases d : kkd (stp s) = 91
      · rw [if_pos d, if_neg (by decide)] at h
        by_cases d1 : nkd s j = 1
        · rw [if_pos d1] at h
          exact fin (.inl ⟨d1, d⟩) h
        · rw [if_neg d1] at h
          cases h
          exact OE_no (bad (by omega))
      · rw [if_neg d, if_pos rfl] at h
        by_cases d1 : nkd s j = 0
        · rw [if_pos d1] at h
          exact fin (.inr ⟨d1, d⟩) h
        · rw [if_neg d1] at h
          cases h
          exact OE_no (bad (by omega))
    · rw [if_neg c0] at h
      cases h
      rw [if_pos (by omega)]
      exact OE_no rfl
  · rw [if_pos (fun q => k1 (rkn_1 (hk4.symm.trans q)))] at h
    cases h
    rw [cG_61]
    unfold cM61
    rw [if_pos k1]
    exact OE_no rfl
end BYN
