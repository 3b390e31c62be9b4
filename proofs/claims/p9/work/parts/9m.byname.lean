/-! byName(..) of the reference. -/
section BYN
variable {T : Nat → Int} {n e N : Nat} {g : Gtt} {s t s2 t2 : tab} {rc : MRq}
/-- take(..), the last of a STATEMENT, and its part -/
theorem p_last (hrc : rle rc rG) {v : Option (Int × tab)} {kd b c A : Int} {a : tab → Int} (hR : REx T n e N g s t) (b0 : 0 ≤ s 131 6) (ha : ∀ s2, FEc s s2 → a s2 = A) (h : (bo (rc 8 [30] t) fun z36 t36 => some (some (z36, t36))) = some v) : (∃ s8 t7, v = some (1, t7) ∧ (bo (cG 29 [59] s) fun _ s4 => some (some (cadz s4, cad s4 kd (a s4) b c))) = some (some (s8 99 12 - 1, s8)) ∧ REx T n e N g s8 t7 ∧ FEc s s8 ∧ FEr t t7 ∧ s8 137 5 = s 137 5 + 1 ∧ s8 99 12 = s 99 12 + 1 ∧ t7 177 1 = t 177 1 ∧ t7 177 10 = t 177 10 ∧ PFx s t s8 t7 ∧ s8 100 (s 99 12).toNat = kd ∧ s8 101 (s 99 12).toNat = A ∧ s8 102 (s 99 12).toNat = b ∧ s8 103 (s 99 12).toNat = c ∧ s8 104 (s 99 12).toNat = -1) ∨ (∃ t7, v = some (0, t7) ∧ (bo (cG 29 [59] s) fun _ s4 => some (some (cadz s4, cad s4 kd (a s4) b c))) = some none) := by
  rcases RE_take hR is_30 (by decide) with ⟨t7, c1, c2, c3, c4, c5, c6, c7⟩ | ⟨c1, c2, c3⟩
  · have pt := PF_take hR is_30 (by decide) c2 c1
    have h := bxr hrc c1 h
    cases h
    have p1 := pt.2.1
    have e6 := c5.2.1
    obtain ⟨u1, u2, u3, u4, u5, u6, u7⟩ := hR.2.2.2.1
    obtain ⟨s8, hs8⟩ : ∃ s8, s8 = cad (stp s) kd A b c := ⟨_, rfl⟩
    obtain ⟨d1, d2, ⟨d3, d4, d5, d6, d7⟩, d8, d9, d10, d11⟩ := RE_cad c4 (by omega) hs8 (by omega)
    rw [p1] at d3 d4 d5 d6 d7
    refine .inl ⟨s8, t7, rfl, ?_, d9, FEc_tr c5 d10, c6, ?_, by omega, pt.2.2.1, pt.2.2.2, PF_tr pt.1 d11, d3, d4, d5, d6, d7⟩
    · rw [c3, bo_s, d1, ha _ c5, ← hs8, d2, show (stp s) 99 12 + 1 - 1 = (stp s) 99 12 by omega]
    · rw [d8 137 5 (by omega) (by omega)]
      exact c7
  · have h := bxr hrc c1 h
    cases h
    exact .inr ⟨_, rfl, by rw [c3, bo_n]⟩
/-- the ; first, then the mask: the same -/
theorem msk_last {f : tab → Int} {F : tab → RO} (hR : REx T n e N g s t) (hf : ∀ s2, FEc s s2 → f s2 = f s) : (bo (cG 29 [59] s) fun _ s2 => F (up2 s2 131 9 (lo (s2 131 9) (f s2)))) = bo (cG 29 [59] (up2 s 131 9 (lo (s 131 9) (f s)))) fun _ s4 => F s4 := by
  have kk : kkd (up2 s 131 9 (lo (s 131 9) (f s))) = kkd s := rfl
  rw [cG_43, cG_43]
  unfold cM43
  rw [kk]
  by_cases h : kkd s = 59
  · rw [if_neg (fun q => q h), if_neg (fun q => q h), bo_s, bo_s]
    have e1 := stp_e hR.1 (by omega) (by omega)
    have e2 : stp (up2 s 131 9 (lo (s 131 9) (f s))) = up2 (up2 s 131 9 (lo (s 131 9) (f s))) 137 5 (s 137 5 + 1) := by
      have hm := e1
      have hin := RL_in hR.1
      unfold stp
      rw [show (up2 s 131 9 (lo (s 131 9) (f s))) 137 5 = s 137 5 from if_neg (by omega), show (up2 s 131 9 (lo (s 131 9) (f s))) 139 (s 137 5).toNat = s 139 (s 137 5).toNat from if_neg (by omega)]
      have hk9 : kkd s = s 139 (s 137 5).toNat := by unfold kkd; rw [if_pos (by omega)]
      have hne : s 137 5 < 2000 := by
        have hk := RL_kk hR.1
        have he := hR.1.1.2.2.1
        have h1 := hR.1.1.1
        have h2 := hR.1.1.2.1
        have : (s 137 5).toNat ≠ e := fun q => by rw [q] at hk; omega
        omega
      rw [if_pos ⟨by omega, hne, by omega, by omega⟩]
    have hfs := hf (stp s) (FEc_stp hR.1 (by omega) (by omega))
    rw [hfs, e2, e1, show (up2 s 137 5 (s 137 5 + 1)) 131 9 = s 131 9 from if_neg (by omega), up_comm (by omega)]
  · rw [if_pos h, if_pos h]
    rfl
/-- how a STATEMENT that begins with a name ends -/
def ONx (T : Nat → Int) (n e N : Nat) (g : Gtt) (s t : tab) (X : RO) (v : Option (Int × tab)) : Prop := ∃ z t2, v = some (z, t2) ∧ ((z = 1 ∧ ∃ s2, X = some (some (s2 99 12 - 1, s2)) ∧ REx T n e N g s2 t2 ∧ FEc s s2 ∧ FEr t t2 ∧ s 137 5 < s2 137 5 ∧ CO s2 t2 g.2.2.2.1 1 0 (s 99 12).toNat (s2 99 12).toNat (s2 99 12 - 1) (t 177 1).toNat (t2 177 1).toNat (t 177 10).toNat (t 177 10).toNat 0 (cxt g s2 t2) ∧ EMr s t s2 t2) ∨ (z = 0 ∧ X = some none))
theorem ON_no {X : RO} {t9 : tab} (h : X = some none) : ONx T n e N g s t X (some (0, t9)) := ⟨0, t9, rfl, .inr ⟨rfl, h⟩⟩
def PNx (rc : MRq) : Prop := ∀ (T : Nat → Int) (n e N : Nat) (g : Gtt) (s t : tab) (x : Int) (v : Option (Int × tab)), REx T n e N g s t → 1 ≤ x → x ≤ 20 → 0 ≤ s 131 6 → s 131 6 ≤ 10 * x → kkd s = 1 → rc 34 [x - 1] t = some v → ONx T n e N g s t (cG 49 [x] s) v
/-- what can stand behind a name that begins a STATEMENT -/
def canP (s t : tab) (k : Int) : Prop := (nkd s k = 0 ∧ kkd (stp s) = 61) ∨ (nkd s k = 1 ∧ kkd (stp s) = 91) ∨ (nkd s k = 5 ∧ kkd (stp s) = 40 ∧ t 170 37 = 0 ∧ nnm s k ≠ s 131 13) ∨ (t 170 37 = 0 ∧ (nkd s k = 2 ∨ nkd s k = 4) ∧ kkd (stp s) = 33) ∨ (t 170 37 = 0 ∧ (nkd s k = 2 ∨ nkd s k = 3) ∧ kkd (stp s) = 63)
def PNLx (rc : MRq) : Prop := ∀ (T : Nat → Int) (n e N : Nat) (g : Gtt) (s t : tab) (x k a c : Int) (v : Option (Int × tab)), REx T n e N g s t → 1 ≤ x → x ≤ 20 → 0 ≤ s 131 6 → s 131 6 ≤ 10 * x → kkd s = 1 → 0 ≤ k → k < (N : Int) → (c ≠ 0 → canP s t k) → (c = 0 → ¬ canP s t k) → rc 61 [x - 1, k, a, nkd s k, nnm s k, c] t = some v → ONx T n e N g s t (NXx x k s) v
/-- in a fun: what is its own -/
theorem own_in (hR : REx T n e N g s t) {k : Int} (h0 : 0 ≤ k) (h1 : k < (N : Int)) : (t 170 37 = 0 ∧ s 131 14 = 0) ∨ (t 170 37 = 1 ∧ (s 131 14 ≤ k → nkd s k = 0 ∧ t 170 36 ≤ nnm s k) ∧ (k < s 131 14 → nkd s k = 0 → nnm s k < t 170 36)) := by
  obtain ⟨_, _, _, _, _, _, _, e1, e2⟩ := RS_nm hR.2.1 h0 h1
  rcases hR.2.1.2.2.2.2 with h | ⟨h2, h3, h4⟩
  · exact .inl h
  · have := h4 k.toNat (by omega)
    rw [← e1, ← e2, show ((k.toNat : Nat) : Int) = k by omega] at this
    exact .inr ⟨h2, this⟩
/-- a target that is not the fun's own -/
theorem p_Tbad (hrc : rle rc rG) {k x : Int} {t1 : tab} {v : Option (Int × tab)} (hR : REx T n e N g s t) (hcw : CWx t t1 1) (h0 : 0 ≤ k) (h1 : k < (N : Int)) (hk : kkd s = 1) (hf : t 170 37 = 1) (hb : nkd s k = 1 ∨ (nkd s k = 0 ∧ nnm s k < t 170 36)) (h : rc 27 [k, x] t1 = some v) : ∃ t9, v = some (0, t9) := by
  obtain ⟨n1, n2, _⟩ := RS_nm hR.2.1 h0 h1
  obtain ⟨t2, a1, a2, a3, a4, a5⟩ := RE_wst hR hcw (by omega) (show kkd s ≠ 3 by omega) (show kkd s ≠ 4 by omega)
  have m1 : t2 174 k.toNat = nkd s k := (a4 174 _ (by omega)).trans n1
  have m2 : t2 175 k.toNat = nnm s k := (a4 175 _ (by omega)).trans n2
  have m7 : t2 170 37 = t 170 37 := a4 170 37 (by omega)
  have m6 : t2 170 36 = t 170 36 := a4 170 36 (by omega)
  have h := hrc _ _ _ _ h
  rw [rG_157] at h
  unfold rM157 at h
  rw [a1, bo_s, m1, m2, m6, m7, if_neg (by omega)] at h
  rcases hb with hb | ⟨hb, hb2⟩
  · rw [if_pos hb] at h
    cases h
    exact ⟨_, rfl⟩
  · rw [if_neg (by omega), if_neg (by omega)] at h
    cases h
    exact ⟨_, rfl⟩
theorem lin_r (hR : REx T n e N g s t) {k : Int} (h0 : 0 ≤ k) (h1 : k < (N : Int)) (hk : nkd s k = 2 ∨ nkd s k = 3 ∨ nkd s k = 4) : 0 ≤ lin s k ∧ lin s k < 12 ∧ (nkd s k = 2 → lin s k = nnm s k) ∧ (nkd s k ≠ 2 → lin s k = ipl 8 (nnm s k)) := by
  obtain ⟨n1, n2, n3, n4, n5, n6, n7, _⟩ := RS_nm hR.2.1 h0 h1
  have hct : ∀ c : Nat, c < 6 → s 109 c ≤ LIM c := fun c hc => (hR.2.1.2.1 c hc).2.2
  unfold lin
  by_cases c : nkd s k = 2
  · rw [if_pos c]
    rw [c] at n6
    have h2 := hct 2 (by omega)
    have l2 : LIM 2 = 8 := rfl
    have n6 : nnm s k < s 109 2 := n6
    exact ⟨n5, by omega, fun _ => rfl, fun q => absurd c q⟩
  · rw [if_neg c, ipl_e (by omega)]
    have l3 : LIM 3 = 4 := rfl
    have l4 : LIM 4 = 4 := rfl
    have h3 := hct 3 (by omega)
    have h4 := hct 4 (by omega)
    have : nnm s k < 4 := by
      rcases hk with q | q | q
      · exact absurd q c
      · rw [q] at n6
        have n6 : nnm s k < s 109 3 := n6
        omega
      · rw [q] at n6
        have n6 : nnm s k < s 109 4 := n6
        omega
    exact ⟨by omega, by omega, fun q => absurd q c, fun _ => rfl⟩
/-- where a STATEMENT on a link began: its part's mark stood, d tokens went by -/
def SNx (g : Gtt) (s0 t0 s t : tab) : Prop := (s 99 12 = s0 99 12 ∧ t 177 1 = t0 177 1 + 1 ∧ t 177 10 = t0 177 10 ∧ t 178 (t0 177 1).toNat = 0 ∧ s 137 5 = s0 137 5 + 2) ∧ PFx s0 t0 s t ∧ FEc s0 s ∧ FEr t0 t ∧ (0 ≤ s0 99 12 ∧ s0 99 12 + s0 131 6 ≤ s0 137 5 ∧ 0 ≤ t0 177 1 ∧ t0 177 1 ≤ 12 * s0 137 5 ∧ ((g.2.2.2.2.1 + g.2.2.2.2.2 : Nat) : Int) ≤ s0 99 12)
/-- sends -/
theorem p_send (hrc : rle rc rG) (hX : PXx rc) {s0 t0 : tab} {x k b cd y : Int} {v : Option (Int × tab)} (h0 : SNx g s0 t0 s t) (hR : REx T n e N g s t) (x0 : 1 ≤ x) (x1 : x ≤ 20) (b0 : 0 ≤ s 131 6) (b1 : s 131 6 ≤ 10 * x) (hb : b = lin s k) (hl : 0 ≤ lin s k ∧ lin s k < 12) (hcd : cd = (if lin s k < 8 then 13 else 15)) (hy : y = (if lin s k < 8 then lin s k else lin s k - 8)) (hf : t 170 37 = 0) (h : (bo (rc 22 [0, ipl (x - 1) 1] t) fun z80 t80 => if z80 ≠ 0 then bo (rc 8 [30] (up2 (pt2 t80 cd y) 170 24 (lo (t80 170 24) (lsl 1 b)))) fun z87 t87 => some (some (z87, t87)) else some (some (0, t80))) = some v) : ONx T n e N g s0 t0 (sndX x k s) v := by
  rw [ipl_e (by omega), show x - 1 + 1 = x by omega] at h
  obtain ⟨⟨i1, i2, i3, i4, i5⟩, i6, i7, i8, w1, w2, w3, w4, w5⟩ := h0
  unfold sndX
  rcases bo_inv h with ⟨h9, _⟩ | ⟨z6, t6, h9, h⟩
  · obtain ⟨z, t3, e1, _⟩ := p_Ex hX hR (by omega) x1 b0 b1 h9
    cases e1
  · obtain ⟨z, t3, e1, e2⟩ := p_Ex hX hR (by omega) x1 b0 b1 h9
    cases e1
    rcases e2 with ⟨rfl, s4, f1, f2, f3, f4, f5, m1, m2, m3, m4, m5, m6⟩ | ⟨rfl, f1⟩
    · rw [if_pos (by decide)] at h
      rw [f1, bo_s]
      obtain ⟨u1, u2, u3, u4, u5, u6, u7⟩ := f2.2.2.2.1
      have hin4 := RL_in f2.1
      have c6 := f3.2.1
      have c60 := i7.2.1
      obtain ⟨t7, ht7⟩ : ∃ t7, t7 = pt2 t6 cd y := ⟨_, rfl⟩
      obtain ⟨cw, cw1, cw2⟩ := pt2_cw (t := t6) cd y (by omega)
      rw [← ht7] at cw cw1 cw2 h
      have e7 := cw.1
      obtain ⟨r1, r2, r3, r4⟩ := RE_cw f2 cw (by omega)
      have ml : (bo (cG 29 [59] s4) fun _ s2 => some (some (cadz (up2 s2 131 9 (lo (s2 131 9) (lsl 1 (lin s2 k)))), cad (up2 s2 131 9 (lo (s2 131 9) (lsl 1 (lin s2 k)))) 406 (lin (up2 s2 131 9 (lo (s2 131 9) (lsl 1 (lin s2 k)))) k) (s4 99 12 - 1) (-1)))) = bo (cG 29 [59] (up2 s4 131 9 (lo (s4 131 9) (lsl 1 (lin s4 k))))) fun _ s6 => some (some (cadz s6, cad s6 406 (lin s6 k) (s4 99 12 - 1) (-1))) := msk_last (f := fun s2 => lsl 1 (lin s2 k)) (F := fun s6 => some (some (cadz s6, cad s6 406 (lin s6 k) (s4 99 12 - 1) (-1)))) f2 (fun s2 hs => by show lsl 1 (lin s2 k) = lsl 1 (lin s4 k); rw [lin_E hs])
      rw [ml]
      rw [← CW_k (k := 170) (j := 24) cw (by omega), hb, ← lin_E f3 k] at h
      have hl4 : lin s4 k = lin s k := lin_E f3 k
      obtain ⟨q1, q2, q3⟩ := RE_sent r1 (lsl 1 (lin s4 k)) (lsl_4x (by omega)) (by rw [CW_k (k := 170) (j := 37) cw (by omega), f4 170 37 (by omega)]; exact hf)
      have pn := PN_sent (s := s4) (t := t7) (lsl 1 (lin s4 k)) (lo (s4 131 9) (lsl 1 (lin s4 k)))
      have hmb : mbt ((up2 t7 170 24 (lo (t7 170 24) (lsl 1 (lin s4 k)))) 170 24) (lin s k).toNat := by
        rw [up_self]
        exact mbt_lo.mpr (.inr ((mbt_l (by omega)).mpr (by omega)))
      obtain ⟨s5, hs5⟩ : ∃ s5, s5 = up2 s4 131 9 (lo (s4 131 9) (lsl 1 (lin s4 k))) := ⟨_, rfl⟩
      obtain ⟨t8, ht8⟩ : ∃ t8, t8 = up2 t7 170 24 (lo (t7 170 24) (lsl 1 (lin s4 k))) := ⟨_, rfl⟩
      rw [← hs5] at q1 q2 pn ⊢
      rw [← ht8] at q1 q3 pn hmb h
      have p2 := pn.2.1
      have p3 := pn.2.2.1
      have p4 := pn.2.2.2
      have d6 := q2.2.1
      have e55 : s5 137 5 = s4 137 5 := by rw [hs5]; exact if_neg (by omega)
      have hlf : ∀ s6, FEc s5 s6 → lin s6 k = lin s k := fun s6 hs => (lin_E hs k).trans ((lin_E q2 k).trans hl4)
      rcases p_last (kd := 406) (a := fun s6 => lin s6 k) (A := lin s k) (b := s4 99 12 - 1) (c := -1) hrc q1 (by omega) hlf h with ⟨s8, t9, rfl, z1, z2, z3, z4, z5, z6, z7, z8, z9, z10, z11, z12, z13, z14⟩ | ⟨t9, rfl, z1⟩
      · have pf : PFx s4 t6 s8 t9 := PF_tr r3 (PF_tr pn.1 z9)
        have hx : s8 99 12 - 1 = s4 99 12 := by omega
        have hco := CO_le m1
        rw [p2] at z10 z11 z12 z13 z14
        refine ⟨1, t9, rfl, .inl ⟨rfl, s8, z1, z2, FEc_tr i7 (FEc_tr f3 (FEc_tr q2 z3)), FEr_tr i8 (FEr_tr f4 (FEr_tr r2 (FEr_tr q3 z4))), by omega, ?_, by rw [hx]; exact z14, PF_tr i6 (PF_tr m3 pf), by omega, by omega, by omega⟩⟩
        rw [hx]
        have k1 := EM_up m1 (by omega) (by omega) (fun q => absurd q (by omega)) pf
        rw [show (s 99 12).toNat = (s0 99 12).toNat by omega, show (t 177 1).toNat = (t0 177 1).toNat + 1 by omega] at k1
        refine CO_mk (.inr (.inl ⟨rfl, by omega, by omega, by omega, cxt_au, cx_new u7 u1 (by omega) rfl, .inr (.inr (.inr (.inr (.inr (.inl ⟨z10, ?_, rfl, ⟨(t6 177 1).toNat, ?_, ?_, ?_, by omega⟩, by omega, by omega, ?_⟩)))))⟩))
        · rw [pf.2.1.2 _ (by omega), m3.2.1.2 _ (by omega)]
          exact i4
        · rw [z12]
          exact k1
        · rw [z9.2.1.2 _ (by omega), pn.1.2.1.2 _ (by omega), cw1, z11]
          exact hcd
        · rw [z9.2.1.2 _ (by omega), pn.1.2.1.2 _ (by omega), cw2, z11]
          exact hy
        · rw [z11]
          exact .inl ⟨by omega, z9.2.2.2.1 24 (by omega) (by omega) _ hmb⟩
      · exact ON_no z1
    · rw [if_neg (by decide)] at h
      cases h
      exact ON_no (by rw [f1, bo_n])
/-- receives -/
theorem p_recv (hrc : rle rc rG) (hT : PTx rc) {s0 t0 : tab} {x k b cd y : Int} {v : Option (Int × tab)} (h0 : SNx g s0 t0 s t) (hR : REx T n e N g s t) (x0 : 1 ≤ x) (x1 : x ≤ 20) (b0 : 0 ≤ s 131 6) (b1 : s 131 6 ≤ 10 * x) (hb : b = lin s k) (hl : 0 ≤ lin s k ∧ lin s k < 12) (hcd : cd = (if lin s k < 8 then 14 else 16)) (hy : y = (if lin s k < 8 then lin s k else lin s k - 8)) (hf : t 170 37 = 0) (h : (if t 170 4 ≠ 1 then some (some (0, t)) else bo (rc 9 [] t) fun z13 t13 => if 0 ≤ z13 then bo (rc 19 [91] t) fun z19 t19 => if z19 = 0 then (if t 174 z13.toNat = 0 then bo (rc 27 [z13, x - 1] t) fun z22 t22 => if z22 ≠ 0 then bo (rc 8 [30] (sto (up2 (pt2 t22 cd y) 170 25 (lo (t22 170 25) (lsl 1 b))) (t22 174 z13.toNat) (t22 175 z13.toNat))) fun z36 t36 => some (some (z36, t36)) else some (some (0, t22)) else some (some (0, t))) else (if t 174 z13.toNat = 1 then bo (rc 27 [z13, x - 1] t) fun z22 t22 => if z22 ≠ 0 then bo (rc 8 [30] (sto (up2 (pt2 t22 cd y) 170 25 (lo (t22 170 25) (lsl 1 b))) (t22 174 z13.toNat) (t22 175 z13.toNat))) fun z36 t36 => some (some (z36, t36)) else some (some (0, t22)) else some (some (0, t))) else some (some (0, t))) = some v) : ONx T n e N g s0 t0 (rcvX x k s) v := by
  have hk4 := RL_k4 hR.1
  obtain ⟨⟨i1, i2, i3, i4, i5⟩, i6, i7, i8, w1', w2', w3', w4', w5'⟩ := h0
  unfold rcvX
  by_cases k1 : kkd s = 1
  · rw [if_neg (fun q => q (by rw [hk4, k1]; rfl))] at h
    obtain ⟨w1, w2, w3⟩ := RE_name hR k1
    have h := bxr hrc w1 h
    try dsimp only at h
    obtain ⟨j, hjd⟩ : ∃ j, j = fdn s (vlu s) 0 := ⟨_, rfl⟩
    have hme := c_mean k1
    rw [← hjd] at h w2 w3 hme
    rw [hme]
    by_cases c0 : 0 ≤ j
    · rw [if_pos c0] at h
      rw [if_neg (by omega), bo_s]
      obtain ⟨n1, n2, n3, n4, n5, n6, n7, _⟩ := RS_nm hR.2.1 c0 w2
      have h := bxr hrc (RL_beh hR.1 (by omega) (by omega) (c := 91) (by decide)) h
      try dsimp only at h
      obtain ⟨t2, a1, a2, a3, a4, a5⟩ := RE_step hR (by omega) (by omega)
      have fin : ∀ hkind : ((nkd s j = 1 ∧ kkd (stp s) = 91) ∨ (nkd s j = 0 ∧ kkd (stp s) ≠ 91)), (bo (rc 27 [j, x - 1] t) fun z22 t22 => if z22 ≠ 0 then bo (rc 8 [30] (sto (up2 (pt2 t22 cd y) 170 25 (lo (t22 170 25) (lsl 1 b))) (t22 174 j.toNat) (t22 175 j.toNat))) fun z36 t36 => some (some (z36, t36)) else some (some (0, t22))) = some v → ONx T n e N g s0 t0 (TXk x j (stp s) fun z y s1 => bo (cG 29 [59] s1) fun _ s2 => some (some (cadz (up2 s2 131 9 (lo (s2 131 9) (lsl 1 (ipl 12 (lin s2 k))))), cad (up2 s2 131 9 (lo (s2 131 9) (lsl 1 (ipl 12 (lin s2 k))))) 407 (lin (up2 s2 131 9 (lo (s2 131 9) (lsl 1 (ipl 12 (lin s2 k))))) k) z y))) v := fun hkind h => by
        have cw0 : CWx t t 0 := ⟨by omega, fun _ _ _ _ => rfl⟩
        rcases bo_inv h with ⟨h9, _⟩ | ⟨z6, t6, h9, h⟩
        · obtain ⟨z, t3, e1, _⟩ := hT T n e N g s t t 0 j x _ hR cw0 (by omega) x0 x1 b0 b1 c0 w2 k1 hkind (.inl hf) h9
          cases e1
        · obtain ⟨z, t3, e1, e2⟩ := hT T n e N g s t t 0 j x _ hR cw0 (by omega) x0 x1 b0 b1 c0 w2 k1 hkind (.inl hf) h9
          cases e1
          rcases e2 with ⟨rfl, s4, yy, f1, f2, f3, f4, m1, m2, m3, m4, m5, m6, m7⟩ | ⟨rfl, f1⟩
          · rw [if_pos (by decide)] at h
            rw [f1]
            have e74 : t6 174 j.toNat = nkd s j := (f4 174 _ (by omega)).trans n1
            have e75 : t6 175 j.toNat = nnm s j := (f4 175 _ (by omega)).trans n2
            obtain ⟨u1, u2, u3, u4, u5, u6, u7⟩ := f2.2.2.2.1
            have hin4 := RL_in f2.1
            have c6 := f3.2.1
            have c60 := i7.2.1
            have hp1 := m3.1.1
            obtain ⟨t7, ht7⟩ : ∃ t7, t7 = pt2 t6 cd y := ⟨_, rfl⟩
            obtain ⟨cw, cw1, cw2⟩ := pt2_cw (t := t6) cd y (by omega)
            rw [← ht7] at cw cw1 cw2 h
            have e7 := cw.1
            obtain ⟨r1, r2, r3, r4⟩ := RE_cw f2 cw (by omega)
            have ml : (bo (cG 29 [59] s4) fun _ s2 => some (some (cadz (up2 s2 131 9 (lo (s2 131 9) (lsl 1 (ipl 12 (lin s2 k))))), cad (up2 s2 131 9 (lo (s2 131 9) (lsl 1 (ipl 12 (lin s2 k))))) 407 (lin (up2 s2 131 9 (lo (s2 131 9) (lsl 1 (ipl 12 (lin s2 k))))) k) (tgn s j) yy))) = bo (cG 29 [59] (up2 s4 131 9 (lo (s4 131 9) (lsl 1 (ipl 12 (lin s4 k)))))) fun _ s6 => some (some (cadz s6, cad s6 407 (lin s6 k) (tgn s j) yy)) := msk_last (f := fun s2 => lsl 1 (ipl 12 (lin s2 k))) (F := fun s6 => some (some (cadz s6, cad s6 407 (lin s6 k) (tgn s j) yy))) f2 (fun s2 hs => by show lsl 1 (ipl 12 (lin s2 k)) = lsl 1 (ipl 12 (lin s4 k)); rw [lin_E hs])
            rw [ml]
            rw [← CW_k (k := 170) (j := 25) cw (by omega), hb, e74, e75] at h
            have hl4 : lin s4 k = lin s k := lin_E f3 k
            have e12 : lsl 1 (ipl 12 (lin s4 k)) = lsl (lsl 1 (lin s k)) 12 := by
              rw [lin_E f3 k, ipl_e (by omega)]
              have := lsl_12 ⟨(lin s k).toNat, by omega⟩
              rw [show (((⟨(lin s k).toNat, by omega⟩ : Fin 12) : Nat) : Int) = lin s k by show (((lin s k).toNat : Nat) : Int) = lin s k; omega] at this
              exact this.symm
            rw [e12]
            obtain ⟨q1, q2, q3⟩ := RE_recv r1 (lsl 1 (lin s k)) (lsl_4x hl) (by rw [CW_k (k := 170) (j := 37) cw (by omega), f4 170 37 (by omega)]; exact hf)
            have pn := PN_recv (s := s4) (t := t7) (lsl 1 (lin s k)) (lo (s4 131 9) (lsl (lsl 1 (lin s k)) 12))
            have hmb : mbt ((up2 t7 170 25 (lo (t7 170 25) (lsl 1 (lin s k)))) 170 25) (lin s k).toNat := by
              rw [up_self]
              exact mbt_lo.mpr (.inr ((mbt_l (by omega)).mpr (by omega)))
            obtain ⟨s5, hs5⟩ : ∃ s5, s5 = up2 s4 131 9 (lo (s4 131 9) (lsl (lsl 1 (lin s k)) 12)) := ⟨_, rfl⟩
            obtain ⟨t8, ht8⟩ : ∃ t8, t8 = up2 t7 170 25 (lo (t7 170 25) (lsl 1 (lin s k))) := ⟨_, rfl⟩
            rw [← hs5] at q1 q2 pn ⊢
            rw [← ht8] at q1 q3 pn hmb h
            have p2 := pn.2.1
            have p3 := pn.2.2.1
            have p4 := pn.2.2.2
            have d6 := q2.2.1
            have e55 : s5 137 5 = s4 137 5 := by rw [hs5]; exact if_neg (by omega)
            unfold sto at h
            obtain ⟨t10, ht10⟩ : ∃ t10, t10 = pt2 t8 (if nkd s j ≠ 0 then 6 else 5) (nnm s j) := ⟨_, rfl⟩
            obtain ⟨cv, cv1, cv2⟩ := pt2_cw (t := t8) (if nkd s j ≠ 0 then 6 else 5) (nnm s j) (by omega)
            rw [← ht10] at cv cv1 cv2 h
            have e10 := cv.1
            obtain ⟨j1, j2, j3, j4⟩ := RE_cw q1 cv (by omega)
            have hlf : ∀ s6, FEc s5 s6 → lin s6 k = lin s k := fun s6 hs => (lin_E hs k).trans ((lin_E q2 k).trans hl4)
            rcases p_last (kd := 407) (a := fun s6 => lin s6 k) (A := lin s k) (b := tgn s j) (c := yy) hrc j1 (by omega) hlf h with ⟨s8, t9, rfl, z1, z2, z3, z4, z5, z6, z7, z8, z9, z10, z11, z12, z13, z14⟩ | ⟨t9, rfl, z1⟩
            · have pf7 : PFx s5 t8 s8 t9 := PF_tr j3 z9
              have pf : PFx s4 t6 s8 t9 := PF_tr r3 (PF_tr pn.1 pf7)
              have hx : s8 99 12 - 1 = s4 99 12 := by omega
              rw [p2] at z10 z11 z12 z13 z14
              have p8 : (t8 177 1).toNat = (t6 177 1).toNat + 2 := by omega
              refine ⟨1, t9, rfl, .inl ⟨rfl, s8, z1, z2, FEc_tr i7 (FEc_tr f3 (FEc_tr q2 z3)), FEr_tr i8 (FEr_tr f4 (FEr_tr r2 (FEr_tr q3 (FEr_tr j2 z4)))), by omega, ?_, by rw [hx]; exact z14, PF_tr i6 (PF_tr m3 pf), by omega, by omega, by omega⟩⟩
              rw [hx]
              have hA : (cxt g s8 t9).2.2.1 (tgn s j).toNat := pf.2.2.2.1 22 (by omega) (by omega) _ m7
              have hS : (cxt g s8 t9).2.2.2 (12 + (lin s k).toNat) := .inr (.inl ⟨by omega, by omega, by rw [show 12 + (lin s k).toNat - 12 = (lin s k).toNat by omega]; exact pf7.2.2.2.1 25 (by omega) (by omega) _ hmb⟩)
              have o6 : t9 178 (t6 177 1).toNat = cd := by
                rw [pf7.2.1.2 _ (by omega), pn.1.2.1.2 _ (by omega)]
                exact cw1
              have o7 : t9 178 ((t6 177 1).toNat + 1) = y := by
                rw [pf7.2.1.2 _ (by omega), pn.1.2.1.2 _ (by omega)]
                exact cw2
              have o8 : t9 178 ((t6 177 1).toNat + 2) = (if nkd s j ≠ 0 then 6 else 5) := by
                rw [← p8, z9.2.1.2 _ (by omega)]
                exact cv1
              have o9 : t9 178 ((t6 177 1).toNat + 3) = nnm s j := by
                rw [show (t6 177 1).toNat + 3 = (t8 177 1).toNat + 1 by omega, z9.2.1.2 _ (by omega)]
                exact cv2
              have of : t9 178 (t0 177 1).toNat = 0 := by
                rw [pf.2.1.2 _ (by have := m3.2.1.1; omega), m3.2.1.2 _ (by omega)]
                exact i4
              have hlim := hR.2.1.2.1
              rcases m1 with ⟨g1, g2, g3, g4⟩ | ⟨g1, g2, g3⟩
              · have ht : tgn s j = nnm s j := if_pos g1
                have hl6 := hlim 0 (by omega)
                have h6 : LIM 0 = 24 := rfl
                have n6' : nnm s j < s 109 0 := by rw [g1] at n6; exact n6
                rw [ht] at z12 hA
                rw [if_neg (fun q => q g1)] at o8
                rw [g2] at z13
                have ef : (t0 177 1).toNat + 1 = (t6 177 1).toNat := by omega
                refine CO_mk (.inr (.inl ⟨rfl, by omega, by omega, by omega, cxt_au, cx_new u7 u1 (by omega) rfl, .inr (.inr (.inr (.inr (.inr (.inr (.inl ⟨z10, of, rfl, ⟨(t6 177 1).toNat, .inl ⟨z13, by omega, by omega, by omega, by omega⟩, ?_, ?_, ?_, ?_, by omega⟩, by omega, by omega, by rw [z11]; exact hS, by rw [z12]; exact hA⟩))))))⟩))
                · rw [o6, z11]; exact hcd
                · rw [o7, z11]; exact hy
                · rw [o8, z12, if_pos (by omega)]
                · rw [o9, z12, if_pos (by omega)]
              · have ht : tgn s j = 24 + nnm s j := if_neg (by omega)
                have hl6 := hlim 1 (by omega)
                have h6 : LIM 1 = 6 := rfl
                have n6' : nnm s j < s 109 1 := by rw [g1] at n6; exact n6
                rw [ht] at z12 hA
                rw [if_pos (by omega)] at o8
                have hco := CO_le g3
                have k1' := EM_up g3 (by omega) (by omega) (fun q => absurd q (by omega)) pf
                rw [show (s 99 12).toNat = (s0 99 12).toNat by omega, show (t 177 1).toNat + 0 = (t0 177 1).toNat + 1 by omega] at k1'
                refine CO_mk (.inr (.inl ⟨rfl, by omega, by omega, by omega, cxt_au, cx_new u7 u1 (by omega) rfl, .inr (.inr (.inr (.inr (.inr (.inr (.inl ⟨z10, of, rfl, ⟨(t6 177 1).toNat, .inr ⟨?_, by omega, by omega⟩, ?_, ?_, ?_, ?_, by omega⟩, by omega, by omega, by rw [z11]; exact hS, by rw [z12]; exact hA⟩))))))⟩))
                · rw [z13]; exact k1'
                · rw [o6, z11]; exact hcd
                · rw [o7, z11]; exact hy
                · rw [o8, z12, if_neg (by omega)]
                · rw [o9, z12, if_neg (by omega)]; omega
            · exact ON_no z1
          · rw [if_neg (by decide)] at h
            cases h
            exact ON_no (f1 _)
      have bad : ∀ hkind : ¬ ((nkd s j = 1 ∧ kkd (stp s) = 91) ∨ (nkd s j = 0 ∧ kkd (stp s) ≠ 91)), ∀ K, TXk x j (stp s) K = some none := fun hkind K => by
        unfold TXk
        rw [cG_72]
        unfold cM72
        rw [nkd_E a3]
        by_cases d : kkd (stp s) = 91
        · rw [if_neg (fun q => q d), if_pos (by omega)]
          rfl
        · rw [if_pos d, if_pos (by omega)]
          rfl
      rw [n1] at h
      by_cases d : kkd (stp s) = 91
      · rw [if_pos d, if_neg (by decide)] at h
        by_cases d1 : nkd s j = 1
        · rw [if_pos d1] at h
          exact fin (.inl ⟨d1, d⟩) h
        · rw [if_neg d1] at h
          cases h
          exact ON_no (bad (by omega) _)
      · rw [if_neg d, if_pos rfl] at h
        by_cases d1 : nkd s j = 0
        · rw [if_pos d1] at h
          exact fin (.inr ⟨d1, d⟩) h
        · rw [if_neg d1] at h
          cases h
          exact ON_no (bad (by omega) _)
    · rw [if_neg c0] at h
      cases h
      rw [if_pos (by omega)]
      exact ON_no rfl
  · rw [if_pos (fun q => k1 (rkn_1 (hk4.symm.trans q)))] at h
    cases h
    rw [cG_61]
    unfold cM61
    rw [if_pos k1]
    exact ON_no rfl
end BYN
