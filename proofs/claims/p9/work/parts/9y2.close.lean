/-! Routines, in both: bodies and PARAMETERS. -/
section ROUT2
variable {T : Nat → Int} {n e N N1 p q M : Nat} {s t s2 t2 s0 t0 : tab} {rc : MRq} {F y1 y3 : Int} {H : Gmx × (Nat → Nat)}
/-- how a declaration ends, and what is known then -/
def ORx (T : Nat → Int) (n e : Nat) (s : tab) (X : RO) (v : Option (Int × tab)) : Prop := ∃ z t2, v = some (z, t2) ∧ ((z = 1 ∧ ∃ M s2, X = some (some (0, s2)) ∧ RDx T n e M s2 t2 ∧ s 137 5 < s2 137 5 ∧ ∃ H2, GDy H2 s2 t2 ∧ RBx s2 t2) ∨ (z = 0 ∧ X = some none))
theorem OR_no {X : RO} {t9 : tab} (h : X = some none) : ORx T n e s X (some (0, t9)) := ⟨0, t9, rfl, .inr ⟨rfl, h⟩⟩
theorem OR_pre {X : RO} {v : Option (Int × tab)} (h : ORx T n e s X v) (hi : s0 137 5 ≤ s 137 5) : ORx T n e s0 X v := by
  obtain ⟨z, t2, e1, h⟩ := h
  refine ⟨z, t2, e1, ?_⟩
  rcases h with ⟨h1, M, s2, h2, h3, h4, h5⟩ | h
  · exact .inl ⟨h1, M, s2, h2, h3, by omega, h5⟩
  · exact .inr h
theorem OD_R {X : RO} {v : Option (Int × tab)} (h : ODx T n e s t X v) (hG : GDy H s t) (hB : RBx s t) : ORx T n e s X v := by
  obtain ⟨z, t2, e1, h⟩ := h
  refine ⟨z, t2, e1, ?_⟩
  rcases h with ⟨h1, M, s2, h2, h3, h4, h5⟩ | h
  · exact .inl ⟨h1, M, s2, h2, h3, h4, h5 H hG hB⟩
  · exact .inr h
theorem GP_lex (h : GPy H q y1 s t) (hs : ∀ k j, ¬ (k = 137 ∧ j = 5) → s2 k j = s k j) (hi : s 137 5 ≤ s2 137 5) (ht : ∀ k j, ¬ lexs k j → t2 k j = t k j) : GPy H q y1 s2 t2 := GP_fr h (fun k j q => hs k j (by omega)) hi (hs 109 5 (by omega)) (fun j hj _ => ⟨by rw [hs 105 3 (by omega)] at hj; exact hj, hs 107 j (by omega), hs 108 j (by omega)⟩) (fun k j q => ht k j (by unfold lexs; omega)) ⟨Int.le_of_eq (hs 109 0 (by omega)).symm, Int.le_of_eq (hs 109 1 (by omega)).symm⟩
theorem FN_o {b z : Int} (hq : q < 12) (k j : Nat) (h1 : ¬ ((k = 112 ∨ k = 113) ∧ j = q)) (h2 : k ≠ 131) : (FNx y1 b (q : Int) F z s) k j = s k j := by
  rw [FN_e hq]
  exact (if_neg (by omega)).trans ((if_neg (by omega)).trans ((if_neg (by omega)).trans ((if_neg (by omega)).trans ((if_neg (by omega)).trans ((if_neg (by omega)).trans (if_neg (by omega)))))))
theorem pt1_c {K v : Int} : pt1 (up2 t 170 14 K) v = up2 (pt1 t v) 170 14 K := by
  unfold pt1
  rw [show (up2 t 170 14 K) 177 1 = t 177 1 from if_neg (by omega), up_comm (k := 170) (j := 14) (k2 := 178) (fun q => absurd q.1 (by decide)), up_comm (k := 170) (j := 14) (k2 := 177) (fun q => absurd q.1 (by decide))]
def P131 (rc : MRq) : Prop := ∀ (T : Nat → Int) (n e N1 p q : Nat) (F y1 y3 : Int) (s t : tab) (v : Option (Int × tab)), RPx T n e N1 p q F y1 y3 s t → (∃ H, GPy H q y1 s t) → RBx s t → rc 64 [y1, (q : Int), y3, (N1 : Int)] t = some v → ORx T n e s (if p = 0 then WQx y1 (N1 : Int) (q : Int) F s else WRx y1 (N1 : Int) (q : Int) F (p : Int) s) v
/-- ) and the body -/
theorem p_close (hrc : rle rc rG) (hY : PYx rc) (hB : PBx rc) (h277 : P277 rc) {v : Option (Int × tab)} (h : RPx T n e N1 p q F y1 y3 s t) (hG : GPy H q y1 s t) (hb : RBx s t) (hh : (bo (rc 8 [24] t) fun z7 t7 => if z7 ≠ 0 then (if y1 = 0 then (bo (rc 35 [] (up2 (rfg t7) 200 q ((rfg t7) 177 1))) fun z15 t15 => if z15 ≠ 0 then rc 65 [(q : Int), y3, (N1 : Int), 0] (pt1 t15 12) else some (some (0, t15))) else (bo (rc 28 [0] (up2 (rfg t7) 200 q ((rfg t7) 177 1))) fun z18 t18 => if z18 = 0 then some (some (0, t18)) else rc 65 [(q : Int), y3, (N1 : Int), 0] (pt1 t18 12))) else some (some (0, t7))) = some v) : ORx T n e s (bo (cG 29 [41] s) fun _ s10 => BDx y1 (q : Int) (FNx y1 (N1 : Int) (q : Int) F (p : Int) s10)) v := by
  rcases RL_take h.1.1 is_24 (by decide) with ⟨t7, c1, c2, c3, c4, c5, c6, c7⟩ | ⟨c1, c2, c3⟩
  · have hh := bxr hrc c1 hh
    try dsimp only at hh
    rw [if_pos (by decide)] at hh
    rw [c3, bo_s]
    have h7 := RP_lex h c4 c5 (by omega) c7
    have hG7 := GP_lex hG c5 (by omega) c7
    have hb7 := RB_lex hb c5 c7
    obtain ⟨hQ, hsc, e112, e113⟩ := RP_Q h7 hG7
    obtain ⟨hR7, _, h109, _, ⟨r35, r36, r37, r201, r202⟩, ⟨q12, F0, p4⟩, p0, hy, h176⟩ := h7
    have h24 := (hR7.2.2.1 0 (by omega)).2.2
    have l0 : LIM 0 = 24 := rfl
    have e105 : (FNx y1 (N1 : Int) (q : Int) F (p : Int) (stp s)) 105 3 = ((N1 + p : Nat) : Int) := hQ.1.2.1.1.1
    have h58 : N1 + p ≤ 58 := hQ.1.2.1.1.2.2.1.1
    have eprm : prm (FNx y1 (N1 : Int) (q : Int) F (p : Int) (stp s)) (q : Int) = (p : Int) := by
      unfold prm
      rw [if_pos ⟨by omega, by omega⟩, Int.toNat_natCast]
      exact e112
    have s6 : (FNx y1 (N1 : Int) (q : Int) F (p : Int) (stp s)) 131 6 = 0 := by
      rw [FN_e q12]
      exact p0
    have s13 : (FNx y1 (N1 : Int) (q : Int) F (p : Int) (stp s)) 131 13 = (q : Int) := by
      rw [FN_e q12]
      rfl
    have s5 : (FNx y1 (N1 : Int) (q : Int) F (p : Int) (stp s)) 137 5 = (stp s) 137 5 := by
      rw [FN_e q12]
      rfl
    have fno := fun k j (z1 : ¬ ((k = 112 ∨ k = 113) ∧ j = q)) (z2 : k ≠ 131) => FN_o (y1 := y1) (F := F) (s := stp s) (b := (N1 : Int)) (z := (p : Int)) q12 k j z1 z2
    have tpo : ∀ k j, ¬ (k = 170 ∧ 22 ≤ j ∧ j ≤ 26) → ¬ (k = 200 ∧ j = q) → (up2 (rfg t7) 200 q ((rfg t7) 177 1)) k j = t7 k j := fun k j z1 z2 => (if_neg z2).trans (rfg_o k j z1)
    have tp2 : (up2 (rfg t7) 200 q ((rfg t7) 177 1)) 200 q = t7 177 1 := up_self.trans (rfg_o 177 1 (by omega))
    have tpf : ∀ j, j ≠ 14 → ¬ (22 ≤ j ∧ j ≤ 26) → (up2 (rfg t7) 200 q ((rfg t7) 177 1)) 170 j = t7 170 j := fun j _ z => tpo 170 j (by omega) (by omega)
    unfold BDx
    rw [e105, eprm, imi_e (by omega), show ((N1 + p : Nat) : Int) - (p : Int) = (N1 : Int) by omega]
    obtain ⟨s', hs'⟩ : ∃ s', s' = FNx y1 (N1 : Int) (q : Int) F (p : Int) (stp s) := ⟨_, rfl⟩
    obtain ⟨t', ht'⟩ : ∃ t', t' = up2 (rfg t7) 200 q ((rfg t7) 177 1) := ⟨_, rfl⟩
    rw [← hs'] at hQ e112 e113 s6 s13 s5 fno ⊢
    rw [← ht'] at hQ hsc tpo tp2 tpf hh
    have hb' : RBx s' t' := RB_eq hb7 ⟨fno 109 0 (by omega) (by omega), fno 109 1 (by omega) (by omega)⟩ (fun k j z => fno k j (by omega) (by omega)) (fun k j z => tpo k j (by omega) (by omega))
    have r201' : t' 201 q = (p : Int) := (tpo 201 q (by omega) (by omega)).trans r201
    have r202' : t' 202 q = F := (tpo 202 q (by omega) (by omega)).trans r202
    have r15' : t' 170 15 = t7 170 15 := tpo 170 15 (by omega) (by omega)
    have h176' : ∀ j : Nat, j < N1 → t' 176 j = y3 := fun j hj => (tpo 176 j (by omega) (by omega)).trans (h176 j hj)
    have hG7x := hG7
    obtain ⟨⟨n1, n2, n3, n4, n5, n6⟩, _⟩ := hG7
    have t1' : t' 177 1 = t7 177 1 := tpo 177 1 (by omega) (by omega)
    have fin : ∀ (M : Nat) (s5' t5 t3 : tab) (md m : Nat) (rt : Int), ((y1 = 0 ∧ md = 5) ∨ (y1 ≠ 0 ∧ md = 1 ∧ m = 0)) → (md = 1 → s5' 104 rt.toNat = -1) → N1 ≤ M → RQx T n e M (gRt H q y1 (stp s) t7) s5' t5 → FSc s' s5' → FSr (N1 + p) t' t5 → s' 137 5 < s5' 137 5 → (t5 170 21 = -1 → CO s5' t5 (gRt H q y1 (stp s) t7).2.2.2.1 md m (s' 99 12).toNat (s5' 99 12).toNat rt (t' 177 1).toNat (t5 177 1).toNat (t' 177 10).toNat (t5 177 10).toNat 0 (cxt (gRt H q y1 (stp s) t7) s5' t5)) → 0 ≤ rt → PFx s' t' s5' t5 → t5 177 1 + 12 * s' 137 5 ≤ t' 177 1 + 12 * s5' 137 5 → FBx s' t' s5' t5 → (∀ k j, ¬ (k = 170 ∧ j = 14) → t3 k j = (pt1 t5 12) k j) → rc 65 [(q : Int), y3, (N1 : Int), 0] t3 = some v → ORx T n e s (cG 52 [(q : Int), rt] (ncu s5' (N1 : Int))) v := fun M s5' t5 t3 md m rt hmd h104 hM f3 f4 f5 f6 hco hrt hpf hnum hfb ht3 hh => by
      have hin5 := RL_in f3.1.1
      obtain ⟨u1, u2, u3, u4, u5, u6, u7⟩ := f3.1.2.2.2.1
      obtain ⟨cw, cw1⟩ := pt1_cw (t := t5) 12 (by omega)
      obtain ⟨t5', ht5'⟩ : ∃ t5', t5' = pt1 t5 12 := ⟨_, rfl⟩
      rw [← ht5'] at cw cw1 ht3
      have ec := cw.1
      obtain ⟨r1, r2, r3, r4⟩ := RE_cw f3.1 cw (by omega)
      have hQ5 := RQ_E f3 r1 FEc_rf r2
      have f5' : FSr (N1 + p) t' t5' := FSr_tr f5 (FSr_E r2)
      have u201 : t5' 201 q = (p : Int) := (f5'.2.2.2.2.2.1 q).trans r201'
      have u202 : t5' 202 q = F := (f5'.2.2.2.2.2.2 q).trans r202'
      have hv := h277 t3 q p F y3 (N1 : Int) 0 v (by rw [ht3 201 q (by omega)]; omega) (by rw [ht3 202 q (by omega)]; exact u202) F0 (by omega) (by omega) (by omega) hh
      obtain ⟨s9, g1, g2, g3, g4, g5, g6, g7, g8, g9, g10, g11, g12⟩ := p_rend (N1 := N1) (q := q) (p := p) (F := F) (y3 := y3) (rt := rt) ⟨rfl, rfl, rfl⟩ hQ5 hM (f4.2.2.1.trans s13) q12 u201 ((f4.1 q).trans e112) ((f4.2.1 q).trans e113) p4 F0 (by omega) (f4.2.2.2.2.1.trans s6) (by rw [f5'.1, r15']; exact hy) (fun j hj => (f5'.2.1 176 j (by omega) (by omega)).trans (h176' j hj)) (t3 := t3) ht3
      obtain ⟨t9, ht9⟩ : ∃ t9, t9 = efR q y3 (N1 : Int) (up2 t3 170 22 (orb F p 0 (t3 170 22))) := ⟨_, rfl⟩
      rw [← ht9] at hv g2 g7 g8 g9 g10 g11 g12
      have m5 : ∀ j, t5' 170 j = t5 170 j := fun j => CW_k cw (by omega)
      have tg : ∀ k j, ¬ ((195 ≤ k ∧ k ≤ 199) ∧ j = q) → k ≠ 170 → ¬ (k = 177 ∧ (j = 1 ∨ j = 3)) → ¬ (k = 178 ∧ (t5 177 1).toNat ≤ j) → t9 k j = t5 k j := fun k j z1 z2 z3 z4 => (g7 k j z1 (by omega)).trans (cw.2 k j z3 z4)
      have hob := fun v => mbt_orb (F := F) p 0 (t5 170 22) v (by omega) (by omega)
      have hnew := GD_new (O := orb F p 0 (t5 170 22)) (md := md) (m := m) (root := rt) (s := stp s) (t := t7) (s' := s') (t' := t') (s5 := s5') (t5 := t5) (s9 := s9) (t9 := t9) hG7x (fun k j z => fno k j (by omega) (by omega)) (fun k j z => tpo k j (by omega) (by omega)) tp2 f3.1.2.2.2 (f4.2.2.1.trans s13) hpf hfb hco hmd h104 (f4.2.2.2.2.1.trans s6) (by omega) (fun k j z => g4 k j (by omega) (by omega) (by omega)) g5 hrt (by rw [g6, f3.1.2.1.1.1]; omega) (fun k j z => by
        by_cases e : k = 170
        · rw [e, g7 170 j (by omega) (by omega)]
          exact m5 j
        · exact tg k j (by omega) e (by omega) (by omega)) (by rw [g7 177 1 (by omega) (by omega)]; exact ec) (by rw [g7 178 _ (by omega) (by omega)]; exact cw1) (by rw [g8, m5]) (by rw [g9, m5]) (by rw [g10, m5]) (by rw [g11, m5]) (by rw [g12, m5]) q12 (fun v z => (hob v).1 z) (by rw [f4.1 q, f4.2.1 q, e112, e113]; omega) (fun i hi => by
        rw [f4.1 q, e112] at hi
        rw [f4.2.1 q, e113]
        exact (hob _).2 ⟨by omega, by omega⟩) (by rw [f4.2.1 q, e113]; exact (f5.2.2.2.2.2.2 q).trans r202') (fun v z => by
        rw [f4.1 q, f4.2.1 q, e112, e113]
        have := mbt_orr (F := F) p 0 (t5 170 22) v (by omega) (by omega) z
        rw [Int.add_zero] at this
        exact this) (fun z => by
        rw [f5.2.2.2.2.1, tpo 170 37 (by omega) (by omega), r37, if_pos z]
        decide)
      obtain ⟨H2, hH2⟩ := hnew
      refine ⟨1, _, hv, .inl ⟨rfl, N1, s9, g1, g2, by omega, H2, hH2, RB_eq (hfb.1 hb') ⟨g4 109 0 (by omega) (by omega) (by omega), g4 109 1 (by omega) (by omega) (by omega)⟩ (fun k j z => g4 k j (by omega) (by omega) (by omega)) (fun k j z => tg k j (by omega) (by omega) (by omega) (by omega))⟩⟩
    by_cases y : y1 = 0
    · rw [if_pos y] at hh ⊢
      rcases bo_inv hh with ⟨h9, _⟩ | ⟨z6, t6, h9, hh⟩
      · obtain ⟨z, t9, w1, _⟩ := hY T n e (N1 + p) _ _ _ (N1 : Int) _ hQ hsc s6 h9
        cases w1
      · obtain ⟨z, t9, w1, w2⟩ := hY T n e (N1 + p) _ _ _ (N1 : Int) _ hQ hsc s6 h9
        cases w1
        rcases w2 with ⟨rfl, M, s5', m, yy, f1, f2, f3, f4, f5, f6, k1, ⟨k2, k3⟩, k4, ⟨k5, k6, k7⟩, k8⟩ | ⟨rfl, f1⟩
        · rw [if_pos (by decide)] at hh
          rw [f1, bo_s]
          exact fin M s5' t6 _ 5 m yy (.inl ⟨y, rfl⟩) (fun q => absurd q (by omega)) (by omega) f3 f4 f5 f6 k1 k3 k4 (by omega) k8 (fun _ _ _ => rfl) hh
        · rw [if_neg (by decide)] at hh
          cases hh
          refine OR_no ?_
          rw [f1]
          rfl
    · rw [if_neg y] at hh ⊢
      rcases bo_inv hh with ⟨h9, _⟩ | ⟨z6, t6, h9, hh⟩
      · obtain ⟨z, t9, w1, _⟩ := hB T n e (N1 + p) _ _ _ 0 (N1 : Int) _ (RQ_w hQ) hsc (by omega) (by omega) s6 h9
        cases w1
      · obtain ⟨z, t9, w1, w2⟩ := hB T n e (N1 + p) _ _ _ 0 (N1 : Int) _ (RQ_w hQ) hsc (by omega) (by omega) s6 h9
        cases w1
        rcases w2 with ⟨rfl, M, s5', t5, f1, f0, f2, f3, f4, f5, f6, k1, k2, k3, k4, ⟨k5, k6, k7⟩, k8⟩ | ⟨rfl, f1⟩
        · rw [if_neg (by decide)] at hh
          rw [f1, bo_s]
          have hz := hQ.1.2.2.2.1.1
          refine fin M s5' t5 _ 1 0 (s5' 99 12 - 1) (.inr ⟨y, rfl, rfl⟩) (fun _ => k3) (by omega) f3 f4 f5 f6 k1 (by omega) k4 k6 k8 (fun k j z => ?_) hh
          rw [f0, pt1_c]
          exact if_neg z
        · rw [if_pos rfl] at hh
          cases hh
          refine OR_no ?_
          rw [f1]
          rfl
  · have hh := bxr hrc c1 hh
    try dsimp only at hh
    rw [if_neg (by decide)] at hh
    cases hh
    refine OR_no ?_
    rw [c3]
    rfl
/-- one PARAMETER more -/
theorem p_more (hrc : rle rc rG) (h131 : P131 rc) {v : Option (Int × tab)} (h : RPx T n e N1 p q F y1 y3 s t) (hG : GPy H q y1 s t) (hb : RBx s t) (p3 : p ≤ 3) (hh : (bo (rc 17 [0] t) fun z29 t29 => if z29 ≠ 0 then rc 64 [y1, (q : Int), y3, (N1 : Int)] (up2 t29 201 q (ipl (t29 201 q) 1)) else some (some (0, t29))) = some v) : ORx T n e s (bo (cG 32 [(N1 : Int)] s) fun _ s10 => WRx y1 (N1 : Int) (q : Int) F ((p : Int) + 1) s10) v := by
  obtain ⟨hH, hsc, h109, hnm, ⟨r35, r36, r37, r201, r202⟩, ⟨q12, F0, p4⟩, p0, hy, h176⟩ := h
  rw [cG_45]
  unfold cM45
  rcases p_int (b := (N1 : Int)) hH hsc with ⟨t9, a1, a2⟩ | ⟨s2, t2, a2, a3, a4, a5, a6, a7, a8, a9, a10, a11, a12⟩
  · have hh := bxr hrc a1 hh
    try dsimp only at hh
    rw [if_neg (by decide)] at hh
    cases hh
    refine OR_no ?_
    rw [a2]
    rfl
  · have hh := bxr hrc a2 hh
    try dsimp only at hh
    rw [if_pos (by decide)] at hh
    have m0 := (hH.2.2.1 0 (by omega)).2.1
    have hsbi : sbi s2 (s 109 0) 0 = up2 s2 110 (s 109 0).toNat 0 := by
      unfold sbi
      exact if_pos (by omega)
    rw [a3, bo_s, bo_s, hsbi]
    obtain ⟨mm, hmm⟩ : ∃ mm : Nat, mm = (s 109 0).toNat := ⟨_, rfl⟩
    rw [← hmm] at hh ⊢
    have a4 := H_b1 a4 mm mm 0 0
    have tk : ∀ j, 10 ≤ j → j ≠ 14 → t2 170 j = t 170 j := fun j z1 z2 => a7.1 170 j (by unfold lexs; omega) (by omega) (by omega)
    have t201 : t2 201 q = (p : Int) := (a7.1 201 q (by unfold lexs; omega) (by omega) (by omega)).trans r201
    have t202 : t2 202 q = F := (a7.1 202 q (by unfold lexs; omega) (by omega) (by omega)).trans r202
    have e9 : s2 109 0 = s 109 0 + 1 := by rw [a11, if_pos rfl]
    have hn : RPx T n e N1 (p + 1) q F y1 y3 (up2 s2 110 mm 0) (up2 (up2 t2 179 mm 0) 201 q (ipl ((up2 t2 179 mm 0) 201 q) 1)) := by
      obtain ⟨hL, ⟨b1, b2, b3, b4, b5⟩, hC, hR, hP, ⟨d1, d2, d3, d4⟩, hU⟩ := a4
      obtain ⟨l1, ⟨l2, l2', l2''⟩, l3, l4, l5⟩ := hL
      refine ⟨⟨⟨l1, ⟨l2, l2', l2''⟩, l3, l4, l5⟩, ⟨b1, b2, b3, b4, b5⟩, hC, fun r z1 z2 => ?_, hP, ⟨d1, d2, d3, d4⟩, hU⟩, a5, (show s2 109 0 = F + ((p + 1 : Nat) : Int) by omega), fun j hj => ?_, ⟨(tk 35 (by omega) (by omega)).trans r35, (tk 36 (by omega) (by omega)).trans r36, (tk 37 (by omega) (by omega)).trans r37, ?_, t202⟩, ⟨q12, F0, by omega⟩, (a6.1 131 6 (by omega) (by omega)).trans p0, ?_, fun j hj => (a7.2 176 j (by omega) (by omega)).trans (h176 j hj)⟩
      · obtain ⟨w1, w2⟩ := hR r z1 z2
        exact ⟨(if_neg (by omega)).trans w1, w2⟩
      · by_cases ej : j = N1 + p
        · subst ej
          show ((N1 : Int) ≤ ((N1 + p : Nat) : Int) → s2 107 (N1 + p) = 0 ∧ F ≤ s2 108 (N1 + p)) ∧ (((N1 + p : Nat) : Int) < (N1 : Int) → s2 107 (N1 + p) = 0 → s2 108 (N1 + p) < F)
          rw [a9, a10]
          exact ⟨fun _ => ⟨rfl, by omega⟩, fun z => absurd z (by omega)⟩
        · show ((N1 : Int) ≤ (j : Int) → s2 107 j = 0 ∧ F ≤ s2 108 j) ∧ ((j : Int) < (N1 : Int) → s2 107 j = 0 → s2 108 j < F)
          rw [(a8 j (by omega)).1, (a8 j (by omega)).2]
          exact hnm j (by omega)
      · rw [up_self, show (up2 t2 179 mm 0) 201 q = t2 201 q from if_neg (by omega), t201, ipl_e (by omega)]
        omega
      · show 0 ≤ y3 ∧ y3 < t2 170 15
        rw [tk 15 (by omega) (by omega)]
        exact hy
    have hG2 : GPy H q y1 (up2 s2 110 mm 0) (up2 (up2 t2 179 mm 0) 201 q (ipl ((up2 t2 179 mm 0) 201 q) 1)) := by
      refine GP_fr hG (fun k j z => (if_neg (by omega)).trans (a6.1 k j (by omega) (by omega))) ?_ ?_ (fun j hj z => ?_) (fun k j z => (if_neg (by omega)).trans ((if_neg (by omega)).trans (a7.1 k j (by unfold lexs; omega) (by omega) (by omega)))) ⟨show s 109 0 ≤ s2 109 0 by rw [a11, if_pos rfl]; omega, show s 109 1 ≤ s2 109 1 by rw [a11, if_neg (by omega)]; exact Int.le_refl _⟩
      · show s 137 5 ≤ s2 137 5
        rw [a6.2]
        omega
      · show s2 109 5 = s 109 5
        rw [a11, if_neg (by omega)]
      · have hj : (j : Int) < s2 105 3 := hj
        have z : s2 107 j = 6 ∨ s2 107 j = 5 := z
        have h32 : s2 105 3 = ((N1 + p + 1 : Nat) : Int) := a4.2.1.1
        have h3 := hH.2.1.1
        by_cases ej : j = N1 + p
        · rw [ej, a9] at z
          omega
        · have := a8 j (by omega)
          exact ⟨by omega, this.1, this.2⟩
    have hb2 : RBx (up2 s2 110 mm 0) (up2 (up2 t2 179 mm 0) 201 q (ipl ((up2 t2 179 mm 0) 201 q) 1)) := by
      refine ⟨fun v hv => ?_, fun v hv => ?_⟩
      · have hv : (v : Int) < s2 109 0 := hv
        show (up2 t2 179 mm 0) 179 v = (up2 s2 110 mm 0) 110 v
        by_cases ev : v = mm
        · rw [ev, up_self, up_self]
        · rw [show (up2 s2 110 mm 0) 110 v = s2 110 v from if_neg (by omega), a6.1 110 v (by omega) (by omega), show (up2 t2 179 mm 0) 179 v = t2 179 v from if_neg (by omega), a7.1 179 v (by unfold lexs; omega) (by omega) (by omega)]
          exact hb.1 v (by omega)
      · have hv : (v : Int) < s2 109 1 := hv
        rw [a11, if_neg (by omega)] at hv
        show t2 180 v = s2 111 v
        rw [a6.1 111 v (by omega) (by omega), a7.1 180 v (by unfold lexs; omega) (by omega) (by omega)]
        exact hb.2 v hv
    have := h131 T n e N1 (p + 1) q F y1 y3 _ _ v hn ⟨H, hG2⟩ hb2 hh
    rw [if_neg (by omega), show ((p + 1 : Nat) : Int) = (p : Int) + 1 by omega] at this
    exact OR_pre this (show s 137 5 ≤ s2 137 5 by rw [a6.2]; omega)
theorem p_131 (hrc : rle rc rG) (hY : PYx rc) (hB : PBx rc) (h277 : P277 rc) (h131 : P131 rc) : ∀ (T : Nat → Int) (n e N1 p q : Nat) (F y1 y3 : Int) (s t : tab) (v : Option (Int × tab)), RPx T n e N1 p q F y1 y3 s t → (∃ H, GPy H q y1 s t) → RBx s t → rM129_131 rc y1 (q : Int) y3 (N1 : Int) t = some v → ORx T n e s (if p = 0 then WQx y1 (N1 : Int) (q : Int) F s else WRx y1 (N1 : Int) (q : Int) F (p : Int) s) v := by
  intro T n e N1 p q F y1 y3 s t v h hGx hb hh
  obtain ⟨H, hG⟩ := hGx
  unfold rM129_131 at hh
  rw [Int.toNat_natCast] at hh
  have r201 : t 201 q = (p : Int) := h.2.2.2.2.1.2.2.2.1
  have p4 : p ≤ 4 := h.2.2.2.2.2.1.2.2
  have hL := h.1.1
  by_cases p0 : p = 0
  · rw [if_neg (show ¬ (t 201 q ≠ 0) by omega)] at hh
    rw [if_pos p0]
    have hh := bxr hrc (RL_is is_24 hL) hh
    try dsimp only at hh
    unfold WQx
    by_cases k1 : kkd s = 41
    · rw [if_pos k1, if_pos (by decide)] at hh
      rw [if_neg (fun z => z k1)]
      have := p_close hrc hY hB h277 h hG hb hh
      rw [show (p : Int) = 0 by omega] at this
      exact this
    · rw [if_neg k1, if_neg (by decide), if_pos (show t 201 q ≤ 0 by omega), if_pos (show t 201 q ≠ 4 by omega)] at hh
      rw [if_pos k1, cG_44]
      unfold cM44
      rw [bo_as]
      have := p_more hrc h131 h hG hb (by omega) hh
      rw [show (p : Int) + 1 = 1 by omega] at this
      exact this
  · rw [if_pos (show t 201 q ≠ 0 by omega)] at hh
    rw [if_neg p0]
    have hh := bxr hrc (RL_is is_26 hL) hh
    try dsimp only at hh
    unfold WRx
    rw [cG_44_7]
    unfold cM44_7
    rw [if_neg (show ¬ (2000 ≤ (p : Int)) by omega)]
    by_cases k1 : kkd s = 44
    · rw [if_pos k1, if_neg (by decide), if_neg (show ¬ (t 201 q ≤ 0) by omega)] at hh
      rw [if_neg (show ¬ (kkd s ≠ 44) from fun z => z k1)]
      have stk := RL_stk hL (by omega) (by omega)
      obtain ⟨t9, d1, d2, d3, d4⟩ := RL_step hL (by omega) (by omega)
      have hh := bxr hrc d1 hh
      try dsimp only at hh
      have h9 := RP_lex h d2 stk (by omega) d4
      have u201 : t9 201 q = (p : Int) := h9.2.2.2.2.1.2.2.2.1
      by_cases k2 : p = 4
      · rw [if_neg (show ¬ (t9 201 q ≠ 4) by omega)] at hh
        rw [if_pos (by omega)]
        cases hh
        exact OR_no rfl
      · rw [if_pos (show t9 201 q ≠ 4 by omega)] at hh
        rw [if_neg (by omega), bo_as]
        exact OR_pre (p_more hrc h131 h9 (GP_lex hG stk (by omega) d4) (RB_lex hb stk d4) (by omega) hh) (by omega)
    · rw [if_neg k1, if_pos rfl] at hh
      rw [if_pos k1, bo_s]
      exact p_close hrc hY hB h277 h hG hb hh
end ROUT2
