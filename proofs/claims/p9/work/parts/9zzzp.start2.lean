/-! The beginning of a run. -/
section START2
variable {K : SCt} {W : Prop} {r s s2 s4 s5 : tab} {Q Q4 Q5 : Nat → Nat} {act : Nat → Prop} {lf dr : Nat → Int} {LG : Nat → Prop} {M n root : Nat}
theorem KO_s {y : Int} {ch md l : Nat} {S B : List Int} {tp : Int} (e : ∀ k j, k = 100 ∨ 143 ≤ k ∧ k ≤ 146 → s2 k j = s k j) (hs : ∀ j, s 100 j = K.1 100 j) (h : KO K s act y ch md l S B tp) : KO K s2 act y ch md l S B tp := by
  obtain ⟨k, hk⟩ := h
  exact ⟨k, KON_mv (X := fun _ => False) (fun p w => w.elim) (fun z az _ => ⟨az, e 143 z (by omega), e 144 z (by omega), e 146 z (by omega)⟩) (fun z w => w.elim) (fun j => e 100 j (by omega)) hs (fun z c _ _ _ _ na => ⟨na, e 145 _ (by omega)⟩) k _ _ _ _ _ _ (fun p w => w.elim) hk⟩
/-- the first run -/
theorem REL_0 (hK : SPK K) (hroot : K.1 99 13 = (root : Int)) (hPS : PSy M K.2.2.2.1 K.2.2.2.2.2 s (fun q => if q = root then 1 else 0) (fun q => q = root)) (hst : ∀ k j, 99 ≤ k ∧ k ≤ 114 → s k j = K.1 k j) (hcd : ∀ i, r 178 i = cd K i) (e3 : s 143 root = -1) (e4 : s 144 root = -1) (h7 : ∀ p, s 147 p = 0) (h13 : s 142 13 = 0) (hL : ∀ L, L < 12 → s 152 L = -1 ∧ s 153 L = -1) (hsh : SHx K r s) (h55 : r 170 55 = 1) (h6 : r 206 0 = 1) (h5 : r 205 0 = K.2.1 177 2) (h8 : r 208 0 = 0) (h9 : r 209 0 = 0) (h53 : r 170 53 = 0) (h54 : 0 ≤ r 170 54 ∧ r 170 54 ≤ 20000) (h52 : r 170 52 = 2) : REL K M False r s (fun q => if q = root then 1 else 0) 0 (fun q => q = root) (fun _ => (root : Int)) (fun _ => -1) (fun _ => False) := by
  have b0 : ∀ b, LVb r b → b = 0 := fun b w => by have := w.1; omega
  have lv : LVb r 0 := ⟨by omega, by omega⟩
  refine ⟨hPS, ⟨hst, hcd⟩, fun b w => ?_, fun b b2 w1 w2 _ _ => by rw [b0 b w1, b0 b2 w2], fun p ap _ => ⟨0, lv, ?_⟩, fun p ap bp => ?_, hsh, fun y ay _ ty => ?_, fun L w => ?_, ?_, fun p w => w.elim, by omega, by omega, by omega, by omega, h54.2, h52, fun p w => absurd (h7 p) w, .inl h13⟩
  · rw [b0 b w]
    obtain ⟨a, b9, l, k0, k1, ⟨c, c1, c2, c3, c4, c5⟩, c6⟩ := hK.2.1
    have rt := CO_rt (CL_co c1) (by omega)
    rw [hroot] at c1 rt
    have eb : b9 = root + 1 := by omega
    subst eb
    have st0 := hK.2.2.2.2.1.2.2.2.1
    refine ⟨by omega, .inl ⟨h6, root, 1, (K.2.1 177 2).toNat, l, a, k0, k1, c, [], [], -1, rfl, rfl, rfl, if_pos rfl, e4, fun w => w, by omega, ⟨c1, ⟨c2, c5⟩, c3, c4⟩, ⟨by omega, ⟨h8, trivial⟩, h9, trivial⟩, ?_, .inl rfl⟩⟩
    rw [e3]
    exact ⟨1, .inl ⟨rfl, rfl, c6, c4, rfl, rfl, rfl⟩⟩
  · have ap : p = root := ap
    rw [ap]
  · have ap : p = root := ap
    have := bp.2
    rw [ap] at this
    omega
  · have ay : y = root := ay
    rw [ay] at ty
    omega
  · have := hL L (by omega)
    omega
  · rw [h53, smx_z M (fun z _ => ?_)]
    · rfl
    · unfold pfx
      rw [ind_f (fun w => ?_), ind_f (fun w : False => w)]
      · rfl
      · have az : z = root := w.1
        have := w.2.2
        rw [az] at this
        omega
/-- steps are counted anew -/
theorem REL_nw {m : Int} (hR : REL K M W r s Q n act lf dr LG) (h0 : smx (pfx K s act LG) M = 0) (hm : 1 ≤ m ∧ m ≤ 20000) : REL K M W (up2 (up2 (up2 r 170 53 0) 170 54 m) 170 52 2) s Q 0 act lf dr LG := by
  obtain ⟨hPS, ⟨hst, hcd⟩, hBR, hinj, hcov, hdrs, hsh, hcn, hex, hst53, hLG, g1, g2, g3, g4, g5, g6, g7, g8⟩ := hR
  obtain ⟨rz, hrz⟩ : ∃ rz, rz = up2 (up2 (up2 r 170 53 0) 170 54 m) 170 52 2 := ⟨_, rfl⟩
  rw [← hrz]
  have o : ∀ k j, ¬ (k = 170 ∧ (j = 52 ∨ j = 53 ∨ j = 54)) → rz k j = r k j := fun k j w => by
    rw [hrz]
    exact (if_neg (by omega)).trans ((if_neg (by omega)).trans (if_neg (by omega)))
  have e52 : rz 170 52 = 2 := by rw [hrz]; exact up_self
  have e54 : rz 170 54 = m := by rw [hrz]; exact (if_neg (by omega)).trans up_self
  have e53 : rz 170 53 = 0 := by rw [hrz]; exact (if_neg (by omega)).trans ((if_neg (by omega)).trans up_self)
  have e55 := o 170 55 (by omega)
  have lv : ∀ b, LVb rz b ↔ LVb r b := fun b => by
    unfold LVb
    rw [e55, o 206 b (by omega)]
  refine ⟨hPS, ⟨hst, fun i => (o 178 i (by omega)).trans (hcd i)⟩, fun b w => BR_r (hBR b ((lv b).mp w)) (fun _ _ => Iff.rfl) (fun k j w => o k j (by omega)) (fun tp q => ?_), fun b b2 w1 w2 => hinj b b2 ((lv b).mp w1) ((lv b2).mp w2), fun p ap np => ?_, fun p ap bp => ?_, SH_fr hsh (fun k j w => o k j (by omega)) (fun _ _ _ => rfl), fun y ay ky ty => by rw [o 204 _ (by omega)]; exact hcn y ay ky ty, hex, by rw [e53, h0]; rfl, hLG, by omega, by omega, by omega, by omega, by omega, e52, g7, g8.imp id (fun w => ⟨w.1, w.2.1, ?_⟩)⟩
  · rcases q with q | ⟨q, q1, q2, q3, q4, q5, q6, q7⟩
    · exact .inl q
    · exact .inr ⟨q, (o 210 b (by omega)).trans q1, by rw [e55]; exact q2, q3, (o 206 q (by omega)).trans q4, q5, q6, q7⟩
  · obtain ⟨b, w1, w2⟩ := hcov p ap np
    exact ⟨b, (lv b).mpr w1, w2⟩
  · rw [hdrs p ap bp]
    exact smx_c (fun i _ => ind_e (by rw [lv i]))
  · obtain ⟨b, w1, w2⟩ := w.2.2
    exact ⟨b, (lv b).mpr w1, (o 206 b (by omega)).trans w2⟩
/-- those that wait for an in or out are ready again -/
theorem REL_wk (hR : REL K M True r s Q n act lf dr LG) (q0 : ∀ p, Q p = 0) (w1 : WKx 152 8 s Q s4 Q4) (w2 : WKx 153 8 s4 Q4 s5 Q5) (hP : PSy M K.2.2.2.1 K.2.2.2.2.2 s5 Q5 act) : REL K M False r s5 Q5 n act lf dr LG := by
  obtain ⟨hPS, ⟨hst, hcd⟩, hBR, hinj, hcov, hdrs, hsh, hcn, hex, hst53, hLG, g1, g2, g3, g4, g5, g6, g7, g8⟩ := hR
  obtain ⟨⟨cx, anc, hJ⟩, _⟩ := id hPS
  have ln := hJ.2.2.2.2.2.2.2.1
  have o : ∀ k j, ¬ ((k = 152 ∨ k = 153) ∧ 8 ≤ j) → s5 k j = s k j := fun k j w => by
    rw [w2.1, if_neg (by omega), w1.1, if_neg (by omega)]
  have s43 : ∀ L, s4 153 L = s 153 L := fun L => by rw [w1.1, if_neg (by omega)]
  have ws : ∀ L x : Nat, L < 12 → s 152 L = (x : Int) → s 100 x = 406 ∧ s 101 x = (L : Int) := fun L x l e => by
    have w := (ln L l).1.2 (by omega)
    rw [e, Int.toNat_natCast] at w
    exact ⟨w.2.2.2.1, w.2.2.2.2.1⟩
  have wr : ∀ L x : Nat, L < 12 → s 153 L = (x : Int) → s 100 x = 407 ∧ s 101 x = (L : Int) := fun L x l e => by
    have w := (ln L l).2.2 (by omega)
    rw [e, Int.toNat_natCast] at w
    exact ⟨w.2.2.2.1, w.2.2.2.2.1⟩
  have LGn : ∀ z, ¬ LG z := fun z w => by
    have := (hLG z w).2.1
    rw [q0] at this
    omega
  have Q5n : ∀ x : Nat, (∀ L, 8 ≤ L → L < 12 → s 152 L ≠ (x : Int)) → (∀ L, 8 ≤ L → L < 12 → s 153 L ≠ (x : Int)) → Q5 x = 0 := fun x a b => ((w2.2 x).2 (fun L u v e => b L u v (by rw [← s43]; exact e))).trans (((w1.2 x).2 a).trans (q0 x))
  have Q5s : ∀ x L : Nat, 8 ≤ L → L < 12 → s 152 L = (x : Int) → Q5 x = 1 := fun x L a b e => ((w2.2 x).2 (fun L2 u v e2 => by
    rw [s43] at e2
    have v1 := wr L2 x v e2
    have v2 := ws L x b e
    omega)).trans ((w1.2 x).1 ⟨L, a, b, e⟩)
  have Q5r : ∀ x L : Nat, 8 ≤ L → L < 12 → s 153 L = (x : Int) → Q5 x = 1 := fun x L a b e => (w2.2 x).1 ⟨L, a, b, by rw [s43]; exact e⟩
  have pb : ∀ x, PBg s5 x ↔ PBg s x := fun x => by
    unfold PBg
    rw [o 100 x (by omega), o 144 x (by omega)]
  have ko : ∀ {y : Int} {ch md l : Nat} {S B : List Int} {tp : Int}, KO K s act y ch md l S B tp → KO K s5 act y ch md l S B tp := fun h => KO_s (fun k j w => o k j (by omega)) (fun j => hst 100 j (by omega)) h
  refine ⟨hP, ⟨fun k j w => (o k j (by omega)).trans (hst k j w), hcd⟩, fun b lv => ⟨(hBR b lv).1, ?_⟩, hinj, fun p ap np => hcov p ap (fun q aq e => np q aq ((o 143 q (by omega)).trans e)), fun p ap bp => ?_, SH_fr hsh (fun _ _ _ => rfl) (fun k j w => o k j (by omega)), fun y ay ky ty => by rw [o 144 y (by omega)] at ty ⊢; exact hcn y ay ky ty, fun L w => by rw [o 152 L (by omega), o 153 L (by omega)]; exact hex L w, ?_, fun p w => absurd w (LGn p), g1, g2, g3, g4, g5, g6, fun p w => ?_, ?_⟩
  · rcases (hBR b lv).2 with ⟨_, z, _, _, _, _, _, _, _, _, _, _, h1, _, h3, h4, _⟩ | ⟨_, z, _, _, _, _, _, h1, _, h3, h4, _⟩ | ⟨_, z, _, _, _, _, _, _, _, _, _, _, _, h1, _, h3, h4, _⟩ | ⟨c0, l, pc, tp, d1, d2, d3, d4, d5, d6⟩ | ⟨x, l, S, B, v, tp, h1, h2, h3, h4, h5, h6, h7, h8, h9, h10, h11, h12, h13⟩ | ⟨x, m, S, B, P, tp, h1, h2, h3, h4, h5, h6, h7, h8, h9, h10, h11, h12, h13⟩ | ⟨c0, x, f, l, S, B, tp, j1, j2, j3, j4, j5, j6, j7, j8, j9, j10, j11, j12, j13, j14⟩
    · rw [q0] at h4; omega
    · rw [q0] at h4; omega
    · rw [q0] at h4; omega
    · exact .inr (.inr (.inr (.inl ⟨c0, l, pc, tp, d1, d2, d3, d4, d5.imp (fun w => ⟨w.1, w.2.1, w.2.2.1, (o 142 13 (by omega)).trans w.2.2.2.1, w.2.2.2.2⟩) (fun w => ⟨w.1, w.2.1, w.2.2.1, (pb _).mpr w.2.2.2.1, w.2.2.2.2⟩), d6⟩)))
    · refine .inr (.inr (.inr (.inr (.inl ⟨x, l, S, B, v, tp, h1, h2, h3, h4, h5, by rw [o 144 x (by omega)]; exact h6, h7, ⟨h8.1, h8.2.1, h8.2.2.1, (o 145 _ (by omega)).trans h8.2.2.2⟩, h9, h10, ?_, by rw [o 143 x (by omega)]; exact ko h12, h13⟩))))
      have k0 := hst 100 x (by omega)
      have k1 := hst 101 x (by omega)
      rcases h11 with w | ⟨_, _, e⟩
      · rw [q0] at w; omega
      · by_cases c8 : K.1 101 x < 8
        · exact .inr ⟨.inr c8, Q5n x (fun L u v e2 => by have := ws L x v e2; omega) (fun L u v e2 => by have := wr L x v e2; omega), (o 152 _ (by omega)).trans e⟩
        · exact .inl (Q5s x (K.1 101 x).toNat (by omega) (by omega) e)
    · obtain ⟨_, _, _, _, _, _, rc6, rc7, _⟩ := id h6
      have hsb : SBp K (PVy K s5 act x) x P := by
        rcases h7 with w | ⟨w1, v, w2, w3, w4, w5, w6⟩
        · exact .inl w
        · exact .inr ⟨w1, v, w2, w3, w4, w5, (o 145 _ (by omega)).trans w6⟩
      refine .inr (.inr (.inr (.inr (.inr (.inl ⟨x, m, S, B, P, tp, h1, h2, h3, h4, (o 147 x (by omega)).trans h5, h6, hsb, by rw [o 144 x (by omega)]; exact h8, by rw [o 144 x (by omega)]; exact h9, h10, ?_, by rw [o 143 x (by omega)]; exact ko h12, h13⟩)))))
      have k0 := hst 100 x (by omega)
      have k1 := hst 101 x (by omega)
      rcases h11 with w | ⟨_, _, w, e⟩
      · rw [q0] at w; omega
      · by_cases c8 : K.1 101 x < 8
        · exact .inr ⟨.inr c8, Q5n x (fun L u v e2 => by have := ws L x v e2; omega) (fun L u v e2 => by have := wr L x v e2; omega), by rw [o 144 x (by omega)]; exact w, (o 153 _ (by omega)).trans e⟩
        · exact .inl (Q5r x (K.1 101 x).toNat (by omega) (by omega) e)
    · exact .inr (.inr (.inr (.inr (.inr (.inr ⟨c0, x, f, l, S, B, tp, j1, j2, j3, (pb x).mpr j4, j5, by rw [o 144 x (by omega)]; exact j6, j7, j8, j9, j10, j11, j12, by rw [o 143 x (by omega)]; exact ko j13, j14⟩)))))
  · have bp := (pb p).mp bp
    have k := bp.1
    have e := Q5n p (fun L u v e2 => by have := ws L p v e2; omega) (fun L u v e2 => by have := wr L p v e2; omega)
    rw [e, ← q0 p]
    exact hdrs p ap bp
  · rw [hst53]
    refine congrArg (r 170 53 + ·) (smx_c (fun z _ => ?_))
    unfold pfx
    refine congrArg (· - ind (LG z)) (ind_e ?_)
    unfold PNd
    rw [o 144 z (by omega)]
  · rw [o 147 p (by omega)] at w
    obtain ⟨v1, v2, v3⟩ := g7 p w
    exact ⟨v1, v2, by rw [o 144 p (by omega)]; exact v3⟩
  · rcases g8 with w | w
    · exact .inl ((o 142 13 (by omega)).trans w)
    · exact .inr ⟨(o 142 13 (by omega)).trans w.1, w.2⟩
end START2
