/-! Parts at SEND and RECEIVE begin to wait in the parts machine too. -/
section WAITX
variable {K : SCt} {W W2 : Prop} {r r1 r2 s s2 : tab} {Q Q2 : Nat → Nat} {act act2 : Nat → Prop} {lf dr : Nat → Int} {LG LG2 : Nat → Prop} {b x M n n2 m l : Nat} {S B P : List Int} {tp v : Int}
theorem BR_W (hw : W → W2) (h : BRx K W r s Q act lf dr LG b) : BRx K W2 r s Q act lf dr LG b := by
  refine ⟨h.1, ?_⟩
  rcases h.2 with h | h | h | h | ⟨x, l, S, B, v, tp, h1, h2, h3, h4, h5, h6, h7, h8, h9, h10, h11, h12, h13⟩ | ⟨x, m, S, B, P, tp, h1, h2, h3, h4, h5, h6, h7, h8, h9, h10, h11, h12, h13⟩ | h
  · exact .inl h
  · exact .inr (.inl h)
  · exact .inr (.inr (.inl h))
  · exact .inr (.inr (.inr (.inl h)))
  · exact .inr (.inr (.inr (.inr (.inl ⟨x, l, S, B, v, tp, h1, h2, h3, h4, h5, h6, h7, h8, h9, h10, h11.imp id (fun q => ⟨q.1.imp hw id, q.2⟩), h12, h13⟩))))
  · exact .inr (.inr (.inr (.inr (.inr (.inl ⟨x, m, S, B, P, tp, h1, h2, h3, h4, h5, h6, h7, h8, h9, h10, h11.imp id (fun q => ⟨q.1.imp hw id, q.2⟩), h12, h13⟩)))))
  · exact .inr (.inr (.inr (.inr (.inr (.inr h)))))
theorem REL_W (hw : W → W2) (h : REL K M W r s Q n act lf dr LG) : REL K M W2 r s Q n act lf dr LG := ⟨h.1, h.2.1, fun b q => BR_W hw (h.2.2.1 b q), h.2.2.2⟩
/-- two that send on one line, two that receive: they are one -/
theorem one_ch (hPS : PSy M K.2.2.2.1 K.2.2.2.2.2 s Q act) {x y : Nat} (ax : act x) (ay : act y) (nx : NoC s act x) (ny : NoC s act y) (hk : s 100 x = 406 ∧ s 100 y = 406 ∨ s 100 x = 407 ∧ s 100 y = 407) (he : s 101 x = s 101 y) : x = y := Classical.byContradiction fun ne => by
  obtain ⟨⟨cx, anc, hJ⟩, _⟩ := hPS
  have nc := J_nc hJ ⟨ax, nx⟩ ⟨ay, ny⟩ ne
  obtain ⟨_, _, _, _, _, _, _, _, _, a7, a8, _⟩ := EF_k (hJ.2.2.1 x ax).1
  obtain ⟨_, _, _, _, _, _, _, _, _, b7, b8, _⟩ := EF_k (hJ.2.2.1 y ay).1
  rcases hk with ⟨k1, k2⟩ | ⟨k1, k2⟩
  · have u := (a7 k1).1.2.2
    have w := (b7 k2).1.2.2
    rw [he] at u
    exact nc.2.2.2 _ ⟨u, w⟩
  · have u := (a8 k1).1.2.2
    have w := (b8 k2).1.2.2
    rw [he] at u
    exact nc.2.2.2 _ ⟨u, w⟩
/-- a SEND that finds none begins to wait -/
theorem wt_s (hR : REL K M W r s Q n act lf dr LG) (hb : LVb r b) (hS : SND K W r s Q act lf dr LG b) (hl : lf b = (x : Int)) (q1 : Q x = 1) (hWl : W ∨ K.1 101 x < 8) (hno : K.1 101 x < 8 → s 153 (K.1 101 x).toNat < 0) (hfull : 8 ≤ K.1 101 x → 40 ≤ s (162 + 2 * (K.1 101 x - 8).toNat) 2) : ∃ s2 Q2 n2, stx (s, Q, n) x = (s2, Q2, n2) ∧ REL K M W r s2 Q2 n2 act lf dr LG ∧ Q2 x = 0 ∧ (∀ q, q ≠ x → Q2 q = Q q) ∧ s2 152 (K.1 101 x).toNat = (x : Int) ∧ (∀ k j, ¬ (k = 144 ∧ j = x) → ¬ (k = 152 ∧ j = (K.1 101 x).toNat) → s2 k j = s k j) ∧ SND K W r s2 Q2 act lf dr LG b := by
  obtain ⟨x0, l, S, B, v, tp, h1, h2, h3, h4, h5, h6, h7, h8, h9, h10, h11, h12, h13⟩ := hS
  have : x0 = x := by omega
  subst this
  obtain ⟨hPS, ⟨hst, hcd⟩, hBR, hinj, hcov, hdrs, hsh, hcn, hex, hst53, hLG, g1, g2, g3, g4, g5, g6, g7, g8⟩ := id hR
  have b7 := (hBR b hb).1
  have ks : s 100 x0 = 406 := (hst 100 x0 (by omega)).trans h4
  have s1 := hst 101 x0 (by omega)
  have nb : ¬ PBg s x0 := fun q => by have := q.1; omega
  have qp : 0 < Q x0 := by omega
  obtain ⟨_, ip, pl, pM, hnn⟩ := PS_rd hPS qp
  have np := (hnn nb).2
  have tx : trn s x0 = s 144 x0 := if_neg (by omega)
  have hW : Wrx s x0 = ([(144, x0, trn s x0 + 1), (152, (s 101 x0).toNat, (x0 : Int))], []) := by
    rw [w_406b ks (by omega)]
    unfold swx
    rw [if_neg (by omega)]
    by_cases c8 : 8 ≤ s 101 x0
    · rw [if_pos c8, if_neg (by
        have := hfull (by omega)
        unfold qou
        rw [s1]
        omega)]
      rfl
    · have := hno (by omega)
      rw [if_neg c8, if_neg (by rw [s1]; omega)]
      rfl
  obtain ⟨s2, Q2, n2, x1, x2, x3, x4, x5, x6⟩ := mv_wait (n := n) hPS qp (K := 152) (L := (s 101 x0).toNat) (.inl ⟨rfl, ks⟩) rfl (by omega) hW
  rw [s1] at x4
  have so : ∀ k j, ¬ (k = 144 ∧ j = x0) → ¬ (k = 152 ∧ j = (K.1 101 x0).toNat) → s2 k j = s k j := fun k j w1 w2 => by
    rw [x4]; exact (if_neg w2).trans (if_neg w1)
  have e52 : s2 152 (K.1 101 x0).toNat = (x0 : Int) := by rw [x4]; exact up_self
  have e44 : s2 144 x0 = s 144 x0 + 1 := by rw [x4, ← tx]; exact (if_neg (by omega)).trans up_self
  have fr : s 152 (K.1 101 x0).toNat < 0 := Classical.byContradiction fun w => by
    obtain ⟨⟨cx, anc, hJ⟩, _⟩ := id hPS
    have wt := (hJ.2.2.2.2.2.2.2.1 (K.1 101 x0).toNat (by omega)).1.2 (by omega)
    have e := one_ch hPS h3 wt.1 np wt.2.2.1 (.inl ⟨ks, wt.2.2.2.1⟩) (by rw [wt.2.2.2.2.1, s1]; omega)
    have w0 := wt.2.1
    rw [← e] at w0
    omega
  have e3 : s2 143 x0 = s 143 x0 := so _ _ (by omega) (by omega)
  have hPv : PVy K s2 act x0 (K.1 102 x0) v := ⟨h8.1, h8.2.1, h8.2.2.1, (so _ _ (by omega) (by omega)).trans h8.2.2.2⟩
  have snd : SND K W r s2 Q2 act lf dr LG b := ⟨x0, l, S, B, v, tp, h1, h2, h3, h4, h5, by omega, h7, hPv, h9, h10, .inr ⟨hWl, by rw [x5, if_pos rfl], e52⟩, by rw [e3]; exact KO_mv hPS hst x3 h3 np nb h3 h12, h13⟩
  refine ⟨s2, Q2, n2, x1, t_same hR hb ?_ h1 h2 np h3 nb (by omega) x2 x3 (fun q ne => by rw [x5, if_neg ne]) e3 (fun k L w => ?_) (so 142 13 (by omega) (by omega)) (fun L w => ?_) (fun _ _ _ _ _ _ _ _ _ _ => rfl) hb.2 (fun _ _ => Iff.rfl) h7 (fun _ => ⟨b7, .inr (.inr (.inr (.inr (.inl snd))))⟩) (SH_fr hsh (fun _ _ _ => rfl) (fun k j w => so k j (by omega) (by omega))) (fun y ay ky ty => ?_) ?_ ⟨g3, g4⟩ (fun z hz => ?_), by rw [x5, if_pos rfl], fun q ne => by rw [x5, if_neg ne], e52, so, snd⟩
  · rcases h9 with ⟨_, w, _⟩ | ⟨_, w, _⟩ <;> omega
  · by_cases e : k = 152 ∧ L = (K.1 101 x0).toNat
    · rw [e.1, e.2]
      exact .inr fr
    · exact .inl (so k L (by omega) e)
  · by_cases e : L = (K.1 101 x0).toNat
    · have := hno (by omega)
      rw [so 153 L (by omega) (by omega), e]
      omega
    · rw [so 152 L (by omega) (by omega), so 153 L (by omega) (by omega)]
      exact hex L w
  · have yx : y ≠ x0 := fun e => by rw [e] at ky; omega
    rw [so 144 y (by omega) (by omega)] at ty ⊢
    exact hcn y ay ky ty
  · rw [x6, if_neg (by omega), Nat.add_zero, hst53]
    refine congrArg (r 170 53 + ·) (smx_c (fun z _ => ?_))
    unfold pfx
    refine congrArg (· - ind (LG z)) (ind_e ?_)
    unfold PNd
    by_cases e : z = x0
    · rw [e]
      exact ⟨fun w => absurd w.2.1 (by omega), fun w => absurd w.2.1 (by omega)⟩
    · rw [so 144 z (by omega) (by omega)]
  · rw [so 147 z (by omega) (by omega)] at hz
    obtain ⟨w1, w2, w3⟩ := g7 z hz
    have zx : z ≠ x0 := fun e => by rw [e] at w2; omega
    exact ⟨w1, w2, by rw [so 144 z (by omega) (by omega)]; exact w3⟩
/-- a RECEIVE that finds none begins to wait -/
theorem wt_r (hR : REL K M W r s Q n act lf dr LG) (hb : LVb r b) (hS : RCV K W r s Q act lf dr LG b) (hl : lf b = (x : Int)) (q1 : Q x = 1) (hWl : W ∨ K.1 101 x < 8) (hno : K.1 101 x < 8 → s 152 (K.1 101 x).toNat < 0) (hfull : 8 ≤ K.1 101 x → s (154 + 2 * (K.1 101 x - 8).toNat) 2 ≤ 0) : ∃ s2 Q2 n2, stx (s, Q, n) x = (s2, Q2, n2) ∧ REL K M W r s2 Q2 n2 act lf dr (fun z => LG z ∧ z ≠ x) ∧ Q2 x = 0 ∧ (∀ q, q ≠ x → Q2 q = Q q) ∧ s2 153 (K.1 101 x).toNat = (x : Int) ∧ (∀ k j, ¬ (k = 144 ∧ j = x) → ¬ (k = 153 ∧ j = (K.1 101 x).toNat) → s2 k j = s k j) ∧ RCV K W r s2 Q2 act lf dr (fun z => LG z ∧ z ≠ x) b := by
  obtain ⟨x0, m, S, B, P, tp, h1, h2, h3, h4, h5, h6, h7, h8, h9, h10, h11, h12, h13⟩ := hS
  have : x0 = x := by omega
  subst this
  obtain ⟨hPS, ⟨hst, hcd⟩, hBR, hinj, hcov, hdrs, hsh, hcn, hex, hst53, hLG, g1, g2, g3, g4, g5, g6, g7, g8⟩ := id hR
  have b7 := (hBR b hb).1
  obtain ⟨_, _, _, _, _, _, rc6, rc7, _⟩ := id h6
  have ks : s 100 x0 = 407 := (hst 100 x0 (by omega)).trans h4
  have s1 := hst 101 x0 (by omega)
  have s3 := hst 103 x0 (by omega)
  have nb : ¬ PBg s x0 := fun q => by have := q.1; omega
  have qp : 0 < Q x0 := by omega
  obtain ⟨_, ip, pl, pM, hnn⟩ := PS_rd hPS qp
  have np := (hnn nb).2
  have t0 := trn_0 (s := s) (p := x0)
  have hsg : sgu s x0 (trn s x0) ≠ 0 := by
    unfold sgu
    by_cases c : s 103 x0 < 0
    · rw [if_pos c]; omega
    · rw [if_neg c]
      unfold trn
      rw [if_neg (by omega)]
      omega
  have hW : Wrx s x0 = ([(144, x0, trn s x0 + 1), (153, (s 101 x0).toNat, (x0 : Int))], []) := by
    rw [w_407b ks h5 hsg]
    unfold rwx
    rw [if_neg (by omega)]
    by_cases c8 : 8 ≤ s 101 x0
    · rw [if_pos c8, if_neg (by
        have := hfull (by omega)
        unfold qin
        rw [s1]
        omega)]
      rfl
    · have := hno (by omega)
      rw [if_neg c8, if_neg (by rw [s1]; omega)]
      rfl
  obtain ⟨s2, Q2, n2, x1, x2, x3, x4, x5, x6⟩ := mv_wait (n := n) hPS qp (K := 153) (L := (s 101 x0).toNat) (.inr ⟨rfl, ks⟩) rfl (by omega) hW
  rw [s1] at x4
  have so : ∀ k j, ¬ (k = 144 ∧ j = x0) → ¬ (k = 153 ∧ j = (K.1 101 x0).toNat) → s2 k j = s k j := fun k j w1 w2 => by
    rw [x4]; exact (if_neg w2).trans (if_neg w1)
  have e52 : s2 153 (K.1 101 x0).toNat = (x0 : Int) := by rw [x4]; exact up_self
  have e44 : s2 144 x0 = trn s x0 + 1 := by rw [x4]; exact (if_neg (by omega)).trans up_self
  have fr : s 153 (K.1 101 x0).toNat < 0 := Classical.byContradiction fun w => by
    obtain ⟨⟨cx, anc, hJ⟩, _⟩ := id hPS
    have wt := (hJ.2.2.2.2.2.2.2.1 (K.1 101 x0).toNat (by omega)).2.2 (by omega)
    have e := one_ch hPS h3 wt.1 np wt.2.2.1 (.inr ⟨ks, wt.2.2.2.1⟩) (by rw [wt.2.2.2.2.1, s1]; omega)
    have w0 := wt.2.1
    rw [← e] at w0
    omega
  have e3 : s2 143 x0 = s 143 x0 := so _ _ (by omega) (by omega)
  have hSB : SBp K (PVy K s2 act x0) x0 P := by
    rcases h7 with w | ⟨w1, v, w2, w3, w4, w5, w6⟩
    · exact .inl w
    · exact .inr ⟨w1, v, w2, w3, w4, w5, (so _ _ (by omega) (by omega)).trans w6⟩
  have sg2 : 2 ≤ sgu K.1 x0 (trn s x0 + 1) := by
    unfold sgu
    by_cases c : K.1 103 x0 < 0
    · rw [if_pos c]; omega
    · rw [if_neg c]
      unfold trn
      rw [if_neg (by omega)]
      omega
  have rcv : RCV K W r s2 Q2 act lf dr (fun z => LG z ∧ z ≠ x0) b := ⟨x0, m, S, B, P, tp, h1, h2, h3, h4, (so _ _ (by omega) (by omega)).trans h5, h6, hSB, .inr (by omega), ⟨fun w => absurd rfl w.2, fun w => by omega⟩, h10, .inr ⟨hWl, by rw [x5, if_pos rfl], ⟨by omega, by rw [e44]; exact sg2⟩, e52⟩, by rw [e3]; exact KO_mv hPS hst x3 h3 np nb h3 h12, h13⟩
  refine ⟨s2, Q2, n2, x1, t_same hR hb ?_ h1 h2 np h3 nb (by omega) x2 x3 (fun q ne => by rw [x5, if_neg ne]) e3 (fun k L w => ?_) (so 142 13 (by omega) (by omega)) (fun L w => ?_) (fun _ _ _ _ _ _ _ _ _ _ => rfl) hb.2 (fun z ne => ⟨fun w => w.1, fun w => ⟨w, ne⟩⟩) (fun w => w.2 rfl) (fun _ => ⟨b7, .inr (.inr (.inr (.inr (.inr (.inl rcv)))))⟩) (SH_fr hsh (fun _ _ _ => rfl) (fun k j w => so k j (by omega) (by omega))) (fun y ay ky ty => ?_) ?_ ⟨g3, g4⟩ (fun z hz => ?_), by rw [x5, if_pos rfl], fun q ne => by rw [x5, if_neg ne], e52, so, rcv⟩
  · rcases h10 with ⟨_, w, _⟩ | ⟨_, w, _⟩ <;> omega
  · by_cases e : k = 153 ∧ L = (K.1 101 x0).toNat
    · rw [e.1, e.2]
      exact .inr fr
    · exact .inl (so k L (by omega) e)
  · by_cases e : L = (K.1 101 x0).toNat
    · have := hno (by omega)
      rw [so 152 L (by omega) (by omega), e]
      omega
    · rw [so 152 L (by omega) (by omega), so 153 L (by omega) (by omega)]
      exact hex L w
  · have yx : y ≠ x0 := fun e => by rw [e] at ky; omega
    rw [so 144 y (by omega) (by omega)] at ty ⊢
    exact hcn y ay ky ty
  · have u := sm_p (f := pfx K s2 act (fun z => LG z ∧ z ≠ x0)) (g := pfx K s act LG) pM (fun i ne => by
      unfold pfx
      rw [ind_e (show PNd K s2 act i ↔ PNd K s act i by
        unfold PNd
        rw [so 144 i (by omega) (by omega)]), ind_e (show (LG i ∧ i ≠ x0) ↔ LG i from ⟨fun w => w.1, fun w => ⟨w, ne⟩⟩)])
    rw [u, x6, Int.natCast_add, hst53]
    unfold pfx
    rw [ind_f (fun w : PNd K s2 act x0 => absurd w.2.1 (by omega)), ind_f (fun w : PNd K s act x0 => absurd w.2.1 (by omega)), ind_f (fun w : LG x0 ∧ x0 ≠ x0 => w.2 rfl)]
    by_cases c : s 144 x0 < 0
    · rw [if_pos c, ind_t (h9.mpr c)]
      omega
    · rw [if_neg c, ind_f (fun w => c (h9.mp w))]
      omega
  · rw [so 147 z (by omega) (by omega)] at hz
    obtain ⟨w1, w2, w3⟩ := g7 z hz
    have zx : z ≠ x0 := fun e => by rw [e] at hz; exact hz h5
    exact ⟨w1, w2, by rw [so 144 z (by omega) (by omega)]; exact w3⟩
end WAITX
