/-! Nothing changes but the queues and what is no part of the machine. -/
section CHGX
variable {K : SCt} {W : Prop} {r r2 s s2 t t2 : tab} {Q : Nat → Nat} {act : Nat → Prop} {cx : Nat → Cxx} {anc : Nat → Nat → Prop} {lf dr : Nat → Int} {LG : Nat → Prop} {b i M N n : Nat} {IN : Nat → Prop} {C : Int}
theorem J_q (h : JGx s Q act cx anc) (e : ∀ k j, 99 ≤ k ∧ k ≤ 114 ∨ 142 ≤ k ∧ k < 154 → s2 k j = s k j) : JGx s2 Q act cx anc := by
  obtain ⟨h1, h2, h3, h4, h5, h6, h7, h8, h9, h10, h11, h12⟩ := h
  have e0 : ∀ k j, 99 ≤ k ∧ k ≤ 114 → s2 k j = s k j := fun k j w => e k j (by omega)
  have nc : ∀ p, NoC s act p → NoC s2 act p := fun p w q aq z => w q aq (by rw [← e 143 q (by omega)]; exact z)
  have pb : ∀ p, PBg s2 p → PBg s p := fun p w => ⟨(e 100 p (by omega)).symm.trans w.1, by rw [← e 144 p (by omega)]; exact w.2⟩
  have pb2 : ∀ p, PBg s p → PBg s2 p := fun p w => ⟨(e 100 p (by omega)).trans w.1, by rw [e 144 p (by omega)]; exact w.2⟩
  have wt : ∀ {k : Int} {L : Nat} {z : Int}, WTx s Q act k L z → WTx s2 Q act k L z := fun w => ⟨w.1, fun q => by
    obtain ⟨w1, w2, w3, w4, w5, w6⟩ := w.2 q
    exact ⟨w1, w2, nc _ w3, (e 100 _ (by omega)).trans w4, (e 101 _ (by omega)).trans w5, by rw [e 144 _ (by omega)]; exact w6⟩⟩
  refine ⟨fun r => by rw [e 111 r (by omega)]; exact h1 r, by rw [e 99 12 (by omega)]; exact h2, fun p ap => ⟨EF_ext e0 (h3 p ap).1, PH_e e0 (e 144 p (by omega)) (e 146 p (by omega)) (h3 p ap).2⟩, fun p ap => by rw [e 143 p (by omega)]; exact h4 p ap, fun z p w => ?_, h6, fun p hp => ⟨(h7 p hp).1, fun w => ?_⟩, fun L hL => ?_, fun y ay yb => ?_, fun y ay ky q q2 aq aq2 y1 y2 => ?_, fun p q ap aq p1 q1 => ?_, fun y ay ky ty => ?_⟩
  · obtain ⟨w1, w2, w3, w4, q, q1, q2, q3⟩ := h5 z p w
    exact ⟨w1, w2, w3, by rw [e 100 z (by omega)]; exact w4, q, q1, (e 143 q (by omega)).trans q2, q3⟩
  · obtain ⟨w1, w2⟩ := (h7 p hp).2 (fun v => w (pb2 p v))
    exact ⟨w1, nc p w2⟩
  · rw [e 152 L (by omega), e 153 L (by omega)]
    exact ⟨wt (h8 L hL).1, wt (h8 L hL).2⟩
  · obtain ⟨l, l1, l2, l3⟩ := h9 y ay (pb y yb)
    exact ⟨l, l1, fun q => by rw [e 143 q (by omega)]; exact l2 q, by rw [e 144 y (by omega), e 102 y (by omega)]; exact l3⟩
  · exact h10 y ay (by rw [← e 100 y (by omega)]; exact ky) q q2 aq aq2 ((e 143 q (by omega)).symm.trans y1) ((e 143 q2 (by omega)).symm.trans y2)
  · exact h11 p q ap aq ((e 143 p (by omega)).symm.trans p1) ((e 143 q (by omega)).symm.trans q1)
  · exact nc y (h12 y ay ((e 100 y (by omega)).symm.trans ky) (by rw [← e 144 y (by omega)]; exact ty))
theorem PS_q (h : PSy M N IN s Q act) (e : ∀ k j, 99 ≤ k ∧ k ≤ 114 ∨ 142 ≤ k ∧ k < 154 → s2 k j = s k j) (hq : QBx s2) : PSy M N IN s2 Q act := by
  obtain ⟨⟨cx, anc, hJ⟩, ⟨k1, k2, k3⟩, hI, hu, hM, _⟩ := h
  have e0 : ∀ k j, 99 ≤ k ∧ k ≤ 114 → s2 k j = s k j := fun k j w => e k j (by omega)
  exact ⟨⟨cx, anc, J_q hJ e⟩, ⟨k1, fun q y aq w => (CHb_ext e0).mpr (k2 q y aq ((e 143 q (by omega)).symm.trans w)), fun q aq w => by rw [e 99 13 (by omega)]; exact k3 q aq ((e 143 q (by omega)).symm.trans w)⟩, INC_ext e0 hI, fun y z c y1 z1 y2 z2 => hu y z c y1 z1 ((CH_ext e0).mp y2) ((CH_ext e0).mp z2), by rw [e 99 12 (by omega)]; exact hM, hq⟩
theorem BR_s (h : BRx K W r s Q act lf dr LG b) (hs : ∀ j, s 100 j = K.1 100 j) (e : ∀ k j, 99 ≤ k ∧ k ≤ 114 ∨ 142 ≤ k ∧ k < 154 → s2 k j = s k j) : BRx K W r s2 Q act lf dr LG b := by
  have ko : ∀ {y : Int} {ch md l : Nat} {S B : List Int} {tp : Int}, KO K s act y ch md l S B tp → KO K s2 act y ch md l S B tp := fun h => KO_s (fun k j w => e k j (by omega)) hs h
  have pb : ∀ x, PBg s x → PBg s2 x := fun p w => ⟨(e 100 p (by omega)).trans w.1, by rw [e 144 p (by omega)]; exact w.2⟩
  have pv : ∀ {y : Nat} {c v : Int}, PVy K s act y c v → PVy K s2 act y c v := fun q => ⟨q.1, q.2.1, q.2.2.1, (e 145 _ (by omega)).trans q.2.2.2⟩
  have sb : ∀ {x : Nat} {P : List Int}, SBp K (PVy K s act x) x P → SBp K (PVy K s2 act x) x P := fun q => by
    rcases q with w | ⟨w1, v, w2, w3⟩
    · exact .inl w
    · exact .inr ⟨w1, v, w2, pv w3⟩
  refine ⟨h.1, ?_⟩
  rcases h.2 with ⟨c0, x, md, f, l, a, k0, k1, c, S, B, tp, h1, h2, h3, h4, h5, h6, h7, h8, h9, h10, h11⟩ | ⟨c0, x, m, S, B, P, tp, h1, h2, h3, h4, h5, h6, h7, h8, h9, h10, h11, h12⟩ | ⟨c0, z, ch, md, l, md2, l2, pc, P, rb, S, B, tp, h1, h2, h3, h4, h5, h6, h7, h8, h9, h10, h11⟩ | ⟨c0, l, pc, tp, d1, d2, d3, d4, d5, d6⟩ | ⟨x, l, S, B, v, tp, h1, h2, h3, h4, h5, h6, h7, h8, h9, h10, h11, h12, h13⟩ | ⟨x, m, S, B, P, tp, h1, h2, h3, h4, h5, h6, h7, h8, h9, h10, h11, h12, h13⟩ | ⟨c0, x, f, l, S, B, tp, j1, j2, j3, j4, j5, j6, j7, j8, j9, j10, j11, j12, j13, j14⟩
  · exact .inl ⟨c0, x, md, f, l, a, k0, k1, c, S, B, tp, h1, h2, h3, h4, (e 144 x (by omega)).trans h5, h6, h7, h8, h9, by rw [e 143 x (by omega)]; exact ko h10, h11⟩
  · exact .inr (.inl ⟨c0, x, m, S, B, P, tp, h1, h2, h3, h4, ⟨(e 100 x (by omega)).trans h5.1, by rw [e 147 x (by omega)]; exact h5.2⟩, by rw [e 144 x (by omega)]; exact h6, h7, h8, sb h9, by rw [e 145 x (by omega)]; exact h10, by rw [e 143 x (by omega)]; exact ko h11, h12⟩)
  · exact .inr (.inr (.inl ⟨c0, z, ch, md, l, md2, l2, pc, P, rb, S, B, tp, h1, h2, h3, h4, h5, h6, by rw [e 144 z (by omega), e 146 z (by omega)]; exact FRM_m (fun c v q => pv q) h7, h8, by rw [e 145 ch (by omega)]; exact h9, by rw [e 143 z (by omega)]; exact ko h10, h11⟩))
  · exact .inr (.inr (.inr (.inl ⟨c0, l, pc, tp, d1, d2, d3, d4, d5.imp (fun w => ⟨w.1, w.2.1, w.2.2.1, (e 142 13 (by omega)).trans w.2.2.2.1, w.2.2.2.2⟩) (fun w => ⟨w.1, w.2.1, w.2.2.1, pb _ w.2.2.2.1, w.2.2.2.2⟩), d6⟩)))
  · exact .inr (.inr (.inr (.inr (.inl ⟨x, l, S, B, v, tp, h1, h2, h3, h4, h5, by rw [e 144 x (by omega)]; exact h6, h7, pv h8, h9, h10, by rw [e 152 _ (by omega)]; exact h11, by rw [e 143 x (by omega)]; exact ko h12, h13⟩))))
  · exact .inr (.inr (.inr (.inr (.inr (.inl ⟨x, m, S, B, P, tp, h1, h2, h3, h4, (e 147 x (by omega)).trans h5, h6, sb h7, by rw [e 144 x (by omega)]; exact h8, by rw [e 144 x (by omega)]; exact h9, h10, by rw [e 144 x (by omega), e 153 _ (by omega)]; exact h11, by rw [e 143 x (by omega)]; exact ko h12, h13⟩)))))
  · exact .inr (.inr (.inr (.inr (.inr (.inr ⟨c0, x, f, l, S, B, tp, j1, j2, j3, pb x j4, j5, by rw [e 144 x (by omega)]; exact j6, j7, j8, j9, j10, j11, j12, by rw [e 143 x (by omega)]; exact ko j13, j14⟩)))))
theorem REL_q (hR : REL K M W r s Q n act lf dr LG) (e : ∀ k j, 99 ≤ k ∧ k ≤ 114 ∨ 142 ≤ k ∧ k < 154 → s2 k j = s k j) (o : ∀ k j, k = 178 ∨ 203 ≤ k ∧ k ≤ 1621 ∨ k = 170 ∧ 52 ≤ j → r2 k j = r k j) (hq : QBx s2) (hsh2 : SHx K r2 s2) : REL K M W r2 s2 Q n act lf dr LG := by
  obtain ⟨hPS, ⟨hst, hcd⟩, hBR, hinj, hcov, hdrs, hsh, hcn, hex, hst53, hLG, g1, g2, g3, g4, g5, g6, g7, g8⟩ := hR
  have e55 := o 170 55 (by omega)
  have e54 := o 170 54 (by omega)
  have e53 := o 170 53 (by omega)
  have lv : ∀ b, LVb r2 b ↔ LVb r b := fun b => by
    unfold LVb
    rw [e55, o 206 b (by omega)]
  refine ⟨PS_q hPS e hq, ⟨fun k j w => (e k j (by omega)).trans (hst k j w), fun i => (o 178 i (by omega)).trans (hcd i)⟩, fun b w => ?_, fun b b2 w1 w2 => hinj b b2 ((lv b).mp w1) ((lv b2).mp w2), fun p ap np => ?_, fun p ap bp => ?_, hsh2, fun y ay ky ty => ?_, fun L w => by rw [e 152 L (by omega), e 153 L (by omega)]; exact hex L w, ?_, fun p w => ?_, by omega, by omega, by omega, by omega, by omega, (o 170 52 (by omega)).trans g6, fun p w => ?_, ?_⟩
  · have b7 := (hBR b ((lv b).mp w)).1
    refine BR_r (BR_s (hBR b ((lv b).mp w)) (fun j => hst 100 j (by omega)) e) (fun _ _ => Iff.rfl) (fun k j w => o k j (by omega)) (fun tp q => ?_)
    rcases q with q | ⟨q, q1, q2, q3, q4, q5, q6, q7⟩
    · exact .inl q
    · exact .inr ⟨q, (o 210 b (by omega)).trans q1, by rw [e55]; exact q2, q3, (o 206 q (by omega)).trans q4, q5, q6, q7⟩
  · obtain ⟨b, w1, w2⟩ := hcov p ap (fun q aq z => np q aq ((e 143 q (by omega)).trans z))
    exact ⟨b, (lv b).mpr w1, w2⟩
  · rw [hdrs p ap ⟨(e 100 p (by omega)).symm.trans bp.1, by rw [← e 144 p (by omega)]; exact bp.2⟩]
    exact smx_c (fun i _ => ind_e (by rw [lv i]))
  · rw [e 144 y (by omega)] at ty ⊢
    rw [o 204 _ (by omega)]
    exact hcn y ay ky ty
  · rw [hst53, e53]
    refine congrArg (r 170 53 + ·) (smx_c (fun z _ => ?_))
    unfold pfx
    refine congrArg (· - ind (LG z)) (ind_e ?_)
    unfold PNd
    rw [e 144 z (by omega)]
  · obtain ⟨w1, w2, w3, w4, w5, w6⟩ := hLG p w
    exact ⟨w1, w2, by rw [e 144 p (by omega)]; exact w3, w4, (e 147 p (by omega)).trans w5, w6⟩
  · rw [e 147 p (by omega)] at w
    obtain ⟨v1, v2, v3⟩ := g7 p w
    exact ⟨v1, v2, by rw [e 144 p (by omega)]; exact v3⟩
  · rcases g8 with w | ⟨w1, w2, b, w3, w4⟩
    · exact .inl ((e 142 13 (by omega)).trans w)
    · exact .inr ⟨(e 142 13 (by omega)).trans w1, w2, b, (lv b).mpr w3, (o 206 b (by omega)).trans w4⟩
theorem zp_f (e : ∀ k j, 99 ≤ k ∧ k ≤ 114 ∨ 142 ≤ k ∧ k < 154 → t2 k j = t k j) : ∀ k j, 99 ≤ k ∧ k ≤ 114 ∨ 142 ≤ k ∧ k < 154 → zp t2 k j = zp t k j := fun k j w => by
  by_cases q : k = 147 ∨ k = 142 ∧ j ≠ 13
  · exact (if_pos q).trans (if_pos q).symm
  · rw [zp_o q, zp_o q]
    exact e k j w
theorem QB_z : QBx (zp t) ↔ QBx t := by
  unfold QBx
  constructor
  · intro h i hi
    have w := h i hi
    rw [zp_o (k := 154 + 2 * i) (j := 1) (by omega), zp_o (k := 154 + 2 * i) (j := 2) (by omega), zp_o (k := 162 + 2 * i) (j := 1) (by omega), zp_o (k := 162 + 2 * i) (j := 2) (by omega)] at w
    exact w
  · intro h i hi
    rw [zp_o (k := 154 + 2 * i) (j := 1) (by omega), zp_o (k := 154 + 2 * i) (j := 2) (by omega), zp_o (k := 162 + 2 * i) (j := 1) (by omega), zp_o (k := 162 + 2 * i) (j := 2) (by omega)]
    exact h i hi
theorem BTW_q (hB : BTW K M C t r) (e : ∀ k j, 99 ≤ k ∧ k ≤ 114 ∨ 142 ≤ k ∧ k < 154 → t2 k j = t k j) (o : ∀ k j, k = 178 ∨ k = 179 ∨ k = 180 ∨ 203 ≤ k ∧ k ≤ 1621 ∨ k = 170 ∧ 52 ≤ j → r2 k j = r k j) (hS : QBx t → SHx K r (zp t) → t 142 14 ≠ 3 → QBx t2 ∧ SHx K r2 (zp t2)) : BTW K M C t2 r2 := by
  obtain ⟨h1, h2, h3, h4⟩ := hB
  have e14 := e 142 14 (by omega)
  have e13 := e 142 13 (by omega)
  have e52 := o 170 52 (by omega)
  have lp : ∀ {act : Nat → Prop}, LPx M K.2.2.2.1 K.2.2.2.2.2 t [] (fun _ => 0) act → QBx t2 → LPx M K.2.2.2.1 K.2.2.2.2.2 t2 [] (fun _ => 0) act := fun h q => ⟨PS_q h.1 (zp_f e) (QB_z.mpr q), SK_o h.2.1 (e 142 6 (by omega)) (fun j => e 147 j (by omega)), h.2.2.1, h.2.2.2.1, by rw [e13]; exact h.2.2.2.2⟩
  refine ⟨fun k j w => (e k j (by omega)).trans (h1 k j w), ST_e h2 (fun k j w => o k j (by omega)), fun j => by rw [e 144 j (by omega)]; exact h3 j, ?_⟩
  rcases h4 with ⟨a1, a2, b1, b2, b3, b4, b5, b6, b7, b8, b9, b10⟩ | ⟨a1, a2, n, act, lf, dr, LG, a3, a4, a5⟩ | ⟨a1, a2, a3, a4, a5⟩ | ⟨a1, a2⟩
  · obtain ⟨s1, s2⟩ := hS b4 b5 (by omega)
    exact .inl ⟨by omega, by omega, (e 142 6 (by omega)).trans b1, e13.trans b2, fun L hL => by rw [e 152 L (by omega), e 153 L (by omega)]; exact b3 L hL, s1, s2, (o 170 55 (by omega)).trans b6, (o 206 0 (by omega)).trans b7, (o 205 0 (by omega)).trans b8, (o 208 0 (by omega)).trans b9, (o 209 0 (by omega)).trans b10⟩
  · obtain ⟨⟨_, _, _, _, _, qb⟩, _⟩ := id a3
    obtain ⟨s1, s2⟩ := hS (QB_z.mp qb) a4.2.2.2.2.2.2.1 (by omega)
    refine .inr (.inl ⟨by omega, by omega, n, act, lf, dr, LG, lp a3 s1, REL_q a4 (zp_f e) (fun k j w => o k j (by omega)) (QB_z.mpr s1) s2, ?_⟩)
    rw [← a5]
    refine smx_c (fun z _ => ?_)
    unfold pfx
    refine congrArg (· - ind (LG z)) (ind_e ?_)
    unfold PNd
    rw [zp_f e 144 z (by omega)]
  · obtain ⟨⟨_, _, _, _, _, qb⟩, _⟩ := id a4
    obtain ⟨s1, s2⟩ := hS (QB_z.mp qb) a5 (by omega)
    exact .inr (.inr (.inl ⟨by omega, by omega, e13.trans a3, lp a4 s1, s2⟩))
  · exact .inr (.inr (.inr ⟨by omega, by omega⟩))
/-- an in's queue, an out's -/
theorem SH_in (h : SHx K r s) (i4 : i < 4) (o : ∀ k j, k = 179 ∨ k = 180 ∨ k = 203 ∨ 213 ≤ k ∧ k ≤ 218 ∨ 1622 ≤ k ∧ k ≤ 1630 → k ≠ 1622 + i → ¬ (k = 1630 ∧ j = i) → r2 k j = r k j) (so : ∀ k j, k = 148 ∨ k = 149 ∨ 154 ≤ k ∧ k ≤ 169 → k ≠ 154 + 2 * i → k ≠ 155 + 2 * i → s2 k j = s k j) (hq : QQx (r2 1630 i) (r2 (1622 + i)) (s2 (154 + 2 * i)) (s2 (155 + 2 * i))) : SHx K r2 s2 := by
  obtain ⟨z1, z2, z3, z4, z5⟩ := h
  have q5 : ∀ {a j f q g : Nat}, (1622 ≤ a ∧ a ≤ 1630) → (1622 ≤ f ∧ f ≤ 1629) → (154 ≤ q ∧ q ≤ 169) → (154 ≤ g ∧ g ≤ 169) → ¬ (a = 1630 ∧ j = i) → a ≠ 1622 + i → f ≠ 1622 + i → q ≠ 154 + 2 * i → q ≠ 155 + 2 * i → g ≠ 154 + 2 * i → g ≠ 155 + 2 * i → QQx (r a j) (r f) (s q) (s g) → QQx (r2 a j) (r2 f) (s2 q) (s2 g) := fun {a j f q g} w1 w2 w3 w4 w5 w6 w7 w8 w9 w10 w11 w => by
    have ef : r2 f = r f := funext fun z => o f z (by omega) (by omega) (by omega)
    have eq : s2 q = s q := funext fun z => so q z (by omega) (by omega) (by omega)
    have eg : s2 g = s g := funext fun z => so g z (by omega) (by omega) (by omega)
    rw [o a j (by omega) w6 w5, ef, eq, eg]
    exact w
  refine ⟨fun v hv => by rw [o _ _ (by omega) (by omega) (by omega), so _ _ (by omega) (by omega) (by omega)]; exact z1 v hv, fun a j v1 v2 => by rw [o _ _ (by omega) (by omega) (by omega), so _ _ (by omega) (by omega) (by omega)]; exact z2 a j v1 v2, fun v v1 v2 => by rw [o _ _ (by omega) (by omega) (by omega)]; exact z3 v v1 v2, fun a v1 v2 => by rw [o _ _ (by omega) (by omega) (by omega)]; exact z4 a v1 v2, fun j hj => ⟨?_, q5 (by omega) (by omega) (by omega) (by omega) (by omega) (by omega) (by omega) (by omega) (by omega) (by omega) (by omega) (z5 j hj).2⟩⟩
  by_cases e : j = i
  · rw [e]; exact hq
  · exact q5 (by omega) (by omega) (by omega) (by omega) (by omega) (by omega) (by omega) (by omega) (by omega) (by omega) (by omega) (z5 j hj).1
theorem SH_out (h : SHx K r s) (i4 : i < 4) (o : ∀ k j, k = 179 ∨ k = 180 ∨ k = 203 ∨ 213 ≤ k ∧ k ≤ 218 ∨ 1622 ≤ k ∧ k ≤ 1630 → k ≠ 1626 + i → ¬ (k = 1630 ∧ j = 4 + i) → r2 k j = r k j) (so : ∀ k j, k = 148 ∨ k = 149 ∨ 154 ≤ k ∧ k ≤ 169 → k ≠ 162 + 2 * i → k ≠ 163 + 2 * i → s2 k j = s k j) (hq : QQx (r2 1630 (4 + i)) (r2 (1626 + i)) (s2 (162 + 2 * i)) (s2 (163 + 2 * i))) : SHx K r2 s2 := by
  obtain ⟨z1, z2, z3, z4, z5⟩ := h
  have q5 : ∀ {a j f q g : Nat}, (1622 ≤ a ∧ a ≤ 1630) → (1622 ≤ f ∧ f ≤ 1629) → (154 ≤ q ∧ q ≤ 169) → (154 ≤ g ∧ g ≤ 169) → ¬ (a = 1630 ∧ j = 4 + i) → a ≠ 1626 + i → f ≠ 1626 + i → q ≠ 162 + 2 * i → q ≠ 163 + 2 * i → g ≠ 162 + 2 * i → g ≠ 163 + 2 * i → QQx (r a j) (r f) (s q) (s g) → QQx (r2 a j) (r2 f) (s2 q) (s2 g) := fun {a j f q g} w1 w2 w3 w4 w5 w6 w7 w8 w9 w10 w11 w => by
    have ef : r2 f = r f := funext fun z => o f z (by omega) (by omega) (by omega)
    have eq : s2 q = s q := funext fun z => so q z (by omega) (by omega) (by omega)
    have eg : s2 g = s g := funext fun z => so g z (by omega) (by omega) (by omega)
    rw [o a j (by omega) w6 w5, ef, eq, eg]
    exact w
  refine ⟨fun v hv => by rw [o _ _ (by omega) (by omega) (by omega), so _ _ (by omega) (by omega) (by omega)]; exact z1 v hv, fun a j v1 v2 => by rw [o _ _ (by omega) (by omega) (by omega), so _ _ (by omega) (by omega) (by omega)]; exact z2 a j v1 v2, fun v v1 v2 => by rw [o _ _ (by omega) (by omega) (by omega)]; exact z3 v v1 v2, fun a v1 v2 => by rw [o _ _ (by omega) (by omega) (by omega)]; exact z4 a v1 v2, fun j hj => ⟨q5 (by omega) (by omega) (by omega) (by omega) (by omega) (by omega) (by omega) (by omega) (by omega) (by omega) (by omega) (z5 j hj).1, ?_⟩⟩
  by_cases e : j = i
  · rw [e]; exact hq
  · exact q5 (by omega) (by omega) (by omega) (by omega) (by omega) (by omega) (by omega) (by omega) (by omega) (by omega) (by omega) (z5 j hj).2
end CHGX
