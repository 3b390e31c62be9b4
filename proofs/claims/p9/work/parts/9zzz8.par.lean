/-! A PAR begins its branches. -/
section PARX
variable {K : SCt} {W : Prop} {r r1 r2 s s2 : tab} {Q Q2 : Nat → Nat} {act act2 : Nat → Prop} {lf dr : Nat → Int} {LG LG2 : Nat → Prop} {b x p M n n2 m l f : Nat} {S B P : List Int} {tp v : Int}
theorem smx_z {f : Nat → Int} : ∀ n : Nat, (∀ i, i < n → f i = 0) → smx f n = 0
  | 0, _ => rfl
  | n + 1, h => by
    show smx f n + f n = 0
    rw [smx_z n (fun i hi => h i (by omega)), h n (by omega)]
    rfl
theorem fl_y {y : Nat} (h : (y : Int) < K.1 99 12) : flx K.1 (y : Int) = K.1 104 y := by
  unfold flx
  rw [if_pos ⟨by omega, h⟩, Int.toNat_natCast]
/-- the branches of a PAR -/
theorem PBR : ∀ (n a bb : Nat) (v : Int) (f l k0 k1 q : Nat) (c : Cxx), CPX K 4 n a bb v f l k0 k1 q c → ∀ i, i < n → ∃ (y a f l k0 k1 : Nat) (c : Cxx), nth K.1 i v = (y : Int) ∧ CPX K 1 0 a (y + 1) (y : Int) f l k0 k1 0 c ∧ cd K l = 20 ∧ cd K (q + i) = (f : Int) ∧ l < 25000 ∧ (y : Int) < K.1 99 12
  | 0, _, _, _, _, _, _, _, _, _, _, i, hi => absurd hi (by omega)
  | n + 1, a, bb, v, f, l, k0, k1, q, c, h, i, hi => by
    obtain ⟨u, _⟩ := CPX_un h
    rcases u with ⟨u, _⟩ | ⟨u, _⟩ | ⟨_, u, _⟩ | ⟨u, _⟩ | ⟨u, _⟩ | ⟨_, n1, b1, m, kk, c1, c2, u1, u2, u3, u4, u5, _⟩ | ⟨u, _⟩
    · omega
    · omega
    · omega
    · omega
    · omega
    · obtain ⟨y, y1, y2, y3, y4⟩ := CPX_y u2 (by omega)
      cases i with
      | zero => exact ⟨y, a, f, m, k0, kk, c1, y1, y3, u3, u4, by omega, y4.1⟩
      | succ i =>
        have : n1 = n := by omega
        subst this
        rw [y1, Int.toNat_natCast] at u5
        obtain ⟨z, a2, f2, l2, j0, j1, c3, z1, z2, z3, z4, z5⟩ := PBR n1 _ _ _ _ _ _ _ _ _ u5 i (by omega)
        refine ⟨z, a2, f2, l2, j0, j1, c3, ?_, z2, z3, ?_, z5⟩
        · show nth K.1 i (flx K.1 v) = _
          rw [y1, fl_y y4.1]
          exact z1
        · rw [show q + (i + 1) = q + 1 + i by omega]
          exact z4
    · omega
/-- only a PAR at work waits to be told -/
theorem dr_b (hbr : BRx K W r s Q act lf dr LG b) {q : Nat} (e : dr b = (q : Int)) : act q ∧ PBg s q ∧ lf b = -1 := by
  rcases hbr.2 with ⟨_, z, _, _, _, _, _, _, _, _, _, _, h1, h2, _⟩ | ⟨_, z, _, _, _, _, _, h1, h2, _⟩ | ⟨_, z, _, _, _, _, _, _, _, _, _, _, _, h1, h2, _⟩ | ⟨_, l, pc, tp, h1, _, _, _, h2, _⟩ | ⟨z, _, _, _, _, _, h1, h2, _⟩ | ⟨z, _, _, _, _, _, h1, h2, _⟩ | ⟨_, z, _, _, _, _, _, h1, h2, _⟩
  · omega
  · omega
  · omega
  · rcases h2 with ⟨_, h2, _⟩ | ⟨h2, h3, h4, h5, _⟩
    · omega
    · have : tp.toNat = q := by omega
      rw [this] at h4 h5
      exact ⟨h4, h5, h1⟩
  · omega
  · omega
  · omega
theorem b_312 (hK : SPK K) (h : BG K M r s Q n act lf dr LG b x 1 f l S B tp) (hl : l < 25000) (hk : K.1 100 x = 312) (c0 : cd K f = 0) (c1 : cd K (f + 1) = 19) (c2 : cd K (f + 2) = K.1 102 x) (c9 : cd K (f + 9) = 9) (c10 : cd K (f + 10) = (l : Int)) {m a k0 k1 : Nat} {c : Cxx} (hm : K.1 102 x = (m : Int)) (m2 : 2 ≤ m) (m6 : m ≤ 6) (hfl : f + 11 ≤ l) (hC : CPX K 4 m a x (K.1 101 x) (f + 11) l k0 k1 (f + 3) c) (hT : ∀ r1 k, MS b k r r1 → r1 206 b = 1 → r1 170 52 = 2 → ∃ v, eG 11 [(b : Int)] r1 = some v) : NXT K M b r s Q n := by
  rcases b_part h (by omega) c0 with w | ⟨lt, r1, m1, v1, f1, d1, d2, d3, d4, b7⟩
  · exact w
  obtain ⟨hR, hb, h1, hlf, hd, ax, qx, h4, ng, hBV, hKO, hPL⟩ := h
  obtain ⟨hPS, ⟨hst, hcd⟩, hBR, hinj, hcov, hdrs, hsh, hcn, hex, hst53, hLG, g1, g2, g3, g4, g5, g6, g7, g8⟩ := id hR
  obtain ⟨vv, hv⟩ := hT r1 1 m1 d1 d2
  obtain ⟨e1, e2, e3, e4, e5, e6, e7, e8⟩ := FP_o f1 b7
  have e55 : r1 170 55 = r 170 55 := e1 170 55 (by omega) (by omega) (by omega) (by omega) (by omega) (by omega) (by omega) (by omega)
  obtain ⟨r3, r2, hv2, v3, f3, ⟨os, k1, k2, k3, k4, k5, k6, k7⟩⟩ := o_fork b7 v1 (by omega) (by rw [d3]; exact c1) (n := m) (by rw [d3, c2, hm]) m6 ⟨by omega, by rw [e55]; exact hb.1, by rw [e55]; exact g2⟩ hv
  have hON : ON1 b r1 r2 := by show eG _ _ _ = _; rw [hv, hv2]
  -- rows of r3
  have o3 : ∀ k j, ¬ ((k = 205 ∨ k = 208 ∨ k = 209) ∧ j = b) → k ≠ 220 + b → k ≠ 921 + b → ¬ (k = 170 ∧ j = 53) → r3 k j = r k j := fun k j w1 w2 w3 w4 => (f3 k j w1 w2 w3).trans ((f1 k j w1 w2 w3).trans (if_neg w4))
  have o53 : r3 170 53 = r 170 53 + 1 := (f3 170 53 (by omega) (by omega) (by omega)).trans e4
  have o178 : ∀ i, r3 178 i = cd K i := fun i => (o3 178 i (by omega) (by omega) (by omega) (by omega)).trans (hcd i)
  have q55 : r3 170 55 = r 170 55 := o3 170 55 (by omega) (by omega) (by omega) (by omega)
  -- the new branches
  have nos : ∀ i, i < m → ∀ j, LVb r j → j ≠ os i := fun i hi j lv e => by
    obtain ⟨_, _, w, _⟩ := k1 i (by omega) hi
    rw [← e] at w
    rcases w with w | w
    · refine lv.2 ?_
      rw [← w]
      exact (o3 206 j (by omega) (by omega) (by omega) (by omega)).symm
    · have := lv.1
      omega
  have o2 : ∀ k j, (∀ i, i < m → ¬ ((k = 205 ∨ k = 206 ∨ 208 ≤ k ∧ k ≤ 211) ∧ j = os i)) → ¬ (k = 170 ∧ j = 55) → ¬ ((k = 206 ∨ k = 211) ∧ j = b) → r2 k j = r3 k j := fun k j w1 w2 w3 => k5 k j (fun w => by
    obtain ⟨w4, i, w5, w6, w7⟩ := w
    exact w1 i w6 ⟨w4, w7⟩) w2 w3
  have or2 : ∀ k j, (k < 205 ∨ 213 ≤ k ∧ k ≤ 218 ∨ 1622 ≤ k) → ¬ (k = 170 ∧ (j = 53 ∨ j = 55)) → r2 k j = r k j := fun k j w1 w2 => (o2 k j (fun i hi => by omega) (by omega) (by omega)).trans (o3 k j (by omega) (by omega) (by omega) (by omega))
  have ob : ∀ j, LVb r j → j ≠ b → ∀ k, (205 ≤ k ∧ k ≤ 211) → r2 k j = r k j := fun j lj ne k w => (o2 k j (fun i hi w => nos i hi j lj w.2) (by omega) (by omega)).trans (o3 k j (by omega) (by omega) (by omega) (by omega))
  have w55 : r2 170 55 ≤ 700 := Classical.byContradiction fun q => by
    obtain ⟨i, _, w2, w3⟩ := k4 700 (by omega) (by omega)
    have := (k1 i (by omega) w2).1
    omega
  have lvb : LVb r2 b := ⟨by have := hb.1; omega, by omega⟩
  have lvo : ∀ j, LVb r j → LVb r2 j := fun j lj => by
    by_cases e : j = b
    · rw [e]; exact lvb
    · exact ⟨by have := lj.1; omega, by rw [ob j lj e 206 (by omega)]; exact lj.2⟩
  have lvn : ∀ i, i < m → LVb r2 (os i) := fun i hi => by
    obtain ⟨w1, w2, w3, w4, _⟩ := k1 i (by omega) hi
    exact ⟨w2, by omega⟩
  have lvr : ∀ j, LVb r2 j → LVb r j ∨ ∃ i, i < m ∧ j = os i := fun j lj => by
    by_cases e : ∃ i, i < m ∧ j = os i
    · exact .inr e
    · left
      by_cases ej : j = b
      · rw [ej]; exact hb
      · have lt : (j : Int) < r 170 55 := Classical.byContradiction fun q => by
          obtain ⟨i, _, w2, w3⟩ := k4 j (by omega) lj.1
          exact e ⟨i, w2, w3.symm⟩
        refine ⟨lt, ?_⟩
        rw [← o3 206 j (by omega) (by omega) (by omega) (by omega), ← o2 206 j (fun i hi w => e ⟨i, hi, w.2⟩) (by omega) (by omega)]
        exact lj.2
  -- the parts machine
  have ks : s 100 x = 312 := (hst 100 x (by omega)).trans hk
  have s1 := hst 101 x (by omega)
  have s2e : (s 102 x).toNat = m := by rw [hst 102 x (by omega), hm, Int.toNat_natCast]
  have nb : ¬ PBg s x := fun w => by have := w.2; omega
  obtain ⟨_, ip, pl, pM, hnn⟩ := PS_rd hPS (show 0 < Q x by omega)
  have np := (hnn nb).2
  obtain ⟨s2, Q2, n2, x1, x2, x3, x4, x5, x6, x7, x8, x9, x10, x11, x12⟩ := mv_par (n := n) hPS (show 0 < Q x by omega) ks h4
  rw [s2e] at x2 x3 x4 x5 x10
  obtain ⟨ys, hys⟩ : ∃ ys : Nat → Nat, ∀ i, ys i = (nth s i (s 101 x)).toNat := ⟨fun i => (nth s i (s 101 x)).toNat, fun _ => rfl⟩
  have ey : ∀ i, i < m → nth s i (s 101 x) = (ys i : Int) := fun i hi => by rw [hys]; have := (x4 i hi).1; omega
  have yk : ∀ i, i < m → ¬ act (ys i) ∧ s2 143 (ys i) = (x : Int) ∧ s2 144 (ys i) = -1 ∧ Q2 (ys i) = 1 ∧ ys i < x := fun i hi => by
    obtain ⟨_, w1, w2, w3, w4, w5⟩ := x4 i hi
    rw [← hys i] at w2 w3 w4 w5
    rw [ey i hi] at w1
    exact ⟨w2, w3, w4, w5, by omega⟩
  have yi : ∀ i j, i < m → j < m → ys i = ys j → i = j := fun i j hi hj e => x5 i j hi hj (by rw [ey i hi, ey j hj, e])
  obtain ⟨act2, hact2⟩ : ∃ act2 : Nat → Prop, act2 = fun q => act q ∨ ∃ i, i < m ∧ q = ys i := ⟨_, rfl⟩
  have eact : (fun q => act q ∨ ∃ i, i < m ∧ q = (nth s i (s 101 x)).toNat) = act2 := by
    rw [hact2]
    funext q
    refine propext ⟨fun w => w.imp id (fun ⟨i, w1, w2⟩ => ⟨i, w1, by rw [hys]; exact w2⟩), fun w => w.imp id (fun ⟨i, w1, w2⟩ => ⟨i, w1, by rw [← hys]; exact w2⟩)⟩
  rw [eact] at x2 x3
  have a2o : ∀ q, act q → act2 q := fun q w => by rw [hact2]; exact .inl w
  have a2y : ∀ i, i < m → act2 (ys i) := fun i hi => by rw [hact2]; exact .inr ⟨i, hi, rfl⟩
  have a2c : ∀ q, act2 q → act q ∨ ∃ i, i < m ∧ q = ys i := fun q w => by rw [hact2] at w; exact w
  have b2x : PBg s2 x := ⟨(x9 100 x (by omega) (by omega)).trans ks, by omega⟩
  have Qo : ∀ q, act q → q ≠ x → Q2 q = Q q := fun q aq ne => x10 q ne (fun i hi e => (yk i hi).1 (by rw [hys, ← e]; exact aq))
  have s4o : ∀ q, act q → q ≠ x → s2 144 q = s 144 q := fun q aq ne => (x3.1 q aq ne).2.2.1
  have s3o : ∀ q, act q → s2 143 q = s 143 q := fun q aq => by
    by_cases e : q = x
    · rw [e]; exact x7
    · exact (x3.1 q aq e).2.1
  -- leaves
  obtain ⟨lf2, hlf2⟩ : ∃ lf2 : Nat → Int, (∀ i, i < m → lf2 (os i) = (ys i : Int)) ∧ ∀ j, (∀ i, i < m → j ≠ os i) → lf2 j = lf j := by
    classical
    refine ⟨fun j => if hj : ∃ i, i < m ∧ j = os i then (ys hj.choose : Int) else lf j, fun i hi => ?_, fun j hj => dif_neg (fun ⟨i, w1, w2⟩ => hj i w1 w2)⟩
    have w : ∃ k, k < m ∧ os i = os k := ⟨i, hi, rfl⟩
    dsimp only
    rw [dif_pos w]
    obtain ⟨u1, u2⟩ := w.choose_spec
    rw [← k2 i _ (by omega) hi (by omega) u1 u2]
  obtain ⟨dr2, hdr2⟩ : ∃ dr2 : Nat → Int, (∀ i, i < m → dr2 (os i) = -1) ∧ ∀ j, (∀ i, i < m → j ≠ os i) → dr2 j = dr j := by
    classical
    refine ⟨fun j => if ∃ i, i < m ∧ j = os i then -1 else dr j, fun i hi => if_pos ⟨i, hi, rfl⟩, fun j hj => if_neg (fun ⟨i, w1, w2⟩ => hj i w1 w2)⟩
  have lfo : ∀ j, LVb r j → lf2 j = lf j := fun j lj => hlf2.2 j (fun i hi => nos i hi j lj)
  have dro : ∀ j, LVb r j → dr2 j = dr j := fun j lj => hdr2.2 j (fun i hi => nos i hi j lj)
  have lfb : lf2 b = (x : Int) := (lfo b hb).trans hlf
  have plo : ∀ j tp, LVb r j → r2 210 j = r 210 j → PLk r lf j tp → PLk r2 lf2 j tp := fun j tp lj e w => by
    rcases w with w | ⟨q, w1, w2, w3, w4, w5, w6, w7⟩
    · exact .inl w
    · have lq : LVb r q := ⟨w2, by omega⟩
      have qb : q ≠ b := fun e => by rw [e, h1] at w4; omega
      exact .inr ⟨q, e.trans w1, by omega, w3, (ob q lq qb 206 (by omega)).trans w4, (lfo q lq).trans w5, w6, w7⟩
  have e210b : r2 210 b = r 210 b := (o2 210 b (fun i hi w => nos i hi b hb w.2) (by omega) (by omega)).trans (o3 210 b (by omega) (by omega) (by omega) (by omega))
  refine .inl ⟨1, r2, [x], s2, Q2, n2, act2, lf2, dr2, LG, MS_tr 1 r m1 (MS_1 d1 d2 hON), ⟨show 0 < Q x by omega, trivial⟩, x1, ⟨x2, ⟨fun k j w => (x3.2.2.2 k j w).trans (hst k j w), fun i => (or2 178 i (by omega) (by omega)).trans (hcd i)⟩, fun j lj => ?_, fun j1 j2 w1 w2 w3 w4 => ?_, fun q aq nq => ?_, fun q aq bq => ?_, SH_fr hsh (fun k j w => or2 k j (by omega) (by omega)) (fun k j w => x9 k j (by omega) (by omega)), fun y ay ky ty => ?_, fun L w => by rw [x9 152 L (by omega) (by omega), x9 153 L (by omega) (by omega)]; exact hex L w, ?_, fun q lq => ?_, by omega, w55, ?_, ?_, ?_, ?_, fun z hz => ?_, .inl ((x9 142 13 (by omega) (by omega)).trans (L13_0 g8 ax))⟩, ?_⟩
  · rcases lvr j lj with w | ⟨i, hi, w⟩
    · by_cases e : j = b
      · rw [e]
        refine ⟨b7, .inr (.inr (.inr (.inr (.inr (.inr ⟨k6, x, f, l, S, B, tp, lfb, (dro b hb).trans hd, a2o x ax, b2x, ng, by rw [k7, x6, hm], by omega, c9, c10, hl, by omega, ?_, ?_, plo b tp hb e210b hPL⟩)))))⟩
        · exact BV_fr v3 (fun k j w => o2 k j (fun i hi w2 => by
            rcases w with w | w
            · exact nos i hi b hb (by omega)
            · have := (k1 i (by omega) hi).1; omega) (by omega) (by omega))
        · rw [x7]
          exact KO_mv hPS hst x3 ax np nb ax hKO
      · refine BR_mv hPS hst x3 ax rfl (fun q e => .inl (by rw [show q = x from e]; exact np)) (.inr np) (hBR j w) (fun k j2 w2 => ?_) (lfo j w) (dro j w) (fun z ez e2 => e (hinj j b w hb (by omega) (by rw [hlf, ez, show z = x from e2]))) (fun _ _ => Iff.rfl) (fun tp2 _ w2 => plo j tp2 w (ob j w e 210 (by omega)) w2) (fun z tp2 _ _ e2 w2 _ => absurd w2 (by rw [show z = x from e2]; exact nb)) (fun w2 => (x9 142 13 (by omega) (by omega)).trans w2) (fun k L z w2 _ w4 => (x9 k L (by omega) (by omega)).trans w4)
        have j7 := (hBR j w).1
        rcases w2 with ⟨w2, w3⟩ | w2
        · rw [w3]; exact ob j w e k w2
        · exact (o2 k j2 (fun i hi w3 => by omega) (by omega) (by omega)).trans (o3 k j2 (by omega) (by omega) (by omega) (by omega))
    · rw [w]
      obtain ⟨u1, u2, u3, u4, u5, u6, u7, u8⟩ := k1 i (by omega) hi
      obtain ⟨y, a2, ff, ll, j0, j1, cc, z1, z2, z3, z4, z5, z6⟩ := PBR m _ _ _ _ _ _ _ _ _ hC i hi
      have yy : y = ys i := by
        have := ey i hi
        rw [s1, nth_ext hst, z1] at this
        omega
      subst yy
      obtain ⟨t1, t2, t3, t4, t5⟩ := yk i hi
      refine ⟨u1, .inl ⟨u4, ys i, 1, ff, ll, a2, j0, j1, cc, [], [], (x : Int), hlf2.1 i hi, hdr2.1 i hi, a2y i hi, t4, t3, fun w2 => t1 (hLG _ w2).1, by omega, z2, ⟨?_, ⟨u7, trivial⟩, u8, trivial⟩, ⟨1, ?_⟩, .inr ⟨b, u5, lvb.1, b7, k6, lfb, by omega, nos i hi b hb⟩⟩⟩
      · rw [u6, o178, z4]
      · rw [t2]
        exact .inr (.inl ⟨x, rfl, a2o x ax, b2x, rfl, z3, z5, rfl, rfl, rfl⟩)
  · rcases lvr j1 w1 with v1 | ⟨i, hi, v1⟩ <;> rcases lvr j2 w2 with v2 | ⟨i2, hi2, v2⟩
    · rw [lfo j1 v1] at w3
      rw [lfo j1 v1, lfo j2 v2] at w4
      exact hinj j1 j2 v1 v2 w3 w4
    · rw [lfo j1 v1, v2, hlf2.1 i2 hi2] at w4
      exact absurd (LF_x hPS hst (hBR j1 v1) w4).1 (yk i2 hi2).1
    · rw [v1, lfo j2 v2, hlf2.1 i hi] at w4
      exact absurd (LF_x hPS hst (hBR j2 v2) w4.symm).1 (yk i hi).1
    · rw [v1, v2, hlf2.1 i hi, hlf2.1 i2 hi2] at w4
      rw [v1, v2, yi i i2 hi hi2 (by omega)]
  · rcases a2c q aq with w | ⟨i, hi, w⟩
    · have qx2 : q ≠ x := fun e => nq (ys 0) (a2y 0 (by omega)) (by rw [e]; exact (yk 0 (by omega)).2.1)
      obtain ⟨j, w1, w2⟩ := hcov q w (fun z az e => nq z (a2o z az) ((s3o z az).trans e))
      exact ⟨j, lvo j w1, (lfo j w1).trans w2⟩
    · exact ⟨os i, lvn i hi, by rw [hlf2.1 i hi, w]⟩
  · by_cases e : q = x
    · rw [e, x8]
      refine (smx_z _ (fun j _ => ind_f (fun w => ?_))).symm
      obtain ⟨w1, w2⟩ := w
      rcases lvr j w1 with v | ⟨i, hi, v⟩
      · rw [dro j v] at w2
        exact nb (dr_b (hBR j v) w2).2.1
      · rw [v, hdr2.1 i hi] at w2
        omega
    · have aq : act q := by
        rcases a2c q aq with w | ⟨i, hi, w⟩
        · exact w
        · have := bq.2
          rw [w, (yk i hi).2.2.1] at this
          omega
      rw [Qo q aq e, hdrs q aq ⟨(x9 100 q (by omega) (by omega)).symm.trans bq.1, by rw [← s4o q aq e]; exact bq.2⟩]
      refine smx_c (fun j _ => ind_e ⟨fun w => ⟨lvo j w.1, (dro j w.1).trans w.2⟩, fun w => ?_⟩)
      rcases lvr j w.1 with v | ⟨i, hi, v⟩
      · exact ⟨v, (dro j v).symm.trans w.2⟩
      · have := w.2
        rw [v, hdr2.1 i hi] at this
        omega
  · have ay2 : act y := by
      rcases a2c y ay with w | ⟨i, hi, w⟩
      · exact w
      · rw [w, (yk i hi).2.2.1] at ty
        omega
    have yx : y ≠ x := fun e => by rw [e, hk] at ky; omega
    rw [s4o y ay2 yx] at ty ⊢
    rw [or2 204 _ (by omega) (by omega)]
    exact hcn y ay2 ky ty
  · have : smx (pfx K s2 act2 LG) M = smx (pfx K s act LG) M := smx_c (fun z _ => by
      unfold pfx
      refine congrArg (· - ind (LG z)) (ind_e ⟨fun w => ?_, fun w => ?_⟩)
      · rcases a2c z w.1 with v | ⟨i, hi, v⟩
        · have zx : z ≠ x := fun e => by have := w.2.1; rw [e, hk] at this; omega
          exact ⟨v, w.2.1, by rw [← s4o z v zx]; exact w.2.2⟩
        · have := w.2.2
          rw [v, (yk i hi).2.2.1] at this
          omega
      · have zx : z ≠ x := fun e => by have := w.2.1; rw [e, hk] at this; omega
        exact ⟨a2o z w.1, w.2.1, by rw [s4o z w.1 zx]; exact w.2.2⟩)
    rw [this, x12, Int.natCast_add, hst53, o2 170 53 (fun i hi => by omega) (by omega) (by omega), o53]
    omega
  · obtain ⟨w1, w2, w3, w4, w5, w6⟩ := hLG q lq
    have qx2 : q ≠ x := fun e => ng (e ▸ lq)
    exact ⟨a2o q w1, (Qo q w1 qx2).trans w2, by rw [s4o q w1 qx2]; exact w3, w4, (x9 147 q (by omega) (by omega)).trans w5, w6⟩
  · rw [o2 170 53 (fun i hi => by omega) (by omega) (by omega), o53]; omega
  · rw [o2 170 53 (fun i hi => by omega) (by omega) (by omega), o53, or2 170 54 (by omega) (by omega)]; omega
  · rw [or2 170 54 (by omega) (by omega)]; exact g5
  · rw [or2 170 52 (by omega) (by omega)]; exact g6
  · rw [x9 147 z (by omega) (by omega)] at hz
    obtain ⟨w1, w2, w3⟩ := g7 z hz
    have zx : z ≠ x := fun e => by rw [e, hk] at w2; omega
    exact ⟨a2o z w1, w2, by rw [s4o z w1 zx]; exact w3⟩
  · exact ⟨or2 170 54 (by omega) (by omega), by omega⟩
end PARX
