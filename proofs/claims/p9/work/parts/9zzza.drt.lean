/-! A branch whose part is done: it is over, or all is. -/
section DRTX
variable {K : SCt} {W : Prop} {r r1 r2 s s2 : tab} {Q Q2 : Nat → Nat} {act act2 : Nat → Prop} {lf dr : Nat → Int} {LG LG2 : Nat → Prop} {b x p M n n2 m l f pc : Nat} {S B P : List Int} {tp v : Int}
theorem PL_F (h : FRb b r r2) (hb : b < 700) (w : PLk r lf b tp) : PLk r2 lf b tp := by
  rcases w with q | ⟨q, q1, q2, q3, q4, q5, q6, q7⟩
  · exact .inl q
  · exact .inr ⟨q, (h 210 b (by omega) (by omega) (by omega)).trans q1, by rw [h 170 55 (by omega) (by omega) (by omega)]; exact q2, q3, (h 206 q (by omega) (by omega) (by omega)).trans q4, q5, q6, q7⟩
/-- all is done -/
theorem nx_end (hR : REL K M False r s Q n act lf dr LG) (hb : LVb r b) (h1 : r 206 b = 1) (hp : l < 25000) (hBV : BVx r b l [] []) (hc : cd K l = 21) (h13 : s 142 13 = 1) (hna : ∀ q, ¬ act q) : NXT K M b r s Q n := by
  obtain ⟨hPS, ⟨hst, hcd⟩, hBR, hinj, hcov, hdrs, hsh, hcn, hex, hst53, hLG, g1, g2, g3, g4, g5, g6, g7, g8⟩ := id hR
  have b7 := (hBR b hb).1
  obtain ⟨r2, a1, a2⟩ := o_end b7 hBV hp ((hcd l).trans hc)
  have o : ∀ k j, ¬ ((k = 205 ∨ k = 206 ∨ k = 208 ∨ k = 209) ∧ j = b) → k ≠ 220 + b → k ≠ 921 + b → ¬ (k = 170 ∧ j = 52) → r2 k j = r k j := fun k j w1 w2 w3 w4 => (a2 k j (by omega) w2 w3).trans ((if_neg w4).trans (if_neg (by omega)))
  have ea : act = fun _ => False := funext fun q => propext ⟨fun w => hna q w, fun w => w.elim⟩
  refine .inr (.inr ⟨0, r2, [], s, Q, n, MS_1 h1 g6 a1, trivial, rfl, ⟨(a2 170 52 (by omega) (by omega) (by omega)).trans up_self, h13, fun p => Classical.byContradiction fun q => hna p (PS_rd hPS (show 0 < Q p by omega)).1, by rw [← ea]; exact hPS, SH_fr hsh (fun k j w => o k j (by omega) (by omega) (by omega) (by omega)) (fun _ _ _ => rfl), ?_, by rw [o 170 53 (by omega) (by omega) (by omega) (by omega)]; exact g3, by rw [o 170 53 (by omega) (by omega) (by omega) (by omega), o 170 54 (by omega) (by omega) (by omega) (by omega)]; exact g4, hst, fun i => (o 178 i (by omega) (by omega) (by omega) (by omega)).trans (hcd i)⟩, o 170 54 (by omega) (by omega) (by omega) (by omega)⟩)
  rw [hst53, o 170 53 (by omega) (by omega) (by omega) (by omega), smx_z M (fun i _ => by
    unfold pfx
    rw [ind_f (fun w => hna i w.1), ind_f (fun w => hna i (hLG i w).1)]
    rfl)]
  omega
/-- who waits for its branches -/
theorem JO_of (hbr : BRx K W r s Q act lf dr LG b) (h6 : r 206 b = 6) : JOI K r s act lf dr LG b := by
  rcases hbr.2 with ⟨c0, _⟩ | ⟨c0, _⟩ | ⟨c0, _⟩ | ⟨c0, _⟩ | ⟨z, l, S, B, v, tp, _, _, _, _, _, _, _, _, c9, _⟩ | ⟨z, m, S, B, P, tp, _, _, _, _, _, _, _, _, _, c10, _⟩ | h
  · omega
  · omega
  · omega
  · omega
  · rcases c9 with ⟨_, c, _⟩ | ⟨_, c, _⟩ <;> omega
  · rcases c10 with ⟨_, c, _⟩ | ⟨_, c, _⟩ <;> omega
  · exact h
theorem sm_1 {f : Nat → Prop} (hp : p < M) (h : f p) : 1 ≤ smx (fun i => ind (f i)) M := by
  have u := sm_p (f := fun i => ind (f i)) (g := fun i => if i = p then 0 else ind (f i)) hp (fun i ne => by rw [if_neg ne])
  have v := (smz_b (f := fun i => if i = p then 0 else ind (f i)) (a := 0) (b := 1) M (fun i _ => by
    split
    · omega
    · exact ind_r)).1
  rw [if_pos rfl, ind_t h] at u
  omega
theorem sm_2 {f : Nat → Prop} {q : Nat} (hp : p < M) (hq : q < M) (ne : p ≠ q) (h : f p) (h2 : f q) : 2 ≤ smx (fun i => ind (f i)) M := by
  have u := sm_p (f := fun i => ind (f i)) (g := fun i => ind (f i ∧ i ≠ p)) hp (fun i e => ind_e ⟨fun w => ⟨w, e⟩, fun w => w.1⟩)
  have v := sm_1 (f := fun i => f i ∧ i ≠ p) hq ⟨h2, fun e => ne e.symm⟩
  rw [ind_t h, ind_f (fun w => w.2 rfl)] at u
  omega
theorem KON_no (np : NoC s act x) : ∀ (k : Nat) (y : Int) (c m3 l3 : Nat) (S3 B3 : List Int), act c → s 143 c = y → KON K s act k y c m3 l3 S3 B3 (x : Int) → False
  | 0, _, _, _, _, _, _, _, _, q => q
  | k + 1, y, c, m3, l3, S3, B3, ac, ey, q => by
    rcases q with ⟨_, _, _, _, _, _, q⟩ | ⟨z, h1, h2, h3, _, _, _, _, _, h9⟩ | ⟨z, md2, l2, P, rb, S2, B2, h1, h2, h3, h4, h5, h6⟩
    · omega
    · exact np c ac (by rw [ey, h1, h9])
    · exact KON_no np k _ z _ _ _ _ h2 rfl h6
/-- a branch is over -/
theorem nx_over (hR : REL K M False r s Q n act lf dr LG) (hb : LVb r b) (h1 : r 206 b = 1) (hlf : lf b = -1) (hp : l < 25000) (hBV : BVx r b l [] []) (hd : dr b = (x : Int)) (ax : act x) (hpb : PBg s x) (hc : cd K l = 20) (hPL : PLk r lf b (x : Int)) : NXT K M b r s Q n := by
  obtain ⟨hPS, ⟨hst, hcd⟩, hBR, hinj, hcov, hdrs, hsh, hcn, hex, hst53, hLG, g1, g2, g3, g4, g5, g6, g7, g8⟩ := id hR
  have b7 := (hBR b hb).1
  rcases hPL with w | ⟨q, q1, q2, q3, q4, q5, _, qb⟩
  · omega
  have lq : LVb r q := ⟨q2, by omega⟩
  obtain ⟨_, x0, f, l0, S, B, tp, j1, j2, j3, j4, j5, j6, j7, j8, j9, j10, j11, j12, j13, j14⟩ := JO_of (hBR q lq) q4
  have : x0 = x := by omega
  subst this
  have kx : K.1 100 x0 = 312 := (hst 100 x0 (by omega)).symm.trans hpb.1
  have hQ : 1 ≤ (Q x0 : Int) := by
    rw [hdrs x0 ax hpb]
    exact sm_1 b7 ⟨hb, hd⟩
  have qp : 0 < Q x0 := by omega
  obtain ⟨⟨cx, anc, hJ⟩, _, _, _, hM, _⟩ := id hPS
  have xM : x0 < M := by
    have := (EF_k (hJ.2.2.1 x0 ax).1).2.1
    omega
  obtain ⟨r2, a1, a2⟩ := o_over b7 hBV hp ((hcd l).trans hc) q1 (c := r 211 q) rfl ⟨j7, by
    have := hpb.2
    have := (EF_k (hJ.2.2.1 x0 ax).1).2.2.2
    have := hJ.2.2.2.2.2.2.2.2.1 x0 ax hpb
    obtain ⟨_, _, _, w⟩ := this
    have := hst 102 x0 (by omega)
    have e12 : K.1 102 x0 ≤ 6 := by
      obtain ⟨_, _, _, _, _, _, _, _, _, _, _, _, _, _, _, v⟩ := EF_k (hJ.2.2.1 x0 ax).1
      have := (v hpb.1).1
      omega
    omega⟩
  have lvl : ∀ b2, LVb r b2 → 0 ≤ lf b2 → b2 ≠ b := fun b2 _ w e => by rw [e, hlf] at w; omega
  have HV : ∀ {s2 : tab} {Q2 : Nat → Nat} {act2 : Nat → Prop}, MVx s Q act s2 Q2 act2 (fun z => z = x0) x0 → ∀ (z : Nat) (c : Int), act z → z ≠ x0 → CHl K.1 z c → 0 ≤ c → ¬ act c.toNat → ¬ act2 c.toNat ∧ s2 145 c.toNat = s 145 c.toNat := fun x3 => HV_of hPS hst x3 ax rfl
  by_cases c1 : r 211 q = 1
  · -- the PAR is done
    rw [if_pos c1] at a2
    have o : ∀ k j, ¬ ((k = 205 ∨ k = 206 ∨ k = 208 ∨ k = 209) ∧ j = b) → k ≠ 220 + b → k ≠ 921 + b → ¬ ((k = 206 ∨ k = 211) ∧ j = q) → r2 k j = r k j := fun k j w1 w2 w3 w4 => (a2 k j (by omega) w2 w3).trans ((if_neg (by omega)).trans ((if_neg (by omega)).trans (if_neg (by omega))))
    have e6q : r2 206 q = 1 := (a2 206 q (by omega) (by omega) (by omega)).trans up_self
    have e6b : r2 206 b = 0 := (a2 206 b (by omega) (by omega) (by omega)).trans ((if_neg (by omega)).trans ((if_neg (by omega)).trans up_self))
    obtain ⟨ch, hch1, hch2, hch3⟩ := hJ.2.2.2.2.2.2.2.2.1 x0 ax hpb
    have e102 := hst 102 x0 (by omega)
    have lz : ch.length = 0 := by omega
    have q1x : Q x0 = 1 := by omega
    have np : NoC s act x0 := fun z az e => by
      have := (hch2 z).mpr ⟨az, e⟩
      rw [List.length_eq_zero_iff.mp lz] at this
      exact absurd this List.not_mem_nil
    have tx : trn s x0 = s 144 x0 := if_neg (by have := hpb.2; omega)
    obtain ⟨s2, Q2, n2, x1, x2, x3, x4, x5, x6, x7⟩ := mv_tell (n := n) hPS qp (fun _ => ⟨q1x, np⟩) PZ_nil (w_312 hpb.1 (by have := hpb.2; omega) (by omega))
    have so : ∀ k j, k ≠ 142 → ¬ ((k = 144 ∨ k = 145) ∧ j = x0) → s2 k j = s k j := fun k j w1 w2 => (x4 k j w1).trans ((if_neg (by omega)).trans (if_neg (by omega)))
    have lv2 : ∀ b2, LVb r2 b2 → LVb r b2 ∧ b2 ≠ b := fun b2 w => by
      have ne : b2 ≠ b := fun e => w.2 (by rw [e]; exact e6b)
      refine ⟨⟨by rw [← o 170 55 (by omega) (by omega) (by omega) (by omega)]; exact w.1, ?_⟩, ne⟩
      by_cases e : b2 = q
      · rw [e]; exact lq.2
      · rw [← o 206 b2 (by omega) (by omega) (by omega) (by omega)]; exact w.2
    have lv1 : ∀ b2, LVb r b2 → b2 ≠ b → LVb r2 b2 := fun b2 w ne => by
      refine ⟨by rw [o 170 55 (by omega) (by omega) (by omega) (by omega)]; exact w.1, ?_⟩
      by_cases e : b2 = q
      · rw [e, e6q]; decide
      · rw [o 206 b2 (by omega) (by omega) (by omega) (by omega)]; exact w.2
    have plk : ∀ (w : Int) b2 tp2, LVb r b2 → b2 ≠ b → PLk r lf b2 tp2 → tp2 ≠ (x0 : Int) → PLk r2 (fun i => if i = q then w else lf i) b2 tp2 := fun w b2 tp2 l2 ne h9 nx => by
      rcases h9 with v | ⟨u, u1, u2, u3, u4, u5, u6, u7⟩
      · exact .inl v
      · have uq : u ≠ q := fun e => nx (by rw [← u5, e]; exact q5)
        have ub : u ≠ b := fun e => by rw [e, h1] at u4; omega
        exact .inr ⟨u, (o 210 b2 (by omega) (by omega) (by omega) (by omega)).trans u1, by rw [o 170 55 (by omega) (by omega) (by omega) (by omega)]; exact u2, u3, (o 206 u (by omega) (by omega) (by omega) (by omega)).trans u4, (if_neg uq).trans u5, u6, u7⟩
    have tpx : tp ≠ (x0 : Int) := fun e => by
      obtain ⟨k, hk⟩ := j13
      rcases KON_gt hJ k _ x0 _ _ _ _ ax rfl hk with u | u <;> omega
    have ntp : ∀ b2 tp2, LVb r b2 → b2 ≠ b → TPx K s act lf dr b2 tp2 → tp2 ≠ (x0 : Int) := fun b2 tp2 l2 ne h9 e => by
      rcases h9 with h9 | h9 | ⟨z, m3, l3, S3, B3, _, az, k, hk⟩
      · omega
      · have := sm_2 (f := fun i => LVb r i ∧ dr i = (x0 : Int)) (M := 700) b7 (hBR b2 l2).1 (fun w => ne w.symm) ⟨hb, hd⟩ ⟨l2, by rw [h9, e]⟩
        have := hdrs x0 ax hpb
        omega
      · exact KON_no np k _ z m3 l3 S3 B3 az rfl (by rw [← e]; exact hk)
    have OT : ∀ (w d : Int) b2, b2 ≠ q → LVb r2 b2 → BRx K False r2 s2 Q2 (fun q => act q ∧ q ≠ x0) (fun i => if i = q then w else lf i) (fun i => if i = q then d else dr i) LG b2 := fun w d b2 ne l2 => by
      obtain ⟨lb2, nb2⟩ := lv2 b2 l2
      have b27 := (hBR b2 lb2).1
      exact BR_mv hPS hst x3 ax rfl (fun z e => .inl (by rw [show z = x0 from e]; exact np)) (.inr np) (hBR b2 lb2) (fun k j w2 => o k j (by omega) (by omega) (by omega) (by omega)) (if_neg ne) (if_neg ne) (fun z ez e => ne (hinj b2 q lb2 lq (by omega) (by rw [ez, q5, show z = x0 from e]))) (fun _ _ => Iff.rfl) (fun tp2 w1 w2 => plk w b2 tp2 lb2 nb2 w2 (ntp b2 tp2 lb2 nb2 w1)) (fun z tp2 w1 w2 e w3 w4 => absurd w4.symm (by rw [show z = x0 from e]; exact ntp b2 tp2 lb2 nb2 w1)) (fun w2 => by rw [x5, w2]; split <;> rfl) (fun k L z w2 _ w4 => (so k L (by omega) (by omega)).trans w4)
    have hdq : ∀ z : Nat, act z → z ≠ x0 → PBg s z → (Q z : Int) = smx (fun i => ind (LVb r2 i ∧ dr i = (z : Int))) 700 := fun z az ne bz => by
      rw [hdrs z az bz]
      refine smx_c (fun i _ => ind_e ⟨fun w => ⟨lv1 i w.1 (fun e => ?_), w.2⟩, fun w => ⟨(lv2 i w.1).1, w.2⟩⟩)
      have := w.2
      rw [e, hd] at this
      omega
    have hCN : CNx K r2 s2 (fun q => act q ∧ q ≠ x0) := fun y ay ky ty => by
      rw [so 144 y (by omega) (by have := ay.2; omega)] at ty ⊢
      rw [o 204 _ (by omega) (by omega) (by omega) (by omega)]
      exact hcn y ay.1 ky ty
    have o53 : r2 170 53 = r 170 53 := o 170 53 (by omega) (by omega) (by omega) (by omega)
    have hS : (n2 : Int) = r2 170 53 + smx (pfx K s2 (fun q => act q ∧ q ≠ x0) LG) M := by
      rw [x7, if_neg (by have := hpb.2; omega), o53, Nat.add_zero, hst53]
      refine congrArg (r 170 53 + ·) (smx_c (fun z _ => ?_))
      unfold pfx
      refine congrArg (· - ind (LG z)) (ind_e ⟨fun w => ?_, fun w => ?_⟩)
      · have zx : z ≠ x0 := fun e => by have := w.2.1; rw [e, kx] at this; omega
        exact ⟨⟨w.1, zx⟩, w.2.1, by rw [so 144 z (by omega) (by omega)]; exact w.2.2⟩
      · exact ⟨w.1.1, w.2.1, by rw [← so 144 z (by omega) (by have := w.1.2; omega)]; exact w.2.2⟩
    have hF7 : FL7 K s2 (fun q => act q ∧ q ≠ x0) := fun z hz => by
      rw [so 147 z (by omega) (by omega)] at hz
      obtain ⟨w1, w2, w3⟩ := g7 z hz
      have zx : z ≠ x0 := fun e => by rw [e, kx] at w2; omega
      exact ⟨⟨w1, zx⟩, w2, by rw [so 144 z (by omega) (by omega)]; exact w3⟩
    obtain ⟨lf2, dr2, y1, y2, _, y4⟩ := t_tell2 (X := fun z => z = x0) (b := q) (p := x0) (n2 := n2) (md := 1) (l := l0) (pc := f + 9) (S := S) (B := B) (tp := tp) (LG2 := LG) (v := 0) hR q3 q5 j2 np ax rfl (fun z e => by rw [show z = x0 from e]; exact np) (fun z e ne => absurd e ne) (fun z => ⟨fun w => ⟨w, fun e => j5 (e ▸ w)⟩, fun w => w.1⟩) x2 x3 (fun w => by omega) x5 (fun q nq => by rw [x6, if_neg nq]) (fun L w => by rw [so 152 L (by omega) (by omega), so 153 L (by omega) (by omega)]; exact hex L w) OT (lv1 q lq qb) (fun b2 w => (lv2 b2 w).1) (fun b2 w1 w2 => lv1 b2 w1 (lvl b2 w1 w2)) hdq (fun w => plk w q tp lq qb j14 tpx) (fun i => o 178 i (by omega) (by omega) (by omega) (by omega)) (o 170 55 (by omega) (by omega) (by omega) (by omega)) (o 170 54 (by omega) (by omega) (by omega) (by omega)) (o 170 52 (by omega) (by omega) (by omega) (by omega)) e6q (BV_fr j12 (fun k j w => o k j (by omega) (by omega) (by omega) (by omega))) (.inr ⟨j8, j9, j11⟩) j13 j14 (SH_fr hsh (fun k j w => o k j (by omega) (by omega) (by omega) (by omega)) (fun k j w => so k j (by omega) (by omega))) hCN hS ⟨by rw [o53]; exact g3, by rw [o53]; exact g4⟩ hF7
    exact NX_go (MS_1 h1 g6 a1) (show rdx (s, Q, n) x0 from qp) x1 y1 (o 170 54 (by omega) (by omega) (by omega) (by omega)) (by rw [o 170 55 (by omega) (by omega) (by omega) (by omega)]; exact Int.le_refl _)
  · -- others of its branches go on
    rw [if_neg c1] at a2
    have o : ∀ k j, ¬ ((k = 205 ∨ k = 206 ∨ k = 208 ∨ k = 209) ∧ j = b) → k ≠ 220 + b → k ≠ 921 + b → ¬ (k = 211 ∧ j = q) → r2 k j = r k j := fun k j w1 w2 w3 w4 => (a2 k j (by omega) w2 w3).trans ((if_neg (by omega)).trans (if_neg (by omega)))
    have e11 : r2 211 q = r 211 q - 1 := (a2 211 q (by omega) (by omega) (by omega)).trans up_self
    have e6b : r2 206 b = 0 := (a2 206 b (by omega) (by omega) (by omega)).trans ((if_neg (by omega)).trans up_self)
    have e102 := hst 102 x0 (by omega)
    obtain ⟨s2, Q2, n2, x1, x2, x3, x4, x5, x6⟩ := mv_cnt (n := n) hPS qp hpb (by omega)
    have so : ∀ k j, ¬ (k = 144 ∧ j = x0) → s2 k j = s k j := fun k j w => by rw [x4]; exact if_neg w
    have e44 : s2 144 x0 = s 144 x0 + 1 := by rw [x4]; exact up_self
    have pb2 : PBg s2 x0 := ⟨(so 100 x0 (by omega)).trans hpb.1, by have := hpb.2; omega⟩
    have lv2 : ∀ b2, LVb r2 b2 → LVb r b2 ∧ b2 ≠ b := fun b2 w => by
      have ne : b2 ≠ b := fun e => w.2 (by rw [e]; exact e6b)
      exact ⟨⟨by rw [← o 170 55 (by omega) (by omega) (by omega) (by omega)]; exact w.1, by rw [← o 206 b2 (by omega) (by omega) (by omega) (by omega)]; exact w.2⟩, ne⟩
    have lv1 : ∀ b2, LVb r b2 → b2 ≠ b → LVb r2 b2 := fun b2 w ne => ⟨by rw [o 170 55 (by omega) (by omega) (by omega) (by omega)]; exact w.1, by rw [o 206 b2 (by omega) (by omega) (by omega) (by omega)]; exact w.2⟩
    have plk : ∀ b2 tp2, LVb r b2 → b2 ≠ b → PLk r lf b2 tp2 → PLk r2 lf b2 tp2 := fun b2 tp2 l2 ne h9 => by
      rcases h9 with v | ⟨u, u1, u2, u3, u4, u5, u6, u7⟩
      · exact .inl v
      · have ub : u ≠ b := fun e => by rw [e, h1] at u4; omega
        exact .inr ⟨u, (o 210 b2 (by omega) (by omega) (by omega) (by omega)).trans u1, by rw [o 170 55 (by omega) (by omega) (by omega) (by omega)]; exact u2, u3, (o 206 u (by omega) (by omega) (by omega) (by omega)).trans u4, u5, u6, u7⟩
    have o53 : r2 170 53 = r 170 53 := o 170 53 (by omega) (by omega) (by omega) (by omega)
    refine NX_go (MS_1 h1 g6 a1) (show rdx (s, Q, n) x0 from qp) x1 (show REL K M False r2 s2 Q2 n2 act lf dr LG from ⟨x2, ⟨fun k j w => (x3.2.2.2 k j w).trans (hst k j w), fun i => (o 178 i (by omega) (by omega) (by omega) (by omega)).trans (hcd i)⟩, fun b2 w => ?_, fun b1 b2 w1 w2 => hinj b1 b2 (lv2 b1 w1).1 (lv2 b2 w2).1, fun z az nz => ?_, fun z az bz => ?_, SH_fr hsh (fun k j w => o k j (by omega) (by omega) (by omega) (by omega)) (fun k j w => so k j (by omega)), fun y ay ky ty => ?_, fun L w => by rw [so 152 L (by omega), so 153 L (by omega)]; exact hex L w, ?_, fun z lz => ?_, by rw [o 170 55 (by omega) (by omega) (by omega) (by omega)]; exact g1, by rw [o 170 55 (by omega) (by omega) (by omega) (by omega)]; exact g2, by rw [o53]; exact g3, by rw [o53, o 170 54 (by omega) (by omega) (by omega) (by omega)]; exact g4, by rw [o 170 54 (by omega) (by omega) (by omega) (by omega)]; exact g5, (o 170 52 (by omega) (by omega) (by omega) (by omega)).trans g6, fun z hz => ?_, .inl ((so 142 13 (by omega)).trans (L13_0 g8 ax))⟩) (o 170 54 (by omega) (by omega) (by omega) (by omega)) (by rw [o 170 55 (by omega) (by omega) (by omega) (by omega)]; exact Int.le_refl _)
    · obtain ⟨lb2, nb2⟩ := lv2 b2 w
      have b27 := (hBR b2 lb2).1
      by_cases e : b2 = q
      · rw [e]
        refine ⟨q3, .inr (.inr (.inr (.inr (.inr (.inr ⟨(o 206 q (by omega) (by omega) (by omega) (by omega)).trans q4, x0, f, l0, S, B, tp, q5, j2, ax, pb2, j5, by rw [e11, e44]; omega, by omega, j8, j9, j10, j11, BV_fr j12 (fun k j w => o k j (by omega) (by omega) (by omega) (by omega)), ?_, plk q tp lq qb j14⟩)))))⟩
        obtain ⟨k, hk⟩ := j13
        rw [so 143 x0 (by omega)]
        refine ⟨k, KON_mv (X := fun z => z = x0) (fun z e => .inr (by rw [show z = x0 from e]; exact kx)) (fun z az e => ?_) (fun z e v _ => by rw [show z = x0 from e]; exact ⟨pb2, ax⟩) (fun j => so 100 j (by omega)) (fun j => hst 100 j (by omega)) (HV x3) k _ _ _ _ _ _ (fun z e _ => by rw [show z = x0 from e]; exact kx) hk⟩
        obtain ⟨a1, a2, a3, _, a5, _⟩ := x3.1 z az e
        exact ⟨a1, a2, a3, a5⟩
      · exact BR_mv hPS hst x3 ax rfl (fun z e => .inr (by rw [show z = x0 from e]; exact kx)) (.inl (fun _ w => w)) (hBR b2 lb2) (fun k j w2 => o k j (by omega) (by omega) (by omega) (by omega)) rfl rfl (fun z ez e2 => e (hinj b2 q lb2 lq (by omega) (by rw [ez, q5, show z = x0 from e2]))) (fun _ _ => Iff.rfl) (fun tp2 _ w2 => plk b2 tp2 lb2 nb2 w2) (fun z tp2 _ _ e2 _ _ => by rw [show z = x0 from e2]; exact ⟨pb2, ax⟩) (fun w2 => (so 142 13 (by omega)).trans w2) (fun k L z w2 _ w4 => (so k L (by omega)).trans w4)
    · obtain ⟨b2, w1, w2⟩ := hcov z az (fun y ay e => nz y ay ((so 143 y (by omega)).trans e))
      exact ⟨b2, lv1 b2 w1 (lvl b2 w1 (by omega)), w2⟩
    · rw [x5]
      by_cases e : z = x0
      · rw [if_pos e, e]
        have u := sm_p (f := fun i => ind (LVb r i ∧ dr i = (x0 : Int))) (g := fun i => ind (LVb r2 i ∧ dr i = (x0 : Int))) (p := b) (M := 700) b7 (fun i ne => ind_e ⟨fun w => ⟨lv1 i w.1 ne, w.2⟩, fun w => ⟨(lv2 i w.1).1, w.2⟩⟩)
        have v1 : ind (LVb r b ∧ dr b = (x0 : Int)) = 1 := ind_t ⟨hb, hd⟩
        have v2 : ind (LVb r2 b ∧ dr b = (x0 : Int)) = 0 := ind_f (fun w => (lv2 b w.1).2 rfl)
        rw [v1, v2] at u
        have := hdrs x0 ax hpb
        omega
      · rw [if_neg e, hdrs z az ⟨(so 100 z (by omega)).symm.trans bz.1, by rw [← so 144 z (by omega)]; exact bz.2⟩]
        refine smx_c (fun i _ => ind_e ⟨fun w => ⟨lv1 i w.1 (fun e2 => ?_), w.2⟩, fun w => ⟨(lv2 i w.1).1, w.2⟩⟩)
        have := w.2
        rw [e2, hd] at this
        omega
    · have yx : y ≠ x0 := fun e => by rw [e, kx] at ky; omega
      rw [so 144 y (by omega)] at ty ⊢
      rw [o 204 _ (by omega) (by omega) (by omega) (by omega)]
      exact hcn y ay ky ty
    · rw [x6, o53, hst53]
      refine congrArg (r 170 53 + ·) (smx_c (fun z _ => ?_))
      unfold pfx
      refine congrArg (· - ind (LG z)) (ind_e ⟨fun w => ?_, fun w => ?_⟩)
      · have zx : z ≠ x0 := fun e => by have := w.2.1; rw [e, kx] at this; omega
        exact ⟨w.1, w.2.1, by rw [so 144 z (by omega)]; exact w.2.2⟩
      · have zx : z ≠ x0 := fun e => by have := w.2.1; rw [e, kx] at this; omega
        exact ⟨w.1, w.2.1, by rw [← so 144 z (by omega)]; exact w.2.2⟩
    · obtain ⟨w1, w2, w3, w4, w5, w6⟩ := hLG z lz
      have zx : z ≠ x0 := fun e => by rw [e, kx] at w4; omega
      exact ⟨w1, by rw [x5, if_neg zx]; exact w2, by rw [so 144 z (by omega)]; exact w3, w4, (so 147 z (by omega)).trans w5, w6⟩
    · rw [so 147 z (by omega)] at hz
      obtain ⟨w1, w2, w3⟩ := g7 z hz
      have zx : z ≠ x0 := fun e => by rw [e, kx] at w2; omega
      exact ⟨w1, w2, by rw [so 144 z (by omega)]; exact w3⟩
/-- a branch whose part is done goes on -/
theorem nx_R (hR : REL K M False r s Q n act lf dr LG) (hb : LVb r b) (hB : DRT K r s act lf dr b) : NXT K M b r s Q n := by
  obtain ⟨h1, l, pc, tp, h2, h3, h4, h5, h6, h7⟩ := id hB
  have b7 := (hR.2.2.1 b hb).1
  rcases h3 with e | ⟨e1, e2, e3⟩
  · subst e
    rcases h6 with ⟨w1, w2, w3, w4, w5⟩ | ⟨w1, w2, w3, w4, w5⟩
    · exact nx_end hR hb h1 h4 h5 w3 w4 w5
    · obtain ⟨x, hx⟩ : ∃ x : Nat, tp = (x : Int) := ⟨tp.toNat, by omega⟩
      subst hx
      rw [Int.toNat_natCast] at w3 w4
      exact nx_over hR hb h1 h2 h4 h5 w1 w3 w4 w5 h7
  · obtain ⟨r2, a1, a2, a3⟩ := o_jump b7 h5 e3 ((hR.2.1.2 pc).trans e1) (m := l) ((hR.2.1.2 _).trans e2)
    have hbr : BRx K False r2 s Q act lf dr LG b := ⟨b7, .inr (.inr (.inr (.inl ⟨(a3 206 b (by omega) (by omega) (by omega)).trans h1, l, l, tp, h2, .inl rfl, h4, a2, h6, PL_F a3 b7 h7⟩)))⟩
    obtain ⟨j1, _, _, _, j5⟩ := REL_r hR hb h1 a3 hbr
    exact .inl ⟨0, r2, [], s, Q, n, act, lf, dr, LG, MS_1 h1 hR.2.2.2.2.2.2.2.2.2.2.2.2.2.2.2.2.1 a1, trivial, rfl, j1, j5, HR_55 (HR_F a3)⟩
end DRTX
