/-! A part begins. -/
section BEGX
variable {K : SCt} {r r1 r2 s s2 : tab} {Q Q2 : Nat → Nat} {act act2 : Nat → Prop} {lf dr : Nat → Int} {LG : Nat → Prop} {b x y M n md f l k : Nat} {S B : List Int} {tp : Int}
/-- branch b is at the beginning of x -/
def BG (K : SCt) (M : Nat) (r s : tab) (Q : Nat → Nat) (n : Nat) (act : Nat → Prop) (lf dr : Nat → Int) (LG : Nat → Prop) (b x md f l : Nat) (S B : List Int) (tp : Int) : Prop := REL K M False r s Q n act lf dr LG ∧ LVb r b ∧ r 206 b = 1 ∧ lf b = (x : Int) ∧ dr b = -1 ∧ act x ∧ Q x = 1 ∧ s 144 x = -1 ∧ ¬ LG x ∧ BVx r b f S B ∧ KO K s act (s 143 x) x md l S B tp ∧ PLk r lf b tp
theorem CPX_y {md a bb f l k0 k1 q : Nat} {v : Int} {c : Cxx} (h : CPX K md 0 a bb v f l k0 k1 q c) (hm : md ≤ 1) : ∃ y : Nat, v = (y : Int) ∧ bb = y + 1 ∧ CPX K md 0 a (y + 1) (y : Int) f l k0 k1 q c ∧ ((y : Int) < K.1 99 12 ∧ a < y + 1 ∧ f ≤ l ∧ l < 25000) := by
  have e := CPX_rt h hm
  have e2 := h.2.2.2
  obtain ⟨y, hy⟩ : ∃ y : Nat, v = (y : Int) := ⟨(bb - 1 : Nat), by omega⟩
  have hb : bb = y + 1 := by omega
  subst hb
  subst hy
  exact ⟨y, rfl, rfl, h, by omega, by omega, e.2.2.2, e2⟩
theorem FRM_u {u cur : Int} {V : Int → Int → Prop} {y ch md l md2 l2 : Nat} {P rb : List Int} (k : FRM K u cur V y ch md l md2 l2 P rb) : 0 < u := by
  rcases k.2 with ⟨_, _, _, k⟩ | ⟨_, r, n, _, _, _, _, _, _, _, k⟩ | ⟨_, _, k⟩
  · rcases k with k | k | k | k <;> (have := k.2.1; omega)
  · rcases k with ⟨_, _, i, _, k, _⟩ | ⟨_, _, k, _⟩ <;> omega
  · rcases k with ⟨_, _, k, _⟩ | ⟨_, _, _, _, k, _⟩ | ⟨_, _, _, _, k, _⟩ | ⟨_, k, _⟩ | ⟨_, _, k, _⟩ | ⟨_, k, _⟩ | ⟨_, k, _⟩ | ⟨_, k, _⟩ | ⟨_, _, k, _⟩ | ⟨_, _, k, _⟩ | ⟨_, k, _⟩ <;> omega
theorem BEG_of {W : Prop} (hR : REL K M W r s Q n act lf dr LG) (hb : LVb r b) (h1 : r 206 b = 1) (hl : lf b = (x : Int)) (h4 : s 144 x < 0) : BEG K r s Q act lf dr LG b := by
  have e : ∀ {z : Nat}, lf b = (z : Int) → z = x := fun q => by omega
  rcases (hR.2.2.1 b hb).2 with h | ⟨_, z, m, S, B, P, tp, c1, c2, c3, c4, c5, c6, _⟩ | ⟨_, z, ch, md, l, md2, l2, pc, P, rb, S, B, tp, c1, c2, c3, c4, c5, c6, c7, _⟩ | ⟨_, l, pc, tp, c1, _⟩ | ⟨z, l, S, B, v, tp, _, _, _, _, _, _, _, _, c9, _⟩ | ⟨z, m, S, B, P, tp, _, _, _, _, _, _, _, _, _, c10, _⟩ | ⟨c0, _⟩
  · exact h
  · rw [e c1] at c6
    omega
  · have := FRM_u c7
    rw [e c1] at this
    omega
  · omega
  · rcases c9 with ⟨_, c, _⟩ | ⟨_, c, _⟩ <;> omega
  · rcases c10 with ⟨_, c, _⟩ | ⟨_, c, _⟩ <;> omega
  · omega
theorem F7_0 {s : tab} {act : Nat → Prop} {x : Nat} (h : FL7 K s act) (hk : K.1 100 x ≠ 407) : s 147 x = 0 := Classical.byContradiction fun q => hk (h x q).2.1
/-- its PART, unless it is lost -/
theorem b_part (h : BG K M r s Q n act lf dr LG b x md f l S B tp) (hf : f < 25000) (hc : cd K f = 0) : NXT K M b r s Q n ∨ (r 170 53 < r 170 54 ∧ ∃ r2, MS b 1 r r2 ∧ BVx r2 b (f + 1) S B ∧ FRb b (up2 r 170 53 (r 170 53 + 1)) r2 ∧ r2 206 b = 1 ∧ r2 170 52 = 2 ∧ (∀ i, r2 178 i = cd K i) ∧ r2 170 54 = r 170 54 ∧ b < 700) := by
  obtain ⟨hR, hb, h1, hl, hd, ax, qx, h4, ng, hBV, hKO, hPL⟩ := h
  obtain ⟨hPS, ⟨hst, hcd⟩, hBR, hinj, hcov, hdrs, hsh, hcn, hex, hst53, hLG, g1, g2, g3, g4, g5, g6, g7, g8⟩ := id hR
  have b7 := (hBR b hb).1
  by_cases e : r 170 53 = r 170 54
  · left
    obtain ⟨r2, a1, a2, a3⟩ := o_lost b7 hBV hf (by rw [hcd]; exact hc) e
    obtain ⟨ps, p1, p2⟩ := lost hR (.inl ⟨x, ⟨ax, qx, by omega⟩, ng⟩)
    exact .inr (.inl ⟨0, r, r2, ps, rfl, h1, g6, a1, a2, p1, by rw [← e]; exact p2, ST_e (ST_h hcd hsh) (fun k j q => a3 k j (by omega) (by omega))⟩)
  · right
    obtain ⟨r2, a1, a2, a3⟩ := o_part b7 hBV hf (by rw [hcd]; exact hc) e ⟨g3, by omega⟩
    obtain ⟨c1, c2, c3, c4, c5, c6, c7, c8⟩ := FP_o a3 b7
    exact ⟨by omega, r2, MS_1 h1 g6 a1, a2, a3, c5.trans h1, c6.trans g6, fun i => (c8 i).trans (hcd i), c7, b7⟩
/-- it asks its first child -/
theorem b_ask (hK : SPK K) (h : BG K M r s Q n act lf dr LG b x md f l S B tp) (hk : K.1 100 x ≠ 402 ∧ K.1 100 x ≠ 403 ∧ K.1 100 x ≠ 312) (hm : MS b (k + 1) r r2) (hr : HRx b r r2) (h12 : r2 206 b = 1) (hrs : SRr r r2) (hC : CRr K s x r r2) (h53 : r2 170 53 = r 170 53 + 1) (hlt : r 170 53 < r 170 54) (h54 : r2 170 54 = r 170 54) {cur : Int} {pre : wrl} (hpre : pre = [] ∧ cur = s 146 x ∨ pre = [(146, x, cur)]) (hW : Wrx s x = cax ((144, x, trn s x + 1) :: pre, []) (awx s (y : Int) x)) (hph : PHc s x (trn s x + 1) cur) {md2 l2 a f2 k0 k1 : Nat} {c : Cxx} (hF : ∀ V : Int → Int → Prop, FRM K 1 cur V x y md2 l2 md l [] []) (hCX : CPX K md2 0 a (y + 1) (y : Int) f2 l2 k0 k1 0 c) (hBV2 : BVx r2 b f2 S B) : NXT K M b r s Q n := by
  obtain ⟨hR, hb, h1, hl, hd, ax, qx, h4, ng, hBV, hKO, hPL⟩ := h
  obtain ⟨hPS, ⟨hst, hcd⟩, hBR, hinj, hcov, hdrs, hsh, hcn, hex, hst53, hLG, g1, g2, g3, g4, g5, g6, g7, g8⟩ := id hR
  have t0 : trn s x = 0 := if_pos (by omega)
  have hcb : CHb K.1 x (y : Int) := (hF (fun _ _ => True)).1.2.2.2.2.2
  have hmd : md2 ≤ 1 := (hF (fun _ _ => True)).1.2.2.2.2.1
  obtain ⟨s2, Q2, n2, act2, lf2, dr2, x1, x2, _⟩ := g_ask (n := n) hK hR ⟨hb, h1, hl, hd, ax, by omega, ng, hk.2.2⟩ hr h12 hrs hC (by rw [h53, if_pos ⟨by omega, by omega⟩]) (by omega) hpre hW hcb (fun c q => EF_cx q ((CHb_ext hst).mpr hcb) (by omega) (by rw [hst 100 x (by omega)]; exact hk.2.2)) hph (fun V _ _ => by rw [t0]; exact hF V) hCX hmd (P := []) (rb := []) hBV2 hKO hPL
  exact NX_go hm (show rdx (s, Q, n) x from (show 0 < Q x by omega)) x1 x2 h54 (HR_55 hr)
/-- it asks its first child; the reference has nothing to do -/
theorem b_ask0 (hK : SPK K) (h : BG K M r s Q n act lf dr LG b x md f l S B tp) (hk : K.1 100 x = 402 ∨ K.1 100 x = 403) (hW : Wrx s x = cax ((144, x, trn s x + 1) :: [], []) (awx s (y : Int) x)) {md2 l2 a k0 k1 : Nat} {c : Cxx} (hF : ∀ (cur : Int) (V : Int → Int → Prop), FRM K 1 cur V x y md2 l2 md l [] []) (hCX : CPX K md2 0 a (y + 1) (y : Int) f l2 k0 k1 0 c) (hn : ∀ s2 Q2 n2 act2 lf2 dr2, REL K M False r s2 Q2 n2 act2 lf2 dr2 LG → LVb r b → BEG K r s2 Q2 act2 lf2 dr2 LG b → lf2 b = (y : Int) → NXT K M b r s2 Q2 n2) : NXT K M b r s Q n := by
  obtain ⟨hR, hb, h1, hl, hd, ax, qx, h4, ng, hBV, hKO, hPL⟩ := h
  obtain ⟨hPS, ⟨hst, hcd⟩, hBR, hinj, hcov, hdrs, hsh, hcn, hex, hst53, hLG, g1, g2, g3, g4, g5, g6, g7, g8⟩ := id hR
  have t0 : trn s x = 0 := if_pos (by omega)
  have hcb : CHb K.1 x (y : Int) := (hF 0 (fun _ _ => True)).1.2.2.2.2.2
  have hmd : md2 ≤ 1 := (hF 0 (fun _ _ => True)).1.2.2.2.2.1
  have b7 := (hBR b hb).1
  have ek := hst 100 x (by omega)
  obtain ⟨s2, Q2, n2, act2, lf2, dr2, x1, x2, x3, x4, x5⟩ := g_ask (n := n) (r2 := r) (pre := []) hK hR ⟨hb, h1, hl, hd, ax, by omega, ng, by omega⟩ (fun _ _ _ _ _ _ _ _ _ _ => rfl) h1 (fun _ _ _ => rfl) (CR_no (by omega) (fun _ => rfl)) (by rw [if_neg (by omega)]; omega) (by omega) (.inl ⟨rfl, rfl⟩) hW hcb (fun c q => EF_cx q ((CHb_ext hst).mpr hcb) (by omega) (by omega)) (PHc_n (by omega) (by omega)) (fun V _ _ => by rw [t0]; exact hF _ V) hCX hmd (P := []) (rb := []) hBV hKO hPL
  refine NX_1 (show rdx (s, Q, n) x from (show 0 < Q x by omega)) x1 ?_
  exact hn s2 Q2 n2 act2 lf2 dr2 x2 x4 (BEG_of x2 x4 h1 x3 (by omega)) x3
/-- it is done at once -/
theorem b_tell (hK : SPK K) (h : BG K M r s Q n act lf dr LG b x md f l S B tp) (hk : K.1 100 x ≠ 402 ∧ K.1 100 x ≠ 403 ∧ K.1 100 x ≠ 312 ∧ K.1 100 x ≠ 407) (hm : MS b (k + 1) r r2) (hr : HRx b r r2) (h12 : r2 206 b = 1) (hrs : SRr r r2) (hC : CRr K s x r r2) (h53 : r2 170 53 = r 170 53 + 1) (hlt : r 170 53 < r 170 54) (h54 : r2 170 54 = r 170 54) {v : Int} (hW : Wrx s x = cax ((144, x, trn s x + 1) :: [], []) (twx s x v)) {pc : Nat} (hBV2 : BVx r2 b pc ((if md = 0 then [v] else []) ++ S) B) (hpc : PLC K pc l) : NXT K M b r s Q n := by
  obtain ⟨hR, hb, h1, hl, hd, ax, qx, h4, ng, hBV, hKO, hPL⟩ := h
  obtain ⟨hPS, ⟨hst, hcd⟩, hBR, hinj, hcov, hdrs, hsh, hcn, hex, hst53, hLG, g1, g2, g3, g4, g5, g6, g7, g8⟩ := id hR
  obtain ⟨s2, Q2, n2, act2, lf2, dr2, x1, x2, _⟩ := g_tell (n := n) hK hR ⟨hb, h1, hl, hd, ax, by omega, ng, hk.2.2.1⟩ hr h12 hC (by rw [h53, if_pos (.inl (by omega))]) (by omega) (by omega) PZ_nil (F7_0 g7 hk.2.2.2) hW (fun t ht => SH_fr hsh hrs (fun k j q => ht k j q)) hBV2 hpc hKO hPL
  exact NX_go hm (show rdx (s, Q, n) x from (show 0 < Q x by omega)) x1 x2 h54 (HR_55 hr)
theorem b_2 (hK : SPK K) (h : BG K M r s Q n act lf dr LG b x 0 f l S B tp) (hl : l < 25000) (hk : K.1 100 x = 2) (e : l = f + 3) (c0 : cd K f = 0) (c1 : cd K (f + 1) = 2) (c2 : cd K (f + 2) = K.1 101 x) : NXT K M b r s Q n := by
  rcases b_part h (by omega) c0 with q | ⟨lt, r1, m1, v1, f1, d1, d2, d3, d4, b7⟩
  · exact q
  obtain ⟨L1, L2, _⟩ := REL_len hK h.1 h.2.2.2.2.2.1 h.2.2.2.2.2.2.2.2.2.2.1
  have hst := h.1.2.1.1
  obtain ⟨r2, a1, a2, a3⟩ := o_const b7 v1 (by omega) (by rw [d3]; exact c1) (by omega)
  obtain ⟨e1, e2, e3, e4, e5, e6, e7, e8⟩ := FP_o (Fb_tr f1 a3) b7
  refine b_tell hK h (by omega) (MS_tr 1 r m1 (MS_1 d1 d2 a1)) e1 (e5.trans h.2.2.1) e2 (CR_no (by omega) e3) e4 lt e7 (w_2 (by rw [hst 100 x (by omega)]; exact hk)) (v := s 101 x) ?_ (.inl e.symm)
  rw [d3, c2, ← hst 101 x (by omega)] at a2
  exact a2
theorem b_400 (hK : SPK K) (h : BG K M r s Q n act lf dr LG b x 0 f l S B tp) (hl : l < 25000) (hk : K.1 100 x = 400) (e : l = f + 3) (c0 : cd K f = 0) (c1 : cd K (f + 1) = 3) (c2 : cd K (f + 2) = K.1 101 x) (k0 : 0 ≤ K.1 101 x) (k1 : K.1 101 x < 24) : NXT K M b r s Q n := by
  rcases b_part h (by omega) c0 with q | ⟨lt, r1, m1, v1, f1, d1, d2, d3, d4, b7⟩
  · exact q
  obtain ⟨L1, L2, _⟩ := REL_len hK h.1 h.2.2.2.2.2.1 h.2.2.2.2.2.2.2.2.2.2.1
  have hst := h.1.2.1.1
  have hsh : SHx K r s := h.1.2.2.2.2.2.2.1
  obtain ⟨r2, a1, a2, a3⟩ := o_load b7 v1 (by omega) (by rw [d3]; exact c1) (by omega)
  obtain ⟨e1, e2, e3, e4, e5, e6, e7, e8⟩ := FP_o (Fb_tr f1 a3) b7
  refine b_tell hK h (by omega) (MS_tr 1 r m1 (MS_1 d1 d2 a1)) e1 (e5.trans h.2.2.1) e2 (CR_no (by omega) e3) e4 lt e7 (w_400 (by rw [hst 100 x (by omega)]; exact hk)) (v := vrx s (s 101 x)) ?_ (.inl e.symm)
  have e9 : vrx s (s 101 x) = r1 203 (r1 178 (f + 1 + 1)).toNat := by
    rw [d3, c2, (FP_o f1 b7).2.1 203 _ (by omega), hsh.1 _ (by omega)]
    unfold vrx
    rw [hst 101 x (by omega), if_pos ⟨k0, k1⟩]
  rw [e9]
  exact a2
theorem b_314 (hK : SPK K) (h : BG K M r s Q n act lf dr LG b x 1 f l S B tp) (hl : l < 25000) (hk : K.1 100 x = 314) (e : l = f + 1) (c0 : cd K f = 0) : NXT K M b r s Q n := by
  rcases b_part h (by omega) c0 with q | ⟨lt, r1, m1, v1, f1, d1, d2, d3, d4, b7⟩
  · exact q
  have hst := h.1.2.1.1
  obtain ⟨e1, e2, e3, e4, e5, e6, e7, e8⟩ := FP_o f1 b7
  exact b_tell hK h (by omega) m1 e1 d1 e2 (CR_no (by omega) e3) e4 lt e7 (w_314 (by rw [hst 100 x (by omega)]; exact hk)) v1 (.inl e.symm)
/-- PART, and the first child begins behind it -/
theorem b_p1 (hK : SPK K) (h : BG K M r s Q n act lf dr LG b x md f l S B tp) (hf : f < 25000) (c0 : cd K f = 0) (hk : K.1 100 x ≠ 402 ∧ K.1 100 x ≠ 403 ∧ K.1 100 x ≠ 312 ∧ K.1 100 x ≠ 311) {cur : Int} {pre : wrl} (hpre : pre = [] ∧ cur = s 146 x ∨ pre = [(146, x, cur)]) (hW : Wrx s x = cax ((144, x, trn s x + 1) :: pre, []) (awx s (y : Int) x)) (hph : PHc s x (trn s x + 1) cur) {md2 l2 a k0 k1 : Nat} {c : Cxx} (hF : ∀ V : Int → Int → Prop, FRM K 1 cur V x y md2 l2 md l [] []) (hCX : CPX K md2 0 a (y + 1) (y : Int) (f + 1) l2 k0 k1 0 c) : NXT K M b r s Q n := by
  rcases b_part h hf c0 with q | ⟨lt, r1, m1, v1, f1, d1, d2, d3, d4, b7⟩
  · exact q
  obtain ⟨e1, e2, e3, e4, e5, e6, e7, e8⟩ := FP_o f1 b7
  exact b_ask hK h ⟨hk.1, hk.2.1, hk.2.2.1⟩ m1 e1 d1 e2 (CR_no hk.2.2.2 e3) e4 lt e7 hpre hW hph hF hCX v1
end BEGX
