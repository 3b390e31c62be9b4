/-! The kinds when a child is done: SET, RECEIVE, BLOCK, IF, WHILE, REPEAT. -/
section DON3
variable {K : SCt} {W : Prop} {r r1 r2 s s2 : tab} {Q Q2 : Nat → Nat} {act act2 : Nat → Prop} {lf dr : Nat → Int} {LG LG2 : Nat → Prop} {b z ch y M n n2 m md md2 l l2 f pc k a k0 k1 : Nat} {S B P rb : List Int} {tp v cur : Int} {c : Cxx}
theorem FV_o {g : Nat} {w : Int} (h : FRb b (up2 r 203 g w) r2) (hb : b < 700) : HRx b r r2 ∧ (∀ j, r2 204 j = r 204 j) ∧ r2 170 53 = r 170 53 ∧ r2 206 b = r 206 b ∧ r2 170 54 = r 170 54 ∧ ∀ k j, k = 179 ∨ k = 180 ∨ k = 203 ∨ 213 ≤ k ∧ k ≤ 218 ∨ 1622 ≤ k ∧ k ≤ 1630 → r2 k j = up2 r 203 g w k j := by
  have o : ∀ k j, k ≠ 203 → up2 r 203 g w k j = r k j := fun k j q => if_neg (by omega)
  exact ⟨fun k j a1 a2 a3 a4 a5 a6 a7 a8 => (h k j (by omega) a2 a3).trans (o k j a5), fun j => (h _ j (by omega) (by omega) (by omega)).trans (o _ j (by omega)), (h _ _ (by omega) (by omega) (by omega)).trans (o _ _ (by omega)), (h _ _ (by omega) (by omega) (by omega)).trans (o _ _ (by omega)), (h _ _ (by omega) (by omega) (by omega)).trans (o _ _ (by omega)), fun k j q => h k j (by omega) (by omega) (by omega)⟩
theorem FA_o {g i : Nat} {w : Int} (h : FRb b (up2 r (213 + g) i w) r2) (hg : g < 6) (hb : b < 700) : HRx b r r2 ∧ (∀ j, r2 204 j = r 204 j) ∧ r2 170 53 = r 170 53 ∧ r2 206 b = r 206 b ∧ r2 170 54 = r 170 54 ∧ ∀ k j, k = 179 ∨ k = 180 ∨ k = 203 ∨ 213 ≤ k ∧ k ≤ 218 ∨ 1622 ≤ k ∧ k ≤ 1630 → r2 k j = up2 r (213 + g) i w k j := by
  have o : ∀ k j, ¬ (213 ≤ k ∧ k ≤ 218) → up2 r (213 + g) i w k j = r k j := fun k j q => if_neg (by omega)
  exact ⟨fun k j a1 a2 a3 a4 a5 a6 a7 a8 => (h k j (by omega) a2 a3).trans (o k j a7), fun j => (h _ j (by omega) (by omega) (by omega)).trans (o _ j (by omega)), (h _ _ (by omega) (by omega) (by omega)).trans (o _ _ (by omega)), (h _ _ (by omega) (by omega) (by omega)).trans (o _ _ (by omega)), (h _ _ (by omega) (by omega) (by omega)).trans (o _ _ (by omega)), fun k j q => h k j (by omega) (by omega) (by omega)⟩
theorem as_a {g : Nat} {x v : Int} (h0 : g < 6) : asx s ((g : Int) + 24) x v = [(149, ((g : Int) * 64 + plx s (g : Int) x).toNat, i2s v)] := by
  unfold asx
  rw [if_neg (by omega), if_pos (by omega), show (g : Int) + 24 - 24 = (g : Int) by omega]
theorem d_405 (hK : SPK K) (h : DN K M r s Q n act lf dr LG b z 1 l2 S B tp) (hk : K.1 100 z = 405) (h3 : K.1 103 z = -1) (hu : s 144 z = 1) (hv : PVy K s act z (K.1 102 z) v) (hBV : BVx r b l (v :: S) B) (hl : l < 25000) (c1 : cd K l = 5) (c2 : cd K (l + 1) = K.1 101 z) (e : l2 = l + 2) (hb : 0 ≤ K.1 101 z ∧ K.1 101 z < 24 ∧ bnd K.1 (K.1 101 z).toNat) : NXT K M b r s Q n := by
  obtain ⟨b7, h1, h52, hcd⟩ := D_b h
  have hst := h.1.2.1.1
  obtain ⟨hz, g7, hsh, g4⟩ := D_z h
  obtain ⟨g, hg⟩ : ∃ g : Nat, K.1 101 z = (g : Int) := ⟨(K.1 101 z).toNat, by omega⟩
  rw [hg, Int.toNat_natCast] at hb
  obtain ⟨ra, a1, a2, a3⟩ := o_store b7 hBV hl ((hcd l).trans c1) (by have := D_l hK h; omega) (a := g) ((hcd _).trans (c2.trans hg))
  obtain ⟨e1, e2, e3, e4, e5, e6⟩ := FV_o a3 b7
  have kk : s 100 z = 405 := (hst 100 z (by omega)).trans hk
  have ev : vax s (s 102 z) = v := by rw [hst 102 z (by omega)]; exact D_v h hv
  have hW := w_405c kk (by unfold sgu; rw [if_pos (by rw [hst 103 z (by omega)]; omega), D_t h, hu]; rfl)
  rw [ev, hst 101 z (by omega), hg, as_v (by omega) (by omega), Int.toNat_natCast] at hW
  exact d_tell hK h (MS_1 h1 h52 a1) e1 (e4.trans h1) (CR_no (by omega) e2) (by rw [e3, if_neg (by omega)]; omega) (by omega) e5 (PZ_one (by omega)) ((if_neg (by omega)).trans (F7_0 g7 (by omega))) hW (fun t ht => SH_va hsh (by omega) hb.2.2 hst rfl e6 ht) a2 (.inl e.symm)
theorem d_405s (hK : SPK K) (h : DN K M r s Q n act lf dr LG b z 1 l2 S B tp) (hk : K.1 100 z = 405) (h3 : 0 ≤ K.1 103 z) (hu : s 144 z = 2) {v1 : Int} (hv1 : PVy K s act z (K.1 103 z) v1) (hv : PVy K s act z (K.1 102 z) v) (hBV : BVx r b l (v :: v1 :: S) B) (hl : l < 25000) (c1 : cd K l = 6) (c2 : cd K (l + 1) = K.1 101 z - 24) (e : l2 = l + 2) (hb : 24 ≤ K.1 101 z ∧ K.1 101 z < 30 ∧ bnd K.1 (K.1 101 z).toNat) : NXT K M b r s Q n := by
  obtain ⟨b7, h1, h52, hcd⟩ := D_b h
  have hst := h.1.2.1.1
  obtain ⟨hz, g7, hsh, g4⟩ := D_z h
  obtain ⟨g, hg⟩ : ∃ g : Nat, K.1 101 z = (g : Int) + 24 := ⟨(K.1 101 z - 24).toNat, by omega⟩
  have hbn : bnd K.1 (24 + g) := by rw [show 24 + g = (K.1 101 z).toNat by omega]; exact hb.2.2
  obtain ⟨ra, a1, a2, a3⟩ := o_stori b7 hBV hl ((hcd l).trans c1) (by have := D_l hK h; omega) (a := g) ((hcd _).trans (c2.trans (by omega))) (by omega)
  obtain ⟨e1, e2, e3, e4, e5, e6⟩ := FA_o a3 (by omega) b7
  have kk : s 100 z = 405 := (hst 100 z (by omega)).trans hk
  have ev : vax s (s 102 z) = v := by rw [hst 102 z (by omega)]; exact D_v h hv
  have ev1 : vax s (s 103 z) = v1 := by rw [hst 103 z (by omega)]; exact D_v h hv1
  obtain ⟨i1, i2, i3⟩ := ar_ix hsh hst hz (show g < 6 by omega) hbn v1
  have hW := w_405c kk (by unfold sgu; rw [if_neg (by rw [hst 103 z (by omega)]; omega), D_t h, hu])
  rw [ev, ev1, hst 101 z (by omega), hg, as_a (by omega)] at hW
  exact d_tell hK h (MS_1 h1 h52 a1) e1 (e4.trans h1) (CR_no (by omega) e2) (by rw [e3, if_neg (by omega)]; omega) (by omega) e5 (PZ_one (by omega)) ((if_neg (by omega)).trans (F7_0 g7 (by omega))) hW (fun t ht => SH_ar (i := (ian v1 (imi (r 180 g) 1)).toNat) hsh (by omega) (by omega) (by rw [show ((g : Int) * 64 + plx s (g : Int) v1).toNat = g * 64 + (ian v1 (imi (r 180 g) 1)).toNat by omega]) e6 ht) a2 (.inl e.symm)
theorem d_405a (hK : SPK K) (hT : TRM b r) (h : DN K M r s Q n act lf dr LG b z 1 l2 S B tp) (hzl : (z : Int) < K.1 99 12) (hk : K.1 100 z = 405) (h3 : 0 ≤ K.1 103 z) (hu : s 144 z = 1) (hv : PVy K s act z (K.1 103 z) v) (hBV : BVx r b l (v :: S) B) (hl2 : l2 < 25000) {b1 m2 : Nat} (hC : CPX K 0 0 b1 z (K.1 102 z) l m2 0 0 0 c) (hch : K.1 103 z < (b1 : Int)) (c1 : cd K m2 = 6) (c2 : cd K (m2 + 1) = K.1 101 z - 24) (e : l2 = m2 + 2) (hb : 24 ≤ K.1 101 z ∧ K.1 101 z < 30 ∧ bnd K.1 (K.1 101 z).toNat) : NXT K M b r s Q n := by
  obtain ⟨y, y1, y2, y3, y4⟩ := CPX_y hC (by omega)
  have hst := h.1.2.1.1
  have kk : s 100 z = 405 := (hst 100 z (by omega)).trans hk
  refine d_ask0 (y := y) (pre := []) (P := [v]) (rb := []) hK hT h (by omega) (.inl ⟨rfl, rfl⟩) ?_ (PHc_n (by omega) (by omega)) (fun V hV => ⟨⟨by omega, hzl, by omega, hl2, by omega, .inl ((CH_405 hk).mpr (.inl y1.symm))⟩, .inr (.inr ⟨rfl, rfl, .inr (.inr (.inl ⟨hk, hb.1, hb.2.1, hb.2.2, by omega, y1.symm, h3, rfl, c1, c2, e, v, rfl, hV _ _ hv (by omega)⟩))⟩)⟩) y3 hBV
  rw [w_405b kk (by unfold sgu; rw [if_neg (by rw [hst 103 z (by omega)]; omega), D_t h, hu]), hst 102 z (by omega), y1]
/-- a value received is stored -/
theorem f_407 (hK : SPK K) (hR : REL K M False r s Q n act lf dr LG) (hL : LFp K r s Q act lf dr LG b z) (hf : FGx s z) (h4 : 0 ≤ s 144 z) (hRC : RCx K z m (m + 4)) (hSB : SBp K (PVy K s act z) z P) (hBV : BVx r b (m + 2) (s 145 z :: (P ++ S)) B) (hKO : KO K s act (s 143 z) z 1 (m + 4) S B tp) (hPL : PLk r lf b tp) : NXT K M b r s Q n := by
  obtain ⟨rc1, rc2, rc3, rc4, _, rc5, rc6, rc7, rc8, rc9, rc10⟩ := id hRC
  obtain ⟨hb, h1, hp, hd, ap, qp, ng, k2⟩ := id hL
  obtain ⟨hPS, ⟨hst, hcd⟩, hBR, hinj, hcov, hdrs, hsh, hcn, hex, hst53, hLG, g1, g2, g3, g4, g5, g6, g7, g8⟩ := id hR
  have b7 := (hBR b hb).1
  have hz : SZx s := by obtain ⟨⟨cx, anc, hJ⟩, _⟩ := hPS; exact hJ.1
  obtain ⟨L1, L2, xl⟩ := REL_len hK hR ap hKO
  have hk : K.1 100 z = 407 := (hst 100 z (by omega)).symm.trans hf.1
  have hW := W_f hf
  have fin : ∀ (ra : tab) (pre : wrl), ON1 b r ra → BVx ra b (m + 4) S B → HRx b r ra → (∀ j, ra 204 j = r 204 j) → ra 170 53 = r 170 53 → ra 206 b = r 206 b → ra 170 54 = r 170 54 → asx s (s 102 z) (vax s (s 103 z)) (s 145 z) = pre → (∀ t : tab, (∀ k j, k = 148 ∨ k = 149 ∨ 154 ≤ k ∧ k ≤ 169 → t k j = apw pre s k j) → SHx K ra t) → NXT K M b r s Q n := fun ra pre on bv e1 e2 e3 e4 e5 ep hSH => by
    rw [ep] at hW
    have hz1 : PRz z ((147, z, 0) :: pre) := PZ_app (a := [_]) (PZ_one (.inl ⟨.inr rfl, rfl⟩)) (by rw [← ep]; exact PZ_as)
    have kp : ∀ w ∈ pre, w.1 = 148 ∨ w.1 = 149 := by rw [← ep]; exact as_k
    obtain ⟨s2, Q2, n2, act2, lf2, dr2, x1, x2, _⟩ := g_tell (n := n) (r2 := ra) (md := 1) (v := 0) (l := m + 4) hK hR hL e1 (e4.trans h1) (CR_no (by omega) e2) (by rw [e3, if_neg (by omega)]; omega) (by omega) (by omega) hz1 (by
      rw [apw_cons, apw_up pre s _ _ _ (fun w hw q => by have := kp w hw; dsimp only at q; omega)]
      exact up_self) hW (fun t ht => hSH t (fun k j q => by
        rw [ht k j q, apw_cons, apw_up pre s _ _ _ (fun w hw q => by have := kp w hw; dsimp only at q; omega)]
        exact if_neg (by dsimp only; omega))) bv (.inl rfl) hKO hPL
    exact NX_go (MS_1 h1 g6 on) (show rdx (s, Q, n) z from qp) x1 x2 e5 (HR_55 e1)
  rcases hSB with ⟨w1, w2, w3⟩ | ⟨w1, v1, w2, w3⟩
  · rw [if_pos w1] at rc3 rc4
    rw [w3] at hBV
    obtain ⟨g, hg⟩ : ∃ g : Nat, K.1 102 z = (g : Int) := ⟨(K.1 102 z).toNat, by omega⟩
    rw [hg, Int.toNat_natCast] at rc10
    obtain ⟨ra, a1, a2, a3⟩ := o_store (S := S) b7 hBV (by omega) ((hcd _).trans rc3) (by omega) (a := g) ((hcd _).trans (rc4.trans hg))
    obtain ⟨e1, e2, e3, e4, e5, e6⟩ := FV_o a3 b7
    refine fin ra _ a1 a2 e1 e2 e3 e4 e5 ?_ (fun t ht => SH_va hsh (show g < 24 by omega) rc10 hst rfl e6 ht)
    rw [hst 102 z (by omega), hg, as_v (by omega) (by omega), Int.toNat_natCast]
  · rw [if_neg (by omega)] at rc3 rc4
    rw [w2] at hBV
    obtain ⟨g, hg⟩ : ∃ g : Nat, K.1 102 z = (g : Int) + 24 := ⟨(K.1 102 z - 24).toNat, by omega⟩
    have hbn : bnd K.1 (24 + g) := by rw [show 24 + g = (K.1 102 z).toNat by omega]; exact rc10
    obtain ⟨ra, a1, a2, a3⟩ := o_stori (S := S) b7 hBV (by omega) ((hcd _).trans rc3) (by omega) (a := g) ((hcd _).trans (rc4.trans (by omega))) (by omega)
    obtain ⟨e1, e2, e3, e4, e5, e6⟩ := FA_o a3 (by omega) b7
    have ev1 : vax s (s 103 z) = v1 := by rw [hst 103 z (by omega)]; exact PV_v hst hPS ap k2 w3
    obtain ⟨i1, i2, i3⟩ := ar_ix hsh hst hz (show g < 6 by omega) hbn v1
    refine fin ra _ a1 a2 e1 e2 e3 e4 e5 ?_ (fun t ht => SH_ar (i := (ian v1 (imi (r 180 g) 1)).toNat) (v := i2s (s 145 z)) hsh (by omega) (by omega) rfl e6 ht)
    rw [ev1, hst 102 z (by omega), hg, as_a (by omega), show ((g : Int) * 64 + plx s (g : Int) v1).toNat = g * 64 + (ian v1 (imi (r 180 g) 1)).toNat by omega]
theorem fl_z (hst : ∀ k j, 99 ≤ k ∧ k ≤ 114 → s k j = K.1 k j) (h : (ch : Int) < K.1 99 12) : flx s (ch : Int) = K.1 104 ch := by
  unfold flx
  rw [hst 99 12 (by omega), if_pos ⟨by omega, h⟩, Int.toNat_natCast, hst 104 ch (by omega)]
/-- a BLOCK -/
theorem d_408 (hK : SPK K) (hT : TRM b r) (h : DN K M r s Q n act lf dr LG b z 1 l2 S B tp) (hzl : (z : Int) < K.1 99 12) (hcz : ch < z) (hk : K.1 100 z = 408) (hcur : s 146 z = (ch : Int)) (hcb : CHb K.1 z (ch : Int)) (hBV : BVx r b l S B) (hl : l < 25000) (hl2 : l2 < 25000) {n1 b1 kk : Nat} (hC : CPX K 3 n1 b1 z (K.1 104 ch) l l2 kk k1 0 c) (hn : ∀ s2 Q2 n2 act2 lf2 dr2, REL K M False r s2 Q2 n2 act2 lf2 dr2 LG → LVb r b → (DRT K r s2 act2 lf2 dr2 b ∨ DON K r s2 Q2 act2 lf2 dr2 LG b ∧ ∃ y : Nat, lf2 b = (y : Int) ∧ z < y) → NXT K M b r s2 Q2 n2) : NXT K M b r s Q n := by
  have hst := h.1.2.1.1
  have ks : s 100 z = 408 := (hst 100 z (by omega)).trans hk
  have hx : flx s (s 146 z) = K.1 104 ch := by rw [hcur]; exact fl_z hst (by omega)
  have hW := w_408 ks (x := K.1 104 ch) (by rw [if_neg (by rw [D_t h]; have := h.2.2.2.2; omega), hx])
  obtain ⟨u, _⟩ := CPX_un hC
  rcases u with ⟨u, _⟩ | ⟨u, _⟩ | ⟨_, _, _, u3, u4, _⟩ | ⟨u, _⟩ | ⟨_, n2, b2, m1, k2, u1, u2, u3⟩ | ⟨u, _⟩ | ⟨u, _⟩
  · omega
  · omega
  · subst u3
    rw [ot_t (by omega)] at hW
    have o1 : ∀ k j, k ≠ 146 → apw [(146, z, K.1 104 ch)] s k j = s k j := fun k j w => by
      show up2 s 146 z (K.1 104 ch) k j = s k j
      exact if_neg (fun q => w q.1)
    exact d_tell0 hK h (by omega) (PZ_one (.inl ⟨.inl rfl, rfl⟩)) (o1 147 z (by omega)) (fun k j w => o1 k j (by omega)) hW hBV (.inl rfl) hn
  · omega
  · obtain ⟨y, y1, y2, y3, y4⟩ := CPX_y u2 (by omega)
    have le := (CO_le (CPX_co u3))
    rw [y1] at hW
    rw [ot_a (by omega)] at hW
    have hcl : CHl K.1 z (y : Int) := by
      rcases hcb with w | w
      · obtain ⟨⟨i, w⟩, _⟩ := (CH_408 hk).mp w
        refine (CH_408 hk).mpr ⟨⟨i + 1, ?_⟩, by omega⟩
        rw [nth_s, ← w, fl_y (by omega), y1]
      · omega
    refine d_ask0 (y := y) (cur := (y : Int)) (pre := [(146, z, (y : Int))]) (P := []) (rb := []) hK hT h (by omega) (.inr rfl) hW ?_ (fun V _ => ⟨⟨by omega, hzl, by omega, hl2, by omega, .inl hcl⟩, .inr (.inr ⟨rfl, rfl, .inr (.inr (.inr (.inr (.inr (.inl ⟨hk, by have := h.2.2.2.2; omega, rfl, rfl, ⟨n2, b2, k2, k1, c, ?_⟩, rfl⟩)))))⟩)⟩) y3 hBV
    · obtain ⟨⟨i, w⟩, _⟩ := (CH_408 hk).mp hcl
      exact ⟨fun _ => ⟨i, by rw [nth_ext hst, hst 101 z (by omega)]; exact w⟩, fun q => absurd q (by omega), fun q => absurd q (by omega)⟩
    · rw [y1, Int.toNat_natCast] at u3
      exact u3
  · omega
  · omega
end DON3
