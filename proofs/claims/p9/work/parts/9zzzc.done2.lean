/-! The kinds when a child is done. -/
section DON2
variable {K : SCt} {W : Prop} {r r1 r2 s s2 : tab} {Q Q2 : Nat → Nat} {act act2 : Nat → Prop} {lf dr : Nat → Int} {LG LG2 : Nat → Prop} {b z ch y M n n2 m md md2 l l2 f pc k a k0 k1 : Nat} {S B P rb : List Int} {tp v cur : Int} {c : Cxx}
theorem ar_ix (hsh : SHx K r s) (hst : ∀ k j, 99 ≤ k ∧ k ≤ 114 → s k j = K.1 k j) (hz : SZx s) {a : Nat} (ha : a < 6) (hb : bnd K.1 (24 + a)) (x : Int) : plx s (a : Int) x = ian x (imi (r 180 a) 1) ∧ 0 ≤ plx s (a : Int) x ∧ plx s (a : Int) x ≤ 63 := by
  obtain ⟨e1, e2, e3⟩ := hsh.2.2.2.1 a ha hb
  refine ⟨?_, plx_r hz⟩
  unfold plx
  rw [Int.toNat_natCast, hst 111 a (by omega), if_pos ⟨by omega, by omega, by omega⟩, e1]
theorem D_z (h : DN K M r s Q n act lf dr LG b z md2 l2 S B tp) : SZx s ∧ FL7 K s act ∧ SHx K r s ∧ r 170 53 ≤ r 170 54 := ⟨by obtain ⟨⟨⟨cx, anc, hJ⟩, _⟩, _⟩ := h.1; exact hJ.1, h.1.2.2.2.2.2.2.2.2.2.2.2.2.2.2.2.2.2.1, h.1.2.2.2.2.2.2.1, h.1.2.2.2.2.2.2.2.2.2.2.2.2.2.2.1⟩
theorem D_v (h : DN K M r s Q n act lf dr LG b z md2 l2 S B tp) {c : Int} (w : PVy K s act z c v) : vax s c = v := PV_v h.1.2.1.1 h.1.1 h.2.1.2.2.2.2.1 h.2.1.2.2.2.2.2.2.2 w
theorem d_401 (hK : SPK K) (h : DN K M r s Q n act lf dr LG b z 0 l2 S B tp) (hk : K.1 100 z = 401) (hv : PVy K s act z (K.1 102 z) v) (hBV : BVx r b l (v :: S) B) (hl : l < 25000) (c1 : cd K l = 4) (c2 : cd K (l + 1) = K.1 101 z) (e : l2 = l + 2) (hb : 0 ≤ K.1 101 z ∧ K.1 101 z < 6 ∧ bnd K.1 (24 + (K.1 101 z).toNat)) : NXT K M b r s Q n := by
  obtain ⟨b7, h1, h52, hcd⟩ := D_b h
  have hst := h.1.2.1.1
  obtain ⟨hz, g7, hsh, g4⟩ := D_z h
  obtain ⟨a, ha⟩ : ∃ a : Nat, K.1 101 z = (a : Int) := ⟨(K.1 101 z).toNat, by omega⟩
  rw [ha, Int.toNat_natCast] at hb
  obtain ⟨ra, a1, a2, a3⟩ := o_item b7 hBV hl ((hcd l).trans c1) (by have := D_l hK h; omega) (a := a) ((hcd _).trans (c2.trans ha)) (by omega)
  obtain ⟨e1, e2, e3, e4, e5, e6, e7, e8⟩ := Fn_o a3 b7
  have kk : s 100 z = 401 := (hst 100 z (by omega)).trans hk
  have ev : vax s (s 102 z) = v := by rw [hst 102 z (by omega)]; exact D_v h hv
  obtain ⟨i1, i2, i3⟩ := ar_ix hsh hst hz (by omega) hb.2.2 v
  have ei : itx s (s 101 z) (vax s (s 102 z)) = r (213 + a) (ian v (imi (r 180 a) 1)).toNat := by
    unfold itx
    rw [ev, hst 101 z (by omega), ha, if_pos ⟨by omega, by omega⟩, hsh.2.1 a _ (by omega) (by omega), ← i1]
    refine congrArg (s 149) ?_
    omega
  refine d_tell hK h (MS_1 h1 h52 a1) e1 (e5.trans h1) (CR_no (by omega) e3) (by rw [e4, if_neg (by omega)]; omega) (by omega) e7 PZ_nil (F7_0 g7 (by omega)) (w_401 kk (by rw [D_t h]; have := h.2.2.2.2; omega)) (fun t ht => SH_fr hsh e2 (fun k j q => ht k j q)) (pc := l + 2) ?_ (.inl e.symm)
  rw [ei]
  exact a2
theorem d_402 (hK : SPK K) (h : DN K M r s Q n act lf dr LG b z 0 l2 S B tp) (hk : K.1 100 z = 402) (hv : PVy K s act z (K.1 102 z) v) (hBV : BVx r b l (v :: S) B) (hl : l + 3 < 25000) (c0 : cd K l = 0) (c1 : cd K (l + 1) = 8) (c2 : cd K (l + 2) = K.1 101 z) (e : l2 = l + 3) : NXT K M b r s Q n := by
  rcases d_part h (.inl hk) hBV (by omega) c0 with w | ⟨lt, r1, m1, v1, f1, d1, d2, d3, d4⟩
  · exact w
  obtain ⟨b7, h1, h52, hcd⟩ := D_b h
  have hst := h.1.2.1.1
  obtain ⟨hz, g7, hsh, g4⟩ := D_z h
  obtain ⟨ra, a1, a2, a3⟩ := o_turn b7 v1 (by omega) ((d3 _).trans c1) (by have := D_l hK h; omega)
  obtain ⟨e1, e2, e3, e4, e5, e6, e7, e8⟩ := FP_o (Fb_tr f1 a3) b7
  have kk : s 100 z = 402 := (hst 100 z (by omega)).trans hk
  have ev : vax s (s 102 z) = v := by rw [hst 102 z (by omega)]; exact D_v h hv
  refine d_tell hK h (k := 1) (MS_tr 1 r m1 (MS_1 d1 d2 a1)) e1 (e5.trans h1) (CR_no (by omega) e3) (by rw [e4, if_pos (.inl hk)]) (by omega) e7 PZ_nil (F7_0 g7 (by omega)) (w_402 kk (by rw [D_t h]; have := h.2.2.2.2; omega)) (fun t ht => SH_fr hsh e2 (fun k j q => ht k j q)) (pc := l + 3) ?_ (.inl e.symm)
  rw [d3, c2] at a2
  rw [ev, hst 101 z (by omega)]
  exact a2
theorem d_403b (hK : SPK K) (h : DN K M r s Q n act lf dr LG b z 0 l2 S B tp) (hk : K.1 100 z = 403) (hu : s 144 z = 2) {v1 : Int} (hv1 : PVy K s act z (K.1 102 z) v1) (hv : PVy K s act z (K.1 103 z) v) (hBV : BVx r b l (v :: v1 :: S) B) (hl : l + 3 < 25000) (c0 : cd K l = 0) (c1 : cd K (l + 1) = 7) (c2 : cd K (l + 2) = rsg (K.1 101 z)) (e : l2 = l + 3) (hlv : 0 < lvl (K.1 101 z)) : NXT K M b r s Q n := by
  rcases d_part h (.inr hk) hBV (by omega) c0 with w | ⟨lt, r1, m1, w1, f1, d1, d2, d3, d4⟩
  · exact w
  obtain ⟨b7, h1, h52, hcd⟩ := D_b h
  have hst := h.1.2.1.1
  obtain ⟨hz, g7, hsh, g4⟩ := D_z h
  obtain ⟨ra, a1, a2, a3⟩ := o_sign b7 w1 (by omega) ((d3 _).trans c1) (by have := D_l hK h; omega)
  obtain ⟨e1, e2, e3, e4, e5, e6, e7, e8⟩ := FP_o (Fb_tr f1 a3) b7
  have kk : s 100 z = 403 := (hst 100 z (by omega)).trans hk
  have ev : vax s (s 103 z) = v := by rw [hst 103 z (by omega)]; exact D_v h hv
  have ev1 : vax s (s 102 z) = v1 := by rw [hst 102 z (by omega)]; exact D_v h hv1
  refine d_tell hK h (k := 1) (MS_tr 1 r m1 (MS_1 d1 d2 a1)) e1 (e5.trans h1) (CR_no (by omega) e3) (by rw [e4, if_pos (.inr hk)]) (by omega) e7 PZ_nil (F7_0 g7 (by omega)) (w_403c kk (by rw [D_t h]; exact hu)) (fun t ht => SH_fr hsh e2 (fun k j q => ht k j q)) (pc := l + 3) ?_ (.inl e.symm)
  rw [d3, c2, tg_s2 hlv] at a2
  rw [ev, ev1, hst 101 z (by omega)]
  exact a2
theorem d_403a (hK : SPK K) (hT : TRM b r) (h : DN K M r s Q n act lf dr LG b z 0 l2 S B tp) (hzl : (z : Int) < K.1 99 12) (hk : K.1 100 z = 403) (hu : s 144 z = 1) (hv : PVy K s act z (K.1 102 z) v) (hBV : BVx r b l (v :: S) B) (hl2 : l2 < 25000) {b1 m2 : Nat} (hC : CPX K 0 0 b1 z (K.1 103 z) l m2 0 0 0 c) (hch : K.1 102 z < (b1 : Int)) (c0 : cd K m2 = 0) (c1 : cd K (m2 + 1) = 7) (c2 : cd K (m2 + 2) = rsg (K.1 101 z)) (e : l2 = m2 + 3) (hlv : 0 < lvl (K.1 101 z)) : NXT K M b r s Q n := by
  obtain ⟨y, y1, y2, y3, y4⟩ := CPX_y hC (by omega)
  have hst := h.1.2.1.1
  have kk : s 100 z = 403 := (hst 100 z (by omega)).trans hk
  refine d_ask0 (y := y) (pre := []) (P := [v]) (rb := []) hK hT h (by omega) (.inl ⟨rfl, rfl⟩) ?_ (PHc_n (by omega) (by omega)) (fun V hV => ⟨⟨by omega, hzl, by omega, hl2, by omega, .inl ((CH_403 hk).mpr (.inr y1.symm))⟩, .inl ⟨rfl, rfl, rfl, .inr (.inr (.inr ⟨hk, by omega, y1.symm, c0, c1, c2, e, hlv, v, rfl, hV _ _ hv (by omega)⟩))⟩⟩) y3 hBV
  rw [w_403b kk (by rw [D_t h]; exact hu), hst 103 z (by omega), y1]
/-- variables -/
theorem SH_va (h : SHx K r s) {g : Nat} (hg : g < 24) (hbn : bnd K.1 g) (hst : ∀ k j, 99 ≤ k ∧ k ≤ 114 → s k j = K.1 k j) {pre : wrl} (hpre : pre = [(148, g, asv (s 110 g) v)]) (hr : ∀ k j, k = 179 ∨ k = 180 ∨ k = 203 ∨ 213 ≤ k ∧ k ≤ 218 ∨ 1622 ≤ k ∧ k ≤ 1630 → r2 k j = up2 r 203 g (asv (r 179 g) v) k j) {t : tab} (ht : ∀ k j, k = 148 ∨ k = 149 ∨ 154 ≤ k ∧ k ≤ 169 → t k j = apw pre s k j) : SHx K r2 t := by
  subst hpre
  obtain ⟨h1, h2, h3, h4, h5⟩ := h
  have so : ∀ k j, k = 148 ∨ k = 149 ∨ 154 ≤ k ∧ k ≤ 169 → t k j = up2 s 148 g (asv (s 110 g) v) k j := ht
  have q5 : ∀ {a j f q g1 : Nat}, (1622 ≤ a ∧ a ≤ 1630) → (1622 ≤ f ∧ f ≤ 1630) → (154 ≤ q ∧ q ≤ 169) → (154 ≤ g1 ∧ g1 ≤ 169) → QQx (r a j) (r f) (s q) (s g1) → QQx (r2 a j) (r2 f) (t q) (t g1) := fun {a j f q g1} w1 w2 w3 w4 w => by
    have ef : r2 f = r f := funext fun z => (hr f z (by omega)).trans (if_neg (by omega))
    have eq : t q = s q := funext fun z => (so q z (by omega)).trans (if_neg (by omega))
    have eg : t g1 = s g1 := funext fun z => (so g1 z (by omega)).trans (if_neg (by omega))
    rw [hr a j (by omega), ef, eq, eg, show up2 r 203 g (asv (r 179 g) v) a j = r a j from if_neg (by omega)]
    exact w
  refine ⟨fun u hu => ?_, fun a j w1 w2 => ?_, fun u w1 w2 => ?_, fun a w1 w2 => ?_, fun i hi => ⟨q5 (by omega) (by omega) (by omega) (by omega) (h5 i hi).1, q5 (by omega) (by omega) (by omega) (by omega) (h5 i hi).2⟩⟩
  · rw [hr _ _ (by omega), so _ _ (by omega)]
    by_cases e : u = g
    · rw [e, up_self, up_self, h3 g hg hbn, hst 110 g (by omega)]
    · rw [show up2 r 203 g (asv (r 179 g) v) 203 u = r 203 u from if_neg (by omega), show up2 s 148 g (asv (s 110 g) v) 148 u = s 148 u from if_neg (by omega)]
      exact h1 u hu
  · rw [hr _ _ (by omega), so _ _ (by omega), show up2 r 203 g (asv (r 179 g) v) (213 + a) j = r (213 + a) j from if_neg (by omega), show up2 s 148 g (asv (s 110 g) v) 149 (a * 64 + j) = s 149 (a * 64 + j) from if_neg (by omega)]
    exact h2 a j w1 w2
  · rw [hr _ _ (by omega), show up2 r 203 g (asv (r 179 g) v) 179 u = r 179 u from if_neg (by omega)]
    exact h3 u w1 w2
  · rw [hr _ _ (by omega), show up2 r 203 g (asv (r 179 g) v) 180 a = r 180 a from if_neg (by omega)]
    exact h4 a w1 w2
/-- arrays -/
theorem SH_ar (h : SHx K r s) {g i : Nat} (hg : g < 6) (hi : i < 64) {pre : wrl} (hpre : pre = [(149, g * 64 + i, v)]) (hr : ∀ k j, k = 179 ∨ k = 180 ∨ k = 203 ∨ 213 ≤ k ∧ k ≤ 218 ∨ 1622 ≤ k ∧ k ≤ 1630 → r2 k j = up2 r (213 + g) i v k j) {t : tab} (ht : ∀ k j, k = 148 ∨ k = 149 ∨ 154 ≤ k ∧ k ≤ 169 → t k j = apw pre s k j) : SHx K r2 t := by
  subst hpre
  obtain ⟨h1, h2, h3, h4, h5⟩ := h
  have so : ∀ k j, k = 148 ∨ k = 149 ∨ 154 ≤ k ∧ k ≤ 169 → t k j = up2 s 149 (g * 64 + i) v k j := ht
  have q5 : ∀ {a j f q g1 : Nat}, (1622 ≤ a ∧ a ≤ 1630) → (1622 ≤ f ∧ f ≤ 1630) → (154 ≤ q ∧ q ≤ 169) → (154 ≤ g1 ∧ g1 ≤ 169) → QQx (r a j) (r f) (s q) (s g1) → QQx (r2 a j) (r2 f) (t q) (t g1) := fun {a j f q g1} w1 w2 w3 w4 w => by
    have ef : r2 f = r f := funext fun z => (hr f z (by omega)).trans (if_neg (by omega))
    have eq : t q = s q := funext fun z => (so q z (by omega)).trans (if_neg (by omega))
    have eg : t g1 = s g1 := funext fun z => (so g1 z (by omega)).trans (if_neg (by omega))
    rw [hr a j (by omega), ef, eq, eg, show up2 r (213 + g) i v a j = r a j from if_neg (by omega)]
    exact w
  refine ⟨fun u hu => ?_, fun a j w1 w2 => ?_, fun u w1 w2 => ?_, fun a w1 w2 => ?_, fun i hi => ⟨q5 (by omega) (by omega) (by omega) (by omega) (h5 i hi).1, q5 (by omega) (by omega) (by omega) (by omega) (h5 i hi).2⟩⟩
  · rw [hr _ _ (by omega), so _ _ (by omega), show up2 r (213 + g) i v 203 u = r 203 u from if_neg (by omega), show up2 s 149 (g * 64 + i) v 148 u = s 148 u from if_neg (by omega)]
    exact h1 u hu
  · rw [hr _ _ (by omega), so _ _ (by omega)]
    by_cases e : a = g ∧ j = i
    · rw [e.1, e.2, up_self, up_self]
    · rw [show up2 r (213 + g) i v (213 + a) j = r (213 + a) j from if_neg (by omega), show up2 s 149 (g * 64 + i) v 149 (a * 64 + j) = s 149 (a * 64 + j) from if_neg (by omega)]
      exact h2 a j w1 w2
  · rw [hr _ _ (by omega), show up2 r (213 + g) i v 179 u = r 179 u from if_neg (by omega)]
    exact h3 u w1 w2
  · rw [hr _ _ (by omega), show up2 r (213 + g) i v 180 a = r 180 a from if_neg (by omega)]
    exact h4 a w1 w2
end DON2
