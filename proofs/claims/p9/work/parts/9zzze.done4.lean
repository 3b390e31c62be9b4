/-! The kinds when a child is done: IF, WHILE, REPEAT, calls. -/
section DON4
variable {K : SCt} {W : Prop} {r r1 r2 s s2 : tab} {Q Q2 : Nat → Nat} {act act2 : Nat → Prop} {lf dr : Nat → Int} {LG LG2 : Nat → Prop} {b z ch y M n n2 m md md2 l l2 f pc k a k0 k1 : Nat} {S B P rb : List Int} {tp v cur : Int} {c : Cxx}
theorem D_0 (h : DN K M r s Q n act lf dr LG b z md2 l2 S B tp) (hk : K.1 100 z ≠ 407) : apw [] s 147 z = 0 := F7_0 (D_z h).2.1 hk
theorem d_308 (hK : SPK K) (h : DN K M r s Q n act lf dr LG b z 1 l2 S B tp) (hzl : (z : Int) < K.1 99 12) (hl2 : l2 < 25000) (hl : l < 25000) (hk : K.1 100 z = 308) (hu : s 144 z = 1) (hv : PVy K s act z (K.1 101 z) v) (hBV : BVx r b l (v :: S) B) (c1 : cd K l = 10) {b1 m2 : Nat} (hC : (K.1 103 z = -1 ∧ CPX K 1 0 b1 z (K.1 102 z) (l + 2) m2 k0 k1 0 c ∧ cd K (l + 1) = (m2 : Int) ∧ l2 = m2) ∨ ∃ b2 kk, CPX K 1 0 b1 b2 (K.1 102 z) (l + 2) m2 k0 kk 0 c ∧ CPX K 1 0 b2 z (K.1 103 z) (m2 + 2) l2 kk k1 0 c ∧ cd K m2 = 9 ∧ cd K (m2 + 1) = (l2 : Int) ∧ cd K (l + 1) = (m2 : Int) + 2) : NXT K M b r s Q n := by
  obtain ⟨b7, h1, h52, hcd⟩ := D_b h
  have hst := h.1.2.1.1
  obtain ⟨hz, g7, hsh, g4⟩ := D_z h
  have kk : s 100 z = 308 := (hst 100 z (by omega)).trans hk
  have ev : vax s (s 101 z) = v := by rw [hst 101 z (by omega)]; exact D_v h hv
  have hW := w_308b kk (by rw [D_t h]; exact hu)
  rw [ev] at hW
  have ll := D_l hK h
  by_cases v0 : v = 0
  · rw [if_neg (by omega), hst 103 z (by omega)] at hW
    rcases hC with ⟨w1, w2, w3, w4⟩ | ⟨b2, kk2, w1, w2, w3, w4, w5⟩
    · obtain ⟨ra, a1, a2, a3⟩ := o_unl0 b7 hBV hl ((hcd l).trans c1) (by omega) (m := m2) ((hcd _).trans w3) v0
      obtain ⟨e1, e2, e3, e4, e5, e6, e7, e8⟩ := Fn_o a3 b7
      rw [ot_t (by omega)] at hW
      exact d_tell hK h (MS_1 h1 h52 a1) e1 (e5.trans h1) (CR_no (by omega) e3) (by rw [e4, if_neg (by omega)]; omega) (by omega) e7 PZ_nil (D_0 h (by omega)) hW (fun t ht => SH_fr hsh e2 (fun k j q => ht k j q)) a2 (.inl w4.symm)
    · obtain ⟨ra, a1, a2, a3⟩ := o_unl0 b7 hBV hl ((hcd l).trans c1) (by omega) (m := m2 + 2) ((hcd _).trans (by rw [w5]; omega)) v0
      obtain ⟨e1, e2, e3, e4, e5, e6, e7, e8⟩ := Fn_o a3 b7
      obtain ⟨y, y1, y2, y3, y4⟩ := CPX_y w2 (by omega)
      rw [y1] at hW
      rw [ot_a (by omega)] at hW
      exact d_ask (y := y) (pre := []) (P := []) (rb := []) hK h (MS_1 h1 h52 a1) e1 (e5.trans h1) e2 (CR_no (by omega) e3) e4 e7 (.inl ⟨rfl, rfl⟩) hW (PHc_n (by omega) (by omega)) (fun V _ => ⟨⟨by omega, hzl, hl2, hl2, by omega, .inl ((CH_308 hk).mpr (.inr (.inr ⟨y1.symm, by omega⟩)))⟩, .inr (.inr ⟨rfl, rfl, .inr (.inr (.inr (.inr (.inr (.inr (.inr (.inl ⟨hk, by omega, rfl, .inl rfl, rfl⟩)))))))⟩)⟩) y3 a2
  · rw [if_pos v0, hst 102 z (by omega)] at hW
    obtain ⟨ra, a1, a2, a3⟩ := o_unl1 b7 hBV hl ((hcd l).trans c1) (by omega) v0
    obtain ⟨e1, e2, e3, e4, e5, e6, e7, e8⟩ := Fn_o a3 b7
    rcases hC with ⟨w1, w2, w3, w4⟩ | ⟨b2, kk2, w1, w2, w3, w4, w5⟩
    · obtain ⟨y, y1, y2, y3, y4⟩ := CPX_y w2 (by omega)
      rw [y1] at hW
      rw [ot_a (by omega)] at hW
      exact d_ask (y := y) (pre := []) (P := []) (rb := []) hK h (MS_1 h1 h52 a1) e1 (e5.trans h1) e2 (CR_no (by omega) e3) e4 e7 (.inl ⟨rfl, rfl⟩) hW (PHc_n (by omega) (by omega)) (fun V _ => ⟨⟨by omega, hzl, by omega, hl2, by omega, .inl ((CH_308 hk).mpr (.inr (.inl y1.symm)))⟩, .inr (.inr ⟨rfl, rfl, .inr (.inr (.inr (.inr (.inr (.inr (.inr (.inl ⟨hk, by omega, rfl, .inl w4.symm, rfl⟩)))))))⟩)⟩) y3 a2
    · obtain ⟨y, y1, y2, y3, y4⟩ := CPX_y w1 (by omega)
      obtain ⟨y5, z1, z2, z3, z4⟩ := CPX_y w2 (by omega)
      rw [y1] at hW
      rw [ot_a (by omega)] at hW
      exact d_ask (y := y) (pre := []) (P := []) (rb := []) hK h (MS_1 h1 h52 a1) e1 (e5.trans h1) e2 (CR_no (by omega) e3) e4 e7 (.inl ⟨rfl, rfl⟩) hW (PHc_n (by omega) (by omega)) (fun V _ => ⟨⟨by omega, hzl, by omega, hl2, by omega, .inl ((CH_308 hk).mpr (.inr (.inl y1.symm)))⟩, .inr (.inr ⟨rfl, rfl, .inr (.inr (.inr (.inr (.inr (.inr (.inr (.inl ⟨hk, by omega, rfl, .inr ⟨w3, w4, by omega⟩, rfl⟩)))))))⟩)⟩) y3 a2
theorem d_308c (hK : SPK K) (h : DN K M r s Q n act lf dr LG b z 1 l2 S B tp) (hk : K.1 100 z = 308) (hu : s 144 z = 2) (hBV : BVx r b l S B) (hpc : PLC K l l2) (hn : ∀ s2 Q2 n2 act2 lf2 dr2, REL K M False r s2 Q2 n2 act2 lf2 dr2 LG → LVb r b → (DRT K r s2 act2 lf2 dr2 b ∨ DON K r s2 Q2 act2 lf2 dr2 LG b ∧ ∃ y : Nat, lf2 b = (y : Int) ∧ z < y) → NXT K M b r s2 Q2 n2) : NXT K M b r s Q n := by
  have hst := h.1.2.1.1
  have kk : s 100 z = 308 := (hst 100 z (by omega)).trans hk
  exact d_tell0 hK h (by omega) PZ_nil rfl (fun _ _ _ => rfl) (w_308c kk (by rw [D_t h]; exact hu)) hBV hpc hn
theorem d_310a (hK : SPK K) (h : DN K M r s Q n act lf dr LG b z 1 l2 S B tp) (hzl : (z : Int) < K.1 99 12) (hl : l < 25000) (hk : K.1 100 z = 310) (hu : s 144 z % 2 = 1) (hv : PVy K s act z (K.1 101 z) v) (hBV : BVx r b l (v :: S) B) {m2 : Nat} (hWH : WHx K z f l m2 l2) : NXT K M b r s Q n := by
  obtain ⟨b7, h1, h52, hcd⟩ := D_b h
  have hst := h.1.2.1.1
  obtain ⟨hz, g7, hsh, g4⟩ := D_z h
  obtain ⟨a, b1, c, k0, k1, w1, w2, w3, w4, w5, w6, w7, w8⟩ := id hWH
  have kk : s 100 z = 310 := (hst 100 z (by omega)).trans hk
  have ev : vax s (s 101 z) = v := by rw [hst 101 z (by omega)]; exact D_v h hv
  have hW := w_310b kk (by rw [D_t h]; exact hu)
  rw [ev] at hW
  have ll := D_l hK h
  by_cases v0 : v = 0
  · rw [if_neg (by omega), ot_t (by omega)] at hW
    obtain ⟨ra, a1, a2, a3⟩ := o_unl0 b7 hBV hl ((hcd l).trans w2) (by omega) (m := l2) ((hcd _).trans w3) v0
    obtain ⟨e1, e2, e3, e4, e5, e6, e7, e8⟩ := Fn_o a3 b7
    exact d_tell hK h (MS_1 h1 h52 a1) e1 (e5.trans h1) (CR_no (by omega) e3) (by rw [e4, if_neg (by omega)]; omega) (by omega) e7 PZ_nil (D_0 h (by omega)) hW (fun t ht => SH_fr hsh e2 (fun k j q => ht k j q)) a2 (.inl rfl)
  · obtain ⟨y, y1, y2, y3, y4⟩ := CPX_y w4 (by omega)
    rw [if_pos v0, hst 102 z (by omega), y1, ot_a (by omega)] at hW
    obtain ⟨ra, a1, a2, a3⟩ := o_unl1 b7 hBV hl ((hcd l).trans w2) (by omega) v0
    obtain ⟨e1, e2, e3, e4, e5, e6, e7, e8⟩ := Fn_o a3 b7
    exact d_ask (y := y) (pre := []) (P := []) (rb := []) hK h (MS_1 h1 h52 a1) e1 (e5.trans h1) e2 (CR_no (by omega) e3) e4 e7 (.inl ⟨rfl, rfl⟩) hW (PHc_n (by omega) (by omega)) (fun V _ => ⟨⟨by omega, hzl, by omega, w8, by omega, .inl ((CH_310 hk).mpr (.inr y1.symm))⟩, .inr (.inr ⟨rfl, rfl, .inr (.inr (.inr (.inr (.inr (.inr (.inr (.inr (.inr (.inl ⟨hk, by omega, by have := h.2.2.2.2; omega, rfl, ⟨f, l, hWH⟩, rfl⟩)))))))))⟩)⟩) y3 a2
theorem d_310b (hK : SPK K) (h : DN K M r s Q n act lf dr LG b z 1 l2 S B tp) (hzl : (z : Int) < K.1 99 12) (hl : l < 25000) (hk : K.1 100 z = 310) (hu : s 144 z % 2 = 0) (hBV : BVx r b l S B) {m : Nat} (hWH : WHx K z f m l l2) : NXT K M b r s Q n := by
  obtain ⟨b7, h1, h52, hcd⟩ := D_b h
  have hst := h.1.2.1.1
  obtain ⟨a, b1, c, k0, k1, w1, w2, w3, w4, w5, w6, w7, w8⟩ := id hWH
  have kk : s 100 z = 310 := (hst 100 z (by omega)).trans hk
  have hW := w_310a kk (by rw [D_t h]; exact hu)
  obtain ⟨y, y1, y2, y3, y4⟩ := CPX_y w1 (by omega)
  have w4r := CPX_rt w4 (by omega)
  rw [hst 101 z (by omega), y1] at hW
  obtain ⟨ra, a1, a2, a3⟩ := o_jump b7 hBV hl ((hcd l).trans w5) (m := f + 1) ((hcd _).trans (by rw [w6]; omega))
  obtain ⟨e1, e2, e3, e4, e5, e6, e7, e8⟩ := Fn_o a3 b7
  exact d_ask (y := y) (pre := []) (P := []) (rb := []) hK h (MS_1 h1 h52 a1) e1 (e5.trans h1) e2 (CR_no (by omega) e3) e4 e7 (.inl ⟨rfl, rfl⟩) hW (PHc_n (by omega) (by omega)) (fun V _ => ⟨⟨by omega, hzl, by omega, w8, by omega, .inl ((CH_310 hk).mpr (.inl y1.symm))⟩, .inr (.inr ⟨rfl, rfl, .inr (.inr (.inr (.inr (.inr (.inr (.inr (.inr (.inl ⟨hk, by omega, by have := h.2.2.2.2; omega, y1.symm, rfl, ⟨f, l, hWH⟩, rfl⟩))))))))⟩)⟩) y3 a2
theorem d_311 (hK : SPK K) (h : DN K M r s Q n act lf dr LG b z 1 l2 S B tp) (hzl : (z : Int) < K.1 99 12) (hl : l < 25000) (hk : K.1 100 z = 311) (hu : s 144 z ≤ K.1 101 z) (hBV : BVx r b l S B) (hRP : RPy K z f l l2) : NXT K M b r s Q n := by
  obtain ⟨b7, h1, h52, hcd⟩ := D_b h
  have hst := h.1.2.1.1
  obtain ⟨hz, g7, hsh, g4⟩ := D_z h
  have u0 := h.2.2.2.2
  have hcn := h.1.2.2.2.2.2.2.2.1 z h.2.1.2.2.2.2.1 hk (by omega)
  obtain ⟨w1, w2, w3, w4, w5, ⟨a, k0, k1, c, w6⟩, w7, w8, w9, w10⟩ := id hRP
  have kk : s 100 z = 311 := (hst 100 z (by omega)).trans hk
  have hW := w_311 kk
  rw [D_t h, hst 101 z (by omega), hst 102 z (by omega)] at hW
  obtain ⟨y, y1, y2, y3, y4⟩ := CPX_y w6 (by omega)
  obtain ⟨r1, a1, a2, a3⟩ := o_jump b7 hBV hl ((hcd l).trans w7) (m := f + 4) ((hcd _).trans (by rw [w8]; omega))
  obtain ⟨i1, i2, i3, i4, i5, i6, i7, i8⟩ := Fn_o a3 b7
  have d3 : ∀ i, r1 178 i = cd K i := fun i => (i8 i).trans (hcd i)
  obtain ⟨r3, g1, g2, g3⟩ := o_again b7 a2 (by omega) ((d3 _).trans w1) (a := K.2.2.2.2.1 z) (m := l2) ((d3 _).trans w2) ((d3 _).trans w3) ((i3 _).trans hcn) (by omega)
  have o3 : ∀ k j, ¬ ((k = 205 ∨ k = 208 ∨ k = 209) ∧ j = b) → k ≠ 220 + b → k ≠ 921 + b → k ≠ 204 → r3 k j = r k j := fun k j q1 q2 q3 q4 => (g3 k j q1 q2 q3).trans ((if_neg (by omega)).trans (a3 k j q1 q2 q3))
  have hHR : HRx b r r3 := fun k j q1 q2 q3 q4 q5 q6 q7 q8 => o3 k j (by omega) q2 q3 q6
  have hSR : SRr r r3 := fun k j q => o3 k j (by omega) (by omega) (by omega) (by omega)
  have hCR : CRr K s z r r3 := by
    refine ⟨fun j q => ?_, fun _ => ?_⟩
    · have : j ≠ K.2.2.2.2.1 z := by
        rcases q with q | q
        · exact q
        · exact absurd hk q
      exact (g3 204 j (by omega) (by omega) (by omega)).trans ((if_neg (by omega)).trans (i3 j))
    · rw [D_t h]
      exact (g3 204 _ (by omega) (by omega) (by omega)).trans (up_self.trans (by omega))
  have hms : MS b 2 r r3 := MS_tr 1 r (MS_1 h1 h52 a1) (MS_1 (i5.trans h1) (i6.trans h52) g1)
  have h53 := o3 170 53 (by omega) (by omega) (by omega) (by omega)
  have h54 := o3 170 54 (by omega) (by omega) (by omega) (by omega)
  have h12 := (o3 206 b (by omega) (by omega) (by omega) (by omega)).trans h1
  by_cases zz : 1 ≤ K.1 101 z - s 144 z
  · rw [if_pos zz] at g2
    rw [if_pos (by omega), y1, ot_a (by omega)] at hW
    exact d_ask (k := 1) (y := y) (pre := []) (P := []) (rb := []) hK h hms hHR h12 hSR hCR h53 h54 (.inl ⟨rfl, rfl⟩) (by rw [D_t h]; exact hW) (PHc_n (by omega) (by omega)) (fun V _ => ⟨⟨by omega, hzl, by omega, w10, by omega, .inl ((CH_311 hk).mpr y1.symm)⟩, .inr (.inr ⟨rfl, rfl, .inr (.inr (.inr (.inr (.inr (.inr (.inr (.inr (.inr (.inr ⟨hk, by omega, rfl, ⟨f, hRP⟩, rfl⟩)))))))))⟩)⟩) y3 g2
  · rw [if_neg zz] at g2
    rw [if_neg (by omega), ot_t (by omega)] at hW
    exact d_tell (k := 1) hK h hms hHR h12 hCR (by rw [h53, if_neg (by omega)]; omega) (by omega) h54 PZ_nil (D_0 h (by omega)) hW (fun t ht => SH_fr hsh hSR (fun k j q => ht k j q)) g2 (.inl rfl)
end DON4
