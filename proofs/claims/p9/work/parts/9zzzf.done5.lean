/-! A call when a child is done; a branch goes on. -/
section DON5
variable {K : SCt} {W : Prop} {r r1 r2 s s2 : tab} {Q Q2 : Nat → Nat} {act act2 : Nat → Prop} {lf dr : Nat → Int} {LG LG2 : Nat → Prop} {b z ch y M n n2 m md md2 l l2 f pc k a k0 k1 : Nat} {S B P rb : List Int} {tp v cur : Int} {c : Cxx}
theorem PAL_n {V V2 : Int → Int → Prop} {x : Int} : ∀ (i : Nat) (P : List Int), (∀ j v, j < i → V (nth K.1 j x) v → V2 (nth K.1 j x) v) → PAL K V x i P → PAL K V2 x i P
  | 0, _, _, q => q
  | i + 1, _, h, ⟨v, P2, q1, q2, q3⟩ => ⟨v, P2, q1, h i v (by omega) q2, PAL_n i P2 (fun j v hj => h j v (by omega)) q3⟩
theorem d_404e (hK : SPK K) (hT : TRM b r) (h : DN K M r s Q n act lf dr LG b z md2 l2 S B tp) (hzl : (z : Int) < K.1 99 12) (hl2 : l2 < 25000) (hk : K.1 100 z = 404) (nac : ¬ act ch) (hcz : ch < z) {q j i : Nat} (q1 : K.1 101 z = (q : Int)) (q2 : q < 12) (q3 : q < K.2.2.2.1) (j1 : K.1 103 z = (j : Int)) (j2 : j ≤ 4) (hmd : md2 = 0 ∧ K.2.2.1.2.2 q ∨ md2 = 1 ∧ ¬ K.2.2.1.2.2 q) (hp : 0 ≤ K.1 113 q ∧ K.1 113 q + (j : Int) ≤ 24 ∧ ∀ i, i < j → bnd K.1 ((K.1 113 q).toNat + i)) (hi : i < j) (hu : s 144 z = (i : Int) + 1) (hch : (ch : Int) = nth K.1 i (K.1 102 z)) (hcur : s 146 z = (ch : Int)) {b1 : Nat} (hC : CPX K 2 (j - 1 - i) b1 z (K.1 104 ch) l m 0 0 0 c) (hlt : ∀ u, u ≤ i → nth K.1 u (K.1 102 z) < (b1 : Int)) (hST : STx K q j m l2) (hPA : PAL K (PVy K s act z) (K.1 102 z) i P) (hBV : BVx r b l (s 145 ch :: (P ++ S)) B) : NXT K M b r s Q n := by
  obtain ⟨b7, h1, h52, hcd⟩ := D_b h
  have hst := h.1.2.1.1
  have ht := D_t h
  have hv : PVy K s act z (nth K.1 i (K.1 102 z)) (s 145 ch) := by
    rw [← hch]
    exact ⟨(CH_404 hk).mpr ⟨i, by omega, hch⟩, by omega, by rw [Int.toNat_natCast]; exact nac, by rw [Int.toNat_natCast]⟩
  have hPA2 : PAL K (PVy K s act z) (K.1 102 z) (i + 1) (s 145 ch :: P) := ⟨_, P, rfl, hv, hPA⟩
  have ks : s 100 z = 404 := (hst 100 z (by omega)).trans hk
  obtain ⟨u, _⟩ := CPX_un hC
  rcases u with ⟨u, _⟩ | ⟨u, _⟩ | ⟨_, w1, _, w2, _⟩ | ⟨_, n1, b2, m1, w1, w2, w3⟩ | ⟨u, _⟩ | ⟨u, _⟩ | ⟨u, _⟩
  · omega
  · omega
  · have ej : j = i + 1 := by omega
    subst ej
    subst w2
    obtain ⟨hR, hL, hKO, hPL, h4⟩ := h
    have g4 := hR.2.2.2.2.2.2.2.2.2.2.2.2.2.2.1
    obtain ⟨k, r2, s2, Q2, n2, act2, lf2, dr2, y1, y2, y3, y4⟩ := g_call (r1 := r) (P := s 145 ch :: P) (n := n) hK hR hL hk (fun _ _ _ _ _ _ _ _ _ _ => rfl) h1 h52 (fun _ _ _ => rfl) (fun _ => rfl) (by rw [if_neg (by omega)]; omega) g4 hcd q1 q2 q3 j1 j2 hmd hp (by rw [ht, hu]; omega) hST hl2 hPA2 hBV hKO hPL
    exact NX_go (k := k) y1 (show rdx (s, Q, n) z from hL.2.2.2.2.2.1) y2 y3 y4.1 (by rw [y4.2]; exact Int.le_refl _)
  · obtain ⟨y, y1, y2, y3, y4⟩ := CPX_y w2 (by omega)
    have le := (CO_le (CPX_co w3))
    have ll := hST.2.2.2
    have ey : nth K.1 (i + 1) (K.1 102 z) = (y : Int) := by rw [nth_s, ← hch, fl_y (by omega), y1]
    have b1y : b1 ≤ y := by omega
    have hW := w_404a ks (x := (y : Int)) (by rw [if_neg (by rw [ht]; omega), hcur, fl_z hst (by omega), y1]) (by rw [ht, hu, hst 103 z (by omega), j1]; omega)
    refine d_ask0 (y := y) (cur := (y : Int)) (pre := [(146, z, (y : Int))]) (P := s 145 ch :: P) (rb := []) hK hT h (by omega) (.inr rfl) hW ⟨fun w => absurd w (by omega), fun _ _ => ?_, fun _ w => ?_⟩ (fun V hV => ⟨⟨by omega, hzl, by omega, hl2, by omega, .inl ((CH_404 hk).mpr ⟨i + 1, by omega, ey.symm⟩)⟩, .inr (.inl ⟨hk, q, j, q1, q2, q3, j1, j2, hmd, hp, .inl ⟨rfl, rfl, i + 1, by omega, by rw [hu]; omega, ey.symm, rfl, ⟨b2, m, c, ?_, fun u hu2 => ?_, hST⟩, PAL_n (i + 1) _ (fun u v hu2 w => hV _ _ w (by have := hlt u (by omega); omega)) hPA2⟩⟩)⟩) y3 hBV
    · rw [ht, hu, nth_ext hst, hst 102 z (by omega), show ((i : Int) + 1 + 1 - 1).toNat = i + 1 by omega]
      exact ey.symm
    · rw [ht, hu, hst 103 z (by omega), j1] at w
      omega
    · rw [y1, Int.toNat_natCast] at w3
      rw [show j - 1 - (i + 1) = n1 by omega]
      exact w3
    · by_cases e : u = i + 1
      · rw [e, ey]; omega
      · have := hlt u (by omega)
        omega
  · omega
  · omega
  · omega
/-- a part of the body is done -/
theorem d_404b (hK : SPK K) (hT : TRM b r) (h : DN K M r s Q n act lf dr LG b z md2 l2 S B tp) (hzl : (z : Int) < K.1 99 12) (hl2 : l2 < 25000) (hl : l < 25000) (hk : K.1 100 z = 404) (hcz : ch < z) {q j : Nat} (q1 : K.1 101 z = (q : Int)) (q2 : q < 12) (q3 : q < K.2.2.2.1) (j1 : K.1 103 z = (j : Int)) (j2 : j ≤ 4) (hmd : md2 = 0 ∧ K.2.2.1.2.2 q ∨ md2 = 1 ∧ ¬ K.2.2.1.2.2 q) (hp : 0 ≤ K.1 113 q ∧ K.1 113 q + (j : Int) ≤ 24 ∧ ∀ i, i < j → bnd K.1 ((K.1 113 q).toNat + i)) (hu : (j : Int) < s 144 z) (hcur : s 146 z = (ch : Int)) (hF : (md = 1 ∧ K.2.2.1.2.2 q ∧ ∃ n1 b1 b le kk k1 c, CPX K 5 n1 b1 b (K.1 104 ch) l le kk k1 0 c ∧ cd K le = 12) ∨ (md = md2 ∧ K.1 104 ch = -1 ∧ cd K l = 12)) (hBV : BVx r b l ((if md = 0 then [s 145 ch] else []) ++ S) ((l2 : Int) :: B)) : NXT K M b r s Q n := by
  obtain ⟨b7, h1, h52, hcd⟩ := D_b h
  have hst := h.1.2.1.1
  have ht := D_t h
  obtain ⟨hz, g7, hsh, g4⟩ := D_z h
  have ks : s 100 z = 404 := (hst 100 z (by omega)).trans hk
  have hx : flx s (s 146 z) = K.1 104 ch := by rw [hcur]; exact fl_z hst (by omega)
  have hW := w_404c ks (by rw [ht, hst 103 z (by omega), j1]; omega)
  rw [hx] at hW
  rcases hF with ⟨w1, w2, n1, b1, bb, le, kk, k1, c, w3, w4⟩ | ⟨w1, w2, w3⟩
  · rw [if_neg (by omega)] at hBV
    have md0 : md2 = 0 := by
      rcases hmd with ⟨e, _⟩ | ⟨_, e⟩
      · exact e
      · exact absurd w2 e
    -- the next part of the body
    have ask : ∀ (y mdn a ln k0 k3 : Nat) (cc : Cxx), K.1 104 ch = (y : Int) → CPX K mdn 0 a (y + 1) (y : Int) l ln k0 k3 0 cc → mdn ≤ 1 → ln < 25000 → ((mdn = 1 ∧ K.2.2.1.2.2 q ∧ ∃ n1 b1 b le kk k1 c, CPX K 5 n1 b1 b (K.1 104 y) ln le kk k1 0 c ∧ cd K le = 12) ∨ (mdn = md2 ∧ K.1 104 y = -1 ∧ cd K ln = 12)) → NXT K M b r s Q n := fun y mdn a ln k0 k3 cc ey hC hm hln hFn => by
      rw [ey, ot_a (by omega)] at hW
      obtain ⟨⟨cx, anc, hJ⟩, _⟩ := h.1.1
      have efz := hJ.2.2.1 z h.2.1.2.2.2.2.1
      obtain ⟨i, hi⟩ := efz.2.2.2 ks (by rw [ht, hst 103 z (by omega), j1]; omega)
      have ei : (y : Int) = nth s (i + 1) (s 114 (s 101 z).toNat) := by rw [nth_s, ← hi, hx, ey]
      have hcb : CHb K.1 z (y : Int) := by
        refine .inr ⟨hk, i + 1, ?_⟩
        rw [ei, nth_ext hst, hst 114 _ (by omega), hst 101 z (by omega)]
      have yz := (EF_cx efz.1 ((CHb_ext hst).mpr hcb) (by omega) (by omega)).2.1
      exact d_ask0 (y := y) (cur := (y : Int)) (pre := [(146, z, (y : Int))]) (P := []) (rb := [(l2 : Int)]) hK hT h (by omega) (.inr rfl) hW ⟨fun w => absurd w (by omega), fun _ w => absurd w (by rw [ht, hst 103 z (by omega), j1]; omega), fun _ _ => ⟨i + 1, ei⟩⟩ (fun V _ => ⟨⟨by omega, hzl, hln, hl2, hm, hcb⟩, .inr (.inl ⟨hk, q, j, q1, q2, q3, j1, j2, hmd, hp, .inr ⟨rfl, rfl, by omega, rfl, hFn⟩⟩)⟩) hC hBV
    obtain ⟨v, _⟩ := CPX_un w3
    rcases v with ⟨v, _⟩ | ⟨v, _⟩ | ⟨v, _⟩ | ⟨v, _⟩ | ⟨_, n2, b2, m1, k2, v1, v2, v3⟩ | ⟨v, _⟩ | ⟨_, v1, v2, v3, v4⟩
    · omega
    · omega
    · omega
    · omega
    · obtain ⟨y, y1, y2, y3, y4⟩ := CPX_y v2 (by omega)
      rw [y1, Int.toNat_natCast] at v3
      exact ask y 1 b1 m1 kk k2 c y1 y3 (by omega) (by omega) (.inl ⟨rfl, w2, n2, b2, bb, le, k2, k1, c, v3, w4⟩)
    · omega
    · obtain ⟨y, y1, y2, y3, y4⟩ := CPX_y v2 (by omega)
      rw [y1, Int.toNat_natCast] at v3
      exact ask y 0 b1 le 0 0 c y1 y3 (by omega) (by omega) (.inr ⟨md0.symm, v3, w4⟩)
  · rw [ot_t (by omega)] at hW
    rw [w1] at hBV
    obtain ⟨ra, a1, a2, a3⟩ := o_back b7 hBV hl ((hcd l).trans w3) (by have := D_l hK h; omega)
    obtain ⟨e1, e2, e3, e4, e5, e6, e7, e8⟩ := Fn_o a3 b7
    have ev : vax s (s 146 z) = s 145 ch := by
      unfold vax
      rw [hcur, Int.toNat_natCast, if_pos ⟨by omega, by rw [hst 99 12 (by omega)]; omega⟩]
    rw [ev] at hW
    have o1 : ∀ k j, k ≠ 146 → apw [(146, z, K.1 104 ch)] s k j = s k j := fun k j w => by
      show up2 s 146 z (K.1 104 ch) k j = s k j
      exact if_neg (fun q => w q.1)
    exact d_tell hK h (MS_1 h1 h52 a1) e1 (e5.trans h1) (CR_no (by omega) e3) (by rw [e4, if_neg (by omega)]; omega) (by omega) e7 (PZ_one (.inl ⟨.inl rfl, rfl⟩)) ((o1 147 z (by omega)).trans (F7_0 g7 (by omega))) hW (fun t ht => SH_fr hsh e2 (fun k j q => (ht k j q).trans (o1 k j (by omega)))) a2 (.inl rfl)
/-- a branch goes on whose part's child is done -/
theorem nx_D (hK : SPK K) (hT : TRM b r) : ∀ (N z : Nat) (s : tab) (Q : Nat → Nat) (n : Nat) (act : Nat → Prop) (lf dr : Nat → Int) (LG : Nat → Prop), 2000 ≤ N + z → REL K M False r s Q n act lf dr LG → LVb r b → DON K r s Q act lf dr LG b → lf b = (z : Int) → NXT K M b r s Q n
  | 0, z, s, Q, n, act, lf, dr, LG, hN, hR, hb, hD, hz => by
    obtain ⟨_, z0, ch, md, l, md2, l2, pc, P, rb, S, B, tp, w1, w2, w3, w4, w5, w6, w7, w8, w9, w10, w11⟩ := hD
    have := w7.1.2.1
    have := hK.2.2.2.2.1.1
    omega
  | N + 1, z, s, Q, n, act, lf, dr, LG, hN, hR, hb, hD, hz => by
    obtain ⟨h1, z0, ch, md, l, md2, l2, pc, P, rb, S, B, tp, w1, w2, w3, w4, w5, w6, w7, w8, w9, w10, w11⟩ := id hD
    have : z0 = z := by omega
    subst this
    have b7 := (hR.2.2.1 b hb).1
    have hst := hR.2.1.1
    have hn : ∀ s2 Q2 n2 act2 lf2 dr2, REL K M False r s2 Q2 n2 act2 lf2 dr2 LG → LVb r b → (DRT K r s2 act2 lf2 dr2 b ∨ DON K r s2 Q2 act2 lf2 dr2 LG b ∧ ∃ y : Nat, lf2 b = (y : Int) ∧ z0 < y) → NXT K M b r s2 Q2 n2 := fun s2 Q2 n2 act2 lf2 dr2 v1 v2 v3 => by
      rcases v3 with v3 | ⟨v3, y, v4, v5⟩
      · exact nx_R v1 v2 v3
      · exact nx_D hK hT N y s2 Q2 n2 act2 lf2 dr2 LG (by omega) v1 v2 v3 v4
    rcases w8 with e | ⟨e1, e2, e3⟩
    · subst e
      have hDN : DN K M r s Q n act lf dr LG b z0 md2 l2 S B tp := ⟨hR, ⟨hb, h1, w1, w2, w3, by omega, w5, FRM_k w7⟩, w10, w11, FRM_u w7⟩
      obtain ⟨⟨f1, f2, f3, f4, f5, f6⟩, fr⟩ := id w7
      have pv : K.1 100 z0 ≠ 404 → PVy K s act z0 (ch : Int) (s 145 ch) := fun q => by
        rcases f6 with v | v
        · exact ⟨v, by omega, by rw [Int.toNat_natCast]; exact w6, by rw [Int.toNat_natCast]⟩
        · exact absurd v.1 q
      rcases fr with ⟨k1, k2, k3, fr⟩ | ⟨k1, q, j, k2, k3, k4, k5, k6, k7, k8, fr⟩ | ⟨k1, k2, fr⟩
      · subst k1
        subst k2
        subst k3
        rw [if_pos rfl] at w9
        rcases fr with ⟨g1, g2, g3, g4, g5, g6, g7, g8⟩ | ⟨g1, g2, g3, g4, g5, g6, g7, g8⟩ | ⟨g1, g2, g3, ⟨b1, m2, c, g4, g5, g6, g7, g8, g9⟩, g10, g11⟩ | ⟨g1, g2, g3, g4, g5, g6, g7, g8, v, g9, g10⟩
        · subst g8
          exact d_401 hK hDN g1 (by rw [← g3]; exact pv (by omega)) w9 f3 g4 g5 g6 g7
        · subst g8
          exact d_402 hK hDN g1 (by rw [← g3]; exact pv (by omega)) w9 (by omega) g4 g5 g6 g7
        · subst g11
          exact d_403a hK hT hDN f2 g1 g2 (by rw [← g3]; exact pv (by omega)) w9 f4 g4 (by omega) g6 g7 g8 g9 g10
        · subst g9
          exact d_403b hK hDN g1 g2 g10 (by rw [← g3]; exact pv (by omega)) w9 (by omega) g4 g5 g6 g7 g8
      · rcases fr with ⟨g1, g2, i, g3, g4, g5, g6, ⟨b1, m, c, g7, g8, g9⟩, g10⟩ | ⟨g1, g2, g3, g4, g5⟩
        · subst g1
          subst g2
          rw [if_pos rfl] at w9
          exact d_404e hK hT hDN f2 f4 k1 w6 f1 k2 k3 k4 k5 k6 k7 k8 g3 g4 g5 g6 g7 g8 g9 g10 w9
        · subst g1
          subst g2
          exact d_404b hK hT hDN f2 f4 f3 k1 f1 k2 k3 k4 k5 k6 k7 k8 g3 g4 g5 w9
      · subst k1
        subst k2
        rcases fr with ⟨g1, g2, g3, g4, g5, g6, g7, g8, g9, g10, g11, g12⟩ | ⟨g1, g2, g3, g4, g5, g6, g7, ⟨b1, m2, c, g8, g9, g10, g11, g12⟩, g13⟩ | ⟨g1, g2, g3, g4, g5, g6, g7, g8, g9, g10, g11, v, g12, g13⟩ | ⟨g1, g2, g3, g4, g5, g6, g7, g8, g9, g10⟩ | ⟨g1, g2, g3, g4, g5, g6, g7⟩ | ⟨g1, g2, g3, g4, ⟨n1, b1, kk, k1, c, g5⟩, g6⟩ | ⟨g1, g2, g3, g4, g5, ⟨b1, m2, c, k0, k1, g6⟩, g7⟩ | ⟨g1, g2, g3, g4, g5⟩ | ⟨g1, g2, g3, g4, g5, ⟨f, m2, g6⟩, g7⟩ | ⟨g1, g2, g3, g4, ⟨f, m, g5⟩, g6⟩ | ⟨g1, g2, g3, ⟨f, g4⟩, g5⟩
        · subst g5
          subst g12
          rw [if_pos rfl] at w9
          exact d_405 hK hDN g1 g2 g3 (by rw [← g4]; exact pv (by omega)) w9 f3 g6 g7 g8 ⟨g9, g10, g11⟩
        · subst g7
          subst g13
          rw [if_pos rfl] at w9
          exact d_405a hK hT hDN f2 g1 (by omega) g5 (by rw [← g6]; exact pv (by omega)) w9 f4 g8 (by omega) g10 g11 g12 ⟨g2, g3, g4⟩
        · subst g8
          subst g12
          rw [if_pos rfl] at w9
          exact d_405s hK hDN g1 g7 g5 g13 (by rw [← g6]; exact pv (by omega)) w9 f3 g9 g10 g11 ⟨g2, g3, g4⟩
        · subst g4
          subst g10
          subst g7
          rw [if_pos rfl] at w9
          exact snd_in hK hR hDN.2.1 g1 (by omega) (by rw [← g3]; exact pv (by omega)) g5 g6 ⟨g8, g9⟩ f4 w9 w10 w11
        · subst g5
          subst g7
          rw [if_pos rfl] at w9
          have el : l2 = pc + 4 := g6.2.2.2.2.1
          subst el
          have h7 : s 147 z0 = 0 := F7_b (D_z hDN).2.1 (by omega) (by omega)
          have g44 := (D_z hDN).2.2.2
          obtain ⟨ra, a1, a2, a3⟩ := rcv_in (r1 := r) (P := [s 145 ch]) (m := pc) (n := n) hK hR hDN.2.1 g1 h7 (by
            rw [if_neg (by omega)]
            intro k j _ _ _
            by_cases e : k = 170 ∧ j = 53
            · rw [e.1, e.2]; exact (up_self.trans (by omega)).symm
            · exact (if_neg e).symm) (by rw [if_neg (by omega)]; omega) g6 (.inr ⟨g2, _, rfl, by rw [← g4]; exact pv (by omega)⟩) (.inr (by omega)) (fun q => by omega) w9 w10 w11
          rcases a3 with ⟨LG2, a3⟩ | ⟨s2, Q2, n2, a3, a4⟩
          · exact .inl ⟨0, ra, [], s, Q, n, act, lf, dr, LG2, a1, trivial, rfl, a3, a2⟩
          · exact NX_go (k := 0) a1 (show rdx (s, Q, n) z0 from (show 0 < Q z0 by omega)) a3 a4 a2.1 a2.2
        · subst g4
          subst g6
          rw [if_neg (by omega)] at w9
          exact d_408 hK hT hDN f2 f1 g1 g3 f6 w9 f3 f4 g5 hn
        · subst g4
          subst g7
          rw [if_pos rfl] at w9
          exact d_308 hK hDN f2 f4 f3 g1 g2 (by rw [← g3]; exact pv (by omega)) w9 g5 g6
        · subst g3
          subst g5
          rw [if_neg (by omega)] at w9
          exact d_308c hK hDN g1 g2 w9 g4 hn
        · subst g5
          subst g7
          rw [if_pos rfl] at w9
          exact d_310a hK hDN f2 f3 g1 g2 (by rw [← g4]; exact pv (by omega)) w9 g6
        · subst g4
          subst g6
          rw [if_neg (by omega)] at w9
          exact d_310b hK hDN f2 f3 g1 g2 w9 g5
        · subst g3
          subst g5
          rw [if_neg (by omega)] at w9
          exact d_311 hK hDN f2 f3 g1 g2.2 w9 g4
    · obtain ⟨r2, a1, a2, a3⟩ := o_jump b7 w9 e3 ((hR.2.1.2 pc).trans e1) (m := l) ((hR.2.1.2 _).trans e2)
      have hbr : BRx K False r2 s Q act lf dr LG b := ⟨b7, .inr (.inr (.inl ⟨(a3 206 b (by omega) (by omega) (by omega)).trans h1, z0, ch, md, l, md2, l2, l, P, rb, S, B, tp, w1, w2, w3, w4, w5, w6, w7, .inl rfl, a2, w10, PL_F a3 b7 w11⟩))⟩
      obtain ⟨j1, _, _, _, j5⟩ := REL_r hR hb h1 a3 hbr
      exact .inl ⟨0, r2, [], s, Q, n, act, lf, dr, LG, MS_1 h1 hR.2.2.2.2.2.2.2.2.2.2.2.2.2.2.2.2.1 a1, trivial, rfl, j1, j5, HR_55 (HR_F a3)⟩
/-- a branch that can go on does -/
theorem nx_all (hK : SPK K) (hT : TRM b r) (hR : REL K M False r s Q n act lf dr LG) (hb : LVb r b) (h1 : r 206 b = 1) : NXT K M b r s Q n := by
  rcases (hR.2.2.1 b hb).2 with h | h | h | h | ⟨z, l, S, B, v, tp, _, _, _, _, _, _, _, _, c9, _⟩ | ⟨z, m, S, B, P, tp, _, _, _, _, _, _, _, _, _, c10, _⟩ | ⟨c0, _⟩
  · obtain ⟨_, x, _, _, _, _, _, _, _, _, _, _, e, _⟩ := id h
    exact nx_B hK hT (x + 1) x s Q n act lf dr LG (by omega) hR hb h e
  · obtain ⟨_, x, m, S, B, P, tp, w1, w2, w3, w4, w5, w6, w7, w8, w9, w10, w11, w12⟩ := h
    have hst := hR.2.1.1
    exact f_407 hK hR ⟨hb, h1, w1, w2, w3, by omega, w7, by rw [← hst 100 x (by omega), w5.1]; decide⟩ w5 w6 w8 w9 w10 w11 w12
  · obtain ⟨_, z, _, _, _, _, _, _, _, _, _, _, _, e, _⟩ := id h
    exact nx_D hK hT 2000 z s Q n act lf dr LG (by omega) hR hb h e
  · exact nx_R hR hb h
  · rcases c9 with ⟨_, c, _⟩ | ⟨_, c, _⟩ <;> omega
  · rcases c10 with ⟨_, c, _⟩ | ⟨_, c, _⟩ <;> omega
  · omega
end DON5
