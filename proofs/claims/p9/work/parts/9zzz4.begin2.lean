/-! The kinds that ask a child first. -/
section BEG2
variable {K : SCt} {r r1 r2 s s2 : tab} {Q Q2 : Nat → Nat} {act act2 : Nat → Prop} {lf dr : Nat → Int} {LG : Nat → Prop} {b x y M n md f l k a m k0 k1 : Nat} {S B : List Int} {tp : Int} {c : Cxx}
theorem b_401 (hK : SPK K) (h : BG K M r s Q n act lf dr LG b x 0 f l S B tp) (hx : (x : Int) < K.1 99 12) (hl : l < 25000) (hk : K.1 100 x = 401) (c0 : cd K f = 0) (hC : CPX K 0 0 a x (K.1 102 x) (f + 1) m 0 0 0 c) (c1 : cd K m = 4) (c2 : cd K (m + 1) = K.1 101 x) (e : l = m + 2) (hb : 0 ≤ K.1 101 x ∧ K.1 101 x < 6 ∧ bnd K.1 (24 + (K.1 101 x).toNat)) : NXT K M b r s Q n := by
  obtain ⟨y, y1, y2, y3, y4⟩ := CPX_y hC (by omega)
  have hst := h.1.2.1.1
  have kk : s 100 x = 401 := (hst 100 x (by omega)).trans hk
  have t0 : trn s x = 0 := if_pos (by rw [h.2.2.2.2.2.2.2.1]; omega)
  refine b_p1 (y := y) (pre := []) hK h (by omega) c0 (by omega) (.inl ⟨rfl, rfl⟩) ?_ (PHc_n (by omega) (by omega)) (fun V => ⟨⟨by omega, hx, by omega, hl, by omega, .inl ((CH_a (.inl hk)).mpr y1.symm)⟩, .inl ⟨rfl, rfl, rfl, .inl ⟨hk, rfl, y1.symm, c1, c2, e, hb, rfl⟩⟩⟩) y3
  rw [w_1a (by omega) t0, hst 102 x (by omega), y1]
theorem b_402 (hK : SPK K) (h : BG K M r s Q n act lf dr LG b x 0 f l S B tp) (hx : (x : Int) < K.1 99 12) (hl : l < 25000) (hk : K.1 100 x = 402) (hC : CPX K 0 0 a x (K.1 102 x) f m 0 0 0 c) (c0 : cd K m = 0) (c1 : cd K (m + 1) = 8) (c2 : cd K (m + 2) = K.1 101 x) (e : l = m + 3) (hn : ∀ s2 Q2 n2 act2 lf2 dr2 (y : Nat), y < x → REL K M False r s2 Q2 n2 act2 lf2 dr2 LG → LVb r b → BEG K r s2 Q2 act2 lf2 dr2 LG b → lf2 b = (y : Int) → NXT K M b r s2 Q2 n2) : NXT K M b r s Q n := by
  obtain ⟨y, y1, y2, y3, y4⟩ := CPX_y hC (by omega)
  have hst := h.1.2.1.1
  have kk : s 100 x = 402 := (hst 100 x (by omega)).trans hk
  have t0 : trn s x = 0 := if_pos (by rw [h.2.2.2.2.2.2.2.1]; omega)
  refine b_ask0 (y := y) hK h (.inl hk) ?_ (fun cur V => ⟨⟨by omega, hx, by omega, hl, by omega, .inl ((CH_a (.inr (.inl hk))).mpr y1.symm)⟩, .inl ⟨rfl, rfl, rfl, .inr (.inl ⟨hk, rfl, y1.symm, c0, c1, c2, e, rfl⟩)⟩⟩) y3 (fun s2 Q2 n2 act2 lf2 dr2 => hn s2 Q2 n2 act2 lf2 dr2 y (by omega))
  rw [w_1a (by omega) t0, hst 102 x (by omega), y1]
theorem b_403 (hK : SPK K) (h : BG K M r s Q n act lf dr LG b x 0 f l S B tp) (hx : (x : Int) < K.1 99 12) (hl : l < 25000) (hk : K.1 100 x = 403) {b1 m2 : Nat} (hC : CPX K 0 0 a b1 (K.1 102 x) f m 0 0 0 c) (hC2 : CPX K 0 0 b1 x (K.1 103 x) m m2 0 0 0 c) (c0 : cd K m2 = 0) (c1 : cd K (m2 + 1) = 7) (c2 : cd K (m2 + 2) = rsg (K.1 101 x)) (e : l = m2 + 3) (hv : 0 < lvl (K.1 101 x)) (hn : ∀ s2 Q2 n2 act2 lf2 dr2 (y : Nat), y < x → REL K M False r s2 Q2 n2 act2 lf2 dr2 LG → LVb r b → BEG K r s2 Q2 act2 lf2 dr2 LG b → lf2 b = (y : Int) → NXT K M b r s2 Q2 n2) : NXT K M b r s Q n := by
  obtain ⟨y, y1, y2, y3, y4⟩ := CPX_y hC (by omega)
  obtain ⟨z, z1, z2, z3, z4⟩ := CPX_y hC2 (by omega)
  have hst := h.1.2.1.1
  have kk : s 100 x = 403 := (hst 100 x (by omega)).trans hk
  have t0 : trn s x = 0 := if_pos (by rw [h.2.2.2.2.2.2.2.1]; omega)
  refine b_ask0 (y := y) hK h (.inr hk) ?_ (fun cur V => ⟨⟨by omega, hx, by omega, hl, by omega, .inl ((CH_403 hk).mpr (.inl y1.symm))⟩, .inl ⟨rfl, rfl, rfl, .inr (.inr (.inl ⟨hk, rfl, y1.symm, ⟨b1, m2, c, hC2, by omega, c0, c1, c2, e⟩, hv, rfl⟩))⟩⟩) y3 (fun s2 Q2 n2 act2 lf2 dr2 => hn s2 Q2 n2 act2 lf2 dr2 y (by omega))
  rw [w_403a kk t0, hst 102 x (by omega), y1]
theorem b_404 (hK : SPK K) (h : BG K M r s Q n act lf dr LG b x md f l S B tp) (hx : (x : Int) < K.1 99 12) (hl : l < 25000) (hk : K.1 100 x = 404) {q j : Nat} (q1 : K.1 101 x = (q : Int)) (q2 : q < 12) (q3 : q < K.2.2.2.1) (j1 : K.1 103 x = ((j + 1 : Nat) : Int)) (j2 : j + 1 ≤ 4) (c0 : cd K f = 0) (hC : CPX K 2 (j + 1) a x (K.1 102 x) (f + 1) m 0 0 0 c) (hST : STx K q (j + 1) m l) (hp : 0 ≤ K.1 113 q ∧ K.1 113 q + ((j + 1 : Nat) : Int) ≤ 24 ∧ ∀ i, i < j + 1 → bnd K.1 ((K.1 113 q).toNat + i)) (hmd : md = 0 ∧ K.2.2.1.2.2 q ∨ md = 1 ∧ ¬ K.2.2.1.2.2 q) : NXT K M b r s Q n := by
  obtain ⟨u, _⟩ := CPX_un hC
  rcases u with ⟨u, _⟩ | ⟨u, _⟩ | ⟨_, u, _⟩ | ⟨_, n1, b1, m1, u1, u2, u3⟩ | ⟨u, _⟩ | ⟨u, _⟩ | ⟨u, _⟩
  · omega
  · omega
  · omega
  · have : n1 = j := by omega
    subst this
    obtain ⟨y, y1, y2, y3, y4⟩ := CPX_y u2 (by omega)
    have hst := h.1.2.1.1
    have kk : s 100 x = 404 := (hst 100 x (by omega)).trans hk
    have t0 : trn s x = 0 := if_pos (by rw [h.2.2.2.2.2.2.2.1]; omega)
    have le := (CO_le (CPX_co u3))
    refine b_p1 (y := y) (cur := (y : Int)) (pre := [(146, x, (y : Int))]) hK h (by omega) c0 (by omega) (.inr rfl) ?_ ?_ (fun V => ⟨⟨by omega, hx, by omega, hl, by omega, .inl ((CH_404 hk).mpr ⟨0, by omega, y1.symm⟩)⟩, .inr (.inl ⟨hk, q, n1 + 1, q1, q2, q3, j1, j2, hmd, hp, .inl ⟨rfl, rfl, 0, by omega, by omega, y1.symm, rfl, ⟨b1, m, c, ?_, fun i hi => ?_, hST⟩, rfl⟩⟩)⟩) y3
    · rw [w_404a kk (x := (y : Int)) (by rw [if_pos t0, hst 102 x (by omega), y1]) (by rw [t0, hst 103 x (by omega), j1]; omega)]
    · refine ⟨fun q => absurd q (by omega), fun _ _ => ?_, fun _ q => ?_⟩
      · rw [t0, hst 102 x (by omega), y1]
        rfl
      · rw [t0, hst 103 x (by omega), j1] at q
        omega
    · rw [y1, Int.toNat_natCast] at u3
      exact u3
    · have : i = 0 := by omega
      rw [this]
      show K.1 102 x < _
      omega
  · omega
  · omega
  · omega
theorem b_405 (hK : SPK K) (h : BG K M r s Q n act lf dr LG b x 1 f l S B tp) (hx : (x : Int) < K.1 99 12) (hl : l < 25000) (hk : K.1 100 x = 405) (h3 : K.1 103 x = -1) (c0 : cd K f = 0) (hC : CPX K 0 0 a x (K.1 102 x) (f + 1) m 0 0 0 c) (c1 : cd K m = 5) (c2 : cd K (m + 1) = K.1 101 x) (e : l = m + 2) (hb : 0 ≤ K.1 101 x ∧ K.1 101 x < 24 ∧ bnd K.1 (K.1 101 x).toNat) : NXT K M b r s Q n := by
  obtain ⟨y, y1, y2, y3, y4⟩ := CPX_y hC (by omega)
  have hst := h.1.2.1.1
  have kk : s 100 x = 405 := (hst 100 x (by omega)).trans hk
  have e3 := hst 103 x (by omega)
  have t0 : trn s x = 0 := if_pos (by rw [h.2.2.2.2.2.2.2.1]; omega)
  refine b_p1 (y := y) (pre := []) hK h (by omega) c0 (by omega) (.inl ⟨rfl, rfl⟩) ?_ (PHc_n (by omega) (by omega)) (fun V => ⟨⟨by omega, hx, by omega, hl, by omega, .inl ((CH_405 hk).mpr (.inl y1.symm))⟩, .inr (.inr ⟨rfl, rfl, .inl ⟨hk, h3, rfl, y1.symm, rfl, c1, c2, e, hb.1, hb.2.1, hb.2.2, rfl⟩⟩)⟩) y3
  rw [w_405b kk (by unfold sgu; rw [if_pos (by omega), t0]; rfl), hst 102 x (by omega), y1]
theorem b_405s (hK : SPK K) (h : BG K M r s Q n act lf dr LG b x 1 f l S B tp) (hx : (x : Int) < K.1 99 12) (hl : l < 25000) (hk : K.1 100 x = 405) (c0 : cd K f = 0) {b1 m2 : Nat} (hC : CPX K 0 0 a b1 (K.1 103 x) (f + 1) m 0 0 0 c) (hC2 : CPX K 0 0 b1 x (K.1 102 x) m m2 0 0 0 c) (c1 : cd K m2 = 6) (c2 : cd K (m2 + 1) = K.1 101 x - 24) (e : l = m2 + 2) (hb : 24 ≤ K.1 101 x ∧ K.1 101 x < 30 ∧ bnd K.1 (K.1 101 x).toNat) : NXT K M b r s Q n := by
  obtain ⟨y, y1, y2, y3, y4⟩ := CPX_y hC (by omega)
  obtain ⟨z, z1, z2, z3, z4⟩ := CPX_y hC2 (by omega)
  have hst := h.1.2.1.1
  have kk : s 100 x = 405 := (hst 100 x (by omega)).trans hk
  have e3 := hst 103 x (by omega)
  have t0 : trn s x = 0 := if_pos (by rw [h.2.2.2.2.2.2.2.1]; omega)
  refine b_p1 (y := y) (pre := []) hK h (by omega) c0 (by omega) (.inl ⟨rfl, rfl⟩) ?_ (PHc_n (by omega) (by omega)) (fun V => ⟨⟨by omega, hx, by omega, hl, by omega, .inl ((CH_405 hk).mpr (.inr ⟨y1.symm, by omega⟩))⟩, .inr (.inr ⟨rfl, rfl, .inr (.inl ⟨hk, hb.1, hb.2.1, hb.2.2, rfl, y1.symm, rfl, ⟨b1, m2, c, hC2, by omega, c1, c2, e⟩, rfl⟩)⟩)⟩) y3
  rw [w_405a kk t0 (by omega), e3, y1]
theorem b_406 (hK : SPK K) (h : BG K M r s Q n act lf dr LG b x 1 f l S B tp) (hx : (x : Int) < K.1 99 12) (hl : l < 25000) (hk : K.1 100 x = 406) (c0 : cd K f = 0) (hC : CPX K 0 0 a x (K.1 102 x) (f + 1) m 0 0 0 c) (c1 : cd K m = (if K.1 101 x < 8 then 13 else 15)) (c2 : cd K (m + 1) = (if K.1 101 x < 8 then K.1 101 x else K.1 101 x - 8)) (e : l = m + 2) (hb : 0 ≤ K.1 101 x ∧ K.1 101 x < 12) : NXT K M b r s Q n := by
  obtain ⟨y, y1, y2, y3, y4⟩ := CPX_y hC (by omega)
  have hst := h.1.2.1.1
  have kk : s 100 x = 406 := (hst 100 x (by omega)).trans hk
  have t0 : trn s x = 0 := if_pos (by rw [h.2.2.2.2.2.2.2.1]; omega)
  refine b_p1 (y := y) (pre := []) hK h (by omega) c0 (by omega) (.inl ⟨rfl, rfl⟩) ?_ (PHc_n (by omega) (by omega)) (fun V => ⟨⟨by omega, hx, by omega, hl, by omega, .inl ((CH_a (.inr (.inr hk))).mpr y1.symm)⟩, .inr (.inr ⟨rfl, rfl, .inr (.inr (.inr (.inl ⟨hk, rfl, y1.symm, rfl, c1, c2, e, hb.1, hb.2, rfl⟩)))⟩)⟩) y3
  rw [w_406a kk t0, hst 102 x (by omega), y1]
theorem b_407s (hK : SPK K) (h : BG K M r s Q n act lf dr LG b x 1 f l S B tp) (hx : (x : Int) < K.1 99 12) (hl : l < 25000) (hk : K.1 100 x = 407) (h7 : s 147 x = 0) (c0 : cd K f = 0) (hC : CPX K 0 0 a x (K.1 103 x) (f + 1) m 0 0 0 c) (h24 : 24 ≤ K.1 102 x) (hRC : RCx K x m l) : NXT K M b r s Q n := by
  obtain ⟨y, y1, y2, y3, y4⟩ := CPX_y hC (by omega)
  have hst := h.1.2.1.1
  have kk : s 100 x = 407 := (hst 100 x (by omega)).trans hk
  have e3 := hst 103 x (by omega)
  have t0 : trn s x = 0 := if_pos (by rw [h.2.2.2.2.2.2.2.1]; omega)
  refine b_p1 (y := y) (pre := []) hK h (by omega) c0 (by omega) (.inl ⟨rfl, rfl⟩) ?_ (PHc_n (by omega) (by omega)) (fun V => ⟨⟨by omega, hx, by omega, hl, by omega, .inl ((CH_407 hk).mpr ⟨y1.symm, by omega⟩)⟩, .inr (.inr ⟨rfl, rfl, .inr (.inr (.inr (.inr (.inl ⟨hk, h24, rfl, y1.symm, rfl, hRC, rfl⟩))))⟩)⟩) y3
  rw [w_407a kk h7 t0 (by omega), e3, y1]
theorem b_408 (hK : SPK K) (h : BG K M r s Q n act lf dr LG b x 1 f l S B tp) (hx : (x : Int) < K.1 99 12) (hl : l < 25000) (hk : K.1 100 x = 408) (c0 : cd K f = 0) {j : Nat} (hj : 2 ≤ j) (hC : CPX K 3 j a x (K.1 101 x) (f + 1) l k0 k1 0 c) : NXT K M b r s Q n := by
  obtain ⟨u, _⟩ := CPX_un hC
  rcases u with ⟨u, _⟩ | ⟨u, _⟩ | ⟨_, u, _⟩ | ⟨u, _⟩ | ⟨_, n1, b1, m1, kk, u1, u2, u3⟩ | ⟨u, _⟩ | ⟨u, _⟩
  · omega
  · omega
  · omega
  · omega
  · obtain ⟨y, y1, y2, y3, y4⟩ := CPX_y u2 (by omega)
    have hst := h.1.2.1.1
    have ks : s 100 x = 408 := (hst 100 x (by omega)).trans hk
    have t0 : trn s x = 0 := if_pos (by rw [h.2.2.2.2.2.2.2.1]; omega)
    have le := (CO_le (CPX_co u3))
    have e1 : s 101 x = (y : Int) := (hst 101 x (by omega)).trans y1
    refine b_p1 (y := y) (cur := (y : Int)) (pre := [(146, x, (y : Int))]) hK h (by omega) c0 (by omega) (.inr rfl) ?_ ?_ (fun V => ⟨⟨by omega, hx, by omega, hl, by omega, .inl ((CH_408 hk).mpr ⟨⟨0, y1.symm⟩, by omega⟩)⟩, .inr (.inr ⟨rfl, rfl, .inr (.inr (.inr (.inr (.inr (.inl ⟨hk, by omega, rfl, rfl, ⟨n1, b1, kk, k1, c, ?_⟩, rfl⟩)))))⟩)⟩) y3
    · rw [w_408 ks (x := (y : Int)) (by rw [if_pos t0, e1]), ot_a (by omega)]
    · refine ⟨fun _ => ⟨0, e1.symm⟩, fun q => absurd q (by omega), fun q => absurd q (by omega)⟩
    · rw [y1, Int.toNat_natCast] at u3
      exact u3
  · omega
  · omega
theorem b_308 (hK : SPK K) (h : BG K M r s Q n act lf dr LG b x 1 f l S B tp) (hx : (x : Int) < K.1 99 12) (hl : l < 25000) (hk : K.1 100 x = 308) (c0 : cd K f = 0) {b1 m2 : Nat} (hC : CPX K 0 0 a b1 (K.1 101 x) (f + 1) m 0 0 0 c) (c1 : cd K m = 10) (hC2 : (K.1 103 x = -1 ∧ CPX K 1 0 b1 x (K.1 102 x) (m + 2) m2 k0 k1 0 c ∧ cd K (m + 1) = (m2 : Int) ∧ l = m2) ∨ ∃ b2 kk, CPX K 1 0 b1 b2 (K.1 102 x) (m + 2) m2 k0 kk 0 c ∧ CPX K 1 0 b2 x (K.1 103 x) (m2 + 2) l kk k1 0 c ∧ cd K m2 = 9 ∧ cd K (m2 + 1) = (l : Int) ∧ cd K (m + 1) = (m2 : Int) + 2) : NXT K M b r s Q n := by
  obtain ⟨y, y1, y2, y3, y4⟩ := CPX_y hC (by omega)
  have hst := h.1.2.1.1
  have kk : s 100 x = 308 := (hst 100 x (by omega)).trans hk
  have t0 : trn s x = 0 := if_pos (by rw [h.2.2.2.2.2.2.2.1]; omega)
  have lt : b1 ≤ x := by
    rcases hC2 with ⟨_, q, _⟩ | ⟨b2, kk, q1, q2, _⟩
    · have := CPX_rt q (by omega); omega
    · have := CPX_rt q1 (by omega)
      have := CPX_rt q2 (by omega)
      omega
  refine b_p1 (y := y) (pre := []) hK h (by omega) c0 (by omega) (.inl ⟨rfl, rfl⟩) ?_ (PHc_n (by omega) (by omega)) (fun V => ⟨⟨by omega, hx, by omega, hl, by omega, .inl ((CH_308 hk).mpr (.inl y1.symm))⟩, .inr (.inr ⟨rfl, rfl, .inr (.inr (.inr (.inr (.inr (.inr (.inl ⟨hk, rfl, y1.symm, rfl, c1, ⟨b1, m2, c, k0, k1, hC2⟩, rfl⟩))))))⟩)⟩) y3
  rw [w_308a kk t0, hst 101 x (by omega), y1]
theorem b_310 (hK : SPK K) (h : BG K M r s Q n act lf dr LG b x 1 f l S B tp) (hx : (x : Int) < K.1 99 12) (hl : l < 25000) (hk : K.1 100 x = 310) (c0 : cd K f = 0) {b1 m2 : Nat} (hC : CPX K 0 0 a b1 (K.1 101 x) (f + 1) m 0 0 0 c) (c1 : cd K m = 10) (c2 : cd K (m + 1) = (l : Int)) (hC2 : CPX K 1 0 b1 x (K.1 102 x) (m + 2) m2 k0 k1 0 c) (c3 : cd K m2 = 9) (c4 : cd K (m2 + 1) = (f : Int) + 1) (e : l = m2 + 2) : NXT K M b r s Q n := by
  obtain ⟨y, y1, y2, y3, y4⟩ := CPX_y hC (by omega)
  obtain ⟨z, z1, z2, z3, z4⟩ := CPX_y hC2 (by omega)
  have hst := h.1.2.1.1
  have kk : s 100 x = 310 := (hst 100 x (by omega)).trans hk
  have t0 : trn s x = 0 := if_pos (by rw [h.2.2.2.2.2.2.2.1]; omega)
  refine b_p1 (y := y) (pre := []) hK h (by omega) c0 (by omega) (.inl ⟨rfl, rfl⟩) ?_ (PHc_n (by omega) (by omega)) (fun V => ⟨⟨by omega, hx, by omega, hl, by omega, .inl ((CH_310 hk).mpr (.inl y1.symm))⟩, .inr (.inr ⟨rfl, rfl, .inr (.inr (.inr (.inr (.inr (.inr (.inr (.inr (.inl ⟨hk, rfl, by omega, y1.symm, rfl, ⟨f, m2, a, b1, c, k0, k1, hC, c1, c2, hC2, c3, c4, e, hl⟩, rfl⟩))))))))⟩)⟩) y3
  rw [w_310a kk (by rw [t0]; rfl), hst 101 x (by omega), y1]
/-- REPEAT: its counter, its STATEMENT or nothing -/
theorem b_311 (hK : SPK K) (h : BG K M r s Q n act lf dr LG b x 1 f l S B tp) (hx : (x : Int) < K.1 99 12) (hl : l < 25000) (hk : K.1 100 x = 311) (hL : K.2.2.2.2.1 x = k0) (c0 : cd K f = 0) (c1 : cd K (f + 1) = 17) (c2 : cd K (f + 2) = (k0 : Int)) (c3 : cd K (f + 3) = K.1 101 x) (c4 : cd K (f + 4) = 18) (c5 : cd K (f + 5) = (k0 : Int)) (c6 : cd K (f + 6) = (l : Int)) (h0 : 0 ≤ K.1 101 x) (h6 : K.1 101 x ≤ 65535) (hC : CPX K 1 0 a x (K.1 102 x) (f + 7) m (k0 + 1) k1 0 c) (c7 : cd K m = 9) (c8 : cd K (m + 1) = (f : Int) + 4) (e : l = m + 2) : NXT K M b r s Q n := by
  obtain ⟨y, y1, y2, y3, y4⟩ := CPX_y hC (by omega)
  have hst := h.1.2.1.1
  have kk : s 100 x = 311 := (hst 100 x (by omega)).trans hk
  have e1 := hst 101 x (by omega)
  have e2 := hst 102 x (by omega)
  have t0 : trn s x = 0 := if_pos (by rw [h.2.2.2.2.2.2.2.1]; omega)
  rcases b_part h (by omega) c0 with q | ⟨lt, r1, m1, v1, f1, d1, d2, d3, d4, b7⟩
  · exact q
  obtain ⟨r2, a1, a2, a3⟩ := o_count b7 v1 (by omega) (by rw [d3]; exact c1) (a := k0) (by rw [d3]; exact c2)
  rw [show r1 178 (f + 1 + 2) = K.1 101 x by rw [d3]; exact c3] at a3
  have o2 : ∀ k j, k < 203 ∨ k = 206 → r2 k j = r1 k j := fun k j q => (a3 k j (by omega) (by omega) (by omega)).trans (if_neg (by omega))
  have e4 : r2 204 k0 = K.1 101 x := (a3 204 k0 (by omega) (by omega) (by omega)).trans up_self
  obtain ⟨r3, g1, g2, g3⟩ := o_again b7 a2 (by omega) (by rw [o2 _ _ (by omega), d3]; exact c4) (a := k0) (m := l) (by rw [o2 _ _ (by omega), d3]; exact c5) (by rw [o2 _ _ (by omega), d3]; exact c6) e4 (by omega)
  obtain ⟨i1, i2, i3, i4, i5, i6, i7, i8⟩ := FP_o f1 b7
  have o3 : ∀ k j, ¬ ((k = 205 ∨ k = 208 ∨ k = 209) ∧ j = b) → k ≠ 220 + b → k ≠ 921 + b → k ≠ 204 → r3 k j = r1 k j := fun k j q1 q2 q3 q4 => (g3 k j q1 q2 q3).trans ((if_neg (by omega)).trans ((a3 k j q1 q2 q3).trans (if_neg (by omega))))
  have hHR : HRx b r r3 := fun k j q1 q2 q3 q4 q5 q6 q7 q8 => (o3 k j (by omega) q2 q3 q6).trans (i1 k j q1 q2 q3 q4 q5 q6 q7 q8)
  have hSR : SRr r r3 := fun k j q => (o3 k j (by omega) (by omega) (by omega) (by omega)).trans (i2 k j q)
  have hCR : CRr K s x r r3 := by
    refine ⟨fun j q => ?_, fun _ => ?_⟩
    · have : j ≠ k0 := by
        rcases q with q | q
        · omega
        · exact absurd hk q
      exact (g3 204 j (by omega) (by omega) (by omega)).trans ((if_neg (by omega)).trans ((a3 204 j (by omega) (by omega) (by omega)).trans ((if_neg (by omega)).trans (i3 j))))
    · rw [hL, t0]
      exact (g3 204 k0 (by omega) (by omega) (by omega)).trans (up_self.trans (by omega))
  have h53 : r3 170 53 = r 170 53 + 1 := (o3 170 53 (by omega) (by omega) (by omega) (by omega)).trans i4
  have h54 : r3 170 54 = r 170 54 := (o3 170 54 (by omega) (by omega) (by omega) (by omega)).trans i7
  have h12 : r3 206 b = 1 := (o3 206 b (by omega) (by omega) (by omega) (by omega)).trans d1
  have hms : MS b 3 r r3 := MS_tr 2 r (MS_tr 1 r m1 (MS_1 d1 d2 a1)) (MS_1 ((o2 206 b (by omega)).trans d1) ((o2 170 52 (by omega)).trans d2) g1)
  by_cases z : K.1 101 x = 0
  · rw [if_neg (by omega)] at g2
    refine b_tell hK h (by omega) hms hHR h12 hSR hCR h53 lt h54 (v := 0) ?_ g2 (.inl rfl)
    rw [w_311 kk, if_neg (by omega), ot_t (by omega)]
  · rw [if_pos (by omega)] at g2
    refine b_ask (y := y) (pre := []) hK h (by omega) hms hHR h12 hSR hCR h53 lt h54 (.inl ⟨rfl, rfl⟩) ?_ (PHc_n (by omega) (by omega)) (fun V => ⟨⟨by omega, hx, by omega, hl, by omega, .inl ((CH_311 hk).mpr y1.symm)⟩, .inr (.inr ⟨rfl, rfl, .inr (.inr (.inr (.inr (.inr (.inr (.inr (.inr (.inr (.inr ⟨hk, by omega, rfl, ⟨f, c4, by rw [hL]; exact c5, c6, h0, h6, ⟨a, k0 + 1, k1, c, hC⟩, c7, c8, e, hl⟩, rfl⟩)))))))))⟩)⟩) y3 g2
    rw [w_311 kk, if_pos (by omega), e2, y1, ot_a (by omega)]
end BEG2
