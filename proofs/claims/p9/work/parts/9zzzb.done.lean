/-! A child is done: who asked it goes on. -/
section DONX
variable {K : SCt} {W : Prop} {r r1 r2 s s2 : tab} {Q Q2 : Nat → Nat} {act act2 : Nat → Prop} {lf dr : Nat → Int} {LG LG2 : Nat → Prop} {b z ch y M n n2 m md md2 l l2 f pc k a k0 k1 : Nat} {S B P rb : List Int} {tp v cur : Int} {c : Cxx}
/-- branch b is at z, a child of which is done -/
def DN (K : SCt) (M : Nat) (r s : tab) (Q : Nat → Nat) (n : Nat) (act : Nat → Prop) (lf dr : Nat → Int) (LG : Nat → Prop) (b z md2 l2 : Nat) (S B : List Int) (tp : Int) : Prop := REL K M False r s Q n act lf dr LG ∧ LFp K r s Q act lf dr LG b z ∧ KO K s act (s 143 z) z md2 l2 S B tp ∧ PLk r lf b tp ∧ 0 < s 144 z
theorem D_t (h : DN K M r s Q n act lf dr LG b z md2 l2 S B tp) : trn s z = s 144 z := if_neg (by have := h.2.2.2.2; omega)
theorem D_b (h : DN K M r s Q n act lf dr LG b z md2 l2 S B tp) : b < 700 ∧ r 206 b = 1 ∧ r 170 52 = 2 ∧ ∀ i, r 178 i = cd K i := ⟨(h.1.2.2.1 b h.2.1.1).1, h.2.1.2.1, h.1.2.2.2.2.2.2.2.2.2.2.2.2.2.2.2.2.1, h.1.2.1.2⟩
theorem D_l (hK : SPK K) (h : DN K M r s Q n act lf dr LG b z md2 l2 S B tp) : S.length ≤ 8000 ∧ B.length ≤ 2000 := ⟨(REL_len hK h.1 h.2.1.2.2.2.2.1 h.2.2.1).1, (REL_len hK h.1 h.2.1.2.2.2.2.1 h.2.2.1).2.1⟩
/-- it is done -/
theorem d_tell (hK : SPK K) (h : DN K M r s Q n act lf dr LG b z md2 l2 S B tp) (hm : MS b (k + 1) r r2) (hr : HRx b r r2) (h12 : r2 206 b = 1) (hC : CRr K s z r r2) (h53 : r2 170 53 = r 170 53 + (if K.1 100 z = 402 ∨ K.1 100 z = 403 then 1 else 0)) (h54 : r2 170 53 ≤ r 170 54) (h54b : r2 170 54 = r 170 54) {u : Int} {pre : wrl} (hpre : PRz z pre) (z7 : apw pre s 147 z = 0) (hW : Wrx s z = cax ((144, z, u) :: pre, []) (twx s z v)) (hSH : ∀ s2 : tab, (∀ k j, k = 148 ∨ k = 149 ∨ 154 ≤ k ∧ k ≤ 169 → s2 k j = apw pre s k j) → SHx K r2 s2) (hBV : BVx r2 b pc ((if md2 = 0 then [v] else []) ++ S) B) (hpc : PLC K pc l2) : NXT K M b r s Q n := by
  obtain ⟨hR, hL, hKO, hPL, h4⟩ := h
  obtain ⟨s2, Q2, n2, act2, lf2, dr2, x1, x2, _⟩ := g_tell (n := n) hK hR hL hr h12 hC (by
    rw [h53]
    by_cases e : K.1 100 z = 402 ∨ K.1 100 z = 403
    · rw [if_pos e, if_pos (.inr e)]
    · rw [if_neg e, if_neg (fun w => w.elim (by omega) e)]) (fun _ => by omega) h54 hpre z7 hW hSH hBV hpc hKO hPL
  exact NX_go hm (show rdx (s, Q, n) z from hL.2.2.2.2.2.1) x1 x2 h54b (HR_55 hr)
/-- it is done; the reference has nothing to do -/
theorem d_tell0 (hK : SPK K) (h : DN K M r s Q n act lf dr LG b z md2 l2 S B tp) (hk : K.1 100 z ≠ 402 ∧ K.1 100 z ≠ 403 ∧ K.1 100 z ≠ 407 ∧ K.1 100 z ≠ 311) {u : Int} {pre : wrl} (hpre : PRz z pre) (hp7 : apw pre s 147 z = s 147 z) (hp8 : ∀ k j, k = 148 ∨ k = 149 ∨ 154 ≤ k ∧ k ≤ 169 → apw pre s k j = s k j) (hW : Wrx s z = cax ((144, z, u) :: pre, []) (twx s z v)) (hBV : BVx r b pc ((if md2 = 0 then [v] else []) ++ S) B) (hpc : PLC K pc l2) (hn : ∀ s2 Q2 n2 act2 lf2 dr2, REL K M False r s2 Q2 n2 act2 lf2 dr2 LG → LVb r b → (DRT K r s2 act2 lf2 dr2 b ∨ DON K r s2 Q2 act2 lf2 dr2 LG b ∧ ∃ y : Nat, lf2 b = (y : Int) ∧ z < y) → NXT K M b r s2 Q2 n2) : NXT K M b r s Q n := by
  obtain ⟨hR, hL, hKO, hPL, h4⟩ := h
  have g7 := hR.2.2.2.2.2.2.2.2.2.2.2.2.2.2.2.2.2.1
  have g4 := hR.2.2.2.2.2.2.2.2.2.2.2.2.2.2.1
  obtain ⟨s2, Q2, n2, act2, lf2, dr2, x1, x2, x3, x4⟩ := g_tell (n := n) (r2 := r) hK hR hL (fun _ _ _ _ _ _ _ _ _ _ => rfl) hL.2.1 (CR_no hk.2.2.2 (fun _ => rfl)) (by rw [if_neg (by omega)]; omega) (fun _ => by omega) g4 hpre (hp7.trans (F7_0 g7 hk.2.2.1)) hW (fun t ht => SH_fr hR.2.2.2.2.2.2.1 (fun _ _ _ => rfl) (fun k j w => (ht k j w).trans (hp8 k j w))) hBV hpc hKO hPL
  exact NX_1 (show rdx (s, Q, n) z from hL.2.2.2.2.2.1) x1 (hn s2 Q2 n2 act2 lf2 dr2 x2 x3 x4)
/-- it asks another -/
theorem d_ask (hK : SPK K) (h : DN K M r s Q n act lf dr LG b z md2 l2 S B tp) (hm : MS b (k + 1) r r2) (hr : HRx b r r2) (h12 : r2 206 b = 1) (hrs : SRr r r2) (hC : CRr K s z r r2) (h53 : r2 170 53 = r 170 53) (h54 : r2 170 54 = r 170 54) {pre : wrl} (hpre : pre = [] ∧ cur = s 146 z ∨ pre = [(146, z, cur)]) (hW : Wrx s z = cax ((144, z, trn s z + 1) :: pre, []) (awx s (y : Int) z)) (hph : PHc s z (trn s z + 1) cur) (hF : ∀ V : Int → Int → Prop, (∀ c v, PVy K s act z c v → c ≠ (y : Int) → V c v) → FRM K (s 144 z + 1) cur V z y md l md2 l2 P rb) (hCX : CPX K md 0 a (y + 1) (y : Int) f l k0 k1 0 c) (hBV : BVx r2 b f (P ++ S) (rb ++ B)) : NXT K M b r s Q n := by
  have ht := D_t h
  obtain ⟨hR, hL, hKO, hPL, h4⟩ := h
  have hst := hR.2.1.1
  have g4 := hR.2.2.2.2.2.2.2.2.2.2.2.2.2.2.1
  obtain ⟨f1, f2, f3, f4, f5, f6⟩ := (hF (fun _ _ => True) (fun _ _ _ _ => trivial)).1
  obtain ⟨s2, Q2, n2, act2, lf2, dr2, x1, x2, _⟩ := g_ask (n := n) hK hR hL hr h12 hrs hC (by rw [h53, if_neg (by omega)]; omega) (by omega) hpre hW f6 (fun c q => EF_cx q ((CHb_ext hst).mpr f6) (by omega) (by rw [hst 100 z (by omega)]; exact hL.2.2.2.2.2.2.2)) hph (fun V w _ => by rw [ht]; exact hF V w) hCX f5 hBV hKO hPL
  exact NX_go hm (show rdx (s, Q, n) z from hL.2.2.2.2.2.1) x1 x2 h54 (HR_55 hr)
/-- it asks another; the reference has nothing to do -/
theorem d_ask0 (hK : SPK K) (hT : TRM b r) (h : DN K M r s Q n act lf dr LG b z md2 l2 S B tp) (hk : K.1 100 z ≠ 311) {pre : wrl} (hpre : pre = [] ∧ cur = s 146 z ∨ pre = [(146, z, cur)]) (hW : Wrx s z = cax ((144, z, trn s z + 1) :: pre, []) (awx s (y : Int) z)) (hph : PHc s z (trn s z + 1) cur) (hF : ∀ V : Int → Int → Prop, (∀ c v, PVy K s act z c v → c ≠ (y : Int) → V c v) → FRM K (s 144 z + 1) cur V z y md l md2 l2 P rb) (hCX : CPX K md 0 a (y + 1) (y : Int) f l k0 k1 0 c) (hBV : BVx r b f (P ++ S) (rb ++ B)) : NXT K M b r s Q n := by
  have ht := D_t h
  obtain ⟨hR, hL, hKO, hPL, h4⟩ := h
  have hst := hR.2.1.1
  have g4 := hR.2.2.2.2.2.2.2.2.2.2.2.2.2.2.1
  obtain ⟨f1, f2, f3, f4, f5, f6⟩ := (hF (fun _ _ => True) (fun _ _ _ _ => trivial)).1
  obtain ⟨s2, Q2, n2, act2, lf2, dr2, x1, x2, x3, x4, x5⟩ := g_ask (n := n) (r2 := r) hK hR hL (fun _ _ _ _ _ _ _ _ _ _ => rfl) hL.2.1 (fun _ _ _ => rfl) (CR_no hk (fun _ => rfl)) (by rw [if_neg (by omega)]; omega) g4 hpre hW f6 (fun c q => EF_cx q ((CHb_ext hst).mpr f6) (by omega) (by rw [hst 100 z (by omega)]; exact hL.2.2.2.2.2.2.2)) hph (fun V w _ => by rw [ht]; exact hF V w) hCX f5 hBV hKO hPL
  exact NX_1 (show rdx (s, Q, n) z from hL.2.2.2.2.2.1) x1 (nx_B hK hT (y + 1) y s2 Q2 n2 act2 lf2 dr2 LG (by omega) x2 x4 (BEG_of x2 x4 hL.2.1 x3 (by omega)) x3)
/-- PART behind the E of a sign, unless it is lost -/
theorem d_part (h : DN K M r s Q n act lf dr LG b z md2 l2 S B tp) (hk : K.1 100 z = 402 ∨ K.1 100 z = 403) {S1 B1 : List Int} (hBV : BVx r b l S1 B1) (hf : l < 25000) (hc : cd K l = 0) : NXT K M b r s Q n ∨ (r 170 53 < r 170 54 ∧ ∃ r2, MS b 1 r r2 ∧ BVx r2 b (l + 1) S1 B1 ∧ FRb b (up2 r 170 53 (r 170 53 + 1)) r2 ∧ r2 206 b = 1 ∧ r2 170 52 = 2 ∧ (∀ i, r2 178 i = cd K i) ∧ r2 170 54 = r 170 54) := by
  obtain ⟨b7, h1, h52, hcd⟩ := D_b h
  obtain ⟨hR, hL, hKO, hPL, h4⟩ := h
  have g3 := hR.2.2.2.2.2.2.2.2.2.2.2.2.2.1
  have g4 := hR.2.2.2.2.2.2.2.2.2.2.2.2.2.2.1
  have g5 := hR.2.2.2.2.2.2.2.2.2.2.2.2.2.2.2.1
  by_cases e : r 170 53 = r 170 54
  · left
    obtain ⟨r2, a1, a2, a3⟩ := o_lost b7 hBV hf (by rw [hcd]; exact hc) e
    obtain ⟨ps, p1, p2⟩ := lost hR (.inr ⟨z, hL.2.2.2.2.1, hk, by omega⟩)
    exact .inr (.inl ⟨0, r, r2, ps, rfl, h1, h52, a1, a2, p1, by rw [← e]; exact p2, ST_e (ST_h hcd hR.2.2.2.2.2.2.1) (fun k j q => a3 k j (by omega) (by omega))⟩)
  · right
    obtain ⟨r2, a1, a2, a3⟩ := o_part b7 hBV hf (by rw [hcd]; exact hc) e ⟨g3, by omega⟩
    obtain ⟨c1, c2, c3, c4, c5, c6, c7, c8⟩ := FP_o a3 b7
    exact ⟨by omega, r2, MS_1 h1 h52 a1, a2, a3, c5.trans h1, c6.trans h52, fun i => (c8 i).trans (hcd i), c7⟩
end DONX
