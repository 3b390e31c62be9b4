/-! A branch goes on: turns of its part, and the relation again. -/
abbrev SPK (K : SCt) : Prop := SPX K.1 K.2.1 K.2.2.1 K.2.2.2.1 K.2.2.2.2.1 K.2.2.2.2.2
section GOX
variable {K : SCt} {W : Prop} {r r2 s s2 : tab} {Q Q2 : Nat → Nat} {act act2 : Nat → Prop} {lf dr : Nat → Int} {LG LG2 : Nat → Prop} {b p y M n n2 : Nat} {w d tp v : Int} {md l pc : Nat} {S B : List Int}
theorem sm_p {f g : Nat → Int} (hp : p < M) (h : ∀ i, i ≠ p → f i = g i) : smx f M = smx g M + (f p - g p) := by
  have u := smz_u (g := g) (p := p) (d := f p - g p) M
  rw [if_pos hp] at u
  rw [← u]
  refine smx_c (fun i _ => ?_)
  by_cases e : i = p
  · rw [if_pos e, e]
    omega
  · rw [if_neg e, h i e]
    omega
/-- behind a part, once it has turned -/
theorem KO_mv (h : PSy M K.2.2.2.1 K.2.2.2.2.2 s Q act) (hst : ∀ k j, 99 ≤ k ∧ k ≤ 114 → s k j = K.1 k j) (H : MVx s Q act s2 Q2 act2 (fun z => z = p) p) (ap : act p) (np : NoC s act p) (nb : ¬ PBg s p) {x : Nat} (ax : act x) (hK : KO K s act (s 143 x) x md l S B tp) : KO K s2 act2 (s 143 x) x md l S B tp := by
  obtain ⟨k, hk⟩ := hK
  refine ⟨k, KON_mv (X := fun q => q = p) (fun q e => .inl (by rw [show q = p from e]; exact np)) (fun q aq e => ?_) (fun q e v _ => absurd v (by rw [show q = p from e]; exact nb)) (fun j => H.2.2.2 100 j (by omega)) (fun j => hst 100 j (by omega)) (HV_of h hst H ap rfl) k _ _ _ _ _ _ (fun q e v => ?_) hk⟩
  · obtain ⟨a1, a2, a3, _, a5, _⟩ := H.1 q aq e
    exact ⟨a1, a2, a3, a5⟩
  · rw [show q = p from e] at v
    exact absurd v (np x ax)
/-- the leaf p of branch b can turn -/
def LFp (K : SCt) (r s : tab) (Q : Nat → Nat) (act : Nat → Prop) (lf dr : Nat → Int) (LG : Nat → Prop) (b p : Nat) : Prop := LVb r b ∧ r 206 b = 1 ∧ lf b = (p : Int) ∧ dr b = -1 ∧ act p ∧ 0 < Q p ∧ ¬ LG p ∧ K.1 100 p ≠ 312
/-- rows of what all branches share, in both -/
def SRr (r r2 : tab) : Prop := ∀ k j, k = 179 ∨ k = 180 ∨ k = 203 ∨ 213 ≤ k ∧ k ≤ 218 ∨ 1622 ≤ k ∧ k ≤ 1630 → r2 k j = r k j
/-- counters when p has turned once more -/
def CRr (K : SCt) (s : tab) (p : Nat) (r r2 : tab) : Prop := (∀ j, j ≠ K.2.2.2.2.1 p ∨ K.1 100 p ≠ 311 → r2 204 j = r 204 j) ∧ (K.1 100 p = 311 → r2 204 (K.2.2.2.2.1 p) = K.1 101 p - (trn s p + 1))
theorem CN_of (hK : SPK K) (hPS : PSy M K.2.2.2.1 K.2.2.2.2.2 s Q act) (h : CNx K r s act) (hC : CRr K s p r r2) (ap : act p) (e4 : ∀ z, act z → z ≠ p → s2 144 z = s 144 z) (e4p : act2 p → s2 144 p = trn s p + 1) (ha : ∀ z, act2 z → act z ∨ s2 144 z = -1) : CNx K r2 s2 act2 := fun z az kz tz => by
  have a2 : act z := by
    rcases ha z az with q | q
    · exact q
    · omega
  by_cases e : z = p
  · rw [e] at kz az ⊢
    rw [e4p az]
    exact hC.2 kz
  · have : K.2.2.2.2.1 z ≠ K.2.2.2.2.1 p ∨ K.1 100 p ≠ 311 := by
      by_cases kp : K.1 100 p = 311
      · refine .inl (fun q => e (hK.2.2.1 z p ?_ ?_ kz kp q))
        · exact hPS.2.1.1 z a2
        · exact hPS.2.1.1 p ap
      · exact .inr kp
    rw [hC.1 _ this, e4 z a2 e]
    rw [e4 z a2 e] at tz
    exact h z a2 kz tz
theorem CR_no (hk : K.1 100 p ≠ 311) (h : ∀ j, r2 204 j = r 204 j) : CRr K s p r r2 := ⟨fun j _ => h j, fun q => absurd q hk⟩
/-- the leaf asks a child, having written what is shared -/
theorem g_ask2 (hK : SPK K) (hR : REL K M W r s Q n act lf dr LG) (hL : LFp K r s Q act lf dr LG b p) (hr : HRx b r r2) (h12 : r2 206 b = 1) (hC : CRr K s p r r2) (h53 : r2 170 53 = r 170 53 + (if s 144 p < 0 ∧ ¬ (K.1 100 p = 402 ∨ K.1 100 p = 403) then 1 else 0)) (h54 : r2 170 53 ≤ r 170 54) {cur : Int} {pre : wrl} (hz : PRz p pre) (z7 : apw pre s 147 p = s 147 p) (a146 : ∀ t : tab, t 146 p = s 146 p → apw pre t 146 p = cur) (hSH : ∀ s2 : tab, (∀ k j, k = 148 ∨ k = 149 ∨ 154 ≤ k ∧ k ≤ 169 → s2 k j = apw pre s k j) → SHx K r2 s2) (hW : Wrx s p = cax ((144, p, trn s p + 1) :: pre, []) (awx s (y : Int) p)) (hcb : CHb K.1 p (y : Int)) (hcx : ∀ c, EF s c p → CHx (EF s) c p (y : Int)) (hph : PHc s p (trn s p + 1) cur) {f a k0 k1 mdp lp : Nat} {P rb : List Int} {c : Cxx} (hF : ∀ V : Int → Int → Prop, (∀ c v, PVy K s act p c v → c ≠ (y : Int) → V c v) → (¬ act y → V (y : Int) (s 145 y) → False) → FRM K (trn s p + 1) cur V p y md l mdp lp P rb) (hCX : CPX K md 0 a (y + 1) (y : Int) f l k0 k1 0 c) (hmd : md ≤ 1) (hBV : BVx r2 b f (P ++ S) (rb ++ B)) (hKO : KO K s act (s 143 p) p mdp lp S B tp) (hPL : PLk r lf b tp) : ∃ s2 Q2 n2 act2 lf2 dr2, stx (s, Q, n) p = (s2, Q2, n2) ∧ REL K M W r2 s2 Q2 n2 act2 lf2 dr2 LG ∧ lf2 b = (y : Int) ∧ LVb r2 b ∧ s2 144 y = -1 := by
  obtain ⟨hb, h1, hp, hd, ap, qp, ng, k2⟩ := hL
  obtain ⟨hPS, ⟨hst, hcd⟩, hBR, hinj, hcov, hdrs, hsh, hcn, hex, hst53, hLG, g1, g2, g3, g4, g5, g6, g7, g8⟩ := id hR
  have nb : ¬ PBg s p := fun q => k2 (by rw [← hst 100 p (by omega)]; exact q.1)
  obtain ⟨_, ip, pl, pM, hnn⟩ := PS_rd hPS qp
  have np := (hnn nb).2
  have ao : ∀ k j, (k < 146 ∨ 150 ≤ k ∧ k < 154) → apw pre s k j = s k j := fun k j q => pz_o hz s ⟨by omega, by omega, by omega, by omega⟩
  obtain ⟨s2, Q2, n2, x1, x2, x3, x4, x5, x6, x7, x8⟩ := mv_ask (n := n) hPS qp (by rw [hst 100 p (by omega)]; exact k2) hz hW ((CHb_ext hst).mpr hcb) hcx (fun t ht => by rw [a146 t ht]; exact hph)
  have yp : y ≠ p := by omega
  have e3 : s2 143 y = (p : Int) := by rw [x6]; exact (if_neg (by omega)).trans up_self
  have e4 : s2 144 y = -1 := by rw [x6]; exact up_self
  have e3p : s2 143 p = s 143 p := by rw [x6]; exact (if_neg (by omega)).trans ((if_neg (by omega)).trans ((if_neg (by omega)).trans (ao _ _ (by omega))))
  have e4p : s2 144 p = trn s p + 1 := by rw [x6]; exact (if_neg (by omega)).trans ((if_neg (by omega)).trans up_self)
  have e6p : s2 146 p = cur := by rw [x6]; exact (if_neg (by omega)).trans ((if_neg (by omega)).trans ((if_neg (by omega)).trans (a146 s rfl)))
  have so : ∀ k j, k ≠ 143 → k ≠ 144 → (k < 146 ∨ 150 ≤ k ∧ k < 154) → s2 k j = s k j := fun k j q1 q2 q3 => by
    rw [x6]; exact (if_neg (by omega)).trans ((if_neg (by omega)).trans ((if_neg (by omega)).trans (ao _ _ q3)))
  have t0 := trn_0 (s := s) (p := p)
  have HV := HV_of hPS hst x3 ap rfl
  have V2 : ∀ c v, PVy K s act p c v → c ≠ (y : Int) → PVy K s2 (fun q => act q ∨ (q : Int) = (y : Int)) p c v := fun c v q ne => by
    obtain ⟨q1, q2, q3, q4⟩ := q
    refine ⟨q1, q2, fun w => w.elim q3 (fun w => ne (by omega)), (so _ _ (by omega) (by omega) (by omega)).trans q4⟩
  have ko : KO K s2 (fun q => act q ∨ (q : Int) = (y : Int)) (p : Int) y md l (P ++ S) (rb ++ B) tp := by
    obtain ⟨k, hk⟩ := KO_mv hPS hst x3 ap np nb ap hKO
    refine ⟨k + 1, .inr (.inr ⟨p, mdp, lp, P, rb, S, B, rfl, .inl ap, ?_, rfl, rfl, by rw [e3p]; exact hk⟩)⟩
    rw [e4p, e6p]
    exact hF _ V2 (fun _ q => q.2.2.1 (by rw [Int.toNat_natCast]; exact .inr rfl))
  have fin := t_ask (n2 := n2) hR hb h1 hp hd np ap nb k2 ng x2 x3 x4 e3 e4 e3p x7 (fun k j q => so k j (by omega) (by omega) (by omega)) hr h12 hBV hCX hmd ko hPL (hSH s2 (fun k j q => by rw [x6]; exact (if_neg (by omega)).trans ((if_neg (by omega)).trans (if_neg (by omega))))) (CN_of hK hPS hcn hC ap (fun z az q => (x3.1 z az q).2.2.1) (fun _ => e4p) (fun z az => az.imp id (fun q => by rw [show z = y by omega]; exact e4))) ?_ ⟨by rw [h53]; split <;> omega, h54⟩ (fun z hz7 => by
    have w7 : s2 147 z = s 147 z := by
      rw [x6]
      refine (if_neg (by omega)).trans ((if_neg (by omega)).trans ((if_neg (by omega)).trans ?_))
      by_cases e : z = p
      · rw [e]; exact z7
      · exact pz_o hz s ⟨by omega, by omega, by omega, fun _ => e⟩
    rw [w7] at hz7
    obtain ⟨v1, v2, v3⟩ := g7 z hz7
    refine ⟨.inl v1, v2, ?_⟩
    by_cases e : z = p
    · rw [e] at v3 ⊢
      rw [e4p]
      unfold sgu at v3 ⊢
      unfold trn
      split at v3 <;> split <;> omega
    · rw [(x3.1 z v1 e).2.2.1]
      exact v3)
  · exact ⟨s2, Q2, n2, _, _, _, x1, fin, if_pos rfl, ⟨by rw [hr 170 55 (by omega) (by have := (hBR b hb).1; omega) (by have := (hBR b hb).1; omega) (by omega) (by omega) (by omega) (by omega) (by omega)]; exact hb.1, by rw [h12]; decide⟩, e4⟩
  · have u := sm_p (f := pfx K s2 (fun q => act q ∨ (q : Int) = (y : Int)) LG) (g := pfx K s act LG) pM (fun i ne => by
      unfold pfx
      refine congrArg (· - ind (LG i)) (ind_e ⟨fun q => ?_, fun q => ?_⟩)
      · obtain ⟨q1, q2, q3⟩ := q
        by_cases ai : act i
        · exact ⟨ai, q2, by rw [← (x3.1 i ai ne).2.2.1]; exact q3⟩
        · have : i = y := by rcases q1 with w | w; exact absurd w ai; omega
          rw [this, e4] at q3
          omega
      · exact ⟨.inl q.1, q.2.1, by rw [(x3.1 i q.1 ne).2.2.1]; exact q.2.2⟩)
    rw [u, x8, Int.natCast_add, hst53, h53]
    have e1 : ind (PNd K s2 (fun q => act q ∨ (q : Int) = (y : Int)) p) = if K.1 100 p = 402 ∨ K.1 100 p = 403 then 1 else 0 := by
      by_cases c : K.1 100 p = 402 ∨ K.1 100 p = 403
      · rw [if_pos c, ind_t ⟨.inl ap, c, by rw [e4p]; omega⟩]
      · rw [if_neg c, ind_f (fun q => c q.2.1)]
    have e2 : ind (PNd K s act p) = if (K.1 100 p = 402 ∨ K.1 100 p = 403) ∧ 0 ≤ s 144 p then 1 else 0 := by
      by_cases c : (K.1 100 p = 402 ∨ K.1 100 p = 403) ∧ 0 ≤ s 144 p
      · rw [if_pos c, ind_t ⟨ap, c.1, c.2⟩]
      · rw [if_neg c, ind_f (fun q => c q.2)]
    unfold pfx
    rw [e1, e2]
    by_cases c1 : s 144 p < 0 <;> by_cases c2 : K.1 100 p = 402 ∨ K.1 100 p = 403
    · rw [if_pos c1, if_neg (fun q => q.2 c2), if_pos c2, if_neg (by omega)]
      omega
    · rw [if_pos c1, if_pos ⟨c1, c2⟩, if_neg c2, if_neg (fun q => c2 q.1)]
      omega
    · rw [if_neg c1, if_neg (by omega), if_pos c2, if_pos ⟨c2, by omega⟩]
      omega
    · rw [if_neg c1, if_neg (by omega), if_neg c2, if_neg (fun q => c2 q.1)]
      omega
/-- the leaf asks a child -/
theorem g_ask (hK : SPK K) (hR : REL K M W r s Q n act lf dr LG) (hL : LFp K r s Q act lf dr LG b p) (hr : HRx b r r2) (h12 : r2 206 b = 1) (hrs : SRr r r2) (hC : CRr K s p r r2) (h53 : r2 170 53 = r 170 53 + (if s 144 p < 0 ∧ ¬ (K.1 100 p = 402 ∨ K.1 100 p = 403) then 1 else 0)) (h54 : r2 170 53 ≤ r 170 54) {cur : Int} {pre : wrl} (hpre : pre = [] ∧ cur = s 146 p ∨ pre = [(146, p, cur)]) (hW : Wrx s p = cax ((144, p, trn s p + 1) :: pre, []) (awx s (y : Int) p)) (hcb : CHb K.1 p (y : Int)) (hcx : ∀ c, EF s c p → CHx (EF s) c p (y : Int)) (hph : PHc s p (trn s p + 1) cur) {f a k0 k1 mdp lp : Nat} {P rb : List Int} {c : Cxx} (hF : ∀ V : Int → Int → Prop, (∀ c v, PVy K s act p c v → c ≠ (y : Int) → V c v) → (¬ act y → V (y : Int) (s 145 y) → False) → FRM K (trn s p + 1) cur V p y md l mdp lp P rb) (hCX : CPX K md 0 a (y + 1) (y : Int) f l k0 k1 0 c) (hmd : md ≤ 1) (hBV : BVx r2 b f (P ++ S) (rb ++ B)) (hKO : KO K s act (s 143 p) p mdp lp S B tp) (hPL : PLk r lf b tp) : ∃ s2 Q2 n2 act2 lf2 dr2, stx (s, Q, n) p = (s2, Q2, n2) ∧ REL K M W r2 s2 Q2 n2 act2 lf2 dr2 LG ∧ lf2 b = (y : Int) ∧ LVb r2 b ∧ s2 144 y = -1 := by
  have hz : PRz p pre := by
    rcases hpre with ⟨q, _⟩ | q
    · rw [q]; exact PZ_nil
    · rw [q]; exact PZ_one (.inl ⟨.inl rfl, rfl⟩)
  have ao : ∀ k j, k ≠ 146 → apw pre s k j = s k j := fun k j q => by
    rcases hpre with ⟨w, _⟩ | w
    · rw [w]; rfl
    · rw [w]; exact if_neg (fun v => q v.1)
  refine g_ask2 hK hR hL hr h12 hC h53 h54 hz (ao _ _ (by omega)) (fun t ht => ?_) (fun t ht => SH_fr hR.2.2.2.2.2.2.1 hrs (fun k j q => (ht k j q).trans (ao k j (by omega)))) hW hcb hcx hph hF hCX hmd hBV hKO hPL
  rcases hpre with ⟨q, q2⟩ | q
  · rw [q, q2]; exact ht
  · rw [q]; exact up_self
/-- the leaf is done -/
theorem g_tell6 (hK : SPK K) (hR : REL K M W r s Q n act lf dr LG) (hL : LVb r b ∧ r 206 b ≠ 6 ∧ lf b = (p : Int) ∧ dr b = -1 ∧ act p ∧ 0 < Q p ∧ ¬ LG p ∧ K.1 100 p ≠ 312) (hr : HRx b r r2) (h12 : r2 206 b = 1) (hC : CRr K s p r r2) (h53 : r2 170 53 = r 170 53 + (if s 144 p < 0 ∨ K.1 100 p = 402 ∨ K.1 100 p = 403 then 1 else 0)) (hpn : K.1 100 p = 402 ∨ K.1 100 p = 403 → 0 ≤ s 144 p) (h54 : r2 170 53 ≤ r 170 54) {u : Int} {pre : wrl} (hpre : PRz p pre) (z7 : apw pre s 147 p = 0) (hW : Wrx s p = cax ((144, p, u) :: pre, []) (twx s p v)) (hSH : ∀ s2 : tab, (∀ k j, k = 148 ∨ k = 149 ∨ 154 ≤ k ∧ k ≤ 169 → s2 k j = apw pre s k j) → SHx K r2 s2) (hBV : BVx r2 b pc ((if md = 0 then [v] else []) ++ S) B) (hpc : PLC K pc l) (hKO : KO K s act (s 143 p) p md l S B tp) (hPL : PLk r lf b tp) : ∃ s2 Q2 n2 act2 lf2 dr2, stx (s, Q, n) p = (s2, Q2, n2) ∧ REL K M W r2 s2 Q2 n2 act2 lf2 dr2 LG ∧ LVb r2 b ∧ (DRT K r2 s2 act2 lf2 dr2 b ∨ DON K r2 s2 Q2 act2 lf2 dr2 LG b ∧ ∃ z : Nat, lf2 b = (z : Int) ∧ p < z) := by
  obtain ⟨hb, h1, hp, hd, ap, qp, ng, k2⟩ := hL
  obtain ⟨hPS, ⟨hst, hcd⟩, hBR, hinj, hcov, hdrs, hsh, hcn, hex, hst53, hLG, g1, g2, g3, g4, g5, g6, g7, g8⟩ := id hR
  have nb : ¬ PBg s p := fun q => k2 (by rw [← hst 100 p (by omega)]; exact q.1)
  obtain ⟨_, ip, pl, pM, hnn⟩ := PS_rd hPS qp
  have np := (hnn nb).2
  obtain ⟨s2, Q2, n2, x1, x2, x3, x4, x5, x6, x7⟩ := mv_tell (n := n) hPS qp (fun q => absurd q nb) hpre hW
  have e5 : s2 145 p = v := by rw [x4 145 p (by omega)]; exact up_self
  have row : ∀ k j, k = 148 ∨ k = 149 ∨ 154 ≤ k ∧ k ≤ 169 → s2 k j = apw pre s k j := fun k j q => by
    rw [x4 k j (by omega)]
    exact (if_neg (by omega)).trans (if_neg (by omega))
  have lin : ∀ k j, k = 152 ∨ k = 153 → s2 k j = s k j := fun k j q => by
    rw [x4 k j (by omega)]
    exact (if_neg (by omega)).trans ((if_neg (by omega)).trans (pz_o hpre s (by omega)))
  have hS : (n2 : Int) = r2 170 53 + smx (pfx K s2 (fun q => act q ∧ q ≠ p) LG) M := by
    have u := sm_p (f := pfx K s2 (fun q => act q ∧ q ≠ p) LG) (g := pfx K s act LG) pM (fun i ne => by
      unfold pfx
      refine congrArg (· - ind (LG i)) (ind_e ⟨fun q => ?_, fun q => ?_⟩)
      · exact ⟨q.1.1, q.2.1, by rw [← (x3.1 i q.1.1 ne).2.2.1]; exact q.2.2⟩
      · exact ⟨⟨q.1, ne⟩, q.2.1, by rw [(x3.1 i q.1 ne).2.2.1]; exact q.2.2⟩)
    rw [u, x7, Int.natCast_add, hst53, h53]
    have e1 : ind (PNd K s2 (fun q => act q ∧ q ≠ p) p) = 0 := ind_f (fun q => q.1.2 rfl)
    have e2 : ind (PNd K s act p) = if K.1 100 p = 402 ∨ K.1 100 p = 403 then 1 else 0 := by
      by_cases c : K.1 100 p = 402 ∨ K.1 100 p = 403
      · rw [if_pos c, ind_t ⟨ap, c, hpn c⟩]
      · rw [if_neg c, ind_f (fun q => c q.2.1)]
    unfold pfx
    rw [e1, e2]
    by_cases c2 : K.1 100 p = 402 ∨ K.1 100 p = 403
    · have := hpn c2
      rw [if_neg (by omega), if_pos (.inr c2), if_pos c2]
      omega
    · by_cases c1 : s 144 p < 0
      · rw [if_pos c1, if_pos (.inl c1), if_neg c2]
        omega
      · rw [if_neg c1, if_neg (fun q => q.elim c1 c2), if_neg c2]
        omega
  obtain ⟨lf2, dr2, y1, y2, _, y4⟩ := t_tell (n2 := n2) (LG2 := LG) (v := v) hR hb h1 hp hd np ap nb (fun x => ⟨fun q => ⟨q, fun e => ng (e ▸ q)⟩, fun q => q.1⟩) x2 x3 (fun _ => e5) x5 x6 lin hr h12 hBV hpc hKO hPL (hSH s2 row) (CN_of hK hPS hcn hC ap (fun z az q => (x3.1 z az q).2.2.1) (fun q => absurd rfl q.2) (fun z az => .inl az.1)) hS ⟨by rw [h53]; split <;> omega, h54⟩ (fun z hz7 => by
    have w7 : s2 147 z = apw pre s 147 z := (x4 147 z (by omega)).trans ((if_neg (by omega)).trans (if_neg (by omega)))
    rw [w7] at hz7
    by_cases e : z = p
    · rw [e] at hz7; exact absurd z7 hz7
    · rw [pz_o hpre s ⟨by omega, by omega, by omega, fun _ => e⟩] at hz7
      obtain ⟨v1, v2, v3⟩ := g7 z hz7
      exact ⟨⟨v1, e⟩, v2, by rw [(x3.1 z v1 e).2.2.1]; exact v3⟩)
  exact ⟨s2, Q2, n2, _, lf2, dr2, x1, y1, y2, y4⟩
/-- the same, where the branch goes on -/
theorem g_tell (hK : SPK K) (hR : REL K M W r s Q n act lf dr LG) (hL : LFp K r s Q act lf dr LG b p) (hr : HRx b r r2) (h12 : r2 206 b = 1) (hC : CRr K s p r r2) (h53 : r2 170 53 = r 170 53 + (if s 144 p < 0 ∨ K.1 100 p = 402 ∨ K.1 100 p = 403 then 1 else 0)) (hpn : K.1 100 p = 402 ∨ K.1 100 p = 403 → 0 ≤ s 144 p) (h54 : r2 170 53 ≤ r 170 54) {u : Int} {pre : wrl} (hpre : PRz p pre) (z7 : apw pre s 147 p = 0) (hW : Wrx s p = cax ((144, p, u) :: pre, []) (twx s p v)) (hSH : ∀ s2 : tab, (∀ k j, k = 148 ∨ k = 149 ∨ 154 ≤ k ∧ k ≤ 169 → s2 k j = apw pre s k j) → SHx K r2 s2) (hBV : BVx r2 b pc ((if md = 0 then [v] else []) ++ S) B) (hpc : PLC K pc l) (hKO : KO K s act (s 143 p) p md l S B tp) (hPL : PLk r lf b tp) : ∃ s2 Q2 n2 act2 lf2 dr2, stx (s, Q, n) p = (s2, Q2, n2) ∧ REL K M W r2 s2 Q2 n2 act2 lf2 dr2 LG ∧ LVb r2 b ∧ (DRT K r2 s2 act2 lf2 dr2 b ∨ DON K r2 s2 Q2 act2 lf2 dr2 LG b ∧ ∃ z : Nat, lf2 b = (z : Int) ∧ p < z) := g_tell6 hK hR ⟨hL.1, by rw [hL.2.1]; decide, hL.2.2⟩ hr h12 hC h53 hpn h54 hpre z7 hW hSH hBV hpc hKO hPL
end GOX
