/-! A call: its E into its parameters, its body. -/
section CALLX
variable {K : SCt} {W : Prop} {r r1 r2 s s2 t : tab} {Q Q2 : Nat → Nat} {act act2 : Nat → Prop} {lf dr : Nat → Int} {LG : Nat → Prop} {b x y M n md f l k a m k0 k1 : Nat} {S B P : List Int} {tp : Int} {c : Cxx}
theorem as_v {g x v : Int} (h0 : 0 ≤ g) (h1 : g < 24) : asx s g x v = [(148, g.toNat, asv (s 110 g.toNat) v)] := by
  unfold asx asv
  rw [if_pos ⟨h0, h1⟩]
/-- the parameters in the parts machine -/
theorem pw_v {f : Int} : ∀ (n : Nat) (i x : Int) (t : tab), 0 ≤ f + i → f + i + (n : Int) ≤ 24 → (∀ j : Nat, j < n → apw (pwx s f n i x) t 148 (f + i + (j : Int)).toNat = asv (s 110 (f + i + (j : Int)).toNat) (vax s (nth s j x))) ∧ ∀ k j : Nat, ¬ (k = 148 ∧ f + i ≤ (j : Int) ∧ (j : Int) < f + i + (n : Int)) → apw (pwx s f n i x) t k j = t k j
  | 0, i, x, t, _, _ => ⟨fun j hj => absurd hj (by omega), fun k j _ => rfl⟩
  | n + 1, i, x, t, h0, h1 => by
    have e : apw (pwx s f (n + 1) i x) t = apw (pwx s f n (i + 1) (flx s x)) (up2 t 148 (f + i).toNat (asv (s 110 (f + i).toNat) (vax s x))) := by
      show apw (asx s (f + i) 0 (vax s x) ++ pwx s f n (i + 1) (flx s x)) t = _
      rw [apw_app, as_v h0 (by omega)]
      rfl
    obtain ⟨w1, w2⟩ := pw_v (f := f) n (i + 1) (flx s x) (up2 t 148 (f + i).toNat (asv (s 110 (f + i).toNat) (vax s x))) (by omega) (by omega)
    rw [e]
    refine ⟨fun j hj => ?_, fun k j hk => ?_⟩
    · cases j with
      | zero =>
        rw [w2 _ _ (by omega)]
        have e0 : (f + i + ((0 : Nat) : Int)).toNat = (f + i).toNat := by omega
        rw [e0]
        exact up_self
      | succ j =>
        have := w1 j (by omega)
        rw [show f + i + ((j + 1 : Nat) : Int) = f + (i + 1) + (j : Int) by omega]
        exact this
    · rw [w2 k j (by omega)]
      exact if_neg (by omega)
/-- the parameters in the reference -/
theorem st_run {fp n m : Nat} {x0 : Int} {V : Int → Int → Prop} {val : Nat → Int} (hb : b < 700) (hS : S.length ≤ 8000) (hm : m + 2 * n < 25000) (hn : n ≤ 4) (hV : ∀ i v, i < n → V (nth K.1 i x0) v → v = val i) (hc : ∀ i, i < n → cd K (m + 2 * i) = 5 ∧ cd K (m + 2 * i + 1) = ((fp + (n - 1 - i) : Nat) : Int)) : ∀ (k : Nat) (r : tab) (P : List Int), k ≤ n → PAL K V x0 k P → BVx r b (m + 2 * (n - k)) (P ++ S) B → (∀ i, r 178 i = cd K i) → r 206 b = 1 → r 170 52 = 2 → ∃ r2, MS b k r r2 ∧ BVx r2 b (m + 2 * n) S B ∧ (∀ i, i < k → r2 203 (fp + i) = asv (r 179 (fp + i)) (val i)) ∧ ∀ q j, ¬ ((q = 205 ∨ q = 208 ∨ q = 209) ∧ j = b) → q ≠ 220 + b → q ≠ 921 + b → ¬ (q = 203 ∧ fp ≤ j ∧ j < fp + k) → r2 q j = r q j
  | 0, r, P, _, hP, h, _, _, _ => by
    have hP : P = [] := hP
    rw [hP] at h
    exact ⟨r, rfl, h, fun i hi => absurd hi (by omega), fun _ _ _ _ _ _ => rfl⟩
  | k + 1, r, P, hk, ⟨v, P2, hP, hv, hP2⟩, h, h8, h1, h2 => by
    have hv := hV k v (by omega) hv
    obtain ⟨c1, c2⟩ := hc (n - (k + 1)) (by omega)
    rw [show n - 1 - (n - (k + 1)) = k by omega] at c2
    rw [hP] at h
    have ll := PAL_l k P2 hP2
    obtain ⟨r1, a1, a2, a3⟩ := o_store (S := P2 ++ S) hb h (by omega) ((h8 _).trans c1) (by rw [List.length_append, ll]; omega) (a := fp + k) ((h8 _).trans c2)
    have o1 : ∀ q j, ¬ ((q = 205 ∨ q = 208 ∨ q = 209) ∧ j = b) → q ≠ 220 + b → q ≠ 921 + b → ¬ (q = 203 ∧ j = fp + k) → r1 q j = r q j := fun q j q1 q2 q3 q4 => (a3 q j q1 q2 q3).trans (if_neg q4)
    obtain ⟨r2, b1, b2, b3, b4⟩ := st_run hb hS hm hn hV hc k r1 P2 (by omega) hP2 (by rw [show n - k = n - (k + 1) + 1 by omega]; exact a2) (fun i => (o1 _ _ (by omega) (by omega) (by omega) (by omega)).trans (h8 i)) ((o1 _ _ (by omega) (by omega) (by omega) (by omega)).trans h1) ((o1 _ _ (by omega) (by omega) (by omega) (by omega)).trans h2)
    refine ⟨r2, ⟨h1, h2, r1, a1, b1⟩, b2, fun i hi => ?_, fun q j q1 q2 q3 q4 => (b4 q j q1 q2 q3 (by omega)).trans (o1 q j q1 q2 q3 (by omega))⟩
    by_cases e : i = k
    · rw [e, b4 203 (fp + k) (by omega) (by omega) (by omega) (by omega), a3 203 (fp + k) (by omega) (by omega) (by omega), ← hv]
      exact up_self
    · rw [b3 i (by omega), o1 179 (fp + i) (by omega) (by omega) (by omega) (by omega)]
/-- what a routine's body is -/
theorem BDY (hK : SPK K) {q : Nat} (hq : q < K.2.2.2.1) : ∃ (y md a l k0 k1 mm : Nat) (c : Cxx), K.1 114 q = (y : Int) ∧ K.2.2.1.1 q = (mm : Int) ∧ CPX K md 0 a (y + 1) (y : Int) mm l k0 k1 0 c ∧ ((md = 1 ∧ K.2.2.1.2.2 q ∧ ∃ n1 b1 b le kk k1 c, CPX K 5 n1 b1 b (K.1 104 y) l le kk k1 0 c ∧ cd K le = 12) ∨ ((md = 0 ∧ K.2.2.1.2.2 q ∨ md = 1 ∧ ¬ K.2.2.1.2.2 q) ∧ K.1 104 y = -1 ∧ cd K l = 12)) ∧ md ≤ 1 := by
  obtain ⟨u1, u2, u3, n, a, bb, l, k0, k1, u4, u5⟩ := hK.1 q hq
  obtain ⟨mm, hm⟩ : ∃ mm : Nat, K.2.1 200 q = (mm : Int) := ⟨(K.2.1 200 q).toNat, by omega⟩
  have cv : ∀ {md n a b f l k0 k1 : Nat} {x : Int}, CXx K.1 K.2.1 K.2.2.1 K.2.2.2.1 K.2.2.2.2.1 K.2.2.2.2.2 md n a b x f l k0 k1 0 → ∃ c, CPX K md n a b x f l k0 k1 0 c := fun ⟨c, w1, w2, w3, w4, w5⟩ => ⟨c, w1, ⟨w2, w5⟩, w3, w4⟩
  rcases u4 with ⟨g, h⟩ | ⟨g, h, h3⟩
  · obtain ⟨c, h⟩ := cv h
    rw [hm, Int.toNat_natCast] at h
    obtain ⟨v, _⟩ := CPX_un h
    rcases v with ⟨v, _⟩ | ⟨v, _⟩ | ⟨v, _⟩ | ⟨v, _⟩ | ⟨_, n1, b1, m1, kk, v1, v2, v3⟩ | ⟨v, _⟩ | ⟨_, v1, v2, v3, v4⟩
    · omega
    · omega
    · omega
    · omega
    · obtain ⟨y, y1, y2, y3, y4⟩ := CPX_y v2 (by omega)
      rw [y1, Int.toNat_natCast] at v3
      exact ⟨y, 1, a, m1, k0, kk, mm, c, y1, u1.symm.trans hm, y3, .inl ⟨rfl, g, n1, b1, bb, l, kk, k1, c, v3, u5⟩, by omega⟩
    · omega
    · obtain ⟨y, y1, y2, y3, y4⟩ := CPX_y v2 (by omega)
      rw [y1, Int.toNat_natCast] at v3
      exact ⟨y, 0, a, l, 0, 0, mm, c, y1, u1.symm.trans hm, y3, .inr ⟨.inl ⟨rfl, g⟩, v3, u5⟩, by omega⟩
  · obtain ⟨c, h⟩ := cv h
    rw [hm, Int.toNat_natCast] at h
    obtain ⟨y, y1, y2, y3, y4⟩ := CPX_y h (by omega)
    rw [y1, Int.toNat_natCast] at h3
    exact ⟨y, 1, a, l, k0, k1, mm, c, y1, u1.symm.trans hm, y3, .inr ⟨.inr ⟨rfl, g⟩, h3, u5⟩, by omega⟩
/-- all its E are done: parameters, then the body begins -/
theorem g_call (hK : SPK K) (hR : REL K M W r s Q n act lf dr LG) (hL : LFp K r s Q act lf dr LG b x) (hk : K.1 100 x = 404) (hr : HRx b r r1) (h12 : r1 206 b = 1) (h52 : r1 170 52 = 2) (hrs : SRr r r1) (h204 : ∀ j, r1 204 j = r 204 j) (h53 : r1 170 53 = r 170 53 + (if s 144 x < 0 then 1 else 0)) (h54 : r1 170 53 ≤ r 170 54) (h178 : ∀ i, r1 178 i = cd K i) {q j : Nat} (q1 : K.1 101 x = (q : Int)) (q2 : q < 12) (q3 : q < K.2.2.2.1) (j1 : K.1 103 x = (j : Int)) (j2 : j ≤ 4) (hmd : md = 0 ∧ K.2.2.1.2.2 q ∨ md = 1 ∧ ¬ K.2.2.1.2.2 q) (hp : 0 ≤ K.1 113 q ∧ K.1 113 q + (j : Int) ≤ 24 ∧ ∀ i, i < j → bnd K.1 ((K.1 113 q).toNat + i)) (hu : trn s x = (j : Int)) (hST : STx K q j m l) (hl : l < 25000) (hPA : PAL K (PVy K s act x) (K.1 102 x) j P) (hBV : BVx r1 b m (P ++ S) B) (hKO : KO K s act (s 143 x) x md l S B tp) (hPL : PLk r lf b tp) : ∃ k r2 s2 Q2 n2 act2 lf2 dr2, MS b (k + 1) r1 r2 ∧ stx (s, Q, n) x = (s2, Q2, n2) ∧ REL K M W r2 s2 Q2 n2 act2 lf2 dr2 LG ∧ r2 170 54 = r1 170 54 ∧ r2 170 55 = r1 170 55 := by
  obtain ⟨hb, h1, hp1, hd, ap, qp, ng, _⟩ := id hL
  obtain ⟨hPS, ⟨hst, hcd⟩, hBR, hinj, hcov, hdrs, hsh, hcn, hex, hst53, hLG, g1, g2, g3, g4, g5, g6, g7, g8⟩ := id hR
  have b7 := (hBR b hb).1
  obtain ⟨L1, L2, xl⟩ := REL_len hK hR ap hKO
  obtain ⟨st1, st2, st3, st4⟩ := hST
  obtain ⟨fp, hfp⟩ : ∃ fp : Nat, K.1 113 q = (fp : Int) := ⟨(K.1 113 q).toNat, by omega⟩
  obtain ⟨⟨cx, anc, hJ⟩, _, _, _, hM, _⟩ := id hPS
  have efx := (hJ.2.2.1 x ap).1
  have xM := (EF_k efx).2.1
  have e99 := hst 99 12 (by omega)
  have hC4 : CHl K.1 x = fun c => ∃ i : Nat, (i : Int) < K.1 103 x ∧ c = nth K.1 i (K.1 102 x) := funext fun c => propext (CH_404 hk)
  have hch : ∀ i : Nat, i < j → 0 ≤ nth K.1 i (K.1 102 x) → nth K.1 i (K.1 102 x) < s 99 12 := fun i hi h0 => by
    have := (EF_cx efx (y := x) (x := nth K.1 i (K.1 102 x)) (.inl ((CH_ext hst).mpr ((CH_404 hk).mpr ⟨i, by omega, rfl⟩))) h0 (by rw [hst 100 x (by omega)]; omega)).2.1
    omega
  obtain ⟨r2, a1, a2, a3, a4⟩ := st_run (x0 := K.1 102 x) (fp := fp) (n := j) (m := m) (val := fun i => vax s (nth K.1 i (K.1 102 x))) b7 L1 (by omega) j2 (fun i v hi hv => by
    obtain ⟨w1, w2, w3, w4⟩ := hv
    show v = vax s (nth K.1 i (K.1 102 x))
    unfold vax
    rw [if_pos ⟨w2, hch i hi w2⟩]
    exact w4.symm) (fun i hi => ⟨(st1 i hi).1, by rw [(st1 i hi).2, hfp]; omega⟩) j r1 P (by omega) hPA (by rw [Nat.sub_self]; exact hBV) h178 h12 h52
  obtain ⟨y, md2, a, l2, k0, k1, mm, c, y1, y2, y3, y4, y5⟩ := BDY hK q3
  have o2 : ∀ k j, ¬ ((k = 205 ∨ k = 208 ∨ k = 209) ∧ j = b) → k ≠ 220 + b → k ≠ 921 + b → k ≠ 203 → r2 k j = r1 k j := fun k j w1 w2 w3 w4 => a4 k j w1 w2 w3 (by omega)
  obtain ⟨r3, b1, b2, b3⟩ := o_call b7 a2 (by omega) (by rw [o2 _ _ (by omega) (by omega) (by omega) (by omega), h178]; exact st2) (by omega) (m := mm) (by rw [o2 _ _ (by omega) (by omega) (by omega) (by omega), h178, st3]; exact y2)
  have o3 : ∀ k j, ¬ ((k = 205 ∨ k = 208 ∨ k = 209) ∧ j = b) → k ≠ 220 + b → k ≠ 921 + b → k ≠ 203 → r3 k j = r1 k j := fun k j w1 w2 w3 w4 => (b3 k j w1 w2 w3).trans (o2 k j w1 w2 w3 w4)
  have ks : s 100 x = 404 := (hst 100 x (by omega)).trans hk
  have s1 : s 101 x = (q : Int) := (hst 101 x (by omega)).trans q1
  have s3 : s 103 x = (j : Int) := (hst 103 x (by omega)).trans j1
  have hWx := w_404b ks (by rw [hu, s3])
  have ef : fpx s (s 101 x) = (fp : Int) := by
    unfold fpx
    rw [s1, if_pos ⟨by omega, by omega⟩, Int.toNat_natCast, hst 113 q (by omega), hfp]
  have eb : bdx s (s 101 x) = (y : Int) := by
    unfold bdx
    rw [s1, if_pos ⟨by omega, by omega⟩, Int.toNat_natCast, hst 114 q (by omega), y1]
  rw [ef, eb, s3, Int.toNat_natCast] at hWx
  have hcb : CHb K.1 x (y : Int) := .inr ⟨hk, 0, by rw [q1, Int.toNat_natCast, y1]; rfl⟩
  have hcx : ∀ c, EF s c x → CHx (EF s) c x (y : Int) := fun c w => EF_cx w ((CHb_ext hst).mpr hcb) (by omega) (by omega)
  have yx := (hcx _ efx).2.1
  obtain ⟨pv1, pv2⟩ := pw_v (s := s) (f := (fp : Int)) j 0 (s 102 x) s (by omega) (by omega)
  have hSH : ∀ t : tab, (∀ k i, k = 148 ∨ k = 149 ∨ 154 ≤ k ∧ k ≤ 169 → t k i = apw (pwx s (fp : Int) j 0 (s 102 x) ++ [(146, x, (y : Int))]) s k i) → SHx K r3 t := fun t ht => by
    obtain ⟨i1, i2, i3, i4, i5⟩ := hsh
    have row : ∀ k i, k = 148 ∨ k = 149 ∨ 154 ≤ k ∧ k ≤ 169 → t k i = apw (pwx s (fp : Int) j 0 (s 102 x)) s k i := fun k i w => by
      rw [ht k i w, apw_app]
      exact if_neg (by omega)
    have hS1 : SHx K r1 s := SH_fr ⟨i1, i2, i3, i4, i5⟩ hrs (fun _ _ _ => rfl)
    obtain ⟨i1, i2, i3, i4, i5⟩ := hS1
    have q5 : ∀ {a i f q g : Nat}, (1622 ≤ a ∧ a ≤ 1630) → (1622 ≤ f ∧ f ≤ 1630) → (154 ≤ q ∧ q ≤ 169) → (154 ≤ g ∧ g ≤ 169) → QQx (r1 a i) (r1 f) (s q) (s g) → QQx (r3 a i) (r3 f) (t q) (t g) := fun {a i f q g} e1 e2 e3 e4 w => by
      have ef : r3 f = r1 f := funext fun j => o3 f j (by omega) (by omega) (by omega) (by omega)
      have eq : t q = s q := funext fun j => (row q j (by omega)).trans (pv2 q j (by omega))
      have eg : t g = s g := funext fun j => (row g j (by omega)).trans (pv2 g j (by omega))
      rw [o3 a i (by omega) (by omega) (by omega) (by omega), ef, eq, eg]
      exact w
    refine ⟨fun v hv => ?_, fun a i w1 w2 => ?_, fun v w1 w2 => by rw [o3 179 v (by omega) (by omega) (by omega) (by omega)]; exact i3 v w1 w2, fun a w1 w2 => by rw [o3 180 a (by omega) (by omega) (by omega) (by omega)]; exact i4 a w1 w2, fun i hi => ⟨q5 (by omega) (by omega) (by omega) (by omega) (i5 i hi).1, q5 (by omega) (by omega) (by omega) (by omega) (i5 i hi).2⟩⟩
    · rw [row 148 v (by omega), b3 203 v (by omega) (by omega) (by omega)]
      by_cases e : fp ≤ v ∧ v < fp + j
      · obtain ⟨i, hi⟩ : ∃ i, v = fp + i := ⟨v - fp, by omega⟩
        have z1 := pv1 i (by omega)
        rw [show ((fp : Int) + 0 + (i : Int)).toNat = fp + i by omega] at z1
        rw [hi, a3 i (by omega), z1]
        have bv := hp.2.2 i (by omega)
        rw [show (K.1 113 q).toNat = fp by omega] at bv
        rw [i3 (fp + i) (by omega) bv, hst 110 (fp + i) (by omega), nth_ext hst, hst 102 x (by omega)]
      · rw [a4 203 v (by omega) (by omega) (by omega) (by omega), pv2 148 v (by omega)]
        exact i1 v hv
    · rw [row 149 _ (by omega), pv2 149 _ (by omega), o3 _ i (by omega) (by omega) (by omega) (by omega)]
      exact i2 a i w1 w2
  have hFC : (md2 = 1 ∧ K.2.2.1.2.2 q ∧ ∃ n1 b1 b le kk k1 c, CPX K 5 n1 b1 b (K.1 104 y) l2 le kk k1 0 c ∧ cd K le = 12) ∨ (md2 = md ∧ K.1 104 y = -1 ∧ cd K l2 = 12) := by
    rcases y4 with ⟨w1, w2, w3⟩ | ⟨w1, w2, w3⟩
    · exact .inl ⟨w1, w2, w3⟩
    · refine .inr ⟨?_, w2, w3⟩
      rcases w1 with ⟨w1, w4⟩ | ⟨w1, w4⟩ <;> rcases hmd with ⟨v1, v2⟩ | ⟨v1, v2⟩
      · omega
      · exact absurd w4 v2
      · exact absurd v2 w4
      · omega
  obtain ⟨s2, Q2, n2, act2, lf2, dr2, x1, x2, _⟩ := g_ask2 (n := n) (r2 := r3) (cur := (y : Int)) (P := []) (rb := [(l : Int)]) (mdp := md) (lp := l) hK hR hL (fun k j w1 w2 w3 w4 w5 w6 w7 w8 => (o3 k j (by omega) w2 w3 w5).trans (hr k j w1 w2 w3 w4 w5 w6 w7 w8)) ((o3 206 b (by omega) (by omega) (by omega) (by omega)).trans h12) (CR_no (by omega) (fun j => (o3 204 j (by omega) (by omega) (by omega) (by omega)).trans (h204 j))) (by
      rw [o3 170 53 (by omega) (by omega) (by omega) (by omega), h53]
      by_cases e : s 144 x < 0
      · rw [if_pos e, if_pos ⟨e, by omega⟩]
      · rw [if_neg e, if_neg (fun w => e w.1)]) (by rw [o3 170 53 (by omega) (by omega) (by omega) (by omega)]; exact h54) (PZ_app (PZ_pw j 0 (s 102 x)) (PZ_one (.inl ⟨.inl rfl, rfl⟩))) (by rw [apw_app]; show up2 (apw (pwx s (fp : Int) j 0 (s 102 x)) s) 146 x (y : Int) 147 x = _; exact (if_neg (by omega)).trans (pv2 147 x (by omega))) (fun t ht => by rw [apw_app]; exact up_self) hSH hWx hcb hcx ⟨fun w => absurd w (by omega), fun _ w => absurd w (by rw [hu, s3]; omega), fun _ _ => ⟨0, by rw [s1, Int.toNat_natCast, hst 114 q (by omega), y1]; rfl⟩⟩ (fun V _ _ => ⟨⟨by omega, by omega, y3.2.2.2, hl, y5, hcb⟩, .inr (.inl ⟨hk, q, j, q1, q2, q3, j1, j2, hmd, hp, .inr ⟨rfl, rfl, by omega, rfl, hFC⟩⟩)⟩) y3 y5 (by rw [show l = m + 2 * j + 2 from st4]; exact b2) hKO hPL
  exact ⟨j, r3, s2, Q2, n2, act2, lf2, dr2, MS_tr j r1 a1 (MS_1 ((o2 206 b (by omega) (by omega) (by omega) (by omega)).trans h12) ((o2 170 52 (by omega) (by omega) (by omega) (by omega)).trans h52) b1), x1, x2, o3 170 54 (by omega) (by omega) (by omega) (by omega), o3 170 55 (by omega) (by omega) (by omega) (by omega)⟩
/-- a call without E -/
theorem b_404z (hK : SPK K) (h : BG K M r s Q n act lf dr LG b x md f l S B tp) (hl : l < 25000) (hk : K.1 100 x = 404) {q : Nat} (q1 : K.1 101 x = (q : Int)) (q2 : q < 12) (q3 : q < K.2.2.2.1) (j1 : K.1 103 x = 0) (c0 : cd K f = 0) (hST : STx K q 0 (f + 1) l) (hp : 0 ≤ K.1 113 q ∧ K.1 113 q ≤ 24) (hmd : md = 0 ∧ K.2.2.1.2.2 q ∨ md = 1 ∧ ¬ K.2.2.1.2.2 q) : NXT K M b r s Q n := by
  have ll := hST.2.2.2
  rcases b_part h (by omega) c0 with w | ⟨lt, r1, m1, v1, f1, d1, d2, d3, d4, b7⟩
  · exact w
  obtain ⟨e1, e2, e3, e4, e5, e6, e7, e8⟩ := FP_o f1 b7
  obtain ⟨hR, hb, h1, hl1, hd, ax, qx, h4, ng, hBV, hKO, hPL⟩ := h
  have t0 : trn s x = 0 := if_pos (by omega)
  obtain ⟨k, r2, s2, Q2, n2, act2, lf2, dr2, y1, y2, y3, y4⟩ := g_call (j := 0) (P := []) (n := n) hK hR ⟨hb, h1, hl1, hd, ax, by omega, ng, by omega⟩ hk e1 d1 d2 e2 e3 (by rw [e4, if_pos (by omega)]) (by omega) d3 q1 q2 q3 j1 (by omega) hmd ⟨hp.1, by omega, fun i hi => absurd hi (by omega)⟩ t0 hST hl rfl v1 hKO hPL
  exact NX_go (k := 1 + k) (MS_tr 1 r m1 y1) (show rdx (s, Q, n) x from (show 0 < Q x by omega)) y2 y3 (y4.1.trans d4) (by rw [y4.2]; exact HR_55 e1)
end CALLX
