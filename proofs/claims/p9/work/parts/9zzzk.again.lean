/-! Those that waited for a queue go on at the next run. -/
section AGAIN
variable {K : SCt} {W : Prop} {r r1 r2 s s2 : tab} {Q Q2 : Nat → Nat} {act act2 : Nat → Prop} {lf dr : Nat → Int} {LG LG2 : Nat → Prop} {b x p M n n2 m l f : Nat} {S B P : List Int} {tp v : Int}
theorem ag_s (hK : SPK K) (hR : REL K M False r s Q n act lf dr LG) (hb : LVb r b) (h4b : r 206 b = 4) (hq : r 1630 (4 + (r 207 b).toNat) < 40) : NXT K M b (up2 r 206 b 1) s Q n := by
  obtain ⟨hPS, ⟨hst, hcd⟩, hBR, hinj, hcov, hdrs, hsh, hcn, hex, hst53, hLG, g1, g2, g3, g4, g5, g6, g7, g8⟩ := id hR
  have b7 := (hBR b hb).1
  obtain ⟨x, l0, S, B, v, tp, hp, hd, ap, hk, hb0, h4, ng, hv, h9a, hl0, h11, hKO, hPL⟩ := SN_of (hBR b hb) (.inr h4b)
  obtain ⟨c8, e207, l, el, c1, c2, hBVr⟩ : 8 ≤ K.1 101 x ∧ r 207 b = K.1 101 x - 8 ∧ ∃ m, l0 = m + 2 ∧ cd K m = 15 ∧ cd K (m + 1) = K.1 101 x - 8 ∧ BVx r b m (v :: S) B := by
    rcases h9a with ⟨_, w, _⟩ | ⟨w1, _, w⟩
    · omega
    · exact ⟨w1, w⟩
  subst el
  have q1 : Q x = 1 := h11.elim id (fun q => q.1.elim False.elim (fun w => by omega))
  have k2 : K.1 100 x ≠ 312 := by omega
  have hL : LVb r b ∧ r 206 b ≠ 6 ∧ lf b = (x : Int) ∧ dr b = -1 ∧ act x ∧ 0 < Q x ∧ ¬ LG x ∧ K.1 100 x ≠ 312 := ⟨hb, by omega, hp, hd, ap, by omega, ng, k2⟩
  have qp : 0 < Q x := by omega
  obtain ⟨L1, L2, xl⟩ := REL_len hK hR ap hKO
  obtain ⟨i, hi⟩ : ∃ i : Nat, K.1 101 x - 8 = (i : Int) := ⟨(K.1 101 x - 8).toNat, by omega⟩
  have i4 : i < 4 := by omega
  rw [e207, hi, Int.toNat_natCast] at hq
  have qq := (hsh.2.2.2.2 i i4).2
  obtain ⟨u1, u2, u3, u4, u5, u6⟩ := id qq
  have oo : ∀ k j, ¬ (k = 206 ∧ j = b) → up2 r 206 b 1 k j = r k j := fun k j w => if_neg w
  have hBV : BVx (up2 r 206 b 1) b l (v :: S) B := BV_fr hBVr (fun k j w => oo k j (by omega))
  have o178 : ∀ i, up2 r 206 b 1 178 i = cd K i := fun i => (oo 178 i (by omega)).trans (hcd i)
  have h1 : up2 r 206 b 1 206 b = 1 := up_self
  have h52 : up2 r 206 b 1 170 52 = 2 := (oo 170 52 (by omega)).trans g6
  obtain ⟨h9, hh9⟩ : ∃ h9 : Nat, r 1630 (4 + i) = (h9 : Int) := ⟨(r 1630 (4 + i)).toNat, by omega⟩
  obtain ⟨ra, a1, a2, a3⟩ := o_put1 b7 hBV (by omega) ((o178 l).trans c1) (by omega) (a := i) ((o178 _).trans (c2.trans hi)) i4 ((oo _ _ (by omega)).trans hh9) (by omega)
  have ks : s 100 x = 406 := (hst 100 x (by omega)).trans hk
  have s1 := hst 101 x (by omega)
  have ex : trn s x = s 144 x := if_neg (by omega)
  have eq : qou (s 101 x) = 162 + 2 * i := by unfold qou; omega
  have hWx := w_406b ks (by omega)
  have ev : vax s (s 102 x) = v := by rw [hst 102 x (by omega)]; exact PV_v hst hPS ap k2 hv
  have w2 : swx s x (s 101 x) (vax s (s 102 x)) = cax ([(163 + 2 * i, ((s (162 + 2 * i) 1 + s (162 + 2 * i) 2) % 40).toNat, i2s v), (162 + 2 * i, 2, s (162 + 2 * i) 2 + 1)], []) (twx s x 0) := by
    unfold swx
    rw [if_neg (by omega), if_pos (by omega), eq, if_pos (by omega), ev, show 162 + 2 * i + 1 = 163 + 2 * i by omega]
  rw [w2, shc (b := [])] at hWx
  have o : ∀ k j, ¬ ((k = 205 ∨ k = 206 ∨ k = 208 ∨ k = 209) ∧ j = b) → k ≠ 220 + b → k ≠ 921 + b → ¬ (k = 1630 ∧ j = 4 + i) → ¬ (k = 1626 + i ∧ j = h9) → ra k j = r k j := fun k j w1 w2 w3 w4 w5 => (a3 k j (by omega) w2 w3).trans ((if_neg w4).trans ((if_neg w5).trans (oo k j (by omega))))
  have hSH : ∀ t : tab, (∀ k j, k = 148 ∨ k = 149 ∨ 154 ≤ k ∧ k ≤ 169 → t k j = apw [(163 + 2 * i, ((s (162 + 2 * i) 1 + s (162 + 2 * i) 2) % 40).toNat, i2s v), (162 + 2 * i, 2, s (162 + 2 * i) 2 + 1)] s k j) → SHx K ra t := fun t ht => by
    have so : ∀ k j, k = 148 ∨ k = 149 ∨ 154 ≤ k ∧ k ≤ 169 → ¬ (k = 163 + 2 * i) → ¬ (k = 162 + 2 * i ∧ j = 2) → t k j = s k j := fun k j w1 w2 w3 => (ht k j w1).trans ((if_neg (by dsimp only; omega)).trans (if_neg (by dsimp only; omega)))
    obtain ⟨z1, z2, z3, z4, z5⟩ := hsh
    have q5 : ∀ {a j f q g : Nat}, (1622 ≤ a ∧ a ≤ 1630) → (1622 ≤ f ∧ f ≤ 1629) → (154 ≤ q ∧ q ≤ 169) → (154 ≤ g ∧ g ≤ 169) → ¬ (a = 1630 ∧ j = 4 + i) → a ≠ 1626 + i → f ≠ 1626 + i → q ≠ 162 + 2 * i → q ≠ 163 + 2 * i → g ≠ 162 + 2 * i → g ≠ 163 + 2 * i → QQx (r a j) (r f) (s q) (s g) → QQx (ra a j) (ra f) (t q) (t g) := fun {a j f q g} w1 w2 w3 w4 w5 w6 w7 w8 w9 w10 w11 w => by
      have ef : ra f = r f := funext fun z => o f z (by omega) (by omega) (by omega) (by omega) (by omega)
      have eq : t q = s q := funext fun z => so q z (by omega) (by omega) (by omega)
      have eg : t g = s g := funext fun z => so g z (by omega) (by omega) (by omega)
      rw [o a j (by omega) (by omega) (by omega) w5 (by omega), ef, eq, eg]
      exact w
    refine ⟨fun v hv => ?_, fun a j v1 v2 => ?_, fun v v1 v2 => by rw [o _ _ (by omega) (by omega) (by omega) (by omega) (by omega)]; exact z3 v v1 v2, fun a v1 v2 => by rw [o _ _ (by omega) (by omega) (by omega) (by omega) (by omega)]; exact z4 a v1 v2, fun j hj => ⟨q5 (by omega) (by omega) (by omega) (by omega) (by omega) (by omega) (by omega) (by omega) (by omega) (by omega) (by omega) (z5 j hj).1, ?_⟩⟩
    · rw [o _ _ (by omega) (by omega) (by omega) (by omega) (by omega), so _ _ (by omega) (by omega) (by omega)]; exact z1 v hv
    · rw [o _ _ (by omega) (by omega) (by omega) (by omega) (by omega), so _ _ (by omega) (by omega) (by omega)]; exact z2 a j v1 v2
    · by_cases e : j = i
      · rw [e]
        have e9 : ra 1630 (4 + i) = r 1630 (4 + i) + 1 := (a3 _ _ (by omega) (by omega) (by omega)).trans (up_self.trans (by omega))
        rw [e9]
        refine QQ_put (v := i2s v) qq (by omega) (fun k => ?_) (so _ _ (by omega) (by omega) (by omega)) ?_ (fun k => ?_)
        · rw [a3 _ _ (by omega) (by omega) (by omega)]
          refine (if_neg (by omega)).trans ?_
          by_cases ek : (k : Int) = r 1630 (4 + i)
          · rw [if_pos ek]
            exact if_pos ⟨rfl, by omega⟩
          · rw [if_neg ek]
            exact (if_neg (by omega)).trans (oo _ _ (by omega))
        · exact (ht _ _ (by omega)).trans up_self
        · rw [ht _ _ (by omega)]
          refine (if_neg (by dsimp only; omega)).trans ?_
          by_cases ek : k = ((s (162 + 2 * i) 1 + s (162 + 2 * i) 2) % 40).toNat
          · rw [if_pos ek]
            exact if_pos ⟨rfl, ek⟩
          · rw [if_neg ek]
            exact if_neg (fun w => ek w.2)
      · exact q5 (by omega) (by omega) (by omega) (by omega) (by omega) (by omega) (by omega) (by omega) (by omega) (by omega) (by omega) (z5 j hj).2
  have w53 : ra 170 53 = r 170 53 := o _ _ (by omega) (by omega) (by omega) (by omega) (by omega)
  obtain ⟨s2, Q2, n2, act2, lf2, dr2, x1, x2, _⟩ := g_tell6 (n := n) (r2 := ra) (md := 1) (v := 0) (l := l + 2) hK hR hL (fun k j w1 w2 w3 w4 w5 w6 w7 w8 => o k j (by omega) w2 w3 (by omega) (by omega)) ((a3 206 b (by omega) (by omega) (by omega)).trans ((if_neg (by omega)).trans ((if_neg (by omega)).trans h1))) (CR_no (by omega) (fun j => o 204 j (by omega) (by omega) (by omega) (by omega) (by omega))) (by rw [w53, if_neg (by omega)]; omega) (by omega) (by rw [w53]; exact g4) (PZ_app (a := [_]) (b := [_]) (PZ_one (by omega)) (PZ_one (by omega))) ((if_neg (by dsimp only; omega)).trans ((if_neg (by dsimp only; omega)).trans (F7_0 g7 (by omega)))) hWx hSH a2 (.inl rfl) hKO hPL
  exact NX_go (MS_1 h1 h52 a1) (show rdx (s, Q, n) x from qp) x1 x2 ((o 170 54 (by omega) (by omega) (by omega) (by omega) (by omega)).trans (oo 170 54 (by omega)).symm) (by rw [oo 170 55 (by omega), o 170 55 (by omega) (by omega) (by omega) (by omega) (by omega)]; exact Int.le_refl _)
theorem ag_r (hK : SPK K) (hR : REL K M False r s Q n act lf dr LG) (hb : LVb r b) (h4b : r 206 b = 5) (hq : 0 < r 1630 (r 207 b).toNat) : NXT K M b (up2 r 206 b 1) s Q n := by
  obtain ⟨hPS, ⟨hst, hcd⟩, hBR, hinj, hcov, hdrs, hsh, hcn, hex, hst53, hLG, g1, g2, g3, g4, g5, g6, g7, g8⟩ := id hR
  have b7 := (hBR b hb).1
  obtain ⟨x, m, S, B, P, tp, hp, hd, ap, hk, h7, hRC, hSB, hsub, hlg, h10, h11, hKO, hPL⟩ := RC_of (hBR b hb) (.inr h4b)
  obtain ⟨c8, e207, hBVr⟩ : 8 ≤ K.1 101 x ∧ r 207 b = K.1 101 x - 8 ∧ BVx r b m (P ++ S) B := by
    rcases h10 with ⟨_, w, _⟩ | ⟨w1, _, w⟩
    · omega
    · exact ⟨w1, w⟩
  have q1 : Q x = 1 := h11.elim id (fun q => q.1.elim False.elim (fun w => by omega))
  have k2 : K.1 100 x ≠ 312 := by omega
  have qp : 0 < Q x := by omega
  have nb : ¬ PBg s x := fun q => k2 (by rw [← hst 100 x (by omega)]; exact q.1)
  obtain ⟨_, ip, pl, pM, hnn⟩ := PS_rd hPS qp
  have np := (hnn nb).2
  obtain ⟨L1, L2, xl⟩ := REL_len hK hR ap hKO
  have lP : P.length ≤ 1 := by
    rcases hSB with ⟨_, _, e⟩ | ⟨_, v, e, _⟩
    · rw [e]; exact Nat.zero_le 1
    · rw [e]; exact Nat.le_refl 1
  obtain ⟨rc1, rc2, rc3, rc4, _, rc5, rc6, rc7, rc8, rc9, rc10⟩ := id hRC
  rw [if_neg (by omega)] at rc1 rc2
  obtain ⟨i, hi⟩ : ∃ i : Nat, K.1 101 x - 8 = (i : Int) := ⟨(K.1 101 x - 8).toNat, by omega⟩
  have i4 : i < 4 := by omega
  rw [e207, hi, Int.toNat_natCast] at hq
  obtain ⟨r1, hr1⟩ : ∃ r1, r1 = up2 r 206 b 1 := ⟨_, rfl⟩
  rw [← hr1]
  have oo : ∀ k j, ¬ (k = 206 ∧ j = b) → r1 k j = r k j := fun k j w => by rw [hr1]; exact if_neg w
  have hBV : BVx r1 b m (P ++ S) B := BV_fr hBVr (fun k j w => oo k j (by omega))
  have d1 : r1 206 b = 1 := by rw [hr1]; exact up_self
  have d2 : r1 170 52 = 2 := (oo 170 52 (by omega)).trans g6
  have d3 : ∀ i, r1 178 i = cd K i := fun i => (oo 178 i (by omega)).trans (hcd i)
  have e4 : r1 170 53 = r 170 53 := oo _ _ (by omega)
  have e7 : r1 170 54 = r 170 54 := oo _ _ (by omega)
  have hS1 : SHx K r1 s := SH_fr hsh (fun k j w => oo k j (by omega)) (fun _ _ _ => rfl)
  have qq := (hS1.2.2.2.2 i i4).1
  have c0 : ¬ r1 1630 i ≤ 0 := by rw [oo _ _ (by omega)]; omega
  obtain ⟨h9, hh9⟩ : ∃ h9 : Nat, r1 1630 i = (h9 : Int) + 1 := ⟨(r1 1630 i - 1).toNat, by omega⟩
  obtain ⟨u1, u2, u3, u4, u5, u6⟩ := id qq
  obtain ⟨r2, a1, a2, a3, a4, a5⟩ := o_get1 b7 hBV (by omega) ((d3 m).trans rc1) (by rw [List.length_append]; omega) (a := i) ((d3 _).trans (rc2.trans hi)) i4 hh9 (by omega)
  have ks : s 100 x = 407 := (hst 100 x (by omega)).trans hk
  have s1 := hst 101 x (by omega)
  have s3 := hst 103 x (by omega)
  have eq : qin (s 101 x) = 154 + 2 * i := by unfold qin; omega
  have t0 := trn_0 (s := s) (p := x)
  have hWx := w_407b ks h7 (by
    unfold sgu
    by_cases c : s 103 x < 0
    · rw [if_pos c]; omega
    · rw [if_neg c]
      unfold trn
      rw [if_neg (by omega)]
      omega)
  have w2 : rwx s x (s 101 x) = ([(154 + 2 * i, 1, (s (154 + 2 * i) 1 + 1) % 40), (154 + 2 * i, 2, s (154 + 2 * i) 2 - 1), (145, x, s (155 + 2 * i) (s (154 + 2 * i) 1).toNat), (147, x, 1)], pux (x : Int)) := by
    unfold rwx
    rw [if_neg (by omega), if_pos (by omega), eq, if_pos (by omega), show 154 + 2 * i + 1 = 155 + 2 * i by omega]
  rw [w2] at hWx
  obtain ⟨s2, Q2, n2, x1, x2, x3, x4, x5, x6⟩ := mv_flag (n := n) hPS qp ks (pre := [(154 + 2 * i, 1, (s (154 + 2 * i) 1 + 1) % 40), (154 + 2 * i, 2, s (154 + 2 * i) 2 - 1)]) (u := trn s x + 1) (v := s (155 + 2 * i) (s (154 + 2 * i) 1).toNat) (fun w hw => by
    rcases List.mem_cons.mp hw with e | e
    · rw [e]; show 154 ≤ 154 + 2 * i; omega
    · rw [List.mem_singleton] at e
      rw [e]; show 154 ≤ 154 + 2 * i; omega) (by
    rw [hWx]
    unfold cax
    dsimp only [List.cons_append, List.nil_append])
  have ao : ∀ k j, ¬ (k = 154 + 2 * i ∧ (j = 1 ∨ j = 2)) → apw [(154 + 2 * i, 1, (s (154 + 2 * i) 1 + 1) % 40), (154 + 2 * i, 2, s (154 + 2 * i) 2 - 1)] s k j = s k j := fun k j w => (if_neg (by dsimp only; omega)).trans (if_neg (by dsimp only; omega))
  have so : ∀ k j, ¬ (k = 154 + 2 * i ∧ (j = 1 ∨ j = 2)) → ¬ ((k = 144 ∨ k = 145 ∨ k = 147) ∧ j = x) → s2 k j = s k j := fun k j w1 w2 => by
    rw [x4]
    exact (if_neg (by omega)).trans ((if_neg (by omega)).trans ((if_neg (by omega)).trans (ao k j w1)))
  have sq1 : s2 (154 + 2 * i) 1 = (s (154 + 2 * i) 1 + 1) % 40 := by
    rw [x4]
    exact (if_neg (by omega)).trans ((if_neg (by omega)).trans ((if_neg (by omega)).trans ((if_neg (by dsimp only; omega)).trans up_self)))
  have sq2 : s2 (154 + 2 * i) 2 = s (154 + 2 * i) 2 - 1 := by
    rw [x4]
    exact (if_neg (by omega)).trans ((if_neg (by omega)).trans ((if_neg (by omega)).trans up_self))
  have e44 : s2 144 x = trn s x + 1 := by
    rw [x4]
    exact (if_neg (by omega)).trans ((if_neg (by omega)).trans up_self)
  have e45 : s2 145 x = s (155 + 2 * i) (s (154 + 2 * i) 1).toNat := by
    rw [x4]
    exact (if_neg (by omega)).trans up_self
  have e47 : s2 147 x = 1 := by rw [x4]; exact up_self
  have o2 : ∀ k j, ¬ ((k = 205 ∨ k = 206 ∨ k = 208 ∨ k = 209) ∧ j = b) → k ≠ 220 + b → k ≠ 921 + b → ¬ (k = 1630 ∧ j = i) → k ≠ 1622 + i → ¬ (k = 170 ∧ j = 53) → r2 k j = r k j := fun k j w1 w2 w3 w4 w5 w6 => (a5 k j (by omega) w2 w3 w4 w5).trans (oo k j (by omega))
  have h206 : r2 206 b = 1 := (a5 206 b (by omega) (by omega) (by omega) (by omega) (by omega)).trans d1
  have hHR : HRx b r r2 := fun k j w1 w2 w3 w4 w5 w6 w7 w8 => o2 k j (by omega) w2 w3 (by omega) (by omega) w4
  have w53 : r2 170 53 = r 170 53 := (a5 170 53 (by omega) (by omega) (by omega) (by omega) (by omega)).trans e4
  obtain ⟨qg1, qg2⟩ := QQ_get qq (h2 := r2 1630 i) (f2 := r2 (1622 + i)) (q2 := s2 (154 + 2 * i)) (by omega) (by omega) (fun k hk => a4 k (by omega)) sq1 sq2
  have hSH : SHx K r2 s2 := by
    obtain ⟨z1, z2, z3, z4, z5⟩ := hS1
    have op : ∀ k j, ¬ ((k = 205 ∨ k = 208 ∨ k = 209) ∧ j = b) → k ≠ 220 + b → k ≠ 921 + b → ¬ (k = 1630 ∧ j = i) → k ≠ 1622 + i → r2 k j = r1 k j := a5
    have q5 : ∀ {a j f q g : Nat}, (1622 ≤ a ∧ a ≤ 1630) → (1622 ≤ f ∧ f ≤ 1629) → (154 ≤ q ∧ q ≤ 169) → (154 ≤ g ∧ g ≤ 169) → ¬ (a = 1630 ∧ j = i) → a ≠ 1622 + i → f ≠ 1622 + i → q ≠ 154 + 2 * i → g ≠ 154 + 2 * i → QQx (r1 a j) (r1 f) (s q) (s g) → QQx (r2 a j) (r2 f) (s2 q) (s2 g) := fun {a j f q g} w1 w2 w3 w4 w5 w6 w7 w8 w9 w => by
      have ef : r2 f = r1 f := funext fun z => op f z (by omega) (by omega) (by omega) (by omega) (by omega)
      have eq : s2 q = s q := funext fun z => so q z (by omega) (by omega)
      have eg : s2 g = s g := funext fun z => so g z (by omega) (by omega)
      rw [op a j (by omega) (by omega) (by omega) w5 w6, ef, eq, eg]
      exact w
    refine ⟨fun v hv => ?_, fun a j v1 v2 => ?_, fun v v1 v2 => by rw [op _ _ (by omega) (by omega) (by omega) (by omega) (by omega)]; exact z3 v v1 v2, fun a v1 v2 => by rw [op _ _ (by omega) (by omega) (by omega) (by omega) (by omega)]; exact z4 a v1 v2, fun j hj => ⟨?_, q5 (by omega) (by omega) (by omega) (by omega) (by omega) (by omega) (by omega) (by omega) (by omega) (z5 j hj).2⟩⟩
    · rw [op _ _ (by omega) (by omega) (by omega) (by omega) (by omega), so _ _ (by omega) (by omega)]; exact z1 v hv
    · rw [op _ _ (by omega) (by omega) (by omega) (by omega) (by omega), so _ _ (by omega) (by omega)]; exact z2 a j v1 v2
    · by_cases e : j = i
      · rw [e]
        have eg : s2 (155 + 2 * i) = s (155 + 2 * i) := funext fun z => so _ z (by omega) (by omega)
        rw [eg]
        exact qg1
      · exact q5 (by omega) (by omega) (by omega) (by omega) (by omega) (by omega) (by omega) (by omega) (by omega) (z5 j hj).1
  have ko : KO K s2 act (s2 143 x) x 1 (m + 4) S B tp := by
    rw [so 143 x (by omega) (by omega)]
    exact KO_mv hPS hst x3 ap np nb ap hKO
  refine NX_go (lf2 := lf) (dr2 := dr) (LG2 := fun z => LG z ∧ z ≠ x) (act2 := act) (MS_1 d1 d2 a1) (show rdx (s, Q, n) x from qp) x1 (t_same hR hb (by omega) hp hd np ap nb k2 x2 x3 (fun q _ => x5 q) (so 143 x (by omega) (by omega)) (fun k L w => .inl (so k L (by omega) (by omega))) (so 142 13 (by omega) (by omega)) (fun L w => by rw [so 152 L (by omega) (by omega), so 153 L (by omega) (by omega)]; exact hex L w) hHR (by rw [h206]; decide) (fun z ne => ⟨fun w => w.1, fun w => ⟨w, ne⟩⟩) (fun w => w.2 rfl) (fun hpl => ⟨b7, .inr (.inl ⟨h206, x, m, S, B, P, tp, hp, hd, ap, (x5 x).trans q1, ⟨(so 100 x (by omega) (by omega)).trans ks, by rw [e47]; omega⟩, by rw [e44]; omega, fun w => w.2 rfl, hRC, ?_, ?_, ko, hpl tp hPL⟩)⟩) hSH ?_ ?_ ⟨by rw [w53]; exact g3, by rw [w53]; exact g4⟩ (fun z hz => ?_)) ((a5 170 54 (by omega) (by omega) (by omega) (by omega) (by omega))) (by rw [a5 170 55 (by omega) (by omega) (by omega) (by omega) (by omega)]; exact Int.le_refl _)
  · rcases hSB with w | ⟨w1, v, w2, w3, w4, w5, w6⟩
    · exact .inl w
    · refine .inr ⟨w1, v, w2, w3, w4, w5, (so _ _ (by omega) ?_).trans w6⟩
      intro w
      exact w5 (by rw [w.2]; exact ap)
  · rw [e45, ← qg2]
    exact a2
  · intro y ay ky ty
    have yx : y ≠ x := fun e => by rw [e] at ky; omega
    rw [so 144 y (by omega) (by omega)] at ty ⊢
    rw [o2 204 _ (by omega) (by omega) (by omega) (by omega) (by omega) (by omega)]
    exact hcn y ay ky ty
  · have u := sm_p (f := pfx K s2 act (fun z => LG z ∧ z ≠ x)) (g := pfx K s act LG) pM (fun i ne => by
      unfold pfx
      rw [ind_e (show PNd K s2 act i ↔ PNd K s act i by
        unfold PNd
        rw [so 144 i (by omega) (by omega)]), ind_e (show (LG i ∧ i ≠ x) ↔ LG i from ⟨fun w => w.1, fun w => ⟨w, ne⟩⟩)])
    rw [u, x6, Int.natCast_add, hst53, w53]
    unfold pfx
    rw [ind_f (fun w : PNd K s2 act x => absurd w.2.1 (by omega)), ind_f (fun w : PNd K s act x => absurd w.2.1 (by omega)), ind_f (fun w : LG x ∧ x ≠ x => w.2 rfl)]
    by_cases c : s 144 x < 0
    · rw [if_pos c, ind_t (hlg.mpr c)]
      omega
    · rw [if_neg c, ind_f (fun w => c (hlg.mp w))]
      omega
  · by_cases e : z = x
    · rw [e, e44]
      refine ⟨ap, hk, ?_⟩
      unfold sgu
      by_cases c : K.1 103 x < 0
      · rw [if_pos c]; omega
      · rw [if_neg c]
        unfold trn
        rw [if_neg (by omega)]
        omega
    · rw [so 147 z (by omega) (by omega)] at hz
      rw [so 144 z (by omega) (by omega)]
      exact g7 z hz
end AGAIN
