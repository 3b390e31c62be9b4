/-! A SEND begins to wait, or gives what goes without; a RECEIVE begins. -/
section SENDX
variable {K : SCt} {W : Prop} {r r1 r2 s s2 : tab} {Q Q2 : Nat → Nat} {act act2 : Nat → Prop} {lf dr : Nat → Int} {LG LG2 : Nat → Prop} {b x p M n n2 m l f : Nat} {S B P : List Int} {tp v : Int}
theorem shc {a b : wrl} {y : wrl × List Int} {h : Nat × Nat × Int} : cax ([h], []) (cax (a, []) y) = cax (h :: a, []) y := by
  unfold cax
  dsimp only [List.cons_append, List.nil_append]
theorem PV_v (hst : ∀ k j, 99 ≤ k ∧ k ≤ 114 → s k j = K.1 k j) (hPS : PSy M K.2.2.2.1 K.2.2.2.2.2 s Q act) (ax : act x) (hk : K.1 100 x ≠ 312) {c : Int} (h : PVy K s act x c v) : vax s c = v := by
  obtain ⟨w1, w2, w3, w4⟩ := h
  obtain ⟨⟨cx, anc, hJ⟩, _⟩ := hPS
  have efx := (hJ.2.2.1 x ax).1
  have u := (EF_cx efx (.inl ((CH_ext hst).mpr w1)) w2 (by rw [hst 100 x (by omega)]; exact hk)).2.1
  have u2 := (EF_k efx).2.1
  unfold vax
  rw [if_pos ⟨w2, by omega⟩]
  exact w4
theorem snd_in (hK : SPK K) (hR : REL K M False r s Q n act lf dr LG) (hL : LFp K r s Q act lf dr LG b x) (hk : K.1 100 x = 406) (h4 : 1 ≤ s 144 x) (hv : PVy K s act x (K.1 102 x) v) (c1 : cd K l = (if K.1 101 x < 8 then 13 else 15)) (c2 : cd K (l + 1) = (if K.1 101 x < 8 then K.1 101 x else K.1 101 x - 8)) (hb0 : 0 ≤ K.1 101 x ∧ K.1 101 x < 12) (hl : l + 2 < 25000) (hBV : BVx r b l (v :: S) B) (hKO : KO K s act (s 143 x) x 1 (l + 2) S B tp) (hPL : PLk r lf b tp) : NXT K M b r s Q n := by
  obtain ⟨hb, h1, hp, hd, ap, qp, ng, k2⟩ := id hL
  obtain ⟨hPS, ⟨hst, hcd⟩, hBR, hinj, hcov, hdrs, hsh, hcn, hex, hst53, hLG, g1, g2, g3, g4, g5, g6, g7, g8⟩ := id hR
  have b7 := (hBR b hb).1
  have nb : ¬ PBg s x := fun q => k2 (by rw [← hst 100 x (by omega)]; exact q.1)
  obtain ⟨_, ip, pl, pM, hnn⟩ := PS_rd hPS qp
  obtain ⟨q1, np⟩ := hnn nb
  obtain ⟨L1, L2, xl⟩ := REL_len hK hR ap hKO
  have wait : ∀ ra : tab, ON1 b r ra → (∀ k j, ¬ ((k = 205 ∨ k = 206 ∨ k = 207 ∨ k = 208 ∨ k = 209) ∧ j = b) → k ≠ 220 + b → k ≠ 921 + b → ra k j = r k j) → ((K.1 101 x < 8 ∧ ra 206 b = 2 ∧ ra 207 b = K.1 101 x ∧ BVx ra b (l + 2) (v :: S) B) ∨ (8 ≤ K.1 101 x ∧ ra 206 b = 4 ∧ ra 207 b = K.1 101 x - 8 ∧ ∃ m, l + 2 = m + 2 ∧ cd K m = 15 ∧ cd K (m + 1) = K.1 101 x - 8 ∧ BVx ra b m (v :: S) B)) → NXT K M b r s Q n := fun ra on o q => by
    refine .inl ⟨0, ra, [], s, Q, n, act, lf, dr, LG, MS_1 h1 g6 on, trivial, rfl, REL_w hR hb h1 hp (fun k j w1 w2 w3 _ => o k j w1 w2 w3) ?_ ⟨b7, .inr (.inr (.inr (.inr (.inl ⟨x, l + 2, S, B, v, tp, hp, hd, ap, hk, hb0, h4, ng, hv, q, hl, .inl q1, hKO, ?_⟩))))⟩ (fun _ _ => Iff.rfl) (fun w => absurd w ng) ?_ ?_ ?_, o 170 54 (by omega) (by omega) (by omega), by rw [o 170 55 (by omega) (by omega) (by omega)]; exact Int.le_refl _⟩
    · rcases q with ⟨_, q, _⟩ | ⟨_, q, _⟩ <;> omega
    · rcases hPL with v | ⟨v, v1, v2, v3, v4, v5, v6, v7⟩
      · exact .inl v
      · exact .inr ⟨v, (o 210 b (by omega) (by omega) (by omega)).trans v1, by rw [o 170 55 (by omega) (by omega) (by omega)]; exact v2, v3, (o 206 v (by omega) (by omega) (by omega)).trans v4, v5, v6, v7⟩
    · rw [o 170 53 (by omega) (by omega) (by omega)]; omega
    · rw [o 170 53 (by omega) (by omega) (by omega)]; exact g4
    · rw [o 170 53 (by omega) (by omega) (by omega)]; exact g3
  by_cases c8 : K.1 101 x < 8
  · rw [if_pos c8] at c1 c2
    obtain ⟨ra, a1, a2, a3⟩ := o_send b7 hBV (by omega) ((hcd l).trans c1)
    rw [hcd, c2] at a3
    refine wait ra a1 (fun k j w1 w2 w3 => (a3 k j (by omega) w2 w3).trans ((if_neg (by omega)).trans (if_neg (by omega)))) (.inl ⟨c8, ?_, ?_, a2⟩)
    · exact (a3 206 b (by omega) (by omega) (by omega)).trans ((if_neg (by omega)).trans up_self)
    · exact (a3 207 b (by omega) (by omega) (by omega)).trans up_self
  rw [if_neg c8] at c1 c2
  obtain ⟨i, hi⟩ : ∃ i : Nat, K.1 101 x - 8 = (i : Int) := ⟨(K.1 101 x - 8).toNat, by omega⟩
  have i4 : i < 4 := by omega
  have qq := (hsh.2.2.2.2 i i4).2
  obtain ⟨u1, u2, u3, u4, u5, u6⟩ := id qq
  by_cases c0 : 40 ≤ r 1630 (4 + i)
  · obtain ⟨ra, a1, a2, a3⟩ := o_put0 b7 hBV (by omega) ((hcd l).trans c1) (a := i) ((hcd _).trans (c2.trans hi)) i4 c0
    refine wait ra a1 (fun k j w1 w2 w3 => (a3 k j (by omega) w2 w3).trans ((if_neg (by omega)).trans (if_neg (by omega)))) (.inr ⟨by omega, ?_, ?_, l, rfl, c1, c2, a2⟩)
    · exact (a3 206 b (by omega) (by omega) (by omega)).trans ((if_neg (by omega)).trans up_self)
    · exact (a3 207 b (by omega) (by omega) (by omega)).trans (up_self.trans hi.symm)
  obtain ⟨h9, hh9⟩ : ∃ h9 : Nat, r 1630 (4 + i) = (h9 : Int) := ⟨(r 1630 (4 + i)).toNat, by omega⟩
  obtain ⟨ra, a1, a2, a3⟩ := o_put1 b7 hBV (by omega) ((hcd l).trans c1) (by omega) (a := i) ((hcd _).trans (c2.trans hi)) i4 hh9 (by omega)
  have ks : s 100 x = 406 := (hst 100 x (by omega)).trans hk
  have s1 := hst 101 x (by omega)
  have ex : trn s x = s 144 x := if_neg (by omega)
  have eq : qou (s 101 x) = 162 + 2 * i := by unfold qou; omega
  have hWx := w_406b ks (by omega)
  have ev : vax s (s 102 x) = v := by rw [hst 102 x (by omega)]; exact PV_v hst hPS ap k2 hv
  have w2 : swx s x (s 101 x) (vax s (s 102 x)) = cax ([(163 + 2 * i, ((s (162 + 2 * i) 1 + s (162 + 2 * i) 2) % 40).toNat, i2s v), (162 + 2 * i, 2, s (162 + 2 * i) 2 + 1)], []) (twx s x 0) := by
    unfold swx
    rw [if_neg (by omega), if_pos (by omega), eq, if_pos (by omega), ev, show 162 + 2 * i + 1 = 163 + 2 * i by omega]
  rw [w2, shc (b := [])] at hWx
  have o : ∀ k j, ¬ ((k = 205 ∨ k = 208 ∨ k = 209) ∧ j = b) → k ≠ 220 + b → k ≠ 921 + b → ¬ (k = 1630 ∧ j = 4 + i) → ¬ (k = 1626 + i ∧ j = h9) → ra k j = r k j := fun k j w1 w2 w3 w4 w5 => (a3 k j w1 w2 w3).trans ((if_neg w4).trans (if_neg w5))
  have hSH : ∀ t : tab, (∀ k j, k = 148 ∨ k = 149 ∨ 154 ≤ k ∧ k ≤ 169 → t k j = apw [(163 + 2 * i, ((s (162 + 2 * i) 1 + s (162 + 2 * i) 2) % 40).toNat, i2s v), (162 + 2 * i, 2, s (162 + 2 * i) 2 + 1)] s k j) → SHx K ra t := fun t ht => by
    have so : ∀ k j, k = 148 ∨ k = 149 ∨ 154 ≤ k ∧ k ≤ 169 → ¬ (k = 163 + 2 * i) → ¬ (k = 162 + 2 * i ∧ j = 2) → t k j = s k j := fun k j w1 w2 w3 => (ht k j w1).trans ((if_neg (by dsimp only; omega)).trans (if_neg (by dsimp only; omega)))
    obtain ⟨z1, z2, z3, z4, z5⟩ := hsh
    have q5 : ∀ {a j f q g : Nat}, (1622 ≤ a ∧ a ≤ 1630) → (1622 ≤ f ∧ f ≤ 1629) → (154 ≤ q ∧ q ≤ 169) → (154 ≤ g ∧ g ≤ 169) → ¬ (a = 1630 ∧ j = 4 + i) → a ≠ 1626 + i → f ≠ 1626 + i → q ≠ 162 + 2 * i → q ≠ 163 + 2 * i → g ≠ 162 + 2 * i → g ≠ 163 + 2 * i → QQx (r a j) (r f) (s q) (s g) → QQx (ra a j) (ra f) (t q) (t g) := fun {a j f q g} w1 w2 w3 w4 w5 w6 w7 w8 w9 w10 w11 w => by
      have ef : ra f = r f := funext fun z => o f z (by omega) (by omega) (by omega) (by omega) (by omega)
      have eq : t q = s q := funext fun z => so q z (by omega) (by omega) (by omega)
      have eg : t g = s g := funext fun z => so g z (by omega) (by omega) (by omega)
      rw [o a j (by omega) (by omega) (by omega) w5 (by omega), ef, eq, eg]
      exact w
    refine ⟨fun v hv => ?_, fun a j v1 v2 => ?_, fun v v1 v2 => by rw [o _ _ (by omega) (by omega) (by omega) (by omega) (by omega)]; exact z3 v v1 v2, fun a v1 v2 => by rw [o _ _ (by omega) (by omega) (by omega) (by omega) (by omega)]; exact z4 a v1 v2, fun j hj => ⟨q5 (by omega) (by omega) (by omega) (by omega) (by omega) (by omega) (by omega) (by omega) (by omega) (by omega) (by omega) (z5 j hj).1, ?_⟩⟩
    · rw [o _ _ (by omega) (by omega) (by omega) (by omega) (by omega), so _ _ (by omega) (by omega) (by omega)]; exact z1 v hv
    · rw [o _ _ (by omega) (by omega) (by omega) (by omega) (by omega), so _ _ (by omega) (by omega) (by omega)]; exact z2 a j v1 v2
    · by_cases e : j = i
      · rw [e]
        have e9 : ra 1630 (4 + i) = r 1630 (4 + i) + 1 := (a3 _ _ (by omega) (by omega) (by omega)).trans (up_self.trans (by omega))
        rw [e9]
        refine QQ_put (v := i2s v) qq (by omega) (fun k => ?_) (so _ _ (by omega) (by omega) (by omega)) ?_ (fun k => ?_)
        · rw [a3 _ _ (by omega) (by omega) (by omega)]
          refine (if_neg (by omega)).trans ?_
          by_cases ek : (k : Int) = r 1630 (4 + i)
          · rw [if_pos ek]
            exact if_pos ⟨rfl, by omega⟩
          · rw [if_neg ek]
            exact if_neg (by omega)
        · exact (ht _ _ (by omega)).trans up_self
        · rw [ht _ _ (by omega)]
          refine (if_neg (by dsimp only; omega)).trans ?_
          by_cases ek : k = ((s (162 + 2 * i) 1 + s (162 + 2 * i) 2) % 40).toNat
          · rw [if_pos ek]
            exact if_pos ⟨rfl, ek⟩
          · rw [if_neg ek]
            exact if_neg (fun w => ek w.2)
      · exact q5 (by omega) (by omega) (by omega) (by omega) (by omega) (by omega) (by omega) (by omega) (by omega) (by omega) (by omega) (z5 j hj).2
  have w53 : ra 170 53 = r 170 53 := o _ _ (by omega) (by omega) (by omega) (by omega) (by omega)
  obtain ⟨s2, Q2, n2, act2, lf2, dr2, x1, x2, _⟩ := g_tell (n := n) (r2 := ra) (md := 1) (v := 0) (l := l + 2) hK hR hL (fun k j w1 w2 w3 w4 w5 w6 w7 w8 => o k j (by omega) w2 w3 (by omega) (by omega)) ((o 206 b (by omega) (by omega) (by omega) (by omega) (by omega)).trans h1) (CR_no (by omega) (fun j => o 204 j (by omega) (by omega) (by omega) (by omega) (by omega))) (by rw [w53, if_neg (by omega)]; omega) (by omega) (by rw [w53]; exact g4) (PZ_app (a := [_]) (b := [_]) (PZ_one (by omega)) (PZ_one (by omega))) ((if_neg (by dsimp only; omega)).trans ((if_neg (by dsimp only; omega)).trans (F7_0 g7 (by omega)))) hWx hSH a2 (.inl rfl) hKO hPL
  exact NX_go (MS_1 h1 g6 a1) (show rdx (s, Q, n) x from qp) x1 x2 (o 170 54 (by omega) (by omega) (by omega) (by omega) (by omega)) (by rw [o 170 55 (by omega) (by omega) (by omega) (by omega) (by omega)]; exact Int.le_refl _)
/-- a RECEIVE without a subscript -/
theorem b_407 (hK : SPK K) (h : BG K M r s Q n act lf dr LG b x 1 f l S B tp) (hk : K.1 100 x = 407) (h7 : s 147 x = 0) (h3 : K.1 103 x = -1) (h2 : K.1 102 x < 24) (c0 : cd K f = 0) (hl : l = f + 5) (hRC : RCx K x (f + 1) l) : NXT K M b r s Q n := by
  subst hl
  have hlt : f + 5 < 25000 := hRC.2.2.2.2.2.1
  rcases b_part h (by omega) c0 with w | ⟨lt, r1, m1, v1, f1, d1, d2, d3, d4, b7⟩
  · exact w
  obtain ⟨hR, hb, h1, hl1, hd, ax, qx, h4, ng, hBV, hKO, hPL⟩ := h
  obtain ⟨ra, a1, a2, a3⟩ := rcv_in (r1 := r1) (P := []) (m := f + 1) (n := n) hK hR ⟨hb, h1, hl1, hd, ax, by omega, ng, by omega⟩ hk h7 (by rw [if_pos (by omega)]; exact f1) (by rw [if_pos (by omega)]; omega) hRC (.inl ⟨h2, h3, rfl⟩) (.inl h3) (fun _ => h3) v1 hKO hPL
  rcases a3 with ⟨LG2, a3⟩ | ⟨s2, Q2, n2, a3, a4⟩
  · exact .inl ⟨1, ra, [], s, Q, n, act, lf, dr, LG2, MS_tr 1 r m1 a1, trivial, rfl, a3, a2⟩
  · exact NX_go (k := 1) (MS_tr 1 r m1 a1) (show rdx (s, Q, n) x from (show 0 < Q x by omega)) a3 a4 a2.1 a2.2
end SENDX
