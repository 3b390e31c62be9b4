/-! Those that waited for a queue go on at the next run. -/
section AGAIN
variable {K : SCt} {W : Prop} {r r1 r2 s s2 : tab} {Q Q2 : Nat → Nat} {act act2 : Nat → Prop} {lf dr : Nat → Int} {LG LG2 : Nat → Prop} {b x p M n n2 m l f : Nat} {S B P : List Int} {tp v : Int}
theorem ag_s (hK : SPK K) (hR : REL K M False r s Q n act lf dr LG) (hb : LVb r b) (h4b : r 206 b = 4) (hq : r 1630 (4 + (r 207 b).toNat) < 40) : NXT K M b (up2 r 206 b 1) s Q n := by
  obtain ⟨hPS, ⟨hst, hcd⟩, hBR, hinj, hcov, hdrs, hsh, hcn, hex, hst53, hLG, g1, g2, g3, g4, g5, g6, g7⟩ := id hR
  have b7 := (hBR b hb).1
  obtain ⟨x, l0, S, B, v, tp, hp, hd, ap, hk, hb0, h4, ng, hv, h9a, hl0, h11, hKO, hPL⟩ := SN_of (hBR b hb) (.inr h4b)
  obtain ⟨c8, e207, l, el, c1, c2, hBVr⟩ : 8 ≤ K.1 101 x ∧ r 207 b = K.1 101 x - 8 ∧ ∃ m, l0 = m + 2 ∧ cd K m = 15 ∧ cd K (m + 1) = K.1 101 x - 8 ∧ BVx r b m (v :: S) B := by
    rcases h9a with ⟨_, w, _⟩ | ⟨w1, _, w⟩
    · omega
    · exact ⟨w1, w⟩
  subst el
  have q1 : Q x = 1 := h11.elim id (fun q => q.1.elim False.elim (fun w => by omega))
  have k2 : K.1 100 x ≠ 312 := by omega
  have hL : LVb r b ∧ r 206 b ≠ 6 ∧ lf b = (x : Int) ∧ dr b = -1 ∧ act x ∧ 0 < Q x ∧ ¬ LG x ∧ K.1 100 x ≠ 312 := ⟨hb, by omega, hp, hd, ap, by omega, ng, k2⟩
  have qp : 0 < Q x := by omega
  obtain ⟨L1, L2, xl⟩ := REL_len hK hR ap hKO
  obtain ⟨i, hi⟩ : ∃ i : Nat, K.1 101 x - 8 = (i : Int) := ⟨(K.1 101 x - 8).toNat, by omega⟩
  have i4 : i < 4 := by omega
  rw [e207, hi, Int.toNat_natCast] at hq
  have qq := (hsh.2.2.2.2 i i4).2
  obtain ⟨u1, u2, u3, u4, u5, u6⟩ := id qq
  have oo : ∀ k j, ¬ (k = 206 ∧ j = b) → up2 r 206 b 1 k j = r k j := fun k j w => if_neg w
  have hBV : BVx (up2 r 206 b 1) b l (v :: S) B := BV_fr hBVr (fun k j w => oo k j (by omega))
  have o178 : ∀ i, up2 r 206 b 1 178 i = cd K i := fun i => (oo 178 i (by omega)).trans (hcd i)
  have h1 : up2 r 206 b 1 206 b = 1 := up_self
  have h52 : up2 r 206 b 1 170 52 = 2 := (oo 170 52 (by omega)).trans g6
  obtain ⟨h9, hh9⟩ : ∃ h9 : Nat, r 1630 (4 + i) = (h9 : Int) := ⟨(r 1630 (4 + i)).toNat, by omega⟩
  obtain ⟨ra, a1, a2, a3⟩ := o_put1 b7 hBV (by omega) ((o178 l).trans c1) (by omega) (a := i) ((o178 _).trans (c2.trans hi)) i4 ((oo _ _ (by omega)).trans hh9) (by omega)
  have ks : s 100 x = 406 := (hst 100 x (by omega)).trans hk
  have s1 := hst 101 x (by omega)
  have ex : trn s x = s 144 x := if_neg (by omega)
  have eq : qou (s 101 x) = 162 + 2 * i := by unfold qou; omega
  have hWx := w_406b ks (by omega)
  have ev : vax s (s 102 x) = v := by rw [hst 102 x (by omega)]; exact PV_v hst hPS ap k2 hv
  have w2 : swx s x (s 101 x) (vax s (s 102 x)) = cax ([(163 + 2 * i, ((s (162 + 2 * i) 1 + s (162 + 2 * i) 2) % 40).toNat, i2s v), (162 + 2 * i, 2, s (162 + 2 * i) 2 + 1)], []) (twx s x 0) := by
    unfold swx
    rw [if_neg (by omega), if_pos (by omega), eq, if_pos (by omega), ev, show 162 + 2 * i + 1 = 163 + 2 * i by omega]
  rw [w2, shc (b := [])] at hWx
  have o : ∀ k j, ¬ ((k = 205 ∨ k = 206 ∨ k = 208 ∨ k = 209) ∧ j = b) → k ≠ 220 + b → k ≠ 921 + b → ¬ (k = 1630 ∧ j = 4 + i) → ¬ (k = 1626 + i ∧ j = h9) → ra k j = r k j := fun k j w1 w2 w3 w4 w5 => (a3 k j (by omega) w2 w3).trans ((if_neg w4).trans ((if_neg w5).trans (oo k j (by omega))))
  have hSH : ∀ t : tab, (∀ k j, k = 148 ∨ k = 149 ∨ 154 ≤ k ∧ k ≤ 169 → t k j = apw [(163 + 2 * i, ((s (162 + 2 * i) 1 + s (162 + 2 * i) 2) % 40).toNat, i2s v), (162 + 2 * i, 2, s (162 + 2 * i) 2 + 1)] s k j) → SHx K ra t := fun t ht => by
    have so : ∀ k j, k = 148 ∨ k = 149 ∨ 154 ≤ k ∧ k ≤ 169 → ¬ (k = 163 + 2 * i) → ¬ (k = 162 + 2 * i ∧ j = 2) → t k j = s k j := fun k j w1 w2 w3 => (ht k j w1).trans ((if_neg (by dsimp only; omega)).trans (if_neg (by dsimp only; omega)))
    obtain ⟨z1, z2, z3, z4, z5⟩ := hsh
    have q5 : ∀ {a j f q g : Nat}, (1622 ≤ a ∧ a ≤ 1630) → (1622 ≤ f ∧ f ≤ 1629) → (154 ≤ q ∧ q ≤ 169) → (154 ≤ g ∧ g ≤ 169) → ¬ (a = 1630 ∧ j = 4 + i) → a ≠ 1626 + i → f ≠ 1626 + i → q ≠ 162 + 2 * i → q ≠ 163 + 2 * i → g ≠ 162 + 2 * i → g ≠ 163 + 2 * i → QQx (r a j) (r f) (s q) (s g) → QQx (ra a j) (ra f) (t q) (t g) := fun {a j f q g} w1 w2 w3 w4 w5 w6 w7 w8 w9 w10 w11 w => by
      have ef : ra f = r f := funext fun z => o f z (by omega) (by omega) (by omega) (by omega) (by omega)
      have eq : t q = s q := funext fun z => so q z (by omega) (by omega) (by omega)
      have eg : t g = s g := funext fun z => so g z (by omega) (by omega) (by omega)
      rw [o a j (by omega) (by omega) (by omega) w5 (by omega), ef, eq, eg]
      exact w
    refine ⟨fun v hv => ?_, fun a j v1 v2 => ?_, fun v v1 v2 => by rw [o _ _ (by omega) (by omega) (by omega) (by omega) (by omega)]; exact z3 v v1 v2, fun a v1 v2 => by rw [o _ _ (by omega) (by omega) (by omega) (by omega) (by omega)]; exact z4 a v1 v2, fun j hj => ⟨q5 (by omega) (by omega) (by omega) (by omega) (by omega) (by omega) (by omega) (by omega) (by omega) (by omega) (by omega) (z5 j hj).1, ?_⟩⟩
    · rw [o _ _ (by omega) (by omega) (by omega) (by omega) (by omega), so _ _ (by omega) (by omega) (by omega)]; exact z1 v hv
    · rw [o _ _ (by omega) (by omega) (by omega) (by omega) (by omega), so _ _ (by omega) (by omega) (by omega)]; exact z2 a j v1 v2
    · by_cases e : j = i
      · rw [e]
        have e9 : ra 1630 (4 + i) = r 1630 (4 + i) + 1 := (a3 _ _ (by omega) (by omega) (by omega)).trans (up_self.trans (by omega))
        rw [e9]
        refine QQ_put (v := i2s v) qq (by omega) (fun k => ?_) (so _ _ (by omega) (by omega) (by omega)) ?_ (fun k => ?_)
        · rw [a3 _ _ (by omega) (by omega) (by omega)]
          refine (if_neg (by omega)).trans ?_
          by_cases ek : (k : Int) = r 1630 (4 + i)
          · rw [if_pos ek]
            exact if_pos ⟨rfl, by omega⟩
          · rw [if_neg ek]
            exact (if_neg (by omega)).trans (oo _ _ (by omega))
        · exact (ht _ _ (by omega)).trans up_self
        · rw [ht _ _ (by omega)]
          refine (if_neg (by dsimp only; omega)).trans ?_
          by_cases ek : k = ((s (162 + 2 * i) 1 + s (162 + 2 * i) 2) % 40).toNat
          · rw [if_pos ek]
            exact if_pos ⟨rfl, ek⟩
          · rw [if_neg ek]
            exact if_neg (fun w => ek w.2)
      · exact q5 (by omega) (by omega) (by omega) (by omega) (by omega) (by omega) (by omega) (by omega) (by omega) (by omega) (by omega) (z5 j hj).2
  have w53 : ra 170 53 = r 170 53 := o _ _ (by omega) (by omega) (by omega) (by omega) (by omega)
  obtain ⟨s2, Q2, n2, act2, lf2, dr2, x1, x2, _⟩ := g_tell6 (n := n) (r2 := ra) (md := 1) (v := 0) (l := l + 2) hK hR hL (fun k j w1 w2 w3 w4 w5 w6 w7 w8 => o k j (by omega) w2 w3 (by omega) (by omega)) ((a3 206 b (by omega) (by omega) (by omega)).trans ((if_neg (by omega)).trans ((if_neg (by omega)).trans h1))) (CR_no (by omega) (fun j => o 204 j (by omega) (by omega) (by omega) (by omega) (by omega))) (by rw [w53, if_neg (by omega)]; omega) (by omega) (by rw [w53]; exact g4) (PZ_app (a := [_]) (b := [_]) (PZ_one (by omega)) (PZ_one (by omega))) ((if_neg (by dsimp only; omega)).trans ((if_neg (by dsimp only; omega)).trans (F7_0 g7 (by omega)))) hWx hSH a2 (.inl rfl) hKO hPL
  exact NX_go (MS_1 h1 h52 a1) (show rdx (s, Q, n) x from qp) x1 x2 ((o 170 54 (by omega) (by omega) (by omega) (by omega) (by omega)).trans (oo 170 54 (by omega)).symm)
end AGAIN
