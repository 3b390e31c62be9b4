/-! No branch can go on: the parts that are ready begin to wait. -/
section QUIET
variable {K : SCt} {W : Prop} {r s s2 : tab} {Q Q2 : Nat → Nat} {act : Nat → Prop} {lf dr : Nat → Int} {LG : Nat → Prop} {b p M n : Nat}
theorem qu_lf (hR : REL K M W r s Q n act lf dr LG) (hq : ∀ b, QUb r b) (ap : act p) (np : NoC s act p) : ∃ b, LVb r b ∧ lf b = (p : Int) ∧ (SND K W r s Q act lf dr LG b ∨ RCV K W r s Q act lf dr LG b ∨ JOI K r s act lf dr LG b) := by
  obtain ⟨b, lv, e⟩ := hR.2.2.2.2.1 p ap np
  refine ⟨b, lv, e, ?_⟩
  have n1 := (hq b lv).1
  rcases (hR.2.2.1 b lv).2 with ⟨c0, _⟩ | ⟨c0, _⟩ | ⟨c0, _⟩ | ⟨c0, _⟩ | h | h | h
  · exact absurd c0 n1
  · exact absurd c0 n1
  · exact absurd c0 n1
  · exact absurd c0 n1
  · exact .inl h
  · exact .inr (.inl h)
  · exact .inr (.inr h)
/-- who waits for branches has some -/
theorem qu_j (hR : REL K M W r s Q n act lf dr LG) (e : lf b = (p : Int)) (h : JOI K r s act lf dr LG b) (np : NoC s act p) (q0 : Q p = 0) : False := by
  obtain ⟨_, x, f, l, S, B, tp, j1, j2, j3, j4, j5, j6, j7, _⟩ := h
  have : x = p := by omega
  subst this
  obtain ⟨⟨⟨cx, anc, hJ⟩, _⟩, ⟨hst, _⟩, _⟩ := hR
  obtain ⟨L, l1, l2, l3⟩ := hJ.2.2.2.2.2.2.2.2.1 x j3 j4
  have h2 := hst 102 x (by omega)
  cases L with
  | nil =>
    rw [List.length_nil] at l3
    omega
  | cons z L =>
    have w := (l2 z).mp List.mem_cons_self
    exact np z w.1 w.2
/-- one that is ready -/
theorem qu_1 (hR : REL K M True r s Q n act lf dr LG) (hq : ∀ b, QUb r b) (hp : 0 < Q p) : ∃ s2 Q2 n2 LG2, stx (s, Q, n) p = (s2, Q2, n2) ∧ REL K M True r s2 Q2 n2 act lf dr LG2 ∧ Q2 p = 0 ∧ ∀ q, q ≠ p → Q2 q = Q q := by
  obtain ⟨hPS, ⟨hst, hcd⟩, hBR, hinj, hcov, hdrs, hsh, hcn, hex, hst53, hLG, g1, g2, g3, g4, g5, g6, g7, g8⟩ := id hR
  obtain ⟨ap, ip, pl, pM, hnn⟩ := PS_rd hPS hp
  have nb : ¬ PBg s p := fun w => by
    have u := hdrs p ap w
    rw [smx_z 700 (fun i _ => ind_f (fun v => by
      have n1 := (hq i v.1).1
      have e := v.2
      rcases (hBR i v.1).2 with ⟨c0, _⟩ | ⟨c0, _⟩ | ⟨c0, _⟩ | ⟨c0, _⟩ | ⟨z, _, _, _, _, _, h1, h2, _⟩ | ⟨z, _, _, _, _, _, h1, h2, _⟩ | ⟨_, z, _, _, _, _, _, h1, h2, _⟩
      · exact n1 c0
      · exact n1 c0
      · exact n1 c0
      · exact n1 c0
      · omega
      · omega
      · omega))] at u
    omega
  obtain ⟨q1, np⟩ := hnn nb
  obtain ⟨b, lv, e, h⟩ := qu_lf hR hq ap np
  obtain ⟨⟨cx, anc, hJ⟩, _⟩ := id hPS
  obtain ⟨_, n4, n5, n2⟩ := hq b lv
  rcases h with h | h | h
  · obtain ⟨x, l, S, B, v, tp, h1, h2, h3, h4, h5, h6, h7, h8, h9, _⟩ := id h
    have : x = p := by omega
    subst this
    obtain ⟨s2, Q2, n2, x1, x2, x3, x4, _⟩ := wt_s (n := n) hR lv h e q1 (.inl trivial) (fun c8 => Classical.byContradiction fun w => by
      obtain ⟨w1, w2, w3, w4, w5, _⟩ := (hJ.2.2.2.2.2.2.2.1 (K.1 101 x).toNat (by omega)).2.2 (by omega)
      have k5 := hst 100 (s 153 (K.1 101 x).toNat).toNat (by omega)
      have k6 := hst 101 (s 153 (K.1 101 x).toNat).toNat (by omega)
      obtain ⟨b2, lv2, e2, g⟩ := qu_lf hR hq w1 w3
      rcases g with ⟨z, _, _, _, _, _, c1, _, _, c4, _⟩ | ⟨z, m, S1, B1, P, tp1, c1, c2, c3, c4, c5, c6, c7, c8, c9, c10, _⟩ | ⟨_, z, _, _, _, _, _, c1, _, _, c4, _⟩
      · rw [show (s 153 (K.1 101 x).toNat).toNat = z by omega] at w4 k5
        omega
      · have ez : (s 153 (K.1 101 x).toNat).toNat = z := by omega
        rw [ez] at w4 w5 k5 k6
        have u2 : r 206 b = 2 ∧ r 207 b = K.1 101 x := by
          rcases h9 with ⟨_, v1, v2, _⟩ | ⟨v1, _⟩
          · exact ⟨v1, v2⟩
          · omega
        have u3 : r 206 b2 = 3 ∧ r 207 b2 = K.1 101 z := by
          rcases c10 with ⟨_, v1, v2, _⟩ | ⟨v1, _⟩
          · exact ⟨v1, v2⟩
          · omega
        have := n2 (.inl u2.1) b2 lv2.1 (by omega) (by omega)
        rw [this] at u3
        omega
      · rw [show (s 153 (K.1 101 x).toNat).toNat = z by omega] at w4
        have := c4.1
        omega) (fun c8 => by
      obtain ⟨v1, v2⟩ : r 206 b = 4 ∧ r 207 b = K.1 101 x - 8 := by
        rcases h9 with ⟨v1, _⟩ | ⟨_, v1, v2, _⟩
        · omega
        · exact ⟨v1, v2⟩
      have u := n4 v1
      have w := (hsh.2.2.2.2 (r 207 b).toNat (by omega)).2.1
      rw [v2] at u w
      omega)
    exact ⟨s2, Q2, n2, LG, x1, x2, x3, x4⟩
  · obtain ⟨x, m, S, B, P, tp, h1, h2, h3, h4, h5, h6, h7, h8, h9, h10, _⟩ := id h
    have : x = p := by omega
    subst this
    obtain ⟨_, _, _, _, _, _, rc6, rc7, _⟩ := id h6
    obtain ⟨s2, Q2, n2, x1, x2, x3, x4, _⟩ := wt_r (n := n) hR lv h e q1 (.inl trivial) (fun c8 => Classical.byContradiction fun w => by
      obtain ⟨w1, w2, w3, w4, w5, _⟩ := (hJ.2.2.2.2.2.2.2.1 (K.1 101 x).toNat (by omega)).1.2 (by omega)
      have k5 := hst 100 (s 152 (K.1 101 x).toNat).toNat (by omega)
      have k6 := hst 101 (s 152 (K.1 101 x).toNat).toNat (by omega)
      obtain ⟨b2, lv2, e2, g⟩ := qu_lf hR hq w1 w3
      rcases g with ⟨z, _, _, _, _, _, c1, _, _, c4, _, _, _, _, c9, _⟩ | ⟨z, m, S1, B1, P, tp1, c1, c2, c3, c4, c5, _⟩ | ⟨_, z, _, _, _, _, _, c1, _, _, c4, _⟩
      · have ez : (s 152 (K.1 101 x).toNat).toNat = z := by omega
        rw [ez] at w4 w5 k5 k6
        have u2 : r 206 b = 3 ∧ r 207 b = K.1 101 x := by
          rcases h10 with ⟨_, v1, v2, _⟩ | ⟨v1, _⟩
          · exact ⟨v1, v2⟩
          · omega
        have u3 : r 206 b2 = 2 ∧ r 207 b2 = K.1 101 z := by
          rcases c9 with ⟨_, v1, v2, _⟩ | ⟨v1, _⟩
          · exact ⟨v1, v2⟩
          · omega
        have := n2 (.inr u2.1) b2 lv2.1 (by omega) (by omega)
        rw [this] at u3
        omega
      · rw [show (s 152 (K.1 101 x).toNat).toNat = z by omega] at w4 k5
        omega
      · rw [show (s 152 (K.1 101 x).toNat).toNat = z by omega] at w4
        have := c4.1
        omega) (fun c8 => by
      obtain ⟨v1, v2⟩ : r 206 b = 5 ∧ r 207 b = K.1 101 x - 8 := by
        rcases h10 with ⟨v1, _⟩ | ⟨_, v1, v2, _⟩
        · omega
        · exact ⟨v1, v2⟩
      have u := n5 v1
      have w := (hsh.2.2.2.2 (r 207 b).toNat (by omega)).1.1
      rw [v2] at u w
      omega)
    exact ⟨s2, Q2, n2, _, x1, x2, x3, x4⟩
  · obtain ⟨_, x, f, l, S, B, tp, j1, j2, j3, j4, _⟩ := h
    rw [show x = p by omega] at j4
    exact absurd j4 nb
theorem qu_k (hR : REL K M True r s Q n act lf dr LG) (hq : ∀ b, QUb r b) : ∀ k : Nat, ∃ ps s2 Q2 n2 LG2, okx rdx stx (s, Q, n) ps ∧ rnx stx (s, Q, n) ps = (s2, Q2, n2) ∧ REL K M True r s2 Q2 n2 act lf dr LG2 ∧ ∀ p, p < k → Q2 p = 0
  | 0 => ⟨[], s, Q, n, LG, trivial, rfl, hR, fun p h => absurd h (by omega)⟩
  | k + 1 => by
    obtain ⟨ps, s2, Q2, n2, LG2, a1, a2, a3, a4⟩ := qu_k hR hq k
    by_cases e : Q2 k = 0
    · refine ⟨ps, s2, Q2, n2, LG2, a1, a2, a3, fun p hp => ?_⟩
      by_cases ep : p = k
      · rw [ep]; exact e
      · exact a4 p (by omega)
    · obtain ⟨s3, Q3, n3, LG3, b1, b2, b3, b4⟩ := qu_1 a3 hq (show 0 < Q2 k by omega)
      refine ⟨ps ++ [k], s3, Q3, n3, LG3, (ok_app ps [k] _).mpr ⟨a1, by rw [a2]; exact ⟨show 0 < Q2 k by omega, trivial⟩⟩, by rw [rn_app, a2]; exact b1, b2, fun p hp => ?_⟩
      by_cases ep : p = k
      · rw [ep]; exact b3
      · rw [b4 p ep]; exact a4 p (by omega)
/-- the parts machine comes to its end -/
theorem qu_end (hU : ∀ z, K.2.2.2.2.2 z → K.1 100 z = 402 ∨ K.1 100 z = 403 → PUR K.1 z) (hR : REL K M False r s Q n act lf dr LG) (hq : ∀ b, QUb r b) : ∃ ps s2 Q2 n2 LG2, okx rdx stx (s, Q, n) ps ∧ rnx stx (s, Q, n) ps = (s2, Q2, n2) ∧ REL K M True r s2 Q2 n2 act lf dr LG2 ∧ (∀ p, Q2 p = 0) ∧ (n2 : Int) = r 170 53 ∧ s2 142 13 = 0 ∧ smx (pfx K s2 act LG2) M = 0 := by
  obtain ⟨ps, s2, Q2, n2, LG2, a1, a2, a3, a4⟩ := qu_k (REL_W (W2 := True) (fun w => w.elim) hR) hq M
  obtain ⟨hPS, ⟨hst, hcd⟩, hBR, hinj, hcov, hdrs, hsh, hcn, hex, hst53, hLG, g1, g2, g3, g4, g5, g6, g7, g8⟩ := id a3
  have q0 : ∀ p, Q2 p = 0 := fun p => Classical.byContradiction fun w => by
    have := (PS_rd hPS (show 0 < Q2 p by omega)).2.2.2.1
    exact w (a4 p this)
  have sm : smx (pfx K s2 act LG2) M = 0 := smx_z M (fun z _ => by
    unfold pfx
    rw [ind_f (fun w => ?_), ind_f (fun w => ?_)]
    · rfl
    · have := (hLG z w).2.1
      rw [q0] at this
      omega
    · obtain ⟨⟨cx, anc, hJ⟩, hKJ, _⟩ := id hPS
      obtain ⟨v, v1, v2, v3⟩ := PU_lf hPS (z + 1) z (by omega) w.1 (PU_x hst (hU z (hKJ.1 z w.1) w.2.1))
      obtain ⟨c, u1, u2⟩ := v3
      obtain ⟨_, _, _, _, _, _, _, _, _, k7, k8, _⟩ := EF_k u1
      obtain ⟨b, lv, e, g⟩ := qu_lf a3 hq v1 v2
      rcases g with ⟨y, _, _, _, _, _, c1, _, _, c4, _⟩ | ⟨y, _, _, _, _, _, c1, _, _, c4, _⟩ | g
      · rw [show y = v by omega] at c4
        have := k7 ((hst 100 v (by omega)).trans c4)
        exact u2 _ (by omega) this.1.2.2
      · rw [show y = v by omega] at c4
        have := k8 ((hst 100 v (by omega)).trans c4)
        exact u2 _ (by omega) this.1.2.2
      · exact qu_j a3 e g v2 (q0 v))
  refine ⟨ps, s2, Q2, n2, LG2, a1, a2, a3, q0, by rw [hst53, sm, Int.add_zero], ?_, sm⟩
  rcases g8 with w | ⟨_, _, b, w1, w2⟩
  · exact w
  · exact absurd w2 (hq b w1).1
end QUIET
