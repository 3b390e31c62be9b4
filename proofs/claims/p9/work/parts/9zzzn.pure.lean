/-! What an E reaches waits for nothing. -/
section PURE
variable {s s2 t : tab} {G : Gmx} {N md n a b f l k0 k1 q : Nat} {x : Int} {c : Cxx}
/-- the same, and nothing is sent or received -/
def rsc (c : Cxx) : Cxx := (c.1, c.2.1, c.2.2.1, fun k => c.2.2.2 k ∧ 24 ≤ k)
theorem CO_rs (hF : ∀ r, r < N → G.2.2 r → ∀ k, k < 24 → ¬ (G.2.1 r).2.2.2 k) (h : CO s t G md n a b x f l k0 k1 q c) : (∀ k, c.2.2.2 (24 + k) → k < N) → md = 0 ∨ md = 2 → CO s t G md n a b x f l k0 k1 q (rsc c) := by
  refine CO_ind (Q := fun md n a b x f l k0 k1 q c => (∀ k, c.2.2.2 (24 + k) → k < N) → md = 0 ∨ md = 2 → CO s t G md n a b x f l k0 k1 q (rsc c)) ?_ h
  intro md n a b x f l k0 k1 q c h0 k hN hm
  rcases k with ⟨h1, h2, h3, h4, h5, h6, k⟩ | ⟨h1, h2, h3, h4, h5, h6, k⟩ | ⟨h1, h2, h3, h4, h5, h6⟩ | ⟨h1, n1, b1, m, h2, h3, h4⟩ | ⟨h1, n1, b1, m, kk, h2, h3, h4⟩ | ⟨h1, n1, b1, m, kk, c1, c2, h2, h3, h4, h5, h6, h7, h8, h9⟩ | ⟨h1, h2, h3, h4, h5⟩
  · refine CO_mk (.inl ⟨h1, h2, h3, h4, h5, h6, ?_⟩)
    rcases k with k | k | ⟨k1, k2, ⟨m, k3, k4⟩, k5⟩ | ⟨k1, m, k2, k3⟩ | ⟨k1, b1, m1, m2, k2, k3, k4⟩ | ⟨k1, ⟨r, n, m, g1, g2, g3, g4, g5, g6, g7, g8, g9, g10, g11, g12, g13⟩, k3⟩
    · exact .inl k
    · exact .inr (.inl k)
    · exact .inr (.inr (.inl ⟨k1, k2, ⟨m, k3.2 hN (.inl rfl), k4⟩, k5⟩))
    · exact .inr (.inr (.inr (.inl ⟨k1, m, k2.2 hN (.inl rfl), k3⟩)))
    · exact .inr (.inr (.inr (.inr (.inl ⟨k1, b1, m1, m2, k2.2 hN (.inl rfl), k3.2 hN (.inl rfl), k4⟩))))
    · refine .inr (.inr (.inr (.inr (.inr ⟨k1, ⟨r, n, m, g1, g2, g3, g4, g5, g6.2 hN (.inr rfl), g7, g8, g9, g10, ⟨g11, by omega⟩, ⟨g12.1, g12.2.1, g12.2.2.1, fun k w => ⟨g12.2.2.2 k w, ?_⟩⟩, g13⟩, k3⟩))))
      rw [g1, Int.toNat_natCast] at k3
      exact Classical.byContradiction fun z => hF r (hN r g11) k3 k (by omega) w
  · omega
  · exact CO_mk (.inr (.inr (.inl ⟨h1, h2, h3, h4, h5, h6⟩)))
  · exact CO_mk (.inr (.inr (.inr (.inl ⟨h1, n1, b1, m, h2, h3.2 hN (.inl rfl), h4.2 hN (.inr rfl)⟩))))
  · omega
  · omega
  · omega
/-- a STATEMENT's part is no sign -/
theorem CO_k1 (h : CO s t G md n a b x f l k0 k1 q c) : md = 1 → s 100 x.toNat ≠ 402 ∧ s 100 x.toNat ≠ 403 := by
  refine CO_ind (Q := fun md _ _ _ x _ _ _ _ _ _ => md = 1 → s 100 x.toNat ≠ 402 ∧ s 100 x.toNat ≠ 403) ?_ h
  intro md n a b x f l k0 k1 q c h0 k hm
  rcases k with ⟨h1, _⟩ | ⟨h1, h2, h3, h4, h5, h6, k⟩ | ⟨h1, _⟩ | ⟨h1, _⟩ | ⟨h1, _⟩ | ⟨h1, _⟩ | ⟨h1, _⟩
  · omega
  · rcases k with ⟨k1, k2⟩ | k | k | k | k | k | k | k | k | k | k | k
    · have := k2.2 rfl
      rw [Int.toNat_natCast] at this
      exact this
    all_goals (have := k.1; omega)
  all_goals omega
/-- reached from x: nothing is sent or received -/
def PUR (s : tab) (x : Nat) : Prop := ∃ c, EF s c x ∧ ∀ k, k < 24 → ¬ c.2.2.2 k
theorem PU_s (hB : ∀ r, r < N → BOD s G r ∧ (G.2.2 r → ∀ k, k < 24 → ¬ (G.2.1 r).2.2.2 k)) (h : CO s t G md n a b x f l k0 k1 q c) (hN : ∀ k, c.2.2.2 (24 + k) → k < N) {z : Nat} (z1 : a ≤ z) (z2 : z < b) (hk : s 100 z = 402 ∨ s 100 z = 403) : PUR s z := by
  obtain ⟨md2, n2, a2, f2, l2, j0, j1, q2, c2, w1, w2, w3, w4⟩ := CO_rts h z z1 z2
  have m0 : md2 = 0 := by
    have u := CO_k1 w2
    rw [Int.toNat_natCast] at u
    by_cases e : md2 = 1
    · have := u e
      omega
    · omega
  have hN2 : ∀ k, c2.2.2.2 (24 + k) → k < N := fun k w => hN k (w3.2.2.2 _ w)
  have co := CO_rs (fun r hr => (hB r hr).2) w2 hN2 (.inl m0)
  have rt := CO_rt co (by omega)
  have u := (CO_EF (N := N) (fun r hr => (hB r hr).1) co (fun r hr => .inl (hN2 r hr.1))).1 (by omega)
  have v := u (rsc c2) SB_rf rt.2.2.1
  rw [Int.toNat_natCast] at v
  exact ⟨rsc c2, ⟨_, v⟩, fun k hk w => by have := w.2; omega⟩
theorem PU_x (h : ∀ k j, 99 ≤ k ∧ k ≤ 114 → s2 k j = s k j) {y : Nat} (w : PUR s y) : PUR s2 y := by
  obtain ⟨c, w1, w2⟩ := w
  exact ⟨c, EF_ext h w1, w2⟩
/-- what is asked is such, too -/
theorem PU_ch {y : Nat} (h : PUR s y) (hc : CHb s y x) (h0 : 0 ≤ x) : PUR s x.toNat := by
  obtain ⟨c, h1, h2⟩ := h
  by_cases hk : s 100 y = 312
  · obtain ⟨_, _, _, _, _, _, _, _, _, _, _, _, _, _, _, k13⟩ := EF_k h1
    obtain ⟨w1, cs, w2, _⟩ := k13 hk
    rcases hc with hc | ⟨e, _⟩
    · obtain ⟨i, i1, i2⟩ := (CH_312 hk).mp hc
      obtain ⟨v1, v2, v3⟩ := w2 i (by omega)
      rw [← i2] at v3
      exact ⟨cs i, v3.2.2, fun k kl w => h2 k kl (v1.2.2.2 k w)⟩
    · omega
  · exact ⟨c, (EF_cx h1 hc h0 hk).2.2, h2⟩
/-- below one such there is a leaf -/
theorem PU_lf {M : Nat} {IN : Nat → Prop} {Q : Nat → Nat} {act : Nat → Prop} (h : PSy M N IN s Q act) : ∀ (k p : Nat), p < k → act p → PUR s p → ∃ q, act q ∧ NoC s act q ∧ PUR s q
  | 0, _, hk, _, _ => absurd hk (by omega)
  | k + 1, p, hk, ap, pp => by
    by_cases nc : NoC s act p
    · exact ⟨p, ap, nc, pp⟩
    · obtain ⟨q, aq, e⟩ : ∃ q, act q ∧ s 143 q = (p : Int) := Classical.byContradiction fun w => nc (fun q aq e => w ⟨q, aq, e⟩)
      obtain ⟨⟨cx, anc, hJ⟩, hKJ, _⟩ := id h
      have lt : q < p := by
        rcases hJ.2.2.2.1 q aq with w | ⟨y, w, ay, an, _⟩
        · omega
        · have := (hJ.2.2.2.2.1 y q an).2.2.1
          omega
      have u := PU_ch pp (hKJ.2.1 q p aq e) (by omega)
      rw [Int.toNat_natCast] at u
      exact PU_lf h k q (by omega) aq u
end PURE
