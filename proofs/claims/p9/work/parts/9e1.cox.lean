/-! Parts and code: what may change around them. -/
section COX
variable {s t s2 t2 : tab} {G : Gmx} {R R2 : COt} {md n a b f l k0 k1 q : Nat} {x : Int} {c d : Cxx}
def XHx (s t s2 t2 : tab) (md n a b f l q : Nat) (c : Cxx) : Prop :=
  (∀ k j, 100 ≤ k → k ≤ 103 → a ≤ j → j < b → s2 k j = s k j) ∧ (∀ j, a ≤ j → j < b → (md ≤ 1 → j + 1 < b) → s2 104 j = s 104 j) ∧ (∀ i, f ≤ i → i < l → t2 178 i = t 178 i) ∧ (md = 4 → ∀ i, q ≤ i → i < q + n → t2 178 i = t 178 i) ∧ s 99 12 ≤ s2 99 12 ∧ ∀ r, c.2.2.2 (24 + r) → s2 113 r = s 113 r
theorem XH_sub (h : XHx s t s2 t2 md n a b f l q c) {md2 n2 a2 b2 f2 l2 q2 : Nat} (h1 : a ≤ a2) (h2 : b2 ≤ b) (h3 : f ≤ f2) (h4 : l2 ≤ l) (h5 : b2 < b ∨ 1 < md ∨ md2 ≤ 1) (h6 : md2 ≠ 4 ∨ f ≤ q2 ∧ q2 + n2 ≤ l) (h7 : SBx d c) : XHx s t s2 t2 md2 n2 a2 b2 f2 l2 q2 d := by
  obtain ⟨e1, e2, e3, e4, e5, e6⟩ := h
  refine ⟨fun k j w1 w2 w3 w4 => e1 k j w1 w2 (by omega) (by omega), fun j w1 w2 w3 => e2 j (by omega) (by omega) (fun w => ?_), fun i w1 w2 => e3 i (by omega) (by omega), fun w i w1 w2 => ?_, e5, fun r w => e6 r (h7.2.2.2 _ w)⟩
  · rcases h5 with h5 | h5 | h5
    · omega
    · omega
    · have := w3 h5
      omega
  · rcases h6 with h6 | h6
    · exact absurd w h6
    · exact e3 i (by omega) (by omega)
theorem CO_rt (h : CO s t G md n a b x f l k0 k1 q c) (hm : md ≤ 1) : x + 1 = (b : Int) ∧ (b : Int) ≤ s 99 12 ∧ AUx c ∧ c.1 x.toNat := by
  rcases CO_un h with u | u | u | u | u | u | u
  · exact ⟨u.2.2.1, u.2.2.2.1, u.2.2.2.2.1, u.2.2.2.2.2.1⟩
  · exact ⟨u.2.2.1, u.2.2.2.1, u.2.2.2.2.1, u.2.2.2.2.2.1⟩
  all_goals
    have := u.1
    omega
/-- an induction that keeps what is known -/
theorem CO_ind {Q : COt} (hQ : ∀ md n a b x f l k0 k1 q c, CO s t G md n a b x f l k0 k1 q c → COk s t G (fun md n a b x f l k0 k1 q c => CO s t G md n a b x f l k0 k1 q c ∧ Q md n a b x f l k0 k1 q c) md n a b x f l k0 k1 q c → Q md n a b x f l k0 k1 q c) (h : CO s t G md n a b x f l k0 k1 q c) : Q md n a b x f l k0 k1 q c := by
  refine (h (fun md n a b x f l k0 k1 q c => CO s t G md n a b x f l k0 k1 q c ∧ Q md n a b x f l k0 k1 q c) ?_).2
  intro md n a b x f l k0 k1 q c k
  have h1 : CO s t G md n a b x f l k0 k1 q c := CO_mk (COk_mono (fun _ _ _ _ _ _ _ _ _ _ _ w => w.1) k)
  exact ⟨h1, hQ _ _ _ _ _ _ _ _ _ _ _ h1 k⟩
theorem CL_ext {x : Nat} (hx : x + 1 = b) (hab : a < b) (hX : XHx s t s2 t2 md n a b f l q c) (k : CLk s t G (fun md n a b x f l k0 k1 q c => CO s t G md n a b x f l k0 k1 q c ∧ (XHx s t s2 t2 md n a b f l q c → CO s2 t2 G md n a b x f l k0 k1 q c)) a x f l c) : CLk s2 t2 G (CO s2 t2 G) a x f l c := by
  obtain ⟨r, n, m, h1, h2, h3, h4, h5, h6, h7, h8, h9, h10, h11, h12, h13, h14, h15, h16⟩ := k
  have e := CO_le h6.1
  have p : ∀ k, 100 ≤ k → k ≤ 103 → s2 k x = s k x := fun k w1 w2 => hX.1 k x w1 w2 (by omega) (by omega)
  have cd : ∀ i, f ≤ i → i < l → t2 178 i = t 178 i := hX.2.2.1
  have e113 := hX.2.2.2.2.2 r h11
  refine ⟨r, n, m, (p 101 (by omega) (by omega)).trans h1, h2, (p 103 (by omega) (by omega)).trans h3, h4, (cd f (by omega) (by omega)).trans h5, ?_, fun i hi => ?_, (cd _ (by omega) (by omega)).trans h8, (cd _ (by omega) (by omega)).trans h9, h10, h11, h12, by rw [e113]; exact h13, by rw [e113]; exact h14, by rw [e113]; exact h15, h16⟩
  · rw [p 102 (by omega) (by omega)]
    exact h6.2 (XH_sub hX (by omega) (by omega) (by omega) (by omega) (by omega) (by omega) SB_rf)
  · rw [cd _ (by omega) (by omega), cd _ (by omega) (by omega), e113]
    exact h7 i hi
/-- only what lies there counts -/
theorem CO_ext (h : CO s t G md n a b x f l k0 k1 q c) : XHx s t s2 t2 md n a b f l q c → CO s2 t2 G md n a b x f l k0 k1 q c := by
  refine CO_ind (Q := fun md n a b x f l k0 k1 q c => XHx s t s2 t2 md n a b f l q c → CO s2 t2 G md n a b x f l k0 k1 q c) ?_ h
  intro md n a b x f l k0 k1 q c h0 k hX
  have hle := CO_le h0
  have e99 := hX.2.2.2.2.1
  refine CO_mk ?_
  rcases k with ⟨h1, h2, h3, h4, h5, h6, k⟩ | ⟨h1, h2, h3, h4, h5, h6, k⟩ | k | ⟨h1, n1, b1, m, h2, h3, h4⟩ | ⟨h1, n1, b1, m, kk, h2, h3, h4⟩ | ⟨h1, n1, b1, m, kk, c1, c2, h2, h3, h4, h5, h6, h7, h8, h9, h10⟩ | ⟨h1, h2, h3, h4, h5⟩
  · refine .inl ⟨h1, h2, h3, by omega, h5, h6, ?_⟩
    obtain ⟨y, rfl⟩ : ∃ y : Nat, x = (y : Int) := ⟨x.toNat, by omega⟩
    rw [Int.toNat_natCast] at k ⊢
    have p : ∀ k, 100 ≤ k → k ≤ 103 → s2 k y = s k y := fun k w1 w2 => hX.1 k y w1 w2 (by omega) (by omega)
    have cd : ∀ i, f ≤ i → i < l → t2 178 i = t 178 i := hX.2.2.1
    have e0 := p 100 (by omega) (by omega)
    have e1 := p 101 (by omega) (by omega)
    have e2 := p 102 (by omega) (by omega)
    have e3 := p 103 (by omega) (by omega)
    unfold CEk
    rw [e0, e1, e2, e3]
    rcases k with ⟨k1, k2, k3, k4, k5, k6⟩ | ⟨k1, k2, k3, k4, k5, k6, k7⟩ | ⟨k1, k2, ⟨m, k3, k4, k5, k6⟩, k7⟩ | ⟨k1, m, k2, k3, k4, k5, k6⟩ | ⟨k1, b1, m1, m2, k2, k3, k4, k5, k6, k7⟩ | ⟨k1, k2, k3⟩
    · exact .inl ⟨k1, k2, k3, (cd _ (by omega) (by omega)).trans k4, (cd _ (by omega) (by omega)).trans k5, (cd _ (by omega) (by omega)).trans k6⟩
    · exact .inr (.inl ⟨k1, k2, k3, (cd _ (by omega) (by omega)).trans k4, (cd _ (by omega) (by omega)).trans k5, (cd _ (by omega) (by omega)).trans k6, k7⟩)
    · have w := CO_le k3.1
      exact .inr (.inr (.inl ⟨k1, (cd _ (by omega) (by omega)).trans k2, ⟨m, k3.2 (XH_sub hX (by omega) (by omega) (by omega) (by omega) (by omega) (by omega) SB_rf), (cd _ (by omega) (by omega)).trans k4, (cd _ (by omega) (by omega)).trans k5, k6⟩, k7⟩))
    · have w := CO_le k2.1
      exact .inr (.inr (.inr (.inl ⟨k1, m, k2.2 (XH_sub hX (by omega) (by omega) (by omega) (by omega) (by omega) (by omega) SB_rf), (cd _ (by omega) (by omega)).trans k3, (cd _ (by omega) (by omega)).trans k4, (cd _ (by omega) (by omega)).trans k5, k6⟩)))
    · have w := CO_le k2.1
      have w2 := CO_le k3.1
      exact .inr (.inr (.inr (.inr (.inl ⟨k1, b1, m1, m2, k2.2 (XH_sub hX (by omega) (by omega) (by omega) (by omega) (by omega) (by omega) SB_rf), k3.2 (XH_sub hX (by omega) (by omega) (by omega) (by omega) (by omega) (by omega) SB_rf), (cd _ (by omega) (by omega)).trans k4, (cd _ (by omega) (by omega)).trans k5, (cd _ (by omega) (by omega)).trans k6, k7⟩))))
    · exact .inr (.inr (.inr (.inr (.inr ⟨k1, CL_ext (by omega) h2 hX k2, k3⟩))))
  · refine .inr (.inl ⟨h1, h2, h3, by omega, h5, h6, ?_⟩)
    obtain ⟨y, rfl⟩ : ∃ y : Nat, x = (y : Int) := ⟨x.toNat, by omega⟩
    rw [Int.toNat_natCast] at k ⊢
    have p : ∀ k, 100 ≤ k → k ≤ 103 → s2 k y = s k y := fun k w1 w2 => hX.1 k y w1 w2 (by omega) (by omega)
    have cd : ∀ i, f ≤ i → i < l → t2 178 i = t 178 i := hX.2.2.1
    have e0 := p 100 (by omega) (by omega)
    have e1 := p 101 (by omega) (by omega)
    have e2 := p 102 (by omega) (by omega)
    have e3 := p 103 (by omega) (by omega)
    unfold CSk
    rw [e0, e1, e2, e3]
    rcases k with ⟨k1, k2⟩ | ⟨k1, k2, k3, k4, k5⟩ | ⟨k1, k2, n, k3, k4⟩ | ⟨k1, k2, k3, k4, ⟨m, k5, k6, k7, k8⟩, k9⟩ | ⟨k1, k2, k3, ⟨b1, m1, m2, k4, k5, k6, k7, k8⟩, k9⟩ | ⟨k1, k2, k3, ⟨m, k4, k5, k6, k7⟩, k8⟩ | ⟨k1, k2, k3, ⟨m, k4, k5, k6, k7, k8, k9⟩, k10⟩ | ⟨k1, k2, k3⟩ | ⟨k1, k2, b1, m, m2, k3, k4, k5⟩ | ⟨k1, k2, b1, m, m2, k3, k4, k5, k6, k7, k8, k9⟩ | ⟨k1, k2, k3, k4, k5, k6, k7, k8, k9, k10, m, k11, k12, k13, k14⟩ | ⟨k1, k2, k3, k4, k5, k6, n, k7, k8, k9, k10⟩
    · have w := CO_le k2.1
      exact .inl ⟨(cd _ (by omega) (by omega)).trans k1, k2.2 (XH_sub hX (by omega) (by omega) (by omega) (by omega) (by omega) (by omega) SB_rf)⟩
    · exact .inr (.inl ⟨k1, k2, k3, (cd _ (by omega) (by omega)).trans k4, k5⟩)
    · have w := CO_le k4.1
      exact .inr (.inr (.inl ⟨k1, (cd _ (by omega) (by omega)).trans k2, n, k3, k4.2 (XH_sub hX (by omega) (by omega) (by omega) (by omega) (by omega) (by omega) SB_rf)⟩))
    · have w := CO_le k5.1
      exact .inr (.inr (.inr (.inl ⟨k1, (cd _ (by omega) (by omega)).trans k2, k3, k4, ⟨m, k5.2 (XH_sub hX (by omega) (by omega) (by omega) (by omega) (by omega) (by omega) SB_rf), (cd _ (by omega) (by omega)).trans k6, (cd _ (by omega) (by omega)).trans k7, k8⟩, k9⟩)))
    · have w := CO_le k4.1
      have w2 := CO_le k5.1
      exact .inr (.inr (.inr (.inr (.inl ⟨k1, (cd _ (by omega) (by omega)).trans k2, k3, ⟨b1, m1, m2, k4.2 (XH_sub hX (by omega) (by omega) (by omega) (by omega) (by omega) (by omega) SB_rf), k5.2 (XH_sub hX (by omega) (by omega) (by omega) (by omega) (by omega) (by omega) SB_rf), (cd _ (by omega) (by omega)).trans k6, (cd _ (by omega) (by omega)).trans k7, k8⟩, k9⟩))))
    · have w := CO_le k4.1
      exact .inr (.inr (.inr (.inr (.inr (.inl ⟨k1, (cd _ (by omega) (by omega)).trans k2, k3, ⟨m, k4.2 (XH_sub hX (by omega) (by omega) (by omega) (by omega) (by omega) (by omega) SB_rf), (cd _ (by omega) (by omega)).trans k5, (cd _ (by omega) (by omega)).trans k6, k7⟩, k8⟩)))))
    · have w : m ≤ l ∧ f + 1 ≤ m := by
        rcases k4 with k4 | ⟨k4, _⟩
        · omega
        · have := CO_le k4.1
          omega
      refine .inr (.inr (.inr (.inr (.inr (.inr (.inl ⟨k1, (cd _ (by omega) (by omega)).trans k2, k3, ⟨m, ?_, (cd _ (by omega) (by omega)).trans k5, (cd _ (by omega) (by omega)).trans k6, (cd _ (by omega) (by omega)).trans k7, (cd _ (by omega) (by omega)).trans k8, k9⟩, k10⟩))))))
      rcases k4 with k4 | ⟨k4, w4⟩
      · exact .inl k4
      · exact .inr ⟨k4.2 (XH_sub hX (by omega) (by omega) (by omega) (by omega) (by omega) (by omega) SB_rf), w4⟩
    · exact .inr (.inr (.inr (.inr (.inr (.inr (.inr (.inl ⟨k1, CL_ext (by omega) h2 hX k2, k3⟩)))))))
    · have w := CO_le k3.1
      refine .inr (.inr (.inr (.inr (.inr (.inr (.inr (.inr (.inl ?_))))))))
      rcases k5 with ⟨w1, w2, w3, w4⟩ | ⟨b2, kk, w1, w2, w3, w4, w5⟩
      · have u := CO_le w2.1
        exact ⟨k1, (cd _ (by omega) (by omega)).trans k2, b1, m, m2, k3.2 (XH_sub hX (by omega) (by omega) (by omega) (by omega) (by omega) (by omega) SB_rf), (cd _ (by omega) (by omega)).trans k4, .inl ⟨w1, w2.2 (XH_sub hX (by omega) (by omega) (by omega) (by omega) (by omega) (by omega) SB_rf), (cd _ (by omega) (by omega)).trans w3, w4⟩⟩
      · have u := CO_le w1.1
        have u2 := CO_le w2.1
        exact ⟨k1, (cd _ (by omega) (by omega)).trans k2, b1, m, m2, k3.2 (XH_sub hX (by omega) (by omega) (by omega) (by omega) (by omega) (by omega) SB_rf), (cd _ (by omega) (by omega)).trans k4, .inr ⟨b2, kk, w1.2 (XH_sub hX (by omega) (by omega) (by omega) (by omega) (by omega) (by omega) SB_rf), w2.2 (XH_sub hX (by omega) (by omega) (by omega) (by omega) (by omega) (by omega) SB_rf), (cd _ (by omega) (by omega)).trans w3, (cd _ (by omega) (by omega)).trans w4, (cd _ (by omega) (by omega)).trans w5⟩⟩
    · have w := CO_le k3.1
      have w2 := CO_le k6.1
      exact .inr (.inr (.inr (.inr (.inr (.inr (.inr (.inr (.inr (.inl ⟨k1, (cd _ (by omega) (by omega)).trans k2, b1, m, m2, k3.2 (XH_sub hX (by omega) (by omega) (by omega) (by omega) (by omega) (by omega) SB_rf), (cd _ (by omega) (by omega)).trans k4, (cd _ (by omega) (by omega)).trans k5, k6.2 (XH_sub hX (by omega) (by omega) (by omega) (by omega) (by omega) (by omega) SB_rf), (cd _ (by omega) (by omega)).trans k7, (cd _ (by omega) (by omega)).trans k8, k9⟩)))))))))
    · have w := CO_le k11.1
      exact .inr (.inr (.inr (.inr (.inr (.inr (.inr (.inr (.inr (.inr (.inl ⟨k1, (cd _ (by omega) (by omega)).trans k2, (cd _ (by omega) (by omega)).trans k3, (cd _ (by omega) (by omega)).trans k4, (cd _ (by omega) (by omega)).trans k5, (cd _ (by omega) (by omega)).trans k6, (cd _ (by omega) (by omega)).trans k7, (cd _ (by omega) (by omega)).trans k8, k9, k10, m, k11.2 (XH_sub hX (by omega) (by omega) (by omega) (by omega) (by omega) (by omega) SB_rf), (cd _ (by omega) (by omega)).trans k12, (cd _ (by omega) (by omega)).trans k13, k14⟩))))))))))
    · have w := CO_le k10.1
      exact .inr (.inr (.inr (.inr (.inr (.inr (.inr (.inr (.inr (.inr (.inr ⟨k1, (cd _ (by omega) (by omega)).trans k2, (cd _ (by omega) (by omega)).trans k3, (cd _ (by omega) (by omega)).trans k4, (cd _ (by omega) (by omega)).trans k5, (cd _ (by omega) (by omega)).trans k6, n, k7, k8, k9, k10.2 (XH_sub hX (by omega) (by omega) (by omega) (by omega) (by omega) (.inr (by omega)) SB_rf)⟩))))))))))
  · exact .inr (.inr (.inl k))
  · have w := CO_le h3.1
    have w2 := CO_le h4.1
    have w3 := (CO_rt h3.1 (by omega)).1
    have e4 : s2 104 x.toNat = s 104 x.toNat := hX.2.1 _ (by omega) (by omega) (by omega)
    refine .inr (.inr (.inr (.inl ⟨h1, n1, b1, m, h2, h3.2 (XH_sub hX (by omega) (by omega) (by omega) (by omega) (by omega) (by omega) SB_rf), ?_⟩)))
    rw [e4]
    exact h4.2 (XH_sub hX (by omega) (by omega) (by omega) (by omega) (by omega) (by omega) SB_rf)
  · have w := CO_le h3.1
    have w2 := CO_le h4.1
    have w3 := (CO_rt h3.1 (by omega)).1
    have e4 : s2 104 x.toNat = s 104 x.toNat := hX.2.1 _ (by omega) (by omega) (by omega)
    refine .inr (.inr (.inr (.inr (.inl ⟨h1, n1, b1, m, kk, h2, h3.2 (XH_sub hX (by omega) (by omega) (by omega) (by omega) (by omega) (by omega) SB_rf), ?_⟩))))
    rw [e4]
    exact h4.2 (XH_sub hX (by omega) (by omega) (by omega) (by omega) (by omega) (by omega) SB_rf)
  · have w := CO_le h3.1
    have w2 := CO_le h6.1
    have w3 := (CO_rt h3.1 (by omega)).1
    have e4 : s2 104 x.toNat = s 104 x.toNat := hX.2.1 _ (by omega) (by omega) (by omega)
    have cd := hX.2.2.1
    have cq := hX.2.2.2.1 h1
    refine .inr (.inr (.inr (.inr (.inr (.inl ⟨h1, n1, b1, m, kk, c1, c2, h2, h3.2 (XH_sub hX (by omega) (by omega) (by omega) (by omega) (by omega) (by omega) h7), (cd _ (by omega) (by omega)).trans h4, (cq _ (by omega) (by omega)).trans h5, ?_, h7, h8, h9, h10⟩)))))
    rw [e4]
    refine h6.2 ?_
    obtain ⟨u1, u2, u3, u4, u5, u6⟩ := XH_sub (md2 := 3) (n2 := n1) (a2 := b1) (b2 := b) (f2 := m + 1) (l2 := l) (q2 := q + 1) hX (by omega) (by omega) (by omega) (by omega) (by omega) (by omega) h8
    exact ⟨u1, fun j v1 v2 _ => u2 j v1 v2 (by omega), u3, fun _ i v1 v2 => cq i (by omega) (by omega), u5, u6⟩
  · have w := CO_le h3.1
    have w3 := (CO_rt h3.1 (by omega)).1
    have e4 : s2 104 x.toNat = s 104 x.toNat := hX.2.1 _ (by omega) (by omega) (by omega)
    exact .inr (.inr (.inr (.inr (.inr (.inr ⟨h1, h2, h3.2 (XH_sub hX (by omega) (by omega) (by omega) (by omega) (by omega) (by omega) SB_rf), e4.trans h4, h5⟩)))))
end COX
