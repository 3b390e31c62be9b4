/-! Parts and code of the same text: what is reached stays within bounds. -/
section STATIC
variable {s t : tab} {G : Gmx}
theorem nth_m1 : ∀ i : Nat, nth s i (-1) = -1
  | 0 => rfl
  | i + 1 => by
    show nth s i (flx s (-1)) = -1
    rw [show flx s (-1) = -1 from if_neg (by omega)]
    exact nth_m1 i
/-- reached from y, within d -/
def EYq (s : tab) (c : Cxx) (y : Int) : Prop := ∀ d, SBx c d → AUx d → EFX s (y.toNat + 1) d y.toNat
/-- a known routine's body -/
def BOD (s : tab) (G : Gmx) (r : Nat) : Prop := 0 ≤ s 114 r ∧ ∀ i, 0 ≤ nth s i (s 114 r) → (G.2.1 r).1 (nth s i (s 114 r)).toNat ∧ EYq s (G.2.1 r) (nth s i (s 114 r))
def EQx (s : tab) : COt := fun md n a b x _ _ _ _ _ c =>
  (md ≤ 1 → EYq s c x) ∧
  ((md = 2 ∨ md = 3) → (∀ i, i < n → (a : Int) ≤ nth s i x ∧ nth s i x < (b : Int) ∧ c.1 (nth s i x).toNat ∧ EYq s c (nth s i x)) ∧ nth s n x = -1) ∧
  (md = 5 → (∀ i, i < n + 1 → (a : Int) ≤ nth s i x ∧ nth s i x < (b : Int) ∧ c.1 (nth s i x).toNat ∧ EYq s c (nth s i x)) ∧ nth s (n + 1) x = -1) ∧
  (md = 4 → ∃ cs : Nat → Cxx, (∀ i, i < n → SBx (cs i) c ∧ (∀ z, (cs i).1 z → z < b) ∧ (a : Int) ≤ nth s i x ∧ nth s i x < (b : Int) ∧ AUx (cs i) ∧ EYq s (cs i) (nth s i x)) ∧ ∀ i j, i < n → j < n → i ≠ j → NCx (cs i) (cs j))
theorem CH_of {c d : Cxx} {x : Nat} {y : Int} (h : EYq s c y) (hs : SBx c d) (ha : AUx d) (h0 : 0 ≤ y) (h1 : y < (x : Int)) : CHx (EFX s x) d x y := ⟨h0, h1, EFX_le (by omega) (h d hs ha)⟩
theorem CO_EF {N : Nat} (hB : ∀ r, r < N → BOD s G r) {md n a b f l k0 k1 q : Nat} {x : Int} {c : Cxx} (h : CO s t G md n a b x f l k0 k1 q c) (hC : ∀ r, c.2.2.2 (24 + r) → r < N ∨ SBx c (G.2.1 r)) : EQx s md n a b x f l k0 k1 q c := by
  refine CO_ind (Q := fun md n a b x f l k0 k1 q c => (∀ r, c.2.2.2 (24 + r) → r < N ∨ SBx c (G.2.1 r)) → EQx s md n a b x f l k0 k1 q c) ?_ h hC
  intro md n a b x f l k0 k1 q c h0 k hC
  have call : ∀ (y : Nat) (d : Cxx), y + 1 = b → c.1 y → SBx c d → AUx d → CLk s t G (fun md n a b x f l k0 k1 q c => CO s t G md n a b x f l k0 k1 q c ∧ ((∀ r, c.2.2.2 (24 + r) → r < N ∨ SBx c (G.2.1 r)) → EQx s md n a b x f l k0 k1 q c)) a y f l c → (0 ≤ s 101 y ∧ s 101 y < 12 ∧ d.2.2.2 (24 + (s 101 y).toNat)) ∧ (0 ≤ s 103 y ∧ s 103 y ≤ 4) ∧ (∀ i, i < (s 103 y).toNat → CHx (EFX s y) d y (nth s i (s 102 y))) ∧ (0 ≤ s 113 (s 101 y).toNat ∧ s 113 (s 101 y).toNat + s 103 y ≤ 24 ∧ ∀ i, i < (s 103 y).toNat → d.2.2.1 ((s 113 (s 101 y).toNat).toNat + i)) ∧ 0 ≤ s 114 (s 101 y).toNat ∧ ∀ i, 0 ≤ nth s i (s 114 (s 101 y).toNat) → CHx (EFX s y) d y (nth s i (s 114 (s 101 y).toNat)) := fun y d hyb hcy hs ha k => by
    obtain ⟨r, n, m, h1, h2, h3, h4, h5, h6, h7, h8, h9, h10, h11, h12, h13, h14, h15, h16⟩ := k
    have hl := CO_le h6.1
    have hr : r < N := by
      rcases hC r h11 with q | q
      · exact q
      · have := h16 y (q.1 y hcy)
        omega
    obtain ⟨b1, b2⟩ := hB r hr
    obtain ⟨e1, e2⟩ := (h6.2 hC).2.1 (.inl rfl)
    rw [h1, h3, Int.toNat_natCast, Int.toNat_natCast]
    refine ⟨⟨by omega, by omega, hs.2.2.2 _ h11⟩, ⟨by omega, by omega⟩, fun i hi => ?_, ⟨h13, h14, fun i hi => hs.2.2.1 _ (h15 i hi)⟩, b1, fun i hi => ?_⟩
    · obtain ⟨w1, w2, _, w3⟩ := e1 i hi
      exact CH_of w3 hs ha (by omega) w2
    · obtain ⟨w1, w2⟩ := b2 i hi
      have := h16 _ w1
      exact CH_of w2 (SB_tr h12 hs) ha hi (by omega)
  rcases k with ⟨h1, h2, h3, h4, h5, h6, k⟩ | ⟨h1, h2, h3, h4, h5, h6, k⟩ | k | ⟨h1, n1, b1, m, h2, h3, h4⟩ | ⟨h1, n1, b1, m, kk, h2, h3, h4⟩ | ⟨h1, n1, b1, m, kk, c1, c2, h2, h3, h4, h5, h6, h7, h8, h9, h10⟩ | ⟨h1, h2, h3, h4, h5⟩
  · refine ⟨fun _ d hs ha => ?_, fun w => by omega, fun w => by omega, fun w => by omega⟩
    obtain ⟨y, rfl⟩ : ∃ y : Nat, x = (y : Int) := ⟨x.toNat, by omega⟩
    rw [Int.toNat_natCast] at k h6 ⊢
    refine ⟨hs.1 _ h6, by omega, ha, ?_⟩
    have ch : ∀ {a2 b2 f2 l2 : Nat} {z : Int}, b2 ≤ y → CO s t G 0 0 a2 b2 z f2 l2 0 0 0 c ∧ ((∀ r, c.2.2.2 (24 + r) → r < N ∨ SBx c (G.2.1 r)) → EQx s 0 0 a2 b2 z f2 l2 0 0 0 c) → CHx (EFX s y) d y z := fun hb w => by
      have r1 := (CO_rt w.1 (by omega)).1
      have l1 := (CO_le w.1).2.2 (by omega)
      exact CH_of ((w.2 hC).1 (by omega)) hs ha (by omega) (by omega)
    unfold EFk
    rcases k with ⟨k1, _⟩ | ⟨k1, k2, k3, k4, k5, k6, k7, k8, k9⟩ | ⟨k1, k2, ⟨m, k3, k4⟩, k7, k8, k9⟩ | ⟨k1, m, k2, k3⟩ | ⟨k1, b1, m1, m2, k2, k3, k4⟩ | ⟨k1, k2, k3⟩
    · exact ⟨fun w => by omega, fun w => by omega, fun w => by omega, fun w => by omega, fun w => by omega, fun w => by omega, fun w => by omega, fun w => by omega, fun w => by omega, fun w => by omega, fun w => by omega, fun w => by omega, fun w => by omega⟩
    · exact ⟨fun w => ⟨k7, k8, hs.2.1 _ k9⟩, fun w => by omega, fun w => by omega, fun w => by omega, fun w => by omega, fun w => by omega, fun w => by omega, fun w => by omega, fun w => by omega, fun w => by omega, fun w => by omega, fun w => by omega, fun w => by omega⟩
    · exact ⟨fun w => by omega, fun w => ⟨⟨k7, k8, hs.2.1 _ k9⟩, ch (Nat.le_refl _) k3⟩, fun w => by omega, fun w => by omega, fun w => by omega, fun w => by omega, fun w => by omega, fun w => by omega, fun w => by omega, fun w => by omega, fun w => by omega, fun w => by omega, fun w => by omega⟩
    · exact ⟨fun w => by omega, fun w => by omega, fun w => ch (Nat.le_refl _) k2, fun w => by omega, fun w => by omega, fun w => by omega, fun w => by omega, fun w => by omega, fun w => by omega, fun w => by omega, fun w => by omega, fun w => by omega, fun w => by omega⟩
    · have := CO_le k3.1
      exact ⟨fun w => by omega, fun w => by omega, fun w => by omega, fun w => ⟨ch (by omega) k2, ch (Nat.le_refl _) k3⟩, fun w => by omega, fun w => by omega, fun w => by omega, fun w => by omega, fun w => by omega, fun w => by omega, fun w => by omega, fun w => by omega, fun w => by omega⟩
    · exact ⟨fun w => by omega, fun w => by omega, fun w => by omega, fun w => by omega, fun w => call y d (by omega) h6 hs ha k2, fun w => by omega, fun w => by omega, fun w => by omega, fun w => by omega, fun w => by omega, fun w => by omega, fun w => by omega, fun w => by omega⟩
  · refine ⟨fun _ d hs ha => ?_, fun w => by omega, fun w => by omega, fun w => by omega⟩
    obtain ⟨y, rfl⟩ : ∃ y : Nat, x = (y : Int) := ⟨x.toNat, by omega⟩
    rw [Int.toNat_natCast] at k h6 ⊢
    rcases k with ⟨k1, k2⟩ | k
    · have := (k2.2 hC).1 (by omega) d hs ha
      rw [Int.toNat_natCast] at this
      exact this
    refine ⟨hs.1 _ h6, by omega, ha, ?_⟩
    have ch : ∀ {md2 a2 b2 f2 l2 k2 k3 : Nat} {z : Int}, md2 ≤ 1 → b2 ≤ y → CO s t G md2 0 a2 b2 z f2 l2 k2 k3 0 c ∧ ((∀ r, c.2.2.2 (24 + r) → r < N ∨ SBx c (G.2.1 r)) → EQx s md2 0 a2 b2 z f2 l2 k2 k3 0 c) → CHx (EFX s y) d y z := fun hm hb w => by
      have r1 := (CO_rt w.1 hm).1
      have l1 := (CO_le w.1).2.2 hm
      exact CH_of ((w.2 hC).1 hm) hs ha (by omega) (by omega)
    unfold EFk
    rcases k with ⟨k1, _⟩ | ⟨k1, k2, n2, k3, k4⟩ | ⟨k1, k2, k3, k4, ⟨m, k5, k6⟩, k7, k8, k9⟩ | ⟨k1, k2, k3, ⟨b1, m1, m2, k4, k5, k6⟩, k7, k8, k9⟩ | ⟨k1, k2, k3, ⟨m, k4, k5⟩, k7, k8, k9⟩ | ⟨k1, k2, k3, ⟨m, k4, k5⟩, k7, k8, k9, k10⟩ | ⟨k1, k2, k3, k4⟩ | ⟨k1, k2, b1, m, m2, k3, k4, k5⟩ | ⟨k1, k2, b1, m, m2, k3, k4, k5, k6, k7⟩ | ⟨k1, k2, k3, k4, k5, k6, k7, k8, k9, k10, m, k11, k12⟩ | ⟨k1, k2, k3, k4, k5, k6, n2, k7, k8, k9, k10⟩
    · exact ⟨fun w => by omega, fun w => by omega, fun w => by omega, fun w => by omega, fun w => by omega, fun w => by omega, fun w => by omega, fun w => by omega, fun w => by omega, fun w => by omega, fun w => by omega, fun w => by omega, fun w => by omega⟩
    · refine ⟨fun w => by omega, fun w => by omega, fun w => by omega, fun w => by omega, fun w => by omega, fun w => by omega, fun w => by omega, fun w => by omega, fun _ => ?_, fun w => by omega, fun w => by omega, fun w => by omega, fun w => by omega⟩
      obtain ⟨e1, e2⟩ := (k4.2 hC).2.1 (.inr rfl)
      have z0 := (e1 0 (by omega)).1
      refine ⟨by have : nth s 0 (s 101 y) = s 101 y := rfl; omega, fun i hi => ?_⟩
      have hin : i < n2 := by
        rcases Nat.lt_or_ge i n2 with q | q
        · exact q
        · exfalso
          obtain ⟨j, rfl⟩ : ∃ j, i = n2 + j := ⟨i - n2, by omega⟩
          have : nth s (n2 + j) (s 101 y) = -1 := by
            have hh : ∀ (p : Nat) (z : Int), nth s (p + j) z = nth s j (nth s p z) := fun p => by
              induction p with
              | zero => intro z; rw [Nat.zero_add]; rfl
              | succ p ih => intro z; rw [show p + 1 + j = (p + j) + 1 by omega]; exact ih (flx s z)
            rw [hh, e2]
            exact nth_m1 j
          omega
      obtain ⟨w1, w2, _, w3⟩ := e1 i hin
      exact CH_of w3 hs ha hi w2
    · exact ⟨fun w => by omega, fun w => by omega, fun w => by omega, fun w => by omega, fun w => by omega, fun w => ⟨⟨k7, by omega, hs.2.2.1 _ k9⟩, ch (by omega) (Nat.le_refl _) k5, .inl k4⟩, fun w => by omega, fun w => by omega, fun w => by omega, fun w => by omega, fun w => by omega, fun w => by omega, fun w => by omega⟩
    · have := CO_le k5.1
      exact ⟨fun w => by omega, fun w => by omega, fun w => by omega, fun w => by omega, fun w => by omega, fun w => ⟨⟨by omega, k8, hs.2.2.1 _ k9⟩, ch (by omega) (Nat.le_refl _) k5, .inr (ch (by omega) (by omega) k4)⟩, fun w => by omega, fun w => by omega, fun w => by omega, fun w => by omega, fun w => by omega, fun w => by omega, fun w => by omega⟩
    · exact ⟨fun w => by omega, fun w => by omega, fun w => by omega, fun w => by omega, fun w => by omega, fun w => by omega, fun w => ⟨⟨k7, k8, hs.2.2.2 _ k9⟩, ch (by omega) (Nat.le_refl _) k4⟩, fun w => by omega, fun w => by omega, fun w => by omega, fun w => by omega, fun w => by omega, fun w => by omega⟩
    · refine ⟨fun w => by omega, fun w => by omega, fun w => by omega, fun w => by omega, fun w => by omega, fun w => by omega, fun w => by omega, fun w => ⟨⟨k7, k8, hs.2.2.2 _ k9⟩, ?_, ?_⟩, fun w => by omega, fun w => by omega, fun w => by omega, fun w => by omega, fun w => by omega⟩
      · rcases k4 with k4 | k4
        · exact ⟨by omega, by omega, hs.2.2.1 _ k10⟩
        · exact ⟨by omega, by omega, hs.2.2.1 _ k10⟩
      · rcases k4 with k4 | k4
        · exact .inl k4.1
        · exact .inr (ch (by omega) (Nat.le_refl _) k4.1)
    · exact ⟨fun w => by omega, fun w => by omega, fun w => by omega, fun w => by omega, fun w => call y d (by omega) h6 hs ha k2, fun w => by omega, fun w => by omega, fun w => by omega, fun w => by omega, fun w => by omega, fun w => by omega, fun w => by omega, fun w => by omega⟩
    · refine ⟨fun w => by omega, fun w => by omega, fun w => by omega, fun w => by omega, fun w => by omega, fun w => by omega, fun w => by omega, fun w => by omega, fun w => by omega, fun _ => ?_, fun w => by omega, fun w => by omega, fun w => by omega⟩
      rcases k5 with ⟨w1, w2, w3⟩ | ⟨b2, kk, w1, w2, w3⟩
      · have := CO_le w2.1
        exact ⟨ch (by omega) (by omega) k3, ch (by omega) (Nat.le_refl _) w2, .inl w1⟩
      · have := CO_le w1.1
        have := CO_le w2.1
        exact ⟨ch (by omega) (by omega) k3, ch (by omega) (by omega) w1, .inr (ch (by omega) (Nat.le_refl _) w2)⟩
    · have := CO_le k6.1
      exact ⟨fun w => by omega, fun w => by omega, fun w => by omega, fun w => by omega, fun w => by omega, fun w => by omega, fun w => by omega, fun w => by omega, fun w => by omega, fun w => by omega, fun w => ⟨ch (by omega) (by omega) k3, ch (by omega) (Nat.le_refl _) k6⟩, fun w => by omega, fun w => by omega⟩
    · exact ⟨fun w => by omega, fun w => by omega, fun w => by omega, fun w => by omega, fun w => by omega, fun w => by omega, fun w => by omega, fun w => by omega, fun w => by omega, fun w => by omega, fun w => by omega, fun w => ch (by omega) (Nat.le_refl _) k11, fun w => by omega⟩
    · refine ⟨fun w => by omega, fun w => by omega, fun w => by omega, fun w => by omega, fun w => by omega, fun w => by omega, fun w => by omega, fun w => by omega, fun w => by omega, fun w => by omega, fun w => by omega, fun w => by omega, fun _ => ⟨⟨by omega, by omega⟩, ?_⟩⟩
      obtain ⟨cs, e1, e2⟩ := (k10.2 hC).2.2.2 rfl
      rw [k7, Int.toNat_natCast]
      refine ⟨cs, fun i hi => ?_, e2⟩
      obtain ⟨w1, w2, w3, w4, w5, w6⟩ := e1 i hi
      exact ⟨SB_tr w1 hs, fun w => by have := w2 _ w; omega, CH_of w6 SB_rf w5 (by omega) w4⟩
  · refine ⟨fun w => by omega, fun w => ⟨fun i hi => by omega, ?_⟩, fun w => by omega, fun w => ⟨fun _ => c, fun i hi => by omega, fun i j hi => by omega⟩⟩
    rw [k.2.1, k.2.2.2.2.1]
    rfl
  · refine ⟨fun w => by omega, fun _ => ?_, fun w => by omega, fun w => by omega⟩
    have r1 := CO_rt h3.1 (by omega)
    have l1 := (CO_le h3.1).2.2 (by omega)
    have l2 := CO_le h4.1
    obtain ⟨e1, e2⟩ := (h4.2 hC).2.1 (.inl rfl)
    have hf : flx s x = s 104 x.toNat := if_pos (by omega)
    rw [← hf] at e1 e2
    subst h2
    refine ⟨fun i hi => ?_, e2⟩
    cases i with
    | zero => exact ⟨by show (a : Int) ≤ x; omega, by show x < (b : Int); omega, r1.2.2.2, (h3.2 hC).1 (by omega)⟩
    | succ i =>
      obtain ⟨w1, w2, w3⟩ := e1 i (by omega)
      exact ⟨by show (a : Int) ≤ nth s i (flx s x); omega, w2, w3⟩
  · have r1 := CO_rt h3.1 (by omega)
    have l1 := (CO_le h3.1).2.2 (by omega)
    have l2 := CO_le h4.1
    have hf : flx s x = s 104 x.toNat := if_pos (by omega)
    subst h2
    have key : ∀ N2, (∀ i, i < N2 → (b1 : Int) ≤ nth s i (s 104 x.toNat) ∧ nth s i (s 104 x.toNat) < (b : Int) ∧ c.1 (nth s i (s 104 x.toNat)).toNat ∧ EYq s c (nth s i (s 104 x.toNat))) → nth s N2 (s 104 x.toNat) = -1 → (∀ i, i < N2 + 1 → (a : Int) ≤ nth s i x ∧ nth s i x < (b : Int) ∧ c.1 (nth s i x).toNat ∧ EYq s c (nth s i x)) ∧ nth s (N2 + 1) x = -1 := fun N2 e1 e2 => by
      rw [← hf] at e1 e2
      refine ⟨fun i hi => ?_, e2⟩
      cases i with
      | zero => exact ⟨by show (a : Int) ≤ x; omega, by show x < (b : Int); omega, r1.2.2.2, (h3.2 hC).1 (by omega)⟩
      | succ i =>
        obtain ⟨w1, w2, w3⟩ := e1 i (by omega)
        exact ⟨by show (a : Int) ≤ nth s i (flx s x); omega, w2, w3⟩
    refine ⟨fun w => by omega, fun w => ?_, fun w => ?_, fun w => by omega⟩
    · obtain ⟨e1, e2⟩ := (h4.2 hC).2.1 w
      exact key n1 e1 e2
    · obtain ⟨e1, e2⟩ := (h4.2 hC).2.2.1 w
      exact key (n1 + 1) e1 e2
  · refine ⟨fun w => by omega, fun w => by omega, fun w => by omega, fun _ => ?_⟩
    have r1 := CO_rt h3.1 (by omega)
    have l1 := (CO_le h3.1).2.2 (by omega)
    have l2 := CO_le h6.1
    have hf : flx s x = s 104 x.toNat := if_pos (by omega)
    have hsub : ∀ {d : Cxx}, SBx d c → ∀ r, d.2.2.2 (24 + r) → r < N ∨ SBx d (G.2.1 r) := fun hd r hr => (hC r (hd.2.2.2 _ hr)).imp id (fun w => SB_tr hd w)
    obtain ⟨cs, e1, e2⟩ := (h6.2 (hsub h8)).2.2.2 rfl
    rw [← hf] at e1
    subst h2
    refine ⟨fun i => match i with | 0 => c1 | j + 1 => cs j, fun i hi => ?_, fun i j hi hj hij => ?_⟩
    · cases i with
      | zero => exact ⟨h7, h10, by show (a : Int) ≤ x; omega, by show x < (b : Int); omega, r1.2.2.1, (h3.2 (hsub h7)).1 (by omega)⟩
      | succ i =>
        obtain ⟨w1, w2, w3, w4, w5, w6⟩ := e1 i (by omega)
        exact ⟨SB_tr w1 h8, w2, by show (a : Int) ≤ nth s i (flx s x); omega, w4, w5, w6⟩
    · cases i with
      | zero =>
        cases j with
        | zero => exact absurd rfl hij
        | succ j => exact NC_sym (NC_sub (NC_sym h9) (e1 j (by omega)).1)
      | succ i =>
        cases j with
        | zero => exact NC_sub (NC_sym h9) (e1 i (by omega)).1
        | succ j => exact e2 i j (by omega) (by omega) (by omega)
  · have r1 := CO_rt h3.1 (by omega)
    have l1 := (CO_le h3.1).2.2 (by omega)
    have hf : flx s x = s 104 x.toNat := if_pos (by omega)
    refine ⟨fun w => by omega, fun w => by omega, fun _ => ⟨fun i hi => ?_, ?_⟩, fun w => by omega⟩
    · have : i = 0 := by omega
      subst this
      exact ⟨by show (a : Int) ≤ x; omega, by show x < (b : Int); omega, r1.2.2.2, (h3.2 hC).1 (by omega)⟩
    · subst h2
      show flx s x = -1
      rw [hf]
      exact h4
end STATIC
/-- bodies of known routines -/
theorem PG_B {s t : tab} {H : Gmx × (Nat → Nat)} {B : Nat} (h : ∀ r : Nat, (r : Int) < s 109 5 → RVx H.1 B s t r ∧ RTB H s t r ∧ H.2 r ≤ H.2 (r + 1)) (h21 : t 170 21 = -1) : ∀ r : Nat, (r : Int) < s 109 5 → BOD s H.1 r := by
  intro r
  induction r using Nat.strongRecOn with
  | _ r ih =>
    intro hr
    obtain ⟨v, w, _⟩ := h r hr
    obtain ⟨n, a, b, l, w1, w2, w3, w4, w5, w6, w7⟩ := w h21
    have hC : ∀ k, (H.1.2.1 r).2.2.2 (24 + k) → k < r ∨ SBx (H.1.2.1 r) (H.1.2.1 k) := fun k hk => by
      have := RV_ca v k hk
      by_cases e : k = r
      · subst e
        exact .inr SB_rf
      · exact .inl (by omega)
    refine ⟨w6, fun i hi => ?_⟩
    by_cases hf : H.1.2.2 r
    · obtain ⟨e1, e2⟩ := (CO_EF (N := r) (fun k hk => ih k hk (by omega)) (w1 hf) hC).2.2.1 rfl
      have hin : i < n + 1 := by
        rcases Nat.lt_or_ge i (n + 1) with q | q
        · exact q
        · exfalso
          obtain ⟨j, rfl⟩ : ∃ j, i = n + 1 + j := ⟨i - (n + 1), by omega⟩
          have hh : ∀ (p : Nat) (z : Int), nth s (p + j) z = nth s j (nth s p z) := fun p => by
            induction p with
            | zero => intro z; rw [Nat.zero_add]; rfl
            | succ p ih => intro z; rw [show p + 1 + j = (p + j) + 1 by omega]; exact ih (flx s z)
          rw [hh, e2, nth_m1] at hi
          omega
      obtain ⟨_, _, z3, z4⟩ := e1 i hin
      exact ⟨z3, z4⟩
    · have q := (CO_EF (N := r) (fun k hk => ih k hk (by omega)) (w2 hf).1 hC).1 (by omega)
      have rt := CO_rt (w2 hf).1 (by omega)
      cases i with
      | zero => exact ⟨rt.2.2.2, q⟩
      | succ i =>
        exfalso
        have e : nth s (i + 1) (s 114 r) = nth s i (flx s (s 114 r)) := rfl
        rw [e, show flx s (s 114 r) = s 104 (s 114 r).toNat from if_pos (by omega), (w2 hf).2, nth_m1] at hi
        omega
/-- what is reached from a program's BLOCK -/
theorem PG_EF {s t : tab} (h : PGx s t) : ∃ c, EF s c (s 99 13).toNat ∧ 0 ≤ s 99 13 ∧ s 99 13 < s 99 12 ∧ s 99 12 ≤ 2000 := by
  obtain ⟨H, B, b, l, k1, c, h1, h2, h3, ⟨h4, h5, h6, h7, h8, h9, h10, h11⟩, h12, h13, h14, h15, h16, _⟩ := h
  have rt := CO_rt h2 (by omega)
  have q := (CO_EF (N := (s 109 5).toNat) (fun r hr => PG_B h1 h16 r (by omega)) h2 (fun r hr => .inl (by have := h12.1 r hr; omega))).1 (by omega)
  exact ⟨c, ⟨_, q c SB_rf rt.2.2.1⟩, h10, by omega, h6⟩
