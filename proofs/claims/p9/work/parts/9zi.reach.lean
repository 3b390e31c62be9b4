/-! What a part may touch. -/
theorem NC_sym {c d : Cxx} (h : NCx c d) : NCx d c := ⟨fun x q => h.1 x ⟨q.2, q.1⟩, fun v q => h.2.2.1 v ⟨q.2, q.1⟩, fun v q => h.2.1 v ⟨q.2, q.1⟩, fun k q => h.2.2.2 k ⟨q.2, q.1⟩⟩
theorem NC_sub {c d e : Cxx} (h : NCx d e) (hs : SBx c d) : NCx c e := ⟨fun x q => h.1 x ⟨hs.1 x q.1, q.2⟩, fun v q => h.2.1 v ⟨hs.2.2.1 v q.1, q.2⟩, fun v q => h.2.2.1 v ⟨hs.2.1 v q.1, q.2⟩, fun k q => h.2.2.2 k ⟨hs.2.2.2 k q.1, q.2⟩⟩
/-- along a row -/
def nth (s : tab) : Nat → Int → Int
  | 0, x => x
  | i + 1, x => nth s i (flx s x)
theorem nth_s {s : tab} : ∀ (i : Nat) (x : Int), nth s (i + 1) x = flx s (nth s i x)
  | 0, _ => rfl
  | i + 1, x => nth_s i (flx s x)
def CHx (R : Cxx → Nat → Prop) (c : Cxx) (x : Nat) (y : Int) : Prop := 0 ≤ y ∧ y < (x : Int) ∧ R c y.toNat
def EFk (s : tab) (R : Cxx → Nat → Prop) (c : Cxx) (x : Nat) : Prop :=
  (s 100 x = 400 → 0 ≤ s 101 x ∧ s 101 x < 24 ∧ c.2.1 (s 101 x).toNat) ∧
  (s 100 x = 401 → (0 ≤ s 101 x ∧ s 101 x < 6 ∧ c.2.1 (24 + (s 101 x).toNat)) ∧ CHx R c x (s 102 x)) ∧
  (s 100 x = 402 → CHx R c x (s 102 x)) ∧
  (s 100 x = 403 → CHx R c x (s 102 x) ∧ CHx R c x (s 103 x)) ∧
  (s 100 x = 404 → (0 ≤ s 101 x ∧ s 101 x < 12 ∧ c.2.2.2 (24 + (s 101 x).toNat)) ∧ (0 ≤ s 103 x ∧ s 103 x ≤ 4) ∧ (∀ i, i < (s 103 x).toNat → CHx R c x (nth s i (s 102 x))) ∧ (0 ≤ s 113 (s 101 x).toNat ∧ s 113 (s 101 x).toNat + s 103 x ≤ 24 ∧ ∀ i, i < (s 103 x).toNat → c.2.2.1 ((s 113 (s 101 x).toNat).toNat + i)) ∧ 0 ≤ s 114 (s 101 x).toNat ∧ ∀ i, 0 ≤ nth s i (s 114 (s 101 x).toNat) → CHx R c x (nth s i (s 114 (s 101 x).toNat))) ∧
  (s 100 x = 405 → (0 ≤ s 101 x ∧ s 101 x < 30 ∧ c.2.2.1 (s 101 x).toNat) ∧ CHx R c x (s 102 x) ∧ (s 103 x = -1 ∨ CHx R c x (s 103 x))) ∧
  (s 100 x = 406 → (0 ≤ s 101 x ∧ s 101 x < 12 ∧ c.2.2.2 (s 101 x).toNat) ∧ CHx R c x (s 102 x)) ∧
  (s 100 x = 407 → (0 ≤ s 101 x ∧ s 101 x < 12 ∧ c.2.2.2 (12 + (s 101 x).toNat)) ∧ (0 ≤ s 102 x ∧ s 102 x < 30 ∧ c.2.2.1 (s 102 x).toNat) ∧ (s 103 x = -1 ∨ CHx R c x (s 103 x))) ∧
  (s 100 x = 408 → 0 ≤ s 101 x ∧ ∀ i, 0 ≤ nth s i (s 101 x) → CHx R c x (nth s i (s 101 x))) ∧
  (s 100 x = 308 → CHx R c x (s 101 x) ∧ CHx R c x (s 102 x) ∧ (s 103 x = -1 ∨ CHx R c x (s 103 x))) ∧
  (s 100 x = 310 → CHx R c x (s 101 x) ∧ CHx R c x (s 102 x)) ∧
  (s 100 x = 311 → CHx R c x (s 102 x)) ∧
  (s 100 x = 312 → (2 ≤ s 102 x ∧ s 102 x ≤ 6) ∧ ∃ cs : Nat → Cxx, (∀ i, i < (s 102 x).toNat → SBx (cs i) c ∧ ¬ (cs i).1 x ∧ CHx R (cs i) x (nth s i (s 101 x))) ∧ ∀ i j, i < (s 102 x).toNat → j < (s 102 x).toNat → i ≠ j → NCx (cs i) (cs j))
/-- what is reached from x stays within c -/
def EFX (s : tab) : Nat → Cxx → Nat → Prop
  | 0, _, _ => False
  | n + 1, c, x => c.1 x ∧ (x : Int) < s 99 12 ∧ AUx c ∧ EFk s (EFX s n) c x
theorem EFk_mono {s : tab} {R R2 : Cxx → Nat → Prop} (hR : ∀ c x, R c x → R2 c x) {c : Cxx} {x : Nat} (h : EFk s R c x) : EFk s R2 c x := by
  have hc : ∀ {c : Cxx} {y : Int}, CHx R c x y → CHx R2 c x y := fun q => ⟨q.1, q.2.1, hR _ _ q.2.2⟩
  obtain ⟨h1, h2, h3, h4, h5, h6, h7, h8, h9, h10, h11, h12, h13⟩ := h
  refine ⟨h1, fun k => ⟨(h2 k).1, hc (h2 k).2⟩, fun k => hc (h3 k), fun k => ⟨hc (h4 k).1, hc (h4 k).2⟩, fun k => ?_, fun k => ⟨(h6 k).1, hc (h6 k).2.1, (h6 k).2.2.imp id hc⟩, fun k => ⟨(h7 k).1, hc (h7 k).2⟩, fun k => ⟨(h8 k).1, (h8 k).2.1, (h8 k).2.2.imp id hc⟩, fun k => ⟨(h9 k).1, fun i q => hc ((h9 k).2 i q)⟩, fun k => ⟨hc (h10 k).1, hc (h10 k).2.1, (h10 k).2.2.imp id hc⟩, fun k => ⟨hc (h11 k).1, hc (h11 k).2⟩, fun k => hc (h12 k), fun k => ?_⟩
  · obtain ⟨a1, a2, a3, a4, a5, a6⟩ := h5 k
    exact ⟨a1, a2, fun i q => hc (a3 i q), a4, a5, fun i q => hc (a6 i q)⟩
  · obtain ⟨a1, cs, a2, a3⟩ := h13 k
    exact ⟨a1, cs, fun i q => ⟨(a2 i q).1, (a2 i q).2.1, hc (a2 i q).2.2⟩, a3⟩
theorem EFX_s {s : tab} : ∀ (n : Nat) (c : Cxx) (x : Nat), EFX s n c x → EFX s (n + 1) c x
  | 0, _, _, h => absurd h (fun q => q)
  | n + 1, c, x, h => ⟨h.1, h.2.1, h.2.2.1, EFk_mono (fun c x q => EFX_s n c x q) h.2.2.2⟩
theorem EFX_le {s : tab} {n m : Nat} (h : n ≤ m) {c : Cxx} {x : Nat} (hx : EFX s n c x) : EFX s m c x := by
  induction h with
  | refl => exact hx
  | step _ ih => exact EFX_s _ _ _ ih
/-- for some fuel -/
def EF (s : tab) (c : Cxx) (x : Nat) : Prop := ∃ n, EFX s n c x
theorem nth_ext {s s2 : tab} (h : ∀ k j, 99 ≤ k ∧ k ≤ 114 → s2 k j = s k j) : ∀ (i : Nat) (x : Int), nth s2 i x = nth s i x
  | 0, _ => rfl
  | i + 1, x => by
    show nth s2 i (flx s2 x) = nth s i (flx s x)
    have e : flx s2 x = flx s x := by
      unfold flx
      rw [h 99 12 (by omega), h 104 _ (by omega)]
    rw [e]
    exact nth_ext h i _
theorem EFk_ext {s s2 : tab} (h : ∀ k j, 99 ≤ k ∧ k ≤ 114 → s2 k j = s k j) {R : Cxx → Nat → Prop} {c : Cxx} {x : Nat} (hx : EFk s R c x) : EFk s2 R c x := by
  unfold EFk
  simp only [h 100 _ (by omega), h 101 _ (by omega), h 102 _ (by omega), h 103 _ (by omega), h 113 _ (by omega), h 114 _ (by omega), nth_ext h]
  exact hx
theorem EFX_ext {s s2 : tab} (h : ∀ k j, 99 ≤ k ∧ k ≤ 114 → s2 k j = s k j) : ∀ (n : Nat) (c : Cxx) (x : Nat), EFX s n c x → EFX s2 n c x
  | 0, _, _, q => q
  | n + 1, c, x, q => ⟨q.1, by rw [h 99 12 (by omega)]; exact q.2.1, q.2.2.1, EFk_ext h (EFk_mono (fun c x q => EFX_ext h n c x q) q.2.2.2)⟩
theorem EF_ext {s s2 : tab} (h : ∀ k j, 99 ≤ k ∧ k ≤ 114 → s2 k j = s k j) {c : Cxx} {x : Nat} (q : EF s c x) : EF s2 c x := ⟨q.choose, EFX_ext h _ c x q.choose_spec⟩
/-- one level down -/
theorem EF_k {s : tab} {c : Cxx} {x : Nat} (h : EF s c x) : c.1 x ∧ (x : Int) < s 99 12 ∧ AUx c ∧ EFk s (EF s) c x := by
  obtain ⟨n, hn⟩ := h
  cases n with
  | zero => exact absurd hn (fun q => q)
  | succ n => exact ⟨hn.1, hn.2.1, hn.2.2.1, EFk_mono (fun c x q => ⟨n, q⟩) hn.2.2.2⟩
