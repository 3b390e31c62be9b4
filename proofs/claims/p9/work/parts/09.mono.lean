/-- the counts never fall -/
def hm_up (g g2 : hm_G) : Prop := g.2.1 ≤ g2.2.1 ∧ g.2.2 ≤ g2.2.2
def hm_upR (g : hm_G) (r : hm_R) : Prop := (∀ s2, r = some (.inl s2) → hm_up g s2.2.2.2) ∧ ∀ g2 out, r = some (.inr (g2, out)) → hm_up g g2
theorem hm_up_rf {g : hm_G} : hm_up g g := ⟨Nat.le_refl _, Nat.le_refl _⟩
theorem hm_upR_none {g : hm_G} : hm_upR g none := ⟨(fun _ h => by cases h), (fun _ _ h => by cases h)⟩
theorem hm_upR_l {g : hm_G} {s2 : hm_S} (h : hm_up g s2.2.2.2) : hm_upR g (some (.inl s2)) := ⟨(fun _ e => by cases e; exact h), (fun _ _ e => by cases e)⟩
theorem hm_upR_r {g g2 : hm_G} {out : hm_Out} (h : hm_up g g2) : hm_upR g (some (.inr (g2, out))) := ⟨(fun _ e => by cases e), (fun _ _ e => by cases e; exact h)⟩
theorem hm_upR_map {α : Type} {g : hm_G} {o : Option α} {f : α → hm_S ⊕ (hm_G × hm_Out)} (h : ∀ a, hm_upR g (some (f a))) : hm_upR g (o.map f) := by
  cases o with
  | none => exact hm_upR_none
  | some a => exact h a
theorem hm_up_pu {len : Nat} {g : hm_G} {r : Option (Nat × hm_P)} : hm_upR g (hm_pu len g r) := by
  unfold hm_pu
  split
  · split
    · exact hm_upR_l hm_up_rf
    · exact hm_upR_none
  · exact hm_upR_none
section MONO
variable {G : hm_T} {call : Nat → List Value → hm_G → Option (hm_G × hm_Out)} {M : hm_M} {o : hm_O} {pc : Nat} {lv : List (Nat × Value)} {st : List Value} {g : hm_G}
theorem hm_up_F : hm_upR g (hm_dF G M o pc lv st g) := by
  unfold hm_dF
  split
  · exact hm_upR_none
  · split
    · split
      · split
        · exact hm_upR_map fun a => hm_upR_l hm_up_rf
        · exact hm_upR_none
      · split
        · exact hm_upR_none
        · split
          · exact hm_upR_map fun a => hm_upR_l hm_up_rf
          · exact hm_upR_none
      · exact hm_upR_none
    · exact hm_upR_none
theorem hm_up_G : hm_upR g (hm_dG G M o pc lv st g) := by
  unfold hm_dG
  split
  · exact hm_upR_none
  · split
    · exact hm_upR_map fun a => hm_upR_l hm_up_rf
    · exact hm_upR_none
theorem hm_up_A : hm_upR g (hm_dA G o pc lv st g) := by
  unfold hm_dA
  split
  · split
    · exact hm_upR_map fun a => hm_upR_l hm_up_rf
    · exact hm_upR_map fun a => hm_upR_l hm_up_rf
    · split
      · exact hm_upR_map fun a => hm_upR_l hm_up_rf
      · exact hm_upR_none
    · split
      · exact hm_upR_map fun a => hm_upR_l hm_up_rf
      · exact hm_upR_none
    · exact hm_upR_none
  · exact hm_upR_none
theorem hm_up_N : hm_upR g (hm_dN G M o pc lv st g) := by
  unfold hm_dN
  split
  · split
    · exact hm_upR_none
    · split
      · exact hm_upR_none
      · split
        · exact hm_upR_l ⟨Nat.le_add_right _ _, Nat.le_add_right _ _⟩
        · exact hm_upR_none
  · split
    · split
      · exact hm_upR_l ⟨Nat.le_add_right _ _, Nat.le_add_right _ _⟩
      · exact hm_upR_none
    · exact hm_upR_none
  · split
    · split
      · exact hm_upR_l ⟨Nat.le_add_right _ _, Nat.le_add_right _ _⟩
      · exact hm_upR_none
    · exact hm_upR_none
  · split
    · split
      · exact hm_upR_l ⟨by show g.2.1 ≤ g.2.1 + 1 + _; omega, by show g.2.2 ≤ g.2.2 + _ + _; omega⟩
      · exact hm_upR_none
    · exact hm_upR_none
  · exact hm_upR_none
theorem hm_up_K : hm_upR g (hm_dK G M o pc lv st g) := by
  unfold hm_dK
  split
  · exact hm_upR_none
  · split
    · split
      · split
        · exact hm_upR_l hm_up_rf
        · exact hm_upR_none
      · split
        · exact hm_upR_l hm_up_rf
        · exact hm_upR_none
      · exact hm_upR_none
    · exact hm_upR_none
theorem hm_up_T : hm_upR g (hm_dT G M o pc lv st g) := by
  unfold hm_dT
  split
  · exact hm_upR_none
  · split
    · exact hm_upR_l hm_up_rf
    · exact hm_upR_none
theorem hm_up_Z : hm_upR g (hm_dZ G M o pc lv st g) := by
  unfold hm_dZ
  split
  · exact hm_upR_none
  · split
    · exact hm_upR_l hm_up_rf
    · exact hm_upR_none
theorem hm_up_back {rest : List Value} {r : Option (hm_G × hm_Out)} (hr : ∀ g2 out, r = some (g2, out) → hm_up g g2) : hm_upR g (hm_back M pc lv rest r) := by
  unfold hm_back
  split
  · exact hm_upR_none
  · exact hm_upR_l (hr _ _ rfl)
  · split
    · exact hm_upR_r (hr _ _ rfl)
    · split
      · exact hm_upR_l (hr _ _ rfl)
      · exact hm_upR_none
    · exact hm_upR_none
theorem hm_up_C (hc : ∀ i vs g g2 out, call i vs g = some (g2, out) → hm_up g g2) : hm_upR g (hm_dC G call M o pc lv st g) := by
  unfold hm_dC
  split
  · exact hm_upR_none
  · split
    · split
      · split
        · exact hm_up_back fun g2 out e => hc _ _ _ _ _ e
        · exact hm_upR_none
      · split
        · split
          · split
            · exact hm_up_back fun g2 out e => hc _ _ _ _ _ e
            · exact hm_upR_none
          · exact hm_upR_none
        · exact hm_upR_none
      · split
        · split
          · split
            · rename_i e; exact hm_upR_l (hc _ _ _ _ _ e)
            · exact hm_upR_none
          · exact hm_upR_none
        · exact hm_upR_none
      · split
        · split
          · split
            · rename_i e; exact hm_upR_l (hc _ _ _ _ _ e)
            · exact hm_upR_none
          · exact hm_upR_none
        · exact hm_upR_none
      · split
        · split
          · split
            · exact hm_up_back fun g2 out e => hc _ _ _ _ _ e
            · exact hm_upR_none
          · exact hm_upR_none
        · exact hm_upR_none
      · exact hm_upR_none
    · exact hm_upR_none
theorem hm_up_L : hm_upR g (hm_dL G M o pc lv st g) := by
  unfold hm_dL
  split
  · exact hm_upR_none
  · split <;> split <;> first | exact hm_upR_none | exact hm_upR_map fun a => hm_upR_l hm_up_rf
theorem hm_up_E : hm_upR g (hm_dE M o st g) := by
  unfold hm_dE
  split
  · exact hm_upR_map fun a => hm_upR_r hm_up_rf
  · exact hm_upR_none
theorem hm_up_X : hm_upR g (hm_dX G M o pc st g) := by
  unfold hm_dX
  split
  · split
    · exact hm_upR_r ⟨Nat.le_add_right _ _, Nat.le_add_right _ _⟩
    · exact hm_upR_none
  · exact hm_upR_none
theorem hm_up_do (hc : ∀ i vs g g2 out, call i vs g = some (g2, out) → hm_up g g2) : hm_upR g (hm_do G call M o pc lv st g) := by
  unfold hm_do
  split
  · exact hm_up_pu
  · exact hm_up_pu
  · exact hm_up_pu
  · exact hm_up_pu
  · exact hm_up_pu
  · exact hm_up_pu
  · exact hm_up_pu
  · exact hm_up_pu
  · exact hm_upR_map fun a => hm_upR_l hm_up_rf
  · exact hm_up_F
  · exact hm_up_G
  · exact hm_up_A
  · exact hm_up_N
  · exact hm_up_K
  · exact hm_up_C hc
  · exact hm_up_L
  · exact hm_up_E
  · exact hm_up_X
  · exact hm_up_T
  · exact hm_up_Z
  · exact hm_upR_none
theorem hm_up_step (hc : ∀ i vs g g2 out, call i vs g = some (g2, out) → hm_up g g2) {S : hm_S} : hm_upR S.2.2.2 (hm_step G call M S) := by
  unfold hm_step
  split
  · exact hm_up_do hc
  · exact hm_upR_none
theorem hm_up_run (hc : ∀ i vs g g2 out, call i vs g = some (g2, out) → hm_up g g2) : ∀ (n : Nat) (S : hm_S) (g2 : hm_G) (out : hm_Out), hm_run G call M n S = some (g2, out) → hm_up S.2.2.2 g2
  | 0, _, _, _, h => by cases h
  | n + 1, S, g2, out, h => by
    have hs := hm_up_step (G := G) (M := M) hc (S := S)
    unfold hm_run at h
    split at h
    · cases h
    · rename_i r e
      cases h
      exact hs.2 _ _ e
    · rename_i S2 e
      have h1 := hs.1 _ e
      have h2 := hm_up_run hc n S2 g2 out h
      exact ⟨Nat.le_trans h1.1 h2.1, Nat.le_trans h1.2 h2.2⟩
end MONO
theorem hm_up_call {G : hm_T} {pg : List hm_M} {K : Nat} : ∀ (d i : Nat) (vs : List Value) (g g2 : hm_G) (out : hm_Out), hm_call G pg K d i vs g = some (g2, out) → hm_up g g2
  | 0, _, _, _, _, _, h => by cases h
  | d + 1, i, vs, g, g2, out, h => by
    unfold hm_call at h
    split at h
    · cases h
    · split at h
      · exact hm_up_run (fun i vs g g2 out e => hm_up_call d i vs g g2 out e) K _ _ _ h
      · cases h
