/-- more calls known -/
def hm_ext (c1 c2 : Nat → List Value → hm_G → Option (hm_G × hm_Out)) : Prop := ∀ i vs g r, c1 i vs g = some r → c2 i vs g = some r
section RULES
variable {G : hm_T} {pg : List hm_M} {M : hm_M} {o : hm_O} {pc : Nat} {lv : List (Nat × Value)} {st : List Value} {g : hm_G} {c1 c2 : Nat → List Value → hm_G → Option (hm_G × hm_Out)}
theorem hm_do_no (h : o.2.2.1 ≠ 14) : hm_do G c1 M o pc lv st g = hm_do G c2 M o pc lv st g := by
  unfold hm_do
  split <;> first | rfl | (exact absurd (by assumption) h)
theorem hm_do_14 (h : o.2.2.1 = 14) : hm_do G c1 M o pc lv st g = hm_dC G c1 M o pc lv st g := by
  unfold hm_do
  rw [h]
  rfl
theorem hm_dC_ext (he : hm_ext c1 c2) {q : hm_S ⊕ (hm_G × hm_Out)} (h : hm_dC G c1 M o pc lv st g = some q) : hm_dC G c2 M o pc lv st g = some q := by
  unfold hm_dC at h ⊢
  cases hx : (hm_Tc G)[o.2.2.2]? with
  | none => rw [hx] at h; cases h
  | some x =>
    rw [hx] at h
    obtain ⟨oc, ix, kd, im, na, ci⟩ := x
    dsimp only at h ⊢
    by_cases hi : oc = hm_Mo M ∧ o.2.1 = 3 ∧ na ≤ st.length
    · rw [if_pos hi] at h ⊢
      match kd, h with
      | 0, h =>
        by_cases h2 : o.1 = .invokestatic ix ∧ ((st.drop na).map fun v => v.category).sum ≤ 8
        · rw [if_pos h2] at h ⊢
          cases hc : c1 im (st.take na).reverse g with
          | none => rw [hc] at h; cases h
          | some r => rw [he _ _ _ _ hc]; rw [hc] at h; exact h
        · rw [if_neg h2] at h; cases h
      | 1, h =>
        match hd : st.drop na with
        | [] => rw [hd] at h; cases h
        | v :: rest =>
          rw [hd] at h
          cases v with
          | ref b =>
            dsimp only at h ⊢
            match hz : g.1[b]? with
            | none => rw [hz] at h; cases h
            | some (.inl z) => rw [hz] at h; cases h
            | some (.inr (.inr z)) => rw [hz] at h; cases h
            | some (.inr (.inl z)) =>
              rw [hz] at h
              dsimp only at h ⊢
              by_cases h2 : z.1 = ci ∧ o.1 = .invokevirtual ix ∧ (rest.map fun v => v.category).sum ≤ 8
              · rw [if_pos h2] at h ⊢
                cases hc : c1 im (.ref b :: (st.take na).reverse) g with
                | none => rw [hc] at h; cases h
                | some r => rw [he _ _ _ _ hc]; rw [hc] at h; exact h
              · rw [if_neg h2] at h; cases h
          | _ => cases h
      | 2, h =>
        match hd : st.drop na with
        | [] => rw [hd] at h; cases h
        | v :: rest =>
          rw [hd] at h
          cases v with
          | ref b =>
            dsimp only at h ⊢
            by_cases h2 : o.1 = .invokespecial ix ∧ (rest.map fun v => v.category).sum ≤ 8
            · rw [if_pos h2] at h ⊢
              cases hc : c1 im (.ref b :: (st.take na).reverse) g with
              | none => rw [hc] at h; cases h
              | some r => rw [he _ _ _ _ hc]; rw [hc] at h; exact h
            · rw [if_neg h2] at h; cases h
          | _ => cases h
      | 3, h =>
        match hd : st.drop na with
        | [] => rw [hd] at h; cases h
        | v :: rest =>
          rw [hd] at h
          cases v with
          | ref b =>
            dsimp only at h ⊢
            by_cases h2 : o.1 = .invokespecial ix ∧ (rest.map fun v => v.category).sum ≤ 8
            · rw [if_pos h2] at h ⊢
              cases hc : c1 im (.ref b :: (st.take na).reverse) g with
              | none => rw [hc] at h; cases h
              | some r => rw [he _ _ _ _ hc]; rw [hc] at h; exact h
            · rw [if_neg h2] at h; cases h
          | _ => cases h
      | 4, h =>
        match hd : st.drop na with
        | [] => rw [hd] at h; cases h
        | v :: rest =>
          rw [hd] at h
          cases v with
          | ref b =>
            dsimp only at h ⊢
            match hz : g.1[b]? with
            | none => rw [hz] at h; cases h
            | some (.inl z) => rw [hz] at h; cases h
            | some (.inr (.inl z)) => rw [hz] at h; cases h
            | some (.inr (.inr z)) =>
              rw [hz] at h
              dsimp only at h ⊢
              by_cases h2 : z.1 = "java/lang/String" ∧ o.1 = .invokevirtual ix ∧ (rest.map fun v => v.category).sum ≤ 8
              · rw [if_pos h2] at h ⊢
                cases hc : c1 im (.ref b :: (st.take na).reverse) g with
                | none => rw [hc] at h; cases h
                | some r => rw [he _ _ _ _ hc]; rw [hc] at h; exact h
              · rw [if_neg h2] at h; cases h
          | _ => cases h
      | k + 5, h => cases h
    · rw [if_neg hi] at h; cases h
theorem hm_step_ext (he : hm_ext c1 c2) {S : hm_S} {q : hm_S ⊕ (hm_G × hm_Out)} (h : hm_step G c1 M S = some q) : hm_step G c2 M S = some q := by
  unfold hm_step at h ⊢
  cases ho : (hm_Mi M)[S.1]? with
  | none => rw [ho] at h; cases h
  | some o =>
    cases o with
    | none => rw [ho] at h; cases h
    | some o =>
      rw [ho] at h
      dsimp only at h ⊢
      by_cases h14 : o.2.2.1 = 14
      · rw [hm_do_14 h14] at h ⊢
        exact hm_dC_ext he h
      · rw [hm_do_no (c2 := c1) h14]; exact h
theorem hm_run_ext (he : hm_ext c1 c2) : ∀ (n n2 : Nat) (S : hm_S) (r : hm_G × hm_Out), n ≤ n2 → hm_run G c1 M n S = some r → hm_run G c2 M n2 S = some r
  | 0, _, _, _, _, h => by cases h
  | n + 1, 0, _, _, hn, _ => absurd hn (by omega)
  | n + 1, n2 + 1, S, r, hn, h => by
    unfold hm_run at h ⊢
    cases hs : hm_step G c1 M S with
    | none => rw [hs] at h; cases h
    | some q =>
      rw [hs] at h
      rw [hm_step_ext he hs]
      cases q with
      | inl S2 => exact hm_run_ext he n n2 S2 r (by omega) h
      | inr r2 => exact h
theorem hm_call_ext {K K2 : Nat} (hK : K ≤ K2) : ∀ d, hm_ext (hm_call G pg K d) (hm_call G pg K2 d)
  | 0 => fun _ _ _ _ h => by cases h
  | d + 1 => fun i vs g r h => by
    unfold hm_call at h ⊢
    cases hp : pg[i]? with
    | none => rw [hp] at h; cases h
    | some M =>
      rw [hp] at h
      dsimp only at h ⊢
      by_cases hs : (lg_sl vs).length ≤ hm_Ml M
      · rw [if_pos hs] at h ⊢
        exact hm_run_ext (hm_call_ext hK d) K K2 _ _ hK h
      · rw [if_neg hs] at h; cases h
theorem hm_call_deep {K : Nat} : ∀ d, hm_ext (hm_call G pg K d) (hm_call G pg K (d + 1))
  | 0 => fun _ _ _ _ h => by cases h
  | d + 1 => fun i vs g r h => by
    unfold hm_call at h ⊢
    cases hp : pg[i]? with
    | none => rw [hp] at h; cases h
    | some M =>
      rw [hp] at h
      dsimp only at h ⊢
      by_cases hs : (lg_sl vs).length ≤ hm_Ml M
      · rw [if_pos hs] at h ⊢
        exact hm_run_ext (hm_call_deep d) K K _ _ (Nat.le_refl _) h
      · rw [if_neg hs] at h; cases h
/-- method i, called with vs, ends by out with gf, some number of steps a body -/
def hm_ev (G : hm_T) (pg : List hm_M) (d i : Nat) (vs : List Value) (g gf : hm_G) (out : hm_Out) : Prop := ∃ K, hm_call G pg K d i vs g = some (gf, out)
/-- the body of M, from S on -/
def hm_bo (G : hm_T) (pg : List hm_M) (d : Nat) (M : hm_M) (S : hm_S) (gf : hm_G) (out : hm_Out) : Prop := ∃ K n, hm_run G (hm_call G pg K d) M n S = some (gf, out)
theorem hm_ev_up {d d2 i : Nat} {vs : List Value} {g gf : hm_G} {out : hm_Out} (hd : d ≤ d2) (h : hm_ev G pg d i vs g gf out) : hm_ev G pg d2 i vs g gf out := by
  obtain ⟨K, h⟩ := h
  refine ⟨K, ?_⟩
  induction d2 with
  | zero => rw [show d = 0 by omega] at h; exact h
  | succ d2 ih =>
    by_cases e : d ≤ d2
    · exact hm_call_deep d2 _ _ _ _ (ih e)
    · rw [show d2 + 1 = d by omega]; exact h
theorem hm_ev_of {d i : Nat} {vs : List Value} {g gf : hm_G} {out : hm_Out} (hp : pg[i]? = some M) (hs : (lg_sl vs).length ≤ hm_Ml M) (h : hm_bo G pg d M (0, lv_args 0 vs, [], g) gf out) : hm_ev G pg (d + 1) i vs g gf out := by
  obtain ⟨K, n, h⟩ := h
  refine ⟨max K n, ?_⟩
  unfold hm_call
  rw [hp]
  dsimp only
  rw [if_pos hs]
  exact hm_run_ext (hm_call_ext (Nat.le_max_left K n) d) n (max K n) _ _ (Nat.le_max_right K n) h
theorem hm_bo_end {d : Nat} {S : hm_S} {gf : hm_G} {out : hm_Out} (h : ∀ call, hm_step G call M S = some (.inr (gf, out))) : hm_bo G pg d M S gf out := ⟨0, 1, by unfold hm_run; rw [h]⟩
theorem hm_bo_go {d : Nat} {S S2 : hm_S} {gf : hm_G} {out : hm_Out} (h : ∀ call, hm_step G call M S = some (.inl S2)) (k : hm_bo G pg d M S2 gf out) : hm_bo G pg d M S gf out := by
  obtain ⟨K, n, k⟩ := k
  exact ⟨K, n + 1, by unfold hm_run; rw [h]; exact k⟩
theorem hm_bo_call {d i : Nat} {vs : List Value} {S S2 : hm_S} {g g2 gf : hm_G} {o2 out : hm_Out} (he : hm_ev G pg d i vs g g2 o2) (h : ∀ call, call i vs g = some (g2, o2) → hm_step G call M S = some (.inl S2)) (k : hm_bo G pg d M S2 gf out) : hm_bo G pg d M S gf out := by
  obtain ⟨K, n, k⟩ := k
  obtain ⟨K2, he⟩ := he
  refine ⟨max K K2, n + 1, ?_⟩
  unfold hm_run
  rw [h _ (hm_call_ext (Nat.le_max_right K K2) d _ _ _ _ he)]
  exact hm_run_ext (hm_call_ext (Nat.le_max_left K K2) d) n n _ _ (Nat.le_refl _) k
theorem hm_bo_callX {d i : Nat} {vs : List Value} {S : hm_S} {g g2 gf : hm_G} {o2 out : hm_Out} (he : hm_ev G pg d i vs g g2 o2) (h : ∀ call, call i vs g = some (g2, o2) → hm_step G call M S = some (.inr (gf, out))) : hm_bo G pg d M S gf out := by
  obtain ⟨K2, he⟩ := he
  exact ⟨K2, 1, by unfold hm_run; rw [h _ he]⟩
end RULES
