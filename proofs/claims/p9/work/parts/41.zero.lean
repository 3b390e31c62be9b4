/-! Thing 0 is not looked at: a run over a thing in its place that no instruction takes goes the same way over any other. -/
def hz_D : hm_E := .inr (.inr ("", []))
def hz_s (E : hm_E) (h : hm_H) : hm_H := h.set 0 E
def hz_g (E : hm_E) (g : hm_G) : hm_G := (hz_s E g.1, g.2)
def hz_ok (h : hm_H) : Prop := h[0]? = some hz_D
def hz_q (E : hm_E) (q : hm_S ⊕ (hm_G × hm_Out)) : hm_S ⊕ (hm_G × hm_Out) := match q with
  | .inl S => .inl (S.1, S.2.1, S.2.2.1, hz_g E S.2.2.2)
  | .inr r => .inr (hz_g E r.1, r.2)
def hz_h (q : hm_S ⊕ (hm_G × hm_Out)) : hm_H := match q with
  | .inl S => S.2.2.2.1
  | .inr r => r.1.1
/-- r over h, r2 over h with E as thing 0 -/
def hz_R (E : hm_E) (r r2 : hm_R) : Prop := ∀ q, r = some q → r2 = some (hz_q E q) ∧ hz_ok (hz_h q)
theorem hz_none {E : hm_E} {r2 : hm_R} : hz_R E none r2 := fun _ h => by cases h
theorem hz_pos {n q : Nat} (hn : 0 < n) (hq : n ≤ q) : q ≠ 0 := by omega
section ZERO
variable {E : hm_E} {h : hm_H} {nro : Nat}
theorem hz_ne {q : Nat} {x : hm_E} (hz : hz_ok h) (hx : h[q]? = some x) (hn : x ≠ hz_D) : q ≠ 0 := fun e => by
  subst e
  rw [hz] at hx
  cases hx
  exact hn rfl
theorem hz_at {q : Nat} {x : hm_E} (hz : hz_ok h) (hx : h[q]? = some x) (hn : x ≠ hz_D) : (hz_s E h)[q]? = some x := by
  unfold hz_s
  rw [List.getElem?_set_ne (Ne.symm (hz_ne hz hx hn))]
  exact hx
theorem hz_len (hz : hz_ok h) : 0 < h.length := (List.getElem?_eq_some_iff.mp hz).1
theorem hz_ok_set {q : Nat} {x : hm_E} (hq : q ≠ 0) (hz : hz_ok h) : hz_ok (h.set q x) := by
  unfold hz_ok
  rw [List.getElem?_set_ne hq]
  exact hz
theorem hz_s_set {q : Nat} {x : hm_E} (hq : q ≠ 0) : hz_s E (h.set q x) = (hz_s E h).set q x := List.set_comm _ _ hq
theorem hz_ok_app {l : hm_H} (hz : hz_ok h) : hz_ok (h ++ l) := by
  unfold hz_ok
  rw [List.getElem?_append_left (hz_len hz)]
  exact hz
theorem hz_s_app {l : hm_H} (hz : hz_ok h) : hz_s E (h ++ l) = hz_s E h ++ l := List.set_append_left _ _ (hz_len hz)
theorem hz_s_len : (hz_s E h).length = h.length := List.length_set
theorem hz_get {ci k : Nat} {st st2 : List Value} (hz : hz_ok h) (hg : hm_get h ci k st = some st2) : hm_get (hz_s E h) ci k st = some st2 := by
  unfold hm_get at hg ⊢
  split at hg
  · split at hg
    · rename_i ho
      try dsimp only
      rw [hz_at hz ho (fun e => by cases e)]
      exact hg
    · cases hg
  · cases hg
theorem hz_getR {k : Nat} {fd : String × String × String} {st st2 : List Value} (hz : hz_ok h) (hg : hm_getR h k fd st = some st2) : hm_getR (hz_s E h) k fd st = some st2 := by
  unfold hm_getR at hg ⊢
  split at hg
  · split at hg
    · rename_i o ho
      try dsimp only
      rw [hz_at hz ho (fun e => by
        unfold hz_D at e
        cases e
        simp at hg)]
      exact hg
    · cases hg
  · cases hg
theorem hz_put {ci k : Nat} {ty : FieldType} {st : List Value} {r : hm_H × List Value} (hn : 0 < nro) (hz : hz_ok h) (hg : hm_put nro h ci k ty st = some r) : hm_put nro (hz_s E h) ci k ty st = some (hz_s E r.1, r.2) ∧ hz_ok r.1 := by
  unfold hm_put at hg ⊢
  split at hg
  · rename_i v q r9
    try dsimp only
    by_cases hq : nro ≤ q
    · rw [if_pos hq] at hg ⊢
      have hq0 : q ≠ 0 := hz_pos hn hq
      split at hg
      · rename_i o ho
        rw [hz_at hz ho (fun e => by cases e)]
        try dsimp only
        split at hg
        · rename_i hc
          rw [if_pos hc]
          cases hg
          exact ⟨by rw [hz_s_set hq0], hz_ok_set hq0 hz⟩
        · cases hg
      · cases hg
    · rw [if_neg hq] at hg; cases hg
  · cases hg
theorem hz_ald {i : Instr} {st st2 : List Value} (hz : hz_ok h) (hg : hm_ald h i st = some st2) : hm_ald (hz_s E h) i st = some st2 := by
  unfold hm_ald at hg ⊢
  split at hg
  · split at hg
    · rename_i ho
      try dsimp only
      rw [hz_at hz ho (fun e => by cases e)]
      exact hg
    · cases hg
  · cases hg
theorem hz_alen {st st2 : List Value} (hz : hz_ok h) (hg : hm_alen h st = some st2) : hm_alen (hz_s E h) st = some st2 := by
  unfold hm_alen at hg ⊢
  split at hg
  · split at hg
    · rename_i ho
      try dsimp only
      rw [hz_at hz ho (fun e => by cases e)]
      exact hg
    · cases hg
  · cases hg
theorem hz_ast {i : Instr} {st : List Value} {r : hm_H × List Value} (hn : 0 < nro) (hz : hz_ok h) (hg : hm_ast nro h i st = some r) : hm_ast nro (hz_s E h) i st = some (hz_s E r.1, r.2) ∧ hz_ok r.1 := by
  unfold hm_ast at hg ⊢
  split at hg
  · rename_i v x q r9
    try dsimp only
    by_cases hq : nro ≤ q
    · rw [if_pos hq] at hg ⊢
      have hq0 : q ≠ 0 := hz_pos hn hq
      split at hg
      · rename_i o ho
        rw [hz_at hz ho (fun e => by cases e)]
        try dsimp only
        split at hg
        · rename_i hc
          rw [if_pos hc]
          cases hs : hm_stv i v with
          | none => rw [hs] at hg; cases hg
          | some w =>
            rw [hs] at hg
            cases hg
            exact ⟨by dsimp only [Option.map_some]; rw [hz_s_set hq0], hz_ok_set hq0 hz⟩
        · cases hg
      · cases hg
    · rw [if_neg hq] at hg; cases hg
  · cases hg
theorem hz_astq {cl : List vw_C} {st : List Value} {r : hm_H × List Value} (hn : 0 < nro) (hz : hz_ok h) (hg : hm_astq cl nro h st = some r) : hm_astq cl nro (hz_s E h) st = some (hz_s E r.1, r.2) ∧ hz_ok r.1 := by
  unfold hm_astq at hg ⊢
  split at hg
  · rename_i v x q r9
    try dsimp only
    by_cases hq : nro ≤ q
    · rw [if_pos hq] at hg ⊢
      have hq0 : q ≠ 0 := hz_pos hn hq
      split at hg
      · rename_i o z ho hv
        rw [hz_at hz ho (fun e => by cases e), hz_at hz hv (fun e => by cases e)]
        try dsimp only
        split at hg
        · rename_i hty hcl
          rw [hty]
          try rw [hcl]
          try dsimp only
          split at hg
          · rename_i hc
            rw [if_pos hc]
            cases hg
            exact ⟨by rw [hz_s_set hq0, hty], hz_ok_set hq0 hz⟩
          · cases hg
        · cases hg
      · cases hg
    · rw [if_neg hq] at hg; cases hg
  · cases hg
theorem hz_lib {w : Nat} {st : List Value} {r : List Value × hm_H} (hn : 0 < nro) (hz : hz_ok h) (hg : hm_lib nro w st h = some r) : hm_lib nro w st (hz_s E h) = some (r.1, hz_s E r.2) ∧ hz_ok r.2 := by
  unfold hm_lib at hg ⊢
  split at hg
  · split at hg
    · cases hg; exact ⟨rfl, hz⟩
    · cases hg
  · split at hg
    · cases hg; exact ⟨rfl, hz⟩
    · cases hg
  · split at hg
    · cases hg; exact ⟨rfl, hz⟩
    · cases hg
  · split at hg
    · cases hg; exact ⟨rfl, hz⟩
    · cases hg
  · split at hg
    · rename_i n dp t sp f r9
      split at hg
      · rename_i a b hf ht
        try dsimp only
        rw [hz_at hz hf (fun e => by cases e), hz_at hz ht (fun e => by cases e)]
        try dsimp only
        split at hg
        · rename_i hc
          rw [if_pos hc]
          cases hg
          have hq0 : t ≠ 0 := hz_pos hn hc.2.1
          exact ⟨by rw [hz_s_set hq0], hz_ok_set hq0 hz⟩
        · cases hg
      · cases hg
    · cases hg
  · cases hg
end ZERO
section ZSTEP
variable {E : hm_E} {G : hm_T} {M : hm_M} {o : hm_O} {pc : Nat} {lv : List (Nat × Value)} {st : List Value} {g : hm_G} {c1 c2 : Nat → List Value → hm_G → Option (hm_G × hm_Out)}
def hz_call (E : hm_E) (c1 c2 : Nat → List Value → hm_G → Option (hm_G × hm_Out)) : Prop := ∀ i vs g r, hz_ok g.1 → c1 i vs g = some r → c2 i vs (hz_g E g) = some (hz_g E r.1, r.2) ∧ hz_ok r.1.1
theorem hz_pu {len : Nat} {r : Option (Nat × hm_P)} (hz : hz_ok g.1) : hz_R E (hm_pu len g r) (hm_pu len (hz_g E g) r) := by
  intro q hq
  unfold hm_pu at hq ⊢
  split at hq
  · split at hq
    · rename_i hc
      cases hq
      exact ⟨if_pos hc, hz⟩
    · cases hq
  · cases hq
theorem hz_dF (hn : 0 < hm_Tro G) (hz : hz_ok g.1) : hz_R E (hm_dF G M o pc lv st g) (hm_dF G M o pc lv st (hz_g E g)) := by
  intro q hq
  unfold hm_dF at hq ⊢
  cases hx : (hm_Tf G)[o.2.2.2]? with
  | none => rw [hx] at hq; cases hq
  | some x =>
    rw [hx] at hq
    try dsimp only at hq ⊢
    split at hq
    · rename_i hc
      rw [if_pos hc]
      split at hq
      · split at hq
        · rename_i hk
          rw [if_pos hk]
          cases hg : hm_get g.1 x.2.2.1 x.2.2.2 st with
          | none => rw [hg] at hq; cases hq
          | some st2 =>
            rw [hg] at hq
            cases hq
            show Option.map _ (hm_get (hz_s E g.1) x.2.2.1 x.2.2.2 st) = _ ∧ _
            rw [hz_get hz hg]
            exact ⟨rfl, hz⟩
        · cases hq
      · split at hq
        · cases hq
        · rename_i hcl
          try rw [hcl]
          try dsimp only
          split at hq
          · rename_i hk
            rw [if_pos hk]
            cases hg : hm_put (hm_Tro G) g.1 x.2.2.1 x.2.2.2 (hm_Tty G x.2.2.1 x.2.2.2) st with
            | none => rw [hg] at hq; cases hq
            | some r =>
              rw [hg] at hq
              cases hq
              have h9 := hz_put (E := E) hn hz hg
              show Option.map _ (hm_put (hm_Tro G) (hz_s E g.1) x.2.2.1 x.2.2.2 (hm_Tty G x.2.2.1 x.2.2.2) st) = _ ∧ _
              rw [h9.1]
              exact ⟨rfl, h9.2⟩
          · cases hq
      · cases hq
    · cases hq
theorem hz_dG (hz : hz_ok g.1) : hz_R E (hm_dG G M o pc lv st g) (hm_dG G M o pc lv st (hz_g E g)) := by
  intro q hq
  unfold hm_dG at hq ⊢
  cases hx : (hm_Tg G)[o.2.2.2]? with
  | none => rw [hx] at hq; cases hq
  | some x =>
    rw [hx] at hq
    try dsimp only at hq ⊢
    split at hq
    · rename_i hc
      rw [if_pos hc]
      cases hg : hm_getR g.1 x.2.2.1 x.2.2.2 st with
      | none => rw [hg] at hq; cases hq
      | some st2 =>
        rw [hg] at hq
        cases hq
        show Option.map _ (hm_getR (hz_s E g.1) x.2.2.1 x.2.2.2 st) = _ ∧ _
        rw [hz_getR hz hg]
        exact ⟨rfl, hz⟩
    · cases hq
theorem hz_dA (hn : 0 < hm_Tro G) (hz : hz_ok g.1) : hz_R E (hm_dA G o pc lv st g) (hm_dA G o pc lv st (hz_g E g)) := by
  intro q hq
  unfold hm_dA at hq ⊢
  split at hq
  · rename_i hl
    rw [if_pos hl]
    split at hq
    · cases hg : hm_ald g.1 o.1 st with
      | none => rw [hg] at hq; cases hq
      | some st2 =>
        rw [hg] at hq
        cases hq
        show Option.map _ (hm_ald (hz_s E g.1) o.1 st) = _ ∧ _
        rw [hz_ald hz hg]
        exact ⟨rfl, hz⟩
    · cases hg : hm_ast (hm_Tro G) g.1 o.1 st with
      | none => rw [hg] at hq; cases hq
      | some r =>
        rw [hg] at hq
        cases hq
        have h9 := hz_ast (E := E) hn hz hg
        show Option.map _ (hm_ast (hm_Tro G) (hz_s E g.1) o.1 st) = _ ∧ _
        rw [h9.1]
        exact ⟨rfl, h9.2⟩
    · split at hq
      · rename_i hc
        rw [if_pos hc]
        cases hg : hm_alen g.1 st with
        | none => rw [hg] at hq; cases hq
        | some st2 =>
          rw [hg] at hq
          cases hq
          show Option.map _ (hm_alen (hz_s E g.1) st) = _ ∧ _
          rw [hz_alen hz hg]
          exact ⟨rfl, hz⟩
      · cases hq
    · split at hq
      · rename_i hc
        rw [if_pos hc]
        cases hg : hm_astq (hm_Tcl G) (hm_Tro G) g.1 st with
        | none => rw [hg] at hq; cases hq
        | some r =>
          rw [hg] at hq
          cases hq
          have h9 := hz_astq (E := E) hn hz hg
          show Option.map _ (hm_astq (hm_Tcl G) (hm_Tro G) (hz_s E g.1) st) = _ ∧ _
          rw [h9.1]
          exact ⟨rfl, h9.2⟩
      · cases hq
    · cases hq
  · cases hq
theorem hz_dN (hz : hz_ok g.1) : hz_R E (hm_dN G M o pc lv st g) (hm_dN G M o pc lv st (hz_g E g)) := by
  intro q hq
  have hlen : (hz_g E g).1.length = g.1.length := hz_s_len
  unfold hm_dN at hq ⊢
  split at hq
  · split at hq
    · cases hq
    · rename_i hx
      try rw [hx]
      try dsimp only
      split at hq
      · cases hq
      · rename_i hy
        try rw [hy]
        try dsimp only
        split at hq
        · rename_i hc
          rw [if_pos hc]
          cases hq
          refine ⟨?_, hz_ok_app hz⟩
          show some _ = some _
          rw [hlen]
          show _ = some (Sum.inl (_, _, _, hz_s E (g.1 ++ _), _))
          rw [hz_s_app hz]
          rfl
        · cases hq
  · split at hq
    · split at hq
      · rename_i hc
        try dsimp only
        rw [if_pos hc]
        cases hq
        refine ⟨?_, hz_ok_app hz⟩
        show some _ = some _
        rw [hlen]
        show _ = some (Sum.inl (_, _, _, hz_s E (g.1 ++ _), _))
        rw [hz_s_app hz]
        rfl
      · cases hq
    · cases hq
  · split at hq
    · rename_i hx
      try rw [hx]
      try dsimp only
      split at hq
      · rename_i hc
        rw [if_pos hc]
        cases hq
        refine ⟨?_, hz_ok_app hz⟩
        show some _ = some _
        rw [hlen]
        show _ = some (Sum.inl (_, _, _, hz_s E (g.1 ++ _), _))
        rw [hz_s_app hz]
        rfl
      · cases hq
    · cases hq
  · split at hq
    · rename_i hx
      try rw [hx]
      try dsimp only
      split at hq
      · rename_i hc
        rw [if_pos hc]
        cases hq
        refine ⟨?_, hz_ok_app hz⟩
        show some _ = some _
        rw [hlen]
        show _ = some (Sum.inl (_, _, _, hz_s E (g.1 ++ _), _))
        rw [hz_s_app hz]
        rfl
      · cases hq
    · cases hq
  · cases hq
theorem hz_back {rest : List Value} {r r2 : Option (hm_G × hm_Out)} (hr : ∀ x, r = some x → r2 = some (hz_g E x.1, x.2) ∧ hz_ok x.1.1) : hz_R E (hm_back M pc lv rest r) (hm_back M pc lv rest r2) := by
  intro q hq
  cases r with
  | none => cases hq
  | some x =>
    obtain ⟨h1, h2⟩ := hr x rfl
    rw [h1]
    obtain ⟨gx, ox⟩ := x
    cases ox with
    | some v => cases hq; exact ⟨rfl, h2⟩
    | none =>
      unfold hm_back at hq ⊢
      try dsimp only at hq ⊢
      match hh : hm_Mh M with
      | [] => rw [hh] at hq; cases hq; exact ⟨rfl, h2⟩
      | [x] =>
        rw [hh] at hq
        try dsimp only at hq ⊢
        split at hq
        · rename_i hc
          rw [if_pos hc]
          cases hq
          exact ⟨rfl, h2⟩
        · cases hq
      | _ :: _ :: _ => rw [hh] at hq; cases hq
theorem hz_dC (hc : hz_call E c1 c2) (hz : hz_ok g.1) : hz_R E (hm_dC G c1 M o pc lv st g) (hm_dC G c2 M o pc lv st (hz_g E g)) := by
  intro q h
  unfold hm_dC at h ⊢
  cases hx : (hm_Tc G)[o.2.2.2]? with
  | none => rw [hx] at h; cases h
  | some x =>
    rw [hx] at h
    obtain ⟨oc, ix, kd, im, na, ci⟩ := x
    dsimp only at h ⊢
    by_cases hi : oc = hm_Mo M ∧ o.2.1 = 3 ∧ na ≤ st.length
    · rw [if_pos hi] at h ⊢
      match kd, h with
      | 0, h =>
        by_cases h2 : o.1 = .invokestatic ix ∧ ((st.drop na).map fun v => v.category).sum ≤ 8
        · rw [if_pos h2] at h ⊢
          exact hz_back (fun x hx => hc _ _ _ _ hz hx) q h
        · rw [if_neg h2] at h; cases h
      | 1, h =>
        match hd : st.drop na with
        | [] => rw [hd] at h; cases h
        | v :: rest =>
          rw [hd] at h
          cases v with
          | ref b =>
            dsimp only at h ⊢
            match hy : g.1[b]? with
            | none => rw [hy] at h; cases h
            | some (.inl z) => rw [hy] at h; cases h
            | some (.inr (.inr z)) => rw [hy] at h; cases h
            | some (.inr (.inl z)) =>
              rw [hy] at h
              rw [show (hz_g E g).1[b]? = some (.inr (.inl z)) from hz_at hz hy (fun e => by cases e)]
              dsimp only at h ⊢
              by_cases h2 : z.1 = ci ∧ o.1 = .invokevirtual ix ∧ (rest.map fun v => v.category).sum ≤ 8
              · rw [if_pos h2] at h ⊢
                exact hz_back (fun x hx => hc _ _ _ _ hz hx) q h
              · rw [if_neg h2] at h; cases h
          | _ => cases h
      | 2, h =>
        match hd : st.drop na with
        | [] => rw [hd] at h; cases h
        | v :: rest =>
          rw [hd] at h
          cases v with
          | ref b =>
            dsimp only at h ⊢
            by_cases h2 : o.1 = .invokespecial ix ∧ (rest.map fun v => v.category).sum ≤ 8
            · rw [if_pos h2] at h ⊢
              cases hcl : c1 im (.ref b :: (st.take na).reverse) g with
              | none => rw [hcl] at h; cases h
              | some r =>
                rw [hcl] at h
                obtain ⟨h3, h4⟩ := hc _ _ _ _ hz hcl
                rw [h3]
                obtain ⟨gr, out⟩ := r
                match out, h with
                | some none, h => cases h; exact ⟨rfl, h4⟩
                | some (some _), h => cases h
                | none, h => cases h
            · rw [if_neg h2] at h; cases h
          | _ => cases h
      | 3, h =>
        match hd : st.drop na with
        | [] => rw [hd] at h; cases h
        | v :: rest =>
          rw [hd] at h
          cases v with
          | ref b =>
            dsimp only at h ⊢
            by_cases h2 : o.1 = .invokespecial ix ∧ (rest.map fun v => v.category).sum ≤ 8
            · rw [if_pos h2] at h ⊢
              cases hcl : c1 im (.ref b :: (st.take na).reverse) g with
              | none => rw [hcl] at h; cases h
              | some r =>
                rw [hcl] at h
                obtain ⟨h3, h4⟩ := hc _ _ _ _ hz hcl
                rw [h3]
                obtain ⟨gr, out⟩ := r
                match out, h with
                | some none, h => cases h; exact ⟨rfl, h4⟩
                | some (some _), h => cases h
                | none, h => cases h
            · rw [if_neg h2] at h; cases h
          | _ => cases h
      | 4, h =>
        match hd : st.drop na with
        | [] => rw [hd] at h; cases h
        | v :: rest =>
          rw [hd] at h
          cases v with
          | ref b =>
            dsimp only at h ⊢
            match hy : g.1[b]? with
            | none => rw [hy] at h; cases h
            | some (.inl z) => rw [hy] at h; cases h
            | some (.inr (.inl z)) => rw [hy] at h; cases h
            | some (.inr (.inr z)) =>
              rw [hy] at h
              dsimp only at h ⊢
              by_cases h2 : z.1 = "java/lang/String" ∧ o.1 = .invokevirtual ix ∧ (rest.map fun v => v.category).sum ≤ 8
              · rw [show (hz_g E g).1[b]? = some (.inr (.inr z)) from hz_at hz hy (fun e => by
                  unfold hz_D at e
                  cases e
                  exact absurd h2.1 (by decide))]
                dsimp only
                rw [if_pos h2] at h ⊢
                exact hz_back (fun x hx => hc _ _ _ _ hz hx) q h
              · rw [if_neg h2] at h; cases h
          | _ => cases h
      | k + 5, h => cases h
    · rw [if_neg hi] at h; cases h
theorem hz_dL (hn : 0 < hm_Tro G) (hz : hz_ok g.1) : hz_R E (hm_dL G M o pc lv st g) (hm_dL G M o pc lv st (hz_g E g)) := by
  intro q hq
  unfold hm_dL at hq ⊢
  cases hx : (hm_Tl G)[o.2.2.2]? with
  | none => rw [hx] at hq; cases hq
  | some x =>
    rw [hx] at hq
    dsimp only at hq ⊢
    by_cases hi : x.1 = hm_Mo M ∧ o.2.1 = 3 ∧ (o.1 = if x.2.2 = 0 then .invokespecial x.2.1 else .invokestatic x.2.1) ∧ (st.map fun v => v.category).sum ≤ 16
    · rw [if_pos hi] at hq ⊢
      cases hg : hm_lib (hm_Tro G) x.2.2 st g.1 with
      | none => rw [hg] at hq; cases hq
      | some r =>
        rw [hg] at hq
        cases hq
        have h9 := hz_lib (E := E) hn hz hg
        show Option.map _ (hm_lib (hm_Tro G) x.2.2 st (hz_s E g.1)) = _ ∧ _
        rw [h9.1]
        exact ⟨rfl, h9.2⟩
    · rw [if_neg hi] at hq; cases hq
/-- what carries the things on as they are -/
theorem hz_mapl {α : Type} {o9 : Option α} {f : α → Nat × List (Nat × Value) × List Value} (hz : hz_ok g.1) : hz_R E (o9.map fun a => .inl ((f a).1, (f a).2.1, (f a).2.2, g)) (o9.map fun a => .inl ((f a).1, (f a).2.1, (f a).2.2, hz_g E g)) := by
  intro q hq
  cases o9 with
  | none => cases hq
  | some a => cases hq; exact ⟨rfl, hz⟩
theorem hz_dK (hz : hz_ok g.1) : hz_R E (hm_dK G M o pc lv st g) (hm_dK G M o pc lv st (hz_g E g)) := by
  intro q hq
  unfold hm_dK at hq ⊢
  cases hx : (hm_Tk G)[o.2.2.2]? with
  | none => rw [hx] at hq; cases hq
  | some x =>
    rw [hx] at hq
    dsimp only at hq ⊢
    split at hq
    · rename_i hc
      rw [if_pos hc]
      split at hq
      · split at hq
        · rename_i h2
          try rw [if_pos h2]
          cases hq
          exact ⟨rfl, hz⟩
        · cases hq
      · split at hq
        · rename_i h2
          try rw [if_pos h2]
          cases hq
          exact ⟨rfl, hz⟩
        · cases hq
      · cases hq
    · cases hq
theorem hz_dT (hz : hz_ok g.1) : hz_R E (hm_dT G M o pc lv st g) (hm_dT G M o pc lv st (hz_g E g)) := by
  intro q hq
  unfold hm_dT at hq ⊢
  cases hx : (hm_Ts G)[o.2.2.2]? with
  | none => rw [hx] at hq; cases hq
  | some x =>
    rw [hx] at hq
    dsimp only at hq ⊢
    split at hq
    · rename_i hc
      rw [if_pos hc]
      cases hq
      exact ⟨rfl, hz⟩
    · cases hq
theorem hz_dZ (hz : hz_ok g.1) : hz_R E (hm_dZ G M o pc lv st g) (hm_dZ G M o pc lv st (hz_g E g)) := by
  intro q hq
  unfold hm_dZ at hq ⊢
  cases hx : (hm_Tz G)[o.2.2.2]? with
  | none => rw [hx] at hq; cases hq
  | some x =>
    rw [hx] at hq
    dsimp only at hq ⊢
    split at hq
    · rename_i hc
      rw [if_pos hc]
      cases hq
      exact ⟨rfl, hz⟩
    · cases hq
theorem hz_dE (hz : hz_ok g.1) : hz_R E (hm_dE M o st g) (hm_dE M o st (hz_g E g)) := by
  intro q hq
  unfold hm_dE at hq ⊢
  split at hq
  · rename_i hc
    rw [if_pos hc]
    cases hr : hm_ret o.1 (hm_Mr M) st with
    | none => rw [hr] at hq; cases hq
    | some v => rw [hr] at hq; cases hq; exact ⟨rfl, hz⟩
  · cases hq
theorem hz_dX (hz : hz_ok g.1) : hz_R E (hm_dX G M o pc st g) (hm_dX G M o pc st (hz_g E g)) := by
  intro q hq
  unfold hm_dX at hq ⊢
  split at hq
  · split at hq
    · rename_i hc
      try dsimp only
      rw [if_pos hc]
      cases hq
      exact ⟨rfl, hz⟩
    · cases hq
  · cases hq
theorem hz_do (hn : 0 < hm_Tro G) (hc : hz_call E c1 c2) (hz : hz_ok g.1) : hz_R E (hm_do G c1 M o pc lv st g) (hm_do G c2 M o pc lv st (hz_g E g)) := by
  match hk : o.2.2.1 with
  | 0 => unfold hm_do; rw [hk]; exact hz_pu hz
  | 1 => unfold hm_do; rw [hk]; exact hz_pu hz
  | 2 => unfold hm_do; rw [hk]; exact hz_pu hz
  | 3 => unfold hm_do; rw [hk]; exact hz_pu hz
  | 4 => unfold hm_do; rw [hk]; exact hz_pu hz
  | 5 => unfold hm_do; rw [hk]; exact hz_pu hz
  | 6 => unfold hm_do; rw [hk]; exact hz_pu hz
  | 7 => unfold hm_do; rw [hk]; exact hz_pu hz
  | 8 => unfold hm_do; rw [hk]; exact hz_mapl (f := fun a => a) hz
  | 9 => unfold hm_do; rw [hk]; exact hz_dF hn hz
  | 10 => unfold hm_do; rw [hk]; exact hz_dG hz
  | 11 => unfold hm_do; rw [hk]; exact hz_dA hn hz
  | 12 => unfold hm_do; rw [hk]; exact hz_dN hz
  | 13 => unfold hm_do; rw [hk]; exact hz_dK hz
  | 14 => unfold hm_do; rw [hk]; exact hz_dC hc hz
  | 15 => unfold hm_do; rw [hk]; exact hz_dL hn hz
  | 16 => unfold hm_do; rw [hk]; exact hz_dE hz
  | 17 => unfold hm_do; rw [hk]; exact hz_dX hz
  | 18 => unfold hm_do; rw [hk]; exact hz_dT hz
  | 19 => unfold hm_do; rw [hk]; exact hz_dZ hz
  | k + 20 => unfold hm_do; rw [hk]; exact hz_none
theorem hz_step (hn : 0 < hm_Tro G) (hc : hz_call E c1 c2) {S : hm_S} (hz : hz_ok S.2.2.2.1) : hz_R E (hm_step G c1 M S) (hm_step G c2 M (S.1, S.2.1, S.2.2.1, hz_g E S.2.2.2)) := by
  unfold hm_step
  cases ho : (hm_Mi M)[S.1]? with
  | none => exact hz_none
  | some o =>
    cases o with
    | none => exact hz_none
    | some o => exact hz_do hn hc hz
theorem hz_run (hn : 0 < hm_Tro G) (hc : hz_call E c1 c2) : ∀ (n : Nat) (S : hm_S) (r : hm_G × hm_Out), hz_ok S.2.2.2.1 → hm_run G c1 M n S = some r → hm_run G c2 M n (S.1, S.2.1, S.2.2.1, hz_g E S.2.2.2) = some (hz_g E r.1, r.2) ∧ hz_ok r.1.1
  | 0, _, _, _, h => by cases h
  | n + 1, S, r, hz, h => by
    have hs := hz_step (G := G) (M := M) hn hc hz
    unfold hm_run at h ⊢
    cases hq : hm_step G c1 M S with
    | none => rw [hq] at h; cases h
    | some q =>
      rw [hq] at h
      obtain ⟨h1, h2⟩ := hs q hq
      rw [h1]
      cases q with
      | inl S2 => exact hz_run hn hc n S2 r h2 h
      | inr r2 => cases h; exact ⟨rfl, h2⟩
end ZSTEP
theorem hz_calls {E : hm_E} {G : hm_T} {pg : List hm_M} {K : Nat} (hn : 0 < hm_Tro G) : ∀ d, hz_call E (hm_call G pg K d) (hm_call G pg K d)
  | 0 => fun _ _ _ _ _ h => by cases h
  | d + 1 => fun i vs g r hz h => by
    unfold hm_call at h ⊢
    cases hp : pg[i]? with
    | none => rw [hp] at h; cases h
    | some M =>
      rw [hp] at h
      dsimp only at h ⊢
      by_cases hs : (lg_sl vs).length ≤ hm_Ml M
      · rw [if_pos hs] at h ⊢
        exact hz_run hn (hz_calls hn d) K _ _ hz h
      · rw [if_neg hs] at h; cases h
/-- some steps of a body -/
def hm_go_n (G : hm_T) (call : Nat → List Value → hm_G → Option (hm_G × hm_Out)) (M : hm_M) : Nat → hm_S → Option hm_S
  | 0, S => some S
  | n + 1, S => match hm_step G call M S with
    | some (.inl S2) => hm_go_n G call M n S2
    | _ => none
theorem hz_go_n {E : hm_E} {G : hm_T} {M : hm_M} {c1 c2 : Nat → List Value → hm_G → Option (hm_G × hm_Out)} (hn : 0 < hm_Tro G) (hc : hz_call E c1 c2) : ∀ (n : Nat) (S S2 : hm_S), hz_ok S.2.2.2.1 → hm_go_n G c1 M n S = some S2 → hm_go_n G c2 M n (S.1, S.2.1, S.2.2.1, hz_g E S.2.2.2) = some (S2.1, S2.2.1, S2.2.2.1, hz_g E S2.2.2.2) ∧ hz_ok S2.2.2.2.1
  | 0, S, S2, hz, h => by cases h; exact ⟨rfl, hz⟩
  | n + 1, S, S2, hz, h => by
    have hs := hz_step (G := G) (M := M) hn hc hz
    unfold hm_go_n at h ⊢
    cases hq : hm_step G c1 M S with
    | none => rw [hq] at h; cases h
    | some q =>
      rw [hq] at h
      obtain ⟨h1, h2⟩ := hs q hq
      rw [h1]
      cases q with
      | inl S3 => exact hz_go_n hn hc n S3 S2 h2 h
      | inr r2 => cases h
theorem hm_bo_n {G : hm_T} {pg : List hm_M} {M : hm_M} {K d : Nat} {gf : hm_G} {out : hm_Out} : ∀ (n : Nat) (S S2 : hm_S), hm_go_n G (hm_call G pg K d) M n S = some S2 → hm_bo G pg d M S2 gf out → hm_bo G pg d M S gf out
  | 0, S, S2, h, k => by cases h; exact k
  | n + 1, S, S2, h, k => by
    unfold hm_go_n at h
    cases hq : hm_step G (hm_call G pg K d) M S with
    | none => rw [hq] at h; cases h
    | some q =>
      rw [hq] at h
      cases q with
      | inl S3 =>
        obtain ⟨K2, n2, k2⟩ := hm_bo_n n S3 S2 h k
        refine ⟨max K K2, n2 + 1, ?_⟩
        unfold hm_run
        rw [hm_step_ext (hm_call_ext (Nat.le_max_left K K2) d) hq]
        exact hm_run_ext (hm_call_ext (Nat.le_max_right K K2) d) n2 n2 _ _ (Nat.le_refl _) k2
      | inr r2 => cases h
