def hm_sup : List String := ["java/lang/RuntimeException", "java/lang/Exception"]
/-- the rows on throws hold -/
def hm_okX (G : hm_T) (cn : List String) (Ts nw : List Cond) : Prop := ∀ x ∈ hm_Tx G, ∃ own : String, cn[x.1]? = some own ∧ Cond.classLink own x.2.1 hm_xn ∈ Ts ∧ Cond.initialized hm_xn ∈ Ts ∧ (∀ w ∈ vx_at0 own x.2.2 hm_xn hm_sup, w ∈ Ts ∨ w ∈ nw) ∧ ∀ w ∈ Cond.classLink own x.2.1 hm_xn :: Cond.initialized hm_xn :: vx_at0 own x.2.2 hm_xn hm_sup, vx_ot w = true
/-- all rows hold -/
def hm_ok (G : hm_T) (cn : List String) (Ts nw : List Cond) (pg : List hm_M) : Prop :=
  hm_okT G cn Ts nw ∧ hm_okC G cn Ts nw pg ∧ hm_okL G cn Ts ∧ hm_okX G cn Ts nw ∧ (∀ w ∈ Ts, goodWord w = true) ∧ (∀ w ∈ nw, hm_nw w = true)
/-- these groups never end a method -/
def hm_nr (r : hm_R) : Prop := ∀ q, r ≠ some (.inr q)
theorem hm_nr_none : hm_nr none := fun _ h => by cases h
theorem hm_nr_l {s2 : hm_S} : hm_nr (some (.inl s2)) := fun _ h => by cases h
theorem hm_nr_map {α : Type} {o : Option α} {f : α → hm_S ⊕ (hm_G × hm_Out)} (h : ∀ a, hm_nr (some (f a))) : hm_nr (o.map f) := by
  cases o with
  | none => exact hm_nr_none
  | some a => exact h a
section NOR
variable {G : hm_T} {M : hm_M} {o : hm_O} {pc : Nat} {lv : List (Nat × Value)} {st : List Value} {g : hm_G}
theorem hm_nr_F : hm_nr (hm_dF G M o pc lv st g) := by
  unfold hm_dF
  split
  · exact hm_nr_none
  · split
    · split
      · split
        · exact hm_nr_map fun a => hm_nr_l
        · exact hm_nr_none
      · split
        · exact hm_nr_none
        · split
          · exact hm_nr_map fun a => hm_nr_l
          · exact hm_nr_none
      · exact hm_nr_none
    · exact hm_nr_none
theorem hm_nr_G : hm_nr (hm_dG G M o pc lv st g) := by
  unfold hm_dG
  split
  · exact hm_nr_none
  · split
    · exact hm_nr_map fun a => hm_nr_l
    · exact hm_nr_none
theorem hm_nr_A : hm_nr (hm_dA G o pc lv st g) := by
  unfold hm_dA
  split
  · split
    · exact hm_nr_map fun a => hm_nr_l
    · exact hm_nr_map fun a => hm_nr_l
    · split
      · exact hm_nr_map fun a => hm_nr_l
      · exact hm_nr_none
    · split
      · exact hm_nr_map fun a => hm_nr_l
      · exact hm_nr_none
    · exact hm_nr_none
  · exact hm_nr_none
theorem hm_nr_N : hm_nr (hm_dN G M o pc lv st g) := by
  unfold hm_dN
  split
  · split
    · exact hm_nr_none
    · split
      · exact hm_nr_none
      · split
        · exact hm_nr_l
        · exact hm_nr_none
  · split
    · split
      · exact hm_nr_l
      · exact hm_nr_none
    · exact hm_nr_none
  · split
    · split
      · exact hm_nr_l
      · exact hm_nr_none
    · exact hm_nr_none
  · split
    · split
      · exact hm_nr_l
      · exact hm_nr_none
    · exact hm_nr_none
  · exact hm_nr_none
theorem hm_nr_K : hm_nr (hm_dK G M o pc lv st g) := by
  unfold hm_dK
  split
  · exact hm_nr_none
  · split
    · split
      · split
        · exact hm_nr_l
        · exact hm_nr_none
      · split
        · exact hm_nr_l
        · exact hm_nr_none
      · exact hm_nr_none
    · exact hm_nr_none
theorem hm_nr_T : hm_nr (hm_dT G M o pc lv st g) := by
  unfold hm_dT
  split
  · exact hm_nr_none
  · split
    · exact hm_nr_l
    · exact hm_nr_none
theorem hm_nr_Z : hm_nr (hm_dZ G M o pc lv st g) := by
  unfold hm_dZ
  split
  · exact hm_nr_none
  · split
    · exact hm_nr_l
    · exact hm_nr_none
theorem hm_nr_L : hm_nr (hm_dL G M o pc lv st g) := by
  unfold hm_dL
  split
  · exact hm_nr_none
  · split <;> split <;> first | exact hm_nr_none | exact hm_nr_map fun a => hm_nr_l
end NOR
section BODY
variable {p : Program} {l : Launch} {e : Env} {R : Room} {s : State} {m : MethodId} {args : Array Value} {below : List Frame} {meth : Method} {c : Code}
variable {G : hm_T} {cn : List String} {nw Ts : List Cond} {D : va_G} {B n0 s0 d : Nat} {M : hm_M} {as0 ex : List Nat} {call : Nat → List Value → hm_G → Option (hm_G × hm_Out)} {pg : List hm_M}
variable {o : hm_O} {pc : Nat} {lv : List (Nat × Value)} {st : List Value} {g gf : hm_G} {out : hm_Out} {H : Heap} {locs : List Loc} {ls : Array Slot} {st' : List Value}
theorem hm_stE (hx : hm_ctx p l s m args meth c G cn nw Ts D B M as0) (hdg : decode (hm_Mc M) pc = .ok (o.1, o.2.1)) (hs : hm_dE M o st g = some (.inr (gf, out))) (hp : hm_pt s D (hm_Tcl G) B (hm_Tro G) (hm_Ml M) (as0 ++ ex) (pc, lv, st, g) H locs ls st') :
    W p l e R s m args below meth c H locs (g.2.1 - n0) (g.2.2 - s0) (vx_MQ below (hm_Qc G D B as0 gf.1 out) (hm_Xc G D B as0 gf.1 out) args s (gf.2.1 - n0) (gf.2.2 - s0) (fun q => B ≤ q)) (F0 m pc ls st') := by
  obtain ⟨c1, c2, c3, c4, c5, c6, c7, c8, c9, c10, c11, c12, c13⟩ := hx
  obtain ⟨lv', h1, h2, h3, h4, h5⟩ := hp
  replace h3 : hm_vs (as0 ++ ex) st st' := h3
  unfold hm_dE at hs
  split at hs
  · rename_i hl
    obtain ⟨v, hv, hs⟩ := Option.map_eq_some_iff.mp hs
    cases hs
    rw [hl] at hdg
    have K : ∀ w : Option Value, hm_ov (as0 ++ ex) v w → ∀ t : State, t.heap = H → s.WarmedH t.vm → hm_Qc G D B as0 g.1 (some v) args s (.returned w) t := fun w hw t ht hW =>
      ⟨⟨ex, v, w, rfl, rfl, hw, by rw [ht]; exact hm_W_moved hW.alike h4⟩, h5.F ht⟩
    unfold hm_ret at hv
    split at hv
    · rename_i ho
      split at hv
      · rename_i hr
        cases hv
        rw [ho] at hdg
        have := hm_vs_nil h3
        subst this
        exact vx_ret (W.vret c1 c2 (c6.trans hr) (K none trivial) h5.2.2 hdg)
      · cases hv
    · rename_i x ho
      split at hv
      · rename_i ty hr
        split at hv
        · rename_i hn
          cases hv
          rw [ho] at hdg
          obtain ⟨w, st3, rfl, hwv, hs2⟩ := hm_vs_cons h3
          cases hwv
          have := hm_vs_nil hs2
          subst this
          exact vx_ret (W.zret c1 c2 (c6.trans hr) hn (K (some (.int x)) rfl) h5.2.2 hdg)
        · cases hv
      · cases hv
    · rename_i x ho
      split at hv
      · rename_i hr
        cases hv
        rw [ho] at hdg
        obtain ⟨w, st3, rfl, hwv, hs2⟩ := hm_vs_cons h3
        cases hwv
        have := hm_vs_nil hs2
        subst this
        exact vx_ret (W.lret c1 c2 (c6.trans hr) (K (some (.long x)) rfl) h5.2.2 hdg)
      · cases hv
    · cases hv
  · cases hs
theorem hm_stX (hx : hm_ctx p l s m args meth c G cn nw Ts D B M as0) (hX : hm_okX G cn Ts nw) (hnw : ∀ w ∈ nw, hm_nw w = true) (hdg : decode (hm_Mc M) pc = .ok (o.1, o.2.1)) (hs : hm_dX G M o pc st g = some (.inr (gf, out))) (hp : hm_pt s D (hm_Tcl G) B (hm_Tro G) (hm_Ml M) (as0 ++ ex) (pc, lv, st, g) H locs ls st') (hn0 : n0 ≤ g.2.1 ∧ s0 ≤ g.2.2)
    (hR : 8 ≤ R.frames ∧ 128 ≤ R.locals ∧ gf.2.1 - n0 ≤ R.cells ∧ gf.2.2 - s0 ≤ R.slots) :
    W p l e R s m args below meth c H locs (g.2.1 - n0) (g.2.2 - s0) (vx_MQ below (hm_Qc G D B as0 gf.1 out) (hm_Xc G D B as0 gf.1 out) args s (gf.2.1 - n0) (gf.2.2 - s0) (fun q => B ≤ q)) (F0 m pc ls st') := by
  obtain ⟨c1, c2, c3, c4, c5, c6, c7, c8, c9, c10, c11, c12, c13⟩ := hx
  obtain ⟨lv', h1, h2, h3, h4, h5⟩ := hp
  replace h3 : hm_vs (as0 ++ ex) st st' := h3
  replace h4 : hm_W D (hm_Tcl G) B (hm_Tro G) (as0 ++ ex) s H g.1 := h4
  unfold hm_dX at hs
  split at hs
  · rename_i x o3 o4 o7 hx1 hx3 hx4 hx7
    obtain ⟨own, t1, t2, t3, t4, t5⟩ := hX x (List.mem_of_getElem? hx1)
    split at hs
    · rename_i hi
      obtain ⟨i1, i2, i3, i4, i5, i6, i7, i8, i9, i10, i11⟩ := hi
      have hown : own = (hm_My M).cls := by rw [i1] at t1; exact Option.some.inj (t1.symm.trans c12)
      subst hown
      cases hs
      dsimp only at hR
      have d3 := c13 _ _ hx3
      have d4 := c13 _ _ hx4
      have d7 := c13 _ _ hx7
      rw [i2, i3] at hdg
      rw [i4, i5] at d3
      rw [i6, i7] at d4
      rw [i8, i9] at d7
      refine vx_throw0 (names := hm_sup) c1 c2 c11 c5 (by decide +kernel) (by decide +kernel) (c4 _ t2) (c4 _ t3) (fun w hw => ?_) t5 c9.2.2.2.2.2.2.1 c9.2.2.2.2.2.2.2 h5 (h1.1.trans c3.symm) hdg d3 d4 d7 (by rw [c10, i11]; intro x hx; cases hx) (by show 2 + 3 < _; omega) (by rw [hm_vs_cat h3]; show _ + (13 * (2 + 1) + 42) ≤ _; omega) (by omega) (by omega) c7 (fun t ht hz hk => ?_) h5.2.2 (by show g.2.1 - n0 + 1 ≤ g.2.1 + 1 - n0; omega) (by show g.2.2 - s0 + 6 ≤ g.2.2 + 6 - s0; omega)
      · rcases t4 w hw with h | h
        · exact c4 _ h
        · exact (c9.2.1 _ h).use (hm_nw_tab (hnw w h))
      · exact ⟨⟨rfl, rfl, ex, hm_W_moved ht (hm_W_more h4 hz hk)⟩, Nat.le_trans h5.1 hz, fun q z1 z2 => (hk q (Nat.lt_of_lt_of_le z1 h5.1)).trans (h5.2.1 q z1 z2)⟩
    · cases hs
  · cases hs
/-- a body: whatever the small machine runs to, the real one does -/
theorem hm_body (hx : hm_ctx p l s m args meth c G cn nw Ts D B M as0) (hok : hm_ok G cn Ts nw pg) (hsd : hm_sound l G cn nw Ts D B pg d call) (hRd : d + 9 ≤ R.frames ∧ (d + 1) * 64 + 128 ≤ R.locals) (hRc : gf.2.1 - n0 ≤ R.cells ∧ gf.2.2 - s0 ≤ R.slots)
    (hH : ∀ x, hm_Mh M = [x] → x.2.2.2 ≠ 0 ∧ Cond.classLink (hm_My M).cls x.2.2.2 hm_xn ∈ Ts ∧ Cond.castable hm_xn hm_xn ∈ nw) :
    ∀ (n : Nat) (S : hm_S), hm_run G call M n S = some (gf, out) → n0 ≤ S.2.2.2.2.1 ∧ s0 ≤ S.2.2.2.2.2 → ∀ (ex : List Nat) (H : Heap) (locs : List Loc) (ls : Array Slot) (st' : List Value), hm_pt s D (hm_Tcl G) B (hm_Tro G) (hm_Ml M) (as0 ++ ex) S H locs ls st' →
      W p l e R s m args below meth c H locs (S.2.2.2.2.1 - n0) (S.2.2.2.2.2 - s0) (vx_MQ below (hm_Qc G D B as0 gf.1 out) (hm_Xc G D B as0 gf.1 out) args s (gf.2.1 - n0) (gf.2.2 - s0) (fun q => B ≤ q)) (F0 m S.1 ls st') := by
  obtain ⟨hT, hC, hL, hX, hg, hnw⟩ := hok
  have hcu : ∀ i vs g g2 out, call i vs g = some (g2, out) → hm_up g g2 := fun i vs g g2 out h => (hsd i vs g g2 out h).1
  intro n
  induction n with
  | zero => intro S h; cases h
  | succ n ih =>
    intro S h hn0 ex H locs ls st' hp
    obtain ⟨pc, lv, st, g⟩ := S
    dsimp only at hn0
    have hus := hm_up_step (G := G) (M := M) hcu (S := (pc, lv, st, g))
    unfold hm_run at h
    cases hst : hm_step G call M (pc, lv, st, g) with
    | none => rw [hst] at h; cases h
    | some res =>
      rw [hst] at h hus
      have hst0 := hst
      unfold hm_step at hst
      dsimp only at hst
      split at hst
      · rename_i o ho
        have hdg := hx.2.2.2.2.2.2.2.2.2.2.2.2 pc o ho
        have has : hm_le as0 (as0 ++ ex) := hm_le_app
        cases res with
        | inl S2 =>
          dsimp only at h
          have hu2 := hus.1 S2 rfl
          have hn2 : n0 ≤ S2.2.2.2.2.1 ∧ s0 ≤ S2.2.2.2.2.2 := ⟨Nat.le_trans hn0.1 hu2.1, Nat.le_trans hn0.2 hu2.2⟩
          have hu3 := hm_up_run hcu n S2 gf out h
          have hR2 : S2.2.2.2.2.1 - n0 ≤ R.cells ∧ S2.2.2.2.2.2 - s0 ≤ R.slots := by
            have := hu3.1
            have := hu3.2
            omega
          have hRg : g.2.1 - n0 ≤ R.cells ∧ g.2.2 - s0 ≤ R.slots := by
            have h1 : g.2.1 ≤ S2.2.2.2.2.1 := hu2.1
            have h2 : g.2.2 ≤ S2.2.2.2.2.2 := hu2.2
            omega
          have kk : hm_on2 p l e R s m args below meth c (vx_MQ below (hm_Qc G D B as0 gf.1 out) (hm_Xc G D B as0 gf.1 out) args s (gf.2.1 - n0) (gf.2.2 - s0) (fun q => B ≤ q)) D (hm_Tcl G) B (hm_Tro G) (hm_Ml M) n0 s0 (as0 ++ ex) S2 := fun ex2 H2 locs2 ls2 st2 hp2 => ih S2 h hn2 (ex ++ ex2) H2 locs2 ls2 st2 (by rw [← List.append_assoc]; exact hp2)
          unfold hm_do at hst
          split at hst
          · exact hm_stPu hst hp kk (fun r lv' e1 e2 e3 e4 e5 => hm_simK hx.1 hx.2.1 hdg e2 e3 e4 e1 e5)
          · exact hm_stPu hst hp kk (fun r lv' e1 e2 e3 e4 e5 => hm_simL hx.1 hx.2.1 hdg e2 e3 e4 e1 e5)
          · exact hm_stPu hst hp kk (fun r lv' e1 e2 e3 e4 e5 => hm_simS hx.1 hx.2.1 hdg e2 e3 e4 e1 e5)
          · exact hm_stPu hst hp kk (fun r lv' e1 e2 e3 e4 e5 => hm_simA hx.1 hx.2.1 hdg e2 e3 e4 e1 e5)
          · exact hm_stPu hst hp kk (fun r lv' e1 e2 e3 e4 e5 => hm_simJ hx.1 hx.2.1 hdg e2 e3 e4 e1 e5)
          · exact hm_stPu hst hp kk (fun r lv' e1 e2 e3 e4 e5 => hm_simU hx.1 hx.2.1 hdg e2 e3 e4 e1 e5)
          · exact hm_stPu hst hp kk (fun r lv' e1 e2 e3 e4 e5 => hm_simD hx.1 hx.2.1 hdg e2 e3 e4 e1 e5)
          · exact hm_stPu hst hp kk (fun r lv' e1 e2 e3 e4 e5 => hm_simB hx.1 hx.2.1 hdg e2 e3 e4 e1 e5)
          · obtain ⟨q, hq, hst⟩ := Option.map_eq_some_iff.mp hst
            cases hst
            obtain ⟨lv', h1, h2, h3, h4, h5⟩ := hp
            exact hm_simW hx.1 hx.2.1 hdg h1 h2 h3 hq (fun ls2 lv2 st2 k1 k2 k3 => hm_on2_1 (S2 := (q.1, q.2.1, q.2.2, g)) kk ⟨lv2, k1, k2, k3, h4, h5⟩)
          · exact hm_stF hx hT hdg hst hp kk
          · exact hm_stG hx hT hdg hst hp kk
          · exact hm_stA hx hdg hst hp kk
          · exact hm_stN hx hT hdg hst hp hn0 hR2 kk
          · exact hm_stK hx hT hdg hst hp kk
          · refine hm_stC hx hC hg hnw hsd hRd has hH hdg hst hp hn0 ⟨fun S3 e3 => by cases e3; exact hR2, fun g2 out2 e3 => by cases e3⟩ (fun S3 e3 => by cases e3; exact kk) (fun g2 e3 => by cases e3)
          · exact hm_stL hx hL hdg hst hp ⟨by omega, by omega, hRg⟩ kk
          · unfold hm_dE at hst
            split at hst
            · obtain ⟨v, -, hst⟩ := Option.map_eq_some_iff.mp hst
              cases hst
            · cases hst
          · unfold hm_dX at hst
            split at hst
            · split at hst <;> cases hst
            · cases hst
          · exact hm_stT hx has hdg hst hp kk
          · exact hm_stZ hx hT has hdg hst hp kk
          · cases hst
        | inr r =>
          dsimp only at h
          obtain rfl : r = (gf, out) := Option.some.inj h
          have hug : g.2.1 ≤ gf.2.1 ∧ g.2.2 ≤ gf.2.2 := hus.2 gf out rfl
          unfold hm_do at hst
          split at hst
          · unfold hm_pu at hst; split at hst; split at hst; cases hst; cases hst; cases hst
          · unfold hm_pu at hst; split at hst; split at hst; cases hst; cases hst; cases hst
          · unfold hm_pu at hst; split at hst; split at hst; cases hst; cases hst; cases hst
          · unfold hm_pu at hst; split at hst; split at hst; cases hst; cases hst; cases hst
          · unfold hm_pu at hst; split at hst; split at hst; cases hst; cases hst; cases hst
          · unfold hm_pu at hst; split at hst; split at hst; cases hst; cases hst; cases hst
          · unfold hm_pu at hst; split at hst; split at hst; cases hst; cases hst; cases hst
          · unfold hm_pu at hst; split at hst; split at hst; cases hst; cases hst; cases hst
          · obtain ⟨q, -, hst⟩ := Option.map_eq_some_iff.mp hst; cases hst
          · exact absurd hst (hm_nr_F _)
          · exact absurd hst (hm_nr_G _)
          · exact absurd hst (hm_nr_A _)
          · exact absurd hst (hm_nr_N _)
          · exact absurd hst (hm_nr_K _)
          · refine hm_stC hx hC hg hnw hsd hRd has hH hdg hst hp hn0 ⟨(fun S3 e3 => by cases e3), (fun g2 out2 e3 => by cases e3; exact hRc)⟩ (fun S3 e3 => by cases e3) (fun g2 e3 hM ex2 H1 locs1 q9 ce rest' k1 k2 k3 k4 k5 => ?_)
            cases e3
            refine vx_out (E := hm_xn) (by rw [hx.2.2.2.2.2.2.2.2.2.1, hM]; intro x9 hx9; cases hx9) hx.2.2.2.2.2.2.1 k3 k4 k5 (fun t ht hal => ?_) k2.2.2 (Nat.le_refl _) (Nat.le_refl _)
            exact ⟨⟨rfl, rfl, ex ++ ex2, by rw [ht, ← List.append_assoc]; exact hm_W_moved hal k1⟩, k2.F ht⟩
          · exact absurd hst (hm_nr_L _)
          · exact hm_stE hx hdg hst hp
          · exact hm_stX hx hX hnw hdg hst hp hn0 ⟨by omega, by omega, hRc⟩
          · exact absurd hst (hm_nr_T _)
          · exact absurd hst (hm_nr_Z _)
          · cases hst
      · cases hst
end BODY
