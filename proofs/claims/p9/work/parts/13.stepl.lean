/-- the rows on the library's methods hold -/
def hm_okL (G : hm_T) (cn : List String) (Ts : List Cond) : Prop := ∀ x ∈ hm_Tl G, ∃ own : String, cn[x.1]? = some own ∧ match x.2.2 with
  | 0 => Cond.methodLink own x.2.1 Lib.objectInit ∈ Ts ∧ Cond.instanceMethod Lib.objectInit ∈ Ts ∧ Cond.code Lib.objectInit ⟨#[0xb1]⟩ 1 none ∈ Ts
  | 1 => Cond.methodLink own x.2.1 Lib.Math.max.name ∈ Ts ∧ Cond.static Lib.Math.max.name ∈ Ts ∧ Cond.initialized "java/lang/Math" ∈ Ts ∧ Cond.code Lib.Math.max.name Lib.Math.max.code 2 (some .int) ∈ Ts
  | 2 => Cond.methodLink own x.2.1 Lib.Math.min.name ∈ Ts ∧ Cond.static Lib.Math.min.name ∈ Ts ∧ Cond.initialized "java/lang/Math" ∈ Ts ∧ Cond.code Lib.Math.min.name Lib.Math.min.code 2 (some .int) ∈ Ts
  | 3 => Cond.methodLink own x.2.1 Lib.MathLoose.min_long.x ∈ Ts ∧ Cond.static Lib.MathLoose.min_long.x ∈ Ts ∧ Cond.initialized "java/lang/Math" ∈ Ts ∧ Cond.code Lib.MathLoose.min_long.x Lib.MathLoose.min_long.code 4 (some .long) ∈ Ts
  | 4 => Cond.methodLink own x.2.1 arraycopyName ∈ Ts ∧ Cond.native arraycopyName ∈ Ts ∧ Cond.static arraycopyName ∈ Ts ∧ Cond.initialized "java/lang/System" ∈ Ts
  | _ => True
theorem hm_allI_at {ty : FieldType} {l : List Value} (h : hm_allI ty l = true) {j : Nat} {v : Value} (hv : l[j]? = some v) : ∃ x : Int32, v = .int x ∧ fits ty (.int x) = true := by
  have h1 := List.all_eq_true.mp h v (List.mem_of_getElem? hv)
  cases v with
  | int x => exact ⟨x, rfl, h1⟩
  | _ => simp at h1
theorem hm_nn {z : Int32} (hz : ¬ z < 0) : z.toInt = (z.toNatClampNeg : Int) := by
  have hz0 : (0 : Int) ≤ z.toInt := by
    have := Int32.not_lt.mp hz
    simpa using Int32.le_iff_toInt_le.mp this
  show z.toInt = ((z.toInt.toNat : Nat) : Int)
  omega
section STEPL
variable {p : Program} {l : Launch} {e : Env} {R : Room} {s : State} {m : MethodId} {args : Array Value} {below : List Frame} {meth : Method} {c : Code} {Q : State → Prop}
variable {G : hm_T} {cn : List String} {nw Ts : List Cond} {D : va_G} {B n0 s0 : Nat} {M : hm_M} {as0 as : List Nat}
variable {o : hm_O} {pc : Nat} {lv : List (Nat × Value)} {st : List Value} {g : hm_G} {S2 : hm_S} {H : Heap} {locs : List Loc} {ls : Array Slot} {st' : List Value}
theorem hm_stL (hx : hm_ctx p l s m args meth c G cn nw Ts D B M as0) (hL : hm_okL G cn Ts) (hdg : decode (hm_Mc M) pc = .ok (o.1, o.2.1)) (hs : hm_dL G M o pc lv st g = some (.inl S2)) (hp : hm_pt s D (hm_Tcl G) B (hm_Tro G) (hm_Ml M) as (pc, lv, st, g) H locs ls st')
    (hR : 8 ≤ R.frames ∧ 128 ≤ R.locals ∧ g.2.1 - n0 ≤ R.cells ∧ g.2.2 - s0 ≤ R.slots) (kk : hm_on2 p l e R s m args below meth c Q D (hm_Tcl G) B (hm_Tro G) (hm_Ml M) n0 s0 as S2) : W p l e R s m args below meth c H locs (g.2.1 - n0) (g.2.2 - s0) Q (F0 m pc ls st') := by
  obtain ⟨c1, c2, c3, c4, c5, c6, c7, c8, c9, c10, c11, c12, c13⟩ := hx
  obtain ⟨lv', h1, h2, h3, h4, h5⟩ := hp
  replace h3 : hm_vs as st st' := h3
  have hcat := hm_vs_cat h3
  have hml : c.maxLocals = ls.size := c3.trans h1.1.symm
  unfold hm_dL at hs
  split at hs
  · cases hs
  · rename_i x hx
    obtain ⟨own, t1, t2⟩ := hL x (List.mem_of_getElem? hx)
    obtain ⟨oc, ix, wh⟩ := x
    dsimp only at hs t1 t2
    replace hs : (if oc = hm_Mo M ∧ o.2.1 = 3 ∧ (o.1 = if wh = 0 then .invokespecial ix else .invokestatic ix) ∧ (st.map fun v => v.category).sum ≤ 16 then (hm_lib (hm_Tro G) wh st g.1).map (fun r => .inl (pc + 3, lv, r.1, r.2, g.2)) else none : hm_R) = some (.inl S2) := by
      by_cases hw : wh = 0
      · rw [if_pos hw] at hs ⊢; exact hs
      · rw [if_neg hw] at hs ⊢; exact hs
    by_cases hi : oc = hm_Mo M ∧ o.2.1 = 3 ∧ (o.1 = if wh = 0 then .invokespecial ix else .invokestatic ix) ∧ (st.map fun v => v.category).sum ≤ 16
    · rw [if_pos hi] at hs
      have hown : own = (hm_My M).cls := by rw [hi.1] at t1; exact Option.some.inj (t1.symm.trans c12)
      subst hown
      have hc16 := hi.2.2.2
      rw [← hcat] at hc16
      obtain ⟨r, hr, hs⟩ := Option.map_eq_some_iff.mp hs
      cases hs
      rw [hi.2.1, hi.2.2.1] at hdg
      unfold hm_lib at hr
      split at hr
      · rw [if_pos rfl] at hdg
        split at hr
        · rename_i b r2
          cases hr
          obtain ⟨w, st3, rfl, hwv, hs2⟩ := hm_vs_cons h3
          obtain ⟨a, ha, rfl⟩ := hwv
          refine W.objInit c1 c2 c5 (c4 _ t2.1) (c4 _ t2.2.1) (c4 _ t2.2.2) rfl hml.symm rfl hdg (by omega) (by simp at hc16; show 2 * 0 + _ + 12 ≤ _; omega) ?_
          exact hm_on2_1 (S2 := (pc + 3, lv, r2, g.1, g.2)) kk ⟨lv', h1, h2, hs2, h4, h5⟩
        · cases hr
      · rw [if_neg (by decide)] at hdg
        split at hr
        · rename_i y x r2
          cases hr
          obtain ⟨w, st3, rfl, hwv, hs2⟩ := hm_vs_cons h3
          cases hwv
          obtain ⟨w, st4, rfl, hwv, hs3⟩ := hm_vs_cons hs2
          cases hwv
          exact va_mmax c1 c2 hml c5 (c4 _ t2.1) (c4 _ t2.2.1) (c4 _ t2.2.2.1) (c4 _ t2.2.2.2) (by omega) (by simp at hc16; omega) hR.2.2.1 hR.2.2.2 hdg (hm_on2_1 (S2 := (pc + 3, lv, .int (if x < y then y else x) :: r2, g.1, g.2)) kk ⟨lv', h1, h2, ⟨rfl, hs3⟩, h4, h5⟩)
        · cases hr
      · rw [if_neg (by decide)] at hdg
        split at hr
        · rename_i y x r2
          cases hr
          obtain ⟨w, st3, rfl, hwv, hs2⟩ := hm_vs_cons h3
          cases hwv
          obtain ⟨w, st4, rfl, hwv, hs3⟩ := hm_vs_cons hs2
          cases hwv
          exact va_mmin c1 c2 hml c5 (c4 _ t2.1) (c4 _ t2.2.1) (c4 _ t2.2.2.1) (c4 _ t2.2.2.2) (by omega) (by simp at hc16; omega) hR.2.2.1 hR.2.2.2 hdg (hm_on2_1 (S2 := (pc + 3, lv, .int (if y < x then y else x) :: r2, g.1, g.2)) kk ⟨lv', h1, h2, ⟨rfl, hs3⟩, h4, h5⟩)
        · cases hr
      · rw [if_neg (by decide)] at hdg
        split at hr
        · rename_i y x r2
          cases hr
          obtain ⟨w, st3, rfl, hwv, hs2⟩ := hm_vs_cons h3
          cases hwv
          obtain ⟨w, st4, rfl, hwv, hs3⟩ := hm_vs_cons hs2
          cases hwv
          exact va_mmin_long c1 c2 hml c5 (c4 _ t2.1) (c4 _ t2.2.1) (c4 _ t2.2.2.1) (c4 _ t2.2.2.2) (by omega) (by simp at hc16; omega) hR.2.2.1 hR.2.2.2 hdg (hm_on2_1 (S2 := (pc + 3, lv, .long (if y < x then y else x) :: r2, g.1, g.2)) kk ⟨lv', h1, h2, ⟨rfl, hs3⟩, h4, h5⟩)
        · cases hr
      · rw [if_neg (by decide)] at hdg
        split at hr
        · rename_i n dp t sp f r2
          split at hr
          · rename_i a b hf ht
            by_cases hc : hm_Tro G ≤ f ∧ hm_Tro G ≤ t ∧ a.1 = b.1 ∧ hm_ib b.1 = true ∧ hm_allI b.1 a.2 = true ∧ True ∧ ¬ sp < 0 ∧ ¬ dp < 0 ∧ ¬ n < 0 ∧ sp.toNatClampNeg + n.toNatClampNeg ≤ a.2.length ∧ dp.toNatClampNeg + n.toNatClampNeg ≤ b.2.length
            · rw [if_pos hc] at hr
              cases hr
              obtain ⟨q1, q2, q3, q4, q5, q6, q7, q8, q9, q10, q11⟩ := hc
              obtain ⟨w, st3, rfl, hwv, hs2⟩ := hm_vs_cons h3
              cases hwv
              obtain ⟨w, st4, rfl, hwv, hs3⟩ := hm_vs_cons hs2
              cases hwv
              obtain ⟨w, st5, rfl, hwv, hs4⟩ := hm_vs_cons hs3
              obtain ⟨ad, had, rfl⟩ := hwv
              obtain ⟨w, st6, rfl, hwv, hs5⟩ := hm_vs_cons hs4
              cases hwv
              obtain ⟨w, st7, rfl, hwv, hs6⟩ := hm_vs_cons hs5
              obtain ⟨af, haf, rfl⟩ := hwv
              obtain ⟨af2, haf2, cs, f1, f2, f3, f4, f5, f6, f7⟩ := hm_W_get h4 hf
              cases haf.symm.trans haf2
              obtain ⟨ad2, had2, cd, d1, d2, d3, d4, d5, d6, d7⟩ := hm_W_get h4 ht
              cases had.symm.trans had2
              rw [q3] at f2
              have hsrc : ∀ i : Nat, i < n.toNatClampNeg → ∃ z : Int32, a.2[sp.toNatClampNeg + i]? = some (.int z) ∧ cs.slots.getD (sp.toNatClampNeg + i) .null = .int z ∧ fits b.1 (.int z) = true := fun i hi9 => by
                have hlt : sp.toNatClampNeg + i < a.2.length := by omega
                obtain ⟨z, hz, hfz⟩ := hm_allI_at q5 (List.getElem?_eq_getElem hlt)
                obtain ⟨w9, e1, e2⟩ := f7 _ _ (List.getElem?_eq_getElem hlt)
                rw [hz] at e2
                cases e2
                exact ⟨z, by rw [List.getElem?_eq_getElem hlt, hz], by rw [Array.getD_eq_getD_getElem?, e1]; rfl, hfz⟩
              have hnf : nativeFrameWords "java/lang/System" "arraycopy" 5 ≤ 40 := by decide +kernel
              intro T hT X
              obtain ⟨-, k0, hk0, cm0, hkk0⟩ := id f2
              obtain ⟨-, k1, hk1, cm1, hkk1⟩ := id d2
              obtain ⟨vm', X', step⟩ := X.arraycopy c1 c5 (c4 _ t2.1) (c4 _ t2.2.1) (c4 _ t2.2.2.1) (c4 _ t2.2.2.2) (src := af) (dst := ad) (cs := cs) (cd := cd) (srcPos := sp) (destPos := dp) (n := n) (by rw [hT]; exact f1) (by rw [hT]; exact d1) f2.1 d2.1 f4 d4 hk0 hk1 hkk0 hkk1 (by simp) q7 q8 q9
                (by rw [hm_nn q7, hm_nn q9]; omega) (by rw [hm_nn q8, hm_nn q9]; omega)
                (fun vm₁ _ i hi9 => by
                  obtain ⟨z, -, e2, e3⟩ := hsrc i hi9
                  rw [e2]
                  exact ⟨e3, trivial⟩)
                (g := F0 m pc ls (.int n :: .int dp :: .ref ad :: .int sp :: .ref af :: st7)) rfl hml.symm (rest := st7) rfl (by rw [c2]; exact hdg) (by omega) (by show 2 * 0 + _ + _ ≤ _; simp at hc16; omega)
              have hlen : (cs.stretch sp.toNatClampNeg n.toNatClampNeg).length = n.toNatClampNeg := by simp [Cell.stretch]
              have hfac := Cell.storeRun_facts cd dp.toNatClampNeg (cs.stretch sp.toNatClampNeg n.toNatClampNeg)
              have hl : ad < H.size := (Array.getElem?_eq_some_iff.mp d1).1
              have hheap : ((T.setVm vm').setCell ad (copied cs cd sp dp n)).heap = H.setIfInBounds ad (copied cs cd sp dp n) := by rw [← hT]; rfl
              have oq : ∀ q : Nat, q ≠ ad → (H.setIfInBounds ad (copied cs cd sp dp n))[q]? = H[q]? := fun q hq => by simp [Array.getElem?_setIfInBounds, Ne.symm hq]
              have hz : (H.setIfInBounds ad (copied cs cd sp dp n)).size = H.size := by simp
              have hW9 : hm_W D (hm_Tcl G) B (hm_Tro G) as s (H.setIfInBounds ad (copied cs cd sp dp n)) (g.1.set t (.inl (b.1, hm_cpy a.2 b.2 sp.toNatClampNeg dp.toNatClampNeg n.toNatClampNeg))) := by
                refine hm_W_set h4 q2 had hz oq ⟨copied cs cd sp dp n, by simp [Array.getElem?_setIfInBounds, hl], ?_, (fun C hC => by
                  have hC : b.1 = .object C := hC
                  rw [hC] at q4
                  cases q4), ?_, ?_, ?_, fun j v hv => ?_⟩
                · exact ⟨(fun k z => d2.1 k (by rw [← hfac.2.1]; exact z)), k1, (by show s.vm.classes[(copied cs cd sp dp n).cls]? = _; rw [show (copied cs cd sp dp n).cls = cd.cls from hfac.1]; exact hk1), cm1, hkk1⟩
                · rw [show (copied cs cd sp dp n).vm = cd.vm from hfac.2.1]; exact d4
                · show (hm_cpy a.2 b.2 _ _ _).length ≤ _
                  rw [show (copied cs cd sp dp n).slots.size = cd.slots.size from hfac.2.2.1]
                  simp [hm_cpy]; exact d5
                · show _ = Int32.ofNat (hm_cpy a.2 b.2 _ _ _).length
                  rw [show (copied cs cd sp dp n).slots.size = cd.slots.size from hfac.2.2.1]
                  simp [hm_cpy]; exact d6
                · have hv : (hm_cpy a.2 b.2 sp.toNatClampNeg dp.toNatClampNeg n.toNatClampNeg)[j]? = some v := hv
                  have hj : j < b.2.length := by have := (List.getElem?_eq_some_iff.mp hv).1; simpa [hm_cpy] using this
                  unfold hm_cpy at hv
                  rw [List.getElem?_map, List.getElem?_range hj] at hv
                  have hg9 := Cell.storeRun_get cd dp.toNatClampNeg (cs.stretch sp.toNatClampNeg n.toNatClampNeg) j (by rw [hlen]; omega)
                  show ∃ w, (cd.storeRun dp.toNatClampNeg (cs.stretch sp.toNatClampNeg n.toNatClampNeg)).slots[j]? = some w ∧ _
                  rw [hg9, hlen]
                  by_cases hin : dp.toNatClampNeg ≤ j ∧ j < dp.toNatClampNeg + n.toNatClampNeg
                  · rw [if_pos hin]
                    obtain ⟨z, e1, e2, -⟩ := hsrc (j - dp.toNatClampNeg) (by omega)
                    have hv2 : v = .int z := by
                      simp only [Option.map_some, if_pos hin] at hv
                      rw [List.getD_eq_getElem?_getD, e1] at hv
                      cases hv
                      rfl
                    subst hv2
                    refine ⟨.int z, ?_, rfl⟩
                    unfold Cell.stretch
                    rw [List.getElem?_map, List.getElem?_range (by omega)]
                    exact congrArg some e2
                  · rw [if_neg hin]
                    have hv2 : b.2[j]? = some v := by
                      simp only [Option.map_some, if_neg hin] at hv
                      rw [List.getD_eq_getElem?_getD, List.getElem?_eq_getElem hj] at hv
                      rw [List.getElem?_eq_getElem hj]
                      exact hv
                    exact d7 j v hv2
              obtain ⟨t9, a1, b1⟩ := hm_on2_1 (S2 := (pc + 3, lv, r2, g.1.set t (.inl (b.1, hm_cpy a.2 b.2 sp.toNatClampNeg dp.toNatClampNeg n.toNatClampNeg)), g.2)) (ls := ls) (locs := locs ++ (cs.stretch sp.toNatClampNeg n.toNatClampNeg).zipIdx.map fun q => ⟨ad, dp.toNatClampNeg + q.2⟩) (H := H.setIfInBounds ad (copied cs cd sp dp n)) (st' := st7) kk ⟨lv', h1, h2, hs6, hW9, ⟨by rw [hz]; exact h5.1, fun q g1 g2 => by
                  rw [oq q (fun e9 => g2 (by rw [e9]; exact h4.2.2.1 t ad q2 had))]
                  exact h5.2.1 q g1 g2, fun q hq => by
                  rcases List.mem_append.mp hq with h9 | h9
                  · exact h5.2.2 q h9
                  · obtain ⟨z, -, hz9⟩ := List.mem_map.mp h9
                    rw [← hz9]
                    exact h4.2.2.1 t ad q2 had⟩⟩ _ hheap X'
              exact ⟨t9, step t9 a1, b1⟩
            · rw [if_neg hc] at hr; cases hr
          · cases hr
        · cases hr
      · cases hr
    · rw [if_neg hi] at hs; cases hs
end STEPL
