/-- new things, one behind the other, at the heap's end -/
theorem hm_W_pushes {D : va_G} {cl : List vw_C} {B nro : Nat} {as : List Nat} {U : State} {H H1 : Heap} {h xs : hm_H} (hw : hm_W D cl B nro as U H h) (hz : H.size + xs.length ≤ H1.size) (ho : ∀ q : Nat, q < H.size → H1[q]? = H[q]?)
    (hx : ∀ (j : Nat) (x : hm_E), xs[j]? = some x → hm_cell D cl (as ++ (List.range xs.length).map (fun j => H.size + j)) U H1 (H.size + j) x) : hm_W D cl B nro (as ++ (List.range xs.length).map (fun j => H.size + j)) U H1 (h ++ xs) := by
  obtain ⟨h1, h2, h3, h4, h5, h6, h7⟩ := hw
  have hat : ∀ (k b : Nat), (as ++ (List.range xs.length).map (fun j => H.size + j))[k]? = some b → (k < as.length ∧ as[k]? = some b) ∨ (as.length ≤ k ∧ k - as.length < xs.length ∧ b = H.size + (k - as.length)) := by
    intro k b hk
    by_cases e : k < as.length
    · rw [List.getElem?_append_left e] at hk
      exact Or.inl ⟨e, hk⟩
    · rw [List.getElem?_append_right (by omega), List.getElem?_map] at hk
      by_cases e2 : k - as.length < xs.length
      · rw [List.getElem?_range e2] at hk
        cases hk
        exact Or.inr ⟨by omega, e2, rfl⟩
      · rw [List.getElem?_eq_none (by rw [List.length_range]; omega)] at hk
        cases hk
  have hin : ∀ (k b : Nat), as[k]? = some b → b < H.size := by
    intro k b hk
    have e : k < h.length := by rw [← h1]; exact (List.getElem?_eq_some_iff.mp hk).1
    exact hm_cell_at (h2 k b h[k] hk (List.getElem?_eq_getElem e))
  refine ⟨by simp [h1], fun k b y hk hy => ?_, fun k b hn hk => ?_, fun j k b hj hk h8 h9 => ?_, fun k b hk h8 => ?_, by omega, by simp; omega⟩
  · rcases hat k b hk with ⟨e, hk⟩ | ⟨e, e2, rfl⟩
    · rw [List.getElem?_append_left (by rw [← h1]; exact e)] at hy
      exact hm_cell_grow hm_le_app (hm_cell_kept (h2 k b y hk hy) (ho b (hin k b hk)))
    · rw [List.getElem?_append_right (by rw [← h1]; exact e), ← h1] at hy
      exact hx _ _ hy
  · rcases hat k b hk with ⟨e, hk⟩ | ⟨e, e2, rfl⟩
    · exact h3 k b hn hk
    · omega
  · rcases hat j b h8 with ⟨e, h8⟩ | ⟨e, e2, e3⟩
    · rcases hat k b h9 with ⟨e3, h9⟩ | ⟨e3, e4, e5⟩
      · exact h4 j k b hj hk h8 h9
      · have := hin j b h8
        omega
    · rcases hat k b h9 with ⟨e4, h9⟩ | ⟨e4, e5, e6⟩
      · have := hin k b h9
        omega
      · omega
  · rcases hat k b h8 with ⟨e, h8⟩ | ⟨e, e2, e3⟩
    · exact h5 k b hk h8
    · omega
section STEPN
variable {p : Program} {l : Launch} {e : Env} {R : Room} {s : State} {m : MethodId} {args : Array Value} {below : List Frame} {meth : Method} {c : Code} {Q : State → Prop}
variable {G : hm_T} {cn : List String} {nw Ts : List Cond} {D : va_G} {B n0 s0 : Nat} {M : hm_M} {as0 as : List Nat} {call : Nat → List Value → hm_G → Option (hm_G × hm_Out)}
variable {o : hm_O} {pc : Nat} {lv : List (Nat × Value)} {st : List Value} {g : hm_G} {S2 : hm_S} {H : Heap} {locs : List Loc} {ls : Array Slot} {st' : List Value}
theorem hm_stT (hx : hm_ctx p l s m args meth c G cn nw Ts D B M as0) (has : hm_le as0 as) (hdg : decode (hm_Mc M) pc = .ok (o.1, o.2.1)) (hs : hm_dT G M o pc lv st g = some (.inl S2)) (hp : hm_pt s D (hm_Tcl G) B (hm_Tro G) (hm_Ml M) as (pc, lv, st, g) H locs ls st')
    (kk : hm_on2 p l e R s m args below meth c Q D (hm_Tcl G) B (hm_Tro G) (hm_Ml M) n0 s0 as S2) : W p l e R s m args below meth c H locs (g.2.1 - n0) (g.2.2 - s0) Q (F0 m pc ls st') := by
  obtain ⟨c1, c2, c3, c4, c5, c6, c7, c8, c9, c10, c11, c12, c13⟩ := hx
  obtain ⟨lv', h1, h2, h3, h4, h5⟩ := hp
  unfold hm_dT at hs
  split at hs
  · cases hs
  · rename_i x hx
    obtain ⟨a, own, t3, t4, t5⟩ := c9.2.2.2.2.2.1 x (List.mem_of_getElem? hx)
    split at hs
    · rename_i hi
      have hown : own = (hm_My M).cls := by rw [hi.1] at t3; exact Option.some.inj (t3.symm.trans c12)
      subst hown
      cases hs
      have K := hm_on2_1 (ls := ls) (locs := locs) (H := H) (st' := .ref a :: st') kk ⟨lv', h1, h2, ⟨⟨a, has _ _ t4, rfl⟩, h3⟩, h4, h5⟩
      rcases hi.2 with ⟨o1, o2⟩ | ⟨o1, o2⟩
      · rw [o1, o2] at hdg
        rw [o2] at K
        exact va_ldcS c1 c2 c5 t5 hdg K
      · rw [o1, o2] at hdg
        rw [o2] at K
        intro T hT X
        obtain ⟨t, a1, b1⟩ := K T hT X
        exact ⟨t, Jvm.RoadKit.ldcWS X c1 c5 t5.1 t5.2 (g := F0 m pc ls st') rfl (by rw [c2]; exact hdg) t a1, b1⟩
    · cases hs
theorem hm_stN (hx : hm_ctx p l s m args meth c G cn nw Ts D B M as0) (hT : hm_okT G cn Ts nw) (hdg : decode (hm_Mc M) pc = .ok (o.1, o.2.1)) (hs : hm_dN G M o pc lv st g = some (.inl S2)) (hp : hm_pt s D (hm_Tcl G) B (hm_Tro G) (hm_Ml M) as (pc, lv, st, g) H locs ls st')
    (hn0 : n0 ≤ g.2.1 ∧ s0 ≤ g.2.2) (hR : S2.2.2.2.2.1 - n0 ≤ R.cells ∧ S2.2.2.2.2.2 - s0 ≤ R.slots)
    (kk : hm_on2 p l e R s m args below meth c Q D (hm_Tcl G) B (hm_Tro G) (hm_Ml M) n0 s0 as S2) : W p l e R s m args below meth c H locs (g.2.1 - n0) (g.2.2 - s0) Q (F0 m pc ls st') := by
  obtain ⟨c1, c2, c3, c4, c5, c6, c7, c8, c9, c10, c11, c12, c13⟩ := hx
  obtain ⟨lv', h1, h2, h3, h4, h5⟩ := hp
  unfold hm_dN at hs
  split at hs
  · rename_i k ho
    split at hs
    · cases hs
    · rename_i x hx
      obtain ⟨q, own, t1, t2, t3, t4, t5⟩ := hT.2.2.2.1 x (List.mem_of_getElem? hx)
      split at hs
      · cases hs
      · rename_i q9 hq9
        cases t1.symm.trans hq9
        split at hs
        · rename_i hi
          have hown : own = (hm_My M).cls := by rw [hi.1] at t2; exact Option.some.inj (t2.symm.trans c12)
          subst hown
          cases hs
          dsimp only at hR
          rw [ho, hi.2.1, hi.2.2] at hdg
          refine hm_simNew c1 c2 c4 hT.1 c5 c9.1 h4 h5 t1 (c4 _ t3) (c4 _ t4) (c4 _ t5) hdg h3 (by omega) (by omega) (fun ex H2 locs2 st2' k1 k2 k3 => ?_)
          have e1 : g.2.1 - n0 + 1 = g.2.1 + 1 - n0 := by omega
          have e2 : g.2.2 - s0 + q.2.2 = g.2.2 + q.2.2 - s0 := by omega
          rw [e1, e2]
          exact kk ex H2 locs2 ls st2' ⟨lv', h1, hm_lv_grow hm_le_app h2, k3, k1, k2⟩
        · cases hs
  · rename_i at9 ho
    split at hs
    · rename_i n r
      split at hs
      · rename_i hi
        cases hs
        dsimp only at hR
        rw [ho, hi.1] at hdg
        have hac : (Cond.arrayClass (newarray.typeOf at9)).before args s = true := by
          rcases hi.2.2.2 with z | z | z
          · rw [z]; exact c4 _ hT.2.2.2.2.1.1
          · rw [z]; exact c4 _ hT.2.2.2.2.1.2.1
          · rw [z]; exact c4 _ hT.2.2.2.2.1.2.2
        refine hm_simNewa c1 c2 hac h4 h5 hdg h3 hi.2.1 hi.2.2.1 (by omega) (by omega) (fun ex H2 locs2 st2' k1 k2 k3 => ?_)
        have e1 : g.2.1 - n0 + 1 = g.2.1 + 1 - n0 := by omega
        have e2 : g.2.2 - s0 + n.toNatClampNeg = g.2.2 + n.toNatClampNeg - s0 := by omega
        rw [e1, e2]
        exact kk ex H2 locs2 ls st2' ⟨lv', h1, hm_lv_grow hm_le_app h2, k3, k1, k2⟩
      · cases hs
    · cases hs
  · rename_i k ho
    split at hs
    · rename_i x n r hx
      split at hs
      · rename_i hi
        obtain ⟨own, t2, t3⟩ := hT.2.2.2.2.2.1 x (List.mem_of_getElem? hx)
        have hown : own = (hm_My M).cls := by rw [hi.1] at t2; exact Option.some.inj (t2.symm.trans c12)
        subst hown
        cases hs
        dsimp only at hR
        rw [ho, hi.2.1, hi.2.2.1] at hdg
        refine hm_simAnew c1 c2 c5 (c4 _ t3) (c9.2.2.1 x (List.mem_of_getElem? hx)).use h4 h5 hdg h3 hi.2.2.2.1 hi.2.2.2.2 (by omega) (by omega) (fun ex H2 locs2 st2' k1 k2 k3 => ?_)
        have e1 : g.2.1 - n0 + 1 = g.2.1 + 1 - n0 := by omega
        have e2 : g.2.2 - s0 + n.toNatClampNeg = g.2.2 + n.toNatClampNeg - s0 := by omega
        rw [e1, e2]
        exact kk ex H2 locs2 ls st2' ⟨lv', h1, hm_lv_grow hm_le_app h2, k3, k1, k2⟩
      · cases hs
    · cases hs
  · rename_i k ho
    split at hs
    · rename_i x y n r hx
      split at hs
      · rename_i hi
        obtain ⟨own, t2, t3⟩ := hT.2.2.2.2.2.2.1 x (List.mem_of_getElem? hx)
        have hown : own = (hm_My M).cls := by rw [hi.1] at t2; exact Option.some.inj (t2.symm.trans c12)
        subst hown
        cases hs
        dsimp only at hR
        rw [ho, hi.2.1, hi.2.2.1] at hdg
        have hAA : hm_AA s := c9.2.2.2.1 (fun z => by rw [z] at hx; cases hx)
        obtain ⟨w1, st3, rfl, hwv1, hs2⟩ := hm_vs_cons h3
        cases hwv1
        obtain ⟨w2, st4, rfl, hwv2, hs3⟩ := hm_vs_cons hs2
        cases hwv2
        intro T hT9 Xs
        obtain ⟨-, -, -, hi3, hi4, hi5, hi6⟩ := hi
        obtain ⟨vm₁, cA, comp, -, fA, fC, hO, hI, X', step⟩ := Xs.multianewarray2F c1 c5 (ty := .int) (c4 _ t3) hAA (c4 _ hT.2.2.2.2.1.1) (g := F0 m pc ls (.int y :: .int n :: st4)) rfl (by rw [c2]; exact hdg) rfl hi3 hi4 hi5 (by show y.toNatClampNeg * 4 ≤ _; exact hi6) (by omega) rfl rfl (by omega) (by omega)
        generalize hF : Jvm.Free.Multi.fill (T.setVm vm₁) cA comp n.toNatClampNeg y.toNatClampNeg (defaultValue .int) n.toNatClampNeg = F at X' step
        have hTh : (T.setVm vm₁).heap = H := hT9
        obtain ⟨f1, f2, -, -⟩ := Jvm.Free.Multi.fill_facts (T.setVm vm₁) cA comp n.toNatClampNeg y.toNatClampNeg (defaultValue .int) n.toNatClampNeg
        rw [hF, hTh] at f1 f2
        have hold : ∀ x : Nat, x < H.size → F.heap[x]? = H[x]? := fun x hx => by
          have := Jvm.Free.Multi.fill_old (T.setVm vm₁) cA comp n.toNatClampNeg y.toNatClampNeg (defaultValue .int) (a := x) (by rw [hTh]; exact hx) n.toNatClampNeg
          rw [hF, hTh] at this
          exact this
        have hrow : ∀ j : Nat, j < n.toNatClampNeg → F.heap[H.size + 1 + j]? = some (Jvm.Free.Multi.innerC comp y.toNatClampNeg (defaultValue .int)) := fun j hj => by
          have := Jvm.Free.Multi.fill_inner (T.setVm vm₁) cA comp n.toNatClampNeg y.toNatClampNeg (defaultValue .int) n.toNatClampNeg j hj
          rw [hF, hTh] at this
          exact this
        rw [vr_outer] at f2
        generalize hxs : (.inl (.array .int, (List.range n.toNatClampNeg).map (fun j => Value.ref (g.1.length + 1 + j))) :: List.replicate n.toNatClampNeg (hm_newa .int y.toNatClampNeg) : hm_H) = xs at kk
        have hxl : xs.length = 1 + n.toNatClampNeg := by rw [← hxs]; simp; omega
        have hat : ∀ j : Nat, j < xs.length → (as ++ (List.range xs.length).map (fun j => H.size + j))[g.1.length + j]? = some (H.size + j) := fun j hj => by
          rw [← h4.1, List.getElem?_append_right (by omega), show as.length + j - as.length = j by omega, List.getElem?_map, List.getElem?_range hj]
          rfl
        have hW9 : hm_W D (hm_Tcl G) B (hm_Tro G) (as ++ (List.range xs.length).map (fun j => H.size + j)) s F.heap (g.1 ++ xs) := by
          refine hm_W_pushes h4 (by rw [f1]; omega) hold (fun j x hx => ?_)
          rw [← hxs] at hx
          cases j with
          | zero =>
            cases hx
            refine ⟨_, f2, ?_, (fun C hC => by cases hC), (fun z => by cases z), (by rw [arrV_size]; simp), (by rw [arrV_size]; simp), fun j v hv => ?_⟩
            · obtain ⟨-, k9, hk9, cm9, hkk9⟩ := (hO 0 0 0).1
              exact ⟨(fun q hq => by cases hq), k9, hk9, cm9, hkk9⟩
            · have hv : ((List.range n.toNatClampNeg).map (fun j => Value.ref (g.1.length + 1 + j)))[j]? = some v := hv
              have hj : j < n.toNatClampNeg := by have := (List.getElem?_eq_some_iff.mp hv).1; simpa using this
              rw [List.getElem?_map, List.getElem?_range hj] at hv
              cases hv
              refine ⟨.ref (H.size + 1 + j), by rw [arrV_read _ _ hj]; simp [hj, va_rf], H.size + 1 + j, ?_, rfl⟩
              have := hat (1 + j) (by omega)
              rw [show g.1.length + (1 + j) = g.1.length + 1 + j by omega, show H.size + (1 + j) = H.size + 1 + j by omega] at this
              exact this
          | succ j =>
            have hx : (List.replicate n.toNatClampNeg (hm_newa .int y.toNatClampNeg))[j]? = some x := hx
            have hj : j < n.toNatClampNeg := by have := (List.getElem?_eq_some_iff.mp hx).1; simpa using this
            rw [List.getElem?_replicate, if_pos hj] at hx
            cases hx
            have hr := hrow j hj
            rw [show H.size + 1 + j = H.size + (j + 1) by omega] at hr
            exact hm_cell_newa hr (hI _ _).1 (fun C hC => by cases hC) (hI _ _).2 rfl
        have e1 : g.2.1 - n0 + 1 + n.toNatClampNeg = g.2.1 + 1 + n.toNatClampNeg - n0 := by omega
        have e2 : g.2.2 - s0 + n.toNatClampNeg + n.toNatClampNeg * y.toNatClampNeg = g.2.2 + n.toNatClampNeg + n.toNatClampNeg * y.toNatClampNeg - s0 := by omega
        rw [e1, e2] at X'
        have hl9 : (as ++ (List.range xs.length).map (fun j => H.size + j))[g.1.length]? = some H.size := hat 0 (by omega)
        obtain ⟨t, a1, b1⟩ := kk ((List.range xs.length).map (fun j => H.size + j)) F.heap locs ls (.ref H.size :: st4) ⟨lv', h1, hm_lv_grow hm_le_app h2, ⟨⟨_, hl9, rfl⟩, hm_vs_grow hm_le_app hs3⟩, hW9, hm_S_push h5 (by rw [f1]; omega) hold⟩ F rfl X'
        refine ⟨t, step t ?_, b1⟩
        have e : T.heap.size = H.size := by rw [hT9]
        rw [e]
        exact a1
      · cases hs
    · cases hs
  · cases hs
end STEPN
