/-- a body of method M is being walked: the machine, the code, the words, what stands about -/
def hm_ctx (p : Program) (l : Launch) (s : State) (m : MethodId) (args : Array Value) (meth : Method) (c : Code) (G : hm_T) (cn : List String) (nw Ts : List Cond) (D : va_G) (B : Nat) (M : hm_M) (as0 : List Nat) : Prop :=
  p.tables.exec = Jvm.exec ∧ c.code = hm_Mc M ∧ c.maxLocals = hm_Ml M ∧ (∀ w ∈ Ts, w.before args s = true) ∧ s.vm.findClass (hm_My M).cls = some m.cls ∧ meth.sig.returnType = hm_Mr M ∧ meth.locks = false ∧ meth.name = (hm_My M).name ∧ hm_env G cn nw D B as0 s s.heap ∧ c.exceptionTable.toList = tableOf (hm_Mh M) ∧ l.stackTraces = false ∧ cn[hm_Mo M]? = some (hm_My M).cls ∧ ∀ (pc : Nat) (o : hm_O), (hm_Mi M)[pc]? = some (some o) → decode (hm_Mc M) pc = .ok (o.1, o.2.1)
/-- where the small machine stands, and where the real one does -/
def hm_pt (s : State) (D : va_G) (cl : List vw_C) (B nro nL : Nat) (as : List Nat) (S : hm_S) (H : Heap) (locs : List Loc) (ls : Array Slot) (st' : List Value) : Prop :=
  ∃ lv' : List (Nat × Value), lv_has ls nL lv' ∧ hm_lv as S.2.1 lv' ∧ hm_vs as S.2.2.1 st' ∧ hm_W D cl B nro as s H S.2.2.2.1 ∧ va_S (fun q => B ≤ q) s.heap H locs
/-- the walk goes on from S, whatever came -/
def hm_on2 (p : Program) (l : Launch) (e : Env) (R : Room) (s : State) (m : MethodId) (args : Array Value) (below : List Frame) (meth : Method) (c : Code) (Q : State → Prop) (D : va_G) (cl : List vw_C) (B nro nL n0 s0 : Nat) (as : List Nat) (S : hm_S) : Prop :=
  ∀ (ex : List Nat) (H : Heap) (locs : List Loc) (ls : Array Slot) (st' : List Value), hm_pt s D cl B nro nL (as ++ ex) S H locs ls st' → W p l e R s m args below meth c H locs (S.2.2.2.2.1 - n0) (S.2.2.2.2.2 - s0) Q (F0 m S.1 ls st')
section STEP
variable {p : Program} {l : Launch} {e : Env} {R : Room} {s : State} {m : MethodId} {args : Array Value} {below : List Frame} {meth : Method} {c : Code} {Q : State → Prop}
variable {G : hm_T} {cn : List String} {nw Ts : List Cond} {D : va_G} {B n0 s0 : Nat} {M : hm_M} {as0 as : List Nat} {call : Nat → List Value → hm_G → Option (hm_G × hm_Out)}
variable {o : hm_O} {pc : Nat} {lv : List (Nat × Value)} {st : List Value} {g : hm_G} {S2 : hm_S} {H : Heap} {locs : List Loc} {ls : Array Slot} {st' : List Value}
theorem hm_on2_1 (h : hm_on2 p l e R s m args below meth c Q D (hm_Tcl G) B (hm_Tro G) (hm_Ml M) n0 s0 as S2) (hp : hm_pt s D (hm_Tcl G) B (hm_Tro G) (hm_Ml M) as S2 H locs ls st') : W p l e R s m args below meth c H locs (S2.2.2.2.2.1 - n0) (S2.2.2.2.2.2 - s0) Q (F0 m S2.1 ls st') := h [] H locs ls st' (by rw [List.append_nil]; exact hp)
/-- a pure instruction, by the row of its group -/
theorem hm_stPu {f : Option (Nat × hm_P)} (hs : hm_pu o.2.1 g f = some (.inl S2)) (hp : hm_pt s D (hm_Tcl G) B (hm_Tro G) (hm_Ml M) as (pc, lv, st, g) H locs ls st')
    (kk : hm_on2 p l e R s m args below meth c Q D (hm_Tcl G) B (hm_Tro G) (hm_Ml M) n0 s0 as S2)
    (row : ∀ (r : hm_P) (lv' : List (Nat × Value)), f = some (o.2.1, r) → lv_has ls (hm_Ml M) lv' → hm_lv as lv lv' → hm_vs as st st' → hm_on p l e R s m args below meth c H locs (g.2.1 - n0) (g.2.2 - s0) Q as (hm_Ml M) r → W p l e R s m args below meth c H locs (g.2.1 - n0) (g.2.2 - s0) Q (F0 m pc ls st')) :
    W p l e R s m args below meth c H locs (g.2.1 - n0) (g.2.2 - s0) Q (F0 m pc ls st') := by
  unfold hm_pu at hs
  split at hs
  · rename_i q
    by_cases e1 : q.1 = o.2.1
    · rw [if_pos e1] at hs
      cases hs
      obtain ⟨lv', h1, h2, h3, h4, h5⟩ := hp
      obtain ⟨q1, q2⟩ := q
      cases e1
      exact row q2 lv' rfl h1 h2 h3 (fun ls2 lv2 st2 k1 k2 k3 => hm_on2_1 (S2 := (q2.1, q2.2.1, q2.2.2, g)) kk ⟨lv2, k1, k2, k3, h4, h5⟩)
    · rw [if_neg e1] at hs; cases hs
  · cases hs
theorem hm_stF (hx : hm_ctx p l s m args meth c G cn nw Ts D B M as0) (hT : hm_okT G cn Ts nw) (hdg : decode (hm_Mc M) pc = .ok (o.1, o.2.1)) (hs : hm_dF G M o pc lv st g = some (.inl S2)) (hp : hm_pt s D (hm_Tcl G) B (hm_Tro G) (hm_Ml M) as (pc, lv, st, g) H locs ls st')
    (kk : hm_on2 p l e R s m args below meth c Q D (hm_Tcl G) B (hm_Tro G) (hm_Ml M) n0 s0 as S2) : W p l e R s m args below meth c H locs (g.2.1 - n0) (g.2.2 - s0) Q (F0 m pc ls st') := by
  obtain ⟨c1, c2, c3, c4, c5, c6, c7, c8, c9, c10, c11, c12, c13⟩ := hx
  obtain ⟨lv', h1, h2, h3, h4, h5⟩ := hp
  unfold hm_dF at hs
  split at hs
  · cases hs
  · rename_i x hx
    obtain ⟨q, own, t1, t2, t3, t4⟩ := hT.2.1 x (List.mem_of_getElem? hx)
    split at hs
    · rename_i hi
      have hown : own = (hm_My M).cls := by rw [hi.1] at t3; exact Option.some.inj (t3.symm.trans c12)
      subst hown
      split at hs
      · rename_i k ho
        split at hs
        · rename_i hk
          obtain ⟨st2, hg, hs⟩ := Option.map_eq_some_iff.mp hs
          cases hs
          rw [ho, hi.2, hk] at hdg
          refine hm_simGet c1 c2 c4 hT.1 c5 c9.1 h4 t1 t2 ?_ hdg h3 hg (fun st2' k1 => hm_on2_1 (S2 := (pc + 3, lv, st2, g)) kk ⟨lv', h1, h2, k1, h4, h5⟩)
          rcases t4 with t4 | ⟨-, host, t4⟩
          · exact Or.inl (c4 _ t4)
          · exact Or.inr ⟨host, (c9.2.1 _ t4).use rfl⟩
        · cases hs
      · rename_i k ho
        split at hs
        · cases hs
        · rename_i q9 hq9
          cases t1.symm.trans hq9
          split at hs
          · rename_i hk
            obtain ⟨r, hg, hs⟩ := Option.map_eq_some_iff.mp hs
            cases hs
            rw [ho, hi.2, hk.1] at hdg
            refine hm_simPut c1 c2 c4 hT.1 c5 c9.1 h4 h5 t1 t2 ?_ hdg h3 hg (fun H2 locs2 st2' k1 k2 k3 => hm_on2_1 (S2 := (pc + 3, lv, r.2, r.1, g.2)) kk ⟨lv', h1, h2, k3, k1, k2⟩)
            rcases t4 with t4 | ⟨t5, host, t4⟩
            · by_cases hf : (q.2.1 x.2.2.2).2.2.2 = false
              · exact Or.inl ⟨hf, Or.inl (c4 _ t4)⟩
              · rcases hk.2 with hk2 | ⟨hk2, hk3⟩
                · exact absurd hk2 hf
                · exact Or.inr ⟨by simpa using hf, by rw [c8]; exact hk2, hk3, c4 _ t4⟩
            · rcases hk.2 with hk2 | ⟨hk2, hk3⟩
              · exact Or.inl ⟨hk2, Or.inr ⟨host, (c9.2.1 _ t4).use rfl⟩⟩
              · exact absurd hk3 t5
          · cases hs
      · cases hs
    · cases hs
theorem hm_stG (hx : hm_ctx p l s m args meth c G cn nw Ts D B M as0) (hT : hm_okT G cn Ts nw) (hdg : decode (hm_Mc M) pc = .ok (o.1, o.2.1)) (hs : hm_dG G M o pc lv st g = some (.inl S2)) (hp : hm_pt s D (hm_Tcl G) B (hm_Tro G) (hm_Ml M) as (pc, lv, st, g) H locs ls st')
    (kk : hm_on2 p l e R s m args below meth c Q D (hm_Tcl G) B (hm_Tro G) (hm_Ml M) n0 s0 as S2) : W p l e R s m args below meth c H locs (g.2.1 - n0) (g.2.2 - s0) Q (F0 m pc ls st') := by
  obtain ⟨c1, c2, c3, c4, c5, c6, c7, c8, c9, c10, c11, c12, c13⟩ := hx
  obtain ⟨lv', h1, h2, h3, h4, h5⟩ := hp
  unfold hm_dG at hs
  split at hs
  · cases hs
  · rename_i x hx
    obtain ⟨own, t3, t4⟩ := hT.2.2.1 x (List.mem_of_getElem? hx)
    split at hs
    · rename_i hi
      have hown : own = (hm_My M).cls := by rw [hi.1] at t3; exact Option.some.inj (t3.symm.trans c12)
      subst hown
      obtain ⟨st2, hg, hs⟩ := Option.map_eq_some_iff.mp hs
      cases hs
      rw [hi.2.1, hi.2.2] at hdg
      exact hm_simGetR c1 c2 c5 h4 (c4 _ t4) hdg h3 hg (fun st2' k1 => hm_on2_1 (S2 := (pc + 3, lv, st2, g)) kk ⟨lv', h1, h2, k1, h4, h5⟩)
    · cases hs
theorem hm_stA (hx : hm_ctx p l s m args meth c G cn nw Ts D B M as0) (hdg : decode (hm_Mc M) pc = .ok (o.1, o.2.1)) (hs : hm_dA G o pc lv st g = some (.inl S2)) (hp : hm_pt s D (hm_Tcl G) B (hm_Tro G) (hm_Ml M) as (pc, lv, st, g) H locs ls st')
    (kk : hm_on2 p l e R s m args below meth c Q D (hm_Tcl G) B (hm_Tro G) (hm_Ml M) n0 s0 as S2) : W p l e R s m args below meth c H locs (g.2.1 - n0) (g.2.2 - s0) Q (F0 m pc ls st') := by
  obtain ⟨c1, c2, c3, c4, c5, c6, c7, c8, c9, c10, c11, c12, c13⟩ := hx
  obtain ⟨lv', h1, h2, h3, h4, h5⟩ := hp
  unfold hm_dA at hs
  split at hs
  · rename_i hl
    rw [hl] at hdg
    split at hs
    · obtain ⟨st2, hg, hs⟩ := Option.map_eq_some_iff.mp hs
      cases hs
      exact hm_simAld c1 c2 h4 hdg h3 hg (fun st2' k1 => hm_on2_1 (S2 := (pc + 1, lv, st2, g)) kk ⟨lv', h1, h2, k1, h4, h5⟩)
    · obtain ⟨r, hg, hs⟩ := Option.map_eq_some_iff.mp hs
      cases hs
      exact hm_simAst c1 c2 h4 h5 hdg h3 hg (fun H2 locs2 st2' k1 k2 k3 => hm_on2_1 (S2 := (pc + 1, lv, r.2, r.1, g.2)) kk ⟨lv', h1, h2, k3, k1, k2⟩)
    · split at hs
      · rename_i ho
        obtain ⟨st2, hg, hs⟩ := Option.map_eq_some_iff.mp hs
        cases hs
        rw [ho] at hdg
        exact hm_simAlen c1 c2 h4 hdg h3 hg (fun st2' k1 => hm_on2_1 (S2 := (pc + 1, lv, st2, g)) kk ⟨lv', h1, h2, k1, h4, h5⟩)
      · cases hs
    · split at hs
      · rename_i ho
        obtain ⟨r, hg, hs⟩ := Option.map_eq_some_iff.mp hs
        cases hs
        rw [ho] at hdg
        exact hm_simAstq c1 c2 c9.1 h4 h5 hdg h3 hg (fun H2 locs2 st2' k1 k2 k3 => hm_on2_1 (S2 := (pc + 1, lv, r.2, r.1, g.2)) kk ⟨lv', h1, h2, k3, k1, k2⟩)
      · cases hs
    · cases hs
  · cases hs
theorem hm_stK (hx : hm_ctx p l s m args meth c G cn nw Ts D B M as0) (hT : hm_okT G cn Ts nw) (hdg : decode (hm_Mc M) pc = .ok (o.1, o.2.1)) (hs : hm_dK G M o pc lv st g = some (.inl S2)) (hp : hm_pt s D (hm_Tcl G) B (hm_Tro G) (hm_Ml M) as (pc, lv, st, g) H locs ls st')
    (kk : hm_on2 p l e R s m args below meth c Q D (hm_Tcl G) B (hm_Tro G) (hm_Ml M) n0 s0 as S2) : W p l e R s m args below meth c H locs (g.2.1 - n0) (g.2.2 - s0) Q (F0 m pc ls st') := by
  obtain ⟨c1, c2, c3, c4, c5, c6, c7, c8, c9, c10, c11, c12, c13⟩ := hx
  obtain ⟨lv', h1, h2, h3, h4, h5⟩ := hp
  unfold hm_dK at hs
  split at hs
  · cases hs
  · rename_i x hx
    obtain ⟨own, t3, t4⟩ := hT.2.2.2.2.2.2.2.1 x (List.mem_of_getElem? hx)
    split at hs
    · rename_i hi
      have hown : own = (hm_My M).cls := by rw [hi] at t3; exact Option.some.inj (t3.symm.trans c12)
      subst hown
      split at hs
      · rename_i v hv
        rw [hv] at t4
        split at hs
        · rename_i ho
          cases hs
          have K := hm_on2_1 (ls := ls) (locs := locs) (H := H) (st' := .int v :: st') kk ⟨lv', h1, h2, ⟨rfl, h3⟩, h4, h5⟩
          rcases ho with ⟨o1, o2⟩ | ⟨o1, o2⟩
          · rw [o1, o2] at hdg
            rw [o2] at K
            exact lv_ldc c1 c2 c5 (c4 _ t4) hdg K
          · rw [o1, o2] at hdg
            rw [o2] at K
            exact lv_ldcw c1 c2 c5 (c4 _ t4) hdg K
        · cases hs
      · rename_i v hv
        rw [hv] at t4
        split at hs
        · rename_i ho
          cases hs
          rw [ho.1, ho.2] at hdg
          exact lv_ldc2 c1 c2 c5 (c4 _ t4) hdg (hm_on2_1 (S2 := (pc + 3, lv, .long v :: st, g)) kk ⟨lv', h1, h2, ⟨rfl, h3⟩, h4, h5⟩)
        · cases hs
      · cases hs
    · cases hs
theorem hm_stZ (hx : hm_ctx p l s m args meth c G cn nw Ts D B M as0) (hT : hm_okT G cn Ts nw) (has : hm_le as0 as) (hdg : decode (hm_Mc M) pc = .ok (o.1, o.2.1)) (hs : hm_dZ G M o pc lv st g = some (.inl S2)) (hp : hm_pt s D (hm_Tcl G) B (hm_Tro G) (hm_Ml M) as (pc, lv, st, g) H locs ls st')
    (kk : hm_on2 p l e R s m args below meth c Q D (hm_Tcl G) B (hm_Tro G) (hm_Ml M) n0 s0 as S2) : W p l e R s m args below meth c H locs (g.2.1 - n0) (g.2.2 - s0) Q (F0 m pc ls st') := by
  obtain ⟨c1, c2, c3, c4, c5, c6, c7, c8, c9, c10, c11, c12, c13⟩ := hx
  obtain ⟨lv', h1, h2, h3, h4, h5⟩ := hp
  unfold hm_dZ at hs
  split at hs
  · cases hs
  · rename_i x hx
    obtain ⟨own, t3, t4⟩ := hT.2.2.2.2.2.2.2.2 x (List.mem_of_getElem? hx)
    obtain ⟨w, z1, z2⟩ := c9.2.2.2.2.1 x (List.mem_of_getElem? hx)
    split at hs
    · rename_i hi
      have hown : own = (hm_My M).cls := by rw [hi.1] at t3; exact Option.some.inj (t3.symm.trans c12)
      subst hown
      cases hs
      rw [hi.2.1, hi.2.2] at hdg
      exact va_gets c1 c2 z2 h5 c5 (c4 _ t4) (fun _ z => z) hdg (hm_on2_1 (S2 := (pc + 3, lv, x.2.2.2.2.2 :: st, g)) kk ⟨lv', h1, h2, ⟨hm_v_grow has z1, h3⟩, h4, h5⟩)
    · cases hs
end STEP
