/-- the tables' words on the classes cl, the kinds of their fields -/
def hm_cls (cl : List vw_C) (tyf : Nat → Nat → FieldType) (Ts : List Cond) : Prop := ∀ (ci : Nat) (q : vw_C), cl[ci]? = some q → (∀ w ∈ u_ws q.1 q.2.1 q.2.2, w ∈ Ts) ∧ (∀ k, k < q.2.2 → parseFieldDescriptor (q.2.1 k).2.2.1 = some (tyf ci k)) ∧ (∀ a, a < q.2.2 → ∀ b, b < q.2.2 → a ≠ b → (q.2.1 a).2.1 ≠ (q.2.1 b).2.1)
def hm_get (h : hm_H) (ci k : Nat) (st : List Value) : Option (List Value) := match st with
  | .ref q :: r => match h[q]? with
    | some (.inr (.inl o)) => if o.1 = ci then (o.2[k]?).map (fun v => v :: r) else none
    | _ => none
  | _ => none
def hm_getR (h : hm_H) (k : Nat) (fd : String × String × String) (st : List Value) : Option (List Value) := match st with
  | .ref q :: r => match h[q]? with
    | some (.inr (.inr o)) => match o.2[k]? with
      | some y => if (y.1, y.2.1, y.2.2.1) = fd then some (y.2.2.2 :: r) else none
      | none => none
    | _ => none
  | _ => none
def hm_put (nro : Nat) (h : hm_H) (ci k : Nat) (ty : FieldType) (st : List Value) : Option (hm_H × List Value) := match st with
  | v :: .ref q :: r => if nro ≤ q then match h[q]? with
    | some (.inr (.inl o)) => if o.1 = ci ∧ k < o.2.length ∧ hm_fit ty v = true then some (h.set q (.inr (.inl (ci, o.2.set k v))), r) else none
    | _ => none
    else none
  | _ => none
/-- which kinds of array an instruction loads from or stores to -/
def hm_aty (i : Instr) (ty : FieldType) : Bool := match i with
  | .iaload => decide (ty = .int)
  | .laload => decide (ty = .long)
  | .baload => decide (ty = .byte)
  | .aaload => ty.isReference
  | _ => false
def hm_aty2 (i : Instr) (ty : FieldType) : Bool := match i with
  | .iastore => decide (ty = .int)
  | .lastore => decide (ty = .long)
  | .bastore => decide (ty = .byte)
  | _ => false
def hm_ald (h : hm_H) (i : Instr) (st : List Value) : Option (List Value) := match st with
  | .int x :: .ref q :: r => match h[q]? with
    | some (.inl o) => if hm_aty i o.1 = true ∧ ¬ x < 0 then (o.2[x.toNatClampNeg]?).map (fun v => v :: r) else none
    | _ => none
  | _ => none
def hm_alen (h : hm_H) (st : List Value) : Option (List Value) := match st with
  | .ref q :: r => match h[q]? with
    | some (.inl o) => some (.int (Int32.ofNat o.2.length) :: r)
    | _ => none
  | _ => none
/-- what a store of numbers leaves: the value as kept -/
def hm_stv (i : Instr) (v : Value) : Option Value := match i, v with
  | .iastore, .int x => some (.int x)
  | .lastore, .long x => some (.long x)
  | .bastore, .int x => some (narrow .byte (.int x))
  | _, _ => none
def hm_ast (nro : Nat) (h : hm_H) (i : Instr) (st : List Value) : Option (hm_H × List Value) := match st with
  | v :: .int x :: .ref q :: r => if nro ≤ q then match h[q]? with
    | some (.inl o) => if hm_aty2 i o.1 = true ∧ ¬ x < 0 ∧ x.toNatClampNeg < o.2.length then (hm_stv i v).map (fun w => (h.set q (.inl (o.1, o.2.set x.toNatClampNeg w)), r)) else none
    | _ => none
    else none
  | _ => none
/-- a reference to one of our objects is stored in an array of its class -/
def hm_astq (cl : List vw_C) (nro : Nat) (h : hm_H) (st : List Value) : Option (hm_H × List Value) := match st with
  | .ref v :: .int x :: .ref q :: r => if nro ≤ q then match h[q]?, h[v]? with
    | some (.inl o), some (.inr (.inl z)) => match o.1, cl[z.1]? with
      | .object C, some c => if c.1 = C ∧ ¬ x < 0 ∧ x.toNatClampNeg < o.2.length then some (h.set q (.inl (o.1, o.2.set x.toNatClampNeg (.ref v))), r) else none
      | _, _ => none
    | _, _ => none
    else none
  | _ => none
section HSIM
variable {p : Program} {l : Launch} {e : Env} {R : Room} {s : State} {m : MethodId} {args : Array Value} {below : List Frame} {meth : Method} {c : Code} {H : Heap} {locs : List Loc} {cells slots : Nat} {Q : State → Prop}
variable {cc : ByteArray} {as : List Nat} {i : Instr} {len pc nL : Nat} {st st' : List Value} {ls : Array Slot} {D : va_G} {cl : List vw_C} {B nro : Nat} {h h2 : hm_H} {st2 : List Value} {Ts : List Cond} {tyf : Nat → Nat → FieldType}
theorem hm_simGet (hx : p.tables.exec = Jvm.exec) (hb : c.code = cc) (hts : ∀ w ∈ Ts, w.before args s = true) (hcl : hm_cls cl tyf Ts) {own : String} {index ci k : Nat} {q : vw_C} (hown : s.vm.findClass own = some m.cls) (hK : va_K D cl [] s) (hw : hm_W D cl B nro as s H h) (hc : cl[ci]? = some q) (hk : k < q.2.2)
    (hlink : (Cond.fieldLink own index (q.2.1 k).1 (q.2.1 k).2.1 (q.2.1 k).2.2.1).before args s = true ∨ ∃ host, (Cond.fieldLinkNest own index (q.2.1 k).1 (q.2.1 k).2.1 (q.2.1 k).2.2.1 host).before args s = true) (hdg : decode cc pc = .ok (.getfield index, 3)) (hst : hm_vs as st st') (hg : hm_get h ci k st = some st2)
    (kk : ∀ st2', hm_vs as st2 st2' → W p l e R s m args below meth c H locs cells slots Q (F0 m (pc + 3) ls st2')) : W p l e R s m args below meth c H locs cells slots Q (F0 m pc ls st') := by
  unfold hm_get at hg
  split at hg
  · rename_i q0 r
    split at hg
    · rename_i o ho
      by_cases e1 : o.1 = ci
      · rw [if_pos e1] at hg
        obtain ⟨v, hv, rfl⟩ := Option.map_eq_some_iff.mp hg
        obtain ⟨w, st3, rfl, hwv, hs2⟩ := hm_vs_cons hst
        obtain ⟨a, ha, rfl⟩ := hwv
        obtain ⟨a2, ha2, r3, ce, g1, g2, g3, g4, g5, g6⟩ := hm_W_get hw ho
        cases ha.symm.trans ha2
        rw [e1] at g1 g4 g6
        cases g1.symm.trans hc
        obtain ⟨w2, hw2, hwr⟩ := g6 k v hv
        obtain ⟨hS, hfc, kC, hkC, hkind⟩ := hK.1 ci _ hc
        obtain ⟨cf, kf, fi, f, hi, hsl⟩ := hS k hk
        have hst9 := (u_facts hfc hkC (u_lays hts (hcl ci _ hc).1 hk) hi).1
        rcases hlink with hl | ⟨host, hl⟩
        · exact W.getf hx hb hown hl hi hst9 g3 (by rw [g5]; exact fun z => by cases z) (v := w2) (by rw [hsl]; exact hw2) rfl rfl hdg (kk _ ⟨hwr, hs2⟩)
        · exact va_Wgetf hx hb hown hl hi hst9 g3 (by rw [g5]; exact fun z => by cases z) (v := w2) (by rw [hsl]; exact hw2) rfl rfl hdg (kk _ ⟨hwr, hs2⟩)
      · rw [if_neg e1] at hg; cases hg
    · cases hg
  · cases hg
theorem hm_simGetR (hx : p.tables.exec = Jvm.exec) (hb : c.code = cc) {own : String} {index k : Nat} {fd : String × String × String} (hown : s.vm.findClass own = some m.cls) (hw : hm_W D cl B nro as s H h)
    (hlink : (Cond.fieldLink own index fd.1 fd.2.1 fd.2.2).before args s = true) (hdg : decode cc pc = .ok (.getfield index, 3)) (hst : hm_vs as st st') (hg : hm_getR h k fd st = some st2)
    (kk : ∀ st2', hm_vs as st2 st2' → W p l e R s m args below meth c H locs cells slots Q (F0 m (pc + 3) ls st2')) : W p l e R s m args below meth c H locs cells slots Q (F0 m pc ls st') := by
  unfold hm_getR at hg
  split at hg
  · rename_i q0 r
    split at hg
    · rename_i o ho
      split at hg
      · rename_i y hy
        by_cases e1 : (y.1, y.2.1, y.2.2.1) = fd
        · rw [if_pos e1] at hg
          cases hg
          subst e1
          obtain ⟨w, st3, rfl, hwv, hs2⟩ := hm_vs_cons hst
          obtain ⟨a, ha, rfl⟩ := hwv
          obtain ⟨a2, ha2, ce, g1, g2, g3, g4, g5⟩ := hm_W_get hw ho
          cases ha.symm.trans ha2
          obtain ⟨cf, kf, fi, f, w2, f1, f2, f3, f4⟩ := g5 y (List.mem_of_getElem? hy)
          exact W.getf hx hb hown hlink f1 f2 g1 g3 (v := w2) f3 rfl rfl hdg (kk _ ⟨f4, hs2⟩)
        · rw [if_neg e1] at hg; cases hg
      · cases hg
    · cases hg
  · cases hg
/-- the walk goes on with the world h2 and the operands st2 -/
def hm_onH (p : Program) (l : Launch) (e : Env) (R : Room) (s : State) (m : MethodId) (args : Array Value) (below : List Frame) (meth : Method) (c : Code) (cells slots : Nat) (Q : State → Prop) (D : va_G) (cl : List vw_C) (B nro : Nat) (as : List Nat) (h2 : hm_H) (st2 : List Value) (pc2 : Nat) (ls : Array Slot) : Prop :=
  ∀ (H2 : Heap) (locs2 : List Loc) (st2' : List Value), hm_W D cl B nro as s H2 h2 → va_S (fun q => B ≤ q) s.heap H2 locs2 → hm_vs as st2 st2' → W p l e R s m args below meth c H2 locs2 cells slots Q (F0 m pc2 ls st2')
theorem hm_simPut (hx : p.tables.exec = Jvm.exec) (hb : c.code = cc) (hts : ∀ w ∈ Ts, w.before args s = true) (hcl : hm_cls cl tyf Ts) {own : String} {index ci k : Nat} {q : vw_C} (hown : s.vm.findClass own = some m.cls) (hK : va_K D cl [] s) (hw : hm_W D cl B nro as s H h) (hS : va_S (fun q => B ≤ q) s.heap H locs) (hc : cl[ci]? = some q) (hk : k < q.2.2)
    (hlink : ((q.2.1 k).2.2.2 = false ∧ ((Cond.fieldLink own index (q.2.1 k).1 (q.2.1 k).2.1 (q.2.1 k).2.2.1).before args s = true ∨ ∃ host, (Cond.fieldLinkNest own index (q.2.1 k).1 (q.2.1 k).2.1 (q.2.1 k).2.2.1 host).before args s = true)) ∨
      ((q.2.1 k).2.2.2 = true ∧ meth.name = "<init>" ∧ (q.2.1 k).1 = own ∧ (Cond.fieldLink own index (q.2.1 k).1 (q.2.1 k).2.1 (q.2.1 k).2.2.1).before args s = true))
    (hdg : decode cc pc = .ok (.putfield index, 3)) (hst : hm_vs as st st') (hg : hm_put nro h ci k (tyf ci k) st = some (h2, st2))
    (kk : hm_onH p l e R s m args below meth c cells slots Q D cl B nro as h2 st2 (pc + 3) ls) : W p l e R s m args below meth c H locs cells slots Q (F0 m pc ls st') := by
  unfold hm_put at hg
  split at hg
  · rename_i v q0 r
    by_cases e0 : nro ≤ q0
    · rw [if_pos e0] at hg
      split at hg
      · rename_i o ho
        by_cases e1 : o.1 = ci ∧ k < o.2.length ∧ hm_fit (tyf ci k) v = true
        · rw [if_pos e1] at hg
          cases hg
          obtain ⟨e1, e2, e3⟩ := e1
          obtain ⟨w, st3, rfl, hwv, hs2⟩ := hm_vs_cons hst
          obtain ⟨w3, st4, rfl, hwv3, hs3⟩ := hm_vs_cons hs2
          obtain ⟨a, ha, rfl⟩ := hwv3
          obtain ⟨a2, ha2, r3, ce, g1, g2, g3, g4, g5, g6⟩ := hm_W_get hw ho
          cases ha.symm.trans ha2
          rw [e1] at g1 g4 g6
          cases g1.symm.trans hc
          obtain ⟨hin, hty, hnm⟩ := hcl ci _ hc
          have hap := va_apart (own := own) hts hin (tyf ci) hty hnm hK hc
          obtain ⟨hS9, hfc, kC, hkC, hkind⟩ := hK.1 ci _ hc
          obtain ⟨cf, kf, fi, f, hi, hsl⟩ := hS9 k hk
          have hst9 := (u_facts hfc hkC (u_lays hts hin hk) hi).1
          obtain ⟨n1, n2⟩ := hm_fit_v e3 hwv
          obtain ⟨w0, hw0, -⟩ := g6 k _ (List.getElem?_eq_getElem e2)
          have hlt : f.slot < ce.slots.size := by rw [hsl]; exact k2_hasslot hw0
          have fin : ∀ H' : Heap, H'[a]? = some (ce.setSlot f.slot w) → H'.size = H.size → (∀ q, q ≠ a → H'[q]? = H[q]?) → W p l e R s m args below meth c H' (locs ++ [⟨a, f.slot⟩]) cells slots Q (F0 m (pc + 3) ls st4) := by
            intro H' f1 f2 f3
            refine kk H' _ st4 (hm_W_set hw e0 ha f2 f3 ?_) (hS.put f2 f3 (hw.2.2.1 q0 a e0 ha)) hs3
            refine ⟨_, ce.setSlot f.slot w, hc, by rw [List.length_set]; exact g2, f1, g4, g5, fun j v9 hj => ?_⟩
            show ∃ w9, (ce.slots.setIfInBounds f.slot w)[D.2 ci j]? = some w9 ∧ hm_v as v9 w9
            by_cases ej : k = j
            · subst ej
              rw [List.getElem?_set_self e2] at hj
              cases hj
              rw [← hsl]
              exact ⟨w, by simp [hlt], hwv⟩
            · rw [List.getElem?_set_ne ej] at hj
              obtain ⟨w9, j1, j2⟩ := g6 j v9 hj
              have hjl : j < q.2.2 := by rw [← g2]; exact (List.getElem?_eq_some_iff.mp hj).1
              refine ⟨w9, ?_, j2⟩
              rw [Array.getElem?_setIfInBounds_ne (by rw [hsl]; exact hap k j hk hjl ej)]
              exact j1
          rcases hlink with ⟨l1, l2⟩ | ⟨l1, l2, l3, l4⟩
          · have hlay := hts _ (hin _ (u_in_lay hk))
            unfold u_lay at hlay
            rw [if_neg (by rw [l1]; decide)] at hlay
            have h6 := u_store hfc hkC hkind hlay hi (hty k hk) n1 n2
            rcases l2 with l2 | ⟨host, l2⟩
            · exact W.putK hx hb (f := f) ⟨hown, l2, ⟨_, _, _, hi⟩, hst9⟩ (by rw [g4]; exact h6) g3 g5 hlt rfl rfl hdg fin
            · exact va_WputK hx hb (f := f) hown l2 hi hst9 (by rw [g4]; exact h6) g3 g5 hlt rfl rfl hdg fin
          · have hlay := hts _ (hin _ (u_in_lay hk))
            unfold u_lay at hlay
            rw [if_pos l1] at hlay
            have hcf : m.cls = cf := by
              obtain ⟨_, _, c', _, _, _, -, -, hf', -, -, -, hown2, -⟩ := Cond.laysFinal_spec hlay
              have e1 : c' = cf := by have := hi.symm.trans hf'; simp at this; exact this.1.symm
              rw [l3] at hown2
              rw [← e1]; exact Option.some.inj (hown.symm.trans hown2)
            have h6 := u_fits hfc hkC hkind (Or.inr hlay) hi (hty k hk) n1 n2
            exact W.putFinK hx hb hown l4 hi hst9 hcf l2 (by rw [g4]; exact h6) g3 g5 hlt rfl rfl hdg fin
        · rw [if_neg e1] at hg; cases hg
      · cases hg
    · rw [if_neg e0] at hg; cases hg
  · cases hg
theorem hm_simAld (hx : p.tables.exec = Jvm.exec) (hb : c.code = cc) (hw : hm_W D cl B nro as s H h) (hdg : decode cc pc = .ok (i, 1)) (hst : hm_vs as st st') (hg : hm_ald h i st = some st2)
    (kk : ∀ st2', hm_vs as st2 st2' → W p l e R s m args below meth c H locs cells slots Q (F0 m (pc + 1) ls st2')) : W p l e R s m args below meth c H locs cells slots Q (F0 m pc ls st') := by
  unfold hm_ald at hg
  split at hg
  · rename_i x q0 r
    split at hg
    · rename_i o ho
      by_cases e1 : hm_aty i o.1 = true ∧ ¬ x < 0
      · rw [if_pos e1] at hg
        obtain ⟨v, hv, rfl⟩ := Option.map_eq_some_iff.mp hg
        obtain ⟨w, st3, rfl, hwv, hs2⟩ := hm_vs_cons hst
        cases hwv
        obtain ⟨w3, st4, rfl, hwv3, hs3⟩ := hm_vs_cons hs2
        obtain ⟨a, ha, rfl⟩ := hwv3
        obtain ⟨a2, ha2, ce, g1, g2, g3, g4, g5, g6, g7⟩ := hm_W_get hw ho
        cases ha.symm.trans ha2
        obtain ⟨w2, hw2, hwr⟩ := g7 _ v hv
        have hin : ¬ (x < 0 ∨ ce.slots.size ≤ x.toNatClampNeg) := by
          rintro (z | z)
          · exact e1.2 z
          · have := (List.getElem?_eq_some_iff.mp hv).1
            omega
        have K := kk (w2 :: st4) ⟨hwr, hs3⟩
        have e2 := e1.1
        unfold hm_aty at e2
        split at e2
        · exact W.iald (v := w2) hx hb g1 (by rw [← of_decide_eq_true e2]; exact g2) g4 hin hw2 rfl rfl hdg K
        · exact W.lald (v := w2) hx hb g1 (by rw [← of_decide_eq_true e2]; exact g2) g4 hin hw2 rfl rfl hdg K
        · exact W.bald (v := w2) hx hb g1 (by rw [← of_decide_eq_true e2]; exact g2) g4 hin hw2 rfl rfl hdg K
        · exact W.aald (v := w2) hx hb g1 g2 e2 g4 hin hw2 rfl rfl hdg K
        · cases e2
      · rw [if_neg e1] at hg; cases hg
    · cases hg
  · cases hg
theorem hm_simAlen (hx : p.tables.exec = Jvm.exec) (hb : c.code = cc) (hw : hm_W D cl B nro as s H h) (hdg : decode cc pc = .ok (.arraylength, 1)) (hst : hm_vs as st st') (hg : hm_alen h st = some st2)
    (kk : ∀ st2', hm_vs as st2 st2' → W p l e R s m args below meth c H locs cells slots Q (F0 m (pc + 1) ls st2')) : W p l e R s m args below meth c H locs cells slots Q (F0 m pc ls st') := by
  unfold hm_alen at hg
  split at hg
  · split at hg
    · rename_i o ho
      cases hg
      obtain ⟨w3, st4, rfl, hwv3, hs3⟩ := hm_vs_cons hst
      obtain ⟨a, ha, rfl⟩ := hwv3
      obtain ⟨a2, ha2, ce, g1, g2, g3, g4, g5, g6, g7⟩ := hm_W_get hw ho
      cases ha.symm.trans ha2
      exact W.alen hx hb g1 g2 g6 rfl rfl hdg (kk _ ⟨rfl, hs3⟩)
    · cases hg
  · cases hg
/-- an array of ours with one place changed -/
theorem hm_cell_aset {U : State} {H1 : Heap} {a : Nat} {o : FieldType × List Value} {ce : Cell} {j : Nat} {v w : Value} (g2 : U.isArrayOf ce o.1) (g3 : ∀ C : String, o.1 = .object C → ∃ (kA : Class) (comp : ClassId), U.vm.classes[ce.cls]? = some kA ∧ kA.kind = .array comp (.object C) ∧ U.vm.findClass C = some comp) (g4 : ce.vm ≠ .unknown) (g5 : o.2.length ≤ ce.slots.size) (g6 : ce.slots.size.toInt32 = Int32.ofNat o.2.length)
    (g7 : ∀ (j : Nat) (v : Value), o.2[j]? = some v → ∃ w, ce.slots[j]? = some w ∧ hm_v as v w) (hj : j < o.2.length) (hv : hm_v as v w) (h1 : H1[a]? = some (ce.setSlot j w)) : hm_cell D cl as U H1 a (.inl (o.1, o.2.set j v)) := by
  refine ⟨ce.setSlot j w, h1, g2, g3, g4, ?_, ?_, fun k v9 hk => ?_⟩
  · show (o.2.set j v).length ≤ (ce.slots.setIfInBounds j w).size
    rw [List.length_set, Array.size_setIfInBounds]
    exact g5
  · show (ce.slots.setIfInBounds j w).size.toInt32 = Int32.ofNat (o.2.set j v).length
    rw [List.length_set, Array.size_setIfInBounds]
    exact g6
  · show ∃ w9, (ce.slots.setIfInBounds j w)[k]? = some w9 ∧ hm_v as v9 w9
    have hk : (o.2.set j v)[k]? = some v9 := hk
    by_cases ej : j = k
    · subst ej
      rw [List.getElem?_set_self hj] at hk
      cases hk
      exact ⟨w, by rw [Array.getElem?_setIfInBounds_self_of_lt (by omega)], hv⟩
    · rw [List.getElem?_set_ne ej] at hk
      rw [Array.getElem?_setIfInBounds_ne ej]
      exact g7 k v9 hk
theorem hm_simAst (hx : p.tables.exec = Jvm.exec) (hb : c.code = cc) (hw : hm_W D cl B nro as s H h) (hS : va_S (fun q => B ≤ q) s.heap H locs) (hdg : decode cc pc = .ok (i, 1)) (hst : hm_vs as st st') (hg : hm_ast nro h i st = some (h2, st2))
    (kk : hm_onH p l e R s m args below meth c cells slots Q D cl B nro as h2 st2 (pc + 1) ls) : W p l e R s m args below meth c H locs cells slots Q (F0 m pc ls st') := by
  unfold hm_ast at hg
  split at hg
  · rename_i v x q0 r
    by_cases e0 : nro ≤ q0
    · rw [if_pos e0] at hg
      split at hg
      · rename_i o ho
        by_cases e1 : hm_aty2 i o.1 = true ∧ ¬ x < 0 ∧ x.toNatClampNeg < o.2.length
        · rw [if_pos e1] at hg
          obtain ⟨w, hv, hg⟩ := Option.map_eq_some_iff.mp hg
          cases hg
          obtain ⟨w1, st3, rfl, hwv1, hs2⟩ := hm_vs_cons hst
          obtain ⟨w2, st4, rfl, hwv2, hs3⟩ := hm_vs_cons hs2
          cases hwv2
          obtain ⟨w3, st5, rfl, hwv3, hs4⟩ := hm_vs_cons hs3
          obtain ⟨a, ha, rfl⟩ := hwv3
          obtain ⟨a2, ha2, ce, g1, g2, g3, g4, g5, g6, g7⟩ := hm_W_get hw ho
          cases ha.symm.trans ha2
          have hin : ¬ (x < 0 ∨ ce.slots.size ≤ x.toNatClampNeg) := by
            rintro (z | z)
            · exact e1.2.1 z
            · have := e1.2.2
              omega
          have fin : hm_v as w w → ∀ H' : Heap, H'[a]? = some (ce.setSlot x.toNatClampNeg w) → H'.size = H.size → (∀ q, q ≠ a → H'[q]? = H[q]?) → W p l e R s m args below meth c H' (locs ++ [⟨a, x.toNatClampNeg⟩]) cells slots Q (F0 m (pc + 1) ls st5) := fun hv9 H' f1 f2 f3 =>
            kk H' _ st5 (hm_W_set hw e0 ha f2 f3 (hm_cell_aset g2 g3 g4 g5 g6 g7 e1.2.2 hv9 f1)) (hS.put f2 f3 (hw.2.2.1 q0 a e0 ha)) hs4
          have e2 := e1.1
          unfold hm_stv at hv
          split at hv <;> cases hv <;> cases hwv1
          · exact W.iast hx hb g1 (by rw [← of_decide_eq_true e2]; exact g2) g4 hin rfl rfl hdg (fin rfl)
          · exact W.last hx hb g1 (by rw [← of_decide_eq_true e2]; exact g2) g4 hin rfl rfl hdg (fin rfl)
          · exact W.bast hx hb g1 (by rw [← of_decide_eq_true e2]; exact g2) g4 hin rfl rfl hdg (fin rfl)
        · rw [if_neg e1] at hg; cases hg
      · cases hg
    · rw [if_neg e0] at hg; cases hg
  · cases hg
theorem hm_simAstq (hx : p.tables.exec = Jvm.exec) (hb : c.code = cc) (hK : va_K D cl [] s) (hw : hm_W D cl B nro as s H h) (hS : va_S (fun q => B ≤ q) s.heap H locs) (hdg : decode cc pc = .ok (.aastore, 1)) (hst : hm_vs as st st') (hg : hm_astq cl nro h st = some (h2, st2))
    (kk : hm_onH p l e R s m args below meth c cells slots Q D cl B nro as h2 st2 (pc + 1) ls) : W p l e R s m args below meth c H locs cells slots Q (F0 m pc ls st') := by
  unfold hm_astq at hg
  split at hg
  · rename_i v x q0 r
    by_cases e0 : nro ≤ q0
    · rw [if_pos e0] at hg
      split at hg
      · rename_i o z ho hz
        split at hg
        · rename_i C c9 hC hc9
          by_cases e1 : c9.1 = C ∧ ¬ x < 0 ∧ x.toNatClampNeg < o.2.length
          · rw [if_pos e1] at hg
            cases hg
            obtain ⟨w1, st3, rfl, hwv1, hs2⟩ := hm_vs_cons hst
            have hwv0 := hwv1
            obtain ⟨b, hb9, rfl⟩ := hwv1
            obtain ⟨w2, st4, rfl, hwv2, hs3⟩ := hm_vs_cons hs2
            cases hwv2
            obtain ⟨w3, st5, rfl, hwv3, hs4⟩ := hm_vs_cons hs3
            obtain ⟨a, ha, rfl⟩ := hwv3
            obtain ⟨a2, ha2, ce, g1, g2, g3, g4, g5, g6, g7⟩ := hm_W_get hw ho
            cases ha.symm.trans ha2
            obtain ⟨b2, hb2, r3, cv, f1, f2, f3, f4, f5, f6⟩ := hm_W_get hw hz
            cases hb9.symm.trans hb2
            cases f1.symm.trans hc9
            obtain ⟨kA, comp, k1, k2, k3⟩ := g3 C hC
            have hcls := (hK.1 z.1 _ hc9).2
            have hcomp : comp = D.1 z.1 := Option.some.inj (k3.symm.trans (by rw [← e1.1]; exact hcls.1))
            subst hcomp
            obtain ⟨kC, hkC, -⟩ := hcls.2
            refine W.aast hx hb g1 g2.1 g4 k1 k2 rfl hkC ⟨e1.2.1, by have := e1.2.2; omega⟩ f3 (fun q h9 => by rw [f5] at h9; cases h9) (by rw [f4]; exact hkC) (by rw [f4]; exact va_assign hcls) rfl rfl hdg fun H' j1 j2 j3 => ?_
            exact kk H' _ st5 (hm_W_set hw e0 ha j2 j3 (hm_cell_aset g2 g3 g4 g5 g6 g7 e1.2.2 hwv0 j1)) (hS.put j2 j3 (hw.2.2.1 q0 a e0 ha)) hs4
          · rw [if_neg e1] at hg; cases hg
        · cases hg
      · cases hg
    · rw [if_neg e0] at hg; cases hg
  · cases hg
end HSIM
