theorem hm_v_def (as : List Nat) (ty : FieldType) : hm_v as (defaultValue ty) (defaultValue ty) := by cases ty <;> exact rfl
/-- a new object's fields -/
def hm_new (tyf : Nat → Nat → FieldType) (ci N : Nat) : hm_E := .inr (.inl (ci, (List.range N).map fun k => defaultValue (tyf ci k)))
/-- a new array -/
def hm_newa (ty : FieldType) (n : Nat) : hm_E := .inl (ty, List.replicate n (defaultValue ty))
section ASIM
variable {p : Program} {l : Launch} {e : Env} {R : Room} {s : State} {m : MethodId} {args : Array Value} {below : List Frame} {meth : Method} {c : Code} {H : Heap} {locs : List Loc} {cells slots : Nat} {Q : State → Prop}
variable {cc : ByteArray} {as : List Nat} {i : Instr} {len pc nL : Nat} {st st' : List Value} {ls : Array Slot} {D : va_G} {cl : List vw_C} {B nro : Nat} {h h2 : hm_H} {st2 : List Value} {Ts : List Cond} {tyf : Nat → Nat → FieldType}
theorem hm_S_push {H H1 H0 : Heap} {locs : List Loc} {B : Nat} (hS : va_S (fun q => B ≤ q) H0 H locs) (hz : H.size ≤ H1.size) (ho : ∀ q : Nat, q < H.size → H1[q]? = H[q]?) : va_S (fun q => B ≤ q) H0 H1 locs :=
  ⟨Nat.le_trans hS.1 hz, fun q h1 h2 => (ho q (Nat.lt_of_lt_of_le h1 hS.1)).trans (hS.2.1 q h1 h2), hS.2.2⟩
/-- the walk goes on with a thing more, its reference on the operands -/
def hm_onA (p : Program) (l : Launch) (e : Env) (R : Room) (s : State) (m : MethodId) (args : Array Value) (below : List Frame) (meth : Method) (c : Code) (cells slots : Nat) (Q : State → Prop) (D : va_G) (cl : List vw_C) (B nro : Nat) (as : List Nat) (h2 : hm_H) (st2 : List Value) (pc2 : Nat) (ls : Array Slot) : Prop :=
  ∀ (ex : List Nat) (H2 : Heap) (locs2 : List Loc) (st2' : List Value), hm_W D cl B nro (as ++ ex) s H2 h2 → va_S (fun q => B ≤ q) s.heap H2 locs2 → hm_vs (as ++ ex) st2 st2' → W p l e R s m args below meth c H2 locs2 cells slots Q (F0 m pc2 ls st2')
theorem hm_simNew (hx : p.tables.exec = Jvm.exec) (hb : c.code = cc) (hts : ∀ w ∈ Ts, w.before args s = true) (hcl : hm_cls cl tyf Ts) {own : String} {index ci : Nat} {q : vw_C} (hown : s.vm.findClass own = some m.cls) (hK : va_K D cl [] s) (hw : hm_W D cl B nro as s H h) (hS : va_S (fun q => B ≤ q) s.heap H locs) (hc : cl[ci]? = some q)
    (hcl1 : (Cond.classLink own index q.1).before args s = true) (hins : (Cond.instantiable q.1 q.2.2).before args s = true) (hini : (Cond.initialized q.1).before args s = true)
    (hdg : decode cc pc = .ok (.new index, 3)) (hst : hm_vs as st st') (hcells : cells + 1 ≤ R.cells) (hslots : slots + q.2.2 ≤ R.slots)
    (kk : hm_onA p l e R s m args below meth c (cells + 1) (slots + q.2.2) Q D cl B nro as (h ++ [hm_new tyf ci q.2.2]) (.ref h.length :: st) (pc + 3) ls) : W p l e R s m args below meth c H locs cells slots Q (F0 m pc ls st') := by
  have hKn := hK.1 ci _ hc
  refine W.newcK hx hb hown hcl1 hins hini rfl hdg hcells hslots hKn.2.1 rfl fun H1 kC hkC e1 z1 o1 => ?_
  have hat : (as ++ [H.size])[h.length]? = some H.size := by rw [← hw.1]; simp
  refine kk [H.size] H1 locs (.ref H.size :: st') (hm_W_push hw (by omega) o1 ?_) (hm_S_push hS (by omega) o1) ⟨⟨_, hat, rfl⟩, hm_vs_grow hm_le_app hst⟩
  obtain ⟨hin, hty, -⟩ := hcl ci _ hc
  obtain ⟨ce, g1, g2, g3, g4⟩ := u_born (tyf ci) hts hin hKn hkC e1 hty
  refine ⟨q, ce, hc, by simp, g1, g2, g3, fun k v hv => ?_⟩
  have hk : k < q.2.2 := by have := (List.getElem?_eq_some_iff.mp hv).1; simpa using this
  rw [List.getElem?_map, List.getElem?_range hk] at hv
  cases hv
  exact ⟨_, g4 k hk, hm_v_def _ _⟩
theorem hm_cell_newa {U : State} {H1 : Heap} {a n : Nat} {ty : FieldType} {ce : Cell} (g1 : H1[a]? = some ce) (g2 : U.isArrayOf ce ty) (g3 : ∀ C : String, ty = .object C → ∃ (kA : Class) (comp : ClassId), U.vm.classes[ce.cls]? = some kA ∧ kA.kind = .array comp (.object C) ∧ U.vm.findClass C = some comp) (g4 : ce.vm ≠ .unknown) (g5 : ce.slots = Array.replicate n (defaultValue ty)) : hm_cell D cl as U H1 a (hm_newa ty n) := by
  refine ⟨ce, g1, g2, g3, g4, by simp [g5], by simp [g5], fun k v hv => ?_⟩
  have hv : (List.replicate n (defaultValue ty))[k]? = some v := hv
  have hk : k < n := by have := (List.getElem?_eq_some_iff.mp hv).1; simpa using this
  rw [List.getElem?_replicate, if_pos hk] at hv
  cases hv
  exact ⟨_, by rw [g5, Array.getElem?_replicate, if_pos hk], hm_v_def _ _⟩
theorem hm_simNewa (hx : p.tables.exec = Jvm.exec) (hb : c.code = cc) {atype : ArrayType} (harr : (Cond.arrayClass (newarray.typeOf atype)).before args s = true) (hw : hm_W D cl B nro as s H h) (hS : va_S (fun q => B ≤ q) s.heap H locs)
    (hdg : decode cc pc = .ok (.newarray atype, 2)) {n : Int32} (hst : hm_vs as (.int n :: st) st') (hn : ¬ n < 0) (hby : n.toNatClampNeg * componentBytes (newarray.typeOf atype) ≤ 536870912) (hcells : cells + 1 ≤ R.cells) (hslots : slots + n.toNatClampNeg ≤ R.slots)
    (kk : hm_onA p l e R s m args below meth c (cells + 1) (slots + n.toNatClampNeg) Q D cl B nro as (h ++ [hm_newa (newarray.typeOf atype) n.toNatClampNeg]) (.ref h.length :: st) (pc + 2) ls) : W p l e R s m args below meth c H locs cells slots Q (F0 m pc ls st') := by
  obtain ⟨w, st3, rfl, hwv, hs2⟩ := hm_vs_cons hst
  cases hwv
  refine W.newa hx hb harr rfl hdg rfl hn hby hcells hslots fun cA kA comp f1 f2 f3 => ?_
  have hat : (as ++ [H.size])[h.length]? = some H.size := by rw [← hw.1]; simp
  have o1 : ∀ q : Nat, q < H.size → (H.push ({ cls := cA, slots := Array.replicate n.toNatClampNeg (defaultValue (newarray.typeOf atype)), vm := .none } : Cell))[q]? = H[q]? := fun q hq => by rw [Array.getElem?_push, if_neg (Nat.ne_of_lt hq)]
  refine kk [H.size] _ locs (.ref H.size :: st3) (hm_W_push hw (by rw [Array.size_push]; omega) o1 ?_) (hm_S_push hS (by rw [Array.size_push]; omega) o1) ⟨⟨_, hat, rfl⟩, hm_vs_grow hm_le_app hs2⟩
  refine hm_cell_newa (by rw [Array.getElem?_push_size]) ⟨(fun k z => by cases z), kA, f2, comp, f3⟩ (fun C hC => ?_) (fun z => by cases z) rfl
  cases atype <;> cases hC
theorem hm_simAnew (hx : p.tables.exec = Jvm.exec) (hb : c.code = cc) {own C : String} {index : Nat} (hown : s.vm.findClass own = some m.cls) (hclink : (Cond.classLink own index C).before args s = true) (hover : (Cond.arrayOver (.object C)).before args s = true) (hw : hm_W D cl B nro as s H h) (hS : va_S (fun q => B ≤ q) s.heap H locs)
    (hdg : decode cc pc = .ok (.anewarray index, 3)) {n : Int32} (hst : hm_vs as (.int n :: st) st') (hn : ¬ n < 0) (hby : n.toNatClampNeg * 4 ≤ 536870912) (hcells : cells + 1 ≤ R.cells) (hslots : slots + n.toNatClampNeg ≤ R.slots)
    (kk : hm_onA p l e R s m args below meth c (cells + 1) (slots + n.toNatClampNeg) Q D cl B nro as (h ++ [hm_newa (.object C) n.toNatClampNeg]) (.ref h.length :: st) (pc + 3) ls) : W p l e R s m args below meth c H locs cells slots Q (F0 m pc ls st') := by
  obtain ⟨w, st3, rfl, hwv, hs2⟩ := hm_vs_cons hst
  cases hwv
  refine W.anew hx hb hown hclink hover rfl hdg rfl hn hby hcells hslots fun cA kA comp f1 f2 f3 f4 => ?_
  have hat : (as ++ [H.size])[h.length]? = some H.size := by rw [← hw.1]; simp
  have o1 : ∀ q : Nat, q < H.size → (H.push ({ cls := cA, slots := Array.replicate n.toNatClampNeg .null, vm := .none } : Cell))[q]? = H[q]? := fun q hq => by rw [Array.getElem?_push, if_neg (Nat.ne_of_lt hq)]
  refine kk [H.size] _ locs (.ref H.size :: st3) (hm_W_push hw (by rw [Array.size_push]; omega) o1 ?_) (hm_S_push hS (by rw [Array.size_push]; omega) o1) ⟨⟨_, hat, rfl⟩, hm_vs_grow hm_le_app hs2⟩
  refine hm_cell_newa (by rw [Array.getElem?_push_size]) ⟨(fun k z => by cases z), kA, f2, comp, f3⟩ (fun C9 hC => ?_) (fun z => by cases z) rfl
  cases hC
  exact ⟨kA, comp, f2, f3, f4⟩
end ASIM
