/-! Things by their slots: what a slot holds, what kind a thing is, a slot set anew. -/
/-- slot j of thing k -/
def sl (h : hm_H) (k j : Nat) : Option Value := match h[k]? with
  | some (.inl q) => q.2[j]?
  | some (.inr (.inl q)) => q.2[j]?
  | _ => none
/-- a thing's kind: an array's (its slots' kind) or an object's (the number of what it is of), and how many slots -/
def tg (h : hm_H) (k : Nat) : Option ((FieldType ⊕ Nat) × Nat) := match h[k]? with
  | some (.inl q) => some (.inl q.1, q.2.length)
  | some (.inr (.inl q)) => some (.inr q.1, q.2.length)
  | _ => none
def hset (h : hm_H) (k j : Nat) (v : Value) : hm_H := match h[k]? with
  | some (.inl q) => h.set k (.inl (q.1, q.2.set j v))
  | some (.inr (.inl q)) => h.set k (.inr (.inl (q.1, q.2.set j v)))
  | _ => h
section SLOTS
variable {h : hm_H} {k j k2 j2 n : Nat} {v w : Value} {t : FieldType ⊕ Nat}
theorem hset_len : (hset h k j v).length = h.length := by
  unfold hset
  split <;> simp
theorem tg_arr {ty : FieldType} (ht : tg h k = some (.inl ty, n)) : ∃ l, h[k]? = some (.inl (ty, l)) ∧ l.length = n := by
  unfold tg at ht
  split at ht
  · rename_i q hq
    cases ht
    exact ⟨q.2, hq, rfl⟩
  · cases ht
  · cases ht
theorem tg_obj {ci : Nat} (ht : tg h k = some (.inr ci, n)) : ∃ l, h[k]? = some (.inr (.inl (ci, l))) ∧ l.length = n := by
  unfold tg at ht
  split at ht
  · cases ht
  · rename_i q hq
    cases ht
    exact ⟨q.2, hq, rfl⟩
  · cases ht
theorem hset_at_ne (hk : k ≠ k2) : (hset h k j v)[k2]? = h[k2]? := by
  unfold hset
  split
  · exact List.getElem?_set_ne hk
  · exact List.getElem?_set_ne hk
  · rfl
theorem tg_hset : tg (hset h k j v) k2 = tg h k2 := by
  by_cases e : k = k2
  · subst e
    unfold tg
    cases hx : h[k]? with
    | none => unfold hset; rw [hx]; dsimp only; rw [hx]
    | some x =>
      have hl : k < h.length := (List.getElem?_eq_some_iff.mp hx).1
      match x with
      | .inl q => unfold hset; rw [hx]; dsimp only; rw [List.getElem?_set_self hl]; simp
      | .inr (.inl q) => unfold hset; rw [hx]; dsimp only; rw [List.getElem?_set_self hl]; simp
      | .inr (.inr q) => unfold hset; rw [hx]; dsimp only; rw [hx]
  · unfold tg
    rw [hset_at_ne e]
theorem sl_ne (hk : k ≠ k2) : sl (hset h k j v) k2 j2 = sl h k2 j2 := by
  unfold sl
  rw [hset_at_ne hk]
theorem sl_nj (hj : j ≠ j2) : sl (hset h k j v) k2 j2 = sl h k2 j2 := by
  by_cases e : k = k2
  · subst e
    unfold sl
    cases hx : h[k]? with
    | none => unfold hset; rw [hx]; dsimp only; rw [hx]
    | some x =>
      have hl : k < h.length := (List.getElem?_eq_some_iff.mp hx).1
      match x with
      | .inl q => unfold hset; rw [hx]; dsimp only; rw [List.getElem?_set_self hl]; exact List.getElem?_set_ne hj
      | .inr (.inl q) => unfold hset; rw [hx]; dsimp only; rw [List.getElem?_set_self hl]; exact List.getElem?_set_ne hj
      | .inr (.inr q) => unfold hset; rw [hx]; dsimp only; rw [hx]
  · exact sl_ne e
theorem sl_self (ht : tg h k = some (t, n)) (hj : j < n) : sl (hset h k j v) k j = some v := by
  unfold tg at ht
  unfold sl
  cases hx : h[k]? with
  | none => rw [hx] at ht; cases ht
  | some x =>
    have hl : k < h.length := (List.getElem?_eq_some_iff.mp hx).1
    rw [hx] at ht
    match x, ht with
    | .inl q, ht =>
      have hq : q.2.length = n := by cases ht; rfl
      unfold hset; rw [hx]; dsimp only; rw [List.getElem?_set_self hl]
      exact List.getElem?_set_self (by omega)
    | .inr (.inl q), ht =>
      have hq : q.2.length = n := by cases ht; rfl
      unfold hset; rw [hx]; dsimp only; rw [List.getElem?_set_self hl]
      exact List.getElem?_set_self (by omega)
    | .inr (.inr q), ht => cases ht
theorem sl_lt (ht : tg h k = some (t, n)) (hs : sl h k j = some v) : j < n := by
  unfold tg at ht
  unfold sl at hs
  cases hx : h[k]? with
  | none => rw [hx] at ht; cases ht
  | some x =>
    rw [hx] at ht hs
    match x, ht, hs with
    | .inl q, ht, hs => cases ht; exact (List.getElem?_eq_some_iff.mp hs).1
    | .inr (.inl q), ht, hs => cases ht; exact (List.getElem?_eq_some_iff.mp hs).1
    | .inr (.inr q), ht, hs => cases ht
theorem sl_ex (ht : tg h k = some (t, n)) (hj : j < n) : ∃ v, sl h k j = some v := by
  unfold tg at ht
  unfold sl
  cases hx : h[k]? with
  | none => rw [hx] at ht; cases ht
  | some x =>
    rw [hx] at ht
    match x, ht with
    | .inl q, ht => cases ht; exact ⟨_, List.getElem?_eq_getElem hj⟩
    | .inr (.inl q), ht => cases ht; exact ⟨_, List.getElem?_eq_getElem hj⟩
    | .inr (.inr q), ht => cases ht
theorem hset_arr {ty : FieldType} {l : List Value} (hx : h[k]? = some (.inl (ty, l))) : h.set k (.inl (ty, l.set j v)) = hset h k j v := by
  unfold hset
  rw [hx]
theorem hset_obj {ci : Nat} {l : List Value} (hx : h[k]? = some (.inr (.inl (ci, l)))) : h.set k (.inr (.inl (ci, l.set j v))) = hset h k j v := by
  unfold hset
  rw [hx]
theorem sl_arr {ty : FieldType} {l : List Value} (hx : h[k]? = some (.inl (ty, l))) : sl h k j = l[j]? := by
  unfold sl
  rw [hx]
theorem sl_obj {ci : Nat} {l : List Value} (hx : h[k]? = some (.inr (.inl (ci, l)))) : sl h k j = l[j]? := by
  unfold sl
  rw [hx]
end SLOTS
/-- from S on the body of M ends, and Q holds of its end -/
def wp (G : hm_T) (pg : List hm_M) (d : Nat) (M : hm_M) (S : hm_S) (Q : hm_G → hm_Out → Prop) : Prop := ∃ gf out, hm_bo G pg d M S gf out ∧ Q gf out
/-- a call of method i ends, and Q holds of its end -/
def wc (G : hm_T) (pg : List hm_M) (d i : Nat) (vs : List Value) (g : hm_G) (Q : hm_G → hm_Out → Prop) : Prop := ∃ gf out, hm_ev G pg d i vs g gf out ∧ Q gf out
section WP
variable {G : hm_T} {pg : List hm_M} {M : hm_M} {pc row k ci fi q d n : Nat} {lv : List (Nat × Value)} {r st rest args : List Value} {g g2 : hm_G} {v w : Value} {i : Instr} {x y : Int32} {Q Q2 : hm_G → hm_Out → Prop} {ty : FieldType}
theorem wp_mono {S : hm_S} (h : wp G pg d M S Q) (hq : ∀ gf out, Q gf out → Q2 gf out) : wp G pg d M S Q2 := by
  obtain ⟨gf, out, h1, h2⟩ := h
  exact ⟨gf, out, h1, hq _ _ h2⟩
theorem wc_mono {i : Nat} {vs : List Value} (h : wc G pg d i vs g Q) (hq : ∀ gf out, Q gf out → Q2 gf out) : wc G pg d i vs g Q2 := by
  obtain ⟨gf, out, h1, h2⟩ := h
  exact ⟨gf, out, h1, hq _ _ h2⟩
theorem wc_up {d2 i : Nat} {vs : List Value} (hd : d ≤ d2) (h : wc G pg d i vs g Q) : wc G pg d2 i vs g Q := by
  obtain ⟨gf, out, h1, h2⟩ := h
  exact ⟨gf, out, hm_ev_up hd h1, h2⟩
theorem wc_of {i : Nat} {vs : List Value} (hp : pg[i]? = some M) (hs : (lg_sl vs).length ≤ hm_Ml M) (h : wp G pg d M (0, lv_args 0 vs, [], g) Q) : wc G pg (d + 1) i vs g Q := by
  obtain ⟨gf, out, h1, h2⟩ := h
  exact ⟨gf, out, hm_ev_of hp hs h1, h2⟩
theorem wp_end {S : hm_S} {gf : hm_G} {out : hm_Out} (h : ∀ call, hm_step G call M S = some (.inr (gf, out))) (hq : Q gf out) : wp G pg d M S Q := ⟨gf, out, hm_bo_end h, hq⟩
theorem wp_n {S S2 : hm_S} (n : Nat) (h : ∀ call, hm_go_n G call M n S = some S2) (kk : wp G pg d M S2 Q) : wp G pg d M S Q := by
  obtain ⟨gf, out, h1, h2⟩ := kk
  exact ⟨gf, out, hs_n n h h1, h2⟩
theorem wp_go {S S2 : hm_S} (h : ∀ call, hm_step G call M S = some (.inl S2)) (kk : wp G pg d M S2 Q) : wp G pg d M S Q := by
  obtain ⟨gf, out, h1, h2⟩ := kk
  exact ⟨gf, out, hm_bo_go h h1, h2⟩
theorem wp_get (ho : (hm_Mi M)[pc]? = some (some (.getfield k, 3, 9, row))) (hx : (hm_Tf G)[row]? = some (hm_Mo M, k, ci, fi)) (ht : tg g.1 q = some (.inr ci, n)) (hv : sl g.1 q fi = some v) (kk : wp G pg d M (pc + 3, lv, v :: r, g) Q) : wp G pg d M (pc, lv, .ref q :: r, g) Q := by
  obtain ⟨l, h1, h2⟩ := tg_obj ht
  rw [sl_obj h1] at hv
  exact wp_go (fun _ => hs_get ho hx h1 hv) kk
theorem wp_put {cq : vw_C} (ho : (hm_Mi M)[pc]? = some (some (.putfield k, 3, 9, row))) (hx : (hm_Tf G)[row]? = some (hm_Mo M, k, ci, fi)) (hcl : (hm_Tcl G)[ci]? = some cq) (hfin : (cq.2.1 fi).2.2.2 = false) (hn : hm_Tro G ≤ q) (ht : tg g.1 q = some (.inr ci, n)) (hk : fi < n) (hfit : hm_fit (hm_Tty G ci fi) v = true) (kk : wp G pg d M (pc + 3, lv, r, hset g.1 q fi v, g.2) Q) : wp G pg d M (pc, lv, v :: .ref q :: r, g) Q := by
  obtain ⟨l, h1, h2⟩ := tg_obj ht
  refine wp_go (fun _ => hs_put ho hx hcl hfin hn h1 (by omega) hfit) ?_
  rw [hset_obj h1]
  exact kk
theorem wp_ald (ho : (hm_Mi M)[pc]? = some (some (i, 1, 11, 0))) (ht : tg g.1 q = some (.inl ty, n)) (hty : hm_aty i ty = true) (h0 : 0 ≤ x.toInt) (hv : sl g.1 q x.toNatClampNeg = some v) (kk : wp G pg d M (pc + 1, lv, v :: r, g) Q) : wp G pg d M (pc, lv, .int x :: .ref q :: r, g) Q := by
  obtain ⟨l, h1, h2⟩ := tg_arr ht
  rw [sl_arr h1] at hv
  exact wp_go (fun _ => hs_ald ho h1 hty (fun e => by rw [Int32.lt_iff_toInt_lt] at e; exact absurd e (by rw [show (0 : Int32).toInt = 0 from rfl]; omega)) hv) kk
theorem wp_alen (ho : (hm_Mi M)[pc]? = some (some (.arraylength, 1, 11, 2))) (ht : tg g.1 q = some (.inl ty, n)) (kk : wp G pg d M (pc + 1, lv, .int (Int32.ofNat n) :: r, g) Q) : wp G pg d M (pc, lv, .ref q :: r, g) Q := by
  obtain ⟨l, h1, h2⟩ := tg_arr ht
  subst h2
  exact wp_go (fun _ => hs_alen ho h1) kk
theorem wp_ast (ho : (hm_Mi M)[pc]? = some (some (i, 1, 11, 1))) (hn : hm_Tro G ≤ q) (ht : tg g.1 q = some (.inl ty, n)) (hty : hm_aty2 i ty = true) (h0 : 0 ≤ x.toInt) (hl : x.toInt < n) (hv : hm_stv i v = some w) (kk : wp G pg d M (pc + 1, lv, r, hset g.1 q x.toNatClampNeg w, g.2) Q) : wp G pg d M (pc, lv, v :: .int x :: .ref q :: r, g) Q := by
  obtain ⟨l, h1, h2⟩ := tg_arr ht
  refine wp_go (fun _ => hs_ast ho hn h1 hty (fun e => by rw [Int32.lt_iff_toInt_lt] at e; exact absurd e (by rw [show (0 : Int32).toInt = 0 from rfl]; omega)) ?_ hv) ?_
  · show x.toNatClampNeg < l.length
    rw [h2]
    show x.toInt.toNat < n
    omega
  · rw [hset_arr h1]
    exact kk
theorem wp_if1 {c : ClassFile.Cond} {off : Int} {b : Bool} {t : Nat} (ho : (hm_Mi M)[pc]? = some (some (.ifCond c off, 3, 7, row))) (ht : hm_tg pc off = some t) (hb : hm_c1 c x = b) (kk : wp G pg d M (if b = true then t else pc + 3, lv, r, g) Q) : wp G pg d M (pc, lv, .int x :: r, g) Q := wp_go (fun _ => hs_if1 ho ht hb) kk
theorem wp_if2 {c : ClassFile.Cond} {off : Int} {b : Bool} {t : Nat} (ho : (hm_Mi M)[pc]? = some (some (.if_icmp c off, 3, 7, row))) (ht : hm_tg pc off = some t) (hb : hm_c2 c x y = b) (kk : wp G pg d M (if b = true then t else pc + 3, lv, r, g) Q) : wp G pg d M (pc, lv, .int y :: .int x :: r, g) Q := wp_go (fun _ => hs_if2 ho ht hb) kk
/-- a call that comes back by a value or by none -/
theorem wp_call1 {ix im na : Nat} (ho : (hm_Mi M)[pc]? = some (some (.invokevirtual ix, 3, 14, row))) (hx : (hm_Tc G)[row]? = some (hm_Mo M, ix, 1, im, na, ci)) (ha : args.length = na) (hb : tg g.1 q = some (.inr ci, n)) (hs : (rest.map fun v => v.category).sum ≤ 8) (he : wc G pg d im (.ref q :: args) g fun g2 out => ∃ ob, out = some ob ∧ wp G pg d M (pc + 3, lv, ob.toList ++ rest, g2) Q) : wp G pg d M (pc, lv, args.reverse ++ .ref q :: rest, g) Q := by
  obtain ⟨l, h1, h2⟩ := tg_obj hb
  obtain ⟨g2, out, e1, ob, rfl, gf, o2, e2, e3⟩ := he
  exact ⟨gf, o2, hs_bo e1 (fun call hc => hs_call1 ho hx ha h1 hs hc) e2, e3⟩
theorem wp_call0 {ix im na : Nat} (ho : (hm_Mi M)[pc]? = some (some (.invokestatic ix, 3, 14, row))) (hx : (hm_Tc G)[row]? = some (hm_Mo M, ix, 0, im, na, ci)) (ha : args.length = na) (hs : (rest.map fun v => v.category).sum ≤ 8) (he : wc G pg d im args g fun g2 out => ∃ ob, out = some ob ∧ wp G pg d M (pc + 3, lv, ob.toList ++ rest, g2) Q) : wp G pg d M (pc, lv, args.reverse ++ rest, g) Q := by
  obtain ⟨g2, out, e1, ob, rfl, gf, o2, e2, e3⟩ := he
  exact ⟨gf, o2, hs_bo e1 (fun call hc => hs_call0 ho hx ha hs hc) e2, e3⟩
end WP
/-! Comparisons, by what the ints are. -/
section CMP
variable {x y : Int32}
theorem i0 : (0 : Int32).toInt = 0 := rfl
theorem c1_eq : hm_c1 .eq x = decide (x.toInt = 0) := by show decide (x = 0) = _; simp only [← Int32.toInt_inj, i0]
theorem c1_ne : hm_c1 .ne x = decide (x.toInt ≠ 0) := by show decide (¬ x = 0) = _; simp only [← Int32.toInt_inj, i0, ne_eq]
theorem c1_lt : hm_c1 .lt x = decide (x.toInt < 0) := by show decide (x < 0) = _; simp only [Int32.lt_iff_toInt_lt, i0]
theorem c1_ge : hm_c1 .ge x = decide (0 ≤ x.toInt) := by show decide (0 ≤ x) = _; simp only [Int32.le_iff_toInt_le, i0]
theorem c1_gt : hm_c1 .gt x = decide (0 < x.toInt) := by show decide (0 < x) = _; simp only [Int32.lt_iff_toInt_lt, i0]
theorem c1_le : hm_c1 .le x = decide (x.toInt ≤ 0) := by show decide (x ≤ 0) = _; simp only [Int32.le_iff_toInt_le, i0]
theorem c2_eq : hm_c2 .eq x y = decide (x.toInt = y.toInt) := by show decide (x = y) = _; simp only [← Int32.toInt_inj]
theorem c2_ne : hm_c2 .ne x y = decide (x.toInt ≠ y.toInt) := by show decide (¬ x = y) = _; simp only [← Int32.toInt_inj, ne_eq]
theorem c2_lt : hm_c2 .lt x y = decide (x.toInt < y.toInt) := by show decide (x < y) = _; simp only [Int32.lt_iff_toInt_lt]
theorem c2_ge : hm_c2 .ge x y = decide (y.toInt ≤ x.toInt) := by show decide (y ≤ x) = _; simp only [Int32.le_iff_toInt_le]
theorem c2_gt : hm_c2 .gt x y = decide (y.toInt < x.toInt) := by show decide (y < x) = _; simp only [Int32.lt_iff_toInt_lt]
theorem c2_le : hm_c2 .le x y = decide (x.toInt ≤ y.toInt) := by show decide (x ≤ y) = _; simp only [Int32.le_iff_toInt_le]
end CMP
