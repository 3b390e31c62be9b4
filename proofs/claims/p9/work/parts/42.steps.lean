/-! Steps of the small machine that look at things, one rule each. -/
section STEPS
variable {G : hm_T} {pg : List hm_M} {M : hm_M} {pc row k ci fi q d : Nat} {lv : List (Nat × Value)} {r st rest args : List Value} {g gf g2 : hm_G} {out : hm_Out} {v : Value} {l : List Value} {i : Instr} {x : Int32} {call : Nat → List Value → hm_G → Option (hm_G × hm_Out)}
theorem hs_of {o : hm_O} (ho : (hm_Mi M)[pc]? = some (some o)) : hm_step G call M (pc, lv, st, g) = hm_do G call M o pc lv st g := by
  unfold hm_step
  rw [ho]
theorem hs_get (ho : (hm_Mi M)[pc]? = some (some (.getfield k, 3, 9, row))) (hx : (hm_Tf G)[row]? = some (hm_Mo M, k, ci, fi)) (hq : g.1[q]? = some (.inr (.inl (ci, l)))) (hv : l[fi]? = some v) : hm_step G call M (pc, lv, .ref q :: r, g) = some (.inl (pc + 3, lv, v :: r, g)) := by
  rw [hs_of ho]
  show hm_dF G M _ pc lv _ g = _
  unfold hm_dF
  rw [hx]
  simp [hm_get, hq, hv]
theorem hs_put {cq : vw_C} (ho : (hm_Mi M)[pc]? = some (some (.putfield k, 3, 9, row))) (hx : (hm_Tf G)[row]? = some (hm_Mo M, k, ci, fi)) (hcl : (hm_Tcl G)[ci]? = some cq) (hfin : (cq.2.1 fi).2.2.2 = false) (hn : hm_Tro G ≤ q) (hq : g.1[q]? = some (.inr (.inl (ci, l)))) (hk : fi < l.length) (hfit : hm_fit (hm_Tty G ci fi) v = true) : hm_step G call M (pc, lv, v :: .ref q :: r, g) = some (.inl (pc + 3, lv, r, g.1.set q (.inr (.inl (ci, l.set fi v))), g.2)) := by
  rw [hs_of ho]
  show hm_dF G M _ pc lv _ g = _
  unfold hm_dF
  rw [hx]
  dsimp only
  rw [if_pos ⟨rfl, rfl⟩]
  rw [hcl]
  simp [hm_put, hq, hfin, hn, hk, hfit]
theorem hs_ald {o : FieldType × List Value} (ho : (hm_Mi M)[pc]? = some (some (i, 1, 11, 0))) (hq : g.1[q]? = some (.inl o)) (ht : hm_aty i o.1 = true) (h0 : ¬ x < 0) (hv : o.2[x.toNatClampNeg]? = some v) : hm_step G call M (pc, lv, .int x :: .ref q :: r, g) = some (.inl (pc + 1, lv, v :: r, g)) := by
  rw [hs_of ho]
  show hm_dA G _ pc lv _ g = _
  simp [hm_dA, hm_ald, hq, ht, h0, hv]
theorem hs_alen {o : FieldType × List Value} (ho : (hm_Mi M)[pc]? = some (some (.arraylength, 1, 11, 2))) (hq : g.1[q]? = some (.inl o)) : hm_step G call M (pc, lv, .ref q :: r, g) = some (.inl (pc + 1, lv, .int (Int32.ofNat o.2.length) :: r, g)) := by
  rw [hs_of ho]
  show hm_dA G _ pc lv _ g = _
  simp [hm_dA, hm_alen, hq]
theorem hs_ast {o : FieldType × List Value} {w : Value} (ho : (hm_Mi M)[pc]? = some (some (i, 1, 11, 1))) (hn : hm_Tro G ≤ q) (hq : g.1[q]? = some (.inl o)) (ht : hm_aty2 i o.1 = true) (h0 : ¬ x < 0) (hl : x.toNatClampNeg < o.2.length) (hv : hm_stv i v = some w) : hm_step G call M (pc, lv, v :: .int x :: .ref q :: r, g) = some (.inl (pc + 1, lv, r, g.1.set q (.inl (o.1, o.2.set x.toNatClampNeg w)), g.2)) := by
  rw [hs_of ho]
  show hm_dA G _ pc lv _ g = _
  simp [hm_dA, hm_ast, hn, hq, ht, h0, hl, hv]
theorem hs_newi {n : Int32} (ho : (hm_Mi M)[pc]? = some (some (.newarray .int, 2, 12, row))) (h0 : ¬ n < 0) (hl : n.toNatClampNeg * 4 ≤ 536870912) : hm_step G call M (pc, lv, .int n :: r, g) = some (.inl (pc + 2, lv, .ref g.1.length :: r, g.1 ++ [hm_newa .int n.toNatClampNeg], g.2.1 + 1, g.2.2 + n.toNatClampNeg)) := by
  rw [hs_of ho]
  unfold hm_do
  simp [hm_dN, h0, newarray.typeOf, componentBytes, hl]
theorem hs_call1 {ix im na : Nat} {ob : Option Value} (ho : (hm_Mi M)[pc]? = some (some (.invokevirtual ix, 3, 14, row))) (hx : (hm_Tc G)[row]? = some (hm_Mo M, ix, 1, im, na, ci)) (ha : args.length = na) (hb : g.1[q]? = some (.inr (.inl (ci, l)))) (hs : (rest.map fun v => v.category).sum ≤ 8) (hc : call im (.ref q :: args) g = some (g2, some ob)) : hm_step G call M (pc, lv, args.reverse ++ .ref q :: rest, g) = some (.inl (pc + 3, lv, ob.toList ++ rest, g2)) := by
  rw [hs_of ho]
  show hm_dC G call M _ pc lv _ g = _
  have hd : (args.reverse ++ .ref q :: rest).drop na = .ref q :: rest := by rw [List.drop_append_of_le_length (by simp [ha])]; simp [ha]
  have ht : ((args.reverse ++ .ref q :: rest).take na).reverse = args := by rw [List.take_append_of_le_length (by simp [ha]), List.take_of_length_le (by simp [ha]), List.reverse_reverse]
  have hal : na ≤ (args.reverse ++ .ref q :: rest).length := by simp [ha]
  unfold hm_dC
  rw [hx]
  simp only [hd, ht, hb, hc]
  rw [if_pos ⟨trivial, trivial, hal⟩, if_pos ⟨trivial, trivial, hs⟩]
  rfl
theorem hs_call0 {ix im na : Nat} {ob : Option Value} (ho : (hm_Mi M)[pc]? = some (some (.invokestatic ix, 3, 14, row))) (hx : (hm_Tc G)[row]? = some (hm_Mo M, ix, 0, im, na, ci)) (ha : args.length = na) (hs : (rest.map fun v => v.category).sum ≤ 8) (hc : call im args g = some (g2, some ob)) : hm_step G call M (pc, lv, args.reverse ++ rest, g) = some (.inl (pc + 3, lv, ob.toList ++ rest, g2)) := by
  rw [hs_of ho]
  show hm_dC G call M _ pc lv _ g = _
  have hd : (args.reverse ++ rest).drop na = rest := by rw [List.drop_append_of_le_length (by simp [ha])]; simp [ha]
  have ht : ((args.reverse ++ rest).take na).reverse = args := by rw [List.take_append_of_le_length (by simp [ha]), List.take_of_length_le (by simp [ha]), List.reverse_reverse]
  have hal : na ≤ (args.reverse ++ rest).length := by simp [ha]
  unfold hm_dC
  rw [hx]
  simp only [hd, ht, hc]
  rw [if_pos ⟨trivial, trivial, hal⟩, if_pos ⟨trivial, hs⟩]
  rfl
theorem hs_if1 {c : ClassFile.Cond} {off : Int} {b : Bool} {t : Nat} (ho : (hm_Mi M)[pc]? = some (some (.ifCond c off, 3, 7, row))) (ht : hm_tg pc off = some t) (hb : hm_c1 c x = b) : hm_step G call M (pc, lv, .int x :: r, g) = some (.inl (if b = true then t else pc + 3, lv, r, g)) := by
  rw [hs_of ho]
  show hm_pu 3 g (hm_gB _ pc lv _) = _
  simp [hm_gB, hm_go, ht, hb, hm_pu]
theorem hs_if2 {c : ClassFile.Cond} {off : Int} {b : Bool} {t : Nat} {y : Int32} (ho : (hm_Mi M)[pc]? = some (some (.if_icmp c off, 3, 7, row))) (ht : hm_tg pc off = some t) (hb : hm_c2 c x y = b) : hm_step G call M (pc, lv, .int y :: .int x :: r, g) = some (.inl (if b = true then t else pc + 3, lv, r, g)) := by
  rw [hs_of ho]
  show hm_pu 3 g (hm_gB _ pc lv _) = _
  simp [hm_gB, hm_go, ht, hb, hm_pu]
/-- steps without calls -/
theorem hs_n {S S2 : hm_S} (n : Nat) (h : ∀ call, hm_go_n G call M n S = some S2) (kk : hm_bo G pg d M S2 gf out) : hm_bo G pg d M S gf out := hm_bo_n (K := 0) n S S2 (h _) kk
/-- behind a call -/
theorem hs_bo {im : Nat} {vs : List Value} {ob : Option Value} {S S2 : hm_S} (he : hm_ev G pg d im vs g g2 (some ob)) (h : ∀ call : Nat → List Value → hm_G → Option (hm_G × hm_Out), call im vs g = some (g2, some ob) → hm_step G call M S = some (.inl S2)) (kk : hm_bo G pg d M S2 gf out) : hm_bo G pg d M S gf out := hm_bo_call he h kk
end STEPS
