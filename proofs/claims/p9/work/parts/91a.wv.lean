/-! Rules beside one thing more: thing q holds E. -/
def wv (q : Nat) (E : hm_E) (d : Nat) (M : hm_M) (pc : Nat) (lv : List (Nat × Value)) (st : List Value) (s : rS) (Q : rS → hm_Out → Prop) : Prop := ∀ g, rP g s.1 → g.2 = s.2 → g.1[q]? = some E → ∃ gf out, hm_bo tb_T tb_pg d M (pc, lv, st, g) gf out ∧ ∃ s2 : rS, rP gf s2.1 ∧ gf.2 = s2.2 ∧ Q s2 out
theorem tg_lt {h : hm_H} {k : Nat} {x : (FieldType ⊕ Nat) × Nat} (ht : tg h k = some x) : k < h.length := by
  unfold tg at ht
  cases hx : h[k]? with
  | none => rw [hx] at ht; cases ht
  | some y => exact (List.getElem?_eq_some_iff.mp hx).1
section WV
variable {M : hm_M} {pc row k ci fi q p d n : Nat} {E : hm_E} {lv : List (Nat × Value)} {st rest args : List Value} {s : rS} {v w : Value} {i : Instr} {x y : Int32} {Q Q2 : rS → hm_Out → Prop} {ty : FieldType} {a b z : Int} {g : hm_G} {r : tab} {c : Nat × Nat}
theorem Rp_out {e : hm_E} (h : rP g r) (hq : tb_TG q = none) (hr : ∀ e, tb_RO q ≠ some e) : rP (g.1.set q e, c) r := by
  refine ⟨fun k t n hk => ?_, fun k e2 hk => ?_⟩
  · have hn : q ≠ k := fun e => by rw [e, hk] at hq; cases hq
    have e1 : (g.1.set q e)[k]? = g.1[k]? := List.getElem?_set_ne hn
    have h1 := h.1 k t n hk
    refine ⟨?_, fun j hj => ⟨?_, (h1.2 j hj).2⟩⟩
    · show tg (g.1.set q e) k = _
      rw [← h1.1]
      unfold tg
      rw [e1]
    · show sl (g.1.set q e) k j = _
      rw [← (h1.2 j hj).1]
      unfold sl
      rw [e1]
  · have hn : q ≠ k := fun e => hr e2 (by rw [e]; exact hk)
    show (g.1.set q e)[k]? = some e2
    rw [List.getElem?_set_ne hn]
    exact h.2 k e2 hk
theorem Rp_app {l : hm_H} (h : rP g r) : rP (g.1 ++ l, c) r := by
  refine ⟨fun k t n hk => ?_, fun k e2 hk => ?_⟩
  · have h1 := h.1 k t n hk
    have e1 : (g.1 ++ l)[k]? = g.1[k]? := List.getElem?_append_left (tg_lt h1.1)
    refine ⟨?_, fun j hj => ⟨?_, (h1.2 j hj).2⟩⟩
    · show tg (g.1 ++ l) k = _
      rw [← h1.1]
      unfold tg
      rw [e1]
    · show sl (g.1 ++ l) k j = _
      rw [← (h1.2 j hj).1]
      unfold sl
      rw [e1]
  · have h1 := h.2 k e2 hk
    show (g.1 ++ l)[k]? = some e2
    rw [List.getElem?_append_left (List.getElem?_eq_some_iff.mp h1).1]
    exact h1
theorem wv_of (h : wr d M pc lv st s Q) : wv q E d M pc lv st s Q := fun g a b _ => h g a b
theorem wv_n {pc2 : Nat} {lv2 : List (Nat × Value)} {st2 : List Value} (n : Nat) (h : ∀ call g, hm_go_n tb_T call M n (pc, lv, st, g) = some (pc2, lv2, st2, g)) (kk : wv q E d M pc2 lv2 st2 s Q) : wv q E d M pc lv st s Q := fun g hg hc hE => by
  obtain ⟨gf, out, h1, h2⟩ := kk g hg hc hE
  exact ⟨gf, out, hs_n n (fun call => h call g) h1, h2⟩
theorem wv_go {pc2 : Nat} {lv2 : List (Nat × Value)} {st2 : List Value} (h : ∀ call g, hm_step tb_T call M (pc, lv, st, g) = some (.inl (pc2, lv2, st2, g))) (kk : wv q E d M pc2 lv2 st2 s Q) : wv q E d M pc lv st s Q := fun g hg hc hE => by
  obtain ⟨gf, out, h1, h2⟩ := kk g hg hc hE
  exact ⟨gf, out, hm_bo_go (fun call => h call g) h1, h2⟩
theorem wv_end {ob : Option Value} (h : ∀ call g, hm_step tb_T call M (pc, lv, st, g) = some (.inr (g, some ob))) (hq : Q s (some ob)) : wv q E d M pc lv st s Q := wv_of (wr_end h hq)
theorem wv_get (ho : (hm_Mi M)[pc]? = some (some (.getfield k, 3, 9, row))) (hx : (hm_Tf tb_T)[row]? = some (hm_Mo M, k, ci, fi)) (ht : tb_TG p = some (.inr ci, n)) (hj : fi < n) (hv : rv (rk1 (tb_ty ci fi)) (s.1 p fi) = v) (kk : rg (tb_ty ci fi) (s.1 p fi) → wv q E d M (pc + 3) lv (v :: st) s Q) : wv q E d M pc lv (.ref p :: st) s Q := fun g hg hc hE => by
  obtain ⟨l, h1, h2⟩ := tg_obj (Rp_tg hg ht)
  have h3 := Rp_sl hg ht hj
  rw [sl_obj h1] at h3
  have h3 : l[fi]? = some v := by rw [h3, ← hv]; rfl
  obtain ⟨gf, out, h4, h5⟩ := kk (Rp_rg hg ht hj) g hg hc hE
  exact ⟨gf, out, hm_bo_go (fun call => hs_get ho hx h1 h3) h4, h5⟩
theorem wv_add (ho : (hm_Mi M)[pc]? = some (some (.iadd, 1, 3, row))) (kk : wv q E d M (pc + 1) lv (vi (a + b) :: st) s Q) : wv q E d M pc lv (vi b :: vi a :: st) s Q := wv_go (fun call g => by rw [hs_of ho]; show some (Sum.inl (pc + 1, lv, Value.int (Int32.ofInt a + Int32.ofInt b) :: st, g)) = _; rw [i32_add]) kk
theorem wv_sub (ho : (hm_Mi M)[pc]? = some (some (.isub, 1, 3, row))) (kk : wv q E d M (pc + 1) lv (vi (a - b) :: st) s Q) : wv q E d M pc lv (vi b :: vi a :: st) s Q := wv_go (fun call g => by rw [hs_of ho]; show some (Sum.inl (pc + 1, lv, Value.int (Int32.ofInt a - Int32.ofInt b) :: st, g)) = _; rw [i32_sub]) kk
theorem wv_any2 {f : Int32 → Int32 → Int32} (ho : (hm_Mi M)[pc]? = some (some (i, 1, 3, row))) (hf : hm_b2 i = some f) (kk : ∀ z : Int32, wv q E d M (pc + 1) lv (.int z :: st) s Q) : wv q E d M pc lv (.int y :: .int x :: st) s Q := by
  refine wv_go (fun call g => ?_) (kk (f x y))
  rw [hs_of ho]
  show hm_pu 1 g (hm_gA i pc lv _) = _
  simp [hm_gA, hf, hm_pu]
theorem wv_anyu (ho : (hm_Mi M)[pc]? = some (some (i, 1, 5, row))) (hf : ∀ x : Int32, ∃ z : Int32, hm_u1 i (.int x) = some (.int z)) (kk : ∀ z : Int32, wv q E d M (pc + 1) lv (.int z :: st) s Q) : wv q E d M pc lv (.int x :: st) s Q := by
  obtain ⟨w, hw⟩ := hf x
  refine wv_go (fun call g => ?_) (kk w)
  rw [hs_of ho]
  show hm_pu 1 g (hm_gU i pc lv (.int x :: st)) = _
  unfold hm_gU
  dsimp only
  rw [hw]
  rfl
theorem wv_divx (ho : (hm_Mi M)[pc]? = some (some (.idiv, 1, 6, row))) (ha : 0 ≤ a ∧ a ≤ 2147483647) (hb : 1 ≤ b ∧ b ≤ 2147483647) (kk : wv q E d M (pc + 1) lv (vi (a / b) :: st) s Q) : wv q E d M pc lv (vi b :: vi a :: st) s Q := by
  refine wv_go (fun call g => ?_) kk
  rw [hs_of ho]
  have hb0 : i32 b := by unfold i32; omega
  show hm_pu 1 g (if Int32.ofInt b = 0 then none else some (1, pc + 1, lv, Value.int (Int32.ofInt a / Int32.ofInt b) :: st)) = _
  have hd : Int32.ofInt a / Int32.ofInt b = Int32.ofInt (a / b) := by
    rw [← Int.tdiv_eq_ediv_of_nonneg ha.1]
    exact (Int32.ofInt_tdiv (by show -2147483648 ≤ a; omega) (by show a ≤ 2147483647; omega) (by show -2147483648 ≤ b; omega) (by show b ≤ 2147483647; omega)).symm
  rw [if_neg (ofInt_ne hb0 (by omega)), hd]
  rfl
theorem wv_rem (ho : (hm_Mi M)[pc]? = some (some (.irem, 1, 6, row))) (hb : i32 b) (hb0 : b ≠ 0) (kk : ∀ z : Int32, wv q E d M (pc + 1) lv (.int z :: st) s Q) : wv q E d M pc lv (vi b :: vi a :: st) s Q := by
  refine wv_go (fun call g => ?_) (kk (Int32.ofInt a - Int32.ofInt a / Int32.ofInt b * Int32.ofInt b))
  rw [hs_of ho]
  show hm_pu 1 g (if Int32.ofInt b = 0 then none else some (1, pc + 1, lv, Value.int (Int32.ofInt a - Int32.ofInt a / Int32.ofInt b * Int32.ofInt b) :: st)) = _
  rw [if_neg (ofInt_ne hb hb0)]
  rfl
theorem wv_if2t {c : ClassFile.Cond} {off : Int} {t : Nat} (ho : (hm_Mi M)[pc]? = some (some (.if_icmp c off, 3, 7, row))) (ht : hm_tg pc off = some t) (ha : i32 a) (hb : i32 b) (hc : cmpI c a b) (kk : wv q E d M t lv st s Q) : wv q E d M pc lv (vi b :: vi a :: st) s Q := wv_go (fun call g => hs_if2 (b := true) ho ht ((c2_I ha hb).mpr hc)) kk
theorem wv_if2f {c : ClassFile.Cond} {off : Int} {t : Nat} (ho : (hm_Mi M)[pc]? = some (some (.if_icmp c off, 3, 7, row))) (ht : hm_tg pc off = some t) (ha : i32 a) (hb : i32 b) (hc : ¬ cmpI c a b) (kk : wv q E d M (pc + 3) lv st s Q) : wv q E d M pc lv (vi b :: vi a :: st) s Q := wv_go (fun call g => hs_if2 (b := false) ho ht (Bool.eq_false_iff.mpr fun e => hc ((c2_I ha hb).mp e))) kk
theorem wv_inc {n : Int} (ho : (hm_Mi M)[pc]? = some (some (.iinc k n, 3, 6, row))) (hv : hm_at k lv = some (vi a)) (kk : wv q E d M (pc + 3) (hm_st1 lv k (vi (a + n))) st s Q) : wv q E d M pc lv st s Q := wv_go (fun call g => by
  rw [hs_of ho]
  show hm_pu 3 g (hm_gD (.iinc k n) pc lv st) = _
  simp only [hm_gD, hv, hm_pu, if_true]
  rw [i32_add]) kk
theorem wv_bst (ho : (hm_Mi M)[pc]? = some (some (.bastore, 1, 11, 1))) (hro : hm_Tro tb_T ≤ p) (ht : tb_TG p = some (.inl .byte, n)) (hpq : p ≠ q) (h0 : 0 ≤ a) (h1 : a < n) (hn : n ≤ 2147483647) (kk : ∀ z, -128 ≤ z ∧ z ≤ 127 → wv q E d M (pc + 1) lv st (up2 s.1 p a.toNat z, s.2) Q) : wv q E d M pc lv (.int x :: vi a :: .ref p :: st) s Q := fun g hg hc hE => by
  obtain ⟨z, hz, g1, g2⟩ := i32_of (x.toInt8.toInt32)
  have hb : -128 ≤ z ∧ z ≤ 127 := by
    have h3 := congrArg Int32.toInt hz
    rw [i32_to g1 g2, Int8.toInt_toInt32] at h3
    have h4 := x.toInt8.le_toInt
    have h5 := x.toInt8.toInt_lt
    omega
  obtain ⟨l, k1, k2⟩ := tg_arr (Rp_tg hg ht)
  have hj : a.toNat < n := by omega
  have h3 : rP (hset g.1 p a.toNat (rv (rk1 .byte) z), g.2) (up2 s.1 p a.toNat z) := Rp_set hg ht hj hb (tb_RO_hi hro)
  obtain ⟨gf, out, h4, h5⟩ := kk z hb _ h3 hc ((hset_at_ne hpq).trans hE)
  rw [← hset_arr k1, ← i32_nat h0 (by omega)] at h4
  exact ⟨gf, out, hm_bo_go (fun call => hs_ast (w := rv (rk1 .byte) z) ho hro k1 rfl (nn_i h0 (by omega)) (by rw [i32_nat h0 (by omega), k2]; exact hj) (by show some (Value.int x.toInt8.toInt32) = some (Value.int (Int32.ofInt z)); rw [hz])) h4, h5⟩
theorem wv_aldq {l : List Value} (ho : (hm_Mi M)[pc]? = some (some (.iaload, 1, 11, 0))) (h0 : 0 ≤ a) (h1 : a ≤ 2147483647) (hv : l[a.toNat]? = some v) (kk : wv q (.inl (.int, l)) d M (pc + 1) lv (v :: st) s Q) : wv q (.inl (.int, l)) d M pc lv (vi a :: .ref q :: st) s Q := fun g hg hc hE => by
  obtain ⟨gf, out, h4, h5⟩ := kk g hg hc hE
  exact ⟨gf, out, hm_bo_go (fun call => hs_ald ho hE rfl (nn_i h0 h1) (by rw [i32_nat h0 h1]; exact hv)) h4, h5⟩
theorem wv_alenq {l : List Value} (ho : (hm_Mi M)[pc]? = some (some (.arraylength, 1, 11, 2))) (kk : wv q (.inl (.int, l)) d M (pc + 1) lv (vi (l.length : Int) :: st) s Q) : wv q (.inl (.int, l)) d M pc lv (.ref q :: st) s Q := fun g hg hc hE => by
  obtain ⟨gf, out, h4, h5⟩ := kk g hg hc hE
  exact ⟨gf, out, hm_bo_go (fun call => by rw [hs_alen ho hE, i32_ofNat]) h4, h5⟩
theorem wv_astq {l : List Value} (ho : (hm_Mi M)[pc]? = some (some (.iastore, 1, 11, 1))) (hq : 1631 ≤ q) (h0 : 0 ≤ a) (h1 : a ≤ 2147483647) (hl : a.toNat < l.length) (kk : wv q (.inl (.int, l.set a.toNat (.int x))) d M (pc + 1) lv st s Q) : wv q (.inl (.int, l)) d M pc lv (.int x :: vi a :: .ref q :: st) s Q := fun g hg hc hE => by
  have hTG : tb_TG q = none := by
    unfold tb_TG
    rw [if_neg (by omega), if_neg (by omega), if_neg (by omega), if_neg (by omega), if_neg (by omega), if_neg (by omega), if_neg (by omega), if_neg (by omega)]
  have hlt := (List.getElem?_eq_some_iff.mp hE).1
  obtain ⟨gf, out, h4, h5⟩ := kk (g.1.set q (.inl (.int, l.set a.toNat (.int x))), g.2) (Rp_out hg hTG (tb_RO_hi (by omega))) hc (List.getElem?_set_self hlt)
  rw [← i32_nat h0 h1] at h4
  exact ⟨gf, out, hm_bo_go (fun call => hs_ast (w := .int x) ho (show 96 ≤ q by omega) hE rfl (nn_i h0 h1) (by rw [i32_nat h0 h1]; exact hl) rfl) h4, h5⟩
theorem wr_newI (h : ∀ call g, hm_step tb_T call M (pc, lv, st, g) = some (.inl (pc + 2, lv, .ref g.1.length :: rest, g.1 ++ [hm_newa .int n], g.2.1 + 1, g.2.2 + n))) (kk : ∀ q, 1631 ≤ q → wv q (hm_newa .int n) d M (pc + 2) lv (.ref q :: rest) (s.1, s.2.1 + 1, s.2.2 + n) Q) : wr d M pc lv st s Q := fun g hg hc => by
  have hl : 1631 ≤ g.1.length := tg_lt (Rp_tg hg (show tb_TG 1630 = some (.inl .int, 8) from rfl))
  obtain ⟨gf, out, h1, h2⟩ := kk g.1.length hl (g.1 ++ [hm_newa .int n], g.2.1 + 1, g.2.2 + n) (Rp_app hg) (by rw [hc]) (by simp)
  exact ⟨gf, out, hm_bo_go (fun call => h call g) h1, h2⟩
end WV
