/-! Rules over tables of numbers. -/
abbrev rS : Type := (Nat → Nat → Int) × Nat × Nat
abbrev rP (g : hm_G) (r : Nat → Nat → Int) : Prop := Rp tb_ty tb_TG tb_RO g r
/-- from there on the body ends, over every g that holds s, and Q holds of the table and the answer at its end -/
def wr (d : Nat) (M : hm_M) (pc : Nat) (lv : List (Nat × Value)) (st : List Value) (s : rS) (Q : rS → hm_Out → Prop) : Prop := ∀ g, rP g s.1 → g.2 = s.2 → ∃ gf out, hm_bo tb_T tb_pg d M (pc, lv, st, g) gf out ∧ ∃ s2 : rS, rP gf s2.1 ∧ gf.2 = s2.2 ∧ Q s2 out
def cr (d i : Nat) (vs : List Value) (s : rS) (Q : rS → hm_Out → Prop) : Prop := ∀ g, rP g s.1 → g.2 = s.2 → ∃ gf out, hm_ev tb_T tb_pg d i vs g gf out ∧ ∃ s2 : rS, rP gf s2.1 ∧ gf.2 = s2.2 ∧ Q s2 out
/-- an int, a long, a thing -/
abbrev vi (z : Int) : Value := .int (Int32.ofInt z)
abbrev vl (z : Int) : Value := .long (Int64.ofInt z)
def i32 (z : Int) : Prop := -2147483648 ≤ z ∧ z ≤ 2147483647
def cmpI (c : ClassFile.Cond) (a b : Int) : Prop := match c with
  | .eq => a = b
  | .ne => a ≠ b
  | .lt => a < b
  | .ge => b ≤ a
  | .gt => b < a
  | .le => a ≤ b
theorem c1_I {c : ClassFile.Cond} {a : Int} (ha : i32 a) : (hm_c1 c (Int32.ofInt a) = true ↔ cmpI c a 0) := by
  cases c <;> simp only [c1_eq, c1_ne, c1_lt, c1_ge, c1_gt, c1_le, i32_to ha.1 ha.2, decide_eq_true_eq, cmpI]
theorem c2_I {c : ClassFile.Cond} {a b : Int} (ha : i32 a) (hb : i32 b) : (hm_c2 c (Int32.ofInt a) (Int32.ofInt b) = true ↔ cmpI c a b) := by
  cases c <;> simp only [c2_eq, c2_ne, c2_lt, c2_ge, c2_gt, c2_le, i32_to ha.1 ha.2, i32_to hb.1 hb.2, decide_eq_true_eq, cmpI]
theorem hf_int' (x : Int32) : hm_fit .int (.int x) = true := by simp [hm_fit, narrow, fits]
theorem fit_i {ty : FieldType} {z : Int} (hk : ty = .int ∨ ty = .boolean ∨ ty = .byte) (h : rg ty z) : hm_fit ty (vi z) = true := by
  rcases hk with rfl | rfl | rfl
  · exact hf_int' _
  · obtain ⟨h1, h2⟩ := h
    have : z = 0 ∨ z = 1 := by omega
    rcases this with rfl | rfl <;> decide
  · obtain ⟨h1, h2⟩ := h
    have h3 : (Int32.ofInt z).toInt = z := i32_to (by omega) (by omega)
    unfold hm_fit
    rw [Bool.and_eq_true]
    refine ⟨decide_eq_true ?_, ?_⟩
    · show Value.int (Int32.ofInt z).toInt8.toInt32 = Value.int (Int32.ofInt z)
      congr 1
      apply Int32.toInt_inj.mp
      rw [Int8.toInt_toInt32, Int32.toInt_toInt8, h3]
      exact Int.bmod_eq_of_le (by omega) (by omega)
    · simp only [fits, Bool.and_eq_true, decide_eq_true_eq]
      refine ⟨?_, ?_⟩
      · rw [Int32.le_iff_toInt_le, h3]; exact h1
      · rw [Int32.le_iff_toInt_le, h3]; exact h2
section WR
variable {M : hm_M} {pc row k ci fi q d n : Nat} {lv : List (Nat × Value)} {st rest args : List Value} {s : rS} {v w : Value} {i : Instr} {x y : Int32} {Q Q2 : rS → hm_Out → Prop} {ty : FieldType} {a b z : Int}
theorem wr_mono (h : wr d M pc lv st s Q) (hq : ∀ s2 out, Q s2 out → Q2 s2 out) : wr d M pc lv st s Q2 := fun g hg hc => by
  obtain ⟨gf, out, h1, s2, h2, h3, h4⟩ := h g hg hc
  exact ⟨gf, out, h1, s2, h2, h3, hq _ _ h4⟩
theorem cr_mono {i : Nat} {vs : List Value} (h : cr d i vs s Q) (hq : ∀ s2 out, Q s2 out → Q2 s2 out) : cr d i vs s Q2 := fun g hg hc => by
  obtain ⟨gf, out, h1, s2, h2, h3, h4⟩ := h g hg hc
  exact ⟨gf, out, h1, s2, h2, h3, hq _ _ h4⟩
theorem cr_up {d2 i : Nat} {vs : List Value} (hd : d ≤ d2) (h : cr d i vs s Q) : cr d2 i vs s Q := fun g hg hc => by
  obtain ⟨gf, out, h1, h2⟩ := h g hg hc
  exact ⟨gf, out, hm_ev_up hd h1, h2⟩
theorem cr_of {i : Nat} {vs : List Value} (hp : tb_pg[i]? = some M) (hs : (lg_sl vs).length ≤ hm_Ml M) (h : wr d M 0 (lv_args 0 vs) [] s Q) : cr (d + 1) i vs s Q := fun g hg hc => by
  obtain ⟨gf, out, h1, h2⟩ := h g hg hc
  exact ⟨gf, out, hm_ev_of hp hs h1, h2⟩
theorem wr_n {pc2 : Nat} {lv2 : List (Nat × Value)} {st2 : List Value} (n : Nat) (h : ∀ call g, hm_go_n tb_T call M n (pc, lv, st, g) = some (pc2, lv2, st2, g)) (kk : wr d M pc2 lv2 st2 s Q) : wr d M pc lv st s Q := fun g hg hc => by
  obtain ⟨gf, out, h1, h2⟩ := kk g hg hc
  exact ⟨gf, out, hs_n n (fun call => h call g) h1, h2⟩
theorem wr_go {pc2 : Nat} {lv2 : List (Nat × Value)} {st2 : List Value} (h : ∀ call g, hm_step tb_T call M (pc, lv, st, g) = some (.inl (pc2, lv2, st2, g))) (kk : wr d M pc2 lv2 st2 s Q) : wr d M pc lv st s Q := fun g hg hc => by
  obtain ⟨gf, out, h1, h2⟩ := kk g hg hc
  exact ⟨gf, out, hm_bo_go (fun call => h call g) h1, h2⟩
theorem wr_end {ob : Option Value} (h : ∀ call g, hm_step tb_T call M (pc, lv, st, g) = some (.inr (g, some ob))) (hq : Q s (some ob)) : wr d M pc lv st s Q := fun g hg hc => ⟨g, _, hm_bo_end (fun call => h call g), s, hg, hc, hq⟩
theorem wr_get (ho : (hm_Mi M)[pc]? = some (some (.getfield k, 3, 9, row))) (hx : (hm_Tf tb_T)[row]? = some (hm_Mo M, k, ci, fi)) (ht : tb_TG q = some (.inr ci, n)) (hj : fi < n) (hv : rv (rk1 (tb_ty ci fi)) (s.1 q fi) = v) (kk : rg (tb_ty ci fi) (s.1 q fi) → wr d M (pc + 3) lv (v :: st) s Q) : wr d M pc lv (.ref q :: st) s Q := fun g hg hc => by
  obtain ⟨l, h1, h2⟩ := tg_obj (Rp_tg hg ht)
  have h3 := Rp_sl hg ht hj
  rw [sl_obj h1] at h3
  have h3 : l[fi]? = some v := by rw [h3, ← hv]; rfl
  obtain ⟨gf, out, h4, h5⟩ := kk (Rp_rg hg ht hj) g hg hc
  exact ⟨gf, out, hm_bo_go (fun call => hs_get ho hx h1 h3) h4, h5⟩
theorem wr_put {cq : vw_C} (ho : (hm_Mi M)[pc]? = some (some (.putfield k, 3, 9, row))) (hx : (hm_Tf tb_T)[row]? = some (hm_Mo M, k, ci, fi)) (hcl : (hm_Tcl tb_T)[ci]? = some cq) (hfin : (cq.2.1 fi).2.2.2 = false) (hn : hm_Tro tb_T ≤ q) (ht : tb_TG q = some (.inr ci, n)) (hj : fi < n) (hv : rv (rk1 (tb_ty ci fi)) z = v) (hz : rg (tb_ty ci fi) z) (hfit : hm_fit (tb_ty ci fi) v = true) (kk : wr d M (pc + 3) lv st (up2 s.1 q fi z, s.2) Q) : wr d M pc lv (v :: .ref q :: st) s Q := fun g hg hc => by
  obtain ⟨l, h1, h2⟩ := tg_obj (Rp_tg hg ht)
  have h3 := Rp_set hg ht hj hz (tb_RO_hi hn)
  have h3 : rP (hset g.1 q fi v, g.2) (up2 s.1 q fi z) := by rw [← hv]; exact h3
  obtain ⟨gf, out, h4, h5⟩ := kk _ h3 hc
  rw [← hset_obj h1] at h4
  exact ⟨gf, out, hm_bo_go (fun call => hs_put ho hx hcl hfin hn h1 (by omega) hfit) h4, h5⟩
theorem nn_i (h0 : 0 ≤ a) (h1 : a ≤ 2147483647) : ¬ Int32.ofInt a < 0 := fun e => by
  rw [Int32.lt_iff_toInt_lt, i32_to (by omega) h1, i0] at e
  omega
theorem wr_ald (ho : (hm_Mi M)[pc]? = some (some (i, 1, 11, 0))) (ht : tb_TG q = some (.inl ty, n)) (hty : hm_aty i ty = true) (h0 : 0 ≤ a) (h1 : a < n) (hn : n ≤ 2147483647) (hv : rv (rk1 ty) (s.1 q a.toNat) = v) (kk : rg ty (s.1 q a.toNat) → wr d M (pc + 1) lv (v :: st) s Q) : wr d M pc lv (vi a :: .ref q :: st) s Q := fun g hg hc => by
  obtain ⟨l, g1, g2⟩ := tg_arr (Rp_tg hg ht)
  have hj : a.toNat < n := by omega
  have h3 := Rp_sl hg ht hj
  rw [sl_arr g1] at h3
  have h3 : l[(Int32.ofInt a).toNatClampNeg]? = some v := by rw [i32_nat h0 (by omega), h3, ← hv]; rfl
  obtain ⟨gf, out, h4, h5⟩ := kk (Rp_rg hg ht hj) g hg hc
  exact ⟨gf, out, hm_bo_go (fun call => hs_ald ho g1 hty (nn_i h0 (by omega)) h3) h4, h5⟩
theorem wr_alen (ho : (hm_Mi M)[pc]? = some (some (.arraylength, 1, 11, 2))) (ht : tb_TG q = some (.inl ty, n)) (kk : wr d M (pc + 1) lv (.int (Int32.ofNat n) :: st) s Q) : wr d M pc lv (.ref q :: st) s Q := fun g hg hc => by
  obtain ⟨l, g1, g2⟩ := tg_arr (Rp_tg hg ht)
  subst g2
  obtain ⟨gf, out, h4, h5⟩ := kk g hg hc
  exact ⟨gf, out, hm_bo_go (fun call => hs_alen ho g1) h4, h5⟩
theorem wr_ast (ho : (hm_Mi M)[pc]? = some (some (i, 1, 11, 1))) (hro : hm_Tro tb_T ≤ q) (ht : tb_TG q = some (.inl ty, n)) (hty : hm_aty2 i ty = true) (h0 : 0 ≤ a) (h1 : a < n) (hn : n ≤ 2147483647) (hw : hm_stv i v = some (rv (rk1 ty) z)) (hz : rg ty z) (kk : wr d M (pc + 1) lv st (up2 s.1 q a.toNat z, s.2) Q) : wr d M pc lv (v :: vi a :: .ref q :: st) s Q := fun g hg hc => by
  obtain ⟨l, g1, g2⟩ := tg_arr (Rp_tg hg ht)
  have hj : a.toNat < n := by omega
  have h3 : rP (hset g.1 q a.toNat (rv (rk1 ty) z), g.2) (up2 s.1 q a.toNat z) := Rp_set hg ht hj hz (tb_RO_hi hro)
  obtain ⟨gf, out, h4, h5⟩ := kk _ h3 hc
  rw [← hset_arr g1, ← i32_nat h0 (by omega)] at h4
  exact ⟨gf, out, hm_bo_go (fun call => hs_ast ho hro g1 hty (nn_i h0 (by omega)) (by rw [i32_nat h0 (by omega), g2]; exact hj) hw) h4, h5⟩
theorem wr_if1t {c : ClassFile.Cond} {off : Int} {t : Nat} (ho : (hm_Mi M)[pc]? = some (some (.ifCond c off, 3, 7, row))) (ht : hm_tg pc off = some t) (ha : i32 a) (hb : cmpI c a 0) (kk : wr d M t lv st s Q) : wr d M pc lv (vi a :: st) s Q := wr_go (fun call g => hs_if1 (b := true) ho ht ((c1_I ha).mpr hb)) kk
theorem wr_if1f {c : ClassFile.Cond} {off : Int} {t : Nat} (ho : (hm_Mi M)[pc]? = some (some (.ifCond c off, 3, 7, row))) (ht : hm_tg pc off = some t) (ha : i32 a) (hb : ¬ cmpI c a 0) (kk : wr d M (pc + 3) lv st s Q) : wr d M pc lv (vi a :: st) s Q := wr_go (fun call g => hs_if1 (b := false) ho ht (Bool.eq_false_iff.mpr fun e => hb ((c1_I ha).mp e))) kk
theorem wr_if2t {c : ClassFile.Cond} {off : Int} {t : Nat} (ho : (hm_Mi M)[pc]? = some (some (.if_icmp c off, 3, 7, row))) (ht : hm_tg pc off = some t) (ha : i32 a) (hb : i32 b) (hc : cmpI c a b) (kk : wr d M t lv st s Q) : wr d M pc lv (vi b :: vi a :: st) s Q := wr_go (fun call g => hs_if2 (b := true) ho ht ((c2_I ha hb).mpr hc)) kk
theorem wr_if2f {c : ClassFile.Cond} {off : Int} {t : Nat} (ho : (hm_Mi M)[pc]? = some (some (.if_icmp c off, 3, 7, row))) (ht : hm_tg pc off = some t) (ha : i32 a) (hb : i32 b) (hc : ¬ cmpI c a b) (kk : wr d M (pc + 3) lv st s Q) : wr d M pc lv (vi b :: vi a :: st) s Q := wr_go (fun call g => hs_if2 (b := false) ho ht (Bool.eq_false_iff.mpr fun e => hc ((c2_I ha hb).mp e))) kk
theorem wr_call1 {ix im na : Nat} (ho : (hm_Mi M)[pc]? = some (some (.invokevirtual ix, 3, 14, row))) (hx : (hm_Tc tb_T)[row]? = some (hm_Mo M, ix, 1, im, na, ci)) (ha : args.length = na) (hb : tb_TG q = some (.inr ci, n)) (hs : (rest.map fun v => v.category).sum ≤ 8) (he : cr d im (.ref q :: args) s fun s2 out => ∃ ob, out = some ob ∧ wr d M (pc + 3) lv (ob.toList ++ rest) s2 Q) : wr d M pc lv (args.reverse ++ .ref q :: rest) s Q := fun g hg hc => by
  obtain ⟨l, h1, h2⟩ := tg_obj (Rp_tg hg hb)
  obtain ⟨g2, out, e1, s2, e2, e3, ob, rfl, e4⟩ := he g hg hc
  obtain ⟨gf, o2, e5, e6⟩ := e4 g2 e2 e3
  exact ⟨gf, o2, hs_bo e1 (fun call hc => hs_call1 ho hx ha h1 hs hc) e5, e6⟩
theorem wr_call0 {ix im na : Nat} (ho : (hm_Mi M)[pc]? = some (some (.invokestatic ix, 3, 14, row))) (hx : (hm_Tc tb_T)[row]? = some (hm_Mo M, ix, 0, im, na, ci)) (ha : args.length = na) (hs : (rest.map fun v => v.category).sum ≤ 8) (he : cr d im args s fun s2 out => ∃ ob, out = some ob ∧ wr d M (pc + 3) lv (ob.toList ++ rest) s2 Q) : wr d M pc lv (args.reverse ++ rest) s Q := fun g hg hc => by
  obtain ⟨g2, out, e1, s2, e2, e3, ob, rfl, e4⟩ := he g hg hc
  obtain ⟨gf, o2, e5, e6⟩ := e4 g2 e2 e3
  exact ⟨gf, o2, hs_bo e1 (fun call hc => hs_call0 ho hx ha hs hc) e5, e6⟩
theorem wr_add (ho : (hm_Mi M)[pc]? = some (some (.iadd, 1, 3, row))) (kk : wr d M (pc + 1) lv (vi (a + b) :: st) s Q) : wr d M pc lv (vi b :: vi a :: st) s Q := wr_go (fun call g => by rw [hs_of ho]; show some (Sum.inl (pc + 1, lv, Value.int (Int32.ofInt a + Int32.ofInt b) :: st, g)) = _; rw [i32_add]) kk
theorem wr_sub (ho : (hm_Mi M)[pc]? = some (some (.isub, 1, 3, row))) (kk : wr d M (pc + 1) lv (vi (a - b) :: st) s Q) : wr d M pc lv (vi b :: vi a :: st) s Q := wr_go (fun call g => by rw [hs_of ho]; show some (Sum.inl (pc + 1, lv, Value.int (Int32.ofInt a - Int32.ofInt b) :: st, g)) = _; rw [i32_sub]) kk
theorem wr_mul (ho : (hm_Mi M)[pc]? = some (some (.imul, 1, 3, row))) (kk : wr d M (pc + 1) lv (vi (a * b) :: st) s Q) : wr d M pc lv (vi b :: vi a :: st) s Q := wr_go (fun call g => by rw [hs_of ho]; show some (Sum.inl (pc + 1, lv, Value.int (Int32.ofInt a * Int32.ofInt b) :: st, g)) = _; rw [i32_mul]) kk
/-- any instruction on two ints: some int -/
theorem wr_any2 {f : Int32 → Int32 → Int32} (ho : (hm_Mi M)[pc]? = some (some (i, 1, 3, row))) (hf : hm_b2 i = some f) (kk : ∀ z, i32 z → wr d M (pc + 1) lv (vi z :: st) s Q) : wr d M pc lv (.int y :: .int x :: st) s Q := by
  obtain ⟨z, hz, h1, h2⟩ := i32_of (f x y)
  refine wr_go (fun call g => ?_) (kk z ⟨h1, h2⟩)
  rw [hs_of ho]
  show hm_pu 1 g (hm_gA i pc lv _) = _
  simp [hm_gA, hf, hm_pu, hz]
end WR
