/-! What holds of every end: rules that owe no end. -/
/-- every run of at most N steps from there that ends, ends as Q says -/
def pr (N K d : Nat) (M : hm_M) (pc : Nat) (lv : List (Nat × Value)) (st : List Value) (s : rS) (Q : rS → hm_Out → Prop) : Prop := ∀ n, n ≤ N → ∀ g gf out, rP g s.1 → g.2 = s.2 → hm_run tb_T (hm_call tb_T tb_pg K d) M n (pc, lv, st, g) = some (gf, out) → ∃ s2 : rS, rP gf s2.1 ∧ gf.2 = s2.2 ∧ Q s2 out
def pcr (K d i : Nat) (vs : List Value) (s : rS) (Q : rS → hm_Out → Prop) : Prop := ∀ g gf out, rP g s.1 → g.2 = s.2 → hm_call tb_T tb_pg K d i vs g = some (gf, out) → ∃ s2 : rS, rP gf s2.1 ∧ gf.2 = s2.2 ∧ Q s2 out
section RUNX
variable {G : hm_T} {call : Nat → List Value → hm_G → Option (hm_G × hm_Out)} {M : hm_M} {S S2 : hm_S} {r q : hm_G × hm_Out} {n : Nat}
theorem run_inl (h : hm_run G call M n S = some r) (hs : hm_step G call M S = some (.inl S2)) : ∃ m, m < n ∧ hm_run G call M m S2 = some r := by
  cases n with
  | zero => unfold hm_run at h; cases h
  | succ n =>
    unfold hm_run at h
    rw [hs] at h
    exact ⟨n, by omega, h⟩
theorem run_inr (h : hm_run G call M n S = some r) (hs : hm_step G call M S = some (.inr q)) : q = r := by
  cases n with
  | zero => unfold hm_run at h; cases h
  | succ n =>
    unfold hm_run at h
    rw [hs] at h
    exact Option.some.inj h
theorem run_none (h : hm_run G call M n S = some r) (hs : hm_step G call M S = none) : False := by
  cases n with
  | zero => unfold hm_run at h; cases h
  | succ n =>
    unfold hm_run at h
    rw [hs] at h
    cases h
theorem run_go : ∀ (k n : Nat) (S S2 : hm_S), hm_go_n G call M k S = some S2 → hm_run G call M n S = some r → ∃ m, m ≤ n ∧ hm_run G call M m S2 = some r
  | 0, n, S, S2, h, h2 => by
    unfold hm_go_n at h
    cases h
    exact ⟨n, Nat.le_refl _, h2⟩
  | k + 1, n, S, S2, h, h2 => by
    unfold hm_go_n at h
    cases hs : hm_step G call M S with
    | none => rw [hs] at h; cases h
    | some x =>
      rw [hs] at h
      cases x with
      | inr y => cases h
      | inl S3 =>
        obtain ⟨m, m1, m2⟩ := run_inl h2 hs
        obtain ⟨j, j1, j2⟩ := run_go k m S3 S2 h m2
        exact ⟨j, by omega, j2⟩
end RUNX
section PR
variable {M : hm_M} {N K pc row k ci fi q d n : Nat} {lv : List (Nat × Value)} {st rest args : List Value} {s : rS} {v w : Value} {i : Instr} {x y : Int32} {Q Q2 : rS → hm_Out → Prop} {ty : FieldType} {a b z : Int}
theorem pr_mono (h : pr N K d M pc lv st s Q) (hq : ∀ s2 out, Q s2 out → Q2 s2 out) : pr N K d M pc lv st s Q2 := fun n hn g gf out hg hc hr => by
  obtain ⟨s2, h1, h2, h3⟩ := h n hn g gf out hg hc hr
  exact ⟨s2, h1, h2, hq _ _ h3⟩
theorem pcr_mono {i : Nat} {vs : List Value} (h : pcr K d i vs s Q) (hq : ∀ s2 out, Q s2 out → Q2 s2 out) : pcr K d i vs s Q2 := fun g gf out hg hc hr => by
  obtain ⟨s2, h1, h2, h3⟩ := h g gf out hg hc hr
  exact ⟨s2, h1, h2, hq _ _ h3⟩
theorem pcr_of {i : Nat} {vs : List Value} (hp : tb_pg[i]? = some M) (h : pr K K d M 0 (lv_args 0 vs) [] s Q) : pcr K (d + 1) i vs s Q := fun g gf out hg hc hr => by
  unfold hm_call at hr
  rw [hp] at hr
  dsimp only at hr
  split at hr
  · exact h K (Nat.le_refl _) g gf out hg hc hr
  · cases hr
/-- an end that is known to be, and what holds of every end -/
theorem cr_pcr {i : Nat} {vs : List Value} (h : cr d i vs s Q) (h2 : ∀ K, pcr K d i vs s Q2) : cr d i vs s (fun s2 out => Q s2 out ∧ ∃ s3 : rS, s3.2 = s2.2 ∧ Q2 s3 out ∧ ∃ g, rP g s2.1 ∧ rP g s3.1) := fun g hg hc => by
  obtain ⟨gf, out, ⟨K, e1⟩, s2, e2, e3, e4⟩ := h g hg hc
  obtain ⟨s3, f1, f2, f3⟩ := h2 K g gf out hg hc e1
  exact ⟨gf, out, ⟨K, e1⟩, s2, e2, e3, e4, s3, by rw [← f2, ← e3], f3, gf, e2, f1⟩
/-- an end that is known is the only one -/
theorem pcr_cr {d2 i : Nat} {vs : List Value} (h : cr d i vs s Q) : pcr K d2 i vs s Q := fun g gf out hg hc hr => by
  obtain ⟨gf2, out2, e1, s2, e2, e3, e4⟩ := h g hg hc
  obtain ⟨K1, k1⟩ := hm_ev_up (Nat.le_max_left d d2) e1
  obtain ⟨K2, k2⟩ := hm_ev_up (Nat.le_max_right d d2) (show hm_ev tb_T tb_pg d2 i vs g gf out from ⟨K, hr⟩)
  have c1 := hm_call_ext (Nat.le_max_left K1 K2) _ _ _ _ _ k1
  have c2 := hm_call_ext (Nat.le_max_right K1 K2) _ _ _ _ _ k2
  rw [c1] at c2
  cases c2
  exact ⟨s2, e2, e3, e4⟩
theorem pr_n {pc2 : Nat} {lv2 : List (Nat × Value)} {st2 : List Value} (k : Nat) (h : ∀ call g, hm_go_n tb_T call M k (pc, lv, st, g) = some (pc2, lv2, st2, g)) (kk : pr N K d M pc2 lv2 st2 s Q) : pr N K d M pc lv st s Q := fun n hn g gf out hg hc hr => by
  obtain ⟨m, m1, m2⟩ := run_go k n _ _ (h _ g) hr
  exact kk m (by omega) g gf out hg hc m2
theorem pr_go {pc2 : Nat} {lv2 : List (Nat × Value)} {st2 : List Value} (h : ∀ call g, hm_step tb_T call M (pc, lv, st, g) = some (.inl (pc2, lv2, st2, g))) (kk : pr N K d M pc2 lv2 st2 s Q) : pr N K d M pc lv st s Q := fun n hn g gf out hg hc hr => by
  obtain ⟨m, m1, m2⟩ := run_inl hr (h _ g)
  exact kk m (by omega) g gf out hg hc m2
/-- the head of a loop: fewer steps are left behind its first -/
theorem pr_lt {pc2 : Nat} {lv2 : List (Nat × Value)} {st2 : List Value} (h : ∀ call g, hm_step tb_T call M (pc, lv, st, g) = some (.inl (pc2, lv2, st2, g))) (kk : ∀ N2, N2 < N → pr N2 K d M pc2 lv2 st2 s Q) : pr N K d M pc lv st s Q := fun n hn g gf out hg hc hr => by
  obtain ⟨m, m1, m2⟩ := run_inl hr (h _ g)
  exact kk m (by omega) m (Nat.le_refl _) g gf out hg hc m2
theorem pr_end {ob : Option Value} (h : ∀ call g, hm_step tb_T call M (pc, lv, st, g) = some (.inr (g, some ob))) (hq : Q s (some ob)) : pr N K d M pc lv st s Q := fun n hn g gf out hg hc hr => by
  have := run_inr hr (h _ g)
  cases this
  exact ⟨s, hg, hc, hq⟩
theorem pr_throw (h : ∀ call g, hm_step tb_T call M (pc, lv, st, g) = some (.inr ((g.1, g.2.1 + 1, g.2.2 + 6), none))) (hq : Q (s.1, s.2.1 + 1, s.2.2 + 6) none) : pr N K d M pc lv st s Q := fun n hn g gf out hg hc hr => by
  have := run_inr hr (h _ g)
  cases this
  exact ⟨(s.1, s.2.1 + 1, s.2.2 + 6), hg, by rw [hc], hq⟩
theorem pr_get (ho : (hm_Mi M)[pc]? = some (some (.getfield k, 3, 9, row))) (hx : (hm_Tf tb_T)[row]? = some (hm_Mo M, k, ci, fi)) (ht : tb_TG q = some (.inr ci, n)) (hj : fi < n) (hv : rv (rk1 (tb_ty ci fi)) (s.1 q fi) = v) (kk : rg (tb_ty ci fi) (s.1 q fi) → pr N K d M (pc + 3) lv (v :: st) s Q) : pr N K d M pc lv (.ref q :: st) s Q := fun m hm g gf out hg hc hr => by
  obtain ⟨l, h1, h2⟩ := tg_obj (Rp_tg hg ht)
  have h3 := Rp_sl hg ht hj
  rw [sl_obj h1] at h3
  have h3 : l[fi]? = some v := by rw [h3, ← hv]; rfl
  obtain ⟨j, j1, j2⟩ := run_inl hr (hs_get ho hx h1 h3)
  exact kk (Rp_rg hg ht hj) j (by omega) g gf out hg hc j2
theorem pr_put {cq : vw_C} (ho : (hm_Mi M)[pc]? = some (some (.putfield k, 3, 9, row))) (hx : (hm_Tf tb_T)[row]? = some (hm_Mo M, k, ci, fi)) (hcl : (hm_Tcl tb_T)[ci]? = some cq) (hfin : (cq.2.1 fi).2.2.2 = false) (hn : hm_Tro tb_T ≤ q) (ht : tb_TG q = some (.inr ci, n)) (hj : fi < n) (hv : rv (rk1 (tb_ty ci fi)) z = v) (hz : rg (tb_ty ci fi) z) (hfit : hm_fit (tb_ty ci fi) v = true) (kk : pr N K d M (pc + 3) lv st (up2 s.1 q fi z, s.2) Q) : pr N K d M pc lv (v :: .ref q :: st) s Q := fun m hm g gf out hg hc hr => by
  obtain ⟨l, h1, h2⟩ := tg_obj (Rp_tg hg ht)
  have h3 := Rp_set hg ht hj hz (tb_RO_hi hn)
  have h3 : rP (hset g.1 q fi v, g.2) (up2 s.1 q fi z) := by rw [← hv]; exact h3
  obtain ⟨j, j1, j2⟩ := run_inl hr (hs_put ho hx hcl hfin hn h1 (by omega) hfit)
  rw [hset_obj h1] at j2
  exact kk j (by omega) _ gf out h3 hc j2
theorem pr_ald (ho : (hm_Mi M)[pc]? = some (some (i, 1, 11, 0))) (ht : tb_TG q = some (.inl ty, n)) (hty : hm_aty i ty = true) (ha : i32 a) (hn : n ≤ 2147483647) (hv : rv (rk1 ty) (s.1 q a.toNat) = v) (kk : 0 ≤ a → a < n → rg ty (s.1 q a.toNat) → pr N K d M (pc + 1) lv (v :: st) s Q) : pr N K d M pc lv (vi a :: .ref q :: st) s Q := fun m hm g gf out hg hc hr => by
  obtain ⟨l, g1, g2⟩ := tg_arr (Rp_tg hg ht)
  by_cases h0 : 0 ≤ a
  · by_cases h1 : a < n
    · have hj : a.toNat < n := by omega
      have h3 := Rp_sl hg ht hj
      rw [sl_arr g1] at h3
      have h3 : l[(Int32.ofInt a).toNatClampNeg]? = some v := by rw [i32_nat h0 (by omega), h3, ← hv]; rfl
      obtain ⟨j, j1, j2⟩ := run_inl hr (hs_ald ho g1 hty (nn_i h0 (by omega)) h3)
      exact kk h0 h1 (Rp_rg hg ht hj) j (by omega) g gf out hg hc j2
    · refine absurd (run_none hr ?_) id
      rw [hs_of ho]
      show (hm_ald g.1 i (vi a :: .ref q :: st)).map _ = none
      unfold hm_ald
      simp only [g1]
      rw [if_pos ⟨hty, nn_i h0 ha.2⟩, List.getElem?_eq_none (by rw [i32_nat h0 ha.2]; omega)]
      rfl
  · refine absurd (run_none hr ?_) id
    rw [hs_of ho]
    show (hm_ald g.1 i (vi a :: .ref q :: st)).map _ = none
    unfold hm_ald
    simp only [g1]
    rw [if_neg (fun e => e.2 (by rw [Int32.lt_iff_toInt_lt, i32_to ha.1 ha.2, i0]; omega))]
    rfl
theorem pr_ast (ho : (hm_Mi M)[pc]? = some (some (i, 1, 11, 1))) (hro : hm_Tro tb_T ≤ q) (ht : tb_TG q = some (.inl ty, n)) (hty : hm_aty2 i ty = true) (ha : i32 a) (hn : n ≤ 2147483647) (hw : hm_stv i v = some (rv (rk1 ty) z)) (hz : rg ty z) (kk : 0 ≤ a → a < n → pr N K d M (pc + 1) lv st (up2 s.1 q a.toNat z, s.2) Q) : pr N K d M pc lv (v :: vi a :: .ref q :: st) s Q := fun m hm g gf out hg hc hr => by
  obtain ⟨l, g1, g2⟩ := tg_arr (Rp_tg hg ht)
  by_cases h : 0 ≤ a ∧ a < n
  · have hj : a.toNat < n := by omega
    have h3 : rP (hset g.1 q a.toNat (rv (rk1 ty) z), g.2) (up2 s.1 q a.toNat z) := Rp_set hg ht hj hz (tb_RO_hi hro)
    obtain ⟨j, j1, j2⟩ := run_inl hr (hs_ast ho hro g1 hty (nn_i h.1 (by omega)) (by rw [i32_nat h.1 (by omega), g2]; exact hj) hw)
    rw [i32_nat h.1 (by omega), hset_arr g1] at j2
    exact kk h.1 h.2 j (by omega) _ gf out h3 hc j2
  · refine absurd (run_none hr ?_) id
    rw [hs_of ho]
    show (hm_ast 96 g.1 i (v :: vi a :: .ref q :: st)).map _ = none
    unfold hm_ast
    have hro2 : 96 ≤ q := hro
    simp only [g1, if_pos hro2]
    rw [if_neg (fun e => h ?_)]
    · rfl
    · have e1 : ¬ a < 0 := fun e9 => e.2.1 (by rw [Int32.lt_iff_toInt_lt, i32_to ha.1 ha.2, i0]; omega)
      have e2 := e.2.2
      rw [i32_nat (by omega) ha.2, g2] at e2
      omega
theorem pr_if1t {c : ClassFile.Cond} {off : Int} {t : Nat} (ho : (hm_Mi M)[pc]? = some (some (.ifCond c off, 3, 7, row))) (ht : hm_tg pc off = some t) (ha : i32 a) (hb : cmpI c a 0) (kk : pr N K d M t lv st s Q) : pr N K d M pc lv (vi a :: st) s Q := pr_go (fun call g => hs_if1 (b := true) ho ht ((c1_I ha).mpr hb)) kk
theorem pr_if1f {c : ClassFile.Cond} {off : Int} {t : Nat} (ho : (hm_Mi M)[pc]? = some (some (.ifCond c off, 3, 7, row))) (ht : hm_tg pc off = some t) (ha : i32 a) (hb : ¬ cmpI c a 0) (kk : pr N K d M (pc + 3) lv st s Q) : pr N K d M pc lv (vi a :: st) s Q := pr_go (fun call g => hs_if1 (b := false) ho ht (Bool.eq_false_iff.mpr fun e => hb ((c1_I ha).mp e))) kk
theorem pr_if2t {c : ClassFile.Cond} {off : Int} {t : Nat} (ho : (hm_Mi M)[pc]? = some (some (.if_icmp c off, 3, 7, row))) (ht : hm_tg pc off = some t) (ha : i32 a) (hb : i32 b) (hc : cmpI c a b) (kk : pr N K d M t lv st s Q) : pr N K d M pc lv (vi b :: vi a :: st) s Q := pr_go (fun call g => hs_if2 (b := true) ho ht ((c2_I ha hb).mpr hc)) kk
theorem pr_if2f {c : ClassFile.Cond} {off : Int} {t : Nat} (ho : (hm_Mi M)[pc]? = some (some (.if_icmp c off, 3, 7, row))) (ht : hm_tg pc off = some t) (ha : i32 a) (hb : i32 b) (hc : ¬ cmpI c a b) (kk : pr N K d M (pc + 3) lv st s Q) : pr N K d M pc lv (vi b :: vi a :: st) s Q := pr_go (fun call g => hs_if2 (b := false) ho ht (Bool.eq_false_iff.mpr fun e => hc ((c2_I ha hb).mp e))) kk
/-- a call: what its ends are; it may throw -/
theorem pr_call1 {ix im na : Nat} (ho : (hm_Mi M)[pc]? = some (some (.invokevirtual ix, 3, 14, row))) (hx : (hm_Tc tb_T)[row]? = some (hm_Mo M, ix, 1, im, na, ci)) (ha : args.length = na) (hb : tb_TG q = some (.inr ci, n)) (hs : (rest.map fun v => v.category).sum ≤ 8) (hh : hm_Mh M = []) (he : pcr K d im (.ref q :: args) s fun s2 out => (∀ ob, out = some ob → pr N K d M (pc + 3) lv (ob.toList ++ rest) s2 Q) ∧ (out = none → Q s2 none)) : pr N K d M pc lv (args.reverse ++ .ref q :: rest) s Q := fun m hm g gf out hg hc hr => by
  obtain ⟨l, h1, h2⟩ := tg_obj (Rp_tg hg hb)
  have hst := hs_call1b (G := tb_T) (g := g) (call := hm_call tb_T tb_pg K d) (lv := lv) (rest := rest) ho hx ha h1 hs
  cases hcl : hm_call tb_T tb_pg K d im (.ref q :: args) g with
  | none => rw [hcl] at hst; exact absurd (run_none hr hst) id
  | some r =>
    obtain ⟨g2, o2⟩ := r
    obtain ⟨s2, e2, e3, e4, e5⟩ := he g g2 o2 hg hc hcl
    rw [hcl] at hst
    cases o2 with
    | some ob =>
      obtain ⟨j, j1, j2⟩ := run_inl hr hst
      exact e4 ob rfl j (by omega) g2 gf out e2 e3 j2
    | none =>
      unfold hm_back at hst
      dsimp only at hst
      rw [hh] at hst
      have := run_inr hr hst
      cases this
      exact ⟨s2, e2, e3, e5 rfl⟩
theorem pr_add (ho : (hm_Mi M)[pc]? = some (some (.iadd, 1, 3, row))) (kk : pr N K d M (pc + 1) lv (vi (a + b) :: st) s Q) : pr N K d M pc lv (vi b :: vi a :: st) s Q := pr_go (fun call g => by rw [hs_of ho]; show some (Sum.inl (pc + 1, lv, Value.int (Int32.ofInt a + Int32.ofInt b) :: st, g)) = _; rw [i32_add]) kk
theorem pr_sub (ho : (hm_Mi M)[pc]? = some (some (.isub, 1, 3, row))) (kk : pr N K d M (pc + 1) lv (vi (a - b) :: st) s Q) : pr N K d M pc lv (vi b :: vi a :: st) s Q := pr_go (fun call g => by rw [hs_of ho]; show some (Sum.inl (pc + 1, lv, Value.int (Int32.ofInt a - Int32.ofInt b) :: st, g)) = _; rw [i32_sub]) kk
theorem pr_mul (ho : (hm_Mi M)[pc]? = some (some (.imul, 1, 3, row))) (kk : pr N K d M (pc + 1) lv (vi (a * b) :: st) s Q) : pr N K d M pc lv (vi b :: vi a :: st) s Q := pr_go (fun call g => by rw [hs_of ho]; show some (Sum.inl (pc + 1, lv, Value.int (Int32.ofInt a * Int32.ofInt b) :: st, g)) = _; rw [i32_mul]) kk
theorem pr_inc {c : Int} (ho : (hm_Mi M)[pc]? = some (some (.iinc k c, 3, 6, row))) (hv : hm_at k lv = some (vi a)) (kk : pr N K d M (pc + 3) (hm_st1 lv k (vi (a + c))) st s Q) : pr N K d M pc lv st s Q := pr_go (fun call g => by
  rw [hs_of ho]
  show hm_pu 3 g (hm_gD (.iinc k c) pc lv st) = _
  simp only [hm_gD, hv, hm_pu, if_true]
  rw [i32_add]) kk
theorem pr_any2 {f : Int32 → Int32 → Int32} (ho : (hm_Mi M)[pc]? = some (some (i, 1, 3, row))) (hf : hm_b2 i = some f) (kk : ∀ z, i32 z → pr N K d M (pc + 1) lv (vi z :: st) s Q) : pr N K d M pc lv (.int y :: .int x :: st) s Q := by
  obtain ⟨z, hz, h1, h2⟩ := i32_of (f x y)
  refine pr_go (fun call g => ?_) (kk z ⟨h1, h2⟩)
  rw [hs_of ho]
  show hm_pu 1 g (hm_gA i pc lv _) = _
  simp [hm_gA, hf, hm_pu, hz]
end PR
