/-- the things at the start: the script, the static row, the texts (each an object and its bytes) -/
def tb_str (n : Nat) : List (String × Nat × String × List Int32) → hm_H
  | [] => []
  | t :: l => .inr (.inr ("java/lang/String", [("java/lang/String", "value", "[B", .ref (n + 1)), ("java/lang/String", "coder", "B", .int 0)])) :: .inl (.byte, t.2.2.2.map .int) :: tb_str (n + 2) l
def tb_ro (xs : List Int32) : hm_H := .inl (.int, xs.map .int) :: .inl (.int, tb_lim.map .int) :: tb_str 2 tb_tx
theorem tb_str_at : ∀ (l : List (String × Nat × String × List Int32)) (n i : Nat), (tb_str n l)[2 * i]? = (l[i]?).map (fun _ => .inr (.inr ("java/lang/String", [("java/lang/String", "value", "[B", .ref (n + 2 * i + 1)), ("java/lang/String", "coder", "B", .int 0)]))) ∧ (tb_str n l)[2 * i + 1]? = (l[i]?).map (fun t => .inl (.byte, t.2.2.2.map .int))
  | [], n, i => by simp [tb_str]
  | t :: l, n, 0 => by simp [tb_str]
  | t :: l, n, i + 1 => by
    have h := tb_str_at l (n + 2) i
    have e : 2 * (i + 1) = 2 * i + 1 + 1 := by omega
    have e2 : n + 2 * (i + 1) + 1 = n + 2 + 2 * i + 1 := by omega
    rw [e2, e]
    unfold tb_str
    simp only [List.getElem?_cons_succ]
    exact h
theorem tb_str_len : ∀ (l : List (String × Nat × String × List Int32)) (n : Nat), (tb_str n l).length = 2 * l.length
  | [], n => rfl
  | t :: l, n => by
    unfold tb_str
    simp only [List.length_cons, tb_str_len l (n + 2)]
    omega
theorem hm_two : ∀ (l : List (Nat × Nat)) (i : Nat), (l.flatMap fun q => [q.1, q.2])[2 * i]? = (l[i]?).map (fun q => q.1) ∧ (l.flatMap fun q => [q.1, q.2])[2 * i + 1]? = (l[i]?).map (fun q => q.2)
  | [], i => by simp
  | q :: l, 0 => by simp
  | q :: l, i + 1 => by
    have h := hm_two l i
    have e : 2 * (i + 1) = 2 * i + 1 + 1 := by omega
    rw [e, List.flatMap_cons]
    simp only [List.cons_append, List.nil_append, List.getElem?_cons_succ]
    exact h
theorem hm_two_len : ∀ (l : List (Nat × Nat)), (l.flatMap fun q => [q.1, q.2]).length = 2 * l.length
  | [] => rfl
  | q :: l => by
    rw [List.flatMap_cons, List.length_append, hm_two_len l]
    simp
    omega
theorem hm_choose {α : Type} {F : α → Nat → Nat → Prop} : ∀ (l : List α), (∀ (i : Nat) (t : α), l[i]? = some t → ∃ a b, F t a b) → ∃ ads : List (Nat × Nat), ads.length = l.length ∧ ∀ (i : Nat) (t : α), l[i]? = some t → ∃ q, ads[i]? = some q ∧ F t q.1 q.2
  | [], _ => ⟨[], rfl, fun i t h => by simp at h⟩
  | t :: l, h => by
    obtain ⟨a, b, h0⟩ := h 0 t rfl
    obtain ⟨ads, h1, h2⟩ := hm_choose l (fun i t ht => h (i + 1) t (by simpa using ht))
    refine ⟨(a, b) :: ads, by simp [h1], fun i t9 ht => ?_⟩
    cases i with
    | zero => simp at ht; subst ht; exact ⟨(a, b), rfl, h0⟩
    | succ i => exact by simpa using h2 i t9 (by simpa using ht)
/-- what stands at the places of a text -/
def tb_FF (s : State) (b : Nat) (t : String × Nat × String × List Int32) (aK aV : Nat) : Prop :=
  (tb_tm t).eval #[Value.ref b] s none [] s = some (.ref aK) ∧ va_O "java/lang/String" aK (fun q => s.heap.size ≤ q) s s.heap ∧ va_OF "java/lang/String" "coder" "B" (.int 0) aK (fun q => s.heap.size ≤ q) s s.heap ∧ va_OF "java/lang/String" "value" "[B" (.ref aV) aK (fun q => s.heap.size ≤ q) s s.heap ∧ va_T .byte aV t.2.2.2.length (fun j => .int (t.2.2.2.getD j 0)) (fun q => s.heap.size ≤ q) s s.heap
theorem hm_cell_T {D : va_G} {cl : List vw_C} {as : List Nat} {s : State} {A : Nat → Prop} {ty : FieldType} {a : Nat} {l : List Int32} (hty : ∀ C, ty ≠ .object C) (h : va_T ty a l.length (fun j => .int (l.getD j 0)) A s s.heap) : hm_cell D cl as s s.heap a (.inl (ty, l.map .int)) := by
  obtain ⟨ce, h1, h2, h3, h4, h5, h6, -⟩ := h
  refine ⟨ce, h1, h2, fun C hC => absurd hC (hty C), h3, by simpa using h4, by simpa using h5, fun j v hv => ?_⟩
  have hv : (l.map Value.int)[j]? = some v := hv
  have hj : j < l.length := by have := (List.getElem?_eq_some_iff.mp hv).1; simpa using this
  rw [List.getElem?_map, List.getElem?_eq_getElem hj] at hv
  cases hv
  refine ⟨.int l[j], ?_, rfl⟩
  rw [h6 j hj]
  show some (Value.int (l.getD j 0)) = _
  rw [List.getD_eq_getElem?_getD, List.getElem?_eq_getElem hj]
  rfl
theorem tb_Sok : (hm_Ts tb_T).all (fun x => match tb_tx[(x.2.2.2 - 2) / 2]? with
  | some t => decide (tb_cn[x.1]? = some t.1 ∧ x.2.1 = t.2.1 ∧ x.2.2.1 = t.2.2.1 ∧ x.2.2.2 = 2 + 2 * ((x.2.2.2 - 2) / 2))
  | none => false) = true := by decide +kernel
theorem tb_start {s : State} {b : Nat} {xs : List Int32} (hts : ∀ w ∈ lw_tbl, w.before #[Value.ref b] s = true) (hgv : (Jvm.Cond.and given_1 narrow_1).before #[Value.ref b] s = true) (hX : va_X b xs.length (fun j => xs.getD j 0) s s.heap) (hbl : b < s.heap.size) :
    ∃ (D : va_G) (as0 : List Nat), as0[0]? = some b ∧ hm_W D tb_cl s.heap.size (hm_Tro tb_T) as0 s s.heap (tb_ro xs) ∧ hm_env tb_T tb_cn tb_nw D s.heap.size as0 s s.heap := by
  have hA : ∀ a : Nat, a < s.heap.size → ¬ (fun q => s.heap.size ≤ q) a := fun a h => Nat.not_le.mpr h
  have hfl : ∀ c ∈ tb_fl, c.before #[Value.ref b] s = true := flat_of_before _ hgv
  have hT2 : ∀ w ∈ tb_Ts, w.before #[Value.ref b] s = true := fun w hw => hts w (List.mem_filter.mp hw).1
  -- classes
  have hk0 : ∀ k : Nat, ∃ r : ClassId × (Nat → Nat), ∀ q : vw_C, tb_cl[k]? = some q → u_Kn s q.1 q.2.1 q.2.2 r.1 r.2 := by
    intro k
    cases hq : tb_cl[k]? with
    | none => exact ⟨(0, fun _ => 0), fun q h => by cases h⟩
    | some q =>
      obtain ⟨cC, iS, h⟩ := u_known (C := q.1) (T := q.2.1) (N := q.2.2) hT2 (tb_cls k q hq).1 (hT2 _ (tb_inst k q hq))
      exact ⟨(cC, iS), fun q9 h9 => by cases h9; exact h⟩
  obtain ⟨DD, hDD⟩ := Classical.axiomOfChoice hk0
  -- the static row
  obtain ⟨tL, ht1, ht2⟩ := va_Tof (f := fun j => .int (tb_lim.getD j 0)) (N := tb_lim.length) (by decide) (hfl _ tb_f3.1) (va_eqt (hfl _ tb_f3.2)) (fun j hj => va_eqt (hfl _ (tb_f4 j hj))) hA
  -- the texts
  have htx : ∀ (i : Nat) (t : String × Nat × String × List Int32), tb_tx[i]? = some t → ∃ a c, tb_FF s b t a c := by
    intro i t ht
    have hlt := (List.getElem?_eq_some_iff.mp ht).1
    have h := List.all_eq_true.mp tb_toks i (List.mem_range.mpr hlt)
    simp only [ht, tb_tok, Bool.and_eq_true, decide_eq_true_eq] at h
    obtain ⟨⟨⟨⟨⟨h1, h2⟩, h3⟩, h4⟩, h5⟩, h6⟩ := h
    obtain ⟨a, c, cA, kA, q1, q2, q3, q4, q5, q6, -⟩ := Cond.exactly_spec (args := #[Value.ref b]) (first := s) (o := none) (s := s) (idx := []) (t := tb_tm t) (cls := "java/lang/String") (hfl _ (List.mem_of_getElem? h1))
    obtain ⟨tv, hv1, hv2⟩ := va_Tof (tm := tb_tv t) (ty := .byte) (N := t.2.2.2.length) (f := fun j => .int (t.2.2.2.getD j 0)) (A := fun q => s.heap.size ≤ q) h5 (hfl _ (List.mem_of_getElem? h3)) (va_eqt (hfl _ (List.mem_of_getElem? h4))) (fun j hj => va_eqt (hfl _ (List.mem_of_getElem? (of_decide_eq_true (List.all_eq_true.mp h6 j (List.mem_range.mpr hj)))))) hA
    exact ⟨a, tv, q1, ⟨cA, q3, q5, by rw [q6]; exact q2, hA a (Array.getElem?_eq_some_iff.mp q3).1⟩, vk_OFof q1 (va_eqt (hfl _ (List.mem_of_getElem? h2))) hA, vk_OFof q1 hv1 hA, hv2⟩
  obtain ⟨ads, hl, hads⟩ := hm_choose tb_tx htx
  have hat : ∀ i : Nat, (b :: tL :: (ads.flatMap fun q => [q.1, q.2]))[2 + 2 * i]? = (ads[i]?).map (fun q => q.1) ∧ (b :: tL :: (ads.flatMap fun q => [q.1, q.2]))[2 + 2 * i + 1]? = (ads[i]?).map (fun q => q.2) := fun i => by
    have h := hm_two ads i
    rw [show 2 + 2 * i = 2 * i + 1 + 1 by omega]
    simp only [List.getElem?_cons_succ]
    exact h
  have hrt : ∀ i : Nat, (tb_ro xs)[2 + 2 * i]? = (tb_tx[i]?).map (fun _ => .inr (.inr ("java/lang/String", [("java/lang/String", "value", "[B", .ref (2 + 2 * i + 1)), ("java/lang/String", "coder", "B", .int 0)]))) ∧ (tb_ro xs)[2 + 2 * i + 1]? = (tb_tx[i]?).map (fun t => .inl (.byte, t.2.2.2.map .int)) := fun i => by
    have h := tb_str_at tb_tx 2 i
    unfold tb_ro
    rw [show 2 + 2 * i = 2 * i + 1 + 1 by omega] at h ⊢
    simp only [List.getElem?_cons_succ]
    exact h
  have hll : (tb_ro xs).length = 2 + 2 * tb_tx.length := by
    unfold tb_ro
    simp only [List.length_cons, tb_str_len]
    omega
  have hcells : ∀ (k a : Nat) (x : hm_E), (b :: tL :: (ads.flatMap fun q => [q.1, q.2]))[k]? = some a → (tb_ro xs)[k]? = some x → hm_cell (fun k => (DD k).1, fun k => (DD k).2) tb_cl (b :: tL :: (ads.flatMap fun q => [q.1, q.2])) s s.heap a x := by
    intro k a x ha hx
    rcases (show k = 0 ∨ k = 1 ∨ ∃ i, k = 2 + 2 * i ∨ k = 2 + 2 * i + 1 by
      rcases Nat.lt_or_ge k 2 with h | h
      · omega
      · exact Or.inr (Or.inr ⟨(k - 2) / 2, by omega⟩)) with rfl | rfl | ⟨i, rfl | rfl⟩
    · cases ha
      cases hx
      obtain ⟨scr, x1, x2, x3, x4, x5⟩ := hX
      refine hm_cell_T (A := fun q => s.heap.size ≤ q) (fun C h => by cases h) ⟨scr, x1, x2, x3, by omega, by rw [x4], x5, hA _ hbl⟩
    · cases ha
      cases hx
      exact hm_cell_T (fun C h => by cases h) ht2
    · rw [(hat i).1] at ha
      rw [(hrt i).1] at hx
      obtain ⟨q, hq, rfl⟩ := Option.map_eq_some_iff.mp ha
      obtain ⟨t, ht, rfl⟩ := Option.map_eq_some_iff.mp hx
      obtain ⟨q9, hq9, f1, ⟨ce, g1, g2, g3, -⟩, f3, f4, f5⟩ := hads i t ht
      cases hq.symm.trans hq9
      obtain ⟨cf1, k1, i1, fd1, ce1, y1, y2, y3, y4, y5, -⟩ := f3
      obtain ⟨cf2, k2, i2, fd2, ce2, z1, z2, z3, z4, z5, -⟩ := f4
      cases g1.symm.trans y3
      cases g1.symm.trans z3
      refine ⟨ce, g1, g2, y4, g3, fun x9 hx9 => ?_⟩
      rcases List.mem_cons.mp hx9 with rfl | hx9
      · exact ⟨cf2, k2, i2, fd2, .ref q.2, z1, z2, z5, q.2, by rw [(hat i).2, hq]; rfl, rfl⟩
      · rcases List.mem_cons.mp hx9 with rfl | hx9
        · exact ⟨cf1, k1, i1, fd1, .int 0, y1, y2, y5, rfl⟩
        · cases hx9
    · rw [(hat i).2] at ha
      rw [(hrt i).2] at hx
      obtain ⟨q, hq, rfl⟩ := Option.map_eq_some_iff.mp ha
      obtain ⟨t, ht, rfl⟩ := Option.map_eq_some_iff.mp hx
      obtain ⟨q9, hq9, f1, f2, f3, f4, f5⟩ := hads i t ht
      cases hq.symm.trans hq9
      exact hm_cell_T (fun C h => by cases h) f5
  have hlen : (b :: tL :: (ads.flatMap fun q => [q.1, q.2])).length = (tb_ro xs).length := by
    rw [hll]
    simp only [List.length_cons, hm_two_len, hl]
    omega
  have hnro : hm_Tro tb_T = 2 + 2 * tb_tx.length := by decide +kernel
  have hin : ∀ k a, (b :: tL :: (ads.flatMap fun q => [q.1, q.2]))[k]? = some a → k < 2 + 2 * tb_tx.length ∧ a < s.heap.size := fun k a ha => by
    have hlt : k < (tb_ro xs).length := by rw [← hlen]; exact (List.getElem?_eq_some_iff.mp ha).1
    exact ⟨by rw [← hll]; exact hlt, hm_cell_at (hcells k a _ ha (List.getElem?_eq_getElem hlt))⟩
  refine ⟨(fun k => (DD k).1, fun k => (DD k).2), b :: tL :: (ads.flatMap fun q => [q.1, q.2]), rfl, ⟨hlen, hcells, fun k a hk ha => ?_, fun j k a hj hk ha => ?_, fun k a hk ha => (hin k a ha).2, Nat.le_refl _, by rw [hll, hnro]; exact Nat.le_refl _⟩, ⟨fun k q hq => hDD k q hq, fun k q h => by simp at h⟩, fun w hw => ?_, fun x hx => hts _ (tb_w5 x hx), fun _ => hts _ tb_w6, fun x hx => ?_, fun x hx => ?_, vx_Zqof (hts _ tb_w4.1) (hts _ tb_w4.2.2) (hfl _ tb_f5.1) hA, vx_Zqof (hts _ tb_w4.2.1) (hts _ tb_w4.2.2) (hfl _ tb_f5.2) hA⟩
  · have := (hin k a ha).1
    rw [hnro] at hk
    omega
  · have := (hin j a ha).1
    rw [hnro] at hj
    omega
  · have h := List.mem_filter.mp hw
    exact va_Nw.of (hm_nw_tab h.2) (hts w h.1)
  · obtain ⟨i, hi⟩ := List.getElem?_of_mem hx
    match i, hi with
    | 0, hi => cases hi; exact ⟨.int 1, rfl, va_Zof (hts _ tb_w1.1) (hts _ tb_w1.2) (va_eqi (hfl _ tb_f1)) hA⟩
    | 1, hi =>
      cases hi
      rcases va_Zqof (hts _ tb_w2.1) (hts _ tb_w2.2) (hfl _ tb_f2) hA with h | ⟨t, h⟩
      · exact ⟨.null, Or.inl rfl, h⟩
      · exact ⟨.ref t, Or.inr ⟨t, rfl⟩, h⟩
    | 2, hi => cases hi; exact ⟨.ref tL, ⟨tL, rfl, rfl⟩, va_Zof (hts _ tb_w3.1) (hts _ tb_w3.2) ht1 hA⟩
    | i + 3, hi => exact absurd hi (by simp [hm_Tz, tb_T, tb_Z])
  · have h := List.all_eq_true.mp tb_Sok x hx
    split at h
    · rename_i t ht
      obtain ⟨e1, e2, e3, e4⟩ := of_decide_eq_true h
      obtain ⟨q, hq, f1, -⟩ := hads _ t ht
      have hs := List.all_eq_true.mp tb_srs ((x.2.2.2 - 2) / 2) (List.mem_range.mpr (List.getElem?_eq_some_iff.mp ht).1)
      simp only [ht, decide_eq_true_eq] at hs
      refine ⟨q.1, t.1, e1, ?_, ?_⟩
      · rw [e4, (hat _).1, hq]
        rfl
      · rw [e2, e3]
        exact vk_R.of (hts _ (tb_lst_in (List.mem_of_getElem? hs))) f1
    · cases h
