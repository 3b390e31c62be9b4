/-! Rules for the reference: methods that change nothing, texts. -/
section PRN
variable {P : EPx} {C : Nat} {M : hm_M} {N K pc row k k2 ci fi q d n rt r2 len : Nat} {lv : List (Nat × Value)} {st rest args : List Value} {s : rS} {v w : Value} {i : Instr} {x y : Int32} {Q Q2 : rS → hm_Out → Prop} {ty : FieldType} {a b z : Int} {t : tab} {X A B : RO} {KX : Int → tab → RO}
theorem pr_p1 {ix im na : Nat} (ho : (hm_Mi M)[pc]? = some (some (.invokevirtual ix, 3, 14, row))) (hx : (hm_Tc tb_T)[row]? = some (hm_Mo M, ix, 1, im, na, ci)) (ha : args.length = na) (hb : tb_TG q = some (.inr ci, n)) (hs : (rest.map fun v => v.category).sum ≤ 8) (hh : hm_Mh M = []) (he : pcr K d im (.ref q :: args) s (MQx P C r2 X)) (hP : ∀ z t3, X = some (some (z, t3)) → t3 = t) (kk : ∀ ob z (s2 : rS), rtv r2 z ob → X = some (some (z, t)) → EE P C t s2 → pr N K d M (pc + 3) lv (ob.toList ++ rest) s2 (MQx P C rt (KX z t))) : pr N K d M pc lv (args.reverse ++ .ref q :: rest) s (MQx P C rt (bo X KX)) := pr_call1 ho hx ha hb hs hh (pcr_mono he (by
  rintro s2 out (⟨ob, z, t4, rfl, h1, h2, h3⟩ | ⟨rfl, rfl, h9⟩)
  · have e := hP z t4 h2
    subst e
    have h5 := kk ob z s2 h1 h2 h3
    subst h2
    exact ⟨fun ob2 e => by cases e; exact h5, fun e => by cases e⟩
  · exact ⟨fun ob2 e => (by cases e), fun _ => .inr ⟨rfl, rfl, h9⟩⟩))
theorem pr_i2x {f : Int32 → Int32 → Int32} (ho : (hm_Mi M)[pc]? = some (some (i, 1, 3, row))) (hf : hm_b2 i = some f) (kk : ∀ N2, N2 < N → pr N2 K d M (pc + 1) lv (vi (f (Int32.ofInt a) (Int32.ofInt b)).toInt :: st) s Q) : pr N K d M pc lv (vi b :: vi a :: st) s Q := by
  refine pr_lt (fun call g => ?_) kk
  rw [hs_of ho]
  show hm_pu 1 g (hm_gA i pc lv _) = _
  simp [hm_gA, hf, hm_pu]
theorem pr_incw {c : Int} (ho : (hm_Mi M)[pc]? = some (some (.iinc k c, 3, 6, row))) (hv : hm_at k lv = some (vi a)) (kk : pr N K d M (pc + 3) (hm_st1 lv k (vi (ipl a c))) st s Q) : pr N K d M pc lv st s Q := pr_inc ho hv (by
  have e : vi (ipl a c) = vi (a + c) := by
    show Value.int (Int32.ofInt (Int32.ofInt a + Int32.ofInt c).toInt) = Value.int (Int32.ofInt (a + c))
    rw [Int32.ofInt_toInt, i32_add]
  rw [← e]
  exact kk)
theorem pr_t4 {ix im na ci : Nat} {l : List (String × String × String × Value)} (ho : (hm_Mi M)[pc]? = some (some (.invokevirtual ix, 3, 14, row))) (hx : (hm_Tc tb_T)[row]? = some (hm_Mo M, ix, 4, im, na, ci)) (ha : args.length = na) (hb : tb_RO q = some (.inr (.inr ("java/lang/String", l)))) (hs : (rest.map fun v => v.category).sum ≤ 8) (hh : hm_Mh M = []) (he : pcr K d im (.ref q :: args) s fun s2 out => out = some (some (vi z)) ∧ s2 = s) (kk : pr N K d M (pc + 3) lv (vi z :: rest) s Q) : pr N K d M pc lv (args.reverse ++ .ref q :: rest) s Q := fun m hm g gf out hg hc hr => by
  have h1 := hg.2 q _ hb
  have hst : hm_step tb_T (hm_call tb_T tb_pg K d) M (pc, lv, args.reverse ++ .ref q :: rest, g) = hm_back M pc lv rest (hm_call tb_T tb_pg K d im (.ref q :: args) g) := by
    rw [hs_of ho]
    show hm_dC tb_T _ M _ pc lv _ g = _
    have hd : (args.reverse ++ .ref q :: rest).drop na = .ref q :: rest := by rw [List.drop_append_of_le_length (by simp [ha])]; simp [ha]
    have ht : ((args.reverse ++ .ref q :: rest).take na).reverse = args := by rw [List.take_append_of_le_length (by simp [ha]), List.take_of_length_le (by simp [ha]), List.reverse_reverse]
    have hal : na ≤ (args.reverse ++ .ref q :: rest).length := by simp [ha]
    unfold hm_dC
    rw [hx]
    simp only [hd, ht, h1]
    rw [if_pos ⟨trivial, trivial, hal⟩, if_pos ⟨trivial, trivial, hs⟩]
  cases hcl : hm_call tb_T tb_pg K d im (.ref q :: args) g with
  | none => rw [hcl] at hst; exact absurd (run_none hr hst) id
  | some r =>
    obtain ⟨g2, o2⟩ := r
    obtain ⟨s2, e2, e3, e4, e5⟩ := he g g2 o2 hg hc hcl
    subst e4 e5
    rw [hcl] at hst
    obtain ⟨j, j1, j2⟩ := run_inl hr hst
    exact kk j (by omega) g2 gf out e2 e3 j2
theorem pr_copy0 {f t ix : Nat} {n : Int} (ho : (hm_Mi M)[pc]? = some (some (.invokestatic ix, 3, 15, row))) (hx : (hm_Tl tb_T)[row]? = some (hm_Mo M, ix, 4)) (hf : tb_TG f = some (.inl .byte, 2000)) (ht : tb_TG t = some (.inl .byte, 2000)) (hf9 : 96 ≤ f) (ht9 : 96 ≤ t) (hn : 0 ≤ n ∧ n ≤ 2000) (hs : (st.map fun v => v.category).sum ≤ 8) (kk : ∀ r2 : tab, (∀ k j, k ≠ t → r2 k j = s.1 k j) → pr N K d M (pc + 3) lv st (r2, s.2) Q) : pr N K d M pc lv (vi n :: vi 0 :: .ref t :: vi 0 :: .ref f :: st) s Q := fun m9 hm9 g gf out hg hc hr => by
  obtain ⟨la, a1, a2⟩ := tg_arr (Rp_tg hg hf)
  obtain ⟨lb, b1, b2⟩ := tg_arr (Rp_tg hg ht)
  have hla : ∀ j, j < 2000 → la[j]? = some (vi (s.1 f j)) ∧ rg .byte (s.1 f j) := fun j hj => by
    have h1 := Rp_sl hg hf hj
    rw [sl_arr a1] at h1
    exact ⟨h1, Rp_rg hg hf hj⟩
  have hlb : ∀ j, j < 2000 → lb[j]? = some (vi (s.1 t j)) ∧ rg .byte (s.1 t j) := fun j hj => by
    have h1 := Rp_sl hg ht hj
    rw [sl_arr b1] at h1
    exact ⟨h1, Rp_rg hg ht hj⟩
  have hall : hm_allI .byte la = true := by
    unfold hm_allI
    rw [List.all_eq_true]
    intro v hv
    obtain ⟨j, hj⟩ := List.getElem?_of_mem hv
    have hj2 : j < 2000 := by rw [← a2]; exact (List.getElem?_eq_some_iff.mp hj).1
    have h1 := (hla j hj2).1
    rw [hj] at h1
    cases h1
    have h2 := fit_i (ty := .byte) (.inr (.inr rfl)) (hla j hj2).2
    unfold hm_fit at h2
    rw [Bool.and_eq_true] at h2
    exact h2.2
  obtain ⟨N9, hN⟩ : ∃ N9 : Nat, n = (N9 : Int) := ⟨n.toNat, by omega⟩
  subst hN
  have hcl : (Int32.ofInt (N9 : Int)).toNatClampNeg = N9 := by rw [i32_nat hn.1 (by omega)]; omega
  have h0 : (Int32.ofInt 0).toNatClampNeg = 0 := rfl
  let r2 : tab := fun k j => if k = t then (if j < N9 then s.1 f j else s.1 t j) else s.1 k j
  let g2 : hm_G := (g.1.set t (.inl (.byte, hm_cpy la lb 0 0 N9)), g.2)
  have htl : t < g.1.length := (List.getElem?_eq_some_iff.mp b1).1
  have hcp : ∀ j, j < 2000 → (hm_cpy la lb 0 0 N9)[j]? = some (vi (r2 t j)) := by
    intro j hj
    unfold hm_cpy
    rw [List.getElem?_map, List.getElem?_range (by omega)]
    show some (if 0 ≤ j ∧ j < 0 + N9 then la.getD (0 + (j - 0)) (.int 0) else lb.getD j (.int 0)) = _
    show _ = some (vi (if t = t then (if j < N9 then s.1 f j else s.1 t j) else s.1 t j))
    rw [if_pos rfl]
    by_cases e : j < N9
    · rw [if_pos (by omega), if_pos e, show 0 + (j - 0) = j by omega, List.getD_eq_getElem?_getD, (hla j hj).1]
      rfl
    · rw [if_neg (by omega), if_neg e, List.getD_eq_getElem?_getD, (hlb j hj).1]
      rfl
  have hg2 : rP g2 r2 := by
    refine ⟨fun k ty m hk => ?_, fun k e hk => ?_⟩
    · by_cases e : k = t
      · subst e
        cases ht.symm.trans hk
        have hself : g2.1[k]? = some (.inl (.byte, hm_cpy la lb 0 0 N9)) := List.getElem?_set_self htl
        refine ⟨?_, fun j hj => ⟨?_, ?_⟩⟩
        · unfold tg
          rw [hself]
          simp [hm_cpy, b2]
        · rw [sl_arr hself, hcp j hj]
          rfl
        · show rg .byte (if k = k then (if j < N9 then s.1 f j else s.1 k j) else s.1 k j)
          rw [if_pos rfl]
          split
          · exact (hla j hj).2
          · exact (hlb j hj).2
      · have hne : g2.1[k]? = g.1[k]? := List.getElem?_set_ne (Ne.symm e)
        have h1 := hg.1 k ty m hk
        have hr : ∀ j, r2 k j = s.1 k j := fun j => if_neg e
        refine ⟨?_, fun j hj => ?_⟩
        · have := h1.1
          unfold tg at this ⊢
          rw [hne]
          exact this
        · have := h1.2 j hj
          rw [hr]
          refine ⟨?_, this.2⟩
          have h3 := this.1
          unfold sl at h3 ⊢
          rw [hne]
          exact h3
    · have hne : t ≠ k := fun e2 => by rw [← e2] at hk; exact tb_RO_hi ht9 e hk
      exact (List.getElem?_set_ne hne).trans (hg.2 k e hk)
  have hst : hm_step tb_T (hm_call tb_T tb_pg K d) M (pc, lv, vi (N9 : Int) :: vi 0 :: .ref t :: vi 0 :: .ref f :: st, g) = some (.inl (pc + 3, lv, st, g2)) := by
    rw [hs_of ho]
    show hm_dL tb_T M (.invokestatic ix, 3, 15, row) pc lv (vi (N9 : Int) :: vi 0 :: .ref t :: vi 0 :: .ref f :: st) g = _
    unfold hm_dL
    rw [hx]
    dsimp only
    have hsum : ((vi (N9 : Int) :: vi 0 :: .ref t :: vi 0 :: .ref f :: st).map fun v => v.category).sum ≤ 16 := by
      show 1 + (1 + (1 + (1 + (1 + (st.map fun v => v.category).sum)))) ≤ 16
      omega
    rw [if_pos ⟨rfl, rfl, rfl, hsum⟩]
    have hlib : hm_lib (hm_Tro tb_T) 4 (vi (N9 : Int) :: vi 0 :: .ref t :: vi 0 :: .ref f :: st) g.1 = some (st, g.1.set t (.inl (.byte, hm_cpy la lb 0 0 N9))) := by
      show (match g.1[f]?, g.1[t]? with
        | some (.inl a), some (.inl b) => if hm_Tro tb_T ≤ f ∧ hm_Tro tb_T ≤ t ∧ a.1 = b.1 ∧ hm_ib b.1 = true ∧ hm_allI b.1 a.2 = true ∧ True ∧ ¬ Int32.ofInt 0 < 0 ∧ ¬ Int32.ofInt 0 < 0 ∧ ¬ Int32.ofInt (N9 : Int) < 0 ∧ (Int32.ofInt 0).toNatClampNeg + (Int32.ofInt (N9 : Int)).toNatClampNeg ≤ a.2.length ∧ (Int32.ofInt 0).toNatClampNeg + (Int32.ofInt (N9 : Int)).toNatClampNeg ≤ b.2.length then some (st, g.1.set t (.inl (b.1, hm_cpy a.2 b.2 (Int32.ofInt 0).toNatClampNeg (Int32.ofInt 0).toNatClampNeg (Int32.ofInt (N9 : Int)).toNatClampNeg))) else none
        | _, _ => none) = _
      rw [a1, b1]
      dsimp only
      rw [hcl, h0, if_pos ⟨hf9, ht9, rfl, rfl, hall, trivial, by decide, by decide, nn_i hn.1 (by omega), by omega, by omega⟩]
    rw [hlib]
    rfl
  obtain ⟨j, j1, j2⟩ := run_inl hr hst
  exact kk r2 (fun k j hk => if_neg hk) j (by omega) g2 gf out hg2 hc j2
theorem pr_copyx {f t ix : Nat} {n : Int} (ho : (hm_Mi M)[pc]? = some (some (.invokestatic ix, 3, 15, row))) (hx : (hm_Tl tb_T)[row]? = some (hm_Mo M, ix, 4)) (hf : tb_TG f = some (.inl .byte, 2000)) (ht : tb_TG t = some (.inl .byte, 2000)) (hn : i32 n) (hb : ¬ (0 ≤ n ∧ n ≤ 2000)) : pr N K d M pc lv (vi n :: vi 0 :: .ref t :: vi 0 :: .ref f :: st) s Q := fun m9 hm9 g gf out hg hc hr => by
  obtain ⟨la, a1, a2⟩ := tg_arr (Rp_tg hg hf)
  obtain ⟨lb, b1, b2⟩ := tg_arr (Rp_tg hg ht)
  refine absurd (run_none hr ?_) id
  rw [hs_of ho]
  show hm_dL tb_T M (.invokestatic ix, 3, 15, row) pc lv (vi n :: vi 0 :: .ref t :: vi 0 :: .ref f :: st) g = _
  unfold hm_dL
  rw [hx]
  dsimp only
  have hlib : hm_lib (hm_Tro tb_T) 4 (vi n :: vi 0 :: .ref t :: vi 0 :: .ref f :: st) g.1 = none := by
    show (match g.1[f]?, g.1[t]? with
      | some (.inl a), some (.inl b) => if hm_Tro tb_T ≤ f ∧ hm_Tro tb_T ≤ t ∧ a.1 = b.1 ∧ hm_ib b.1 = true ∧ hm_allI b.1 a.2 = true ∧ True ∧ ¬ Int32.ofInt 0 < 0 ∧ ¬ Int32.ofInt 0 < 0 ∧ ¬ Int32.ofInt n < 0 ∧ (Int32.ofInt 0).toNatClampNeg + (Int32.ofInt n).toNatClampNeg ≤ a.2.length ∧ (Int32.ofInt 0).toNatClampNeg + (Int32.ofInt n).toNatClampNeg ≤ b.2.length then some (st, g.1.set t (.inl (b.1, hm_cpy a.2 b.2 (Int32.ofInt 0).toNatClampNeg (Int32.ofInt 0).toNatClampNeg (Int32.ofInt n).toNatClampNeg))) else none
      | _, _ => none) = _
    rw [a1, b1]
    dsimp only
    refine if_neg fun e => hb ?_
    obtain ⟨_, _, _, _, _, _, _, _, e1, e2, _⟩ := e
    have h0 : ¬ n < 0 := fun e9 => e1 (by rw [Int32.lt_iff_toInt_lt, i32_to hn.1 hn.2, i0]; omega)
    rw [i32_nat (by omega) hn.2, a2] at e2
    have h00 : (Int32.ofInt 0).toNatClampNeg = 0 := rfl
    omega
  rw [hlib]
  exact ite_self none
theorem EE_th {r2 : tab} {c : Nat × Nat} (h : EE P C t s) (hr2 : ∀ k j, k ≠ q → r2 k j = s.1 k j) (hn : ∀ j, tb_rc q j = none) (hp : ph P C k2 = q) (hk : okk P k2) (hr : ∀ j, P.2.2.1 k2 j = false) (hv : q ≠ P.2.2.2.1) : EE P C t (r2, c) := by
  refine ⟨h.1, fun k j v e => ?_, (hr2 _ _ (Ne.symm hv)).trans h.2.2.1, fun k j e => ⟨(h.2.2.2.1 k j e).1, (hr2 _ _ fun e2 => ?_).trans (h.2.2.2.1 k j e).2⟩, h.2.2.2.2⟩
  · by_cases e2 : k = q
    · rw [e2, hn] at e
      cases e
    · exact (hr2 k j e2).trans (h.2.1 k j v e)
  · have e3 := ph_inj h.1 (h.2.2.2.1 k j e).1 hk (e2.trans hp.symm)
    rw [e3, hr] at e
    cases e
/-- arrays copied into a thing that does not matter -/
theorem pr_copy {f q2 ix : Nat} {n : Int} (hE : EE P C t s) (ho : (hm_Mi M)[pc]? = some (some (.invokestatic ix, 3, 15, row))) (hx : (hm_Tl tb_T)[row]? = some (hm_Mo M, ix, 4)) (hf : tb_TG f = some (.inl .byte, 2000)) (ht : tb_TG q2 = some (.inl .byte, 2000)) (hf9 : 96 ≤ f) (ht9 : 96 ≤ q2) (hn : i32 n) (hs : (st.map fun v => v.category).sum ≤ 8) (hc : ∀ j, tb_rc q2 j = none) (hp : ph P C k2 = q2) (hk : okk P k2) (hr : ∀ j, P.2.2.1 k2 j = false) (hv : q2 ≠ P.2.2.2.1) (kk : ∀ s2 : rS, EE P C t s2 → pr N K d M (pc + 3) lv st s2 Q) : pr N K d M pc lv (vi n :: vi 0 :: .ref q2 :: vi 0 :: .ref f :: st) s Q := by
  by_cases hb : 0 ≤ n ∧ n ≤ 2000
  · exact pr_copy0 ho hx hf ht hf9 ht9 hb hs fun r2 h2 => kk _ (EE_th hE h2 hc hp hk hr hv)
  · exact pr_copyx ho hx hf ht hn hb
theorem pr_stuck (h : ∀ call g, hm_step tb_T call M (pc, lv, st, g) = none) : pr N K d M pc lv st s Q := fun m hm g gf out hg hc hr => absurd (run_none hr (h _ g)) id
theorem pr_alenR {o : FieldType × List Value} (ho : (hm_Mi M)[pc]? = some (some (.arraylength, 1, 11, 2))) (hq : tb_RO q = some (.inl o)) (kk : pr N K d M (pc + 1) lv (vi (o.2.length : Int) :: st) s Q) : pr N K d M pc lv (.ref q :: st) s Q := fun m hm g gf out hg hc hr => by
  obtain ⟨j, j1, j2⟩ := run_inl hr (hs_alen ho (hg.2 q _ hq))
  rw [i32_ofNat] at j2
  exact kk j (by omega) g gf out hg hc j2
theorem pr_getR {yi : Nat} {nm : String} {fd : String × String × String} {l : List (String × String × String × Value)} (ho : (hm_Mi M)[pc]? = some (some (.getfield k, 3, 10, row))) (hx : (hm_Tg tb_T)[row]? = some (hm_Mo M, k, yi, fd)) (hq : tb_RO q = some (.inr (.inr (nm, l)))) (hy : l[yi]? = some (fd.1, fd.2.1, fd.2.2, v)) (kk : pr N K d M (pc + 3) lv (v :: st) s Q) : pr N K d M pc lv (.ref q :: st) s Q := fun m hm g gf out hg hc hr => by
  have h1 := hg.2 q _ hq
  have hst : hm_step tb_T (hm_call tb_T tb_pg K d) M (pc, lv, .ref q :: st, g) = some (.inl (pc + 3, lv, v :: st, g)) := by
    rw [hs_of ho]
    show hm_dG tb_T M _ pc lv _ g = _
    unfold hm_dG
    rw [hx]
    simp [hm_getR, h1, hy]
  obtain ⟨j, j1, j2⟩ := run_inl hr hst
  exact kk j (by omega) g gf out hg hc j2
theorem pr_retc (ho : (hm_Mi M)[pc]? = some (some (.ireturn, 1, 16, row))) (hr : hm_Mr M = some .char) (hz : 0 ≤ z ∧ z ≤ 65535) (hq : Q s (some (some (vi z)))) : pr N K d M pc lv [vi z] s Q := pr_end (fun call g => by
  rw [hs_of ho]
  show hm_dE M (.ireturn, 1, 16, row) [vi z] g = _
  have hn2 : narrow .char (.int (Int32.ofInt z)) = .int (Int32.ofInt z) := nar_char hz.1 hz.2
  simp [hm_dE, hm_ret, hr, hn2]) hq
end PRN
theorem EE_w {C : Nat} {t : tab} {s : rS} (h : EE cQ C t s) : EE cP C t s := ⟨h.1, h.2.1, h.2.2.1, h.2.2.2.1, trivial⟩
theorem EE_q {C : Nat} {t : tab} {s : rS} (h : EE cP C t s) (hi : ∀ j, 0 ≤ t 140 j) : EE cQ C t s := ⟨h.1, h.2.1, h.2.2.1, h.2.2.2.1, hi⟩
theorem pr_mx {C : Nat} {M : hm_M} {N K pc row ci q d n rt r2 ix im na : Nat} {lv : List (Nat × Value)} {rest args : List Value} {s : rS} {X : RO} {KX : Int → tab → RO} (ho : (hm_Mi M)[pc]? = some (some (.invokevirtual ix, 3, 14, row))) (hx : (hm_Tc tb_T)[row]? = some (hm_Mo M, ix, 1, im, na, ci)) (ha : args.length = na) (hb : tb_TG q = some (.inr ci, n)) (hs : (rest.map fun v => v.category).sum ≤ 8) (hh : hm_Mh M = []) (he : pcr K d im (.ref q :: args) s (MQx cP C r2 X)) (hX : X ≠ some none) (kk : ∀ ob z t (s2 : rS), rtv r2 z ob → X = some (some (z, t)) → EE cP C t s2 → pr N K d M (pc + 3) lv (ob.toList ++ rest) s2 (MQx cQ C rt (KX z t))) : pr N K d M pc lv (args.reverse ++ .ref q :: rest) s (MQx cQ C rt (bo X KX)) := pr_call1 ho hx ha hb hs hh (pcr_mono he (by
  rintro s2 out (⟨ob, z, t, rfl, h1, h2, h3⟩ | ⟨rfl, h2, h9⟩)
  · have h5 := kk ob z t s2 h1 h2 h3
    subst h2
    exact ⟨fun ob2 e => by cases e; exact h5, fun e => by cases e⟩
  · exact absurd h2 hX))
theorem and7 : ∀ k : Fin 128, ((Int32.ofInt ((k : Nat) : Int) &&& 255).toUInt32 % 65536).toInt32 = Int32.ofInt ((k : Nat) : Int) := by decide +kernel
section TX
variable {q q1 d K : Nat} {l : List Value} {s : rS}
theorem px_13 {i n : Int} (hi : i32 i) (hn : i32 n) : pcr K d 13 [vi i, vi n, .retAddr 0] s fun s2 out => (0 ≤ i ∧ i < n) ∧ out = some (some (vi i)) ∧ s2 = s := by
  cases d with
  | zero => exact pcr0
  | succ d =>
    refine pcr_of (M := tb_M13) rfl ?_
    refine pr_n (pc2 := 1) (lv2 := [(0, vi i), (1, vi n), (2, .retAddr 0)]) (st2 := [vi i]) 1 (fun _ _ => rfl) ?_
    by_cases h : i < 0
    · refine pr_if1t rfl rfl hi h ?_
      refine pr_n (pc2 := 12) (lv2 := [(0, vi i), (1, vi n), (2, .retAddr 0)]) (st2 := [vi n, vi i, .retAddr 0]) 3 (fun _ _ => rfl) ?_
      exact pr_stuck (fun _ _ => rfl)
    · refine pr_if1f rfl rfl hi h ?_
      refine pr_n (pc2 := 6) (lv2 := [(0, vi i), (1, vi n), (2, .retAddr 0)]) (st2 := [vi n, vi i]) 2 (fun _ _ => rfl) ?_
      by_cases h2 : i < n
      · refine pr_if2t rfl rfl hi hn h2 ?_
        refine pr_n (pc2 := 17) (lv2 := [(0, vi i), (1, vi n), (2, .retAddr 0)]) (st2 := [vi i]) 1 (fun _ _ => rfl) ?_
        exact pr_reti rfl rfl ⟨⟨by omega, h2⟩, rfl, rfl⟩
      · refine pr_if2f rfl rfl hi hn h2 ?_
        refine pr_n (pc2 := 12) (lv2 := [(0, vi i), (1, vi n), (2, .retAddr 0)]) (st2 := [vi n, vi i, .retAddr 0]) 3 (fun _ _ => rfl) ?_
        exact pr_stuck (fun _ _ => rfl)
theorem px_12 {i n : Int} (hi : i32 i) (hn : i32 n) : pcr K d 12 [vi i, vi n] s fun s2 out => (0 ≤ i ∧ i < n) ∧ out = some none ∧ s2 = s := by
  cases d with
  | zero => exact pcr0
  | succ d =>
    refine pcr_of (M := tb_M12) rfl ?_
    refine pr_n (pc2 := 5) (lv2 := [(0, vi i), (1, vi n)]) (st2 := [.retAddr 0, vi n, vi i]) 3 (fun _ _ => rfl) ?_
    refine pr_call0 (args := [vi i, vi n, .retAddr 0]) (rest := []) rfl rfl rfl (by decide) rfl (pcr_mono (px_13 hi hn) ?_)
    rintro s2 out ⟨h, rfl, rfl⟩
    refine ⟨fun ob e => ?_, fun e => by cases e⟩
    cases e
    refine pr_n (pc2 := 9) (lv2 := [(0, vi i), (1, vi n)]) (st2 := []) 1 (fun _ _ => rfl) ?_
    exact pr_end (fun _ _ => rfl) ⟨h, rfl, rfl⟩
theorem px_11 {i : Int} (h : isT q q1 l) (hi : i32 i) (hb : ∀ j : Nat, j < l.length → ∃ b : Int, l[j]? = some (vi b) ∧ 0 ≤ b ∧ b ≤ 127) : pcr K d 11 [.ref q1, vi i] s fun s2 out => (0 ≤ i ∧ i < l.length) ∧ (∀ b : Int, l[i.toNat]? = some (vi b) → 0 ≤ b ∧ b ≤ 127 → out = some (some (vi b))) ∧ s2 = s := by
  cases d with
  | zero => exact pcr0
  | succ d =>
    have hl := h.2.2.2
    refine pcr_of (M := tb_M11) rfl ?_
    refine pr_n (pc2 := 2) (lv2 := [(0, .ref q1), (1, vi i)]) (st2 := [.ref q1, vi i]) 2 (fun _ _ => rfl) ?_
    refine pr_alenR rfl h.2.1 ?_
    refine pr_call0 (args := [vi i, vi (l.length : Int)]) (rest := []) rfl rfl rfl (by decide) rfl (pcr_mono (px_12 hi (by unfold i32; omega)) ?_)
    rintro s2 out ⟨h1, rfl, rfl⟩
    refine ⟨fun ob e => ?_, fun e => by cases e⟩
    cases e
    refine pr_n (pc2 := 8) (lv2 := [(0, .ref q1), (1, vi i)]) (st2 := [vi i, .ref q1]) 2 (fun _ _ => rfl) ?_
    obtain ⟨b, hb1, hb2⟩ := hb i.toNat (by omega)
    refine pr_aldR (v := vi b) rfl h.2.1 rfl h1.1 hi.2 hb1 ?_
    refine pr_n (pc2 := 13) (lv2 := [(0, .ref q1), (1, vi i)]) (st2 := [.int (Int32.ofInt b &&& 255)]) 2 (fun _ _ => rfl) ?_
    have e := and7 ⟨b.toNat, by omega⟩
    have e1 : (((⟨b.toNat, by omega⟩ : Fin 128) : Nat) : Int) = b := by show ((b.toNat : Nat) : Int) = b; omega
    rw [e1] at e
    refine pr_n (pc2 := 14) (lv2 := [(0, .ref q1), (1, vi i)]) (st2 := [vi b]) 1 (fun _ _ => by rw [show vi b = .int ((Int32.ofInt b &&& 255).toUInt32 % 65536).toInt32 from by rw [e]]; rfl) ?_
    refine pr_retc rfl rfl ⟨hb2.1, by omega⟩ ⟨h1, fun b2 e2 e3 => ?_, rfl⟩
    rw [e2] at hb1
    rw [Option.some.inj hb1]
theorem px_9 {i : Int} (h : isT q q1 l) (hi : i32 i) (hb : ∀ j : Nat, j < l.length → ∃ b : Int, l[j]? = some (vi b) ∧ 0 ≤ b ∧ b ≤ 127) : pcr K d 9 [.ref q, vi i] s fun s2 out => (0 ≤ i ∧ i < l.length) ∧ (∀ b : Int, l[i.toNat]? = some (vi b) → 0 ≤ b ∧ b ≤ 127 → out = some (some (vi b))) ∧ s2 = s := by
  cases d with
  | zero => exact pcr0
  | succ d =>
    refine pcr_of (M := tb_M9) rfl ?_
    refine pr_n (pc2 := 1) (lv2 := [(0, .ref q), (1, vi i)]) (st2 := [.ref q]) 1 (fun _ _ => rfl) ?_
    refine pr_t4 (z := 1) (args := []) (rest := []) rfl rfl rfl h.1 (by decide) rfl (pcr_cr (d := 1) (c_isLatin1 (d := 0) h)) ?_
    refine pr_n (pc2 := 8) (lv2 := [(0, .ref q), (1, vi i)]) (st2 := [.ref q]) 2 (fun _ _ => rfl) ?_
    refine pr_getR rfl rfl h.1 rfl ?_
    refine pr_n (pc2 := 12) (lv2 := [(0, .ref q), (1, vi i)]) (st2 := [vi i, .ref q1]) 1 (fun _ _ => rfl) ?_
    refine pr_call0 (args := [.ref q1, vi i]) (rest := []) rfl rfl rfl (by decide) rfl (pcr_mono (px_11 h hi hb) ?_)
    rintro s2 out ⟨h1, h2, rfl⟩
    obtain ⟨b, hb1, hb2⟩ := hb i.toNat (by omega)
    have e := h2 b hb1 hb2
    subst e
    refine ⟨fun ob e => ?_, fun e => by cases e⟩
    cases e
    exact pr_retc rfl rfl ⟨hb2.1, by omega⟩ ⟨h1, h2, rfl⟩
end TX
/-- the bytes of a text -/
def txl (q : Nat) : List Int := match q with
  | 2 => [118, 97, 114, 32, 105, 110, 116, 32, 97, 114, 114, 97, 121, 32, 99, 104, 97, 110, 32, 105, 110, 32, 111, 117, 116, 32, 112, 114, 111, 99, 32, 102, 117, 110, 32, 105, 102, 32, 101, 108, 115, 101, 32, 119, 104, 105, 108, 101, 32, 114, 101, 112, 101, 97, 116, 32, 112, 97, 114, 32, 114, 101, 116, 117, 114, 110, 32, 115, 107, 105, 112, 32]
  | 4 => [32, 118, 97, 114, 32, 105, 110, 116, 32, 97, 114, 114, 97, 121, 32, 99, 104, 97, 110, 32, 105, 110, 32, 111, 117, 116, 32, 112, 114, 111, 99, 32, 102, 117, 110, 32, 105, 102, 32, 101, 108, 115, 101, 32, 119, 104, 105, 108, 101, 32, 114, 101, 112, 101, 97, 116, 32, 112, 97, 114, 32, 114, 101, 116, 117, 114, 110, 32, 115, 107, 105, 112, 32]
  | 6 => [118, 97, 114]
  | 8 => [105, 110, 116]
  | 10 => [97, 114, 114, 97, 121]
  | 12 => [99, 104, 97, 110]
  | 14 => [105, 110]
  | 16 => [111, 117, 116]
  | 18 => [112, 114, 111, 99]
  | 20 => [102, 117, 110]
  | 22 => [40]
  | 24 => [41]
  | 26 => [44]
  | 28 => [123]
  | 30 => [59]
  | 32 => [125]
  | 34 => [115, 107, 105, 112]
  | 36 => [105, 102]
  | 38 => [45]
  | 40 => [126]
  | 42 => [33]
  | 44 => [93]
  | 46 => [124, 124]
  | 48 => [38, 38]
  | 50 => [124]
  | 52 => [94]
  | 54 => [38]
  | 56 => [61, 61]
  | 58 => [33, 61]
  | 60 => [60]
  | 62 => [60, 61]
  | 64 => [62]
  | 66 => [62, 61]
  | 68 => [60, 60]
  | 70 => [62, 62]
  | 72 => [43]
  | 74 => [42]
  | 76 => [47]
  | 78 => [37]
  | 80 => [101, 108, 115, 101]
  | 82 => [119, 104, 105, 108, 101]
  | 84 => [114, 101, 112, 101, 97, 116]
  | 86 => [112, 97, 114]
  | 88 => [61]
  | 90 => [114, 101, 116, 117, 114, 110]
  | 92 => [58]
  | 94 => [91]
  | _ => []
def txn (q : Int) : Int := ((txl q.toNat).length : Int)
def txc (q i : Int) : Int := (txl q.toNat).getD i.toNat 0
def isX (q : Nat) : Prop := isT q (q + 1) ((txl q).map fun z => vi z) ∧ (txl q).all (fun z => decide (0 ≤ z ∧ z ≤ 127)) = true
section ISX
variable {q d K : Nat} {s : rS} {i : Int}
theorem isX_b (h : isX q) (j : Nat) (hj : j < ((txl q).map fun z => vi z).length) : ∃ b : Int, ((txl q).map fun z => vi z)[j]? = some (vi b) ∧ 0 ≤ b ∧ b ≤ 127 := by
  have hj2 : j < (txl q).length := by simpa using hj
  refine ⟨(txl q)[j], by rw [List.getElem?_map, List.getElem?_eq_getElem hj2]; rfl, ?_⟩
  have := List.all_eq_true.mp h.2 _ (List.getElem_mem hj2)
  simpa using this
theorem tx_len (h : isX q) : pcr K d 7 [.ref q] s fun s2 out => out = some (some (vi (txn (q : Int)))) ∧ s2 = s := by
  refine pcr_mono (pcr_cr (d := 2) (c_length (d := 0) h.1)) ?_
  rintro s2 out ⟨h1, h2⟩
  refine ⟨?_, h2⟩
  rw [h1]
  unfold txn
  rw [List.length_map, Int.toNat_natCast]
theorem tx_chr (h : isX q) (hi : i32 i) : pcr K d 9 [.ref q, vi i] s fun s2 out => out = some (some (vi (txc (q : Int) i))) ∧ s2 = s := by
  refine pcr_mono (px_9 h.1 hi (isX_b h)) ?_
  rintro s2 out ⟨h1, h2, h3⟩
  refine ⟨?_, h3⟩
  have hl : i.toNat < (txl q).length := by have := h1.2; rw [List.length_map] at this; omega
  have hb := List.all_eq_true.mp h.2 _ (List.getElem_mem hl)
  rw [h2 (txl q)[i.toNat] (by rw [List.getElem?_map, List.getElem?_eq_getElem hl]; rfl) (by simpa using hb)]
  unfold txc
  rw [Int.toNat_natCast, List.getD_eq_getElem?_getD, List.getElem?_eq_getElem hl]
  rfl
theorem txn_i32 (h : isX q) : i32 (txn (q : Int)) := by
  have := h.1.2.2.2
  rw [List.length_map] at this
  unfold txn i32
  rw [Int.toNat_natCast]
  omega
theorem txc_i32 (h : isX q) : i32 (txc (q : Int) i) := by
  unfold txc
  rw [Int.toNat_natCast, List.getD_eq_getElem?_getD]
  cases e : (txl q)[i.toNat]? with
  | none => exact i32_n rfl
  | some z =>
    have hb := List.all_eq_true.mp h.2 _ (List.mem_of_getElem? e)
    have hb : 0 ≤ z ∧ z ≤ 127 := by simpa using hb
    show i32 z
    unfold i32
    omega
end ISX
theorem isX_2 : isX 2 := ⟨⟨rfl, rfl, by decide, by decide⟩, by decide⟩
theorem isX_4 : isX 4 := ⟨⟨rfl, rfl, by decide, by decide⟩, by decide⟩
theorem isX_6 : isX 6 := ⟨⟨rfl, rfl, by decide, by decide⟩, by decide⟩
theorem isX_8 : isX 8 := ⟨⟨rfl, rfl, by decide, by decide⟩, by decide⟩
theorem isX_10 : isX 10 := ⟨⟨rfl, rfl, by decide, by decide⟩, by decide⟩
theorem isX_12 : isX 12 := ⟨⟨rfl, rfl, by decide, by decide⟩, by decide⟩
theorem isX_14 : isX 14 := ⟨⟨rfl, rfl, by decide, by decide⟩, by decide⟩
theorem isX_16 : isX 16 := ⟨⟨rfl, rfl, by decide, by decide⟩, by decide⟩
theorem isX_18 : isX 18 := ⟨⟨rfl, rfl, by decide, by decide⟩, by decide⟩
theorem isX_20 : isX 20 := ⟨⟨rfl, rfl, by decide, by decide⟩, by decide⟩
theorem isX_22 : isX 22 := ⟨⟨rfl, rfl, by decide, by decide⟩, by decide⟩
theorem isX_24 : isX 24 := ⟨⟨rfl, rfl, by decide, by decide⟩, by decide⟩
theorem isX_26 : isX 26 := ⟨⟨rfl, rfl, by decide, by decide⟩, by decide⟩
theorem isX_28 : isX 28 := ⟨⟨rfl, rfl, by decide, by decide⟩, by decide⟩
theorem isX_30 : isX 30 := ⟨⟨rfl, rfl, by decide, by decide⟩, by decide⟩
theorem isX_32 : isX 32 := ⟨⟨rfl, rfl, by decide, by decide⟩, by decide⟩
theorem isX_34 : isX 34 := ⟨⟨rfl, rfl, by decide, by decide⟩, by decide⟩
theorem isX_36 : isX 36 := ⟨⟨rfl, rfl, by decide, by decide⟩, by decide⟩
theorem isX_38 : isX 38 := ⟨⟨rfl, rfl, by decide, by decide⟩, by decide⟩
theorem isX_40 : isX 40 := ⟨⟨rfl, rfl, by decide, by decide⟩, by decide⟩
theorem isX_42 : isX 42 := ⟨⟨rfl, rfl, by decide, by decide⟩, by decide⟩
theorem isX_44 : isX 44 := ⟨⟨rfl, rfl, by decide, by decide⟩, by decide⟩
theorem isX_46 : isX 46 := ⟨⟨rfl, rfl, by decide, by decide⟩, by decide⟩
theorem isX_48 : isX 48 := ⟨⟨rfl, rfl, by decide, by decide⟩, by decide⟩
theorem isX_50 : isX 50 := ⟨⟨rfl, rfl, by decide, by decide⟩, by decide⟩
theorem isX_52 : isX 52 := ⟨⟨rfl, rfl, by decide, by decide⟩, by decide⟩
theorem isX_54 : isX 54 := ⟨⟨rfl, rfl, by decide, by decide⟩, by decide⟩
theorem isX_56 : isX 56 := ⟨⟨rfl, rfl, by decide, by decide⟩, by decide⟩
theorem isX_58 : isX 58 := ⟨⟨rfl, rfl, by decide, by decide⟩, by decide⟩
theorem isX_60 : isX 60 := ⟨⟨rfl, rfl, by decide, by decide⟩, by decide⟩
theorem isX_62 : isX 62 := ⟨⟨rfl, rfl, by decide, by decide⟩, by decide⟩
theorem isX_64 : isX 64 := ⟨⟨rfl, rfl, by decide, by decide⟩, by decide⟩
theorem isX_66 : isX 66 := ⟨⟨rfl, rfl, by decide, by decide⟩, by decide⟩
theorem isX_68 : isX 68 := ⟨⟨rfl, rfl, by decide, by decide⟩, by decide⟩
theorem isX_70 : isX 70 := ⟨⟨rfl, rfl, by decide, by decide⟩, by decide⟩
theorem isX_72 : isX 72 := ⟨⟨rfl, rfl, by decide, by decide⟩, by decide⟩
theorem isX_74 : isX 74 := ⟨⟨rfl, rfl, by decide, by decide⟩, by decide⟩
theorem isX_76 : isX 76 := ⟨⟨rfl, rfl, by decide, by decide⟩, by decide⟩
theorem isX_78 : isX 78 := ⟨⟨rfl, rfl, by decide, by decide⟩, by decide⟩
theorem isX_80 : isX 80 := ⟨⟨rfl, rfl, by decide, by decide⟩, by decide⟩
theorem isX_82 : isX 82 := ⟨⟨rfl, rfl, by decide, by decide⟩, by decide⟩
theorem isX_84 : isX 84 := ⟨⟨rfl, rfl, by decide, by decide⟩, by decide⟩
theorem isX_86 : isX 86 := ⟨⟨rfl, rfl, by decide, by decide⟩, by decide⟩
theorem isX_88 : isX 88 := ⟨⟨rfl, rfl, by decide, by decide⟩, by decide⟩
theorem isX_90 : isX 90 := ⟨⟨rfl, rfl, by decide, by decide⟩, by decide⟩
theorem isX_92 : isX 92 := ⟨⟨rfl, rfl, by decide, by decide⟩, by decide⟩
theorem isX_94 : isX 94 := ⟨⟨rfl, rfl, by decide, by decide⟩, by decide⟩
theorem nD {C j : Nat} (hC : C = 177 ∨ C = 186) (h : 1 ≤ j ∧ j ≤ 10 ∨ j = 18) : tb_rc C j = none := by
  have : j = 1 ∨ j = 2 ∨ j = 3 ∨ j = 4 ∨ j = 5 ∨ j = 6 ∨ j = 7 ∨ j = 8 ∨ j = 9 ∨ j = 10 ∨ j = 18 := by omega
  rcases hC with rfl | rfl <;> rcases this with rfl | rfl | rfl | rfl | rfl | rfl | rfl | rfl | rfl | rfl | rfl <;> rfl
theorem nD1 {C a j : Nat} (hC : C = 177 ∨ C = 186) (h : 1 ≤ a ∧ a ≤ 8) : tb_rc (C + a) j = none := by
  have : a = 1 ∨ a = 2 ∨ a = 3 ∨ a = 4 ∨ a = 5 ∨ a = 6 ∨ a = 7 ∨ a = 8 := by omega
  rcases hC with rfl | rfl <;> rcases this with rfl | rfl | rfl | rfl | rfl | rfl | rfl | rfl <;> exact n0 rfl (by omega) (by omega)
def relR (k j : Nat) : Bool := if k = 170 then (j == 1 || j == 2 || j == 3 || j == 4 || j == 5 || j == 6 || j == 7 || j == 14 || j == 15 || j == 16 || j == 21 || j == 22 || j == 23 || j == 24 || j == 25 || j == 26 || j == 35 || j == 36 || j == 37) else if k = 177 then (j == 1 || j == 2 || j == 3 || j == 10 || j == 4 || j == 5 || j == 6 || j == 7 || j == 8 || j == 9 || j == 18) else (k == 171 || k == 172 || k == 173 || k == 174 || k == 175 || k == 176 || k == 195 || k == 196 || k == 197 || k == 198 || k == 199 || k == 200 || k == 178 || k == 179 || k == 180 || k == 181 || k == 182 || k == 183 || k == 184 || k == 185 || k == 201 || k == 202)
def rPP : EPx := (177, 9, relR, 170, 19, (fun _ => True), (fun _ => True))
def inz (a b c : Int) : Int := if b ≤ a ∧ a ≤ c then 1 else 0
def rfg (t : tab) : tab := up2 (up2 (up2 (up2 (up2 t 170 22 0) 170 23 0) 170 24 0) 170 25 0) 170 26 0
def rop (t : tab) : tab := up2 (up2 t 170 15 (t 170 16)) 170 16 (ipl (t 170 16) 1)
