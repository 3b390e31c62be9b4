/-! Arrays copied into a thing that matters. -/
/-- a row copied over another -/
def cpt (t : tab) (k2 kf : Nat) (n : Int) : tab := fun k j => if k = k2 then (if (j : Int) < n then t kf j else t k2 j) else t k j
section COPYX
variable {P : EPx} {C : Nat} {M : hm_M} {N K pc row k k2 ci fi q d n rt r2 len : Nat} {lv : List (Nat × Value)} {st rest args : List Value} {s : rS} {v w : Value} {i : Instr} {x y : Int32} {Q Q2 : rS → hm_Out → Prop} {ty : FieldType} {a b z : Int} {t : tab} {X A B : RO} {KX : Int → tab → RO}
theorem pr_copy1 {f t ix : Nat} {n : Int} (ho : (hm_Mi M)[pc]? = some (some (.invokestatic ix, 3, 15, row))) (hx : (hm_Tl tb_T)[row]? = some (hm_Mo M, ix, 4)) (hf : tb_TG f = some (.inl .byte, 2000)) (ht : tb_TG t = some (.inl .byte, 2000)) (hf9 : 96 ≤ f) (ht9 : 96 ≤ t) (hn : 0 ≤ n ∧ n ≤ 2000) (hs : (st.map fun v => v.category).sum ≤ 8) (kk : ∀ r2 : tab, (∀ k j, r2 k j = if k = t then (if (j : Int) < n then s.1 f j else s.1 t j) else s.1 k j) → pr N K d M (pc + 3) lv st (r2, s.2) Q) : pr N K d M pc lv (vi n :: vi 0 :: .ref t :: vi 0 :: .ref f :: st) s Q := fun m9 hm9 g gf out hg hc hr => by
  obtain ⟨la, a1, a2⟩ := tg_arr (Rp_tg hg hf)
  obtain ⟨lb, b1, b2⟩ := tg_arr (Rp_tg hg ht)
  have hla : ∀ j, j < 2000 → la[j]? = some (vi (s.1 f j)) ∧ rg .byte (s.1 f j) := fun j hj => by
    have h1 := Rp_sl hg hf hj
    rw [sl_arr a1] at h1
    exact ⟨h1, Rp_rg hg hf hj⟩
  have hlb : ∀ j, j < 2000 → lb[j]? = some (vi (s.1 t j)) ∧ rg .byte (s.1 t j) := fun j hj => by
    have h1 := Rp_sl hg ht hj
    rw [sl_arr b1] at h1
    exact ⟨h1, Rp_rg hg ht hj⟩
  have hall : hm_allI .byte la = true := by
    unfold hm_allI
    rw [List.all_eq_true]
    intro v hv
    obtain ⟨j, hj⟩ := List.getElem?_of_mem hv
    have hj2 : j < 2000 := by rw [← a2]; exact (List.getElem?_eq_some_iff.mp hj).1
    have h1 := (hla j hj2).1
    rw [hj] at h1
    cases h1
    have h2 := fit_i (ty := .byte) (.inr (.inr rfl)) (hla j hj2).2
    unfold hm_fit at h2
    rw [Bool.and_eq_true] at h2
    exact h2.2
  obtain ⟨N9, hN⟩ : ∃ N9 : Nat, n = (N9 : Int) := ⟨n.toNat, by omega⟩
  subst hN
  have hcl : (Int32.ofInt (N9 : Int)).toNatClampNeg = N9 := by rw [i32_nat hn.1 (by omega)]; omega
  have h0 : (Int32.ofInt 0).toNatClampNeg = 0 := rfl
  let r2 : tab := fun k j => if k = t then (if j < N9 then s.1 f j else s.1 t j) else s.1 k j
  let g2 : hm_G := (g.1.set t (.inl (.byte, hm_cpy la lb 0 0 N9)), g.2)
  have htl : t < g.1.length := (List.getElem?_eq_some_iff.mp b1).1
  have hcp : ∀ j, j < 2000 → (hm_cpy la lb 0 0 N9)[j]? = some (vi (r2 t j)) := by
    intro j hj
    unfold hm_cpy
    rw [List.getElem?_map, List.getElem?_range (by omega)]
    show some (if 0 ≤ j ∧ j < 0 + N9 then la.getD (0 + (j - 0)) (.int 0) else lb.getD j (.int 0)) = _
    show _ = some (vi (if t = t then (if j < N9 then s.1 f j else s.1 t j) else s.1 t j))
    rw [if_pos rfl]
    by_cases e : j < N9
    · rw [if_pos (by omega), if_pos e, show 0 + (j - 0) = j by omega, List.getD_eq_getElem?_getD, (hla j hj).1]
      rfl
    · rw [if_neg (by omega), if_neg e, List.getD_eq_getElem?_getD, (hlb j hj).1]
      rfl
  have hg2 : rP g2 r2 := by
    refine ⟨fun k ty m hk => ?_, fun k e hk => ?_⟩
    · by_cases e : k = t
      · subst e
        cases ht.symm.trans hk
        have hself : g2.1[k]? = some (.inl (.byte, hm_cpy la lb 0 0 N9)) := List.getElem?_set_self htl
        refine ⟨?_, fun j hj => ⟨?_, ?_⟩⟩
        · unfold tg
          rw [hself]
          simp [hm_cpy, b2]
        · rw [sl_arr hself, hcp j hj]
          rfl
        · show rg .byte (if k = k then (if j < N9 then s.1 f j else s.1 k j) else s.1 k j)
          rw [if_pos rfl]
          split
          · exact (hla j hj).2
          · exact (hlb j hj).2
      · have hne : g2.1[k]? = g.1[k]? := List.getElem?_set_ne (Ne.symm e)
        have h1 := hg.1 k ty m hk
        have hr : ∀ j, r2 k j = s.1 k j := fun j => if_neg e
        refine ⟨?_, fun j hj => ?_⟩
        · have := h1.1
          unfold tg at this ⊢
          rw [hne]
          exact this
        · have := h1.2 j hj
          rw [hr]
          refine ⟨?_, this.2⟩
          have h3 := this.1
          unfold sl at h3 ⊢
          rw [hne]
          exact h3
    · have hne : t ≠ k := fun e2 => by rw [← e2] at hk; exact tb_RO_hi ht9 e hk
      exact (List.getElem?_set_ne hne).trans (hg.2 k e hk)
  have hst : hm_step tb_T (hm_call tb_T tb_pg K d) M (pc, lv, vi (N9 : Int) :: vi 0 :: .ref t :: vi 0 :: .ref f :: st, g) = some (.inl (pc + 3, lv, st, g2)) := by
    rw [hs_of ho]
    show hm_dL tb_T M (.invokestatic ix, 3, 15, row) pc lv (vi (N9 : Int) :: vi 0 :: .ref t :: vi 0 :: .ref f :: st) g = _
    unfold hm_dL
    rw [hx]
    dsimp only
    have hsum : ((vi (N9 : Int) :: vi 0 :: .ref t :: vi 0 :: .ref f :: st).map fun v => v.category).sum ≤ 16 := by
      show 1 + (1 + (1 + (1 + (1 + (st.map fun v => v.category).sum)))) ≤ 16
      omega
    rw [if_pos ⟨rfl, rfl, rfl, hsum⟩]
    have hlib : hm_lib (hm_Tro tb_T) 4 (vi (N9 : Int) :: vi 0 :: .ref t :: vi 0 :: .ref f :: st) g.1 = some (st, g.1.set t (.inl (.byte, hm_cpy la lb 0 0 N9))) := by
      show (match g.1[f]?, g.1[t]? with
        | some (.inl a), some (.inl b) => if hm_Tro tb_T ≤ f ∧ hm_Tro tb_T ≤ t ∧ a.1 = b.1 ∧ hm_ib b.1 = true ∧ hm_allI b.1 a.2 = true ∧ True ∧ ¬ Int32.ofInt 0 < 0 ∧ ¬ Int32.ofInt 0 < 0 ∧ ¬ Int32.ofInt (N9 : Int) < 0 ∧ (Int32.ofInt 0).toNatClampNeg + (Int32.ofInt (N9 : Int)).toNatClampNeg ≤ a.2.length ∧ (Int32.ofInt 0).toNatClampNeg + (Int32.ofInt (N9 : Int)).toNatClampNeg ≤ b.2.length then some (st, g.1.set t (.inl (b.1, hm_cpy a.2 b.2 (Int32.ofInt 0).toNatClampNeg (Int32.ofInt 0).toNatClampNeg (Int32.ofInt (N9 : Int)).toNatClampNeg))) else none
        | _, _ => none) = _
      rw [a1, b1]
      dsimp only
      rw [hcl, h0, if_pos ⟨hf9, ht9, rfl, rfl, hall, trivial, by decide, by decide, nn_i hn.1 (by omega), by omega, by omega⟩]
    rw [hlib]
    rfl
  obtain ⟨j, j1, j2⟩ := run_inl hr hst
  have hr2 : ∀ k j, r2 k j = if k = t then (if (j : Int) < (N9 : Int) then s.1 f j else s.1 t j) else s.1 k j := fun k j => by
    show (if k = t then (if j < N9 then s.1 f j else s.1 t j) else s.1 k j) = _
    by_cases e : j < N9
    · rw [if_pos e, if_pos (show (j : Int) < (N9 : Int) by omega)]
    · rw [if_neg e, if_neg (show ¬ (j : Int) < (N9 : Int) by omega)]
  exact kk r2 hr2 j (by omega) g2 gf out hg2 hc j2
theorem pr_copy2 {f q2 k2 kf ix : Nat} {n : Int} (hE : EE P C t s) (ho : (hm_Mi M)[pc]? = some (some (.invokestatic ix, 3, 15, row))) (hx : (hm_Tl tb_T)[row]? = some (hm_Mo M, ix, 4)) (hf : tb_TG f = some (.inl .byte, 2000)) (ht : tb_TG q2 = some (.inl .byte, 2000)) (hf9 : 96 ≤ f) (ht9 : 96 ≤ q2) (hn : i32 n) (hs : (st.map fun v => v.category).sum ≤ 8) (hc : ∀ j, tb_rc q2 j = none) (hp : ph P C k2 = q2) (hpf : ph P C kf = f) (hk : okk P k2) (hrf : ∀ j, P.2.2.1 kf j = true) (hv : q2 ≠ P.2.2.2.1) (hi : P.2.2.2.2.2.1 (cpt t k2 kf n)) (kk : ∀ s2 : rS, EE P C (cpt t k2 kf n) s2 → pr N K d M (pc + 3) lv st s2 Q) : pr N K d M pc lv (vi n :: vi 0 :: .ref q2 :: vi 0 :: .ref f :: st) s Q := by
  by_cases hb : 0 ≤ n ∧ n ≤ 2000
  · refine pr_copy1 ho hx hf ht hf9 ht9 hb hs fun r2 h2 => kk _ ?_
    have hne : ∀ k j, k ≠ q2 → r2 k j = s.1 k j := fun k j e => (h2 k j).trans (if_neg e)
    refine ⟨hE.1, fun k j v e => ?_, (hne _ _ (Ne.symm hv)).trans hE.2.2.1, fun k j e => ⟨(hE.2.2.2.1 k j e).1, ?_⟩, hi⟩
    · by_cases e2 : k = q2
      · rw [e2, hc] at e
        cases e
      · exact (hne k j e2).trans (hE.2.1 k j v e)
    · show r2 (ph P C k) j = cpt t k2 kf n k j
      unfold cpt
      by_cases e2 : k = k2
      · have e3 : s.1 q2 j = t k2 j := by
          have := (hE.2.2.2.1 k j e).2
          rw [e2, hp] at this
          exact this
        have e4 : s.1 f j = t kf j := by
          have := (hE.2.2.2.1 kf j (hrf j)).2
          rw [hpf] at this
          exact this
        rw [if_pos e2, e2, hp, h2 q2 j, if_pos rfl, e3, e4]
      · rw [if_neg e2, hne _ _ (fun q => e2 (ph_inj hE.1 (hE.2.2.2.1 k j e).1 hk (q.trans hp.symm)))]
        exact (hE.2.2.2.1 k j e).2
  · exact pr_copyx ho hx hf ht hn hb
end COPYX
