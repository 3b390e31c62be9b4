/-! Filling and copying. -/
theorem hf_ref (s : String) (q : Nat) : hm_fit (.object s) (.ref q) = true := by simp [hm_fit, narrow, fits]
section FILL
variable {M : hm_M} {pc row k ci fi q d n : Nat} {lv : List (Nat × Value)} {st : List Value} {s : rS} {Q : rS → hm_Out → Prop}
theorem wr_alen2 {ty : FieldType} (ho : (hm_Mi M)[pc]? = some (some (.arraylength, 1, 11, 2))) (ht : tb_TG q = some (.inl ty, n)) (kk : wr d M (pc + 1) lv (vi (n : Int) :: st) s Q) : wr d M pc lv (.ref q :: st) s Q := wr_alen ho ht (by rw [i32_ofNat]; exact kk)
theorem wr_copy {f t ix : Nat} {n : Int} (ho : (hm_Mi M)[pc]? = some (some (.invokestatic ix, 3, 15, row))) (hx : (hm_Tl tb_T)[row]? = some (hm_Mo M, ix, 4)) (hf : tb_TG f = some (.inl .byte, 2000)) (ht : tb_TG t = some (.inl .byte, 2000)) (hf9 : 96 ≤ f) (ht9 : 96 ≤ t) (hn : 0 ≤ n ∧ n ≤ 2000) (hs : (st.map fun v => v.category).sum ≤ 8) (kk : ∀ r2 : tab, (∀ k j, k ≠ t → r2 k j = s.1 k j) → wr d M (pc + 3) lv st (r2, s.2) Q) : wr d M pc lv (vi n :: vi 0 :: .ref t :: vi 0 :: .ref f :: st) s Q := fun g hg hc => by
  obtain ⟨la, a1, a2⟩ := tg_arr (Rp_tg hg hf)
  obtain ⟨lb, b1, b2⟩ := tg_arr (Rp_tg hg ht)
  have hla : ∀ j, j < 2000 → la[j]? = some (vi (s.1 f j)) ∧ rg .byte (s.1 f j) := fun j hj => by
    have h1 := Rp_sl hg hf hj
    rw [sl_arr a1] at h1
    exact ⟨h1, Rp_rg hg hf hj⟩
  have hlb : ∀ j, j < 2000 → lb[j]? = some (vi (s.1 t j)) ∧ rg .byte (s.1 t j) := fun j hj => by
    have h1 := Rp_sl hg ht hj
    rw [sl_arr b1] at h1
    exact ⟨h1, Rp_rg hg ht hj⟩
  have hall : hm_allI .byte la = true := by
    unfold hm_allI
    rw [List.all_eq_true]
    intro v hv
    obtain ⟨j, hj⟩ := List.getElem?_of_mem hv
    have hj2 : j < 2000 := by rw [← a2]; exact (List.getElem?_eq_some_iff.mp hj).1
    have h1 := (hla j hj2).1
    rw [hj] at h1
    cases h1
    have h2 := fit_i (ty := .byte) (.inr (.inr rfl)) (hla j hj2).2
    unfold hm_fit at h2
    rw [Bool.and_eq_true] at h2
    exact h2.2
  obtain ⟨N, hN⟩ : ∃ N : Nat, n = (N : Int) := ⟨n.toNat, by omega⟩
  subst hN
  have hcl : (Int32.ofInt (N : Int)).toNatClampNeg = N := by rw [i32_nat hn.1 (by omega)]; omega
  have h0 : (Int32.ofInt 0).toNatClampNeg = 0 := rfl
  let r2 : tab := fun k j => if k = t then (if j < N then s.1 f j else s.1 t j) else s.1 k j
  let g2 : hm_G := (g.1.set t (.inl (.byte, hm_cpy la lb 0 0 N)), g.2)
  have htl : t < g.1.length := (List.getElem?_eq_some_iff.mp b1).1
  have hcp : ∀ j, j < 2000 → (hm_cpy la lb 0 0 N)[j]? = some (vi (r2 t j)) := by
    intro j hj
    unfold hm_cpy
    rw [List.getElem?_map, List.getElem?_range (by omega)]
    show some (if 0 ≤ j ∧ j < 0 + N then la.getD (0 + (j - 0)) (.int 0) else lb.getD j (.int 0)) = _
    show _ = some (vi (if t = t then (if j < N then s.1 f j else s.1 t j) else s.1 t j))
    rw [if_pos rfl]
    by_cases e : j < N
    · rw [if_pos (by omega), if_pos e, show 0 + (j - 0) = j by omega, List.getD_eq_getElem?_getD, (hla j hj).1]
      rfl
    · rw [if_neg (by omega), if_neg e, List.getD_eq_getElem?_getD, (hlb j hj).1]
      rfl
  have hg2 : rP g2 r2 := by
    refine ⟨fun k ty m hk => ?_, fun k e hk => ?_⟩
    · by_cases e : k = t
      · subst e
        cases ht.symm.trans hk
        have hself : g2.1[k]? = some (.inl (.byte, hm_cpy la lb 0 0 N)) := List.getElem?_set_self htl
        refine ⟨?_, fun j hj => ⟨?_, ?_⟩⟩
        · unfold tg
          rw [hself]
          simp [hm_cpy, b2]
        · rw [sl_arr hself, hcp j hj]
          rfl
        · show rg .byte (if k = k then (if j < N then s.1 f j else s.1 k j) else s.1 k j)
          rw [if_pos rfl]
          split
          · exact (hla j hj).2
          · exact (hlb j hj).2
      · have hne : g2.1[k]? = g.1[k]? := List.getElem?_set_ne (Ne.symm e)
        have h1 := hg.1 k ty m hk
        have hr : ∀ j, r2 k j = s.1 k j := fun j => if_neg e
        refine ⟨?_, fun j hj => ?_⟩
        · have := h1.1
          unfold tg at this ⊢
          rw [hne]
          exact this
        · have := h1.2 j hj
          rw [hr]
          refine ⟨?_, this.2⟩
          have h3 := this.1
          unfold sl at h3 ⊢
          rw [hne]
          exact h3
    · have hne : t ≠ k := fun e2 => by rw [← e2] at hk; exact tb_RO_hi ht9 e hk
      exact (List.getElem?_set_ne hne).trans (hg.2 k e hk)
  obtain ⟨gf, out, k1, k2⟩ := kk r2 (fun k j hk => if_neg hk) g2 hg2 hc
  refine ⟨gf, out, hm_bo_go (fun call => ?_) k1, k2⟩
  rw [hs_of ho]
  show hm_dL tb_T M (.invokestatic ix, 3, 15, row) pc lv (vi (N : Int) :: vi 0 :: .ref t :: vi 0 :: .ref f :: st) g = _
  unfold hm_dL
  rw [hx]
  dsimp only
  have hsum : ((vi (N : Int) :: vi 0 :: .ref t :: vi 0 :: .ref f :: st).map fun v => v.category).sum ≤ 16 := by
    show 1 + (1 + (1 + (1 + (1 + (st.map fun v => v.category).sum)))) ≤ 16
    omega
  rw [if_pos ⟨rfl, rfl, rfl, hsum⟩]
  have hlib : hm_lib (hm_Tro tb_T) 4 (vi (N : Int) :: vi 0 :: .ref t :: vi 0 :: .ref f :: st) g.1 = some (st, g.1.set t (.inl (.byte, hm_cpy la lb 0 0 N))) := by
    show (match g.1[f]?, g.1[t]? with
      | some (.inl a), some (.inl b) => if hm_Tro tb_T ≤ f ∧ hm_Tro tb_T ≤ t ∧ a.1 = b.1 ∧ hm_ib b.1 = true ∧ hm_allI b.1 a.2 = true ∧ True ∧ ¬ Int32.ofInt 0 < 0 ∧ ¬ Int32.ofInt 0 < 0 ∧ ¬ Int32.ofInt (N : Int) < 0 ∧ (Int32.ofInt 0).toNatClampNeg + (Int32.ofInt (N : Int)).toNatClampNeg ≤ a.2.length ∧ (Int32.ofInt 0).toNatClampNeg + (Int32.ofInt (N : Int)).toNatClampNeg ≤ b.2.length then some (st, g.1.set t (.inl (b.1, hm_cpy a.2 b.2 (Int32.ofInt 0).toNatClampNeg (Int32.ofInt 0).toNatClampNeg (Int32.ofInt (N : Int)).toNatClampNeg))) else none
      | _, _ => none) = _
    rw [a1, b1]
    dsimp only
    rw [hcl, h0, if_pos ⟨hf9, ht9, rfl, rfl, hall, trivial, by decide, by decide, nn_i hn.1 (by omega), by omega, by omega⟩]
  rw [hlib]
  rfl
end FILL
/-- Arrays.fill of ints -/
theorem l_fill {d q n : Nat} {v : Int} {r : tab} (ht : tb_TG q = some (.inl .int, n)) (hn : n ≤ 30000) (hq : 96 ≤ q) (hv : i32 v) : ∀ (w i : Nat) (t : rS), n - i = w → i ≤ n → (∀ k j, k ≠ q → t.1 k j = r k j) → (∀ j, j < i → t.1 q j = v) → wr d tb_M23 5 [(2, vi (i : Int)), (3, vi (n : Int)), (0, .ref q), (1, vi v)] [] t (fun s2 out => out = some none ∧ s2.2 = t.2 ∧ (∀ k j, k ≠ q → s2.1 k j = r k j) ∧ ∀ j, j < n → s2.1 q j = v) := by
  unfold i32 at hv
  intro w
  induction w with
  | zero =>
    intro i t hw hi h1 h2
    have e : i = n := by omega
    subst e
    refine wr_n (pc2 := 7) (lv2 := [(2, vi (i : Int)), (3, vi (i : Int)), (0, .ref q), (1, vi v)]) (st2 := [vi (i : Int), vi (i : Int)]) 2 (fun _ _ => rfl) ?_
    refine wr_if2t rfl rfl (by unfold i32; omega) (by unfold i32; omega) (show (i : Int) ≤ (i : Int) by omega) ?_
    exact wr_end (fun _ _ => rfl) ⟨rfl, rfl, h1, h2⟩
  | succ w ih =>
    intro i t hw hi h1 h2
    refine wr_n (pc2 := 7) (lv2 := [(2, vi (i : Int)), (3, vi (n : Int)), (0, .ref q), (1, vi v)]) (st2 := [vi (n : Int), vi (i : Int)]) 2 (fun _ _ => rfl) ?_
    refine wr_if2f rfl rfl (by unfold i32; omega) (by unfold i32; omega) (show ¬ (n : Int) ≤ (i : Int) by omega) ?_
    refine wr_n (pc2 := 13) (lv2 := [(2, vi (i : Int)), (3, vi (n : Int)), (0, .ref q), (1, vi v)]) (st2 := [vi v, vi (i : Int), .ref q]) 3 (fun _ _ => rfl) ?_
    refine wr_ast (a := (i : Int)) (z := v) rfl hq ht rfl (by omega) (by omega) (by omega) rfl (show -2147483648 ≤ v ∧ v ≤ 2147483647 by omega) ?_
    refine wr_inc (a := (i : Int)) rfl rfl ?_
    refine wr_n (pc2 := 5) (lv2 := [(2, vi ((i : Int) + 1)), (3, vi (n : Int)), (0, .ref q), (1, vi v)]) (st2 := []) 1 (fun _ _ => rfl) ?_
    rw [show (i : Int) + 1 = ((i + 1 : Nat) : Int) by omega]
    refine ih (i + 1) _ (by omega) (by omega) (fun k j hk => (if_neg (fun e => hk e.1)).trans (h1 k j hk)) (fun j hj => ?_)
    by_cases e : j = i
    · subst e
      show up2 t.1 q ((j : Int)).toNat v q j = v
      rw [Int.toNat_natCast]
      exact up_self
    · show up2 t.1 q ((i : Int)).toNat v q j = v
      rw [Int.toNat_natCast, up_nj e]
      exact h2 j (by omega)
theorem c_fill {d q n : Nat} {v : Int} (ht : tb_TG q = some (.inl .int, n)) (hn0 : 1 ≤ n) (hn : n ≤ 30000) (hq : 96 ≤ q) (hv : i32 v) (s : rS) : cr (d + 1) 23 [.ref q, vi v] s (fun s2 out => out = some none ∧ s2.2 = s.2 ∧ (∀ k j, k ≠ q → s2.1 k j = s.1 k j) ∧ ∀ j, j < n → s2.1 q j = v) := by
  have hv2 := hv
  unfold i32 at hv2
  refine cr_of (M := tb_M23) rfl (Nat.le_of_ble_eq_true rfl) ?_
  show wr d tb_M23 0 [(0, .ref q), (1, vi v)] [] s _
  refine wr_n (pc2 := 3) (lv2 := [(2, vi 0), (0, .ref q), (1, vi v)]) (st2 := [.ref q]) 3 (fun _ _ => rfl) ?_
  refine wr_alen2 rfl ht ?_
  refine wr_n (pc2 := 7) (lv2 := [(3, vi (n : Int)), (2, vi 0), (0, .ref q), (1, vi v)]) (st2 := [vi (n : Int), vi 0]) 3 (fun _ _ => rfl) ?_
  refine wr_if2f rfl rfl (by unfold i32; omega) (by unfold i32; omega) (show ¬ (n : Int) ≤ 0 by omega) ?_
  refine wr_n (pc2 := 13) (lv2 := [(3, vi (n : Int)), (2, vi 0), (0, .ref q), (1, vi v)]) (st2 := [vi v, vi 0, .ref q]) 3 (fun _ _ => rfl) ?_
  refine wr_ast (a := 0) (z := v) rfl hq ht rfl (by omega) (by omega) (by omega) rfl (show -2147483648 ≤ v ∧ v ≤ 2147483647 by omega) ?_
  refine wr_inc (a := 0) rfl rfl ?_
  refine wr_n (pc2 := 5) (lv2 := [(2, vi ((1 : Nat) : Int)), (3, vi (n : Int)), (0, .ref q), (1, vi v)]) (st2 := []) 1 (fun _ _ => rfl) ?_
  refine l_fill (r := s.1) ht hn hq hv _ 1 _ rfl (by omega) (fun k j hk => if_neg (fun e => hk e.1)) (fun j hj => ?_)
  rw [show j = 0 by omega]
  show up2 s.1 q 0 v q 0 = v
  exact up_self
