/-! Our own calls, once more: what p6 wants kept. -/
def HL (r r2 : tab) : Prop := ∀ k j, ¬ (k = 97 ∧ j = 1) → r2 k j = r k j
def XPL (c : Nat) (t : Int → Prop) (s : rS) : rS → hm_Out → Prop := fun s2 out => (∃ v : Value, out = some (some v) ∧ v.category = c) ∧ (s2.2 = s.2 ∨ s2.2 = (s.2.1 + 1, s.2.2 + 6)) ∧ (∃ C D E, XI C D E s2.1) ∧ HL s.1 s2.1 ∧ t (s2.1 97 1)
set_option maxHeartbeats 20000000 in
set_option maxRecDepth 100000 in
theorem zz_look {d C D E : Nat} {x : Int} (s : rS) (hXI : XI C D E s.1) (hx : (-2147483648) ≤ x ∧ x ≤ 2147483647)  : cr (d + 4) 113 [.ref 96, vi x] s (XPL 2 (fun t => t = 0) s) := by
  obtain ⟨hK, hC, hD, hE, r1, r2, r3⟩ := hXI
  refine cr_of (M := tb_M113) rfl (Nat.le_of_ble_eq_true rfl) ?_
  show wr (d + 3) tb_M113 0 [(0, .ref 96), (1, vi x)] [] s _
  refine wr_n (pc2 := 1) (lv2 := [(0, .ref 96), (1, vi x)]) (st2 := [.ref 96]) 1 (fun _ _ => rfl) ?_
  refine wr_get (v := .ref 97) rfl rfl rfl (by decide) (rv_ref (hK.1 96 0 97 rfl)) fun h1 => ?_
  show wr (d + 3) tb_M113 4 [(0, .ref 96), (1, vi x)] [.ref 97] s _
  refine wr_call1 (args := []) (rest := []) rfl rfl rfl rfl (Nat.le_of_ble_eq_true rfl) (cr_mono (k_word (d := d + 0) s hK) ?_)
  rintro s2 out ⟨z2, rfl, hz2, e2⟩
  refine ⟨_, rfl, ?_⟩
  rw [e2]
  show wr (d + 3) tb_M113 7 [(0, .ref 96), (1, vi x)] [vl z2] s _
  refine wr_n (pc2 := 9) (lv2 := [(2, vl z2), (0, .ref 96), (1, vi x)]) (st2 := [.ref 96]) 2 (fun _ _ => rfl) ?_
  refine wr_get (v := .ref 97) rfl rfl rfl (by decide) (rv_ref (hK.1 96 0 97 rfl)) fun h3 => ?_
  show wr (d + 3) tb_M113 12 [(2, vl z2), (0, .ref 96), (1, vi x)] [.ref 97] s _
  refine wr_n (pc2 := 13) (lv2 := [(2, vl z2), (0, .ref 96), (1, vi x)]) (st2 := [vi 0, .ref 97]) 1 (fun _ _ => rfl) ?_
  refine wr_put (z := 0) rfl rfl rfl rfl (by decide) rfl (by decide) rfl (show -2147483648 ≤ 0 ∧ 0 ≤ 2147483647 by omega) (hf_int' _) ?_
  show wr (d + 3) tb_M113 16 [(2, vl z2), (0, .ref 96), (1, vi x)] [] (up2 s.1 97 1 0, s.2) _
  have hK4 : KI (up2 s.1 97 1 0) := (KI_up hK rfl (kb_of rfl (show 0 ≤ 0 ∧ 0 ≤ 2000 by omega)))
  refine wr_n (pc2 := 17) (lv2 := [(2, vl z2), (0, .ref 96), (1, vi x)]) (st2 := [.ref 96]) 1 (fun _ _ => rfl) ?_
  refine wr_get (v := vi (s.1 96 3)) rfl rfl rfl (by decide) rfl fun h5 => ?_
  have h5 : 0 ≤ s.1 96 3 ∧ s.1 96 3 ≤ 1 := h5
  show wr (d + 3) tb_M113 20 [(2, vl z2), (0, .ref 96), (1, vi x)] [vi (s.1 96 3)] (up2 s.1 97 1 0, s.2) _
  by_cases h6 : s.1 96 3 = 0
  · refine wr_if1t rfl rfl (by unfold i32; omega) h6 ?_
    refine wr_n (pc2 := 37) (lv2 := [(2, vl z2), (0, .ref 96), (1, vi x)]) (st2 := [vl 1099511627776]) 1 (fun _ _ => rfl) ?_
    refine wr_end (fun _ _ => rfl) ?_
    obtain ⟨q7, hs7⟩ : ∃ qq9 : rS, qq9 = (up2 s.1 97 1 0, s.2) := ⟨_, rfl⟩
    rw [← hs7]
    have hK7 : KI q7.1 := by rw [hs7]; exact hK4
    have r1_7 : q7.1 96 1 = (C : Int) := by rw [hs7]; exact (show (up2 s.1 97 1 0) 96 1 = (C : Int) from ((if_neg (by omega)).trans r1))
    have r2_7 : q7.1 96 2 = (D : Int) := by rw [hs7]; exact (show (up2 s.1 97 1 0) 96 2 = (D : Int) from ((if_neg (by omega)).trans r2))
    have r3_7 : q7.1 142 0 = (E : Int) := by rw [hs7]; exact (show (up2 s.1 97 1 0) 142 0 = (E : Int) from ((if_neg (by omega)).trans r3))
    have tp_7 : q7.1 97 1 = 0 := by rw [hs7]; exact (show (up2 s.1 97 1 0) 97 1 = 0 from up_self)
    have hi_7 : HL s.1 q7.1 := by rw [hs7]; exact (fun k j hk => (show (up2 s.1 97 1 0) k j = s.1 k j from ((if_neg (by omega)).trans ((fun _ _ _ => rfl : HL s.1 s.1) k j hk))))
    have ce_7 : q7.2 = s.2 := by rw [hs7]
    clear hs7
    exact ⟨⟨_, rfl, rfl⟩, .inl ce_7, ⟨C, D, E, hK7, hC, hD, hE, r1_7, r2_7, r3_7⟩, hi_7, tp_7⟩
  · refine wr_if1f rfl rfl (by unfold i32; omega) h6 ?_
    refine wr_n (pc2 := 24) (lv2 := [(2, vl z2), (0, .ref 96), (1, vi x)]) (st2 := [.ref 96]) 1 (fun _ _ => rfl) ?_
    refine wr_get (v := .ref 142) rfl rfl rfl (by decide) (rv_ref (hK4.1 96 5 142 rfl)) fun h8 => ?_
    show wr (d + 3) tb_M113 27 [(2, vl z2), (0, .ref 96), (1, vi x)] [.ref 142] (up2 s.1 97 1 0, s.2) _
    refine wr_get (v := vi (s.1 142 14)) rfl rfl rfl (by decide) rfl fun h9 => ?_
    have h9 : -2147483648 ≤ s.1 142 14 ∧ s.1 142 14 ≤ 2147483647 := h9
    show wr (d + 3) tb_M113 30 [(2, vl z2), (0, .ref 96), (1, vi x)] [vi (s.1 142 14)] (up2 s.1 97 1 0, s.2) _
    refine wr_n (pc2 := 31) (lv2 := [(2, vl z2), (0, .ref 96), (1, vi x)]) (st2 := [vi 3, vi (s.1 142 14)]) 1 (fun _ _ => rfl) ?_
    by_cases h10 : s.1 142 14 ≠ 3
    · refine wr_if2t rfl rfl (by unfold i32; omega) (by unfold i32; omega) h10 ?_
      refine wr_n (pc2 := 39) (lv2 := [(2, vl z2), (0, .ref 96), (1, vi x)]) (st2 := [.ref 96]) 1 (fun _ _ => rfl) ?_
      refine wr_get (v := .ref C) rfl rfl rfl (by decide) (rv_ref (show (up2 s.1 97 1 0) 96 1 = ((C : Nat) : Int) from ((if_neg (by omega)).trans r1))) fun h11 => ?_
      show wr (d + 3) tb_M113 42 [(2, vl z2), (0, .ref 96), (1, vi x)] [.ref C] (up2 s.1 97 1 0, s.2) _
      refine wr_get (v := .ref (C + 6)) rfl rfl (TK0 hC) (by decide) (rv_ref (hK4.1 C 5 (C + 6) (rcK hC (by omega)))) fun h12 => ?_
      show wr (d + 3) tb_M113 45 [(2, vl z2), (0, .ref 96), (1, vi x)] [.ref (C + 6)] (up2 s.1 97 1 0, s.2) _
      refine wr_n (pc2 := 51) (lv2 := [(4, .ref (C + 6)), (2, vl z2), (0, .ref 96), (1, vi x)]) (st2 := [vi 0, vl z2, .ref (C + 6)]) 4 (fun _ _ => rfl) ?_
      obtain ⟨q13, hs13⟩ : ∃ qq9 : rS, qq9 = (up2 s.1 97 1 0, s.2) := ⟨_, rfl⟩
      rw [← hs13]
      have hK13 : KI q13.1 := by rw [hs13]; exact hK4
      have r1_13 : q13.1 96 1 = (C : Int) := by rw [hs13]; exact (show (up2 s.1 97 1 0) 96 1 = (C : Int) from ((if_neg (by omega)).trans r1))
      have r2_13 : q13.1 96 2 = (D : Int) := by rw [hs13]; exact (show (up2 s.1 97 1 0) 96 2 = (D : Int) from ((if_neg (by omega)).trans r2))
      have r3_13 : q13.1 142 0 = (E : Int) := by rw [hs13]; exact (show (up2 s.1 97 1 0) 142 0 = (E : Int) from ((if_neg (by omega)).trans r3))
      have tp_13 : q13.1 97 1 = 0 := by rw [hs13]; exact (show (up2 s.1 97 1 0) 97 1 = 0 from up_self)
      have hi_13 : HL s.1 q13.1 := by rw [hs13]; exact (fun k j hk => (show (up2 s.1 97 1 0) k j = s.1 k j from ((if_neg (by omega)).trans ((fun _ _ _ => rfl : HL s.1 s.1) k j hk))))
      have ce_13 : q13.2 = s.2 := by rw [hs13]
      clear hs13
      refine wr_call1 (args := [vl z2, vi 0]) (rest := []) rfl rfl rfl (TK6 hC) (Nat.le_of_ble_eq_true rfl) (cr_mono (k_find (d := d + 2) (C := C) hC (w := z2) (x := 0) q13 hK13 hz2 (by omega)) ?_)
      rintro s14 out ⟨z14, rfl, hz14, hp14, e14⟩
      refine ⟨_, rfl, ?_⟩
      rw [e14]
      unfold i32 at hz14
      clear hp14
      show wr (d + 3) tb_M113 54 [(4, .ref (C + 6)), (2, vl z2), (0, .ref 96), (1, vi x)] [vi z14] q13 _
      refine wr_n (pc2 := 60) (lv2 := [(5, vi z14), (4, .ref (C + 6)), (2, vl z2), (0, .ref 96), (1, vi x)]) (st2 := [vi z14, .ref (C + 6)]) 3 (fun _ _ => rfl) ?_
      refine wr_call1 (args := [vi z14]) (rest := []) rfl rfl rfl (TK6 hC) (Nat.le_of_ble_eq_true rfl) (cr_mono (k_nkind (d := d + 2) (C := C) hC (x := z14) q13 hK13 (by omega)) ?_)
      rintro s15 out ⟨z15, rfl, hz15, hp15, e15⟩
      refine ⟨_, rfl, ?_⟩
      rw [e15]
      unfold i32 at hz15
      clear hp15
      show wr (d + 3) tb_M113 63 [(5, vi z14), (4, .ref (C + 6)), (2, vl z2), (0, .ref 96), (1, vi x)] [vi z15] q13 _
      by_cases h16 : z15 ≠ 0
      · refine wr_if1t rfl rfl (by unfold i32; omega) h16 ?_
        refine wr_n (pc2 := 86) (lv2 := [(5, vi z14), (4, .ref (C + 6)), (2, vl z2), (0, .ref 96), (1, vi x)]) (st2 := [vi z14, .ref (C + 6)]) 2 (fun _ _ => rfl) ?_
        refine wr_call1 (args := [vi z14]) (rest := []) rfl rfl rfl (TK6 hC) (Nat.le_of_ble_eq_true rfl) (cr_mono (k_nkind (d := d + 2) (C := C) hC (x := z14) q13 hK13 (by omega)) ?_)
        rintro s17 out ⟨z17, rfl, hz17, hp17, e17⟩
        refine ⟨_, rfl, ?_⟩
        rw [e17]
        unfold i32 at hz17
        clear hp17
        show wr (d + 3) tb_M113 89 [(5, vi z14), (4, .ref (C + 6)), (2, vl z2), (0, .ref 96), (1, vi x)] [vi z17] q13 _
        refine wr_n (pc2 := 90) (lv2 := [(5, vi z14), (4, .ref (C + 6)), (2, vl z2), (0, .ref 96), (1, vi x)]) (st2 := [vi 1, vi z17]) 1 (fun _ _ => rfl) ?_
        by_cases h18 : z17 ≠ 1
        · refine wr_if2t rfl rfl (by unfold i32; omega) (by unfold i32; omega) h18 ?_
          refine wr_n (pc2 := 115) (lv2 := [(5, vi z14), (4, .ref (C + 6)), (2, vl z2), (0, .ref 96), (1, vi x)]) (st2 := [vl 1099511627776]) 1 (fun _ _ => rfl) ?_
          refine wr_end (fun _ _ => rfl) ?_
          exact ⟨⟨_, rfl, rfl⟩, .inl ce_13, ⟨C, D, E, hK13, hC, hD, hE, r1_13, r2_13, r3_13⟩, hi_13, tp_13⟩
        · refine wr_if2f rfl rfl (by unfold i32; omega) (by unfold i32; omega) h18 ?_
          refine wr_n (pc2 := 94) (lv2 := [(5, vi z14), (4, .ref (C + 6)), (2, vl z2), (0, .ref 96), (1, vi x)]) (st2 := [.ref 96]) 1 (fun _ _ => rfl) ?_
          refine wr_get (v := .ref 142) rfl rfl rfl (by decide) (rv_ref (hK13.1 96 5 142 rfl)) fun h19 => ?_
          show wr (d + 3) tb_M113 97 [(5, vi z14), (4, .ref (C + 6)), (2, vl z2), (0, .ref 96), (1, vi x)] [.ref 142] q13 _
          refine wr_n (pc2 := 101) (lv2 := [(5, vi z14), (4, .ref (C + 6)), (2, vl z2), (0, .ref 96), (1, vi x)]) (st2 := [vi z14, .ref (C + 6), .ref 142]) 2 (fun _ _ => rfl) ?_
          refine wr_call1 (args := [vi z14]) (rest := [.ref 142]) rfl rfl rfl (TK6 hC) (Nat.le_of_ble_eq_true rfl) (cr_mono (k_nnumber (d := d + 2) (C := C) hC (x := z14) q13 hK13 (by omega)) ?_)
          rintro s20 out ⟨z20, rfl, hz20, hp20, e20⟩
          refine ⟨_, rfl, ?_⟩
          rw [e20]
          unfold i32 at hz20
          clear hp20
          show wr (d + 3) tb_M113 104 [(5, vi z14), (4, .ref (C + 6)), (2, vl z2), (0, .ref 96), (1, vi x)] [vi z20, .ref 142] q13 _
          refine wr_n (pc2 := 105) (lv2 := [(5, vi z14), (4, .ref (C + 6)), (2, vl z2), (0, .ref 96), (1, vi x)]) (st2 := [vi x, vi z20, .ref 142]) 1 (fun _ _ => rfl) ?_
          refine wr_call1 (args := [vi z20, vi x]) (rest := []) rfl rfl rfl rfl (Nat.le_of_ble_eq_true rfl) (cr_mono (k_item (d := d + 1) (C := E) hE (x := z20) (y := x) q13 hK13 r3_13 (by omega) (by omega)) ?_)
          rintro s21 out ⟨z21, rfl, hz21, hp21, e21⟩
          refine ⟨_, rfl, ?_⟩
          rw [e21]
          unfold i32 at hz21
          clear hp21
          show wr (d + 3) tb_M113 108 [(5, vi z14), (4, .ref (C + 6)), (2, vl z2), (0, .ref 96), (1, vi x)] [vi z21] q13 _
          refine wr_i2l (a := z21) rfl (by unfold i32; omega) ?_
          show wr (d + 3) tb_M113 109 [(5, vi z14), (4, .ref (C + 6)), (2, vl z2), (0, .ref 96), (1, vi x)] [vl z21] q13 _
          refine wr_n (pc2 := 115) (lv2 := [(5, vi z14), (4, .ref (C + 6)), (2, vl z2), (0, .ref 96), (1, vi x)]) (st2 := [vl z21]) 1 (fun _ _ => rfl) ?_
          refine wr_end (fun _ _ => rfl) ?_
          exact ⟨⟨_, rfl, rfl⟩, .inl ce_13, ⟨C, D, E, hK13, hC, hD, hE, r1_13, r2_13, r3_13⟩, hi_13, tp_13⟩
      · refine wr_if1f rfl rfl (by unfold i32; omega) h16 ?_
        refine wr_n (pc2 := 67) (lv2 := [(5, vi z14), (4, .ref (C + 6)), (2, vl z2), (0, .ref 96), (1, vi x)]) (st2 := [.ref 96]) 1 (fun _ _ => rfl) ?_
        refine wr_get (v := .ref 142) rfl rfl rfl (by decide) (rv_ref (hK13.1 96 5 142 rfl)) fun h22 => ?_
        show wr (d + 3) tb_M113 70 [(5, vi z14), (4, .ref (C + 6)), (2, vl z2), (0, .ref 96), (1, vi x)] [.ref 142] q13 _
        refine wr_n (pc2 := 74) (lv2 := [(5, vi z14), (4, .ref (C + 6)), (2, vl z2), (0, .ref 96), (1, vi x)]) (st2 := [vi z14, .ref (C + 6), .ref 142]) 2 (fun _ _ => rfl) ?_
        refine wr_call1 (args := [vi z14]) (rest := [.ref 142]) rfl rfl rfl (TK6 hC) (Nat.le_of_ble_eq_true rfl) (cr_mono (k_nnumber (d := d + 2) (C := C) hC (x := z14) q13 hK13 (by omega)) ?_)
        rintro s23 out ⟨z23, rfl, hz23, hp23, e23⟩
        refine ⟨_, rfl, ?_⟩
        rw [e23]
        unfold i32 at hz23
        clear hp23
        show wr (d + 3) tb_M113 77 [(5, vi z14), (4, .ref (C + 6)), (2, vl z2), (0, .ref 96), (1, vi x)] [vi z23, .ref 142] q13 _
        refine wr_call1 (args := [vi z23]) (rest := []) rfl rfl rfl rfl (Nat.le_of_ble_eq_true rfl) (cr_mono (k_variable (d := d + 2) (x := z23) q13 hK13 (by omega)) ?_)
        rintro s24 out ⟨z24, rfl, hz24, hp24, e24⟩
        refine ⟨_, rfl, ?_⟩
        rw [e24]
        unfold i32 at hz24
        clear hp24
        show wr (d + 3) tb_M113 80 [(5, vi z14), (4, .ref (C + 6)), (2, vl z2), (0, .ref 96), (1, vi x)] [vi z24] q13 _
        refine wr_i2l (a := z24) rfl (by unfold i32; omega) ?_
        show wr (d + 3) tb_M113 81 [(5, vi z14), (4, .ref (C + 6)), (2, vl z2), (0, .ref 96), (1, vi x)] [vl z24] q13 _
        refine wr_end (fun _ _ => rfl) ?_
        exact ⟨⟨_, rfl, rfl⟩, .inl ce_13, ⟨C, D, E, hK13, hC, hD, hE, r1_13, r2_13, r3_13⟩, hi_13, tp_13⟩
    · refine wr_if2f rfl rfl (by unfold i32; omega) (by unfold i32; omega) h10 ?_
      refine wr_n (pc2 := 37) (lv2 := [(2, vl z2), (0, .ref 96), (1, vi x)]) (st2 := [vl 1099511627776]) 1 (fun _ _ => rfl) ?_
      refine wr_end (fun _ _ => rfl) ?_
      obtain ⟨q25, hs25⟩ : ∃ qq9 : rS, qq9 = (up2 s.1 97 1 0, s.2) := ⟨_, rfl⟩
      rw [← hs25]
      have hK25 : KI q25.1 := by rw [hs25]; exact hK4
      have r1_25 : q25.1 96 1 = (C : Int) := by rw [hs25]; exact (show (up2 s.1 97 1 0) 96 1 = (C : Int) from ((if_neg (by omega)).trans r1))
      have r2_25 : q25.1 96 2 = (D : Int) := by rw [hs25]; exact (show (up2 s.1 97 1 0) 96 2 = (D : Int) from ((if_neg (by omega)).trans r2))
      have r3_25 : q25.1 142 0 = (E : Int) := by rw [hs25]; exact (show (up2 s.1 97 1 0) 142 0 = (E : Int) from ((if_neg (by omega)).trans r3))
      have tp_25 : q25.1 97 1 = 0 := by rw [hs25]; exact (show (up2 s.1 97 1 0) 97 1 = 0 from up_self)
      have hi_25 : HL s.1 q25.1 := by rw [hs25]; exact (fun k j hk => (show (up2 s.1 97 1 0) k j = s.1 k j from ((if_neg (by omega)).trans ((fun _ _ _ => rfl : HL s.1 s.1) k j hk))))
      have ce_25 : q25.2 = s.2 := by rw [hs25]
      clear hs25
      exact ⟨⟨_, rfl, rfl⟩, .inl ce_25, ⟨C, D, E, hK25, hC, hD, hE, r1_25, r2_25, r3_25⟩, hi_25, tp_25⟩
/-- Work, and the circuit that is not compiled into -/
def FWK (D k : Nat) : Prop := 142 ≤ k ∧ k ≤ 169 ∨ (D = 99 ∧ 115 ≤ k ∧ k < 131 ∨ D = 115 ∧ 99 ≤ k ∧ k < 115)
/-- behind compile -/
def XC2 (C D E : Nat) (Q2 : rS → hm_Out → Prop) (QZ : rS → rS → hm_Out → Prop) (s : rS) : rS → hm_Out → Prop := fun s2 out => XP 1 (fun t => t = 0) s s2 out ∧
  ((s2.1 96 3 = 1 ∧ (s2.1 96 1 = (D : Int) ∧ s2.1 96 2 = (C : Int) ∧ s2.1 142 0 = (D : Int)) ∧ ∃ s9, Q2 s9 (some none) ∧ s9.1 131 3 = -2 ∧ ∃ s5 : rS, (∀ k j, inR k j → 98 ≤ k → s5.1 k j = s9.1 k j) ∧ (∀ k j, FWK D k → s5.1 k j = s.1 k j) ∧ s5.1 97 1 = 0 ∧ s5.1 96 1 = (D : Int) ∧ s5.1 96 3 = 1 ∧ KI s5.1 ∧ ∃ s6 : rS, s6.2 = s2.2 ∧ QZ s5 s6 (some none) ∧ ∃ g, rP g s2.1 ∧ rP g s6.1) ∨
  (s2.1 96 3 = s.1 96 3 ∧ (s2.1 96 1 = (C : Int) ∧ s2.1 96 2 = (D : Int) ∧ s2.1 142 0 = (E : Int)) ∧ (∀ k j, FWK D k → s2.1 k j = s.1 k j) ∧ ∃ s9 o9, Q2 s9 o9 ∧ (∀ j, j < 2001 → s2.1 140 j = s9.1 140 j) ∧ (o9 = some none ∧ s9.1 131 3 ≠ -2 ∨ o9 = none ∧ s9.1 131 2 ≠ -2)) ∨
  (s2.1 96 3 = 1 ∧ ∃ s9, Q2 s9 none ∧ s9.1 131 2 = -2))
set_option maxHeartbeats 20000000 in
set_option maxRecDepth 100000 in
theorem zz_compile {d C D E : Nat} (s : rS) (hXI : XI C D E s.1) {Q2 : rS → hm_Out → Prop} {QZ : rS → rS → hm_Out → Prop} (hX : ∀ K, pcr K (d + 245) 20 [.ref 131, .ref D] s Q2) (hZ : ∀ s9 s5 : rS, Q2 s9 (some none) → s9.1 131 3 = -2 → KI s5.1 → s5.1 96 1 = (D : Int) → s5.1 96 3 = 1 → (∀ k j, inR k j → 98 ≤ k → s5.1 k j = s9.1 k j) → ∀ K, pcr K (d + 245) 78 [.ref 142, .ref D] s5 (QZ s5))   : cr (d + 246) 19 [.ref 96] s (XC2 C D E Q2 QZ s) := by
  obtain ⟨hK, hC, hD, hE, r1, r2, r3⟩ := hXI
  refine cr_of (M := tb_M19) rfl (Nat.le_of_ble_eq_true rfl) ?_
  show wr (d + 245) tb_M19 0 [(0, .ref 96)] [] s _
  refine wr_n (pc2 := 4) (lv2 := [(1, vi ((-2))), (0, .ref 96)]) (st2 := [.ref 96]) 3 (fun _ _ => rfl) ?_
  refine wr_get (v := .ref 131) rfl rfl rfl (by decide) (rv_ref (hK.1 96 4 131 rfl)) fun h1 => ?_
  show wr (d + 245) tb_M19 7 [(1, vi ((-2))), (0, .ref 96)] [.ref 131] s _
  refine wr_n (pc2 := 8) (lv2 := [(1, vi ((-2))), (0, .ref 96)]) (st2 := [.ref 96, .ref 131]) 1 (fun _ _ => rfl) ?_
  refine wr_get (v := .ref D) rfl rfl rfl (by decide) (rv_ref (show (s.1) 96 2 = ((D : Nat) : Int) from r2)) fun h2 => ?_
  show wr (d + 245) tb_M19 11 [(1, vi ((-2))), (0, .ref 96)] [.ref D, .ref 131] s _
  refine wr_call1H (args := [.ref D]) (rest := []) rfl rfl rfl rfl (Nat.le_of_ble_eq_true rfl) rfl (by decide) (cr_mono (cr_pcr (k_programq (d := d) (C := D) hD s hK) hX) ?_)
  rintro s3 out ⟨⟨hK3, hY3, ⟨hc3, rfl⟩ | ⟨rfl, hc3⟩⟩, s9, _, hq, gg, hg2, hg9⟩
  · refine .inl ⟨_, rfl, ?_⟩
    have f3 : s3.1 131 3 = s9.1 131 3 := rP_int hg2 hg9 (k := 131) (j := 3) rfl (by decide) rfl
    have f2 : s3.1 131 2 = s9.1 131 2 := rP_int hg2 hg9 (k := 131) (j := 2) rfl (by decide) rfl
    have f4 : ∀ j, j < 2001 → s3.1 140 j = s9.1 140 j := fun j hj => rP_int hg2 hg9 (k := 140) (j := j) rfl hj rfl
    have m3 : s3.1 96 3 = s.1 96 3 := (hY3 96 3 (by unfold fxq fx; omega)).trans (show (up2 s.1 131 1 ((D : Int))) 96 3 = s.1 96 3 from (if_neg (by omega)))
    have w3 : ∀ k j, FWK D k → s3.1 k j = s.1 k j := fun k j hk => (hY3 k j (by unfold FWK at hk; unfold fxq fx; omega)).trans (show (up2 s.1 131 1 ((D : Int))) k j = s.1 k j from (if_neg (by unfold FWK at hk; omega)))
    have hC3 : s3.2 = s.2 := hc3.trans rfl
    have r1_3 : s3.1 96 1 = (C : Int) := (hY3 96 1 (by unfold fxq fx; omega)).trans (show (up2 s.1 131 1 ((D : Int))) 96 1 = (C : Int) from ((if_neg (by omega)).trans r1))
    have r2_3 : s3.1 96 2 = (D : Int) := (hY3 96 2 (by unfold fxq fx; omega)).trans (show (up2 s.1 131 1 ((D : Int))) 96 2 = (D : Int) from ((if_neg (by omega)).trans r2))
    have r3_3 : s3.1 142 0 = (E : Int) := (hY3 142 0 (by unfold fxq fx; omega)).trans (show (up2 s.1 131 1 ((D : Int))) 142 0 = (E : Int) from ((if_neg (by omega)).trans r3))
    have tp_3 : s3.1 97 1 = s.1 97 1 := (hY3 97 1 (by unfold fxq fx; omega)).trans (show (up2 s.1 131 1 ((D : Int))) 97 1 = s.1 97 1 from ((if_neg (by omega)).trans rfl))
    have hi_3 : HI s.1 s3.1 := fun k j hk => (hY3 k j (by unfold fxq fx; omega)).trans (show (up2 s.1 131 1 ((D : Int))) k j = s.1 k j from ((if_neg (by omega)).trans ((fun _ _ _ => rfl : HI s.1 s.1) k j hk)))
    have ce_3 : s3.2 = s.2 := hc3.trans rfl
    show wr (d + 245) tb_M19 14 [(1, vi ((-2))), (0, .ref 96)] [] s3 _
    refine wr_n (pc2 := 15) (lv2 := [(1, vi ((-2))), (0, .ref 96)]) (st2 := [.ref 96]) 1 (fun _ _ => rfl) ?_
    refine wr_get (v := .ref 131) rfl rfl rfl (by decide) (rv_ref (hK3.1 96 4 131 rfl)) fun h4 => ?_
    show wr (d + 245) tb_M19 18 [(1, vi ((-2))), (0, .ref 96)] [.ref 131] s3 _
    refine wr_get (v := vi (s3.1 131 3)) rfl rfl rfl (by decide) rfl fun h5 => ?_
    have h5 : -2147483648 ≤ s3.1 131 3 ∧ s3.1 131 3 ≤ 2147483647 := h5
    show wr (d + 245) tb_M19 21 [(1, vi ((-2))), (0, .ref 96)] [vi (s3.1 131 3)] s3 _
    refine wr_n (pc2 := 35) (lv2 := [(1, vi (s3.1 131 3)), (0, .ref 96)]) (st2 := [.ref 96]) 3 (fun _ _ => rfl) ?_
    refine wr_get (v := .ref 97) rfl rfl rfl (by decide) (rv_ref (hK3.1 96 0 97 rfl)) fun h6 => ?_
    show wr (d + 245) tb_M19 38 [(1, vi (s3.1 131 3)), (0, .ref 96)] [.ref 97] s3 _
    refine wr_n (pc2 := 39) (lv2 := [(1, vi (s3.1 131 3)), (0, .ref 96)]) (st2 := [vi 0, .ref 97]) 1 (fun _ _ => rfl) ?_
    refine wr_put (z := 0) rfl rfl rfl rfl (by decide) rfl (by decide) rfl (show -2147483648 ≤ 0 ∧ 0 ≤ 2147483647 by omega) (hf_int' _) ?_
    show wr (d + 245) tb_M19 42 [(1, vi (s3.1 131 3)), (0, .ref 96)] [] (up2 s3.1 97 1 0, s3.2) _
    have hK7 : KI (up2 s3.1 97 1 0) := (KI_up hK3 rfl (kb_of rfl (show 0 ≤ 0 ∧ 0 ≤ 2000 by omega)))
    refine wr_n (pc2 := 45) (lv2 := [(1, vi (s3.1 131 3)), (0, .ref 96)]) (st2 := [vi ((-2)), vi (s3.1 131 3)]) 2 (fun _ _ => rfl) ?_
    by_cases h8 : s3.1 131 3 ≠ (-2)
    · refine wr_if2t rfl rfl (by unfold i32; omega) (by unfold i32; omega) h8 ?_
      refine wr_n (pc2 := 83) (lv2 := [(1, vi (s3.1 131 3)), (0, .ref 96)]) (st2 := [vi (s3.1 131 3)]) 1 (fun _ _ => rfl) ?_
      refine wr_reti rfl rfl ?_
      obtain ⟨q9, hs9⟩ : ∃ qq9 : rS, qq9 = (up2 s3.1 97 1 0, s3.2) := ⟨_, rfl⟩
      rw [← hs9]
      have hK9 : KI q9.1 := by rw [hs9]; exact hK7
      have r1_9 : q9.1 96 1 = (C : Int) := by rw [hs9]; exact (show (up2 s3.1 97 1 0) 96 1 = (C : Int) from ((if_neg (by omega)).trans r1_3))
      have r2_9 : q9.1 96 2 = (D : Int) := by rw [hs9]; exact (show (up2 s3.1 97 1 0) 96 2 = (D : Int) from ((if_neg (by omega)).trans r2_3))
      have r3_9 : q9.1 142 0 = (E : Int) := by rw [hs9]; exact (show (up2 s3.1 97 1 0) 142 0 = (E : Int) from ((if_neg (by omega)).trans r3_3))
      have tp_9 : q9.1 97 1 = 0 := by rw [hs9]; exact (show (up2 s3.1 97 1 0) 97 1 = 0 from up_self)
      have hi_9 : HI s.1 q9.1 := by rw [hs9]; exact (fun k j hk => (show (up2 s3.1 97 1 0) k j = s.1 k j from ((if_neg (by omega)).trans (hi_3 k j hk))))
      have ce_9 : q9.2 = s.2 := by rw [hs9]; exact ce_3
      have m_9 : q9.1 96 3 = s.1 96 3 := by rw [hs9]; exact (show (up2 s3.1 97 1 0) 96 3 = s.1 96 3 from (if_neg (by omega)).trans m3)
      have k_9 : ∀ j, j < 2001 → q9.1 140 j = s9.1 140 j := fun j hj => by rw [hs9]; exact (show (up2 s3.1 97 1 0) 140 j = s9.1 140 j from (if_neg (by omega)).trans (f4 j hj))
      have w_9 : ∀ k j, FWK D k → q9.1 k j = s.1 k j := fun k j hj => by rw [hs9]; exact (show (up2 s3.1 97 1 0) k j = s.1 k j from (if_neg (by unfold FWK at hj; omega)).trans (w3 k j hj))
      clear hs9
      exact ⟨⟨⟨_, rfl, rfl⟩, .inl ce_9, ⟨C, D, E, hK9, hC, hD, hE, r1_9, r2_9, r3_9⟩, hi_9, tp_9⟩, .inr (.inl ⟨m_9, ⟨r1_9, r2_9, r3_9⟩, w_9, s9, _, hq, k_9, .inl ⟨rfl, by omega⟩⟩)⟩
    · refine wr_if2f rfl rfl (by unfold i32; omega) (by unfold i32; omega) h8 ?_
      refine wr_n (pc2 := 49) (lv2 := [(1, vi (s3.1 131 3)), (0, .ref 96)]) (st2 := [.ref 96]) 1 (fun _ _ => rfl) ?_
      refine wr_get (v := .ref C) rfl rfl rfl (by decide) (rv_ref (show (up2 s3.1 97 1 0) 96 1 = ((C : Nat) : Int) from ((if_neg (by omega)).trans r1_3))) fun h10 => ?_
      show wr (d + 245) tb_M19 52 [(1, vi (s3.1 131 3)), (0, .ref 96)] [.ref C] (up2 s3.1 97 1 0, s3.2) _
      refine wr_n (pc2 := 55) (lv2 := [(2, .ref C), (1, vi (s3.1 131 3)), (0, .ref 96)]) (st2 := [.ref 96, .ref 96]) 3 (fun _ _ => rfl) ?_
      refine wr_get (v := .ref D) rfl rfl rfl (by decide) (rv_ref (show (up2 s3.1 97 1 0) 96 2 = ((D : Nat) : Int) from ((if_neg (by omega)).trans r2_3))) fun h11 => ?_
      show wr (d + 245) tb_M19 58 [(2, .ref C), (1, vi (s3.1 131 3)), (0, .ref 96)] [.ref D, .ref 96] (up2 s3.1 97 1 0, s3.2) _
      refine wr_put (z := (D : Int)) rfl rfl rfl rfl (by decide) rfl (by decide) (rv_ref rfl) (show -1 ≤ (D : Int) by omega) (hf_ref _ _) ?_
      show wr (d + 245) tb_M19 61 [(2, .ref C), (1, vi (s3.1 131 3)), (0, .ref 96)] [] (up2 (up2 s3.1 97 1 0) 96 1 ((D : Int)), s3.2) _
      have hK12 : KI (up2 (up2 s3.1 97 1 0) 96 1 ((D : Int))) := (KI_up (KI_up hK3 rfl (kb_of rfl (show 0 ≤ 0 ∧ 0 ≤ 2000 by omega))) rfl (kb_no rfl))
      refine wr_n (pc2 := 63) (lv2 := [(2, .ref C), (1, vi (s3.1 131 3)), (0, .ref 96)]) (st2 := [.ref C, .ref 96]) 2 (fun _ _ => rfl) ?_
      refine wr_put (z := (C : Int)) rfl rfl rfl rfl (by decide) rfl (by decide) (rv_ref rfl) (show -1 ≤ (C : Int) by omega) (hf_ref _ _) ?_
      show wr (d + 245) tb_M19 66 [(2, .ref C), (1, vi (s3.1 131 3)), (0, .ref 96)] [] (up2 (up2 (up2 s3.1 97 1 0) 96 1 ((D : Int))) 96 2 ((C : Int)), s3.2) _
      have hK13 : KI (up2 (up2 (up2 s3.1 97 1 0) 96 1 ((D : Int))) 96 2 ((C : Int))) := (KI_up (KI_up (KI_up hK3 rfl (kb_of rfl (show 0 ≤ 0 ∧ 0 ≤ 2000 by omega))) rfl (kb_no rfl)) rfl (kb_no rfl))
      refine wr_n (pc2 := 68) (lv2 := [(2, .ref C), (1, vi (s3.1 131 3)), (0, .ref 96)]) (st2 := [vi 1, .ref 96]) 2 (fun _ _ => rfl) ?_
      refine wr_put (z := 1) rfl rfl rfl rfl (by decide) rfl (by decide) rfl (show 0 ≤ 1 ∧ 1 ≤ 1 by omega) (fit_i (.inr (.inl rfl)) (show 0 ≤ 1 ∧ 1 ≤ 1 by omega)) ?_
      show wr (d + 245) tb_M19 71 [(2, .ref C), (1, vi (s3.1 131 3)), (0, .ref 96)] [] (up2 (up2 (up2 (up2 s3.1 97 1 0) 96 1 ((D : Int))) 96 2 ((C : Int))) 96 3 1, s3.2) _
      have hK14 : KI (up2 (up2 (up2 (up2 s3.1 97 1 0) 96 1 ((D : Int))) 96 2 ((C : Int))) 96 3 1) := (KI_up (KI_up (KI_up (KI_up hK3 rfl (kb_of rfl (show 0 ≤ 0 ∧ 0 ≤ 2000 by omega))) rfl (kb_no rfl)) rfl (kb_no rfl)) rfl (kb_no rfl))
      refine wr_n (pc2 := 72) (lv2 := [(2, .ref C), (1, vi (s3.1 131 3)), (0, .ref 96)]) (st2 := [.ref 96]) 1 (fun _ _ => rfl) ?_
      refine wr_get (v := .ref 142) rfl rfl rfl (by decide) (rv_ref (hK14.1 96 5 142 rfl)) fun h15 => ?_
      show wr (d + 245) tb_M19 75 [(2, .ref C), (1, vi (s3.1 131 3)), (0, .ref 96)] [.ref 142] (up2 (up2 (up2 (up2 s3.1 97 1 0) 96 1 ((D : Int))) 96 2 ((C : Int))) 96 3 1, s3.2) _
      refine wr_n (pc2 := 76) (lv2 := [(2, .ref C), (1, vi (s3.1 131 3)), (0, .ref 96)]) (st2 := [.ref 96, .ref 142]) 1 (fun _ _ => rfl) ?_
      refine wr_get (v := .ref D) rfl rfl rfl (by decide) (rv_ref (show (up2 (up2 (up2 (up2 s3.1 97 1 0) 96 1 ((D : Int))) 96 2 ((C : Int))) 96 3 1) 96 1 = ((D : Nat) : Int) from ((if_neg (by omega)).trans ((if_neg (by omega)).trans up_self)))) fun h16 => ?_
      show wr (d + 245) tb_M19 79 [(2, .ref C), (1, vi (s3.1 131 3)), (0, .ref 96)] [.ref D, .ref 142] (up2 (up2 (up2 (up2 s3.1 97 1 0) 96 1 ((D : Int))) 96 2 ((C : Int))) 96 3 1, s3.2) _
      obtain ⟨q17, hs17⟩ : ∃ qq9 : rS, qq9 = (up2 (up2 (up2 (up2 s3.1 97 1 0) 96 1 ((D : Int))) 96 2 ((C : Int))) 96 3 1, s3.2) := ⟨_, rfl⟩
      rw [← hs17]
      have hK17 : KI q17.1 := by rw [hs17]; exact hK14
      have r1_17 : q17.1 96 1 = (D : Int) := by rw [hs17]; exact (show (up2 (up2 (up2 (up2 s3.1 97 1 0) 96 1 ((D : Int))) 96 2 ((C : Int))) 96 3 1) 96 1 = (D : Int) from ((if_neg (by omega)).trans ((if_neg (by omega)).trans up_self)))
      have r2_17 : q17.1 96 2 = (C : Int) := by rw [hs17]; exact (show (up2 (up2 (up2 (up2 s3.1 97 1 0) 96 1 ((D : Int))) 96 2 ((C : Int))) 96 3 1) 96 2 = (C : Int) from ((if_neg (by omega)).trans up_self))
      have r3_17 : q17.1 142 0 = (E : Int) := by rw [hs17]; exact (show (up2 (up2 (up2 (up2 s3.1 97 1 0) 96 1 ((D : Int))) 96 2 ((C : Int))) 96 3 1) 142 0 = (E : Int) from ((if_neg (by omega)).trans ((if_neg (by omega)).trans ((if_neg (by omega)).trans ((if_neg (by omega)).trans r3_3)))))
      have tp_17 : q17.1 97 1 = 0 := by rw [hs17]; exact (show (up2 (up2 (up2 (up2 s3.1 97 1 0) 96 1 ((D : Int))) 96 2 ((C : Int))) 96 3 1) 97 1 = 0 from ((if_neg (by omega)).trans ((if_neg (by omega)).trans ((if_neg (by omega)).trans up_self))))
      have hi_17 : HI s.1 q17.1 := by rw [hs17]; exact (fun k j hk => (show (up2 (up2 (up2 (up2 s3.1 97 1 0) 96 1 ((D : Int))) 96 2 ((C : Int))) 96 3 1) k j = s.1 k j from ((if_neg (by omega)).trans ((if_neg (by omega)).trans ((if_neg (by omega)).trans ((if_neg (by omega)).trans (hi_3 k j hk)))))))
      have ce_17 : q17.2 = s.2 := by rw [hs17]; exact ce_3
      have m_17 : q17.1 96 3 = 1 := by rw [hs17]; exact (show (up2 (up2 (up2 (up2 s3.1 97 1 0) 96 1 ((D : Int))) 96 2 ((C : Int))) 96 3 1) 96 3 = 1 from up_self)
      have d_17 : ∀ k j, FWK D k → q17.1 k j = s.1 k j := fun k j hj => by rw [hs17]; exact (show (up2 (up2 (up2 (up2 s3.1 97 1 0) 96 1 ((D : Int))) 96 2 ((C : Int))) 96 3 1) k j = s.1 k j from (if_neg (by unfold FWK at hj; omega)).trans ((if_neg (by unfold FWK at hj; omega)).trans ((if_neg (by unfold FWK at hj; omega)).trans ((if_neg (by unfold FWK at hj; omega)).trans (w3 k j hj)))))
      have b_17 : ∀ k j, inR k j → 98 ≤ k → q17.1 k j = s9.1 k j := fun k j z1 z2 => by rw [hs17]; exact (show (up2 (up2 (up2 (up2 s3.1 97 1 0) 96 1 ((D : Int))) 96 2 ((C : Int))) 96 3 1) k j = s9.1 k j from (if_neg (by omega)).trans ((if_neg (by omega)).trans ((if_neg (by omega)).trans ((if_neg (by omega)).trans (rP_eq hg2 hg9 z1)))))
      clear hs17
      refine wr_call1 (args := [.ref D]) (rest := []) rfl rfl rfl rfl (Nat.le_of_ble_eq_true rfl) (cr_mono (cr_pcr (k_restart (d := d + 243) (C := D) hD q17 hK17) (hZ s9 q17 hq (by omega) hK17 r1_17 m_17 b_17)) ?_)
      rintro s18 out ⟨⟨hK18, hY18, hc18, rfl⟩, s6, c6, z6, g6, g61, g62⟩
      refine ⟨_, rfl, ?_⟩
      have hC18 : s18.2 = q17.2 := hc18.trans rfl
      have r1_18 : s18.1 96 1 = (D : Int) := (hY18 96 1 (by unfold fx; omega)).trans (show (up2 q17.1 142 0 ((D : Int))) 96 1 = (D : Int) from ((if_neg (by omega)).trans r1_17))
      have r2_18 : s18.1 96 2 = (C : Int) := (hY18 96 2 (by unfold fx; omega)).trans (show (up2 q17.1 142 0 ((D : Int))) 96 2 = (C : Int) from ((if_neg (by omega)).trans r2_17))
      have r3_18 : s18.1 142 0 = (D : Int) := (hY18 142 0 (by unfold fx; omega)).trans (show (up2 q17.1 142 0 ((D : Int))) 142 0 = (D : Int) from up_self)
      have tp_18 : s18.1 97 1 = 0 := (hY18 97 1 (by unfold fx; omega)).trans (show (up2 q17.1 142 0 ((D : Int))) 97 1 = 0 from ((if_neg (by omega)).trans tp_17))
      have hi_18 : HI s.1 s18.1 := fun k j hk => (hY18 k j (by unfold fx; omega)).trans (show (up2 q17.1 142 0 ((D : Int))) k j = s.1 k j from ((if_neg (by omega)).trans (hi_17 k j hk)))
      have ce_18 : s18.2 = s.2 := hc18.trans ce_17
      show wr (d + 245) tb_M19 82 [(2, .ref C), (1, vi (s3.1 131 3)), (0, .ref 96)] [] s18 _
      refine wr_n (pc2 := 83) (lv2 := [(2, .ref C), (1, vi (s3.1 131 3)), (0, .ref 96)]) (st2 := [vi (s3.1 131 3)]) 1 (fun _ _ => rfl) ?_
      refine wr_reti rfl rfl ?_
      exact ⟨⟨⟨_, rfl, rfl⟩, .inl ce_18, ⟨D, C, D, hK18, hD, hC, hD, r1_18, r2_18, r3_18⟩, hi_18, tp_18⟩, .inl ⟨(hY18 96 3 (by unfold fx; omega)).trans (show (up2 q17.1 142 0 ((D : Int))) 96 3 = 1 from (if_neg (by omega)).trans m_17), ⟨r1_18, r2_18, r3_18⟩, s9, hq, by omega, q17, b_17, d_17, tp_17, r1_17, m_17, hK17, s6, c6, z6, g6, g61, g62⟩⟩
  · refine .inr ⟨rfl, ?_⟩
    have f3 : s3.1 131 3 = s9.1 131 3 := rP_int hg2 hg9 (k := 131) (j := 3) rfl (by decide) rfl
    have f2 : s3.1 131 2 = s9.1 131 2 := rP_int hg2 hg9 (k := 131) (j := 2) rfl (by decide) rfl
    have f4 : ∀ j, j < 2001 → s3.1 140 j = s9.1 140 j := fun j hj => rP_int hg2 hg9 (k := 140) (j := j) rfl hj rfl
    have m3 : s3.1 96 3 = s.1 96 3 := (hY3 96 3 (by unfold fxq fx; omega)).trans (show (up2 s.1 131 1 ((D : Int))) 96 3 = s.1 96 3 from (if_neg (by omega)))
    have w3 : ∀ k j, FWK D k → s3.1 k j = s.1 k j := fun k j hk => (hY3 k j (by unfold FWK at hk; unfold fxq fx; omega)).trans (show (up2 s.1 131 1 ((D : Int))) k j = s.1 k j from (if_neg (by unfold FWK at hk; omega)))
    have r1_3 : s3.1 96 1 = (C : Int) := (hY3 96 1 (by unfold fxq fx; omega)).trans (show (up2 s.1 131 1 ((D : Int))) 96 1 = (C : Int) from ((if_neg (by omega)).trans r1))
    have r2_3 : s3.1 96 2 = (D : Int) := (hY3 96 2 (by unfold fxq fx; omega)).trans (show (up2 s.1 131 1 ((D : Int))) 96 2 = (D : Int) from ((if_neg (by omega)).trans r2))
    have r3_3 : s3.1 142 0 = (E : Int) := (hY3 142 0 (by unfold fxq fx; omega)).trans (show (up2 s.1 131 1 ((D : Int))) 142 0 = (E : Int) from ((if_neg (by omega)).trans r3))
    have tp_3 : s3.1 97 1 = s.1 97 1 := (hY3 97 1 (by unfold fxq fx; omega)).trans (show (up2 s.1 131 1 ((D : Int))) 97 1 = s.1 97 1 from ((if_neg (by omega)).trans rfl))
    have hi_3 : HI s.1 s3.1 := fun k j hk => (hY3 k j (by unfold fxq fx; omega)).trans (show (up2 s.1 131 1 ((D : Int))) k j = s.1 k j from ((if_neg (by omega)).trans ((fun _ _ _ => rfl : HI s.1 s.1) k j hk)))
    have ce_3 : s3.2 = (s.2.1 + 1, s.2.2 + 6) := TH rfl hc3
    show wr (d + 245) tb_M19 25 [(1, vi ((-2))), (0, .ref 96)] [.retAddr 0] s3 _
    refine wr_n (pc2 := 27) (lv2 := [(2, .retAddr 0), (1, vi ((-2))), (0, .ref 96)]) (st2 := [.ref 96]) 2 (fun _ _ => rfl) ?_
    refine wr_get (v := .ref 131) rfl rfl rfl (by decide) (rv_ref (hK3.1 96 4 131 rfl)) fun h19 => ?_
    show wr (d + 245) tb_M19 30 [(2, .retAddr 0), (1, vi ((-2))), (0, .ref 96)] [.ref 131] s3 _
    refine wr_get (v := vi (s3.1 131 2)) rfl rfl rfl (by decide) rfl fun h20 => ?_
    have h20 : -2147483648 ≤ s3.1 131 2 ∧ s3.1 131 2 ≤ 2147483647 := h20
    show wr (d + 245) tb_M19 33 [(2, .retAddr 0), (1, vi ((-2))), (0, .ref 96)] [vi (s3.1 131 2)] s3 _
    refine wr_n (pc2 := 35) (lv2 := [(1, vi (s3.1 131 2)), (2, .retAddr 0), (0, .ref 96)]) (st2 := [.ref 96]) 2 (fun _ _ => rfl) ?_
    refine wr_get (v := .ref 97) rfl rfl rfl (by decide) (rv_ref (hK3.1 96 0 97 rfl)) fun h21 => ?_
    show wr (d + 245) tb_M19 38 [(1, vi (s3.1 131 2)), (2, .retAddr 0), (0, .ref 96)] [.ref 97] s3 _
    refine wr_n (pc2 := 39) (lv2 := [(1, vi (s3.1 131 2)), (2, .retAddr 0), (0, .ref 96)]) (st2 := [vi 0, .ref 97]) 1 (fun _ _ => rfl) ?_
    refine wr_put (z := 0) rfl rfl rfl rfl (by decide) rfl (by decide) rfl (show -2147483648 ≤ 0 ∧ 0 ≤ 2147483647 by omega) (hf_int' _) ?_
    show wr (d + 245) tb_M19 42 [(1, vi (s3.1 131 2)), (2, .retAddr 0), (0, .ref 96)] [] (up2 s3.1 97 1 0, s3.2) _
    have hK22 : KI (up2 s3.1 97 1 0) := (KI_up hK3 rfl (kb_of rfl (show 0 ≤ 0 ∧ 0 ≤ 2000 by omega)))
    refine wr_n (pc2 := 45) (lv2 := [(1, vi (s3.1 131 2)), (2, .retAddr 0), (0, .ref 96)]) (st2 := [vi ((-2)), vi (s3.1 131 2)]) 2 (fun _ _ => rfl) ?_
    by_cases h23 : s3.1 131 2 ≠ (-2)
    · refine wr_if2t rfl rfl (by unfold i32; omega) (by unfold i32; omega) h23 ?_
      refine wr_n (pc2 := 83) (lv2 := [(1, vi (s3.1 131 2)), (2, .retAddr 0), (0, .ref 96)]) (st2 := [vi (s3.1 131 2)]) 1 (fun _ _ => rfl) ?_
      refine wr_reti rfl rfl ?_
      obtain ⟨q24, hs24⟩ : ∃ qq9 : rS, qq9 = (up2 s3.1 97 1 0, s3.2) := ⟨_, rfl⟩
      rw [← hs24]
      have hK24 : KI q24.1 := by rw [hs24]; exact hK22
      have r1_24 : q24.1 96 1 = (C : Int) := by rw [hs24]; exact (show (up2 s3.1 97 1 0) 96 1 = (C : Int) from ((if_neg (by omega)).trans r1_3))
      have r2_24 : q24.1 96 2 = (D : Int) := by rw [hs24]; exact (show (up2 s3.1 97 1 0) 96 2 = (D : Int) from ((if_neg (by omega)).trans r2_3))
      have r3_24 : q24.1 142 0 = (E : Int) := by rw [hs24]; exact (show (up2 s3.1 97 1 0) 142 0 = (E : Int) from ((if_neg (by omega)).trans r3_3))
      have tp_24 : q24.1 97 1 = 0 := by rw [hs24]; exact (show (up2 s3.1 97 1 0) 97 1 = 0 from up_self)
      have hi_24 : HI s.1 q24.1 := by rw [hs24]; exact (fun k j hk => (show (up2 s3.1 97 1 0) k j = s.1 k j from ((if_neg (by omega)).trans (hi_3 k j hk))))
      have ce_24 : q24.2 = (s.2.1 + 1, s.2.2 + 6) := by rw [hs24]; exact ce_3
      have m_24 : q24.1 96 3 = s.1 96 3 := by rw [hs24]; exact (show (up2 s3.1 97 1 0) 96 3 = s.1 96 3 from (if_neg (by omega)).trans m3)
      have k_24 : ∀ j, j < 2001 → q24.1 140 j = s9.1 140 j := fun j hj => by rw [hs24]; exact (show (up2 s3.1 97 1 0) 140 j = s9.1 140 j from (if_neg (by omega)).trans (f4 j hj))
      have w_24 : ∀ k j, FWK D k → q24.1 k j = s.1 k j := fun k j hj => by rw [hs24]; exact (show (up2 s3.1 97 1 0) k j = s.1 k j from (if_neg (by unfold FWK at hj; omega)).trans (w3 k j hj))
      clear hs24
      exact ⟨⟨⟨_, rfl, rfl⟩, .inr ce_24, ⟨C, D, E, hK24, hC, hD, hE, r1_24, r2_24, r3_24⟩, hi_24, tp_24⟩, .inr (.inl ⟨m_24, ⟨r1_24, r2_24, r3_24⟩, w_24, s9, _, hq, k_24, .inr ⟨rfl, by omega⟩⟩)⟩
    · refine wr_if2f rfl rfl (by unfold i32; omega) (by unfold i32; omega) h23 ?_
      refine wr_n (pc2 := 49) (lv2 := [(1, vi (s3.1 131 2)), (2, .retAddr 0), (0, .ref 96)]) (st2 := [.ref 96]) 1 (fun _ _ => rfl) ?_
      refine wr_get (v := .ref C) rfl rfl rfl (by decide) (rv_ref (show (up2 s3.1 97 1 0) 96 1 = ((C : Nat) : Int) from ((if_neg (by omega)).trans r1_3))) fun h25 => ?_
      show wr (d + 245) tb_M19 52 [(1, vi (s3.1 131 2)), (2, .retAddr 0), (0, .ref 96)] [.ref C] (up2 s3.1 97 1 0, s3.2) _
      refine wr_n (pc2 := 55) (lv2 := [(2, .ref C), (1, vi (s3.1 131 2)), (0, .ref 96)]) (st2 := [.ref 96, .ref 96]) 3 (fun _ _ => rfl) ?_
      refine wr_get (v := .ref D) rfl rfl rfl (by decide) (rv_ref (show (up2 s3.1 97 1 0) 96 2 = ((D : Nat) : Int) from ((if_neg (by omega)).trans r2_3))) fun h26 => ?_
      show wr (d + 245) tb_M19 58 [(2, .ref C), (1, vi (s3.1 131 2)), (0, .ref 96)] [.ref D, .ref 96] (up2 s3.1 97 1 0, s3.2) _
      refine wr_put (z := (D : Int)) rfl rfl rfl rfl (by decide) rfl (by decide) (rv_ref rfl) (show -1 ≤ (D : Int) by omega) (hf_ref _ _) ?_
      show wr (d + 245) tb_M19 61 [(2, .ref C), (1, vi (s3.1 131 2)), (0, .ref 96)] [] (up2 (up2 s3.1 97 1 0) 96 1 ((D : Int)), s3.2) _
      have hK27 : KI (up2 (up2 s3.1 97 1 0) 96 1 ((D : Int))) := (KI_up (KI_up hK3 rfl (kb_of rfl (show 0 ≤ 0 ∧ 0 ≤ 2000 by omega))) rfl (kb_no rfl))
      refine wr_n (pc2 := 63) (lv2 := [(2, .ref C), (1, vi (s3.1 131 2)), (0, .ref 96)]) (st2 := [.ref C, .ref 96]) 2 (fun _ _ => rfl) ?_
      refine wr_put (z := (C : Int)) rfl rfl rfl rfl (by decide) rfl (by decide) (rv_ref rfl) (show -1 ≤ (C : Int) by omega) (hf_ref _ _) ?_
      show wr (d + 245) tb_M19 66 [(2, .ref C), (1, vi (s3.1 131 2)), (0, .ref 96)] [] (up2 (up2 (up2 s3.1 97 1 0) 96 1 ((D : Int))) 96 2 ((C : Int)), s3.2) _
      have hK28 : KI (up2 (up2 (up2 s3.1 97 1 0) 96 1 ((D : Int))) 96 2 ((C : Int))) := (KI_up (KI_up (KI_up hK3 rfl (kb_of rfl (show 0 ≤ 0 ∧ 0 ≤ 2000 by omega))) rfl (kb_no rfl)) rfl (kb_no rfl))
      refine wr_n (pc2 := 68) (lv2 := [(2, .ref C), (1, vi (s3.1 131 2)), (0, .ref 96)]) (st2 := [vi 1, .ref 96]) 2 (fun _ _ => rfl) ?_
      refine wr_put (z := 1) rfl rfl rfl rfl (by decide) rfl (by decide) rfl (show 0 ≤ 1 ∧ 1 ≤ 1 by omega) (fit_i (.inr (.inl rfl)) (show 0 ≤ 1 ∧ 1 ≤ 1 by omega)) ?_
      show wr (d + 245) tb_M19 71 [(2, .ref C), (1, vi (s3.1 131 2)), (0, .ref 96)] [] (up2 (up2 (up2 (up2 s3.1 97 1 0) 96 1 ((D : Int))) 96 2 ((C : Int))) 96 3 1, s3.2) _
      have hK29 : KI (up2 (up2 (up2 (up2 s3.1 97 1 0) 96 1 ((D : Int))) 96 2 ((C : Int))) 96 3 1) := (KI_up (KI_up (KI_up (KI_up hK3 rfl (kb_of rfl (show 0 ≤ 0 ∧ 0 ≤ 2000 by omega))) rfl (kb_no rfl)) rfl (kb_no rfl)) rfl (kb_no rfl))
      refine wr_n (pc2 := 72) (lv2 := [(2, .ref C), (1, vi (s3.1 131 2)), (0, .ref 96)]) (st2 := [.ref 96]) 1 (fun _ _ => rfl) ?_
      refine wr_get (v := .ref 142) rfl rfl rfl (by decide) (rv_ref (hK29.1 96 5 142 rfl)) fun h30 => ?_
      show wr (d + 245) tb_M19 75 [(2, .ref C), (1, vi (s3.1 131 2)), (0, .ref 96)] [.ref 142] (up2 (up2 (up2 (up2 s3.1 97 1 0) 96 1 ((D : Int))) 96 2 ((C : Int))) 96 3 1, s3.2) _
      refine wr_n (pc2 := 76) (lv2 := [(2, .ref C), (1, vi (s3.1 131 2)), (0, .ref 96)]) (st2 := [.ref 96, .ref 142]) 1 (fun _ _ => rfl) ?_
      refine wr_get (v := .ref D) rfl rfl rfl (by decide) (rv_ref (show (up2 (up2 (up2 (up2 s3.1 97 1 0) 96 1 ((D : Int))) 96 2 ((C : Int))) 96 3 1) 96 1 = ((D : Nat) : Int) from ((if_neg (by omega)).trans ((if_neg (by omega)).trans up_self)))) fun h31 => ?_
      show wr (d + 245) tb_M19 79 [(2, .ref C), (1, vi (s3.1 131 2)), (0, .ref 96)] [.ref D, .ref 142] (up2 (up2 (up2 (up2 s3.1 97 1 0) 96 1 ((D : Int))) 96 2 ((C : Int))) 96 3 1, s3.2) _
      obtain ⟨q32, hs32⟩ : ∃ qq9 : rS, qq9 = (up2 (up2 (up2 (up2 s3.1 97 1 0) 96 1 ((D : Int))) 96 2 ((C : Int))) 96 3 1, s3.2) := ⟨_, rfl⟩
      rw [← hs32]
      have hK32 : KI q32.1 := by rw [hs32]; exact hK29
      have r1_32 : q32.1 96 1 = (D : Int) := by rw [hs32]; exact (show (up2 (up2 (up2 (up2 s3.1 97 1 0) 96 1 ((D : Int))) 96 2 ((C : Int))) 96 3 1) 96 1 = (D : Int) from ((if_neg (by omega)).trans ((if_neg (by omega)).trans up_self)))
      have r2_32 : q32.1 96 2 = (C : Int) := by rw [hs32]; exact (show (up2 (up2 (up2 (up2 s3.1 97 1 0) 96 1 ((D : Int))) 96 2 ((C : Int))) 96 3 1) 96 2 = (C : Int) from ((if_neg (by omega)).trans up_self))
      have r3_32 : q32.1 142 0 = (E : Int) := by rw [hs32]; exact (show (up2 (up2 (up2 (up2 s3.1 97 1 0) 96 1 ((D : Int))) 96 2 ((C : Int))) 96 3 1) 142 0 = (E : Int) from ((if_neg (by omega)).trans ((if_neg (by omega)).trans ((if_neg (by omega)).trans ((if_neg (by omega)).trans r3_3)))))
      have tp_32 : q32.1 97 1 = 0 := by rw [hs32]; exact (show (up2 (up2 (up2 (up2 s3.1 97 1 0) 96 1 ((D : Int))) 96 2 ((C : Int))) 96 3 1) 97 1 = 0 from ((if_neg (by omega)).trans ((if_neg (by omega)).trans ((if_neg (by omega)).trans up_self))))
      have hi_32 : HI s.1 q32.1 := by rw [hs32]; exact (fun k j hk => (show (up2 (up2 (up2 (up2 s3.1 97 1 0) 96 1 ((D : Int))) 96 2 ((C : Int))) 96 3 1) k j = s.1 k j from ((if_neg (by omega)).trans ((if_neg (by omega)).trans ((if_neg (by omega)).trans ((if_neg (by omega)).trans (hi_3 k j hk)))))))
      have ce_32 : q32.2 = (s.2.1 + 1, s.2.2 + 6) := by rw [hs32]; exact ce_3
      have m_32 : q32.1 96 3 = 1 := by rw [hs32]; exact (show (up2 (up2 (up2 (up2 s3.1 97 1 0) 96 1 ((D : Int))) 96 2 ((C : Int))) 96 3 1) 96 3 = 1 from up_self)
      have d_32 : ∀ k j, FWK D k → q32.1 k j = s.1 k j := fun k j hj => by rw [hs32]; exact (show (up2 (up2 (up2 (up2 s3.1 97 1 0) 96 1 ((D : Int))) 96 2 ((C : Int))) 96 3 1) k j = s.1 k j from (if_neg (by unfold FWK at hj; omega)).trans ((if_neg (by unfold FWK at hj; omega)).trans ((if_neg (by unfold FWK at hj; omega)).trans ((if_neg (by unfold FWK at hj; omega)).trans (w3 k j hj)))))
      have b_32 : ∀ k j, inR k j → 98 ≤ k → q32.1 k j = s9.1 k j := fun k j z1 z2 => by rw [hs32]; exact (show (up2 (up2 (up2 (up2 s3.1 97 1 0) 96 1 ((D : Int))) 96 2 ((C : Int))) 96 3 1) k j = s9.1 k j from (if_neg (by omega)).trans ((if_neg (by omega)).trans ((if_neg (by omega)).trans ((if_neg (by omega)).trans (rP_eq hg2 hg9 z1)))))
      clear hs32
      refine wr_call1 (args := [.ref D]) (rest := []) rfl rfl rfl rfl (Nat.le_of_ble_eq_true rfl) (cr_mono (k_restart (d := d + 243) (C := D) hD q32 hK32) ?_)
      rintro s33 out ⟨hK33, hY33, hc33, rfl⟩
      refine ⟨_, rfl, ?_⟩
      have hC33 : s33.2 = q32.2 := hc33.trans rfl
      have r1_33 : s33.1 96 1 = (D : Int) := (hY33 96 1 (by unfold fx; omega)).trans (show (up2 q32.1 142 0 ((D : Int))) 96 1 = (D : Int) from ((if_neg (by omega)).trans r1_32))
      have r2_33 : s33.1 96 2 = (C : Int) := (hY33 96 2 (by unfold fx; omega)).trans (show (up2 q32.1 142 0 ((D : Int))) 96 2 = (C : Int) from ((if_neg (by omega)).trans r2_32))
      have r3_33 : s33.1 142 0 = (D : Int) := (hY33 142 0 (by unfold fx; omega)).trans (show (up2 q32.1 142 0 ((D : Int))) 142 0 = (D : Int) from up_self)
      have tp_33 : s33.1 97 1 = 0 := (hY33 97 1 (by unfold fx; omega)).trans (show (up2 q32.1 142 0 ((D : Int))) 97 1 = 0 from ((if_neg (by omega)).trans tp_32))
      have hi_33 : HI s.1 s33.1 := fun k j hk => (hY33 k j (by unfold fx; omega)).trans (show (up2 q32.1 142 0 ((D : Int))) k j = s.1 k j from ((if_neg (by omega)).trans (hi_32 k j hk)))
      have ce_33 : s33.2 = (s.2.1 + 1, s.2.2 + 6) := hc33.trans ce_32
      show wr (d + 245) tb_M19 82 [(2, .ref C), (1, vi (s3.1 131 2)), (0, .ref 96)] [] s33 _
      refine wr_n (pc2 := 83) (lv2 := [(2, .ref C), (1, vi (s3.1 131 2)), (0, .ref 96)]) (st2 := [vi (s3.1 131 2)]) 1 (fun _ _ => rfl) ?_
      refine wr_reti rfl rfl ?_
      exact ⟨⟨⟨_, rfl, rfl⟩, .inr ce_33, ⟨D, C, D, hK33, hD, hC, hD, r1_33, r2_33, r3_33⟩, hi_33, tp_33⟩, .inr (.inr ⟨(hY33 96 3 (by unfold fx; omega)).trans (show (up2 q32.1 142 0 ((D : Int))) 96 3 = 1 from (if_neg (by omega)).trans m_32), s9, hq, by omega⟩)⟩
