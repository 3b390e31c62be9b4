/-! Calls that leave all but the tape as it was. -/
def XZL (P : Int → tab → Prop) (s : rS) : rS → hm_Out → Prop := fun s2 out => (∃ z : Int, out = some (some (vi z)) ∧ P z s2.1) ∧ s2.2 = s.2 ∧ (∃ C D E, XI C D E s2.1) ∧ HL s.1 s2.1
def LH (r r2 : tab) : Prop := ∀ k j, ¬ (k = 170 ∧ j = 1) → r2 k j = r k j
def MJ3 (c : Nat) (t : Int → Prop) (s : rS) : rS → hm_Out → Prop := fun s2 out => (∃ v : Value, out = some (some v) ∧ v.category = c) ∧ s2.2 = s.2 ∧ RF s2.1 ∧ LH s.1 s2.1 ∧ (∃ C D, SI C D s2.1) ∧ t (s2.1 170 1)
theorem MJ3_same {C D c : Nat} {s : rS} {out : hm_Out} {v : Value} (ho : out = some (some v)) (hv : v.category = c) (hR : RF s.1) (h : SI C D s.1) : MJ3 c (fun t => t = s.1 170 1) s s out := ⟨⟨v, ho, hv⟩, rfl, hR, fun _ _ _ => rfl, ⟨C, D, h⟩, rfl⟩
set_option maxHeartbeats 20000000 in
set_option maxRecDepth 100000 in
theorem zl_count {d C D E : Nat} {x : Int} (s : rS) (hXI : XI C D E s.1) (hx : (-2147483648) ≤ x ∧ x ≤ 2147483647)  : cr (d + 1) 115 [.ref 96, vi x] s (XPL 1 (fun t => t = s.1 97 1) s) := by
  obtain ⟨hK, hC, hD, hE, r1, r2, r3⟩ := hXI
  refine cr_of (M := tb_M115) rfl (Nat.le_of_ble_eq_true rfl) ?_
  show wr (d) tb_M115 0 [(0, .ref 96), (1, vi x)] [] s _
  refine wr_n (pc2 := 1) (lv2 := [(0, .ref 96), (1, vi x)]) (st2 := [vi x]) 1 (fun _ _ => rfl) ?_
  by_cases h1 : x < 0
  · refine wr_if1t rfl rfl (by unfold i32; omega) h1 ?_
    refine wr_n (pc2 := 11) (lv2 := [(0, .ref 96), (1, vi x)]) (st2 := [vi ((-1))]) 1 (fun _ _ => rfl) ?_
    refine wr_end (fun _ _ => rfl) ?_
    exact ⟨⟨_, rfl, rfl⟩, .inl rfl, ⟨C, D, E, hK, hC, hD, hE, r1, r2, r3⟩, (fun _ _ _ => rfl : HL s.1 s.1), rfl⟩
  · refine wr_if1f rfl rfl (by unfold i32; omega) h1 ?_
    refine wr_n (pc2 := 7) (lv2 := [(0, .ref 96), (1, vi x)]) (st2 := [vi 12, vi x]) 2 (fun _ _ => rfl) ?_
    by_cases h2 : x ≤ 12
    · refine wr_if2t rfl rfl (by unfold i32; omega) (by unfold i32; omega) h2 ?_
      refine wr_n (pc2 := 13) (lv2 := [(0, .ref 96), (1, vi x)]) (st2 := [.ref 96]) 1 (fun _ _ => rfl) ?_
      refine wr_get (v := vi (s.1 96 3)) rfl rfl rfl (by decide) rfl fun h3 => ?_
      have h3 : 0 ≤ s.1 96 3 ∧ s.1 96 3 ≤ 1 := h3
      show wr d tb_M115 16 [(0, .ref 96), (1, vi x)] [vi (s.1 96 3)] s _
      by_cases h4 : s.1 96 3 ≠ 0
      · refine wr_if1t rfl rfl (by unfold i32; omega) h4 ?_
        refine wr_n (pc2 := 22) (lv2 := [(0, .ref 96), (1, vi x)]) (st2 := [vi x]) 1 (fun _ _ => rfl) ?_
        by_cases h5 : x ≠ 0
        · refine wr_if1t rfl rfl (by unfold i32; omega) h5 ?_
          refine wr_n (pc2 := 36) (lv2 := [(0, .ref 96), (1, vi x)]) (st2 := [vi 6, vi x]) 2 (fun _ _ => rfl) ?_
          by_cases h6 : 6 < x
          · refine wr_if2t rfl rfl (by unfold i32; omega) (by unfold i32; omega) h6 ?_
            refine wr_n (pc2 := 54) (lv2 := [(0, .ref 96), (1, vi x)]) (st2 := [vi 7, vi x]) 2 (fun _ _ => rfl) ?_
            by_cases h7 : x ≠ 7
            · refine wr_if2t rfl rfl (by unfold i32; omega) (by unfold i32; omega) h7 ?_
              refine wr_n (pc2 := 68) (lv2 := [(0, .ref 96), (1, vi x)]) (st2 := [vi 8, vi x]) 2 (fun _ _ => rfl) ?_
              by_cases h8 : x ≠ 8
              · refine wr_if2t rfl rfl (by unfold i32; omega) (by unfold i32; omega) h8 ?_
                refine wr_n (pc2 := 80) (lv2 := [(0, .ref 96), (1, vi x)]) (st2 := [.ref 96]) 1 (fun _ _ => rfl) ?_
                refine wr_get (v := .ref 142) rfl rfl rfl (by decide) (rv_ref (hK.1 96 5 142 rfl)) fun h9 => ?_
                show wr d tb_M115 83 [(0, .ref 96), (1, vi x)] [.ref 142] s _
                refine wr_get (v := vi (s.1 142 14)) rfl rfl rfl (by decide) rfl fun h10 => ?_
                have h10 : -2147483648 ≤ s.1 142 14 ∧ s.1 142 14 ≤ 2147483647 := h10
                show wr d tb_M115 86 [(0, .ref 96), (1, vi x)] [vi (s.1 142 14)] s _
                refine wr_n (pc2 := 87) (lv2 := [(0, .ref 96), (1, vi x)]) (st2 := [vi 3, vi (s.1 142 14)]) 1 (fun _ _ => rfl) ?_
                by_cases h11 : s.1 142 14 ≠ 3
                · refine wr_if2t rfl rfl (by unfold i32; omega) (by unfold i32; omega) h11 ?_
                  refine wr_n (pc2 := 95) (lv2 := [(0, .ref 96), (1, vi x)]) (st2 := [.ref 96]) 1 (fun _ _ => rfl) ?_
                  refine wr_get (v := .ref 142) rfl rfl rfl (by decide) (rv_ref (hK.1 96 5 142 rfl)) fun h12 => ?_
                  show wr d tb_M115 98 [(0, .ref 96), (1, vi x)] [.ref 142] s _
                  refine wr_get (v := .ref 151) rfl rfl rfl (by decide) (rv_ref (hK.1 142 10 151 rfl)) fun h13 => ?_
                  show wr d tb_M115 101 [(0, .ref 96), (1, vi x)] [.ref 151] s _
                  refine wr_n (pc2 := 104) (lv2 := [(0, .ref 96), (1, vi x)]) (st2 := [vi 9, vi x, .ref 151]) 2 (fun _ _ => rfl) ?_
                  refine wr_sub (a := x) (b := 9) rfl ?_
                  show wr d tb_M115 105 [(0, .ref 96), (1, vi x)] [vi (x - 9), .ref 151] s _
                  refine wr_ald (a := x - 9) (v := .ref (162 + 2 * ((x - 9).toNat))) rfl rfl rfl (by omega) (by omega) (by decide) (rv_ref (hK.1 151 ((x - 9).toNat) (162 + 2 * ((x - 9).toNat)) (r_outs (by omega)))) fun h14 => ?_
                  show wr d tb_M115 106 [(0, .ref 96), (1, vi x)] [.ref (162 + 2 * ((x - 9).toNat))] s _
                  refine wr_get (v := vi (s.1 (162 + 2 * ((x - 9).toNat)) 2)) rfl rfl (TQ0 (isQ_out (by omega))) (by decide) rfl fun h15 => ?_
                  have h15 : -2147483648 ≤ s.1 (162 + 2 * ((x - 9).toNat)) 2 ∧ s.1 (162 + 2 * ((x - 9).toNat)) 2 ≤ 2147483647 := h15
                  show wr d tb_M115 109 [(0, .ref 96), (1, vi x)] [vi (s.1 (162 + 2 * ((x - 9).toNat)) 2)] s _
                  have hb16 : 0 ≤ s.1 (162 + 2 * ((x - 9).toNat)) 2 ∧ s.1 (162 + 2 * ((x - 9).toNat)) 2 ≤ 40 := kb_to (kQ_2 (isQ_out (by omega))) (hK.2 (162 + 2 * ((x - 9).toNat)) 2)
                  refine wr_reti rfl rfl ?_
                  exact ⟨⟨_, rfl, rfl⟩, .inl rfl, ⟨C, D, E, hK, hC, hD, hE, r1, r2, r3⟩, (fun _ _ _ => rfl : HL s.1 s.1), rfl⟩
                · refine wr_if2f rfl rfl (by unfold i32; omega) (by unfold i32; omega) h11 ?_
                  refine wr_n (pc2 := 109) (lv2 := [(0, .ref 96), (1, vi x)]) (st2 := [vi 0]) 2 (fun _ _ => rfl) ?_
                  refine wr_end (fun _ _ => rfl) ?_
                  exact ⟨⟨_, rfl, rfl⟩, .inl rfl, ⟨C, D, E, hK, hC, hD, hE, r1, r2, r3⟩, (fun _ _ _ => rfl : HL s.1 s.1), rfl⟩
              · refine wr_if2f rfl rfl (by unfold i32; omega) (by unfold i32; omega) h8 ?_
                refine wr_n (pc2 := 72) (lv2 := [(0, .ref 96), (1, vi x)]) (st2 := [.ref 96]) 1 (fun _ _ => rfl) ?_
                refine wr_get (v := .ref 142) rfl rfl rfl (by decide) (rv_ref (hK.1 96 5 142 rfl)) fun h17 => ?_
                show wr d tb_M115 75 [(0, .ref 96), (1, vi x)] [.ref 142] s _
                refine wr_get (v := vi (s.1 142 14)) rfl rfl rfl (by decide) rfl fun h18 => ?_
                have h18 : -2147483648 ≤ s.1 142 14 ∧ s.1 142 14 ≤ 2147483647 := h18
                show wr d tb_M115 78 [(0, .ref 96), (1, vi x)] [vi (s.1 142 14)] s _
                refine wr_reti rfl rfl ?_
                exact ⟨⟨_, rfl, rfl⟩, .inl rfl, ⟨C, D, E, hK, hC, hD, hE, r1, r2, r3⟩, (fun _ _ _ => rfl : HL s.1 s.1), rfl⟩
            · refine wr_if2f rfl rfl (by unfold i32; omega) (by unfold i32; omega) h7 ?_
              refine wr_n (pc2 := 58) (lv2 := [(0, .ref 96), (1, vi x)]) (st2 := [.ref 96]) 1 (fun _ _ => rfl) ?_
              refine wr_get (v := .ref 142) rfl rfl rfl (by decide) (rv_ref (hK.1 96 5 142 rfl)) fun h19 => ?_
              show wr d tb_M115 61 [(0, .ref 96), (1, vi x)] [.ref 142] s _
              refine wr_get (v := vi (s.1 142 15)) rfl rfl rfl (by decide) rfl fun h20 => ?_
              have h20 : -2147483648 ≤ s.1 142 15 ∧ s.1 142 15 ≤ 2147483647 := h20
              show wr d tb_M115 64 [(0, .ref 96), (1, vi x)] [vi (s.1 142 15)] s _
              refine wr_reti rfl rfl ?_
              exact ⟨⟨_, rfl, rfl⟩, .inl rfl, ⟨C, D, E, hK, hC, hD, hE, r1, r2, r3⟩, (fun _ _ _ => rfl : HL s.1 s.1), rfl⟩
          · refine wr_if2f rfl rfl (by unfold i32; omega) (by unfold i32; omega) h6 ?_
            refine wr_n (pc2 := 40) (lv2 := [(0, .ref 96), (1, vi x)]) (st2 := [.ref 96]) 1 (fun _ _ => rfl) ?_
            refine wr_get (v := .ref C) rfl rfl rfl (by decide) (rv_ref (show (s.1) 96 1 = ((C : Nat) : Int) from r1)) fun h21 => ?_
            show wr d tb_M115 43 [(0, .ref 96), (1, vi x)] [.ref C] s _
            refine wr_get (v := .ref (C + 10)) rfl rfl (TK0 hC) (by decide) (rv_ref (hK.1 C 6 (C + 10) (rcK hC (by omega)))) fun h22 => ?_
            show wr d tb_M115 46 [(0, .ref 96), (1, vi x)] [.ref (C + 10)] s _
            refine wr_n (pc2 := 48) (lv2 := [(0, .ref 96), (1, vi x)]) (st2 := [vi 1, vi x, .ref (C + 10)]) 2 (fun _ _ => rfl) ?_
            refine wr_sub (a := x) (b := 1) rfl ?_
            show wr d tb_M115 49 [(0, .ref 96), (1, vi x)] [vi (x - 1), .ref (C + 10)] s _
            refine wr_ald (a := x - 1) (v := vi (s.1 (C + 10) ((x - 1).toNat))) rfl (TK10 hC) rfl (by omega) (by omega) (by decide) rfl fun h23 => ?_
            have h23 : -2147483648 ≤ s.1 (C + 10) ((x - 1).toNat) ∧ s.1 (C + 10) ((x - 1).toNat) ≤ 2147483647 := h23
            show wr d tb_M115 50 [(0, .ref 96), (1, vi x)] [vi (s.1 (C + 10) ((x - 1).toNat))] s _
            have hb24 : 0 ≤ s.1 (C + 10) ((x - 1).toNat) ∧ s.1 (C + 10) ((x - 1).toNat) ≤ LIM ((x - 1).toNat) := kb_to (kC10 hC) (hK.2 (C + 10) ((x - 1).toNat))
            refine wr_reti rfl rfl ?_
            exact ⟨⟨_, rfl, rfl⟩, .inl rfl, ⟨C, D, E, hK, hC, hD, hE, r1, r2, r3⟩, (fun _ _ _ => rfl : HL s.1 s.1), rfl⟩
        · refine wr_if1f rfl rfl (by unfold i32; omega) h5 ?_
          refine wr_n (pc2 := 26) (lv2 := [(0, .ref 96), (1, vi x)]) (st2 := [.ref 96]) 1 (fun _ _ => rfl) ?_
          refine wr_get (v := .ref C) rfl rfl rfl (by decide) (rv_ref (show (s.1) 96 1 = ((C : Nat) : Int) from r1)) fun h25 => ?_
          show wr d tb_M115 29 [(0, .ref 96), (1, vi x)] [.ref C] s _
          refine wr_get (v := vi (s.1 C 12)) rfl rfl (TK0 hC) (by decide) rfl fun h26 => ?_
          have h26 : -2147483648 ≤ s.1 C 12 ∧ s.1 C 12 ≤ 2147483647 := h26
          show wr d tb_M115 32 [(0, .ref 96), (1, vi x)] [vi (s.1 C 12)] s _
          have hb27 : 0 ≤ s.1 C 12 ∧ s.1 C 12 ≤ 2000 := kb_to (kC_12 hC) (hK.2 C 12)
          refine wr_reti rfl rfl ?_
          exact ⟨⟨_, rfl, rfl⟩, .inl rfl, ⟨C, D, E, hK, hC, hD, hE, r1, r2, r3⟩, (fun _ _ _ => rfl : HL s.1 s.1), rfl⟩
      · refine wr_if1f rfl rfl (by unfold i32; omega) h4 ?_
        refine wr_n (pc2 := 20) (lv2 := [(0, .ref 96), (1, vi x)]) (st2 := [vi 0]) 1 (fun _ _ => rfl) ?_
        refine wr_end (fun _ _ => rfl) ?_
        exact ⟨⟨_, rfl, rfl⟩, .inl rfl, ⟨C, D, E, hK, hC, hD, hE, r1, r2, r3⟩, (fun _ _ _ => rfl : HL s.1 s.1), rfl⟩
    · refine wr_if2f rfl rfl (by unfold i32; omega) (by unfold i32; omega) h2 ?_
      refine wr_n (pc2 := 11) (lv2 := [(0, .ref 96), (1, vi x)]) (st2 := [vi ((-1))]) 1 (fun _ _ => rfl) ?_
      refine wr_end (fun _ _ => rfl) ?_
      exact ⟨⟨_, rfl, rfl⟩, .inl rfl, ⟨C, D, E, hK, hC, hD, hE, r1, r2, r3⟩, (fun _ _ _ => rfl : HL s.1 s.1), rfl⟩
set_option maxHeartbeats 20000000 in
set_option maxRecDepth 100000 in
theorem zl_end {d C D E : Nat} {x : Int} (s : rS) (hXI : XI C D E s.1) (hx : (-2147483648) ≤ x ∧ x ≤ 2147483647)  : cr (d + 1) 18 [.ref 96, vi x] s (XZL (fun z r => z = x ∧ 0 ≤ x ∧ x ≤ s.1 97 1 ∧ r 97 1 = x ∨ z = -1 ∧ ¬ (0 ≤ x ∧ x ≤ s.1 97 1) ∧ r 97 1 = s.1 97 1) s) := by
  obtain ⟨hK, hC, hD, hE, r1, r2, r3⟩ := hXI
  refine cr_of (M := tb_M18) rfl (Nat.le_of_ble_eq_true rfl) ?_
  show wr (d) tb_M18 0 [(0, .ref 96), (1, vi x)] [] s _
  refine wr_n (pc2 := 1) (lv2 := [(0, .ref 96), (1, vi x)]) (st2 := [vi x]) 1 (fun _ _ => rfl) ?_
  by_cases h1 : x < 0
  · refine wr_if1t rfl rfl (by unfold i32; omega) h1 ?_
    refine wr_n (pc2 := 16) (lv2 := [(0, .ref 96), (1, vi x)]) (st2 := [vi ((-1))]) 1 (fun _ _ => rfl) ?_
    refine wr_end (fun _ _ => rfl) ?_
    exact ⟨⟨(-1), rfl, (by have h9 : s.1 97 1 = s.1 97 1 := rfl; show (-1) = x ∧ 0 ≤ x ∧ x ≤ s.1 97 1 ∧ s.1 97 1 = x ∨ (-1) = -1 ∧ ¬ (0 ≤ x ∧ x ≤ s.1 97 1) ∧ s.1 97 1 = s.1 97 1; omega)⟩, rfl, ⟨C, D, E, hK, hC, hD, hE, r1, r2, r3⟩, (fun _ _ _ => rfl : HL s.1 s.1)⟩
  · refine wr_if1f rfl rfl (by unfold i32; omega) h1 ?_
    refine wr_n (pc2 := 6) (lv2 := [(0, .ref 96), (1, vi x)]) (st2 := [.ref 96, vi x]) 2 (fun _ _ => rfl) ?_
    refine wr_get (v := .ref 97) rfl rfl rfl (by decide) (rv_ref (hK.1 96 0 97 rfl)) fun h2 => ?_
    show wr d tb_M18 9 [(0, .ref 96), (1, vi x)] [.ref 97, vi x] s _
    refine wr_get (v := vi (s.1 97 1)) rfl rfl rfl (by decide) rfl fun h3 => ?_
    have h3 : -2147483648 ≤ s.1 97 1 ∧ s.1 97 1 ≤ 2147483647 := h3
    show wr d tb_M18 12 [(0, .ref 96), (1, vi x)] [vi (s.1 97 1), vi x] s _
    have hb4 : 0 ≤ s.1 97 1 ∧ s.1 97 1 ≤ 2000 := kb_to rfl (hK.2 97 1)
    by_cases h5 : x ≤ s.1 97 1
    · refine wr_if2t rfl rfl (by unfold i32; omega) (by unfold i32; omega) h5 ?_
      refine wr_n (pc2 := 18) (lv2 := [(0, .ref 96), (1, vi x)]) (st2 := [.ref 96]) 1 (fun _ _ => rfl) ?_
      refine wr_get (v := .ref 97) rfl rfl rfl (by decide) (rv_ref (hK.1 96 0 97 rfl)) fun h6 => ?_
      show wr d tb_M18 21 [(0, .ref 96), (1, vi x)] [.ref 97] s _
      refine wr_n (pc2 := 22) (lv2 := [(0, .ref 96), (1, vi x)]) (st2 := [vi x, .ref 97]) 1 (fun _ _ => rfl) ?_
      refine wr_put (z := x) rfl rfl rfl rfl (by decide) rfl (by decide) rfl (show -2147483648 ≤ x ∧ x ≤ 2147483647 by omega) (hf_int' _) ?_
      show wr d tb_M18 25 [(0, .ref 96), (1, vi x)] [] (up2 s.1 97 1 x, s.2) _
      have hK7 : KI (up2 s.1 97 1 x) := (KI_up hK rfl (kb_of rfl (show 0 ≤ x ∧ x ≤ 2000 by omega)))
      refine wr_n (pc2 := 26) (lv2 := [(0, .ref 96), (1, vi x)]) (st2 := [vi x]) 1 (fun _ _ => rfl) ?_
      refine wr_reti rfl rfl ?_
      obtain ⟨q8, hs8⟩ : ∃ qq9 : rS, qq9 = (up2 s.1 97 1 x, s.2) := ⟨_, rfl⟩
      rw [← hs8]
      have hK8 : KI q8.1 := by rw [hs8]; exact hK7
      have r1_8 : q8.1 96 1 = (C : Int) := by rw [hs8]; exact (show (up2 s.1 97 1 x) 96 1 = (C : Int) from ((if_neg (by omega)).trans r1))
      have r2_8 : q8.1 96 2 = (D : Int) := by rw [hs8]; exact (show (up2 s.1 97 1 x) 96 2 = (D : Int) from ((if_neg (by omega)).trans r2))
      have r3_8 : q8.1 142 0 = (E : Int) := by rw [hs8]; exact (show (up2 s.1 97 1 x) 142 0 = (E : Int) from ((if_neg (by omega)).trans r3))
      have tp_8 : q8.1 97 1 = x := by rw [hs8]; exact (show (up2 s.1 97 1 x) 97 1 = x from up_self)
      have hi_8 : HL s.1 q8.1 := by rw [hs8]; exact (fun k j hk => (show (up2 s.1 97 1 x) k j = s.1 k j from ((if_neg (by omega)).trans ((fun _ _ _ => rfl : HL s.1 s.1) k j hk))))
      have ce_8 : q8.2 = s.2 := by rw [hs8]
      clear hs8
      exact ⟨⟨x, rfl, (by have h9 : q8.1 97 1 = x := tp_8; show x = x ∧ 0 ≤ x ∧ x ≤ s.1 97 1 ∧ q8.1 97 1 = x ∨ x = -1 ∧ ¬ (0 ≤ x ∧ x ≤ s.1 97 1) ∧ q8.1 97 1 = s.1 97 1; omega)⟩, ce_8, ⟨C, D, E, hK8, hC, hD, hE, r1_8, r2_8, r3_8⟩, hi_8⟩
    · refine wr_if2f rfl rfl (by unfold i32; omega) (by unfold i32; omega) h5 ?_
      refine wr_n (pc2 := 16) (lv2 := [(0, .ref 96), (1, vi x)]) (st2 := [vi ((-1))]) 1 (fun _ _ => rfl) ?_
      refine wr_end (fun _ _ => rfl) ?_
      exact ⟨⟨(-1), rfl, (by have h9 : s.1 97 1 = s.1 97 1 := rfl; show (-1) = x ∧ 0 ≤ x ∧ x ≤ s.1 97 1 ∧ s.1 97 1 = x ∨ (-1) = -1 ∧ ¬ (0 ≤ x ∧ x ≤ s.1 97 1) ∧ s.1 97 1 = s.1 97 1; omega)⟩, rfl, ⟨C, D, E, hK, hC, hD, hE, r1, r2, r3⟩, (fun _ _ _ => rfl : HL s.1 s.1)⟩
set_option maxHeartbeats 20000000 in
set_option maxRecDepth 100000 in
theorem ql_count {d C D : Nat} (s : rS) (hR : RF s.1) (hS : SI C D s.1) {n : Int} (hn : i32 n) : cr (d + 1 + 1) 176 [.ref 170, vi n] s (MJ3 1 (fun t => t = s.1 170 1) s) := by
  have hC := SI_C hS
  have ht0 := hS.2.1
  unfold i32 at hn
  refine cr_of (M := tb_M176) rfl (Nat.le_of_ble_eq_true rfl) ?_
  show wr (d + 1) tb_M176 0 [(0, .ref 170), (1, vi n)] [] s _
  refine wr_n (pc2 := 1) (lv2 := [(0, .ref 170), (1, vi n)]) (st2 := [vi n]) 1 (fun _ _ => rfl) ?_
  refine wr_i2l (a := n) rfl (by unfold i32; omega) ?_
  show wr (d + 1) tb_M176 2 [(0, .ref 170), (1, vi n)] [vl n] s _
  refine wr_n (pc2 := 6) (lv2 := [(0, .ref 170), (1, vi n)]) (st2 := [vl 12, vl 0, vl n]) 2 (fun _ _ => rfl) ?_
  refine wr_call0 (args := [vl n, vl 0, vl 12]) (rest := []) rfl rfl rfl (Nat.le_of_ble_eq_true rfl) (cr_mono (c_in (d := d) (a := n) (b := 0) (c := 12) _ (by unfold i64; omega) (by unfold i64; omega) (by unfold i64; omega)) ?_)
  rintro s4 out ⟨e1, rfl, h2, e3⟩
  refine ⟨_, rfl, ?_⟩
  rw [e3]
  show wr (d + 1) tb_M176 9 [(0, .ref 170), (1, vi n)] [vi e1] s _
  by_cases h5 : e1 ≠ 0
  · refine wr_if1t rfl rfl (by unfold i32; omega) h5 ?_
    refine wr_n (pc2 := 15) (lv2 := [(0, .ref 170), (1, vi n)]) (st2 := [.ref 170]) 1 (fun _ _ => rfl) ?_
    refine wr_get (v := vi (s.1 170 20)) rfl rfl rfl (by decide) rfl fun h6 => ?_
    have h6 : 0 ≤ s.1 170 20 ∧ s.1 170 20 ≤ 1 := h6
    show wr (d + 1) tb_M176 18 [(0, .ref 170), (1, vi n)] [vi (s.1 170 20)] s _
    by_cases h7 : s.1 170 20 ≠ 0
    · refine wr_if1t rfl rfl (by unfold i32; omega) h7 ?_
      refine wr_n (pc2 := 24) (lv2 := [(0, .ref 170), (1, vi n)]) (st2 := [vi n]) 1 (fun _ _ => rfl) ?_
      refine wr_tsw2 rfl (by decide) (by unfold i32; omega) (fun _ _ off hoff => ?_) (fun hdf => ?_)
      · have hoff2 : off = 52 ∨ off = 60 ∨ off = 68 ∨ off = 76 ∨ off = 84 ∨ off = 92 ∨ off = 100 ∨ off = 108 ∨ off = 113 := by simp at hoff; omega
        clear hoff
        rcases hoff2 with rfl | rfl | rfl | rfl | rfl | rfl | rfl | rfl | rfl
        · refine ⟨76, rfl, ?_⟩
          refine wr_n (pc2 := 77) (lv2 := [(0, .ref 170), (1, vi n)]) (st2 := [.ref 170]) 1 (fun _ _ => rfl) ?_
          refine wr_get (v := .ref C) rfl rfl rfl (by decide) (rv_ref (show s.1 170 17 = ((C : Nat) : Int) from hS.2.2.1)) fun h8 => ?_
          show wr (d + 1) tb_M176 80 [(0, .ref 170), (1, vi n)] [.ref C] s _
          refine wr_get (v := vi (s.1 C 3)) rfl rfl (TG_C hC) (by decide) rfl fun h9 => ?_
          have h9 : -2147483648 ≤ s.1 C 3 ∧ s.1 C 3 ≤ 2147483647 := h9
          show wr (d + 1) tb_M176 83 [(0, .ref 170), (1, vi n)] [vi (s.1 C 3)] s _
          refine wr_reti rfl rfl ?_
          exact MJ3_same rfl rfl hR hS
        · refine ⟨84, rfl, ?_⟩
          refine wr_n (pc2 := 85) (lv2 := [(0, .ref 170), (1, vi n)]) (st2 := [.ref 170]) 1 (fun _ _ => rfl) ?_
          refine wr_get (v := .ref C) rfl rfl rfl (by decide) (rv_ref (show s.1 170 17 = ((C : Nat) : Int) from hS.2.2.1)) fun h10 => ?_
          show wr (d + 1) tb_M176 88 [(0, .ref 170), (1, vi n)] [.ref C] s _
          refine wr_get (v := vi (s.1 C 4)) rfl rfl (TG_C hC) (by decide) rfl fun h11 => ?_
          have h11 : -2147483648 ≤ s.1 C 4 ∧ s.1 C 4 ≤ 2147483647 := h11
          show wr (d + 1) tb_M176 91 [(0, .ref 170), (1, vi n)] [vi (s.1 C 4)] s _
          refine wr_reti rfl rfl ?_
          exact MJ3_same rfl rfl hR hS
        · refine ⟨92, rfl, ?_⟩
          refine wr_n (pc2 := 93) (lv2 := [(0, .ref 170), (1, vi n)]) (st2 := [.ref 170]) 1 (fun _ _ => rfl) ?_
          refine wr_get (v := .ref C) rfl rfl rfl (by decide) (rv_ref (show s.1 170 17 = ((C : Nat) : Int) from hS.2.2.1)) fun h12 => ?_
          show wr (d + 1) tb_M176 96 [(0, .ref 170), (1, vi n)] [.ref C] s _
          refine wr_get (v := vi (s.1 C 5)) rfl rfl (TG_C hC) (by decide) rfl fun h13 => ?_
          have h13 : -2147483648 ≤ s.1 C 5 ∧ s.1 C 5 ≤ 2147483647 := h13
          show wr (d + 1) tb_M176 99 [(0, .ref 170), (1, vi n)] [vi (s.1 C 5)] s _
          refine wr_reti rfl rfl ?_
          exact MJ3_same rfl rfl hR hS
        · refine ⟨100, rfl, ?_⟩
          refine wr_n (pc2 := 101) (lv2 := [(0, .ref 170), (1, vi n)]) (st2 := [.ref 170]) 1 (fun _ _ => rfl) ?_
          refine wr_get (v := .ref C) rfl rfl rfl (by decide) (rv_ref (show s.1 170 17 = ((C : Nat) : Int) from hS.2.2.1)) fun h14 => ?_
          show wr (d + 1) tb_M176 104 [(0, .ref 170), (1, vi n)] [.ref C] s _
          refine wr_get (v := vi (s.1 C 6)) rfl rfl (TG_C hC) (by decide) rfl fun h15 => ?_
          have h15 : -2147483648 ≤ s.1 C 6 ∧ s.1 C 6 ≤ 2147483647 := h15
          show wr (d + 1) tb_M176 107 [(0, .ref 170), (1, vi n)] [vi (s.1 C 6)] s _
          refine wr_reti rfl rfl ?_
          exact MJ3_same rfl rfl hR hS
        · refine ⟨108, rfl, ?_⟩
          refine wr_n (pc2 := 109) (lv2 := [(0, .ref 170), (1, vi n)]) (st2 := [.ref 170]) 1 (fun _ _ => rfl) ?_
          refine wr_get (v := .ref C) rfl rfl rfl (by decide) (rv_ref (show s.1 170 17 = ((C : Nat) : Int) from hS.2.2.1)) fun h16 => ?_
          show wr (d + 1) tb_M176 112 [(0, .ref 170), (1, vi n)] [.ref C] s _
          refine wr_get (v := vi (s.1 C 7)) rfl rfl (TG_C hC) (by decide) rfl fun h17 => ?_
          have h17 : -2147483648 ≤ s.1 C 7 ∧ s.1 C 7 ≤ 2147483647 := h17
          show wr (d + 1) tb_M176 115 [(0, .ref 170), (1, vi n)] [vi (s.1 C 7)] s _
          refine wr_reti rfl rfl ?_
          exact MJ3_same rfl rfl hR hS
        · refine ⟨116, rfl, ?_⟩
          refine wr_n (pc2 := 117) (lv2 := [(0, .ref 170), (1, vi n)]) (st2 := [.ref 170]) 1 (fun _ _ => rfl) ?_
          refine wr_get (v := .ref C) rfl rfl rfl (by decide) (rv_ref (show s.1 170 17 = ((C : Nat) : Int) from hS.2.2.1)) fun h18 => ?_
          show wr (d + 1) tb_M176 120 [(0, .ref 170), (1, vi n)] [.ref C] s _
          refine wr_get (v := vi (s.1 C 8)) rfl rfl (TG_C hC) (by decide) rfl fun h19 => ?_
          have h19 : -2147483648 ≤ s.1 C 8 ∧ s.1 C 8 ≤ 2147483647 := h19
          show wr (d + 1) tb_M176 123 [(0, .ref 170), (1, vi n)] [vi (s.1 C 8)] s _
          refine wr_reti rfl rfl ?_
          exact MJ3_same rfl rfl hR hS
        · refine ⟨124, rfl, ?_⟩
          refine wr_n (pc2 := 125) (lv2 := [(0, .ref 170), (1, vi n)]) (st2 := [.ref 170]) 1 (fun _ _ => rfl) ?_
          refine wr_get (v := .ref C) rfl rfl rfl (by decide) (rv_ref (show s.1 170 17 = ((C : Nat) : Int) from hS.2.2.1)) fun h20 => ?_
          show wr (d + 1) tb_M176 128 [(0, .ref 170), (1, vi n)] [.ref C] s _
          refine wr_get (v := vi (s.1 C 9)) rfl rfl (TG_C hC) (by decide) rfl fun h21 => ?_
          have h21 : -2147483648 ≤ s.1 C 9 ∧ s.1 C 9 ≤ 2147483647 := h21
          show wr (d + 1) tb_M176 131 [(0, .ref 170), (1, vi n)] [vi (s.1 C 9)] s _
          refine wr_reti rfl rfl ?_
          exact MJ3_same rfl rfl hR hS
        · refine ⟨132, rfl, ?_⟩
          refine wr_n (pc2 := 133) (lv2 := [(0, .ref 170), (1, vi n)]) (st2 := [.ref 170]) 1 (fun _ _ => rfl) ?_
          refine wr_get (v := vi (s.1 170 53)) rfl rfl rfl (by decide) rfl fun h22 => ?_
          have h22 : -2147483648 ≤ s.1 170 53 ∧ s.1 170 53 ≤ 2147483647 := h22
          show wr (d + 1) tb_M176 136 [(0, .ref 170), (1, vi n)] [vi (s.1 170 53)] s _
          refine wr_reti rfl rfl ?_
          exact MJ3_same rfl rfl hR hS
        · refine ⟨137, rfl, ?_⟩
          refine wr_n (pc2 := 138) (lv2 := [(0, .ref 170), (1, vi n)]) (st2 := [.ref 170]) 1 (fun _ _ => rfl) ?_
          refine wr_get (v := vi (s.1 170 52)) rfl rfl rfl (by decide) rfl fun h23 => ?_
          have h23 : -2147483648 ≤ s.1 170 52 ∧ s.1 170 52 ≤ 2147483647 := h23
          show wr (d + 1) tb_M176 141 [(0, .ref 170), (1, vi n)] [vi (s.1 170 52)] s _
          refine wr_reti rfl rfl ?_
          exact MJ3_same rfl rfl hR hS
      · refine ⟨142, rfl, ?_⟩
        refine wr_n (pc2 := 143) (lv2 := [(0, .ref 170), (1, vi n)]) (st2 := [.ref 170]) 1 (fun _ _ => rfl) ?_
        refine wr_get (v := vi (s.1 170 52)) rfl rfl rfl (by decide) rfl fun h24 => ?_
        have h24 : -2147483648 ≤ s.1 170 52 ∧ s.1 170 52 ≤ 2147483647 := h24
        show wr (d + 1) tb_M176 146 [(0, .ref 170), (1, vi n)] [vi (s.1 170 52)] s _
        refine wr_n (pc2 := 147) (lv2 := [(0, .ref 170), (1, vi n)]) (st2 := [vi 3, vi (s.1 170 52)]) 1 (fun _ _ => rfl) ?_
        by_cases h25 : s.1 170 52 ≠ 3
        · refine wr_if2t rfl rfl (by unfold i32; omega) (by unfold i32; omega) h25 ?_
          refine wr_n (pc2 := 155) (lv2 := [(0, .ref 170), (1, vi n)]) (st2 := [.ref 170]) 1 (fun _ _ => rfl) ?_
          refine wr_get (v := .ref 1630) rfl rfl rfl (by decide) (rv_ref (hR 170 51 1630 rfl)) fun h26 => ?_
          show wr (d + 1) tb_M176 158 [(0, .ref 170), (1, vi n)] [.ref 1630] s _
          refine wr_n (pc2 := 160) (lv2 := [(0, .ref 170), (1, vi n)]) (st2 := [vi n, vi 4, .ref 1630]) 2 (fun _ _ => rfl) ?_
          refine wr_add (a := 4) (b := n) rfl ?_
          show wr (d + 1) tb_M176 161 [(0, .ref 170), (1, vi n)] [vi (4 + n), .ref 1630] s _
          refine wr_n (pc2 := 163) (lv2 := [(0, .ref 170), (1, vi n)]) (st2 := [vi 9, vi (4 + n), .ref 1630]) 1 (fun _ _ => rfl) ?_
          refine wr_sub (a := 4 + n) (b := 9) rfl ?_
          show wr (d + 1) tb_M176 164 [(0, .ref 170), (1, vi n)] [vi ((4 + n) - 9), .ref 1630] s _
          refine wr_ald (a := (4 + n) - 9) (v := vi (s.1 1630 (((4 + n) - 9).toNat))) rfl rfl rfl (by omega) (by omega) (by decide) rfl fun h27 => ?_
          have h27 : -2147483648 ≤ s.1 1630 (((4 + n) - 9).toNat) ∧ s.1 1630 (((4 + n) - 9).toNat) ≤ 2147483647 := h27
          show wr (d + 1) tb_M176 165 [(0, .ref 170), (1, vi n)] [vi (s.1 1630 (((4 + n) - 9).toNat))] s _
          refine wr_reti rfl rfl ?_
          exact MJ3_same rfl rfl hR hS
        · refine wr_if2f rfl rfl (by unfold i32; omega) (by unfold i32; omega) h25 ?_
          refine wr_n (pc2 := 165) (lv2 := [(0, .ref 170), (1, vi n)]) (st2 := [vi 0]) 2 (fun _ _ => rfl) ?_
          refine wr_end (fun _ _ => rfl) ?_
          exact MJ3_same rfl rfl hR hS
    · refine wr_if1f rfl rfl (by unfold i32; omega) h7 ?_
      refine wr_n (pc2 := 22) (lv2 := [(0, .ref 170), (1, vi n)]) (st2 := [vi 0]) 1 (fun _ _ => rfl) ?_
      refine wr_end (fun _ _ => rfl) ?_
      exact MJ3_same rfl rfl hR hS
  · refine wr_if1f rfl rfl (by unfold i32; omega) h5 ?_
    refine wr_n (pc2 := 13) (lv2 := [(0, .ref 170), (1, vi n)]) (st2 := [vi ((-1))]) 1 (fun _ _ => rfl) ?_
    refine wr_end (fun _ _ => rfl) ?_
    exact MJ3_same rfl rfl hR hS
set_option maxHeartbeats 20000000 in
set_option maxRecDepth 100000 in
theorem ml_look75 {d C D na : Nat} {k n : Int} {s : rS} (hC : C = 177 ∨ C = 186) (hR : RF s.1) (hS : SI C D s.1) (htz : s.1 170 1 = 0) (hk : i32 k) (hn : 0 ≤ n ∧ n ≤ 2000) (hLK : LK C s.1) (hna : s.1 C 5 = (na : Int) ∧ na ≤ 6) (hsz : ∀ a : Nat, a < na → 1 ≤ s.1 (C + 3) a ∧ s.1 (C + 3) a ≤ 64) {Q : rS → hm_Out → Prop} {i : Nat} (hi : (i : Int) < s.1 C 18) (hLi : 0 ≤ s.1 (C + 5) i ∧ s.1 (C + 5) i ≤ s.1 (C + 6) i ∧ s.1 (C + 6) i ≤ 2000) (hi9 : i < 100) (hQ : ∀ j2 sm2 : Int, sm2 = 0 ∨ sm2 = 1 → wr d tb_M175 129 [(5, vi j2), (4, vi sm2), (3, vi ((i : Int))), (2, vi n), (0, .ref 170), (1, vi k)] [] s Q) : ∀ (w : Nat) (j sm : Int), (n - j).toNat = w → (0 ≤ j ∧ j ≤ n) → (sm = 0 ∨ sm = 1 ∧ s.1 (C + 6) i - s.1 (C + 5) i = n) → wr d tb_M175 75 [(5, vi j), (4, vi sm), (3, vi ((i : Int))), (2, vi n), (0, .ref 170), (1, vi k)] [] s Q := by
  intro w
  induction w using Nat.strongRecOn with | ind w ih => ?_
  intro j sm hw hj hsm
  refine wr_n (pc2 := 78) (lv2 := [(5, vi j), (4, vi sm), (3, vi ((i : Int))), (2, vi n), (0, .ref 170), (1, vi k)]) (st2 := [vi n, vi j]) 2 (fun _ _ => rfl) ?_
  by_cases h1 : n ≤ j
  · refine wr_if2t rfl rfl (by unfold i32; omega) (by unfold i32; omega) h1 ?_
    exact hQ _ _ (by omega)
  · refine wr_if2f rfl rfl (by unfold i32; omega) (by unfold i32; omega) h1 ?_
    refine wr_n (pc2 := 83) (lv2 := [(5, vi j), (4, vi sm), (3, vi ((i : Int))), (2, vi n), (0, .ref 170), (1, vi k)]) (st2 := [vi sm]) 1 (fun _ _ => rfl) ?_
    by_cases h2 : sm = 0
    · refine wr_if1t rfl rfl (by unfold i32; omega) h2 ?_
      exact hQ _ _ (by omega)
    · refine wr_if1f rfl rfl (by unfold i32; omega) h2 ?_
      refine wr_n (pc2 := 87) (lv2 := [(5, vi j), (4, vi sm), (3, vi ((i : Int))), (2, vi n), (0, .ref 170), (1, vi k)]) (st2 := [.ref 170]) 1 (fun _ _ => rfl) ?_
      refine wr_get (v := .ref C) rfl rfl rfl (by decide) (rv_ref (show s.1 170 17 = ((C : Nat) : Int) from hS.2.2.1)) fun h3 => ?_
      show wr d tb_M175 90 [(5, vi j), (4, vi sm), (3, vi ((i : Int))), (2, vi n), (0, .ref 170), (1, vi k)] [.ref C] s _
      refine wr_get (v := .ref (C + 4)) rfl rfl (TG_C hC) (by decide) (rv_ref (hR C 13 (C + 4) (rc_C13 hC))) fun h4 => ?_
      show wr d tb_M175 93 [(5, vi j), (4, vi sm), (3, vi ((i : Int))), (2, vi n), (0, .ref 170), (1, vi k)] [.ref (C + 4)] s _
      refine wr_n (pc2 := 94) (lv2 := [(5, vi j), (4, vi sm), (3, vi ((i : Int))), (2, vi n), (0, .ref 170), (1, vi k)]) (st2 := [.ref 170, .ref (C + 4)]) 1 (fun _ _ => rfl) ?_
      refine wr_get (v := .ref C) rfl rfl rfl (by decide) (rv_ref (show s.1 170 17 = ((C : Nat) : Int) from hS.2.2.1)) fun h5 => ?_
      show wr d tb_M175 97 [(5, vi j), (4, vi sm), (3, vi ((i : Int))), (2, vi n), (0, .ref 170), (1, vi k)] [.ref C, .ref (C + 4)] s _
      refine wr_get (v := .ref (C + 5)) rfl rfl (TG_C hC) (by decide) (rv_ref (hR C 14 (C + 5) (rc_C14 hC))) fun h6 => ?_
      show wr d tb_M175 100 [(5, vi j), (4, vi sm), (3, vi ((i : Int))), (2, vi n), (0, .ref 170), (1, vi k)] [.ref (C + 5), .ref (C + 4)] s _
      refine wr_n (pc2 := 101) (lv2 := [(5, vi j), (4, vi sm), (3, vi ((i : Int))), (2, vi n), (0, .ref 170), (1, vi k)]) (st2 := [vi ((i : Int)), .ref (C + 5), .ref (C + 4)]) 1 (fun _ _ => rfl) ?_
      refine wr_ald (a := (i : Int)) (v := vi (s.1 (C + 5) i)) rfl (TG_C5 hC) rfl (by omega) (by omega) (by decide) rfl fun h7 => ?_
      have h7 : -2147483648 ≤ s.1 (C + 5) i ∧ s.1 (C + 5) i ≤ 2147483647 := h7
      show wr d tb_M175 102 [(5, vi j), (4, vi sm), (3, vi ((i : Int))), (2, vi n), (0, .ref 170), (1, vi k)] [vi (s.1 (C + 5) i), .ref (C + 4)] s _
      refine wr_n (pc2 := 104) (lv2 := [(5, vi j), (4, vi sm), (3, vi ((i : Int))), (2, vi n), (0, .ref 170), (1, vi k)]) (st2 := [vi j, vi (s.1 (C + 5) i), .ref (C + 4)]) 1 (fun _ _ => rfl) ?_
      refine wr_add (a := s.1 (C + 5) i) (b := j) rfl ?_
      show wr d tb_M175 105 [(5, vi j), (4, vi sm), (3, vi ((i : Int))), (2, vi n), (0, .ref 170), (1, vi k)] [vi (s.1 (C + 5) i + j), .ref (C + 4)] s _
      refine wr_ald (a := s.1 (C + 5) i + j) (v := vi (s.1 (C + 4) ((s.1 (C + 5) i + j).toNat))) rfl (TG_C4 hC) rfl (by omega) (by omega) (by decide) rfl fun h8 => ?_
      have h8 : -128 ≤ s.1 (C + 4) ((s.1 (C + 5) i + j).toNat) ∧ s.1 (C + 4) ((s.1 (C + 5) i + j).toNat) ≤ 127 := h8
      show wr d tb_M175 106 [(5, vi j), (4, vi sm), (3, vi ((i : Int))), (2, vi n), (0, .ref 170), (1, vi k)] [vi (s.1 (C + 4) ((s.1 (C + 5) i + j).toNat))] s _
      refine wr_n (pc2 := 107) (lv2 := [(5, vi j), (4, vi sm), (3, vi ((i : Int))), (2, vi n), (0, .ref 170), (1, vi k)]) (st2 := [.ref 170, vi (s.1 (C + 4) ((s.1 (C + 5) i + j).toNat))]) 1 (fun _ _ => rfl) ?_
      refine wr_get (v := .ref 171) rfl rfl rfl (by decide) (rv_ref (hR 170 0 171 rfl)) fun h9 => ?_
      show wr d tb_M175 110 [(5, vi j), (4, vi sm), (3, vi ((i : Int))), (2, vi n), (0, .ref 170), (1, vi k)] [.ref 171, vi (s.1 (C + 4) ((s.1 (C + 5) i + j).toNat))] s _
      refine wr_n (pc2 := 112) (lv2 := [(5, vi j), (4, vi sm), (3, vi ((i : Int))), (2, vi n), (0, .ref 170), (1, vi k)]) (st2 := [vi j, .ref 171, vi (s.1 (C + 4) ((s.1 (C + 5) i + j).toNat))]) 1 (fun _ _ => rfl) ?_
      refine wr_ald (a := j) (v := vi (s.1 171 j.toNat)) rfl rfl rfl (by omega) (by omega) (by decide) rfl fun h10 => ?_
      have h10 : -128 ≤ s.1 171 j.toNat ∧ s.1 171 j.toNat ≤ 127 := h10
      show wr d tb_M175 113 [(5, vi j), (4, vi sm), (3, vi ((i : Int))), (2, vi n), (0, .ref 170), (1, vi k)] [vi (s.1 171 j.toNat), vi (s.1 (C + 4) ((s.1 (C + 5) i + j).toNat))] s _
      by_cases h11 : s.1 (C + 4) ((s.1 (C + 5) i + j).toNat) ≠ s.1 171 j.toNat
      · refine wr_if2t rfl rfl (by unfold i32; omega) (by unfold i32; omega) h11 ?_
        refine wr_n (pc2 := 123) (lv2 := [(4, vi 0), (5, vi j), (3, vi ((i : Int))), (2, vi n), (0, .ref 170), (1, vi k)]) (st2 := []) 2 (fun _ _ => rfl) ?_
        refine wr_inc (a := j) rfl rfl ?_
        show wr d tb_M175 126 [(5, vi (j + 1)), (4, vi 0), (3, vi ((i : Int))), (2, vi n), (0, .ref 170), (1, vi k)] [] s _
        refine wr_n (pc2 := 75) (lv2 := [(5, vi (j + 1)), (4, vi 0), (3, vi ((i : Int))), (2, vi n), (0, .ref 170), (1, vi k)]) (st2 := []) 1 (fun _ _ => rfl) ?_
        exact ih _ (by omega) _ _ rfl (by omega) (by omega)
      · refine wr_if2f rfl rfl (by unfold i32; omega) (by unfold i32; omega) h11 ?_
        refine wr_n (pc2 := 123) (lv2 := [(4, vi 1), (5, vi j), (3, vi ((i : Int))), (2, vi n), (0, .ref 170), (1, vi k)]) (st2 := []) 3 (fun _ _ => rfl) ?_
        refine wr_inc (a := j) rfl rfl ?_
        show wr d tb_M175 126 [(5, vi (j + 1)), (4, vi 1), (3, vi ((i : Int))), (2, vi n), (0, .ref 170), (1, vi k)] [] s _
        refine wr_n (pc2 := 75) (lv2 := [(5, vi (j + 1)), (4, vi 1), (3, vi ((i : Int))), (2, vi n), (0, .ref 170), (1, vi k)]) (st2 := []) 1 (fun _ _ => rfl) ?_
        exact ih _ (by omega) _ _ rfl (by omega) (by omega)
set_option maxHeartbeats 20000000 in
set_option maxRecDepth 100000 in
theorem ml_look129 {d C D na : Nat} {k n : Int} {s0 s : rS} (hC : C = 177 ∨ C = 186) (hR : RF s.1) (hS : SI C D s.1) (hc : s.2 = s0.2) (hL0 : LH s0.1 s.1) (htz : s.1 170 1 = 0) (hk : i32 k) (hn : 0 ≤ n ∧ n ≤ 2000) (hLK : LK C s.1) (hna : s.1 C 5 = (na : Int) ∧ na ≤ 6) (hsz : ∀ a : Nat, a < na → 1 ≤ s.1 (C + 3) a ∧ s.1 (C + 3) a ≤ 64) {i : Nat} {j sm : Int} (hi : (i : Int) < s.1 C 18) (hi9 : i < 100) (hsm : sm = 0 ∨ sm = 1) (hQ : ∀ w sm2 : Int, sm2 = 0 ∨ sm2 = 1 → wr d tb_M175 31 [(3, vi (((i + 1 : Nat) : Int))), (5, vi w), (4, vi sm2), (2, vi n), (0, .ref 170), (1, vi k)] [] s (MJ3 2 (fun t => t = 0) s0)) : wr d tb_M175 129 [(5, vi j), (4, vi sm), (3, vi ((i : Int))), (2, vi n), (0, .ref 170), (1, vi k)] [] s (MJ3 2 (fun t => t = 0) s0) := by
  unfold i32 at hk
  refine wr_n (pc2 := 130) (lv2 := [(5, vi j), (4, vi sm), (3, vi ((i : Int))), (2, vi n), (0, .ref 170), (1, vi k)]) (st2 := [.ref 170]) 1 (fun _ _ => rfl) ?_
  refine wr_get (v := .ref C) rfl rfl rfl (by decide) (rv_ref (show s.1 170 17 = ((C : Nat) : Int) from hS.2.2.1)) fun h1 => ?_
  show wr d tb_M175 133 [(5, vi j), (4, vi sm), (3, vi ((i : Int))), (2, vi n), (0, .ref 170), (1, vi k)] [.ref C] s _
  refine wr_get (v := .ref (C + 8)) rfl rfl (TG_C hC) (by decide) (rv_ref (hR C 17 (C + 8) (rc_C17 hC))) fun h2 => ?_
  show wr d tb_M175 136 [(5, vi j), (4, vi sm), (3, vi ((i : Int))), (2, vi n), (0, .ref 170), (1, vi k)] [.ref (C + 8)] s _
  refine wr_n (pc2 := 137) (lv2 := [(5, vi j), (4, vi sm), (3, vi ((i : Int))), (2, vi n), (0, .ref 170), (1, vi k)]) (st2 := [vi ((i : Int)), .ref (C + 8)]) 1 (fun _ _ => rfl) ?_
  refine wr_ald (a := (i : Int)) (v := vi (s.1 (C + 8) i)) rfl (TG_C8 hC) rfl (by omega) (by omega) (by decide) rfl fun h3 => ?_
  have h3 : -2147483648 ≤ s.1 (C + 8) i ∧ s.1 (C + 8) i ≤ 2147483647 := h3
  show wr d tb_M175 138 [(5, vi j), (4, vi sm), (3, vi ((i : Int))), (2, vi n), (0, .ref 170), (1, vi k)] [vi (s.1 (C + 8) i)] s _
  have hw8 := (hLK.2.2 i hi).2.2.2
  have hw6 := hna
  refine wr_n (pc2 := 142) (lv2 := [(5, vi (s.1 (C + 8) i)), (4, vi sm), (3, vi ((i : Int))), (2, vi n), (0, .ref 170), (1, vi k)]) (st2 := [vi sm]) 2 (fun _ _ => rfl) ?_
  by_cases h4 : sm = 0
  · refine wr_if1t rfl rfl (by unfold i32; omega) h4 ?_
    refine wr_inc (a := (i : Int)) rfl rfl ?_
    show wr d tb_M175 195 [(3, vi ((i : Int) + 1)), (5, vi (s.1 (C + 8) i)), (4, vi sm), (2, vi n), (0, .ref 170), (1, vi k)] [] s _
    refine wr_n (pc2 := 31) (lv2 := [(3, vi ((i : Int) + 1)), (5, vi (s.1 (C + 8) i)), (4, vi sm), (2, vi n), (0, .ref 170), (1, vi k)]) (st2 := []) 1 (fun _ _ => rfl) ?_
    rw [show (i : Int) + 1 = ((i + 1 : Nat) : Int) from rfl]
    exact hQ _ _ (by omega)
  · refine wr_if1f rfl rfl (by unfold i32; omega) h4 ?_
    refine wr_n (pc2 := 146) (lv2 := [(5, vi (s.1 (C + 8) i)), (4, vi sm), (3, vi ((i : Int))), (2, vi n), (0, .ref 170), (1, vi k)]) (st2 := [.ref 170]) 1 (fun _ _ => rfl) ?_
    refine wr_get (v := .ref C) rfl rfl rfl (by decide) (rv_ref (show s.1 170 17 = ((C : Nat) : Int) from hS.2.2.1)) fun h5 => ?_
    show wr d tb_M175 149 [(5, vi (s.1 (C + 8) i)), (4, vi sm), (3, vi ((i : Int))), (2, vi n), (0, .ref 170), (1, vi k)] [.ref C] s _
    refine wr_get (v := .ref (C + 7)) rfl rfl (TG_C hC) (by decide) (rv_ref (hR C 16 (C + 7) (rc_C16 hC))) fun h6 => ?_
    show wr d tb_M175 152 [(5, vi (s.1 (C + 8) i)), (4, vi sm), (3, vi ((i : Int))), (2, vi n), (0, .ref 170), (1, vi k)] [.ref (C + 7)] s _
    refine wr_n (pc2 := 153) (lv2 := [(5, vi (s.1 (C + 8) i)), (4, vi sm), (3, vi ((i : Int))), (2, vi n), (0, .ref 170), (1, vi k)]) (st2 := [vi ((i : Int)), .ref (C + 7)]) 1 (fun _ _ => rfl) ?_
    refine wr_ald (a := (i : Int)) (v := vi (s.1 (C + 7) i)) rfl (TG_C7 hC) rfl (by omega) (by omega) (by decide) rfl fun h7 => ?_
    have h7 : -2147483648 ≤ s.1 (C + 7) i ∧ s.1 (C + 7) i ≤ 2147483647 := h7
    show wr d tb_M175 154 [(5, vi (s.1 (C + 8) i)), (4, vi sm), (3, vi ((i : Int))), (2, vi n), (0, .ref 170), (1, vi k)] [vi (s.1 (C + 7) i)] s _
    by_cases h8 : s.1 (C + 7) i ≠ 0
    · refine wr_if1t rfl rfl (by unfold i32; omega) h8 ?_
      have hs9 := hsz (s.1 (C + 8) i).toNat (by omega)
      refine wr_n (pc2 := 169) (lv2 := [(5, vi (s.1 (C + 8) i)), (4, vi sm), (3, vi ((i : Int))), (2, vi n), (0, .ref 170), (1, vi k)]) (st2 := [.ref 170]) 1 (fun _ _ => rfl) ?_
      refine wr_get (v := .ref 212) rfl rfl rfl (by decide) (rv_ref (hR 170 47 212 rfl)) fun h9 => ?_
      show wr d tb_M175 172 [(5, vi (s.1 (C + 8) i)), (4, vi sm), (3, vi ((i : Int))), (2, vi n), (0, .ref 170), (1, vi k)] [.ref 212] s _
      refine wr_n (pc2 := 174) (lv2 := [(5, vi (s.1 (C + 8) i)), (4, vi sm), (3, vi ((i : Int))), (2, vi n), (0, .ref 170), (1, vi k)]) (st2 := [vi (s.1 (C + 8) i), .ref 212]) 1 (fun _ _ => rfl) ?_
      refine wr_ald (a := s.1 (C + 8) i) (v := .ref (213 + ((s.1 (C + 8) i).toNat))) rfl rfl rfl (by omega) (by omega) (by decide) (rv_ref (hR 212 ((s.1 (C + 8) i).toNat) (213 + ((s.1 (C + 8) i).toNat)) (rc_it (by omega)))) fun h10 => ?_
      show wr d tb_M175 175 [(5, vi (s.1 (C + 8) i)), (4, vi sm), (3, vi ((i : Int))), (2, vi n), (0, .ref 170), (1, vi k)] [.ref (213 + ((s.1 (C + 8) i).toNat))] s _
      refine wr_n (pc2 := 177) (lv2 := [(5, vi (s.1 (C + 8) i)), (4, vi sm), (3, vi ((i : Int))), (2, vi n), (0, .ref 170), (1, vi k)]) (st2 := [.ref 170, vi k, .ref (213 + ((s.1 (C + 8) i).toNat))]) 2 (fun _ _ => rfl) ?_
      refine wr_get (v := .ref C) rfl rfl rfl (by decide) (rv_ref (show s.1 170 17 = ((C : Nat) : Int) from hS.2.2.1)) fun h11 => ?_
      show wr d tb_M175 180 [(5, vi (s.1 (C + 8) i)), (4, vi sm), (3, vi ((i : Int))), (2, vi n), (0, .ref 170), (1, vi k)] [.ref C, vi k, .ref (213 + ((s.1 (C + 8) i).toNat))] s _
      refine wr_get (v := .ref (C + 3)) rfl rfl (TG_C hC) (by decide) (rv_ref (hR C 12 (C + 3) (rc_C12 hC))) fun h12 => ?_
      show wr d tb_M175 183 [(5, vi (s.1 (C + 8) i)), (4, vi sm), (3, vi ((i : Int))), (2, vi n), (0, .ref 170), (1, vi k)] [.ref (C + 3), vi k, .ref (213 + ((s.1 (C + 8) i).toNat))] s _
      refine wr_n (pc2 := 185) (lv2 := [(5, vi (s.1 (C + 8) i)), (4, vi sm), (3, vi ((i : Int))), (2, vi n), (0, .ref 170), (1, vi k)]) (st2 := [vi (s.1 (C + 8) i), .ref (C + 3), vi k, .ref (213 + ((s.1 (C + 8) i).toNat))]) 1 (fun _ _ => rfl) ?_
      refine wr_ald (a := s.1 (C + 8) i) (v := vi (s.1 (C + 3) ((s.1 (C + 8) i).toNat))) rfl (TG_C3 hC) rfl (by omega) (by omega) (by decide) rfl fun h13 => ?_
      have h13 : -2147483648 ≤ s.1 (C + 3) ((s.1 (C + 8) i).toNat) ∧ s.1 (C + 3) ((s.1 (C + 8) i).toNat) ≤ 2147483647 := h13
      show wr d tb_M175 186 [(5, vi (s.1 (C + 8) i)), (4, vi sm), (3, vi ((i : Int))), (2, vi n), (0, .ref 170), (1, vi k)] [vi (s.1 (C + 3) ((s.1 (C + 8) i).toNat)), vi k, .ref (213 + ((s.1 (C + 8) i).toNat))] s _
      refine wr_n (pc2 := 187) (lv2 := [(5, vi (s.1 (C + 8) i)), (4, vi sm), (3, vi ((i : Int))), (2, vi n), (0, .ref 170), (1, vi k)]) (st2 := [vi 1, vi (s.1 (C + 3) ((s.1 (C + 8) i).toNat)), vi k, .ref (213 + ((s.1 (C + 8) i).toNat))]) 1 (fun _ _ => rfl) ?_
      refine wr_sub (a := s.1 (C + 3) ((s.1 (C + 8) i).toNat)) (b := 1) rfl ?_
      show wr d tb_M175 188 [(5, vi (s.1 (C + 8) i)), (4, vi sm), (3, vi ((i : Int))), (2, vi n), (0, .ref 170), (1, vi k)] [vi ((s.1 (C + 3) ((s.1 (C + 8) i).toNat)) - 1), vi k, .ref (213 + ((s.1 (C + 8) i).toNat))] s _
      refine wr_and (b := (s.1 (C + 3) ((s.1 (C + 8) i).toNat)) - 1) rfl (by omega) fun z14 h15 => ?_
      show wr d tb_M175 189 [(5, vi (s.1 (C + 8) i)), (4, vi sm), (3, vi ((i : Int))), (2, vi n), (0, .ref 170), (1, vi k)] [vi z14, .ref (213 + ((s.1 (C + 8) i).toNat))] s _
      refine wr_ald (a := z14) (v := vi (s.1 (213 + ((s.1 (C + 8) i).toNat)) z14.toNat)) rfl (TG_it (by omega)) rfl (by omega) (by omega) (by decide) rfl fun h16 => ?_
      have h16 : -2147483648 ≤ s.1 (213 + ((s.1 (C + 8) i).toNat)) z14.toNat ∧ s.1 (213 + ((s.1 (C + 8) i).toNat)) z14.toNat ≤ 2147483647 := h16
      show wr d tb_M175 190 [(5, vi (s.1 (C + 8) i)), (4, vi sm), (3, vi ((i : Int))), (2, vi n), (0, .ref 170), (1, vi k)] [vi (s.1 (213 + ((s.1 (C + 8) i).toNat)) z14.toNat)] s _
      refine wr_i2l (a := s.1 (213 + ((s.1 (C + 8) i).toNat)) z14.toNat) rfl (by unfold i32; omega) ?_
      show wr d tb_M175 191 [(5, vi (s.1 (C + 8) i)), (4, vi sm), (3, vi ((i : Int))), (2, vi n), (0, .ref 170), (1, vi k)] [vl (s.1 (213 + ((s.1 (C + 8) i).toNat)) z14.toNat)] s _
      refine wr_end (fun _ _ => rfl) ?_
      exact ⟨⟨_, rfl, rfl⟩, hc, hR, hL0, ⟨C, D, hS⟩, htz⟩
    · refine wr_if1f rfl rfl (by unfold i32; omega) h8 ?_
      refine wr_n (pc2 := 158) (lv2 := [(5, vi (s.1 (C + 8) i)), (4, vi sm), (3, vi ((i : Int))), (2, vi n), (0, .ref 170), (1, vi k)]) (st2 := [.ref 170]) 1 (fun _ _ => rfl) ?_
      refine wr_get (v := .ref 203) rfl rfl rfl (by decide) (rv_ref (hR 170 38 203 rfl)) fun h17 => ?_
      show wr d tb_M175 161 [(5, vi (s.1 (C + 8) i)), (4, vi sm), (3, vi ((i : Int))), (2, vi n), (0, .ref 170), (1, vi k)] [.ref 203] s _
      refine wr_n (pc2 := 163) (lv2 := [(5, vi (s.1 (C + 8) i)), (4, vi sm), (3, vi ((i : Int))), (2, vi n), (0, .ref 170), (1, vi k)]) (st2 := [vi (s.1 (C + 8) i), .ref 203]) 1 (fun _ _ => rfl) ?_
      refine wr_ald (a := s.1 (C + 8) i) (v := vi (s.1 203 ((s.1 (C + 8) i).toNat))) rfl rfl rfl (by omega) (by omega) (by decide) rfl fun h18 => ?_
      have h18 : -2147483648 ≤ s.1 203 ((s.1 (C + 8) i).toNat) ∧ s.1 203 ((s.1 (C + 8) i).toNat) ≤ 2147483647 := h18
      show wr d tb_M175 164 [(5, vi (s.1 (C + 8) i)), (4, vi sm), (3, vi ((i : Int))), (2, vi n), (0, .ref 170), (1, vi k)] [vi (s.1 203 ((s.1 (C + 8) i).toNat))] s _
      refine wr_i2l (a := s.1 203 ((s.1 (C + 8) i).toNat)) rfl (by unfold i32; omega) ?_
      show wr d tb_M175 165 [(5, vi (s.1 (C + 8) i)), (4, vi sm), (3, vi ((i : Int))), (2, vi n), (0, .ref 170), (1, vi k)] [vl (s.1 203 ((s.1 (C + 8) i).toNat))] s _
      refine wr_n (pc2 := 191) (lv2 := [(5, vi (s.1 (C + 8) i)), (4, vi sm), (3, vi ((i : Int))), (2, vi n), (0, .ref 170), (1, vi k)]) (st2 := [vl (s.1 203 ((s.1 (C + 8) i).toNat))]) 1 (fun _ _ => rfl) ?_
      refine wr_end (fun _ _ => rfl) ?_
      exact ⟨⟨_, rfl, rfl⟩, hc, hR, hL0, ⟨C, D, hS⟩, htz⟩
set_option maxHeartbeats 20000000 in
set_option maxRecDepth 100000 in
theorem ml_look31 {d C D na : Nat} {k n : Int} {s0 s : rS} (hC : C = 177 ∨ C = 186) (hR : RF s.1) (hS : SI C D s.1) (hc : s.2 = s0.2) (hL0 : LH s0.1 s.1) (htz : s.1 170 1 = 0) (hk : i32 k) (hn : 0 ≤ n ∧ n ≤ 2000) (hLK : LK C s.1) (hna : s.1 C 5 = (na : Int) ∧ na ≤ 6) (hsz : ∀ a : Nat, a < na → 1 ≤ s.1 (C + 3) a ∧ s.1 (C + 3) a ≤ 64) : ∀ (q i : Nat) (w sm : Int), (s.1 C 18 - i).toNat = q → i ≤ 100 → wr d tb_M175 31 [(3, vi ((i : Int))), (5, vi w), (4, vi sm), (2, vi n), (0, .ref 170), (1, vi k)] [] s (MJ3 2 (fun t => t = 0) s0) := by
  intro q
  have hl1 := hLK.1
  have hl2 := hLK.2.1
  induction q using Nat.strongRecOn with | ind q ih => ?_
  intro i w sm hq hi1
  refine wr_n (pc2 := 33) (lv2 := [(3, vi ((i : Int))), (5, vi w), (4, vi sm), (2, vi n), (0, .ref 170), (1, vi k)]) (st2 := [.ref 170, vi ((i : Int))]) 2 (fun _ _ => rfl) ?_
  refine wr_get (v := .ref C) rfl rfl rfl (by decide) (rv_ref (show s.1 170 17 = ((C : Nat) : Int) from hS.2.2.1)) fun h1 => ?_
  show wr d tb_M175 36 [(3, vi ((i : Int))), (5, vi w), (4, vi sm), (2, vi n), (0, .ref 170), (1, vi k)] [.ref C, vi ((i : Int))] s _
  refine wr_get (v := vi (s.1 C 18)) rfl rfl (TG_C hC) (by decide) rfl fun h2 => ?_
  have h2 : -2147483648 ≤ s.1 C 18 ∧ s.1 C 18 ≤ 2147483647 := h2
  show wr d tb_M175 39 [(3, vi ((i : Int))), (5, vi w), (4, vi sm), (2, vi n), (0, .ref 170), (1, vi k)] [vi (s.1 C 18), vi ((i : Int))] s _
  by_cases h3 : s.1 C 18 ≤ (i : Int)
  · refine wr_if2t rfl rfl (by unfold i32; omega) (by unfold i32; omega) h3 ?_
    refine wr_n (pc2 := 201) (lv2 := [(3, vi ((i : Int))), (5, vi w), (4, vi sm), (2, vi n), (0, .ref 170), (1, vi k)]) (st2 := [vl 1099511627776]) 1 (fun _ _ => rfl) ?_
    refine wr_end (fun _ _ => rfl) ?_
    exact ⟨⟨_, rfl, rfl⟩, hc, hR, hL0, ⟨C, D, hS⟩, htz⟩
  · refine wr_if2f rfl rfl (by unfold i32; omega) (by unfold i32; omega) h3 ?_
    have hLi := hLK.2.2 i (by omega)
    have hl9 := hLK.2.1
    refine wr_n (pc2 := 43) (lv2 := [(3, vi ((i : Int))), (5, vi w), (4, vi sm), (2, vi n), (0, .ref 170), (1, vi k)]) (st2 := [.ref 170]) 1 (fun _ _ => rfl) ?_
    refine wr_get (v := .ref C) rfl rfl rfl (by decide) (rv_ref (show s.1 170 17 = ((C : Nat) : Int) from hS.2.2.1)) fun h4 => ?_
    show wr d tb_M175 46 [(3, vi ((i : Int))), (5, vi w), (4, vi sm), (2, vi n), (0, .ref 170), (1, vi k)] [.ref C] s _
    refine wr_get (v := .ref (C + 6)) rfl rfl (TG_C hC) (by decide) (rv_ref (hR C 15 (C + 6) (rc_C15 hC))) fun h5 => ?_
    show wr d tb_M175 49 [(3, vi ((i : Int))), (5, vi w), (4, vi sm), (2, vi n), (0, .ref 170), (1, vi k)] [.ref (C + 6)] s _
    refine wr_n (pc2 := 50) (lv2 := [(3, vi ((i : Int))), (5, vi w), (4, vi sm), (2, vi n), (0, .ref 170), (1, vi k)]) (st2 := [vi ((i : Int)), .ref (C + 6)]) 1 (fun _ _ => rfl) ?_
    refine wr_ald (a := (i : Int)) (v := vi (s.1 (C + 6) i)) rfl (TG_C6 hC) rfl (by omega) (by omega) (by decide) rfl fun h6 => ?_
    have h6 : -2147483648 ≤ s.1 (C + 6) i ∧ s.1 (C + 6) i ≤ 2147483647 := h6
    show wr d tb_M175 51 [(3, vi ((i : Int))), (5, vi w), (4, vi sm), (2, vi n), (0, .ref 170), (1, vi k)] [vi (s.1 (C + 6) i)] s _
    refine wr_n (pc2 := 52) (lv2 := [(3, vi ((i : Int))), (5, vi w), (4, vi sm), (2, vi n), (0, .ref 170), (1, vi k)]) (st2 := [.ref 170, vi (s.1 (C + 6) i)]) 1 (fun _ _ => rfl) ?_
    refine wr_get (v := .ref C) rfl rfl rfl (by decide) (rv_ref (show s.1 170 17 = ((C : Nat) : Int) from hS.2.2.1)) fun h7 => ?_
    show wr d tb_M175 55 [(3, vi ((i : Int))), (5, vi w), (4, vi sm), (2, vi n), (0, .ref 170), (1, vi k)] [.ref C, vi (s.1 (C + 6) i)] s _
    refine wr_get (v := .ref (C + 5)) rfl rfl (TG_C hC) (by decide) (rv_ref (hR C 14 (C + 5) (rc_C14 hC))) fun h8 => ?_
    show wr d tb_M175 58 [(3, vi ((i : Int))), (5, vi w), (4, vi sm), (2, vi n), (0, .ref 170), (1, vi k)] [.ref (C + 5), vi (s.1 (C + 6) i)] s _
    refine wr_n (pc2 := 59) (lv2 := [(3, vi ((i : Int))), (5, vi w), (4, vi sm), (2, vi n), (0, .ref 170), (1, vi k)]) (st2 := [vi ((i : Int)), .ref (C + 5), vi (s.1 (C + 6) i)]) 1 (fun _ _ => rfl) ?_
    refine wr_ald (a := (i : Int)) (v := vi (s.1 (C + 5) i)) rfl (TG_C5 hC) rfl (by omega) (by omega) (by decide) rfl fun h9 => ?_
    have h9 : -2147483648 ≤ s.1 (C + 5) i ∧ s.1 (C + 5) i ≤ 2147483647 := h9
    show wr d tb_M175 60 [(3, vi ((i : Int))), (5, vi w), (4, vi sm), (2, vi n), (0, .ref 170), (1, vi k)] [vi (s.1 (C + 5) i), vi (s.1 (C + 6) i)] s _
    refine wr_sub (a := s.1 (C + 6) i) (b := s.1 (C + 5) i) rfl ?_
    show wr d tb_M175 61 [(3, vi ((i : Int))), (5, vi w), (4, vi sm), (2, vi n), (0, .ref 170), (1, vi k)] [vi ((s.1 (C + 6) i) - (s.1 (C + 5) i))] s _
    refine wr_n (pc2 := 62) (lv2 := [(3, vi ((i : Int))), (5, vi w), (4, vi sm), (2, vi n), (0, .ref 170), (1, vi k)]) (st2 := [vi n, vi ((s.1 (C + 6) i) - (s.1 (C + 5) i))]) 1 (fun _ _ => rfl) ?_
    by_cases h10 : (s.1 (C + 6) i) - (s.1 (C + 5) i) ≠ n
    · refine wr_if2t rfl rfl (by unfold i32; omega) (by unfold i32; omega) h10 ?_
      refine wr_n (pc2 := 75) (lv2 := [(5, vi 0), (4, vi 0), (3, vi ((i : Int))), (2, vi n), (0, .ref 170), (1, vi k)]) (st2 := []) 4 (fun _ _ => rfl) ?_
      exact ml_look75 (i := i) hC hR hS htz hk hn hLK hna hsz (by omega) ⟨hLi.1, hLi.2.1, hLi.2.2.1⟩ (by omega) (fun j2 sm2 h9 => ml_look129 (i := i) hC hR hS hc hL0 htz hk hn hLK hna hsz (by omega) (by omega) h9 (fun w3 sm3 h8 => ih _ (by omega) (i + 1) w3 sm3 rfl (by omega))) _ 0 0 rfl (by omega) (by omega)
    · refine wr_if2f rfl rfl (by unfold i32; omega) (by unfold i32; omega) h10 ?_
      refine wr_n (pc2 := 75) (lv2 := [(5, vi 0), (4, vi 1), (3, vi ((i : Int))), (2, vi n), (0, .ref 170), (1, vi k)]) (st2 := []) 5 (fun _ _ => rfl) ?_
      exact ml_look75 (i := i) hC hR hS htz hk hn hLK hna hsz (by omega) ⟨hLi.1, hLi.2.1, hLi.2.2.1⟩ (by omega) (fun j2 sm2 h9 => ml_look129 (i := i) hC hR hS hc hL0 htz hk hn hLK hna hsz (by omega) (by omega) h9 (fun w3 sm3 h8 => ih _ (by omega) (i + 1) w3 sm3 rfl (by omega))) _ 0 1 rfl (by omega) (by omega)
set_option maxHeartbeats 20000000 in
set_option maxRecDepth 100000 in
theorem ml_look0 {d C D na : Nat} {k n : Int} {s0 s : rS} (hC : C = 177 ∨ C = 186) (hR : RF s.1) (hS : SI C D s.1) (hc : s.2 = s0.2) (hL0 : LH s0.1 s.1) (htz : s.1 170 1 = 0) (hk : i32 k) (hn : 0 ≤ n ∧ n ≤ 2000) (hLK : LK C s.1) (hna : s.1 C 5 = (na : Int) ∧ na ≤ 6) (hsz : ∀ a : Nat, a < na → 1 ≤ s.1 (C + 3) a ∧ s.1 (C + 3) a ≤ 64) : wr d tb_M175 31 [(3, vi 0), (2, vi n), (0, .ref 170), (1, vi k)] [] s (MJ3 2 (fun t => t = 0) s0) := by
  have hl1 := hLK.1
  have hl2 := hLK.2.1
  have hX : ∀ w sm : Int, wr d tb_M175 31 [(3, vi (((0 + 1 : Nat) : Int))), (5, vi w), (4, vi sm), (2, vi n), (0, .ref 170), (1, vi k)] [] s (MJ3 2 (fun t => t = 0) s0) := fun w sm => ml_look31 hC hR hS hc hL0 htz hk hn hLK hna hsz _ 1 w sm rfl (by omega)
  refine wr_n (pc2 := 33) (lv2 := [(3, vi 0), (2, vi n), (0, .ref 170), (1, vi k)]) (st2 := [.ref 170, vi 0]) 2 (fun _ _ => rfl) ?_
  refine wr_get (v := .ref C) rfl rfl rfl (by decide) (rv_ref (show s.1 170 17 = ((C : Nat) : Int) from hS.2.2.1)) fun h1 => ?_
  show wr d tb_M175 36 [(3, vi 0), (2, vi n), (0, .ref 170), (1, vi k)] [.ref C, vi 0] s _
  refine wr_get (v := vi (s.1 C 18)) rfl rfl (TG_C hC) (by decide) rfl fun h2 => ?_
  have h2 : -2147483648 ≤ s.1 C 18 ∧ s.1 C 18 ≤ 2147483647 := h2
  show wr d tb_M175 39 [(3, vi 0), (2, vi n), (0, .ref 170), (1, vi k)] [vi (s.1 C 18), vi 0] s _
  by_cases h3 : s.1 C 18 ≤ 0
  · refine wr_if2t rfl rfl (by unfold i32; omega) (by unfold i32; omega) h3 ?_
    refine wr_n (pc2 := 201) (lv2 := [(3, vi 0), (2, vi n), (0, .ref 170), (1, vi k)]) (st2 := [vl 1099511627776]) 1 (fun _ _ => rfl) ?_
    refine wr_end (fun _ _ => rfl) ?_
    exact ⟨⟨_, rfl, rfl⟩, hc, hR, hL0, ⟨C, D, hS⟩, htz⟩
  · refine wr_if2f rfl rfl (by unfold i32; omega) (by unfold i32; omega) h3 ?_
    have hLi := hLK.2.2 0 (by omega)
    have hl9 := hLK.2.1
    refine wr_n (pc2 := 43) (lv2 := [(3, vi 0), (2, vi n), (0, .ref 170), (1, vi k)]) (st2 := [.ref 170]) 1 (fun _ _ => rfl) ?_
    refine wr_get (v := .ref C) rfl rfl rfl (by decide) (rv_ref (show s.1 170 17 = ((C : Nat) : Int) from hS.2.2.1)) fun h4 => ?_
    show wr d tb_M175 46 [(3, vi 0), (2, vi n), (0, .ref 170), (1, vi k)] [.ref C] s _
    refine wr_get (v := .ref (C + 6)) rfl rfl (TG_C hC) (by decide) (rv_ref (hR C 15 (C + 6) (rc_C15 hC))) fun h5 => ?_
    show wr d tb_M175 49 [(3, vi 0), (2, vi n), (0, .ref 170), (1, vi k)] [.ref (C + 6)] s _
    refine wr_n (pc2 := 50) (lv2 := [(3, vi 0), (2, vi n), (0, .ref 170), (1, vi k)]) (st2 := [vi 0, .ref (C + 6)]) 1 (fun _ _ => rfl) ?_
    refine wr_ald (a := 0) (v := vi (s.1 (C + 6) 0)) rfl (TG_C6 hC) rfl (by omega) (by omega) (by decide) rfl fun h6 => ?_
    have h6 : -2147483648 ≤ s.1 (C + 6) 0 ∧ s.1 (C + 6) 0 ≤ 2147483647 := h6
    show wr d tb_M175 51 [(3, vi 0), (2, vi n), (0, .ref 170), (1, vi k)] [vi (s.1 (C + 6) 0)] s _
    refine wr_n (pc2 := 52) (lv2 := [(3, vi 0), (2, vi n), (0, .ref 170), (1, vi k)]) (st2 := [.ref 170, vi (s.1 (C + 6) 0)]) 1 (fun _ _ => rfl) ?_
    refine wr_get (v := .ref C) rfl rfl rfl (by decide) (rv_ref (show s.1 170 17 = ((C : Nat) : Int) from hS.2.2.1)) fun h7 => ?_
    show wr d tb_M175 55 [(3, vi 0), (2, vi n), (0, .ref 170), (1, vi k)] [.ref C, vi (s.1 (C + 6) 0)] s _
    refine wr_get (v := .ref (C + 5)) rfl rfl (TG_C hC) (by decide) (rv_ref (hR C 14 (C + 5) (rc_C14 hC))) fun h8 => ?_
    show wr d tb_M175 58 [(3, vi 0), (2, vi n), (0, .ref 170), (1, vi k)] [.ref (C + 5), vi (s.1 (C + 6) 0)] s _
    refine wr_n (pc2 := 59) (lv2 := [(3, vi 0), (2, vi n), (0, .ref 170), (1, vi k)]) (st2 := [vi 0, .ref (C + 5), vi (s.1 (C + 6) 0)]) 1 (fun _ _ => rfl) ?_
    refine wr_ald (a := 0) (v := vi (s.1 (C + 5) 0)) rfl (TG_C5 hC) rfl (by omega) (by omega) (by decide) rfl fun h9 => ?_
    have h9 : -2147483648 ≤ s.1 (C + 5) 0 ∧ s.1 (C + 5) 0 ≤ 2147483647 := h9
    show wr d tb_M175 60 [(3, vi 0), (2, vi n), (0, .ref 170), (1, vi k)] [vi (s.1 (C + 5) 0), vi (s.1 (C + 6) 0)] s _
    refine wr_sub (a := s.1 (C + 6) 0) (b := s.1 (C + 5) 0) rfl ?_
    show wr d tb_M175 61 [(3, vi 0), (2, vi n), (0, .ref 170), (1, vi k)] [vi ((s.1 (C + 6) 0) - (s.1 (C + 5) 0))] s _
    refine wr_n (pc2 := 62) (lv2 := [(3, vi 0), (2, vi n), (0, .ref 170), (1, vi k)]) (st2 := [vi n, vi ((s.1 (C + 6) 0) - (s.1 (C + 5) 0))]) 1 (fun _ _ => rfl) ?_
    by_cases h10 : (s.1 (C + 6) 0) - (s.1 (C + 5) 0) ≠ n
    · refine wr_if2t rfl rfl (by unfold i32; omega) (by unfold i32; omega) h10 ?_
      refine wr_n (pc2 := 75) (lv2 := [(5, vi 0), (4, vi 0), (3, vi 0), (2, vi n), (0, .ref 170), (1, vi k)]) (st2 := []) 4 (fun _ _ => rfl) ?_
      exact ml_look75 (i := 0) hC hR hS htz hk hn hLK hna hsz (by omega) ⟨hLi.1, hLi.2.1, hLi.2.2.1⟩ (by omega) (fun j2 sm2 h9 => ml_look129 (i := 0) hC hR hS hc hL0 htz hk hn hLK hna hsz (by omega) (by omega) h9 (fun w3 sm3 h8 => hX w3 sm3)) _ 0 0 rfl (by omega) (by omega)
    · refine wr_if2f rfl rfl (by unfold i32; omega) (by unfold i32; omega) h10 ?_
      refine wr_n (pc2 := 75) (lv2 := [(5, vi 0), (4, vi 1), (3, vi 0), (2, vi n), (0, .ref 170), (1, vi k)]) (st2 := []) 5 (fun _ _ => rfl) ?_
      exact ml_look75 (i := 0) hC hR hS htz hk hn hLK hna hsz (by omega) ⟨hLi.1, hLi.2.1, hLi.2.2.1⟩ (by omega) (fun j2 sm2 h9 => ml_look129 (i := 0) hC hR hS hc hL0 htz hk hn hLK hna hsz (by omega) (by omega) h9 (fun w3 sm3 h8 => hX w3 sm3)) _ 0 1 rfl (by omega) (by omega)
set_option maxHeartbeats 20000000 in
set_option maxRecDepth 100000 in
theorem ql_look {d C D : Nat} (s : rS) (hR : RF s.1) (hS : SI C D s.1) {n : Int} (hn : i32 n) : cr (d + 1 + 1) 175 [.ref 170, vi n] s (MJ3 2 (fun t => t = 0) s) := by
  have hC := SI_C hS
  have ht0 := hS.2.1
  refine cr_of (M := tb_M175) rfl (Nat.le_of_ble_eq_true rfl) ?_
  show wr (d + 1) tb_M175 0 [(0, .ref 170), (1, vi n)] [] s _
  refine wr_n (pc2 := 1) (lv2 := [(0, .ref 170), (1, vi n)]) (st2 := [.ref 170]) 1 (fun _ _ => rfl) ?_
  refine wr_get (v := vi (s.1 170 1)) rfl rfl rfl (by decide) rfl fun h1 => ?_
  have h1 : -2147483648 ≤ s.1 170 1 ∧ s.1 170 1 ≤ 2147483647 := h1
  show wr (d + 1) tb_M175 4 [(0, .ref 170), (1, vi n)] [vi (s.1 170 1)] s _
  refine wr_n (pc2 := 7) (lv2 := [(2, vi (s.1 170 1)), (0, .ref 170), (1, vi n)]) (st2 := [vi 0, .ref 170]) 3 (fun _ _ => rfl) ?_
  refine wr_put (z := 0) rfl rfl rfl rfl (by decide) rfl (by decide) rfl (show -2147483648 ≤ 0 ∧ 0 ≤ 2147483647 by omega) (hf_int' _) ?_
  show wr (d + 1) tb_M175 10 [(2, vi (s.1 170 1)), (0, .ref 170), (1, vi n)] [] (up2 s.1 170 1 0, s.2) _
  have hR2 : RF (up2 s.1 170 1 0) := (RF_up hR rfl)
  obtain ⟨sn, hsn⟩ : ∃ qq9 : rS, qq9 = (up2 s.1 170 1 0, s.2) := ⟨_, rfl⟩
  rw [← hsn]
  have hu : U1 170 1 s.1 sn.1 := by rw [hsn]; exact U1_up
  have htz : sn.1 170 1 = 0 := by rw [hsn]; show up2 s.1 170 1 0 170 1 = 0; exact up_self
  have hz : sn.2 = s.2 := by rw [hsn]
  have hSn : SI C D sn.1 := SI_fr hS (fun k j e1 e2 => hu k j e1) (by omega) (fun q => HD_at q (fun i => hu 1630 i (by omega)))
  have hRn : RF sn.1 := RX_RF (r := sn.1) (fun _ _ _ => rfl) (fun k j v hv => (hu k j (by rintro ⟨rfl, rfl⟩; cases hv)).trans (hR k j v hv))
  have hLO : LH s.1 sn.1 := fun k j hk => hu k j (by omega)
  show wr (d + 1) tb_M175 10 [(2, vi (s.1 170 1)), (0, .ref 170), (1, vi n)] [] sn _
  refine wr_n (pc2 := 11) (lv2 := [(2, vi (s.1 170 1)), (0, .ref 170), (1, vi n)]) (st2 := [.ref 170]) 1 (fun _ _ => rfl) ?_
  refine wr_get (v := vi (sn.1 170 20)) rfl rfl rfl (by decide) rfl fun h3 => ?_
  have h3 : 0 ≤ sn.1 170 20 ∧ sn.1 170 20 ≤ 1 := h3
  show wr (d + 1) tb_M175 14 [(2, vi (s.1 170 1)), (0, .ref 170), (1, vi n)] [vi (sn.1 170 20)] sn _
  by_cases h4 : sn.1 170 20 = 0
  · refine wr_if1t rfl rfl (by unfold i32; omega) h4 ?_
    refine wr_n (pc2 := 28) (lv2 := [(2, vi (s.1 170 1)), (0, .ref 170), (1, vi n)]) (st2 := [vl 1099511627776]) 1 (fun _ _ => rfl) ?_
    refine wr_end (fun _ _ => rfl) ?_
    exact ⟨⟨_, rfl, rfl⟩, hz, hRn, hLO, ⟨C, D, hSn⟩, htz⟩
  · refine wr_if1f rfl rfl (by unfold i32; omega) h4 ?_
    refine wr_n (pc2 := 18) (lv2 := [(2, vi (s.1 170 1)), (0, .ref 170), (1, vi n)]) (st2 := [.ref 170]) 1 (fun _ _ => rfl) ?_
    refine wr_get (v := vi (sn.1 170 52)) rfl rfl rfl (by decide) rfl fun h5 => ?_
    have h5 : -2147483648 ≤ sn.1 170 52 ∧ sn.1 170 52 ≤ 2147483647 := h5
    show wr (d + 1) tb_M175 21 [(2, vi (s.1 170 1)), (0, .ref 170), (1, vi n)] [vi (sn.1 170 52)] sn _
    refine wr_n (pc2 := 22) (lv2 := [(2, vi (s.1 170 1)), (0, .ref 170), (1, vi n)]) (st2 := [vi 3, vi (sn.1 170 52)]) 1 (fun _ _ => rfl) ?_
    by_cases h6 : sn.1 170 52 ≠ 3
    · refine wr_if2t rfl rfl (by unfold i32; omega) (by unfold i32; omega) h6 ?_
      refine wr_n (pc2 := 31) (lv2 := [(3, vi 0), (2, vi (s.1 170 1)), (0, .ref 170), (1, vi n)]) (st2 := []) 2 (fun _ _ => rfl) ?_
      obtain ⟨hH, hPT, hLK, na, hna, hsz⟩ := SA_get hSn (by omega)
      exact ml_look0 hC hRn hSn hz hLO htz hn ht0 hLK hna hsz
    · refine wr_if2f rfl rfl (by unfold i32; omega) (by unfold i32; omega) h6 ?_
      refine wr_n (pc2 := 28) (lv2 := [(2, vi (s.1 170 1)), (0, .ref 170), (1, vi n)]) (st2 := [vl 1099511627776]) 1 (fun _ _ => rfl) ?_
      refine wr_end (fun _ _ => rfl) ?_
      exact ⟨⟨_, rfl, rfl⟩, hz, hRn, hLO, ⟨C, D, hSn⟩, htz⟩
