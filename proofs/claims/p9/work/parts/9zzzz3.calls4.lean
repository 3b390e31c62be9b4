/-! Our own calls, once more: all but Work's rows is kept. -/
def HJ4 (r r2 : tab) : Prop := ∀ k j, (170 ≤ k ∨ k = 96 ∨ k = 97 ∧ j = 1 ∨ 98 ≤ k ∧ k ≤ 141) → r2 k j = r k j
def XP4 (c : Nat) (t : Int → Prop) (s : rS) : rS → hm_Out → Prop := fun s2 out => (∃ v : Value, out = some (some v) ∧ v.category = c) ∧ (s2.2 = s.2 ∨ s2.2 = (s.2.1 + 1, s.2.2 + 6)) ∧ (∃ C D E, XI C D E s2.1) ∧ HJ4 s.1 s2.1 ∧ t (s2.1 97 1)
set_option maxHeartbeats 20000000 in
set_option maxRecDepth 100000 in
theorem zz_count {d C D E : Nat} {x : Int} (s : rS) (hXI : XI C D E s.1) (hx : (-2147483648) ≤ x ∧ x ≤ 2147483647)  : cr (d + 1) 115 [.ref 96, vi x] s (XP4 1 (fun t => t = s.1 97 1) s) := by
  obtain ⟨hK, hC, hD, hE, r1, r2, r3⟩ := hXI
  refine cr_of (M := tb_M115) rfl (Nat.le_of_ble_eq_true rfl) ?_
  show wr (d) tb_M115 0 [(0, .ref 96), (1, vi x)] [] s _
  refine wr_n (pc2 := 1) (lv2 := [(0, .ref 96), (1, vi x)]) (st2 := [vi x]) 1 (fun _ _ => rfl) ?_
  by_cases h1 : x < 0
  · refine wr_if1t rfl rfl (by unfold i32; omega) h1 ?_
    refine wr_n (pc2 := 11) (lv2 := [(0, .ref 96), (1, vi x)]) (st2 := [vi ((-1))]) 1 (fun _ _ => rfl) ?_
    refine wr_end (fun _ _ => rfl) ?_
    exact ⟨⟨_, rfl, rfl⟩, .inl rfl, ⟨C, D, E, hK, hC, hD, hE, r1, r2, r3⟩, (fun _ _ _ => rfl : HJ4 s.1 s.1), rfl⟩
  · refine wr_if1f rfl rfl (by unfold i32; omega) h1 ?_
    refine wr_n (pc2 := 7) (lv2 := [(0, .ref 96), (1, vi x)]) (st2 := [vi 12, vi x]) 2 (fun _ _ => rfl) ?_
    by_cases h2 : x ≤ 12
    · refine wr_if2t rfl rfl (by unfold i32; omega) (by unfold i32; omega) h2 ?_
      refine wr_n (pc2 := 13) (lv2 := [(0, .ref 96), (1, vi x)]) (st2 := [.ref 96]) 1 (fun _ _ => rfl) ?_
      refine wr_get (v := vi (s.1 96 3)) rfl rfl rfl (by decide) rfl fun h3 => ?_
      have h3 : 0 ≤ s.1 96 3 ∧ s.1 96 3 ≤ 1 := h3
      show wr d tb_M115 16 [(0, .ref 96), (1, vi x)] [vi (s.1 96 3)] s _
      by_cases h4 : s.1 96 3 ≠ 0
      · refine wr_if1t rfl rfl (by unfold i32; omega) h4 ?_
        refine wr_n (pc2 := 22) (lv2 := [(0, .ref 96), (1, vi x)]) (st2 := [vi x]) 1 (fun _ _ => rfl) ?_
        by_cases h5 : x ≠ 0
        · refine wr_if1t rfl rfl (by unfold i32; omega) h5 ?_
          refine wr_n (pc2 := 36) (lv2 := [(0, .ref 96), (1, vi x)]) (st2 := [vi 6, vi x]) 2 (fun _ _ => rfl) ?_
          by_cases h6 : 6 < x
          · refine wr_if2t rfl rfl (by unfold i32; omega) (by unfold i32; omega) h6 ?_
            refine wr_n (pc2 := 54) (lv2 := [(0, .ref 96), (1, vi x)]) (st2 := [vi 7, vi x]) 2 (fun _ _ => rfl) ?_
            by_cases h7 : x ≠ 7
            · refine wr_if2t rfl rfl (by unfold i32; omega) (by unfold i32; omega) h7 ?_
              refine wr_n (pc2 := 68) (lv2 := [(0, .ref 96), (1, vi x)]) (st2 := [vi 8, vi x]) 2 (fun _ _ => rfl) ?_
              by_cases h8 : x ≠ 8
              · refine wr_if2t rfl rfl (by unfold i32; omega) (by unfold i32; omega) h8 ?_
                refine wr_n (pc2 := 80) (lv2 := [(0, .ref 96), (1, vi x)]) (st2 := [.ref 96]) 1 (fun _ _ => rfl) ?_
                refine wr_get (v := .ref 142) rfl rfl rfl (by decide) (rv_ref (hK.1 96 5 142 rfl)) fun h9 => ?_
                show wr d tb_M115 83 [(0, .ref 96), (1, vi x)] [.ref 142] s _
                refine wr_get (v := vi (s.1 142 14)) rfl rfl rfl (by decide) rfl fun h10 => ?_
                have h10 : -2147483648 ≤ s.1 142 14 ∧ s.1 142 14 ≤ 2147483647 := h10
                show wr d tb_M115 86 [(0, .ref 96), (1, vi x)] [vi (s.1 142 14)] s _
                refine wr_n (pc2 := 87) (lv2 := [(0, .ref 96), (1, vi x)]) (st2 := [vi 3, vi (s.1 142 14)]) 1 (fun _ _ => rfl) ?_
                by_cases h11 : s.1 142 14 ≠ 3
                · refine wr_if2t rfl rfl (by unfold i32; omega) (by unfold i32; omega) h11 ?_
                  refine wr_n (pc2 := 95) (lv2 := [(0, .ref 96), (1, vi x)]) (st2 := [.ref 96]) 1 (fun _ _ => rfl) ?_
                  refine wr_get (v := .ref 142) rfl rfl rfl (by decide) (rv_ref (hK.1 96 5 142 rfl)) fun h12 => ?_
                  show wr d tb_M115 98 [(0, .ref 96), (1, vi x)] [.ref 142] s _
                  refine wr_get (v := .ref 151) rfl rfl rfl (by decide) (rv_ref (hK.1 142 10 151 rfl)) fun h13 => ?_
                  show wr d tb_M115 101 [(0, .ref 96), (1, vi x)] [.ref 151] s _
                  refine wr_n (pc2 := 104) (lv2 := [(0, .ref 96), (1, vi x)]) (st2 := [vi 9, vi x, .ref 151]) 2 (fun _ _ => rfl) ?_
                  refine wr_sub (a := x) (b := 9) rfl ?_
                  show wr d tb_M115 105 [(0, .ref 96), (1, vi x)] [vi (x - 9), .ref 151] s _
                  refine wr_ald (a := x - 9) (v := .ref (162 + 2 * ((x - 9).toNat))) rfl rfl rfl (by omega) (by omega) (by decide) (rv_ref (hK.1 151 ((x - 9).toNat) (162 + 2 * ((x - 9).toNat)) (r_outs (by omega)))) fun h14 => ?_
                  show wr d tb_M115 106 [(0, .ref 96), (1, vi x)] [.ref (162 + 2 * ((x - 9).toNat))] s _
                  refine wr_get (v := vi (s.1 (162 + 2 * ((x - 9).toNat)) 2)) rfl rfl (TQ0 (isQ_out (by omega))) (by decide) rfl fun h15 => ?_
                  have h15 : -2147483648 ≤ s.1 (162 + 2 * ((x - 9).toNat)) 2 ∧ s.1 (162 + 2 * ((x - 9).toNat)) 2 ≤ 2147483647 := h15
                  show wr d tb_M115 109 [(0, .ref 96), (1, vi x)] [vi (s.1 (162 + 2 * ((x - 9).toNat)) 2)] s _
                  have hb16 : 0 ≤ s.1 (162 + 2 * ((x - 9).toNat)) 2 ∧ s.1 (162 + 2 * ((x - 9).toNat)) 2 ≤ 40 := kb_to (kQ_2 (isQ_out (by omega))) (hK.2 (162 + 2 * ((x - 9).toNat)) 2)
                  refine wr_reti rfl rfl ?_
                  exact ⟨⟨_, rfl, rfl⟩, .inl rfl, ⟨C, D, E, hK, hC, hD, hE, r1, r2, r3⟩, (fun _ _ _ => rfl : HJ4 s.1 s.1), rfl⟩
                · refine wr_if2f rfl rfl (by unfold i32; omega) (by unfold i32; omega) h11 ?_
                  refine wr_n (pc2 := 109) (lv2 := [(0, .ref 96), (1, vi x)]) (st2 := [vi 0]) 2 (fun _ _ => rfl) ?_
                  refine wr_end (fun _ _ => rfl) ?_
                  exact ⟨⟨_, rfl, rfl⟩, .inl rfl, ⟨C, D, E, hK, hC, hD, hE, r1, r2, r3⟩, (fun _ _ _ => rfl : HJ4 s.1 s.1), rfl⟩
              · refine wr_if2f rfl rfl (by unfold i32; omega) (by unfold i32; omega) h8 ?_
                refine wr_n (pc2 := 72) (lv2 := [(0, .ref 96), (1, vi x)]) (st2 := [.ref 96]) 1 (fun _ _ => rfl) ?_
                refine wr_get (v := .ref 142) rfl rfl rfl (by decide) (rv_ref (hK.1 96 5 142 rfl)) fun h17 => ?_
                show wr d tb_M115 75 [(0, .ref 96), (1, vi x)] [.ref 142] s _
                refine wr_get (v := vi (s.1 142 14)) rfl rfl rfl (by decide) rfl fun h18 => ?_
                have h18 : -2147483648 ≤ s.1 142 14 ∧ s.1 142 14 ≤ 2147483647 := h18
                show wr d tb_M115 78 [(0, .ref 96), (1, vi x)] [vi (s.1 142 14)] s _
                refine wr_reti rfl rfl ?_
                exact ⟨⟨_, rfl, rfl⟩, .inl rfl, ⟨C, D, E, hK, hC, hD, hE, r1, r2, r3⟩, (fun _ _ _ => rfl : HJ4 s.1 s.1), rfl⟩
            · refine wr_if2f rfl rfl (by unfold i32; omega) (by unfold i32; omega) h7 ?_
              refine wr_n (pc2 := 58) (lv2 := [(0, .ref 96), (1, vi x)]) (st2 := [.ref 96]) 1 (fun _ _ => rfl) ?_
              refine wr_get (v := .ref 142) rfl rfl rfl (by decide) (rv_ref (hK.1 96 5 142 rfl)) fun h19 => ?_
              show wr d tb_M115 61 [(0, .ref 96), (1, vi x)] [.ref 142] s _
              refine wr_get (v := vi (s.1 142 15)) rfl rfl rfl (by decide) rfl fun h20 => ?_
              have h20 : -2147483648 ≤ s.1 142 15 ∧ s.1 142 15 ≤ 2147483647 := h20
              show wr d tb_M115 64 [(0, .ref 96), (1, vi x)] [vi (s.1 142 15)] s _
              refine wr_reti rfl rfl ?_
              exact ⟨⟨_, rfl, rfl⟩, .inl rfl, ⟨C, D, E, hK, hC, hD, hE, r1, r2, r3⟩, (fun _ _ _ => rfl : HJ4 s.1 s.1), rfl⟩
          · refine wr_if2f rfl rfl (by unfold i32; omega) (by unfold i32; omega) h6 ?_
            refine wr_n (pc2 := 40) (lv2 := [(0, .ref 96), (1, vi x)]) (st2 := [.ref 96]) 1 (fun _ _ => rfl) ?_
            refine wr_get (v := .ref C) rfl rfl rfl (by decide) (rv_ref (show (s.1) 96 1 = ((C : Nat) : Int) from r1)) fun h21 => ?_
            show wr d tb_M115 43 [(0, .ref 96), (1, vi x)] [.ref C] s _
            refine wr_get (v := .ref (C + 10)) rfl rfl (TK0 hC) (by decide) (rv_ref (hK.1 C 6 (C + 10) (rcK hC (by omega)))) fun h22 => ?_
            show wr d tb_M115 46 [(0, .ref 96), (1, vi x)] [.ref (C + 10)] s _
            refine wr_n (pc2 := 48) (lv2 := [(0, .ref 96), (1, vi x)]) (st2 := [vi 1, vi x, .ref (C + 10)]) 2 (fun _ _ => rfl) ?_
            refine wr_sub (a := x) (b := 1) rfl ?_
            show wr d tb_M115 49 [(0, .ref 96), (1, vi x)] [vi (x - 1), .ref (C + 10)] s _
            refine wr_ald (a := x - 1) (v := vi (s.1 (C + 10) ((x - 1).toNat))) rfl (TK10 hC) rfl (by omega) (by omega) (by decide) rfl fun h23 => ?_
            have h23 : -2147483648 ≤ s.1 (C + 10) ((x - 1).toNat) ∧ s.1 (C + 10) ((x - 1).toNat) ≤ 2147483647 := h23
            show wr d tb_M115 50 [(0, .ref 96), (1, vi x)] [vi (s.1 (C + 10) ((x - 1).toNat))] s _
            have hb24 : 0 ≤ s.1 (C + 10) ((x - 1).toNat) ∧ s.1 (C + 10) ((x - 1).toNat) ≤ LIM ((x - 1).toNat) := kb_to (kC10 hC) (hK.2 (C + 10) ((x - 1).toNat))
            refine wr_reti rfl rfl ?_
            exact ⟨⟨_, rfl, rfl⟩, .inl rfl, ⟨C, D, E, hK, hC, hD, hE, r1, r2, r3⟩, (fun _ _ _ => rfl : HJ4 s.1 s.1), rfl⟩
        · refine wr_if1f rfl rfl (by unfold i32; omega) h5 ?_
          refine wr_n (pc2 := 26) (lv2 := [(0, .ref 96), (1, vi x)]) (st2 := [.ref 96]) 1 (fun _ _ => rfl) ?_
          refine wr_get (v := .ref C) rfl rfl rfl (by decide) (rv_ref (show (s.1) 96 1 = ((C : Nat) : Int) from r1)) fun h25 => ?_
          show wr d tb_M115 29 [(0, .ref 96), (1, vi x)] [.ref C] s _
          refine wr_get (v := vi (s.1 C 12)) rfl rfl (TK0 hC) (by decide) rfl fun h26 => ?_
          have h26 : -2147483648 ≤ s.1 C 12 ∧ s.1 C 12 ≤ 2147483647 := h26
          show wr d tb_M115 32 [(0, .ref 96), (1, vi x)] [vi (s.1 C 12)] s _
          have hb27 : 0 ≤ s.1 C 12 ∧ s.1 C 12 ≤ 2000 := kb_to (kC_12 hC) (hK.2 C 12)
          refine wr_reti rfl rfl ?_
          exact ⟨⟨_, rfl, rfl⟩, .inl rfl, ⟨C, D, E, hK, hC, hD, hE, r1, r2, r3⟩, (fun _ _ _ => rfl : HJ4 s.1 s.1), rfl⟩
      · refine wr_if1f rfl rfl (by unfold i32; omega) h4 ?_
        refine wr_n (pc2 := 20) (lv2 := [(0, .ref 96), (1, vi x)]) (st2 := [vi 0]) 1 (fun _ _ => rfl) ?_
        refine wr_end (fun _ _ => rfl) ?_
        exact ⟨⟨_, rfl, rfl⟩, .inl rfl, ⟨C, D, E, hK, hC, hD, hE, r1, r2, r3⟩, (fun _ _ _ => rfl : HJ4 s.1 s.1), rfl⟩
    · refine wr_if2f rfl rfl (by unfold i32; omega) (by unfold i32; omega) h2 ?_
      refine wr_n (pc2 := 11) (lv2 := [(0, .ref 96), (1, vi x)]) (st2 := [vi ((-1))]) 1 (fun _ _ => rfl) ?_
      refine wr_end (fun _ _ => rfl) ?_
      exact ⟨⟨_, rfl, rfl⟩, .inl rfl, ⟨C, D, E, hK, hC, hD, hE, r1, r2, r3⟩, (fun _ _ _ => rfl : HJ4 s.1 s.1), rfl⟩
set_option maxHeartbeats 20000000 in
set_option maxRecDepth 100000 in
theorem zz_give {d C D E : Nat} {x y : Int} (s : rS) (hXI : XI C D E s.1) (hx : (-2147483648) ≤ x ∧ x ≤ 2147483647) (hy : (-2147483648) ≤ y ∧ y ≤ 2147483647)  : cr (d + 2) 111 [.ref 96, vi x, vi y] s (XP4 1 (fun t => t = s.1 97 1) s) := by
  obtain ⟨hK, hC, hD, hE, r1, r2, r3⟩ := hXI
  refine cr_of (M := tb_M111) rfl (Nat.le_of_ble_eq_true rfl) ?_
  show wr (d + 1) tb_M111 0 [(0, .ref 96), (1, vi x), (2, vi y)] [] s _
  refine wr_n (pc2 := 1) (lv2 := [(0, .ref 96), (1, vi x), (2, vi y)]) (st2 := [.ref 96]) 1 (fun _ _ => rfl) ?_
  refine wr_get (v := vi (s.1 96 3)) rfl rfl rfl (by decide) rfl fun h1 => ?_
  have h1 : 0 ≤ s.1 96 3 ∧ s.1 96 3 ≤ 1 := h1
  show wr (d + 1) tb_M111 4 [(0, .ref 96), (1, vi x), (2, vi y)] [vi (s.1 96 3)] s _
  by_cases h2 : s.1 96 3 = 0
  · refine wr_if1t rfl rfl (by unfold i32; omega) h2 ?_
    refine wr_n (pc2 := 37) (lv2 := [(0, .ref 96), (1, vi x), (2, vi y)]) (st2 := [vi ((-2))]) 1 (fun _ _ => rfl) ?_
    refine wr_end (fun _ _ => rfl) ?_
    exact ⟨⟨_, rfl, rfl⟩, .inl rfl, ⟨C, D, E, hK, hC, hD, hE, r1, r2, r3⟩, (fun _ _ _ => rfl : HJ4 s.1 s.1), rfl⟩
  · refine wr_if1f rfl rfl (by unfold i32; omega) h2 ?_
    refine wr_n (pc2 := 8) (lv2 := [(0, .ref 96), (1, vi x), (2, vi y)]) (st2 := [.ref 96]) 1 (fun _ _ => rfl) ?_
    refine wr_get (v := .ref 142) rfl rfl rfl (by decide) (rv_ref (hK.1 96 5 142 rfl)) fun h3 => ?_
    show wr (d + 1) tb_M111 11 [(0, .ref 96), (1, vi x), (2, vi y)] [.ref 142] s _
    refine wr_get (v := vi (s.1 142 14)) rfl rfl rfl (by decide) rfl fun h4 => ?_
    have h4 : -2147483648 ≤ s.1 142 14 ∧ s.1 142 14 ≤ 2147483647 := h4
    show wr (d + 1) tb_M111 14 [(0, .ref 96), (1, vi x), (2, vi y)] [vi (s.1 142 14)] s _
    refine wr_n (pc2 := 15) (lv2 := [(0, .ref 96), (1, vi x), (2, vi y)]) (st2 := [vi 3, vi (s.1 142 14)]) 1 (fun _ _ => rfl) ?_
    by_cases h5 : s.1 142 14 = 3
    · refine wr_if2t rfl rfl (by unfold i32; omega) (by unfold i32; omega) h5 ?_
      refine wr_n (pc2 := 37) (lv2 := [(0, .ref 96), (1, vi x), (2, vi y)]) (st2 := [vi ((-2))]) 1 (fun _ _ => rfl) ?_
      refine wr_end (fun _ _ => rfl) ?_
      exact ⟨⟨_, rfl, rfl⟩, .inl rfl, ⟨C, D, E, hK, hC, hD, hE, r1, r2, r3⟩, (fun _ _ _ => rfl : HJ4 s.1 s.1), rfl⟩
    · refine wr_if2f rfl rfl (by unfold i32; omega) (by unfold i32; omega) h5 ?_
      refine wr_n (pc2 := 19) (lv2 := [(0, .ref 96), (1, vi x), (2, vi y)]) (st2 := [vi x]) 1 (fun _ _ => rfl) ?_
      by_cases h6 : x < 0
      · refine wr_if1t rfl rfl (by unfold i32; omega) h6 ?_
        refine wr_n (pc2 := 37) (lv2 := [(0, .ref 96), (1, vi x), (2, vi y)]) (st2 := [vi ((-2))]) 1 (fun _ _ => rfl) ?_
        refine wr_end (fun _ _ => rfl) ?_
        exact ⟨⟨_, rfl, rfl⟩, .inl rfl, ⟨C, D, E, hK, hC, hD, hE, r1, r2, r3⟩, (fun _ _ _ => rfl : HJ4 s.1 s.1), rfl⟩
      · refine wr_if1f rfl rfl (by unfold i32; omega) h6 ?_
        refine wr_n (pc2 := 24) (lv2 := [(0, .ref 96), (1, vi x), (2, vi y)]) (st2 := [.ref 96, vi x]) 2 (fun _ _ => rfl) ?_
        refine wr_get (v := .ref C) rfl rfl rfl (by decide) (rv_ref (show (s.1) 96 1 = ((C : Nat) : Int) from r1)) fun h7 => ?_
        show wr (d + 1) tb_M111 27 [(0, .ref 96), (1, vi x), (2, vi y)] [.ref C, vi x] s _
        refine wr_get (v := .ref (C + 10)) rfl rfl (TK0 hC) (by decide) (rv_ref (hK.1 C 6 (C + 10) (rcK hC (by omega)))) fun h8 => ?_
        show wr (d + 1) tb_M111 30 [(0, .ref 96), (1, vi x), (2, vi y)] [.ref (C + 10), vi x] s _
        refine wr_n (pc2 := 31) (lv2 := [(0, .ref 96), (1, vi x), (2, vi y)]) (st2 := [vi 3, .ref (C + 10), vi x]) 1 (fun _ _ => rfl) ?_
        refine wr_ald (a := 3) (v := vi (s.1 (C + 10) 3)) rfl (TK10 hC) rfl (by omega) (by omega) (by decide) rfl fun h9 => ?_
        have h9 : -2147483648 ≤ s.1 (C + 10) 3 ∧ s.1 (C + 10) 3 ≤ 2147483647 := h9
        show wr (d + 1) tb_M111 32 [(0, .ref 96), (1, vi x), (2, vi y)] [vi (s.1 (C + 10) 3), vi x] s _
        have hb10 : 0 ≤ s.1 (C + 10) 3 ∧ s.1 (C + 10) 3 ≤ 4 := kb_to (b := 4) (kC10 hC) (hK.2 (C + 10) 3)
        by_cases h11 : x < s.1 (C + 10) 3
        · refine wr_if2t rfl rfl (by unfold i32; omega) (by unfold i32; omega) h11 ?_
          refine wr_n (pc2 := 39) (lv2 := [(0, .ref 96), (1, vi x), (2, vi y)]) (st2 := [.ref 96]) 1 (fun _ _ => rfl) ?_
          refine wr_get (v := .ref 142) rfl rfl rfl (by decide) (rv_ref (hK.1 96 5 142 rfl)) fun h12 => ?_
          show wr (d + 1) tb_M111 42 [(0, .ref 96), (1, vi x), (2, vi y)] [.ref 142] s _
          refine wr_get (v := .ref 150) rfl rfl rfl (by decide) (rv_ref (hK.1 142 9 150 rfl)) fun h13 => ?_
          show wr (d + 1) tb_M111 45 [(0, .ref 96), (1, vi x), (2, vi y)] [.ref 150] s _
          refine wr_n (pc2 := 46) (lv2 := [(0, .ref 96), (1, vi x), (2, vi y)]) (st2 := [vi x, .ref 150]) 1 (fun _ _ => rfl) ?_
          refine wr_ald (a := x) (v := .ref (154 + 2 * x.toNat)) rfl rfl rfl (by omega) (by omega) (by decide) (rv_ref (hK.1 150 x.toNat (154 + 2 * x.toNat) (r_ins (by omega)))) fun h14 => ?_
          show wr (d + 1) tb_M111 47 [(0, .ref 96), (1, vi x), (2, vi y)] [.ref (154 + 2 * x.toNat)] s _
          refine wr_n (pc2 := 50) (lv2 := [(3, .ref (154 + 2 * x.toNat)), (0, .ref 96), (1, vi x), (2, vi y)]) (st2 := [vi y, .ref (154 + 2 * x.toNat)]) 3 (fun _ _ => rfl) ?_
          refine wr_anyu rfl (fun x => ⟨_, rfl⟩) fun z15 h16 => ?_
          unfold i32 at h16
          show wr (d + 1) tb_M111 51 [(3, .ref (154 + 2 * x.toNat)), (0, .ref 96), (1, vi x), (2, vi y)] [vi z15, .ref (154 + 2 * x.toNat)] s _
          refine wr_call1 (args := [vi z15]) (rest := []) rfl rfl rfl (TQ0 (isQ_in (by omega))) (Nat.le_of_ble_eq_true rfl) (cr_mono (k_qaddw (d := d + 0) (Q := 154 + 2 * x.toNat) (isQ_in (by omega)) (x := z15) s hK (by omega)) ?_)
          rintro s17 out ⟨hK17, hY17, hc17, z17, rfl, hz17, hp17⟩
          refine ⟨_, rfl, ?_⟩
          have hC17 : s17.2 = s.2 := hc17.trans rfl
          have r1_17 : s17.1 96 1 = (C : Int) := (hY17 96 1 (by unfold fxw fx; omega)).trans (show (s.1) 96 1 = (C : Int) from r1)
          have r2_17 : s17.1 96 2 = (D : Int) := (hY17 96 2 (by unfold fxw fx; omega)).trans (show (s.1) 96 2 = (D : Int) from r2)
          have r3_17 : s17.1 142 0 = (E : Int) := (hY17 142 0 (by unfold fxw fx; omega)).trans (show (s.1) 142 0 = (E : Int) from r3)
          have tp_17 : s17.1 97 1 = s.1 97 1 := (hY17 97 1 (by unfold fxw fx; omega)).trans (show (s.1) 97 1 = s.1 97 1 from rfl)
          have hi_17 : HJ4 s.1 s17.1 := fun k j hk => (hY17 k j (by unfold fxw fx; omega)).trans (show (s.1) k j = s.1 k j from ((fun _ _ _ => rfl : HJ4 s.1 s.1) k j hk))
          have ce_17 : s17.2 = s.2 := hc17.trans rfl
          unfold i32 at hz17
          clear hp17
          show wr (d + 1) tb_M111 54 [(3, .ref (154 + 2 * x.toNat)), (0, .ref 96), (1, vi x), (2, vi y)] [vi z17] s17 _
          by_cases h18 : z17 = 0
          · refine wr_if1t rfl rfl (by unfold i32; omega) h18 ?_
            refine wr_n (pc2 := 66) (lv2 := [(3, .ref (154 + 2 * x.toNat)), (0, .ref 96), (1, vi x), (2, vi y)]) (st2 := [vi ((-3))]) 1 (fun _ _ => rfl) ?_
            refine wr_end (fun _ _ => rfl) ?_
            exact ⟨⟨_, rfl, rfl⟩, .inl ce_17, ⟨C, D, E, hK17, hC, hD, hE, r1_17, r2_17, r3_17⟩, hi_17, tp_17⟩
          · refine wr_if1f rfl rfl (by unfold i32; omega) h18 ?_
            refine wr_n (pc2 := 58) (lv2 := [(3, .ref (154 + 2 * x.toNat)), (0, .ref 96), (1, vi x), (2, vi y)]) (st2 := [.ref (154 + 2 * x.toNat)]) 1 (fun _ _ => rfl) ?_
            refine wr_get (v := vi (s17.1 (154 + 2 * x.toNat) 2)) rfl rfl (TQ0 (isQ_in (by omega))) (by decide) rfl fun h19 => ?_
            have h19 : -2147483648 ≤ s17.1 (154 + 2 * x.toNat) 2 ∧ s17.1 (154 + 2 * x.toNat) 2 ≤ 2147483647 := h19
            show wr (d + 1) tb_M111 61 [(3, .ref (154 + 2 * x.toNat)), (0, .ref 96), (1, vi x), (2, vi y)] [vi (s17.1 (154 + 2 * x.toNat) 2)] s17 _
            have hb20 : 0 ≤ s17.1 (154 + 2 * x.toNat) 2 ∧ s17.1 (154 + 2 * x.toNat) 2 ≤ 40 := kb_to (kQ_2 (isQ_in (by omega))) (hK17.2 (154 + 2 * x.toNat) 2)
            refine wr_n (pc2 := 66) (lv2 := [(3, .ref (154 + 2 * x.toNat)), (0, .ref 96), (1, vi x), (2, vi y)]) (st2 := [vi (s17.1 (154 + 2 * x.toNat) 2)]) 1 (fun _ _ => rfl) ?_
            refine wr_reti rfl rfl ?_
            exact ⟨⟨_, rfl, rfl⟩, .inl ce_17, ⟨C, D, E, hK17, hC, hD, hE, r1_17, r2_17, r3_17⟩, hi_17, tp_17⟩
        · refine wr_if2f rfl rfl (by unfold i32; omega) (by unfold i32; omega) h11 ?_
          refine wr_n (pc2 := 37) (lv2 := [(0, .ref 96), (1, vi x), (2, vi y)]) (st2 := [vi ((-2))]) 1 (fun _ _ => rfl) ?_
          refine wr_end (fun _ _ => rfl) ?_
          exact ⟨⟨_, rfl, rfl⟩, .inl rfl, ⟨C, D, E, hK, hC, hD, hE, r1, r2, r3⟩, (fun _ _ _ => rfl : HJ4 s.1 s.1), rfl⟩
set_option maxHeartbeats 20000000 in
set_option maxRecDepth 100000 in
theorem zz_take {d C D E : Nat} {x : Int} (s : rS) (hXI : XI C D E s.1) (hx : (-2147483648) ≤ x ∧ x ≤ 2147483647)  : cr (d + 2) 112 [.ref 96, vi x] s (XP4 2 (fun t => t = s.1 97 1) s) := by
  obtain ⟨hK, hC, hD, hE, r1, r2, r3⟩ := hXI
  refine cr_of (M := tb_M112) rfl (Nat.le_of_ble_eq_true rfl) ?_
  show wr (d + 1) tb_M112 0 [(0, .ref 96), (1, vi x)] [] s _
  refine wr_n (pc2 := 1) (lv2 := [(0, .ref 96), (1, vi x)]) (st2 := [.ref 96]) 1 (fun _ _ => rfl) ?_
  refine wr_get (v := vi (s.1 96 3)) rfl rfl rfl (by decide) rfl fun h1 => ?_
  have h1 : 0 ≤ s.1 96 3 ∧ s.1 96 3 ≤ 1 := h1
  show wr (d + 1) tb_M112 4 [(0, .ref 96), (1, vi x)] [vi (s.1 96 3)] s _
  by_cases h2 : s.1 96 3 = 0
  · refine wr_if1t rfl rfl (by unfold i32; omega) h2 ?_
    refine wr_n (pc2 := 38) (lv2 := [(0, .ref 96), (1, vi x)]) (st2 := [vl 1099511627776]) 1 (fun _ _ => rfl) ?_
    refine wr_end (fun _ _ => rfl) ?_
    exact ⟨⟨_, rfl, rfl⟩, .inl rfl, ⟨C, D, E, hK, hC, hD, hE, r1, r2, r3⟩, (fun _ _ _ => rfl : HJ4 s.1 s.1), rfl⟩
  · refine wr_if1f rfl rfl (by unfold i32; omega) h2 ?_
    refine wr_n (pc2 := 8) (lv2 := [(0, .ref 96), (1, vi x)]) (st2 := [.ref 96]) 1 (fun _ _ => rfl) ?_
    refine wr_get (v := .ref 142) rfl rfl rfl (by decide) (rv_ref (hK.1 96 5 142 rfl)) fun h3 => ?_
    show wr (d + 1) tb_M112 11 [(0, .ref 96), (1, vi x)] [.ref 142] s _
    refine wr_get (v := vi (s.1 142 14)) rfl rfl rfl (by decide) rfl fun h4 => ?_
    have h4 : -2147483648 ≤ s.1 142 14 ∧ s.1 142 14 ≤ 2147483647 := h4
    show wr (d + 1) tb_M112 14 [(0, .ref 96), (1, vi x)] [vi (s.1 142 14)] s _
    refine wr_n (pc2 := 15) (lv2 := [(0, .ref 96), (1, vi x)]) (st2 := [vi 3, vi (s.1 142 14)]) 1 (fun _ _ => rfl) ?_
    by_cases h5 : s.1 142 14 = 3
    · refine wr_if2t rfl rfl (by unfold i32; omega) (by unfold i32; omega) h5 ?_
      refine wr_n (pc2 := 38) (lv2 := [(0, .ref 96), (1, vi x)]) (st2 := [vl 1099511627776]) 1 (fun _ _ => rfl) ?_
      refine wr_end (fun _ _ => rfl) ?_
      exact ⟨⟨_, rfl, rfl⟩, .inl rfl, ⟨C, D, E, hK, hC, hD, hE, r1, r2, r3⟩, (fun _ _ _ => rfl : HJ4 s.1 s.1), rfl⟩
    · refine wr_if2f rfl rfl (by unfold i32; omega) (by unfold i32; omega) h5 ?_
      refine wr_n (pc2 := 19) (lv2 := [(0, .ref 96), (1, vi x)]) (st2 := [vi x]) 1 (fun _ _ => rfl) ?_
      by_cases h6 : x < 0
      · refine wr_if1t rfl rfl (by unfold i32; omega) h6 ?_
        refine wr_n (pc2 := 38) (lv2 := [(0, .ref 96), (1, vi x)]) (st2 := [vl 1099511627776]) 1 (fun _ _ => rfl) ?_
        refine wr_end (fun _ _ => rfl) ?_
        exact ⟨⟨_, rfl, rfl⟩, .inl rfl, ⟨C, D, E, hK, hC, hD, hE, r1, r2, r3⟩, (fun _ _ _ => rfl : HJ4 s.1 s.1), rfl⟩
      · refine wr_if1f rfl rfl (by unfold i32; omega) h6 ?_
        refine wr_n (pc2 := 24) (lv2 := [(0, .ref 96), (1, vi x)]) (st2 := [.ref 96, vi x]) 2 (fun _ _ => rfl) ?_
        refine wr_get (v := .ref C) rfl rfl rfl (by decide) (rv_ref (show (s.1) 96 1 = ((C : Nat) : Int) from r1)) fun h7 => ?_
        show wr (d + 1) tb_M112 27 [(0, .ref 96), (1, vi x)] [.ref C, vi x] s _
        refine wr_get (v := .ref (C + 10)) rfl rfl (TK0 hC) (by decide) (rv_ref (hK.1 C 6 (C + 10) (rcK hC (by omega)))) fun h8 => ?_
        show wr (d + 1) tb_M112 30 [(0, .ref 96), (1, vi x)] [.ref (C + 10), vi x] s _
        refine wr_n (pc2 := 31) (lv2 := [(0, .ref 96), (1, vi x)]) (st2 := [vi 4, .ref (C + 10), vi x]) 1 (fun _ _ => rfl) ?_
        refine wr_ald (a := 4) (v := vi (s.1 (C + 10) 4)) rfl (TK10 hC) rfl (by omega) (by omega) (by decide) rfl fun h9 => ?_
        have h9 : -2147483648 ≤ s.1 (C + 10) 4 ∧ s.1 (C + 10) 4 ≤ 2147483647 := h9
        show wr (d + 1) tb_M112 32 [(0, .ref 96), (1, vi x)] [vi (s.1 (C + 10) 4), vi x] s _
        have hb10 : 0 ≤ s.1 (C + 10) 4 ∧ s.1 (C + 10) 4 ≤ 4 := kb_to (b := 4) (kC10 hC) (hK.2 (C + 10) 4)
        by_cases h11 : x < s.1 (C + 10) 4
        · refine wr_if2t rfl rfl (by unfold i32; omega) (by unfold i32; omega) h11 ?_
          refine wr_n (pc2 := 40) (lv2 := [(0, .ref 96), (1, vi x)]) (st2 := [.ref 96]) 1 (fun _ _ => rfl) ?_
          refine wr_get (v := .ref 142) rfl rfl rfl (by decide) (rv_ref (hK.1 96 5 142 rfl)) fun h12 => ?_
          show wr (d + 1) tb_M112 43 [(0, .ref 96), (1, vi x)] [.ref 142] s _
          refine wr_get (v := .ref 151) rfl rfl rfl (by decide) (rv_ref (hK.1 142 10 151 rfl)) fun h13 => ?_
          show wr (d + 1) tb_M112 46 [(0, .ref 96), (1, vi x)] [.ref 151] s _
          refine wr_n (pc2 := 47) (lv2 := [(0, .ref 96), (1, vi x)]) (st2 := [vi x, .ref 151]) 1 (fun _ _ => rfl) ?_
          refine wr_ald (a := x) (v := .ref (162 + 2 * x.toNat)) rfl rfl rfl (by omega) (by omega) (by decide) (rv_ref (hK.1 151 x.toNat (162 + 2 * x.toNat) (r_outs (by omega)))) fun h14 => ?_
          show wr (d + 1) tb_M112 48 [(0, .ref 96), (1, vi x)] [.ref (162 + 2 * x.toNat)] s _
          refine wr_n (pc2 := 50) (lv2 := [(2, .ref (162 + 2 * x.toNat)), (0, .ref 96), (1, vi x)]) (st2 := [.ref (162 + 2 * x.toNat)]) 2 (fun _ _ => rfl) ?_
          refine wr_get (v := vi (s.1 (162 + 2 * x.toNat) 2)) rfl rfl (TQ0 (isQ_out (by omega))) (by decide) rfl fun h15 => ?_
          have h15 : -2147483648 ≤ s.1 (162 + 2 * x.toNat) 2 ∧ s.1 (162 + 2 * x.toNat) 2 ≤ 2147483647 := h15
          show wr (d + 1) tb_M112 53 [(2, .ref (162 + 2 * x.toNat)), (0, .ref 96), (1, vi x)] [vi (s.1 (162 + 2 * x.toNat) 2)] s _
          have hb16 : 0 ≤ s.1 (162 + 2 * x.toNat) 2 ∧ s.1 (162 + 2 * x.toNat) 2 ≤ 40 := kb_to (kQ_2 (isQ_out (by omega))) (hK.2 (162 + 2 * x.toNat) 2)
          by_cases h17 : s.1 (162 + 2 * x.toNat) 2 ≤ 0
          · refine wr_if1t rfl rfl (by unfold i32; omega) h17 ?_
            refine wr_n (pc2 := 67) (lv2 := [(2, .ref (162 + 2 * x.toNat)), (0, .ref 96), (1, vi x)]) (st2 := [vl 1099511627776]) 1 (fun _ _ => rfl) ?_
            refine wr_end (fun _ _ => rfl) ?_
            exact ⟨⟨_, rfl, rfl⟩, .inl rfl, ⟨C, D, E, hK, hC, hD, hE, r1, r2, r3⟩, (fun _ _ _ => rfl : HJ4 s.1 s.1), rfl⟩
          · refine wr_if1f rfl rfl (by unfold i32; omega) h17 ?_
            refine wr_n (pc2 := 57) (lv2 := [(2, .ref (162 + 2 * x.toNat)), (0, .ref 96), (1, vi x)]) (st2 := [.ref (162 + 2 * x.toNat)]) 1 (fun _ _ => rfl) ?_
            refine wr_call1 (args := []) (rest := []) rfl rfl rfl (TQ0 (isQ_out (by omega))) (Nat.le_of_ble_eq_true rfl) (cr_mono (k_qremovew (d := d + 0) (Q := 162 + 2 * x.toNat) (isQ_out (by omega)) s hK) ?_)
            rintro s18 out ⟨hK18, hY18, hc18, z18, rfl, hz18, hp18⟩
            refine ⟨_, rfl, ?_⟩
            have hC18 : s18.2 = s.2 := hc18.trans rfl
            have r1_18 : s18.1 96 1 = (C : Int) := (hY18 96 1 (by unfold fxw fx; omega)).trans (show (s.1) 96 1 = (C : Int) from r1)
            have r2_18 : s18.1 96 2 = (D : Int) := (hY18 96 2 (by unfold fxw fx; omega)).trans (show (s.1) 96 2 = (D : Int) from r2)
            have r3_18 : s18.1 142 0 = (E : Int) := (hY18 142 0 (by unfold fxw fx; omega)).trans (show (s.1) 142 0 = (E : Int) from r3)
            have tp_18 : s18.1 97 1 = s.1 97 1 := (hY18 97 1 (by unfold fxw fx; omega)).trans (show (s.1) 97 1 = s.1 97 1 from rfl)
            have hi_18 : HJ4 s.1 s18.1 := fun k j hk => (hY18 k j (by unfold fxw fx; omega)).trans (show (s.1) k j = s.1 k j from ((fun _ _ _ => rfl : HJ4 s.1 s.1) k j hk))
            have ce_18 : s18.2 = s.2 := hc18.trans rfl
            unfold i32 at hz18
            clear hp18
            show wr (d + 1) tb_M112 60 [(2, .ref (162 + 2 * x.toNat)), (0, .ref 96), (1, vi x)] [vi z18] s18 _
            refine wr_i2l (a := z18) rfl (by unfold i32; omega) ?_
            show wr (d + 1) tb_M112 61 [(2, .ref (162 + 2 * x.toNat)), (0, .ref 96), (1, vi x)] [vl z18] s18 _
            refine wr_n (pc2 := 67) (lv2 := [(2, .ref (162 + 2 * x.toNat)), (0, .ref 96), (1, vi x)]) (st2 := [vl z18]) 1 (fun _ _ => rfl) ?_
            refine wr_end (fun _ _ => rfl) ?_
            exact ⟨⟨_, rfl, rfl⟩, .inl ce_18, ⟨C, D, E, hK18, hC, hD, hE, r1_18, r2_18, r3_18⟩, hi_18, tp_18⟩
        · refine wr_if2f rfl rfl (by unfold i32; omega) (by unfold i32; omega) h11 ?_
          refine wr_n (pc2 := 38) (lv2 := [(0, .ref 96), (1, vi x)]) (st2 := [vl 1099511627776]) 1 (fun _ _ => rfl) ?_
          refine wr_end (fun _ _ => rfl) ?_
          exact ⟨⟨_, rfl, rfl⟩, .inl rfl, ⟨C, D, E, hK, hC, hD, hE, r1, r2, r3⟩, (fun _ _ _ => rfl : HJ4 s.1 s.1), rfl⟩
set_option maxHeartbeats 20000000 in
set_option maxRecDepth 100000 in
theorem zz_begin {d C D E : Nat} (s : rS) (hXI : XI C D E s.1)   : cr (d + 3) 80 [.ref 96] s (XP4 1 (fun t => t = s.1 97 1) s) := by
  obtain ⟨hK, hC, hD, hE, r1, r2, r3⟩ := hXI
  refine cr_of (M := tb_M80) rfl (Nat.le_of_ble_eq_true rfl) ?_
  show wr (d + 2) tb_M80 0 [(0, .ref 96)] [] s _
  refine wr_n (pc2 := 1) (lv2 := [(0, .ref 96)]) (st2 := [.ref 96]) 1 (fun _ _ => rfl) ?_
  refine wr_get (v := vi (s.1 96 3)) rfl rfl rfl (by decide) rfl fun h1 => ?_
  have h1 : 0 ≤ s.1 96 3 ∧ s.1 96 3 ≤ 1 := h1
  show wr (d + 2) tb_M80 4 [(0, .ref 96)] [vi (s.1 96 3)] s _
  by_cases h2 : s.1 96 3 ≠ 0
  · refine wr_if1t rfl rfl (by unfold i32; omega) h2 ?_
    refine wr_n (pc2 := 11) (lv2 := [(0, .ref 96)]) (st2 := [.ref 96]) 1 (fun _ _ => rfl) ?_
    refine wr_get (v := .ref 142) rfl rfl rfl (by decide) (rv_ref (hK.1 96 5 142 rfl)) fun h3 => ?_
    show wr (d + 2) tb_M80 14 [(0, .ref 96)] [.ref 142] s _
    refine wr_n (pc2 := 15) (lv2 := [(0, .ref 96)]) (st2 := [.ref 96, .ref 142]) 1 (fun _ _ => rfl) ?_
    refine wr_get (v := .ref C) rfl rfl rfl (by decide) (rv_ref (show (s.1) 96 1 = ((C : Nat) : Int) from r1)) fun h4 => ?_
    show wr (d + 2) tb_M80 18 [(0, .ref 96)] [.ref C, .ref 142] s _
    refine wr_call1 (args := [.ref C]) (rest := []) rfl rfl rfl rfl (Nat.le_of_ble_eq_true rfl) (cr_mono (k_restartw (d := d + 0) (C := C) hC s hK) ?_)
    rintro s5 out ⟨hK5, hY5, hc5, rfl⟩
    refine ⟨_, rfl, ?_⟩
    have hC5 : s5.2 = s.2 := hc5.trans rfl
    have r1_5 : s5.1 96 1 = (C : Int) := (hY5 96 1 (by unfold fxw fx; omega)).trans (show (up2 s.1 142 0 ((C : Int))) 96 1 = (C : Int) from ((if_neg (by omega)).trans r1))
    have r2_5 : s5.1 96 2 = (D : Int) := (hY5 96 2 (by unfold fxw fx; omega)).trans (show (up2 s.1 142 0 ((C : Int))) 96 2 = (D : Int) from ((if_neg (by omega)).trans r2))
    have r3_5 : s5.1 142 0 = (C : Int) := (hY5 142 0 (by unfold fxw fx; omega)).trans (show (up2 s.1 142 0 ((C : Int))) 142 0 = (C : Int) from up_self)
    have tp_5 : s5.1 97 1 = s.1 97 1 := (hY5 97 1 (by unfold fxw fx; omega)).trans (show (up2 s.1 142 0 ((C : Int))) 97 1 = s.1 97 1 from ((if_neg (by omega)).trans rfl))
    have hi_5 : HJ4 s.1 s5.1 := fun k j hk => (hY5 k j (by unfold fxw fx; omega)).trans (show (up2 s.1 142 0 ((C : Int))) k j = s.1 k j from ((if_neg (by omega)).trans ((fun _ _ _ => rfl : HJ4 s.1 s.1) k j hk)))
    have ce_5 : s5.2 = s.2 := hc5.trans rfl
    show wr (d + 2) tb_M80 21 [(0, .ref 96)] [] s5 _
    refine wr_n (pc2 := 22) (lv2 := [(0, .ref 96)]) (st2 := [vi 0]) 1 (fun _ _ => rfl) ?_
    refine wr_end (fun _ _ => rfl) ?_
    exact ⟨⟨_, rfl, rfl⟩, .inl ce_5, ⟨C, D, C, hK5, hC, hD, hC, r1_5, r2_5, r3_5⟩, hi_5, tp_5⟩
  · refine wr_if1f rfl rfl (by unfold i32; omega) h2 ?_
    refine wr_n (pc2 := 9) (lv2 := [(0, .ref 96)]) (st2 := [vi ((-2))]) 1 (fun _ _ => rfl) ?_
    refine wr_end (fun _ _ => rfl) ?_
    exact ⟨⟨_, rfl, rfl⟩, .inl rfl, ⟨C, D, E, hK, hC, hD, hE, r1, r2, r3⟩, (fun _ _ _ => rfl : HJ4 s.1 s.1), rfl⟩
set_option maxHeartbeats 20000000 in
set_option maxRecDepth 100000 in
theorem zz_run {d C D E : Nat} {x : Int} (s : rS) (hXI : XI C D E s.1) (hx : (-2147483648) ≤ x ∧ x ≤ 2147483647)  : cr (d + 8) 81 [.ref 96, vi x] s (XP4 1 (fun t => t = s.1 97 1) s) := by
  obtain ⟨hK, hC, hD, hE, r1, r2, r3⟩ := hXI
  refine cr_of (M := tb_M81) rfl (Nat.le_of_ble_eq_true rfl) ?_
  show wr (d + 7) tb_M81 0 [(0, .ref 96), (1, vi x)] [] s _
  refine wr_n (pc2 := 1) (lv2 := [(0, .ref 96), (1, vi x)]) (st2 := [.ref 96]) 1 (fun _ _ => rfl) ?_
  refine wr_get (v := vi (s.1 96 3)) rfl rfl rfl (by decide) rfl fun h1 => ?_
  have h1 : 0 ≤ s.1 96 3 ∧ s.1 96 3 ≤ 1 := h1
  show wr (d + 7) tb_M81 4 [(0, .ref 96), (1, vi x)] [vi (s.1 96 3)] s _
  by_cases h2 : s.1 96 3 ≠ 0
  · refine wr_if1t rfl rfl (by unfold i32; omega) h2 ?_
    refine wr_n (pc2 := 12) (lv2 := [(0, .ref 96), (1, vi x)]) (st2 := [vi 1, vi x]) 2 (fun _ _ => rfl) ?_
    by_cases h3 : x < 1
    · refine wr_if2t rfl rfl (by unfold i32; omega) (by unfold i32; omega) h3 ?_
      refine wr_n (pc2 := 34) (lv2 := [(0, .ref 96), (1, vi x)]) (st2 := [vi ((-1))]) 1 (fun _ _ => rfl) ?_
      refine wr_end (fun _ _ => rfl) ?_
      exact ⟨⟨_, rfl, rfl⟩, .inl rfl, ⟨C, D, E, hK, hC, hD, hE, r1, r2, r3⟩, (fun _ _ _ => rfl : HJ4 s.1 s.1), rfl⟩
    · refine wr_if2f rfl rfl (by unfold i32; omega) (by unfold i32; omega) h3 ?_
      refine wr_n (pc2 := 19) (lv2 := [(0, .ref 96), (1, vi x)]) (st2 := [vi 20000, vi x]) 2 (fun _ _ => rfl) ?_
      by_cases h4 : 20000 < x
      · refine wr_if2t rfl rfl (by unfold i32; omega) (by unfold i32; omega) h4 ?_
        refine wr_n (pc2 := 34) (lv2 := [(0, .ref 96), (1, vi x)]) (st2 := [vi ((-1))]) 1 (fun _ _ => rfl) ?_
        refine wr_end (fun _ _ => rfl) ?_
        exact ⟨⟨_, rfl, rfl⟩, .inl rfl, ⟨C, D, E, hK, hC, hD, hE, r1, r2, r3⟩, (fun _ _ _ => rfl : HJ4 s.1 s.1), rfl⟩
      · refine wr_if2f rfl rfl (by unfold i32; omega) (by unfold i32; omega) h4 ?_
        refine wr_n (pc2 := 23) (lv2 := [(0, .ref 96), (1, vi x)]) (st2 := [.ref 96]) 1 (fun _ _ => rfl) ?_
        refine wr_get (v := .ref 142) rfl rfl rfl (by decide) (rv_ref (hK.1 96 5 142 rfl)) fun h5 => ?_
        show wr (d + 7) tb_M81 26 [(0, .ref 96), (1, vi x)] [.ref 142] s _
        refine wr_get (v := vi (s.1 142 14)) rfl rfl rfl (by decide) rfl fun h6 => ?_
        have h6 : -2147483648 ≤ s.1 142 14 ∧ s.1 142 14 ≤ 2147483647 := h6
        show wr (d + 7) tb_M81 29 [(0, .ref 96), (1, vi x)] [vi (s.1 142 14)] s _
        refine wr_n (pc2 := 30) (lv2 := [(0, .ref 96), (1, vi x)]) (st2 := [vi 3, vi (s.1 142 14)]) 1 (fun _ _ => rfl) ?_
        by_cases h7 : s.1 142 14 ≠ 3
        · refine wr_if2t rfl rfl (by unfold i32; omega) (by unfold i32; omega) h7 ?_
          refine wr_n (pc2 := 36) (lv2 := [(0, .ref 96), (1, vi x)]) (st2 := [.ref 96]) 1 (fun _ _ => rfl) ?_
          refine wr_get (v := .ref 142) rfl rfl rfl (by decide) (rv_ref (hK.1 96 5 142 rfl)) fun h8 => ?_
          show wr (d + 7) tb_M81 39 [(0, .ref 96), (1, vi x)] [.ref 142] s _
          refine wr_n (pc2 := 40) (lv2 := [(0, .ref 96), (1, vi x)]) (st2 := [vi x, .ref 142]) 1 (fun _ _ => rfl) ?_
          refine wr_call1 (args := [vi x]) (rest := []) rfl rfl rfl rfl (Nat.le_of_ble_eq_true rfl) (cr_mono (k_goOnw (d := d + 0) (C := E) hE (x := x) s hK r3 (by omega)) ?_)
          rintro s9 out ⟨hK9, hY9, hc9, rfl⟩
          refine ⟨_, rfl, ?_⟩
          have hC9 : s9.2 = s.2 := hc9.trans rfl
          have r1_9 : s9.1 96 1 = (C : Int) := (hY9 96 1 (by unfold fxw fx; omega)).trans (show (s.1) 96 1 = (C : Int) from r1)
          have r2_9 : s9.1 96 2 = (D : Int) := (hY9 96 2 (by unfold fxw fx; omega)).trans (show (s.1) 96 2 = (D : Int) from r2)
          have r3_9 : s9.1 142 0 = (E : Int) := (hY9 142 0 (by unfold fxw fx; omega)).trans (show (s.1) 142 0 = (E : Int) from r3)
          have tp_9 : s9.1 97 1 = s.1 97 1 := (hY9 97 1 (by unfold fxw fx; omega)).trans (show (s.1) 97 1 = s.1 97 1 from rfl)
          have hi_9 : HJ4 s.1 s9.1 := fun k j hk => (hY9 k j (by unfold fxw fx; omega)).trans (show (s.1) k j = s.1 k j from ((fun _ _ _ => rfl : HJ4 s.1 s.1) k j hk))
          have ce_9 : s9.2 = s.2 := hc9.trans rfl
          show wr (d + 7) tb_M81 43 [(0, .ref 96), (1, vi x)] [] s9 _
          refine wr_n (pc2 := 44) (lv2 := [(0, .ref 96), (1, vi x)]) (st2 := [.ref 96]) 1 (fun _ _ => rfl) ?_
          refine wr_get (v := .ref 142) rfl rfl rfl (by decide) (rv_ref (hK9.1 96 5 142 rfl)) fun h10 => ?_
          show wr (d + 7) tb_M81 47 [(0, .ref 96), (1, vi x)] [.ref 142] s9 _
          refine wr_get (v := vi (s9.1 142 14)) rfl rfl rfl (by decide) rfl fun h11 => ?_
          have h11 : -2147483648 ≤ s9.1 142 14 ∧ s9.1 142 14 ≤ 2147483647 := h11
          show wr (d + 7) tb_M81 50 [(0, .ref 96), (1, vi x)] [vi (s9.1 142 14)] s9 _
          refine wr_reti rfl rfl ?_
          exact ⟨⟨_, rfl, rfl⟩, .inl ce_9, ⟨C, D, E, hK9, hC, hD, hE, r1_9, r2_9, r3_9⟩, hi_9, tp_9⟩
        · refine wr_if2f rfl rfl (by unfold i32; omega) (by unfold i32; omega) h7 ?_
          refine wr_n (pc2 := 34) (lv2 := [(0, .ref 96), (1, vi x)]) (st2 := [vi ((-1))]) 1 (fun _ _ => rfl) ?_
          refine wr_end (fun _ _ => rfl) ?_
          exact ⟨⟨_, rfl, rfl⟩, .inl rfl, ⟨C, D, E, hK, hC, hD, hE, r1, r2, r3⟩, (fun _ _ _ => rfl : HJ4 s.1 s.1), rfl⟩
  · refine wr_if1f rfl rfl (by unfold i32; omega) h2 ?_
    refine wr_n (pc2 := 9) (lv2 := [(0, .ref 96), (1, vi x)]) (st2 := [vi ((-2))]) 1 (fun _ _ => rfl) ?_
    refine wr_end (fun _ _ => rfl) ?_
    exact ⟨⟨_, rfl, rfl⟩, .inl rfl, ⟨C, D, E, hK, hC, hD, hE, r1, r2, r3⟩, (fun _ _ _ => rfl : HJ4 s.1 s.1), rfl⟩
