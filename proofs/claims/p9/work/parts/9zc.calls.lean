/-! Our own calls, once more: what they keep besides. -/
def HJ (r r2 : tab) : Prop := ∀ k j, (170 ≤ k ∨ k = 98 ∨ k = 96 ∧ j = 3) → r2 k j = r k j
def XJ (c : Nat) (t : Int → Prop) (s : rS) : rS → hm_Out → Prop := fun s2 out => (∃ v : Value, out = some (some v) ∧ v.category = c) ∧ (s2.2 = s.2 ∨ s2.2 = (s.2.1 + 1, s.2.2 + 6)) ∧ (∃ C D E, XI C D E s2.1) ∧ HJ s.1 s2.1 ∧ t (s2.1 97 1) ∧ (s.1 96 3 = 0 → ∀ j, s2.1 140 j = s.1 140 j)
def XB (s : rS) : rS → hm_Out → Prop := fun s2 out => XJ 1 (fun t => t = s.1 97 1) s s2 out ∧ out = some (some (vi (if s.1 96 3 = 0 then -2 else 0)))
def XW (P : Int → tab → Prop) (s : rS) : rS → hm_Out → Prop := fun s2 out => (∃ z : Int, out = some (some (vi z)) ∧ P z s2.1) ∧ s2.2 = s.2 ∧ (∃ C D E, XI C D E s2.1) ∧ HJ s.1 s2.1 ∧ ∀ j, s2.1 140 j = s.1 140 j
set_option maxHeartbeats 20000000 in
set_option maxRecDepth 100000 in
theorem z_count {d C D E : Nat} {x : Int} (s : rS) (hXI : XI C D E s.1) (hx : (-2147483648) ≤ x ∧ x ≤ 2147483647)  : cr (d + 1) 115 [.ref 96, vi x] s (XJ 1 (fun t => t = s.1 97 1) s) := by
  obtain ⟨hK, hC, hD, hE, r1, r2, r3⟩ := hXI
  refine cr_of (M := tb_M115) rfl (Nat.le_of_ble_eq_true rfl) ?_
  show wr (d) tb_M115 0 [(0, .ref 96), (1, vi x)] [] s _
  refine wr_n (pc2 := 1) (lv2 := [(0, .ref 96), (1, vi x)]) (st2 := [vi x]) 1 (fun _ _ => rfl) ?_
  by_cases h1 : x < 0
  · refine wr_if1t rfl rfl (by unfold i32; omega) h1 ?_
    refine wr_n (pc2 := 11) (lv2 := [(0, .ref 96), (1, vi x)]) (st2 := [vi ((-1))]) 1 (fun _ _ => rfl) ?_
    refine wr_end (fun _ _ => rfl) ?_
    exact ⟨⟨_, rfl, rfl⟩, .inl rfl, ⟨C, D, E, hK, hC, hD, hE, r1, r2, r3⟩, (fun _ _ _ => rfl : HJ s.1 s.1), rfl, fun _ _ => rfl⟩
  · refine wr_if1f rfl rfl (by unfold i32; omega) h1 ?_
    refine wr_n (pc2 := 7) (lv2 := [(0, .ref 96), (1, vi x)]) (st2 := [vi 12, vi x]) 2 (fun _ _ => rfl) ?_
    by_cases h2 : x ≤ 12
    · refine wr_if2t rfl rfl (by unfold i32; omega) (by unfold i32; omega) h2 ?_
      refine wr_n (pc2 := 13) (lv2 := [(0, .ref 96), (1, vi x)]) (st2 := [.ref 96]) 1 (fun _ _ => rfl) ?_
      refine wr_get (v := vi (s.1 96 3)) rfl rfl rfl (by decide) rfl fun h3 => ?_
      have h3 : 0 ≤ s.1 96 3 ∧ s.1 96 3 ≤ 1 := h3
      show wr d tb_M115 16 [(0, .ref 96), (1, vi x)] [vi (s.1 96 3)] s _
      by_cases h4 : s.1 96 3 ≠ 0
      · refine wr_if1t rfl rfl (by unfold i32; omega) h4 ?_
        refine wr_n (pc2 := 22) (lv2 := [(0, .ref 96), (1, vi x)]) (st2 := [vi x]) 1 (fun _ _ => rfl) ?_
        by_cases h5 : x ≠ 0
        · refine wr_if1t rfl rfl (by unfold i32; omega) h5 ?_
          refine wr_n (pc2 := 36) (lv2 := [(0, .ref 96), (1, vi x)]) (st2 := [vi 6, vi x]) 2 (fun _ _ => rfl) ?_
          by_cases h6 : 6 < x
          · refine wr_if2t rfl rfl (by unfold i32; omega) (by unfold i32; omega) h6 ?_
            refine wr_n (pc2 := 54) (lv2 := [(0, .ref 96), (1, vi x)]) (st2 := [vi 7, vi x]) 2 (fun _ _ => rfl) ?_
            by_cases h7 : x ≠ 7
            · refine wr_if2t rfl rfl (by unfold i32; omega) (by unfold i32; omega) h7 ?_
              refine wr_n (pc2 := 68) (lv2 := [(0, .ref 96), (1, vi x)]) (st2 := [vi 8, vi x]) 2 (fun _ _ => rfl) ?_
              by_cases h8 : x ≠ 8
              · refine wr_if2t rfl rfl (by unfold i32; omega) (by unfold i32; omega) h8 ?_
                refine wr_n (pc2 := 80) (lv2 := [(0, .ref 96), (1, vi x)]) (st2 := [.ref 96]) 1 (fun _ _ => rfl) ?_
                refine wr_get (v := .ref 142) rfl rfl rfl (by decide) (rv_ref (hK.1 96 5 142 rfl)) fun h9 => ?_
                show wr d tb_M115 83 [(0, .ref 96), (1, vi x)] [.ref 142] s _
                refine wr_get (v := vi (s.1 142 14)) rfl rfl rfl (by decide) rfl fun h10 => ?_
                have h10 : -2147483648 ≤ s.1 142 14 ∧ s.1 142 14 ≤ 2147483647 := h10
                show wr d tb_M115 86 [(0, .ref 96), (1, vi x)] [vi (s.1 142 14)] s _
                refine wr_n (pc2 := 87) (lv2 := [(0, .ref 96), (1, vi x)]) (st2 := [vi 3, vi (s.1 142 14)]) 1 (fun _ _ => rfl) ?_
                by_cases h11 : s.1 142 14 ≠ 3
                · refine wr_if2t rfl rfl (by unfold i32; omega) (by unfold i32; omega) h11 ?_
                  refine wr_n (pc2 := 95) (lv2 := [(0, .ref 96), (1, vi x)]) (st2 := [.ref 96]) 1 (fun _ _ => rfl) ?_
                  refine wr_get (v := .ref 142) rfl rfl rfl (by decide) (rv_ref (hK.1 96 5 142 rfl)) fun h12 => ?_
                  show wr d tb_M115 98 [(0, .ref 96), (1, vi x)] [.ref 142] s _
                  refine wr_get (v := .ref 151) rfl rfl rfl (by decide) (rv_ref (hK.1 142 10 151 rfl)) fun h13 => ?_
                  show wr d tb_M115 101 [(0, .ref 96), (1, vi x)] [.ref 151] s _
                  refine wr_n (pc2 := 104) (lv2 := [(0, .ref 96), (1, vi x)]) (st2 := [vi 9, vi x, .ref 151]) 2 (fun _ _ => rfl) ?_
                  refine wr_sub (a := x) (b := 9) rfl ?_
                  show wr d tb_M115 105 [(0, .ref 96), (1, vi x)] [vi (x - 9), .ref 151] s _
                  refine wr_ald (a := x - 9) (v := .ref (162 + 2 * ((x - 9).toNat))) rfl rfl rfl (by omega) (by omega) (by decide) (rv_ref (hK.1 151 ((x - 9).toNat) (162 + 2 * ((x - 9).toNat)) (r_outs (by omega)))) fun h14 => ?_
                  show wr d tb_M115 106 [(0, .ref 96), (1, vi x)] [.ref (162 + 2 * ((x - 9).toNat))] s _
                  refine wr_get (v := vi (s.1 (162 + 2 * ((x - 9).toNat)) 2)) rfl rfl (TQ0 (isQ_out (by omega))) (by decide) rfl fun h15 => ?_
                  have h15 : -2147483648 ≤ s.1 (162 + 2 * ((x - 9).toNat)) 2 ∧ s.1 (162 + 2 * ((x - 9).toNat)) 2 ≤ 2147483647 := h15
                  show wr d tb_M115 109 [(0, .ref 96), (1, vi x)] [vi (s.1 (162 + 2 * ((x - 9).toNat)) 2)] s _
                  have hb16 : 0 ≤ s.1 (162 + 2 * ((x - 9).toNat)) 2 ∧ s.1 (162 + 2 * ((x - 9).toNat)) 2 ≤ 40 := kb_to (kQ_2 (isQ_out (by omega))) (hK.2 (162 + 2 * ((x - 9).toNat)) 2)
                  refine wr_reti rfl rfl ?_
                  exact ⟨⟨_, rfl, rfl⟩, .inl rfl, ⟨C, D, E, hK, hC, hD, hE, r1, r2, r3⟩, (fun _ _ _ => rfl : HJ s.1 s.1), rfl, fun _ _ => rfl⟩
                · refine wr_if2f rfl rfl (by unfold i32; omega) (by unfold i32; omega) h11 ?_
                  refine wr_n (pc2 := 109) (lv2 := [(0, .ref 96), (1, vi x)]) (st2 := [vi 0]) 2 (fun _ _ => rfl) ?_
                  refine wr_end (fun _ _ => rfl) ?_
                  exact ⟨⟨_, rfl, rfl⟩, .inl rfl, ⟨C, D, E, hK, hC, hD, hE, r1, r2, r3⟩, (fun _ _ _ => rfl : HJ s.1 s.1), rfl, fun _ _ => rfl⟩
              · refine wr_if2f rfl rfl (by unfold i32; omega) (by unfold i32; omega) h8 ?_
                refine wr_n (pc2 := 72) (lv2 := [(0, .ref 96), (1, vi x)]) (st2 := [.ref 96]) 1 (fun _ _ => rfl) ?_
                refine wr_get (v := .ref 142) rfl rfl rfl (by decide) (rv_ref (hK.1 96 5 142 rfl)) fun h17 => ?_
                show wr d tb_M115 75 [(0, .ref 96), (1, vi x)] [.ref 142] s _
                refine wr_get (v := vi (s.1 142 14)) rfl rfl rfl (by decide) rfl fun h18 => ?_
                have h18 : -2147483648 ≤ s.1 142 14 ∧ s.1 142 14 ≤ 2147483647 := h18
                show wr d tb_M115 78 [(0, .ref 96), (1, vi x)] [vi (s.1 142 14)] s _
                refine wr_reti rfl rfl ?_
                exact ⟨⟨_, rfl, rfl⟩, .inl rfl, ⟨C, D, E, hK, hC, hD, hE, r1, r2, r3⟩, (fun _ _ _ => rfl : HJ s.1 s.1), rfl, fun _ _ => rfl⟩
            · refine wr_if2f rfl rfl (by unfold i32; omega) (by unfold i32; omega) h7 ?_
              refine wr_n (pc2 := 58) (lv2 := [(0, .ref 96), (1, vi x)]) (st2 := [.ref 96]) 1 (fun _ _ => rfl) ?_
              refine wr_get (v := .ref 142) rfl rfl rfl (by decide) (rv_ref (hK.1 96 5 142 rfl)) fun h19 => ?_
              show wr d tb_M115 61 [(0, .ref 96), (1, vi x)] [.ref 142] s _
              refine wr_get (v := vi (s.1 142 15)) rfl rfl rfl (by decide) rfl fun h20 => ?_
              have h20 : -2147483648 ≤ s.1 142 15 ∧ s.1 142 15 ≤ 2147483647 := h20
              show wr d tb_M115 64 [(0, .ref 96), (1, vi x)] [vi (s.1 142 15)] s _
              refine wr_reti rfl rfl ?_
              exact ⟨⟨_, rfl, rfl⟩, .inl rfl, ⟨C, D, E, hK, hC, hD, hE, r1, r2, r3⟩, (fun _ _ _ => rfl : HJ s.1 s.1), rfl, fun _ _ => rfl⟩
          · refine wr_if2f rfl rfl (by unfold i32; omega) (by unfold i32; omega) h6 ?_
            refine wr_n (pc2 := 40) (lv2 := [(0, .ref 96), (1, vi x)]) (st2 := [.ref 96]) 1 (fun _ _ => rfl) ?_
            refine wr_get (v := .ref C) rfl rfl rfl (by decide) (rv_ref (show (s.1) 96 1 = ((C : Nat) : Int) from r1)) fun h21 => ?_
            show wr d tb_M115 43 [(0, .ref 96), (1, vi x)] [.ref C] s _
            refine wr_get (v := .ref (C + 10)) rfl rfl (TK0 hC) (by decide) (rv_ref (hK.1 C 6 (C + 10) (rcK hC (by omega)))) fun h22 => ?_
            show wr d tb_M115 46 [(0, .ref 96), (1, vi x)] [.ref (C + 10)] s _
            refine wr_n (pc2 := 48) (lv2 := [(0, .ref 96), (1, vi x)]) (st2 := [vi 1, vi x, .ref (C + 10)]) 2 (fun _ _ => rfl) ?_
            refine wr_sub (a := x) (b := 1) rfl ?_
            show wr d tb_M115 49 [(0, .ref 96), (1, vi x)] [vi (x - 1), .ref (C + 10)] s _
            refine wr_ald (a := x - 1) (v := vi (s.1 (C + 10) ((x - 1).toNat))) rfl (TK10 hC) rfl (by omega) (by omega) (by decide) rfl fun h23 => ?_
            have h23 : -2147483648 ≤ s.1 (C + 10) ((x - 1).toNat) ∧ s.1 (C + 10) ((x - 1).toNat) ≤ 2147483647 := h23
            show wr d tb_M115 50 [(0, .ref 96), (1, vi x)] [vi (s.1 (C + 10) ((x - 1).toNat))] s _
            have hb24 : 0 ≤ s.1 (C + 10) ((x - 1).toNat) ∧ s.1 (C + 10) ((x - 1).toNat) ≤ LIM ((x - 1).toNat) := kb_to (kC10 hC) (hK.2 (C + 10) ((x - 1).toNat))
            refine wr_reti rfl rfl ?_
            exact ⟨⟨_, rfl, rfl⟩, .inl rfl, ⟨C, D, E, hK, hC, hD, hE, r1, r2, r3⟩, (fun _ _ _ => rfl : HJ s.1 s.1), rfl, fun _ _ => rfl⟩
        · refine wr_if1f rfl rfl (by unfold i32; omega) h5 ?_
          refine wr_n (pc2 := 26) (lv2 := [(0, .ref 96), (1, vi x)]) (st2 := [.ref 96]) 1 (fun _ _ => rfl) ?_
          refine wr_get (v := .ref C) rfl rfl rfl (by decide) (rv_ref (show (s.1) 96 1 = ((C : Nat) : Int) from r1)) fun h25 => ?_
          show wr d tb_M115 29 [(0, .ref 96), (1, vi x)] [.ref C] s _
          refine wr_get (v := vi (s.1 C 12)) rfl rfl (TK0 hC) (by decide) rfl fun h26 => ?_
          have h26 : -2147483648 ≤ s.1 C 12 ∧ s.1 C 12 ≤ 2147483647 := h26
          show wr d tb_M115 32 [(0, .ref 96), (1, vi x)] [vi (s.1 C 12)] s _
          have hb27 : 0 ≤ s.1 C 12 ∧ s.1 C 12 ≤ 2000 := kb_to (kC_12 hC) (hK.2 C 12)
          refine wr_reti rfl rfl ?_
          exact ⟨⟨_, rfl, rfl⟩, .inl rfl, ⟨C, D, E, hK, hC, hD, hE, r1, r2, r3⟩, (fun _ _ _ => rfl : HJ s.1 s.1), rfl, fun _ _ => rfl⟩
      · refine wr_if1f rfl rfl (by unfold i32; omega) h4 ?_
        refine wr_n (pc2 := 20) (lv2 := [(0, .ref 96), (1, vi x)]) (st2 := [vi 0]) 1 (fun _ _ => rfl) ?_
        refine wr_end (fun _ _ => rfl) ?_
        exact ⟨⟨_, rfl, rfl⟩, .inl rfl, ⟨C, D, E, hK, hC, hD, hE, r1, r2, r3⟩, (fun _ _ _ => rfl : HJ s.1 s.1), rfl, fun _ _ => rfl⟩
    · refine wr_if2f rfl rfl (by unfold i32; omega) (by unfold i32; omega) h2 ?_
      refine wr_n (pc2 := 11) (lv2 := [(0, .ref 96), (1, vi x)]) (st2 := [vi ((-1))]) 1 (fun _ _ => rfl) ?_
      refine wr_end (fun _ _ => rfl) ?_
      exact ⟨⟨_, rfl, rfl⟩, .inl rfl, ⟨C, D, E, hK, hC, hD, hE, r1, r2, r3⟩, (fun _ _ _ => rfl : HJ s.1 s.1), rfl, fun _ _ => rfl⟩
set_option maxHeartbeats 20000000 in
set_option maxRecDepth 100000 in
theorem z_give {d C D E : Nat} {x y : Int} (s : rS) (hXI : XI C D E s.1) (hx : (-2147483648) ≤ x ∧ x ≤ 2147483647) (hy : (-2147483648) ≤ y ∧ y ≤ 2147483647)  : cr (d + 2) 111 [.ref 96, vi x, vi y] s (XJ 1 (fun t => t = s.1 97 1) s) := by
  obtain ⟨hK, hC, hD, hE, r1, r2, r3⟩ := hXI
  refine cr_of (M := tb_M111) rfl (Nat.le_of_ble_eq_true rfl) ?_
  show wr (d + 1) tb_M111 0 [(0, .ref 96), (1, vi x), (2, vi y)] [] s _
  refine wr_n (pc2 := 1) (lv2 := [(0, .ref 96), (1, vi x), (2, vi y)]) (st2 := [.ref 96]) 1 (fun _ _ => rfl) ?_
  refine wr_get (v := vi (s.1 96 3)) rfl rfl rfl (by decide) rfl fun h1 => ?_
  have h1 : 0 ≤ s.1 96 3 ∧ s.1 96 3 ≤ 1 := h1
  show wr (d + 1) tb_M111 4 [(0, .ref 96), (1, vi x), (2, vi y)] [vi (s.1 96 3)] s _
  by_cases h2 : s.1 96 3 = 0
  · refine wr_if1t rfl rfl (by unfold i32; omega) h2 ?_
    refine wr_n (pc2 := 37) (lv2 := [(0, .ref 96), (1, vi x), (2, vi y)]) (st2 := [vi ((-2))]) 1 (fun _ _ => rfl) ?_
    refine wr_end (fun _ _ => rfl) ?_
    exact ⟨⟨_, rfl, rfl⟩, .inl rfl, ⟨C, D, E, hK, hC, hD, hE, r1, r2, r3⟩, (fun _ _ _ => rfl : HJ s.1 s.1), rfl, fun _ _ => rfl⟩
  · refine wr_if1f rfl rfl (by unfold i32; omega) h2 ?_
    refine wr_n (pc2 := 8) (lv2 := [(0, .ref 96), (1, vi x), (2, vi y)]) (st2 := [.ref 96]) 1 (fun _ _ => rfl) ?_
    refine wr_get (v := .ref 142) rfl rfl rfl (by decide) (rv_ref (hK.1 96 5 142 rfl)) fun h3 => ?_
    show wr (d + 1) tb_M111 11 [(0, .ref 96), (1, vi x), (2, vi y)] [.ref 142] s _
    refine wr_get (v := vi (s.1 142 14)) rfl rfl rfl (by decide) rfl fun h4 => ?_
    have h4 : -2147483648 ≤ s.1 142 14 ∧ s.1 142 14 ≤ 2147483647 := h4
    show wr (d + 1) tb_M111 14 [(0, .ref 96), (1, vi x), (2, vi y)] [vi (s.1 142 14)] s _
    refine wr_n (pc2 := 15) (lv2 := [(0, .ref 96), (1, vi x), (2, vi y)]) (st2 := [vi 3, vi (s.1 142 14)]) 1 (fun _ _ => rfl) ?_
    by_cases h5 : s.1 142 14 = 3
    · refine wr_if2t rfl rfl (by unfold i32; omega) (by unfold i32; omega) h5 ?_
      refine wr_n (pc2 := 37) (lv2 := [(0, .ref 96), (1, vi x), (2, vi y)]) (st2 := [vi ((-2))]) 1 (fun _ _ => rfl) ?_
      refine wr_end (fun _ _ => rfl) ?_
      exact ⟨⟨_, rfl, rfl⟩, .inl rfl, ⟨C, D, E, hK, hC, hD, hE, r1, r2, r3⟩, (fun _ _ _ => rfl : HJ s.1 s.1), rfl, fun _ _ => rfl⟩
    · refine wr_if2f rfl rfl (by unfold i32; omega) (by unfold i32; omega) h5 ?_
      refine wr_n (pc2 := 19) (lv2 := [(0, .ref 96), (1, vi x), (2, vi y)]) (st2 := [vi x]) 1 (fun _ _ => rfl) ?_
      by_cases h6 : x < 0
      · refine wr_if1t rfl rfl (by unfold i32; omega) h6 ?_
        refine wr_n (pc2 := 37) (lv2 := [(0, .ref 96), (1, vi x), (2, vi y)]) (st2 := [vi ((-2))]) 1 (fun _ _ => rfl) ?_
        refine wr_end (fun _ _ => rfl) ?_
        exact ⟨⟨_, rfl, rfl⟩, .inl rfl, ⟨C, D, E, hK, hC, hD, hE, r1, r2, r3⟩, (fun _ _ _ => rfl : HJ s.1 s.1), rfl, fun _ _ => rfl⟩
      · refine wr_if1f rfl rfl (by unfold i32; omega) h6 ?_
        refine wr_n (pc2 := 24) (lv2 := [(0, .ref 96), (1, vi x), (2, vi y)]) (st2 := [.ref 96, vi x]) 2 (fun _ _ => rfl) ?_
        refine wr_get (v := .ref C) rfl rfl rfl (by decide) (rv_ref (show (s.1) 96 1 = ((C : Nat) : Int) from r1)) fun h7 => ?_
        show wr (d + 1) tb_M111 27 [(0, .ref 96), (1, vi x), (2, vi y)] [.ref C, vi x] s _
        refine wr_get (v := .ref (C + 10)) rfl rfl (TK0 hC) (by decide) (rv_ref (hK.1 C 6 (C + 10) (rcK hC (by omega)))) fun h8 => ?_
        show wr (d + 1) tb_M111 30 [(0, .ref 96), (1, vi x), (2, vi y)] [.ref (C + 10), vi x] s _
        refine wr_n (pc2 := 31) (lv2 := [(0, .ref 96), (1, vi x), (2, vi y)]) (st2 := [vi 3, .ref (C + 10), vi x]) 1 (fun _ _ => rfl) ?_
        refine wr_ald (a := 3) (v := vi (s.1 (C + 10) 3)) rfl (TK10 hC) rfl (by omega) (by omega) (by decide) rfl fun h9 => ?_
        have h9 : -2147483648 ≤ s.1 (C + 10) 3 ∧ s.1 (C + 10) 3 ≤ 2147483647 := h9
        show wr (d + 1) tb_M111 32 [(0, .ref 96), (1, vi x), (2, vi y)] [vi (s.1 (C + 10) 3), vi x] s _
        have hb10 : 0 ≤ s.1 (C + 10) 3 ∧ s.1 (C + 10) 3 ≤ 4 := kb_to (b := 4) (kC10 hC) (hK.2 (C + 10) 3)
        by_cases h11 : x < s.1 (C + 10) 3
        · refine wr_if2t rfl rfl (by unfold i32; omega) (by unfold i32; omega) h11 ?_
          refine wr_n (pc2 := 39) (lv2 := [(0, .ref 96), (1, vi x), (2, vi y)]) (st2 := [.ref 96]) 1 (fun _ _ => rfl) ?_
          refine wr_get (v := .ref 142) rfl rfl rfl (by decide) (rv_ref (hK.1 96 5 142 rfl)) fun h12 => ?_
          show wr (d + 1) tb_M111 42 [(0, .ref 96), (1, vi x), (2, vi y)] [.ref 142] s _
          refine wr_get (v := .ref 150) rfl rfl rfl (by decide) (rv_ref (hK.1 142 9 150 rfl)) fun h13 => ?_
          show wr (d + 1) tb_M111 45 [(0, .ref 96), (1, vi x), (2, vi y)] [.ref 150] s _
          refine wr_n (pc2 := 46) (lv2 := [(0, .ref 96), (1, vi x), (2, vi y)]) (st2 := [vi x, .ref 150]) 1 (fun _ _ => rfl) ?_
          refine wr_ald (a := x) (v := .ref (154 + 2 * x.toNat)) rfl rfl rfl (by omega) (by omega) (by decide) (rv_ref (hK.1 150 x.toNat (154 + 2 * x.toNat) (r_ins (by omega)))) fun h14 => ?_
          show wr (d + 1) tb_M111 47 [(0, .ref 96), (1, vi x), (2, vi y)] [.ref (154 + 2 * x.toNat)] s _
          refine wr_n (pc2 := 50) (lv2 := [(3, .ref (154 + 2 * x.toNat)), (0, .ref 96), (1, vi x), (2, vi y)]) (st2 := [vi y, .ref (154 + 2 * x.toNat)]) 3 (fun _ _ => rfl) ?_
          refine wr_anyu rfl (fun x => ⟨_, rfl⟩) fun z15 h16 => ?_
          unfold i32 at h16
          show wr (d + 1) tb_M111 51 [(3, .ref (154 + 2 * x.toNat)), (0, .ref 96), (1, vi x), (2, vi y)] [vi z15, .ref (154 + 2 * x.toNat)] s _
          refine wr_call1 (args := [vi z15]) (rest := []) rfl rfl rfl (TQ0 (isQ_in (by omega))) (Nat.le_of_ble_eq_true rfl) (cr_mono (k_qadd (d := d + 0) (Q := 154 + 2 * x.toNat) (isQ_in (by omega)) (x := z15) s hK (by omega)) ?_)
          rintro s17 out ⟨hK17, hY17, hc17, z17, rfl, hz17, hp17⟩
          refine ⟨_, rfl, ?_⟩
          have hC17 : s17.2 = s.2 := hc17.trans rfl
          have r1_17 : s17.1 96 1 = (C : Int) := (hY17 96 1 (by unfold fx; omega)).trans (show (s.1) 96 1 = (C : Int) from r1)
          have r2_17 : s17.1 96 2 = (D : Int) := (hY17 96 2 (by unfold fx; omega)).trans (show (s.1) 96 2 = (D : Int) from r2)
          have r3_17 : s17.1 142 0 = (E : Int) := (hY17 142 0 (by unfold fx; omega)).trans (show (s.1) 142 0 = (E : Int) from r3)
          have tp_17 : s17.1 97 1 = s.1 97 1 := (hY17 97 1 (by unfold fx; omega)).trans (show (s.1) 97 1 = s.1 97 1 from rfl)
          have hi_17 : HJ s.1 s17.1 := fun k j hk => (hY17 k j (by unfold fx; omega)).trans (show (s.1) k j = s.1 k j from ((fun _ _ _ => rfl : HJ s.1 s.1) k j hk))
          have ce_17 : s17.2 = s.2 := hc17.trans rfl
          unfold i32 at hz17
          clear hp17
          show wr (d + 1) tb_M111 54 [(3, .ref (154 + 2 * x.toNat)), (0, .ref 96), (1, vi x), (2, vi y)] [vi z17] s17 _
          by_cases h18 : z17 = 0
          · refine wr_if1t rfl rfl (by unfold i32; omega) h18 ?_
            refine wr_n (pc2 := 66) (lv2 := [(3, .ref (154 + 2 * x.toNat)), (0, .ref 96), (1, vi x), (2, vi y)]) (st2 := [vi ((-3))]) 1 (fun _ _ => rfl) ?_
            refine wr_end (fun _ _ => rfl) ?_
            exact ⟨⟨_, rfl, rfl⟩, .inl ce_17, ⟨C, D, E, hK17, hC, hD, hE, r1_17, r2_17, r3_17⟩, hi_17, tp_17, fun q => absurd q (by omega)⟩
          · refine wr_if1f rfl rfl (by unfold i32; omega) h18 ?_
            refine wr_n (pc2 := 58) (lv2 := [(3, .ref (154 + 2 * x.toNat)), (0, .ref 96), (1, vi x), (2, vi y)]) (st2 := [.ref (154 + 2 * x.toNat)]) 1 (fun _ _ => rfl) ?_
            refine wr_get (v := vi (s17.1 (154 + 2 * x.toNat) 2)) rfl rfl (TQ0 (isQ_in (by omega))) (by decide) rfl fun h19 => ?_
            have h19 : -2147483648 ≤ s17.1 (154 + 2 * x.toNat) 2 ∧ s17.1 (154 + 2 * x.toNat) 2 ≤ 2147483647 := h19
            show wr (d + 1) tb_M111 61 [(3, .ref (154 + 2 * x.toNat)), (0, .ref 96), (1, vi x), (2, vi y)] [vi (s17.1 (154 + 2 * x.toNat) 2)] s17 _
            have hb20 : 0 ≤ s17.1 (154 + 2 * x.toNat) 2 ∧ s17.1 (154 + 2 * x.toNat) 2 ≤ 40 := kb_to (kQ_2 (isQ_in (by omega))) (hK17.2 (154 + 2 * x.toNat) 2)
            refine wr_n (pc2 := 66) (lv2 := [(3, .ref (154 + 2 * x.toNat)), (0, .ref 96), (1, vi x), (2, vi y)]) (st2 := [vi (s17.1 (154 + 2 * x.toNat) 2)]) 1 (fun _ _ => rfl) ?_
            refine wr_reti rfl rfl ?_
            exact ⟨⟨_, rfl, rfl⟩, .inl ce_17, ⟨C, D, E, hK17, hC, hD, hE, r1_17, r2_17, r3_17⟩, hi_17, tp_17, fun q => absurd q (by omega)⟩
        · refine wr_if2f rfl rfl (by unfold i32; omega) (by unfold i32; omega) h11 ?_
          refine wr_n (pc2 := 37) (lv2 := [(0, .ref 96), (1, vi x), (2, vi y)]) (st2 := [vi ((-2))]) 1 (fun _ _ => rfl) ?_
          refine wr_end (fun _ _ => rfl) ?_
          exact ⟨⟨_, rfl, rfl⟩, .inl rfl, ⟨C, D, E, hK, hC, hD, hE, r1, r2, r3⟩, (fun _ _ _ => rfl : HJ s.1 s.1), rfl, fun _ _ => rfl⟩
set_option maxHeartbeats 20000000 in
set_option maxRecDepth 100000 in
theorem z_take {d C D E : Nat} {x : Int} (s : rS) (hXI : XI C D E s.1) (hx : (-2147483648) ≤ x ∧ x ≤ 2147483647)  : cr (d + 2) 112 [.ref 96, vi x] s (XJ 2 (fun t => t = s.1 97 1) s) := by
  obtain ⟨hK, hC, hD, hE, r1, r2, r3⟩ := hXI
  refine cr_of (M := tb_M112) rfl (Nat.le_of_ble_eq_true rfl) ?_
  show wr (d + 1) tb_M112 0 [(0, .ref 96), (1, vi x)] [] s _
  refine wr_n (pc2 := 1) (lv2 := [(0, .ref 96), (1, vi x)]) (st2 := [.ref 96]) 1 (fun _ _ => rfl) ?_
  refine wr_get (v := vi (s.1 96 3)) rfl rfl rfl (by decide) rfl fun h1 => ?_
  have h1 : 0 ≤ s.1 96 3 ∧ s.1 96 3 ≤ 1 := h1
  show wr (d + 1) tb_M112 4 [(0, .ref 96), (1, vi x)] [vi (s.1 96 3)] s _
  by_cases h2 : s.1 96 3 = 0
  · refine wr_if1t rfl rfl (by unfold i32; omega) h2 ?_
    refine wr_n (pc2 := 38) (lv2 := [(0, .ref 96), (1, vi x)]) (st2 := [vl 1099511627776]) 1 (fun _ _ => rfl) ?_
    refine wr_end (fun _ _ => rfl) ?_
    exact ⟨⟨_, rfl, rfl⟩, .inl rfl, ⟨C, D, E, hK, hC, hD, hE, r1, r2, r3⟩, (fun _ _ _ => rfl : HJ s.1 s.1), rfl, fun _ _ => rfl⟩
  · refine wr_if1f rfl rfl (by unfold i32; omega) h2 ?_
    refine wr_n (pc2 := 8) (lv2 := [(0, .ref 96), (1, vi x)]) (st2 := [.ref 96]) 1 (fun _ _ => rfl) ?_
    refine wr_get (v := .ref 142) rfl rfl rfl (by decide) (rv_ref (hK.1 96 5 142 rfl)) fun h3 => ?_
    show wr (d + 1) tb_M112 11 [(0, .ref 96), (1, vi x)] [.ref 142] s _
    refine wr_get (v := vi (s.1 142 14)) rfl rfl rfl (by decide) rfl fun h4 => ?_
    have h4 : -2147483648 ≤ s.1 142 14 ∧ s.1 142 14 ≤ 2147483647 := h4
    show wr (d + 1) tb_M112 14 [(0, .ref 96), (1, vi x)] [vi (s.1 142 14)] s _
    refine wr_n (pc2 := 15) (lv2 := [(0, .ref 96), (1, vi x)]) (st2 := [vi 3, vi (s.1 142 14)]) 1 (fun _ _ => rfl) ?_
    by_cases h5 : s.1 142 14 = 3
    · refine wr_if2t rfl rfl (by unfold i32; omega) (by unfold i32; omega) h5 ?_
      refine wr_n (pc2 := 38) (lv2 := [(0, .ref 96), (1, vi x)]) (st2 := [vl 1099511627776]) 1 (fun _ _ => rfl) ?_
      refine wr_end (fun _ _ => rfl) ?_
      exact ⟨⟨_, rfl, rfl⟩, .inl rfl, ⟨C, D, E, hK, hC, hD, hE, r1, r2, r3⟩, (fun _ _ _ => rfl : HJ s.1 s.1), rfl, fun _ _ => rfl⟩
    · refine wr_if2f rfl rfl (by unfold i32; omega) (by unfold i32; omega) h5 ?_
      refine wr_n (pc2 := 19) (lv2 := [(0, .ref 96), (1, vi x)]) (st2 := [vi x]) 1 (fun _ _ => rfl) ?_
      by_cases h6 : x < 0
      · refine wr_if1t rfl rfl (by unfold i32; omega) h6 ?_
        refine wr_n (pc2 := 38) (lv2 := [(0, .ref 96), (1, vi x)]) (st2 := [vl 1099511627776]) 1 (fun _ _ => rfl) ?_
        refine wr_end (fun _ _ => rfl) ?_
        exact ⟨⟨_, rfl, rfl⟩, .inl rfl, ⟨C, D, E, hK, hC, hD, hE, r1, r2, r3⟩, (fun _ _ _ => rfl : HJ s.1 s.1), rfl, fun _ _ => rfl⟩
      · refine wr_if1f rfl rfl (by unfold i32; omega) h6 ?_
        refine wr_n (pc2 := 24) (lv2 := [(0, .ref 96), (1, vi x)]) (st2 := [.ref 96, vi x]) 2 (fun _ _ => rfl) ?_
        refine wr_get (v := .ref C) rfl rfl rfl (by decide) (rv_ref (show (s.1) 96 1 = ((C : Nat) : Int) from r1)) fun h7 => ?_
        show wr (d + 1) tb_M112 27 [(0, .ref 96), (1, vi x)] [.ref C, vi x] s _
        refine wr_get (v := .ref (C + 10)) rfl rfl (TK0 hC) (by decide) (rv_ref (hK.1 C 6 (C + 10) (rcK hC (by omega)))) fun h8 => ?_
        show wr (d + 1) tb_M112 30 [(0, .ref 96), (1, vi x)] [.ref (C + 10), vi x] s _
        refine wr_n (pc2 := 31) (lv2 := [(0, .ref 96), (1, vi x)]) (st2 := [vi 4, .ref (C + 10), vi x]) 1 (fun _ _ => rfl) ?_
        refine wr_ald (a := 4) (v := vi (s.1 (C + 10) 4)) rfl (TK10 hC) rfl (by omega) (by omega) (by decide) rfl fun h9 => ?_
        have h9 : -2147483648 ≤ s.1 (C + 10) 4 ∧ s.1 (C + 10) 4 ≤ 2147483647 := h9
        show wr (d + 1) tb_M112 32 [(0, .ref 96), (1, vi x)] [vi (s.1 (C + 10) 4), vi x] s _
        have hb10 : 0 ≤ s.1 (C + 10) 4 ∧ s.1 (C + 10) 4 ≤ 4 := kb_to (b := 4) (kC10 hC) (hK.2 (C + 10) 4)
        by_cases h11 : x < s.1 (C + 10) 4
        · refine wr_if2t rfl rfl (by unfold i32; omega) (by unfold i32; omega) h11 ?_
          refine wr_n (pc2 := 40) (lv2 := [(0, .ref 96), (1, vi x)]) (st2 := [.ref 96]) 1 (fun _ _ => rfl) ?_
          refine wr_get (v := .ref 142) rfl rfl rfl (by decide) (rv_ref (hK.1 96 5 142 rfl)) fun h12 => ?_
          show wr (d + 1) tb_M112 43 [(0, .ref 96), (1, vi x)] [.ref 142] s _
          refine wr_get (v := .ref 151) rfl rfl rfl (by decide) (rv_ref (hK.1 142 10 151 rfl)) fun h13 => ?_
          show wr (d + 1) tb_M112 46 [(0, .ref 96), (1, vi x)] [.ref 151] s _
          refine wr_n (pc2 := 47) (lv2 := [(0, .ref 96), (1, vi x)]) (st2 := [vi x, .ref 151]) 1 (fun _ _ => rfl) ?_
          refine wr_ald (a := x) (v := .ref (162 + 2 * x.toNat)) rfl rfl rfl (by omega) (by omega) (by decide) (rv_ref (hK.1 151 x.toNat (162 + 2 * x.toNat) (r_outs (by omega)))) fun h14 => ?_
          show wr (d + 1) tb_M112 48 [(0, .ref 96), (1, vi x)] [.ref (162 + 2 * x.toNat)] s _
          refine wr_n (pc2 := 50) (lv2 := [(2, .ref (162 + 2 * x.toNat)), (0, .ref 96), (1, vi x)]) (st2 := [.ref (162 + 2 * x.toNat)]) 2 (fun _ _ => rfl) ?_
          refine wr_get (v := vi (s.1 (162 + 2 * x.toNat) 2)) rfl rfl (TQ0 (isQ_out (by omega))) (by decide) rfl fun h15 => ?_
          have h15 : -2147483648 ≤ s.1 (162 + 2 * x.toNat) 2 ∧ s.1 (162 + 2 * x.toNat) 2 ≤ 2147483647 := h15
          show wr (d + 1) tb_M112 53 [(2, .ref (162 + 2 * x.toNat)), (0, .ref 96), (1, vi x)] [vi (s.1 (162 + 2 * x.toNat) 2)] s _
          have hb16 : 0 ≤ s.1 (162 + 2 * x.toNat) 2 ∧ s.1 (162 + 2 * x.toNat) 2 ≤ 40 := kb_to (kQ_2 (isQ_out (by omega))) (hK.2 (162 + 2 * x.toNat) 2)
          by_cases h17 : s.1 (162 + 2 * x.toNat) 2 ≤ 0
          · refine wr_if1t rfl rfl (by unfold i32; omega) h17 ?_
            refine wr_n (pc2 := 67) (lv2 := [(2, .ref (162 + 2 * x.toNat)), (0, .ref 96), (1, vi x)]) (st2 := [vl 1099511627776]) 1 (fun _ _ => rfl) ?_
            refine wr_end (fun _ _ => rfl) ?_
            exact ⟨⟨_, rfl, rfl⟩, .inl rfl, ⟨C, D, E, hK, hC, hD, hE, r1, r2, r3⟩, (fun _ _ _ => rfl : HJ s.1 s.1), rfl, fun _ _ => rfl⟩
          · refine wr_if1f rfl rfl (by unfold i32; omega) h17 ?_
            refine wr_n (pc2 := 57) (lv2 := [(2, .ref (162 + 2 * x.toNat)), (0, .ref 96), (1, vi x)]) (st2 := [.ref (162 + 2 * x.toNat)]) 1 (fun _ _ => rfl) ?_
            refine wr_call1 (args := []) (rest := []) rfl rfl rfl (TQ0 (isQ_out (by omega))) (Nat.le_of_ble_eq_true rfl) (cr_mono (k_qremove (d := d + 0) (Q := 162 + 2 * x.toNat) (isQ_out (by omega)) s hK) ?_)
            rintro s18 out ⟨hK18, hY18, hc18, z18, rfl, hz18, hp18⟩
            refine ⟨_, rfl, ?_⟩
            have hC18 : s18.2 = s.2 := hc18.trans rfl
            have r1_18 : s18.1 96 1 = (C : Int) := (hY18 96 1 (by unfold fx; omega)).trans (show (s.1) 96 1 = (C : Int) from r1)
            have r2_18 : s18.1 96 2 = (D : Int) := (hY18 96 2 (by unfold fx; omega)).trans (show (s.1) 96 2 = (D : Int) from r2)
            have r3_18 : s18.1 142 0 = (E : Int) := (hY18 142 0 (by unfold fx; omega)).trans (show (s.1) 142 0 = (E : Int) from r3)
            have tp_18 : s18.1 97 1 = s.1 97 1 := (hY18 97 1 (by unfold fx; omega)).trans (show (s.1) 97 1 = s.1 97 1 from rfl)
            have hi_18 : HJ s.1 s18.1 := fun k j hk => (hY18 k j (by unfold fx; omega)).trans (show (s.1) k j = s.1 k j from ((fun _ _ _ => rfl : HJ s.1 s.1) k j hk))
            have ce_18 : s18.2 = s.2 := hc18.trans rfl
            unfold i32 at hz18
            clear hp18
            show wr (d + 1) tb_M112 60 [(2, .ref (162 + 2 * x.toNat)), (0, .ref 96), (1, vi x)] [vi z18] s18 _
            refine wr_i2l (a := z18) rfl (by unfold i32; omega) ?_
            show wr (d + 1) tb_M112 61 [(2, .ref (162 + 2 * x.toNat)), (0, .ref 96), (1, vi x)] [vl z18] s18 _
            refine wr_n (pc2 := 67) (lv2 := [(2, .ref (162 + 2 * x.toNat)), (0, .ref 96), (1, vi x)]) (st2 := [vl z18]) 1 (fun _ _ => rfl) ?_
            refine wr_end (fun _ _ => rfl) ?_
            exact ⟨⟨_, rfl, rfl⟩, .inl ce_18, ⟨C, D, E, hK18, hC, hD, hE, r1_18, r2_18, r3_18⟩, hi_18, tp_18, fun q => absurd q (by omega)⟩
        · refine wr_if2f rfl rfl (by unfold i32; omega) (by unfold i32; omega) h11 ?_
          refine wr_n (pc2 := 38) (lv2 := [(0, .ref 96), (1, vi x)]) (st2 := [vl 1099511627776]) 1 (fun _ _ => rfl) ?_
          refine wr_end (fun _ _ => rfl) ?_
          exact ⟨⟨_, rfl, rfl⟩, .inl rfl, ⟨C, D, E, hK, hC, hD, hE, r1, r2, r3⟩, (fun _ _ _ => rfl : HJ s.1 s.1), rfl, fun _ _ => rfl⟩
set_option maxHeartbeats 20000000 in
set_option maxRecDepth 100000 in
theorem z_look {d C D E : Nat} {x : Int} (s : rS) (hXI : XI C D E s.1) (hx : (-2147483648) ≤ x ∧ x ≤ 2147483647)  : cr (d + 4) 113 [.ref 96, vi x] s (XJ 2 (fun t => t = 0) s) := by
  obtain ⟨hK, hC, hD, hE, r1, r2, r3⟩ := hXI
  refine cr_of (M := tb_M113) rfl (Nat.le_of_ble_eq_true rfl) ?_
  show wr (d + 3) tb_M113 0 [(0, .ref 96), (1, vi x)] [] s _
  refine wr_n (pc2 := 1) (lv2 := [(0, .ref 96), (1, vi x)]) (st2 := [.ref 96]) 1 (fun _ _ => rfl) ?_
  refine wr_get (v := .ref 97) rfl rfl rfl (by decide) (rv_ref (hK.1 96 0 97 rfl)) fun h1 => ?_
  show wr (d + 3) tb_M113 4 [(0, .ref 96), (1, vi x)] [.ref 97] s _
  refine wr_call1 (args := []) (rest := []) rfl rfl rfl rfl (Nat.le_of_ble_eq_true rfl) (cr_mono (k_word (d := d + 0) s hK) ?_)
  rintro s2 out ⟨z2, rfl, hz2, e2⟩
  refine ⟨_, rfl, ?_⟩
  rw [e2]
  show wr (d + 3) tb_M113 7 [(0, .ref 96), (1, vi x)] [vl z2] s _
  refine wr_n (pc2 := 9) (lv2 := [(2, vl z2), (0, .ref 96), (1, vi x)]) (st2 := [.ref 96]) 2 (fun _ _ => rfl) ?_
  refine wr_get (v := .ref 97) rfl rfl rfl (by decide) (rv_ref (hK.1 96 0 97 rfl)) fun h3 => ?_
  show wr (d + 3) tb_M113 12 [(2, vl z2), (0, .ref 96), (1, vi x)] [.ref 97] s _
  refine wr_n (pc2 := 13) (lv2 := [(2, vl z2), (0, .ref 96), (1, vi x)]) (st2 := [vi 0, .ref 97]) 1 (fun _ _ => rfl) ?_
  refine wr_put (z := 0) rfl rfl rfl rfl (by decide) rfl (by decide) rfl (show -2147483648 ≤ 0 ∧ 0 ≤ 2147483647 by omega) (hf_int' _) ?_
  show wr (d + 3) tb_M113 16 [(2, vl z2), (0, .ref 96), (1, vi x)] [] (up2 s.1 97 1 0, s.2) _
  have hK4 : KI (up2 s.1 97 1 0) := (KI_up hK rfl (kb_of rfl (show 0 ≤ 0 ∧ 0 ≤ 2000 by omega)))
  refine wr_n (pc2 := 17) (lv2 := [(2, vl z2), (0, .ref 96), (1, vi x)]) (st2 := [.ref 96]) 1 (fun _ _ => rfl) ?_
  refine wr_get (v := vi (s.1 96 3)) rfl rfl rfl (by decide) rfl fun h5 => ?_
  have h5 : 0 ≤ s.1 96 3 ∧ s.1 96 3 ≤ 1 := h5
  show wr (d + 3) tb_M113 20 [(2, vl z2), (0, .ref 96), (1, vi x)] [vi (s.1 96 3)] (up2 s.1 97 1 0, s.2) _
  by_cases h6 : s.1 96 3 = 0
  · refine wr_if1t rfl rfl (by unfold i32; omega) h6 ?_
    refine wr_n (pc2 := 37) (lv2 := [(2, vl z2), (0, .ref 96), (1, vi x)]) (st2 := [vl 1099511627776]) 1 (fun _ _ => rfl) ?_
    refine wr_end (fun _ _ => rfl) ?_
    obtain ⟨q7, hs7⟩ : ∃ qq9 : rS, qq9 = (up2 s.1 97 1 0, s.2) := ⟨_, rfl⟩
    rw [← hs7]
    have hK7 : KI q7.1 := by rw [hs7]; exact hK4
    have r1_7 : q7.1 96 1 = (C : Int) := by rw [hs7]; exact (show (up2 s.1 97 1 0) 96 1 = (C : Int) from ((if_neg (by omega)).trans r1))
    have r2_7 : q7.1 96 2 = (D : Int) := by rw [hs7]; exact (show (up2 s.1 97 1 0) 96 2 = (D : Int) from ((if_neg (by omega)).trans r2))
    have r3_7 : q7.1 142 0 = (E : Int) := by rw [hs7]; exact (show (up2 s.1 97 1 0) 142 0 = (E : Int) from ((if_neg (by omega)).trans r3))
    have tp_7 : q7.1 97 1 = 0 := by rw [hs7]; exact (show (up2 s.1 97 1 0) 97 1 = 0 from up_self)
    have hi_7 : HJ s.1 q7.1 := by rw [hs7]; exact (fun k j hk => (show (up2 s.1 97 1 0) k j = s.1 k j from ((if_neg (by omega)).trans ((fun _ _ _ => rfl : HJ s.1 s.1) k j hk))))
    have ce_7 : q7.2 = s.2 := by rw [hs7]
    have k4_7 : ∀ j, q7.1 140 j = s.1 140 j := fun j => by subst hs7; rfl
    clear hs7
    exact ⟨⟨_, rfl, rfl⟩, .inl ce_7, ⟨C, D, E, hK7, hC, hD, hE, r1_7, r2_7, r3_7⟩, hi_7, tp_7, fun _ => k4_7⟩
  · refine wr_if1f rfl rfl (by unfold i32; omega) h6 ?_
    refine wr_n (pc2 := 24) (lv2 := [(2, vl z2), (0, .ref 96), (1, vi x)]) (st2 := [.ref 96]) 1 (fun _ _ => rfl) ?_
    refine wr_get (v := .ref 142) rfl rfl rfl (by decide) (rv_ref (hK4.1 96 5 142 rfl)) fun h8 => ?_
    show wr (d + 3) tb_M113 27 [(2, vl z2), (0, .ref 96), (1, vi x)] [.ref 142] (up2 s.1 97 1 0, s.2) _
    refine wr_get (v := vi (s.1 142 14)) rfl rfl rfl (by decide) rfl fun h9 => ?_
    have h9 : -2147483648 ≤ s.1 142 14 ∧ s.1 142 14 ≤ 2147483647 := h9
    show wr (d + 3) tb_M113 30 [(2, vl z2), (0, .ref 96), (1, vi x)] [vi (s.1 142 14)] (up2 s.1 97 1 0, s.2) _
    refine wr_n (pc2 := 31) (lv2 := [(2, vl z2), (0, .ref 96), (1, vi x)]) (st2 := [vi 3, vi (s.1 142 14)]) 1 (fun _ _ => rfl) ?_
    by_cases h10 : s.1 142 14 ≠ 3
    · refine wr_if2t rfl rfl (by unfold i32; omega) (by unfold i32; omega) h10 ?_
      refine wr_n (pc2 := 39) (lv2 := [(2, vl z2), (0, .ref 96), (1, vi x)]) (st2 := [.ref 96]) 1 (fun _ _ => rfl) ?_
      refine wr_get (v := .ref C) rfl rfl rfl (by decide) (rv_ref (show (up2 s.1 97 1 0) 96 1 = ((C : Nat) : Int) from ((if_neg (by omega)).trans r1))) fun h11 => ?_
      show wr (d + 3) tb_M113 42 [(2, vl z2), (0, .ref 96), (1, vi x)] [.ref C] (up2 s.1 97 1 0, s.2) _
      refine wr_get (v := .ref (C + 6)) rfl rfl (TK0 hC) (by decide) (rv_ref (hK4.1 C 5 (C + 6) (rcK hC (by omega)))) fun h12 => ?_
      show wr (d + 3) tb_M113 45 [(2, vl z2), (0, .ref 96), (1, vi x)] [.ref (C + 6)] (up2 s.1 97 1 0, s.2) _
      refine wr_n (pc2 := 51) (lv2 := [(4, .ref (C + 6)), (2, vl z2), (0, .ref 96), (1, vi x)]) (st2 := [vi 0, vl z2, .ref (C + 6)]) 4 (fun _ _ => rfl) ?_
      obtain ⟨q13, hs13⟩ : ∃ qq9 : rS, qq9 = (up2 s.1 97 1 0, s.2) := ⟨_, rfl⟩
      rw [← hs13]
      have hK13 : KI q13.1 := by rw [hs13]; exact hK4
      have r1_13 : q13.1 96 1 = (C : Int) := by rw [hs13]; exact (show (up2 s.1 97 1 0) 96 1 = (C : Int) from ((if_neg (by omega)).trans r1))
      have r2_13 : q13.1 96 2 = (D : Int) := by rw [hs13]; exact (show (up2 s.1 97 1 0) 96 2 = (D : Int) from ((if_neg (by omega)).trans r2))
      have r3_13 : q13.1 142 0 = (E : Int) := by rw [hs13]; exact (show (up2 s.1 97 1 0) 142 0 = (E : Int) from ((if_neg (by omega)).trans r3))
      have tp_13 : q13.1 97 1 = 0 := by rw [hs13]; exact (show (up2 s.1 97 1 0) 97 1 = 0 from up_self)
      have hi_13 : HJ s.1 q13.1 := by rw [hs13]; exact (fun k j hk => (show (up2 s.1 97 1 0) k j = s.1 k j from ((if_neg (by omega)).trans ((fun _ _ _ => rfl : HJ s.1 s.1) k j hk))))
      have ce_13 : q13.2 = s.2 := by rw [hs13]
      clear hs13
      refine wr_call1 (args := [vl z2, vi 0]) (rest := []) rfl rfl rfl (TK6 hC) (Nat.le_of_ble_eq_true rfl) (cr_mono (k_find (d := d + 2) (C := C) hC (w := z2) (x := 0) q13 hK13 hz2 (by omega)) ?_)
      rintro s14 out ⟨z14, rfl, hz14, hp14, e14⟩
      refine ⟨_, rfl, ?_⟩
      rw [e14]
      unfold i32 at hz14
      clear hp14
      show wr (d + 3) tb_M113 54 [(4, .ref (C + 6)), (2, vl z2), (0, .ref 96), (1, vi x)] [vi z14] q13 _
      refine wr_n (pc2 := 60) (lv2 := [(5, vi z14), (4, .ref (C + 6)), (2, vl z2), (0, .ref 96), (1, vi x)]) (st2 := [vi z14, .ref (C + 6)]) 3 (fun _ _ => rfl) ?_
      refine wr_call1 (args := [vi z14]) (rest := []) rfl rfl rfl (TK6 hC) (Nat.le_of_ble_eq_true rfl) (cr_mono (k_nkind (d := d + 2) (C := C) hC (x := z14) q13 hK13 (by omega)) ?_)
      rintro s15 out ⟨z15, rfl, hz15, hp15, e15⟩
      refine ⟨_, rfl, ?_⟩
      rw [e15]
      unfold i32 at hz15
      clear hp15
      show wr (d + 3) tb_M113 63 [(5, vi z14), (4, .ref (C + 6)), (2, vl z2), (0, .ref 96), (1, vi x)] [vi z15] q13 _
      by_cases h16 : z15 ≠ 0
      · refine wr_if1t rfl rfl (by unfold i32; omega) h16 ?_
        refine wr_n (pc2 := 86) (lv2 := [(5, vi z14), (4, .ref (C + 6)), (2, vl z2), (0, .ref 96), (1, vi x)]) (st2 := [vi z14, .ref (C + 6)]) 2 (fun _ _ => rfl) ?_
        refine wr_call1 (args := [vi z14]) (rest := []) rfl rfl rfl (TK6 hC) (Nat.le_of_ble_eq_true rfl) (cr_mono (k_nkind (d := d + 2) (C := C) hC (x := z14) q13 hK13 (by omega)) ?_)
        rintro s17 out ⟨z17, rfl, hz17, hp17, e17⟩
        refine ⟨_, rfl, ?_⟩
        rw [e17]
        unfold i32 at hz17
        clear hp17
        show wr (d + 3) tb_M113 89 [(5, vi z14), (4, .ref (C + 6)), (2, vl z2), (0, .ref 96), (1, vi x)] [vi z17] q13 _
        refine wr_n (pc2 := 90) (lv2 := [(5, vi z14), (4, .ref (C + 6)), (2, vl z2), (0, .ref 96), (1, vi x)]) (st2 := [vi 1, vi z17]) 1 (fun _ _ => rfl) ?_
        by_cases h18 : z17 ≠ 1
        · refine wr_if2t rfl rfl (by unfold i32; omega) (by unfold i32; omega) h18 ?_
          refine wr_n (pc2 := 115) (lv2 := [(5, vi z14), (4, .ref (C + 6)), (2, vl z2), (0, .ref 96), (1, vi x)]) (st2 := [vl 1099511627776]) 1 (fun _ _ => rfl) ?_
          refine wr_end (fun _ _ => rfl) ?_
          exact ⟨⟨_, rfl, rfl⟩, .inl ce_13, ⟨C, D, E, hK13, hC, hD, hE, r1_13, r2_13, r3_13⟩, hi_13, tp_13, fun q => absurd q (by omega)⟩
        · refine wr_if2f rfl rfl (by unfold i32; omega) (by unfold i32; omega) h18 ?_
          refine wr_n (pc2 := 94) (lv2 := [(5, vi z14), (4, .ref (C + 6)), (2, vl z2), (0, .ref 96), (1, vi x)]) (st2 := [.ref 96]) 1 (fun _ _ => rfl) ?_
          refine wr_get (v := .ref 142) rfl rfl rfl (by decide) (rv_ref (hK13.1 96 5 142 rfl)) fun h19 => ?_
          show wr (d + 3) tb_M113 97 [(5, vi z14), (4, .ref (C + 6)), (2, vl z2), (0, .ref 96), (1, vi x)] [.ref 142] q13 _
          refine wr_n (pc2 := 101) (lv2 := [(5, vi z14), (4, .ref (C + 6)), (2, vl z2), (0, .ref 96), (1, vi x)]) (st2 := [vi z14, .ref (C + 6), .ref 142]) 2 (fun _ _ => rfl) ?_
          refine wr_call1 (args := [vi z14]) (rest := [.ref 142]) rfl rfl rfl (TK6 hC) (Nat.le_of_ble_eq_true rfl) (cr_mono (k_nnumber (d := d + 2) (C := C) hC (x := z14) q13 hK13 (by omega)) ?_)
          rintro s20 out ⟨z20, rfl, hz20, hp20, e20⟩
          refine ⟨_, rfl, ?_⟩
          rw [e20]
          unfold i32 at hz20
          clear hp20
          show wr (d + 3) tb_M113 104 [(5, vi z14), (4, .ref (C + 6)), (2, vl z2), (0, .ref 96), (1, vi x)] [vi z20, .ref 142] q13 _
          refine wr_n (pc2 := 105) (lv2 := [(5, vi z14), (4, .ref (C + 6)), (2, vl z2), (0, .ref 96), (1, vi x)]) (st2 := [vi x, vi z20, .ref 142]) 1 (fun _ _ => rfl) ?_
          refine wr_call1 (args := [vi z20, vi x]) (rest := []) rfl rfl rfl rfl (Nat.le_of_ble_eq_true rfl) (cr_mono (k_item (d := d + 1) (C := E) hE (x := z20) (y := x) q13 hK13 r3_13 (by omega) (by omega)) ?_)
          rintro s21 out ⟨z21, rfl, hz21, hp21, e21⟩
          refine ⟨_, rfl, ?_⟩
          rw [e21]
          unfold i32 at hz21
          clear hp21
          show wr (d + 3) tb_M113 108 [(5, vi z14), (4, .ref (C + 6)), (2, vl z2), (0, .ref 96), (1, vi x)] [vi z21] q13 _
          refine wr_i2l (a := z21) rfl (by unfold i32; omega) ?_
          show wr (d + 3) tb_M113 109 [(5, vi z14), (4, .ref (C + 6)), (2, vl z2), (0, .ref 96), (1, vi x)] [vl z21] q13 _
          refine wr_n (pc2 := 115) (lv2 := [(5, vi z14), (4, .ref (C + 6)), (2, vl z2), (0, .ref 96), (1, vi x)]) (st2 := [vl z21]) 1 (fun _ _ => rfl) ?_
          refine wr_end (fun _ _ => rfl) ?_
          exact ⟨⟨_, rfl, rfl⟩, .inl ce_13, ⟨C, D, E, hK13, hC, hD, hE, r1_13, r2_13, r3_13⟩, hi_13, tp_13, fun q => absurd q (by omega)⟩
      · refine wr_if1f rfl rfl (by unfold i32; omega) h16 ?_
        refine wr_n (pc2 := 67) (lv2 := [(5, vi z14), (4, .ref (C + 6)), (2, vl z2), (0, .ref 96), (1, vi x)]) (st2 := [.ref 96]) 1 (fun _ _ => rfl) ?_
        refine wr_get (v := .ref 142) rfl rfl rfl (by decide) (rv_ref (hK13.1 96 5 142 rfl)) fun h22 => ?_
        show wr (d + 3) tb_M113 70 [(5, vi z14), (4, .ref (C + 6)), (2, vl z2), (0, .ref 96), (1, vi x)] [.ref 142] q13 _
        refine wr_n (pc2 := 74) (lv2 := [(5, vi z14), (4, .ref (C + 6)), (2, vl z2), (0, .ref 96), (1, vi x)]) (st2 := [vi z14, .ref (C + 6), .ref 142]) 2 (fun _ _ => rfl) ?_
        refine wr_call1 (args := [vi z14]) (rest := [.ref 142]) rfl rfl rfl (TK6 hC) (Nat.le_of_ble_eq_true rfl) (cr_mono (k_nnumber (d := d + 2) (C := C) hC (x := z14) q13 hK13 (by omega)) ?_)
        rintro s23 out ⟨z23, rfl, hz23, hp23, e23⟩
        refine ⟨_, rfl, ?_⟩
        rw [e23]
        unfold i32 at hz23
        clear hp23
        show wr (d + 3) tb_M113 77 [(5, vi z14), (4, .ref (C + 6)), (2, vl z2), (0, .ref 96), (1, vi x)] [vi z23, .ref 142] q13 _
        refine wr_call1 (args := [vi z23]) (rest := []) rfl rfl rfl rfl (Nat.le_of_ble_eq_true rfl) (cr_mono (k_variable (d := d + 2) (x := z23) q13 hK13 (by omega)) ?_)
        rintro s24 out ⟨z24, rfl, hz24, hp24, e24⟩
        refine ⟨_, rfl, ?_⟩
        rw [e24]
        unfold i32 at hz24
        clear hp24
        show wr (d + 3) tb_M113 80 [(5, vi z14), (4, .ref (C + 6)), (2, vl z2), (0, .ref 96), (1, vi x)] [vi z24] q13 _
        refine wr_i2l (a := z24) rfl (by unfold i32; omega) ?_
        show wr (d + 3) tb_M113 81 [(5, vi z14), (4, .ref (C + 6)), (2, vl z2), (0, .ref 96), (1, vi x)] [vl z24] q13 _
        refine wr_end (fun _ _ => rfl) ?_
        exact ⟨⟨_, rfl, rfl⟩, .inl ce_13, ⟨C, D, E, hK13, hC, hD, hE, r1_13, r2_13, r3_13⟩, hi_13, tp_13, fun q => absurd q (by omega)⟩
    · refine wr_if2f rfl rfl (by unfold i32; omega) (by unfold i32; omega) h10 ?_
      refine wr_n (pc2 := 37) (lv2 := [(2, vl z2), (0, .ref 96), (1, vi x)]) (st2 := [vl 1099511627776]) 1 (fun _ _ => rfl) ?_
      refine wr_end (fun _ _ => rfl) ?_
      obtain ⟨q25, hs25⟩ : ∃ qq9 : rS, qq9 = (up2 s.1 97 1 0, s.2) := ⟨_, rfl⟩
      rw [← hs25]
      have hK25 : KI q25.1 := by rw [hs25]; exact hK4
      have r1_25 : q25.1 96 1 = (C : Int) := by rw [hs25]; exact (show (up2 s.1 97 1 0) 96 1 = (C : Int) from ((if_neg (by omega)).trans r1))
      have r2_25 : q25.1 96 2 = (D : Int) := by rw [hs25]; exact (show (up2 s.1 97 1 0) 96 2 = (D : Int) from ((if_neg (by omega)).trans r2))
      have r3_25 : q25.1 142 0 = (E : Int) := by rw [hs25]; exact (show (up2 s.1 97 1 0) 142 0 = (E : Int) from ((if_neg (by omega)).trans r3))
      have tp_25 : q25.1 97 1 = 0 := by rw [hs25]; exact (show (up2 s.1 97 1 0) 97 1 = 0 from up_self)
      have hi_25 : HJ s.1 q25.1 := by rw [hs25]; exact (fun k j hk => (show (up2 s.1 97 1 0) k j = s.1 k j from ((if_neg (by omega)).trans ((fun _ _ _ => rfl : HJ s.1 s.1) k j hk))))
      have ce_25 : q25.2 = s.2 := by rw [hs25]
      clear hs25
      exact ⟨⟨_, rfl, rfl⟩, .inl ce_25, ⟨C, D, E, hK25, hC, hD, hE, r1_25, r2_25, r3_25⟩, hi_25, tp_25, fun q => absurd q (by omega)⟩
set_option maxHeartbeats 20000000 in
set_option maxRecDepth 100000 in
theorem z_begin {d C D E : Nat} (s : rS) (hXI : XI C D E s.1)   : cr (d + 3) 80 [.ref 96] s (XB s) := by
  obtain ⟨hK, hC, hD, hE, r1, r2, r3⟩ := hXI
  refine cr_of (M := tb_M80) rfl (Nat.le_of_ble_eq_true rfl) ?_
  show wr (d + 2) tb_M80 0 [(0, .ref 96)] [] s _
  refine wr_n (pc2 := 1) (lv2 := [(0, .ref 96)]) (st2 := [.ref 96]) 1 (fun _ _ => rfl) ?_
  refine wr_get (v := vi (s.1 96 3)) rfl rfl rfl (by decide) rfl fun h1 => ?_
  have h1 : 0 ≤ s.1 96 3 ∧ s.1 96 3 ≤ 1 := h1
  show wr (d + 2) tb_M80 4 [(0, .ref 96)] [vi (s.1 96 3)] s _
  by_cases h2 : s.1 96 3 ≠ 0
  · refine wr_if1t rfl rfl (by unfold i32; omega) h2 ?_
    refine wr_n (pc2 := 11) (lv2 := [(0, .ref 96)]) (st2 := [.ref 96]) 1 (fun _ _ => rfl) ?_
    refine wr_get (v := .ref 142) rfl rfl rfl (by decide) (rv_ref (hK.1 96 5 142 rfl)) fun h3 => ?_
    show wr (d + 2) tb_M80 14 [(0, .ref 96)] [.ref 142] s _
    refine wr_n (pc2 := 15) (lv2 := [(0, .ref 96)]) (st2 := [.ref 96, .ref 142]) 1 (fun _ _ => rfl) ?_
    refine wr_get (v := .ref C) rfl rfl rfl (by decide) (rv_ref (show (s.1) 96 1 = ((C : Nat) : Int) from r1)) fun h4 => ?_
    show wr (d + 2) tb_M80 18 [(0, .ref 96)] [.ref C, .ref 142] s _
    refine wr_call1 (args := [.ref C]) (rest := []) rfl rfl rfl rfl (Nat.le_of_ble_eq_true rfl) (cr_mono (k_restart (d := d + 0) (C := C) hC s hK) ?_)
    rintro s5 out ⟨hK5, hY5, hc5, rfl⟩
    refine ⟨_, rfl, ?_⟩
    have hC5 : s5.2 = s.2 := hc5.trans rfl
    have r1_5 : s5.1 96 1 = (C : Int) := (hY5 96 1 (by unfold fx; omega)).trans (show (up2 s.1 142 0 ((C : Int))) 96 1 = (C : Int) from ((if_neg (by omega)).trans r1))
    have r2_5 : s5.1 96 2 = (D : Int) := (hY5 96 2 (by unfold fx; omega)).trans (show (up2 s.1 142 0 ((C : Int))) 96 2 = (D : Int) from ((if_neg (by omega)).trans r2))
    have r3_5 : s5.1 142 0 = (C : Int) := (hY5 142 0 (by unfold fx; omega)).trans (show (up2 s.1 142 0 ((C : Int))) 142 0 = (C : Int) from up_self)
    have tp_5 : s5.1 97 1 = s.1 97 1 := (hY5 97 1 (by unfold fx; omega)).trans (show (up2 s.1 142 0 ((C : Int))) 97 1 = s.1 97 1 from ((if_neg (by omega)).trans rfl))
    have hi_5 : HJ s.1 s5.1 := fun k j hk => (hY5 k j (by unfold fx; omega)).trans (show (up2 s.1 142 0 ((C : Int))) k j = s.1 k j from ((if_neg (by omega)).trans ((fun _ _ _ => rfl : HJ s.1 s.1) k j hk)))
    have ce_5 : s5.2 = s.2 := hc5.trans rfl
    show wr (d + 2) tb_M80 21 [(0, .ref 96)] [] s5 _
    refine wr_n (pc2 := 22) (lv2 := [(0, .ref 96)]) (st2 := [vi 0]) 1 (fun _ _ => rfl) ?_
    refine wr_end (fun _ _ => rfl) ?_
    exact ⟨⟨⟨_, rfl, rfl⟩, .inl ce_5, ⟨C, D, C, hK5, hC, hD, hC, r1_5, r2_5, r3_5⟩, hi_5, tp_5, fun q => absurd q (by omega)⟩, by rw [if_neg (by omega)]⟩
  · refine wr_if1f rfl rfl (by unfold i32; omega) h2 ?_
    refine wr_n (pc2 := 9) (lv2 := [(0, .ref 96)]) (st2 := [vi ((-2))]) 1 (fun _ _ => rfl) ?_
    refine wr_end (fun _ _ => rfl) ?_
    exact ⟨⟨⟨_, rfl, rfl⟩, .inl rfl, ⟨C, D, E, hK, hC, hD, hE, r1, r2, r3⟩, (fun _ _ _ => rfl : HJ s.1 s.1), rfl, fun _ _ => rfl⟩, by rw [if_pos (by omega)]⟩
set_option maxHeartbeats 20000000 in
set_option maxRecDepth 100000 in
theorem z_run {d C D E : Nat} {x : Int} (s : rS) (hXI : XI C D E s.1) (hx : (-2147483648) ≤ x ∧ x ≤ 2147483647)  : cr (d + 8) 81 [.ref 96, vi x] s (XJ 1 (fun t => t = s.1 97 1) s) := by
  obtain ⟨hK, hC, hD, hE, r1, r2, r3⟩ := hXI
  refine cr_of (M := tb_M81) rfl (Nat.le_of_ble_eq_true rfl) ?_
  show wr (d + 7) tb_M81 0 [(0, .ref 96), (1, vi x)] [] s _
  refine wr_n (pc2 := 1) (lv2 := [(0, .ref 96), (1, vi x)]) (st2 := [.ref 96]) 1 (fun _ _ => rfl) ?_
  refine wr_get (v := vi (s.1 96 3)) rfl rfl rfl (by decide) rfl fun h1 => ?_
  have h1 : 0 ≤ s.1 96 3 ∧ s.1 96 3 ≤ 1 := h1
  show wr (d + 7) tb_M81 4 [(0, .ref 96), (1, vi x)] [vi (s.1 96 3)] s _
  by_cases h2 : s.1 96 3 ≠ 0
  · refine wr_if1t rfl rfl (by unfold i32; omega) h2 ?_
    refine wr_n (pc2 := 12) (lv2 := [(0, .ref 96), (1, vi x)]) (st2 := [vi 1, vi x]) 2 (fun _ _ => rfl) ?_
    by_cases h3 : x < 1
    · refine wr_if2t rfl rfl (by unfold i32; omega) (by unfold i32; omega) h3 ?_
      refine wr_n (pc2 := 34) (lv2 := [(0, .ref 96), (1, vi x)]) (st2 := [vi ((-1))]) 1 (fun _ _ => rfl) ?_
      refine wr_end (fun _ _ => rfl) ?_
      exact ⟨⟨_, rfl, rfl⟩, .inl rfl, ⟨C, D, E, hK, hC, hD, hE, r1, r2, r3⟩, (fun _ _ _ => rfl : HJ s.1 s.1), rfl, fun _ _ => rfl⟩
    · refine wr_if2f rfl rfl (by unfold i32; omega) (by unfold i32; omega) h3 ?_
      refine wr_n (pc2 := 19) (lv2 := [(0, .ref 96), (1, vi x)]) (st2 := [vi 20000, vi x]) 2 (fun _ _ => rfl) ?_
      by_cases h4 : 20000 < x
      · refine wr_if2t rfl rfl (by unfold i32; omega) (by unfold i32; omega) h4 ?_
        refine wr_n (pc2 := 34) (lv2 := [(0, .ref 96), (1, vi x)]) (st2 := [vi ((-1))]) 1 (fun _ _ => rfl) ?_
        refine wr_end (fun _ _ => rfl) ?_
        exact ⟨⟨_, rfl, rfl⟩, .inl rfl, ⟨C, D, E, hK, hC, hD, hE, r1, r2, r3⟩, (fun _ _ _ => rfl : HJ s.1 s.1), rfl, fun _ _ => rfl⟩
      · refine wr_if2f rfl rfl (by unfold i32; omega) (by unfold i32; omega) h4 ?_
        refine wr_n (pc2 := 23) (lv2 := [(0, .ref 96), (1, vi x)]) (st2 := [.ref 96]) 1 (fun _ _ => rfl) ?_
        refine wr_get (v := .ref 142) rfl rfl rfl (by decide) (rv_ref (hK.1 96 5 142 rfl)) fun h5 => ?_
        show wr (d + 7) tb_M81 26 [(0, .ref 96), (1, vi x)] [.ref 142] s _
        refine wr_get (v := vi (s.1 142 14)) rfl rfl rfl (by decide) rfl fun h6 => ?_
        have h6 : -2147483648 ≤ s.1 142 14 ∧ s.1 142 14 ≤ 2147483647 := h6
        show wr (d + 7) tb_M81 29 [(0, .ref 96), (1, vi x)] [vi (s.1 142 14)] s _
        refine wr_n (pc2 := 30) (lv2 := [(0, .ref 96), (1, vi x)]) (st2 := [vi 3, vi (s.1 142 14)]) 1 (fun _ _ => rfl) ?_
        by_cases h7 : s.1 142 14 ≠ 3
        · refine wr_if2t rfl rfl (by unfold i32; omega) (by unfold i32; omega) h7 ?_
          refine wr_n (pc2 := 36) (lv2 := [(0, .ref 96), (1, vi x)]) (st2 := [.ref 96]) 1 (fun _ _ => rfl) ?_
          refine wr_get (v := .ref 142) rfl rfl rfl (by decide) (rv_ref (hK.1 96 5 142 rfl)) fun h8 => ?_
          show wr (d + 7) tb_M81 39 [(0, .ref 96), (1, vi x)] [.ref 142] s _
          refine wr_n (pc2 := 40) (lv2 := [(0, .ref 96), (1, vi x)]) (st2 := [vi x, .ref 142]) 1 (fun _ _ => rfl) ?_
          refine wr_call1 (args := [vi x]) (rest := []) rfl rfl rfl rfl (Nat.le_of_ble_eq_true rfl) (cr_mono (k_goOn (d := d + 0) (C := E) hE (x := x) s hK r3 (by omega)) ?_)
          rintro s9 out ⟨hK9, hY9, hc9, rfl⟩
          refine ⟨_, rfl, ?_⟩
          have hC9 : s9.2 = s.2 := hc9.trans rfl
          have r1_9 : s9.1 96 1 = (C : Int) := (hY9 96 1 (by unfold fx; omega)).trans (show (s.1) 96 1 = (C : Int) from r1)
          have r2_9 : s9.1 96 2 = (D : Int) := (hY9 96 2 (by unfold fx; omega)).trans (show (s.1) 96 2 = (D : Int) from r2)
          have r3_9 : s9.1 142 0 = (E : Int) := (hY9 142 0 (by unfold fx; omega)).trans (show (s.1) 142 0 = (E : Int) from r3)
          have tp_9 : s9.1 97 1 = s.1 97 1 := (hY9 97 1 (by unfold fx; omega)).trans (show (s.1) 97 1 = s.1 97 1 from rfl)
          have hi_9 : HJ s.1 s9.1 := fun k j hk => (hY9 k j (by unfold fx; omega)).trans (show (s.1) k j = s.1 k j from ((fun _ _ _ => rfl : HJ s.1 s.1) k j hk))
          have ce_9 : s9.2 = s.2 := hc9.trans rfl
          show wr (d + 7) tb_M81 43 [(0, .ref 96), (1, vi x)] [] s9 _
          refine wr_n (pc2 := 44) (lv2 := [(0, .ref 96), (1, vi x)]) (st2 := [.ref 96]) 1 (fun _ _ => rfl) ?_
          refine wr_get (v := .ref 142) rfl rfl rfl (by decide) (rv_ref (hK9.1 96 5 142 rfl)) fun h10 => ?_
          show wr (d + 7) tb_M81 47 [(0, .ref 96), (1, vi x)] [.ref 142] s9 _
          refine wr_get (v := vi (s9.1 142 14)) rfl rfl rfl (by decide) rfl fun h11 => ?_
          have h11 : -2147483648 ≤ s9.1 142 14 ∧ s9.1 142 14 ≤ 2147483647 := h11
          show wr (d + 7) tb_M81 50 [(0, .ref 96), (1, vi x)] [vi (s9.1 142 14)] s9 _
          refine wr_reti rfl rfl ?_
          exact ⟨⟨_, rfl, rfl⟩, .inl ce_9, ⟨C, D, E, hK9, hC, hD, hE, r1_9, r2_9, r3_9⟩, hi_9, tp_9, fun q => absurd q (by omega)⟩
        · refine wr_if2f rfl rfl (by unfold i32; omega) (by unfold i32; omega) h7 ?_
          refine wr_n (pc2 := 34) (lv2 := [(0, .ref 96), (1, vi x)]) (st2 := [vi ((-1))]) 1 (fun _ _ => rfl) ?_
          refine wr_end (fun _ _ => rfl) ?_
          exact ⟨⟨_, rfl, rfl⟩, .inl rfl, ⟨C, D, E, hK, hC, hD, hE, r1, r2, r3⟩, (fun _ _ _ => rfl : HJ s.1 s.1), rfl, fun _ _ => rfl⟩
  · refine wr_if1f rfl rfl (by unfold i32; omega) h2 ?_
    refine wr_n (pc2 := 9) (lv2 := [(0, .ref 96), (1, vi x)]) (st2 := [vi ((-2))]) 1 (fun _ _ => rfl) ?_
    refine wr_end (fun _ _ => rfl) ?_
    exact ⟨⟨_, rfl, rfl⟩, .inl rfl, ⟨C, D, E, hK, hC, hD, hE, r1, r2, r3⟩, (fun _ _ _ => rfl : HJ s.1 s.1), rfl, fun _ _ => rfl⟩
set_option maxHeartbeats 20000000 in
set_option maxRecDepth 100000 in
theorem z_end {d C D E : Nat} {x : Int} (s : rS) (hXI : XI C D E s.1) (hx : (-2147483648) ≤ x ∧ x ≤ 2147483647)  : cr (d + 1) 18 [.ref 96, vi x] s (XW (fun z r => z = x ∧ 0 ≤ x ∧ x ≤ s.1 97 1 ∧ r 97 1 = x ∨ z = -1 ∧ ¬ (0 ≤ x ∧ x ≤ s.1 97 1) ∧ r 97 1 = s.1 97 1) s) := by
  obtain ⟨hK, hC, hD, hE, r1, r2, r3⟩ := hXI
  refine cr_of (M := tb_M18) rfl (Nat.le_of_ble_eq_true rfl) ?_
  show wr (d) tb_M18 0 [(0, .ref 96), (1, vi x)] [] s _
  refine wr_n (pc2 := 1) (lv2 := [(0, .ref 96), (1, vi x)]) (st2 := [vi x]) 1 (fun _ _ => rfl) ?_
  by_cases h1 : x < 0
  · refine wr_if1t rfl rfl (by unfold i32; omega) h1 ?_
    refine wr_n (pc2 := 16) (lv2 := [(0, .ref 96), (1, vi x)]) (st2 := [vi ((-1))]) 1 (fun _ _ => rfl) ?_
    refine wr_end (fun _ _ => rfl) ?_
    exact ⟨⟨(-1), rfl, (by have h9 : s.1 97 1 = s.1 97 1 := rfl; show (-1) = x ∧ 0 ≤ x ∧ x ≤ s.1 97 1 ∧ s.1 97 1 = x ∨ (-1) = -1 ∧ ¬ (0 ≤ x ∧ x ≤ s.1 97 1) ∧ s.1 97 1 = s.1 97 1; omega)⟩, rfl, ⟨C, D, E, hK, hC, hD, hE, r1, r2, r3⟩, (fun _ _ _ => rfl : HJ s.1 s.1), fun _ => rfl⟩
  · refine wr_if1f rfl rfl (by unfold i32; omega) h1 ?_
    refine wr_n (pc2 := 6) (lv2 := [(0, .ref 96), (1, vi x)]) (st2 := [.ref 96, vi x]) 2 (fun _ _ => rfl) ?_
    refine wr_get (v := .ref 97) rfl rfl rfl (by decide) (rv_ref (hK.1 96 0 97 rfl)) fun h2 => ?_
    show wr d tb_M18 9 [(0, .ref 96), (1, vi x)] [.ref 97, vi x] s _
    refine wr_get (v := vi (s.1 97 1)) rfl rfl rfl (by decide) rfl fun h3 => ?_
    have h3 : -2147483648 ≤ s.1 97 1 ∧ s.1 97 1 ≤ 2147483647 := h3
    show wr d tb_M18 12 [(0, .ref 96), (1, vi x)] [vi (s.1 97 1), vi x] s _
    have hb4 : 0 ≤ s.1 97 1 ∧ s.1 97 1 ≤ 2000 := kb_to rfl (hK.2 97 1)
    by_cases h5 : x ≤ s.1 97 1
    · refine wr_if2t rfl rfl (by unfold i32; omega) (by unfold i32; omega) h5 ?_
      refine wr_n (pc2 := 18) (lv2 := [(0, .ref 96), (1, vi x)]) (st2 := [.ref 96]) 1 (fun _ _ => rfl) ?_
      refine wr_get (v := .ref 97) rfl rfl rfl (by decide) (rv_ref (hK.1 96 0 97 rfl)) fun h6 => ?_
      show wr d tb_M18 21 [(0, .ref 96), (1, vi x)] [.ref 97] s _
      refine wr_n (pc2 := 22) (lv2 := [(0, .ref 96), (1, vi x)]) (st2 := [vi x, .ref 97]) 1 (fun _ _ => rfl) ?_
      refine wr_put (z := x) rfl rfl rfl rfl (by decide) rfl (by decide) rfl (show -2147483648 ≤ x ∧ x ≤ 2147483647 by omega) (hf_int' _) ?_
      show wr d tb_M18 25 [(0, .ref 96), (1, vi x)] [] (up2 s.1 97 1 x, s.2) _
      have hK7 : KI (up2 s.1 97 1 x) := (KI_up hK rfl (kb_of rfl (show 0 ≤ x ∧ x ≤ 2000 by omega)))
      refine wr_n (pc2 := 26) (lv2 := [(0, .ref 96), (1, vi x)]) (st2 := [vi x]) 1 (fun _ _ => rfl) ?_
      refine wr_reti rfl rfl ?_
      obtain ⟨q8, hs8⟩ : ∃ qq9 : rS, qq9 = (up2 s.1 97 1 x, s.2) := ⟨_, rfl⟩
      rw [← hs8]
      have hK8 : KI q8.1 := by rw [hs8]; exact hK7
      have r1_8 : q8.1 96 1 = (C : Int) := by rw [hs8]; exact (show (up2 s.1 97 1 x) 96 1 = (C : Int) from ((if_neg (by omega)).trans r1))
      have r2_8 : q8.1 96 2 = (D : Int) := by rw [hs8]; exact (show (up2 s.1 97 1 x) 96 2 = (D : Int) from ((if_neg (by omega)).trans r2))
      have r3_8 : q8.1 142 0 = (E : Int) := by rw [hs8]; exact (show (up2 s.1 97 1 x) 142 0 = (E : Int) from ((if_neg (by omega)).trans r3))
      have tp_8 : q8.1 97 1 = x := by rw [hs8]; exact (show (up2 s.1 97 1 x) 97 1 = x from up_self)
      have hi_8 : HJ s.1 q8.1 := by rw [hs8]; exact (fun k j hk => (show (up2 s.1 97 1 x) k j = s.1 k j from ((if_neg (by omega)).trans ((fun _ _ _ => rfl : HJ s.1 s.1) k j hk))))
      have ce_8 : q8.2 = s.2 := by rw [hs8]
      have k4_8 : ∀ j, q8.1 140 j = s.1 140 j := fun j => by subst hs8; rfl
      clear hs8
      exact ⟨⟨x, rfl, (by have h9 : q8.1 97 1 = x := tp_8; show x = x ∧ 0 ≤ x ∧ x ≤ s.1 97 1 ∧ q8.1 97 1 = x ∨ x = -1 ∧ ¬ (0 ≤ x ∧ x ≤ s.1 97 1) ∧ q8.1 97 1 = s.1 97 1; omega)⟩, ce_8, ⟨C, D, E, hK8, hC, hD, hE, r1_8, r2_8, r3_8⟩, hi_8, k4_8⟩
    · refine wr_if2f rfl rfl (by unfold i32; omega) (by unfold i32; omega) h5 ?_
      refine wr_n (pc2 := 16) (lv2 := [(0, .ref 96), (1, vi x)]) (st2 := [vi ((-1))]) 1 (fun _ _ => rfl) ?_
      refine wr_end (fun _ _ => rfl) ?_
      exact ⟨⟨(-1), rfl, (by have h9 : s.1 97 1 = s.1 97 1 := rfl; show (-1) = x ∧ 0 ≤ x ∧ x ≤ s.1 97 1 ∧ s.1 97 1 = x ∨ (-1) = -1 ∧ ¬ (0 ≤ x ∧ x ≤ s.1 97 1) ∧ s.1 97 1 = s.1 97 1; omega)⟩, rfl, ⟨C, D, E, hK, hC, hD, hE, r1, r2, r3⟩, (fun _ _ _ => rfl : HJ s.1 s.1), fun _ => rfl⟩
theorem rP_int {g : hm_G} {r r2 : tab} {k j n : Nat} {t : rK} (h : rP g r) (h2 : rP g r2) (ht : tb_TG k = some (t, n)) (hj : j < n) (hty : rty tb_ty t j = .int) : r k j = r2 k j := by
  have a1 := Rp_sl h ht hj
  have a2 := Rp_sl h2 ht hj
  have b1 := Rp_rg h ht hj
  have b2 := Rp_rg h2 ht hj
  have hk : rkd tb_ty t j = 0 := by
    cases t with
    | inl ty =>
      have hty : ty = .int := hty
      subst hty
      rfl
    | inr ci =>
      have hty : tb_ty ci j = .int := hty
      show rk1 (tb_ty ci j) = 0
      rw [hty]
      rfl
  rw [hty] at b1 b2
  rw [hk] at a1 a2
  rw [a1] at a2
  have e : vi (r k j) = vi (r2 k j) := Option.some.inj a2
  have e : Int32.ofInt (r k j) = Int32.ofInt (r2 k j) := by
    injection e
  have e2 := congrArg Int32.toInt e
  have b1 : -2147483648 ≤ r k j ∧ r k j ≤ 2147483647 := b1
  have b2 : -2147483648 ≤ r2 k j ∧ r2 k j ≤ 2147483647 := b2
  rw [i32_to b1.1 b1.2, i32_to b2.1 b2.2] at e2
  exact e2
/-- behind compile: what Q2 says of the program's end -/
def XC (Q2 : rS → hm_Out → Prop) (s : rS) : rS → hm_Out → Prop := fun s2 out => XP 1 (fun t => t = 0) s s2 out ∧ ((s2.1 96 3 = 1 ∧ ∃ s9, Q2 s9 (some none) ∧ s9.1 131 3 = -2) ∨ (s2.1 96 3 = s.1 96 3 ∧ ∃ s9 o9, Q2 s9 o9 ∧ (∀ j, j < 2001 → s2.1 140 j = s9.1 140 j) ∧ (o9 = some none ∧ s9.1 131 3 ≠ -2 ∨ o9 = none ∧ s9.1 131 2 ≠ -2)) ∨ (s2.1 96 3 = 1 ∧ ∃ s9, Q2 s9 none ∧ s9.1 131 2 = -2))
set_option maxHeartbeats 20000000 in
set_option maxRecDepth 100000 in
theorem z_compile {d C D E : Nat} (s : rS) (hXI : XI C D E s.1) {Q2 : rS → hm_Out → Prop} (hX : ∀ K, pcr K (d + 245) 20 [.ref 131, .ref D] s Q2)   : cr (d + 246) 19 [.ref 96] s (XC Q2 s) := by
  obtain ⟨hK, hC, hD, hE, r1, r2, r3⟩ := hXI
  refine cr_of (M := tb_M19) rfl (Nat.le_of_ble_eq_true rfl) ?_
  show wr (d + 245) tb_M19 0 [(0, .ref 96)] [] s _
  refine wr_n (pc2 := 4) (lv2 := [(1, vi ((-2))), (0, .ref 96)]) (st2 := [.ref 96]) 3 (fun _ _ => rfl) ?_
  refine wr_get (v := .ref 131) rfl rfl rfl (by decide) (rv_ref (hK.1 96 4 131 rfl)) fun h1 => ?_
  show wr (d + 245) tb_M19 7 [(1, vi ((-2))), (0, .ref 96)] [.ref 131] s _
  refine wr_n (pc2 := 8) (lv2 := [(1, vi ((-2))), (0, .ref 96)]) (st2 := [.ref 96, .ref 131]) 1 (fun _ _ => rfl) ?_
  refine wr_get (v := .ref D) rfl rfl rfl (by decide) (rv_ref (show (s.1) 96 2 = ((D : Nat) : Int) from r2)) fun h2 => ?_
  show wr (d + 245) tb_M19 11 [(1, vi ((-2))), (0, .ref 96)] [.ref D, .ref 131] s _
  refine wr_call1H (args := [.ref D]) (rest := []) rfl rfl rfl rfl (Nat.le_of_ble_eq_true rfl) rfl (by decide) (cr_mono (cr_pcr (k_program (d := d) (C := D) hD s hK) hX) ?_)
  rintro s3 out ⟨⟨hK3, hY3, ⟨hc3, rfl⟩ | ⟨rfl, hc3⟩⟩, s9, _, hq, gg, hg2, hg9⟩
  · refine .inl ⟨_, rfl, ?_⟩
    have f3 : s3.1 131 3 = s9.1 131 3 := rP_int hg2 hg9 (k := 131) (j := 3) rfl (by decide) rfl
    have f2 : s3.1 131 2 = s9.1 131 2 := rP_int hg2 hg9 (k := 131) (j := 2) rfl (by decide) rfl
    have f4 : ∀ j, j < 2001 → s3.1 140 j = s9.1 140 j := fun j hj => rP_int hg2 hg9 (k := 140) (j := j) rfl hj rfl
    have m3 : s3.1 96 3 = s.1 96 3 := (hY3 96 3 (by unfold fx; omega)).trans (show (up2 s.1 131 1 ((D : Int))) 96 3 = s.1 96 3 from (if_neg (by omega)))
    have hC3 : s3.2 = s.2 := hc3.trans rfl
    have r1_3 : s3.1 96 1 = (C : Int) := (hY3 96 1 (by unfold fx; omega)).trans (show (up2 s.1 131 1 ((D : Int))) 96 1 = (C : Int) from ((if_neg (by omega)).trans r1))
    have r2_3 : s3.1 96 2 = (D : Int) := (hY3 96 2 (by unfold fx; omega)).trans (show (up2 s.1 131 1 ((D : Int))) 96 2 = (D : Int) from ((if_neg (by omega)).trans r2))
    have r3_3 : s3.1 142 0 = (E : Int) := (hY3 142 0 (by unfold fx; omega)).trans (show (up2 s.1 131 1 ((D : Int))) 142 0 = (E : Int) from ((if_neg (by omega)).trans r3))
    have tp_3 : s3.1 97 1 = s.1 97 1 := (hY3 97 1 (by unfold fx; omega)).trans (show (up2 s.1 131 1 ((D : Int))) 97 1 = s.1 97 1 from ((if_neg (by omega)).trans rfl))
    have hi_3 : HI s.1 s3.1 := fun k j hk => (hY3 k j (by unfold fx; omega)).trans (show (up2 s.1 131 1 ((D : Int))) k j = s.1 k j from ((if_neg (by omega)).trans ((fun _ _ _ => rfl : HI s.1 s.1) k j hk)))
    have ce_3 : s3.2 = s.2 := hc3.trans rfl
    show wr (d + 245) tb_M19 14 [(1, vi ((-2))), (0, .ref 96)] [] s3 _
    refine wr_n (pc2 := 15) (lv2 := [(1, vi ((-2))), (0, .ref 96)]) (st2 := [.ref 96]) 1 (fun _ _ => rfl) ?_
    refine wr_get (v := .ref 131) rfl rfl rfl (by decide) (rv_ref (hK3.1 96 4 131 rfl)) fun h4 => ?_
    show wr (d + 245) tb_M19 18 [(1, vi ((-2))), (0, .ref 96)] [.ref 131] s3 _
    refine wr_get (v := vi (s3.1 131 3)) rfl rfl rfl (by decide) rfl fun h5 => ?_
    have h5 : -2147483648 ≤ s3.1 131 3 ∧ s3.1 131 3 ≤ 2147483647 := h5
    show wr (d + 245) tb_M19 21 [(1, vi ((-2))), (0, .ref 96)] [vi (s3.1 131 3)] s3 _
    refine wr_n (pc2 := 35) (lv2 := [(1, vi (s3.1 131 3)), (0, .ref 96)]) (st2 := [.ref 96]) 3 (fun _ _ => rfl) ?_
    refine wr_get (v := .ref 97) rfl rfl rfl (by decide) (rv_ref (hK3.1 96 0 97 rfl)) fun h6 => ?_
    show wr (d + 245) tb_M19 38 [(1, vi (s3.1 131 3)), (0, .ref 96)] [.ref 97] s3 _
    refine wr_n (pc2 := 39) (lv2 := [(1, vi (s3.1 131 3)), (0, .ref 96)]) (st2 := [vi 0, .ref 97]) 1 (fun _ _ => rfl) ?_
    refine wr_put (z := 0) rfl rfl rfl rfl (by decide) rfl (by decide) rfl (show -2147483648 ≤ 0 ∧ 0 ≤ 2147483647 by omega) (hf_int' _) ?_
    show wr (d + 245) tb_M19 42 [(1, vi (s3.1 131 3)), (0, .ref 96)] [] (up2 s3.1 97 1 0, s3.2) _
    have hK7 : KI (up2 s3.1 97 1 0) := (KI_up hK3 rfl (kb_of rfl (show 0 ≤ 0 ∧ 0 ≤ 2000 by omega)))
    refine wr_n (pc2 := 45) (lv2 := [(1, vi (s3.1 131 3)), (0, .ref 96)]) (st2 := [vi ((-2)), vi (s3.1 131 3)]) 2 (fun _ _ => rfl) ?_
    by_cases h8 : s3.1 131 3 ≠ (-2)
    · refine wr_if2t rfl rfl (by unfold i32; omega) (by unfold i32; omega) h8 ?_
      refine wr_n (pc2 := 83) (lv2 := [(1, vi (s3.1 131 3)), (0, .ref 96)]) (st2 := [vi (s3.1 131 3)]) 1 (fun _ _ => rfl) ?_
      refine wr_reti rfl rfl ?_
      obtain ⟨q9, hs9⟩ : ∃ qq9 : rS, qq9 = (up2 s3.1 97 1 0, s3.2) := ⟨_, rfl⟩
      rw [← hs9]
      have hK9 : KI q9.1 := by rw [hs9]; exact hK7
      have r1_9 : q9.1 96 1 = (C : Int) := by rw [hs9]; exact (show (up2 s3.1 97 1 0) 96 1 = (C : Int) from ((if_neg (by omega)).trans r1_3))
      have r2_9 : q9.1 96 2 = (D : Int) := by rw [hs9]; exact (show (up2 s3.1 97 1 0) 96 2 = (D : Int) from ((if_neg (by omega)).trans r2_3))
      have r3_9 : q9.1 142 0 = (E : Int) := by rw [hs9]; exact (show (up2 s3.1 97 1 0) 142 0 = (E : Int) from ((if_neg (by omega)).trans r3_3))
      have tp_9 : q9.1 97 1 = 0 := by rw [hs9]; exact (show (up2 s3.1 97 1 0) 97 1 = 0 from up_self)
      have hi_9 : HI s.1 q9.1 := by rw [hs9]; exact (fun k j hk => (show (up2 s3.1 97 1 0) k j = s.1 k j from ((if_neg (by omega)).trans (hi_3 k j hk))))
      have ce_9 : q9.2 = s.2 := by rw [hs9]; exact ce_3
      have m_9 : q9.1 96 3 = s.1 96 3 := by rw [hs9]; exact (show (up2 s3.1 97 1 0) 96 3 = s.1 96 3 from (if_neg (by omega)).trans m3)
      have k_9 : ∀ j, j < 2001 → q9.1 140 j = s9.1 140 j := fun j hj => by rw [hs9]; exact (show (up2 s3.1 97 1 0) 140 j = s9.1 140 j from (if_neg (by omega)).trans (f4 j hj))
      clear hs9
      exact ⟨⟨⟨_, rfl, rfl⟩, .inl ce_9, ⟨C, D, E, hK9, hC, hD, hE, r1_9, r2_9, r3_9⟩, hi_9, tp_9⟩, .inr (.inl ⟨m_9, s9, _, hq, k_9, .inl ⟨rfl, by omega⟩⟩)⟩
    · refine wr_if2f rfl rfl (by unfold i32; omega) (by unfold i32; omega) h8 ?_
      refine wr_n (pc2 := 49) (lv2 := [(1, vi (s3.1 131 3)), (0, .ref 96)]) (st2 := [.ref 96]) 1 (fun _ _ => rfl) ?_
      refine wr_get (v := .ref C) rfl rfl rfl (by decide) (rv_ref (show (up2 s3.1 97 1 0) 96 1 = ((C : Nat) : Int) from ((if_neg (by omega)).trans r1_3))) fun h10 => ?_
      show wr (d + 245) tb_M19 52 [(1, vi (s3.1 131 3)), (0, .ref 96)] [.ref C] (up2 s3.1 97 1 0, s3.2) _
      refine wr_n (pc2 := 55) (lv2 := [(2, .ref C), (1, vi (s3.1 131 3)), (0, .ref 96)]) (st2 := [.ref 96, .ref 96]) 3 (fun _ _ => rfl) ?_
      refine wr_get (v := .ref D) rfl rfl rfl (by decide) (rv_ref (show (up2 s3.1 97 1 0) 96 2 = ((D : Nat) : Int) from ((if_neg (by omega)).trans r2_3))) fun h11 => ?_
      show wr (d + 245) tb_M19 58 [(2, .ref C), (1, vi (s3.1 131 3)), (0, .ref 96)] [.ref D, .ref 96] (up2 s3.1 97 1 0, s3.2) _
      refine wr_put (z := (D : Int)) rfl rfl rfl rfl (by decide) rfl (by decide) (rv_ref rfl) (show -1 ≤ (D : Int) by omega) (hf_ref _ _) ?_
      show wr (d + 245) tb_M19 61 [(2, .ref C), (1, vi (s3.1 131 3)), (0, .ref 96)] [] (up2 (up2 s3.1 97 1 0) 96 1 ((D : Int)), s3.2) _
      have hK12 : KI (up2 (up2 s3.1 97 1 0) 96 1 ((D : Int))) := (KI_up (KI_up hK3 rfl (kb_of rfl (show 0 ≤ 0 ∧ 0 ≤ 2000 by omega))) rfl (kb_no rfl))
      refine wr_n (pc2 := 63) (lv2 := [(2, .ref C), (1, vi (s3.1 131 3)), (0, .ref 96)]) (st2 := [.ref C, .ref 96]) 2 (fun _ _ => rfl) ?_
      refine wr_put (z := (C : Int)) rfl rfl rfl rfl (by decide) rfl (by decide) (rv_ref rfl) (show -1 ≤ (C : Int) by omega) (hf_ref _ _) ?_
      show wr (d + 245) tb_M19 66 [(2, .ref C), (1, vi (s3.1 131 3)), (0, .ref 96)] [] (up2 (up2 (up2 s3.1 97 1 0) 96 1 ((D : Int))) 96 2 ((C : Int)), s3.2) _
      have hK13 : KI (up2 (up2 (up2 s3.1 97 1 0) 96 1 ((D : Int))) 96 2 ((C : Int))) := (KI_up (KI_up (KI_up hK3 rfl (kb_of rfl (show 0 ≤ 0 ∧ 0 ≤ 2000 by omega))) rfl (kb_no rfl)) rfl (kb_no rfl))
      refine wr_n (pc2 := 68) (lv2 := [(2, .ref C), (1, vi (s3.1 131 3)), (0, .ref 96)]) (st2 := [vi 1, .ref 96]) 2 (fun _ _ => rfl) ?_
      refine wr_put (z := 1) rfl rfl rfl rfl (by decide) rfl (by decide) rfl (show 0 ≤ 1 ∧ 1 ≤ 1 by omega) (fit_i (.inr (.inl rfl)) (show 0 ≤ 1 ∧ 1 ≤ 1 by omega)) ?_
      show wr (d + 245) tb_M19 71 [(2, .ref C), (1, vi (s3.1 131 3)), (0, .ref 96)] [] (up2 (up2 (up2 (up2 s3.1 97 1 0) 96 1 ((D : Int))) 96 2 ((C : Int))) 96 3 1, s3.2) _
      have hK14 : KI (up2 (up2 (up2 (up2 s3.1 97 1 0) 96 1 ((D : Int))) 96 2 ((C : Int))) 96 3 1) := (KI_up (KI_up (KI_up (KI_up hK3 rfl (kb_of rfl (show 0 ≤ 0 ∧ 0 ≤ 2000 by omega))) rfl (kb_no rfl)) rfl (kb_no rfl)) rfl (kb_no rfl))
      refine wr_n (pc2 := 72) (lv2 := [(2, .ref C), (1, vi (s3.1 131 3)), (0, .ref 96)]) (st2 := [.ref 96]) 1 (fun _ _ => rfl) ?_
      refine wr_get (v := .ref 142) rfl rfl rfl (by decide) (rv_ref (hK14.1 96 5 142 rfl)) fun h15 => ?_
      show wr (d + 245) tb_M19 75 [(2, .ref C), (1, vi (s3.1 131 3)), (0, .ref 96)] [.ref 142] (up2 (up2 (up2 (up2 s3.1 97 1 0) 96 1 ((D : Int))) 96 2 ((C : Int))) 96 3 1, s3.2) _
      refine wr_n (pc2 := 76) (lv2 := [(2, .ref C), (1, vi (s3.1 131 3)), (0, .ref 96)]) (st2 := [.ref 96, .ref 142]) 1 (fun _ _ => rfl) ?_
      refine wr_get (v := .ref D) rfl rfl rfl (by decide) (rv_ref (show (up2 (up2 (up2 (up2 s3.1 97 1 0) 96 1 ((D : Int))) 96 2 ((C : Int))) 96 3 1) 96 1 = ((D : Nat) : Int) from ((if_neg (by omega)).trans ((if_neg (by omega)).trans up_self)))) fun h16 => ?_
      show wr (d + 245) tb_M19 79 [(2, .ref C), (1, vi (s3.1 131 3)), (0, .ref 96)] [.ref D, .ref 142] (up2 (up2 (up2 (up2 s3.1 97 1 0) 96 1 ((D : Int))) 96 2 ((C : Int))) 96 3 1, s3.2) _
      obtain ⟨q17, hs17⟩ : ∃ qq9 : rS, qq9 = (up2 (up2 (up2 (up2 s3.1 97 1 0) 96 1 ((D : Int))) 96 2 ((C : Int))) 96 3 1, s3.2) := ⟨_, rfl⟩
      rw [← hs17]
      have hK17 : KI q17.1 := by rw [hs17]; exact hK14
      have r1_17 : q17.1 96 1 = (D : Int) := by rw [hs17]; exact (show (up2 (up2 (up2 (up2 s3.1 97 1 0) 96 1 ((D : Int))) 96 2 ((C : Int))) 96 3 1) 96 1 = (D : Int) from ((if_neg (by omega)).trans ((if_neg (by omega)).trans up_self)))
      have r2_17 : q17.1 96 2 = (C : Int) := by rw [hs17]; exact (show (up2 (up2 (up2 (up2 s3.1 97 1 0) 96 1 ((D : Int))) 96 2 ((C : Int))) 96 3 1) 96 2 = (C : Int) from ((if_neg (by omega)).trans up_self))
      have r3_17 : q17.1 142 0 = (E : Int) := by rw [hs17]; exact (show (up2 (up2 (up2 (up2 s3.1 97 1 0) 96 1 ((D : Int))) 96 2 ((C : Int))) 96 3 1) 142 0 = (E : Int) from ((if_neg (by omega)).trans ((if_neg (by omega)).trans ((if_neg (by omega)).trans ((if_neg (by omega)).trans r3_3)))))
      have tp_17 : q17.1 97 1 = 0 := by rw [hs17]; exact (show (up2 (up2 (up2 (up2 s3.1 97 1 0) 96 1 ((D : Int))) 96 2 ((C : Int))) 96 3 1) 97 1 = 0 from ((if_neg (by omega)).trans ((if_neg (by omega)).trans ((if_neg (by omega)).trans up_self))))
      have hi_17 : HI s.1 q17.1 := by rw [hs17]; exact (fun k j hk => (show (up2 (up2 (up2 (up2 s3.1 97 1 0) 96 1 ((D : Int))) 96 2 ((C : Int))) 96 3 1) k j = s.1 k j from ((if_neg (by omega)).trans ((if_neg (by omega)).trans ((if_neg (by omega)).trans ((if_neg (by omega)).trans (hi_3 k j hk)))))))
      have ce_17 : q17.2 = s.2 := by rw [hs17]; exact ce_3
      have m_17 : q17.1 96 3 = 1 := by rw [hs17]; exact (show (up2 (up2 (up2 (up2 s3.1 97 1 0) 96 1 ((D : Int))) 96 2 ((C : Int))) 96 3 1) 96 3 = 1 from up_self)
      clear hs17
      refine wr_call1 (args := [.ref D]) (rest := []) rfl rfl rfl rfl (Nat.le_of_ble_eq_true rfl) (cr_mono (k_restart (d := d + 243) (C := D) hD q17 hK17) ?_)
      rintro s18 out ⟨hK18, hY18, hc18, rfl⟩
      refine ⟨_, rfl, ?_⟩
      have hC18 : s18.2 = q17.2 := hc18.trans rfl
      have r1_18 : s18.1 96 1 = (D : Int) := (hY18 96 1 (by unfold fx; omega)).trans (show (up2 q17.1 142 0 ((D : Int))) 96 1 = (D : Int) from ((if_neg (by omega)).trans r1_17))
      have r2_18 : s18.1 96 2 = (C : Int) := (hY18 96 2 (by unfold fx; omega)).trans (show (up2 q17.1 142 0 ((D : Int))) 96 2 = (C : Int) from ((if_neg (by omega)).trans r2_17))
      have r3_18 : s18.1 142 0 = (D : Int) := (hY18 142 0 (by unfold fx; omega)).trans (show (up2 q17.1 142 0 ((D : Int))) 142 0 = (D : Int) from up_self)
      have tp_18 : s18.1 97 1 = 0 := (hY18 97 1 (by unfold fx; omega)).trans (show (up2 q17.1 142 0 ((D : Int))) 97 1 = 0 from ((if_neg (by omega)).trans tp_17))
      have hi_18 : HI s.1 s18.1 := fun k j hk => (hY18 k j (by unfold fx; omega)).trans (show (up2 q17.1 142 0 ((D : Int))) k j = s.1 k j from ((if_neg (by omega)).trans (hi_17 k j hk)))
      have ce_18 : s18.2 = s.2 := hc18.trans ce_17
      show wr (d + 245) tb_M19 82 [(2, .ref C), (1, vi (s3.1 131 3)), (0, .ref 96)] [] s18 _
      refine wr_n (pc2 := 83) (lv2 := [(2, .ref C), (1, vi (s3.1 131 3)), (0, .ref 96)]) (st2 := [vi (s3.1 131 3)]) 1 (fun _ _ => rfl) ?_
      refine wr_reti rfl rfl ?_
      exact ⟨⟨⟨_, rfl, rfl⟩, .inl ce_18, ⟨D, C, D, hK18, hD, hC, hD, r1_18, r2_18, r3_18⟩, hi_18, tp_18⟩, .inl ⟨(hY18 96 3 (by unfold fx; omega)).trans (show (up2 q17.1 142 0 ((D : Int))) 96 3 = 1 from (if_neg (by omega)).trans m_17), s9, hq, by omega⟩⟩
  · refine .inr ⟨rfl, ?_⟩
    have f3 : s3.1 131 3 = s9.1 131 3 := rP_int hg2 hg9 (k := 131) (j := 3) rfl (by decide) rfl
    have f2 : s3.1 131 2 = s9.1 131 2 := rP_int hg2 hg9 (k := 131) (j := 2) rfl (by decide) rfl
    have f4 : ∀ j, j < 2001 → s3.1 140 j = s9.1 140 j := fun j hj => rP_int hg2 hg9 (k := 140) (j := j) rfl hj rfl
    have m3 : s3.1 96 3 = s.1 96 3 := (hY3 96 3 (by unfold fx; omega)).trans (show (up2 s.1 131 1 ((D : Int))) 96 3 = s.1 96 3 from (if_neg (by omega)))
    have r1_3 : s3.1 96 1 = (C : Int) := (hY3 96 1 (by unfold fx; omega)).trans (show (up2 s.1 131 1 ((D : Int))) 96 1 = (C : Int) from ((if_neg (by omega)).trans r1))
    have r2_3 : s3.1 96 2 = (D : Int) := (hY3 96 2 (by unfold fx; omega)).trans (show (up2 s.1 131 1 ((D : Int))) 96 2 = (D : Int) from ((if_neg (by omega)).trans r2))
    have r3_3 : s3.1 142 0 = (E : Int) := (hY3 142 0 (by unfold fx; omega)).trans (show (up2 s.1 131 1 ((D : Int))) 142 0 = (E : Int) from ((if_neg (by omega)).trans r3))
    have tp_3 : s3.1 97 1 = s.1 97 1 := (hY3 97 1 (by unfold fx; omega)).trans (show (up2 s.1 131 1 ((D : Int))) 97 1 = s.1 97 1 from ((if_neg (by omega)).trans rfl))
    have hi_3 : HI s.1 s3.1 := fun k j hk => (hY3 k j (by unfold fx; omega)).trans (show (up2 s.1 131 1 ((D : Int))) k j = s.1 k j from ((if_neg (by omega)).trans ((fun _ _ _ => rfl : HI s.1 s.1) k j hk)))
    have ce_3 : s3.2 = (s.2.1 + 1, s.2.2 + 6) := TH rfl hc3
    show wr (d + 245) tb_M19 25 [(1, vi ((-2))), (0, .ref 96)] [.retAddr 0] s3 _
    refine wr_n (pc2 := 27) (lv2 := [(2, .retAddr 0), (1, vi ((-2))), (0, .ref 96)]) (st2 := [.ref 96]) 2 (fun _ _ => rfl) ?_
    refine wr_get (v := .ref 131) rfl rfl rfl (by decide) (rv_ref (hK3.1 96 4 131 rfl)) fun h19 => ?_
    show wr (d + 245) tb_M19 30 [(2, .retAddr 0), (1, vi ((-2))), (0, .ref 96)] [.ref 131] s3 _
    refine wr_get (v := vi (s3.1 131 2)) rfl rfl rfl (by decide) rfl fun h20 => ?_
    have h20 : -2147483648 ≤ s3.1 131 2 ∧ s3.1 131 2 ≤ 2147483647 := h20
    show wr (d + 245) tb_M19 33 [(2, .retAddr 0), (1, vi ((-2))), (0, .ref 96)] [vi (s3.1 131 2)] s3 _
    refine wr_n (pc2 := 35) (lv2 := [(1, vi (s3.1 131 2)), (2, .retAddr 0), (0, .ref 96)]) (st2 := [.ref 96]) 2 (fun _ _ => rfl) ?_
    refine wr_get (v := .ref 97) rfl rfl rfl (by decide) (rv_ref (hK3.1 96 0 97 rfl)) fun h21 => ?_
    show wr (d + 245) tb_M19 38 [(1, vi (s3.1 131 2)), (2, .retAddr 0), (0, .ref 96)] [.ref 97] s3 _
    refine wr_n (pc2 := 39) (lv2 := [(1, vi (s3.1 131 2)), (2, .retAddr 0), (0, .ref 96)]) (st2 := [vi 0, .ref 97]) 1 (fun _ _ => rfl) ?_
    refine wr_put (z := 0) rfl rfl rfl rfl (by decide) rfl (by decide) rfl (show -2147483648 ≤ 0 ∧ 0 ≤ 2147483647 by omega) (hf_int' _) ?_
    show wr (d + 245) tb_M19 42 [(1, vi (s3.1 131 2)), (2, .retAddr 0), (0, .ref 96)] [] (up2 s3.1 97 1 0, s3.2) _
    have hK22 : KI (up2 s3.1 97 1 0) := (KI_up hK3 rfl (kb_of rfl (show 0 ≤ 0 ∧ 0 ≤ 2000 by omega)))
    refine wr_n (pc2 := 45) (lv2 := [(1, vi (s3.1 131 2)), (2, .retAddr 0), (0, .ref 96)]) (st2 := [vi ((-2)), vi (s3.1 131 2)]) 2 (fun _ _ => rfl) ?_
    by_cases h23 : s3.1 131 2 ≠ (-2)
    · refine wr_if2t rfl rfl (by unfold i32; omega) (by unfold i32; omega) h23 ?_
      refine wr_n (pc2 := 83) (lv2 := [(1, vi (s3.1 131 2)), (2, .retAddr 0), (0, .ref 96)]) (st2 := [vi (s3.1 131 2)]) 1 (fun _ _ => rfl) ?_
      refine wr_reti rfl rfl ?_
      obtain ⟨q24, hs24⟩ : ∃ qq9 : rS, qq9 = (up2 s3.1 97 1 0, s3.2) := ⟨_, rfl⟩
      rw [← hs24]
      have hK24 : KI q24.1 := by rw [hs24]; exact hK22
      have r1_24 : q24.1 96 1 = (C : Int) := by rw [hs24]; exact (show (up2 s3.1 97 1 0) 96 1 = (C : Int) from ((if_neg (by omega)).trans r1_3))
      have r2_24 : q24.1 96 2 = (D : Int) := by rw [hs24]; exact (show (up2 s3.1 97 1 0) 96 2 = (D : Int) from ((if_neg (by omega)).trans r2_3))
      have r3_24 : q24.1 142 0 = (E : Int) := by rw [hs24]; exact (show (up2 s3.1 97 1 0) 142 0 = (E : Int) from ((if_neg (by omega)).trans r3_3))
      have tp_24 : q24.1 97 1 = 0 := by rw [hs24]; exact (show (up2 s3.1 97 1 0) 97 1 = 0 from up_self)
      have hi_24 : HI s.1 q24.1 := by rw [hs24]; exact (fun k j hk => (show (up2 s3.1 97 1 0) k j = s.1 k j from ((if_neg (by omega)).trans (hi_3 k j hk))))
      have ce_24 : q24.2 = (s.2.1 + 1, s.2.2 + 6) := by rw [hs24]; exact ce_3
      have m_24 : q24.1 96 3 = s.1 96 3 := by rw [hs24]; exact (show (up2 s3.1 97 1 0) 96 3 = s.1 96 3 from (if_neg (by omega)).trans m3)
      have k_24 : ∀ j, j < 2001 → q24.1 140 j = s9.1 140 j := fun j hj => by rw [hs24]; exact (show (up2 s3.1 97 1 0) 140 j = s9.1 140 j from (if_neg (by omega)).trans (f4 j hj))
      clear hs24
      exact ⟨⟨⟨_, rfl, rfl⟩, .inr ce_24, ⟨C, D, E, hK24, hC, hD, hE, r1_24, r2_24, r3_24⟩, hi_24, tp_24⟩, .inr (.inl ⟨m_24, s9, _, hq, k_24, .inr ⟨rfl, by omega⟩⟩)⟩
    · refine wr_if2f rfl rfl (by unfold i32; omega) (by unfold i32; omega) h23 ?_
      refine wr_n (pc2 := 49) (lv2 := [(1, vi (s3.1 131 2)), (2, .retAddr 0), (0, .ref 96)]) (st2 := [.ref 96]) 1 (fun _ _ => rfl) ?_
      refine wr_get (v := .ref C) rfl rfl rfl (by decide) (rv_ref (show (up2 s3.1 97 1 0) 96 1 = ((C : Nat) : Int) from ((if_neg (by omega)).trans r1_3))) fun h25 => ?_
      show wr (d + 245) tb_M19 52 [(1, vi (s3.1 131 2)), (2, .retAddr 0), (0, .ref 96)] [.ref C] (up2 s3.1 97 1 0, s3.2) _
      refine wr_n (pc2 := 55) (lv2 := [(2, .ref C), (1, vi (s3.1 131 2)), (0, .ref 96)]) (st2 := [.ref 96, .ref 96]) 3 (fun _ _ => rfl) ?_
      refine wr_get (v := .ref D) rfl rfl rfl (by decide) (rv_ref (show (up2 s3.1 97 1 0) 96 2 = ((D : Nat) : Int) from ((if_neg (by omega)).trans r2_3))) fun h26 => ?_
      show wr (d + 245) tb_M19 58 [(2, .ref C), (1, vi (s3.1 131 2)), (0, .ref 96)] [.ref D, .ref 96] (up2 s3.1 97 1 0, s3.2) _
      refine wr_put (z := (D : Int)) rfl rfl rfl rfl (by decide) rfl (by decide) (rv_ref rfl) (show -1 ≤ (D : Int) by omega) (hf_ref _ _) ?_
      show wr (d + 245) tb_M19 61 [(2, .ref C), (1, vi (s3.1 131 2)), (0, .ref 96)] [] (up2 (up2 s3.1 97 1 0) 96 1 ((D : Int)), s3.2) _
      have hK27 : KI (up2 (up2 s3.1 97 1 0) 96 1 ((D : Int))) := (KI_up (KI_up hK3 rfl (kb_of rfl (show 0 ≤ 0 ∧ 0 ≤ 2000 by omega))) rfl (kb_no rfl))
      refine wr_n (pc2 := 63) (lv2 := [(2, .ref C), (1, vi (s3.1 131 2)), (0, .ref 96)]) (st2 := [.ref C, .ref 96]) 2 (fun _ _ => rfl) ?_
      refine wr_put (z := (C : Int)) rfl rfl rfl rfl (by decide) rfl (by decide) (rv_ref rfl) (show -1 ≤ (C : Int) by omega) (hf_ref _ _) ?_
      show wr (d + 245) tb_M19 66 [(2, .ref C), (1, vi (s3.1 131 2)), (0, .ref 96)] [] (up2 (up2 (up2 s3.1 97 1 0) 96 1 ((D : Int))) 96 2 ((C : Int)), s3.2) _
      have hK28 : KI (up2 (up2 (up2 s3.1 97 1 0) 96 1 ((D : Int))) 96 2 ((C : Int))) := (KI_up (KI_up (KI_up hK3 rfl (kb_of rfl (show 0 ≤ 0 ∧ 0 ≤ 2000 by omega))) rfl (kb_no rfl)) rfl (kb_no rfl))
      refine wr_n (pc2 := 68) (lv2 := [(2, .ref C), (1, vi (s3.1 131 2)), (0, .ref 96)]) (st2 := [vi 1, .ref 96]) 2 (fun _ _ => rfl) ?_
      refine wr_put (z := 1) rfl rfl rfl rfl (by decide) rfl (by decide) rfl (show 0 ≤ 1 ∧ 1 ≤ 1 by omega) (fit_i (.inr (.inl rfl)) (show 0 ≤ 1 ∧ 1 ≤ 1 by omega)) ?_
      show wr (d + 245) tb_M19 71 [(2, .ref C), (1, vi (s3.1 131 2)), (0, .ref 96)] [] (up2 (up2 (up2 (up2 s3.1 97 1 0) 96 1 ((D : Int))) 96 2 ((C : Int))) 96 3 1, s3.2) _
      have hK29 : KI (up2 (up2 (up2 (up2 s3.1 97 1 0) 96 1 ((D : Int))) 96 2 ((C : Int))) 96 3 1) := (KI_up (KI_up (KI_up (KI_up hK3 rfl (kb_of rfl (show 0 ≤ 0 ∧ 0 ≤ 2000 by omega))) rfl (kb_no rfl)) rfl (kb_no rfl)) rfl (kb_no rfl))
      refine wr_n (pc2 := 72) (lv2 := [(2, .ref C), (1, vi (s3.1 131 2)), (0, .ref 96)]) (st2 := [.ref 96]) 1 (fun _ _ => rfl) ?_
      refine wr_get (v := .ref 142) rfl rfl rfl (by decide) (rv_ref (hK29.1 96 5 142 rfl)) fun h30 => ?_
      show wr (d + 245) tb_M19 75 [(2, .ref C), (1, vi (s3.1 131 2)), (0, .ref 96)] [.ref 142] (up2 (up2 (up2 (up2 s3.1 97 1 0) 96 1 ((D : Int))) 96 2 ((C : Int))) 96 3 1, s3.2) _
      refine wr_n (pc2 := 76) (lv2 := [(2, .ref C), (1, vi (s3.1 131 2)), (0, .ref 96)]) (st2 := [.ref 96, .ref 142]) 1 (fun _ _ => rfl) ?_
      refine wr_get (v := .ref D) rfl rfl rfl (by decide) (rv_ref (show (up2 (up2 (up2 (up2 s3.1 97 1 0) 96 1 ((D : Int))) 96 2 ((C : Int))) 96 3 1) 96 1 = ((D : Nat) : Int) from ((if_neg (by omega)).trans ((if_neg (by omega)).trans up_self)))) fun h31 => ?_
      show wr (d + 245) tb_M19 79 [(2, .ref C), (1, vi (s3.1 131 2)), (0, .ref 96)] [.ref D, .ref 142] (up2 (up2 (up2 (up2 s3.1 97 1 0) 96 1 ((D : Int))) 96 2 ((C : Int))) 96 3 1, s3.2) _
      obtain ⟨q32, hs32⟩ : ∃ qq9 : rS, qq9 = (up2 (up2 (up2 (up2 s3.1 97 1 0) 96 1 ((D : Int))) 96 2 ((C : Int))) 96 3 1, s3.2) := ⟨_, rfl⟩
      rw [← hs32]
      have hK32 : KI q32.1 := by rw [hs32]; exact hK29
      have r1_32 : q32.1 96 1 = (D : Int) := by rw [hs32]; exact (show (up2 (up2 (up2 (up2 s3.1 97 1 0) 96 1 ((D : Int))) 96 2 ((C : Int))) 96 3 1) 96 1 = (D : Int) from ((if_neg (by omega)).trans ((if_neg (by omega)).trans up_self)))
      have r2_32 : q32.1 96 2 = (C : Int) := by rw [hs32]; exact (show (up2 (up2 (up2 (up2 s3.1 97 1 0) 96 1 ((D : Int))) 96 2 ((C : Int))) 96 3 1) 96 2 = (C : Int) from ((if_neg (by omega)).trans up_self))
      have r3_32 : q32.1 142 0 = (E : Int) := by rw [hs32]; exact (show (up2 (up2 (up2 (up2 s3.1 97 1 0) 96 1 ((D : Int))) 96 2 ((C : Int))) 96 3 1) 142 0 = (E : Int) from ((if_neg (by omega)).trans ((if_neg (by omega)).trans ((if_neg (by omega)).trans ((if_neg (by omega)).trans r3_3)))))
      have tp_32 : q32.1 97 1 = 0 := by rw [hs32]; exact (show (up2 (up2 (up2 (up2 s3.1 97 1 0) 96 1 ((D : Int))) 96 2 ((C : Int))) 96 3 1) 97 1 = 0 from ((if_neg (by omega)).trans ((if_neg (by omega)).trans ((if_neg (by omega)).trans up_self))))
      have hi_32 : HI s.1 q32.1 := by rw [hs32]; exact (fun k j hk => (show (up2 (up2 (up2 (up2 s3.1 97 1 0) 96 1 ((D : Int))) 96 2 ((C : Int))) 96 3 1) k j = s.1 k j from ((if_neg (by omega)).trans ((if_neg (by omega)).trans ((if_neg (by omega)).trans ((if_neg (by omega)).trans (hi_3 k j hk)))))))
      have ce_32 : q32.2 = (s.2.1 + 1, s.2.2 + 6) := by rw [hs32]; exact ce_3
      have m_32 : q32.1 96 3 = 1 := by rw [hs32]; exact (show (up2 (up2 (up2 (up2 s3.1 97 1 0) 96 1 ((D : Int))) 96 2 ((C : Int))) 96 3 1) 96 3 = 1 from up_self)
      clear hs32
      refine wr_call1 (args := [.ref D]) (rest := []) rfl rfl rfl rfl (Nat.le_of_ble_eq_true rfl) (cr_mono (k_restart (d := d + 243) (C := D) hD q32 hK32) ?_)
      rintro s33 out ⟨hK33, hY33, hc33, rfl⟩
      refine ⟨_, rfl, ?_⟩
      have hC33 : s33.2 = q32.2 := hc33.trans rfl
      have r1_33 : s33.1 96 1 = (D : Int) := (hY33 96 1 (by unfold fx; omega)).trans (show (up2 q32.1 142 0 ((D : Int))) 96 1 = (D : Int) from ((if_neg (by omega)).trans r1_32))
      have r2_33 : s33.1 96 2 = (C : Int) := (hY33 96 2 (by unfold fx; omega)).trans (show (up2 q32.1 142 0 ((D : Int))) 96 2 = (C : Int) from ((if_neg (by omega)).trans r2_32))
      have r3_33 : s33.1 142 0 = (D : Int) := (hY33 142 0 (by unfold fx; omega)).trans (show (up2 q32.1 142 0 ((D : Int))) 142 0 = (D : Int) from up_self)
      have tp_33 : s33.1 97 1 = 0 := (hY33 97 1 (by unfold fx; omega)).trans (show (up2 q32.1 142 0 ((D : Int))) 97 1 = 0 from ((if_neg (by omega)).trans tp_32))
      have hi_33 : HI s.1 s33.1 := fun k j hk => (hY33 k j (by unfold fx; omega)).trans (show (up2 q32.1 142 0 ((D : Int))) k j = s.1 k j from ((if_neg (by omega)).trans (hi_32 k j hk)))
      have ce_33 : s33.2 = (s.2.1 + 1, s.2.2 + 6) := hc33.trans ce_32
      show wr (d + 245) tb_M19 82 [(2, .ref C), (1, vi (s3.1 131 2)), (0, .ref 96)] [] s33 _
      refine wr_n (pc2 := 83) (lv2 := [(2, .ref C), (1, vi (s3.1 131 2)), (0, .ref 96)]) (st2 := [vi (s3.1 131 2)]) 1 (fun _ _ => rfl) ?_
      refine wr_reti rfl rfl ?_
      exact ⟨⟨⟨_, rfl, rfl⟩, .inr ce_33, ⟨D, C, D, hK33, hD, hC, hD, r1_33, r2_33, r3_33⟩, hi_33, tp_33⟩, .inr (.inr ⟨(hY33 96 3 (by unfold fx; omega)).trans (show (up2 q32.1 142 0 ((D : Int))) 96 3 = 1 from (if_neg (by omega)).trans m_32), s9, hq, by omega⟩)⟩
/-- behind feed -/
def XF (x y u v w : Int) (s : rS) : rS → hm_Out → Prop := fun s2 out => ∃ z : Int, out = some (some (vi z)) ∧ s2.2 = s.2 ∧ (∃ C D E, XI C D E s2.1) ∧ (2000 < s.1 97 1 + 20 ∧ z = -3 ∧ s2 = s ∨ s.1 97 1 + 20 ≤ 2000 ∧ z = s.1 97 1 + 20 ∧ s2.1 97 1 = s.1 97 1 + 20 ∧ (∀ i j, ¬ (i = 98 ∧ (s.1 97 1).toNat ≤ j) → ¬ (i = 97 ∧ j = 1) → s2.1 i j = s.1 i j) ∧ ∀ k : Nat, k < 20 → s2.1 98 ((s.1 97 1).toNat + k) = byt (ar5 x y u v w k) (24 - 8 * ((k % 4 : Nat) : Int)))
set_option maxHeartbeats 20000000 in
set_option maxRecDepth 100000 in
theorem z_feed {d C D E : Nat} {x y u v w : Int} (s : rS) (hXI : XI C D E s.1) (hx : (-2147483648) ≤ x ∧ x ≤ 2147483647) (hy : (-2147483648) ≤ y ∧ y ≤ 2147483647) (hu : (-2147483648) ≤ u ∧ u ≤ 2147483647) (hv : (-2147483648) ≤ v ∧ v ≤ 2147483647) (hw : (-2147483648) ≤ w ∧ w ≤ 2147483647)  : cr (d + 2) 16 [.ref 96, vi x, vi y, vi u, vi v, vi w] s (XF x y u v w s) := by
  obtain ⟨hK, hC, hD, hE, r1, r2, r3⟩ := hXI
  refine cr_of (M := tb_M16) rfl (Nat.le_of_ble_eq_true rfl) ?_
  show wr (d + 1) tb_M16 0 [(0, .ref 96), (1, vi x), (2, vi y), (3, vi u), (4, vi v), (5, vi w)] [] s _
  refine wr_n (pc2 := 1) (lv2 := [(0, .ref 96), (1, vi x), (2, vi y), (3, vi u), (4, vi v), (5, vi w)]) (st2 := [.ref 96]) 1 (fun _ _ => rfl) ?_
  refine wr_get (v := .ref 97) rfl rfl rfl (by decide) (rv_ref (hK.1 96 0 97 rfl)) fun h1 => ?_
  show wr (d + 1) tb_M16 4 [(0, .ref 96), (1, vi x), (2, vi y), (3, vi u), (4, vi v), (5, vi w)] [.ref 97] s _
  refine wr_get (v := vi (s.1 97 1)) rfl rfl rfl (by decide) rfl fun h2 => ?_
  have h2 : -2147483648 ≤ s.1 97 1 ∧ s.1 97 1 ≤ 2147483647 := h2
  show wr (d + 1) tb_M16 7 [(0, .ref 96), (1, vi x), (2, vi y), (3, vi u), (4, vi v), (5, vi w)] [vi (s.1 97 1)] s _
  have hb3 : 0 ≤ s.1 97 1 ∧ s.1 97 1 ≤ 2000 := kb_to rfl (hK.2 97 1)
  refine wr_n (pc2 := 9) (lv2 := [(0, .ref 96), (1, vi x), (2, vi y), (3, vi u), (4, vi v), (5, vi w)]) (st2 := [vi 20, vi (s.1 97 1)]) 1 (fun _ _ => rfl) ?_
  refine wr_add (a := s.1 97 1) (b := 20) rfl ?_
  show wr (d + 1) tb_M16 10 [(0, .ref 96), (1, vi x), (2, vi y), (3, vi u), (4, vi v), (5, vi w)] [vi (s.1 97 1 + 20)] s _
  refine wr_n (pc2 := 13) (lv2 := [(0, .ref 96), (1, vi x), (2, vi y), (3, vi u), (4, vi v), (5, vi w)]) (st2 := [vi 2000, vi (s.1 97 1 + 20)]) 1 (fun _ _ => rfl) ?_
  by_cases h4 : s.1 97 1 + 20 ≤ 2000
  · refine wr_if2t rfl rfl (by unfold i32; omega) (by unfold i32; omega) h4 ?_
    refine wr_n (pc2 := 20) (lv2 := [(0, .ref 96), (1, vi x), (2, vi y), (3, vi u), (4, vi v), (5, vi w)]) (st2 := [.ref 96]) 1 (fun _ _ => rfl) ?_
    refine wr_get (v := .ref 97) rfl rfl rfl (by decide) (rv_ref (hK.1 96 0 97 rfl)) fun h5 => ?_
    show wr (d + 1) tb_M16 23 [(0, .ref 96), (1, vi x), (2, vi y), (3, vi u), (4, vi v), (5, vi w)] [.ref 97] s _
    refine wr_n (pc2 := 24) (lv2 := [(0, .ref 96), (1, vi x), (2, vi y), (3, vi u), (4, vi v), (5, vi w)]) (st2 := [vi x, .ref 97]) 1 (fun _ _ => rfl) ?_
    refine wr_call1 (args := [vi x]) (rest := []) rfl rfl rfl rfl (Nat.le_of_ble_eq_true rfl) (cr_mono (k_taddx (d := d) s hK (by omega) (by have h9 : s.1 97 1 = s.1 97 1 := rfl; omega)) ?_)
    rintro s6 out ⟨rfl, hK6, h4_6, hb6, hf6, hc6⟩
    refine ⟨_, rfl, ?_⟩
    have r1_6 : s6.1 96 1 = (C : Int) := (hf6 96 1 (by omega) (by omega)).trans r1
    have r2_6 : s6.1 96 2 = (D : Int) := (hf6 96 2 (by omega) (by omega)).trans r2
    have r3_6 : s6.1 142 0 = (E : Int) := (hf6 142 0 (by omega) (by omega)).trans r3
    have tp_6 : s6.1 97 1 = s.1 97 1 + 4 := by have h9 : s.1 97 1 = s.1 97 1 := rfl; omega
    have fr_6 : ∀ i j, ¬ (i = 98 ∧ (s.1 97 1).toNat ≤ j) → ¬ (i = 97 ∧ j = 1) → s6.1 i j = s.1 i j := hf6
    have ce_6 : s6.2 = s.2 := hc6.trans rfl
    show wr (d + 1) tb_M16 27 [(0, .ref 96), (1, vi x), (2, vi y), (3, vi u), (4, vi v), (5, vi w)] [] s6 _
    refine wr_n (pc2 := 28) (lv2 := [(0, .ref 96), (1, vi x), (2, vi y), (3, vi u), (4, vi v), (5, vi w)]) (st2 := [.ref 96]) 1 (fun _ _ => rfl) ?_
    refine wr_get (v := .ref 97) rfl rfl rfl (by decide) (rv_ref (hK6.1 96 0 97 rfl)) fun h7 => ?_
    show wr (d + 1) tb_M16 31 [(0, .ref 96), (1, vi x), (2, vi y), (3, vi u), (4, vi v), (5, vi w)] [.ref 97] s6 _
    refine wr_n (pc2 := 32) (lv2 := [(0, .ref 96), (1, vi x), (2, vi y), (3, vi u), (4, vi v), (5, vi w)]) (st2 := [vi y, .ref 97]) 1 (fun _ _ => rfl) ?_
    refine wr_call1 (args := [vi y]) (rest := []) rfl rfl rfl rfl (Nat.le_of_ble_eq_true rfl) (cr_mono (k_taddx (d := d) s6 hK6 (by omega) (by have h9 : s6.1 97 1 = s.1 97 1 + 4 := tp_6; omega)) ?_)
    rintro s8 out ⟨rfl, hK8, h4_8, hb8, hf8, hc8⟩
    refine ⟨_, rfl, ?_⟩
    have r1_8 : s8.1 96 1 = (C : Int) := (hf8 96 1 (by omega) (by omega)).trans r1_6
    have r2_8 : s8.1 96 2 = (D : Int) := (hf8 96 2 (by omega) (by omega)).trans r2_6
    have r3_8 : s8.1 142 0 = (E : Int) := (hf8 142 0 (by omega) (by omega)).trans r3_6
    have tp_8 : s8.1 97 1 = s.1 97 1 + 8 := by have h9 : s6.1 97 1 = s.1 97 1 + 4 := tp_6; omega
    have fr_8 : ∀ i j, ¬ (i = 98 ∧ (s.1 97 1).toNat ≤ j) → ¬ (i = 97 ∧ j = 1) → s8.1 i j = s.1 i j := fun i j a b => (hf8 i j (by omega) b).trans (fr_6 i j a b)
    have ce_8 : s8.2 = s.2 := hc8.trans ce_6
    show wr (d + 1) tb_M16 35 [(0, .ref 96), (1, vi x), (2, vi y), (3, vi u), (4, vi v), (5, vi w)] [] s8 _
    refine wr_n (pc2 := 36) (lv2 := [(0, .ref 96), (1, vi x), (2, vi y), (3, vi u), (4, vi v), (5, vi w)]) (st2 := [.ref 96]) 1 (fun _ _ => rfl) ?_
    refine wr_get (v := .ref 97) rfl rfl rfl (by decide) (rv_ref (hK8.1 96 0 97 rfl)) fun h9 => ?_
    show wr (d + 1) tb_M16 39 [(0, .ref 96), (1, vi x), (2, vi y), (3, vi u), (4, vi v), (5, vi w)] [.ref 97] s8 _
    refine wr_n (pc2 := 40) (lv2 := [(0, .ref 96), (1, vi x), (2, vi y), (3, vi u), (4, vi v), (5, vi w)]) (st2 := [vi u, .ref 97]) 1 (fun _ _ => rfl) ?_
    refine wr_call1 (args := [vi u]) (rest := []) rfl rfl rfl rfl (Nat.le_of_ble_eq_true rfl) (cr_mono (k_taddx (d := d) s8 hK8 (by omega) (by have h9 : s8.1 97 1 = s.1 97 1 + 8 := tp_8; omega)) ?_)
    rintro s10 out ⟨rfl, hK10, h4_10, hb10, hf10, hc10⟩
    refine ⟨_, rfl, ?_⟩
    have r1_10 : s10.1 96 1 = (C : Int) := (hf10 96 1 (by omega) (by omega)).trans r1_8
    have r2_10 : s10.1 96 2 = (D : Int) := (hf10 96 2 (by omega) (by omega)).trans r2_8
    have r3_10 : s10.1 142 0 = (E : Int) := (hf10 142 0 (by omega) (by omega)).trans r3_8
    have tp_10 : s10.1 97 1 = s.1 97 1 + 12 := by have h9 : s8.1 97 1 = s.1 97 1 + 8 := tp_8; omega
    have fr_10 : ∀ i j, ¬ (i = 98 ∧ (s.1 97 1).toNat ≤ j) → ¬ (i = 97 ∧ j = 1) → s10.1 i j = s.1 i j := fun i j a b => (hf10 i j (by omega) b).trans (fr_8 i j a b)
    have ce_10 : s10.2 = s.2 := hc10.trans ce_8
    show wr (d + 1) tb_M16 43 [(0, .ref 96), (1, vi x), (2, vi y), (3, vi u), (4, vi v), (5, vi w)] [] s10 _
    refine wr_n (pc2 := 44) (lv2 := [(0, .ref 96), (1, vi x), (2, vi y), (3, vi u), (4, vi v), (5, vi w)]) (st2 := [.ref 96]) 1 (fun _ _ => rfl) ?_
    refine wr_get (v := .ref 97) rfl rfl rfl (by decide) (rv_ref (hK10.1 96 0 97 rfl)) fun h11 => ?_
    show wr (d + 1) tb_M16 47 [(0, .ref 96), (1, vi x), (2, vi y), (3, vi u), (4, vi v), (5, vi w)] [.ref 97] s10 _
    refine wr_n (pc2 := 49) (lv2 := [(0, .ref 96), (1, vi x), (2, vi y), (3, vi u), (4, vi v), (5, vi w)]) (st2 := [vi v, .ref 97]) 1 (fun _ _ => rfl) ?_
    refine wr_call1 (args := [vi v]) (rest := []) rfl rfl rfl rfl (Nat.le_of_ble_eq_true rfl) (cr_mono (k_taddx (d := d) s10 hK10 (by omega) (by have h9 : s10.1 97 1 = s.1 97 1 + 12 := tp_10; omega)) ?_)
    rintro s12 out ⟨rfl, hK12, h4_12, hb12, hf12, hc12⟩
    refine ⟨_, rfl, ?_⟩
    have r1_12 : s12.1 96 1 = (C : Int) := (hf12 96 1 (by omega) (by omega)).trans r1_10
    have r2_12 : s12.1 96 2 = (D : Int) := (hf12 96 2 (by omega) (by omega)).trans r2_10
    have r3_12 : s12.1 142 0 = (E : Int) := (hf12 142 0 (by omega) (by omega)).trans r3_10
    have tp_12 : s12.1 97 1 = s.1 97 1 + 16 := by have h9 : s10.1 97 1 = s.1 97 1 + 12 := tp_10; omega
    have fr_12 : ∀ i j, ¬ (i = 98 ∧ (s.1 97 1).toNat ≤ j) → ¬ (i = 97 ∧ j = 1) → s12.1 i j = s.1 i j := fun i j a b => (hf12 i j (by omega) b).trans (fr_10 i j a b)
    have ce_12 : s12.2 = s.2 := hc12.trans ce_10
    show wr (d + 1) tb_M16 52 [(0, .ref 96), (1, vi x), (2, vi y), (3, vi u), (4, vi v), (5, vi w)] [] s12 _
    refine wr_n (pc2 := 53) (lv2 := [(0, .ref 96), (1, vi x), (2, vi y), (3, vi u), (4, vi v), (5, vi w)]) (st2 := [.ref 96]) 1 (fun _ _ => rfl) ?_
    refine wr_get (v := .ref 97) rfl rfl rfl (by decide) (rv_ref (hK12.1 96 0 97 rfl)) fun h13 => ?_
    show wr (d + 1) tb_M16 56 [(0, .ref 96), (1, vi x), (2, vi y), (3, vi u), (4, vi v), (5, vi w)] [.ref 97] s12 _
    refine wr_n (pc2 := 58) (lv2 := [(0, .ref 96), (1, vi x), (2, vi y), (3, vi u), (4, vi v), (5, vi w)]) (st2 := [vi w, .ref 97]) 1 (fun _ _ => rfl) ?_
    refine wr_call1 (args := [vi w]) (rest := []) rfl rfl rfl rfl (Nat.le_of_ble_eq_true rfl) (cr_mono (k_taddx (d := d) s12 hK12 (by omega) (by have h9 : s12.1 97 1 = s.1 97 1 + 16 := tp_12; omega)) ?_)
    rintro s14 out ⟨rfl, hK14, h4_14, hb14, hf14, hc14⟩
    refine ⟨_, rfl, ?_⟩
    have r1_14 : s14.1 96 1 = (C : Int) := (hf14 96 1 (by omega) (by omega)).trans r1_12
    have r2_14 : s14.1 96 2 = (D : Int) := (hf14 96 2 (by omega) (by omega)).trans r2_12
    have r3_14 : s14.1 142 0 = (E : Int) := (hf14 142 0 (by omega) (by omega)).trans r3_12
    have tp_14 : s14.1 97 1 = s.1 97 1 + 20 := by have h9 : s12.1 97 1 = s.1 97 1 + 16 := tp_12; omega
    have fr_14 : ∀ i j, ¬ (i = 98 ∧ (s.1 97 1).toNat ≤ j) → ¬ (i = 97 ∧ j = 1) → s14.1 i j = s.1 i j := fun i j a b => (hf14 i j (by omega) b).trans (fr_12 i j a b)
    have ce_14 : s14.2 = s.2 := hc14.trans ce_12
    show wr (d + 1) tb_M16 61 [(0, .ref 96), (1, vi x), (2, vi y), (3, vi u), (4, vi v), (5, vi w)] [] s14 _
    refine wr_n (pc2 := 62) (lv2 := [(0, .ref 96), (1, vi x), (2, vi y), (3, vi u), (4, vi v), (5, vi w)]) (st2 := [.ref 96]) 1 (fun _ _ => rfl) ?_
    refine wr_get (v := .ref 97) rfl rfl rfl (by decide) (rv_ref (hK14.1 96 0 97 rfl)) fun h15 => ?_
    show wr (d + 1) tb_M16 65 [(0, .ref 96), (1, vi x), (2, vi y), (3, vi u), (4, vi v), (5, vi w)] [.ref 97] s14 _
    refine wr_get (v := vi (s14.1 97 1)) rfl rfl rfl (by decide) rfl fun h16 => ?_
    have h16 : -2147483648 ≤ s14.1 97 1 ∧ s14.1 97 1 ≤ 2147483647 := h16
    show wr (d + 1) tb_M16 68 [(0, .ref 96), (1, vi x), (2, vi y), (3, vi u), (4, vi v), (5, vi w)] [vi (s14.1 97 1)] s14 _
    have hb17 : 0 ≤ s14.1 97 1 ∧ s14.1 97 1 ≤ 2000 := kb_to rfl (hK14.2 97 1)
    refine wr_reti rfl rfl ?_
    have hby : ∀ k : Nat, k < 20 → s14.1 98 ((s.1 97 1).toNat + k) = byt (ar5 x y u v w k) (24 - 8 * ((k % 4 : Nat) : Int)) := fun k hk => by
      unfold ar5
      by_cases z0 : k < 4
      · rw [if_pos z0]
        have w0 := hb6 (k - 0) (by omega)
        rw [show (s.1 97 1).toNat + (k - 0) = (s.1 97 1).toNat + k by omega, show ((k - 0 : Nat) : Int) = ((k % 4 : Nat) : Int) by omega] at w0
        exact (hf14 98 _ (by omega) (by omega)).trans ((hf12 98 _ (by omega) (by omega)).trans ((hf10 98 _ (by omega) (by omega)).trans ((hf8 98 _ (by omega) (by omega)).trans (w0))))
      by_cases z1 : k < 8
      · rw [if_neg (by omega), if_pos z1]
        have w1 := hb8 (k - 4) (by omega)
        rw [show (s6.1 97 1).toNat + (k - 4) = (s.1 97 1).toNat + k by omega, show ((k - 4 : Nat) : Int) = ((k % 4 : Nat) : Int) by omega] at w1
        exact (hf14 98 _ (by omega) (by omega)).trans ((hf12 98 _ (by omega) (by omega)).trans ((hf10 98 _ (by omega) (by omega)).trans (w1)))
      by_cases z2 : k < 12
      · rw [if_neg (by omega), if_neg (by omega), if_pos z2]
        have w2 := hb10 (k - 8) (by omega)
        rw [show (s8.1 97 1).toNat + (k - 8) = (s.1 97 1).toNat + k by omega, show ((k - 8 : Nat) : Int) = ((k % 4 : Nat) : Int) by omega] at w2
        exact (hf14 98 _ (by omega) (by omega)).trans ((hf12 98 _ (by omega) (by omega)).trans (w2))
      by_cases z3 : k < 16
      · rw [if_neg (by omega), if_neg (by omega), if_neg (by omega), if_pos z3]
        have w3 := hb12 (k - 12) (by omega)
        rw [show (s10.1 97 1).toNat + (k - 12) = (s.1 97 1).toNat + k by omega, show ((k - 12 : Nat) : Int) = ((k % 4 : Nat) : Int) by omega] at w3
        exact (hf14 98 _ (by omega) (by omega)).trans (w3)
      rw [if_neg (by omega), if_neg (by omega), if_neg (by omega), if_neg (by omega)]
      have w4 := hb14 (k - 16) (by omega)
      rw [show (s12.1 97 1).toNat + (k - 16) = (s.1 97 1).toNat + k by omega, show ((k - 16 : Nat) : Int) = ((k % 4 : Nat) : Int) by omega] at w4
      exact w4
    exact ⟨_, rfl, ce_14, ⟨C, D, E, hK14, hC, hD, hE, r1_14, r2_14, r3_14⟩, .inr ⟨h4, by omega, tp_14, fr_14, hby⟩⟩
  · refine wr_if2f rfl rfl (by unfold i32; omega) (by unfold i32; omega) h4 ?_
    refine wr_n (pc2 := 18) (lv2 := [(0, .ref 96), (1, vi x), (2, vi y), (3, vi u), (4, vi v), (5, vi w)]) (st2 := [vi ((-3))]) 1 (fun _ _ => rfl) ?_
    refine wr_end (fun _ _ => rfl) ?_
    exact ⟨_, rfl, rfl, ⟨C, D, E, hK, hC, hD, hE, r1, r2, r3⟩, .inl ⟨by omega, rfl, rfl⟩⟩
