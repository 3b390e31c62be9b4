set_option maxHeartbeats 20000000 in
set_option maxRecDepth 100000 in
theorem l_fin {d C na b : Nat} {n : Int} {F : Ph} {G : Nat → gB} {own : Nat → Nat → Prop} {s0 s : rS} (hC : C = 177 ∨ C = 186) (hb7 : b < 700) (hV : RV C F na s0 s) (h13 : s.1 170 52 = 1 ∨ s.1 170 52 = 3) : wr (d + 6) tb_M162 141 [(2, vi 1), (3, vi ((b : Int))), (0, .ref 170), (1, vi n)] [] s (RU C F na s0) := by
  have hR := hV.2.1
  refine wr_n (pc2 := 142) (lv2 := [(2, vi 1), (3, vi ((b : Int))), (0, .ref 170), (1, vi n)]) (st2 := [.ref 170]) 1 (fun _ _ => rfl) ?_
  refine wr_get (v := .ref 206) rfl rfl rfl (by decide) (rv_ref (hR 170 41 206 rfl)) fun h1 => ?_
  show wr (d + 6) tb_M162 145 [(2, vi 1), (3, vi ((b : Int))), (0, .ref 170), (1, vi n)] [.ref 206] s _
  refine wr_n (pc2 := 146) (lv2 := [(2, vi 1), (3, vi ((b : Int))), (0, .ref 170), (1, vi n)]) (st2 := [vi ((b : Int)), .ref 206]) 1 (fun _ _ => rfl) ?_
  refine wr_ald (a := (b : Int)) (v := vi (s.1 206 b)) rfl rfl rfl (by omega) (by omega) (by decide) rfl fun h2 => ?_
  have h2 : -2147483648 ≤ s.1 206 b ∧ s.1 206 b ≤ 2147483647 := h2
  show wr (d + 6) tb_M162 147 [(2, vi 1), (3, vi ((b : Int))), (0, .ref 170), (1, vi n)] [vi (s.1 206 b)] s _
  refine wr_n (pc2 := 148) (lv2 := [(2, vi 1), (3, vi ((b : Int))), (0, .ref 170), (1, vi n)]) (st2 := [vi 1, vi (s.1 206 b)]) 1 (fun _ _ => rfl) ?_
  by_cases h3 : s.1 206 b ≠ 1
  · refine wr_if2t rfl rfl (by unfold i32; omega) (by unfold i32; omega) h3 ?_
    refine wr_inc (a := (b : Int)) rfl rfl ?_
    show wr (d + 6) tb_M162 170 [(3, vi ((b : Int) + 1)), (2, vi 1), (0, .ref 170), (1, vi n)] [] s _
    refine wr_n (pc2 := 77) (lv2 := [(3, vi ((b : Int) + 1)), (2, vi 1), (0, .ref 170), (1, vi n)]) (st2 := [.ref 170, vi ((b : Int) + 1)]) 3 (fun _ _ => rfl) ?_
    refine wr_get (v := vi (s.1 170 55)) rfl rfl rfl (by decide) rfl fun h4 => ?_
    have h4 : -2147483648 ≤ s.1 170 55 ∧ s.1 170 55 ≤ 2147483647 := h4
    show wr (d + 6) tb_M162 80 [(3, vi ((b : Int) + 1)), (2, vi 1), (0, .ref 170), (1, vi n)] [vi (s.1 170 55), vi ((b : Int) + 1)] s _
    by_cases h5 : s.1 170 55 ≤ (b : Int) + 1
    · refine wr_if2t rfl rfl (by unfold i32; omega) (by unfold i32; omega) h5 ?_
      refine wr_n (pc2 := 64) (lv2 := [(3, vi ((b : Int) + 1)), (2, vi 1), (0, .ref 170), (1, vi n)]) (st2 := [.ref 170]) 4 (fun _ _ => rfl) ?_
      refine wr_get (v := vi (s.1 170 52)) rfl rfl rfl (by decide) rfl fun h6 => ?_
      have h6 : -2147483648 ≤ s.1 170 52 ∧ s.1 170 52 ≤ 2147483647 := h6
      show wr (d + 6) tb_M162 67 [(3, vi ((b : Int) + 1)), (2, vi 1), (0, .ref 170), (1, vi n)] [vi (s.1 170 52)] s _
      refine wr_n (pc2 := 68) (lv2 := [(3, vi ((b : Int) + 1)), (2, vi 1), (0, .ref 170), (1, vi n)]) (st2 := [vi 2, vi (s.1 170 52)]) 1 (fun _ _ => rfl) ?_
      refine wr_if2t rfl rfl (by unfold i32; omega) (by unfold i32; omega) (by show s.1 170 52 ≠ 2; omega) ?_
      show wr (d + 6) tb_M162 176 [(3, vi ((b : Int) + 1)), (2, vi 1), (0, .ref 170), (1, vi n)] [] s _
      refine wr_n (pc2 := 177) (lv2 := [(3, vi ((b : Int) + 1)), (2, vi 1), (0, .ref 170), (1, vi n)]) (st2 := [.ref 170]) 1 (fun _ _ => rfl) ?_
      refine wr_get (v := vi (s.1 170 52)) rfl rfl rfl (by decide) rfl fun h7 => ?_
      have h7 : -2147483648 ≤ s.1 170 52 ∧ s.1 170 52 ≤ 2147483647 := h7
      show wr (d + 6) tb_M162 180 [(3, vi ((b : Int) + 1)), (2, vi 1), (0, .ref 170), (1, vi n)] [vi (s.1 170 52)] s _
      refine wr_n (pc2 := 181) (lv2 := [(3, vi ((b : Int) + 1)), (2, vi 1), (0, .ref 170), (1, vi n)]) (st2 := [vi 3, vi (s.1 170 52)]) 1 (fun _ _ => rfl) ?_
      by_cases h8 : s.1 170 52 ≠ 3
      · refine wr_if2t rfl rfl (by unfold i32; omega) (by unfold i32; omega) h8 ?_
        refine wr_n (pc2 := 190) (lv2 := [(3, vi ((b : Int) + 1)), (2, vi 1), (0, .ref 170), (1, vi n)]) (st2 := [.ref 170]) 1 (fun _ _ => rfl) ?_
        refine wr_get (v := vi (s.1 170 52)) rfl rfl rfl (by decide) rfl fun h9 => ?_
        have h9 : -2147483648 ≤ s.1 170 52 ∧ s.1 170 52 ≤ 2147483647 := h9
        show wr (d + 6) tb_M162 193 [(3, vi ((b : Int) + 1)), (2, vi 1), (0, .ref 170), (1, vi n)] [vi (s.1 170 52)] s _
        refine wr_reti rfl rfl ?_
        exact ⟨⟨_, rfl⟩, hV, by omega⟩
      · refine wr_if2f rfl rfl (by unfold i32; omega) (by unfold i32; omega) h8 ?_
        refine wr_n (pc2 := 186) (lv2 := [(3, vi ((b : Int) + 1)), (2, vi 1), (0, .ref 170), (1, vi n)]) (st2 := [vi 0, .ref 170]) 2 (fun _ _ => rfl) ?_
        refine wr_put (z := 0) rfl rfl rfl rfl (by decide) rfl (by decide) rfl (show -2147483648 ≤ 0 ∧ 0 ≤ 2147483647 by omega) (hf_int' _) ?_
        show wr (d + 6) tb_M162 189 [(3, vi ((b : Int) + 1)), (2, vi 1), (0, .ref 170), (1, vi n)] [] (up2 s.1 170 53 0, s.2) _
        have hR10 : RF (up2 s.1 170 53 0) := (RF_up hR rfl)
        refine wr_n (pc2 := 190) (lv2 := [(3, vi ((b : Int) + 1)), (2, vi 1), (0, .ref 170), (1, vi n)]) (st2 := [.ref 170]) 1 (fun _ _ => rfl) ?_
        refine wr_get (v := vi (s.1 170 52)) rfl rfl rfl (by decide) rfl fun h11 => ?_
        have h11 : -2147483648 ≤ s.1 170 52 ∧ s.1 170 52 ≤ 2147483647 := h11
        show wr (d + 6) tb_M162 193 [(3, vi ((b : Int) + 1)), (2, vi 1), (0, .ref 170), (1, vi n)] [vi (s.1 170 52)] (up2 s.1 170 53 0, s.2) _
        refine wr_reti rfl rfl ?_
        exact ⟨⟨_, rfl⟩, RV_up hC hV (by omega), by show up2 s.1 170 53 0 170 52 = 1 ∨ up2 s.1 170 53 0 170 52 = 3 ∨ _; rw [up_nj (by omega)]; omega⟩
    · refine wr_if2f rfl rfl (by unfold i32; omega) (by unfold i32; omega) h5 ?_
      refine wr_n (pc2 := 84) (lv2 := [(3, vi ((b : Int) + 1)), (2, vi 1), (0, .ref 170), (1, vi n)]) (st2 := [.ref 170]) 1 (fun _ _ => rfl) ?_
      refine wr_get (v := vi (s.1 170 52)) rfl rfl rfl (by decide) rfl fun h12 => ?_
      have h12 : -2147483648 ≤ s.1 170 52 ∧ s.1 170 52 ≤ 2147483647 := h12
      show wr (d + 6) tb_M162 87 [(3, vi ((b : Int) + 1)), (2, vi 1), (0, .ref 170), (1, vi n)] [vi (s.1 170 52)] s _
      refine wr_n (pc2 := 88) (lv2 := [(3, vi ((b : Int) + 1)), (2, vi 1), (0, .ref 170), (1, vi n)]) (st2 := [vi 2, vi (s.1 170 52)]) 1 (fun _ _ => rfl) ?_
      refine wr_if2t rfl rfl (by unfold i32; omega) (by unfold i32; omega) (by show s.1 170 52 ≠ 2; omega) ?_
      show wr (d + 6) tb_M162 173 [(3, vi ((b : Int) + 1)), (2, vi 1), (0, .ref 170), (1, vi n)] [] s _
      refine wr_n (pc2 := 64) (lv2 := [(3, vi ((b : Int) + 1)), (2, vi 1), (0, .ref 170), (1, vi n)]) (st2 := [.ref 170]) 4 (fun _ _ => rfl) ?_
      refine wr_get (v := vi (s.1 170 52)) rfl rfl rfl (by decide) rfl fun h13 => ?_
      have h13 : -2147483648 ≤ s.1 170 52 ∧ s.1 170 52 ≤ 2147483647 := h13
      show wr (d + 6) tb_M162 67 [(3, vi ((b : Int) + 1)), (2, vi 1), (0, .ref 170), (1, vi n)] [vi (s.1 170 52)] s _
      refine wr_n (pc2 := 68) (lv2 := [(3, vi ((b : Int) + 1)), (2, vi 1), (0, .ref 170), (1, vi n)]) (st2 := [vi 2, vi (s.1 170 52)]) 1 (fun _ _ => rfl) ?_
      refine wr_if2t rfl rfl (by unfold i32; omega) (by unfold i32; omega) (by show s.1 170 52 ≠ 2; omega) ?_
      show wr (d + 6) tb_M162 176 [(3, vi ((b : Int) + 1)), (2, vi 1), (0, .ref 170), (1, vi n)] [] s _
      refine wr_n (pc2 := 177) (lv2 := [(3, vi ((b : Int) + 1)), (2, vi 1), (0, .ref 170), (1, vi n)]) (st2 := [.ref 170]) 1 (fun _ _ => rfl) ?_
      refine wr_get (v := vi (s.1 170 52)) rfl rfl rfl (by decide) rfl fun h14 => ?_
      have h14 : -2147483648 ≤ s.1 170 52 ∧ s.1 170 52 ≤ 2147483647 := h14
      show wr (d + 6) tb_M162 180 [(3, vi ((b : Int) + 1)), (2, vi 1), (0, .ref 170), (1, vi n)] [vi (s.1 170 52)] s _
      refine wr_n (pc2 := 181) (lv2 := [(3, vi ((b : Int) + 1)), (2, vi 1), (0, .ref 170), (1, vi n)]) (st2 := [vi 3, vi (s.1 170 52)]) 1 (fun _ _ => rfl) ?_
      by_cases h15 : s.1 170 52 ≠ 3
      · refine wr_if2t rfl rfl (by unfold i32; omega) (by unfold i32; omega) h15 ?_
        refine wr_n (pc2 := 190) (lv2 := [(3, vi ((b : Int) + 1)), (2, vi 1), (0, .ref 170), (1, vi n)]) (st2 := [.ref 170]) 1 (fun _ _ => rfl) ?_
        refine wr_get (v := vi (s.1 170 52)) rfl rfl rfl (by decide) rfl fun h16 => ?_
        have h16 : -2147483648 ≤ s.1 170 52 ∧ s.1 170 52 ≤ 2147483647 := h16
        show wr (d + 6) tb_M162 193 [(3, vi ((b : Int) + 1)), (2, vi 1), (0, .ref 170), (1, vi n)] [vi (s.1 170 52)] s _
        refine wr_reti rfl rfl ?_
        exact ⟨⟨_, rfl⟩, hV, by omega⟩
      · refine wr_if2f rfl rfl (by unfold i32; omega) (by unfold i32; omega) h15 ?_
        refine wr_n (pc2 := 186) (lv2 := [(3, vi ((b : Int) + 1)), (2, vi 1), (0, .ref 170), (1, vi n)]) (st2 := [vi 0, .ref 170]) 2 (fun _ _ => rfl) ?_
        refine wr_put (z := 0) rfl rfl rfl rfl (by decide) rfl (by decide) rfl (show -2147483648 ≤ 0 ∧ 0 ≤ 2147483647 by omega) (hf_int' _) ?_
        show wr (d + 6) tb_M162 189 [(3, vi ((b : Int) + 1)), (2, vi 1), (0, .ref 170), (1, vi n)] [] (up2 s.1 170 53 0, s.2) _
        have hR17 : RF (up2 s.1 170 53 0) := (RF_up hR rfl)
        refine wr_n (pc2 := 190) (lv2 := [(3, vi ((b : Int) + 1)), (2, vi 1), (0, .ref 170), (1, vi n)]) (st2 := [.ref 170]) 1 (fun _ _ => rfl) ?_
        refine wr_get (v := vi (s.1 170 52)) rfl rfl rfl (by decide) rfl fun h18 => ?_
        have h18 : -2147483648 ≤ s.1 170 52 ∧ s.1 170 52 ≤ 2147483647 := h18
        show wr (d + 6) tb_M162 193 [(3, vi ((b : Int) + 1)), (2, vi 1), (0, .ref 170), (1, vi n)] [vi (s.1 170 52)] (up2 s.1 170 53 0, s.2) _
        refine wr_reti rfl rfl ?_
        exact ⟨⟨_, rfl⟩, RV_up hC hV (by omega), by show up2 s.1 170 53 0 170 52 = 1 ∨ up2 s.1 170 53 0 170 52 = 3 ∨ _; rw [up_nj (by omega)]; omega⟩
  · refine wr_if2f rfl rfl (by unfold i32; omega) (by unfold i32; omega) h3 ?_
    refine wr_n (pc2 := 152) (lv2 := [(2, vi 1), (3, vi ((b : Int))), (0, .ref 170), (1, vi n)]) (st2 := [.ref 170]) 1 (fun _ _ => rfl) ?_
    refine wr_get (v := vi (s.1 170 52)) rfl rfl rfl (by decide) rfl fun h19 => ?_
    have h19 : -2147483648 ≤ s.1 170 52 ∧ s.1 170 52 ≤ 2147483647 := h19
    show wr (d + 6) tb_M162 155 [(2, vi 1), (3, vi ((b : Int))), (0, .ref 170), (1, vi n)] [vi (s.1 170 52)] s _
    refine wr_n (pc2 := 156) (lv2 := [(2, vi 1), (3, vi ((b : Int))), (0, .ref 170), (1, vi n)]) (st2 := [vi 2, vi (s.1 170 52)]) 1 (fun _ _ => rfl) ?_
    refine wr_if2t rfl rfl (by unfold i32; omega) (by unfold i32; omega) (by show s.1 170 52 ≠ 2; omega) ?_
    show wr (d + 6) tb_M162 167 [(2, vi 1), (3, vi ((b : Int))), (0, .ref 170), (1, vi n)] [] s _
    refine wr_inc (a := (b : Int)) rfl rfl ?_
    show wr (d + 6) tb_M162 170 [(3, vi ((b : Int) + 1)), (2, vi 1), (0, .ref 170), (1, vi n)] [] s _
    refine wr_n (pc2 := 77) (lv2 := [(3, vi ((b : Int) + 1)), (2, vi 1), (0, .ref 170), (1, vi n)]) (st2 := [.ref 170, vi ((b : Int) + 1)]) 3 (fun _ _ => rfl) ?_
    refine wr_get (v := vi (s.1 170 55)) rfl rfl rfl (by decide) rfl fun h20 => ?_
    have h20 : -2147483648 ≤ s.1 170 55 ∧ s.1 170 55 ≤ 2147483647 := h20
    show wr (d + 6) tb_M162 80 [(3, vi ((b : Int) + 1)), (2, vi 1), (0, .ref 170), (1, vi n)] [vi (s.1 170 55), vi ((b : Int) + 1)] s _
    by_cases h21 : s.1 170 55 ≤ (b : Int) + 1
    · refine wr_if2t rfl rfl (by unfold i32; omega) (by unfold i32; omega) h21 ?_
      refine wr_n (pc2 := 64) (lv2 := [(3, vi ((b : Int) + 1)), (2, vi 1), (0, .ref 170), (1, vi n)]) (st2 := [.ref 170]) 4 (fun _ _ => rfl) ?_
      refine wr_get (v := vi (s.1 170 52)) rfl rfl rfl (by decide) rfl fun h22 => ?_
      have h22 : -2147483648 ≤ s.1 170 52 ∧ s.1 170 52 ≤ 2147483647 := h22
      show wr (d + 6) tb_M162 67 [(3, vi ((b : Int) + 1)), (2, vi 1), (0, .ref 170), (1, vi n)] [vi (s.1 170 52)] s _
      refine wr_n (pc2 := 68) (lv2 := [(3, vi ((b : Int) + 1)), (2, vi 1), (0, .ref 170), (1, vi n)]) (st2 := [vi 2, vi (s.1 170 52)]) 1 (fun _ _ => rfl) ?_
      refine wr_if2t rfl rfl (by unfold i32; omega) (by unfold i32; omega) (by show s.1 170 52 ≠ 2; omega) ?_
      show wr (d + 6) tb_M162 176 [(3, vi ((b : Int) + 1)), (2, vi 1), (0, .ref 170), (1, vi n)] [] s _
      refine wr_n (pc2 := 177) (lv2 := [(3, vi ((b : Int) + 1)), (2, vi 1), (0, .ref 170), (1, vi n)]) (st2 := [.ref 170]) 1 (fun _ _ => rfl) ?_
      refine wr_get (v := vi (s.1 170 52)) rfl rfl rfl (by decide) rfl fun h23 => ?_
      have h23 : -2147483648 ≤ s.1 170 52 ∧ s.1 170 52 ≤ 2147483647 := h23
      show wr (d + 6) tb_M162 180 [(3, vi ((b : Int) + 1)), (2, vi 1), (0, .ref 170), (1, vi n)] [vi (s.1 170 52)] s _
      refine wr_n (pc2 := 181) (lv2 := [(3, vi ((b : Int) + 1)), (2, vi 1), (0, .ref 170), (1, vi n)]) (st2 := [vi 3, vi (s.1 170 52)]) 1 (fun _ _ => rfl) ?_
      by_cases h24 : s.1 170 52 ≠ 3
      · refine wr_if2t rfl rfl (by unfold i32; omega) (by unfold i32; omega) h24 ?_
        refine wr_n (pc2 := 190) (lv2 := [(3, vi ((b : Int) + 1)), (2, vi 1), (0, .ref 170), (1, vi n)]) (st2 := [.ref 170]) 1 (fun _ _ => rfl) ?_
        refine wr_get (v := vi (s.1 170 52)) rfl rfl rfl (by decide) rfl fun h25 => ?_
        have h25 : -2147483648 ≤ s.1 170 52 ∧ s.1 170 52 ≤ 2147483647 := h25
        show wr (d + 6) tb_M162 193 [(3, vi ((b : Int) + 1)), (2, vi 1), (0, .ref 170), (1, vi n)] [vi (s.1 170 52)] s _
        refine wr_reti rfl rfl ?_
        exact ⟨⟨_, rfl⟩, hV, by omega⟩
      · refine wr_if2f rfl rfl (by unfold i32; omega) (by unfold i32; omega) h24 ?_
        refine wr_n (pc2 := 186) (lv2 := [(3, vi ((b : Int) + 1)), (2, vi 1), (0, .ref 170), (1, vi n)]) (st2 := [vi 0, .ref 170]) 2 (fun _ _ => rfl) ?_
        refine wr_put (z := 0) rfl rfl rfl rfl (by decide) rfl (by decide) rfl (show -2147483648 ≤ 0 ∧ 0 ≤ 2147483647 by omega) (hf_int' _) ?_
        show wr (d + 6) tb_M162 189 [(3, vi ((b : Int) + 1)), (2, vi 1), (0, .ref 170), (1, vi n)] [] (up2 s.1 170 53 0, s.2) _
        have hR26 : RF (up2 s.1 170 53 0) := (RF_up hR rfl)
        refine wr_n (pc2 := 190) (lv2 := [(3, vi ((b : Int) + 1)), (2, vi 1), (0, .ref 170), (1, vi n)]) (st2 := [.ref 170]) 1 (fun _ _ => rfl) ?_
        refine wr_get (v := vi (s.1 170 52)) rfl rfl rfl (by decide) rfl fun h27 => ?_
        have h27 : -2147483648 ≤ s.1 170 52 ∧ s.1 170 52 ≤ 2147483647 := h27
        show wr (d + 6) tb_M162 193 [(3, vi ((b : Int) + 1)), (2, vi 1), (0, .ref 170), (1, vi n)] [vi (s.1 170 52)] (up2 s.1 170 53 0, s.2) _
        refine wr_reti rfl rfl ?_
        exact ⟨⟨_, rfl⟩, RV_up hC hV (by omega), by show up2 s.1 170 53 0 170 52 = 1 ∨ up2 s.1 170 53 0 170 52 = 3 ∨ _; rw [up_nj (by omega)]; omega⟩
    · refine wr_if2f rfl rfl (by unfold i32; omega) (by unfold i32; omega) h21 ?_
      refine wr_n (pc2 := 84) (lv2 := [(3, vi ((b : Int) + 1)), (2, vi 1), (0, .ref 170), (1, vi n)]) (st2 := [.ref 170]) 1 (fun _ _ => rfl) ?_
      refine wr_get (v := vi (s.1 170 52)) rfl rfl rfl (by decide) rfl fun h28 => ?_
      have h28 : -2147483648 ≤ s.1 170 52 ∧ s.1 170 52 ≤ 2147483647 := h28
      show wr (d + 6) tb_M162 87 [(3, vi ((b : Int) + 1)), (2, vi 1), (0, .ref 170), (1, vi n)] [vi (s.1 170 52)] s _
      refine wr_n (pc2 := 88) (lv2 := [(3, vi ((b : Int) + 1)), (2, vi 1), (0, .ref 170), (1, vi n)]) (st2 := [vi 2, vi (s.1 170 52)]) 1 (fun _ _ => rfl) ?_
      refine wr_if2t rfl rfl (by unfold i32; omega) (by unfold i32; omega) (by show s.1 170 52 ≠ 2; omega) ?_
      show wr (d + 6) tb_M162 173 [(3, vi ((b : Int) + 1)), (2, vi 1), (0, .ref 170), (1, vi n)] [] s _
      refine wr_n (pc2 := 64) (lv2 := [(3, vi ((b : Int) + 1)), (2, vi 1), (0, .ref 170), (1, vi n)]) (st2 := [.ref 170]) 4 (fun _ _ => rfl) ?_
      refine wr_get (v := vi (s.1 170 52)) rfl rfl rfl (by decide) rfl fun h29 => ?_
      have h29 : -2147483648 ≤ s.1 170 52 ∧ s.1 170 52 ≤ 2147483647 := h29
      show wr (d + 6) tb_M162 67 [(3, vi ((b : Int) + 1)), (2, vi 1), (0, .ref 170), (1, vi n)] [vi (s.1 170 52)] s _
      refine wr_n (pc2 := 68) (lv2 := [(3, vi ((b : Int) + 1)), (2, vi 1), (0, .ref 170), (1, vi n)]) (st2 := [vi 2, vi (s.1 170 52)]) 1 (fun _ _ => rfl) ?_
      refine wr_if2t rfl rfl (by unfold i32; omega) (by unfold i32; omega) (by show s.1 170 52 ≠ 2; omega) ?_
      show wr (d + 6) tb_M162 176 [(3, vi ((b : Int) + 1)), (2, vi 1), (0, .ref 170), (1, vi n)] [] s _
      refine wr_n (pc2 := 177) (lv2 := [(3, vi ((b : Int) + 1)), (2, vi 1), (0, .ref 170), (1, vi n)]) (st2 := [.ref 170]) 1 (fun _ _ => rfl) ?_
      refine wr_get (v := vi (s.1 170 52)) rfl rfl rfl (by decide) rfl fun h30 => ?_
      have h30 : -2147483648 ≤ s.1 170 52 ∧ s.1 170 52 ≤ 2147483647 := h30
      show wr (d + 6) tb_M162 180 [(3, vi ((b : Int) + 1)), (2, vi 1), (0, .ref 170), (1, vi n)] [vi (s.1 170 52)] s _
      refine wr_n (pc2 := 181) (lv2 := [(3, vi ((b : Int) + 1)), (2, vi 1), (0, .ref 170), (1, vi n)]) (st2 := [vi 3, vi (s.1 170 52)]) 1 (fun _ _ => rfl) ?_
      by_cases h31 : s.1 170 52 ≠ 3
      · refine wr_if2t rfl rfl (by unfold i32; omega) (by unfold i32; omega) h31 ?_
        refine wr_n (pc2 := 190) (lv2 := [(3, vi ((b : Int) + 1)), (2, vi 1), (0, .ref 170), (1, vi n)]) (st2 := [.ref 170]) 1 (fun _ _ => rfl) ?_
        refine wr_get (v := vi (s.1 170 52)) rfl rfl rfl (by decide) rfl fun h32 => ?_
        have h32 : -2147483648 ≤ s.1 170 52 ∧ s.1 170 52 ≤ 2147483647 := h32
        show wr (d + 6) tb_M162 193 [(3, vi ((b : Int) + 1)), (2, vi 1), (0, .ref 170), (1, vi n)] [vi (s.1 170 52)] s _
        refine wr_reti rfl rfl ?_
        exact ⟨⟨_, rfl⟩, hV, by omega⟩
      · refine wr_if2f rfl rfl (by unfold i32; omega) (by unfold i32; omega) h31 ?_
        refine wr_n (pc2 := 186) (lv2 := [(3, vi ((b : Int) + 1)), (2, vi 1), (0, .ref 170), (1, vi n)]) (st2 := [vi 0, .ref 170]) 2 (fun _ _ => rfl) ?_
        refine wr_put (z := 0) rfl rfl rfl rfl (by decide) rfl (by decide) rfl (show -2147483648 ≤ 0 ∧ 0 ≤ 2147483647 by omega) (hf_int' _) ?_
        show wr (d + 6) tb_M162 189 [(3, vi ((b : Int) + 1)), (2, vi 1), (0, .ref 170), (1, vi n)] [] (up2 s.1 170 53 0, s.2) _
        have hR33 : RF (up2 s.1 170 53 0) := (RF_up hR rfl)
        refine wr_n (pc2 := 190) (lv2 := [(3, vi ((b : Int) + 1)), (2, vi 1), (0, .ref 170), (1, vi n)]) (st2 := [.ref 170]) 1 (fun _ _ => rfl) ?_
        refine wr_get (v := vi (s.1 170 52)) rfl rfl rfl (by decide) rfl fun h34 => ?_
        have h34 : -2147483648 ≤ s.1 170 52 ∧ s.1 170 52 ≤ 2147483647 := h34
        show wr (d + 6) tb_M162 193 [(3, vi ((b : Int) + 1)), (2, vi 1), (0, .ref 170), (1, vi n)] [vi (s.1 170 52)] (up2 s.1 170 53 0, s.2) _
        refine wr_reti rfl rfl ?_
        exact ⟨⟨_, rfl⟩, RV_up hC hV (by omega), by show up2 s.1 170 53 0 170 52 = 1 ∨ up2 s.1 170 53 0 170 52 = 3 ∨ _; rw [up_nj (by omega)]; omega⟩
set_option maxHeartbeats 20000000 in
set_option maxRecDepth 100000 in
theorem l_go {d C na b : Nat} {n : Int} {F : Ph} {G : Nat → gB} {own : Nat → Nat → Prop} {s0 s : rS} (hC : C = 177 ∨ C = 186) (hQ : RQz C F na s0 G own s) (hb : (b : Int) < s.1 170 55) (hg : s.1 206 b = 1) (hB : ∀ (s2 : rS) (G2 : Nat → gB) (own2 : Nat → Nat → Prop), RQz C F na s0 G2 own2 s2 → l3 (ms s2.1 G2) (ms s.1 G) → (b : Int) < s2.1 170 55 → wr (d + 6) tb_M162 141 [(2, vi 1), (3, vi ((b : Int))), (0, .ref 170), (1, vi n)] [] s2 (RU C F na s0)) : wr (d + 6) tb_M162 141 [(2, vi 1), (3, vi ((b : Int))), (0, .ref 170), (1, vi n)] [] s (RU C F na s0) := by
  have hR := hQ.1.2.1
  have h55 := hQ.2.2.1.1
  have hst := hQ.2.1
  refine wr_n (pc2 := 142) (lv2 := [(2, vi 1), (3, vi ((b : Int))), (0, .ref 170), (1, vi n)]) (st2 := [.ref 170]) 1 (fun _ _ => rfl) ?_
  refine wr_get (v := .ref 206) rfl rfl rfl (by decide) (rv_ref (hR 170 41 206 rfl)) fun h1 => ?_
  show wr (d + 6) tb_M162 145 [(2, vi 1), (3, vi ((b : Int))), (0, .ref 170), (1, vi n)] [.ref 206] s _
  refine wr_n (pc2 := 146) (lv2 := [(2, vi 1), (3, vi ((b : Int))), (0, .ref 170), (1, vi n)]) (st2 := [vi ((b : Int)), .ref 206]) 1 (fun _ _ => rfl) ?_
  refine wr_ald (a := (b : Int)) (v := vi (s.1 206 b)) rfl rfl rfl (by omega) (by omega) (by decide) rfl fun h2 => ?_
  have h2 : -2147483648 ≤ s.1 206 b ∧ s.1 206 b ≤ 2147483647 := h2
  show wr (d + 6) tb_M162 147 [(2, vi 1), (3, vi ((b : Int))), (0, .ref 170), (1, vi n)] [vi (s.1 206 b)] s _
  refine wr_n (pc2 := 148) (lv2 := [(2, vi 1), (3, vi ((b : Int))), (0, .ref 170), (1, vi n)]) (st2 := [vi 1, vi (s.1 206 b)]) 1 (fun _ _ => rfl) ?_
  refine wr_if2f rfl rfl (by unfold i32; omega) (by unfold i32; omega) (by show ¬ (s.1 206 b ≠ 1); omega) ?_
  show wr (d + 6) tb_M162 151 [(2, vi 1), (3, vi ((b : Int))), (0, .ref 170), (1, vi n)] [] s _
  refine wr_n (pc2 := 152) (lv2 := [(2, vi 1), (3, vi ((b : Int))), (0, .ref 170), (1, vi n)]) (st2 := [.ref 170]) 1 (fun _ _ => rfl) ?_
  refine wr_get (v := vi (s.1 170 52)) rfl rfl rfl (by decide) rfl fun h3 => ?_
  have h3 : -2147483648 ≤ s.1 170 52 ∧ s.1 170 52 ≤ 2147483647 := h3
  show wr (d + 6) tb_M162 155 [(2, vi 1), (3, vi ((b : Int))), (0, .ref 170), (1, vi n)] [vi (s.1 170 52)] s _
  refine wr_n (pc2 := 156) (lv2 := [(2, vi 1), (3, vi ((b : Int))), (0, .ref 170), (1, vi n)]) (st2 := [vi 2, vi (s.1 170 52)]) 1 (fun _ _ => rfl) ?_
  refine wr_if2f rfl rfl (by unfold i32; omega) (by unfold i32; omega) (by show ¬ (s.1 170 52 ≠ 2); omega) ?_
  show wr (d + 6) tb_M162 159 [(2, vi 1), (3, vi ((b : Int))), (0, .ref 170), (1, vi n)] [] s _
  refine wr_n (pc2 := 161) (lv2 := [(2, vi 1), (3, vi ((b : Int))), (0, .ref 170), (1, vi n)]) (st2 := [vi ((b : Int)), .ref 170]) 2 (fun _ _ => rfl) ?_
  refine wr_call1 (args := [vi ((b : Int))]) (rest := []) rfl rfl rfl rfl (Nat.le_of_ble_eq_true rfl) (cr_mono (p_one (d := d) hC hQ.1.2.1 hQ.1.2.2.2 hQ.2.2.1 (by omega) hb hg hQ.2.1 hQ.2.2.2) ?_)
  rintro s4 out ⟨rfl, hO⟩
  · refine ⟨_, rfl, ?_⟩
    show wr (d + 6) tb_M162 164 [(2, vi 1), (3, vi ((b : Int))), (0, .ref 170), (1, vi n)] [] s4 _
    refine wr_n (pc2 := 141) (lv2 := [(2, vi 1), (3, vi ((b : Int))), (0, .ref 170), (1, vi n)]) (st2 := []) 1 (fun _ _ => rfl) ?_
    rcases RQ_ON hC hQ (b := b) (s2 := s4) (out := some none) ⟨rfl, hO⟩ with ⟨hV2, h13⟩ | ⟨G2, own2, hQ2, hl, h5⟩
    · exact l_fin (G := G) (own := own) hC (by omega) hV2 h13
    · exact hB _ G2 own2 hQ2 hl (by omega)
set_option maxHeartbeats 20000000 in
set_option maxRecDepth 100000 in
theorem l_75 {a : Int} {d C na : Nat} {n : Int} {F : Ph} {G : Nat → gB} {own : Nat → Nat → Prop} {s0 s : rS} (hC : C = 177 ∨ C = 186) (hQ : RQz C F na s0 G own s) (hB : ∀ (b : Nat) (s2 : rS) (G2 : Nat → gB) (own2 : Nat → Nat → Prop), RQz C F na s0 G2 own2 s2 → l3 (ms s2.1 G2) (ms s.1 G) → (b : Int) < s2.1 170 55 → wr (d + 6) tb_M162 141 [(2, vi 1), (3, vi ((b : Int))), (0, .ref 170), (1, vi n)] [] s2 (RU C F na s0)) (ha : a = 0 ∨ a = 1) (hE : a = 1 → wr (d + 6) tb_M162 75 [(3, vi 0), (2, vi 0), (0, .ref 170), (1, vi n)] [] s (RU C F na s0)) : ∀ (w b : Nat), (s.1 170 55 - b).toNat = w → b ≤ 700 → wr (d + 6) tb_M162 75 [(3, vi ((b : Int))), (2, vi a), (0, .ref 170), (1, vi n)] [] s (RU C F na s0) := by
  intro w
  have hR := hQ.1.2.1
  have h55 := hQ.2.2.1.1
  have hst := hQ.2.1
  induction w using Nat.strongRecOn with | ind w ih => ?_
  intro b hw hb7
  have hhb : (b : Int) < s.1 170 55 → s.1 206 b = 0 ∨ 1 ≤ s.1 206 b ∧ s.1 206 b ≤ 6 := fun q => by
    by_cases e : s.1 206 b = 0
    · exact .inl e
    · exact .inr (hQ.2.2.1.2.1 b ⟨q, e⟩).2.1
  refine wr_n (pc2 := 77) (lv2 := [(3, vi ((b : Int))), (2, vi a), (0, .ref 170), (1, vi n)]) (st2 := [.ref 170, vi ((b : Int))]) 2 (fun _ _ => rfl) ?_
  refine wr_get (v := vi (s.1 170 55)) rfl rfl rfl (by decide) rfl fun h1 => ?_
  have h1 : -2147483648 ≤ s.1 170 55 ∧ s.1 170 55 ≤ 2147483647 := h1
  show wr (d + 6) tb_M162 80 [(3, vi ((b : Int))), (2, vi a), (0, .ref 170), (1, vi n)] [vi (s.1 170 55), vi ((b : Int))] s _
  by_cases h2 : s.1 170 55 ≤ (b : Int)
  · refine wr_if2t rfl rfl (by unfold i32; omega) (by unfold i32; omega) h2 ?_
    refine wr_n (pc2 := 60) (lv2 := [(3, vi ((b : Int))), (2, vi a), (0, .ref 170), (1, vi n)]) (st2 := [vi a]) 2 (fun _ _ => rfl) ?_
    by_cases h3 : a = 0
    · refine wr_if1t rfl rfl (by unfold i32; omega) h3 ?_
      refine wr_n (pc2 := 177) (lv2 := [(3, vi ((b : Int))), (2, vi a), (0, .ref 170), (1, vi n)]) (st2 := [.ref 170]) 1 (fun _ _ => rfl) ?_
      refine wr_get (v := vi (s.1 170 52)) rfl rfl rfl (by decide) rfl fun h4 => ?_
      have h4 : -2147483648 ≤ s.1 170 52 ∧ s.1 170 52 ≤ 2147483647 := h4
      show wr (d + 6) tb_M162 180 [(3, vi ((b : Int))), (2, vi a), (0, .ref 170), (1, vi n)] [vi (s.1 170 52)] s _
      refine wr_n (pc2 := 181) (lv2 := [(3, vi ((b : Int))), (2, vi a), (0, .ref 170), (1, vi n)]) (st2 := [vi 3, vi (s.1 170 52)]) 1 (fun _ _ => rfl) ?_
      refine wr_if2t rfl rfl (by unfold i32; omega) (by unfold i32; omega) (by show s.1 170 52 ≠ 3; omega) ?_
      show wr (d + 6) tb_M162 189 [(3, vi ((b : Int))), (2, vi a), (0, .ref 170), (1, vi n)] [] s _
      refine wr_n (pc2 := 190) (lv2 := [(3, vi ((b : Int))), (2, vi a), (0, .ref 170), (1, vi n)]) (st2 := [.ref 170]) 1 (fun _ _ => rfl) ?_
      refine wr_get (v := vi (s.1 170 52)) rfl rfl rfl (by decide) rfl fun h5 => ?_
      have h5 : -2147483648 ≤ s.1 170 52 ∧ s.1 170 52 ≤ 2147483647 := h5
      show wr (d + 6) tb_M162 193 [(3, vi ((b : Int))), (2, vi a), (0, .ref 170), (1, vi n)] [vi (s.1 170 52)] s _
      refine wr_reti rfl rfl ?_
      exact ⟨⟨_, rfl⟩, hQ.1, .inr (.inr ⟨hst, G, own, hQ.2.2.1⟩)⟩
    · refine wr_if1f rfl rfl (by unfold i32; omega) h3 ?_
      refine wr_n (pc2 := 64) (lv2 := [(3, vi ((b : Int))), (2, vi a), (0, .ref 170), (1, vi n)]) (st2 := [.ref 170]) 1 (fun _ _ => rfl) ?_
      refine wr_get (v := vi (s.1 170 52)) rfl rfl rfl (by decide) rfl fun h6 => ?_
      have h6 : -2147483648 ≤ s.1 170 52 ∧ s.1 170 52 ≤ 2147483647 := h6
      show wr (d + 6) tb_M162 67 [(3, vi ((b : Int))), (2, vi a), (0, .ref 170), (1, vi n)] [vi (s.1 170 52)] s _
      refine wr_n (pc2 := 68) (lv2 := [(3, vi ((b : Int))), (2, vi a), (0, .ref 170), (1, vi n)]) (st2 := [vi 2, vi (s.1 170 52)]) 1 (fun _ _ => rfl) ?_
      refine wr_if2f rfl rfl (by unfold i32; omega) (by unfold i32; omega) (by show ¬ (s.1 170 52 ≠ 2); omega) ?_
      show wr (d + 6) tb_M162 71 [(3, vi ((b : Int))), (2, vi a), (0, .ref 170), (1, vi n)] [] s _
      refine wr_n (pc2 := 75) (lv2 := [(3, vi 0), (2, vi 0), (0, .ref 170), (1, vi n)]) (st2 := []) 4 (fun _ _ => rfl) ?_
      exact hE (by omega)
  · refine wr_if2f rfl rfl (by unfold i32; omega) (by unfold i32; omega) h2 ?_
    refine wr_n (pc2 := 84) (lv2 := [(3, vi ((b : Int))), (2, vi a), (0, .ref 170), (1, vi n)]) (st2 := [.ref 170]) 1 (fun _ _ => rfl) ?_
    refine wr_get (v := vi (s.1 170 52)) rfl rfl rfl (by decide) rfl fun h7 => ?_
    have h7 : -2147483648 ≤ s.1 170 52 ∧ s.1 170 52 ≤ 2147483647 := h7
    show wr (d + 6) tb_M162 87 [(3, vi ((b : Int))), (2, vi a), (0, .ref 170), (1, vi n)] [vi (s.1 170 52)] s _
    refine wr_n (pc2 := 88) (lv2 := [(3, vi ((b : Int))), (2, vi a), (0, .ref 170), (1, vi n)]) (st2 := [vi 2, vi (s.1 170 52)]) 1 (fun _ _ => rfl) ?_
    refine wr_if2f rfl rfl (by unfold i32; omega) (by unfold i32; omega) (by show ¬ (s.1 170 52 ≠ 2); omega) ?_
    show wr (d + 6) tb_M162 91 [(3, vi ((b : Int))), (2, vi a), (0, .ref 170), (1, vi n)] [] s _
    refine wr_n (pc2 := 92) (lv2 := [(3, vi ((b : Int))), (2, vi a), (0, .ref 170), (1, vi n)]) (st2 := [.ref 170]) 1 (fun _ _ => rfl) ?_
    refine wr_get (v := .ref 206) rfl rfl rfl (by decide) (rv_ref (hR 170 41 206 rfl)) fun h8 => ?_
    show wr (d + 6) tb_M162 95 [(3, vi ((b : Int))), (2, vi a), (0, .ref 170), (1, vi n)] [.ref 206] s _
    refine wr_n (pc2 := 96) (lv2 := [(3, vi ((b : Int))), (2, vi a), (0, .ref 170), (1, vi n)]) (st2 := [vi ((b : Int)), .ref 206]) 1 (fun _ _ => rfl) ?_
    refine wr_ald (a := (b : Int)) (v := vi (s.1 206 b)) rfl rfl rfl (by omega) (by omega) (by decide) rfl fun h9 => ?_
    have h9 : -2147483648 ≤ s.1 206 b ∧ s.1 206 b ≤ 2147483647 := h9
    show wr (d + 6) tb_M162 97 [(3, vi ((b : Int))), (2, vi a), (0, .ref 170), (1, vi n)] [vi (s.1 206 b)] s _
    by_cases h10 : s.1 206 b = 0
    · refine wr_if1t rfl rfl (by unfold i32; omega) h10 ?_
      refine wr_inc (a := (b : Int)) rfl rfl ?_
      show wr (d + 6) tb_M162 170 [(3, vi ((b : Int) + 1)), (2, vi a), (0, .ref 170), (1, vi n)] [] s _
      refine wr_n (pc2 := 75) (lv2 := [(3, vi ((b : Int) + 1)), (2, vi a), (0, .ref 170), (1, vi n)]) (st2 := []) 1 (fun _ _ => rfl) ?_
      rw [show (b : Int) + 1 = ((b + 1 : Nat) : Int) from rfl]
      exact ih _ (by omega) (b + 1) rfl (by omega)
    · refine wr_if1f rfl rfl (by unfold i32; omega) h10 ?_
      refine wr_n (pc2 := 101) (lv2 := [(3, vi ((b : Int))), (2, vi a), (0, .ref 170), (1, vi n)]) (st2 := [.ref 170]) 1 (fun _ _ => rfl) ?_
      refine wr_get (v := .ref 206) rfl rfl rfl (by decide) (rv_ref (hR 170 41 206 rfl)) fun h11 => ?_
      show wr (d + 6) tb_M162 104 [(3, vi ((b : Int))), (2, vi a), (0, .ref 170), (1, vi n)] [.ref 206] s _
      refine wr_n (pc2 := 105) (lv2 := [(3, vi ((b : Int))), (2, vi a), (0, .ref 170), (1, vi n)]) (st2 := [vi ((b : Int)), .ref 206]) 1 (fun _ _ => rfl) ?_
      refine wr_ald (a := (b : Int)) (v := vi (s.1 206 b)) rfl rfl rfl (by omega) (by omega) (by decide) rfl fun h12 => ?_
      have h12 : -2147483648 ≤ s.1 206 b ∧ s.1 206 b ≤ 2147483647 := h12
      show wr (d + 6) tb_M162 106 [(3, vi ((b : Int))), (2, vi a), (0, .ref 170), (1, vi n)] [vi (s.1 206 b)] s _
      refine wr_n (pc2 := 108) (lv2 := [(3, vi ((b : Int))), (2, vi a), (0, .ref 170), (1, vi n)]) (st2 := [vi 6, vi (s.1 206 b)]) 1 (fun _ _ => rfl) ?_
      by_cases h13 : s.1 206 b = 6
      · refine wr_if2t rfl rfl (by unfold i32; omega) (by unfold i32; omega) h13 ?_
        refine wr_inc (a := (b : Int)) rfl rfl ?_
        show wr (d + 6) tb_M162 170 [(3, vi ((b : Int) + 1)), (2, vi a), (0, .ref 170), (1, vi n)] [] s _
        refine wr_n (pc2 := 75) (lv2 := [(3, vi ((b : Int) + 1)), (2, vi a), (0, .ref 170), (1, vi n)]) (st2 := []) 1 (fun _ _ => rfl) ?_
        rw [show (b : Int) + 1 = ((b + 1 : Nat) : Int) from rfl]
        exact ih _ (by omega) (b + 1) rfl (by omega)
      · refine wr_if2f rfl rfl (by unfold i32; omega) (by unfold i32; omega) h13 ?_
        refine wr_n (pc2 := 112) (lv2 := [(3, vi ((b : Int))), (2, vi a), (0, .ref 170), (1, vi n)]) (st2 := [.ref 170]) 1 (fun _ _ => rfl) ?_
        refine wr_get (v := .ref 206) rfl rfl rfl (by decide) (rv_ref (hR 170 41 206 rfl)) fun h14 => ?_
        show wr (d + 6) tb_M162 115 [(3, vi ((b : Int))), (2, vi a), (0, .ref 170), (1, vi n)] [.ref 206] s _
        refine wr_n (pc2 := 116) (lv2 := [(3, vi ((b : Int))), (2, vi a), (0, .ref 170), (1, vi n)]) (st2 := [vi ((b : Int)), .ref 206]) 1 (fun _ _ => rfl) ?_
        refine wr_ald (a := (b : Int)) (v := vi (s.1 206 b)) rfl rfl rfl (by omega) (by omega) (by decide) rfl fun h15 => ?_
        have h15 : -2147483648 ≤ s.1 206 b ∧ s.1 206 b ≤ 2147483647 := h15
        show wr (d + 6) tb_M162 117 [(3, vi ((b : Int))), (2, vi a), (0, .ref 170), (1, vi n)] [vi (s.1 206 b)] s _
        refine wr_n (pc2 := 118) (lv2 := [(3, vi ((b : Int))), (2, vi a), (0, .ref 170), (1, vi n)]) (st2 := [vi 1, vi (s.1 206 b)]) 1 (fun _ _ => rfl) ?_
        by_cases h16 : s.1 206 b = 1
        · refine wr_if2t rfl rfl (by unfold i32; omega) (by unfold i32; omega) h16 ?_
          refine wr_n (pc2 := 135) (lv2 := [(2, vi 1), (3, vi ((b : Int))), (0, .ref 170), (1, vi n)]) (st2 := [.ref 170]) 3 (fun _ _ => rfl) ?_
          refine wr_get (v := .ref 206) rfl rfl rfl (by decide) (rv_ref (hR 170 41 206 rfl)) fun h17 => ?_
          show wr (d + 6) tb_M162 138 [(2, vi 1), (3, vi ((b : Int))), (0, .ref 170), (1, vi n)] [.ref 206] s _
          refine wr_n (pc2 := 140) (lv2 := [(2, vi 1), (3, vi ((b : Int))), (0, .ref 170), (1, vi n)]) (st2 := [vi 1, vi ((b : Int)), .ref 206]) 2 (fun _ _ => rfl) ?_
          refine wr_ast (a := (b : Int)) (z := 1) rfl (by decide) rfl rfl (by omega) (by omega) (by decide) rfl (show -2147483648 ≤ 1 ∧ 1 ≤ 2147483647 by omega) ?_
          show wr (d + 6) tb_M162 141 [(2, vi 1), (3, vi ((b : Int))), (0, .ref 170), (1, vi n)] [] (up2 s.1 206 b 1, s.2) _
          have hR18 : RF (up2 s.1 206 b 1) := (RF_up hR rfl)
          rw [show (up2 s.1 206 b 1, s.2) = s by rw [up_same (by omega)]]
          exact l_go hC hQ (by omega) (by omega) (fun s3 G3 own3 h3 hl h5 => hB b s3 G3 own3 h3 hl h5)
        · refine wr_if2f rfl rfl (by unfold i32; omega) (by unfold i32; omega) h16 ?_
          refine wr_n (pc2 := 123) (lv2 := [(3, vi ((b : Int))), (2, vi a), (0, .ref 170), (1, vi n)]) (st2 := [vi ((b : Int)), .ref 170]) 2 (fun _ _ => rfl) ?_
          refine wr_call1 (args := [vi ((b : Int))]) (rest := []) rfl rfl rfl rfl (Nat.le_of_ble_eq_true rfl) (cr_mono (p_isFree (d := d + 4) hR hQ.2.2.1 (by omega) (by omega) (by omega)) ?_)
          rintro s19 out (⟨e9, rfl⟩ | ⟨rfl, hcw, hRw, hXw, h70, h30, G2, hI2, hm2⟩)
          · refine ⟨_, rfl, ?_⟩
            rw [e9]
            show wr (d + 6) tb_M162 126 [(3, vi ((b : Int))), (2, vi a), (0, .ref 170), (1, vi n)] [vi 0] s _
            refine wr_n (pc2 := 167) (lv2 := [(3, vi ((b : Int))), (2, vi a), (0, .ref 170), (1, vi n)]) (st2 := []) 2 (fun _ _ => rfl) ?_
            refine wr_inc (a := (b : Int)) rfl rfl ?_
            show wr (d + 6) tb_M162 170 [(3, vi ((b : Int) + 1)), (2, vi a), (0, .ref 170), (1, vi n)] [] s _
            refine wr_n (pc2 := 75) (lv2 := [(3, vi ((b : Int) + 1)), (2, vi a), (0, .ref 170), (1, vi n)]) (st2 := []) 1 (fun _ _ => rfl) ?_
            rw [show (b : Int) + 1 = ((b + 1 : Nat) : Int) from rfl]
            exact ih _ (by omega) (b + 1) rfl (by omega)
          · refine ⟨_, rfl, ?_⟩
            show wr (d + 6) tb_M162 126 [(3, vi ((b : Int))), (2, vi a), (0, .ref 170), (1, vi n)] [vi 1] s19 _
            have hRw : RF s19.1 := hRw
            refine wr_n (pc2 := 135) (lv2 := [(2, vi 1), (3, vi ((b : Int))), (0, .ref 170), (1, vi n)]) (st2 := [.ref 170]) 4 (fun _ _ => rfl) ?_
            refine wr_get (v := .ref 206) rfl rfl rfl (by decide) (rv_ref (hRw 170 41 206 rfl)) fun h21 => ?_
            show wr (d + 6) tb_M162 138 [(2, vi 1), (3, vi ((b : Int))), (0, .ref 170), (1, vi n)] [.ref 206] s19 _
            refine wr_n (pc2 := 140) (lv2 := [(2, vi 1), (3, vi ((b : Int))), (0, .ref 170), (1, vi n)]) (st2 := [vi 1, vi ((b : Int)), .ref 206]) 2 (fun _ _ => rfl) ?_
            refine wr_ast (a := (b : Int)) (z := 1) rfl (by decide) rfl rfl (by omega) (by omega) (by decide) rfl (show -2147483648 ≤ 1 ∧ 1 ≤ 2147483647 by omega) ?_
            show wr (d + 6) tb_M162 141 [(2, vi 1), (3, vi ((b : Int))), (0, .ref 170), (1, vi n)] [] (up2 s19.1 206 b 1, s19.2) _
            have hR22 : RF (up2 s19.1 206 b 1) := (RF_up hRw rfl)
            obtain ⟨hQ2, hl2⟩ := RQ_WK (s2 := s19) hC hQ hcw hXw h70 h30 hI2 hm2
            exact l_go hC hQ2 (by show (b : Int) < up2 s19.1 206 b 1 170 55; rw [up_nk (by omega), h70]; omega) up_self (fun s3 G3 own3 h3 hl h5 => hB b s3 G3 own3 h3 (hl2 _ hl) h5)
set_option maxHeartbeats 20000000 in
set_option maxRecDepth 100000 in
theorem l_run {d C na : Nat} {n : Int} {F : Ph} {s0 : rS} (hC : C = 177 ∨ C = 186) : ∀ (t : Nat × Nat × Nat) (s : rS) (G : Nat → gB) (own : Nat → Nat → Prop), RQz C F na s0 G own s → ms s.1 G = t → (∀ (b : Nat) (a : Int), b ≤ 700 → a = 0 ∨ a = 1 → wr (d + 6) tb_M162 75 [(3, vi ((b : Int))), (2, vi a), (0, .ref 170), (1, vi n)] [] s (RU C F na s0)) ∧ (∀ b : Nat, (b : Int) < s.1 170 55 → wr (d + 6) tb_M162 141 [(2, vi 1), (3, vi ((b : Int))), (0, .ref 170), (1, vi n)] [] s (RU C F na s0)) := by
  refine l3_ind ?_
  intro t ih s G own hQ ht
  subst ht
  have hB : ∀ (b : Nat) (s2 : rS) (G2 : Nat → gB) (own2 : Nat → Nat → Prop), RQz C F na s0 G2 own2 s2 → l3 (ms s2.1 G2) (ms s.1 G) → (b : Int) < s2.1 170 55 → wr (d + 6) tb_M162 141 [(2, vi 1), (3, vi ((b : Int))), (0, .ref 170), (1, vi n)] [] s2 (RU C F na s0) := fun b s2 G2 own2 h2 hl h5 => (ih _ hl s2 G2 own2 h2 rfl).2 b h5
  have h750 : ∀ b : Nat, b ≤ 700 → wr (d + 6) tb_M162 75 [(3, vi ((b : Int))), (2, vi 0), (0, .ref 170), (1, vi n)] [] s (RU C F na s0) := fun b hb => l_75 hC hQ hB (.inl rfl) (fun q => absurd q (by omega)) _ b rfl hb
  have h75 : ∀ (b : Nat) (a : Int), b ≤ 700 → a = 0 ∨ a = 1 → wr (d + 6) tb_M162 75 [(3, vi ((b : Int))), (2, vi a), (0, .ref 170), (1, vi n)] [] s (RU C F na s0) := fun b a hb ha => l_75 hC hQ hB ha (fun _ => h750 0 (by omega)) _ b rfl hb
  refine ⟨h75, fun b hb => ?_⟩
  have hR := hQ.1.2.1
  have h55 := hQ.2.2.1.1
  by_cases hg : s.1 206 b = 1
  · exact l_go hC hQ hb hg (fun s3 G3 own3 h3 hl h5 => hB b s3 G3 own3 h3 hl h5)
  · refine wr_n (pc2 := 142) (lv2 := [(2, vi 1), (3, vi ((b : Int))), (0, .ref 170), (1, vi n)]) (st2 := [.ref 170]) 1 (fun _ _ => rfl) ?_
    refine wr_get (v := .ref 206) rfl rfl rfl (by decide) (rv_ref (hR 170 41 206 rfl)) fun h1 => ?_
    show wr (d + 6) tb_M162 145 [(2, vi 1), (3, vi ((b : Int))), (0, .ref 170), (1, vi n)] [.ref 206] s _
    refine wr_n (pc2 := 146) (lv2 := [(2, vi 1), (3, vi ((b : Int))), (0, .ref 170), (1, vi n)]) (st2 := [vi ((b : Int)), .ref 206]) 1 (fun _ _ => rfl) ?_
    refine wr_ald (a := (b : Int)) (v := vi (s.1 206 b)) rfl rfl rfl (by omega) (by omega) (by decide) rfl fun h2 => ?_
    have h2 : -2147483648 ≤ s.1 206 b ∧ s.1 206 b ≤ 2147483647 := h2
    show wr (d + 6) tb_M162 147 [(2, vi 1), (3, vi ((b : Int))), (0, .ref 170), (1, vi n)] [vi (s.1 206 b)] s _
    refine wr_n (pc2 := 148) (lv2 := [(2, vi 1), (3, vi ((b : Int))), (0, .ref 170), (1, vi n)]) (st2 := [vi 1, vi (s.1 206 b)]) 1 (fun _ _ => rfl) ?_
    refine wr_if2t rfl rfl (by unfold i32; omega) (by unfold i32; omega) (by show s.1 206 b ≠ 1; omega) ?_
    show wr (d + 6) tb_M162 167 [(2, vi 1), (3, vi ((b : Int))), (0, .ref 170), (1, vi n)] [] s _
    refine wr_inc (a := (b : Int)) rfl rfl ?_
    show wr (d + 6) tb_M162 170 [(3, vi ((b : Int) + 1)), (2, vi 1), (0, .ref 170), (1, vi n)] [] s _
    refine wr_n (pc2 := 75) (lv2 := [(3, vi ((b : Int) + 1)), (2, vi 1), (0, .ref 170), (1, vi n)]) (st2 := []) 1 (fun _ _ => rfl) ?_
    rw [show (b : Int) + 1 = ((b + 1 : Nat) : Int) from rfl]
    exact h75 (b + 1) 1 (by omega) (.inr rfl)
