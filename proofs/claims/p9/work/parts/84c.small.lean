set_option maxHeartbeats 20000000 in
set_option maxRecDepth 100000 in
theorem p_end {d C D : Nat} (s : rS) (hR : RF s.1) (hS : SI C D s.1) {n : Int} (hn : i32 n) : cr (d + 1 + 1) 119 [.ref 170, vi n] s (fun s2 out => ∃ z : Int, out = some (some (vi z)) ∧ (z = n ∧ 0 ≤ n ∧ n ≤ s.1 170 1 ∧ s2 = (up2 s.1 170 1 n, s.2) ∨ z = -1 ∧ ¬ (0 ≤ n ∧ n ≤ s.1 170 1) ∧ s2 = s)) := by
  have hC := SI_C hS
  have ht0 := hS.2.1
  unfold i32 at hn
  refine cr_of (M := tb_M119) rfl (Nat.le_of_ble_eq_true rfl) ?_
  show wr (d + 1) tb_M119 0 [(0, .ref 170), (1, vi n)] [] s _
  refine wr_n (pc2 := 1) (lv2 := [(0, .ref 170), (1, vi n)]) (st2 := [vi n]) 1 (fun _ _ => rfl) ?_
  refine wr_i2l (a := n) rfl (by unfold i32; omega) ?_
  show wr (d + 1) tb_M119 2 [(0, .ref 170), (1, vi n)] [vl n] s _
  refine wr_n (pc2 := 4) (lv2 := [(0, .ref 170), (1, vi n)]) (st2 := [.ref 170, vl 0, vl n]) 2 (fun _ _ => rfl) ?_
  refine wr_get (v := vi (s.1 170 1)) rfl rfl rfl (by decide) rfl fun h1 => ?_
  have h1 : -2147483648 ≤ s.1 170 1 ∧ s.1 170 1 ≤ 2147483647 := h1
  show wr (d + 1) tb_M119 7 [(0, .ref 170), (1, vi n)] [vi (s.1 170 1), vl 0, vl n] s _
  refine wr_i2l (a := s.1 170 1) rfl (by unfold i32; omega) ?_
  show wr (d + 1) tb_M119 8 [(0, .ref 170), (1, vi n)] [vl (s.1 170 1), vl 0, vl n] s _
  refine wr_call0 (args := [vl n, vl 0, vl (s.1 170 1)]) (rest := []) rfl rfl rfl (Nat.le_of_ble_eq_true rfl) (cr_mono (c_in (d := d) (a := n) (b := 0) (c := s.1 170 1) _ (by unfold i64; omega) (by unfold i64; omega) (by unfold i64; omega)) ?_)
  rintro s5 out ⟨e2, rfl, h3, e4⟩
  refine ⟨_, rfl, ?_⟩
  rw [e4]
  show wr (d + 1) tb_M119 11 [(0, .ref 170), (1, vi n)] [vi e2] s _
  by_cases h6 : e2 ≠ 0
  · refine wr_if1t rfl rfl (by unfold i32; omega) h6 ?_
    refine wr_n (pc2 := 18) (lv2 := [(0, .ref 170), (1, vi n)]) (st2 := [vi n, .ref 170]) 2 (fun _ _ => rfl) ?_
    refine wr_put (z := n) rfl rfl rfl rfl (by decide) rfl (by decide) rfl (show -2147483648 ≤ n ∧ n ≤ 2147483647 by omega) (hf_int' _) ?_
    show wr (d + 1) tb_M119 21 [(0, .ref 170), (1, vi n)] [] (up2 s.1 170 1 n, s.2) _
    have hR7 : RF (up2 s.1 170 1 n) := (RF_up hR rfl)
    refine wr_n (pc2 := 22) (lv2 := [(0, .ref 170), (1, vi n)]) (st2 := [vi n]) 1 (fun _ _ => rfl) ?_
    refine wr_reti rfl rfl ?_
    exact ⟨_, rfl, .inl ⟨rfl, by omega, by omega, rfl⟩⟩
  · refine wr_if1f rfl rfl (by unfold i32; omega) h6 ?_
    refine wr_n (pc2 := 15) (lv2 := [(0, .ref 170), (1, vi n)]) (st2 := [vi ((-1))]) 1 (fun _ _ => rfl) ?_
    refine wr_end (fun _ _ => rfl) ?_
    exact ⟨_, rfl, .inr ⟨rfl, by omega, rfl⟩⟩
set_option maxHeartbeats 20000000 in
set_option maxRecDepth 100000 in
theorem p_count {d C D : Nat} (s : rS) (hR : RF s.1) (hS : SI C D s.1) {n : Int} (hn : i32 n) : cr (d + 1 + 1) 176 [.ref 170, vi n] s (MP 1 (fun t => t = s.1 170 1) s) := by
  have hC := SI_C hS
  have ht0 := hS.2.1
  unfold i32 at hn
  refine cr_of (M := tb_M176) rfl (Nat.le_of_ble_eq_true rfl) ?_
  show wr (d + 1) tb_M176 0 [(0, .ref 170), (1, vi n)] [] s _
  refine wr_n (pc2 := 1) (lv2 := [(0, .ref 170), (1, vi n)]) (st2 := [vi n]) 1 (fun _ _ => rfl) ?_
  refine wr_i2l (a := n) rfl (by unfold i32; omega) ?_
  show wr (d + 1) tb_M176 2 [(0, .ref 170), (1, vi n)] [vl n] s _
  refine wr_n (pc2 := 6) (lv2 := [(0, .ref 170), (1, vi n)]) (st2 := [vl 12, vl 0, vl n]) 2 (fun _ _ => rfl) ?_
  refine wr_call0 (args := [vl n, vl 0, vl 12]) (rest := []) rfl rfl rfl (Nat.le_of_ble_eq_true rfl) (cr_mono (c_in (d := d) (a := n) (b := 0) (c := 12) _ (by unfold i64; omega) (by unfold i64; omega) (by unfold i64; omega)) ?_)
  rintro s4 out ⟨e1, rfl, h2, e3⟩
  refine ⟨_, rfl, ?_⟩
  rw [e3]
  show wr (d + 1) tb_M176 9 [(0, .ref 170), (1, vi n)] [vi e1] s _
  by_cases h5 : e1 ≠ 0
  · refine wr_if1t rfl rfl (by unfold i32; omega) h5 ?_
    refine wr_n (pc2 := 15) (lv2 := [(0, .ref 170), (1, vi n)]) (st2 := [.ref 170]) 1 (fun _ _ => rfl) ?_
    refine wr_get (v := vi (s.1 170 20)) rfl rfl rfl (by decide) rfl fun h6 => ?_
    have h6 : 0 ≤ s.1 170 20 ∧ s.1 170 20 ≤ 1 := h6
    show wr (d + 1) tb_M176 18 [(0, .ref 170), (1, vi n)] [vi (s.1 170 20)] s _
    by_cases h7 : s.1 170 20 ≠ 0
    · refine wr_if1t rfl rfl (by unfold i32; omega) h7 ?_
      refine wr_n (pc2 := 24) (lv2 := [(0, .ref 170), (1, vi n)]) (st2 := [vi n]) 1 (fun _ _ => rfl) ?_
      refine wr_tsw2 rfl (by decide) (by unfold i32; omega) (fun _ _ off hoff => ?_) (fun hdf => ?_)
      · have hoff2 : off = 52 ∨ off = 60 ∨ off = 68 ∨ off = 76 ∨ off = 84 ∨ off = 92 ∨ off = 100 ∨ off = 108 ∨ off = 113 := by simp at hoff; omega
        clear hoff
        rcases hoff2 with rfl | rfl | rfl | rfl | rfl | rfl | rfl | rfl | rfl
        · refine ⟨76, rfl, ?_⟩
          refine wr_n (pc2 := 77) (lv2 := [(0, .ref 170), (1, vi n)]) (st2 := [.ref 170]) 1 (fun _ _ => rfl) ?_
          refine wr_get (v := .ref C) rfl rfl rfl (by decide) (rv_ref (show s.1 170 17 = ((C : Nat) : Int) from hS.2.2.1)) fun h8 => ?_
          show wr (d + 1) tb_M176 80 [(0, .ref 170), (1, vi n)] [.ref C] s _
          refine wr_get (v := vi (s.1 C 3)) rfl rfl (TG_C hC) (by decide) rfl fun h9 => ?_
          have h9 : -2147483648 ≤ s.1 C 3 ∧ s.1 C 3 ≤ 2147483647 := h9
          show wr (d + 1) tb_M176 83 [(0, .ref 170), (1, vi n)] [vi (s.1 C 3)] s _
          refine wr_reti rfl rfl ?_
          exact MP_same rfl rfl hR hS
        · refine ⟨84, rfl, ?_⟩
          refine wr_n (pc2 := 85) (lv2 := [(0, .ref 170), (1, vi n)]) (st2 := [.ref 170]) 1 (fun _ _ => rfl) ?_
          refine wr_get (v := .ref C) rfl rfl rfl (by decide) (rv_ref (show s.1 170 17 = ((C : Nat) : Int) from hS.2.2.1)) fun h10 => ?_
          show wr (d + 1) tb_M176 88 [(0, .ref 170), (1, vi n)] [.ref C] s _
          refine wr_get (v := vi (s.1 C 4)) rfl rfl (TG_C hC) (by decide) rfl fun h11 => ?_
          have h11 : -2147483648 ≤ s.1 C 4 ∧ s.1 C 4 ≤ 2147483647 := h11
          show wr (d + 1) tb_M176 91 [(0, .ref 170), (1, vi n)] [vi (s.1 C 4)] s _
          refine wr_reti rfl rfl ?_
          exact MP_same rfl rfl hR hS
        · refine ⟨92, rfl, ?_⟩
          refine wr_n (pc2 := 93) (lv2 := [(0, .ref 170), (1, vi n)]) (st2 := [.ref 170]) 1 (fun _ _ => rfl) ?_
          refine wr_get (v := .ref C) rfl rfl rfl (by decide) (rv_ref (show s.1 170 17 = ((C : Nat) : Int) from hS.2.2.1)) fun h12 => ?_
          show wr (d + 1) tb_M176 96 [(0, .ref 170), (1, vi n)] [.ref C] s _
          refine wr_get (v := vi (s.1 C 5)) rfl rfl (TG_C hC) (by decide) rfl fun h13 => ?_
          have h13 : -2147483648 ≤ s.1 C 5 ∧ s.1 C 5 ≤ 2147483647 := h13
          show wr (d + 1) tb_M176 99 [(0, .ref 170), (1, vi n)] [vi (s.1 C 5)] s _
          refine wr_reti rfl rfl ?_
          exact MP_same rfl rfl hR hS
        · refine ⟨100, rfl, ?_⟩
          refine wr_n (pc2 := 101) (lv2 := [(0, .ref 170), (1, vi n)]) (st2 := [.ref 170]) 1 (fun _ _ => rfl) ?_
          refine wr_get (v := .ref C) rfl rfl rfl (by decide) (rv_ref (show s.1 170 17 = ((C : Nat) : Int) from hS.2.2.1)) fun h14 => ?_
          show wr (d + 1) tb_M176 104 [(0, .ref 170), (1, vi n)] [.ref C] s _
          refine wr_get (v := vi (s.1 C 6)) rfl rfl (TG_C hC) (by decide) rfl fun h15 => ?_
          have h15 : -2147483648 ≤ s.1 C 6 ∧ s.1 C 6 ≤ 2147483647 := h15
          show wr (d + 1) tb_M176 107 [(0, .ref 170), (1, vi n)] [vi (s.1 C 6)] s _
          refine wr_reti rfl rfl ?_
          exact MP_same rfl rfl hR hS
        · refine ⟨108, rfl, ?_⟩
          refine wr_n (pc2 := 109) (lv2 := [(0, .ref 170), (1, vi n)]) (st2 := [.ref 170]) 1 (fun _ _ => rfl) ?_
          refine wr_get (v := .ref C) rfl rfl rfl (by decide) (rv_ref (show s.1 170 17 = ((C : Nat) : Int) from hS.2.2.1)) fun h16 => ?_
          show wr (d + 1) tb_M176 112 [(0, .ref 170), (1, vi n)] [.ref C] s _
          refine wr_get (v := vi (s.1 C 7)) rfl rfl (TG_C hC) (by decide) rfl fun h17 => ?_
          have h17 : -2147483648 ≤ s.1 C 7 ∧ s.1 C 7 ≤ 2147483647 := h17
          show wr (d + 1) tb_M176 115 [(0, .ref 170), (1, vi n)] [vi (s.1 C 7)] s _
          refine wr_reti rfl rfl ?_
          exact MP_same rfl rfl hR hS
        · refine ⟨116, rfl, ?_⟩
          refine wr_n (pc2 := 117) (lv2 := [(0, .ref 170), (1, vi n)]) (st2 := [.ref 170]) 1 (fun _ _ => rfl) ?_
          refine wr_get (v := .ref C) rfl rfl rfl (by decide) (rv_ref (show s.1 170 17 = ((C : Nat) : Int) from hS.2.2.1)) fun h18 => ?_
          show wr (d + 1) tb_M176 120 [(0, .ref 170), (1, vi n)] [.ref C] s _
          refine wr_get (v := vi (s.1 C 8)) rfl rfl (TG_C hC) (by decide) rfl fun h19 => ?_
          have h19 : -2147483648 ≤ s.1 C 8 ∧ s.1 C 8 ≤ 2147483647 := h19
          show wr (d + 1) tb_M176 123 [(0, .ref 170), (1, vi n)] [vi (s.1 C 8)] s _
          refine wr_reti rfl rfl ?_
          exact MP_same rfl rfl hR hS
        · refine ⟨124, rfl, ?_⟩
          refine wr_n (pc2 := 125) (lv2 := [(0, .ref 170), (1, vi n)]) (st2 := [.ref 170]) 1 (fun _ _ => rfl) ?_
          refine wr_get (v := .ref C) rfl rfl rfl (by decide) (rv_ref (show s.1 170 17 = ((C : Nat) : Int) from hS.2.2.1)) fun h20 => ?_
          show wr (d + 1) tb_M176 128 [(0, .ref 170), (1, vi n)] [.ref C] s _
          refine wr_get (v := vi (s.1 C 9)) rfl rfl (TG_C hC) (by decide) rfl fun h21 => ?_
          have h21 : -2147483648 ≤ s.1 C 9 ∧ s.1 C 9 ≤ 2147483647 := h21
          show wr (d + 1) tb_M176 131 [(0, .ref 170), (1, vi n)] [vi (s.1 C 9)] s _
          refine wr_reti rfl rfl ?_
          exact MP_same rfl rfl hR hS
        · refine ⟨132, rfl, ?_⟩
          refine wr_n (pc2 := 133) (lv2 := [(0, .ref 170), (1, vi n)]) (st2 := [.ref 170]) 1 (fun _ _ => rfl) ?_
          refine wr_get (v := vi (s.1 170 53)) rfl rfl rfl (by decide) rfl fun h22 => ?_
          have h22 : -2147483648 ≤ s.1 170 53 ∧ s.1 170 53 ≤ 2147483647 := h22
          show wr (d + 1) tb_M176 136 [(0, .ref 170), (1, vi n)] [vi (s.1 170 53)] s _
          refine wr_reti rfl rfl ?_
          exact MP_same rfl rfl hR hS
        · refine ⟨137, rfl, ?_⟩
          refine wr_n (pc2 := 138) (lv2 := [(0, .ref 170), (1, vi n)]) (st2 := [.ref 170]) 1 (fun _ _ => rfl) ?_
          refine wr_get (v := vi (s.1 170 52)) rfl rfl rfl (by decide) rfl fun h23 => ?_
          have h23 : -2147483648 ≤ s.1 170 52 ∧ s.1 170 52 ≤ 2147483647 := h23
          show wr (d + 1) tb_M176 141 [(0, .ref 170), (1, vi n)] [vi (s.1 170 52)] s _
          refine wr_reti rfl rfl ?_
          exact MP_same rfl rfl hR hS
      · refine ⟨142, rfl, ?_⟩
        refine wr_n (pc2 := 143) (lv2 := [(0, .ref 170), (1, vi n)]) (st2 := [.ref 170]) 1 (fun _ _ => rfl) ?_
        refine wr_get (v := vi (s.1 170 52)) rfl rfl rfl (by decide) rfl fun h24 => ?_
        have h24 : -2147483648 ≤ s.1 170 52 ∧ s.1 170 52 ≤ 2147483647 := h24
        show wr (d + 1) tb_M176 146 [(0, .ref 170), (1, vi n)] [vi (s.1 170 52)] s _
        refine wr_n (pc2 := 147) (lv2 := [(0, .ref 170), (1, vi n)]) (st2 := [vi 3, vi (s.1 170 52)]) 1 (fun _ _ => rfl) ?_
        by_cases h25 : s.1 170 52 ≠ 3
        · refine wr_if2t rfl rfl (by unfold i32; omega) (by unfold i32; omega) h25 ?_
          refine wr_n (pc2 := 155) (lv2 := [(0, .ref 170), (1, vi n)]) (st2 := [.ref 170]) 1 (fun _ _ => rfl) ?_
          refine wr_get (v := .ref 1630) rfl rfl rfl (by decide) (rv_ref (hR 170 51 1630 rfl)) fun h26 => ?_
          show wr (d + 1) tb_M176 158 [(0, .ref 170), (1, vi n)] [.ref 1630] s _
          refine wr_n (pc2 := 160) (lv2 := [(0, .ref 170), (1, vi n)]) (st2 := [vi n, vi 4, .ref 1630]) 2 (fun _ _ => rfl) ?_
          refine wr_add (a := 4) (b := n) rfl ?_
          show wr (d + 1) tb_M176 161 [(0, .ref 170), (1, vi n)] [vi (4 + n), .ref 1630] s _
          refine wr_n (pc2 := 163) (lv2 := [(0, .ref 170), (1, vi n)]) (st2 := [vi 9, vi (4 + n), .ref 1630]) 1 (fun _ _ => rfl) ?_
          refine wr_sub (a := 4 + n) (b := 9) rfl ?_
          show wr (d + 1) tb_M176 164 [(0, .ref 170), (1, vi n)] [vi ((4 + n) - 9), .ref 1630] s _
          refine wr_ald (a := (4 + n) - 9) (v := vi (s.1 1630 (((4 + n) - 9).toNat))) rfl rfl rfl (by omega) (by omega) (by decide) rfl fun h27 => ?_
          have h27 : -2147483648 ≤ s.1 1630 (((4 + n) - 9).toNat) ∧ s.1 1630 (((4 + n) - 9).toNat) ≤ 2147483647 := h27
          show wr (d + 1) tb_M176 165 [(0, .ref 170), (1, vi n)] [vi (s.1 1630 (((4 + n) - 9).toNat))] s _
          refine wr_reti rfl rfl ?_
          exact MP_same rfl rfl hR hS
        · refine wr_if2f rfl rfl (by unfold i32; omega) (by unfold i32; omega) h25 ?_
          refine wr_n (pc2 := 165) (lv2 := [(0, .ref 170), (1, vi n)]) (st2 := [vi 0]) 2 (fun _ _ => rfl) ?_
          refine wr_end (fun _ _ => rfl) ?_
          exact MP_same rfl rfl hR hS
    · refine wr_if1f rfl rfl (by unfold i32; omega) h7 ?_
      refine wr_n (pc2 := 22) (lv2 := [(0, .ref 170), (1, vi n)]) (st2 := [vi 0]) 1 (fun _ _ => rfl) ?_
      refine wr_end (fun _ _ => rfl) ?_
      exact MP_same rfl rfl hR hS
  · refine wr_if1f rfl rfl (by unfold i32; omega) h5 ?_
    refine wr_n (pc2 := 13) (lv2 := [(0, .ref 170), (1, vi n)]) (st2 := [vi ((-1))]) 1 (fun _ _ => rfl) ?_
    refine wr_end (fun _ _ => rfl) ?_
    exact MP_same rfl rfl hR hS
set_option maxHeartbeats 20000000 in
set_option maxRecDepth 100000 in
theorem p_give {d C D : Nat} (s : rS) (hR : RF s.1) (hS : SI C D s.1) {w v : Int} (hw : i32 w) (hv : i32 v) : cr (d + 1 + 1) 173 [.ref 170, vi w, vi v] s (MP 1 (fun t => t = s.1 170 1) s) := by
  have hC := SI_C hS
  have ht0 := hS.2.1
  unfold i32 at hw hv
  refine cr_of (M := tb_M173) rfl (Nat.le_of_ble_eq_true rfl) ?_
  show wr (d + 1) tb_M173 0 [(0, .ref 170), (1, vi w), (2, vi v)] [] s _
  refine wr_n (pc2 := 1) (lv2 := [(0, .ref 170), (1, vi w), (2, vi v)]) (st2 := [.ref 170]) 1 (fun _ _ => rfl) ?_
  refine wr_get (v := vi (s.1 170 20)) rfl rfl rfl (by decide) rfl fun h1 => ?_
  have h1 : 0 ≤ s.1 170 20 ∧ s.1 170 20 ≤ 1 := h1
  show wr (d + 1) tb_M173 4 [(0, .ref 170), (1, vi w), (2, vi v)] [vi (s.1 170 20)] s _
  by_cases h2 : s.1 170 20 = 0
  · refine wr_if1t rfl rfl (by unfold i32; omega) h2 ?_
    refine wr_n (pc2 := 36) (lv2 := [(0, .ref 170), (1, vi w), (2, vi v)]) (st2 := [vi ((-2))]) 1 (fun _ _ => rfl) ?_
    refine wr_end (fun _ _ => rfl) ?_
    exact MP_same rfl rfl hR hS
  · refine wr_if1f rfl rfl (by unfold i32; omega) h2 ?_
    obtain ⟨hH, hPT, hLK, na, hna, hsz⟩ := SA_get hS (by omega)
    unfold PT at hPT
    refine wr_n (pc2 := 8) (lv2 := [(0, .ref 170), (1, vi w), (2, vi v)]) (st2 := [.ref 170]) 1 (fun _ _ => rfl) ?_
    refine wr_get (v := vi (s.1 170 52)) rfl rfl rfl (by decide) rfl fun h3 => ?_
    have h3 : -2147483648 ≤ s.1 170 52 ∧ s.1 170 52 ≤ 2147483647 := h3
    show wr (d + 1) tb_M173 11 [(0, .ref 170), (1, vi w), (2, vi v)] [vi (s.1 170 52)] s _
    refine wr_n (pc2 := 12) (lv2 := [(0, .ref 170), (1, vi w), (2, vi v)]) (st2 := [vi 3, vi (s.1 170 52)]) 1 (fun _ _ => rfl) ?_
    by_cases h4 : s.1 170 52 = 3
    · refine wr_if2t rfl rfl (by unfold i32; omega) (by unfold i32; omega) h4 ?_
      refine wr_n (pc2 := 36) (lv2 := [(0, .ref 170), (1, vi w), (2, vi v)]) (st2 := [vi ((-2))]) 1 (fun _ _ => rfl) ?_
      refine wr_end (fun _ _ => rfl) ?_
      exact MP_same rfl rfl hR hS
    · refine wr_if2f rfl rfl (by unfold i32; omega) (by unfold i32; omega) h4 ?_
      refine wr_n (pc2 := 16) (lv2 := [(0, .ref 170), (1, vi w), (2, vi v)]) (st2 := [vi w]) 1 (fun _ _ => rfl) ?_
      refine wr_i2l (a := w) rfl (by unfold i32; omega) ?_
      show wr (d + 1) tb_M173 17 [(0, .ref 170), (1, vi w), (2, vi v)] [vl w] s _
      refine wr_n (pc2 := 19) (lv2 := [(0, .ref 170), (1, vi w), (2, vi v)]) (st2 := [.ref 170, vl 0, vl w]) 2 (fun _ _ => rfl) ?_
      refine wr_get (v := .ref C) rfl rfl rfl (by decide) (rv_ref (show s.1 170 17 = ((C : Nat) : Int) from hS.2.2.1)) fun h5 => ?_
      show wr (d + 1) tb_M173 22 [(0, .ref 170), (1, vi w), (2, vi v)] [.ref C, vl 0, vl w] s _
      refine wr_get (v := vi (s.1 C 7)) rfl rfl (TG_C hC) (by decide) rfl fun h6 => ?_
      have h6 : -2147483648 ≤ s.1 C 7 ∧ s.1 C 7 ≤ 2147483647 := h6
      show wr (d + 1) tb_M173 25 [(0, .ref 170), (1, vi w), (2, vi v)] [vi (s.1 C 7), vl 0, vl w] s _
      refine wr_n (pc2 := 26) (lv2 := [(0, .ref 170), (1, vi w), (2, vi v)]) (st2 := [vi 1, vi (s.1 C 7), vl 0, vl w]) 1 (fun _ _ => rfl) ?_
      refine wr_sub (a := s.1 C 7) (b := 1) rfl ?_
      show wr (d + 1) tb_M173 27 [(0, .ref 170), (1, vi w), (2, vi v)] [vi ((s.1 C 7) - 1), vl 0, vl w] s _
      refine wr_i2l (a := (s.1 C 7) - 1) rfl (by unfold i32; omega) ?_
      show wr (d + 1) tb_M173 28 [(0, .ref 170), (1, vi w), (2, vi v)] [vl ((s.1 C 7) - 1), vl 0, vl w] s _
      refine wr_call0 (args := [vl w, vl 0, vl ((s.1 C 7) - 1)]) (rest := []) rfl rfl rfl (Nat.le_of_ble_eq_true rfl) (cr_mono (c_in (d := d) (a := w) (b := 0) (c := (s.1 C 7) - 1) _ (by unfold i64; omega) (by unfold i64; omega) (by unfold i64; omega)) ?_)
      rintro s10 out ⟨e7, rfl, h8, e9⟩
      refine ⟨_, rfl, ?_⟩
      rw [e9]
      show wr (d + 1) tb_M173 31 [(0, .ref 170), (1, vi w), (2, vi v)] [vi e7] s _
      by_cases h11 : e7 ≠ 0
      · refine wr_if1t rfl rfl (by unfold i32; omega) h11 ?_
        have hhw := hH w.toNat (by omega)
        refine wr_n (pc2 := 38) (lv2 := [(0, .ref 170), (1, vi w), (2, vi v)]) (st2 := [.ref 170]) 1 (fun _ _ => rfl) ?_
        refine wr_get (v := .ref 1630) rfl rfl rfl (by decide) (rv_ref (hR 170 51 1630 rfl)) fun h12 => ?_
        show wr (d + 1) tb_M173 41 [(0, .ref 170), (1, vi w), (2, vi v)] [.ref 1630] s _
        refine wr_n (pc2 := 42) (lv2 := [(0, .ref 170), (1, vi w), (2, vi v)]) (st2 := [vi w, .ref 1630]) 1 (fun _ _ => rfl) ?_
        refine wr_ald (a := w) (v := vi (s.1 1630 w.toNat)) rfl rfl rfl (by omega) (by omega) (by decide) rfl fun h13 => ?_
        have h13 : -2147483648 ≤ s.1 1630 w.toNat ∧ s.1 1630 w.toNat ≤ 2147483647 := h13
        show wr (d + 1) tb_M173 43 [(0, .ref 170), (1, vi w), (2, vi v)] [vi (s.1 1630 w.toNat)] s _
        refine wr_n (pc2 := 45) (lv2 := [(0, .ref 170), (1, vi w), (2, vi v)]) (st2 := [vi 40, vi (s.1 1630 w.toNat)]) 1 (fun _ _ => rfl) ?_
        by_cases h14 : s.1 1630 w.toNat ≠ 40
        · refine wr_if2t rfl rfl (by unfold i32; omega) (by unfold i32; omega) h14 ?_
          refine wr_n (pc2 := 52) (lv2 := [(0, .ref 170), (1, vi w), (2, vi v)]) (st2 := [.ref 170]) 1 (fun _ _ => rfl) ?_
          refine wr_get (v := .ref 1621) rfl rfl rfl (by decide) (rv_ref (hR 170 50 1621 rfl)) fun h15 => ?_
          show wr (d + 1) tb_M173 55 [(0, .ref 170), (1, vi w), (2, vi v)] [.ref 1621] s _
          refine wr_n (pc2 := 56) (lv2 := [(0, .ref 170), (1, vi w), (2, vi v)]) (st2 := [vi w, .ref 1621]) 1 (fun _ _ => rfl) ?_
          refine wr_ald (a := w) (v := .ref (1622 + w.toNat)) rfl rfl rfl (by omega) (by omega) (by decide) (rv_ref (hR 1621 w.toNat (1622 + w.toNat) (rc_in (by omega)))) fun h16 => ?_
          show wr (d + 1) tb_M173 57 [(0, .ref 170), (1, vi w), (2, vi v)] [.ref (1622 + w.toNat)] s _
          refine wr_n (pc2 := 58) (lv2 := [(0, .ref 170), (1, vi w), (2, vi v)]) (st2 := [.ref 170, .ref (1622 + w.toNat)]) 1 (fun _ _ => rfl) ?_
          refine wr_get (v := .ref 1630) rfl rfl rfl (by decide) (rv_ref (hR 170 51 1630 rfl)) fun h17 => ?_
          show wr (d + 1) tb_M173 61 [(0, .ref 170), (1, vi w), (2, vi v)] [.ref 1630, .ref (1622 + w.toNat)] s _
          refine wr_n (pc2 := 62) (lv2 := [(0, .ref 170), (1, vi w), (2, vi v)]) (st2 := [vi w, .ref 1630, .ref (1622 + w.toNat)]) 1 (fun _ _ => rfl) ?_
          refine wr_ald (a := w) (v := vi (s.1 1630 w.toNat)) rfl rfl rfl (by omega) (by omega) (by decide) rfl fun h18 => ?_
          have h18 : -2147483648 ≤ s.1 1630 w.toNat ∧ s.1 1630 w.toNat ≤ 2147483647 := h18
          show wr (d + 1) tb_M173 63 [(0, .ref 170), (1, vi w), (2, vi v)] [vi (s.1 1630 w.toNat), .ref (1622 + w.toNat)] s _
          refine wr_n (pc2 := 64) (lv2 := [(0, .ref 170), (1, vi w), (2, vi v)]) (st2 := [vi v, vi (s.1 1630 w.toNat), .ref (1622 + w.toNat)]) 1 (fun _ _ => rfl) ?_
          refine wr_anyu rfl (fun x => ⟨_, rfl⟩) fun z19 h20 => ?_
          unfold i32 at h20
          show wr (d + 1) tb_M173 65 [(0, .ref 170), (1, vi w), (2, vi v)] [vi z19, vi (s.1 1630 w.toNat), .ref (1622 + w.toNat)] s _
          refine wr_ast (a := s.1 1630 w.toNat) (z := z19) rfl (show 96 ≤ 1622 + w.toNat by omega) (TG_in (by omega)) rfl (by omega) (by omega) (by decide) rfl (show -2147483648 ≤ z19 ∧ z19 ≤ 2147483647 by omega) ?_
          show wr (d + 1) tb_M173 66 [(0, .ref 170), (1, vi w), (2, vi v)] [] (up2 s.1 (1622 + w.toNat) ((s.1 1630 w.toNat).toNat) z19, s.2) _
          have hR21 : RF (up2 s.1 (1622 + w.toNat) ((s.1 1630 w.toNat).toNat) z19) := (RF_up hR (RS_rc (by unfold RS; omega)))
          refine wr_n (pc2 := 67) (lv2 := [(0, .ref 170), (1, vi w), (2, vi v)]) (st2 := [.ref 170]) 1 (fun _ _ => rfl) ?_
          refine wr_get (v := .ref 1630) rfl rfl rfl (by decide) (rv_ref (hR21 170 51 1630 rfl)) fun h22 => ?_
          show wr (d + 1) tb_M173 70 [(0, .ref 170), (1, vi w), (2, vi v)] [.ref 1630] (up2 s.1 (1622 + w.toNat) ((s.1 1630 w.toNat).toNat) z19, s.2) _
          refine wr_n (pc2 := 72) (lv2 := [(0, .ref 170), (1, vi w), (2, vi v)]) (st2 := [vi w, .ref 1630, vi w, .ref 1630]) 2 (fun _ _ => rfl) ?_
          refine wr_ald (a := w) (v := vi (s.1 1630 w.toNat)) rfl rfl rfl (by omega) (by omega) (by decide) (by show rv _ ((up2 s.1 (1622 + w.toNat) ((s.1 1630 w.toNat).toNat) z19) 1630 w.toNat) = _; rw [up_nk (by omega)]; rfl) fun h23 => ?_
          have h23 : rg _ ((up2 s.1 (1622 + w.toNat) ((s.1 1630 w.toNat).toNat) z19) 1630 w.toNat) := h23
          rw [up_nk (by omega)] at h23
          have h23 : -2147483648 ≤ s.1 1630 w.toNat ∧ s.1 1630 w.toNat ≤ 2147483647 := h23
          show wr (d + 1) tb_M173 73 [(0, .ref 170), (1, vi w), (2, vi v)] [vi (s.1 1630 w.toNat), vi w, .ref 1630] (up2 s.1 (1622 + w.toNat) ((s.1 1630 w.toNat).toNat) z19, s.2) _
          refine wr_n (pc2 := 74) (lv2 := [(0, .ref 170), (1, vi w), (2, vi v)]) (st2 := [vi 1, vi (s.1 1630 w.toNat), vi w, .ref 1630]) 1 (fun _ _ => rfl) ?_
          refine wr_add (a := s.1 1630 w.toNat) (b := 1) rfl ?_
          show wr (d + 1) tb_M173 75 [(0, .ref 170), (1, vi w), (2, vi v)] [vi (s.1 1630 w.toNat + 1), vi w, .ref 1630] (up2 s.1 (1622 + w.toNat) ((s.1 1630 w.toNat).toNat) z19, s.2) _
          refine wr_ast (a := w) (z := s.1 1630 w.toNat + 1) rfl (by decide) rfl rfl (by omega) (by omega) (by decide) rfl (show -2147483648 ≤ s.1 1630 w.toNat + 1 ∧ s.1 1630 w.toNat + 1 ≤ 2147483647 by omega) ?_
          show wr (d + 1) tb_M173 76 [(0, .ref 170), (1, vi w), (2, vi v)] [] (up2 (up2 s.1 (1622 + w.toNat) ((s.1 1630 w.toNat).toNat) z19) 1630 w.toNat (s.1 1630 w.toNat + 1), s.2) _
          have hR24 : RF (up2 (up2 s.1 (1622 + w.toNat) ((s.1 1630 w.toNat).toNat) z19) 1630 w.toNat (s.1 1630 w.toNat + 1)) := (RF_up (RF_up hR (RS_rc (by unfold RS; omega))) rfl)
          refine wr_n (pc2 := 77) (lv2 := [(0, .ref 170), (1, vi w), (2, vi v)]) (st2 := [.ref 170]) 1 (fun _ _ => rfl) ?_
          refine wr_get (v := .ref 1630) rfl rfl rfl (by decide) (rv_ref (hR24 170 51 1630 rfl)) fun h25 => ?_
          show wr (d + 1) tb_M173 80 [(0, .ref 170), (1, vi w), (2, vi v)] [.ref 1630] (up2 (up2 s.1 (1622 + w.toNat) ((s.1 1630 w.toNat).toNat) z19) 1630 w.toNat (s.1 1630 w.toNat + 1), s.2) _
          refine wr_n (pc2 := 81) (lv2 := [(0, .ref 170), (1, vi w), (2, vi v)]) (st2 := [vi w, .ref 1630]) 1 (fun _ _ => rfl) ?_
          refine wr_ald (a := w) (v := vi (s.1 1630 w.toNat + 1)) rfl rfl rfl (by omega) (by omega) (by decide) (by show rv _ ((up2 (up2 s.1 (1622 + w.toNat) ((s.1 1630 w.toNat).toNat) z19) 1630 w.toNat (s.1 1630 w.toNat + 1)) 1630 w.toNat) = _; rw [up_self]; rfl) fun h26 => ?_
          have h26 : rg _ ((up2 (up2 s.1 (1622 + w.toNat) ((s.1 1630 w.toNat).toNat) z19) 1630 w.toNat (s.1 1630 w.toNat + 1)) 1630 w.toNat) := h26
          rw [up_self] at h26
          have h26 : -2147483648 ≤ s.1 1630 w.toNat + 1 ∧ s.1 1630 w.toNat + 1 ≤ 2147483647 := h26
          show wr (d + 1) tb_M173 82 [(0, .ref 170), (1, vi w), (2, vi v)] [vi (s.1 1630 w.toNat + 1)] (up2 (up2 s.1 (1622 + w.toNat) ((s.1 1630 w.toNat).toNat) z19) 1630 w.toNat (s.1 1630 w.toNat + 1), s.2) _
          refine wr_reti rfl rfl ?_
          have hHn : HD (up2 (up2 s.1 (1622 + w.toNat) ((s.1 1630 w.toNat).toNat) z19) 1630 w.toNat (s.1 1630 w.toNat + 1)) := fun i hi => by
            by_cases e : i = w.toNat
            · subst e; rw [up_self]; omega
            · rw [up_nj e, up_nk (by omega)]; exact hH i hi
          have hf : ∀ k j, ¬ (1622 ≤ k ∧ k ≤ 1630) → (up2 (up2 s.1 (1622 + w.toNat) ((s.1 1630 w.toNat).toNat) z19) 1630 w.toNat (s.1 1630 w.toNat + 1)) k j = s.1 k j := fun k j e => (if_neg (by omega)).trans (if_neg (by omega))
          exact ⟨⟨_, rfl, rfl⟩, rfl, hR24, fun k j hk => hf k j (by omega), ⟨C, D, SI_fr hS (fun k j _ e => hf k j e) (by show 0 ≤ (up2 (up2 s.1 (1622 + w.toNat) ((s.1 1630 w.toNat).toNat) z19) 1630 w.toNat (s.1 1630 w.toNat + 1)) 170 1 ∧ (up2 (up2 s.1 (1622 + w.toNat) ((s.1 1630 w.toNat).toNat) z19) 1630 w.toNat (s.1 1630 w.toNat + 1)) 170 1 ≤ 2000; rw [hf 170 1 (by omega)]; exact ht0) (fun _ => hHn)⟩, hf 170 1 (by omega)⟩
        · refine wr_if2f rfl rfl (by unfold i32; omega) (by unfold i32; omega) h14 ?_
          refine wr_n (pc2 := 50) (lv2 := [(0, .ref 170), (1, vi w), (2, vi v)]) (st2 := [vi ((-3))]) 1 (fun _ _ => rfl) ?_
          refine wr_end (fun _ _ => rfl) ?_
          exact MP_same rfl rfl hR hS
      · refine wr_if1f rfl rfl (by unfold i32; omega) h11 ?_
        refine wr_n (pc2 := 36) (lv2 := [(0, .ref 170), (1, vi w), (2, vi v)]) (st2 := [vi ((-2))]) 1 (fun _ _ => rfl) ?_
        refine wr_end (fun _ _ => rfl) ?_
        exact MP_same rfl rfl hR hS
set_option maxHeartbeats 20000000 in
set_option maxRecDepth 100000 in
theorem p_take {d C D : Nat} (s : rS) (hR : RF s.1) (hS : SI C D s.1) {w : Int} (hw : i32 w) : cr (d + 1 + 1) 174 [.ref 170, vi w] s (MP 2 (fun t => t = s.1 170 1) s) := by
  have hC := SI_C hS
  have ht0 := hS.2.1
  unfold i32 at hw
  refine cr_of (M := tb_M174) rfl (Nat.le_of_ble_eq_true rfl) ?_
  show wr (d + 1) tb_M174 0 [(0, .ref 170), (1, vi w)] [] s _
  refine wr_n (pc2 := 1) (lv2 := [(0, .ref 170), (1, vi w)]) (st2 := [.ref 170]) 1 (fun _ _ => rfl) ?_
  refine wr_get (v := vi (s.1 170 20)) rfl rfl rfl (by decide) rfl fun h1 => ?_
  have h1 : 0 ≤ s.1 170 20 ∧ s.1 170 20 ≤ 1 := h1
  show wr (d + 1) tb_M174 4 [(0, .ref 170), (1, vi w)] [vi (s.1 170 20)] s _
  by_cases h2 : s.1 170 20 = 0
  · refine wr_if1t rfl rfl (by unfold i32; omega) h2 ?_
    refine wr_n (pc2 := 48) (lv2 := [(0, .ref 170), (1, vi w)]) (st2 := [vl 1099511627776]) 1 (fun _ _ => rfl) ?_
    refine wr_end (fun _ _ => rfl) ?_
    exact MP_same rfl rfl hR hS
  · refine wr_if1f rfl rfl (by unfold i32; omega) h2 ?_
    obtain ⟨hH, hPT, hLK, na, hna, hsz⟩ := SA_get hS (by omega)
    unfold PT at hPT
    refine wr_n (pc2 := 8) (lv2 := [(0, .ref 170), (1, vi w)]) (st2 := [.ref 170]) 1 (fun _ _ => rfl) ?_
    refine wr_get (v := vi (s.1 170 52)) rfl rfl rfl (by decide) rfl fun h3 => ?_
    have h3 : -2147483648 ≤ s.1 170 52 ∧ s.1 170 52 ≤ 2147483647 := h3
    show wr (d + 1) tb_M174 11 [(0, .ref 170), (1, vi w)] [vi (s.1 170 52)] s _
    refine wr_n (pc2 := 12) (lv2 := [(0, .ref 170), (1, vi w)]) (st2 := [vi 3, vi (s.1 170 52)]) 1 (fun _ _ => rfl) ?_
    by_cases h4 : s.1 170 52 = 3
    · refine wr_if2t rfl rfl (by unfold i32; omega) (by unfold i32; omega) h4 ?_
      refine wr_n (pc2 := 48) (lv2 := [(0, .ref 170), (1, vi w)]) (st2 := [vl 1099511627776]) 1 (fun _ _ => rfl) ?_
      refine wr_end (fun _ _ => rfl) ?_
      exact MP_same rfl rfl hR hS
    · refine wr_if2f rfl rfl (by unfold i32; omega) (by unfold i32; omega) h4 ?_
      refine wr_n (pc2 := 16) (lv2 := [(0, .ref 170), (1, vi w)]) (st2 := [vi w]) 1 (fun _ _ => rfl) ?_
      refine wr_i2l (a := w) rfl (by unfold i32; omega) ?_
      show wr (d + 1) tb_M174 17 [(0, .ref 170), (1, vi w)] [vl w] s _
      refine wr_n (pc2 := 19) (lv2 := [(0, .ref 170), (1, vi w)]) (st2 := [.ref 170, vl 0, vl w]) 2 (fun _ _ => rfl) ?_
      refine wr_get (v := .ref C) rfl rfl rfl (by decide) (rv_ref (show s.1 170 17 = ((C : Nat) : Int) from hS.2.2.1)) fun h5 => ?_
      show wr (d + 1) tb_M174 22 [(0, .ref 170), (1, vi w)] [.ref C, vl 0, vl w] s _
      refine wr_get (v := vi (s.1 C 8)) rfl rfl (TG_C hC) (by decide) rfl fun h6 => ?_
      have h6 : -2147483648 ≤ s.1 C 8 ∧ s.1 C 8 ≤ 2147483647 := h6
      show wr (d + 1) tb_M174 25 [(0, .ref 170), (1, vi w)] [vi (s.1 C 8), vl 0, vl w] s _
      refine wr_n (pc2 := 26) (lv2 := [(0, .ref 170), (1, vi w)]) (st2 := [vi 1, vi (s.1 C 8), vl 0, vl w]) 1 (fun _ _ => rfl) ?_
      refine wr_sub (a := s.1 C 8) (b := 1) rfl ?_
      show wr (d + 1) tb_M174 27 [(0, .ref 170), (1, vi w)] [vi ((s.1 C 8) - 1), vl 0, vl w] s _
      refine wr_i2l (a := (s.1 C 8) - 1) rfl (by unfold i32; omega) ?_
      show wr (d + 1) tb_M174 28 [(0, .ref 170), (1, vi w)] [vl ((s.1 C 8) - 1), vl 0, vl w] s _
      refine wr_call0 (args := [vl w, vl 0, vl ((s.1 C 8) - 1)]) (rest := []) rfl rfl rfl (Nat.le_of_ble_eq_true rfl) (cr_mono (c_in (d := d) (a := w) (b := 0) (c := (s.1 C 8) - 1) _ (by unfold i64; omega) (by unfold i64; omega) (by unfold i64; omega)) ?_)
      rintro s10 out ⟨e7, rfl, h8, e9⟩
      refine ⟨_, rfl, ?_⟩
      rw [e9]
      show wr (d + 1) tb_M174 31 [(0, .ref 170), (1, vi w)] [vi e7] s _
      by_cases h11 : e7 = 0
      · refine wr_if1t rfl rfl (by unfold i32; omega) h11 ?_
        refine wr_n (pc2 := 48) (lv2 := [(0, .ref 170), (1, vi w)]) (st2 := [vl 1099511627776]) 1 (fun _ _ => rfl) ?_
        refine wr_end (fun _ _ => rfl) ?_
        exact MP_same rfl rfl hR hS
      · refine wr_if1f rfl rfl (by unfold i32; omega) h11 ?_
        have hhw := hH (4 + w).toNat (by omega)
        refine wr_n (pc2 := 35) (lv2 := [(0, .ref 170), (1, vi w)]) (st2 := [.ref 170]) 1 (fun _ _ => rfl) ?_
        refine wr_get (v := .ref 1630) rfl rfl rfl (by decide) (rv_ref (hR 170 51 1630 rfl)) fun h12 => ?_
        show wr (d + 1) tb_M174 38 [(0, .ref 170), (1, vi w)] [.ref 1630] s _
        refine wr_n (pc2 := 40) (lv2 := [(0, .ref 170), (1, vi w)]) (st2 := [vi w, vi 4, .ref 1630]) 2 (fun _ _ => rfl) ?_
        refine wr_add (a := 4) (b := w) rfl ?_
        show wr (d + 1) tb_M174 41 [(0, .ref 170), (1, vi w)] [vi (4 + w), .ref 1630] s _
        refine wr_ald (a := 4 + w) (v := vi (s.1 1630 ((4 + w).toNat))) rfl rfl rfl (by omega) (by omega) (by decide) rfl fun h13 => ?_
        have h13 : -2147483648 ≤ s.1 1630 ((4 + w).toNat) ∧ s.1 1630 ((4 + w).toNat) ≤ 2147483647 := h13
        show wr (d + 1) tb_M174 42 [(0, .ref 170), (1, vi w)] [vi (s.1 1630 ((4 + w).toNat))] s _
        by_cases h14 : s.1 1630 ((4 + w).toNat) ≠ 0
        · refine wr_if1t rfl rfl (by unfold i32; omega) h14 ?_
          refine wr_n (pc2 := 52) (lv2 := [(0, .ref 170), (1, vi w)]) (st2 := [vi w, vi 4, .ref 170]) 3 (fun _ _ => rfl) ?_
          refine wr_add (a := 4) (b := w) rfl ?_
          show wr (d + 1) tb_M174 53 [(0, .ref 170), (1, vi w)] [vi (4 + w), .ref 170] s _
          rw [show 4 + w = (((4 + w).toNat : Nat) : Int) by omega]
          refine wr_call1 (args := [vi ((((4 + w).toNat : Nat) : Int))]) (rest := []) rfl rfl rfl rfl (Nat.le_of_ble_eq_true rfl) (cr_mono (c_first (d := d) (q := (4 + w).toNat) (by omega) _ hR (by omega)) ?_)
          rintro s16 out ⟨v15, rfl, hv15, hc15, hf15, hw15⟩
          · refine ⟨_, rfl, ?_⟩
            show wr (d + 1) tb_M174 56 [(0, .ref 170), (1, vi w)] [vi v15] s16 _
            unfold i32 at hv15
            refine wr_i2l (a := v15) rfl (by unfold i32; omega) ?_
            show wr (d + 1) tb_M174 57 [(0, .ref 170), (1, vi w)] [vl v15] s16 _
            refine wr_end (fun _ _ => rfl) ?_
            have hHn : HD s16.1 := fun i hi => by
              by_cases e : i = (4 + w).toNat
              · subst e; rw [hw15]; omega
              · rw [hf15 1630 i (by omega) (by omega)]; exact hH i hi
            have hf : ∀ k j, ¬ (1622 ≤ k ∧ k ≤ 1630) → s16.1 k j = s.1 k j := fun k j e => hf15 k j (by omega) (by omega)
            exact ⟨⟨_, rfl, rfl⟩, hc15, RX_RF (fun k j e => hf k j (fun q => e (by unfold RS; omega))) hR, fun k j hk => hf k j (by omega), ⟨C, D, SI_fr hS (fun k j _ e => hf k j e) (by rw [hf 170 1 (by omega)]; exact ht0) (fun _ => hHn)⟩, hf 170 1 (by omega)⟩
        · refine wr_if1f rfl rfl (by unfold i32; omega) h14 ?_
          refine wr_n (pc2 := 48) (lv2 := [(0, .ref 170), (1, vi w)]) (st2 := [vl 1099511627776]) 1 (fun _ _ => rfl) ?_
          refine wr_end (fun _ _ => rfl) ?_
          exact MP_same rfl rfl hR hS
