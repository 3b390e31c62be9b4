set_option maxHeartbeats 20000000 in
set_option maxRecDepth 100000 in
theorem l_isf {d b : Nat} {F : Ph} {G : Nat → gB} {own : Nat → Nat → Prop} {s : rS} (hR : RF s.1) (hI : RI F s.1 G own) (hb7 : b < 700) (hb : (b : Int) < s.1 170 55) (h23 : s.1 206 b = 2 ∨ s.1 206 b = 3) : ∀ (w o : Nat), (s.1 170 55 - o).toNat = w → (o : Int) ≤ s.1 170 55 → wr (d + 1) tb_M163 66 [(2, vi ((o : Int))), (0, .ref 170), (1, vi ((b : Int)))] [] s (WK F G own b s) := by
  intro w
  have h55 := hI.1
  induction w using Nat.strongRecOn with | ind w ih => ?_
  intro o hw ho
  refine wr_n (pc2 := 68) (lv2 := [(2, vi ((o : Int))), (0, .ref 170), (1, vi ((b : Int)))]) (st2 := [.ref 170, vi ((o : Int))]) 2 (fun _ _ => rfl) ?_
  refine wr_get (v := vi (s.1 170 55)) rfl rfl rfl (by decide) rfl fun h1 => ?_
  have h1 : -2147483648 ≤ s.1 170 55 ∧ s.1 170 55 ≤ 2147483647 := h1
  show wr (d + 1) tb_M163 71 [(2, vi ((o : Int))), (0, .ref 170), (1, vi ((b : Int)))] [vi (s.1 170 55), vi ((o : Int))] s _
  by_cases h2 : s.1 170 55 ≤ (o : Int)
  · refine wr_if2t rfl rfl (by unfold i32; omega) (by unfold i32; omega) h2 ?_
    refine wr_n (pc2 := 182) (lv2 := [(2, vi ((o : Int))), (0, .ref 170), (1, vi ((b : Int)))]) (st2 := [vi 0]) 1 (fun _ _ => rfl) ?_
    refine wr_end (fun _ _ => rfl) ?_
    exact .inl ⟨rfl, rfl⟩
  · refine wr_if2f rfl rfl (by unfold i32; omega) (by unfold i32; omega) h2 ?_
    refine wr_n (pc2 := 75) (lv2 := [(2, vi ((o : Int))), (0, .ref 170), (1, vi ((b : Int)))]) (st2 := [.ref 170]) 1 (fun _ _ => rfl) ?_
    refine wr_get (v := .ref 206) rfl rfl rfl (by decide) (rv_ref (hR 170 41 206 rfl)) fun h3 => ?_
    show wr (d + 1) tb_M163 78 [(2, vi ((o : Int))), (0, .ref 170), (1, vi ((b : Int)))] [.ref 206] s _
    refine wr_n (pc2 := 79) (lv2 := [(2, vi ((o : Int))), (0, .ref 170), (1, vi ((b : Int)))]) (st2 := [vi ((o : Int)), .ref 206]) 1 (fun _ _ => rfl) ?_
    refine wr_ald (a := (o : Int)) (v := vi (s.1 206 o)) rfl rfl rfl (by omega) (by omega) (by decide) rfl fun h4 => ?_
    have h4 : -2147483648 ≤ s.1 206 o ∧ s.1 206 o ≤ 2147483647 := h4
    show wr (d + 1) tb_M163 80 [(2, vi ((o : Int))), (0, .ref 170), (1, vi ((b : Int)))] [vi (s.1 206 o)] s _
    refine wr_n (pc2 := 82) (lv2 := [(2, vi ((o : Int))), (0, .ref 170), (1, vi ((b : Int)))]) (st2 := [.ref 170, vi 5, vi (s.1 206 o)]) 2 (fun _ _ => rfl) ?_
    refine wr_get (v := .ref 206) rfl rfl rfl (by decide) (rv_ref (hR 170 41 206 rfl)) fun h5 => ?_
    show wr (d + 1) tb_M163 85 [(2, vi ((o : Int))), (0, .ref 170), (1, vi ((b : Int)))] [.ref 206, vi 5, vi (s.1 206 o)] s _
    refine wr_n (pc2 := 86) (lv2 := [(2, vi ((o : Int))), (0, .ref 170), (1, vi ((b : Int)))]) (st2 := [vi ((b : Int)), .ref 206, vi 5, vi (s.1 206 o)]) 1 (fun _ _ => rfl) ?_
    refine wr_ald (a := (b : Int)) (v := vi (s.1 206 b)) rfl rfl rfl (by omega) (by omega) (by decide) rfl fun h6 => ?_
    have h6 : -2147483648 ≤ s.1 206 b ∧ s.1 206 b ≤ 2147483647 := h6
    show wr (d + 1) tb_M163 87 [(2, vi ((o : Int))), (0, .ref 170), (1, vi ((b : Int)))] [vi (s.1 206 b), vi 5, vi (s.1 206 o)] s _
    refine wr_sub (a := 5) (b := s.1 206 b) rfl ?_
    show wr (d + 1) tb_M163 88 [(2, vi ((o : Int))), (0, .ref 170), (1, vi ((b : Int)))] [vi (5 - (s.1 206 b)), vi (s.1 206 o)] s _
    by_cases h7 : s.1 206 o ≠ 5 - (s.1 206 b)
    · refine wr_if2t rfl rfl (by unfold i32; omega) (by unfold i32; omega) h7 ?_
      refine wr_inc (a := (o : Int)) rfl rfl ?_
      show wr (d + 1) tb_M163 178 [(2, vi ((o : Int) + 1)), (0, .ref 170), (1, vi ((b : Int)))] [] s _
      refine wr_n (pc2 := 66) (lv2 := [(2, vi ((o : Int) + 1)), (0, .ref 170), (1, vi ((b : Int)))]) (st2 := []) 1 (fun _ _ => rfl) ?_
      rw [show (o : Int) + 1 = ((o + 1 : Nat) : Int) from rfl]
      exact ih _ (by omega) (o + 1) rfl (by omega)
    · refine wr_if2f rfl rfl (by unfold i32; omega) (by unfold i32; omega) h7 ?_
      refine wr_n (pc2 := 92) (lv2 := [(2, vi ((o : Int))), (0, .ref 170), (1, vi ((b : Int)))]) (st2 := [.ref 170]) 1 (fun _ _ => rfl) ?_
      refine wr_get (v := .ref 207) rfl rfl rfl (by decide) (rv_ref (hR 170 42 207 rfl)) fun h8 => ?_
      show wr (d + 1) tb_M163 95 [(2, vi ((o : Int))), (0, .ref 170), (1, vi ((b : Int)))] [.ref 207] s _
      refine wr_n (pc2 := 96) (lv2 := [(2, vi ((o : Int))), (0, .ref 170), (1, vi ((b : Int)))]) (st2 := [vi ((o : Int)), .ref 207]) 1 (fun _ _ => rfl) ?_
      refine wr_ald (a := (o : Int)) (v := vi (s.1 207 o)) rfl rfl rfl (by omega) (by omega) (by decide) rfl fun h9 => ?_
      have h9 : -2147483648 ≤ s.1 207 o ∧ s.1 207 o ≤ 2147483647 := h9
      show wr (d + 1) tb_M163 97 [(2, vi ((o : Int))), (0, .ref 170), (1, vi ((b : Int)))] [vi (s.1 207 o)] s _
      refine wr_n (pc2 := 98) (lv2 := [(2, vi ((o : Int))), (0, .ref 170), (1, vi ((b : Int)))]) (st2 := [.ref 170, vi (s.1 207 o)]) 1 (fun _ _ => rfl) ?_
      refine wr_get (v := .ref 207) rfl rfl rfl (by decide) (rv_ref (hR 170 42 207 rfl)) fun h10 => ?_
      show wr (d + 1) tb_M163 101 [(2, vi ((o : Int))), (0, .ref 170), (1, vi ((b : Int)))] [.ref 207, vi (s.1 207 o)] s _
      refine wr_n (pc2 := 102) (lv2 := [(2, vi ((o : Int))), (0, .ref 170), (1, vi ((b : Int)))]) (st2 := [vi ((b : Int)), .ref 207, vi (s.1 207 o)]) 1 (fun _ _ => rfl) ?_
      refine wr_ald (a := (b : Int)) (v := vi (s.1 207 b)) rfl rfl rfl (by omega) (by omega) (by decide) rfl fun h11 => ?_
      have h11 : -2147483648 ≤ s.1 207 b ∧ s.1 207 b ≤ 2147483647 := h11
      show wr (d + 1) tb_M163 103 [(2, vi ((o : Int))), (0, .ref 170), (1, vi ((b : Int)))] [vi (s.1 207 b), vi (s.1 207 o)] s _
      by_cases h12 : s.1 207 o ≠ s.1 207 b
      · refine wr_if2t rfl rfl (by unfold i32; omega) (by unfold i32; omega) h12 ?_
        refine wr_inc (a := (o : Int)) rfl rfl ?_
        show wr (d + 1) tb_M163 178 [(2, vi ((o : Int) + 1)), (0, .ref 170), (1, vi ((b : Int)))] [] s _
        refine wr_n (pc2 := 66) (lv2 := [(2, vi ((o : Int) + 1)), (0, .ref 170), (1, vi ((b : Int)))]) (st2 := []) 1 (fun _ _ => rfl) ?_
        rw [show (o : Int) + 1 = ((o + 1 : Nat) : Int) from rfl]
        exact ih _ (by omega) (o + 1) rfl (by omega)
      · refine wr_if2f rfl rfl (by unfold i32; omega) (by unfold i32; omega) h12 ?_
        refine wr_n (pc2 := 108) (lv2 := [(2, vi ((o : Int))), (0, .ref 170), (1, vi ((b : Int)))]) (st2 := [vi ((b : Int)), vi ((o : Int))]) 2 (fun _ _ => rfl) ?_
        by_cases h13 : (o : Int) ≠ (b : Int)
        · refine wr_if2t rfl rfl (by unfold i32; omega) (by unfold i32; omega) h13 ?_
          refine wr_n (pc2 := 115) (lv2 := [(2, vi ((o : Int))), (0, .ref 170), (1, vi ((b : Int)))]) (st2 := [.ref 170]) 1 (fun _ _ => rfl) ?_
          refine wr_get (v := .ref 206) rfl rfl rfl (by decide) (rv_ref (hR 170 41 206 rfl)) fun h14 => ?_
          show wr (d + 1) tb_M163 118 [(2, vi ((o : Int))), (0, .ref 170), (1, vi ((b : Int)))] [.ref 206] s _
          refine wr_n (pc2 := 119) (lv2 := [(2, vi ((o : Int))), (0, .ref 170), (1, vi ((b : Int)))]) (st2 := [vi ((b : Int)), .ref 206]) 1 (fun _ _ => rfl) ?_
          refine wr_ald (a := (b : Int)) (v := vi (s.1 206 b)) rfl rfl rfl (by omega) (by omega) (by decide) rfl fun h15 => ?_
          have h15 : -2147483648 ≤ s.1 206 b ∧ s.1 206 b ≤ 2147483647 := h15
          show wr (d + 1) tb_M163 120 [(2, vi ((o : Int))), (0, .ref 170), (1, vi ((b : Int)))] [vi (s.1 206 b)] s _
          refine wr_n (pc2 := 121) (lv2 := [(2, vi ((o : Int))), (0, .ref 170), (1, vi ((b : Int)))]) (st2 := [vi 2, vi (s.1 206 b)]) 1 (fun _ _ => rfl) ?_
          by_cases h16 : s.1 206 b ≠ 2
          · refine wr_if2t rfl rfl (by unfold i32; omega) (by unfold i32; omega) h16 ?_
            refine wr_n (pc2 := 132) (lv2 := [(3, vi ((o : Int))), (2, vi ((o : Int))), (0, .ref 170), (1, vi ((b : Int)))]) (st2 := [vi ((o : Int)), vi ((b : Int))]) 4 (fun _ _ => rfl) ?_
            refine wr_add (a := (b : Int)) (b := (o : Int)) rfl ?_
            show wr (d + 1) tb_M163 133 [(3, vi ((o : Int))), (2, vi ((o : Int))), (0, .ref 170), (1, vi ((b : Int)))] [vi ((b : Int) + ((o : Int)))] s _
            refine wr_n (pc2 := 134) (lv2 := [(3, vi ((o : Int))), (2, vi ((o : Int))), (0, .ref 170), (1, vi ((b : Int)))]) (st2 := [vi ((o : Int)), vi ((b : Int) + ((o : Int)))]) 1 (fun _ _ => rfl) ?_
            refine wr_sub (a := (b : Int) + ((o : Int))) (b := (o : Int)) rfl ?_
            show wr (d + 1) tb_M163 135 [(3, vi ((o : Int))), (2, vi ((o : Int))), (0, .ref 170), (1, vi ((b : Int)))] [vi (((b : Int) + ((o : Int))) - ((o : Int)))] s _
            rw [show (b : Int) + (o : Int) - (o : Int) = (b : Int) by omega]
            show wr (d + 1) tb_M163 135 [(3, vi ((o : Int))), (2, vi ((o : Int))), (0, .ref 170), (1, vi ((b : Int)))] [vi ((b : Int))] s _
            have hSo : s.1 206 o = 2 := by omega
            have hRo : s.1 206 b = 3 := by omega
            have hSB := (hI.2.1 o ⟨by omega, by omega⟩).1
            have hRB := (hI.2.1 b ⟨by omega, by omega⟩).1
            rw [hSo] at hSB
            rw [hRo] at hRB
            have hS8 : 1 ≤ s.1 208 o ∧ s.1 208 o ≤ 1000 := by have := hSB.2.2.2.2.2.1; unfold eo at this; simp at this; omega
            have hR8 : 0 ≤ s.1 208 b ∧ s.1 208 b ≤ 999 := by have := hRB.2.2.2.2.2.1; unfold eo at this; simp at this; omega
            clear hSB hRB
            refine wr_n (pc2 := 138) (lv2 := [(4, vi ((b : Int))), (3, vi ((o : Int))), (2, vi ((o : Int))), (0, .ref 170), (1, vi ((b : Int)))]) (st2 := [.ref 170]) 2 (fun _ _ => rfl) ?_
            refine wr_get (v := .ref 208) rfl rfl rfl (by decide) (rv_ref (hR 170 43 208 rfl)) fun h17 => ?_
            show wr (d + 1) tb_M163 141 [(4, vi ((b : Int))), (3, vi ((o : Int))), (2, vi ((o : Int))), (0, .ref 170), (1, vi ((b : Int)))] [.ref 208] s _
            refine wr_n (pc2 := 143) (lv2 := [(4, vi ((b : Int))), (3, vi ((o : Int))), (2, vi ((o : Int))), (0, .ref 170), (1, vi ((b : Int)))]) (st2 := [vi ((o : Int)), .ref 208, vi ((o : Int)), .ref 208]) 2 (fun _ _ => rfl) ?_
            refine wr_ald (a := (o : Int)) (v := vi (s.1 208 o)) rfl rfl rfl (by omega) (by omega) (by decide) rfl fun h18 => ?_
            have h18 : -2147483648 ≤ s.1 208 o ∧ s.1 208 o ≤ 2147483647 := h18
            show wr (d + 1) tb_M163 144 [(4, vi ((b : Int))), (3, vi ((o : Int))), (2, vi ((o : Int))), (0, .ref 170), (1, vi ((b : Int)))] [vi (s.1 208 o), vi ((o : Int)), .ref 208] s _
            refine wr_n (pc2 := 145) (lv2 := [(4, vi ((b : Int))), (3, vi ((o : Int))), (2, vi ((o : Int))), (0, .ref 170), (1, vi ((b : Int)))]) (st2 := [vi 1, vi (s.1 208 o), vi ((o : Int)), .ref 208]) 1 (fun _ _ => rfl) ?_
            refine wr_sub (a := s.1 208 o) (b := 1) rfl ?_
            show wr (d + 1) tb_M163 146 [(4, vi ((b : Int))), (3, vi ((o : Int))), (2, vi ((o : Int))), (0, .ref 170), (1, vi ((b : Int)))] [vi ((s.1 208 o) - 1), vi ((o : Int)), .ref 208] s _
            refine wr_ast (a := (o : Int)) (z := (s.1 208 o) - 1) rfl (by decide) rfl rfl (by omega) (by omega) (by decide) rfl (show -2147483648 ≤ (s.1 208 o) - 1 ∧ (s.1 208 o) - 1 ≤ 2147483647 by omega) ?_
            show wr (d + 1) tb_M163 147 [(4, vi ((b : Int))), (3, vi ((o : Int))), (2, vi ((o : Int))), (0, .ref 170), (1, vi ((b : Int)))] [] (up2 s.1 208 o ((s.1 208 o) - 1), s.2) _
            have hR19 : RF (up2 s.1 208 o ((s.1 208 o) - 1)) := (RF_up hR rfl)
            refine wr_n (pc2 := 151) (lv2 := [(4, vi ((b : Int))), (3, vi ((o : Int))), (2, vi ((o : Int))), (0, .ref 170), (1, vi ((b : Int)))]) (st2 := [.ref 170, vi ((b : Int)), .ref 170]) 3 (fun _ _ => rfl) ?_
            refine wr_get (v := .ref 219) rfl rfl rfl (by decide) (rv_ref (hR19 170 48 219 rfl)) fun h20 => ?_
            show wr (d + 1) tb_M163 154 [(4, vi ((b : Int))), (3, vi ((o : Int))), (2, vi ((o : Int))), (0, .ref 170), (1, vi ((b : Int)))] [.ref 219, vi ((b : Int)), .ref 170] (up2 s.1 208 o ((s.1 208 o) - 1), s.2) _
            refine wr_n (pc2 := 155) (lv2 := [(4, vi ((b : Int))), (3, vi ((o : Int))), (2, vi ((o : Int))), (0, .ref 170), (1, vi ((b : Int)))]) (st2 := [vi ((o : Int)), .ref 219, vi ((b : Int)), .ref 170]) 1 (fun _ _ => rfl) ?_
            refine wr_ald (a := (o : Int)) (v := .ref (220 + o)) rfl rfl rfl (by omega) (by omega) (by decide) (rv_ref (hR19 219 o (220 + o) (rc_st (by omega)))) fun h21 => ?_
            show wr (d + 1) tb_M163 156 [(4, vi ((b : Int))), (3, vi ((o : Int))), (2, vi ((o : Int))), (0, .ref 170), (1, vi ((b : Int)))] [.ref (220 + o), vi ((b : Int)), .ref 170] (up2 s.1 208 o ((s.1 208 o) - 1), s.2) _
            refine wr_n (pc2 := 157) (lv2 := [(4, vi ((b : Int))), (3, vi ((o : Int))), (2, vi ((o : Int))), (0, .ref 170), (1, vi ((b : Int)))]) (st2 := [.ref 170, .ref (220 + o), vi ((b : Int)), .ref 170]) 1 (fun _ _ => rfl) ?_
            refine wr_get (v := .ref 208) rfl rfl rfl (by decide) (rv_ref (hR19 170 43 208 rfl)) fun h22 => ?_
            show wr (d + 1) tb_M163 160 [(4, vi ((b : Int))), (3, vi ((o : Int))), (2, vi ((o : Int))), (0, .ref 170), (1, vi ((b : Int)))] [.ref 208, .ref (220 + o), vi ((b : Int)), .ref 170] (up2 s.1 208 o ((s.1 208 o) - 1), s.2) _
            refine wr_n (pc2 := 161) (lv2 := [(4, vi ((b : Int))), (3, vi ((o : Int))), (2, vi ((o : Int))), (0, .ref 170), (1, vi ((b : Int)))]) (st2 := [vi ((o : Int)), .ref 208, .ref (220 + o), vi ((b : Int)), .ref 170]) 1 (fun _ _ => rfl) ?_
            refine wr_ald (a := (o : Int)) (v := vi ((s.1 208 o) - 1)) rfl rfl rfl (by omega) (by omega) (by decide) (by show rv _ ((up2 s.1 208 o ((s.1 208 o) - 1)) 208 o) = _; rw [up_self]; rfl) fun h23 => ?_
            have h23 : rg _ ((up2 s.1 208 o ((s.1 208 o) - 1)) 208 o) := h23
            rw [up_self] at h23
            have h23 : -2147483648 ≤ (s.1 208 o) - 1 ∧ (s.1 208 o) - 1 ≤ 2147483647 := h23
            show wr (d + 1) tb_M163 162 [(4, vi ((b : Int))), (3, vi ((o : Int))), (2, vi ((o : Int))), (0, .ref 170), (1, vi ((b : Int)))] [vi ((s.1 208 o) - 1), .ref (220 + o), vi ((b : Int)), .ref 170] (up2 s.1 208 o ((s.1 208 o) - 1), s.2) _
            refine wr_ald (a := (s.1 208 o) - 1) (v := vi (s.1 (220 + o) (((s.1 208 o) - 1).toNat))) rfl (TG_st (by omega)) rfl (by omega) (by omega) (by decide) (by show rv _ ((up2 s.1 208 o ((s.1 208 o) - 1)) (220 + o) (((s.1 208 o) - 1).toNat)) = _; rw [up_nk (by omega)]; rfl) fun h24 => ?_
            have h24 : rg _ ((up2 s.1 208 o ((s.1 208 o) - 1)) (220 + o) (((s.1 208 o) - 1).toNat)) := h24
            rw [up_nk (by omega)] at h24
            have h24 : -2147483648 ≤ s.1 (220 + o) (((s.1 208 o) - 1).toNat) ∧ s.1 (220 + o) (((s.1 208 o) - 1).toNat) ≤ 2147483647 := h24
            show wr (d + 1) tb_M163 163 [(4, vi ((b : Int))), (3, vi ((o : Int))), (2, vi ((o : Int))), (0, .ref 170), (1, vi ((b : Int)))] [vi (s.1 (220 + o) (((s.1 208 o) - 1).toNat)), vi ((b : Int)), .ref 170] (up2 s.1 208 o ((s.1 208 o) - 1), s.2) _
            refine wr_call1 (args := [vi ((b : Int)), vi (s.1 (220 + o) (((s.1 208 o) - 1).toNat))]) (rest := []) rfl rfl rfl rfl (Nat.le_of_ble_eq_true rfl) (cr_mono (x_push (d := d) (b := b) (v := s.1 (220 + o) (((s.1 208 o) - 1).toNat)) _ hR19 (by omega) (by unfold i32; omega) (by show 0 ≤ up2 s.1 208 o (s.1 208 o - 1) 208 b ∧ up2 s.1 208 o (s.1 208 o - 1) 208 b < 1000; rw [up_nj (by omega)]; omega)) ?_)
            rintro s26 out ⟨rfl, hc25, hDk25, hq25, ht25⟩
            · refine ⟨_, rfl, ?_⟩
              show wr (d + 1) tb_M163 166 [(4, vi ((b : Int))), (3, vi ((o : Int))), (2, vi ((o : Int))), (0, .ref 170), (1, vi ((b : Int)))] [] s26 _
              have hR25 : RF s26.1 := LD_RF (by omega) hDk25 hR19
              refine wr_n (pc2 := 167) (lv2 := [(4, vi ((b : Int))), (3, vi ((o : Int))), (2, vi ((o : Int))), (0, .ref 170), (1, vi ((b : Int)))]) (st2 := [.ref 170]) 1 (fun _ _ => rfl) ?_
              refine wr_get (v := .ref 206) rfl rfl rfl (by decide) (rv_ref (hR25 170 41 206 rfl)) fun h28 => ?_
              show wr (d + 1) tb_M163 170 [(4, vi ((b : Int))), (3, vi ((o : Int))), (2, vi ((o : Int))), (0, .ref 170), (1, vi ((b : Int)))] [.ref 206] s26 _
              refine wr_n (pc2 := 172) (lv2 := [(4, vi ((b : Int))), (3, vi ((o : Int))), (2, vi ((o : Int))), (0, .ref 170), (1, vi ((b : Int)))]) (st2 := [vi 1, vi ((o : Int)), .ref 206]) 2 (fun _ _ => rfl) ?_
              refine wr_ast (a := (o : Int)) (z := 1) rfl (by decide) rfl rfl (by omega) (by omega) (by decide) rfl (show -2147483648 ≤ 1 ∧ 1 ≤ 2147483647 by omega) ?_
              show wr (d + 1) tb_M163 173 [(4, vi ((b : Int))), (3, vi ((o : Int))), (2, vi ((o : Int))), (0, .ref 170), (1, vi ((b : Int)))] [] (up2 s26.1 206 o 1, s26.2) _
              have hR29 : RF (up2 s26.1 206 o 1) := (RF_up hR25 rfl)
              refine wr_n (pc2 := 174) (lv2 := [(4, vi ((b : Int))), (3, vi ((o : Int))), (2, vi ((o : Int))), (0, .ref 170), (1, vi ((b : Int)))]) (st2 := [vi 1]) 1 (fun _ _ => rfl) ?_
              refine wr_end (fun _ _ => rfl) ?_
              obtain ⟨sn, hsn⟩ : ∃ qq9 : rS, qq9 = (up2 s26.1 206 o 1, s26.2) := ⟨_, rfl⟩
              rw [← hsn]
              have hu : U1 206 o s26.1 sn.1 := by rw [hsn]; exact U1_up
              have hv9 : sn.1 206 o = 1 := by rw [hsn]; show up2 s26.1 206 o 1 206 o = _; exact up_self
              exact WK_two (S := o) (R := b) (o := o) hR hI (by omega) (by omega) (by omega) (by omega) hSo hRo (by omega) hDk25 hq25 ht25 hu hv9 (by rw [hsn]; exact hc25)
          · refine wr_if2f rfl rfl (by unfold i32; omega) (by unfold i32; omega) h16 ?_
            refine wr_n (pc2 := 132) (lv2 := [(3, vi ((b : Int))), (2, vi ((o : Int))), (0, .ref 170), (1, vi ((b : Int)))]) (st2 := [vi ((o : Int)), vi ((b : Int))]) 5 (fun _ _ => rfl) ?_
            refine wr_add (a := (b : Int)) (b := (o : Int)) rfl ?_
            show wr (d + 1) tb_M163 133 [(3, vi ((b : Int))), (2, vi ((o : Int))), (0, .ref 170), (1, vi ((b : Int)))] [vi ((b : Int) + ((o : Int)))] s _
            refine wr_n (pc2 := 134) (lv2 := [(3, vi ((b : Int))), (2, vi ((o : Int))), (0, .ref 170), (1, vi ((b : Int)))]) (st2 := [vi ((b : Int)), vi ((b : Int) + ((o : Int)))]) 1 (fun _ _ => rfl) ?_
            refine wr_sub (a := (b : Int) + ((o : Int))) (b := (b : Int)) rfl ?_
            show wr (d + 1) tb_M163 135 [(3, vi ((b : Int))), (2, vi ((o : Int))), (0, .ref 170), (1, vi ((b : Int)))] [vi (((b : Int) + ((o : Int))) - ((b : Int)))] s _
            rw [show (b : Int) + (o : Int) - (b : Int) = (o : Int) by omega]
            show wr (d + 1) tb_M163 135 [(3, vi ((b : Int))), (2, vi ((o : Int))), (0, .ref 170), (1, vi ((b : Int)))] [vi ((o : Int))] s _
            have hSo : s.1 206 b = 2 := by omega
            have hRo : s.1 206 o = 3 := by omega
            have hSB := (hI.2.1 b ⟨by omega, by omega⟩).1
            have hRB := (hI.2.1 o ⟨by omega, by omega⟩).1
            rw [hSo] at hSB
            rw [hRo] at hRB
            have hS8 : 1 ≤ s.1 208 b ∧ s.1 208 b ≤ 1000 := by have := hSB.2.2.2.2.2.1; unfold eo at this; simp at this; omega
            have hR8 : 0 ≤ s.1 208 o ∧ s.1 208 o ≤ 999 := by have := hRB.2.2.2.2.2.1; unfold eo at this; simp at this; omega
            clear hSB hRB
            refine wr_n (pc2 := 138) (lv2 := [(4, vi ((o : Int))), (3, vi ((b : Int))), (2, vi ((o : Int))), (0, .ref 170), (1, vi ((b : Int)))]) (st2 := [.ref 170]) 2 (fun _ _ => rfl) ?_
            refine wr_get (v := .ref 208) rfl rfl rfl (by decide) (rv_ref (hR 170 43 208 rfl)) fun h30 => ?_
            show wr (d + 1) tb_M163 141 [(4, vi ((o : Int))), (3, vi ((b : Int))), (2, vi ((o : Int))), (0, .ref 170), (1, vi ((b : Int)))] [.ref 208] s _
            refine wr_n (pc2 := 143) (lv2 := [(4, vi ((o : Int))), (3, vi ((b : Int))), (2, vi ((o : Int))), (0, .ref 170), (1, vi ((b : Int)))]) (st2 := [vi ((b : Int)), .ref 208, vi ((b : Int)), .ref 208]) 2 (fun _ _ => rfl) ?_
            refine wr_ald (a := (b : Int)) (v := vi (s.1 208 b)) rfl rfl rfl (by omega) (by omega) (by decide) rfl fun h31 => ?_
            have h31 : -2147483648 ≤ s.1 208 b ∧ s.1 208 b ≤ 2147483647 := h31
            show wr (d + 1) tb_M163 144 [(4, vi ((o : Int))), (3, vi ((b : Int))), (2, vi ((o : Int))), (0, .ref 170), (1, vi ((b : Int)))] [vi (s.1 208 b), vi ((b : Int)), .ref 208] s _
            refine wr_n (pc2 := 145) (lv2 := [(4, vi ((o : Int))), (3, vi ((b : Int))), (2, vi ((o : Int))), (0, .ref 170), (1, vi ((b : Int)))]) (st2 := [vi 1, vi (s.1 208 b), vi ((b : Int)), .ref 208]) 1 (fun _ _ => rfl) ?_
            refine wr_sub (a := s.1 208 b) (b := 1) rfl ?_
            show wr (d + 1) tb_M163 146 [(4, vi ((o : Int))), (3, vi ((b : Int))), (2, vi ((o : Int))), (0, .ref 170), (1, vi ((b : Int)))] [vi ((s.1 208 b) - 1), vi ((b : Int)), .ref 208] s _
            refine wr_ast (a := (b : Int)) (z := (s.1 208 b) - 1) rfl (by decide) rfl rfl (by omega) (by omega) (by decide) rfl (show -2147483648 ≤ (s.1 208 b) - 1 ∧ (s.1 208 b) - 1 ≤ 2147483647 by omega) ?_
            show wr (d + 1) tb_M163 147 [(4, vi ((o : Int))), (3, vi ((b : Int))), (2, vi ((o : Int))), (0, .ref 170), (1, vi ((b : Int)))] [] (up2 s.1 208 b ((s.1 208 b) - 1), s.2) _
            have hR32 : RF (up2 s.1 208 b ((s.1 208 b) - 1)) := (RF_up hR rfl)
            refine wr_n (pc2 := 151) (lv2 := [(4, vi ((o : Int))), (3, vi ((b : Int))), (2, vi ((o : Int))), (0, .ref 170), (1, vi ((b : Int)))]) (st2 := [.ref 170, vi ((o : Int)), .ref 170]) 3 (fun _ _ => rfl) ?_
            refine wr_get (v := .ref 219) rfl rfl rfl (by decide) (rv_ref (hR32 170 48 219 rfl)) fun h33 => ?_
            show wr (d + 1) tb_M163 154 [(4, vi ((o : Int))), (3, vi ((b : Int))), (2, vi ((o : Int))), (0, .ref 170), (1, vi ((b : Int)))] [.ref 219, vi ((o : Int)), .ref 170] (up2 s.1 208 b ((s.1 208 b) - 1), s.2) _
            refine wr_n (pc2 := 155) (lv2 := [(4, vi ((o : Int))), (3, vi ((b : Int))), (2, vi ((o : Int))), (0, .ref 170), (1, vi ((b : Int)))]) (st2 := [vi ((b : Int)), .ref 219, vi ((o : Int)), .ref 170]) 1 (fun _ _ => rfl) ?_
            refine wr_ald (a := (b : Int)) (v := .ref (220 + b)) rfl rfl rfl (by omega) (by omega) (by decide) (rv_ref (hR32 219 b (220 + b) (rc_st (by omega)))) fun h34 => ?_
            show wr (d + 1) tb_M163 156 [(4, vi ((o : Int))), (3, vi ((b : Int))), (2, vi ((o : Int))), (0, .ref 170), (1, vi ((b : Int)))] [.ref (220 + b), vi ((o : Int)), .ref 170] (up2 s.1 208 b ((s.1 208 b) - 1), s.2) _
            refine wr_n (pc2 := 157) (lv2 := [(4, vi ((o : Int))), (3, vi ((b : Int))), (2, vi ((o : Int))), (0, .ref 170), (1, vi ((b : Int)))]) (st2 := [.ref 170, .ref (220 + b), vi ((o : Int)), .ref 170]) 1 (fun _ _ => rfl) ?_
            refine wr_get (v := .ref 208) rfl rfl rfl (by decide) (rv_ref (hR32 170 43 208 rfl)) fun h35 => ?_
            show wr (d + 1) tb_M163 160 [(4, vi ((o : Int))), (3, vi ((b : Int))), (2, vi ((o : Int))), (0, .ref 170), (1, vi ((b : Int)))] [.ref 208, .ref (220 + b), vi ((o : Int)), .ref 170] (up2 s.1 208 b ((s.1 208 b) - 1), s.2) _
            refine wr_n (pc2 := 161) (lv2 := [(4, vi ((o : Int))), (3, vi ((b : Int))), (2, vi ((o : Int))), (0, .ref 170), (1, vi ((b : Int)))]) (st2 := [vi ((b : Int)), .ref 208, .ref (220 + b), vi ((o : Int)), .ref 170]) 1 (fun _ _ => rfl) ?_
            refine wr_ald (a := (b : Int)) (v := vi ((s.1 208 b) - 1)) rfl rfl rfl (by omega) (by omega) (by decide) (by show rv _ ((up2 s.1 208 b ((s.1 208 b) - 1)) 208 b) = _; rw [up_self]; rfl) fun h36 => ?_
            have h36 : rg _ ((up2 s.1 208 b ((s.1 208 b) - 1)) 208 b) := h36
            rw [up_self] at h36
            have h36 : -2147483648 ≤ (s.1 208 b) - 1 ∧ (s.1 208 b) - 1 ≤ 2147483647 := h36
            show wr (d + 1) tb_M163 162 [(4, vi ((o : Int))), (3, vi ((b : Int))), (2, vi ((o : Int))), (0, .ref 170), (1, vi ((b : Int)))] [vi ((s.1 208 b) - 1), .ref (220 + b), vi ((o : Int)), .ref 170] (up2 s.1 208 b ((s.1 208 b) - 1), s.2) _
            refine wr_ald (a := (s.1 208 b) - 1) (v := vi (s.1 (220 + b) (((s.1 208 b) - 1).toNat))) rfl (TG_st (by omega)) rfl (by omega) (by omega) (by decide) (by show rv _ ((up2 s.1 208 b ((s.1 208 b) - 1)) (220 + b) (((s.1 208 b) - 1).toNat)) = _; rw [up_nk (by omega)]; rfl) fun h37 => ?_
            have h37 : rg _ ((up2 s.1 208 b ((s.1 208 b) - 1)) (220 + b) (((s.1 208 b) - 1).toNat)) := h37
            rw [up_nk (by omega)] at h37
            have h37 : -2147483648 ≤ s.1 (220 + b) (((s.1 208 b) - 1).toNat) ∧ s.1 (220 + b) (((s.1 208 b) - 1).toNat) ≤ 2147483647 := h37
            show wr (d + 1) tb_M163 163 [(4, vi ((o : Int))), (3, vi ((b : Int))), (2, vi ((o : Int))), (0, .ref 170), (1, vi ((b : Int)))] [vi (s.1 (220 + b) (((s.1 208 b) - 1).toNat)), vi ((o : Int)), .ref 170] (up2 s.1 208 b ((s.1 208 b) - 1), s.2) _
            refine wr_call1 (args := [vi ((o : Int)), vi (s.1 (220 + b) (((s.1 208 b) - 1).toNat))]) (rest := []) rfl rfl rfl rfl (Nat.le_of_ble_eq_true rfl) (cr_mono (x_push (d := d) (b := o) (v := s.1 (220 + b) (((s.1 208 b) - 1).toNat)) _ hR32 (by omega) (by unfold i32; omega) (by show 0 ≤ up2 s.1 208 b (s.1 208 b - 1) 208 o ∧ up2 s.1 208 b (s.1 208 b - 1) 208 o < 1000; rw [up_nj (by omega)]; omega)) ?_)
            rintro s39 out ⟨rfl, hc38, hDk38, hq38, ht38⟩
            · refine ⟨_, rfl, ?_⟩
              show wr (d + 1) tb_M163 166 [(4, vi ((o : Int))), (3, vi ((b : Int))), (2, vi ((o : Int))), (0, .ref 170), (1, vi ((b : Int)))] [] s39 _
              have hR38 : RF s39.1 := LD_RF (by omega) hDk38 hR32
              refine wr_n (pc2 := 167) (lv2 := [(4, vi ((o : Int))), (3, vi ((b : Int))), (2, vi ((o : Int))), (0, .ref 170), (1, vi ((b : Int)))]) (st2 := [.ref 170]) 1 (fun _ _ => rfl) ?_
              refine wr_get (v := .ref 206) rfl rfl rfl (by decide) (rv_ref (hR38 170 41 206 rfl)) fun h41 => ?_
              show wr (d + 1) tb_M163 170 [(4, vi ((o : Int))), (3, vi ((b : Int))), (2, vi ((o : Int))), (0, .ref 170), (1, vi ((b : Int)))] [.ref 206] s39 _
              refine wr_n (pc2 := 172) (lv2 := [(4, vi ((o : Int))), (3, vi ((b : Int))), (2, vi ((o : Int))), (0, .ref 170), (1, vi ((b : Int)))]) (st2 := [vi 1, vi ((o : Int)), .ref 206]) 2 (fun _ _ => rfl) ?_
              refine wr_ast (a := (o : Int)) (z := 1) rfl (by decide) rfl rfl (by omega) (by omega) (by decide) rfl (show -2147483648 ≤ 1 ∧ 1 ≤ 2147483647 by omega) ?_
              show wr (d + 1) tb_M163 173 [(4, vi ((o : Int))), (3, vi ((b : Int))), (2, vi ((o : Int))), (0, .ref 170), (1, vi ((b : Int)))] [] (up2 s39.1 206 o 1, s39.2) _
              have hR42 : RF (up2 s39.1 206 o 1) := (RF_up hR38 rfl)
              refine wr_n (pc2 := 174) (lv2 := [(4, vi ((o : Int))), (3, vi ((b : Int))), (2, vi ((o : Int))), (0, .ref 170), (1, vi ((b : Int)))]) (st2 := [vi 1]) 1 (fun _ _ => rfl) ?_
              refine wr_end (fun _ _ => rfl) ?_
              obtain ⟨sn, hsn⟩ : ∃ qq9 : rS, qq9 = (up2 s39.1 206 o 1, s39.2) := ⟨_, rfl⟩
              rw [← hsn]
              have hu : U1 206 o s39.1 sn.1 := by rw [hsn]; exact U1_up
              have hv9 : sn.1 206 o = 1 := by rw [hsn]; show up2 s39.1 206 o 1 206 o = _; exact up_self
              exact WK_two (S := b) (R := o) (o := o) hR hI (by omega) (by omega) (by omega) (by omega) hSo hRo (by omega) hDk38 hq38 ht38 hu hv9 (by rw [hsn]; exact hc38)
        · refine wr_if2f rfl rfl (by unfold i32; omega) (by unfold i32; omega) h13 ?_
          refine wr_n (pc2 := 175) (lv2 := [(2, vi ((o : Int))), (0, .ref 170), (1, vi ((b : Int)))]) (st2 := []) 1 (fun _ _ => rfl) ?_
          refine wr_inc (a := (o : Int)) rfl rfl ?_
          show wr (d + 1) tb_M163 178 [(2, vi ((o : Int) + 1)), (0, .ref 170), (1, vi ((b : Int)))] [] s _
          refine wr_n (pc2 := 66) (lv2 := [(2, vi ((o : Int) + 1)), (0, .ref 170), (1, vi ((b : Int)))]) (st2 := []) 1 (fun _ _ => rfl) ?_
          rw [show (o : Int) + 1 = ((o + 1 : Nat) : Int) from rfl]
          exact ih _ (by omega) (o + 1) rfl (by omega)
set_option maxHeartbeats 20000000 in
set_option maxRecDepth 100000 in
theorem p_isFree {d b : Nat} {F : Ph} {G : Nat → gB} {own : Nat → Nat → Prop} {s : rS} (hR : RF s.1) (hI : RI F s.1 G own) (hb7 : b < 700) (hb : (b : Int) < s.1 170 55) (h25 : 2 ≤ s.1 206 b ∧ s.1 206 b ≤ 5) : cr (d + 2) 163 [.ref 170, vi ((b : Int))] s (WK F G own b s) := by
  have h55 := hI.1
  have hw7 := (hI.2.1 b ⟨hb, by omega⟩).2.2
  refine cr_of (M := tb_M163) rfl (Nat.le_of_ble_eq_true rfl) ?_
  show wr (d + 1) tb_M163 0 [(0, .ref 170), (1, vi ((b : Int)))] [] s _
  refine wr_n (pc2 := 1) (lv2 := [(0, .ref 170), (1, vi ((b : Int)))]) (st2 := [.ref 170]) 1 (fun _ _ => rfl) ?_
  refine wr_get (v := .ref 206) rfl rfl rfl (by decide) (rv_ref (hR 170 41 206 rfl)) fun h1 => ?_
  show wr (d + 1) tb_M163 4 [(0, .ref 170), (1, vi ((b : Int)))] [.ref 206] s _
  refine wr_n (pc2 := 5) (lv2 := [(0, .ref 170), (1, vi ((b : Int)))]) (st2 := [vi ((b : Int)), .ref 206]) 1 (fun _ _ => rfl) ?_
  refine wr_ald (a := (b : Int)) (v := vi (s.1 206 b)) rfl rfl rfl (by omega) (by omega) (by decide) rfl fun h2 => ?_
  have h2 : -2147483648 ≤ s.1 206 b ∧ s.1 206 b ≤ 2147483647 := h2
  show wr (d + 1) tb_M163 6 [(0, .ref 170), (1, vi ((b : Int)))] [vi (s.1 206 b)] s _
  refine wr_n (pc2 := 7) (lv2 := [(0, .ref 170), (1, vi ((b : Int)))]) (st2 := [vi 4, vi (s.1 206 b)]) 1 (fun _ _ => rfl) ?_
  by_cases h3 : s.1 206 b ≠ 4
  · refine wr_if2t rfl rfl (by unfold i32; omega) (by unfold i32; omega) h3 ?_
    refine wr_n (pc2 := 35) (lv2 := [(0, .ref 170), (1, vi ((b : Int)))]) (st2 := [.ref 170]) 1 (fun _ _ => rfl) ?_
    refine wr_get (v := .ref 206) rfl rfl rfl (by decide) (rv_ref (hR 170 41 206 rfl)) fun h4 => ?_
    show wr (d + 1) tb_M163 38 [(0, .ref 170), (1, vi ((b : Int)))] [.ref 206] s _
    refine wr_n (pc2 := 39) (lv2 := [(0, .ref 170), (1, vi ((b : Int)))]) (st2 := [vi ((b : Int)), .ref 206]) 1 (fun _ _ => rfl) ?_
    refine wr_ald (a := (b : Int)) (v := vi (s.1 206 b)) rfl rfl rfl (by omega) (by omega) (by decide) rfl fun h5 => ?_
    have h5 : -2147483648 ≤ s.1 206 b ∧ s.1 206 b ≤ 2147483647 := h5
    show wr (d + 1) tb_M163 40 [(0, .ref 170), (1, vi ((b : Int)))] [vi (s.1 206 b)] s _
    refine wr_n (pc2 := 41) (lv2 := [(0, .ref 170), (1, vi ((b : Int)))]) (st2 := [vi 5, vi (s.1 206 b)]) 1 (fun _ _ => rfl) ?_
    by_cases h6 : s.1 206 b ≠ 5
    · refine wr_if2t rfl rfl (by unfold i32; omega) (by unfold i32; omega) h6 ?_
      refine wr_n (pc2 := 66) (lv2 := [(2, vi 0), (0, .ref 170), (1, vi ((b : Int)))]) (st2 := []) 2 (fun _ _ => rfl) ?_
      exact l_isf hR hI hb7 hb (by omega) _ 0 rfl (by omega)
    · refine wr_if2f rfl rfl (by unfold i32; omega) (by unfold i32; omega) h6 ?_
      refine wr_n (pc2 := 45) (lv2 := [(0, .ref 170), (1, vi ((b : Int)))]) (st2 := [.ref 170]) 1 (fun _ _ => rfl) ?_
      refine wr_get (v := .ref 1630) rfl rfl rfl (by decide) (rv_ref (hR 170 51 1630 rfl)) fun h7 => ?_
      show wr (d + 1) tb_M163 48 [(0, .ref 170), (1, vi ((b : Int)))] [.ref 1630] s _
      refine wr_n (pc2 := 49) (lv2 := [(0, .ref 170), (1, vi ((b : Int)))]) (st2 := [.ref 170, .ref 1630]) 1 (fun _ _ => rfl) ?_
      refine wr_get (v := .ref 207) rfl rfl rfl (by decide) (rv_ref (hR 170 42 207 rfl)) fun h8 => ?_
      show wr (d + 1) tb_M163 52 [(0, .ref 170), (1, vi ((b : Int)))] [.ref 207, .ref 1630] s _
      refine wr_n (pc2 := 53) (lv2 := [(0, .ref 170), (1, vi ((b : Int)))]) (st2 := [vi ((b : Int)), .ref 207, .ref 1630]) 1 (fun _ _ => rfl) ?_
      refine wr_ald (a := (b : Int)) (v := vi (s.1 207 b)) rfl rfl rfl (by omega) (by omega) (by decide) rfl fun h9 => ?_
      have h9 : -2147483648 ≤ s.1 207 b ∧ s.1 207 b ≤ 2147483647 := h9
      show wr (d + 1) tb_M163 54 [(0, .ref 170), (1, vi ((b : Int)))] [vi (s.1 207 b), .ref 1630] s _
      refine wr_ald (a := s.1 207 b) (v := vi (s.1 1630 ((s.1 207 b).toNat))) rfl rfl rfl (by omega) (by omega) (by decide) rfl fun h10 => ?_
      have h10 : -2147483648 ≤ s.1 1630 ((s.1 207 b).toNat) ∧ s.1 1630 ((s.1 207 b).toNat) ≤ 2147483647 := h10
      show wr (d + 1) tb_M163 55 [(0, .ref 170), (1, vi ((b : Int)))] [vi (s.1 1630 ((s.1 207 b).toNat))] s _
      by_cases h11 : s.1 1630 ((s.1 207 b).toNat) ≤ 0
      · refine wr_if1t rfl rfl (by unfold i32; omega) h11 ?_
        refine wr_n (pc2 := 63) (lv2 := [(0, .ref 170), (1, vi ((b : Int)))]) (st2 := [vi 0]) 1 (fun _ _ => rfl) ?_
        refine wr_end (fun _ _ => rfl) ?_
        exact .inl ⟨rfl, rfl⟩
      · refine wr_if1f rfl rfl (by unfold i32; omega) h11 ?_
        refine wr_n (pc2 := 63) (lv2 := [(0, .ref 170), (1, vi ((b : Int)))]) (st2 := [vi 1]) 2 (fun _ _ => rfl) ?_
        refine wr_end (fun _ _ => rfl) ?_
        have hw := WK_port hI hb (by omega) (.inr (.inr ⟨by omega, by omega⟩))
        exact .inr ⟨rfl, rfl, hR, fun _ _ _ => rfl, fun _ => rfl, fun _ => rfl, _, hw.1, .inr hw.2⟩
  · refine wr_if2f rfl rfl (by unfold i32; omega) (by unfold i32; omega) h3 ?_
    refine wr_n (pc2 := 11) (lv2 := [(0, .ref 170), (1, vi ((b : Int)))]) (st2 := [.ref 170]) 1 (fun _ _ => rfl) ?_
    refine wr_get (v := .ref 1630) rfl rfl rfl (by decide) (rv_ref (hR 170 51 1630 rfl)) fun h12 => ?_
    show wr (d + 1) tb_M163 14 [(0, .ref 170), (1, vi ((b : Int)))] [.ref 1630] s _
    refine wr_n (pc2 := 16) (lv2 := [(0, .ref 170), (1, vi ((b : Int)))]) (st2 := [.ref 170, vi 4, .ref 1630]) 2 (fun _ _ => rfl) ?_
    refine wr_get (v := .ref 207) rfl rfl rfl (by decide) (rv_ref (hR 170 42 207 rfl)) fun h13 => ?_
    show wr (d + 1) tb_M163 19 [(0, .ref 170), (1, vi ((b : Int)))] [.ref 207, vi 4, .ref 1630] s _
    refine wr_n (pc2 := 20) (lv2 := [(0, .ref 170), (1, vi ((b : Int)))]) (st2 := [vi ((b : Int)), .ref 207, vi 4, .ref 1630]) 1 (fun _ _ => rfl) ?_
    refine wr_ald (a := (b : Int)) (v := vi (s.1 207 b)) rfl rfl rfl (by omega) (by omega) (by decide) rfl fun h14 => ?_
    have h14 : -2147483648 ≤ s.1 207 b ∧ s.1 207 b ≤ 2147483647 := h14
    show wr (d + 1) tb_M163 21 [(0, .ref 170), (1, vi ((b : Int)))] [vi (s.1 207 b), vi 4, .ref 1630] s _
    refine wr_add (a := 4) (b := s.1 207 b) rfl ?_
    show wr (d + 1) tb_M163 22 [(0, .ref 170), (1, vi ((b : Int)))] [vi (4 + (s.1 207 b)), .ref 1630] s _
    refine wr_ald (a := 4 + (s.1 207 b)) (v := vi (s.1 1630 ((4 + (s.1 207 b)).toNat))) rfl rfl rfl (by omega) (by omega) (by decide) rfl fun h15 => ?_
    have h15 : -2147483648 ≤ s.1 1630 ((4 + (s.1 207 b)).toNat) ∧ s.1 1630 ((4 + (s.1 207 b)).toNat) ≤ 2147483647 := h15
    show wr (d + 1) tb_M163 23 [(0, .ref 170), (1, vi ((b : Int)))] [vi (s.1 1630 ((4 + (s.1 207 b)).toNat))] s _
    refine wr_n (pc2 := 25) (lv2 := [(0, .ref 170), (1, vi ((b : Int)))]) (st2 := [vi 40, vi (s.1 1630 ((4 + (s.1 207 b)).toNat))]) 1 (fun _ _ => rfl) ?_
    by_cases h16 : 40 ≤ s.1 1630 ((4 + (s.1 207 b)).toNat)
    · refine wr_if2t rfl rfl (by unfold i32; omega) (by unfold i32; omega) h16 ?_
      refine wr_n (pc2 := 33) (lv2 := [(0, .ref 170), (1, vi ((b : Int)))]) (st2 := [vi 0]) 1 (fun _ _ => rfl) ?_
      refine wr_end (fun _ _ => rfl) ?_
      exact .inl ⟨rfl, rfl⟩
    · refine wr_if2f rfl rfl (by unfold i32; omega) (by unfold i32; omega) h16 ?_
      refine wr_n (pc2 := 33) (lv2 := [(0, .ref 170), (1, vi ((b : Int)))]) (st2 := [vi 1]) 2 (fun _ _ => rfl) ?_
      refine wr_end (fun _ _ => rfl) ?_
      have hw := WK_port hI hb (by omega) (.inr (.inl ⟨by omega, by rw [show 4 + (s.1 207 b).toNat = (4 + s.1 207 b).toNat by omega]; omega⟩))
      exact .inr ⟨rfl, rfl, hR, fun _ _ _ => rfl, fun _ => rfl, fun _ => rfl, _, hw.1, .inr hw.2⟩
