/-! The methods are as their models. -/
theorem cm41 {K d C : Nat} : cT41 K (d + 1) C := by
  intro s t x1 x2 hE hx1 hx2
  refine pcr_of (M := tb_M41) rfl ?_
  show pr K K d tb_M41 0 [(0, .ref 131), (1, vi x1), (2, vi x2)] [] s _
  rw [cG_41]
  unfold cM41
  refine pr_n (pc2 := 1) (lv2 := [(0, .ref 131), (1, vi x1), (2, vi x2)]) (st2 := [vi x1]) 1 (fun _ _ => rfl) ?_
  by_cases h1 : x1 ≠ 0
  · refine mq_t h1 ?_
    refine pr_if1t rfl rfl (i32_z hx1) h1 ?_
    refine pr_end (fun _ _ => rfl) ?_
    exact .inl ⟨_, 0, _, rfl, ⟨rfl, rfl⟩, rfl, hE⟩
  · refine mq_f h1 ?_
    refine pr_if1f rfl rfl (i32_z hx1) h1 ?_
    refine pr_n (pc2 := 6) (lv2 := [(0, .ref 131), (1, vi x1), (2, vi x2)]) (st2 := [vi x2, .ref 131]) 2 (fun _ _ => rfl) ?_
    refine pr_put (z := x2) rfl rfl rfl rfl (by decide) rfl (by decide) rfl (i32_p hx2) (hf_int' _) ?_
    refine pr_throw (fun _ _ => rfl) ?_
    exact .inr ⟨rfl, rfl, show 0 ≤ up2 s.1 131 2 x2 131 2 by rw [up_self]; exact hx2.1, fun j => by show 0 ≤ (up2 s.1 131 2 x2) 140 j; rw [up_nk (by omega), EE_get hE (k := 140) (q := 140) rfl rfl]; exact hE.2.2.2.2 j⟩
set_option maxHeartbeats 20000000 in
set_option maxRecDepth 100000 in
theorem cm68 {K d C : Nat} : cT68 K (d + 1) C := by
  intro s t x0 hE hx0
  have hC : C = 99 ∨ C = 115 := hE.1
  refine pcr_of (M := tb_M68) rfl ?_
  show pr K K d tb_M68 0 [(0, vi x0)] [] s _
  rw [cG_68]
  unfold cM68
  refine pr_n (pc2 := 1) (lv2 := [(0, vi x0)]) (st2 := [vi x0]) 1 (fun _ _ => rfl) ?_
  by_cases h1 : x0 = 37
  · refine mq_t h1 ?_
    refine pr_lsw rfl (by decide) hx0 (by rw [h1]) rfl ?_
    refine pr_n (pc2 := 180) (lv2 := [(0, vi x0)]) (st2 := [vi 10]) 1 (fun _ _ => rfl) ?_
    refine pr_end (fun _ _ => rfl) ?_
    exact .inl ⟨_, 10, _, rfl, ⟨rfl, (i32_n rfl)⟩, rfl, hE⟩
  · refine mq_f h1 ?_
    by_cases h2 : x0 = 38
    · refine mq_t h2 ?_
      refine pr_lsw rfl (by decide) hx0 (by rw [h2]) rfl ?_
      refine pr_n (pc2 := 165) (lv2 := [(0, vi x0)]) (st2 := [vi 5]) 1 (fun _ _ => rfl) ?_
      refine pr_end (fun _ _ => rfl) ?_
      exact .inl ⟨_, 5, _, rfl, ⟨rfl, (i32_n rfl)⟩, rfl, hE⟩
    · refine mq_f h2 ?_
      by_cases h3 : x0 = 42
      · refine mq_t h3 ?_
        refine pr_lsw rfl (by decide) hx0 (by rw [h3]) rfl ?_
        refine pr_n (pc2 := 180) (lv2 := [(0, vi x0)]) (st2 := [vi 10]) 1 (fun _ _ => rfl) ?_
        refine pr_end (fun _ _ => rfl) ?_
        exact .inl ⟨_, 10, _, rfl, ⟨rfl, (i32_n rfl)⟩, rfl, hE⟩
      · refine mq_f h3 ?_
        by_cases h4 : x0 = 43
        · refine mq_t h4 ?_
          refine pr_lsw rfl (by decide) hx0 (by rw [h4]) rfl ?_
          refine pr_n (pc2 := 177) (lv2 := [(0, vi x0)]) (st2 := [vi 9]) 1 (fun _ _ => rfl) ?_
          refine pr_end (fun _ _ => rfl) ?_
          exact .inl ⟨_, 9, _, rfl, ⟨rfl, (i32_n rfl)⟩, rfl, hE⟩
        · refine mq_f h4 ?_
          by_cases h5 : x0 = 45
          · refine mq_t h5 ?_
            refine pr_lsw rfl (by decide) hx0 (by rw [h5]) rfl ?_
            refine pr_n (pc2 := 177) (lv2 := [(0, vi x0)]) (st2 := [vi 9]) 1 (fun _ _ => rfl) ?_
            refine pr_end (fun _ _ => rfl) ?_
            exact .inl ⟨_, 9, _, rfl, ⟨rfl, (i32_n rfl)⟩, rfl, hE⟩
          · refine mq_f h5 ?_
            by_cases h6 : x0 = 47
            · refine mq_t h6 ?_
              refine pr_lsw rfl (by decide) hx0 (by rw [h6]) rfl ?_
              refine pr_n (pc2 := 180) (lv2 := [(0, vi x0)]) (st2 := [vi 10]) 1 (fun _ _ => rfl) ?_
              refine pr_end (fun _ _ => rfl) ?_
              exact .inl ⟨_, 10, _, rfl, ⟨rfl, (i32_n rfl)⟩, rfl, hE⟩
            · refine mq_f h6 ?_
              by_cases h7 : x0 = 60
              · refine mq_t h7 ?_
                refine pr_lsw rfl (by decide) hx0 (by rw [h7]) rfl ?_
                refine pr_n (pc2 := 171) (lv2 := [(0, vi x0)]) (st2 := [vi 7]) 1 (fun _ _ => rfl) ?_
                refine pr_end (fun _ _ => rfl) ?_
                exact .inl ⟨_, 7, _, rfl, ⟨rfl, (i32_n rfl)⟩, rfl, hE⟩
              · refine mq_f h7 ?_
                by_cases h8 : x0 = 62
                · refine mq_t h8 ?_
                  refine pr_lsw rfl (by decide) hx0 (by rw [h8]) rfl ?_
                  refine pr_n (pc2 := 171) (lv2 := [(0, vi x0)]) (st2 := [vi 7]) 1 (fun _ _ => rfl) ?_
                  refine pr_end (fun _ _ => rfl) ?_
                  exact .inl ⟨_, 7, _, rfl, ⟨rfl, (i32_n rfl)⟩, rfl, hE⟩
                · refine mq_f h8 ?_
                  by_cases h9 : x0 = 94
                  · refine mq_t h9 ?_
                    refine pr_lsw rfl (by decide) hx0 (by rw [h9]) rfl ?_
                    refine pr_n (pc2 := 163) (lv2 := [(0, vi x0)]) (st2 := [vi 4]) 1 (fun _ _ => rfl) ?_
                    refine pr_end (fun _ _ => rfl) ?_
                    exact .inl ⟨_, 4, _, rfl, ⟨rfl, (i32_n rfl)⟩, rfl, hE⟩
                  · refine mq_f h9 ?_
                    by_cases h10 : x0 = 124
                    · refine mq_t h10 ?_
                      refine pr_lsw rfl (by decide) hx0 (by rw [h10]) rfl ?_
                      refine pr_n (pc2 := 161) (lv2 := [(0, vi x0)]) (st2 := [vi 3]) 1 (fun _ _ => rfl) ?_
                      refine pr_end (fun _ _ => rfl) ?_
                      exact .inl ⟨_, 3, _, rfl, ⟨rfl, (i32_n rfl)⟩, rfl, hE⟩
                    · refine mq_f h10 ?_
                      by_cases h11 : x0 = 8509
                      · refine mq_t h11 ?_
                        refine pr_lsw rfl (by decide) hx0 (by rw [h11]) rfl ?_
                        refine pr_n (pc2 := 168) (lv2 := [(0, vi x0)]) (st2 := [vi 6]) 1 (fun _ _ => rfl) ?_
                        refine pr_end (fun _ _ => rfl) ?_
                        exact .inl ⟨_, 6, _, rfl, ⟨rfl, (i32_n rfl)⟩, rfl, hE⟩
                      · refine mq_f h11 ?_
                        by_cases h12 : x0 = 9766
                        · refine mq_t h12 ?_
                          refine pr_lsw rfl (by decide) hx0 (by rw [h12]) rfl ?_
                          refine pr_n (pc2 := 159) (lv2 := [(0, vi x0)]) (st2 := [vi 2]) 1 (fun _ _ => rfl) ?_
                          refine pr_end (fun _ _ => rfl) ?_
                          exact .inl ⟨_, 2, _, rfl, ⟨rfl, (i32_n rfl)⟩, rfl, hE⟩
                        · refine mq_f h12 ?_
                          by_cases h13 : x0 = 15420
                          · refine mq_t h13 ?_
                            refine pr_lsw rfl (by decide) hx0 (by rw [h13]) rfl ?_
                            refine pr_n (pc2 := 174) (lv2 := [(0, vi x0)]) (st2 := [vi 8]) 1 (fun _ _ => rfl) ?_
                            refine pr_end (fun _ _ => rfl) ?_
                            exact .inl ⟨_, 8, _, rfl, ⟨rfl, (i32_n rfl)⟩, rfl, hE⟩
                          · refine mq_f h13 ?_
                            by_cases h14 : x0 = 15421
                            · refine mq_t h14 ?_
                              refine pr_lsw rfl (by decide) hx0 (by rw [h14]) rfl ?_
                              refine pr_n (pc2 := 171) (lv2 := [(0, vi x0)]) (st2 := [vi 7]) 1 (fun _ _ => rfl) ?_
                              refine pr_end (fun _ _ => rfl) ?_
                              exact .inl ⟨_, 7, _, rfl, ⟨rfl, (i32_n rfl)⟩, rfl, hE⟩
                            · refine mq_f h14 ?_
                              by_cases h15 : x0 = 15677
                              · refine mq_t h15 ?_
                                refine pr_lsw rfl (by decide) hx0 (by rw [h15]) rfl ?_
                                refine pr_n (pc2 := 168) (lv2 := [(0, vi x0)]) (st2 := [vi 6]) 1 (fun _ _ => rfl) ?_
                                refine pr_end (fun _ _ => rfl) ?_
                                exact .inl ⟨_, 6, _, rfl, ⟨rfl, (i32_n rfl)⟩, rfl, hE⟩
                              · refine mq_f h15 ?_
                                by_cases h16 : x0 = 15933
                                · refine mq_t h16 ?_
                                  refine pr_lsw rfl (by decide) hx0 (by rw [h16]) rfl ?_
                                  refine pr_n (pc2 := 171) (lv2 := [(0, vi x0)]) (st2 := [vi 7]) 1 (fun _ _ => rfl) ?_
                                  refine pr_end (fun _ _ => rfl) ?_
                                  exact .inl ⟨_, 7, _, rfl, ⟨rfl, (i32_n rfl)⟩, rfl, hE⟩
                                · refine mq_f h16 ?_
                                  by_cases h17 : x0 = 15934
                                  · refine mq_t h17 ?_
                                    refine pr_lsw rfl (by decide) hx0 (by rw [h17]) rfl ?_
                                    refine pr_n (pc2 := 174) (lv2 := [(0, vi x0)]) (st2 := [vi 8]) 1 (fun _ _ => rfl) ?_
                                    refine pr_end (fun _ _ => rfl) ?_
                                    exact .inl ⟨_, 8, _, rfl, ⟨rfl, (i32_n rfl)⟩, rfl, hE⟩
                                  · refine mq_f h17 ?_
                                    by_cases h18 : x0 = 31868
                                    · refine mq_t h18 ?_
                                      refine pr_lsw rfl (by decide) hx0 (by rw [h18]) rfl ?_
                                      refine pr_n (pc2 := 157) (lv2 := [(0, vi x0)]) (st2 := [vi 1]) 1 (fun _ _ => rfl) ?_
                                      refine pr_end (fun _ _ => rfl) ?_
                                      exact .inl ⟨_, 1, _, rfl, ⟨rfl, (i32_n rfl)⟩, rfl, hE⟩
                                    · refine mq_f h18 ?_
                                      refine pr_lsw rfl (by decide) hx0 (ls_no _ ⟨by omega, by omega, by omega, by omega, by omega, by omega, by omega, by omega, by omega, by omega, by omega, by omega, by omega, by omega, by omega, by omega, by omega, by omega, trivial⟩) rfl ?_
                                      refine pr_n (pc2 := 182) (lv2 := [(0, vi x0)]) (st2 := [vi 0]) 1 (fun _ _ => rfl) ?_
                                      refine pr_end (fun _ _ => rfl) ?_
                                      exact .inl ⟨_, 0, _, rfl, ⟨rfl, (i32_n rfl)⟩, rfl, hE⟩
set_option maxHeartbeats 20000000 in
set_option maxRecDepth 100000 in
theorem cm43 {K d C : Nat} (h_34 : cT34 K d C) (h_35 : cT35 K d C) (h_40 : cT40 K d C) (h_41 : cT41 K d C) : cT43 K (d + 1) C := by
  intro s t x1 hE hx1
  have hC : C = 99 ∨ C = 115 := hE.1
  refine pcr_of (M := tb_M43) rfl ?_
  show pr K K d tb_M43 0 [(0, .ref 131), (1, vi x1)] [] s _
  rw [cG_43]
  unfold cM43
  refine pr_n (pc2 := 2) (lv2 := [(0, .ref 131), (1, vi x1)]) (st2 := [.ref 131, .ref 131]) 2 (fun _ _ => rfl) ?_
  refine pr_get (v := .ref 137) rfl rfl rfl (by decide) (rv_ref (hE.2.1 131 0 137 rfl)) fun _ => ?_
  refine pr_s1 (args := []) (rest := [.ref 131]) rfl rfl rfl rfl (Nat.le_of_ble_eq_true rfl) rfl (h_34 s t  hE ) s_kkd ?_
  rintro _ s1 ⟨rfl, hz1⟩ hE1
  show pr K K d tb_M43 8 [(0, .ref 131), (1, vi x1)] [vi (kkd t), .ref 131] s1 _
  refine pr_n (pc2 := 9) (lv2 := [(0, .ref 131), (1, vi x1)]) (st2 := [vi x1, vi (kkd t), .ref 131]) 1 (fun _ _ => rfl) ?_
  by_cases h2 : kkd t ≠ x1
  · refine mq_t h2 ?_
    refine pr_if2t rfl rfl hz1 hx1 h2 ?_
    refine pr_n (pc2 := 18) (lv2 := [(0, .ref 131), (1, vi x1)]) (st2 := [.ref 131, vi 0, .ref 131]) 2 (fun _ _ => rfl) ?_
    refine pr_get (v := .ref 137) rfl rfl rfl (by decide) (rv_ref (hE1.2.1 131 0 137 rfl)) fun _ => ?_
    refine pr_s1 (args := []) (rest := [vi 0, .ref 131]) rfl rfl rfl rfl (Nat.le_of_ble_eq_true rfl) rfl (h_40 s1 t  hE1 ) s_plc ?_
    rintro _ s3 ⟨rfl, hz3⟩ hE3
    show pr K K d tb_M43 24 [(0, .ref 131), (1, vi x1)] [vi (plc t), vi 0, .ref 131] s3 _
    exact pr_c1 (args := [vi 0, vi (plc t)]) (rest := []) rfl rfl rfl rfl (Nat.le_of_ble_eq_true rfl) rfl (h_41 s3 t 0 (plc t) hE3 (by decide) hz3) chk0
  · refine mq_f h2 ?_
    refine pr_if2f rfl rfl hz1 hx1 h2 ?_
    refine pr_n (pc2 := 18) (lv2 := [(0, .ref 131), (1, vi x1)]) (st2 := [.ref 131, vi 1, .ref 131]) 3 (fun _ _ => rfl) ?_
    refine pr_get (v := .ref 137) rfl rfl rfl (by decide) (rv_ref (hE1.2.1 131 0 137 rfl)) fun _ => ?_
    refine pr_s1 (args := []) (rest := [vi 1, .ref 131]) rfl rfl rfl rfl (Nat.le_of_ble_eq_true rfl) rfl (h_40 s1 t  hE1 ) s_plc ?_
    rintro _ s5 ⟨rfl, hz5⟩ hE5
    show pr K K d tb_M43 24 [(0, .ref 131), (1, vi x1)] [vi (plc t), vi 1, .ref 131] s5 _
    refine pr_s1 (args := [vi 1, vi (plc t)]) (rest := []) rfl rfl rfl rfl (Nat.le_of_ble_eq_true rfl) rfl (h_41 s5 t 1 (plc t) hE5 (by decide) hz5) chk1 ?_
    rintro _ s6 ⟨rfl, _⟩ hE6
    show pr K K d tb_M43 27 [(0, .ref 131), (1, vi x1)] [] s6 _
    refine pr_n (pc2 := 28) (lv2 := [(0, .ref 131), (1, vi x1)]) (st2 := [.ref 131]) 1 (fun _ _ => rfl) ?_
    refine pr_get (v := .ref 137) rfl rfl rfl (by decide) (rv_ref (hE6.2.1 131 0 137 rfl)) fun _ => ?_
    refine pr_s1 (args := []) (rest := []) rfl rfl rfl rfl (Nat.le_of_ble_eq_true rfl) rfl (h_35 s6 t  hE6 ) s_stp ?_
    rintro _ s7 ⟨rfl, _⟩ hE7
    show pr K K d tb_M43 34 [(0, .ref 131), (1, vi x1)] [] s7 _
    refine pr_end (fun _ _ => rfl) ?_
    exact .inl ⟨_, 0, _, rfl, ⟨rfl, rfl⟩, rfl, hE7⟩
set_option maxHeartbeats 20000000 in
set_option maxRecDepth 100000 in
theorem cm59 {K d C : Nat} (h_34 : cT34 K d C) (h_35 : cT35 K d C) (h_38 : cT38 K d C) (h_40 : cT40 K d C) (h_41 : cT41 K d C) : cT59 K (d + 1) C := by
  intro s t x1 x2 hE hx1 hx2
  have hC : C = 99 ∨ C = 115 := hE.1
  refine pcr_of (M := tb_M59) rfl ?_
  show pr K K d tb_M59 0 [(0, .ref 131), (1, vi x1), (2, vi x2)] [] s _
  rw [cG_59]
  unfold cM59
  refine pr_n (pc2 := 1) (lv2 := [(0, .ref 131), (1, vi x1), (2, vi x2)]) (st2 := [.ref 131]) 1 (fun _ _ => rfl) ?_
  refine pr_get (v := .ref 137) rfl rfl rfl (by decide) (rv_ref (hE.2.1 131 0 137 rfl)) fun _ => ?_
  refine pr_s1 (args := []) (rest := []) rfl rfl rfl rfl (Nat.le_of_ble_eq_true rfl) rfl (h_38 s t  hE ) s_vlu ?_
  rintro _ s1 ⟨rfl, hz1⟩ hE1
  show pr K K d tb_M59 7 [(0, .ref 131), (1, vi x1), (2, vi x2)] [vl (vlu t)] s1 _
  refine pr_n (pc2 := 10) (lv2 := [(3, vl (vlu t)), (0, .ref 131), (1, vi x1), (2, vi x2)]) (st2 := [.ref 131, .ref 131]) 3 (fun _ _ => rfl) ?_
  refine pr_get (v := .ref 137) rfl rfl rfl (by decide) (rv_ref (hE1.2.1 131 0 137 rfl)) fun _ => ?_
  refine pr_s1 (args := []) (rest := [.ref 131]) rfl rfl rfl rfl (Nat.le_of_ble_eq_true rfl) rfl (h_34 s1 t  hE1 ) s_kkd ?_
  rintro _ s2 ⟨rfl, hz2⟩ hE2
  show pr K K d tb_M59 16 [(3, vl (vlu t)), (0, .ref 131), (1, vi x1), (2, vi x2)] [vi (kkd t), .ref 131] s2 _
  refine pr_n (pc2 := 17) (lv2 := [(3, vl (vlu t)), (0, .ref 131), (1, vi x1), (2, vi x2)]) (st2 := [vi 2, vi (kkd t), .ref 131]) 1 (fun _ _ => rfl) ?_
  by_cases h3 : kkd t ≠ 2
  · refine mq_t h3 ?_
    refine pr_if2t rfl rfl hz2 (i32_n rfl) h3 ?_
    refine pr_n (pc2 := 40) (lv2 := [(3, vl (vlu t)), (0, .ref 131), (1, vi x1), (2, vi x2)]) (st2 := [.ref 131, vi 0, .ref 131]) 2 (fun _ _ => rfl) ?_
    refine pr_get (v := .ref 137) rfl rfl rfl (by decide) (rv_ref (hE2.2.1 131 0 137 rfl)) fun _ => ?_
    refine pr_s1 (args := []) (rest := [vi 0, .ref 131]) rfl rfl rfl rfl (Nat.le_of_ble_eq_true rfl) rfl (h_40 s2 t  hE2 ) s_plc ?_
    rintro _ s4 ⟨rfl, hz4⟩ hE4
    show pr K K d tb_M59 46 [(3, vl (vlu t)), (0, .ref 131), (1, vi x1), (2, vi x2)] [vi (plc t), vi 0, .ref 131] s4 _
    exact pr_c1 (args := [vi 0, vi (plc t)]) (rest := []) rfl rfl rfl rfl (Nat.le_of_ble_eq_true rfl) rfl (h_41 s4 t 0 (plc t) hE4 (by decide) hz4) chk0
  · refine mq_f h3 ?_
    refine pr_if2f rfl rfl hz2 (i32_n rfl) h3 ?_
    refine pr_n (pc2 := 22) (lv2 := [(3, vl (vlu t)), (0, .ref 131), (1, vi x1), (2, vi x2)]) (st2 := [vi x1, vl (vlu t), .ref 131]) 2 (fun _ _ => rfl) ?_
    refine pr_i2l (a := x1) rfl hx1 ?_
    have h6 : i64 (x1) := i64_32 hx1
    refine pr_lcmp (a := vlu t) (b := x1) rfl hz1 h6 ?_
    by_cases h7 : vlu t < x1
    · refine mq_t h7 ?_
      refine pr_if1t rfl rfl lc_i32 (lc_lt.mpr h7) ?_
      refine pr_n (pc2 := 40) (lv2 := [(3, vl (vlu t)), (0, .ref 131), (1, vi x1), (2, vi x2)]) (st2 := [.ref 131, vi 0, .ref 131]) 2 (fun _ _ => rfl) ?_
      refine pr_get (v := .ref 137) rfl rfl rfl (by decide) (rv_ref (hE2.2.1 131 0 137 rfl)) fun _ => ?_
      refine pr_s1 (args := []) (rest := [vi 0, .ref 131]) rfl rfl rfl rfl (Nat.le_of_ble_eq_true rfl) rfl (h_40 s2 t  hE2 ) s_plc ?_
      rintro _ s8 ⟨rfl, hz8⟩ hE8
      show pr K K d tb_M59 46 [(3, vl (vlu t)), (0, .ref 131), (1, vi x1), (2, vi x2)] [vi (plc t), vi 0, .ref 131] s8 _
      exact pr_c1 (args := [vi 0, vi (plc t)]) (rest := []) rfl rfl rfl rfl (Nat.le_of_ble_eq_true rfl) rfl (h_41 s8 t 0 (plc t) hE8 (by decide) hz8) chk0
    · refine mq_f h7 ?_
      refine pr_if1f rfl rfl lc_i32 (fun e => h7 (lc_lt.mp e)) ?_
      refine pr_n (pc2 := 29) (lv2 := [(3, vl (vlu t)), (0, .ref 131), (1, vi x1), (2, vi x2)]) (st2 := [vi x2, vl (vlu t), .ref 131]) 2 (fun _ _ => rfl) ?_
      refine pr_i2l (a := x2) rfl hx2 ?_
      have h10 : i64 (x2) := i64_32 hx2
      refine pr_lcmp (a := vlu t) (b := x2) rfl hz1 h10 ?_
      by_cases h11 : x2 < vlu t
      · refine mq_t h11 ?_
        refine pr_if1t rfl rfl lc_i32 (lc_gt.mpr h11) ?_
        refine pr_n (pc2 := 40) (lv2 := [(3, vl (vlu t)), (0, .ref 131), (1, vi x1), (2, vi x2)]) (st2 := [.ref 131, vi 0, .ref 131]) 2 (fun _ _ => rfl) ?_
        refine pr_get (v := .ref 137) rfl rfl rfl (by decide) (rv_ref (hE2.2.1 131 0 137 rfl)) fun _ => ?_
        refine pr_s1 (args := []) (rest := [vi 0, .ref 131]) rfl rfl rfl rfl (Nat.le_of_ble_eq_true rfl) rfl (h_40 s2 t  hE2 ) s_plc ?_
        rintro _ s12 ⟨rfl, hz12⟩ hE12
        show pr K K d tb_M59 46 [(3, vl (vlu t)), (0, .ref 131), (1, vi x1), (2, vi x2)] [vi (plc t), vi 0, .ref 131] s12 _
        exact pr_c1 (args := [vi 0, vi (plc t)]) (rest := []) rfl rfl rfl rfl (Nat.le_of_ble_eq_true rfl) rfl (h_41 s12 t 0 (plc t) hE12 (by decide) hz12) chk0
      · refine mq_f h11 ?_
        refine pr_if1f rfl rfl lc_i32 (fun e => h11 (lc_gt.mp e)) ?_
        refine pr_n (pc2 := 40) (lv2 := [(3, vl (vlu t)), (0, .ref 131), (1, vi x1), (2, vi x2)]) (st2 := [.ref 131, vi 1, .ref 131]) 3 (fun _ _ => rfl) ?_
        refine pr_get (v := .ref 137) rfl rfl rfl (by decide) (rv_ref (hE2.2.1 131 0 137 rfl)) fun _ => ?_
        refine pr_s1 (args := []) (rest := [vi 1, .ref 131]) rfl rfl rfl rfl (Nat.le_of_ble_eq_true rfl) rfl (h_40 s2 t  hE2 ) s_plc ?_
        rintro _ s14 ⟨rfl, hz14⟩ hE14
        show pr K K d tb_M59 46 [(3, vl (vlu t)), (0, .ref 131), (1, vi x1), (2, vi x2)] [vi (plc t), vi 1, .ref 131] s14 _
        refine pr_s1 (args := [vi 1, vi (plc t)]) (rest := []) rfl rfl rfl rfl (Nat.le_of_ble_eq_true rfl) rfl (h_41 s14 t 1 (plc t) hE14 (by decide) hz14) chk1 ?_
        rintro _ s15 ⟨rfl, _⟩ hE15
        show pr K K d tb_M59 49 [(3, vl (vlu t)), (0, .ref 131), (1, vi x1), (2, vi x2)] [] s15 _
        refine pr_n (pc2 := 50) (lv2 := [(3, vl (vlu t)), (0, .ref 131), (1, vi x1), (2, vi x2)]) (st2 := [.ref 131]) 1 (fun _ _ => rfl) ?_
        refine pr_get (v := .ref 137) rfl rfl rfl (by decide) (rv_ref (hE15.2.1 131 0 137 rfl)) fun _ => ?_
        refine pr_s1 (args := []) (rest := []) rfl rfl rfl rfl (Nat.le_of_ble_eq_true rfl) rfl (h_35 s15 t  hE15 ) s_stp ?_
        rintro _ s16 ⟨rfl, _⟩ hE16
        show pr K K d tb_M59 56 [(3, vl (vlu t)), (0, .ref 131), (1, vi x1), (2, vi x2)] [] s16 _
        refine pr_n (pc2 := 57) (lv2 := [(3, vl (vlu t)), (0, .ref 131), (1, vi x1), (2, vi x2)]) (st2 := [vl (vlu t)]) 1 (fun _ _ => rfl) ?_
        refine pr_l2i (a := vlu t) rfl ?_
        show pr K K d tb_M59 58 [(3, vl (vlu t)), (0, .ref 131), (1, vi x1), (2, vi x2)] [vi (l2x (vlu t))] s16 _
        refine pr_reti rfl rfl ?_
        exact .inl ⟨_, l2x (vlu t), _, rfl, ⟨rfl, (i32_in _)⟩, rfl, hE16⟩
set_option maxHeartbeats 20000000 in
set_option maxRecDepth 100000 in
theorem cm37 {K d C : Nat} (h_34 : cT34 K d C) (h_35 : cT35 K d C) (h_38 : cT38 K d C) (h_39 : cT39 K d C) (h_40 : cT40 K d C) (h_41 : cT41 K d C) (h_42 : cT42 K d C) : cT37 K (d + 1) C := by
  intro s t x1 x2 hE hx1 hx2
  have hC : C = 99 ∨ C = 115 := hE.1
  refine pcr_of (M := tb_M37) rfl ?_
  show pr K K d tb_M37 0 [(0, .ref 131), (1, vi x1), (2, vi x2)] [] s _
  rw [cG_37]
  unfold cM37
  refine pr_n (pc2 := 2) (lv2 := [(0, .ref 131), (1, vi x1), (2, vi x2)]) (st2 := [.ref 131, .ref 131]) 2 (fun _ _ => rfl) ?_
  refine pr_get (v := .ref 137) rfl rfl rfl (by decide) (rv_ref (hE.2.1 131 0 137 rfl)) fun _ => ?_
  refine pr_s1 (args := []) (rest := [.ref 131]) rfl rfl rfl rfl (Nat.le_of_ble_eq_true rfl) rfl (h_34 s t  hE ) s_kkd ?_
  rintro _ s1 ⟨rfl, hz1⟩ hE1
  show pr K K d tb_M37 8 [(0, .ref 131), (1, vi x1), (2, vi x2)] [vi (kkd t), .ref 131] s1 _
  refine pr_n (pc2 := 9) (lv2 := [(0, .ref 131), (1, vi x1), (2, vi x2)]) (st2 := [vi 1, vi (kkd t), .ref 131]) 1 (fun _ _ => rfl) ?_
  by_cases h2 : kkd t ≠ 1
  · refine mq_t h2 ?_
    refine pr_if2t rfl rfl hz1 (i32_n rfl) h2 ?_
    refine pr_n (pc2 := 39) (lv2 := [(0, .ref 131), (1, vi x1), (2, vi x2)]) (st2 := [.ref 131, vi 0, .ref 131]) 2 (fun _ _ => rfl) ?_
    refine pr_get (v := .ref 137) rfl rfl rfl (by decide) (rv_ref (hE1.2.1 131 0 137 rfl)) fun _ => ?_
    refine pr_s1 (args := []) (rest := [vi 0, .ref 131]) rfl rfl rfl rfl (Nat.le_of_ble_eq_true rfl) rfl (h_40 s1 t  hE1 ) s_plc ?_
    rintro _ s3 ⟨rfl, hz3⟩ hE3
    show pr K K d tb_M37 45 [(0, .ref 131), (1, vi x1), (2, vi x2)] [vi (plc t), vi 0, .ref 131] s3 _
    exact pr_c1 (args := [vi 0, vi (plc t)]) (rest := []) rfl rfl rfl rfl (Nat.le_of_ble_eq_true rfl) rfl (h_41 s3 t 0 (plc t) hE3 (by decide) hz3) chk0
  · refine mq_f h2 ?_
    refine pr_if2f rfl rfl hz1 (i32_n rfl) h2 ?_
    refine pr_n (pc2 := 13) (lv2 := [(0, .ref 131), (1, vi x1), (2, vi x2)]) (st2 := [.ref 131, .ref 131]) 1 (fun _ _ => rfl) ?_
    refine pr_get (v := .ref C) rfl rfl rfl (by decide) (rv_ref (show s1.1 131 1 = ((C : Nat) : Int) from hE1.2.2.1)) fun _ => ?_
    refine pr_get (v := .ref (C + 6)) rfl rfl (TK0 hC) (by decide) (rv_ref (hE1.2.1 C 5 (C + 6) (rcK hC (by omega)))) fun _ => ?_
    refine pr_n (pc2 := 20) (lv2 := [(0, .ref 131), (1, vi x1), (2, vi x2)]) (st2 := [.ref 131, .ref (C + 6), .ref 131]) 1 (fun _ _ => rfl) ?_
    refine pr_get (v := .ref 137) rfl rfl rfl (by decide) (rv_ref (hE1.2.1 131 0 137 rfl)) fun _ => ?_
    refine pr_s1 (args := []) (rest := [.ref (C + 6), .ref 131]) rfl rfl rfl rfl (Nat.le_of_ble_eq_true rfl) rfl (h_38 s1 t  hE1 ) s_vlu ?_
    rintro _ s5 ⟨rfl, hz5⟩ hE5
    show pr K K d tb_M37 26 [(0, .ref 131), (1, vi x1), (2, vi x2)] [vl (vlu t), .ref (C + 6), .ref 131] s5 _
    refine pr_n (pc2 := 27) (lv2 := [(0, .ref 131), (1, vi x1), (2, vi x2)]) (st2 := [vi x2, vl (vlu t), .ref (C + 6), .ref 131]) 1 (fun _ _ => rfl) ?_
    refine pr_s1 (args := [vl (vlu t), vi x2]) (rest := [.ref 131]) rfl rfl rfl (TK6 hC) (Nat.le_of_ble_eq_true rfl) rfl (h_39 s5 t (vlu t) x2 hE5 hz5 hx2) s_fdn ?_
    rintro _ s6 ⟨rfl, hz6⟩ hE6
    show pr K K d tb_M37 30 [(0, .ref 131), (1, vi x1), (2, vi x2)] [vi (fdn t (vlu t) x2), .ref 131] s6 _
    by_cases h7 : 0 ≤ fdn t (vlu t) x2
    · refine mq_t h7 ?_
      refine pr_if1t rfl rfl hz6 h7 ?_
      refine pr_n (pc2 := 39) (lv2 := [(0, .ref 131), (1, vi x1), (2, vi x2)]) (st2 := [.ref 131, vi 0, .ref 131]) 2 (fun _ _ => rfl) ?_
      refine pr_get (v := .ref 137) rfl rfl rfl (by decide) (rv_ref (hE6.2.1 131 0 137 rfl)) fun _ => ?_
      refine pr_s1 (args := []) (rest := [vi 0, .ref 131]) rfl rfl rfl rfl (Nat.le_of_ble_eq_true rfl) rfl (h_40 s6 t  hE6 ) s_plc ?_
      rintro _ s8 ⟨rfl, hz8⟩ hE8
      show pr K K d tb_M37 45 [(0, .ref 131), (1, vi x1), (2, vi x2)] [vi (plc t), vi 0, .ref 131] s8 _
      exact pr_c1 (args := [vi 0, vi (plc t)]) (rest := []) rfl rfl rfl rfl (Nat.le_of_ble_eq_true rfl) rfl (h_41 s8 t 0 (plc t) hE8 (by decide) hz8) chk0
    · refine mq_f h7 ?_
      refine pr_if1f rfl rfl hz6 h7 ?_
      refine pr_n (pc2 := 39) (lv2 := [(0, .ref 131), (1, vi x1), (2, vi x2)]) (st2 := [.ref 131, vi 1, .ref 131]) 3 (fun _ _ => rfl) ?_
      refine pr_get (v := .ref 137) rfl rfl rfl (by decide) (rv_ref (hE6.2.1 131 0 137 rfl)) fun _ => ?_
      refine pr_s1 (args := []) (rest := [vi 1, .ref 131]) rfl rfl rfl rfl (Nat.le_of_ble_eq_true rfl) rfl (h_40 s6 t  hE6 ) s_plc ?_
      rintro _ s10 ⟨rfl, hz10⟩ hE10
      show pr K K d tb_M37 45 [(0, .ref 131), (1, vi x1), (2, vi x2)] [vi (plc t), vi 1, .ref 131] s10 _
      refine pr_s1 (args := [vi 1, vi (plc t)]) (rest := []) rfl rfl rfl rfl (Nat.le_of_ble_eq_true rfl) rfl (h_41 s10 t 1 (plc t) hE10 (by decide) hz10) chk1 ?_
      rintro _ s11 ⟨rfl, _⟩ hE11
      show pr K K d tb_M37 48 [(0, .ref 131), (1, vi x1), (2, vi x2)] [] s11 _
      refine pr_n (pc2 := 51) (lv2 := [(0, .ref 131), (1, vi x1), (2, vi x2)]) (st2 := [vi 6, vi x1]) 2 (fun _ _ => rfl) ?_
      by_cases h12 : x1 ≠ 6
      · refine mq_t h12 ?_
        refine pr_if2t rfl rfl hx1 (i32_n rfl) h12 ?_
        refine pr_n (pc2 := 62) (lv2 := [(3, vi x1), (0, .ref 131), (1, vi x1), (2, vi x2)]) (st2 := [vi x1, .ref 131]) 4 (fun _ _ => rfl) ?_
        by_cases h13 : x1 < 0
        · refine mq_t h13 ?_
          refine pr_if1t rfl rfl hx1 h13 ?_
          refine pr_n (pc2 := 94) (lv2 := [(3, vi x1), (0, .ref 131), (1, vi x1), (2, vi x2)]) (st2 := [.ref 131, vi 0, .ref 131]) 2 (fun _ _ => rfl) ?_
          refine pr_get (v := .ref 137) rfl rfl rfl (by decide) (rv_ref (hE11.2.1 131 0 137 rfl)) fun _ => ?_
          refine pr_s1 (args := []) (rest := [vi 0, .ref 131]) rfl rfl rfl rfl (Nat.le_of_ble_eq_true rfl) rfl (h_40 s11 t  hE11 ) s_plc ?_
          rintro _ s14 ⟨rfl, hz14⟩ hE14
          show pr K K d tb_M37 100 [(3, vi x1), (0, .ref 131), (1, vi x1), (2, vi x2)] [vi (plc t), vi 0, .ref 131] s14 _
          exact pr_c1 (args := [vi 0, vi (plc t)]) (rest := []) rfl rfl rfl rfl (Nat.le_of_ble_eq_true rfl) rfl (h_41 s14 t 0 (plc t) hE14 (by decide) hz14) chk0
        · refine mq_f h13 ?_
          refine pr_if1f rfl rfl hx1 h13 ?_
          refine pr_n (pc2 := 68) (lv2 := [(3, vi x1), (0, .ref 131), (1, vi x1), (2, vi x2)]) (st2 := [vi 6, vi x1, .ref 131]) 2 (fun _ _ => rfl) ?_
          by_cases h16 : 6 ≤ x1
          · refine mq_t h16 ?_
            refine pr_if2t rfl rfl hx1 (i32_n rfl) h16 ?_
            refine pr_n (pc2 := 94) (lv2 := [(3, vi x1), (0, .ref 131), (1, vi x1), (2, vi x2)]) (st2 := [.ref 131, vi 0, .ref 131]) 2 (fun _ _ => rfl) ?_
            refine pr_get (v := .ref 137) rfl rfl rfl (by decide) (rv_ref (hE11.2.1 131 0 137 rfl)) fun _ => ?_
            refine pr_s1 (args := []) (rest := [vi 0, .ref 131]) rfl rfl rfl rfl (Nat.le_of_ble_eq_true rfl) rfl (h_40 s11 t  hE11 ) s_plc ?_
            rintro _ s17 ⟨rfl, hz17⟩ hE17
            show pr K K d tb_M37 100 [(3, vi x1), (0, .ref 131), (1, vi x1), (2, vi x2)] [vi (plc t), vi 0, .ref 131] s17 _
            exact pr_c1 (args := [vi 0, vi (plc t)]) (rest := []) rfl rfl rfl rfl (Nat.le_of_ble_eq_true rfl) rfl (h_41 s17 t 0 (plc t) hE17 (by decide) hz17) chk0
          · refine mq_f h16 ?_
            refine pr_if2f rfl rfl hx1 (i32_n rfl) h16 ?_
            refine pr_n (pc2 := 72) (lv2 := [(3, vi x1), (0, .ref 131), (1, vi x1), (2, vi x2)]) (st2 := [.ref 131, .ref 131]) 1 (fun _ _ => rfl) ?_
            refine pr_get (v := .ref C) rfl rfl rfl (by decide) (rv_ref (show s11.1 131 1 = ((C : Nat) : Int) from hE11.2.2.1)) fun _ => ?_
            refine pr_get (v := .ref (C + 10)) rfl rfl (TK0 hC) (by decide) (rv_ref (hE11.2.1 C 6 (C + 10) (rcK hC (by omega)))) fun _ => ?_
            refine pr_n (pc2 := 79) (lv2 := [(3, vi x1), (0, .ref 131), (1, vi x1), (2, vi x2)]) (st2 := [vi x1, .ref (C + 10), .ref 131]) 1 (fun _ _ => rfl) ?_
            refine pr_aE (k2 := 109) (a := x1) (v := vi (t 109 x1.toNat)) hE11 rfl (TK10 hC) rfl hx1 (by decide) rfl rfl rfl fun h20 h21 h19 => ?_
            have h19 : i32 (t 109 x1.toNat) := h19
            refine pr_n (pc2 := 84) (lv2 := [(3, vi x1), (0, .ref 131), (1, vi x1), (2, vi x2)]) (st2 := [vi x1, .ref 1, vi (t 109 x1.toNat), .ref 131]) 2 (fun _ _ => rfl) ?_
            refine pr_LIM (a := x1) rfl (by omega) (by omega) fun h22 => ?_
            have h22 : 0 ≤ LIM x1.toNat ∧ LIM x1.toNat ≤ 24 := h22
            have h23 : i32 (LIM x1.toNat) := by unfold i32; omega
            by_cases h25 : LIM x1.toNat ≤ t 109 x1.toNat
            · refine mq_t h25 ?_
              refine pr_if2t rfl rfl h19 h23 h25 ?_
              refine pr_n (pc2 := 94) (lv2 := [(3, vi x1), (0, .ref 131), (1, vi x1), (2, vi x2)]) (st2 := [.ref 131, vi 0, .ref 131]) 2 (fun _ _ => rfl) ?_
              refine pr_get (v := .ref 137) rfl rfl rfl (by decide) (rv_ref (hE11.2.1 131 0 137 rfl)) fun _ => ?_
              refine pr_s1 (args := []) (rest := [vi 0, .ref 131]) rfl rfl rfl rfl (Nat.le_of_ble_eq_true rfl) rfl (h_40 s11 t  hE11 ) s_plc ?_
              rintro _ s26 ⟨rfl, hz26⟩ hE26
              show pr K K d tb_M37 100 [(3, vi x1), (0, .ref 131), (1, vi x1), (2, vi x2)] [vi (plc t), vi 0, .ref 131] s26 _
              exact pr_c1 (args := [vi 0, vi (plc t)]) (rest := []) rfl rfl rfl rfl (Nat.le_of_ble_eq_true rfl) rfl (h_41 s26 t 0 (plc t) hE26 (by decide) hz26) chk0
            · refine mq_f h25 ?_
              refine pr_if2f rfl rfl h19 h23 h25 ?_
              refine pr_n (pc2 := 94) (lv2 := [(3, vi x1), (0, .ref 131), (1, vi x1), (2, vi x2)]) (st2 := [.ref 131, vi 1, .ref 131]) 3 (fun _ _ => rfl) ?_
              refine pr_get (v := .ref 137) rfl rfl rfl (by decide) (rv_ref (hE11.2.1 131 0 137 rfl)) fun _ => ?_
              refine pr_s1 (args := []) (rest := [vi 1, .ref 131]) rfl rfl rfl rfl (Nat.le_of_ble_eq_true rfl) rfl (h_40 s11 t  hE11 ) s_plc ?_
              rintro _ s28 ⟨rfl, hz28⟩ hE28
              show pr K K d tb_M37 100 [(3, vi x1), (0, .ref 131), (1, vi x1), (2, vi x2)] [vi (plc t), vi 1, .ref 131] s28 _
              refine pr_s1 (args := [vi 1, vi (plc t)]) (rest := []) rfl rfl rfl rfl (Nat.le_of_ble_eq_true rfl) rfl (h_41 s28 t 1 (plc t) hE28 (by decide) hz28) chk1 ?_
              rintro _ s29 ⟨rfl, _⟩ hE29
              show pr K K d tb_M37 103 [(3, vi x1), (0, .ref 131), (1, vi x1), (2, vi x2)] [] s29 _
              refine pr_n (pc2 := 104) (lv2 := [(3, vi x1), (0, .ref 131), (1, vi x1), (2, vi x2)]) (st2 := [.ref 131]) 1 (fun _ _ => rfl) ?_
              refine pr_get (v := .ref C) rfl rfl rfl (by decide) (rv_ref (show s29.1 131 1 = ((C : Nat) : Int) from hE29.2.2.1)) fun _ => ?_
              refine pr_get (v := .ref (C + 10)) rfl rfl (TK0 hC) (by decide) (rv_ref (hE29.2.1 C 6 (C + 10) (rcK hC (by omega)))) fun _ => ?_
              refine pr_n (pc2 := 111) (lv2 := [(3, vi x1), (0, .ref 131), (1, vi x1), (2, vi x2)]) (st2 := [vi x1, .ref (C + 10)]) 1 (fun _ _ => rfl) ?_
              refine pr_aE (k2 := 109) (a := x1) (v := vi (t 109 x1.toNat)) hE29 rfl (TK10 hC) rfl hx1 (by decide) rfl rfl rfl fun h31 h32 h30 => ?_
              have h30 : i32 (t 109 x1.toNat) := h30
              refine pr_n (pc2 := 115) (lv2 := [(4, vi (t 109 x1.toNat)), (3, vi x1), (0, .ref 131), (1, vi x1), (2, vi x2)]) (st2 := [.ref 131]) 2 (fun _ _ => rfl) ?_
              refine pr_get (v := .ref C) rfl rfl rfl (by decide) (rv_ref (show s29.1 131 1 = ((C : Nat) : Int) from hE29.2.2.1)) fun _ => ?_
              refine pr_get (v := .ref (C + 10)) rfl rfl (TK0 hC) (by decide) (rv_ref (hE29.2.1 C 6 (C + 10) (rcK hC (by omega)))) fun _ => ?_
              refine pr_n (pc2 := 123) (lv2 := [(4, vi (t 109 x1.toNat)), (3, vi x1), (0, .ref 131), (1, vi x1), (2, vi x2)]) (st2 := [vi x1, .ref (C + 10), vi x1, .ref (C + 10)]) 2 (fun _ _ => rfl) ?_
              refine pr_aE (k2 := 109) (a := x1) (v := vi (t 109 x1.toNat)) hE29 rfl (TK10 hC) rfl hx1 (by decide) rfl rfl rfl fun h34 h35 h33 => ?_
              have h33 : i32 (t 109 x1.toNat) := h33
              refine pr_n (pc2 := 125) (lv2 := [(4, vi (t 109 x1.toNat)), (3, vi x1), (0, .ref 131), (1, vi x1), (2, vi x2)]) (st2 := [vi 1, vi (t 109 x1.toNat), vi x1, .ref (C + 10)]) 1 (fun _ _ => rfl) ?_
              refine pr_add (a := t 109 x1.toNat) (b := 1) rfl ?_
              have h36 : i32 (t 109 x1.toNat + 1) := by unfold i32 at *; omega
              show pr K K d tb_M37 126 [(4, vi (t 109 x1.toNat)), (3, vi x1), (0, .ref 131), (1, vi x1), (2, vi x2)] [vi (t 109 x1.toNat + 1), vi x1, .ref (C + 10)] s29 _
              refine pr_sE (k2 := 109) (a := x1) (z := t 109 x1.toNat + 1) hE29 rfl (show 96 ≤ C + 10 by omega) (TK10 hC) rfl hx1 (by decide) rfl (show i32 (t 109 x1.toNat + 1) from h36) (nK hC (by omega)) rfl rfl (fun e => absurd e.1 (show ¬ (C + 10 = 131) by omega)) (iv_c (by decide)) fun h37 h38 s39 hE39 => ?_
              refine pr_n (pc2 := 128) (lv2 := [(4, vi (t 109 x1.toNat)), (3, vi x1), (0, .ref 131), (1, vi x1), (2, vi x2)]) (st2 := [.ref 131]) 1 (fun _ _ => rfl) ?_
              refine pr_get (v := .ref C) rfl rfl rfl (by decide) (rv_ref (show s39.1 131 1 = ((C : Nat) : Int) from hE39.2.2.1)) fun _ => ?_
              refine pr_get (v := .ref (C + 6)) rfl rfl (TK0 hC) (by decide) (rv_ref (hE39.2.1 C 5 (C + 6) (rcK hC (by omega)))) fun _ => ?_
              refine pr_n (pc2 := 135) (lv2 := [(4, vi (t 109 x1.toNat)), (3, vi x1), (0, .ref 131), (1, vi x1), (2, vi x2)]) (st2 := [.ref 131, .ref (C + 6)]) 1 (fun _ _ => rfl) ?_
              refine pr_get (v := .ref 137) rfl rfl rfl (by decide) (rv_ref (hE39.2.1 131 0 137 rfl)) fun _ => ?_
              refine pr_s1 (args := []) (rest := [.ref (C + 6)]) rfl rfl rfl rfl (Nat.le_of_ble_eq_true rfl) rfl (h_38 s39 (up2 t 109 x1.toNat (t 109 x1.toNat + 1))  hE39 ) s_vlu ?_
              rintro _ s40 ⟨rfl, hz40⟩ hE40
              show pr K K d tb_M37 141 [(4, vi (t 109 x1.toNat)), (3, vi x1), (0, .ref 131), (1, vi x1), (2, vi x2)] [vl (vlu (up2 t 109 x1.toNat (t 109 x1.toNat + 1))), .ref (C + 6)] s40 _
              refine pr_n (pc2 := 144) (lv2 := [(4, vi (t 109 x1.toNat)), (3, vi x1), (0, .ref 131), (1, vi x1), (2, vi x2)]) (st2 := [vi (t 109 x1.toNat), vi x1, vl (vlu (up2 t 109 x1.toNat (t 109 x1.toNat + 1))), .ref (C + 6)]) 2 (fun _ _ => rfl) ?_
              refine pr_s1 (args := [vl (vlu (up2 t 109 x1.toNat (t 109 x1.toNat + 1))), vi x1, vi (t 109 x1.toNat)]) (rest := []) rfl rfl rfl (TK6 hC) (Nat.le_of_ble_eq_true rfl) rfl (h_42 s40 (up2 t 109 x1.toNat (t 109 x1.toNat + 1)) (vlu (up2 t 109 x1.toNat (t 109 x1.toNat + 1))) x1 (t 109 x1.toNat) hE40 hz40 hx1 h33) s_nad ?_
              rintro _ s41 ⟨rfl, _⟩ hE41
              show pr K K d tb_M37 147 [(4, vi (t 109 x1.toNat)), (3, vi x1), (0, .ref 131), (1, vi x1), (2, vi x2)] [] s41 _
              refine pr_n (pc2 := 148) (lv2 := [(4, vi (t 109 x1.toNat)), (3, vi x1), (0, .ref 131), (1, vi x1), (2, vi x2)]) (st2 := [.ref 131]) 1 (fun _ _ => rfl) ?_
              refine pr_get (v := .ref 137) rfl rfl rfl (by decide) (rv_ref (hE41.2.1 131 0 137 rfl)) fun _ => ?_
              refine pr_s1 (args := []) (rest := []) rfl rfl rfl rfl (Nat.le_of_ble_eq_true rfl) rfl (h_35 s41 ((nad (up2 t 109 x1.toNat (t 109 x1.toNat + 1)) (vlu (up2 t 109 x1.toNat (t 109 x1.toNat + 1))) x1 (t 109 x1.toNat)))  hE41 ) s_stp ?_
              rintro _ s42 ⟨rfl, _⟩ hE42
              show pr K K d tb_M37 154 [(4, vi (t 109 x1.toNat)), (3, vi x1), (0, .ref 131), (1, vi x1), (2, vi x2)] [] s42 _
              refine pr_n (pc2 := 156) (lv2 := [(4, vi (t 109 x1.toNat)), (3, vi x1), (0, .ref 131), (1, vi x1), (2, vi x2)]) (st2 := [vi (t 109 x1.toNat)]) 1 (fun _ _ => rfl) ?_
              refine pr_reti rfl rfl ?_
              exact .inl ⟨_, t 109 x1.toNat, _, rfl, ⟨rfl, h33⟩, rfl, hE42⟩
      · refine mq_f h12 ?_
        refine pr_if2f rfl rfl hx1 (i32_n rfl) h12 ?_
        refine pr_n (pc2 := 62) (lv2 := [(3, vi 5), (0, .ref 131), (1, vi x1), (2, vi x2)]) (st2 := [vi 5, .ref 131]) 5 (fun _ _ => rfl) ?_
        refine pr_n (pc2 := 68) (lv2 := [(3, vi 5), (0, .ref 131), (1, vi x1), (2, vi x2)]) (st2 := [vi 6, vi 5, .ref 131]) 3 (fun _ _ => rfl) ?_
        refine pr_n (pc2 := 72) (lv2 := [(3, vi 5), (0, .ref 131), (1, vi x1), (2, vi x2)]) (st2 := [.ref 131, .ref 131]) 2 (fun _ _ => rfl) ?_
        refine pr_get (v := .ref C) rfl rfl rfl (by decide) (rv_ref (show s11.1 131 1 = ((C : Nat) : Int) from hE11.2.2.1)) fun _ => ?_
        refine pr_get (v := .ref (C + 10)) rfl rfl (TK0 hC) (by decide) (rv_ref (hE11.2.1 C 6 (C + 10) (rcK hC (by omega)))) fun _ => ?_
        refine pr_n (pc2 := 79) (lv2 := [(3, vi 5), (0, .ref 131), (1, vi x1), (2, vi x2)]) (st2 := [vi 5, .ref (C + 10), .ref 131]) 1 (fun _ _ => rfl) ?_
        refine pr_aE (k2 := 109) (a := 5) (v := vi (t 109 5)) hE11 rfl (TK10 hC) rfl (i32_n rfl) (by decide) rfl rfl rfl fun h44 h45 h43 => ?_
        have h43 : i32 (t 109 5) := h43
        refine pr_n (pc2 := 84) (lv2 := [(3, vi 5), (0, .ref 131), (1, vi x1), (2, vi x2)]) (st2 := [vi 5, .ref 1, vi (t 109 5), .ref 131]) 2 (fun _ _ => rfl) ?_
        refine pr_LIM (a := 5) rfl (by omega) (by omega) fun h46 => ?_
        have h46 : 0 ≤ LIM 5 ∧ LIM 5 ≤ 24 := h46
        have h47 : i32 (LIM 5) := by unfold i32; omega
        by_cases h49 : LIM 5 ≤ t 109 5
        · refine mq_t h49 ?_
          refine pr_if2t rfl rfl h43 h47 h49 ?_
          refine pr_n (pc2 := 94) (lv2 := [(3, vi 5), (0, .ref 131), (1, vi x1), (2, vi x2)]) (st2 := [.ref 131, vi 0, .ref 131]) 2 (fun _ _ => rfl) ?_
          refine pr_get (v := .ref 137) rfl rfl rfl (by decide) (rv_ref (hE11.2.1 131 0 137 rfl)) fun _ => ?_
          refine pr_s1 (args := []) (rest := [vi 0, .ref 131]) rfl rfl rfl rfl (Nat.le_of_ble_eq_true rfl) rfl (h_40 s11 t  hE11 ) s_plc ?_
          rintro _ s50 ⟨rfl, hz50⟩ hE50
          show pr K K d tb_M37 100 [(3, vi 5), (0, .ref 131), (1, vi x1), (2, vi x2)] [vi (plc t), vi 0, .ref 131] s50 _
          exact pr_c1 (args := [vi 0, vi (plc t)]) (rest := []) rfl rfl rfl rfl (Nat.le_of_ble_eq_true rfl) rfl (h_41 s50 t 0 (plc t) hE50 (by decide) hz50) chk0
        · refine mq_f h49 ?_
          refine pr_if2f rfl rfl h43 h47 h49 ?_
          refine pr_n (pc2 := 94) (lv2 := [(3, vi 5), (0, .ref 131), (1, vi x1), (2, vi x2)]) (st2 := [.ref 131, vi 1, .ref 131]) 3 (fun _ _ => rfl) ?_
          refine pr_get (v := .ref 137) rfl rfl rfl (by decide) (rv_ref (hE11.2.1 131 0 137 rfl)) fun _ => ?_
          refine pr_s1 (args := []) (rest := [vi 1, .ref 131]) rfl rfl rfl rfl (Nat.le_of_ble_eq_true rfl) rfl (h_40 s11 t  hE11 ) s_plc ?_
          rintro _ s52 ⟨rfl, hz52⟩ hE52
          show pr K K d tb_M37 100 [(3, vi 5), (0, .ref 131), (1, vi x1), (2, vi x2)] [vi (plc t), vi 1, .ref 131] s52 _
          refine pr_s1 (args := [vi 1, vi (plc t)]) (rest := []) rfl rfl rfl rfl (Nat.le_of_ble_eq_true rfl) rfl (h_41 s52 t 1 (plc t) hE52 (by decide) hz52) chk1 ?_
          rintro _ s53 ⟨rfl, _⟩ hE53
          show pr K K d tb_M37 103 [(3, vi 5), (0, .ref 131), (1, vi x1), (2, vi x2)] [] s53 _
          refine pr_n (pc2 := 104) (lv2 := [(3, vi 5), (0, .ref 131), (1, vi x1), (2, vi x2)]) (st2 := [.ref 131]) 1 (fun _ _ => rfl) ?_
          refine pr_get (v := .ref C) rfl rfl rfl (by decide) (rv_ref (show s53.1 131 1 = ((C : Nat) : Int) from hE53.2.2.1)) fun _ => ?_
          refine pr_get (v := .ref (C + 10)) rfl rfl (TK0 hC) (by decide) (rv_ref (hE53.2.1 C 6 (C + 10) (rcK hC (by omega)))) fun _ => ?_
          refine pr_n (pc2 := 111) (lv2 := [(3, vi 5), (0, .ref 131), (1, vi x1), (2, vi x2)]) (st2 := [vi 5, .ref (C + 10)]) 1 (fun _ _ => rfl) ?_
          refine pr_aE (k2 := 109) (a := 5) (v := vi (t 109 5)) hE53 rfl (TK10 hC) rfl (i32_n rfl) (by decide) rfl rfl rfl fun h55 h56 h54 => ?_
          have h54 : i32 (t 109 5) := h54
          refine pr_n (pc2 := 115) (lv2 := [(4, vi (t 109 5)), (3, vi 5), (0, .ref 131), (1, vi x1), (2, vi x2)]) (st2 := [.ref 131]) 2 (fun _ _ => rfl) ?_
          refine pr_get (v := .ref C) rfl rfl rfl (by decide) (rv_ref (show s53.1 131 1 = ((C : Nat) : Int) from hE53.2.2.1)) fun _ => ?_
          refine pr_get (v := .ref (C + 10)) rfl rfl (TK0 hC) (by decide) (rv_ref (hE53.2.1 C 6 (C + 10) (rcK hC (by omega)))) fun _ => ?_
          refine pr_n (pc2 := 123) (lv2 := [(4, vi (t 109 5)), (3, vi 5), (0, .ref 131), (1, vi x1), (2, vi x2)]) (st2 := [vi 5, .ref (C + 10), vi 5, .ref (C + 10)]) 2 (fun _ _ => rfl) ?_
          refine pr_aE (k2 := 109) (a := 5) (v := vi (t 109 5)) hE53 rfl (TK10 hC) rfl (i32_n rfl) (by decide) rfl rfl rfl fun h58 h59 h57 => ?_
          have h57 : i32 (t 109 5) := h57
          refine pr_n (pc2 := 125) (lv2 := [(4, vi (t 109 5)), (3, vi 5), (0, .ref 131), (1, vi x1), (2, vi x2)]) (st2 := [vi 1, vi (t 109 5), vi 5, .ref (C + 10)]) 1 (fun _ _ => rfl) ?_
          refine pr_add (a := t 109 5) (b := 1) rfl ?_
          have h60 : i32 (t 109 5 + 1) := by unfold i32 at *; omega
          show pr K K d tb_M37 126 [(4, vi (t 109 5)), (3, vi 5), (0, .ref 131), (1, vi x1), (2, vi x2)] [vi (t 109 5 + 1), vi 5, .ref (C + 10)] s53 _
          refine pr_sE (k2 := 109) (a := 5) (z := t 109 5 + 1) hE53 rfl (show 96 ≤ C + 10 by omega) (TK10 hC) rfl (i32_n rfl) (by decide) rfl (show i32 (t 109 5 + 1) from h60) (nK hC (by omega)) rfl rfl (fun e => absurd e.1 (show ¬ (C + 10 = 131) by omega)) (iv_c (by decide)) fun h61 h62 s63 hE63 => ?_
          refine pr_n (pc2 := 128) (lv2 := [(4, vi (t 109 5)), (3, vi 5), (0, .ref 131), (1, vi x1), (2, vi x2)]) (st2 := [.ref 131]) 1 (fun _ _ => rfl) ?_
          refine pr_get (v := .ref C) rfl rfl rfl (by decide) (rv_ref (show s63.1 131 1 = ((C : Nat) : Int) from hE63.2.2.1)) fun _ => ?_
          refine pr_get (v := .ref (C + 6)) rfl rfl (TK0 hC) (by decide) (rv_ref (hE63.2.1 C 5 (C + 6) (rcK hC (by omega)))) fun _ => ?_
          refine pr_n (pc2 := 135) (lv2 := [(4, vi (t 109 5)), (3, vi 5), (0, .ref 131), (1, vi x1), (2, vi x2)]) (st2 := [.ref 131, .ref (C + 6)]) 1 (fun _ _ => rfl) ?_
          refine pr_get (v := .ref 137) rfl rfl rfl (by decide) (rv_ref (hE63.2.1 131 0 137 rfl)) fun _ => ?_
          refine pr_s1 (args := []) (rest := [.ref (C + 6)]) rfl rfl rfl rfl (Nat.le_of_ble_eq_true rfl) rfl (h_38 s63 (up2 t 109 5 (t 109 5 + 1))  hE63 ) s_vlu ?_
          rintro _ s64 ⟨rfl, hz64⟩ hE64
          show pr K K d tb_M37 141 [(4, vi (t 109 5)), (3, vi 5), (0, .ref 131), (1, vi x1), (2, vi x2)] [vl (vlu (up2 t 109 5 (t 109 5 + 1))), .ref (C + 6)] s64 _
          refine pr_n (pc2 := 144) (lv2 := [(4, vi (t 109 5)), (3, vi 5), (0, .ref 131), (1, vi x1), (2, vi x2)]) (st2 := [vi (t 109 5), vi x1, vl (vlu (up2 t 109 5 (t 109 5 + 1))), .ref (C + 6)]) 2 (fun _ _ => rfl) ?_
          refine pr_s1 (args := [vl (vlu (up2 t 109 5 (t 109 5 + 1))), vi x1, vi (t 109 5)]) (rest := []) rfl rfl rfl (TK6 hC) (Nat.le_of_ble_eq_true rfl) rfl (h_42 s64 (up2 t 109 5 (t 109 5 + 1)) (vlu (up2 t 109 5 (t 109 5 + 1))) x1 (t 109 5) hE64 hz64 hx1 h57) s_nad ?_
          rintro _ s65 ⟨rfl, _⟩ hE65
          show pr K K d tb_M37 147 [(4, vi (t 109 5)), (3, vi 5), (0, .ref 131), (1, vi x1), (2, vi x2)] [] s65 _
          refine pr_n (pc2 := 148) (lv2 := [(4, vi (t 109 5)), (3, vi 5), (0, .ref 131), (1, vi x1), (2, vi x2)]) (st2 := [.ref 131]) 1 (fun _ _ => rfl) ?_
          refine pr_get (v := .ref 137) rfl rfl rfl (by decide) (rv_ref (hE65.2.1 131 0 137 rfl)) fun _ => ?_
          refine pr_s1 (args := []) (rest := []) rfl rfl rfl rfl (Nat.le_of_ble_eq_true rfl) rfl (h_35 s65 ((nad (up2 t 109 5 (t 109 5 + 1)) (vlu (up2 t 109 5 (t 109 5 + 1))) x1 (t 109 5)))  hE65 ) s_stp ?_
          rintro _ s66 ⟨rfl, _⟩ hE66
          show pr K K d tb_M37 154 [(4, vi (t 109 5)), (3, vi 5), (0, .ref 131), (1, vi x1), (2, vi x2)] [] s66 _
          refine pr_n (pc2 := 156) (lv2 := [(4, vi (t 109 5)), (3, vi 5), (0, .ref 131), (1, vi x1), (2, vi x2)]) (st2 := [vi (t 109 5)]) 1 (fun _ _ => rfl) ?_
          refine pr_reti rfl rfl ?_
          exact .inl ⟨_, t 109 5, _, rfl, ⟨rfl, h57⟩, rfl, hE66⟩
set_option maxHeartbeats 20000000 in
set_option maxRecDepth 100000 in
theorem cm45 {K d C : Nat} (h_37 : cT37 K d C) (h_46 : cT46 K d C) : cT45 K (d + 1) C := by
  intro s t x1 hE hx1
  have hC : C = 99 ∨ C = 115 := hE.1
  refine pcr_of (M := tb_M45) rfl ?_
  show pr K K d tb_M45 0 [(0, .ref 131), (1, vi x1)] [] s _
  rw [cG_45]
  unfold cM45
  refine pr_n (pc2 := 1) (lv2 := [(0, .ref 131), (1, vi x1)]) (st2 := [.ref 131]) 1 (fun _ _ => rfl) ?_
  refine pr_get (v := .ref C) rfl rfl rfl (by decide) (rv_ref (show s.1 131 1 = ((C : Nat) : Int) from hE.2.2.1)) fun _ => ?_
  refine pr_n (pc2 := 7) (lv2 := [(0, .ref 131), (1, vi x1)]) (st2 := [vi x1, vi 0, .ref 131, .ref C]) 3 (fun _ _ => rfl) ?_
  refine pr_m1 (args := [vi 0, vi x1]) (rest := [.ref C]) rfl rfl rfl rfl (Nat.le_of_ble_eq_true rfl) rfl (h_37 s t 0 x1 hE (i32_n rfl) hx1) ?_
  rintro _ z1 t1 s1 ⟨rfl, hz1⟩ hE1
  show pr K K d tb_M45 10 [(0, .ref 131), (1, vi x1)] [vi z1, .ref C] s1 _
  refine pr_n (pc2 := 11) (lv2 := [(0, .ref 131), (1, vi x1)]) (st2 := [vi 0, vi z1, .ref C]) 1 (fun _ _ => rfl) ?_
  refine pr_s1 (args := [vi z1, vi 0]) (rest := []) rfl rfl rfl (TK0 hC) (Nat.le_of_ble_eq_true rfl) rfl (h_46 s1 t1 z1 0 hE1 hz1 (i32_n rfl)) s_sbi ?_
  rintro _ s2 ⟨rfl, _⟩ hE2
  show pr K K d tb_M45 14 [(0, .ref 131), (1, vi x1)] [] s2 _
  refine pr_end (fun _ _ => rfl) ?_
  exact .inl ⟨_, 0, _, rfl, ⟨rfl, rfl⟩, rfl, hE2⟩
set_option maxHeartbeats 20000000 in
set_option maxRecDepth 100000 in
theorem cm61 {K d C : Nat} (h_34 : cT34 K d C) (h_38 : cT38 K d C) (h_39 : cT39 K d C) (h_40 : cT40 K d C) (h_41 : cT41 K d C) : cT61 K (d + 1) C := by
  intro s t  hE 
  have hC : C = 99 ∨ C = 115 := hE.1
  refine pcr_of (M := tb_M61) rfl ?_
  show pr K K d tb_M61 0 [(0, .ref 131)] [] s _
  rw [cG_61]
  unfold cM61
  refine pr_n (pc2 := 1) (lv2 := [(0, .ref 131)]) (st2 := [.ref 131]) 1 (fun _ _ => rfl) ?_
  refine pr_get (v := .ref C) rfl rfl rfl (by decide) (rv_ref (show s.1 131 1 = ((C : Nat) : Int) from hE.2.2.1)) fun _ => ?_
  refine pr_get (v := .ref (C + 6)) rfl rfl (TK0 hC) (by decide) (rv_ref (hE.2.1 C 5 (C + 6) (rcK hC (by omega)))) fun _ => ?_
  refine pr_n (pc2 := 8) (lv2 := [(0, .ref 131)]) (st2 := [.ref 131, .ref (C + 6)]) 1 (fun _ _ => rfl) ?_
  refine pr_get (v := .ref 137) rfl rfl rfl (by decide) (rv_ref (hE.2.1 131 0 137 rfl)) fun _ => ?_
  refine pr_s1 (args := []) (rest := [.ref (C + 6)]) rfl rfl rfl rfl (Nat.le_of_ble_eq_true rfl) rfl (h_38 s t  hE ) s_vlu ?_
  rintro _ s1 ⟨rfl, hz1⟩ hE1
  show pr K K d tb_M61 14 [(0, .ref 131)] [vl (vlu t), .ref (C + 6)] s1 _
  refine pr_n (pc2 := 15) (lv2 := [(0, .ref 131)]) (st2 := [vi 0, vl (vlu t), .ref (C + 6)]) 1 (fun _ _ => rfl) ?_
  refine pr_s1 (args := [vl (vlu t), vi 0]) (rest := []) rfl rfl rfl (TK6 hC) (Nat.le_of_ble_eq_true rfl) rfl (h_39 s1 t (vlu t) 0 hE1 hz1 (i32_n rfl)) s_fdn ?_
  rintro _ s2 ⟨rfl, hz2⟩ hE2
  show pr K K d tb_M61 18 [(0, .ref 131)] [vi (fdn t (vlu t) 0)] s2 _
  refine pr_n (pc2 := 21) (lv2 := [(1, vi (fdn t (vlu t) 0)), (0, .ref 131)]) (st2 := [.ref 131, .ref 131]) 3 (fun _ _ => rfl) ?_
  refine pr_get (v := .ref 137) rfl rfl rfl (by decide) (rv_ref (hE2.2.1 131 0 137 rfl)) fun _ => ?_
  refine pr_s1 (args := []) (rest := [.ref 131]) rfl rfl rfl rfl (Nat.le_of_ble_eq_true rfl) rfl (h_34 s2 t  hE2 ) s_kkd ?_
  rintro _ s3 ⟨rfl, hz3⟩ hE3
  show pr K K d tb_M61 27 [(1, vi (fdn t (vlu t) 0)), (0, .ref 131)] [vi (kkd t), .ref 131] s3 _
  refine pr_n (pc2 := 28) (lv2 := [(1, vi (fdn t (vlu t) 0)), (0, .ref 131)]) (st2 := [vi 1, vi (kkd t), .ref 131]) 1 (fun _ _ => rfl) ?_
  by_cases h4 : kkd t ≠ 1
  · refine mq_t h4 ?_
    refine pr_if2t rfl rfl hz3 (i32_n rfl) h4 ?_
    refine pr_n (pc2 := 41) (lv2 := [(1, vi (fdn t (vlu t) 0)), (0, .ref 131)]) (st2 := [.ref 131, vi 0, .ref 131]) 2 (fun _ _ => rfl) ?_
    refine pr_get (v := .ref 137) rfl rfl rfl (by decide) (rv_ref (hE3.2.1 131 0 137 rfl)) fun _ => ?_
    refine pr_s1 (args := []) (rest := [vi 0, .ref 131]) rfl rfl rfl rfl (Nat.le_of_ble_eq_true rfl) rfl (h_40 s3 t  hE3 ) s_plc ?_
    rintro _ s5 ⟨rfl, hz5⟩ hE5
    show pr K K d tb_M61 47 [(1, vi (fdn t (vlu t) 0)), (0, .ref 131)] [vi (plc t), vi 0, .ref 131] s5 _
    exact pr_c1 (args := [vi 0, vi (plc t)]) (rest := []) rfl rfl rfl rfl (Nat.le_of_ble_eq_true rfl) rfl (h_41 s5 t 0 (plc t) hE5 (by decide) hz5) chk0
  · refine mq_f h4 ?_
    refine pr_if2f rfl rfl hz3 (i32_n rfl) h4 ?_
    refine pr_n (pc2 := 32) (lv2 := [(1, vi (fdn t (vlu t) 0)), (0, .ref 131)]) (st2 := [vi (fdn t (vlu t) 0), .ref 131]) 1 (fun _ _ => rfl) ?_
    by_cases h7 : fdn t (vlu t) 0 < 0
    · refine mq_t h7 ?_
      refine pr_if1t rfl rfl hz2 h7 ?_
      refine pr_n (pc2 := 41) (lv2 := [(1, vi (fdn t (vlu t) 0)), (0, .ref 131)]) (st2 := [.ref 131, vi 0, .ref 131]) 2 (fun _ _ => rfl) ?_
      refine pr_get (v := .ref 137) rfl rfl rfl (by decide) (rv_ref (hE3.2.1 131 0 137 rfl)) fun _ => ?_
      refine pr_s1 (args := []) (rest := [vi 0, .ref 131]) rfl rfl rfl rfl (Nat.le_of_ble_eq_true rfl) rfl (h_40 s3 t  hE3 ) s_plc ?_
      rintro _ s8 ⟨rfl, hz8⟩ hE8
      show pr K K d tb_M61 47 [(1, vi (fdn t (vlu t) 0)), (0, .ref 131)] [vi (plc t), vi 0, .ref 131] s8 _
      exact pr_c1 (args := [vi 0, vi (plc t)]) (rest := []) rfl rfl rfl rfl (Nat.le_of_ble_eq_true rfl) rfl (h_41 s8 t 0 (plc t) hE8 (by decide) hz8) chk0
    · refine mq_f h7 ?_
      refine pr_if1f rfl rfl hz2 h7 ?_
      refine pr_n (pc2 := 41) (lv2 := [(1, vi (fdn t (vlu t) 0)), (0, .ref 131)]) (st2 := [.ref 131, vi 1, .ref 131]) 3 (fun _ _ => rfl) ?_
      refine pr_get (v := .ref 137) rfl rfl rfl (by decide) (rv_ref (hE3.2.1 131 0 137 rfl)) fun _ => ?_
      refine pr_s1 (args := []) (rest := [vi 1, .ref 131]) rfl rfl rfl rfl (Nat.le_of_ble_eq_true rfl) rfl (h_40 s3 t  hE3 ) s_plc ?_
      rintro _ s10 ⟨rfl, hz10⟩ hE10
      show pr K K d tb_M61 47 [(1, vi (fdn t (vlu t) 0)), (0, .ref 131)] [vi (plc t), vi 1, .ref 131] s10 _
      refine pr_s1 (args := [vi 1, vi (plc t)]) (rest := []) rfl rfl rfl rfl (Nat.le_of_ble_eq_true rfl) rfl (h_41 s10 t 1 (plc t) hE10 (by decide) hz10) chk1 ?_
      rintro _ s11 ⟨rfl, _⟩ hE11
      show pr K K d tb_M61 50 [(1, vi (fdn t (vlu t) 0)), (0, .ref 131)] [] s11 _
      refine pr_n (pc2 := 51) (lv2 := [(1, vi (fdn t (vlu t) 0)), (0, .ref 131)]) (st2 := [vi (fdn t (vlu t) 0)]) 1 (fun _ _ => rfl) ?_
      refine pr_reti rfl rfl ?_
      exact .inl ⟨_, fdn t (vlu t) 0, _, rfl, ⟨rfl, hz2⟩, rfl, hE11⟩
set_option maxHeartbeats 20000000 in
set_option maxRecDepth 100000 in
theorem cm73 {K d C : Nat} (h_62 : cT62 K d C) (h_63 : cT63 K d C) : cT73 K (d + 1) C := by
  intro s t x1 hE hx1
  have hC : C = 99 ∨ C = 115 := hE.1
  refine pcr_of (M := tb_M73) rfl ?_
  show pr K K d tb_M73 0 [(0, .ref 131), (1, vi x1)] [] s _
  rw [cG_73]
  unfold cM73
  refine pr_n (pc2 := 1) (lv2 := [(0, .ref 131), (1, vi x1)]) (st2 := [.ref 131]) 1 (fun _ _ => rfl) ?_
  refine pr_get (v := .ref C) rfl rfl rfl (by decide) (rv_ref (show s.1 131 1 = ((C : Nat) : Int) from hE.2.2.1)) fun _ => ?_
  refine pr_get (v := .ref (C + 6)) rfl rfl (TK0 hC) (by decide) (rv_ref (hE.2.1 C 5 (C + 6) (rcK hC (by omega)))) fun _ => ?_
  refine pr_n (pc2 := 8) (lv2 := [(0, .ref 131), (1, vi x1)]) (st2 := [vi x1, .ref (C + 6)]) 1 (fun _ _ => rfl) ?_
  refine pr_s1 (args := [vi x1]) (rest := []) rfl rfl rfl (TK6 hC) (Nat.le_of_ble_eq_true rfl) rfl (h_63 s t x1 hE hx1) s_nnm ?_
  rintro _ s1 ⟨rfl, hz1⟩ hE1
  show pr K K d tb_M73 11 [(0, .ref 131), (1, vi x1)] [vi (nnm t x1)] s1 _
  refine pr_n (pc2 := 13) (lv2 := [(2, vi (nnm t x1)), (0, .ref 131), (1, vi x1)]) (st2 := [.ref 131]) 2 (fun _ _ => rfl) ?_
  refine pr_get (v := .ref C) rfl rfl rfl (by decide) (rv_ref (show s1.1 131 1 = ((C : Nat) : Int) from hE1.2.2.1)) fun _ => ?_
  refine pr_get (v := .ref (C + 6)) rfl rfl (TK0 hC) (by decide) (rv_ref (hE1.2.1 C 5 (C + 6) (rcK hC (by omega)))) fun _ => ?_
  refine pr_n (pc2 := 20) (lv2 := [(2, vi (nnm t x1)), (0, .ref 131), (1, vi x1)]) (st2 := [vi x1, .ref (C + 6)]) 1 (fun _ _ => rfl) ?_
  refine pr_s1 (args := [vi x1]) (rest := []) rfl rfl rfl (TK6 hC) (Nat.le_of_ble_eq_true rfl) rfl (h_62 s1 t x1 hE1 hx1) s_nkd ?_
  rintro _ s2 ⟨rfl, hz2⟩ hE2
  show pr K K d tb_M73 23 [(2, vi (nnm t x1)), (0, .ref 131), (1, vi x1)] [vi (nkd t x1)] s2 _
  refine pr_n (pc2 := 24) (lv2 := [(2, vi (nnm t x1)), (0, .ref 131), (1, vi x1)]) (st2 := [vi 2, vi (nkd t x1)]) 1 (fun _ _ => rfl) ?_
  by_cases h3 : nkd t x1 ≠ 2
  · refine mq_t h3 ?_
    refine pr_if2t rfl rfl hz2 (i32_n rfl) h3 ?_
    refine pr_n (pc2 := 34) (lv2 := [(2, vi (nnm t x1)), (0, .ref 131), (1, vi x1)]) (st2 := [vi (nnm t x1), vi 8]) 2 (fun _ _ => rfl) ?_
    refine pr_i2 (a := 8) (b := nnm t x1) rfl rfl ?_
    show pr K K d tb_M73 35 [(2, vi (nnm t x1)), (0, .ref 131), (1, vi x1)] [vi (ipl 8 (nnm t x1))] s2 _
    have h4 : i32 (ipl 8 (nnm t x1)) := i32_in _
    refine pr_reti rfl rfl ?_
    exact .inl ⟨_, ipl 8 (nnm t x1), _, rfl, ⟨rfl, h4⟩, rfl, hE2⟩
  · refine mq_f h3 ?_
    refine pr_if2f rfl rfl hz2 (i32_n rfl) h3 ?_
    refine pr_n (pc2 := 35) (lv2 := [(2, vi (nnm t x1)), (0, .ref 131), (1, vi x1)]) (st2 := [vi (nnm t x1)]) 2 (fun _ _ => rfl) ?_
    refine pr_reti rfl rfl ?_
    exact .inl ⟨_, nnm t x1, _, rfl, ⟨rfl, hz1⟩, rfl, hE2⟩
set_option maxHeartbeats 20000000 in
set_option maxRecDepth 100000 in
theorem cm72 {K d C : Nat} (h_34 : cT34 K d C) (h_41 : cT41 K d C) (h_62 : cT62 K d C) (h_63 : cT63 K d C) : cT72 K (d + 1) C := by
  intro s t x1 x2 hE hx1 hx2
  have hC : C = 99 ∨ C = 115 := hE.1
  refine pcr_of (M := tb_M72) rfl ?_
  show pr K K d tb_M72 0 [(0, .ref 131), (1, vi x1), (2, vi x2)] [] s _
  rw [cG_72]
  unfold cM72
  refine pr_n (pc2 := 1) (lv2 := [(0, .ref 131), (1, vi x1), (2, vi x2)]) (st2 := [.ref 131]) 1 (fun _ _ => rfl) ?_
  refine pr_get (v := .ref 137) rfl rfl rfl (by decide) (rv_ref (hE.2.1 131 0 137 rfl)) fun _ => ?_
  refine pr_s1 (args := []) (rest := []) rfl rfl rfl rfl (Nat.le_of_ble_eq_true rfl) rfl (h_34 s t  hE ) s_kkd ?_
  rintro _ s1 ⟨rfl, hz1⟩ hE1
  show pr K K d tb_M72 7 [(0, .ref 131), (1, vi x1), (2, vi x2)] [vi (kkd t)] s1 _
  refine pr_n (pc2 := 9) (lv2 := [(0, .ref 131), (1, vi x1), (2, vi x2)]) (st2 := [vi 91, vi (kkd t)]) 1 (fun _ _ => rfl) ?_
  by_cases h2 : kkd t ≠ 91
  · refine mq_t h2 ?_
    refine pr_if2t rfl rfl hz1 (i32_n rfl) h2 ?_
    refine pr_n (pc2 := 20) (lv2 := [(3, vi 0), (0, .ref 131), (1, vi x1), (2, vi x2)]) (st2 := [.ref 131, .ref 131]) 4 (fun _ _ => rfl) ?_
    refine pr_get (v := .ref C) rfl rfl rfl (by decide) (rv_ref (show s1.1 131 1 = ((C : Nat) : Int) from hE1.2.2.1)) fun _ => ?_
    refine pr_get (v := .ref (C + 6)) rfl rfl (TK0 hC) (by decide) (rv_ref (hE1.2.1 C 5 (C + 6) (rcK hC (by omega)))) fun _ => ?_
    refine pr_n (pc2 := 27) (lv2 := [(3, vi 0), (0, .ref 131), (1, vi x1), (2, vi x2)]) (st2 := [vi x1, .ref (C + 6), .ref 131]) 1 (fun _ _ => rfl) ?_
    refine pr_s1 (args := [vi x1]) (rest := [.ref 131]) rfl rfl rfl (TK6 hC) (Nat.le_of_ble_eq_true rfl) rfl (h_62 s1 t x1 hE1 hx1) s_nkd ?_
    rintro _ s3 ⟨rfl, hz3⟩ hE3
    show pr K K d tb_M72 30 [(3, vi 0), (0, .ref 131), (1, vi x1), (2, vi x2)] [vi (nkd t x1), .ref 131] s3 _
    refine pr_n (pc2 := 31) (lv2 := [(3, vi 0), (0, .ref 131), (1, vi x1), (2, vi x2)]) (st2 := [vi 0, vi (nkd t x1), .ref 131]) 1 (fun _ _ => rfl) ?_
    by_cases h4 : nkd t x1 ≠ 0
    · refine mq_t h4 ?_
      refine pr_if2t rfl rfl hz3 (i32_n rfl) h4 ?_
      refine pr_n (pc2 := 40) (lv2 := [(3, vi 0), (0, .ref 131), (1, vi x1), (2, vi x2)]) (st2 := [vi x2, vi 0, .ref 131]) 2 (fun _ _ => rfl) ?_
      exact pr_c1 (args := [vi 0, vi x2]) (rest := []) rfl rfl rfl rfl (Nat.le_of_ble_eq_true rfl) rfl (h_41 s3 t 0 x2 hE3 (by decide) hx2) chk0
    · refine mq_f h4 ?_
      refine pr_if2f rfl rfl hz3 (i32_n rfl) h4 ?_
      refine pr_n (pc2 := 40) (lv2 := [(3, vi 0), (0, .ref 131), (1, vi x1), (2, vi x2)]) (st2 := [vi x2, vi 1, .ref 131]) 3 (fun _ _ => rfl) ?_
      refine pr_s1 (args := [vi 1, vi x2]) (rest := []) rfl rfl rfl rfl (Nat.le_of_ble_eq_true rfl) rfl (h_41 s3 t 1 x2 hE3 (by decide) hx2) chk1 ?_
      rintro _ s6 ⟨rfl, _⟩ hE6
      show pr K K d tb_M72 43 [(3, vi 0), (0, .ref 131), (1, vi x1), (2, vi x2)] [] s6 _
      refine pr_n (pc2 := 44) (lv2 := [(3, vi 0), (0, .ref 131), (1, vi x1), (2, vi x2)]) (st2 := [.ref 131]) 1 (fun _ _ => rfl) ?_
      refine pr_get (v := .ref C) rfl rfl rfl (by decide) (rv_ref (show s6.1 131 1 = ((C : Nat) : Int) from hE6.2.2.1)) fun _ => ?_
      refine pr_get (v := .ref (C + 6)) rfl rfl (TK0 hC) (by decide) (rv_ref (hE6.2.1 C 5 (C + 6) (rcK hC (by omega)))) fun _ => ?_
      refine pr_n (pc2 := 51) (lv2 := [(3, vi 0), (0, .ref 131), (1, vi x1), (2, vi x2)]) (st2 := [vi x1, .ref (C + 6)]) 1 (fun _ _ => rfl) ?_
      refine pr_s1 (args := [vi x1]) (rest := []) rfl rfl rfl (TK6 hC) (Nat.le_of_ble_eq_true rfl) rfl (h_63 s6 t x1 hE6 hx1) s_nnm ?_
      rintro _ s7 ⟨rfl, hz7⟩ hE7
      show pr K K d tb_M72 54 [(3, vi 0), (0, .ref 131), (1, vi x1), (2, vi x2)] [vi (nnm t x1)] s7 _
      refine pr_n (pc2 := 56) (lv2 := [(3, vi 0), (0, .ref 131), (1, vi x1), (2, vi x2)]) (st2 := [vi 1, vi 0, vi (nnm t x1)]) 2 (fun _ _ => rfl) ?_
      refine pr_n (pc2 := 65) (lv2 := [(3, vi 0), (0, .ref 131), (1, vi x1), (2, vi x2)]) (st2 := [vi 0, vi (nnm t x1)]) 2 (fun _ _ => rfl) ?_
      refine pr_i2 (a := nnm t x1) (b := 0) rfl rfl ?_
      show pr K K d tb_M72 66 [(3, vi 0), (0, .ref 131), (1, vi x1), (2, vi x2)] [vi (ipl (nnm t x1) 0)] s7 _
      have h8 : i32 (ipl (nnm t x1) 0) := i32_in _
      refine pr_n (pc2 := 70) (lv2 := [(4, vi (ipl (nnm t x1) 0)), (3, vi 0), (0, .ref 131), (1, vi x1), (2, vi x2)]) (st2 := [.ref 131, .ref 131]) 3 (fun _ _ => rfl) ?_
      refine pr_gE (k2 := 131) (v := vl (t 131 7)) hE7 rfl rfl rfl (by decide) rfl rfl rfl fun h9 => ?_
      have h9 : i64 (t 131 7) := h9
      refine pr_n (pc2 := 76) (lv2 := [(4, vi (ipl (nnm t x1) 0)), (3, vi 0), (0, .ref 131), (1, vi x1), (2, vi x2)]) (st2 := [vi (ipl (nnm t x1) 0), vl 1, vl (t 131 7), .ref 131]) 2 (fun _ _ => rfl) ?_
      refine pr_lshl (a := 1) (b := ipl (nnm t x1) 0) rfl ?_
      refine pr_l2 (a := t 131 7) (b := lsl 1 (ipl (nnm t x1) 0)) rfl rfl ?_
      show pr K K d tb_M72 78 [(4, vi (ipl (nnm t x1) 0)), (3, vi 0), (0, .ref 131), (1, vi x1), (2, vi x2)] [vl (lo (t 131 7) (lsl 1 (ipl (nnm t x1) 0))), .ref 131] s7 _
      refine pr_pE (k2 := 131) (z := lo (t 131 7) (lsl 1 (ipl (nnm t x1) 0))) hE7 rfl rfl rfl rfl (by decide) rfl (by decide) rfl (i64_in _) (fit_l _) rfl rfl rfl (fun e => absurd e.2 (by decide)) (iv_c (by decide)) fun s10 hE10 => ?_
      refine pr_n (pc2 := 83) (lv2 := [(4, vi (ipl (nnm t x1) 0)), (3, vi 0), (0, .ref 131), (1, vi x1), (2, vi x2)]) (st2 := [.ref 131, .ref 131]) 2 (fun _ _ => rfl) ?_
      refine pr_gE (k2 := 131) (v := vl (t 131 8)) hE10 rfl rfl rfl (by decide) rfl rfl rfl fun h11 => ?_
      have h11 : i64 (t 131 8) := h11
      refine pr_n (pc2 := 89) (lv2 := [(4, vi (ipl (nnm t x1) 0)), (3, vi 0), (0, .ref 131), (1, vi x1), (2, vi x2)]) (st2 := [vi (ipl (nnm t x1) 0), vl 1, vl (t 131 8), .ref 131]) 2 (fun _ _ => rfl) ?_
      refine pr_lshl (a := 1) (b := ipl (nnm t x1) 0) rfl ?_
      refine pr_l2 (a := t 131 8) (b := lsl 1 (ipl (nnm t x1) 0)) rfl rfl ?_
      show pr K K d tb_M72 91 [(4, vi (ipl (nnm t x1) 0)), (3, vi 0), (0, .ref 131), (1, vi x1), (2, vi x2)] [vl (lo (t 131 8) (lsl 1 (ipl (nnm t x1) 0))), .ref 131] s10 _
      refine pr_pE (k2 := 131) (z := lo (t 131 8) (lsl 1 (ipl (nnm t x1) 0))) hE10 rfl rfl rfl rfl (by decide) rfl (by decide) rfl (i64_in _) (fit_l _) rfl rfl rfl (fun e => absurd e.2 (by decide)) (iv_c (by decide)) fun s12 hE12 => ?_
      refine pr_n (pc2 := 96) (lv2 := [(4, vi (ipl (nnm t x1) 0)), (3, vi 0), (0, .ref 131), (1, vi x1), (2, vi x2)]) (st2 := [vi (ipl (nnm t x1) 0)]) 1 (fun _ _ => rfl) ?_
      refine pr_reti rfl rfl ?_
      exact .inl ⟨_, ipl (nnm t x1) 0, _, rfl, ⟨rfl, h8⟩, rfl, hE12⟩
  · refine mq_f h2 ?_
    refine pr_if2f rfl rfl hz1 (i32_n rfl) h2 ?_
    refine pr_n (pc2 := 20) (lv2 := [(3, vi 1), (0, .ref 131), (1, vi x1), (2, vi x2)]) (st2 := [.ref 131, .ref 131]) 5 (fun _ _ => rfl) ?_
    refine pr_get (v := .ref C) rfl rfl rfl (by decide) (rv_ref (show s1.1 131 1 = ((C : Nat) : Int) from hE1.2.2.1)) fun _ => ?_
    refine pr_get (v := .ref (C + 6)) rfl rfl (TK0 hC) (by decide) (rv_ref (hE1.2.1 C 5 (C + 6) (rcK hC (by omega)))) fun _ => ?_
    refine pr_n (pc2 := 27) (lv2 := [(3, vi 1), (0, .ref 131), (1, vi x1), (2, vi x2)]) (st2 := [vi x1, .ref (C + 6), .ref 131]) 1 (fun _ _ => rfl) ?_
    refine pr_s1 (args := [vi x1]) (rest := [.ref 131]) rfl rfl rfl (TK6 hC) (Nat.le_of_ble_eq_true rfl) rfl (h_62 s1 t x1 hE1 hx1) s_nkd ?_
    rintro _ s13 ⟨rfl, hz13⟩ hE13
    show pr K K d tb_M72 30 [(3, vi 1), (0, .ref 131), (1, vi x1), (2, vi x2)] [vi (nkd t x1), .ref 131] s13 _
    refine pr_n (pc2 := 31) (lv2 := [(3, vi 1), (0, .ref 131), (1, vi x1), (2, vi x2)]) (st2 := [vi 1, vi (nkd t x1), .ref 131]) 1 (fun _ _ => rfl) ?_
    by_cases h14 : nkd t x1 ≠ 1
    · refine mq_t h14 ?_
      refine pr_if2t rfl rfl hz13 (i32_n rfl) h14 ?_
      refine pr_n (pc2 := 40) (lv2 := [(3, vi 1), (0, .ref 131), (1, vi x1), (2, vi x2)]) (st2 := [vi x2, vi 0, .ref 131]) 2 (fun _ _ => rfl) ?_
      exact pr_c1 (args := [vi 0, vi x2]) (rest := []) rfl rfl rfl rfl (Nat.le_of_ble_eq_true rfl) rfl (h_41 s13 t 0 x2 hE13 (by decide) hx2) chk0
    · refine mq_f h14 ?_
      refine pr_if2f rfl rfl hz13 (i32_n rfl) h14 ?_
      refine pr_n (pc2 := 40) (lv2 := [(3, vi 1), (0, .ref 131), (1, vi x1), (2, vi x2)]) (st2 := [vi x2, vi 1, .ref 131]) 3 (fun _ _ => rfl) ?_
      refine pr_s1 (args := [vi 1, vi x2]) (rest := []) rfl rfl rfl rfl (Nat.le_of_ble_eq_true rfl) rfl (h_41 s13 t 1 x2 hE13 (by decide) hx2) chk1 ?_
      rintro _ s16 ⟨rfl, _⟩ hE16
      show pr K K d tb_M72 43 [(3, vi 1), (0, .ref 131), (1, vi x1), (2, vi x2)] [] s16 _
      refine pr_n (pc2 := 44) (lv2 := [(3, vi 1), (0, .ref 131), (1, vi x1), (2, vi x2)]) (st2 := [.ref 131]) 1 (fun _ _ => rfl) ?_
      refine pr_get (v := .ref C) rfl rfl rfl (by decide) (rv_ref (show s16.1 131 1 = ((C : Nat) : Int) from hE16.2.2.1)) fun _ => ?_
      refine pr_get (v := .ref (C + 6)) rfl rfl (TK0 hC) (by decide) (rv_ref (hE16.2.1 C 5 (C + 6) (rcK hC (by omega)))) fun _ => ?_
      refine pr_n (pc2 := 51) (lv2 := [(3, vi 1), (0, .ref 131), (1, vi x1), (2, vi x2)]) (st2 := [vi x1, .ref (C + 6)]) 1 (fun _ _ => rfl) ?_
      refine pr_s1 (args := [vi x1]) (rest := []) rfl rfl rfl (TK6 hC) (Nat.le_of_ble_eq_true rfl) rfl (h_63 s16 t x1 hE16 hx1) s_nnm ?_
      rintro _ s17 ⟨rfl, hz17⟩ hE17
      show pr K K d tb_M72 54 [(3, vi 1), (0, .ref 131), (1, vi x1), (2, vi x2)] [vi (nnm t x1)] s17 _
      refine pr_n (pc2 := 56) (lv2 := [(3, vi 1), (0, .ref 131), (1, vi x1), (2, vi x2)]) (st2 := [vi 1, vi 1, vi (nnm t x1)]) 2 (fun _ _ => rfl) ?_
      refine pr_n (pc2 := 65) (lv2 := [(3, vi 1), (0, .ref 131), (1, vi x1), (2, vi x2)]) (st2 := [vi 24, vi (nnm t x1)]) 3 (fun _ _ => rfl) ?_
      refine pr_i2 (a := nnm t x1) (b := 24) rfl rfl ?_
      show pr K K d tb_M72 66 [(3, vi 1), (0, .ref 131), (1, vi x1), (2, vi x2)] [vi (ipl (nnm t x1) 24)] s17 _
      have h18 : i32 (ipl (nnm t x1) 24) := i32_in _
      refine pr_n (pc2 := 70) (lv2 := [(4, vi (ipl (nnm t x1) 24)), (3, vi 1), (0, .ref 131), (1, vi x1), (2, vi x2)]) (st2 := [.ref 131, .ref 131]) 3 (fun _ _ => rfl) ?_
      refine pr_gE (k2 := 131) (v := vl (t 131 7)) hE17 rfl rfl rfl (by decide) rfl rfl rfl fun h19 => ?_
      have h19 : i64 (t 131 7) := h19
      refine pr_n (pc2 := 76) (lv2 := [(4, vi (ipl (nnm t x1) 24)), (3, vi 1), (0, .ref 131), (1, vi x1), (2, vi x2)]) (st2 := [vi (ipl (nnm t x1) 24), vl 1, vl (t 131 7), .ref 131]) 2 (fun _ _ => rfl) ?_
      refine pr_lshl (a := 1) (b := ipl (nnm t x1) 24) rfl ?_
      refine pr_l2 (a := t 131 7) (b := lsl 1 (ipl (nnm t x1) 24)) rfl rfl ?_
      show pr K K d tb_M72 78 [(4, vi (ipl (nnm t x1) 24)), (3, vi 1), (0, .ref 131), (1, vi x1), (2, vi x2)] [vl (lo (t 131 7) (lsl 1 (ipl (nnm t x1) 24))), .ref 131] s17 _
      refine pr_pE (k2 := 131) (z := lo (t 131 7) (lsl 1 (ipl (nnm t x1) 24))) hE17 rfl rfl rfl rfl (by decide) rfl (by decide) rfl (i64_in _) (fit_l _) rfl rfl rfl (fun e => absurd e.2 (by decide)) (iv_c (by decide)) fun s20 hE20 => ?_
      refine pr_n (pc2 := 83) (lv2 := [(4, vi (ipl (nnm t x1) 24)), (3, vi 1), (0, .ref 131), (1, vi x1), (2, vi x2)]) (st2 := [.ref 131, .ref 131]) 2 (fun _ _ => rfl) ?_
      refine pr_gE (k2 := 131) (v := vl (t 131 8)) hE20 rfl rfl rfl (by decide) rfl rfl rfl fun h21 => ?_
      have h21 : i64 (t 131 8) := h21
      refine pr_n (pc2 := 89) (lv2 := [(4, vi (ipl (nnm t x1) 24)), (3, vi 1), (0, .ref 131), (1, vi x1), (2, vi x2)]) (st2 := [vi (ipl (nnm t x1) 24), vl 1, vl (t 131 8), .ref 131]) 2 (fun _ _ => rfl) ?_
      refine pr_lshl (a := 1) (b := ipl (nnm t x1) 24) rfl ?_
      refine pr_l2 (a := t 131 8) (b := lsl 1 (ipl (nnm t x1) 24)) rfl rfl ?_
      show pr K K d tb_M72 91 [(4, vi (ipl (nnm t x1) 24)), (3, vi 1), (0, .ref 131), (1, vi x1), (2, vi x2)] [vl (lo (t 131 8) (lsl 1 (ipl (nnm t x1) 24))), .ref 131] s20 _
      refine pr_pE (k2 := 131) (z := lo (t 131 8) (lsl 1 (ipl (nnm t x1) 24))) hE20 rfl rfl rfl rfl (by decide) rfl (by decide) rfl (i64_in _) (fit_l _) rfl rfl rfl (fun e => absurd e.2 (by decide)) (iv_c (by decide)) fun s22 hE22 => ?_
      refine pr_n (pc2 := 96) (lv2 := [(4, vi (ipl (nnm t x1) 24)), (3, vi 1), (0, .ref 131), (1, vi x1), (2, vi x2)]) (st2 := [vi (ipl (nnm t x1) 24)]) 1 (fun _ _ => rfl) ?_
      refine pr_reti rfl rfl ?_
      exact .inl ⟨_, ipl (nnm t x1) 24, _, rfl, ⟨rfl, h18⟩, rfl, hE22⟩
set_option maxHeartbeats 20000000 in
set_option maxRecDepth 100000 in
theorem cu69_0 {N K d C : Nat} (h_54 : cT54 K d C) (h_68 : cT68 K d C) (ih : ∀ N2, N2 < N → cA69 N2 K d C) : cU69_0 N K d C := by
  intro s t y4 y1 y2 y3 hE hy4 hy1 hy2 hy3
  have hC : C = 99 ∨ C = 115 := hE.1
  rw [cG_69_3]
  unfold cM69_3
  refine pr_lt (pc2 := 4) (lv2 := [(4, vi y4), (0, .ref 131), (1, vi y1), (2, vi y2), (3, vi y3)]) (st2 := [.ref 131]) (fun _ _ => rfl) fun N2 hN2 => ?_
  refine pr_gE (k2 := 131) (v := vi (t 131 6)) hE rfl rfl rfl (by decide) rfl rfl rfl fun h1 => ?_
  have h1 : i32 (t 131 6) := h1
  refine pr_n (pc2 := 8) (lv2 := [(4, vi y4), (0, .ref 131), (1, vi y1), (2, vi y2), (3, vi y3)]) (st2 := [vi y1, vi (t 131 6)]) 1 (fun _ _ => rfl) ?_
  by_cases h2 : t 131 6 ≤ y1
  · refine mq_t h2 ?_
    refine pr_if2t rfl rfl h1 hy1 h2 ?_
    refine pr_n (pc2 := 83) (lv2 := [(4, vi y4), (0, .ref 131), (1, vi y1), (2, vi y2), (3, vi y3)]) (st2 := [vi y4]) 1 (fun _ _ => rfl) ?_
    refine pr_reti rfl rfl ?_
    exact .inl ⟨_, y4, _, rfl, ⟨rfl, hy4⟩, rfl, hE⟩
  · refine mq_f h2 ?_
    refine pr_if2f rfl rfl h1 hy1 h2 ?_
    refine pr_n (pc2 := 12) (lv2 := [(4, vi y4), (0, .ref 131), (1, vi y1), (2, vi y2), (3, vi y3)]) (st2 := [.ref 131]) 1 (fun _ _ => rfl) ?_
    refine pr_gE (k2 := 131) (v := vi (t 131 6)) hE rfl rfl rfl (by decide) rfl rfl rfl fun h3 => ?_
    have h3 : i32 (t 131 6) := h3
    by_cases h4 : t 131 6 ≤ 0
    · refine mq_t h4 ?_
      refine pr_if1t rfl rfl h3 h4 ?_
      refine pr_n (pc2 := 83) (lv2 := [(4, vi y4), (0, .ref 131), (1, vi y1), (2, vi y2), (3, vi y3)]) (st2 := [vi y4]) 1 (fun _ _ => rfl) ?_
      refine pr_reti rfl rfl ?_
      exact .inl ⟨_, y4, _, rfl, ⟨rfl, hy4⟩, rfl, hE⟩
    · refine mq_f h4 ?_
      refine pr_if1f rfl rfl h3 h4 ?_
      refine pr_n (pc2 := 19) (lv2 := [(4, vi y4), (0, .ref 131), (1, vi y1), (2, vi y2), (3, vi y3)]) (st2 := [.ref 131]) 1 (fun _ _ => rfl) ?_
      refine pr_get (v := .ref 132) rfl rfl rfl (by decide) (rv_ref (hE.2.1 131 4 132 rfl)) fun _ => ?_
      refine pr_n (pc2 := 23) (lv2 := [(4, vi y4), (0, .ref 131), (1, vi y1), (2, vi y2), (3, vi y3)]) (st2 := [.ref 131, .ref 132]) 1 (fun _ _ => rfl) ?_
      refine pr_gE (k2 := 131) (v := vi (t 131 6)) hE rfl rfl rfl (by decide) rfl rfl rfl fun h5 => ?_
      have h5 : i32 (t 131 6) := h5
      refine pr_n (pc2 := 27) (lv2 := [(4, vi y4), (0, .ref 131), (1, vi y1), (2, vi y2), (3, vi y3)]) (st2 := [vi 1, vi (t 131 6), .ref 132]) 1 (fun _ _ => rfl) ?_
      refine pr_sub (a := t 131 6) (b := 1) rfl ?_
      have h6 : i32 ((t 131 6) - 1) := by unfold i32 at *; omega
      show pr N2 K d tb_M69 28 [(4, vi y4), (0, .ref 131), (1, vi y1), (2, vi y2), (3, vi y3)] [vi ((t 131 6) - 1), .ref 132] s _
      refine pr_aE (k2 := 132) (a := (t 131 6) - 1) (v := vi (t 132 (((t 131 6) - 1).toNat))) hE rfl rfl rfl h6 (by decide) rfl rfl rfl fun h8 h9 h7 => ?_
      have h7 : i32 (t 132 (((t 131 6) - 1).toNat)) := h7
      refine pr_s0 (args := [vi (t 132 (((t 131 6) - 1).toNat))]) (rest := []) rfl rfl rfl (Nat.le_of_ble_eq_true rfl) rfl (h_68 s t (t 132 (((t 131 6) - 1).toNat)) hE h7) s_lvl ?_
      rintro _ s10 ⟨rfl, hz10⟩ hE10
      show pr N2 K d tb_M69 32 [(4, vi y4), (0, .ref 131), (1, vi y1), (2, vi y2), (3, vi y3)] [vi (lvl (t 132 (((t 131 6) - 1).toNat)))] s10 _
      refine pr_n (pc2 := 33) (lv2 := [(4, vi y4), (0, .ref 131), (1, vi y1), (2, vi y2), (3, vi y3)]) (st2 := [vi y2, vi (lvl (t 132 (((t 131 6) - 1).toNat)))]) 1 (fun _ _ => rfl) ?_
      by_cases h11 : lvl (t 132 (((t 131 6) - 1).toNat)) < y2
      · refine mq_t h11 ?_
        refine pr_if2t rfl rfl hz10 hy2 h11 ?_
        refine pr_n (pc2 := 83) (lv2 := [(4, vi y4), (0, .ref 131), (1, vi y1), (2, vi y2), (3, vi y3)]) (st2 := [vi y4]) 1 (fun _ _ => rfl) ?_
        refine pr_reti rfl rfl ?_
        exact .inl ⟨_, y4, _, rfl, ⟨rfl, hy4⟩, rfl, hE10⟩
      · refine mq_f h11 ?_
        refine pr_if2f rfl rfl hz10 hy2 h11 ?_
        refine pr_n (pc2 := 38) (lv2 := [(4, vi y4), (0, .ref 131), (1, vi y1), (2, vi y2), (3, vi y3)]) (st2 := [.ref 131, .ref 131]) 2 (fun _ _ => rfl) ?_
        refine pr_gE (k2 := 131) (v := vi (t 131 6)) hE10 rfl rfl rfl (by decide) rfl rfl rfl fun h12 => ?_
        have h12 : i32 (t 131 6) := h12
        refine pr_n (pc2 := 42) (lv2 := [(4, vi y4), (0, .ref 131), (1, vi y1), (2, vi y2), (3, vi y3)]) (st2 := [vi 1, vi (t 131 6), .ref 131]) 1 (fun _ _ => rfl) ?_
        refine pr_sub (a := t 131 6) (b := 1) rfl ?_
        have h13 : i32 ((t 131 6) - 1) := by unfold i32 at *; omega
        show pr N2 K d tb_M69 43 [(4, vi y4), (0, .ref 131), (1, vi y1), (2, vi y2), (3, vi y3)] [vi ((t 131 6) - 1), .ref 131] s10 _
        refine pr_pE (k2 := 131) (z := (t 131 6) - 1) hE10 rfl rfl rfl rfl (by decide) rfl (by decide) rfl (show i32 ((t 131 6) - 1) from h13) (hf_int' _) rfl rfl rfl (fun e => absurd e.2 (by decide)) (iv_c (by decide)) fun s14 hE14 => ?_
        refine pr_n (pc2 := 47) (lv2 := [(4, vi y4), (0, .ref 131), (1, vi y1), (2, vi y2), (3, vi y3)]) (st2 := [.ref 131]) 1 (fun _ _ => rfl) ?_
        refine pr_get (v := .ref C) rfl rfl rfl (by decide) (rv_ref (show s14.1 131 1 = ((C : Nat) : Int) from hE14.2.2.1)) fun _ => ?_
        refine pr_n (pc2 := 54) (lv2 := [(4, vi y4), (0, .ref 131), (1, vi y1), (2, vi y2), (3, vi y3)]) (st2 := [.ref 131, vi 403, .ref C]) 2 (fun _ _ => rfl) ?_
        refine pr_get (v := .ref 132) rfl rfl rfl (by decide) (rv_ref (hE14.2.1 131 4 132 rfl)) fun _ => ?_
        refine pr_n (pc2 := 58) (lv2 := [(4, vi y4), (0, .ref 131), (1, vi y1), (2, vi y2), (3, vi y3)]) (st2 := [.ref 131, .ref 132, vi 403, .ref C]) 1 (fun _ _ => rfl) ?_
        refine pr_gE (k2 := 131) (v := vi ((t 131 6) - 1)) hE14 rfl rfl rfl (by decide) rfl rfl rfl fun h15 => ?_
        have h15 : i32 ((t 131 6) - 1) := h15
        refine pr_aE (k2 := 132) (a := (t 131 6) - 1) (v := vi (t 132 (((t 131 6) - 1).toNat))) hE14 rfl rfl rfl h15 (by decide) rfl rfl rfl fun h17 h18 h16 => ?_
        have h16 : i32 (t 132 (((t 131 6) - 1).toNat)) := h16
        refine pr_n (pc2 := 63) (lv2 := [(4, vi y4), (0, .ref 131), (1, vi y1), (2, vi y2), (3, vi y3)]) (st2 := [.ref 131, vi (t 132 (((t 131 6) - 1).toNat)), vi 403, .ref C]) 1 (fun _ _ => rfl) ?_
        refine pr_get (v := .ref 133) rfl rfl rfl (by decide) (rv_ref (hE14.2.1 131 5 133 rfl)) fun _ => ?_
        refine pr_n (pc2 := 67) (lv2 := [(4, vi y4), (0, .ref 131), (1, vi y1), (2, vi y2), (3, vi y3)]) (st2 := [.ref 131, .ref 133, vi (t 132 (((t 131 6) - 1).toNat)), vi 403, .ref C]) 1 (fun _ _ => rfl) ?_
        refine pr_gE (k2 := 131) (v := vi ((t 131 6) - 1)) hE14 rfl rfl rfl (by decide) rfl rfl rfl fun h19 => ?_
        have h19 : i32 ((t 131 6) - 1) := h19
        refine pr_aE (k2 := 133) (a := (t 131 6) - 1) (v := vi (t 133 (((t 131 6) - 1).toNat))) hE14 rfl rfl rfl h19 (by decide) rfl rfl rfl fun h21 h22 h20 => ?_
        have h20 : i32 (t 133 (((t 131 6) - 1).toNat)) := h20
        refine pr_n (pc2 := 73) (lv2 := [(4, vi y4), (0, .ref 131), (1, vi y1), (2, vi y2), (3, vi y3)]) (st2 := [vi y4, vi (t 133 (((t 131 6) - 1).toNat)), vi (t 132 (((t 131 6) - 1).toNat)), vi 403, .ref C]) 1 (fun _ _ => rfl) ?_
        refine pr_s1 (args := [vi 403, vi (t 132 (((t 131 6) - 1).toNat)), vi (t 133 (((t 131 6) - 1).toNat)), vi y4]) (rest := []) rfl rfl rfl (TK0 hC) (Nat.le_of_ble_eq_true rfl) rfl (h_54 s14 (up2 t 131 6 ((t 131 6) - 1)) 403 (t 132 (((t 131 6) - 1).toNat)) (t 133 (((t 131 6) - 1).toNat)) y4 hE14 (i32_n rfl) h16 h20 hy4) s_cad ?_
        rintro _ s23 ⟨rfl, hz23⟩ hE23
        show pr N2 K d tb_M69 76 [(4, vi y4), (0, .ref 131), (1, vi y1), (2, vi y2), (3, vi y3)] [vi (cadz (up2 t 131 6 ((t 131 6) - 1)))] s23 _
        refine pr_n (pc2 := 3) (lv2 := [(4, vi (cadz (up2 t 131 6 ((t 131 6) - 1)))), (0, .ref 131), (1, vi y1), (2, vi y2), (3, vi y3)]) (st2 := []) 2 (fun _ _ => rfl) ?_
        exact ((ih N2 hN2)) s23 ((cad (up2 t 131 6 ((t 131 6) - 1)) 403 (t 132 (((t 131 6) - 1).toNat)) (t 133 (((t 131 6) - 1).toNat)) y4)) (cadz (up2 t 131 6 ((t 131 6) - 1))) y1 y2 y3 hE23 hz23 hy1 hy2 hy3
theorem ca69 {K d C : Nat} (h_54 : cT54 K d C) (h_68 : cT68 K d C) : ∀ N, cA69 N K d C := by
  intro N
  induction N using Nat.strongRecOn with | ind N ih => ?_
  exact cu69_0 h_54 h_68 ih
set_option maxHeartbeats 20000000 in
set_option maxRecDepth 100000 in
theorem cm69 {K d C : Nat} (h_54 : cT54 K d C) (h_68 : cT68 K d C) : cT69 K (d + 1) C := by
  intro s t x1 x2 x3 hE hx1 hx2 hx3
  have hC : C = 99 ∨ C = 115 := hE.1
  refine pcr_of (M := tb_M69) rfl ?_
  show pr K K d tb_M69 0 [(0, .ref 131), (1, vi x1), (2, vi x2), (3, vi x3)] [] s _
  rw [cG_69]
  unfold cM69
  refine pr_n (pc2 := 3) (lv2 := [(4, vi x3), (0, .ref 131), (1, vi x1), (2, vi x2), (3, vi x3)]) (st2 := []) 2 (fun _ _ => rfl) ?_
  exact ((ca69 h_54 h_68 K)) s t x3 x1 x2 x3 hE hx3 hx1 hx2 hx3
set_option maxHeartbeats 20000000 in
set_option maxRecDepth 100000 in
theorem cm64 {K d C : Nat} (h_35 : cT35 K d C) (h_40 : cT40 K d C) (h_41 : cT41 K d C) (h_43 : cT43 K d C) (h_57 : cT57 K d C) : cT64 K (d + 1) C := by
  intro s t x1 hE hx1
  have hC : C = 99 ∨ C = 115 := hE.1
  refine pcr_of (M := tb_M64) rfl ?_
  show pr K K d tb_M64 0 [(0, .ref 131), (1, vi x1)] [] s _
  rw [cG_64]
  unfold cM64
  refine pr_n (pc2 := 4) (lv2 := [(0, .ref 131), (1, vi x1)]) (st2 := [vi 20, vi x1, .ref 131]) 3 (fun _ _ => rfl) ?_
  by_cases h1 : 20 ≤ x1
  · refine mq_t h1 ?_
    refine pr_if2t rfl rfl hx1 (i32_n rfl) h1 ?_
    refine pr_n (pc2 := 13) (lv2 := [(0, .ref 131), (1, vi x1)]) (st2 := [.ref 131, vi 0, .ref 131]) 2 (fun _ _ => rfl) ?_
    refine pr_get (v := .ref 137) rfl rfl rfl (by decide) (rv_ref (hE.2.1 131 0 137 rfl)) fun _ => ?_
    refine pr_s1 (args := []) (rest := [vi 0, .ref 131]) rfl rfl rfl rfl (Nat.le_of_ble_eq_true rfl) rfl (h_40 s t  hE ) s_plc ?_
    rintro _ s2 ⟨rfl, hz2⟩ hE2
    show pr K K d tb_M64 19 [(0, .ref 131), (1, vi x1)] [vi (plc t), vi 0, .ref 131] s2 _
    exact pr_c1 (args := [vi 0, vi (plc t)]) (rest := []) rfl rfl rfl rfl (Nat.le_of_ble_eq_true rfl) rfl (h_41 s2 t 0 (plc t) hE2 (by decide) hz2) chk0
  · refine mq_f h1 ?_
    refine pr_if2f rfl rfl hx1 (i32_n rfl) h1 ?_
    refine pr_n (pc2 := 13) (lv2 := [(0, .ref 131), (1, vi x1)]) (st2 := [.ref 131, vi 1, .ref 131]) 3 (fun _ _ => rfl) ?_
    refine pr_get (v := .ref 137) rfl rfl rfl (by decide) (rv_ref (hE.2.1 131 0 137 rfl)) fun _ => ?_
    refine pr_s1 (args := []) (rest := [vi 1, .ref 131]) rfl rfl rfl rfl (Nat.le_of_ble_eq_true rfl) rfl (h_40 s t  hE ) s_plc ?_
    rintro _ s4 ⟨rfl, hz4⟩ hE4
    show pr K K d tb_M64 19 [(0, .ref 131), (1, vi x1)] [vi (plc t), vi 1, .ref 131] s4 _
    refine pr_s1 (args := [vi 1, vi (plc t)]) (rest := []) rfl rfl rfl rfl (Nat.le_of_ble_eq_true rfl) rfl (h_41 s4 t 1 (plc t) hE4 (by decide) hz4) chk1 ?_
    rintro _ s5 ⟨rfl, _⟩ hE5
    show pr K K d tb_M64 22 [(0, .ref 131), (1, vi x1)] [] s5 _
    refine pr_n (pc2 := 23) (lv2 := [(0, .ref 131), (1, vi x1)]) (st2 := [.ref 131]) 1 (fun _ _ => rfl) ?_
    refine pr_get (v := .ref 137) rfl rfl rfl (by decide) (rv_ref (hE5.2.1 131 0 137 rfl)) fun _ => ?_
    refine pr_s1 (args := []) (rest := []) rfl rfl rfl rfl (Nat.le_of_ble_eq_true rfl) rfl (h_35 s5 t  hE5 ) s_stp ?_
    rintro _ s6 ⟨rfl, _⟩ hE6
    show pr K K d tb_M64 29 [(0, .ref 131), (1, vi x1)] [] s6 _
    refine pr_n (pc2 := 32) (lv2 := [(0, .ref 131), (1, vi x1)]) (st2 := [vi 1, vi x1, .ref 131]) 3 (fun _ _ => rfl) ?_
    refine pr_add (a := x1) (b := 1) rfl ?_
    have h7 : i32 (x1 + 1) := by unfold i32 at *; omega
    show pr K K d tb_M64 33 [(0, .ref 131), (1, vi x1)] [vi (x1 + 1), .ref 131] s6 _
    refine pr_m1 (args := [vi (x1 + 1)]) (rest := []) rfl rfl rfl rfl (Nat.le_of_ble_eq_true rfl) rfl (h_57 s6 ((stp t)) (x1 + 1) hE6 h7) ?_
    rintro _ z8 t8 s8 ⟨rfl, hz8⟩ hE8
    show pr K K d tb_M64 36 [(0, .ref 131), (1, vi x1)] [vi z8] s8 _
    refine pr_n (pc2 := 40) (lv2 := [(2, vi z8), (0, .ref 131), (1, vi x1)]) (st2 := [vi 93, .ref 131]) 3 (fun _ _ => rfl) ?_
    refine pr_m1 (args := [vi 93]) (rest := []) rfl rfl rfl rfl (Nat.le_of_ble_eq_true rfl) rfl (h_43 s8 t8 93 hE8 (i32_n rfl)) ?_
    rintro _ _ t9 s9 ⟨rfl, rfl⟩ hE9
    show pr K K d tb_M64 43 [(2, vi z8), (0, .ref 131), (1, vi x1)] [] s9 _
    refine pr_n (pc2 := 44) (lv2 := [(2, vi z8), (0, .ref 131), (1, vi x1)]) (st2 := [vi z8]) 1 (fun _ _ => rfl) ?_
    refine pr_reti rfl rfl ?_
    exact .inl ⟨_, z8, _, rfl, ⟨rfl, hz8⟩, rfl, hE9⟩
set_option maxHeartbeats 20000000 in
set_option maxRecDepth 100000 in
theorem cm56 {K d C : Nat} (h_35 : cT35 K d C) (h_43 : cT43 K d C) (h_57 : cT57 K d C) : cT56 K (d + 1) C := by
  intro s t x1 hE hx1
  have hC : C = 99 ∨ C = 115 := hE.1
  refine pcr_of (M := tb_M56) rfl ?_
  show pr K K d tb_M56 0 [(0, .ref 131), (1, vi x1)] [] s _
  rw [cG_56]
  unfold cM56
  refine pr_n (pc2 := 1) (lv2 := [(0, .ref 131), (1, vi x1)]) (st2 := [.ref 131]) 1 (fun _ _ => rfl) ?_
  refine pr_get (v := .ref 137) rfl rfl rfl (by decide) (rv_ref (hE.2.1 131 0 137 rfl)) fun _ => ?_
  refine pr_s1 (args := []) (rest := []) rfl rfl rfl rfl (Nat.le_of_ble_eq_true rfl) rfl (h_35 s t  hE ) s_stp ?_
  rintro _ s1 ⟨rfl, _⟩ hE1
  show pr K K d tb_M56 7 [(0, .ref 131), (1, vi x1)] [] s1 _
  refine pr_n (pc2 := 10) (lv2 := [(0, .ref 131), (1, vi x1)]) (st2 := [vi 40, .ref 131]) 2 (fun _ _ => rfl) ?_
  refine pr_m1 (args := [vi 40]) (rest := []) rfl rfl rfl rfl (Nat.le_of_ble_eq_true rfl) rfl (h_43 s1 ((stp t)) 40 hE1 (i32_n rfl)) ?_
  rintro _ _ t2 s2 ⟨rfl, rfl⟩ hE2
  show pr K K d tb_M56 13 [(0, .ref 131), (1, vi x1)] [] s2 _
  refine pr_n (pc2 := 15) (lv2 := [(0, .ref 131), (1, vi x1)]) (st2 := [vi x1, .ref 131]) 2 (fun _ _ => rfl) ?_
  refine pr_m1 (args := [vi x1]) (rest := []) rfl rfl rfl rfl (Nat.le_of_ble_eq_true rfl) rfl (h_57 s2 t2 x1 hE2 hx1) ?_
  rintro _ z3 t3 s3 ⟨rfl, hz3⟩ hE3
  show pr K K d tb_M56 18 [(0, .ref 131), (1, vi x1)] [vi z3] s3 _
  refine pr_n (pc2 := 22) (lv2 := [(2, vi z3), (0, .ref 131), (1, vi x1)]) (st2 := [vi 41, .ref 131]) 3 (fun _ _ => rfl) ?_
  refine pr_m1 (args := [vi 41]) (rest := []) rfl rfl rfl rfl (Nat.le_of_ble_eq_true rfl) rfl (h_43 s3 t3 41 hE3 (i32_n rfl)) ?_
  rintro _ _ t4 s4 ⟨rfl, rfl⟩ hE4
  show pr K K d tb_M56 25 [(2, vi z3), (0, .ref 131), (1, vi x1)] [] s4 _
  refine pr_n (pc2 := 26) (lv2 := [(2, vi z3), (0, .ref 131), (1, vi x1)]) (st2 := [vi z3]) 1 (fun _ _ => rfl) ?_
  refine pr_reti rfl rfl ?_
  exact .inl ⟨_, z3, _, rfl, ⟨rfl, hz3⟩, rfl, hE4⟩
set_option maxHeartbeats 20000000 in
set_option maxRecDepth 100000 in
theorem cu65_0 {N K d C : Nat} (h_34 : cT34 K d C) (h_35 : cT35 K d C) (h_40 : cT40 K d C) (h_41 : cT41 K d C) (h_48 : cT48 K d C) (h_54 : cT54 K d C) (h_57 : cT57 K d C) (h_66 : cT66 K d C) (ih : ∀ N2, N2 < N → cA65 N2 K d C) : cU65_0 N K d C := by
  intro s t y6 y5 y4 y1 y2 y3 hE hy6 hy5 hy4 hy1 hy2 hy3
  have hC : C = 99 ∨ C = 115 := hE.1
  rw [cG_65_36]
  unfold cM65_36
  refine pr_lt (pc2 := 38) (lv2 := [(6, vi y6), (5, vi y5), (4, vi y4), (0, .ref 131), (1, vi y1), (2, vi y2), (3, vi y3)]) (st2 := [vi y6]) (fun _ _ => rfl) fun N2 hN2 => ?_
  refine pr_n (pc2 := 41) (lv2 := [(6, vi y6), (5, vi y5), (4, vi y4), (0, .ref 131), (1, vi y1), (2, vi y2), (3, vi y3)]) (st2 := [vi 2000, vi y6]) 1 (fun _ _ => rfl) ?_
  by_cases h1 : 2000 ≤ y6
  · refine mq_t h1 ?_
    refine pr_if2t rfl rfl hy6 (i32_n rfl) h1 ?_
    refine pr_n (pc2 := 132) (lv2 := [(6, vi y6), (5, vi y5), (4, vi y4), (0, .ref 131), (1, vi y1), (2, vi y2), (3, vi y3)]) (st2 := [.ref 131, .ref 131]) 2 (fun _ _ => rfl) ?_
    refine pr_get (v := .ref 137) rfl rfl rfl (by decide) (rv_ref (hE.2.1 131 0 137 rfl)) fun _ => ?_
    refine pr_s1 (args := []) (rest := [.ref 131]) rfl rfl rfl rfl (Nat.le_of_ble_eq_true rfl) rfl (h_34 s t  hE ) s_kkd ?_
    rintro _ s2 ⟨rfl, hz2⟩ hE2
    show pr N2 K d tb_M65 138 [(6, vi y6), (5, vi y5), (4, vi y4), (0, .ref 131), (1, vi y1), (2, vi y2), (3, vi y3)] [vi (kkd t), .ref 131] s2 _
    refine pr_n (pc2 := 140) (lv2 := [(6, vi y6), (5, vi y5), (4, vi y4), (0, .ref 131), (1, vi y1), (2, vi y2), (3, vi y3)]) (st2 := [vi 41, vi (kkd t), .ref 131]) 1 (fun _ _ => rfl) ?_
    by_cases h3 : kkd t ≠ 41
    · refine mq_t h3 ?_
      refine pr_if2t rfl rfl hz2 (i32_n rfl) h3 ?_
      refine pr_n (pc2 := 149) (lv2 := [(6, vi y6), (5, vi y5), (4, vi y4), (0, .ref 131), (1, vi y1), (2, vi y2), (3, vi y3)]) (st2 := [.ref 131, vi 0, .ref 131]) 2 (fun _ _ => rfl) ?_
      refine pr_get (v := .ref 137) rfl rfl rfl (by decide) (rv_ref (hE2.2.1 131 0 137 rfl)) fun _ => ?_
      refine pr_s1 (args := []) (rest := [vi 0, .ref 131]) rfl rfl rfl rfl (Nat.le_of_ble_eq_true rfl) rfl (h_40 s2 t  hE2 ) s_plc ?_
      rintro _ s4 ⟨rfl, hz4⟩ hE4
      show pr N2 K d tb_M65 155 [(6, vi y6), (5, vi y5), (4, vi y4), (0, .ref 131), (1, vi y1), (2, vi y2), (3, vi y3)] [vi (plc t), vi 0, .ref 131] s4 _
      exact pr_c1 (args := [vi 0, vi (plc t)]) (rest := []) rfl rfl rfl rfl (Nat.le_of_ble_eq_true rfl) rfl (h_41 s4 t 0 (plc t) hE4 (by decide) hz4) chk0
    · refine mq_f h3 ?_
      refine pr_if2f rfl rfl hz2 (i32_n rfl) h3 ?_
      refine pr_n (pc2 := 149) (lv2 := [(6, vi y6), (5, vi y5), (4, vi y4), (0, .ref 131), (1, vi y1), (2, vi y2), (3, vi y3)]) (st2 := [.ref 131, vi 1, .ref 131]) 3 (fun _ _ => rfl) ?_
      refine pr_get (v := .ref 137) rfl rfl rfl (by decide) (rv_ref (hE2.2.1 131 0 137 rfl)) fun _ => ?_
      refine pr_s1 (args := []) (rest := [vi 1, .ref 131]) rfl rfl rfl rfl (Nat.le_of_ble_eq_true rfl) rfl (h_40 s2 t  hE2 ) s_plc ?_
      rintro _ s6 ⟨rfl, hz6⟩ hE6
      show pr N2 K d tb_M65 155 [(6, vi y6), (5, vi y5), (4, vi y4), (0, .ref 131), (1, vi y1), (2, vi y2), (3, vi y3)] [vi (plc t), vi 1, .ref 131] s6 _
      refine pr_s1 (args := [vi 1, vi (plc t)]) (rest := []) rfl rfl rfl rfl (Nat.le_of_ble_eq_true rfl) rfl (h_41 s6 t 1 (plc t) hE6 (by decide) hz6) chk1 ?_
      rintro _ s7 ⟨rfl, _⟩ hE7
      show pr N2 K d tb_M65 158 [(6, vi y6), (5, vi y5), (4, vi y4), (0, .ref 131), (1, vi y1), (2, vi y2), (3, vi y3)] [] s7 _
      refine pr_n (pc2 := 162) (lv2 := [(6, vi y6), (5, vi y5), (4, vi y4), (0, .ref 131), (1, vi y1), (2, vi y2), (3, vi y3)]) (st2 := [.ref 131, vi y6, .ref 131]) 3 (fun _ _ => rfl) ?_
      refine pr_get (v := .ref C) rfl rfl rfl (by decide) (rv_ref (show s7.1 131 1 = ((C : Nat) : Int) from hE7.2.2.1)) fun _ => ?_
      refine pr_n (pc2 := 166) (lv2 := [(6, vi y6), (5, vi y5), (4, vi y4), (0, .ref 131), (1, vi y1), (2, vi y2), (3, vi y3)]) (st2 := [vi y1, .ref C, vi y6, .ref 131]) 1 (fun _ _ => rfl) ?_
      refine pr_s1 (args := [vi y1]) (rest := [vi y6, .ref 131]) rfl rfl rfl (TK0 hC) (Nat.le_of_ble_eq_true rfl) rfl (h_48 s7 t y1 hE7 hy1) s_prm ?_
      rintro _ s8 ⟨rfl, hz8⟩ hE8
      show pr N2 K d tb_M65 169 [(6, vi y6), (5, vi y5), (4, vi y4), (0, .ref 131), (1, vi y1), (2, vi y2), (3, vi y3)] [vi (prm t y1), vi y6, .ref 131] s8 _
      by_cases h9 : y6 ≠ prm t y1
      · refine mq_t h9 ?_
        refine pr_if2t rfl rfl hy6 hz8 h9 ?_
        refine pr_n (pc2 := 178) (lv2 := [(6, vi y6), (5, vi y5), (4, vi y4), (0, .ref 131), (1, vi y1), (2, vi y2), (3, vi y3)]) (st2 := [vi y2, vi 0, .ref 131]) 2 (fun _ _ => rfl) ?_
        exact pr_c1 (args := [vi 0, vi y2]) (rest := []) rfl rfl rfl rfl (Nat.le_of_ble_eq_true rfl) rfl (h_41 s8 t 0 y2 hE8 (by decide) hy2) chk0
      · refine mq_f h9 ?_
        refine pr_if2f rfl rfl hy6 hz8 h9 ?_
        refine pr_n (pc2 := 178) (lv2 := [(6, vi y6), (5, vi y5), (4, vi y4), (0, .ref 131), (1, vi y1), (2, vi y2), (3, vi y3)]) (st2 := [vi y2, vi 1, .ref 131]) 3 (fun _ _ => rfl) ?_
        refine pr_s1 (args := [vi 1, vi y2]) (rest := []) rfl rfl rfl rfl (Nat.le_of_ble_eq_true rfl) rfl (h_41 s8 t 1 y2 hE8 (by decide) hy2) chk1 ?_
        rintro _ s11 ⟨rfl, _⟩ hE11
        show pr N2 K d tb_M65 181 [(6, vi y6), (5, vi y5), (4, vi y4), (0, .ref 131), (1, vi y1), (2, vi y2), (3, vi y3)] [] s11 _
        refine pr_n (pc2 := 182) (lv2 := [(6, vi y6), (5, vi y5), (4, vi y4), (0, .ref 131), (1, vi y1), (2, vi y2), (3, vi y3)]) (st2 := [.ref 131]) 1 (fun _ _ => rfl) ?_
        refine pr_get (v := .ref 137) rfl rfl rfl (by decide) (rv_ref (hE11.2.1 131 0 137 rfl)) fun _ => ?_
        refine pr_s1 (args := []) (rest := []) rfl rfl rfl rfl (Nat.le_of_ble_eq_true rfl) rfl (h_35 s11 t  hE11 ) s_stp ?_
        rintro _ s12 ⟨rfl, _⟩ hE12
        show pr N2 K d tb_M65 188 [(6, vi y6), (5, vi y5), (4, vi y4), (0, .ref 131), (1, vi y1), (2, vi y2), (3, vi y3)] [] s12 _
        refine pr_n (pc2 := 190) (lv2 := [(6, vi y6), (5, vi y5), (4, vi y4), (0, .ref 131), (1, vi y1), (2, vi y2), (3, vi y3)]) (st2 := [.ref 131, .ref 131]) 2 (fun _ _ => rfl) ?_
        refine pr_gE (k2 := 131) (v := vl ((stp t) 131 7)) hE12 rfl rfl rfl (by decide) rfl rfl rfl fun h13 => ?_
        have h13 : i64 ((stp t) 131 7) := h13
        refine pr_n (pc2 := 194) (lv2 := [(6, vi y6), (5, vi y5), (4, vi y4), (0, .ref 131), (1, vi y1), (2, vi y2), (3, vi y3)]) (st2 := [.ref 131, vl ((stp t) 131 7), .ref 131]) 1 (fun _ _ => rfl) ?_
        refine pr_get (v := .ref 134) rfl rfl rfl (by decide) (rv_ref (hE12.2.1 131 10 134 rfl)) fun _ => ?_
        refine pr_n (pc2 := 198) (lv2 := [(6, vi y6), (5, vi y5), (4, vi y4), (0, .ref 131), (1, vi y1), (2, vi y2), (3, vi y3)]) (st2 := [vi y1, .ref 134, vl ((stp t) 131 7), .ref 131]) 1 (fun _ _ => rfl) ?_
        refine pr_aE (k2 := 134) (a := y1) (v := vl ((stp t) 134 y1.toNat)) hE12 rfl rfl rfl hy1 (by decide) rfl rfl rfl fun h15 h16 h14 => ?_
        have h14 : i64 ((stp t) 134 y1.toNat) := h14
        refine pr_l2 (a := (stp t) 131 7) (b := (stp t) 134 y1.toNat) rfl rfl ?_
        show pr N2 K d tb_M65 200 [(6, vi y6), (5, vi y5), (4, vi y4), (0, .ref 131), (1, vi y1), (2, vi y2), (3, vi y3)] [vl (lo ((stp t) 131 7) ((stp t) 134 y1.toNat)), .ref 131] s12 _
        refine pr_pE (k2 := 131) (z := lo ((stp t) 131 7) ((stp t) 134 y1.toNat)) hE12 rfl rfl rfl rfl (by decide) rfl (by decide) rfl (i64_in _) (fit_l _) rfl rfl rfl (fun e => absurd e.2 (by decide)) (iv_c (by decide)) fun s17 hE17 => ?_
        refine pr_n (pc2 := 205) (lv2 := [(6, vi y6), (5, vi y5), (4, vi y4), (0, .ref 131), (1, vi y1), (2, vi y2), (3, vi y3)]) (st2 := [.ref 131, .ref 131]) 2 (fun _ _ => rfl) ?_
        refine pr_gE (k2 := 131) (v := vl ((stp t) 131 8)) hE17 rfl rfl rfl (by decide) rfl rfl rfl fun h18 => ?_
        have h18 : i64 ((stp t) 131 8) := h18
        refine pr_n (pc2 := 209) (lv2 := [(6, vi y6), (5, vi y5), (4, vi y4), (0, .ref 131), (1, vi y1), (2, vi y2), (3, vi y3)]) (st2 := [.ref 131, vl ((stp t) 131 8), .ref 131]) 1 (fun _ _ => rfl) ?_
        refine pr_get (v := .ref 135) rfl rfl rfl (by decide) (rv_ref (hE17.2.1 131 11 135 rfl)) fun _ => ?_
        refine pr_n (pc2 := 213) (lv2 := [(6, vi y6), (5, vi y5), (4, vi y4), (0, .ref 131), (1, vi y1), (2, vi y2), (3, vi y3)]) (st2 := [vi y1, .ref 135, vl ((stp t) 131 8), .ref 131]) 1 (fun _ _ => rfl) ?_
        refine pr_aE (k2 := 135) (a := y1) (v := vl ((stp t) 135 y1.toNat)) hE17 rfl rfl rfl hy1 (by decide) rfl rfl rfl fun h20 h21 h19 => ?_
        have h19 : i64 ((stp t) 135 y1.toNat) := h19
        refine pr_l2 (a := (stp t) 131 8) (b := (stp t) 135 y1.toNat) rfl rfl ?_
        show pr N2 K d tb_M65 215 [(6, vi y6), (5, vi y5), (4, vi y4), (0, .ref 131), (1, vi y1), (2, vi y2), (3, vi y3)] [vl (lo ((stp t) 131 8) ((stp t) 135 y1.toNat)), .ref 131] s17 _
        refine pr_pE (k2 := 131) (z := lo ((stp t) 131 8) ((stp t) 135 y1.toNat)) hE17 rfl rfl rfl rfl (by decide) rfl (by decide) rfl (i64_in _) (fit_l _) rfl rfl rfl (fun e => absurd e.2 (by decide)) (iv_c (by decide)) fun s22 hE22 => ?_
        refine pr_n (pc2 := 220) (lv2 := [(6, vi y6), (5, vi y5), (4, vi y4), (0, .ref 131), (1, vi y1), (2, vi y2), (3, vi y3)]) (st2 := [.ref 131, .ref 131]) 2 (fun _ _ => rfl) ?_
        refine pr_gE (k2 := 131) (v := vl ((stp t) 131 9)) hE22 rfl rfl rfl (by decide) rfl rfl rfl fun h23 => ?_
        have h23 : i64 ((stp t) 131 9) := h23
        refine pr_n (pc2 := 224) (lv2 := [(6, vi y6), (5, vi y5), (4, vi y4), (0, .ref 131), (1, vi y1), (2, vi y2), (3, vi y3)]) (st2 := [.ref 131, vl ((stp t) 131 9), .ref 131]) 1 (fun _ _ => rfl) ?_
        refine pr_get (v := .ref 136) rfl rfl rfl (by decide) (rv_ref (hE22.2.1 131 12 136 rfl)) fun _ => ?_
        refine pr_n (pc2 := 228) (lv2 := [(6, vi y6), (5, vi y5), (4, vi y4), (0, .ref 131), (1, vi y1), (2, vi y2), (3, vi y3)]) (st2 := [vi y1, .ref 136, vl ((stp t) 131 9), .ref 131]) 1 (fun _ _ => rfl) ?_
        refine pr_aE (k2 := 136) (a := y1) (v := vl ((stp t) 136 y1.toNat)) hE22 rfl rfl rfl hy1 (by decide) rfl rfl rfl fun h25 h26 h24 => ?_
        have h24 : i64 ((stp t) 136 y1.toNat) := h24
        refine pr_n (pc2 := 233) (lv2 := [(6, vi y6), (5, vi y5), (4, vi y4), (0, .ref 131), (1, vi y1), (2, vi y2), (3, vi y3)]) (st2 := [vi y1, vi 24, vl 1, vl ((stp t) 136 y1.toNat), vl ((stp t) 131 9), .ref 131]) 3 (fun _ _ => rfl) ?_
        refine pr_add (a := 24) (b := y1) rfl ?_
        have h27 : i32 (24 + y1) := by unfold i32 at *; omega
        show pr N2 K d tb_M65 234 [(6, vi y6), (5, vi y5), (4, vi y4), (0, .ref 131), (1, vi y1), (2, vi y2), (3, vi y3)] [vi (24 + y1), vl 1, vl ((stp t) 136 y1.toNat), vl ((stp t) 131 9), .ref 131] s22 _
        refine pr_lshl (a := 1) (b := 24 + y1) rfl ?_
        refine pr_l2 (a := (stp t) 136 y1.toNat) (b := lsl 1 (24 + y1)) rfl rfl ?_
        show pr N2 K d tb_M65 236 [(6, vi y6), (5, vi y5), (4, vi y4), (0, .ref 131), (1, vi y1), (2, vi y2), (3, vi y3)] [vl (lo ((stp t) 136 y1.toNat) (lsl 1 (24 + y1))), vl ((stp t) 131 9), .ref 131] s22 _
        refine pr_l2 (a := (stp t) 131 9) (b := lo ((stp t) 136 y1.toNat) (lsl 1 (24 + y1))) rfl rfl ?_
        show pr N2 K d tb_M65 237 [(6, vi y6), (5, vi y5), (4, vi y4), (0, .ref 131), (1, vi y1), (2, vi y2), (3, vi y3)] [vl (lo ((stp t) 131 9) (lo ((stp t) 136 y1.toNat) (lsl 1 (24 + y1)))), .ref 131] s22 _
        refine pr_pE (k2 := 131) (z := lo ((stp t) 131 9) (lo ((stp t) 136 y1.toNat) (lsl 1 (24 + y1)))) hE22 rfl rfl rfl rfl (by decide) rfl (by decide) rfl (i64_in _) (fit_l _) rfl rfl rfl (fun e => absurd e.2 (by decide)) (iv_c (by decide)) fun s28 hE28 => ?_
        refine pr_n (pc2 := 241) (lv2 := [(6, vi y6), (5, vi y5), (4, vi y4), (0, .ref 131), (1, vi y1), (2, vi y2), (3, vi y3)]) (st2 := [.ref 131]) 1 (fun _ _ => rfl) ?_
        refine pr_get (v := .ref C) rfl rfl rfl (by decide) (rv_ref (show s28.1 131 1 = ((C : Nat) : Int) from hE28.2.2.1)) fun _ => ?_
        refine pr_n (pc2 := 252) (lv2 := [(6, vi y6), (5, vi y5), (4, vi y4), (0, .ref 131), (1, vi y1), (2, vi y2), (3, vi y3)]) (st2 := [vi y6, vi y4, vi y1, vi 404, .ref C]) 4 (fun _ _ => rfl) ?_
        refine pr_s1 (args := [vi 404, vi y1, vi y4, vi y6]) (rest := []) rfl rfl rfl (TK0 hC) (Nat.le_of_ble_eq_true rfl) rfl (h_54 s28 (up2 (up2 (up2 ((stp t)) 131 7 (lo ((stp t) 131 7) ((stp t) 134 y1.toNat))) 131 8 (lo ((stp t) 131 8) ((stp t) 135 y1.toNat))) 131 9 (lo ((stp t) 131 9) (lo ((stp t) 136 y1.toNat) (lsl 1 (24 + y1))))) 404 y1 y4 y6 hE28 (i32_n rfl) hy1 hy4 hy6) s_cad ?_
        rintro _ s29 ⟨rfl, hz29⟩ hE29
        show pr N2 K d tb_M65 255 [(6, vi y6), (5, vi y5), (4, vi y4), (0, .ref 131), (1, vi y1), (2, vi y2), (3, vi y3)] [vi (cadz (up2 (up2 (up2 ((stp t)) 131 7 (lo ((stp t) 131 7) ((stp t) 134 y1.toNat))) 131 8 (lo ((stp t) 131 8) ((stp t) 135 y1.toNat))) 131 9 (lo ((stp t) 131 9) (lo ((stp t) 136 y1.toNat) (lsl 1 (24 + y1))))))] s29 _
        refine pr_reti rfl rfl ?_
        exact .inl ⟨_, cadz (up2 (up2 (up2 ((stp t)) 131 7 (lo ((stp t) 131 7) ((stp t) 134 y1.toNat))) 131 8 (lo ((stp t) 131 8) ((stp t) 135 y1.toNat))) 131 9 (lo ((stp t) 131 9) (lo ((stp t) 136 y1.toNat) (lsl 1 (24 + y1))))), _, rfl, ⟨rfl, hz29⟩, rfl, hE29⟩
  · refine mq_f h1 ?_
    refine pr_if2f rfl rfl hy6 (i32_n rfl) h1 ?_
    refine pr_n (pc2 := 46) (lv2 := [(6, vi y6), (5, vi y5), (4, vi y4), (0, .ref 131), (1, vi y1), (2, vi y2), (3, vi y3)]) (st2 := [vi y6]) 1 (fun _ _ => rfl) ?_
    by_cases h30 : y6 ≠ 0
    · refine mq_t h30 ?_
      refine pr_if1t rfl rfl hy6 h30 ?_
      refine pr_n (pc2 := 65) (lv2 := [(6, vi y6), (5, vi y5), (4, vi y4), (0, .ref 131), (1, vi y1), (2, vi y2), (3, vi y3)]) (st2 := [.ref 131]) 1 (fun _ _ => rfl) ?_
      refine pr_get (v := .ref 137) rfl rfl rfl (by decide) (rv_ref (hE.2.1 131 0 137 rfl)) fun _ => ?_
      refine pr_s1 (args := []) (rest := []) rfl rfl rfl rfl (Nat.le_of_ble_eq_true rfl) rfl (h_34 s t  hE ) s_kkd ?_
      rintro _ s31 ⟨rfl, hz31⟩ hE31
      show pr N2 K d tb_M65 71 [(6, vi y6), (5, vi y5), (4, vi y4), (0, .ref 131), (1, vi y1), (2, vi y2), (3, vi y3)] [vi (kkd t)] s31 _
      refine pr_n (pc2 := 73) (lv2 := [(6, vi y6), (5, vi y5), (4, vi y4), (0, .ref 131), (1, vi y1), (2, vi y2), (3, vi y3)]) (st2 := [vi 44, vi (kkd t)]) 1 (fun _ _ => rfl) ?_
      by_cases h32 : kkd t ≠ 44
      · refine mq_t h32 ?_
        refine pr_if2t rfl rfl hz31 (i32_n rfl) h32 ?_
        refine pr_n (pc2 := 132) (lv2 := [(6, vi y6), (5, vi y5), (4, vi y4), (0, .ref 131), (1, vi y1), (2, vi y2), (3, vi y3)]) (st2 := [.ref 131, .ref 131]) 2 (fun _ _ => rfl) ?_
        refine pr_get (v := .ref 137) rfl rfl rfl (by decide) (rv_ref (hE31.2.1 131 0 137 rfl)) fun _ => ?_
        refine pr_s1 (args := []) (rest := [.ref 131]) rfl rfl rfl rfl (Nat.le_of_ble_eq_true rfl) rfl (h_34 s31 t  hE31 ) s_kkd ?_
        rintro _ s33 ⟨rfl, hz33⟩ hE33
        show pr N2 K d tb_M65 138 [(6, vi y6), (5, vi y5), (4, vi y4), (0, .ref 131), (1, vi y1), (2, vi y2), (3, vi y3)] [vi (kkd t), .ref 131] s33 _
        refine pr_n (pc2 := 140) (lv2 := [(6, vi y6), (5, vi y5), (4, vi y4), (0, .ref 131), (1, vi y1), (2, vi y2), (3, vi y3)]) (st2 := [vi 41, vi (kkd t), .ref 131]) 1 (fun _ _ => rfl) ?_
        by_cases h34 : kkd t ≠ 41
        · refine mq_t h34 ?_
          refine pr_if2t rfl rfl hz33 (i32_n rfl) h34 ?_
          refine pr_n (pc2 := 149) (lv2 := [(6, vi y6), (5, vi y5), (4, vi y4), (0, .ref 131), (1, vi y1), (2, vi y2), (3, vi y3)]) (st2 := [.ref 131, vi 0, .ref 131]) 2 (fun _ _ => rfl) ?_
          refine pr_get (v := .ref 137) rfl rfl rfl (by decide) (rv_ref (hE33.2.1 131 0 137 rfl)) fun _ => ?_
          refine pr_s1 (args := []) (rest := [vi 0, .ref 131]) rfl rfl rfl rfl (Nat.le_of_ble_eq_true rfl) rfl (h_40 s33 t  hE33 ) s_plc ?_
          rintro _ s35 ⟨rfl, hz35⟩ hE35
          show pr N2 K d tb_M65 155 [(6, vi y6), (5, vi y5), (4, vi y4), (0, .ref 131), (1, vi y1), (2, vi y2), (3, vi y3)] [vi (plc t), vi 0, .ref 131] s35 _
          exact pr_c1 (args := [vi 0, vi (plc t)]) (rest := []) rfl rfl rfl rfl (Nat.le_of_ble_eq_true rfl) rfl (h_41 s35 t 0 (plc t) hE35 (by decide) hz35) chk0
        · refine mq_f h34 ?_
          refine pr_if2f rfl rfl hz33 (i32_n rfl) h34 ?_
          refine pr_n (pc2 := 149) (lv2 := [(6, vi y6), (5, vi y5), (4, vi y4), (0, .ref 131), (1, vi y1), (2, vi y2), (3, vi y3)]) (st2 := [.ref 131, vi 1, .ref 131]) 3 (fun _ _ => rfl) ?_
          refine pr_get (v := .ref 137) rfl rfl rfl (by decide) (rv_ref (hE33.2.1 131 0 137 rfl)) fun _ => ?_
          refine pr_s1 (args := []) (rest := [vi 1, .ref 131]) rfl rfl rfl rfl (Nat.le_of_ble_eq_true rfl) rfl (h_40 s33 t  hE33 ) s_plc ?_
          rintro _ s37 ⟨rfl, hz37⟩ hE37
          show pr N2 K d tb_M65 155 [(6, vi y6), (5, vi y5), (4, vi y4), (0, .ref 131), (1, vi y1), (2, vi y2), (3, vi y3)] [vi (plc t), vi 1, .ref 131] s37 _
          refine pr_s1 (args := [vi 1, vi (plc t)]) (rest := []) rfl rfl rfl rfl (Nat.le_of_ble_eq_true rfl) rfl (h_41 s37 t 1 (plc t) hE37 (by decide) hz37) chk1 ?_
          rintro _ s38 ⟨rfl, _⟩ hE38
          show pr N2 K d tb_M65 158 [(6, vi y6), (5, vi y5), (4, vi y4), (0, .ref 131), (1, vi y1), (2, vi y2), (3, vi y3)] [] s38 _
          refine pr_n (pc2 := 162) (lv2 := [(6, vi y6), (5, vi y5), (4, vi y4), (0, .ref 131), (1, vi y1), (2, vi y2), (3, vi y3)]) (st2 := [.ref 131, vi y6, .ref 131]) 3 (fun _ _ => rfl) ?_
          refine pr_get (v := .ref C) rfl rfl rfl (by decide) (rv_ref (show s38.1 131 1 = ((C : Nat) : Int) from hE38.2.2.1)) fun _ => ?_
          refine pr_n (pc2 := 166) (lv2 := [(6, vi y6), (5, vi y5), (4, vi y4), (0, .ref 131), (1, vi y1), (2, vi y2), (3, vi y3)]) (st2 := [vi y1, .ref C, vi y6, .ref 131]) 1 (fun _ _ => rfl) ?_
          refine pr_s1 (args := [vi y1]) (rest := [vi y6, .ref 131]) rfl rfl rfl (TK0 hC) (Nat.le_of_ble_eq_true rfl) rfl (h_48 s38 t y1 hE38 hy1) s_prm ?_
          rintro _ s39 ⟨rfl, hz39⟩ hE39
          show pr N2 K d tb_M65 169 [(6, vi y6), (5, vi y5), (4, vi y4), (0, .ref 131), (1, vi y1), (2, vi y2), (3, vi y3)] [vi (prm t y1), vi y6, .ref 131] s39 _
          by_cases h40 : y6 ≠ prm t y1
          · refine mq_t h40 ?_
            refine pr_if2t rfl rfl hy6 hz39 h40 ?_
            refine pr_n (pc2 := 178) (lv2 := [(6, vi y6), (5, vi y5), (4, vi y4), (0, .ref 131), (1, vi y1), (2, vi y2), (3, vi y3)]) (st2 := [vi y2, vi 0, .ref 131]) 2 (fun _ _ => rfl) ?_
            exact pr_c1 (args := [vi 0, vi y2]) (rest := []) rfl rfl rfl rfl (Nat.le_of_ble_eq_true rfl) rfl (h_41 s39 t 0 y2 hE39 (by decide) hy2) chk0
          · refine mq_f h40 ?_
            refine pr_if2f rfl rfl hy6 hz39 h40 ?_
            refine pr_n (pc2 := 178) (lv2 := [(6, vi y6), (5, vi y5), (4, vi y4), (0, .ref 131), (1, vi y1), (2, vi y2), (3, vi y3)]) (st2 := [vi y2, vi 1, .ref 131]) 3 (fun _ _ => rfl) ?_
            refine pr_s1 (args := [vi 1, vi y2]) (rest := []) rfl rfl rfl rfl (Nat.le_of_ble_eq_true rfl) rfl (h_41 s39 t 1 y2 hE39 (by decide) hy2) chk1 ?_
            rintro _ s42 ⟨rfl, _⟩ hE42
            show pr N2 K d tb_M65 181 [(6, vi y6), (5, vi y5), (4, vi y4), (0, .ref 131), (1, vi y1), (2, vi y2), (3, vi y3)] [] s42 _
            refine pr_n (pc2 := 182) (lv2 := [(6, vi y6), (5, vi y5), (4, vi y4), (0, .ref 131), (1, vi y1), (2, vi y2), (3, vi y3)]) (st2 := [.ref 131]) 1 (fun _ _ => rfl) ?_
            refine pr_get (v := .ref 137) rfl rfl rfl (by decide) (rv_ref (hE42.2.1 131 0 137 rfl)) fun _ => ?_
            refine pr_s1 (args := []) (rest := []) rfl rfl rfl rfl (Nat.le_of_ble_eq_true rfl) rfl (h_35 s42 t  hE42 ) s_stp ?_
            rintro _ s43 ⟨rfl, _⟩ hE43
            show pr N2 K d tb_M65 188 [(6, vi y6), (5, vi y5), (4, vi y4), (0, .ref 131), (1, vi y1), (2, vi y2), (3, vi y3)] [] s43 _
            refine pr_n (pc2 := 190) (lv2 := [(6, vi y6), (5, vi y5), (4, vi y4), (0, .ref 131), (1, vi y1), (2, vi y2), (3, vi y3)]) (st2 := [.ref 131, .ref 131]) 2 (fun _ _ => rfl) ?_
            refine pr_gE (k2 := 131) (v := vl ((stp t) 131 7)) hE43 rfl rfl rfl (by decide) rfl rfl rfl fun h44 => ?_
            have h44 : i64 ((stp t) 131 7) := h44
            refine pr_n (pc2 := 194) (lv2 := [(6, vi y6), (5, vi y5), (4, vi y4), (0, .ref 131), (1, vi y1), (2, vi y2), (3, vi y3)]) (st2 := [.ref 131, vl ((stp t) 131 7), .ref 131]) 1 (fun _ _ => rfl) ?_
            refine pr_get (v := .ref 134) rfl rfl rfl (by decide) (rv_ref (hE43.2.1 131 10 134 rfl)) fun _ => ?_
            refine pr_n (pc2 := 198) (lv2 := [(6, vi y6), (5, vi y5), (4, vi y4), (0, .ref 131), (1, vi y1), (2, vi y2), (3, vi y3)]) (st2 := [vi y1, .ref 134, vl ((stp t) 131 7), .ref 131]) 1 (fun _ _ => rfl) ?_
            refine pr_aE (k2 := 134) (a := y1) (v := vl ((stp t) 134 y1.toNat)) hE43 rfl rfl rfl hy1 (by decide) rfl rfl rfl fun h46 h47 h45 => ?_
            have h45 : i64 ((stp t) 134 y1.toNat) := h45
            refine pr_l2 (a := (stp t) 131 7) (b := (stp t) 134 y1.toNat) rfl rfl ?_
            show pr N2 K d tb_M65 200 [(6, vi y6), (5, vi y5), (4, vi y4), (0, .ref 131), (1, vi y1), (2, vi y2), (3, vi y3)] [vl (lo ((stp t) 131 7) ((stp t) 134 y1.toNat)), .ref 131] s43 _
            refine pr_pE (k2 := 131) (z := lo ((stp t) 131 7) ((stp t) 134 y1.toNat)) hE43 rfl rfl rfl rfl (by decide) rfl (by decide) rfl (i64_in _) (fit_l _) rfl rfl rfl (fun e => absurd e.2 (by decide)) (iv_c (by decide)) fun s48 hE48 => ?_
            refine pr_n (pc2 := 205) (lv2 := [(6, vi y6), (5, vi y5), (4, vi y4), (0, .ref 131), (1, vi y1), (2, vi y2), (3, vi y3)]) (st2 := [.ref 131, .ref 131]) 2 (fun _ _ => rfl) ?_
            refine pr_gE (k2 := 131) (v := vl ((stp t) 131 8)) hE48 rfl rfl rfl (by decide) rfl rfl rfl fun h49 => ?_
            have h49 : i64 ((stp t) 131 8) := h49
            refine pr_n (pc2 := 209) (lv2 := [(6, vi y6), (5, vi y5), (4, vi y4), (0, .ref 131), (1, vi y1), (2, vi y2), (3, vi y3)]) (st2 := [.ref 131, vl ((stp t) 131 8), .ref 131]) 1 (fun _ _ => rfl) ?_
            refine pr_get (v := .ref 135) rfl rfl rfl (by decide) (rv_ref (hE48.2.1 131 11 135 rfl)) fun _ => ?_
            refine pr_n (pc2 := 213) (lv2 := [(6, vi y6), (5, vi y5), (4, vi y4), (0, .ref 131), (1, vi y1), (2, vi y2), (3, vi y3)]) (st2 := [vi y1, .ref 135, vl ((stp t) 131 8), .ref 131]) 1 (fun _ _ => rfl) ?_
            refine pr_aE (k2 := 135) (a := y1) (v := vl ((stp t) 135 y1.toNat)) hE48 rfl rfl rfl hy1 (by decide) rfl rfl rfl fun h51 h52 h50 => ?_
            have h50 : i64 ((stp t) 135 y1.toNat) := h50
            refine pr_l2 (a := (stp t) 131 8) (b := (stp t) 135 y1.toNat) rfl rfl ?_
            show pr N2 K d tb_M65 215 [(6, vi y6), (5, vi y5), (4, vi y4), (0, .ref 131), (1, vi y1), (2, vi y2), (3, vi y3)] [vl (lo ((stp t) 131 8) ((stp t) 135 y1.toNat)), .ref 131] s48 _
            refine pr_pE (k2 := 131) (z := lo ((stp t) 131 8) ((stp t) 135 y1.toNat)) hE48 rfl rfl rfl rfl (by decide) rfl (by decide) rfl (i64_in _) (fit_l _) rfl rfl rfl (fun e => absurd e.2 (by decide)) (iv_c (by decide)) fun s53 hE53 => ?_
            refine pr_n (pc2 := 220) (lv2 := [(6, vi y6), (5, vi y5), (4, vi y4), (0, .ref 131), (1, vi y1), (2, vi y2), (3, vi y3)]) (st2 := [.ref 131, .ref 131]) 2 (fun _ _ => rfl) ?_
            refine pr_gE (k2 := 131) (v := vl ((stp t) 131 9)) hE53 rfl rfl rfl (by decide) rfl rfl rfl fun h54 => ?_
            have h54 : i64 ((stp t) 131 9) := h54
            refine pr_n (pc2 := 224) (lv2 := [(6, vi y6), (5, vi y5), (4, vi y4), (0, .ref 131), (1, vi y1), (2, vi y2), (3, vi y3)]) (st2 := [.ref 131, vl ((stp t) 131 9), .ref 131]) 1 (fun _ _ => rfl) ?_
            refine pr_get (v := .ref 136) rfl rfl rfl (by decide) (rv_ref (hE53.2.1 131 12 136 rfl)) fun _ => ?_
            refine pr_n (pc2 := 228) (lv2 := [(6, vi y6), (5, vi y5), (4, vi y4), (0, .ref 131), (1, vi y1), (2, vi y2), (3, vi y3)]) (st2 := [vi y1, .ref 136, vl ((stp t) 131 9), .ref 131]) 1 (fun _ _ => rfl) ?_
            refine pr_aE (k2 := 136) (a := y1) (v := vl ((stp t) 136 y1.toNat)) hE53 rfl rfl rfl hy1 (by decide) rfl rfl rfl fun h56 h57 h55 => ?_
            have h55 : i64 ((stp t) 136 y1.toNat) := h55
            refine pr_n (pc2 := 233) (lv2 := [(6, vi y6), (5, vi y5), (4, vi y4), (0, .ref 131), (1, vi y1), (2, vi y2), (3, vi y3)]) (st2 := [vi y1, vi 24, vl 1, vl ((stp t) 136 y1.toNat), vl ((stp t) 131 9), .ref 131]) 3 (fun _ _ => rfl) ?_
            refine pr_add (a := 24) (b := y1) rfl ?_
            have h58 : i32 (24 + y1) := by unfold i32 at *; omega
            show pr N2 K d tb_M65 234 [(6, vi y6), (5, vi y5), (4, vi y4), (0, .ref 131), (1, vi y1), (2, vi y2), (3, vi y3)] [vi (24 + y1), vl 1, vl ((stp t) 136 y1.toNat), vl ((stp t) 131 9), .ref 131] s53 _
            refine pr_lshl (a := 1) (b := 24 + y1) rfl ?_
            refine pr_l2 (a := (stp t) 136 y1.toNat) (b := lsl 1 (24 + y1)) rfl rfl ?_
            show pr N2 K d tb_M65 236 [(6, vi y6), (5, vi y5), (4, vi y4), (0, .ref 131), (1, vi y1), (2, vi y2), (3, vi y3)] [vl (lo ((stp t) 136 y1.toNat) (lsl 1 (24 + y1))), vl ((stp t) 131 9), .ref 131] s53 _
            refine pr_l2 (a := (stp t) 131 9) (b := lo ((stp t) 136 y1.toNat) (lsl 1 (24 + y1))) rfl rfl ?_
            show pr N2 K d tb_M65 237 [(6, vi y6), (5, vi y5), (4, vi y4), (0, .ref 131), (1, vi y1), (2, vi y2), (3, vi y3)] [vl (lo ((stp t) 131 9) (lo ((stp t) 136 y1.toNat) (lsl 1 (24 + y1)))), .ref 131] s53 _
            refine pr_pE (k2 := 131) (z := lo ((stp t) 131 9) (lo ((stp t) 136 y1.toNat) (lsl 1 (24 + y1)))) hE53 rfl rfl rfl rfl (by decide) rfl (by decide) rfl (i64_in _) (fit_l _) rfl rfl rfl (fun e => absurd e.2 (by decide)) (iv_c (by decide)) fun s59 hE59 => ?_
            refine pr_n (pc2 := 241) (lv2 := [(6, vi y6), (5, vi y5), (4, vi y4), (0, .ref 131), (1, vi y1), (2, vi y2), (3, vi y3)]) (st2 := [.ref 131]) 1 (fun _ _ => rfl) ?_
            refine pr_get (v := .ref C) rfl rfl rfl (by decide) (rv_ref (show s59.1 131 1 = ((C : Nat) : Int) from hE59.2.2.1)) fun _ => ?_
            refine pr_n (pc2 := 252) (lv2 := [(6, vi y6), (5, vi y5), (4, vi y4), (0, .ref 131), (1, vi y1), (2, vi y2), (3, vi y3)]) (st2 := [vi y6, vi y4, vi y1, vi 404, .ref C]) 4 (fun _ _ => rfl) ?_
            refine pr_s1 (args := [vi 404, vi y1, vi y4, vi y6]) (rest := []) rfl rfl rfl (TK0 hC) (Nat.le_of_ble_eq_true rfl) rfl (h_54 s59 (up2 (up2 (up2 ((stp t)) 131 7 (lo ((stp t) 131 7) ((stp t) 134 y1.toNat))) 131 8 (lo ((stp t) 131 8) ((stp t) 135 y1.toNat))) 131 9 (lo ((stp t) 131 9) (lo ((stp t) 136 y1.toNat) (lsl 1 (24 + y1))))) 404 y1 y4 y6 hE59 (i32_n rfl) hy1 hy4 hy6) s_cad ?_
            rintro _ s60 ⟨rfl, hz60⟩ hE60
            show pr N2 K d tb_M65 255 [(6, vi y6), (5, vi y5), (4, vi y4), (0, .ref 131), (1, vi y1), (2, vi y2), (3, vi y3)] [vi (cadz (up2 (up2 (up2 ((stp t)) 131 7 (lo ((stp t) 131 7) ((stp t) 134 y1.toNat))) 131 8 (lo ((stp t) 131 8) ((stp t) 135 y1.toNat))) 131 9 (lo ((stp t) 131 9) (lo ((stp t) 136 y1.toNat) (lsl 1 (24 + y1))))))] s60 _
            refine pr_reti rfl rfl ?_
            exact .inl ⟨_, cadz (up2 (up2 (up2 ((stp t)) 131 7 (lo ((stp t) 131 7) ((stp t) 134 y1.toNat))) 131 8 (lo ((stp t) 131 8) ((stp t) 135 y1.toNat))) 131 9 (lo ((stp t) 131 9) (lo ((stp t) 136 y1.toNat) (lsl 1 (24 + y1))))), _, rfl, ⟨rfl, hz60⟩, rfl, hE60⟩
      · refine mq_f h32 ?_
        refine pr_if2f rfl rfl hz31 (i32_n rfl) h32 ?_
        refine pr_n (pc2 := 78) (lv2 := [(6, vi y6), (5, vi y5), (4, vi y4), (0, .ref 131), (1, vi y1), (2, vi y2), (3, vi y3)]) (st2 := [vi y6]) 1 (fun _ _ => rfl) ?_
        by_cases h61 : y6 ≤ 0
        · refine mq_t h61 ?_
          refine pr_if1t rfl rfl hy6 h61 ?_
          refine pr_n (pc2 := 90) (lv2 := [(6, vi y6), (5, vi y5), (4, vi y4), (0, .ref 131), (1, vi y1), (2, vi y2), (3, vi y3)]) (st2 := [vi y3, .ref 131]) 2 (fun _ _ => rfl) ?_
          refine pr_m1 (args := [vi y3]) (rest := []) rfl rfl rfl rfl (Nat.le_of_ble_eq_true rfl) rfl (h_57 s31 t y3 hE31 hy3) ?_
          rintro _ z62 t62 s62 ⟨rfl, hz62⟩ hE62
          show pr N2 K d tb_M65 93 [(6, vi y6), (5, vi y5), (4, vi y4), (0, .ref 131), (1, vi y1), (2, vi y2), (3, vi y3)] [vi z62] s62 _
          refine pr_n (pc2 := 96) (lv2 := [(7, vi z62), (6, vi y6), (5, vi y5), (4, vi y4), (0, .ref 131), (1, vi y1), (2, vi y2), (3, vi y3)]) (st2 := [.ref 131]) 2 (fun _ _ => rfl) ?_
          refine pr_get (v := .ref C) rfl rfl rfl (by decide) (rv_ref (show s62.1 131 1 = ((C : Nat) : Int) from hE62.2.2.1)) fun _ => ?_
          refine pr_n (pc2 := 103) (lv2 := [(7, vi z62), (6, vi y6), (5, vi y5), (4, vi y4), (0, .ref 131), (1, vi y1), (2, vi y2), (3, vi y3)]) (st2 := [vi z62, vi y5, .ref C]) 2 (fun _ _ => rfl) ?_
          refine pr_s1 (args := [vi y5, vi z62]) (rest := []) rfl rfl rfl (TK0 hC) (Nat.le_of_ble_eq_true rfl) rfl (h_66 s62 t62 y5 z62 hE62 hy5 hz62) s_lnk ?_
          rintro _ s63 ⟨rfl, _⟩ hE63
          show pr N2 K d tb_M65 106 [(7, vi z62), (6, vi y6), (5, vi y5), (4, vi y4), (0, .ref 131), (1, vi y1), (2, vi y2), (3, vi y3)] [] s63 _
          refine pr_n (pc2 := 108) (lv2 := [(7, vi z62), (6, vi y6), (5, vi y5), (4, vi y4), (0, .ref 131), (1, vi y1), (2, vi y2), (3, vi y3)]) (st2 := [vi y6]) 1 (fun _ _ => rfl) ?_
          refine pr_if1t rfl rfl hy6 (show y6 ≠ 0 by omega) ?_
          show pr N2 K d tb_M65 116 [(7, vi z62), (6, vi y6), (5, vi y5), (4, vi y4), (0, .ref 131), (1, vi y1), (2, vi y2), (3, vi y3)] [] s63 _
          refine pr_n (pc2 := 124) (lv2 := [(5, vi z62), (4, vi y4), (7, vi z62), (6, vi y6), (0, .ref 131), (1, vi y1), (2, vi y2), (3, vi y3)]) (st2 := []) 4 (fun _ _ => rfl) ?_
          refine pr_inc (a := y6) rfl rfl ?_
          have h64 : i32 (y6 + 1) := by unfold i32 at *; omega
          show pr N2 K d tb_M65 127 [(6, vi (y6 + 1)), (5, vi z62), (4, vi y4), (7, vi z62), (0, .ref 131), (1, vi y1), (2, vi y2), (3, vi y3)] [] s63 _
          refine pr_n (pc2 := 36) (lv2 := [(6, vi (y6 + 1)), (5, vi z62), (4, vi y4), (7, vi z62), (0, .ref 131), (1, vi y1), (2, vi y2), (3, vi y3)]) (st2 := []) 1 (fun _ _ => rfl) ?_
          exact ((ih N2 hN2).2) s63 ((lnk t62 y5 z62)) (y6 + 1) z62 y4 z62 y1 y2 y3 hE63 h64 hz62 hy4 hz62 hy1 hy2 hy3
        · refine mq_f h61 ?_
          refine pr_if1f rfl rfl hy6 h61 ?_
          refine pr_n (pc2 := 82) (lv2 := [(6, vi y6), (5, vi y5), (4, vi y4), (0, .ref 131), (1, vi y1), (2, vi y2), (3, vi y3)]) (st2 := [.ref 131]) 1 (fun _ _ => rfl) ?_
          refine pr_get (v := .ref 137) rfl rfl rfl (by decide) (rv_ref (hE31.2.1 131 0 137 rfl)) fun _ => ?_
          refine pr_s1 (args := []) (rest := []) rfl rfl rfl rfl (Nat.le_of_ble_eq_true rfl) rfl (h_35 s31 t  hE31 ) s_stp ?_
          rintro _ s65 ⟨rfl, _⟩ hE65
          show pr N2 K d tb_M65 88 [(6, vi y6), (5, vi y5), (4, vi y4), (0, .ref 131), (1, vi y1), (2, vi y2), (3, vi y3)] [] s65 _
          refine pr_n (pc2 := 90) (lv2 := [(6, vi y6), (5, vi y5), (4, vi y4), (0, .ref 131), (1, vi y1), (2, vi y2), (3, vi y3)]) (st2 := [vi y3, .ref 131]) 2 (fun _ _ => rfl) ?_
          refine pr_m1 (args := [vi y3]) (rest := []) rfl rfl rfl rfl (Nat.le_of_ble_eq_true rfl) rfl (h_57 s65 ((stp t)) y3 hE65 hy3) ?_
          rintro _ z66 t66 s66 ⟨rfl, hz66⟩ hE66
          show pr N2 K d tb_M65 93 [(6, vi y6), (5, vi y5), (4, vi y4), (0, .ref 131), (1, vi y1), (2, vi y2), (3, vi y3)] [vi z66] s66 _
          refine pr_n (pc2 := 96) (lv2 := [(7, vi z66), (6, vi y6), (5, vi y5), (4, vi y4), (0, .ref 131), (1, vi y1), (2, vi y2), (3, vi y3)]) (st2 := [.ref 131]) 2 (fun _ _ => rfl) ?_
          refine pr_get (v := .ref C) rfl rfl rfl (by decide) (rv_ref (show s66.1 131 1 = ((C : Nat) : Int) from hE66.2.2.1)) fun _ => ?_
          refine pr_n (pc2 := 103) (lv2 := [(7, vi z66), (6, vi y6), (5, vi y5), (4, vi y4), (0, .ref 131), (1, vi y1), (2, vi y2), (3, vi y3)]) (st2 := [vi z66, vi y5, .ref C]) 2 (fun _ _ => rfl) ?_
          refine pr_s1 (args := [vi y5, vi z66]) (rest := []) rfl rfl rfl (TK0 hC) (Nat.le_of_ble_eq_true rfl) rfl (h_66 s66 t66 y5 z66 hE66 hy5 hz66) s_lnk ?_
          rintro _ s67 ⟨rfl, _⟩ hE67
          show pr N2 K d tb_M65 106 [(7, vi z66), (6, vi y6), (5, vi y5), (4, vi y4), (0, .ref 131), (1, vi y1), (2, vi y2), (3, vi y3)] [] s67 _
          refine pr_n (pc2 := 108) (lv2 := [(7, vi z66), (6, vi y6), (5, vi y5), (4, vi y4), (0, .ref 131), (1, vi y1), (2, vi y2), (3, vi y3)]) (st2 := [vi y6]) 1 (fun _ _ => rfl) ?_
          refine pr_if1t rfl rfl hy6 (show y6 ≠ 0 by omega) ?_
          show pr N2 K d tb_M65 116 [(7, vi z66), (6, vi y6), (5, vi y5), (4, vi y4), (0, .ref 131), (1, vi y1), (2, vi y2), (3, vi y3)] [] s67 _
          refine pr_n (pc2 := 124) (lv2 := [(5, vi z66), (4, vi y4), (7, vi z66), (6, vi y6), (0, .ref 131), (1, vi y1), (2, vi y2), (3, vi y3)]) (st2 := []) 4 (fun _ _ => rfl) ?_
          refine pr_inc (a := y6) rfl rfl ?_
          have h68 : i32 (y6 + 1) := by unfold i32 at *; omega
          show pr N2 K d tb_M65 127 [(6, vi (y6 + 1)), (5, vi z66), (4, vi y4), (7, vi z66), (0, .ref 131), (1, vi y1), (2, vi y2), (3, vi y3)] [] s67 _
          refine pr_n (pc2 := 36) (lv2 := [(6, vi (y6 + 1)), (5, vi z66), (4, vi y4), (7, vi z66), (0, .ref 131), (1, vi y1), (2, vi y2), (3, vi y3)]) (st2 := []) 1 (fun _ _ => rfl) ?_
          exact ((ih N2 hN2).2) s67 ((lnk t66 y5 z66)) (y6 + 1) z66 y4 z66 y1 y2 y3 hE67 h68 hz66 hy4 hz66 hy1 hy2 hy3
    · refine mq_f h30 ?_
      refine pr_if1f rfl rfl hy6 h30 ?_
      refine pr_n (pc2 := 50) (lv2 := [(6, vi y6), (5, vi y5), (4, vi y4), (0, .ref 131), (1, vi y1), (2, vi y2), (3, vi y3)]) (st2 := [.ref 131]) 1 (fun _ _ => rfl) ?_
      refine pr_get (v := .ref 137) rfl rfl rfl (by decide) (rv_ref (hE.2.1 131 0 137 rfl)) fun _ => ?_
      refine pr_s1 (args := []) (rest := []) rfl rfl rfl rfl (Nat.le_of_ble_eq_true rfl) rfl (h_34 s t  hE ) s_kkd ?_
      rintro _ s69 ⟨rfl, hz69⟩ hE69
      show pr N2 K d tb_M65 56 [(6, vi y6), (5, vi y5), (4, vi y4), (0, .ref 131), (1, vi y1), (2, vi y2), (3, vi y3)] [vi (kkd t)] s69 _
      refine pr_n (pc2 := 58) (lv2 := [(6, vi y6), (5, vi y5), (4, vi y4), (0, .ref 131), (1, vi y1), (2, vi y2), (3, vi y3)]) (st2 := [vi 41, vi (kkd t)]) 1 (fun _ _ => rfl) ?_
      by_cases h70 : kkd t = 41
      · refine mq_t h70 ?_
        refine pr_if2t rfl rfl hz69 (i32_n rfl) h70 ?_
        refine pr_n (pc2 := 132) (lv2 := [(6, vi y6), (5, vi y5), (4, vi y4), (0, .ref 131), (1, vi y1), (2, vi y2), (3, vi y3)]) (st2 := [.ref 131, .ref 131]) 2 (fun _ _ => rfl) ?_
        refine pr_get (v := .ref 137) rfl rfl rfl (by decide) (rv_ref (hE69.2.1 131 0 137 rfl)) fun _ => ?_
        refine pr_s1 (args := []) (rest := [.ref 131]) rfl rfl rfl rfl (Nat.le_of_ble_eq_true rfl) rfl (h_34 s69 t  hE69 ) s_kkd ?_
        rintro _ s71 ⟨rfl, hz71⟩ hE71
        show pr N2 K d tb_M65 138 [(6, vi y6), (5, vi y5), (4, vi y4), (0, .ref 131), (1, vi y1), (2, vi y2), (3, vi y3)] [vi (kkd t), .ref 131] s71 _
        refine pr_n (pc2 := 140) (lv2 := [(6, vi y6), (5, vi y5), (4, vi y4), (0, .ref 131), (1, vi y1), (2, vi y2), (3, vi y3)]) (st2 := [vi 41, vi (kkd t), .ref 131]) 1 (fun _ _ => rfl) ?_
        refine pr_if2f rfl rfl hz71 (i32_n rfl) (show ¬ (kkd t ≠ 41) by omega) ?_
        show pr N2 K d tb_M65 143 [(6, vi y6), (5, vi y5), (4, vi y4), (0, .ref 131), (1, vi y1), (2, vi y2), (3, vi y3)] [.ref 131] s71 _
        refine pr_n (pc2 := 149) (lv2 := [(6, vi y6), (5, vi y5), (4, vi y4), (0, .ref 131), (1, vi y1), (2, vi y2), (3, vi y3)]) (st2 := [.ref 131, vi 1, .ref 131]) 3 (fun _ _ => rfl) ?_
        refine pr_get (v := .ref 137) rfl rfl rfl (by decide) (rv_ref (hE71.2.1 131 0 137 rfl)) fun _ => ?_
        refine pr_s1 (args := []) (rest := [vi 1, .ref 131]) rfl rfl rfl rfl (Nat.le_of_ble_eq_true rfl) rfl (h_40 s71 t  hE71 ) s_plc ?_
        rintro _ s72 ⟨rfl, hz72⟩ hE72
        show pr N2 K d tb_M65 155 [(6, vi y6), (5, vi y5), (4, vi y4), (0, .ref 131), (1, vi y1), (2, vi y2), (3, vi y3)] [vi (plc t), vi 1, .ref 131] s72 _
        refine pr_s1 (args := [vi 1, vi (plc t)]) (rest := []) rfl rfl rfl rfl (Nat.le_of_ble_eq_true rfl) rfl (h_41 s72 t 1 (plc t) hE72 (by decide) hz72) chk1 ?_
        rintro _ s73 ⟨rfl, _⟩ hE73
        show pr N2 K d tb_M65 158 [(6, vi y6), (5, vi y5), (4, vi y4), (0, .ref 131), (1, vi y1), (2, vi y2), (3, vi y3)] [] s73 _
        refine pr_n (pc2 := 162) (lv2 := [(6, vi y6), (5, vi y5), (4, vi y4), (0, .ref 131), (1, vi y1), (2, vi y2), (3, vi y3)]) (st2 := [.ref 131, vi y6, .ref 131]) 3 (fun _ _ => rfl) ?_
        refine pr_get (v := .ref C) rfl rfl rfl (by decide) (rv_ref (show s73.1 131 1 = ((C : Nat) : Int) from hE73.2.2.1)) fun _ => ?_
        refine pr_n (pc2 := 166) (lv2 := [(6, vi y6), (5, vi y5), (4, vi y4), (0, .ref 131), (1, vi y1), (2, vi y2), (3, vi y3)]) (st2 := [vi y1, .ref C, vi y6, .ref 131]) 1 (fun _ _ => rfl) ?_
        refine pr_s1 (args := [vi y1]) (rest := [vi y6, .ref 131]) rfl rfl rfl (TK0 hC) (Nat.le_of_ble_eq_true rfl) rfl (h_48 s73 t y1 hE73 hy1) s_prm ?_
        rintro _ s74 ⟨rfl, hz74⟩ hE74
        show pr N2 K d tb_M65 169 [(6, vi y6), (5, vi y5), (4, vi y4), (0, .ref 131), (1, vi y1), (2, vi y2), (3, vi y3)] [vi (prm t y1), vi y6, .ref 131] s74 _
        by_cases h75 : y6 ≠ prm t y1
        · refine mq_t h75 ?_
          refine pr_if2t rfl rfl hy6 hz74 h75 ?_
          refine pr_n (pc2 := 178) (lv2 := [(6, vi y6), (5, vi y5), (4, vi y4), (0, .ref 131), (1, vi y1), (2, vi y2), (3, vi y3)]) (st2 := [vi y2, vi 0, .ref 131]) 2 (fun _ _ => rfl) ?_
          exact pr_c1 (args := [vi 0, vi y2]) (rest := []) rfl rfl rfl rfl (Nat.le_of_ble_eq_true rfl) rfl (h_41 s74 t 0 y2 hE74 (by decide) hy2) chk0
        · refine mq_f h75 ?_
          refine pr_if2f rfl rfl hy6 hz74 h75 ?_
          refine pr_n (pc2 := 178) (lv2 := [(6, vi y6), (5, vi y5), (4, vi y4), (0, .ref 131), (1, vi y1), (2, vi y2), (3, vi y3)]) (st2 := [vi y2, vi 1, .ref 131]) 3 (fun _ _ => rfl) ?_
          refine pr_s1 (args := [vi 1, vi y2]) (rest := []) rfl rfl rfl rfl (Nat.le_of_ble_eq_true rfl) rfl (h_41 s74 t 1 y2 hE74 (by decide) hy2) chk1 ?_
          rintro _ s77 ⟨rfl, _⟩ hE77
          show pr N2 K d tb_M65 181 [(6, vi y6), (5, vi y5), (4, vi y4), (0, .ref 131), (1, vi y1), (2, vi y2), (3, vi y3)] [] s77 _
          refine pr_n (pc2 := 182) (lv2 := [(6, vi y6), (5, vi y5), (4, vi y4), (0, .ref 131), (1, vi y1), (2, vi y2), (3, vi y3)]) (st2 := [.ref 131]) 1 (fun _ _ => rfl) ?_
          refine pr_get (v := .ref 137) rfl rfl rfl (by decide) (rv_ref (hE77.2.1 131 0 137 rfl)) fun _ => ?_
          refine pr_s1 (args := []) (rest := []) rfl rfl rfl rfl (Nat.le_of_ble_eq_true rfl) rfl (h_35 s77 t  hE77 ) s_stp ?_
          rintro _ s78 ⟨rfl, _⟩ hE78
          show pr N2 K d tb_M65 188 [(6, vi y6), (5, vi y5), (4, vi y4), (0, .ref 131), (1, vi y1), (2, vi y2), (3, vi y3)] [] s78 _
          refine pr_n (pc2 := 190) (lv2 := [(6, vi y6), (5, vi y5), (4, vi y4), (0, .ref 131), (1, vi y1), (2, vi y2), (3, vi y3)]) (st2 := [.ref 131, .ref 131]) 2 (fun _ _ => rfl) ?_
          refine pr_gE (k2 := 131) (v := vl ((stp t) 131 7)) hE78 rfl rfl rfl (by decide) rfl rfl rfl fun h79 => ?_
          have h79 : i64 ((stp t) 131 7) := h79
          refine pr_n (pc2 := 194) (lv2 := [(6, vi y6), (5, vi y5), (4, vi y4), (0, .ref 131), (1, vi y1), (2, vi y2), (3, vi y3)]) (st2 := [.ref 131, vl ((stp t) 131 7), .ref 131]) 1 (fun _ _ => rfl) ?_
          refine pr_get (v := .ref 134) rfl rfl rfl (by decide) (rv_ref (hE78.2.1 131 10 134 rfl)) fun _ => ?_
          refine pr_n (pc2 := 198) (lv2 := [(6, vi y6), (5, vi y5), (4, vi y4), (0, .ref 131), (1, vi y1), (2, vi y2), (3, vi y3)]) (st2 := [vi y1, .ref 134, vl ((stp t) 131 7), .ref 131]) 1 (fun _ _ => rfl) ?_
          refine pr_aE (k2 := 134) (a := y1) (v := vl ((stp t) 134 y1.toNat)) hE78 rfl rfl rfl hy1 (by decide) rfl rfl rfl fun h81 h82 h80 => ?_
          have h80 : i64 ((stp t) 134 y1.toNat) := h80
          refine pr_l2 (a := (stp t) 131 7) (b := (stp t) 134 y1.toNat) rfl rfl ?_
          show pr N2 K d tb_M65 200 [(6, vi y6), (5, vi y5), (4, vi y4), (0, .ref 131), (1, vi y1), (2, vi y2), (3, vi y3)] [vl (lo ((stp t) 131 7) ((stp t) 134 y1.toNat)), .ref 131] s78 _
          refine pr_pE (k2 := 131) (z := lo ((stp t) 131 7) ((stp t) 134 y1.toNat)) hE78 rfl rfl rfl rfl (by decide) rfl (by decide) rfl (i64_in _) (fit_l _) rfl rfl rfl (fun e => absurd e.2 (by decide)) (iv_c (by decide)) fun s83 hE83 => ?_
          refine pr_n (pc2 := 205) (lv2 := [(6, vi y6), (5, vi y5), (4, vi y4), (0, .ref 131), (1, vi y1), (2, vi y2), (3, vi y3)]) (st2 := [.ref 131, .ref 131]) 2 (fun _ _ => rfl) ?_
          refine pr_gE (k2 := 131) (v := vl ((stp t) 131 8)) hE83 rfl rfl rfl (by decide) rfl rfl rfl fun h84 => ?_
          have h84 : i64 ((stp t) 131 8) := h84
          refine pr_n (pc2 := 209) (lv2 := [(6, vi y6), (5, vi y5), (4, vi y4), (0, .ref 131), (1, vi y1), (2, vi y2), (3, vi y3)]) (st2 := [.ref 131, vl ((stp t) 131 8), .ref 131]) 1 (fun _ _ => rfl) ?_
          refine pr_get (v := .ref 135) rfl rfl rfl (by decide) (rv_ref (hE83.2.1 131 11 135 rfl)) fun _ => ?_
          refine pr_n (pc2 := 213) (lv2 := [(6, vi y6), (5, vi y5), (4, vi y4), (0, .ref 131), (1, vi y1), (2, vi y2), (3, vi y3)]) (st2 := [vi y1, .ref 135, vl ((stp t) 131 8), .ref 131]) 1 (fun _ _ => rfl) ?_
          refine pr_aE (k2 := 135) (a := y1) (v := vl ((stp t) 135 y1.toNat)) hE83 rfl rfl rfl hy1 (by decide) rfl rfl rfl fun h86 h87 h85 => ?_
          have h85 : i64 ((stp t) 135 y1.toNat) := h85
          refine pr_l2 (a := (stp t) 131 8) (b := (stp t) 135 y1.toNat) rfl rfl ?_
          show pr N2 K d tb_M65 215 [(6, vi y6), (5, vi y5), (4, vi y4), (0, .ref 131), (1, vi y1), (2, vi y2), (3, vi y3)] [vl (lo ((stp t) 131 8) ((stp t) 135 y1.toNat)), .ref 131] s83 _
          refine pr_pE (k2 := 131) (z := lo ((stp t) 131 8) ((stp t) 135 y1.toNat)) hE83 rfl rfl rfl rfl (by decide) rfl (by decide) rfl (i64_in _) (fit_l _) rfl rfl rfl (fun e => absurd e.2 (by decide)) (iv_c (by decide)) fun s88 hE88 => ?_
          refine pr_n (pc2 := 220) (lv2 := [(6, vi y6), (5, vi y5), (4, vi y4), (0, .ref 131), (1, vi y1), (2, vi y2), (3, vi y3)]) (st2 := [.ref 131, .ref 131]) 2 (fun _ _ => rfl) ?_
          refine pr_gE (k2 := 131) (v := vl ((stp t) 131 9)) hE88 rfl rfl rfl (by decide) rfl rfl rfl fun h89 => ?_
          have h89 : i64 ((stp t) 131 9) := h89
          refine pr_n (pc2 := 224) (lv2 := [(6, vi y6), (5, vi y5), (4, vi y4), (0, .ref 131), (1, vi y1), (2, vi y2), (3, vi y3)]) (st2 := [.ref 131, vl ((stp t) 131 9), .ref 131]) 1 (fun _ _ => rfl) ?_
          refine pr_get (v := .ref 136) rfl rfl rfl (by decide) (rv_ref (hE88.2.1 131 12 136 rfl)) fun _ => ?_
          refine pr_n (pc2 := 228) (lv2 := [(6, vi y6), (5, vi y5), (4, vi y4), (0, .ref 131), (1, vi y1), (2, vi y2), (3, vi y3)]) (st2 := [vi y1, .ref 136, vl ((stp t) 131 9), .ref 131]) 1 (fun _ _ => rfl) ?_
          refine pr_aE (k2 := 136) (a := y1) (v := vl ((stp t) 136 y1.toNat)) hE88 rfl rfl rfl hy1 (by decide) rfl rfl rfl fun h91 h92 h90 => ?_
          have h90 : i64 ((stp t) 136 y1.toNat) := h90
          refine pr_n (pc2 := 233) (lv2 := [(6, vi y6), (5, vi y5), (4, vi y4), (0, .ref 131), (1, vi y1), (2, vi y2), (3, vi y3)]) (st2 := [vi y1, vi 24, vl 1, vl ((stp t) 136 y1.toNat), vl ((stp t) 131 9), .ref 131]) 3 (fun _ _ => rfl) ?_
          refine pr_add (a := 24) (b := y1) rfl ?_
          have h93 : i32 (24 + y1) := by unfold i32 at *; omega
          show pr N2 K d tb_M65 234 [(6, vi y6), (5, vi y5), (4, vi y4), (0, .ref 131), (1, vi y1), (2, vi y2), (3, vi y3)] [vi (24 + y1), vl 1, vl ((stp t) 136 y1.toNat), vl ((stp t) 131 9), .ref 131] s88 _
          refine pr_lshl (a := 1) (b := 24 + y1) rfl ?_
          refine pr_l2 (a := (stp t) 136 y1.toNat) (b := lsl 1 (24 + y1)) rfl rfl ?_
          show pr N2 K d tb_M65 236 [(6, vi y6), (5, vi y5), (4, vi y4), (0, .ref 131), (1, vi y1), (2, vi y2), (3, vi y3)] [vl (lo ((stp t) 136 y1.toNat) (lsl 1 (24 + y1))), vl ((stp t) 131 9), .ref 131] s88 _
          refine pr_l2 (a := (stp t) 131 9) (b := lo ((stp t) 136 y1.toNat) (lsl 1 (24 + y1))) rfl rfl ?_
          show pr N2 K d tb_M65 237 [(6, vi y6), (5, vi y5), (4, vi y4), (0, .ref 131), (1, vi y1), (2, vi y2), (3, vi y3)] [vl (lo ((stp t) 131 9) (lo ((stp t) 136 y1.toNat) (lsl 1 (24 + y1)))), .ref 131] s88 _
          refine pr_pE (k2 := 131) (z := lo ((stp t) 131 9) (lo ((stp t) 136 y1.toNat) (lsl 1 (24 + y1)))) hE88 rfl rfl rfl rfl (by decide) rfl (by decide) rfl (i64_in _) (fit_l _) rfl rfl rfl (fun e => absurd e.2 (by decide)) (iv_c (by decide)) fun s94 hE94 => ?_
          refine pr_n (pc2 := 241) (lv2 := [(6, vi y6), (5, vi y5), (4, vi y4), (0, .ref 131), (1, vi y1), (2, vi y2), (3, vi y3)]) (st2 := [.ref 131]) 1 (fun _ _ => rfl) ?_
          refine pr_get (v := .ref C) rfl rfl rfl (by decide) (rv_ref (show s94.1 131 1 = ((C : Nat) : Int) from hE94.2.2.1)) fun _ => ?_
          refine pr_n (pc2 := 252) (lv2 := [(6, vi y6), (5, vi y5), (4, vi y4), (0, .ref 131), (1, vi y1), (2, vi y2), (3, vi y3)]) (st2 := [vi y6, vi y4, vi y1, vi 404, .ref C]) 4 (fun _ _ => rfl) ?_
          refine pr_s1 (args := [vi 404, vi y1, vi y4, vi y6]) (rest := []) rfl rfl rfl (TK0 hC) (Nat.le_of_ble_eq_true rfl) rfl (h_54 s94 (up2 (up2 (up2 ((stp t)) 131 7 (lo ((stp t) 131 7) ((stp t) 134 y1.toNat))) 131 8 (lo ((stp t) 131 8) ((stp t) 135 y1.toNat))) 131 9 (lo ((stp t) 131 9) (lo ((stp t) 136 y1.toNat) (lsl 1 (24 + y1))))) 404 y1 y4 y6 hE94 (i32_n rfl) hy1 hy4 hy6) s_cad ?_
          rintro _ s95 ⟨rfl, hz95⟩ hE95
          show pr N2 K d tb_M65 255 [(6, vi y6), (5, vi y5), (4, vi y4), (0, .ref 131), (1, vi y1), (2, vi y2), (3, vi y3)] [vi (cadz (up2 (up2 (up2 ((stp t)) 131 7 (lo ((stp t) 131 7) ((stp t) 134 y1.toNat))) 131 8 (lo ((stp t) 131 8) ((stp t) 135 y1.toNat))) 131 9 (lo ((stp t) 131 9) (lo ((stp t) 136 y1.toNat) (lsl 1 (24 + y1))))))] s95 _
          refine pr_reti rfl rfl ?_
          exact .inl ⟨_, cadz (up2 (up2 (up2 ((stp t)) 131 7 (lo ((stp t) 131 7) ((stp t) 134 y1.toNat))) 131 8 (lo ((stp t) 131 8) ((stp t) 135 y1.toNat))) 131 9 (lo ((stp t) 131 9) (lo ((stp t) 136 y1.toNat) (lsl 1 (24 + y1))))), _, rfl, ⟨rfl, hz95⟩, rfl, hE95⟩
      · refine mq_f h70 ?_
        refine pr_if2f rfl rfl hz69 (i32_n rfl) h70 ?_
        refine pr_n (pc2 := 78) (lv2 := [(6, vi y6), (5, vi y5), (4, vi y4), (0, .ref 131), (1, vi y1), (2, vi y2), (3, vi y3)]) (st2 := [vi y6]) 2 (fun _ _ => rfl) ?_
        by_cases h96 : y6 ≤ 0
        · refine mq_t h96 ?_
          refine pr_if1t rfl rfl hy6 h96 ?_
          refine pr_n (pc2 := 90) (lv2 := [(6, vi y6), (5, vi y5), (4, vi y4), (0, .ref 131), (1, vi y1), (2, vi y2), (3, vi y3)]) (st2 := [vi y3, .ref 131]) 2 (fun _ _ => rfl) ?_
          refine pr_m1 (args := [vi y3]) (rest := []) rfl rfl rfl rfl (Nat.le_of_ble_eq_true rfl) rfl (h_57 s69 t y3 hE69 hy3) ?_
          rintro _ z97 t97 s97 ⟨rfl, hz97⟩ hE97
          show pr N2 K d tb_M65 93 [(6, vi y6), (5, vi y5), (4, vi y4), (0, .ref 131), (1, vi y1), (2, vi y2), (3, vi y3)] [vi z97] s97 _
          refine pr_n (pc2 := 96) (lv2 := [(7, vi z97), (6, vi y6), (5, vi y5), (4, vi y4), (0, .ref 131), (1, vi y1), (2, vi y2), (3, vi y3)]) (st2 := [.ref 131]) 2 (fun _ _ => rfl) ?_
          refine pr_get (v := .ref C) rfl rfl rfl (by decide) (rv_ref (show s97.1 131 1 = ((C : Nat) : Int) from hE97.2.2.1)) fun _ => ?_
          refine pr_n (pc2 := 103) (lv2 := [(7, vi z97), (6, vi y6), (5, vi y5), (4, vi y4), (0, .ref 131), (1, vi y1), (2, vi y2), (3, vi y3)]) (st2 := [vi z97, vi y5, .ref C]) 2 (fun _ _ => rfl) ?_
          refine pr_s1 (args := [vi y5, vi z97]) (rest := []) rfl rfl rfl (TK0 hC) (Nat.le_of_ble_eq_true rfl) rfl (h_66 s97 t97 y5 z97 hE97 hy5 hz97) s_lnk ?_
          rintro _ s98 ⟨rfl, _⟩ hE98
          show pr N2 K d tb_M65 106 [(7, vi z97), (6, vi y6), (5, vi y5), (4, vi y4), (0, .ref 131), (1, vi y1), (2, vi y2), (3, vi y3)] [] s98 _
          refine pr_n (pc2 := 108) (lv2 := [(7, vi z97), (6, vi y6), (5, vi y5), (4, vi y4), (0, .ref 131), (1, vi y1), (2, vi y2), (3, vi y3)]) (st2 := [vi y6]) 1 (fun _ _ => rfl) ?_
          refine pr_if1f rfl rfl hy6 (show ¬ (y6 ≠ 0) by omega) ?_
          show pr N2 K d tb_M65 111 [(7, vi z97), (6, vi y6), (5, vi y5), (4, vi y4), (0, .ref 131), (1, vi y1), (2, vi y2), (3, vi y3)] [] s98 _
          refine pr_n (pc2 := 124) (lv2 := [(5, vi z97), (4, vi z97), (7, vi z97), (6, vi y6), (0, .ref 131), (1, vi y1), (2, vi y2), (3, vi y3)]) (st2 := []) 5 (fun _ _ => rfl) ?_
          refine pr_inc (a := y6) rfl rfl ?_
          have h99 : i32 (y6 + 1) := by unfold i32 at *; omega
          show pr N2 K d tb_M65 127 [(6, vi (y6 + 1)), (5, vi z97), (4, vi z97), (7, vi z97), (0, .ref 131), (1, vi y1), (2, vi y2), (3, vi y3)] [] s98 _
          refine pr_n (pc2 := 36) (lv2 := [(6, vi (y6 + 1)), (5, vi z97), (4, vi z97), (7, vi z97), (0, .ref 131), (1, vi y1), (2, vi y2), (3, vi y3)]) (st2 := []) 1 (fun _ _ => rfl) ?_
          exact ((ih N2 hN2).2) s98 ((lnk t97 y5 z97)) (y6 + 1) z97 z97 z97 y1 y2 y3 hE98 h99 hz97 hz97 hz97 hy1 hy2 hy3
        · refine mq_f h96 ?_
          refine pr_if1f rfl rfl hy6 h96 ?_
          refine pr_n (pc2 := 82) (lv2 := [(6, vi y6), (5, vi y5), (4, vi y4), (0, .ref 131), (1, vi y1), (2, vi y2), (3, vi y3)]) (st2 := [.ref 131]) 1 (fun _ _ => rfl) ?_
          refine pr_get (v := .ref 137) rfl rfl rfl (by decide) (rv_ref (hE69.2.1 131 0 137 rfl)) fun _ => ?_
          refine pr_s1 (args := []) (rest := []) rfl rfl rfl rfl (Nat.le_of_ble_eq_true rfl) rfl (h_35 s69 t  hE69 ) s_stp ?_
          rintro _ s100 ⟨rfl, _⟩ hE100
          show pr N2 K d tb_M65 88 [(6, vi y6), (5, vi y5), (4, vi y4), (0, .ref 131), (1, vi y1), (2, vi y2), (3, vi y3)] [] s100 _
          refine pr_n (pc2 := 90) (lv2 := [(6, vi y6), (5, vi y5), (4, vi y4), (0, .ref 131), (1, vi y1), (2, vi y2), (3, vi y3)]) (st2 := [vi y3, .ref 131]) 2 (fun _ _ => rfl) ?_
          refine pr_m1 (args := [vi y3]) (rest := []) rfl rfl rfl rfl (Nat.le_of_ble_eq_true rfl) rfl (h_57 s100 ((stp t)) y3 hE100 hy3) ?_
          rintro _ z101 t101 s101 ⟨rfl, hz101⟩ hE101
          show pr N2 K d tb_M65 93 [(6, vi y6), (5, vi y5), (4, vi y4), (0, .ref 131), (1, vi y1), (2, vi y2), (3, vi y3)] [vi z101] s101 _
          refine pr_n (pc2 := 96) (lv2 := [(7, vi z101), (6, vi y6), (5, vi y5), (4, vi y4), (0, .ref 131), (1, vi y1), (2, vi y2), (3, vi y3)]) (st2 := [.ref 131]) 2 (fun _ _ => rfl) ?_
          refine pr_get (v := .ref C) rfl rfl rfl (by decide) (rv_ref (show s101.1 131 1 = ((C : Nat) : Int) from hE101.2.2.1)) fun _ => ?_
          refine pr_n (pc2 := 103) (lv2 := [(7, vi z101), (6, vi y6), (5, vi y5), (4, vi y4), (0, .ref 131), (1, vi y1), (2, vi y2), (3, vi y3)]) (st2 := [vi z101, vi y5, .ref C]) 2 (fun _ _ => rfl) ?_
          refine pr_s1 (args := [vi y5, vi z101]) (rest := []) rfl rfl rfl (TK0 hC) (Nat.le_of_ble_eq_true rfl) rfl (h_66 s101 t101 y5 z101 hE101 hy5 hz101) s_lnk ?_
          rintro _ s102 ⟨rfl, _⟩ hE102
          show pr N2 K d tb_M65 106 [(7, vi z101), (6, vi y6), (5, vi y5), (4, vi y4), (0, .ref 131), (1, vi y1), (2, vi y2), (3, vi y3)] [] s102 _
          refine pr_n (pc2 := 108) (lv2 := [(7, vi z101), (6, vi y6), (5, vi y5), (4, vi y4), (0, .ref 131), (1, vi y1), (2, vi y2), (3, vi y3)]) (st2 := [vi y6]) 1 (fun _ _ => rfl) ?_
          refine pr_if1f rfl rfl hy6 (show ¬ (y6 ≠ 0) by omega) ?_
          show pr N2 K d tb_M65 111 [(7, vi z101), (6, vi y6), (5, vi y5), (4, vi y4), (0, .ref 131), (1, vi y1), (2, vi y2), (3, vi y3)] [] s102 _
          refine pr_n (pc2 := 124) (lv2 := [(5, vi z101), (4, vi z101), (7, vi z101), (6, vi y6), (0, .ref 131), (1, vi y1), (2, vi y2), (3, vi y3)]) (st2 := []) 5 (fun _ _ => rfl) ?_
          refine pr_inc (a := y6) rfl rfl ?_
          have h103 : i32 (y6 + 1) := by unfold i32 at *; omega
          show pr N2 K d tb_M65 127 [(6, vi (y6 + 1)), (5, vi z101), (4, vi z101), (7, vi z101), (0, .ref 131), (1, vi y1), (2, vi y2), (3, vi y3)] [] s102 _
          refine pr_n (pc2 := 36) (lv2 := [(6, vi (y6 + 1)), (5, vi z101), (4, vi z101), (7, vi z101), (0, .ref 131), (1, vi y1), (2, vi y2), (3, vi y3)]) (st2 := []) 1 (fun _ _ => rfl) ?_
          exact ((ih N2 hN2).2) s102 ((lnk t101 y5 z101)) (y6 + 1) z101 z101 z101 y1 y2 y3 hE102 h103 hz101 hz101 hz101 hy1 hy2 hy3
set_option maxHeartbeats 20000000 in
set_option maxRecDepth 100000 in
theorem cu65_1 {N K d C : Nat} (h_34 : cT34 K d C) (h_35 : cT35 K d C) (h_40 : cT40 K d C) (h_41 : cT41 K d C) (h_48 : cT48 K d C) (h_54 : cT54 K d C) (h_57 : cT57 K d C) (h_66 : cT66 K d C) (ih : ∀ N2, N2 < N → cA65 N2 K d C) : cU65_1 N K d C := by
  intro s t y6 y5 y4 y7 y1 y2 y3 hE hy6 hy5 hy4 hy7 hy1 hy2 hy3
  have hC : C = 99 ∨ C = 115 := hE.1
  rw [cG_65_36]
  unfold cM65_36
  refine pr_lt (pc2 := 38) (lv2 := [(6, vi y6), (5, vi y5), (4, vi y4), (7, vi y7), (0, .ref 131), (1, vi y1), (2, vi y2), (3, vi y3)]) (st2 := [vi y6]) (fun _ _ => rfl) fun N2 hN2 => ?_
  refine pr_n (pc2 := 41) (lv2 := [(6, vi y6), (5, vi y5), (4, vi y4), (7, vi y7), (0, .ref 131), (1, vi y1), (2, vi y2), (3, vi y3)]) (st2 := [vi 2000, vi y6]) 1 (fun _ _ => rfl) ?_
  by_cases h1 : 2000 ≤ y6
  · refine mq_t h1 ?_
    refine pr_if2t rfl rfl hy6 (i32_n rfl) h1 ?_
    refine pr_n (pc2 := 132) (lv2 := [(6, vi y6), (5, vi y5), (4, vi y4), (7, vi y7), (0, .ref 131), (1, vi y1), (2, vi y2), (3, vi y3)]) (st2 := [.ref 131, .ref 131]) 2 (fun _ _ => rfl) ?_
    refine pr_get (v := .ref 137) rfl rfl rfl (by decide) (rv_ref (hE.2.1 131 0 137 rfl)) fun _ => ?_
    refine pr_s1 (args := []) (rest := [.ref 131]) rfl rfl rfl rfl (Nat.le_of_ble_eq_true rfl) rfl (h_34 s t  hE ) s_kkd ?_
    rintro _ s2 ⟨rfl, hz2⟩ hE2
    show pr N2 K d tb_M65 138 [(6, vi y6), (5, vi y5), (4, vi y4), (7, vi y7), (0, .ref 131), (1, vi y1), (2, vi y2), (3, vi y3)] [vi (kkd t), .ref 131] s2 _
    refine pr_n (pc2 := 140) (lv2 := [(6, vi y6), (5, vi y5), (4, vi y4), (7, vi y7), (0, .ref 131), (1, vi y1), (2, vi y2), (3, vi y3)]) (st2 := [vi 41, vi (kkd t), .ref 131]) 1 (fun _ _ => rfl) ?_
    by_cases h3 : kkd t ≠ 41
    · refine mq_t h3 ?_
      refine pr_if2t rfl rfl hz2 (i32_n rfl) h3 ?_
      refine pr_n (pc2 := 149) (lv2 := [(6, vi y6), (5, vi y5), (4, vi y4), (7, vi y7), (0, .ref 131), (1, vi y1), (2, vi y2), (3, vi y3)]) (st2 := [.ref 131, vi 0, .ref 131]) 2 (fun _ _ => rfl) ?_
      refine pr_get (v := .ref 137) rfl rfl rfl (by decide) (rv_ref (hE2.2.1 131 0 137 rfl)) fun _ => ?_
      refine pr_s1 (args := []) (rest := [vi 0, .ref 131]) rfl rfl rfl rfl (Nat.le_of_ble_eq_true rfl) rfl (h_40 s2 t  hE2 ) s_plc ?_
      rintro _ s4 ⟨rfl, hz4⟩ hE4
      show pr N2 K d tb_M65 155 [(6, vi y6), (5, vi y5), (4, vi y4), (7, vi y7), (0, .ref 131), (1, vi y1), (2, vi y2), (3, vi y3)] [vi (plc t), vi 0, .ref 131] s4 _
      exact pr_c1 (args := [vi 0, vi (plc t)]) (rest := []) rfl rfl rfl rfl (Nat.le_of_ble_eq_true rfl) rfl (h_41 s4 t 0 (plc t) hE4 (by decide) hz4) chk0
    · refine mq_f h3 ?_
      refine pr_if2f rfl rfl hz2 (i32_n rfl) h3 ?_
      refine pr_n (pc2 := 149) (lv2 := [(6, vi y6), (5, vi y5), (4, vi y4), (7, vi y7), (0, .ref 131), (1, vi y1), (2, vi y2), (3, vi y3)]) (st2 := [.ref 131, vi 1, .ref 131]) 3 (fun _ _ => rfl) ?_
      refine pr_get (v := .ref 137) rfl rfl rfl (by decide) (rv_ref (hE2.2.1 131 0 137 rfl)) fun _ => ?_
      refine pr_s1 (args := []) (rest := [vi 1, .ref 131]) rfl rfl rfl rfl (Nat.le_of_ble_eq_true rfl) rfl (h_40 s2 t  hE2 ) s_plc ?_
      rintro _ s6 ⟨rfl, hz6⟩ hE6
      show pr N2 K d tb_M65 155 [(6, vi y6), (5, vi y5), (4, vi y4), (7, vi y7), (0, .ref 131), (1, vi y1), (2, vi y2), (3, vi y3)] [vi (plc t), vi 1, .ref 131] s6 _
      refine pr_s1 (args := [vi 1, vi (plc t)]) (rest := []) rfl rfl rfl rfl (Nat.le_of_ble_eq_true rfl) rfl (h_41 s6 t 1 (plc t) hE6 (by decide) hz6) chk1 ?_
      rintro _ s7 ⟨rfl, _⟩ hE7
      show pr N2 K d tb_M65 158 [(6, vi y6), (5, vi y5), (4, vi y4), (7, vi y7), (0, .ref 131), (1, vi y1), (2, vi y2), (3, vi y3)] [] s7 _
      refine pr_n (pc2 := 162) (lv2 := [(6, vi y6), (5, vi y5), (4, vi y4), (7, vi y7), (0, .ref 131), (1, vi y1), (2, vi y2), (3, vi y3)]) (st2 := [.ref 131, vi y6, .ref 131]) 3 (fun _ _ => rfl) ?_
      refine pr_get (v := .ref C) rfl rfl rfl (by decide) (rv_ref (show s7.1 131 1 = ((C : Nat) : Int) from hE7.2.2.1)) fun _ => ?_
      refine pr_n (pc2 := 166) (lv2 := [(6, vi y6), (5, vi y5), (4, vi y4), (7, vi y7), (0, .ref 131), (1, vi y1), (2, vi y2), (3, vi y3)]) (st2 := [vi y1, .ref C, vi y6, .ref 131]) 1 (fun _ _ => rfl) ?_
      refine pr_s1 (args := [vi y1]) (rest := [vi y6, .ref 131]) rfl rfl rfl (TK0 hC) (Nat.le_of_ble_eq_true rfl) rfl (h_48 s7 t y1 hE7 hy1) s_prm ?_
      rintro _ s8 ⟨rfl, hz8⟩ hE8
      show pr N2 K d tb_M65 169 [(6, vi y6), (5, vi y5), (4, vi y4), (7, vi y7), (0, .ref 131), (1, vi y1), (2, vi y2), (3, vi y3)] [vi (prm t y1), vi y6, .ref 131] s8 _
      by_cases h9 : y6 ≠ prm t y1
      · refine mq_t h9 ?_
        refine pr_if2t rfl rfl hy6 hz8 h9 ?_
        refine pr_n (pc2 := 178) (lv2 := [(6, vi y6), (5, vi y5), (4, vi y4), (7, vi y7), (0, .ref 131), (1, vi y1), (2, vi y2), (3, vi y3)]) (st2 := [vi y2, vi 0, .ref 131]) 2 (fun _ _ => rfl) ?_
        exact pr_c1 (args := [vi 0, vi y2]) (rest := []) rfl rfl rfl rfl (Nat.le_of_ble_eq_true rfl) rfl (h_41 s8 t 0 y2 hE8 (by decide) hy2) chk0
      · refine mq_f h9 ?_
        refine pr_if2f rfl rfl hy6 hz8 h9 ?_
        refine pr_n (pc2 := 178) (lv2 := [(6, vi y6), (5, vi y5), (4, vi y4), (7, vi y7), (0, .ref 131), (1, vi y1), (2, vi y2), (3, vi y3)]) (st2 := [vi y2, vi 1, .ref 131]) 3 (fun _ _ => rfl) ?_
        refine pr_s1 (args := [vi 1, vi y2]) (rest := []) rfl rfl rfl rfl (Nat.le_of_ble_eq_true rfl) rfl (h_41 s8 t 1 y2 hE8 (by decide) hy2) chk1 ?_
        rintro _ s11 ⟨rfl, _⟩ hE11
        show pr N2 K d tb_M65 181 [(6, vi y6), (5, vi y5), (4, vi y4), (7, vi y7), (0, .ref 131), (1, vi y1), (2, vi y2), (3, vi y3)] [] s11 _
        refine pr_n (pc2 := 182) (lv2 := [(6, vi y6), (5, vi y5), (4, vi y4), (7, vi y7), (0, .ref 131), (1, vi y1), (2, vi y2), (3, vi y3)]) (st2 := [.ref 131]) 1 (fun _ _ => rfl) ?_
        refine pr_get (v := .ref 137) rfl rfl rfl (by decide) (rv_ref (hE11.2.1 131 0 137 rfl)) fun _ => ?_
        refine pr_s1 (args := []) (rest := []) rfl rfl rfl rfl (Nat.le_of_ble_eq_true rfl) rfl (h_35 s11 t  hE11 ) s_stp ?_
        rintro _ s12 ⟨rfl, _⟩ hE12
        show pr N2 K d tb_M65 188 [(6, vi y6), (5, vi y5), (4, vi y4), (7, vi y7), (0, .ref 131), (1, vi y1), (2, vi y2), (3, vi y3)] [] s12 _
        refine pr_n (pc2 := 190) (lv2 := [(6, vi y6), (5, vi y5), (4, vi y4), (7, vi y7), (0, .ref 131), (1, vi y1), (2, vi y2), (3, vi y3)]) (st2 := [.ref 131, .ref 131]) 2 (fun _ _ => rfl) ?_
        refine pr_gE (k2 := 131) (v := vl ((stp t) 131 7)) hE12 rfl rfl rfl (by decide) rfl rfl rfl fun h13 => ?_
        have h13 : i64 ((stp t) 131 7) := h13
        refine pr_n (pc2 := 194) (lv2 := [(6, vi y6), (5, vi y5), (4, vi y4), (7, vi y7), (0, .ref 131), (1, vi y1), (2, vi y2), (3, vi y3)]) (st2 := [.ref 131, vl ((stp t) 131 7), .ref 131]) 1 (fun _ _ => rfl) ?_
        refine pr_get (v := .ref 134) rfl rfl rfl (by decide) (rv_ref (hE12.2.1 131 10 134 rfl)) fun _ => ?_
        refine pr_n (pc2 := 198) (lv2 := [(6, vi y6), (5, vi y5), (4, vi y4), (7, vi y7), (0, .ref 131), (1, vi y1), (2, vi y2), (3, vi y3)]) (st2 := [vi y1, .ref 134, vl ((stp t) 131 7), .ref 131]) 1 (fun _ _ => rfl) ?_
        refine pr_aE (k2 := 134) (a := y1) (v := vl ((stp t) 134 y1.toNat)) hE12 rfl rfl rfl hy1 (by decide) rfl rfl rfl fun h15 h16 h14 => ?_
        have h14 : i64 ((stp t) 134 y1.toNat) := h14
        refine pr_l2 (a := (stp t) 131 7) (b := (stp t) 134 y1.toNat) rfl rfl ?_
        show pr N2 K d tb_M65 200 [(6, vi y6), (5, vi y5), (4, vi y4), (7, vi y7), (0, .ref 131), (1, vi y1), (2, vi y2), (3, vi y3)] [vl (lo ((stp t) 131 7) ((stp t) 134 y1.toNat)), .ref 131] s12 _
        refine pr_pE (k2 := 131) (z := lo ((stp t) 131 7) ((stp t) 134 y1.toNat)) hE12 rfl rfl rfl rfl (by decide) rfl (by decide) rfl (i64_in _) (fit_l _) rfl rfl rfl (fun e => absurd e.2 (by decide)) (iv_c (by decide)) fun s17 hE17 => ?_
        refine pr_n (pc2 := 205) (lv2 := [(6, vi y6), (5, vi y5), (4, vi y4), (7, vi y7), (0, .ref 131), (1, vi y1), (2, vi y2), (3, vi y3)]) (st2 := [.ref 131, .ref 131]) 2 (fun _ _ => rfl) ?_
        refine pr_gE (k2 := 131) (v := vl ((stp t) 131 8)) hE17 rfl rfl rfl (by decide) rfl rfl rfl fun h18 => ?_
        have h18 : i64 ((stp t) 131 8) := h18
        refine pr_n (pc2 := 209) (lv2 := [(6, vi y6), (5, vi y5), (4, vi y4), (7, vi y7), (0, .ref 131), (1, vi y1), (2, vi y2), (3, vi y3)]) (st2 := [.ref 131, vl ((stp t) 131 8), .ref 131]) 1 (fun _ _ => rfl) ?_
        refine pr_get (v := .ref 135) rfl rfl rfl (by decide) (rv_ref (hE17.2.1 131 11 135 rfl)) fun _ => ?_
        refine pr_n (pc2 := 213) (lv2 := [(6, vi y6), (5, vi y5), (4, vi y4), (7, vi y7), (0, .ref 131), (1, vi y1), (2, vi y2), (3, vi y3)]) (st2 := [vi y1, .ref 135, vl ((stp t) 131 8), .ref 131]) 1 (fun _ _ => rfl) ?_
        refine pr_aE (k2 := 135) (a := y1) (v := vl ((stp t) 135 y1.toNat)) hE17 rfl rfl rfl hy1 (by decide) rfl rfl rfl fun h20 h21 h19 => ?_
        have h19 : i64 ((stp t) 135 y1.toNat) := h19
        refine pr_l2 (a := (stp t) 131 8) (b := (stp t) 135 y1.toNat) rfl rfl ?_
        show pr N2 K d tb_M65 215 [(6, vi y6), (5, vi y5), (4, vi y4), (7, vi y7), (0, .ref 131), (1, vi y1), (2, vi y2), (3, vi y3)] [vl (lo ((stp t) 131 8) ((stp t) 135 y1.toNat)), .ref 131] s17 _
        refine pr_pE (k2 := 131) (z := lo ((stp t) 131 8) ((stp t) 135 y1.toNat)) hE17 rfl rfl rfl rfl (by decide) rfl (by decide) rfl (i64_in _) (fit_l _) rfl rfl rfl (fun e => absurd e.2 (by decide)) (iv_c (by decide)) fun s22 hE22 => ?_
        refine pr_n (pc2 := 220) (lv2 := [(6, vi y6), (5, vi y5), (4, vi y4), (7, vi y7), (0, .ref 131), (1, vi y1), (2, vi y2), (3, vi y3)]) (st2 := [.ref 131, .ref 131]) 2 (fun _ _ => rfl) ?_
        refine pr_gE (k2 := 131) (v := vl ((stp t) 131 9)) hE22 rfl rfl rfl (by decide) rfl rfl rfl fun h23 => ?_
        have h23 : i64 ((stp t) 131 9) := h23
        refine pr_n (pc2 := 224) (lv2 := [(6, vi y6), (5, vi y5), (4, vi y4), (7, vi y7), (0, .ref 131), (1, vi y1), (2, vi y2), (3, vi y3)]) (st2 := [.ref 131, vl ((stp t) 131 9), .ref 131]) 1 (fun _ _ => rfl) ?_
        refine pr_get (v := .ref 136) rfl rfl rfl (by decide) (rv_ref (hE22.2.1 131 12 136 rfl)) fun _ => ?_
        refine pr_n (pc2 := 228) (lv2 := [(6, vi y6), (5, vi y5), (4, vi y4), (7, vi y7), (0, .ref 131), (1, vi y1), (2, vi y2), (3, vi y3)]) (st2 := [vi y1, .ref 136, vl ((stp t) 131 9), .ref 131]) 1 (fun _ _ => rfl) ?_
        refine pr_aE (k2 := 136) (a := y1) (v := vl ((stp t) 136 y1.toNat)) hE22 rfl rfl rfl hy1 (by decide) rfl rfl rfl fun h25 h26 h24 => ?_
        have h24 : i64 ((stp t) 136 y1.toNat) := h24
        refine pr_n (pc2 := 233) (lv2 := [(6, vi y6), (5, vi y5), (4, vi y4), (7, vi y7), (0, .ref 131), (1, vi y1), (2, vi y2), (3, vi y3)]) (st2 := [vi y1, vi 24, vl 1, vl ((stp t) 136 y1.toNat), vl ((stp t) 131 9), .ref 131]) 3 (fun _ _ => rfl) ?_
        refine pr_add (a := 24) (b := y1) rfl ?_
        have h27 : i32 (24 + y1) := by unfold i32 at *; omega
        show pr N2 K d tb_M65 234 [(6, vi y6), (5, vi y5), (4, vi y4), (7, vi y7), (0, .ref 131), (1, vi y1), (2, vi y2), (3, vi y3)] [vi (24 + y1), vl 1, vl ((stp t) 136 y1.toNat), vl ((stp t) 131 9), .ref 131] s22 _
        refine pr_lshl (a := 1) (b := 24 + y1) rfl ?_
        refine pr_l2 (a := (stp t) 136 y1.toNat) (b := lsl 1 (24 + y1)) rfl rfl ?_
        show pr N2 K d tb_M65 236 [(6, vi y6), (5, vi y5), (4, vi y4), (7, vi y7), (0, .ref 131), (1, vi y1), (2, vi y2), (3, vi y3)] [vl (lo ((stp t) 136 y1.toNat) (lsl 1 (24 + y1))), vl ((stp t) 131 9), .ref 131] s22 _
        refine pr_l2 (a := (stp t) 131 9) (b := lo ((stp t) 136 y1.toNat) (lsl 1 (24 + y1))) rfl rfl ?_
        show pr N2 K d tb_M65 237 [(6, vi y6), (5, vi y5), (4, vi y4), (7, vi y7), (0, .ref 131), (1, vi y1), (2, vi y2), (3, vi y3)] [vl (lo ((stp t) 131 9) (lo ((stp t) 136 y1.toNat) (lsl 1 (24 + y1)))), .ref 131] s22 _
        refine pr_pE (k2 := 131) (z := lo ((stp t) 131 9) (lo ((stp t) 136 y1.toNat) (lsl 1 (24 + y1)))) hE22 rfl rfl rfl rfl (by decide) rfl (by decide) rfl (i64_in _) (fit_l _) rfl rfl rfl (fun e => absurd e.2 (by decide)) (iv_c (by decide)) fun s28 hE28 => ?_
        refine pr_n (pc2 := 241) (lv2 := [(6, vi y6), (5, vi y5), (4, vi y4), (7, vi y7), (0, .ref 131), (1, vi y1), (2, vi y2), (3, vi y3)]) (st2 := [.ref 131]) 1 (fun _ _ => rfl) ?_
        refine pr_get (v := .ref C) rfl rfl rfl (by decide) (rv_ref (show s28.1 131 1 = ((C : Nat) : Int) from hE28.2.2.1)) fun _ => ?_
        refine pr_n (pc2 := 252) (lv2 := [(6, vi y6), (5, vi y5), (4, vi y4), (7, vi y7), (0, .ref 131), (1, vi y1), (2, vi y2), (3, vi y3)]) (st2 := [vi y6, vi y4, vi y1, vi 404, .ref C]) 4 (fun _ _ => rfl) ?_
        refine pr_s1 (args := [vi 404, vi y1, vi y4, vi y6]) (rest := []) rfl rfl rfl (TK0 hC) (Nat.le_of_ble_eq_true rfl) rfl (h_54 s28 (up2 (up2 (up2 ((stp t)) 131 7 (lo ((stp t) 131 7) ((stp t) 134 y1.toNat))) 131 8 (lo ((stp t) 131 8) ((stp t) 135 y1.toNat))) 131 9 (lo ((stp t) 131 9) (lo ((stp t) 136 y1.toNat) (lsl 1 (24 + y1))))) 404 y1 y4 y6 hE28 (i32_n rfl) hy1 hy4 hy6) s_cad ?_
        rintro _ s29 ⟨rfl, hz29⟩ hE29
        show pr N2 K d tb_M65 255 [(6, vi y6), (5, vi y5), (4, vi y4), (7, vi y7), (0, .ref 131), (1, vi y1), (2, vi y2), (3, vi y3)] [vi (cadz (up2 (up2 (up2 ((stp t)) 131 7 (lo ((stp t) 131 7) ((stp t) 134 y1.toNat))) 131 8 (lo ((stp t) 131 8) ((stp t) 135 y1.toNat))) 131 9 (lo ((stp t) 131 9) (lo ((stp t) 136 y1.toNat) (lsl 1 (24 + y1))))))] s29 _
        refine pr_reti rfl rfl ?_
        exact .inl ⟨_, cadz (up2 (up2 (up2 ((stp t)) 131 7 (lo ((stp t) 131 7) ((stp t) 134 y1.toNat))) 131 8 (lo ((stp t) 131 8) ((stp t) 135 y1.toNat))) 131 9 (lo ((stp t) 131 9) (lo ((stp t) 136 y1.toNat) (lsl 1 (24 + y1))))), _, rfl, ⟨rfl, hz29⟩, rfl, hE29⟩
  · refine mq_f h1 ?_
    refine pr_if2f rfl rfl hy6 (i32_n rfl) h1 ?_
    refine pr_n (pc2 := 46) (lv2 := [(6, vi y6), (5, vi y5), (4, vi y4), (7, vi y7), (0, .ref 131), (1, vi y1), (2, vi y2), (3, vi y3)]) (st2 := [vi y6]) 1 (fun _ _ => rfl) ?_
    by_cases h30 : y6 ≠ 0
    · refine mq_t h30 ?_
      refine pr_if1t rfl rfl hy6 h30 ?_
      refine pr_n (pc2 := 65) (lv2 := [(6, vi y6), (5, vi y5), (4, vi y4), (7, vi y7), (0, .ref 131), (1, vi y1), (2, vi y2), (3, vi y3)]) (st2 := [.ref 131]) 1 (fun _ _ => rfl) ?_
      refine pr_get (v := .ref 137) rfl rfl rfl (by decide) (rv_ref (hE.2.1 131 0 137 rfl)) fun _ => ?_
      refine pr_s1 (args := []) (rest := []) rfl rfl rfl rfl (Nat.le_of_ble_eq_true rfl) rfl (h_34 s t  hE ) s_kkd ?_
      rintro _ s31 ⟨rfl, hz31⟩ hE31
      show pr N2 K d tb_M65 71 [(6, vi y6), (5, vi y5), (4, vi y4), (7, vi y7), (0, .ref 131), (1, vi y1), (2, vi y2), (3, vi y3)] [vi (kkd t)] s31 _
      refine pr_n (pc2 := 73) (lv2 := [(6, vi y6), (5, vi y5), (4, vi y4), (7, vi y7), (0, .ref 131), (1, vi y1), (2, vi y2), (3, vi y3)]) (st2 := [vi 44, vi (kkd t)]) 1 (fun _ _ => rfl) ?_
      by_cases h32 : kkd t ≠ 44
      · refine mq_t h32 ?_
        refine pr_if2t rfl rfl hz31 (i32_n rfl) h32 ?_
        refine pr_n (pc2 := 132) (lv2 := [(6, vi y6), (5, vi y5), (4, vi y4), (7, vi y7), (0, .ref 131), (1, vi y1), (2, vi y2), (3, vi y3)]) (st2 := [.ref 131, .ref 131]) 2 (fun _ _ => rfl) ?_
        refine pr_get (v := .ref 137) rfl rfl rfl (by decide) (rv_ref (hE31.2.1 131 0 137 rfl)) fun _ => ?_
        refine pr_s1 (args := []) (rest := [.ref 131]) rfl rfl rfl rfl (Nat.le_of_ble_eq_true rfl) rfl (h_34 s31 t  hE31 ) s_kkd ?_
        rintro _ s33 ⟨rfl, hz33⟩ hE33
        show pr N2 K d tb_M65 138 [(6, vi y6), (5, vi y5), (4, vi y4), (7, vi y7), (0, .ref 131), (1, vi y1), (2, vi y2), (3, vi y3)] [vi (kkd t), .ref 131] s33 _
        refine pr_n (pc2 := 140) (lv2 := [(6, vi y6), (5, vi y5), (4, vi y4), (7, vi y7), (0, .ref 131), (1, vi y1), (2, vi y2), (3, vi y3)]) (st2 := [vi 41, vi (kkd t), .ref 131]) 1 (fun _ _ => rfl) ?_
        by_cases h34 : kkd t ≠ 41
        · refine mq_t h34 ?_
          refine pr_if2t rfl rfl hz33 (i32_n rfl) h34 ?_
          refine pr_n (pc2 := 149) (lv2 := [(6, vi y6), (5, vi y5), (4, vi y4), (7, vi y7), (0, .ref 131), (1, vi y1), (2, vi y2), (3, vi y3)]) (st2 := [.ref 131, vi 0, .ref 131]) 2 (fun _ _ => rfl) ?_
          refine pr_get (v := .ref 137) rfl rfl rfl (by decide) (rv_ref (hE33.2.1 131 0 137 rfl)) fun _ => ?_
          refine pr_s1 (args := []) (rest := [vi 0, .ref 131]) rfl rfl rfl rfl (Nat.le_of_ble_eq_true rfl) rfl (h_40 s33 t  hE33 ) s_plc ?_
          rintro _ s35 ⟨rfl, hz35⟩ hE35
          show pr N2 K d tb_M65 155 [(6, vi y6), (5, vi y5), (4, vi y4), (7, vi y7), (0, .ref 131), (1, vi y1), (2, vi y2), (3, vi y3)] [vi (plc t), vi 0, .ref 131] s35 _
          exact pr_c1 (args := [vi 0, vi (plc t)]) (rest := []) rfl rfl rfl rfl (Nat.le_of_ble_eq_true rfl) rfl (h_41 s35 t 0 (plc t) hE35 (by decide) hz35) chk0
        · refine mq_f h34 ?_
          refine pr_if2f rfl rfl hz33 (i32_n rfl) h34 ?_
          refine pr_n (pc2 := 149) (lv2 := [(6, vi y6), (5, vi y5), (4, vi y4), (7, vi y7), (0, .ref 131), (1, vi y1), (2, vi y2), (3, vi y3)]) (st2 := [.ref 131, vi 1, .ref 131]) 3 (fun _ _ => rfl) ?_
          refine pr_get (v := .ref 137) rfl rfl rfl (by decide) (rv_ref (hE33.2.1 131 0 137 rfl)) fun _ => ?_
          refine pr_s1 (args := []) (rest := [vi 1, .ref 131]) rfl rfl rfl rfl (Nat.le_of_ble_eq_true rfl) rfl (h_40 s33 t  hE33 ) s_plc ?_
          rintro _ s37 ⟨rfl, hz37⟩ hE37
          show pr N2 K d tb_M65 155 [(6, vi y6), (5, vi y5), (4, vi y4), (7, vi y7), (0, .ref 131), (1, vi y1), (2, vi y2), (3, vi y3)] [vi (plc t), vi 1, .ref 131] s37 _
          refine pr_s1 (args := [vi 1, vi (plc t)]) (rest := []) rfl rfl rfl rfl (Nat.le_of_ble_eq_true rfl) rfl (h_41 s37 t 1 (plc t) hE37 (by decide) hz37) chk1 ?_
          rintro _ s38 ⟨rfl, _⟩ hE38
          show pr N2 K d tb_M65 158 [(6, vi y6), (5, vi y5), (4, vi y4), (7, vi y7), (0, .ref 131), (1, vi y1), (2, vi y2), (3, vi y3)] [] s38 _
          refine pr_n (pc2 := 162) (lv2 := [(6, vi y6), (5, vi y5), (4, vi y4), (7, vi y7), (0, .ref 131), (1, vi y1), (2, vi y2), (3, vi y3)]) (st2 := [.ref 131, vi y6, .ref 131]) 3 (fun _ _ => rfl) ?_
          refine pr_get (v := .ref C) rfl rfl rfl (by decide) (rv_ref (show s38.1 131 1 = ((C : Nat) : Int) from hE38.2.2.1)) fun _ => ?_
          refine pr_n (pc2 := 166) (lv2 := [(6, vi y6), (5, vi y5), (4, vi y4), (7, vi y7), (0, .ref 131), (1, vi y1), (2, vi y2), (3, vi y3)]) (st2 := [vi y1, .ref C, vi y6, .ref 131]) 1 (fun _ _ => rfl) ?_
          refine pr_s1 (args := [vi y1]) (rest := [vi y6, .ref 131]) rfl rfl rfl (TK0 hC) (Nat.le_of_ble_eq_true rfl) rfl (h_48 s38 t y1 hE38 hy1) s_prm ?_
          rintro _ s39 ⟨rfl, hz39⟩ hE39
          show pr N2 K d tb_M65 169 [(6, vi y6), (5, vi y5), (4, vi y4), (7, vi y7), (0, .ref 131), (1, vi y1), (2, vi y2), (3, vi y3)] [vi (prm t y1), vi y6, .ref 131] s39 _
          by_cases h40 : y6 ≠ prm t y1
          · refine mq_t h40 ?_
            refine pr_if2t rfl rfl hy6 hz39 h40 ?_
            refine pr_n (pc2 := 178) (lv2 := [(6, vi y6), (5, vi y5), (4, vi y4), (7, vi y7), (0, .ref 131), (1, vi y1), (2, vi y2), (3, vi y3)]) (st2 := [vi y2, vi 0, .ref 131]) 2 (fun _ _ => rfl) ?_
            exact pr_c1 (args := [vi 0, vi y2]) (rest := []) rfl rfl rfl rfl (Nat.le_of_ble_eq_true rfl) rfl (h_41 s39 t 0 y2 hE39 (by decide) hy2) chk0
          · refine mq_f h40 ?_
            refine pr_if2f rfl rfl hy6 hz39 h40 ?_
            refine pr_n (pc2 := 178) (lv2 := [(6, vi y6), (5, vi y5), (4, vi y4), (7, vi y7), (0, .ref 131), (1, vi y1), (2, vi y2), (3, vi y3)]) (st2 := [vi y2, vi 1, .ref 131]) 3 (fun _ _ => rfl) ?_
            refine pr_s1 (args := [vi 1, vi y2]) (rest := []) rfl rfl rfl rfl (Nat.le_of_ble_eq_true rfl) rfl (h_41 s39 t 1 y2 hE39 (by decide) hy2) chk1 ?_
            rintro _ s42 ⟨rfl, _⟩ hE42
            show pr N2 K d tb_M65 181 [(6, vi y6), (5, vi y5), (4, vi y4), (7, vi y7), (0, .ref 131), (1, vi y1), (2, vi y2), (3, vi y3)] [] s42 _
            refine pr_n (pc2 := 182) (lv2 := [(6, vi y6), (5, vi y5), (4, vi y4), (7, vi y7), (0, .ref 131), (1, vi y1), (2, vi y2), (3, vi y3)]) (st2 := [.ref 131]) 1 (fun _ _ => rfl) ?_
            refine pr_get (v := .ref 137) rfl rfl rfl (by decide) (rv_ref (hE42.2.1 131 0 137 rfl)) fun _ => ?_
            refine pr_s1 (args := []) (rest := []) rfl rfl rfl rfl (Nat.le_of_ble_eq_true rfl) rfl (h_35 s42 t  hE42 ) s_stp ?_
            rintro _ s43 ⟨rfl, _⟩ hE43
            show pr N2 K d tb_M65 188 [(6, vi y6), (5, vi y5), (4, vi y4), (7, vi y7), (0, .ref 131), (1, vi y1), (2, vi y2), (3, vi y3)] [] s43 _
            refine pr_n (pc2 := 190) (lv2 := [(6, vi y6), (5, vi y5), (4, vi y4), (7, vi y7), (0, .ref 131), (1, vi y1), (2, vi y2), (3, vi y3)]) (st2 := [.ref 131, .ref 131]) 2 (fun _ _ => rfl) ?_
            refine pr_gE (k2 := 131) (v := vl ((stp t) 131 7)) hE43 rfl rfl rfl (by decide) rfl rfl rfl fun h44 => ?_
            have h44 : i64 ((stp t) 131 7) := h44
            refine pr_n (pc2 := 194) (lv2 := [(6, vi y6), (5, vi y5), (4, vi y4), (7, vi y7), (0, .ref 131), (1, vi y1), (2, vi y2), (3, vi y3)]) (st2 := [.ref 131, vl ((stp t) 131 7), .ref 131]) 1 (fun _ _ => rfl) ?_
            refine pr_get (v := .ref 134) rfl rfl rfl (by decide) (rv_ref (hE43.2.1 131 10 134 rfl)) fun _ => ?_
            refine pr_n (pc2 := 198) (lv2 := [(6, vi y6), (5, vi y5), (4, vi y4), (7, vi y7), (0, .ref 131), (1, vi y1), (2, vi y2), (3, vi y3)]) (st2 := [vi y1, .ref 134, vl ((stp t) 131 7), .ref 131]) 1 (fun _ _ => rfl) ?_
            refine pr_aE (k2 := 134) (a := y1) (v := vl ((stp t) 134 y1.toNat)) hE43 rfl rfl rfl hy1 (by decide) rfl rfl rfl fun h46 h47 h45 => ?_
            have h45 : i64 ((stp t) 134 y1.toNat) := h45
            refine pr_l2 (a := (stp t) 131 7) (b := (stp t) 134 y1.toNat) rfl rfl ?_
            show pr N2 K d tb_M65 200 [(6, vi y6), (5, vi y5), (4, vi y4), (7, vi y7), (0, .ref 131), (1, vi y1), (2, vi y2), (3, vi y3)] [vl (lo ((stp t) 131 7) ((stp t) 134 y1.toNat)), .ref 131] s43 _
            refine pr_pE (k2 := 131) (z := lo ((stp t) 131 7) ((stp t) 134 y1.toNat)) hE43 rfl rfl rfl rfl (by decide) rfl (by decide) rfl (i64_in _) (fit_l _) rfl rfl rfl (fun e => absurd e.2 (by decide)) (iv_c (by decide)) fun s48 hE48 => ?_
            refine pr_n (pc2 := 205) (lv2 := [(6, vi y6), (5, vi y5), (4, vi y4), (7, vi y7), (0, .ref 131), (1, vi y1), (2, vi y2), (3, vi y3)]) (st2 := [.ref 131, .ref 131]) 2 (fun _ _ => rfl) ?_
            refine pr_gE (k2 := 131) (v := vl ((stp t) 131 8)) hE48 rfl rfl rfl (by decide) rfl rfl rfl fun h49 => ?_
            have h49 : i64 ((stp t) 131 8) := h49
            refine pr_n (pc2 := 209) (lv2 := [(6, vi y6), (5, vi y5), (4, vi y4), (7, vi y7), (0, .ref 131), (1, vi y1), (2, vi y2), (3, vi y3)]) (st2 := [.ref 131, vl ((stp t) 131 8), .ref 131]) 1 (fun _ _ => rfl) ?_
            refine pr_get (v := .ref 135) rfl rfl rfl (by decide) (rv_ref (hE48.2.1 131 11 135 rfl)) fun _ => ?_
            refine pr_n (pc2 := 213) (lv2 := [(6, vi y6), (5, vi y5), (4, vi y4), (7, vi y7), (0, .ref 131), (1, vi y1), (2, vi y2), (3, vi y3)]) (st2 := [vi y1, .ref 135, vl ((stp t) 131 8), .ref 131]) 1 (fun _ _ => rfl) ?_
            refine pr_aE (k2 := 135) (a := y1) (v := vl ((stp t) 135 y1.toNat)) hE48 rfl rfl rfl hy1 (by decide) rfl rfl rfl fun h51 h52 h50 => ?_
            have h50 : i64 ((stp t) 135 y1.toNat) := h50
            refine pr_l2 (a := (stp t) 131 8) (b := (stp t) 135 y1.toNat) rfl rfl ?_
            show pr N2 K d tb_M65 215 [(6, vi y6), (5, vi y5), (4, vi y4), (7, vi y7), (0, .ref 131), (1, vi y1), (2, vi y2), (3, vi y3)] [vl (lo ((stp t) 131 8) ((stp t) 135 y1.toNat)), .ref 131] s48 _
            refine pr_pE (k2 := 131) (z := lo ((stp t) 131 8) ((stp t) 135 y1.toNat)) hE48 rfl rfl rfl rfl (by decide) rfl (by decide) rfl (i64_in _) (fit_l _) rfl rfl rfl (fun e => absurd e.2 (by decide)) (iv_c (by decide)) fun s53 hE53 => ?_
            refine pr_n (pc2 := 220) (lv2 := [(6, vi y6), (5, vi y5), (4, vi y4), (7, vi y7), (0, .ref 131), (1, vi y1), (2, vi y2), (3, vi y3)]) (st2 := [.ref 131, .ref 131]) 2 (fun _ _ => rfl) ?_
            refine pr_gE (k2 := 131) (v := vl ((stp t) 131 9)) hE53 rfl rfl rfl (by decide) rfl rfl rfl fun h54 => ?_
            have h54 : i64 ((stp t) 131 9) := h54
            refine pr_n (pc2 := 224) (lv2 := [(6, vi y6), (5, vi y5), (4, vi y4), (7, vi y7), (0, .ref 131), (1, vi y1), (2, vi y2), (3, vi y3)]) (st2 := [.ref 131, vl ((stp t) 131 9), .ref 131]) 1 (fun _ _ => rfl) ?_
            refine pr_get (v := .ref 136) rfl rfl rfl (by decide) (rv_ref (hE53.2.1 131 12 136 rfl)) fun _ => ?_
            refine pr_n (pc2 := 228) (lv2 := [(6, vi y6), (5, vi y5), (4, vi y4), (7, vi y7), (0, .ref 131), (1, vi y1), (2, vi y2), (3, vi y3)]) (st2 := [vi y1, .ref 136, vl ((stp t) 131 9), .ref 131]) 1 (fun _ _ => rfl) ?_
            refine pr_aE (k2 := 136) (a := y1) (v := vl ((stp t) 136 y1.toNat)) hE53 rfl rfl rfl hy1 (by decide) rfl rfl rfl fun h56 h57 h55 => ?_
            have h55 : i64 ((stp t) 136 y1.toNat) := h55
            refine pr_n (pc2 := 233) (lv2 := [(6, vi y6), (5, vi y5), (4, vi y4), (7, vi y7), (0, .ref 131), (1, vi y1), (2, vi y2), (3, vi y3)]) (st2 := [vi y1, vi 24, vl 1, vl ((stp t) 136 y1.toNat), vl ((stp t) 131 9), .ref 131]) 3 (fun _ _ => rfl) ?_
            refine pr_add (a := 24) (b := y1) rfl ?_
            have h58 : i32 (24 + y1) := by unfold i32 at *; omega
            show pr N2 K d tb_M65 234 [(6, vi y6), (5, vi y5), (4, vi y4), (7, vi y7), (0, .ref 131), (1, vi y1), (2, vi y2), (3, vi y3)] [vi (24 + y1), vl 1, vl ((stp t) 136 y1.toNat), vl ((stp t) 131 9), .ref 131] s53 _
            refine pr_lshl (a := 1) (b := 24 + y1) rfl ?_
            refine pr_l2 (a := (stp t) 136 y1.toNat) (b := lsl 1 (24 + y1)) rfl rfl ?_
            show pr N2 K d tb_M65 236 [(6, vi y6), (5, vi y5), (4, vi y4), (7, vi y7), (0, .ref 131), (1, vi y1), (2, vi y2), (3, vi y3)] [vl (lo ((stp t) 136 y1.toNat) (lsl 1 (24 + y1))), vl ((stp t) 131 9), .ref 131] s53 _
            refine pr_l2 (a := (stp t) 131 9) (b := lo ((stp t) 136 y1.toNat) (lsl 1 (24 + y1))) rfl rfl ?_
            show pr N2 K d tb_M65 237 [(6, vi y6), (5, vi y5), (4, vi y4), (7, vi y7), (0, .ref 131), (1, vi y1), (2, vi y2), (3, vi y3)] [vl (lo ((stp t) 131 9) (lo ((stp t) 136 y1.toNat) (lsl 1 (24 + y1)))), .ref 131] s53 _
            refine pr_pE (k2 := 131) (z := lo ((stp t) 131 9) (lo ((stp t) 136 y1.toNat) (lsl 1 (24 + y1)))) hE53 rfl rfl rfl rfl (by decide) rfl (by decide) rfl (i64_in _) (fit_l _) rfl rfl rfl (fun e => absurd e.2 (by decide)) (iv_c (by decide)) fun s59 hE59 => ?_
            refine pr_n (pc2 := 241) (lv2 := [(6, vi y6), (5, vi y5), (4, vi y4), (7, vi y7), (0, .ref 131), (1, vi y1), (2, vi y2), (3, vi y3)]) (st2 := [.ref 131]) 1 (fun _ _ => rfl) ?_
            refine pr_get (v := .ref C) rfl rfl rfl (by decide) (rv_ref (show s59.1 131 1 = ((C : Nat) : Int) from hE59.2.2.1)) fun _ => ?_
            refine pr_n (pc2 := 252) (lv2 := [(6, vi y6), (5, vi y5), (4, vi y4), (7, vi y7), (0, .ref 131), (1, vi y1), (2, vi y2), (3, vi y3)]) (st2 := [vi y6, vi y4, vi y1, vi 404, .ref C]) 4 (fun _ _ => rfl) ?_
            refine pr_s1 (args := [vi 404, vi y1, vi y4, vi y6]) (rest := []) rfl rfl rfl (TK0 hC) (Nat.le_of_ble_eq_true rfl) rfl (h_54 s59 (up2 (up2 (up2 ((stp t)) 131 7 (lo ((stp t) 131 7) ((stp t) 134 y1.toNat))) 131 8 (lo ((stp t) 131 8) ((stp t) 135 y1.toNat))) 131 9 (lo ((stp t) 131 9) (lo ((stp t) 136 y1.toNat) (lsl 1 (24 + y1))))) 404 y1 y4 y6 hE59 (i32_n rfl) hy1 hy4 hy6) s_cad ?_
            rintro _ s60 ⟨rfl, hz60⟩ hE60
            show pr N2 K d tb_M65 255 [(6, vi y6), (5, vi y5), (4, vi y4), (7, vi y7), (0, .ref 131), (1, vi y1), (2, vi y2), (3, vi y3)] [vi (cadz (up2 (up2 (up2 ((stp t)) 131 7 (lo ((stp t) 131 7) ((stp t) 134 y1.toNat))) 131 8 (lo ((stp t) 131 8) ((stp t) 135 y1.toNat))) 131 9 (lo ((stp t) 131 9) (lo ((stp t) 136 y1.toNat) (lsl 1 (24 + y1))))))] s60 _
            refine pr_reti rfl rfl ?_
            exact .inl ⟨_, cadz (up2 (up2 (up2 ((stp t)) 131 7 (lo ((stp t) 131 7) ((stp t) 134 y1.toNat))) 131 8 (lo ((stp t) 131 8) ((stp t) 135 y1.toNat))) 131 9 (lo ((stp t) 131 9) (lo ((stp t) 136 y1.toNat) (lsl 1 (24 + y1))))), _, rfl, ⟨rfl, hz60⟩, rfl, hE60⟩
      · refine mq_f h32 ?_
        refine pr_if2f rfl rfl hz31 (i32_n rfl) h32 ?_
        refine pr_n (pc2 := 78) (lv2 := [(6, vi y6), (5, vi y5), (4, vi y4), (7, vi y7), (0, .ref 131), (1, vi y1), (2, vi y2), (3, vi y3)]) (st2 := [vi y6]) 1 (fun _ _ => rfl) ?_
        by_cases h61 : y6 ≤ 0
        · refine mq_t h61 ?_
          refine pr_if1t rfl rfl hy6 h61 ?_
          refine pr_n (pc2 := 90) (lv2 := [(6, vi y6), (5, vi y5), (4, vi y4), (7, vi y7), (0, .ref 131), (1, vi y1), (2, vi y2), (3, vi y3)]) (st2 := [vi y3, .ref 131]) 2 (fun _ _ => rfl) ?_
          refine pr_m1 (args := [vi y3]) (rest := []) rfl rfl rfl rfl (Nat.le_of_ble_eq_true rfl) rfl (h_57 s31 t y3 hE31 hy3) ?_
          rintro _ z62 t62 s62 ⟨rfl, hz62⟩ hE62
          show pr N2 K d tb_M65 93 [(6, vi y6), (5, vi y5), (4, vi y4), (7, vi y7), (0, .ref 131), (1, vi y1), (2, vi y2), (3, vi y3)] [vi z62] s62 _
          refine pr_n (pc2 := 96) (lv2 := [(7, vi z62), (6, vi y6), (5, vi y5), (4, vi y4), (0, .ref 131), (1, vi y1), (2, vi y2), (3, vi y3)]) (st2 := [.ref 131]) 2 (fun _ _ => rfl) ?_
          refine pr_get (v := .ref C) rfl rfl rfl (by decide) (rv_ref (show s62.1 131 1 = ((C : Nat) : Int) from hE62.2.2.1)) fun _ => ?_
          refine pr_n (pc2 := 103) (lv2 := [(7, vi z62), (6, vi y6), (5, vi y5), (4, vi y4), (0, .ref 131), (1, vi y1), (2, vi y2), (3, vi y3)]) (st2 := [vi z62, vi y5, .ref C]) 2 (fun _ _ => rfl) ?_
          refine pr_s1 (args := [vi y5, vi z62]) (rest := []) rfl rfl rfl (TK0 hC) (Nat.le_of_ble_eq_true rfl) rfl (h_66 s62 t62 y5 z62 hE62 hy5 hz62) s_lnk ?_
          rintro _ s63 ⟨rfl, _⟩ hE63
          show pr N2 K d tb_M65 106 [(7, vi z62), (6, vi y6), (5, vi y5), (4, vi y4), (0, .ref 131), (1, vi y1), (2, vi y2), (3, vi y3)] [] s63 _
          refine pr_n (pc2 := 108) (lv2 := [(7, vi z62), (6, vi y6), (5, vi y5), (4, vi y4), (0, .ref 131), (1, vi y1), (2, vi y2), (3, vi y3)]) (st2 := [vi y6]) 1 (fun _ _ => rfl) ?_
          refine pr_if1t rfl rfl hy6 (show y6 ≠ 0 by omega) ?_
          show pr N2 K d tb_M65 116 [(7, vi z62), (6, vi y6), (5, vi y5), (4, vi y4), (0, .ref 131), (1, vi y1), (2, vi y2), (3, vi y3)] [] s63 _
          refine pr_n (pc2 := 124) (lv2 := [(5, vi z62), (4, vi y4), (7, vi z62), (6, vi y6), (0, .ref 131), (1, vi y1), (2, vi y2), (3, vi y3)]) (st2 := []) 4 (fun _ _ => rfl) ?_
          refine pr_inc (a := y6) rfl rfl ?_
          have h64 : i32 (y6 + 1) := by unfold i32 at *; omega
          show pr N2 K d tb_M65 127 [(6, vi (y6 + 1)), (5, vi z62), (4, vi y4), (7, vi z62), (0, .ref 131), (1, vi y1), (2, vi y2), (3, vi y3)] [] s63 _
          refine pr_n (pc2 := 36) (lv2 := [(6, vi (y6 + 1)), (5, vi z62), (4, vi y4), (7, vi z62), (0, .ref 131), (1, vi y1), (2, vi y2), (3, vi y3)]) (st2 := []) 1 (fun _ _ => rfl) ?_
          exact ((ih N2 hN2).2) s63 ((lnk t62 y5 z62)) (y6 + 1) z62 y4 z62 y1 y2 y3 hE63 h64 hz62 hy4 hz62 hy1 hy2 hy3
        · refine mq_f h61 ?_
          refine pr_if1f rfl rfl hy6 h61 ?_
          refine pr_n (pc2 := 82) (lv2 := [(6, vi y6), (5, vi y5), (4, vi y4), (7, vi y7), (0, .ref 131), (1, vi y1), (2, vi y2), (3, vi y3)]) (st2 := [.ref 131]) 1 (fun _ _ => rfl) ?_
          refine pr_get (v := .ref 137) rfl rfl rfl (by decide) (rv_ref (hE31.2.1 131 0 137 rfl)) fun _ => ?_
          refine pr_s1 (args := []) (rest := []) rfl rfl rfl rfl (Nat.le_of_ble_eq_true rfl) rfl (h_35 s31 t  hE31 ) s_stp ?_
          rintro _ s65 ⟨rfl, _⟩ hE65
          show pr N2 K d tb_M65 88 [(6, vi y6), (5, vi y5), (4, vi y4), (7, vi y7), (0, .ref 131), (1, vi y1), (2, vi y2), (3, vi y3)] [] s65 _
          refine pr_n (pc2 := 90) (lv2 := [(6, vi y6), (5, vi y5), (4, vi y4), (7, vi y7), (0, .ref 131), (1, vi y1), (2, vi y2), (3, vi y3)]) (st2 := [vi y3, .ref 131]) 2 (fun _ _ => rfl) ?_
          refine pr_m1 (args := [vi y3]) (rest := []) rfl rfl rfl rfl (Nat.le_of_ble_eq_true rfl) rfl (h_57 s65 ((stp t)) y3 hE65 hy3) ?_
          rintro _ z66 t66 s66 ⟨rfl, hz66⟩ hE66
          show pr N2 K d tb_M65 93 [(6, vi y6), (5, vi y5), (4, vi y4), (7, vi y7), (0, .ref 131), (1, vi y1), (2, vi y2), (3, vi y3)] [vi z66] s66 _
          refine pr_n (pc2 := 96) (lv2 := [(7, vi z66), (6, vi y6), (5, vi y5), (4, vi y4), (0, .ref 131), (1, vi y1), (2, vi y2), (3, vi y3)]) (st2 := [.ref 131]) 2 (fun _ _ => rfl) ?_
          refine pr_get (v := .ref C) rfl rfl rfl (by decide) (rv_ref (show s66.1 131 1 = ((C : Nat) : Int) from hE66.2.2.1)) fun _ => ?_
          refine pr_n (pc2 := 103) (lv2 := [(7, vi z66), (6, vi y6), (5, vi y5), (4, vi y4), (0, .ref 131), (1, vi y1), (2, vi y2), (3, vi y3)]) (st2 := [vi z66, vi y5, .ref C]) 2 (fun _ _ => rfl) ?_
          refine pr_s1 (args := [vi y5, vi z66]) (rest := []) rfl rfl rfl (TK0 hC) (Nat.le_of_ble_eq_true rfl) rfl (h_66 s66 t66 y5 z66 hE66 hy5 hz66) s_lnk ?_
          rintro _ s67 ⟨rfl, _⟩ hE67
          show pr N2 K d tb_M65 106 [(7, vi z66), (6, vi y6), (5, vi y5), (4, vi y4), (0, .ref 131), (1, vi y1), (2, vi y2), (3, vi y3)] [] s67 _
          refine pr_n (pc2 := 108) (lv2 := [(7, vi z66), (6, vi y6), (5, vi y5), (4, vi y4), (0, .ref 131), (1, vi y1), (2, vi y2), (3, vi y3)]) (st2 := [vi y6]) 1 (fun _ _ => rfl) ?_
          refine pr_if1t rfl rfl hy6 (show y6 ≠ 0 by omega) ?_
          show pr N2 K d tb_M65 116 [(7, vi z66), (6, vi y6), (5, vi y5), (4, vi y4), (0, .ref 131), (1, vi y1), (2, vi y2), (3, vi y3)] [] s67 _
          refine pr_n (pc2 := 124) (lv2 := [(5, vi z66), (4, vi y4), (7, vi z66), (6, vi y6), (0, .ref 131), (1, vi y1), (2, vi y2), (3, vi y3)]) (st2 := []) 4 (fun _ _ => rfl) ?_
          refine pr_inc (a := y6) rfl rfl ?_
          have h68 : i32 (y6 + 1) := by unfold i32 at *; omega
          show pr N2 K d tb_M65 127 [(6, vi (y6 + 1)), (5, vi z66), (4, vi y4), (7, vi z66), (0, .ref 131), (1, vi y1), (2, vi y2), (3, vi y3)] [] s67 _
          refine pr_n (pc2 := 36) (lv2 := [(6, vi (y6 + 1)), (5, vi z66), (4, vi y4), (7, vi z66), (0, .ref 131), (1, vi y1), (2, vi y2), (3, vi y3)]) (st2 := []) 1 (fun _ _ => rfl) ?_
          exact ((ih N2 hN2).2) s67 ((lnk t66 y5 z66)) (y6 + 1) z66 y4 z66 y1 y2 y3 hE67 h68 hz66 hy4 hz66 hy1 hy2 hy3
    · refine mq_f h30 ?_
      refine pr_if1f rfl rfl hy6 h30 ?_
      refine pr_n (pc2 := 50) (lv2 := [(6, vi y6), (5, vi y5), (4, vi y4), (7, vi y7), (0, .ref 131), (1, vi y1), (2, vi y2), (3, vi y3)]) (st2 := [.ref 131]) 1 (fun _ _ => rfl) ?_
      refine pr_get (v := .ref 137) rfl rfl rfl (by decide) (rv_ref (hE.2.1 131 0 137 rfl)) fun _ => ?_
      refine pr_s1 (args := []) (rest := []) rfl rfl rfl rfl (Nat.le_of_ble_eq_true rfl) rfl (h_34 s t  hE ) s_kkd ?_
      rintro _ s69 ⟨rfl, hz69⟩ hE69
      show pr N2 K d tb_M65 56 [(6, vi y6), (5, vi y5), (4, vi y4), (7, vi y7), (0, .ref 131), (1, vi y1), (2, vi y2), (3, vi y3)] [vi (kkd t)] s69 _
      refine pr_n (pc2 := 58) (lv2 := [(6, vi y6), (5, vi y5), (4, vi y4), (7, vi y7), (0, .ref 131), (1, vi y1), (2, vi y2), (3, vi y3)]) (st2 := [vi 41, vi (kkd t)]) 1 (fun _ _ => rfl) ?_
      by_cases h70 : kkd t = 41
      · refine mq_t h70 ?_
        refine pr_if2t rfl rfl hz69 (i32_n rfl) h70 ?_
        refine pr_n (pc2 := 132) (lv2 := [(6, vi y6), (5, vi y5), (4, vi y4), (7, vi y7), (0, .ref 131), (1, vi y1), (2, vi y2), (3, vi y3)]) (st2 := [.ref 131, .ref 131]) 2 (fun _ _ => rfl) ?_
        refine pr_get (v := .ref 137) rfl rfl rfl (by decide) (rv_ref (hE69.2.1 131 0 137 rfl)) fun _ => ?_
        refine pr_s1 (args := []) (rest := [.ref 131]) rfl rfl rfl rfl (Nat.le_of_ble_eq_true rfl) rfl (h_34 s69 t  hE69 ) s_kkd ?_
        rintro _ s71 ⟨rfl, hz71⟩ hE71
        show pr N2 K d tb_M65 138 [(6, vi y6), (5, vi y5), (4, vi y4), (7, vi y7), (0, .ref 131), (1, vi y1), (2, vi y2), (3, vi y3)] [vi (kkd t), .ref 131] s71 _
        refine pr_n (pc2 := 140) (lv2 := [(6, vi y6), (5, vi y5), (4, vi y4), (7, vi y7), (0, .ref 131), (1, vi y1), (2, vi y2), (3, vi y3)]) (st2 := [vi 41, vi (kkd t), .ref 131]) 1 (fun _ _ => rfl) ?_
        refine pr_if2f rfl rfl hz71 (i32_n rfl) (show ¬ (kkd t ≠ 41) by omega) ?_
        show pr N2 K d tb_M65 143 [(6, vi y6), (5, vi y5), (4, vi y4), (7, vi y7), (0, .ref 131), (1, vi y1), (2, vi y2), (3, vi y3)] [.ref 131] s71 _
        refine pr_n (pc2 := 149) (lv2 := [(6, vi y6), (5, vi y5), (4, vi y4), (7, vi y7), (0, .ref 131), (1, vi y1), (2, vi y2), (3, vi y3)]) (st2 := [.ref 131, vi 1, .ref 131]) 3 (fun _ _ => rfl) ?_
        refine pr_get (v := .ref 137) rfl rfl rfl (by decide) (rv_ref (hE71.2.1 131 0 137 rfl)) fun _ => ?_
        refine pr_s1 (args := []) (rest := [vi 1, .ref 131]) rfl rfl rfl rfl (Nat.le_of_ble_eq_true rfl) rfl (h_40 s71 t  hE71 ) s_plc ?_
        rintro _ s72 ⟨rfl, hz72⟩ hE72
        show pr N2 K d tb_M65 155 [(6, vi y6), (5, vi y5), (4, vi y4), (7, vi y7), (0, .ref 131), (1, vi y1), (2, vi y2), (3, vi y3)] [vi (plc t), vi 1, .ref 131] s72 _
        refine pr_s1 (args := [vi 1, vi (plc t)]) (rest := []) rfl rfl rfl rfl (Nat.le_of_ble_eq_true rfl) rfl (h_41 s72 t 1 (plc t) hE72 (by decide) hz72) chk1 ?_
        rintro _ s73 ⟨rfl, _⟩ hE73
        show pr N2 K d tb_M65 158 [(6, vi y6), (5, vi y5), (4, vi y4), (7, vi y7), (0, .ref 131), (1, vi y1), (2, vi y2), (3, vi y3)] [] s73 _
        refine pr_n (pc2 := 162) (lv2 := [(6, vi y6), (5, vi y5), (4, vi y4), (7, vi y7), (0, .ref 131), (1, vi y1), (2, vi y2), (3, vi y3)]) (st2 := [.ref 131, vi y6, .ref 131]) 3 (fun _ _ => rfl) ?_
        refine pr_get (v := .ref C) rfl rfl rfl (by decide) (rv_ref (show s73.1 131 1 = ((C : Nat) : Int) from hE73.2.2.1)) fun _ => ?_
        refine pr_n (pc2 := 166) (lv2 := [(6, vi y6), (5, vi y5), (4, vi y4), (7, vi y7), (0, .ref 131), (1, vi y1), (2, vi y2), (3, vi y3)]) (st2 := [vi y1, .ref C, vi y6, .ref 131]) 1 (fun _ _ => rfl) ?_
        refine pr_s1 (args := [vi y1]) (rest := [vi y6, .ref 131]) rfl rfl rfl (TK0 hC) (Nat.le_of_ble_eq_true rfl) rfl (h_48 s73 t y1 hE73 hy1) s_prm ?_
        rintro _ s74 ⟨rfl, hz74⟩ hE74
        show pr N2 K d tb_M65 169 [(6, vi y6), (5, vi y5), (4, vi y4), (7, vi y7), (0, .ref 131), (1, vi y1), (2, vi y2), (3, vi y3)] [vi (prm t y1), vi y6, .ref 131] s74 _
        by_cases h75 : y6 ≠ prm t y1
        · refine mq_t h75 ?_
          refine pr_if2t rfl rfl hy6 hz74 h75 ?_
          refine pr_n (pc2 := 178) (lv2 := [(6, vi y6), (5, vi y5), (4, vi y4), (7, vi y7), (0, .ref 131), (1, vi y1), (2, vi y2), (3, vi y3)]) (st2 := [vi y2, vi 0, .ref 131]) 2 (fun _ _ => rfl) ?_
          exact pr_c1 (args := [vi 0, vi y2]) (rest := []) rfl rfl rfl rfl (Nat.le_of_ble_eq_true rfl) rfl (h_41 s74 t 0 y2 hE74 (by decide) hy2) chk0
        · refine mq_f h75 ?_
          refine pr_if2f rfl rfl hy6 hz74 h75 ?_
          refine pr_n (pc2 := 178) (lv2 := [(6, vi y6), (5, vi y5), (4, vi y4), (7, vi y7), (0, .ref 131), (1, vi y1), (2, vi y2), (3, vi y3)]) (st2 := [vi y2, vi 1, .ref 131]) 3 (fun _ _ => rfl) ?_
          refine pr_s1 (args := [vi 1, vi y2]) (rest := []) rfl rfl rfl rfl (Nat.le_of_ble_eq_true rfl) rfl (h_41 s74 t 1 y2 hE74 (by decide) hy2) chk1 ?_
          rintro _ s77 ⟨rfl, _⟩ hE77
          show pr N2 K d tb_M65 181 [(6, vi y6), (5, vi y5), (4, vi y4), (7, vi y7), (0, .ref 131), (1, vi y1), (2, vi y2), (3, vi y3)] [] s77 _
          refine pr_n (pc2 := 182) (lv2 := [(6, vi y6), (5, vi y5), (4, vi y4), (7, vi y7), (0, .ref 131), (1, vi y1), (2, vi y2), (3, vi y3)]) (st2 := [.ref 131]) 1 (fun _ _ => rfl) ?_
          refine pr_get (v := .ref 137) rfl rfl rfl (by decide) (rv_ref (hE77.2.1 131 0 137 rfl)) fun _ => ?_
          refine pr_s1 (args := []) (rest := []) rfl rfl rfl rfl (Nat.le_of_ble_eq_true rfl) rfl (h_35 s77 t  hE77 ) s_stp ?_
          rintro _ s78 ⟨rfl, _⟩ hE78
          show pr N2 K d tb_M65 188 [(6, vi y6), (5, vi y5), (4, vi y4), (7, vi y7), (0, .ref 131), (1, vi y1), (2, vi y2), (3, vi y3)] [] s78 _
          refine pr_n (pc2 := 190) (lv2 := [(6, vi y6), (5, vi y5), (4, vi y4), (7, vi y7), (0, .ref 131), (1, vi y1), (2, vi y2), (3, vi y3)]) (st2 := [.ref 131, .ref 131]) 2 (fun _ _ => rfl) ?_
          refine pr_gE (k2 := 131) (v := vl ((stp t) 131 7)) hE78 rfl rfl rfl (by decide) rfl rfl rfl fun h79 => ?_
          have h79 : i64 ((stp t) 131 7) := h79
          refine pr_n (pc2 := 194) (lv2 := [(6, vi y6), (5, vi y5), (4, vi y4), (7, vi y7), (0, .ref 131), (1, vi y1), (2, vi y2), (3, vi y3)]) (st2 := [.ref 131, vl ((stp t) 131 7), .ref 131]) 1 (fun _ _ => rfl) ?_
          refine pr_get (v := .ref 134) rfl rfl rfl (by decide) (rv_ref (hE78.2.1 131 10 134 rfl)) fun _ => ?_
          refine pr_n (pc2 := 198) (lv2 := [(6, vi y6), (5, vi y5), (4, vi y4), (7, vi y7), (0, .ref 131), (1, vi y1), (2, vi y2), (3, vi y3)]) (st2 := [vi y1, .ref 134, vl ((stp t) 131 7), .ref 131]) 1 (fun _ _ => rfl) ?_
          refine pr_aE (k2 := 134) (a := y1) (v := vl ((stp t) 134 y1.toNat)) hE78 rfl rfl rfl hy1 (by decide) rfl rfl rfl fun h81 h82 h80 => ?_
          have h80 : i64 ((stp t) 134 y1.toNat) := h80
          refine pr_l2 (a := (stp t) 131 7) (b := (stp t) 134 y1.toNat) rfl rfl ?_
          show pr N2 K d tb_M65 200 [(6, vi y6), (5, vi y5), (4, vi y4), (7, vi y7), (0, .ref 131), (1, vi y1), (2, vi y2), (3, vi y3)] [vl (lo ((stp t) 131 7) ((stp t) 134 y1.toNat)), .ref 131] s78 _
          refine pr_pE (k2 := 131) (z := lo ((stp t) 131 7) ((stp t) 134 y1.toNat)) hE78 rfl rfl rfl rfl (by decide) rfl (by decide) rfl (i64_in _) (fit_l _) rfl rfl rfl (fun e => absurd e.2 (by decide)) (iv_c (by decide)) fun s83 hE83 => ?_
          refine pr_n (pc2 := 205) (lv2 := [(6, vi y6), (5, vi y5), (4, vi y4), (7, vi y7), (0, .ref 131), (1, vi y1), (2, vi y2), (3, vi y3)]) (st2 := [.ref 131, .ref 131]) 2 (fun _ _ => rfl) ?_
          refine pr_gE (k2 := 131) (v := vl ((stp t) 131 8)) hE83 rfl rfl rfl (by decide) rfl rfl rfl fun h84 => ?_
          have h84 : i64 ((stp t) 131 8) := h84
          refine pr_n (pc2 := 209) (lv2 := [(6, vi y6), (5, vi y5), (4, vi y4), (7, vi y7), (0, .ref 131), (1, vi y1), (2, vi y2), (3, vi y3)]) (st2 := [.ref 131, vl ((stp t) 131 8), .ref 131]) 1 (fun _ _ => rfl) ?_
          refine pr_get (v := .ref 135) rfl rfl rfl (by decide) (rv_ref (hE83.2.1 131 11 135 rfl)) fun _ => ?_
          refine pr_n (pc2 := 213) (lv2 := [(6, vi y6), (5, vi y5), (4, vi y4), (7, vi y7), (0, .ref 131), (1, vi y1), (2, vi y2), (3, vi y3)]) (st2 := [vi y1, .ref 135, vl ((stp t) 131 8), .ref 131]) 1 (fun _ _ => rfl) ?_
          refine pr_aE (k2 := 135) (a := y1) (v := vl ((stp t) 135 y1.toNat)) hE83 rfl rfl rfl hy1 (by decide) rfl rfl rfl fun h86 h87 h85 => ?_
          have h85 : i64 ((stp t) 135 y1.toNat) := h85
          refine pr_l2 (a := (stp t) 131 8) (b := (stp t) 135 y1.toNat) rfl rfl ?_
          show pr N2 K d tb_M65 215 [(6, vi y6), (5, vi y5), (4, vi y4), (7, vi y7), (0, .ref 131), (1, vi y1), (2, vi y2), (3, vi y3)] [vl (lo ((stp t) 131 8) ((stp t) 135 y1.toNat)), .ref 131] s83 _
          refine pr_pE (k2 := 131) (z := lo ((stp t) 131 8) ((stp t) 135 y1.toNat)) hE83 rfl rfl rfl rfl (by decide) rfl (by decide) rfl (i64_in _) (fit_l _) rfl rfl rfl (fun e => absurd e.2 (by decide)) (iv_c (by decide)) fun s88 hE88 => ?_
          refine pr_n (pc2 := 220) (lv2 := [(6, vi y6), (5, vi y5), (4, vi y4), (7, vi y7), (0, .ref 131), (1, vi y1), (2, vi y2), (3, vi y3)]) (st2 := [.ref 131, .ref 131]) 2 (fun _ _ => rfl) ?_
          refine pr_gE (k2 := 131) (v := vl ((stp t) 131 9)) hE88 rfl rfl rfl (by decide) rfl rfl rfl fun h89 => ?_
          have h89 : i64 ((stp t) 131 9) := h89
          refine pr_n (pc2 := 224) (lv2 := [(6, vi y6), (5, vi y5), (4, vi y4), (7, vi y7), (0, .ref 131), (1, vi y1), (2, vi y2), (3, vi y3)]) (st2 := [.ref 131, vl ((stp t) 131 9), .ref 131]) 1 (fun _ _ => rfl) ?_
          refine pr_get (v := .ref 136) rfl rfl rfl (by decide) (rv_ref (hE88.2.1 131 12 136 rfl)) fun _ => ?_
          refine pr_n (pc2 := 228) (lv2 := [(6, vi y6), (5, vi y5), (4, vi y4), (7, vi y7), (0, .ref 131), (1, vi y1), (2, vi y2), (3, vi y3)]) (st2 := [vi y1, .ref 136, vl ((stp t) 131 9), .ref 131]) 1 (fun _ _ => rfl) ?_
          refine pr_aE (k2 := 136) (a := y1) (v := vl ((stp t) 136 y1.toNat)) hE88 rfl rfl rfl hy1 (by decide) rfl rfl rfl fun h91 h92 h90 => ?_
          have h90 : i64 ((stp t) 136 y1.toNat) := h90
          refine pr_n (pc2 := 233) (lv2 := [(6, vi y6), (5, vi y5), (4, vi y4), (7, vi y7), (0, .ref 131), (1, vi y1), (2, vi y2), (3, vi y3)]) (st2 := [vi y1, vi 24, vl 1, vl ((stp t) 136 y1.toNat), vl ((stp t) 131 9), .ref 131]) 3 (fun _ _ => rfl) ?_
          refine pr_add (a := 24) (b := y1) rfl ?_
          have h93 : i32 (24 + y1) := by unfold i32 at *; omega
          show pr N2 K d tb_M65 234 [(6, vi y6), (5, vi y5), (4, vi y4), (7, vi y7), (0, .ref 131), (1, vi y1), (2, vi y2), (3, vi y3)] [vi (24 + y1), vl 1, vl ((stp t) 136 y1.toNat), vl ((stp t) 131 9), .ref 131] s88 _
          refine pr_lshl (a := 1) (b := 24 + y1) rfl ?_
          refine pr_l2 (a := (stp t) 136 y1.toNat) (b := lsl 1 (24 + y1)) rfl rfl ?_
          show pr N2 K d tb_M65 236 [(6, vi y6), (5, vi y5), (4, vi y4), (7, vi y7), (0, .ref 131), (1, vi y1), (2, vi y2), (3, vi y3)] [vl (lo ((stp t) 136 y1.toNat) (lsl 1 (24 + y1))), vl ((stp t) 131 9), .ref 131] s88 _
          refine pr_l2 (a := (stp t) 131 9) (b := lo ((stp t) 136 y1.toNat) (lsl 1 (24 + y1))) rfl rfl ?_
          show pr N2 K d tb_M65 237 [(6, vi y6), (5, vi y5), (4, vi y4), (7, vi y7), (0, .ref 131), (1, vi y1), (2, vi y2), (3, vi y3)] [vl (lo ((stp t) 131 9) (lo ((stp t) 136 y1.toNat) (lsl 1 (24 + y1)))), .ref 131] s88 _
          refine pr_pE (k2 := 131) (z := lo ((stp t) 131 9) (lo ((stp t) 136 y1.toNat) (lsl 1 (24 + y1)))) hE88 rfl rfl rfl rfl (by decide) rfl (by decide) rfl (i64_in _) (fit_l _) rfl rfl rfl (fun e => absurd e.2 (by decide)) (iv_c (by decide)) fun s94 hE94 => ?_
          refine pr_n (pc2 := 241) (lv2 := [(6, vi y6), (5, vi y5), (4, vi y4), (7, vi y7), (0, .ref 131), (1, vi y1), (2, vi y2), (3, vi y3)]) (st2 := [.ref 131]) 1 (fun _ _ => rfl) ?_
          refine pr_get (v := .ref C) rfl rfl rfl (by decide) (rv_ref (show s94.1 131 1 = ((C : Nat) : Int) from hE94.2.2.1)) fun _ => ?_
          refine pr_n (pc2 := 252) (lv2 := [(6, vi y6), (5, vi y5), (4, vi y4), (7, vi y7), (0, .ref 131), (1, vi y1), (2, vi y2), (3, vi y3)]) (st2 := [vi y6, vi y4, vi y1, vi 404, .ref C]) 4 (fun _ _ => rfl) ?_
          refine pr_s1 (args := [vi 404, vi y1, vi y4, vi y6]) (rest := []) rfl rfl rfl (TK0 hC) (Nat.le_of_ble_eq_true rfl) rfl (h_54 s94 (up2 (up2 (up2 ((stp t)) 131 7 (lo ((stp t) 131 7) ((stp t) 134 y1.toNat))) 131 8 (lo ((stp t) 131 8) ((stp t) 135 y1.toNat))) 131 9 (lo ((stp t) 131 9) (lo ((stp t) 136 y1.toNat) (lsl 1 (24 + y1))))) 404 y1 y4 y6 hE94 (i32_n rfl) hy1 hy4 hy6) s_cad ?_
          rintro _ s95 ⟨rfl, hz95⟩ hE95
          show pr N2 K d tb_M65 255 [(6, vi y6), (5, vi y5), (4, vi y4), (7, vi y7), (0, .ref 131), (1, vi y1), (2, vi y2), (3, vi y3)] [vi (cadz (up2 (up2 (up2 ((stp t)) 131 7 (lo ((stp t) 131 7) ((stp t) 134 y1.toNat))) 131 8 (lo ((stp t) 131 8) ((stp t) 135 y1.toNat))) 131 9 (lo ((stp t) 131 9) (lo ((stp t) 136 y1.toNat) (lsl 1 (24 + y1))))))] s95 _
          refine pr_reti rfl rfl ?_
          exact .inl ⟨_, cadz (up2 (up2 (up2 ((stp t)) 131 7 (lo ((stp t) 131 7) ((stp t) 134 y1.toNat))) 131 8 (lo ((stp t) 131 8) ((stp t) 135 y1.toNat))) 131 9 (lo ((stp t) 131 9) (lo ((stp t) 136 y1.toNat) (lsl 1 (24 + y1))))), _, rfl, ⟨rfl, hz95⟩, rfl, hE95⟩
      · refine mq_f h70 ?_
        refine pr_if2f rfl rfl hz69 (i32_n rfl) h70 ?_
        refine pr_n (pc2 := 78) (lv2 := [(6, vi y6), (5, vi y5), (4, vi y4), (7, vi y7), (0, .ref 131), (1, vi y1), (2, vi y2), (3, vi y3)]) (st2 := [vi y6]) 2 (fun _ _ => rfl) ?_
        by_cases h96 : y6 ≤ 0
        · refine mq_t h96 ?_
          refine pr_if1t rfl rfl hy6 h96 ?_
          refine pr_n (pc2 := 90) (lv2 := [(6, vi y6), (5, vi y5), (4, vi y4), (7, vi y7), (0, .ref 131), (1, vi y1), (2, vi y2), (3, vi y3)]) (st2 := [vi y3, .ref 131]) 2 (fun _ _ => rfl) ?_
          refine pr_m1 (args := [vi y3]) (rest := []) rfl rfl rfl rfl (Nat.le_of_ble_eq_true rfl) rfl (h_57 s69 t y3 hE69 hy3) ?_
          rintro _ z97 t97 s97 ⟨rfl, hz97⟩ hE97
          show pr N2 K d tb_M65 93 [(6, vi y6), (5, vi y5), (4, vi y4), (7, vi y7), (0, .ref 131), (1, vi y1), (2, vi y2), (3, vi y3)] [vi z97] s97 _
          refine pr_n (pc2 := 96) (lv2 := [(7, vi z97), (6, vi y6), (5, vi y5), (4, vi y4), (0, .ref 131), (1, vi y1), (2, vi y2), (3, vi y3)]) (st2 := [.ref 131]) 2 (fun _ _ => rfl) ?_
          refine pr_get (v := .ref C) rfl rfl rfl (by decide) (rv_ref (show s97.1 131 1 = ((C : Nat) : Int) from hE97.2.2.1)) fun _ => ?_
          refine pr_n (pc2 := 103) (lv2 := [(7, vi z97), (6, vi y6), (5, vi y5), (4, vi y4), (0, .ref 131), (1, vi y1), (2, vi y2), (3, vi y3)]) (st2 := [vi z97, vi y5, .ref C]) 2 (fun _ _ => rfl) ?_
          refine pr_s1 (args := [vi y5, vi z97]) (rest := []) rfl rfl rfl (TK0 hC) (Nat.le_of_ble_eq_true rfl) rfl (h_66 s97 t97 y5 z97 hE97 hy5 hz97) s_lnk ?_
          rintro _ s98 ⟨rfl, _⟩ hE98
          show pr N2 K d tb_M65 106 [(7, vi z97), (6, vi y6), (5, vi y5), (4, vi y4), (0, .ref 131), (1, vi y1), (2, vi y2), (3, vi y3)] [] s98 _
          refine pr_n (pc2 := 108) (lv2 := [(7, vi z97), (6, vi y6), (5, vi y5), (4, vi y4), (0, .ref 131), (1, vi y1), (2, vi y2), (3, vi y3)]) (st2 := [vi y6]) 1 (fun _ _ => rfl) ?_
          refine pr_if1f rfl rfl hy6 (show ¬ (y6 ≠ 0) by omega) ?_
          show pr N2 K d tb_M65 111 [(7, vi z97), (6, vi y6), (5, vi y5), (4, vi y4), (0, .ref 131), (1, vi y1), (2, vi y2), (3, vi y3)] [] s98 _
          refine pr_n (pc2 := 124) (lv2 := [(5, vi z97), (4, vi z97), (7, vi z97), (6, vi y6), (0, .ref 131), (1, vi y1), (2, vi y2), (3, vi y3)]) (st2 := []) 5 (fun _ _ => rfl) ?_
          refine pr_inc (a := y6) rfl rfl ?_
          have h99 : i32 (y6 + 1) := by unfold i32 at *; omega
          show pr N2 K d tb_M65 127 [(6, vi (y6 + 1)), (5, vi z97), (4, vi z97), (7, vi z97), (0, .ref 131), (1, vi y1), (2, vi y2), (3, vi y3)] [] s98 _
          refine pr_n (pc2 := 36) (lv2 := [(6, vi (y6 + 1)), (5, vi z97), (4, vi z97), (7, vi z97), (0, .ref 131), (1, vi y1), (2, vi y2), (3, vi y3)]) (st2 := []) 1 (fun _ _ => rfl) ?_
          exact ((ih N2 hN2).2) s98 ((lnk t97 y5 z97)) (y6 + 1) z97 z97 z97 y1 y2 y3 hE98 h99 hz97 hz97 hz97 hy1 hy2 hy3
        · refine mq_f h96 ?_
          refine pr_if1f rfl rfl hy6 h96 ?_
          refine pr_n (pc2 := 82) (lv2 := [(6, vi y6), (5, vi y5), (4, vi y4), (7, vi y7), (0, .ref 131), (1, vi y1), (2, vi y2), (3, vi y3)]) (st2 := [.ref 131]) 1 (fun _ _ => rfl) ?_
          refine pr_get (v := .ref 137) rfl rfl rfl (by decide) (rv_ref (hE69.2.1 131 0 137 rfl)) fun _ => ?_
          refine pr_s1 (args := []) (rest := []) rfl rfl rfl rfl (Nat.le_of_ble_eq_true rfl) rfl (h_35 s69 t  hE69 ) s_stp ?_
          rintro _ s100 ⟨rfl, _⟩ hE100
          show pr N2 K d tb_M65 88 [(6, vi y6), (5, vi y5), (4, vi y4), (7, vi y7), (0, .ref 131), (1, vi y1), (2, vi y2), (3, vi y3)] [] s100 _
          refine pr_n (pc2 := 90) (lv2 := [(6, vi y6), (5, vi y5), (4, vi y4), (7, vi y7), (0, .ref 131), (1, vi y1), (2, vi y2), (3, vi y3)]) (st2 := [vi y3, .ref 131]) 2 (fun _ _ => rfl) ?_
          refine pr_m1 (args := [vi y3]) (rest := []) rfl rfl rfl rfl (Nat.le_of_ble_eq_true rfl) rfl (h_57 s100 ((stp t)) y3 hE100 hy3) ?_
          rintro _ z101 t101 s101 ⟨rfl, hz101⟩ hE101
          show pr N2 K d tb_M65 93 [(6, vi y6), (5, vi y5), (4, vi y4), (7, vi y7), (0, .ref 131), (1, vi y1), (2, vi y2), (3, vi y3)] [vi z101] s101 _
          refine pr_n (pc2 := 96) (lv2 := [(7, vi z101), (6, vi y6), (5, vi y5), (4, vi y4), (0, .ref 131), (1, vi y1), (2, vi y2), (3, vi y3)]) (st2 := [.ref 131]) 2 (fun _ _ => rfl) ?_
          refine pr_get (v := .ref C) rfl rfl rfl (by decide) (rv_ref (show s101.1 131 1 = ((C : Nat) : Int) from hE101.2.2.1)) fun _ => ?_
          refine pr_n (pc2 := 103) (lv2 := [(7, vi z101), (6, vi y6), (5, vi y5), (4, vi y4), (0, .ref 131), (1, vi y1), (2, vi y2), (3, vi y3)]) (st2 := [vi z101, vi y5, .ref C]) 2 (fun _ _ => rfl) ?_
          refine pr_s1 (args := [vi y5, vi z101]) (rest := []) rfl rfl rfl (TK0 hC) (Nat.le_of_ble_eq_true rfl) rfl (h_66 s101 t101 y5 z101 hE101 hy5 hz101) s_lnk ?_
          rintro _ s102 ⟨rfl, _⟩ hE102
          show pr N2 K d tb_M65 106 [(7, vi z101), (6, vi y6), (5, vi y5), (4, vi y4), (0, .ref 131), (1, vi y1), (2, vi y2), (3, vi y3)] [] s102 _
          refine pr_n (pc2 := 108) (lv2 := [(7, vi z101), (6, vi y6), (5, vi y5), (4, vi y4), (0, .ref 131), (1, vi y1), (2, vi y2), (3, vi y3)]) (st2 := [vi y6]) 1 (fun _ _ => rfl) ?_
          refine pr_if1f rfl rfl hy6 (show ¬ (y6 ≠ 0) by omega) ?_
          show pr N2 K d tb_M65 111 [(7, vi z101), (6, vi y6), (5, vi y5), (4, vi y4), (0, .ref 131), (1, vi y1), (2, vi y2), (3, vi y3)] [] s102 _
          refine pr_n (pc2 := 124) (lv2 := [(5, vi z101), (4, vi z101), (7, vi z101), (6, vi y6), (0, .ref 131), (1, vi y1), (2, vi y2), (3, vi y3)]) (st2 := []) 5 (fun _ _ => rfl) ?_
          refine pr_inc (a := y6) rfl rfl ?_
          have h103 : i32 (y6 + 1) := by unfold i32 at *; omega
          show pr N2 K d tb_M65 127 [(6, vi (y6 + 1)), (5, vi z101), (4, vi z101), (7, vi z101), (0, .ref 131), (1, vi y1), (2, vi y2), (3, vi y3)] [] s102 _
          refine pr_n (pc2 := 36) (lv2 := [(6, vi (y6 + 1)), (5, vi z101), (4, vi z101), (7, vi z101), (0, .ref 131), (1, vi y1), (2, vi y2), (3, vi y3)]) (st2 := []) 1 (fun _ _ => rfl) ?_
          exact ((ih N2 hN2).2) s102 ((lnk t101 y5 z101)) (y6 + 1) z101 z101 z101 y1 y2 y3 hE102 h103 hz101 hz101 hz101 hy1 hy2 hy3
theorem ca65 {K d C : Nat} (h_34 : cT34 K d C) (h_35 : cT35 K d C) (h_40 : cT40 K d C) (h_41 : cT41 K d C) (h_48 : cT48 K d C) (h_54 : cT54 K d C) (h_57 : cT57 K d C) (h_66 : cT66 K d C) : ∀ N, cA65 N K d C := by
  intro N
  induction N using Nat.strongRecOn with | ind N ih => ?_
  exact ⟨cu65_0 h_34 h_35 h_40 h_41 h_48 h_54 h_57 h_66 ih, cu65_1 h_34 h_35 h_40 h_41 h_48 h_54 h_57 h_66 ih⟩
set_option maxHeartbeats 20000000 in
set_option maxRecDepth 100000 in
theorem cm65 {K d C : Nat} (h_34 : cT34 K d C) (h_35 : cT35 K d C) (h_40 : cT40 K d C) (h_41 : cT41 K d C) (h_48 : cT48 K d C) (h_54 : cT54 K d C) (h_57 : cT57 K d C) (h_66 : cT66 K d C) : cT65 K (d + 1) C := by
  intro s t x1 x2 x3 hE hx1 hx2 hx3
  have hC : C = 99 ∨ C = 115 := hE.1
  refine pcr_of (M := tb_M65) rfl ?_
  show pr K K d tb_M65 0 [(0, .ref 131), (1, vi x1), (2, vi x2), (3, vi x3)] [] s _
  rw [cG_65]
  unfold cM65
  refine pr_n (pc2 := 2) (lv2 := [(0, .ref 131), (1, vi x1), (2, vi x2), (3, vi x3)]) (st2 := [vi x1, .ref 131]) 2 (fun _ _ => rfl) ?_
  by_cases h1 : x1 < 0
  · refine mq_t h1 ?_
    refine pr_if1t rfl rfl hx1 h1 ?_
    refine pr_n (pc2 := 17) (lv2 := [(0, .ref 131), (1, vi x1), (2, vi x2), (3, vi x3)]) (st2 := [vi x2, vi 0, .ref 131]) 2 (fun _ _ => rfl) ?_
    exact pr_c1 (args := [vi 0, vi x2]) (rest := []) rfl rfl rfl rfl (Nat.le_of_ble_eq_true rfl) rfl (h_41 s t 0 x2 hE (by decide) hx2) chk0
  · refine mq_f h1 ?_
    refine pr_if1f rfl rfl hx1 h1 ?_
    refine pr_n (pc2 := 8) (lv2 := [(0, .ref 131), (1, vi x1), (2, vi x2), (3, vi x3)]) (st2 := [vi 12, vi x1, .ref 131]) 2 (fun _ _ => rfl) ?_
    by_cases h3 : 12 ≤ x1
    · refine mq_t h3 ?_
      refine pr_if2t rfl rfl hx1 (i32_n rfl) h3 ?_
      refine pr_n (pc2 := 17) (lv2 := [(0, .ref 131), (1, vi x1), (2, vi x2), (3, vi x3)]) (st2 := [vi x2, vi 0, .ref 131]) 2 (fun _ _ => rfl) ?_
      exact pr_c1 (args := [vi 0, vi x2]) (rest := []) rfl rfl rfl rfl (Nat.le_of_ble_eq_true rfl) rfl (h_41 s t 0 x2 hE (by decide) hx2) chk0
    · refine mq_f h3 ?_
      refine pr_if2f rfl rfl hx1 (i32_n rfl) h3 ?_
      refine pr_n (pc2 := 17) (lv2 := [(0, .ref 131), (1, vi x1), (2, vi x2), (3, vi x3)]) (st2 := [vi x2, vi 1, .ref 131]) 3 (fun _ _ => rfl) ?_
      refine pr_s1 (args := [vi 1, vi x2]) (rest := []) rfl rfl rfl rfl (Nat.le_of_ble_eq_true rfl) rfl (h_41 s t 1 x2 hE (by decide) hx2) chk1 ?_
      rintro _ s5 ⟨rfl, _⟩ hE5
      show pr K K d tb_M65 20 [(0, .ref 131), (1, vi x1), (2, vi x2), (3, vi x3)] [] s5 _
      refine pr_n (pc2 := 21) (lv2 := [(0, .ref 131), (1, vi x1), (2, vi x2), (3, vi x3)]) (st2 := [.ref 131]) 1 (fun _ _ => rfl) ?_
      refine pr_get (v := .ref 137) rfl rfl rfl (by decide) (rv_ref (hE5.2.1 131 0 137 rfl)) fun _ => ?_
      refine pr_s1 (args := []) (rest := []) rfl rfl rfl rfl (Nat.le_of_ble_eq_true rfl) rfl (h_35 s5 t  hE5 ) s_stp ?_
      rintro _ s6 ⟨rfl, _⟩ hE6
      show pr K K d tb_M65 27 [(0, .ref 131), (1, vi x1), (2, vi x2), (3, vi x3)] [] s6 _
      refine pr_n (pc2 := 36) (lv2 := [(6, vi 0), (5, vi ((-1))), (4, vi ((-1))), (0, .ref 131), (1, vi x1), (2, vi x2), (3, vi x3)]) (st2 := []) 6 (fun _ _ => rfl) ?_
      exact ((ca65 h_34 h_35 h_40 h_41 h_48 h_54 h_57 h_66 K).1) s6 ((stp t)) 0 ((-1)) ((-1)) x1 x2 x3 hE6 (i32_n rfl) (i32_n rfl) (i32_n rfl) hx1 hx2 hx3
set_option maxHeartbeats 20000000 in
set_option maxRecDepth 100000 in
theorem cu57_0 {N K d C : Nat} (h_34 : cT34 K d C) (h_35 : cT35 K d C) (h_40 : cT40 K d C) (h_41 : cT41 K d C) (h_58 : cT58 K d C) (h_68 : cT68 K d C) (h_69 : cT69 K d C) (ih : ∀ N2, N2 < N → cA57 N2 K d C) : cU57_0 N K d C := by
  intro s t y5 y4 y3 y2 y1 hE hy5 hy4 hy3 hy2 hy1
  have hC : C = 99 ∨ C = 115 := hE.1
  rw [cG_57_26]
  unfold cM57_26
  refine pr_lt (pc2 := 28) (lv2 := [(5, vi y5), (4, vi y4), (3, vi y3), (2, vi y2), (0, .ref 131), (1, vi y1)]) (st2 := [vi y5]) (fun _ _ => rfl) fun N2 hN2 => ?_
  refine pr_n (pc2 := 31) (lv2 := [(5, vi y5), (4, vi y4), (3, vi y3), (2, vi y2), (0, .ref 131), (1, vi y1)]) (st2 := [vi 2000, vi y5]) 1 (fun _ _ => rfl) ?_
  by_cases h1 : 2000 ≤ y5
  · refine mq_t h1 ?_
    refine pr_if2t rfl rfl hy5 (i32_n rfl) h1 ?_
    refine pr_n (pc2 := 145) (lv2 := [(5, vi y5), (4, vi y4), (3, vi y3), (2, vi y2), (0, .ref 131), (1, vi y1)]) (st2 := [vi y3, vi 1, vi y2, .ref 131]) 4 (fun _ _ => rfl) ?_
    refine pr_m1 (args := [vi y2, vi 1, vi y3]) (rest := []) rfl rfl rfl rfl (Nat.le_of_ble_eq_true rfl) rfl (h_69 s t y2 1 y3 hE hy2 (i32_n rfl) hy3) ?_
    rintro _ z2 t2 s2 ⟨rfl, hz2⟩ hE2
    show pr N2 K d tb_M57 148 [(5, vi y5), (4, vi y4), (3, vi y3), (2, vi y2), (0, .ref 131), (1, vi y1)] [vi z2] s2 _
    refine pr_reti rfl rfl ?_
    exact .inl ⟨_, z2, _, rfl, ⟨rfl, hz2⟩, rfl, hE2⟩
  · refine mq_f h1 ?_
    refine pr_if2f rfl rfl hy5 (i32_n rfl) h1 ?_
    refine pr_n (pc2 := 36) (lv2 := [(5, vi y5), (4, vi y4), (3, vi y3), (2, vi y2), (0, .ref 131), (1, vi y1)]) (st2 := [vi y4]) 1 (fun _ _ => rfl) ?_
    by_cases h3 : y4 ≤ 0
    · refine mq_t h3 ?_
      refine pr_if1t rfl rfl hy4 h3 ?_
      refine pr_n (pc2 := 145) (lv2 := [(5, vi y5), (4, vi y4), (3, vi y3), (2, vi y2), (0, .ref 131), (1, vi y1)]) (st2 := [vi y3, vi 1, vi y2, .ref 131]) 4 (fun _ _ => rfl) ?_
      refine pr_m1 (args := [vi y2, vi 1, vi y3]) (rest := []) rfl rfl rfl rfl (Nat.le_of_ble_eq_true rfl) rfl (h_69 s t y2 1 y3 hE hy2 (i32_n rfl) hy3) ?_
      rintro _ z4 t4 s4 ⟨rfl, hz4⟩ hE4
      show pr N2 K d tb_M57 148 [(5, vi y5), (4, vi y4), (3, vi y3), (2, vi y2), (0, .ref 131), (1, vi y1)] [vi z4] s4 _
      refine pr_reti rfl rfl ?_
      exact .inl ⟨_, z4, _, rfl, ⟨rfl, hz4⟩, rfl, hE4⟩
    · refine mq_f h3 ?_
      refine pr_if1f rfl rfl hy4 h3 ?_
      refine pr_n (pc2 := 44) (lv2 := [(5, vi y5), (4, vi y4), (3, vi y3), (2, vi y2), (0, .ref 131), (1, vi y1)]) (st2 := [vi y3, vi y4, vi y2, .ref 131]) 4 (fun _ _ => rfl) ?_
      refine pr_m1 (args := [vi y2, vi y4, vi y3]) (rest := []) rfl rfl rfl rfl (Nat.le_of_ble_eq_true rfl) rfl (h_69 s t y2 y4 y3 hE hy2 hy4 hy3) ?_
      rintro _ z5 t5 s5 ⟨rfl, hz5⟩ hE5
      show pr N2 K d tb_M57 47 [(5, vi y5), (4, vi y4), (3, vi y3), (2, vi y2), (0, .ref 131), (1, vi y1)] [vi z5] s5 _
      refine pr_n (pc2 := 50) (lv2 := [(3, vi z5), (5, vi y5), (4, vi y4), (2, vi y2), (0, .ref 131), (1, vi y1)]) (st2 := [.ref 131, .ref 131]) 3 (fun _ _ => rfl) ?_
      refine pr_gE (k2 := 131) (v := vi (t5 131 6)) hE5 rfl rfl rfl (by decide) rfl rfl rfl fun h6 => ?_
      have h6 : i32 (t5 131 6) := h6
      refine pr_n (pc2 := 56) (lv2 := [(3, vi z5), (5, vi y5), (4, vi y4), (2, vi y2), (0, .ref 131), (1, vi y1)]) (st2 := [vi 210, vi (t5 131 6), .ref 131]) 1 (fun _ _ => rfl) ?_
      by_cases h7 : 210 ≤ t5 131 6
      · refine mq_t h7 ?_
        refine pr_if2t rfl rfl h6 (i32_n rfl) h7 ?_
        refine pr_n (pc2 := 65) (lv2 := [(3, vi z5), (5, vi y5), (4, vi y4), (2, vi y2), (0, .ref 131), (1, vi y1)]) (st2 := [.ref 131, vi 0, .ref 131]) 2 (fun _ _ => rfl) ?_
        refine pr_get (v := .ref 137) rfl rfl rfl (by decide) (rv_ref (hE5.2.1 131 0 137 rfl)) fun _ => ?_
        refine pr_s1 (args := []) (rest := [vi 0, .ref 131]) rfl rfl rfl rfl (Nat.le_of_ble_eq_true rfl) rfl (h_40 s5 t5  hE5 ) s_plc ?_
        rintro _ s8 ⟨rfl, hz8⟩ hE8
        show pr N2 K d tb_M57 71 [(3, vi z5), (5, vi y5), (4, vi y4), (2, vi y2), (0, .ref 131), (1, vi y1)] [vi (plc t5), vi 0, .ref 131] s8 _
        exact pr_c1 (args := [vi 0, vi (plc t5)]) (rest := []) rfl rfl rfl rfl (Nat.le_of_ble_eq_true rfl) rfl (h_41 s8 t5 0 (plc t5) hE8 (by decide) hz8) chk0
      · refine mq_f h7 ?_
        refine pr_if2f rfl rfl h6 (i32_n rfl) h7 ?_
        refine pr_n (pc2 := 65) (lv2 := [(3, vi z5), (5, vi y5), (4, vi y4), (2, vi y2), (0, .ref 131), (1, vi y1)]) (st2 := [.ref 131, vi 1, .ref 131]) 3 (fun _ _ => rfl) ?_
        refine pr_get (v := .ref 137) rfl rfl rfl (by decide) (rv_ref (hE5.2.1 131 0 137 rfl)) fun _ => ?_
        refine pr_s1 (args := []) (rest := [vi 1, .ref 131]) rfl rfl rfl rfl (Nat.le_of_ble_eq_true rfl) rfl (h_40 s5 t5  hE5 ) s_plc ?_
        rintro _ s10 ⟨rfl, hz10⟩ hE10
        show pr N2 K d tb_M57 71 [(3, vi z5), (5, vi y5), (4, vi y4), (2, vi y2), (0, .ref 131), (1, vi y1)] [vi (plc t5), vi 1, .ref 131] s10 _
        refine pr_s1 (args := [vi 1, vi (plc t5)]) (rest := []) rfl rfl rfl rfl (Nat.le_of_ble_eq_true rfl) rfl (h_41 s10 t5 1 (plc t5) hE10 (by decide) hz10) chk1 ?_
        rintro _ s11 ⟨rfl, _⟩ hE11
        show pr N2 K d tb_M57 74 [(3, vi z5), (5, vi y5), (4, vi y4), (2, vi y2), (0, .ref 131), (1, vi y1)] [] s11 _
        refine pr_n (pc2 := 75) (lv2 := [(3, vi z5), (5, vi y5), (4, vi y4), (2, vi y2), (0, .ref 131), (1, vi y1)]) (st2 := [.ref 131]) 1 (fun _ _ => rfl) ?_
        refine pr_get (v := .ref 132) rfl rfl rfl (by decide) (rv_ref (hE11.2.1 131 4 132 rfl)) fun _ => ?_
        refine pr_n (pc2 := 79) (lv2 := [(3, vi z5), (5, vi y5), (4, vi y4), (2, vi y2), (0, .ref 131), (1, vi y1)]) (st2 := [.ref 131, .ref 132]) 1 (fun _ _ => rfl) ?_
        refine pr_gE (k2 := 131) (v := vi (t5 131 6)) hE11 rfl rfl rfl (by decide) rfl rfl rfl fun h12 => ?_
        have h12 : i32 (t5 131 6) := h12
        refine pr_n (pc2 := 83) (lv2 := [(3, vi z5), (5, vi y5), (4, vi y4), (2, vi y2), (0, .ref 131), (1, vi y1)]) (st2 := [.ref 131, vi (t5 131 6), .ref 132]) 1 (fun _ _ => rfl) ?_
        refine pr_get (v := .ref 137) rfl rfl rfl (by decide) (rv_ref (hE11.2.1 131 0 137 rfl)) fun _ => ?_
        refine pr_s1 (args := []) (rest := [vi (t5 131 6), .ref 132]) rfl rfl rfl rfl (Nat.le_of_ble_eq_true rfl) rfl (h_34 s11 t5  hE11 ) s_kkd ?_
        rintro _ s13 ⟨rfl, hz13⟩ hE13
        show pr N2 K d tb_M57 89 [(3, vi z5), (5, vi y5), (4, vi y4), (2, vi y2), (0, .ref 131), (1, vi y1)] [vi (kkd t5), vi (t5 131 6), .ref 132] s13 _
        refine pr_sE (k2 := 132) (a := t5 131 6) (z := kkd t5) hE13 rfl (by decide) rfl rfl h12 (by decide) rfl (show i32 (kkd t5) from hz13) (n0 rfl (by omega) (by omega)) rfl rfl (fun e => absurd e.1 (by decide)) (iv_c (by decide)) fun h14 h15 s16 hE16 => ?_
        refine pr_n (pc2 := 91) (lv2 := [(3, vi z5), (5, vi y5), (4, vi y4), (2, vi y2), (0, .ref 131), (1, vi y1)]) (st2 := [.ref 131]) 1 (fun _ _ => rfl) ?_
        refine pr_get (v := .ref 133) rfl rfl rfl (by decide) (rv_ref (hE16.2.1 131 5 133 rfl)) fun _ => ?_
        refine pr_n (pc2 := 95) (lv2 := [(3, vi z5), (5, vi y5), (4, vi y4), (2, vi y2), (0, .ref 131), (1, vi y1)]) (st2 := [.ref 131, .ref 133]) 1 (fun _ _ => rfl) ?_
        refine pr_gE (k2 := 131) (v := vi (t5 131 6)) hE16 rfl rfl rfl (by decide) rfl rfl rfl fun h17 => ?_
        have h17 : i32 (t5 131 6) := h17
        refine pr_n (pc2 := 99) (lv2 := [(3, vi z5), (5, vi y5), (4, vi y4), (2, vi y2), (0, .ref 131), (1, vi y1)]) (st2 := [vi z5, vi (t5 131 6), .ref 133]) 1 (fun _ _ => rfl) ?_
        refine pr_sE (k2 := 133) (a := t5 131 6) (z := z5) hE16 rfl (by decide) rfl rfl h17 (by decide) rfl (show i32 (z5) from hz5) (n0 rfl (by omega) (by omega)) rfl rfl (fun e => absurd e.1 (by decide)) (iv_c (by decide)) fun h18 h19 s20 hE20 => ?_
        refine pr_n (pc2 := 102) (lv2 := [(3, vi z5), (5, vi y5), (4, vi y4), (2, vi y2), (0, .ref 131), (1, vi y1)]) (st2 := [.ref 131, .ref 131]) 2 (fun _ _ => rfl) ?_
        refine pr_gE (k2 := 131) (v := vi (t5 131 6)) hE20 rfl rfl rfl (by decide) rfl rfl rfl fun h21 => ?_
        have h21 : i32 (t5 131 6) := h21
        refine pr_n (pc2 := 106) (lv2 := [(3, vi z5), (5, vi y5), (4, vi y4), (2, vi y2), (0, .ref 131), (1, vi y1)]) (st2 := [vi 1, vi (t5 131 6), .ref 131]) 1 (fun _ _ => rfl) ?_
        refine pr_add (a := t5 131 6) (b := 1) rfl ?_
        have h22 : i32 (t5 131 6 + 1) := by unfold i32 at *; omega
        show pr N2 K d tb_M57 107 [(3, vi z5), (5, vi y5), (4, vi y4), (2, vi y2), (0, .ref 131), (1, vi y1)] [vi (t5 131 6 + 1), .ref 131] s20 _
        refine pr_pE (k2 := 131) (z := t5 131 6 + 1) hE20 rfl rfl rfl rfl (by decide) rfl (by decide) rfl (show i32 (t5 131 6 + 1) from h22) (hf_int' _) rfl rfl rfl (fun e => absurd e.2 (by decide)) (iv_c (by decide)) fun s23 hE23 => ?_
        refine pr_n (pc2 := 111) (lv2 := [(3, vi z5), (5, vi y5), (4, vi y4), (2, vi y2), (0, .ref 131), (1, vi y1)]) (st2 := [.ref 131]) 1 (fun _ _ => rfl) ?_
        refine pr_get (v := .ref 137) rfl rfl rfl (by decide) (rv_ref (hE23.2.1 131 0 137 rfl)) fun _ => ?_
        refine pr_s1 (args := []) (rest := []) rfl rfl rfl rfl (Nat.le_of_ble_eq_true rfl) rfl (h_35 s23 (up2 (up2 (up2 t5 132 ((t5 131 6).toNat) (kkd t5)) 133 ((t5 131 6).toNat) z5) 131 6 (t5 131 6 + 1))  hE23 ) s_stp ?_
        rintro _ s24 ⟨rfl, _⟩ hE24
        show pr N2 K d tb_M57 117 [(3, vi z5), (5, vi y5), (4, vi y4), (2, vi y2), (0, .ref 131), (1, vi y1)] [] s24 _
        refine pr_n (pc2 := 119) (lv2 := [(3, vi z5), (5, vi y5), (4, vi y4), (2, vi y2), (0, .ref 131), (1, vi y1)]) (st2 := [vi y1, .ref 131]) 2 (fun _ _ => rfl) ?_
        refine pr_m1 (args := [vi y1]) (rest := []) rfl rfl rfl rfl (Nat.le_of_ble_eq_true rfl) rfl (h_58 s24 ((stp (up2 (up2 (up2 t5 132 ((t5 131 6).toNat) (kkd t5)) 133 ((t5 131 6).toNat) z5) 131 6 (t5 131 6 + 1)))) y1 hE24 hy1) ?_
        rintro _ z25 t25 s25 ⟨rfl, hz25⟩ hE25
        show pr N2 K d tb_M57 122 [(3, vi z5), (5, vi y5), (4, vi y4), (2, vi y2), (0, .ref 131), (1, vi y1)] [vi z25] s25 _
        refine pr_n (pc2 := 124) (lv2 := [(3, vi z25), (5, vi y5), (4, vi y4), (2, vi y2), (0, .ref 131), (1, vi y1)]) (st2 := [.ref 131]) 2 (fun _ _ => rfl) ?_
        refine pr_get (v := .ref 137) rfl rfl rfl (by decide) (rv_ref (hE25.2.1 131 0 137 rfl)) fun _ => ?_
        refine pr_s1 (args := []) (rest := []) rfl rfl rfl rfl (Nat.le_of_ble_eq_true rfl) rfl (h_34 s25 t25  hE25 ) s_kkd ?_
        rintro _ s26 ⟨rfl, hz26⟩ hE26
        show pr N2 K d tb_M57 130 [(3, vi z25), (5, vi y5), (4, vi y4), (2, vi y2), (0, .ref 131), (1, vi y1)] [vi (kkd t25)] s26 _
        refine pr_s0 (args := [vi (kkd t25)]) (rest := []) rfl rfl rfl (Nat.le_of_ble_eq_true rfl) rfl (h_68 s26 t25 (kkd t25) hE26 hz26) s_lvl ?_
        rintro _ s27 ⟨rfl, hz27⟩ hE27
        show pr N2 K d tb_M57 133 [(3, vi z25), (5, vi y5), (4, vi y4), (2, vi y2), (0, .ref 131), (1, vi y1)] [vi (lvl (kkd t25))] s27 _
        refine pr_n (pc2 := 135) (lv2 := [(4, vi (lvl (kkd t25))), (3, vi z25), (5, vi y5), (2, vi y2), (0, .ref 131), (1, vi y1)]) (st2 := []) 1 (fun _ _ => rfl) ?_
        refine pr_inc (a := y5) rfl rfl ?_
        have h28 : i32 (y5 + 1) := by unfold i32 at *; omega
        show pr N2 K d tb_M57 138 [(5, vi (y5 + 1)), (4, vi (lvl (kkd t25))), (3, vi z25), (2, vi y2), (0, .ref 131), (1, vi y1)] [] s27 _
        refine pr_n (pc2 := 26) (lv2 := [(5, vi (y5 + 1)), (4, vi (lvl (kkd t25))), (3, vi z25), (2, vi y2), (0, .ref 131), (1, vi y1)]) (st2 := []) 1 (fun _ _ => rfl) ?_
        exact ((ih N2 hN2)) s27 t25 (y5 + 1) (lvl (kkd t25)) z25 y2 y1 hE27 h28 hz27 hz25 hy2 hy1
theorem ca57 {K d C : Nat} (h_34 : cT34 K d C) (h_35 : cT35 K d C) (h_40 : cT40 K d C) (h_41 : cT41 K d C) (h_58 : cT58 K d C) (h_68 : cT68 K d C) (h_69 : cT69 K d C) : ∀ N, cA57 N K d C := by
  intro N
  induction N using Nat.strongRecOn with | ind N ih => ?_
  exact cu57_0 h_34 h_35 h_40 h_41 h_58 h_68 h_69 ih
set_option maxHeartbeats 20000000 in
set_option maxRecDepth 100000 in
theorem cm57 {K d C : Nat} (h_34 : cT34 K d C) (h_35 : cT35 K d C) (h_40 : cT40 K d C) (h_41 : cT41 K d C) (h_58 : cT58 K d C) (h_68 : cT68 K d C) (h_69 : cT69 K d C) : cT57 K (d + 1) C := by
  intro s t x1 hE hx1
  have hC : C = 99 ∨ C = 115 := hE.1
  refine pcr_of (M := tb_M57) rfl ?_
  show pr K K d tb_M57 0 [(0, .ref 131), (1, vi x1)] [] s _
  rw [cG_57]
  unfold cM57
  refine pr_n (pc2 := 1) (lv2 := [(0, .ref 131), (1, vi x1)]) (st2 := [.ref 131]) 1 (fun _ _ => rfl) ?_
  refine pr_gE (k2 := 131) (v := vi (t 131 6)) hE rfl rfl rfl (by decide) rfl rfl rfl fun h1 => ?_
  have h1 : i32 (t 131 6) := h1
  refine pr_n (pc2 := 7) (lv2 := [(2, vi (t 131 6)), (0, .ref 131), (1, vi x1)]) (st2 := [vi x1, .ref 131]) 3 (fun _ _ => rfl) ?_
  refine pr_m1 (args := [vi x1]) (rest := []) rfl rfl rfl rfl (Nat.le_of_ble_eq_true rfl) rfl (h_58 s t x1 hE hx1) ?_
  rintro _ z2 t2 s2 ⟨rfl, hz2⟩ hE2
  show pr K K d tb_M57 10 [(2, vi (t 131 6)), (0, .ref 131), (1, vi x1)] [vi z2] s2 _
  refine pr_n (pc2 := 12) (lv2 := [(3, vi z2), (2, vi (t 131 6)), (0, .ref 131), (1, vi x1)]) (st2 := [.ref 131]) 2 (fun _ _ => rfl) ?_
  refine pr_get (v := .ref 137) rfl rfl rfl (by decide) (rv_ref (hE2.2.1 131 0 137 rfl)) fun _ => ?_
  refine pr_s1 (args := []) (rest := []) rfl rfl rfl rfl (Nat.le_of_ble_eq_true rfl) rfl (h_34 s2 t2  hE2 ) s_kkd ?_
  rintro _ s3 ⟨rfl, hz3⟩ hE3
  show pr K K d tb_M57 18 [(3, vi z2), (2, vi (t 131 6)), (0, .ref 131), (1, vi x1)] [vi (kkd t2)] s3 _
  refine pr_s0 (args := [vi (kkd t2)]) (rest := []) rfl rfl rfl (Nat.le_of_ble_eq_true rfl) rfl (h_68 s3 t2 (kkd t2) hE3 hz3) s_lvl ?_
  rintro _ s4 ⟨rfl, hz4⟩ hE4
  show pr K K d tb_M57 21 [(3, vi z2), (2, vi (t 131 6)), (0, .ref 131), (1, vi x1)] [vi (lvl (kkd t2))] s4 _
  refine pr_n (pc2 := 26) (lv2 := [(5, vi 0), (4, vi (lvl (kkd t2))), (3, vi z2), (2, vi (t 131 6)), (0, .ref 131), (1, vi x1)]) (st2 := []) 3 (fun _ _ => rfl) ?_
  exact ((ca57 h_34 h_35 h_40 h_41 h_58 h_68 h_69 K)) s4 t2 0 (lvl (kkd t2)) z2 (t 131 6) x1 hE4 (i32_n rfl) hz4 hz2 h1 hx1
set_option maxHeartbeats 20000000 in
set_option maxRecDepth 100000 in
theorem cm58 {K d C : Nat} (h_34 : cT34 K d C) (h_35 : cT35 K d C) (h_40 : cT40 K d C) (h_41 : cT41 K d C) (h_43 : cT43 K d C) (h_54 : cT54 K d C) (h_57 : cT57 K d C) (h_58 : cT58 K d C) (h_59 : cT59 K d C) (h_60 : cT60 K d C) : cT58 K (d + 1) C := by
  intro s t x1 hE hx1
  have hC : C = 99 ∨ C = 115 := hE.1
  refine pcr_of (M := tb_M58) rfl ?_
  show pr K K d tb_M58 0 [(0, .ref 131), (1, vi x1)] [] s _
  rw [cG_58]
  unfold cM58
  refine pr_n (pc2 := 1) (lv2 := [(0, .ref 131), (1, vi x1)]) (st2 := [.ref 131]) 1 (fun _ _ => rfl) ?_
  refine pr_get (v := .ref 137) rfl rfl rfl (by decide) (rv_ref (hE.2.1 131 0 137 rfl)) fun _ => ?_
  refine pr_s1 (args := []) (rest := []) rfl rfl rfl rfl (Nat.le_of_ble_eq_true rfl) rfl (h_34 s t  hE ) s_kkd ?_
  rintro _ s1 ⟨rfl, hz1⟩ hE1
  show pr K K d tb_M58 7 [(0, .ref 131), (1, vi x1)] [vi (kkd t)] s1 _
  refine pr_n (pc2 := 9) (lv2 := [(2, vi (kkd t)), (0, .ref 131), (1, vi x1)]) (st2 := [vi (kkd t)]) 2 (fun _ _ => rfl) ?_
  by_cases h2 : kkd t = 2
  · refine mq_t h2 ?_
    refine pr_lsw rfl (by decide) hz1 (by rw [h2]) rfl ?_
    refine pr_n (pc2 := 155) (lv2 := [(2, vi (kkd t)), (0, .ref 131), (1, vi x1)]) (st2 := [.ref 131]) 1 (fun _ _ => rfl) ?_
    refine pr_get (v := .ref C) rfl rfl rfl (by decide) (rv_ref (show s1.1 131 1 = ((C : Nat) : Int) from hE1.2.2.1)) fun _ => ?_
    refine pr_n (pc2 := 163) (lv2 := [(2, vi (kkd t)), (0, .ref 131), (1, vi x1)]) (st2 := [vi 65535, vi 0, .ref 131, vi 2, .ref C]) 4 (fun _ _ => rfl) ?_
    refine pr_m1 (args := [vi 0, vi 65535]) (rest := [vi 2, .ref C]) rfl rfl rfl rfl (Nat.le_of_ble_eq_true rfl) rfl (h_59 s1 t 0 65535 hE1 (i32_n rfl) (i32_n rfl)) ?_
    rintro _ z3 t3 s3 ⟨rfl, hz3⟩ hE3
    show pr K K d tb_M58 166 [(2, vi (kkd t)), (0, .ref 131), (1, vi x1)] [vi z3, vi 2, .ref C] s3 _
    refine pr_n (pc2 := 168) (lv2 := [(2, vi (kkd t)), (0, .ref 131), (1, vi x1)]) (st2 := [vi ((-1)), vi ((-1)), vi z3, vi 2, .ref C]) 2 (fun _ _ => rfl) ?_
    refine pr_s1 (args := [vi 2, vi z3, vi ((-1)), vi ((-1))]) (rest := []) rfl rfl rfl (TK0 hC) (Nat.le_of_ble_eq_true rfl) rfl (h_54 s3 t3 2 z3 ((-1)) ((-1)) hE3 (i32_n rfl) hz3 (i32_n rfl) (i32_n rfl)) s_cad ?_
    rintro _ s4 ⟨rfl, hz4⟩ hE4
    show pr K K d tb_M58 171 [(2, vi (kkd t)), (0, .ref 131), (1, vi x1)] [vi (cadz t3)] s4 _
    refine pr_reti rfl rfl ?_
    exact .inl ⟨_, cadz t3, _, rfl, ⟨rfl, hz4⟩, rfl, hE4⟩
  · refine mq_f h2 ?_
    by_cases h5 : kkd t = 33
    · refine mq_t h5 ?_
      refine pr_lsw rfl (by decide) hz1 (by rw [h5]) rfl ?_
      refine pr_n (pc2 := 64) (lv2 := [(2, vi (kkd t)), (0, .ref 131), (1, vi x1)]) (st2 := [vi 20, vi x1, .ref 131]) 3 (fun _ _ => rfl) ?_
      by_cases h6 : 20 ≤ x1
      · refine mq_t h6 ?_
        refine pr_if2t rfl rfl hx1 (i32_n rfl) h6 ?_
        refine pr_n (pc2 := 73) (lv2 := [(2, vi (kkd t)), (0, .ref 131), (1, vi x1)]) (st2 := [.ref 131, vi 0, .ref 131]) 2 (fun _ _ => rfl) ?_
        refine pr_get (v := .ref 137) rfl rfl rfl (by decide) (rv_ref (hE1.2.1 131 0 137 rfl)) fun _ => ?_
        refine pr_s1 (args := []) (rest := [vi 0, .ref 131]) rfl rfl rfl rfl (Nat.le_of_ble_eq_true rfl) rfl (h_40 s1 t  hE1 ) s_plc ?_
        rintro _ s7 ⟨rfl, hz7⟩ hE7
        show pr K K d tb_M58 79 [(2, vi (kkd t)), (0, .ref 131), (1, vi x1)] [vi (plc t), vi 0, .ref 131] s7 _
        exact pr_c1 (args := [vi 0, vi (plc t)]) (rest := []) rfl rfl rfl rfl (Nat.le_of_ble_eq_true rfl) rfl (h_41 s7 t 0 (plc t) hE7 (by decide) hz7) chk0
      · refine mq_f h6 ?_
        refine pr_if2f rfl rfl hx1 (i32_n rfl) h6 ?_
        refine pr_n (pc2 := 73) (lv2 := [(2, vi (kkd t)), (0, .ref 131), (1, vi x1)]) (st2 := [.ref 131, vi 1, .ref 131]) 3 (fun _ _ => rfl) ?_
        refine pr_get (v := .ref 137) rfl rfl rfl (by decide) (rv_ref (hE1.2.1 131 0 137 rfl)) fun _ => ?_
        refine pr_s1 (args := []) (rest := [vi 1, .ref 131]) rfl rfl rfl rfl (Nat.le_of_ble_eq_true rfl) rfl (h_40 s1 t  hE1 ) s_plc ?_
        rintro _ s9 ⟨rfl, hz9⟩ hE9
        show pr K K d tb_M58 79 [(2, vi (kkd t)), (0, .ref 131), (1, vi x1)] [vi (plc t), vi 1, .ref 131] s9 _
        refine pr_s1 (args := [vi 1, vi (plc t)]) (rest := []) rfl rfl rfl rfl (Nat.le_of_ble_eq_true rfl) rfl (h_41 s9 t 1 (plc t) hE9 (by decide) hz9) chk1 ?_
        rintro _ s10 ⟨rfl, _⟩ hE10
        show pr K K d tb_M58 82 [(2, vi (kkd t)), (0, .ref 131), (1, vi x1)] [] s10 _
        refine pr_n (pc2 := 83) (lv2 := [(2, vi (kkd t)), (0, .ref 131), (1, vi x1)]) (st2 := [.ref 131]) 1 (fun _ _ => rfl) ?_
        refine pr_get (v := .ref 137) rfl rfl rfl (by decide) (rv_ref (hE10.2.1 131 0 137 rfl)) fun _ => ?_
        refine pr_s1 (args := []) (rest := []) rfl rfl rfl rfl (Nat.le_of_ble_eq_true rfl) rfl (h_35 s10 t  hE10 ) s_stp ?_
        rintro _ s11 ⟨rfl, _⟩ hE11
        show pr K K d tb_M58 89 [(2, vi (kkd t)), (0, .ref 131), (1, vi x1)] [] s11 _
        refine pr_n (pc2 := 90) (lv2 := [(2, vi (kkd t)), (0, .ref 131), (1, vi x1)]) (st2 := [.ref 131]) 1 (fun _ _ => rfl) ?_
        refine pr_get (v := .ref C) rfl rfl rfl (by decide) (rv_ref (show s11.1 131 1 = ((C : Nat) : Int) from hE11.2.2.1)) fun _ => ?_
        refine pr_n (pc2 := 100) (lv2 := [(2, vi (kkd t)), (0, .ref 131), (1, vi x1)]) (st2 := [vi 1, vi x1, .ref 131, vi (kkd t), vi 402, .ref C]) 5 (fun _ _ => rfl) ?_
        refine pr_add (a := x1) (b := 1) rfl ?_
        have h12 : i32 (x1 + 1) := by unfold i32 at *; omega
        show pr K K d tb_M58 101 [(2, vi (kkd t)), (0, .ref 131), (1, vi x1)] [vi (x1 + 1), .ref 131, vi (kkd t), vi 402, .ref C] s11 _
        refine pr_m1 (args := [vi (x1 + 1)]) (rest := [vi (kkd t), vi 402, .ref C]) rfl rfl rfl rfl (Nat.le_of_ble_eq_true rfl) rfl (h_58 s11 ((stp t)) (x1 + 1) hE11 h12) ?_
        rintro _ z13 t13 s13 ⟨rfl, hz13⟩ hE13
        show pr K K d tb_M58 104 [(2, vi (kkd t)), (0, .ref 131), (1, vi x1)] [vi z13, vi (kkd t), vi 402, .ref C] s13 _
        refine pr_n (pc2 := 105) (lv2 := [(2, vi (kkd t)), (0, .ref 131), (1, vi x1)]) (st2 := [vi ((-1)), vi z13, vi (kkd t), vi 402, .ref C]) 1 (fun _ _ => rfl) ?_
        refine pr_s1 (args := [vi 402, vi (kkd t), vi z13, vi ((-1))]) (rest := []) rfl rfl rfl (TK0 hC) (Nat.le_of_ble_eq_true rfl) rfl (h_54 s13 t13 402 (kkd t) z13 ((-1)) hE13 (i32_n rfl) hz1 hz13 (i32_n rfl)) s_cad ?_
        rintro _ s14 ⟨rfl, hz14⟩ hE14
        show pr K K d tb_M58 108 [(2, vi (kkd t)), (0, .ref 131), (1, vi x1)] [vi (cadz t13)] s14 _
        refine pr_reti rfl rfl ?_
        exact .inl ⟨_, cadz t13, _, rfl, ⟨rfl, hz14⟩, rfl, hE14⟩
    · refine mq_f h5 ?_
      by_cases h15 : kkd t = 40
      · refine mq_t h15 ?_
        refine pr_lsw rfl (by decide) hz1 (by rw [h15]) rfl ?_
        refine pr_n (pc2 := 113) (lv2 := [(2, vi (kkd t)), (0, .ref 131), (1, vi x1)]) (st2 := [vi 20, vi x1, .ref 131]) 3 (fun _ _ => rfl) ?_
        by_cases h16 : 20 ≤ x1
        · refine mq_t h16 ?_
          refine pr_if2t rfl rfl hx1 (i32_n rfl) h16 ?_
          refine pr_n (pc2 := 122) (lv2 := [(2, vi (kkd t)), (0, .ref 131), (1, vi x1)]) (st2 := [.ref 131, vi 0, .ref 131]) 2 (fun _ _ => rfl) ?_
          refine pr_get (v := .ref 137) rfl rfl rfl (by decide) (rv_ref (hE1.2.1 131 0 137 rfl)) fun _ => ?_
          refine pr_s1 (args := []) (rest := [vi 0, .ref 131]) rfl rfl rfl rfl (Nat.le_of_ble_eq_true rfl) rfl (h_40 s1 t  hE1 ) s_plc ?_
          rintro _ s17 ⟨rfl, hz17⟩ hE17
          show pr K K d tb_M58 128 [(2, vi (kkd t)), (0, .ref 131), (1, vi x1)] [vi (plc t), vi 0, .ref 131] s17 _
          exact pr_c1 (args := [vi 0, vi (plc t)]) (rest := []) rfl rfl rfl rfl (Nat.le_of_ble_eq_true rfl) rfl (h_41 s17 t 0 (plc t) hE17 (by decide) hz17) chk0
        · refine mq_f h16 ?_
          refine pr_if2f rfl rfl hx1 (i32_n rfl) h16 ?_
          refine pr_n (pc2 := 122) (lv2 := [(2, vi (kkd t)), (0, .ref 131), (1, vi x1)]) (st2 := [.ref 131, vi 1, .ref 131]) 3 (fun _ _ => rfl) ?_
          refine pr_get (v := .ref 137) rfl rfl rfl (by decide) (rv_ref (hE1.2.1 131 0 137 rfl)) fun _ => ?_
          refine pr_s1 (args := []) (rest := [vi 1, .ref 131]) rfl rfl rfl rfl (Nat.le_of_ble_eq_true rfl) rfl (h_40 s1 t  hE1 ) s_plc ?_
          rintro _ s19 ⟨rfl, hz19⟩ hE19
          show pr K K d tb_M58 128 [(2, vi (kkd t)), (0, .ref 131), (1, vi x1)] [vi (plc t), vi 1, .ref 131] s19 _
          refine pr_s1 (args := [vi 1, vi (plc t)]) (rest := []) rfl rfl rfl rfl (Nat.le_of_ble_eq_true rfl) rfl (h_41 s19 t 1 (plc t) hE19 (by decide) hz19) chk1 ?_
          rintro _ s20 ⟨rfl, _⟩ hE20
          show pr K K d tb_M58 131 [(2, vi (kkd t)), (0, .ref 131), (1, vi x1)] [] s20 _
          refine pr_n (pc2 := 132) (lv2 := [(2, vi (kkd t)), (0, .ref 131), (1, vi x1)]) (st2 := [.ref 131]) 1 (fun _ _ => rfl) ?_
          refine pr_get (v := .ref 137) rfl rfl rfl (by decide) (rv_ref (hE20.2.1 131 0 137 rfl)) fun _ => ?_
          refine pr_s1 (args := []) (rest := []) rfl rfl rfl rfl (Nat.le_of_ble_eq_true rfl) rfl (h_35 s20 t  hE20 ) s_stp ?_
          rintro _ s21 ⟨rfl, _⟩ hE21
          show pr K K d tb_M58 138 [(2, vi (kkd t)), (0, .ref 131), (1, vi x1)] [] s21 _
          refine pr_n (pc2 := 141) (lv2 := [(2, vi (kkd t)), (0, .ref 131), (1, vi x1)]) (st2 := [vi 1, vi x1, .ref 131]) 3 (fun _ _ => rfl) ?_
          refine pr_add (a := x1) (b := 1) rfl ?_
          have h22 : i32 (x1 + 1) := by unfold i32 at *; omega
          show pr K K d tb_M58 142 [(2, vi (kkd t)), (0, .ref 131), (1, vi x1)] [vi (x1 + 1), .ref 131] s21 _
          refine pr_m1 (args := [vi (x1 + 1)]) (rest := []) rfl rfl rfl rfl (Nat.le_of_ble_eq_true rfl) rfl (h_57 s21 ((stp t)) (x1 + 1) hE21 h22) ?_
          rintro _ z23 t23 s23 ⟨rfl, hz23⟩ hE23
          show pr K K d tb_M58 145 [(2, vi (kkd t)), (0, .ref 131), (1, vi x1)] [vi z23] s23 _
          refine pr_n (pc2 := 149) (lv2 := [(3, vi z23), (2, vi (kkd t)), (0, .ref 131), (1, vi x1)]) (st2 := [vi 41, .ref 131]) 3 (fun _ _ => rfl) ?_
          refine pr_m1 (args := [vi 41]) (rest := []) rfl rfl rfl rfl (Nat.le_of_ble_eq_true rfl) rfl (h_43 s23 t23 41 hE23 (i32_n rfl)) ?_
          rintro _ _ t24 s24 ⟨rfl, rfl⟩ hE24
          show pr K K d tb_M58 152 [(3, vi z23), (2, vi (kkd t)), (0, .ref 131), (1, vi x1)] [] s24 _
          refine pr_n (pc2 := 153) (lv2 := [(3, vi z23), (2, vi (kkd t)), (0, .ref 131), (1, vi x1)]) (st2 := [vi z23]) 1 (fun _ _ => rfl) ?_
          refine pr_reti rfl rfl ?_
          exact .inl ⟨_, z23, _, rfl, ⟨rfl, hz23⟩, rfl, hE24⟩
      · refine mq_f h15 ?_
        by_cases h25 : kkd t = 45
        · refine mq_t h25 ?_
          refine pr_lsw rfl (by decide) hz1 (by rw [h25]) rfl ?_
          refine pr_n (pc2 := 64) (lv2 := [(2, vi (kkd t)), (0, .ref 131), (1, vi x1)]) (st2 := [vi 20, vi x1, .ref 131]) 3 (fun _ _ => rfl) ?_
          by_cases h26 : 20 ≤ x1
          · refine mq_t h26 ?_
            refine pr_if2t rfl rfl hx1 (i32_n rfl) h26 ?_
            refine pr_n (pc2 := 73) (lv2 := [(2, vi (kkd t)), (0, .ref 131), (1, vi x1)]) (st2 := [.ref 131, vi 0, .ref 131]) 2 (fun _ _ => rfl) ?_
            refine pr_get (v := .ref 137) rfl rfl rfl (by decide) (rv_ref (hE1.2.1 131 0 137 rfl)) fun _ => ?_
            refine pr_s1 (args := []) (rest := [vi 0, .ref 131]) rfl rfl rfl rfl (Nat.le_of_ble_eq_true rfl) rfl (h_40 s1 t  hE1 ) s_plc ?_
            rintro _ s27 ⟨rfl, hz27⟩ hE27
            show pr K K d tb_M58 79 [(2, vi (kkd t)), (0, .ref 131), (1, vi x1)] [vi (plc t), vi 0, .ref 131] s27 _
            exact pr_c1 (args := [vi 0, vi (plc t)]) (rest := []) rfl rfl rfl rfl (Nat.le_of_ble_eq_true rfl) rfl (h_41 s27 t 0 (plc t) hE27 (by decide) hz27) chk0
          · refine mq_f h26 ?_
            refine pr_if2f rfl rfl hx1 (i32_n rfl) h26 ?_
            refine pr_n (pc2 := 73) (lv2 := [(2, vi (kkd t)), (0, .ref 131), (1, vi x1)]) (st2 := [.ref 131, vi 1, .ref 131]) 3 (fun _ _ => rfl) ?_
            refine pr_get (v := .ref 137) rfl rfl rfl (by decide) (rv_ref (hE1.2.1 131 0 137 rfl)) fun _ => ?_
            refine pr_s1 (args := []) (rest := [vi 1, .ref 131]) rfl rfl rfl rfl (Nat.le_of_ble_eq_true rfl) rfl (h_40 s1 t  hE1 ) s_plc ?_
            rintro _ s29 ⟨rfl, hz29⟩ hE29
            show pr K K d tb_M58 79 [(2, vi (kkd t)), (0, .ref 131), (1, vi x1)] [vi (plc t), vi 1, .ref 131] s29 _
            refine pr_s1 (args := [vi 1, vi (plc t)]) (rest := []) rfl rfl rfl rfl (Nat.le_of_ble_eq_true rfl) rfl (h_41 s29 t 1 (plc t) hE29 (by decide) hz29) chk1 ?_
            rintro _ s30 ⟨rfl, _⟩ hE30
            show pr K K d tb_M58 82 [(2, vi (kkd t)), (0, .ref 131), (1, vi x1)] [] s30 _
            refine pr_n (pc2 := 83) (lv2 := [(2, vi (kkd t)), (0, .ref 131), (1, vi x1)]) (st2 := [.ref 131]) 1 (fun _ _ => rfl) ?_
            refine pr_get (v := .ref 137) rfl rfl rfl (by decide) (rv_ref (hE30.2.1 131 0 137 rfl)) fun _ => ?_
            refine pr_s1 (args := []) (rest := []) rfl rfl rfl rfl (Nat.le_of_ble_eq_true rfl) rfl (h_35 s30 t  hE30 ) s_stp ?_
            rintro _ s31 ⟨rfl, _⟩ hE31
            show pr K K d tb_M58 89 [(2, vi (kkd t)), (0, .ref 131), (1, vi x1)] [] s31 _
            refine pr_n (pc2 := 90) (lv2 := [(2, vi (kkd t)), (0, .ref 131), (1, vi x1)]) (st2 := [.ref 131]) 1 (fun _ _ => rfl) ?_
            refine pr_get (v := .ref C) rfl rfl rfl (by decide) (rv_ref (show s31.1 131 1 = ((C : Nat) : Int) from hE31.2.2.1)) fun _ => ?_
            refine pr_n (pc2 := 100) (lv2 := [(2, vi (kkd t)), (0, .ref 131), (1, vi x1)]) (st2 := [vi 1, vi x1, .ref 131, vi (kkd t), vi 402, .ref C]) 5 (fun _ _ => rfl) ?_
            refine pr_add (a := x1) (b := 1) rfl ?_
            have h32 : i32 (x1 + 1) := by unfold i32 at *; omega
            show pr K K d tb_M58 101 [(2, vi (kkd t)), (0, .ref 131), (1, vi x1)] [vi (x1 + 1), .ref 131, vi (kkd t), vi 402, .ref C] s31 _
            refine pr_m1 (args := [vi (x1 + 1)]) (rest := [vi (kkd t), vi 402, .ref C]) rfl rfl rfl rfl (Nat.le_of_ble_eq_true rfl) rfl (h_58 s31 ((stp t)) (x1 + 1) hE31 h32) ?_
            rintro _ z33 t33 s33 ⟨rfl, hz33⟩ hE33
            show pr K K d tb_M58 104 [(2, vi (kkd t)), (0, .ref 131), (1, vi x1)] [vi z33, vi (kkd t), vi 402, .ref C] s33 _
            refine pr_n (pc2 := 105) (lv2 := [(2, vi (kkd t)), (0, .ref 131), (1, vi x1)]) (st2 := [vi ((-1)), vi z33, vi (kkd t), vi 402, .ref C]) 1 (fun _ _ => rfl) ?_
            refine pr_s1 (args := [vi 402, vi (kkd t), vi z33, vi ((-1))]) (rest := []) rfl rfl rfl (TK0 hC) (Nat.le_of_ble_eq_true rfl) rfl (h_54 s33 t33 402 (kkd t) z33 ((-1)) hE33 (i32_n rfl) hz1 hz33 (i32_n rfl)) s_cad ?_
            rintro _ s34 ⟨rfl, hz34⟩ hE34
            show pr K K d tb_M58 108 [(2, vi (kkd t)), (0, .ref 131), (1, vi x1)] [vi (cadz t33)] s34 _
            refine pr_reti rfl rfl ?_
            exact .inl ⟨_, cadz t33, _, rfl, ⟨rfl, hz34⟩, rfl, hE34⟩
        · refine mq_f h25 ?_
          by_cases h35 : kkd t = 126
          · refine mq_t h35 ?_
            refine pr_lsw rfl (by decide) hz1 (by rw [h35]) rfl ?_
            refine pr_n (pc2 := 64) (lv2 := [(2, vi (kkd t)), (0, .ref 131), (1, vi x1)]) (st2 := [vi 20, vi x1, .ref 131]) 3 (fun _ _ => rfl) ?_
            by_cases h36 : 20 ≤ x1
            · refine mq_t h36 ?_
              refine pr_if2t rfl rfl hx1 (i32_n rfl) h36 ?_
              refine pr_n (pc2 := 73) (lv2 := [(2, vi (kkd t)), (0, .ref 131), (1, vi x1)]) (st2 := [.ref 131, vi 0, .ref 131]) 2 (fun _ _ => rfl) ?_
              refine pr_get (v := .ref 137) rfl rfl rfl (by decide) (rv_ref (hE1.2.1 131 0 137 rfl)) fun _ => ?_
              refine pr_s1 (args := []) (rest := [vi 0, .ref 131]) rfl rfl rfl rfl (Nat.le_of_ble_eq_true rfl) rfl (h_40 s1 t  hE1 ) s_plc ?_
              rintro _ s37 ⟨rfl, hz37⟩ hE37
              show pr K K d tb_M58 79 [(2, vi (kkd t)), (0, .ref 131), (1, vi x1)] [vi (plc t), vi 0, .ref 131] s37 _
              exact pr_c1 (args := [vi 0, vi (plc t)]) (rest := []) rfl rfl rfl rfl (Nat.le_of_ble_eq_true rfl) rfl (h_41 s37 t 0 (plc t) hE37 (by decide) hz37) chk0
            · refine mq_f h36 ?_
              refine pr_if2f rfl rfl hx1 (i32_n rfl) h36 ?_
              refine pr_n (pc2 := 73) (lv2 := [(2, vi (kkd t)), (0, .ref 131), (1, vi x1)]) (st2 := [.ref 131, vi 1, .ref 131]) 3 (fun _ _ => rfl) ?_
              refine pr_get (v := .ref 137) rfl rfl rfl (by decide) (rv_ref (hE1.2.1 131 0 137 rfl)) fun _ => ?_
              refine pr_s1 (args := []) (rest := [vi 1, .ref 131]) rfl rfl rfl rfl (Nat.le_of_ble_eq_true rfl) rfl (h_40 s1 t  hE1 ) s_plc ?_
              rintro _ s39 ⟨rfl, hz39⟩ hE39
              show pr K K d tb_M58 79 [(2, vi (kkd t)), (0, .ref 131), (1, vi x1)] [vi (plc t), vi 1, .ref 131] s39 _
              refine pr_s1 (args := [vi 1, vi (plc t)]) (rest := []) rfl rfl rfl rfl (Nat.le_of_ble_eq_true rfl) rfl (h_41 s39 t 1 (plc t) hE39 (by decide) hz39) chk1 ?_
              rintro _ s40 ⟨rfl, _⟩ hE40
              show pr K K d tb_M58 82 [(2, vi (kkd t)), (0, .ref 131), (1, vi x1)] [] s40 _
              refine pr_n (pc2 := 83) (lv2 := [(2, vi (kkd t)), (0, .ref 131), (1, vi x1)]) (st2 := [.ref 131]) 1 (fun _ _ => rfl) ?_
              refine pr_get (v := .ref 137) rfl rfl rfl (by decide) (rv_ref (hE40.2.1 131 0 137 rfl)) fun _ => ?_
              refine pr_s1 (args := []) (rest := []) rfl rfl rfl rfl (Nat.le_of_ble_eq_true rfl) rfl (h_35 s40 t  hE40 ) s_stp ?_
              rintro _ s41 ⟨rfl, _⟩ hE41
              show pr K K d tb_M58 89 [(2, vi (kkd t)), (0, .ref 131), (1, vi x1)] [] s41 _
              refine pr_n (pc2 := 90) (lv2 := [(2, vi (kkd t)), (0, .ref 131), (1, vi x1)]) (st2 := [.ref 131]) 1 (fun _ _ => rfl) ?_
              refine pr_get (v := .ref C) rfl rfl rfl (by decide) (rv_ref (show s41.1 131 1 = ((C : Nat) : Int) from hE41.2.2.1)) fun _ => ?_
              refine pr_n (pc2 := 100) (lv2 := [(2, vi (kkd t)), (0, .ref 131), (1, vi x1)]) (st2 := [vi 1, vi x1, .ref 131, vi (kkd t), vi 402, .ref C]) 5 (fun _ _ => rfl) ?_
              refine pr_add (a := x1) (b := 1) rfl ?_
              have h42 : i32 (x1 + 1) := by unfold i32 at *; omega
              show pr K K d tb_M58 101 [(2, vi (kkd t)), (0, .ref 131), (1, vi x1)] [vi (x1 + 1), .ref 131, vi (kkd t), vi 402, .ref C] s41 _
              refine pr_m1 (args := [vi (x1 + 1)]) (rest := [vi (kkd t), vi 402, .ref C]) rfl rfl rfl rfl (Nat.le_of_ble_eq_true rfl) rfl (h_58 s41 ((stp t)) (x1 + 1) hE41 h42) ?_
              rintro _ z43 t43 s43 ⟨rfl, hz43⟩ hE43
              show pr K K d tb_M58 104 [(2, vi (kkd t)), (0, .ref 131), (1, vi x1)] [vi z43, vi (kkd t), vi 402, .ref C] s43 _
              refine pr_n (pc2 := 105) (lv2 := [(2, vi (kkd t)), (0, .ref 131), (1, vi x1)]) (st2 := [vi ((-1)), vi z43, vi (kkd t), vi 402, .ref C]) 1 (fun _ _ => rfl) ?_
              refine pr_s1 (args := [vi 402, vi (kkd t), vi z43, vi ((-1))]) (rest := []) rfl rfl rfl (TK0 hC) (Nat.le_of_ble_eq_true rfl) rfl (h_54 s43 t43 402 (kkd t) z43 ((-1)) hE43 (i32_n rfl) hz1 hz43 (i32_n rfl)) s_cad ?_
              rintro _ s44 ⟨rfl, hz44⟩ hE44
              show pr K K d tb_M58 108 [(2, vi (kkd t)), (0, .ref 131), (1, vi x1)] [vi (cadz t43)] s44 _
              refine pr_reti rfl rfl ?_
              exact .inl ⟨_, cadz t43, _, rfl, ⟨rfl, hz44⟩, rfl, hE44⟩
          · refine mq_f h35 ?_
            refine pr_lsw rfl (by decide) hz1 (ls_no _ ⟨by omega, by omega, by omega, by omega, by omega, trivial⟩) rfl ?_
            refine pr_n (pc2 := 174) (lv2 := [(2, vi (kkd t)), (0, .ref 131), (1, vi x1)]) (st2 := [vi x1, .ref 131]) 2 (fun _ _ => rfl) ?_
            refine pr_m1 (args := [vi x1]) (rest := []) rfl rfl rfl rfl (Nat.le_of_ble_eq_true rfl) rfl (h_60 s1 t x1 hE1 hx1) ?_
            rintro _ z45 t45 s45 ⟨rfl, hz45⟩ hE45
            show pr K K d tb_M58 177 [(2, vi (kkd t)), (0, .ref 131), (1, vi x1)] [vi z45] s45 _
            refine pr_reti rfl rfl ?_
            exact .inl ⟨_, z45, _, rfl, ⟨rfl, hz45⟩, rfl, hE45⟩
set_option maxHeartbeats 20000000 in
set_option maxRecDepth 100000 in
theorem cm60 {K d C : Nat} (h_34 : cT34 K d C) (h_35 : cT35 K d C) (h_40 : cT40 K d C) (h_41 : cT41 K d C) (h_54 : cT54 K d C) (h_61 : cT61 K d C) (h_62 : cT62 K d C) (h_63 : cT63 K d C) (h_64 : cT64 K d C) (h_65 : cT65 K d C) : cT60 K (d + 1) C := by
  intro s t x1 hE hx1
  have hC : C = 99 ∨ C = 115 := hE.1
  refine pcr_of (M := tb_M60) rfl ?_
  show pr K K d tb_M60 0 [(0, .ref 131), (1, vi x1)] [] s _
  rw [cG_60]
  unfold cM60
  refine pr_n (pc2 := 1) (lv2 := [(0, .ref 131), (1, vi x1)]) (st2 := [.ref 131]) 1 (fun _ _ => rfl) ?_
  refine pr_get (v := .ref 137) rfl rfl rfl (by decide) (rv_ref (hE.2.1 131 0 137 rfl)) fun _ => ?_
  refine pr_s1 (args := []) (rest := []) rfl rfl rfl rfl (Nat.le_of_ble_eq_true rfl) rfl (h_40 s t  hE ) s_plc ?_
  rintro _ s1 ⟨rfl, hz1⟩ hE1
  show pr K K d tb_M60 7 [(0, .ref 131), (1, vi x1)] [vi (plc t)] s1 _
  refine pr_n (pc2 := 9) (lv2 := [(2, vi (plc t)), (0, .ref 131), (1, vi x1)]) (st2 := [.ref 131]) 2 (fun _ _ => rfl) ?_
  refine pr_m1 (args := []) (rest := []) rfl rfl rfl rfl (Nat.le_of_ble_eq_true rfl) rfl (h_61 s1 t  hE1 ) ?_
  rintro _ z2 t2 s2 ⟨rfl, hz2⟩ hE2
  show pr K K d tb_M60 12 [(2, vi (plc t)), (0, .ref 131), (1, vi x1)] [vi z2] s2 _
  refine pr_n (pc2 := 14) (lv2 := [(3, vi z2), (2, vi (plc t)), (0, .ref 131), (1, vi x1)]) (st2 := [.ref 131]) 2 (fun _ _ => rfl) ?_
  refine pr_get (v := .ref C) rfl rfl rfl (by decide) (rv_ref (show s2.1 131 1 = ((C : Nat) : Int) from hE2.2.2.1)) fun _ => ?_
  refine pr_get (v := .ref (C + 6)) rfl rfl (TK0 hC) (by decide) (rv_ref (hE2.2.1 C 5 (C + 6) (rcK hC (by omega)))) fun _ => ?_
  refine pr_n (pc2 := 21) (lv2 := [(3, vi z2), (2, vi (plc t)), (0, .ref 131), (1, vi x1)]) (st2 := [vi z2, .ref (C + 6)]) 1 (fun _ _ => rfl) ?_
  refine pr_s1 (args := [vi z2]) (rest := []) rfl rfl rfl (TK6 hC) (Nat.le_of_ble_eq_true rfl) rfl (h_62 s2 t2 z2 hE2 hz2) s_nkd ?_
  rintro _ s3 ⟨rfl, hz3⟩ hE3
  show pr K K d tb_M60 24 [(3, vi z2), (2, vi (plc t)), (0, .ref 131), (1, vi x1)] [vi (nkd t2 z2)] s3 _
  refine pr_n (pc2 := 27) (lv2 := [(4, vi (nkd t2 z2)), (3, vi z2), (2, vi (plc t)), (0, .ref 131), (1, vi x1)]) (st2 := [.ref 131]) 2 (fun _ _ => rfl) ?_
  refine pr_get (v := .ref C) rfl rfl rfl (by decide) (rv_ref (show s3.1 131 1 = ((C : Nat) : Int) from hE3.2.2.1)) fun _ => ?_
  refine pr_get (v := .ref (C + 6)) rfl rfl (TK0 hC) (by decide) (rv_ref (hE3.2.1 C 5 (C + 6) (rcK hC (by omega)))) fun _ => ?_
  refine pr_n (pc2 := 34) (lv2 := [(4, vi (nkd t2 z2)), (3, vi z2), (2, vi (plc t)), (0, .ref 131), (1, vi x1)]) (st2 := [vi z2, .ref (C + 6)]) 1 (fun _ _ => rfl) ?_
  refine pr_s1 (args := [vi z2]) (rest := []) rfl rfl rfl (TK6 hC) (Nat.le_of_ble_eq_true rfl) rfl (h_63 s3 t2 z2 hE3 hz2) s_nnm ?_
  rintro _ s4 ⟨rfl, hz4⟩ hE4
  show pr K K d tb_M60 37 [(4, vi (nkd t2 z2)), (3, vi z2), (2, vi (plc t)), (0, .ref 131), (1, vi x1)] [vi (nnm t2 z2)] s4 _
  refine pr_n (pc2 := 40) (lv2 := [(5, vi (nnm t2 z2)), (4, vi (nkd t2 z2)), (3, vi z2), (2, vi (plc t)), (0, .ref 131), (1, vi x1)]) (st2 := [.ref 131]) 2 (fun _ _ => rfl) ?_
  refine pr_get (v := .ref 137) rfl rfl rfl (by decide) (rv_ref (hE4.2.1 131 0 137 rfl)) fun _ => ?_
  refine pr_s1 (args := []) (rest := []) rfl rfl rfl rfl (Nat.le_of_ble_eq_true rfl) rfl (h_35 s4 t2  hE4 ) s_stp ?_
  rintro _ s5 ⟨rfl, _⟩ hE5
  show pr K K d tb_M60 46 [(5, vi (nnm t2 z2)), (4, vi (nkd t2 z2)), (3, vi z2), (2, vi (plc t)), (0, .ref 131), (1, vi x1)] [] s5 _
  refine pr_n (pc2 := 47) (lv2 := [(5, vi (nnm t2 z2)), (4, vi (nkd t2 z2)), (3, vi z2), (2, vi (plc t)), (0, .ref 131), (1, vi x1)]) (st2 := [.ref 131]) 1 (fun _ _ => rfl) ?_
  refine pr_get (v := .ref 137) rfl rfl rfl (by decide) (rv_ref (hE5.2.1 131 0 137 rfl)) fun _ => ?_
  refine pr_s1 (args := []) (rest := []) rfl rfl rfl rfl (Nat.le_of_ble_eq_true rfl) rfl (h_34 s5 ((stp t2))  hE5 ) s_kkd ?_
  rintro _ s6 ⟨rfl, hz6⟩ hE6
  show pr K K d tb_M60 53 [(5, vi (nnm t2 z2)), (4, vi (nkd t2 z2)), (3, vi z2), (2, vi (plc t)), (0, .ref 131), (1, vi x1)] [vi (kkd ((stp t2)))] s6 _
  refine pr_n (pc2 := 55) (lv2 := [(5, vi (nnm t2 z2)), (4, vi (nkd t2 z2)), (3, vi z2), (2, vi (plc t)), (0, .ref 131), (1, vi x1)]) (st2 := [vi 91, vi (kkd ((stp t2)))]) 1 (fun _ _ => rfl) ?_
  by_cases h7 : kkd ((stp t2)) ≠ 91
  · refine mq_t h7 ?_
    refine pr_if2t rfl rfl hz6 (i32_n rfl) h7 ?_
    refine pr_n (pc2 := 110) (lv2 := [(5, vi (nnm t2 z2)), (4, vi (nkd t2 z2)), (3, vi z2), (2, vi (plc t)), (0, .ref 131), (1, vi x1)]) (st2 := [.ref 131]) 1 (fun _ _ => rfl) ?_
    refine pr_get (v := .ref 137) rfl rfl rfl (by decide) (rv_ref (hE6.2.1 131 0 137 rfl)) fun _ => ?_
    refine pr_s1 (args := []) (rest := []) rfl rfl rfl rfl (Nat.le_of_ble_eq_true rfl) rfl (h_34 s6 ((stp t2))  hE6 ) s_kkd ?_
    rintro _ s8 ⟨rfl, hz8⟩ hE8
    show pr K K d tb_M60 116 [(5, vi (nnm t2 z2)), (4, vi (nkd t2 z2)), (3, vi z2), (2, vi (plc t)), (0, .ref 131), (1, vi x1)] [vi (kkd ((stp t2)))] s8 _
    refine pr_n (pc2 := 118) (lv2 := [(5, vi (nnm t2 z2)), (4, vi (nkd t2 z2)), (3, vi z2), (2, vi (plc t)), (0, .ref 131), (1, vi x1)]) (st2 := [vi 40, vi (kkd ((stp t2)))]) 1 (fun _ _ => rfl) ?_
    by_cases h9 : kkd ((stp t2)) ≠ 40
    · refine mq_t h9 ?_
      refine pr_if2t rfl rfl hz8 (i32_n rfl) h9 ?_
      refine pr_n (pc2 := 183) (lv2 := [(5, vi (nnm t2 z2)), (4, vi (nkd t2 z2)), (3, vi z2), (2, vi (plc t)), (0, .ref 131), (1, vi x1)]) (st2 := [vi (nkd t2 z2), .ref 131]) 2 (fun _ _ => rfl) ?_
      by_cases h10 : nkd t2 z2 ≠ 0
      · refine mq_t h10 ?_
        refine pr_if1t rfl rfl hz3 h10 ?_
        refine pr_n (pc2 := 192) (lv2 := [(5, vi (nnm t2 z2)), (4, vi (nkd t2 z2)), (3, vi z2), (2, vi (plc t)), (0, .ref 131), (1, vi x1)]) (st2 := [vi (plc t), vi 0, .ref 131]) 2 (fun _ _ => rfl) ?_
        exact pr_c1 (args := [vi 0, vi (plc t)]) (rest := []) rfl rfl rfl rfl (Nat.le_of_ble_eq_true rfl) rfl (h_41 s8 ((stp t2)) 0 (plc t) hE8 (by decide) hz1) chk0
      · refine mq_f h10 ?_
        refine pr_if1f rfl rfl hz3 h10 ?_
        refine pr_n (pc2 := 192) (lv2 := [(5, vi (nnm t2 z2)), (4, vi (nkd t2 z2)), (3, vi z2), (2, vi (plc t)), (0, .ref 131), (1, vi x1)]) (st2 := [vi (plc t), vi 1, .ref 131]) 3 (fun _ _ => rfl) ?_
        refine pr_s1 (args := [vi 1, vi (plc t)]) (rest := []) rfl rfl rfl rfl (Nat.le_of_ble_eq_true rfl) rfl (h_41 s8 ((stp t2)) 1 (plc t) hE8 (by decide) hz1) chk1 ?_
        rintro _ s12 ⟨rfl, _⟩ hE12
        show pr K K d tb_M60 195 [(5, vi (nnm t2 z2)), (4, vi (nkd t2 z2)), (3, vi z2), (2, vi (plc t)), (0, .ref 131), (1, vi x1)] [] s12 _
        refine pr_n (pc2 := 197) (lv2 := [(5, vi (nnm t2 z2)), (4, vi (nkd t2 z2)), (3, vi z2), (2, vi (plc t)), (0, .ref 131), (1, vi x1)]) (st2 := [.ref 131, .ref 131]) 2 (fun _ _ => rfl) ?_
        refine pr_gE (k2 := 131) (v := vl ((stp t2) 131 7)) hE12 rfl rfl rfl (by decide) rfl rfl rfl fun h13 => ?_
        have h13 : i64 ((stp t2) 131 7) := h13
        refine pr_n (pc2 := 203) (lv2 := [(5, vi (nnm t2 z2)), (4, vi (nkd t2 z2)), (3, vi z2), (2, vi (plc t)), (0, .ref 131), (1, vi x1)]) (st2 := [vi (nnm t2 z2), vl 1, vl ((stp t2) 131 7), .ref 131]) 2 (fun _ _ => rfl) ?_
        refine pr_lshl (a := 1) (b := nnm t2 z2) rfl ?_
        refine pr_l2 (a := (stp t2) 131 7) (b := lsl 1 (nnm t2 z2)) rfl rfl ?_
        show pr K K d tb_M60 205 [(5, vi (nnm t2 z2)), (4, vi (nkd t2 z2)), (3, vi z2), (2, vi (plc t)), (0, .ref 131), (1, vi x1)] [vl (lo ((stp t2) 131 7) (lsl 1 (nnm t2 z2))), .ref 131] s12 _
        refine pr_pE (k2 := 131) (z := lo ((stp t2) 131 7) (lsl 1 (nnm t2 z2))) hE12 rfl rfl rfl rfl (by decide) rfl (by decide) rfl (i64_in _) (fit_l _) rfl rfl rfl (fun e => absurd e.2 (by decide)) (iv_c (by decide)) fun s14 hE14 => ?_
        refine pr_n (pc2 := 209) (lv2 := [(5, vi (nnm t2 z2)), (4, vi (nkd t2 z2)), (3, vi z2), (2, vi (plc t)), (0, .ref 131), (1, vi x1)]) (st2 := [.ref 131]) 1 (fun _ _ => rfl) ?_
        refine pr_get (v := .ref C) rfl rfl rfl (by decide) (rv_ref (show s14.1 131 1 = ((C : Nat) : Int) from hE14.2.2.1)) fun _ => ?_
        refine pr_n (pc2 := 219) (lv2 := [(5, vi (nnm t2 z2)), (4, vi (nkd t2 z2)), (3, vi z2), (2, vi (plc t)), (0, .ref 131), (1, vi x1)]) (st2 := [vi ((-1)), vi ((-1)), vi (nnm t2 z2), vi 400, .ref C]) 4 (fun _ _ => rfl) ?_
        refine pr_s1 (args := [vi 400, vi (nnm t2 z2), vi ((-1)), vi ((-1))]) (rest := []) rfl rfl rfl (TK0 hC) (Nat.le_of_ble_eq_true rfl) rfl (h_54 s14 (up2 ((stp t2)) 131 7 (lo ((stp t2) 131 7) (lsl 1 (nnm t2 z2)))) 400 (nnm t2 z2) ((-1)) ((-1)) hE14 (i32_n rfl) hz4 (i32_n rfl) (i32_n rfl)) s_cad ?_
        rintro _ s15 ⟨rfl, hz15⟩ hE15
        show pr K K d tb_M60 222 [(5, vi (nnm t2 z2)), (4, vi (nkd t2 z2)), (3, vi z2), (2, vi (plc t)), (0, .ref 131), (1, vi x1)] [vi (cadz (up2 ((stp t2)) 131 7 (lo ((stp t2) 131 7) (lsl 1 (nnm t2 z2)))))] s15 _
        refine pr_reti rfl rfl ?_
        exact .inl ⟨_, cadz (up2 ((stp t2)) 131 7 (lo ((stp t2) 131 7) (lsl 1 (nnm t2 z2)))), _, rfl, ⟨rfl, hz15⟩, rfl, hE15⟩
    · refine mq_f h9 ?_
      refine pr_if2f rfl rfl hz8 (i32_n rfl) h9 ?_
      refine pr_n (pc2 := 126) (lv2 := [(5, vi (nnm t2 z2)), (4, vi (nkd t2 z2)), (3, vi z2), (2, vi (plc t)), (0, .ref 131), (1, vi x1)]) (st2 := [vi 6, vi (nkd t2 z2), .ref 131]) 3 (fun _ _ => rfl) ?_
      by_cases h16 : nkd t2 z2 ≠ 6
      · refine mq_t h16 ?_
        refine pr_if2t rfl rfl hz3 (i32_n rfl) h16 ?_
        refine pr_n (pc2 := 144) (lv2 := [(5, vi (nnm t2 z2)), (4, vi (nkd t2 z2)), (3, vi z2), (2, vi (plc t)), (0, .ref 131), (1, vi x1)]) (st2 := [vi (plc t), vi 0, .ref 131]) 2 (fun _ _ => rfl) ?_
        exact pr_c1 (args := [vi 0, vi (plc t)]) (rest := []) rfl rfl rfl rfl (Nat.le_of_ble_eq_true rfl) rfl (h_41 s8 ((stp t2)) 0 (plc t) hE8 (by decide) hz1) chk0
      · refine mq_f h16 ?_
        refine pr_if2f rfl rfl hz3 (i32_n rfl) h16 ?_
        refine pr_n (pc2 := 132) (lv2 := [(5, vi (nnm t2 z2)), (4, vi (nkd t2 z2)), (3, vi z2), (2, vi (plc t)), (0, .ref 131), (1, vi x1)]) (st2 := [.ref 131, vi (nnm t2 z2), .ref 131]) 2 (fun _ _ => rfl) ?_
        refine pr_gE (k2 := 131) (v := vi ((stp t2) 131 13)) hE8 rfl rfl rfl (by decide) rfl rfl rfl fun h18 => ?_
        have h18 : i32 ((stp t2) 131 13) := h18
        by_cases h19 : nnm t2 z2 = (stp t2) 131 13
        · refine mq_t h19 ?_
          refine pr_if2t rfl rfl hz4 h18 h19 ?_
          refine pr_n (pc2 := 144) (lv2 := [(5, vi (nnm t2 z2)), (4, vi (nkd t2 z2)), (3, vi z2), (2, vi (plc t)), (0, .ref 131), (1, vi x1)]) (st2 := [vi (plc t), vi 0, .ref 131]) 2 (fun _ _ => rfl) ?_
          exact pr_c1 (args := [vi 0, vi (plc t)]) (rest := []) rfl rfl rfl rfl (Nat.le_of_ble_eq_true rfl) rfl (h_41 s8 ((stp t2)) 0 (plc t) hE8 (by decide) hz1) chk0
        · refine mq_f h19 ?_
          refine pr_if2f rfl rfl hz4 h18 h19 ?_
          refine pr_n (pc2 := 144) (lv2 := [(5, vi (nnm t2 z2)), (4, vi (nkd t2 z2)), (3, vi z2), (2, vi (plc t)), (0, .ref 131), (1, vi x1)]) (st2 := [vi (plc t), vi 1, .ref 131]) 3 (fun _ _ => rfl) ?_
          refine pr_s1 (args := [vi 1, vi (plc t)]) (rest := []) rfl rfl rfl rfl (Nat.le_of_ble_eq_true rfl) rfl (h_41 s8 ((stp t2)) 1 (plc t) hE8 (by decide) hz1) chk1 ?_
          rintro _ s21 ⟨rfl, _⟩ hE21
          show pr K K d tb_M60 147 [(5, vi (nnm t2 z2)), (4, vi (nkd t2 z2)), (3, vi z2), (2, vi (plc t)), (0, .ref 131), (1, vi x1)] [] s21 _
          refine pr_n (pc2 := 151) (lv2 := [(5, vi (nnm t2 z2)), (4, vi (nkd t2 z2)), (3, vi z2), (2, vi (plc t)), (0, .ref 131), (1, vi x1)]) (st2 := [vi 20, vi x1, .ref 131]) 3 (fun _ _ => rfl) ?_
          by_cases h22 : 20 ≤ x1
          · refine mq_t h22 ?_
            refine pr_if2t rfl rfl hx1 (i32_n rfl) h22 ?_
            refine pr_n (pc2 := 160) (lv2 := [(5, vi (nnm t2 z2)), (4, vi (nkd t2 z2)), (3, vi z2), (2, vi (plc t)), (0, .ref 131), (1, vi x1)]) (st2 := [.ref 131, vi 0, .ref 131]) 2 (fun _ _ => rfl) ?_
            refine pr_get (v := .ref 137) rfl rfl rfl (by decide) (rv_ref (hE21.2.1 131 0 137 rfl)) fun _ => ?_
            refine pr_s1 (args := []) (rest := [vi 0, .ref 131]) rfl rfl rfl rfl (Nat.le_of_ble_eq_true rfl) rfl (h_40 s21 ((stp t2))  hE21 ) s_plc ?_
            rintro _ s23 ⟨rfl, hz23⟩ hE23
            show pr K K d tb_M60 166 [(5, vi (nnm t2 z2)), (4, vi (nkd t2 z2)), (3, vi z2), (2, vi (plc t)), (0, .ref 131), (1, vi x1)] [vi (plc ((stp t2))), vi 0, .ref 131] s23 _
            exact pr_c1 (args := [vi 0, vi (plc ((stp t2)))]) (rest := []) rfl rfl rfl rfl (Nat.le_of_ble_eq_true rfl) rfl (h_41 s23 ((stp t2)) 0 (plc ((stp t2))) hE23 (by decide) hz23) chk0
          · refine mq_f h22 ?_
            refine pr_if2f rfl rfl hx1 (i32_n rfl) h22 ?_
            refine pr_n (pc2 := 160) (lv2 := [(5, vi (nnm t2 z2)), (4, vi (nkd t2 z2)), (3, vi z2), (2, vi (plc t)), (0, .ref 131), (1, vi x1)]) (st2 := [.ref 131, vi 1, .ref 131]) 3 (fun _ _ => rfl) ?_
            refine pr_get (v := .ref 137) rfl rfl rfl (by decide) (rv_ref (hE21.2.1 131 0 137 rfl)) fun _ => ?_
            refine pr_s1 (args := []) (rest := [vi 1, .ref 131]) rfl rfl rfl rfl (Nat.le_of_ble_eq_true rfl) rfl (h_40 s21 ((stp t2))  hE21 ) s_plc ?_
            rintro _ s25 ⟨rfl, hz25⟩ hE25
            show pr K K d tb_M60 166 [(5, vi (nnm t2 z2)), (4, vi (nkd t2 z2)), (3, vi z2), (2, vi (plc t)), (0, .ref 131), (1, vi x1)] [vi (plc ((stp t2))), vi 1, .ref 131] s25 _
            refine pr_s1 (args := [vi 1, vi (plc ((stp t2)))]) (rest := []) rfl rfl rfl rfl (Nat.le_of_ble_eq_true rfl) rfl (h_41 s25 ((stp t2)) 1 (plc ((stp t2))) hE25 (by decide) hz25) chk1 ?_
            rintro _ s26 ⟨rfl, _⟩ hE26
            show pr K K d tb_M60 169 [(5, vi (nnm t2 z2)), (4, vi (nkd t2 z2)), (3, vi z2), (2, vi (plc t)), (0, .ref 131), (1, vi x1)] [] s26 _
            refine pr_n (pc2 := 175) (lv2 := [(5, vi (nnm t2 z2)), (4, vi (nkd t2 z2)), (3, vi z2), (2, vi (plc t)), (0, .ref 131), (1, vi x1)]) (st2 := [vi 1, vi x1, vi (plc t), vi (nnm t2 z2), .ref 131]) 5 (fun _ _ => rfl) ?_
            refine pr_add (a := x1) (b := 1) rfl ?_
            have h27 : i32 (x1 + 1) := by unfold i32 at *; omega
            show pr K K d tb_M60 176 [(5, vi (nnm t2 z2)), (4, vi (nkd t2 z2)), (3, vi z2), (2, vi (plc t)), (0, .ref 131), (1, vi x1)] [vi (x1 + 1), vi (plc t), vi (nnm t2 z2), .ref 131] s26 _
            refine pr_m1 (args := [vi (nnm t2 z2), vi (plc t), vi (x1 + 1)]) (rest := []) rfl rfl rfl rfl (Nat.le_of_ble_eq_true rfl) rfl (h_65 s26 ((stp t2)) (nnm t2 z2) (plc t) (x1 + 1) hE26 hz4 hz1 h27) ?_
            rintro _ z28 t28 s28 ⟨rfl, hz28⟩ hE28
            show pr K K d tb_M60 179 [(5, vi (nnm t2 z2)), (4, vi (nkd t2 z2)), (3, vi z2), (2, vi (plc t)), (0, .ref 131), (1, vi x1)] [vi z28] s28 _
            refine pr_reti rfl rfl ?_
            exact .inl ⟨_, z28, _, rfl, ⟨rfl, hz28⟩, rfl, hE28⟩
  · refine mq_f h7 ?_
    refine pr_if2f rfl rfl hz6 (i32_n rfl) h7 ?_
    refine pr_n (pc2 := 62) (lv2 := [(5, vi (nnm t2 z2)), (4, vi (nkd t2 z2)), (3, vi z2), (2, vi (plc t)), (0, .ref 131), (1, vi x1)]) (st2 := [vi 1, vi (nkd t2 z2), .ref 131]) 3 (fun _ _ => rfl) ?_
    by_cases h29 : nkd t2 z2 ≠ 1
    · refine mq_t h29 ?_
      refine pr_if2t rfl rfl hz3 (i32_n rfl) h29 ?_
      refine pr_n (pc2 := 71) (lv2 := [(5, vi (nnm t2 z2)), (4, vi (nkd t2 z2)), (3, vi z2), (2, vi (plc t)), (0, .ref 131), (1, vi x1)]) (st2 := [vi (plc t), vi 0, .ref 131]) 2 (fun _ _ => rfl) ?_
      exact pr_c1 (args := [vi 0, vi (plc t)]) (rest := []) rfl rfl rfl rfl (Nat.le_of_ble_eq_true rfl) rfl (h_41 s6 ((stp t2)) 0 (plc t) hE6 (by decide) hz1) chk0
    · refine mq_f h29 ?_
      refine pr_if2f rfl rfl hz3 (i32_n rfl) h29 ?_
      refine pr_n (pc2 := 71) (lv2 := [(5, vi (nnm t2 z2)), (4, vi (nkd t2 z2)), (3, vi z2), (2, vi (plc t)), (0, .ref 131), (1, vi x1)]) (st2 := [vi (plc t), vi 1, .ref 131]) 3 (fun _ _ => rfl) ?_
      refine pr_s1 (args := [vi 1, vi (plc t)]) (rest := []) rfl rfl rfl rfl (Nat.le_of_ble_eq_true rfl) rfl (h_41 s6 ((stp t2)) 1 (plc t) hE6 (by decide) hz1) chk1 ?_
      rintro _ s31 ⟨rfl, _⟩ hE31
      show pr K K d tb_M60 74 [(5, vi (nnm t2 z2)), (4, vi (nkd t2 z2)), (3, vi z2), (2, vi (plc t)), (0, .ref 131), (1, vi x1)] [] s31 _
      refine pr_n (pc2 := 76) (lv2 := [(5, vi (nnm t2 z2)), (4, vi (nkd t2 z2)), (3, vi z2), (2, vi (plc t)), (0, .ref 131), (1, vi x1)]) (st2 := [.ref 131, .ref 131]) 2 (fun _ _ => rfl) ?_
      refine pr_gE (k2 := 131) (v := vl ((stp t2) 131 7)) hE31 rfl rfl rfl (by decide) rfl rfl rfl fun h32 => ?_
      have h32 : i64 ((stp t2) 131 7) := h32
      refine pr_n (pc2 := 84) (lv2 := [(5, vi (nnm t2 z2)), (4, vi (nkd t2 z2)), (3, vi z2), (2, vi (plc t)), (0, .ref 131), (1, vi x1)]) (st2 := [vi (nnm t2 z2), vi 24, vl 1, vl ((stp t2) 131 7), .ref 131]) 3 (fun _ _ => rfl) ?_
      refine pr_i2 (a := 24) (b := nnm t2 z2) rfl rfl ?_
      show pr K K d tb_M60 85 [(5, vi (nnm t2 z2)), (4, vi (nkd t2 z2)), (3, vi z2), (2, vi (plc t)), (0, .ref 131), (1, vi x1)] [vi (ipl 24 (nnm t2 z2)), vl 1, vl ((stp t2) 131 7), .ref 131] s31 _
      have h33 : i32 (ipl 24 (nnm t2 z2)) := i32_in _
      refine pr_lshl (a := 1) (b := ipl 24 (nnm t2 z2)) rfl ?_
      refine pr_l2 (a := (stp t2) 131 7) (b := lsl 1 (ipl 24 (nnm t2 z2))) rfl rfl ?_
      show pr K K d tb_M60 87 [(5, vi (nnm t2 z2)), (4, vi (nkd t2 z2)), (3, vi z2), (2, vi (plc t)), (0, .ref 131), (1, vi x1)] [vl (lo ((stp t2) 131 7) (lsl 1 (ipl 24 (nnm t2 z2)))), .ref 131] s31 _
      refine pr_pE (k2 := 131) (z := lo ((stp t2) 131 7) (lsl 1 (ipl 24 (nnm t2 z2)))) hE31 rfl rfl rfl rfl (by decide) rfl (by decide) rfl (i64_in _) (fit_l _) rfl rfl rfl (fun e => absurd e.2 (by decide)) (iv_c (by decide)) fun s34 hE34 => ?_
      refine pr_n (pc2 := 91) (lv2 := [(5, vi (nnm t2 z2)), (4, vi (nkd t2 z2)), (3, vi z2), (2, vi (plc t)), (0, .ref 131), (1, vi x1)]) (st2 := [.ref 131]) 1 (fun _ _ => rfl) ?_
      refine pr_get (v := .ref C) rfl rfl rfl (by decide) (rv_ref (show s34.1 131 1 = ((C : Nat) : Int) from hE34.2.2.1)) fun _ => ?_
      refine pr_n (pc2 := 101) (lv2 := [(5, vi (nnm t2 z2)), (4, vi (nkd t2 z2)), (3, vi z2), (2, vi (plc t)), (0, .ref 131), (1, vi x1)]) (st2 := [vi x1, .ref 131, vi (nnm t2 z2), vi 401, .ref C]) 4 (fun _ _ => rfl) ?_
      refine pr_m1 (args := [vi x1]) (rest := [vi (nnm t2 z2), vi 401, .ref C]) rfl rfl rfl rfl (Nat.le_of_ble_eq_true rfl) rfl (h_64 s34 (up2 ((stp t2)) 131 7 (lo ((stp t2) 131 7) (lsl 1 (ipl 24 (nnm t2 z2))))) x1 hE34 hx1) ?_
      rintro _ z35 t35 s35 ⟨rfl, hz35⟩ hE35
      show pr K K d tb_M60 104 [(5, vi (nnm t2 z2)), (4, vi (nkd t2 z2)), (3, vi z2), (2, vi (plc t)), (0, .ref 131), (1, vi x1)] [vi z35, vi (nnm t2 z2), vi 401, .ref C] s35 _
      refine pr_n (pc2 := 105) (lv2 := [(5, vi (nnm t2 z2)), (4, vi (nkd t2 z2)), (3, vi z2), (2, vi (plc t)), (0, .ref 131), (1, vi x1)]) (st2 := [vi ((-1)), vi z35, vi (nnm t2 z2), vi 401, .ref C]) 1 (fun _ _ => rfl) ?_
      refine pr_s1 (args := [vi 401, vi (nnm t2 z2), vi z35, vi ((-1))]) (rest := []) rfl rfl rfl (TK0 hC) (Nat.le_of_ble_eq_true rfl) rfl (h_54 s35 t35 401 (nnm t2 z2) z35 ((-1)) hE35 (i32_n rfl) hz4 hz35 (i32_n rfl)) s_cad ?_
      rintro _ s36 ⟨rfl, hz36⟩ hE36
      show pr K K d tb_M60 108 [(5, vi (nnm t2 z2)), (4, vi (nkd t2 z2)), (3, vi z2), (2, vi (plc t)), (0, .ref 131), (1, vi x1)] [vi (cadz t35)] s36 _
      refine pr_reti rfl rfl ?_
      exact .inl ⟨_, cadz t35, _, rfl, ⟨rfl, hz36⟩, rfl, hE36⟩
set_option maxHeartbeats 20000000 in
set_option maxRecDepth 100000 in
theorem cu50_0 {N K d C : Nat} (h_34 : cT34 K d C) (h_35 : cT35 K d C) (h_43 : cT43 K d C) (h_45 : cT45 K d C) (ih : ∀ N2, N2 < N → cA50 N2 K d C) : cU50_0 N K d C := by
  intro s t y2 y1 hE hy2 hy1
  have hC : C = 99 ∨ C = 115 := hE.1
  rw [cG_50_2]
  unfold cM50_2
  refine pr_lt (pc2 := 3) (lv2 := [(2, vi y2), (0, .ref 131), (1, vi y1)]) (st2 := [vi y2]) (fun _ _ => rfl) fun N2 hN2 => ?_
  refine pr_n (pc2 := 6) (lv2 := [(2, vi y2), (0, .ref 131), (1, vi y1)]) (st2 := [vi 2000, vi y2]) 1 (fun _ _ => rfl) ?_
  by_cases h1 : 2000 ≤ y2
  · refine mq_t h1 ?_
    refine pr_if2t rfl rfl hy2 (i32_n rfl) h1 ?_
    refine pr_end (fun _ _ => rfl) ?_
    exact .inl ⟨_, 0, _, rfl, ⟨rfl, rfl⟩, rfl, hE⟩
  · refine mq_f h1 ?_
    refine pr_if2f rfl rfl hy2 (i32_n rfl) h1 ?_
    refine pr_n (pc2 := 10) (lv2 := [(2, vi y2), (0, .ref 131), (1, vi y1)]) (st2 := [.ref 131]) 1 (fun _ _ => rfl) ?_
    refine pr_get (v := .ref 137) rfl rfl rfl (by decide) (rv_ref (hE.2.1 131 0 137 rfl)) fun _ => ?_
    refine pr_s1 (args := []) (rest := []) rfl rfl rfl rfl (Nat.le_of_ble_eq_true rfl) rfl (h_34 s t  hE ) s_kkd ?_
    rintro _ s2 ⟨rfl, hz2⟩ hE2
    show pr N2 K d tb_M50 16 [(2, vi y2), (0, .ref 131), (1, vi y1)] [vi (kkd t)] s2 _
    refine pr_n (pc2 := 19) (lv2 := [(2, vi y2), (0, .ref 131), (1, vi y1)]) (st2 := [vi 301, vi (kkd t)]) 1 (fun _ _ => rfl) ?_
    by_cases h3 : kkd t ≠ 301
    · refine mq_t h3 ?_
      refine pr_if2t rfl rfl hz2 (i32_n rfl) h3 ?_
      refine pr_end (fun _ _ => rfl) ?_
      exact .inl ⟨_, 0, _, rfl, ⟨rfl, rfl⟩, rfl, hE2⟩
    · refine mq_f h3 ?_
      refine pr_if2f rfl rfl hz2 (i32_n rfl) h3 ?_
      refine pr_n (pc2 := 23) (lv2 := [(2, vi y2), (0, .ref 131), (1, vi y1)]) (st2 := [.ref 131]) 1 (fun _ _ => rfl) ?_
      refine pr_get (v := .ref 137) rfl rfl rfl (by decide) (rv_ref (hE2.2.1 131 0 137 rfl)) fun _ => ?_
      refine pr_s1 (args := []) (rest := []) rfl rfl rfl rfl (Nat.le_of_ble_eq_true rfl) rfl (h_35 s2 t  hE2 ) s_stp ?_
      rintro _ s4 ⟨rfl, _⟩ hE4
      show pr N2 K d tb_M50 29 [(2, vi y2), (0, .ref 131), (1, vi y1)] [] s4 _
      refine pr_n (pc2 := 31) (lv2 := [(2, vi y2), (0, .ref 131), (1, vi y1)]) (st2 := [vi y1, .ref 131]) 2 (fun _ _ => rfl) ?_
      refine pr_m1 (args := [vi y1]) (rest := []) rfl rfl rfl rfl (Nat.le_of_ble_eq_true rfl) rfl (h_45 s4 ((stp t)) y1 hE4 hy1) ?_
      rintro _ _ t5 s5 ⟨rfl, rfl⟩ hE5
      show pr N2 K d tb_M50 34 [(2, vi y2), (0, .ref 131), (1, vi y1)] [] s5 _
      refine pr_n (pc2 := 37) (lv2 := [(2, vi y2), (0, .ref 131), (1, vi y1)]) (st2 := [vi 59, .ref 131]) 2 (fun _ _ => rfl) ?_
      refine pr_m1 (args := [vi 59]) (rest := []) rfl rfl rfl rfl (Nat.le_of_ble_eq_true rfl) rfl (h_43 s5 t5 59 hE5 (i32_n rfl)) ?_
      rintro _ _ t6 s6 ⟨rfl, rfl⟩ hE6
      show pr N2 K d tb_M50 40 [(2, vi y2), (0, .ref 131), (1, vi y1)] [] s6 _
      refine pr_inc (a := y2) rfl rfl ?_
      have h7 : i32 (y2 + 1) := by unfold i32 at *; omega
      show pr N2 K d tb_M50 43 [(2, vi (y2 + 1)), (0, .ref 131), (1, vi y1)] [] s6 _
      refine pr_n (pc2 := 2) (lv2 := [(2, vi (y2 + 1)), (0, .ref 131), (1, vi y1)]) (st2 := []) 1 (fun _ _ => rfl) ?_
      exact ((ih N2 hN2)) s6 t6 (y2 + 1) y1 hE6 h7 hy1
theorem ca50 {K d C : Nat} (h_34 : cT34 K d C) (h_35 : cT35 K d C) (h_43 : cT43 K d C) (h_45 : cT45 K d C) : ∀ N, cA50 N K d C := by
  intro N
  induction N using Nat.strongRecOn with | ind N ih => ?_
  exact cu50_0 h_34 h_35 h_43 h_45 ih
set_option maxHeartbeats 20000000 in
set_option maxRecDepth 100000 in
theorem cm50 {K d C : Nat} (h_34 : cT34 K d C) (h_35 : cT35 K d C) (h_43 : cT43 K d C) (h_45 : cT45 K d C) : cT50 K (d + 1) C := by
  intro s t x1 hE hx1
  have hC : C = 99 ∨ C = 115 := hE.1
  refine pcr_of (M := tb_M50) rfl ?_
  show pr K K d tb_M50 0 [(0, .ref 131), (1, vi x1)] [] s _
  rw [cG_50]
  unfold cM50
  refine pr_n (pc2 := 2) (lv2 := [(2, vi 0), (0, .ref 131), (1, vi x1)]) (st2 := []) 2 (fun _ _ => rfl) ?_
  exact ((ca50 h_34 h_35 h_43 h_45 K)) s t 0 x1 hE (i32_n rfl) hx1
set_option maxHeartbeats 20000000 in
set_option maxRecDepth 100000 in
theorem cu51_0 {N K d C : Nat} (h_34 : cT34 K d C) (h_52 : cT52 K d C) (h_66 : cT66 K d C) (ih : ∀ N2, N2 < N → cA51 N2 K d C) : cU51_0 N K d C := by
  intro s t y5 y4 y3 y1 y2 hE hy5 hy4 hy3 hy1 hy2
  have hC : C = 99 ∨ C = 115 := hE.1
  rw [cG_51_8]
  unfold cM51_8
  refine pr_lt (pc2 := 10) (lv2 := [(5, vi y5), (4, vi y4), (3, vi y3), (0, .ref 131), (1, vi y1), (2, vi y2)]) (st2 := [vi y5]) (fun _ _ => rfl) fun N2 hN2 => ?_
  refine pr_n (pc2 := 13) (lv2 := [(5, vi y5), (4, vi y4), (3, vi y3), (0, .ref 131), (1, vi y1), (2, vi y2)]) (st2 := [vi 2000, vi y5]) 1 (fun _ _ => rfl) ?_
  by_cases h1 : 2000 ≤ y5
  · refine mq_t h1 ?_
    refine pr_if2t rfl rfl hy5 (i32_n rfl) h1 ?_
    refine pr_n (pc2 := 72) (lv2 := [(5, vi y5), (4, vi y4), (3, vi y3), (0, .ref 131), (1, vi y1), (2, vi y2)]) (st2 := [vi y4, .ref 131]) 2 (fun _ _ => rfl) ?_
    refine pr_pE (k2 := 131) (z := y4) hE rfl rfl rfl rfl (by decide) rfl (by decide) rfl (show i32 (y4) from hy4) (hf_int' _) rfl rfl rfl (fun e => absurd e.2 (by decide)) (iv_c (by decide)) fun s2 hE2 => ?_
    refine pr_n (pc2 := 78) (lv2 := [(5, vi y5), (4, vi y4), (3, vi y3), (0, .ref 131), (1, vi y1), (2, vi y2)]) (st2 := [vi y5, .ref 131]) 2 (fun _ _ => rfl) ?_
    refine pr_pE (k2 := 131) (z := y5) hE2 rfl rfl rfl rfl (by decide) rfl (by decide) rfl (show i32 (y5) from hy5) (hf_int' _) rfl rfl rfl (fun e => absurd e.2 (by decide)) (iv_c (by decide)) fun s3 hE3 => ?_
    refine pr_n (pc2 := 82) (lv2 := [(5, vi y5), (4, vi y4), (3, vi y3), (0, .ref 131), (1, vi y1), (2, vi y2)]) (st2 := [vi y3]) 1 (fun _ _ => rfl) ?_
    refine pr_reti rfl rfl ?_
    exact .inl ⟨_, y3, _, rfl, ⟨rfl, hy3⟩, rfl, hE3⟩
  · refine mq_f h1 ?_
    refine pr_if2f rfl rfl hy5 (i32_n rfl) h1 ?_
    refine pr_n (pc2 := 17) (lv2 := [(5, vi y5), (4, vi y4), (3, vi y3), (0, .ref 131), (1, vi y1), (2, vi y2)]) (st2 := [.ref 131]) 1 (fun _ _ => rfl) ?_
    refine pr_get (v := .ref 137) rfl rfl rfl (by decide) (rv_ref (hE.2.1 131 0 137 rfl)) fun _ => ?_
    refine pr_s1 (args := []) (rest := []) rfl rfl rfl rfl (Nat.le_of_ble_eq_true rfl) rfl (h_34 s t  hE ) s_kkd ?_
    rintro _ s4 ⟨rfl, hz4⟩ hE4
    show pr N2 K d tb_M51 23 [(5, vi y5), (4, vi y4), (3, vi y3), (0, .ref 131), (1, vi y1), (2, vi y2)] [vi (kkd t)] s4 _
    refine pr_n (pc2 := 24) (lv2 := [(5, vi y5), (4, vi y4), (3, vi y3), (0, .ref 131), (1, vi y1), (2, vi y2)]) (st2 := [vi y1, vi (kkd t)]) 1 (fun _ _ => rfl) ?_
    by_cases h5 : kkd t = y1
    · refine mq_t h5 ?_
      refine pr_if2t rfl rfl hz4 hy1 h5 ?_
      refine pr_n (pc2 := 72) (lv2 := [(5, vi y5), (4, vi y4), (3, vi y3), (0, .ref 131), (1, vi y1), (2, vi y2)]) (st2 := [vi y4, .ref 131]) 2 (fun _ _ => rfl) ?_
      refine pr_pE (k2 := 131) (z := y4) hE4 rfl rfl rfl rfl (by decide) rfl (by decide) rfl (show i32 (y4) from hy4) (hf_int' _) rfl rfl rfl (fun e => absurd e.2 (by decide)) (iv_c (by decide)) fun s6 hE6 => ?_
      refine pr_n (pc2 := 78) (lv2 := [(5, vi y5), (4, vi y4), (3, vi y3), (0, .ref 131), (1, vi y1), (2, vi y2)]) (st2 := [vi y5, .ref 131]) 2 (fun _ _ => rfl) ?_
      refine pr_pE (k2 := 131) (z := y5) hE6 rfl rfl rfl rfl (by decide) rfl (by decide) rfl (show i32 (y5) from hy5) (hf_int' _) rfl rfl rfl (fun e => absurd e.2 (by decide)) (iv_c (by decide)) fun s7 hE7 => ?_
      refine pr_n (pc2 := 82) (lv2 := [(5, vi y5), (4, vi y4), (3, vi y3), (0, .ref 131), (1, vi y1), (2, vi y2)]) (st2 := [vi y3]) 1 (fun _ _ => rfl) ?_
      refine pr_reti rfl rfl ?_
      exact .inl ⟨_, y3, _, rfl, ⟨rfl, hy3⟩, rfl, hE7⟩
    · refine mq_f h5 ?_
      refine pr_if2f rfl rfl hz4 hy1 h5 ?_
      refine pr_n (pc2 := 30) (lv2 := [(5, vi y5), (4, vi y4), (3, vi y3), (0, .ref 131), (1, vi y1), (2, vi y2)]) (st2 := [vi 1, vi y2, .ref 131]) 3 (fun _ _ => rfl) ?_
      refine pr_i2 (a := y2) (b := 1) rfl rfl ?_
      show pr N2 K d tb_M51 31 [(5, vi y5), (4, vi y4), (3, vi y3), (0, .ref 131), (1, vi y1), (2, vi y2)] [vi (ipl y2 1), .ref 131] s4 _
      have h8 : i32 (ipl y2 1) := i32_in _
      refine pr_m1 (args := [vi (ipl y2 1)]) (rest := []) rfl rfl rfl rfl (Nat.le_of_ble_eq_true rfl) rfl (h_52 s4 t (ipl y2 1) hE4 h8) ?_
      rintro _ z9 t9 s9 ⟨rfl, hz9⟩ hE9
      show pr N2 K d tb_M51 34 [(5, vi y5), (4, vi y4), (3, vi y3), (0, .ref 131), (1, vi y1), (2, vi y2)] [vi z9] s9 _
      refine pr_n (pc2 := 37) (lv2 := [(6, vi z9), (5, vi y5), (4, vi y4), (3, vi y3), (0, .ref 131), (1, vi y1), (2, vi y2)]) (st2 := [.ref 131]) 2 (fun _ _ => rfl) ?_
      refine pr_get (v := .ref C) rfl rfl rfl (by decide) (rv_ref (show s9.1 131 1 = ((C : Nat) : Int) from hE9.2.2.1)) fun _ => ?_
      refine pr_n (pc2 := 44) (lv2 := [(6, vi z9), (5, vi y5), (4, vi y4), (3, vi y3), (0, .ref 131), (1, vi y1), (2, vi y2)]) (st2 := [vi z9, vi y4, .ref C]) 2 (fun _ _ => rfl) ?_
      refine pr_s1 (args := [vi y4, vi z9]) (rest := []) rfl rfl rfl (TK0 hC) (Nat.le_of_ble_eq_true rfl) rfl (h_66 s9 t9 y4 z9 hE9 hy4 hz9) s_lnk ?_
      rintro _ s10 ⟨rfl, _⟩ hE10
      show pr N2 K d tb_M51 47 [(6, vi z9), (5, vi y5), (4, vi y4), (3, vi y3), (0, .ref 131), (1, vi y1), (2, vi y2)] [] s10 _
      refine pr_n (pc2 := 49) (lv2 := [(6, vi z9), (5, vi y5), (4, vi y4), (3, vi y3), (0, .ref 131), (1, vi y1), (2, vi y2)]) (st2 := [vi y5]) 1 (fun _ _ => rfl) ?_
      by_cases h11 : y5 ≠ 0
      · refine mq_t h11 ?_
        refine pr_if1t rfl rfl hy5 h11 ?_
        refine pr_n (pc2 := 63) (lv2 := [(4, vi z9), (3, vi y3), (6, vi z9), (5, vi y5), (0, .ref 131), (1, vi y1), (2, vi y2)]) (st2 := []) 4 (fun _ _ => rfl) ?_
        refine pr_inc (a := y5) rfl rfl ?_
        have h12 : i32 (y5 + 1) := by unfold i32 at *; omega
        show pr N2 K d tb_M51 66 [(5, vi (y5 + 1)), (4, vi z9), (3, vi y3), (6, vi z9), (0, .ref 131), (1, vi y1), (2, vi y2)] [] s10 _
        refine pr_n (pc2 := 8) (lv2 := [(5, vi (y5 + 1)), (4, vi z9), (3, vi y3), (6, vi z9), (0, .ref 131), (1, vi y1), (2, vi y2)]) (st2 := []) 1 (fun _ _ => rfl) ?_
        exact ((ih N2 hN2).2) s10 ((lnk t9 y4 z9)) (y5 + 1) z9 y3 z9 y1 y2 hE10 h12 hz9 hy3 hz9 hy1 hy2
      · refine mq_f h11 ?_
        refine pr_if1f rfl rfl hy5 h11 ?_
        refine pr_n (pc2 := 63) (lv2 := [(4, vi z9), (3, vi z9), (6, vi z9), (5, vi y5), (0, .ref 131), (1, vi y1), (2, vi y2)]) (st2 := []) 5 (fun _ _ => rfl) ?_
        refine pr_inc (a := y5) rfl rfl ?_
        have h13 : i32 (y5 + 1) := by unfold i32 at *; omega
        show pr N2 K d tb_M51 66 [(5, vi (y5 + 1)), (4, vi z9), (3, vi z9), (6, vi z9), (0, .ref 131), (1, vi y1), (2, vi y2)] [] s10 _
        refine pr_n (pc2 := 8) (lv2 := [(5, vi (y5 + 1)), (4, vi z9), (3, vi z9), (6, vi z9), (0, .ref 131), (1, vi y1), (2, vi y2)]) (st2 := []) 1 (fun _ _ => rfl) ?_
        exact ((ih N2 hN2).2) s10 ((lnk t9 y4 z9)) (y5 + 1) z9 z9 z9 y1 y2 hE10 h13 hz9 hz9 hz9 hy1 hy2
set_option maxHeartbeats 20000000 in
set_option maxRecDepth 100000 in
theorem cu51_1 {N K d C : Nat} (h_34 : cT34 K d C) (h_52 : cT52 K d C) (h_66 : cT66 K d C) (ih : ∀ N2, N2 < N → cA51 N2 K d C) : cU51_1 N K d C := by
  intro s t y5 y4 y3 y6 y1 y2 hE hy5 hy4 hy3 hy6 hy1 hy2
  have hC : C = 99 ∨ C = 115 := hE.1
  rw [cG_51_8]
  unfold cM51_8
  refine pr_lt (pc2 := 10) (lv2 := [(5, vi y5), (4, vi y4), (3, vi y3), (6, vi y6), (0, .ref 131), (1, vi y1), (2, vi y2)]) (st2 := [vi y5]) (fun _ _ => rfl) fun N2 hN2 => ?_
  refine pr_n (pc2 := 13) (lv2 := [(5, vi y5), (4, vi y4), (3, vi y3), (6, vi y6), (0, .ref 131), (1, vi y1), (2, vi y2)]) (st2 := [vi 2000, vi y5]) 1 (fun _ _ => rfl) ?_
  by_cases h1 : 2000 ≤ y5
  · refine mq_t h1 ?_
    refine pr_if2t rfl rfl hy5 (i32_n rfl) h1 ?_
    refine pr_n (pc2 := 72) (lv2 := [(5, vi y5), (4, vi y4), (3, vi y3), (6, vi y6), (0, .ref 131), (1, vi y1), (2, vi y2)]) (st2 := [vi y4, .ref 131]) 2 (fun _ _ => rfl) ?_
    refine pr_pE (k2 := 131) (z := y4) hE rfl rfl rfl rfl (by decide) rfl (by decide) rfl (show i32 (y4) from hy4) (hf_int' _) rfl rfl rfl (fun e => absurd e.2 (by decide)) (iv_c (by decide)) fun s2 hE2 => ?_
    refine pr_n (pc2 := 78) (lv2 := [(5, vi y5), (4, vi y4), (3, vi y3), (6, vi y6), (0, .ref 131), (1, vi y1), (2, vi y2)]) (st2 := [vi y5, .ref 131]) 2 (fun _ _ => rfl) ?_
    refine pr_pE (k2 := 131) (z := y5) hE2 rfl rfl rfl rfl (by decide) rfl (by decide) rfl (show i32 (y5) from hy5) (hf_int' _) rfl rfl rfl (fun e => absurd e.2 (by decide)) (iv_c (by decide)) fun s3 hE3 => ?_
    refine pr_n (pc2 := 82) (lv2 := [(5, vi y5), (4, vi y4), (3, vi y3), (6, vi y6), (0, .ref 131), (1, vi y1), (2, vi y2)]) (st2 := [vi y3]) 1 (fun _ _ => rfl) ?_
    refine pr_reti rfl rfl ?_
    exact .inl ⟨_, y3, _, rfl, ⟨rfl, hy3⟩, rfl, hE3⟩
  · refine mq_f h1 ?_
    refine pr_if2f rfl rfl hy5 (i32_n rfl) h1 ?_
    refine pr_n (pc2 := 17) (lv2 := [(5, vi y5), (4, vi y4), (3, vi y3), (6, vi y6), (0, .ref 131), (1, vi y1), (2, vi y2)]) (st2 := [.ref 131]) 1 (fun _ _ => rfl) ?_
    refine pr_get (v := .ref 137) rfl rfl rfl (by decide) (rv_ref (hE.2.1 131 0 137 rfl)) fun _ => ?_
    refine pr_s1 (args := []) (rest := []) rfl rfl rfl rfl (Nat.le_of_ble_eq_true rfl) rfl (h_34 s t  hE ) s_kkd ?_
    rintro _ s4 ⟨rfl, hz4⟩ hE4
    show pr N2 K d tb_M51 23 [(5, vi y5), (4, vi y4), (3, vi y3), (6, vi y6), (0, .ref 131), (1, vi y1), (2, vi y2)] [vi (kkd t)] s4 _
    refine pr_n (pc2 := 24) (lv2 := [(5, vi y5), (4, vi y4), (3, vi y3), (6, vi y6), (0, .ref 131), (1, vi y1), (2, vi y2)]) (st2 := [vi y1, vi (kkd t)]) 1 (fun _ _ => rfl) ?_
    by_cases h5 : kkd t = y1
    · refine mq_t h5 ?_
      refine pr_if2t rfl rfl hz4 hy1 h5 ?_
      refine pr_n (pc2 := 72) (lv2 := [(5, vi y5), (4, vi y4), (3, vi y3), (6, vi y6), (0, .ref 131), (1, vi y1), (2, vi y2)]) (st2 := [vi y4, .ref 131]) 2 (fun _ _ => rfl) ?_
      refine pr_pE (k2 := 131) (z := y4) hE4 rfl rfl rfl rfl (by decide) rfl (by decide) rfl (show i32 (y4) from hy4) (hf_int' _) rfl rfl rfl (fun e => absurd e.2 (by decide)) (iv_c (by decide)) fun s6 hE6 => ?_
      refine pr_n (pc2 := 78) (lv2 := [(5, vi y5), (4, vi y4), (3, vi y3), (6, vi y6), (0, .ref 131), (1, vi y1), (2, vi y2)]) (st2 := [vi y5, .ref 131]) 2 (fun _ _ => rfl) ?_
      refine pr_pE (k2 := 131) (z := y5) hE6 rfl rfl rfl rfl (by decide) rfl (by decide) rfl (show i32 (y5) from hy5) (hf_int' _) rfl rfl rfl (fun e => absurd e.2 (by decide)) (iv_c (by decide)) fun s7 hE7 => ?_
      refine pr_n (pc2 := 82) (lv2 := [(5, vi y5), (4, vi y4), (3, vi y3), (6, vi y6), (0, .ref 131), (1, vi y1), (2, vi y2)]) (st2 := [vi y3]) 1 (fun _ _ => rfl) ?_
      refine pr_reti rfl rfl ?_
      exact .inl ⟨_, y3, _, rfl, ⟨rfl, hy3⟩, rfl, hE7⟩
    · refine mq_f h5 ?_
      refine pr_if2f rfl rfl hz4 hy1 h5 ?_
      refine pr_n (pc2 := 30) (lv2 := [(5, vi y5), (4, vi y4), (3, vi y3), (6, vi y6), (0, .ref 131), (1, vi y1), (2, vi y2)]) (st2 := [vi 1, vi y2, .ref 131]) 3 (fun _ _ => rfl) ?_
      refine pr_i2 (a := y2) (b := 1) rfl rfl ?_
      show pr N2 K d tb_M51 31 [(5, vi y5), (4, vi y4), (3, vi y3), (6, vi y6), (0, .ref 131), (1, vi y1), (2, vi y2)] [vi (ipl y2 1), .ref 131] s4 _
      have h8 : i32 (ipl y2 1) := i32_in _
      refine pr_m1 (args := [vi (ipl y2 1)]) (rest := []) rfl rfl rfl rfl (Nat.le_of_ble_eq_true rfl) rfl (h_52 s4 t (ipl y2 1) hE4 h8) ?_
      rintro _ z9 t9 s9 ⟨rfl, hz9⟩ hE9
      show pr N2 K d tb_M51 34 [(5, vi y5), (4, vi y4), (3, vi y3), (6, vi y6), (0, .ref 131), (1, vi y1), (2, vi y2)] [vi z9] s9 _
      refine pr_n (pc2 := 37) (lv2 := [(6, vi z9), (5, vi y5), (4, vi y4), (3, vi y3), (0, .ref 131), (1, vi y1), (2, vi y2)]) (st2 := [.ref 131]) 2 (fun _ _ => rfl) ?_
      refine pr_get (v := .ref C) rfl rfl rfl (by decide) (rv_ref (show s9.1 131 1 = ((C : Nat) : Int) from hE9.2.2.1)) fun _ => ?_
      refine pr_n (pc2 := 44) (lv2 := [(6, vi z9), (5, vi y5), (4, vi y4), (3, vi y3), (0, .ref 131), (1, vi y1), (2, vi y2)]) (st2 := [vi z9, vi y4, .ref C]) 2 (fun _ _ => rfl) ?_
      refine pr_s1 (args := [vi y4, vi z9]) (rest := []) rfl rfl rfl (TK0 hC) (Nat.le_of_ble_eq_true rfl) rfl (h_66 s9 t9 y4 z9 hE9 hy4 hz9) s_lnk ?_
      rintro _ s10 ⟨rfl, _⟩ hE10
      show pr N2 K d tb_M51 47 [(6, vi z9), (5, vi y5), (4, vi y4), (3, vi y3), (0, .ref 131), (1, vi y1), (2, vi y2)] [] s10 _
      refine pr_n (pc2 := 49) (lv2 := [(6, vi z9), (5, vi y5), (4, vi y4), (3, vi y3), (0, .ref 131), (1, vi y1), (2, vi y2)]) (st2 := [vi y5]) 1 (fun _ _ => rfl) ?_
      by_cases h11 : y5 ≠ 0
      · refine mq_t h11 ?_
        refine pr_if1t rfl rfl hy5 h11 ?_
        refine pr_n (pc2 := 63) (lv2 := [(4, vi z9), (3, vi y3), (6, vi z9), (5, vi y5), (0, .ref 131), (1, vi y1), (2, vi y2)]) (st2 := []) 4 (fun _ _ => rfl) ?_
        refine pr_inc (a := y5) rfl rfl ?_
        have h12 : i32 (y5 + 1) := by unfold i32 at *; omega
        show pr N2 K d tb_M51 66 [(5, vi (y5 + 1)), (4, vi z9), (3, vi y3), (6, vi z9), (0, .ref 131), (1, vi y1), (2, vi y2)] [] s10 _
        refine pr_n (pc2 := 8) (lv2 := [(5, vi (y5 + 1)), (4, vi z9), (3, vi y3), (6, vi z9), (0, .ref 131), (1, vi y1), (2, vi y2)]) (st2 := []) 1 (fun _ _ => rfl) ?_
        exact ((ih N2 hN2).2) s10 ((lnk t9 y4 z9)) (y5 + 1) z9 y3 z9 y1 y2 hE10 h12 hz9 hy3 hz9 hy1 hy2
      · refine mq_f h11 ?_
        refine pr_if1f rfl rfl hy5 h11 ?_
        refine pr_n (pc2 := 63) (lv2 := [(4, vi z9), (3, vi z9), (6, vi z9), (5, vi y5), (0, .ref 131), (1, vi y1), (2, vi y2)]) (st2 := []) 5 (fun _ _ => rfl) ?_
        refine pr_inc (a := y5) rfl rfl ?_
        have h13 : i32 (y5 + 1) := by unfold i32 at *; omega
        show pr N2 K d tb_M51 66 [(5, vi (y5 + 1)), (4, vi z9), (3, vi z9), (6, vi z9), (0, .ref 131), (1, vi y1), (2, vi y2)] [] s10 _
        refine pr_n (pc2 := 8) (lv2 := [(5, vi (y5 + 1)), (4, vi z9), (3, vi z9), (6, vi z9), (0, .ref 131), (1, vi y1), (2, vi y2)]) (st2 := []) 1 (fun _ _ => rfl) ?_
        exact ((ih N2 hN2).2) s10 ((lnk t9 y4 z9)) (y5 + 1) z9 z9 z9 y1 y2 hE10 h13 hz9 hz9 hz9 hy1 hy2
theorem ca51 {K d C : Nat} (h_34 : cT34 K d C) (h_52 : cT52 K d C) (h_66 : cT66 K d C) : ∀ N, cA51 N K d C := by
  intro N
  induction N using Nat.strongRecOn with | ind N ih => ?_
  exact ⟨cu51_0 h_34 h_52 h_66 ih, cu51_1 h_34 h_52 h_66 ih⟩
set_option maxHeartbeats 20000000 in
set_option maxRecDepth 100000 in
theorem cm51 {K d C : Nat} (h_34 : cT34 K d C) (h_52 : cT52 K d C) (h_66 : cT66 K d C) : cT51 K (d + 1) C := by
  intro s t x1 x2 hE hx1 hx2
  have hC : C = 99 ∨ C = 115 := hE.1
  refine pcr_of (M := tb_M51) rfl ?_
  show pr K K d tb_M51 0 [(0, .ref 131), (1, vi x1), (2, vi x2)] [] s _
  rw [cG_51]
  unfold cM51
  refine pr_n (pc2 := 8) (lv2 := [(5, vi 0), (4, vi ((-1))), (3, vi ((-1))), (0, .ref 131), (1, vi x1), (2, vi x2)]) (st2 := []) 6 (fun _ _ => rfl) ?_
  exact ((ca51 h_34 h_52 h_66 K).1) s t 0 ((-1)) ((-1)) x1 x2 hE (i32_n rfl) (i32_n rfl) (i32_n rfl) hx1 hx2
set_option maxHeartbeats 20000000 in
set_option maxRecDepth 100000 in
theorem cm53 {K d C : Nat} (h_22 : cT22 K d C) (h_43 : cT43 K d C) (h_50 : cT50 K d C) (h_51 : cT51 K d C) (h_54 : cT54 K d C) : cT53 K (d + 1) C := by
  intro s t x1 x2 hE hx1 hx2
  have hC : C = 99 ∨ C = 115 := hE.1
  refine pcr_of (M := tb_M53) rfl ?_
  show pr K K d tb_M53 0 [(0, .ref 131), (1, vi x1), (2, vi x2)] [] s _
  rw [cG_53]
  unfold cM53
  refine pr_n (pc2 := 3) (lv2 := [(0, .ref 131), (1, vi x1), (2, vi x2)]) (st2 := [vi 123, .ref 131]) 2 (fun _ _ => rfl) ?_
  refine pr_m1 (args := [vi 123]) (rest := []) rfl rfl rfl rfl (Nat.le_of_ble_eq_true rfl) rfl (h_43 s t 123 hE (i32_n rfl)) ?_
  rintro _ _ t1 s1 ⟨rfl, rfl⟩ hE1
  show pr K K d tb_M53 6 [(0, .ref 131), (1, vi x1), (2, vi x2)] [] s1 _
  refine pr_n (pc2 := 8) (lv2 := [(0, .ref 131), (1, vi x1), (2, vi x2)]) (st2 := [vi x2, .ref 131]) 2 (fun _ _ => rfl) ?_
  refine pr_m1 (args := [vi x2]) (rest := []) rfl rfl rfl rfl (Nat.le_of_ble_eq_true rfl) rfl (h_50 s1 t1 x2 hE1 hx2) ?_
  rintro _ _ t2 s2 ⟨rfl, rfl⟩ hE2
  show pr K K d tb_M53 11 [(0, .ref 131), (1, vi x1), (2, vi x2)] [] s2 _
  refine pr_n (pc2 := 15) (lv2 := [(0, .ref 131), (1, vi x1), (2, vi x2)]) (st2 := [vi x1, vi 125, .ref 131]) 3 (fun _ _ => rfl) ?_
  refine pr_m1 (args := [vi 125, vi x1]) (rest := []) rfl rfl rfl rfl (Nat.le_of_ble_eq_true rfl) rfl (h_51 s2 t2 125 x1 hE2 (i32_n rfl) hx1) ?_
  rintro _ z3 t3 s3 ⟨rfl, hz3⟩ hE3
  show pr K K d tb_M53 18 [(0, .ref 131), (1, vi x1), (2, vi x2)] [vi z3] s3 _
  refine pr_n (pc2 := 20) (lv2 := [(3, vi z3), (0, .ref 131), (1, vi x1), (2, vi x2)]) (st2 := [.ref 131]) 2 (fun _ _ => rfl) ?_
  refine pr_gE (k2 := 131) (v := vi (t3 131 16)) hE3 rfl rfl rfl (by decide) rfl rfl rfl fun h4 => ?_
  have h4 : i32 (t3 131 16) := h4
  refine pr_n (pc2 := 28) (lv2 := [(4, vi (t3 131 16)), (3, vi z3), (0, .ref 131), (1, vi x1), (2, vi x2)]) (st2 := [vi 125, .ref 131]) 3 (fun _ _ => rfl) ?_
  refine pr_m1 (args := [vi 125]) (rest := []) rfl rfl rfl rfl (Nat.le_of_ble_eq_true rfl) rfl (h_43 s3 t3 125 hE3 (i32_n rfl)) ?_
  rintro _ _ t5 s5 ⟨rfl, rfl⟩ hE5
  show pr K K d tb_M53 31 [(4, vi (t3 131 16)), (3, vi z3), (0, .ref 131), (1, vi x1), (2, vi x2)] [] s5 _
  refine pr_n (pc2 := 32) (lv2 := [(4, vi (t3 131 16)), (3, vi z3), (0, .ref 131), (1, vi x1), (2, vi x2)]) (st2 := [.ref 131]) 1 (fun _ _ => rfl) ?_
  refine pr_get (v := .ref C) rfl rfl rfl (by decide) (rv_ref (show s5.1 131 1 = ((C : Nat) : Int) from hE5.2.2.1)) fun _ => ?_
  refine pr_get (v := .ref (C + 6)) rfl rfl (TK0 hC) (by decide) (rv_ref (hE5.2.1 C 5 (C + 6) (rcK hC (by omega)))) fun _ => ?_
  refine pr_n (pc2 := 39) (lv2 := [(4, vi (t3 131 16)), (3, vi z3), (0, .ref 131), (1, vi x1), (2, vi x2)]) (st2 := [vi x2, .ref (C + 6)]) 1 (fun _ _ => rfl) ?_
  refine pr_s1 (args := [vi x2]) (rest := []) rfl rfl rfl (TK6 hC) (Nat.le_of_ble_eq_true rfl) rfl (h_22 s5 t5 x2 hE5 hx2) s_ncu ?_
  rintro _ s6 ⟨rfl, _⟩ hE6
  show pr K K d tb_M53 42 [(4, vi (t3 131 16)), (3, vi z3), (0, .ref 131), (1, vi x1), (2, vi x2)] [] s6 _
  refine pr_n (pc2 := 45) (lv2 := [(4, vi (t3 131 16)), (3, vi z3), (0, .ref 131), (1, vi x1), (2, vi x2)]) (st2 := [vi 1, vi (t3 131 16)]) 2 (fun _ _ => rfl) ?_
  by_cases h7 : t3 131 16 ≠ 1
  · refine mq_t h7 ?_
    refine pr_if2t rfl rfl h4 (i32_n rfl) h7 ?_
    refine pr_n (pc2 := 51) (lv2 := [(4, vi (t3 131 16)), (3, vi z3), (0, .ref 131), (1, vi x1), (2, vi x2)]) (st2 := [.ref 131]) 1 (fun _ _ => rfl) ?_
    refine pr_get (v := .ref C) rfl rfl rfl (by decide) (rv_ref (show s6.1 131 1 = ((C : Nat) : Int) from hE6.2.2.1)) fun _ => ?_
    refine pr_n (pc2 := 56) (lv2 := [(4, vi (t3 131 16)), (3, vi z3), (0, .ref 131), (1, vi x1), (2, vi x2)]) (st2 := [vi (t3 131 16), .ref C]) 1 (fun _ _ => rfl) ?_
    by_cases h8 : t3 131 16 ≠ 0
    · refine mq_t h8 ?_
      refine pr_if1t rfl rfl h4 h8 ?_
      refine pr_n (pc2 := 71) (lv2 := [(4, vi (t3 131 16)), (3, vi z3), (0, .ref 131), (1, vi x1), (2, vi x2)]) (st2 := [vi ((-1)), vi ((-1)), vi z3, vi 408, .ref C]) 4 (fun _ _ => rfl) ?_
      refine pr_s1 (args := [vi 408, vi z3, vi ((-1)), vi ((-1))]) (rest := []) rfl rfl rfl (TK0 hC) (Nat.le_of_ble_eq_true rfl) rfl (h_54 s6 ((ncu t5 x2)) 408 z3 ((-1)) ((-1)) hE6 (i32_n rfl) hz3 (i32_n rfl) (i32_n rfl)) s_cad ?_
      rintro _ s9 ⟨rfl, hz9⟩ hE9
      show pr K K d tb_M53 74 [(4, vi (t3 131 16)), (3, vi z3), (0, .ref 131), (1, vi x1), (2, vi x2)] [vi (cadz ((ncu t5 x2)))] s9 _
      refine pr_reti rfl rfl ?_
      exact .inl ⟨_, cadz ((ncu t5 x2)), _, rfl, ⟨rfl, hz9⟩, rfl, hE9⟩
    · refine mq_f h8 ?_
      refine pr_if1f rfl rfl h4 h8 ?_
      refine pr_n (pc2 := 71) (lv2 := [(4, vi (t3 131 16)), (3, vi z3), (0, .ref 131), (1, vi x1), (2, vi x2)]) (st2 := [vi ((-1)), vi ((-1)), vi z3, vi 314, .ref C]) 5 (fun _ _ => rfl) ?_
      refine pr_s1 (args := [vi 314, vi z3, vi ((-1)), vi ((-1))]) (rest := []) rfl rfl rfl (TK0 hC) (Nat.le_of_ble_eq_true rfl) rfl (h_54 s6 ((ncu t5 x2)) 314 z3 ((-1)) ((-1)) hE6 (i32_n rfl) hz3 (i32_n rfl) (i32_n rfl)) s_cad ?_
      rintro _ s10 ⟨rfl, hz10⟩ hE10
      show pr K K d tb_M53 74 [(4, vi (t3 131 16)), (3, vi z3), (0, .ref 131), (1, vi x1), (2, vi x2)] [vi (cadz ((ncu t5 x2)))] s10 _
      refine pr_reti rfl rfl ?_
      exact .inl ⟨_, cadz ((ncu t5 x2)), _, rfl, ⟨rfl, hz10⟩, rfl, hE10⟩
  · refine mq_f h7 ?_
    refine pr_if2f rfl rfl h4 (i32_n rfl) h7 ?_
    refine pr_n (pc2 := 49) (lv2 := [(4, vi (t3 131 16)), (3, vi z3), (0, .ref 131), (1, vi x1), (2, vi x2)]) (st2 := [vi z3]) 1 (fun _ _ => rfl) ?_
    refine pr_reti rfl rfl ?_
    exact .inl ⟨_, z3, _, rfl, ⟨rfl, hz3⟩, rfl, hE6⟩
set_option maxHeartbeats 20000000 in
set_option maxRecDepth 100000 in
theorem cm52 {K d C : Nat} (h_34 : cT34 K d C) (h_35 : cT35 K d C) (h_40 : cT40 K d C) (h_41 : cT41 K d C) (h_43 : cT43 K d C) (h_52 : cT52 K d C) (h_53 : cT53 K d C) (h_54 : cT54 K d C) (h_55 : cT55 K d C) (h_56 : cT56 K d C) (h_59 : cT59 K d C) (h_70 : cT70 K d C) (h_71 : cT71 K d C) : cT52 K (d + 1) C := by
  intro s t x1 hE hx1
  have hC : C = 99 ∨ C = 115 := hE.1
  refine pcr_of (M := tb_M52) rfl ?_
  show pr K K d tb_M52 0 [(0, .ref 131), (1, vi x1)] [] s _
  rw [cG_52]
  unfold cM52
  refine pr_n (pc2 := 4) (lv2 := [(0, .ref 131), (1, vi x1)]) (st2 := [vi 20, vi x1, .ref 131]) 3 (fun _ _ => rfl) ?_
  by_cases h1 : 20 < x1
  · refine mq_t h1 ?_
    refine pr_if2t rfl rfl hx1 (i32_n rfl) h1 ?_
    refine pr_n (pc2 := 13) (lv2 := [(0, .ref 131), (1, vi x1)]) (st2 := [.ref 131, vi 0, .ref 131]) 2 (fun _ _ => rfl) ?_
    refine pr_get (v := .ref 137) rfl rfl rfl (by decide) (rv_ref (hE.2.1 131 0 137 rfl)) fun _ => ?_
    refine pr_s1 (args := []) (rest := [vi 0, .ref 131]) rfl rfl rfl rfl (Nat.le_of_ble_eq_true rfl) rfl (h_40 s t  hE ) s_plc ?_
    rintro _ s2 ⟨rfl, hz2⟩ hE2
    show pr K K d tb_M52 19 [(0, .ref 131), (1, vi x1)] [vi (plc t), vi 0, .ref 131] s2 _
    exact pr_c1 (args := [vi 0, vi (plc t)]) (rest := []) rfl rfl rfl rfl (Nat.le_of_ble_eq_true rfl) rfl (h_41 s2 t 0 (plc t) hE2 (by decide) hz2) chk0
  · refine mq_f h1 ?_
    refine pr_if2f rfl rfl hx1 (i32_n rfl) h1 ?_
    refine pr_n (pc2 := 13) (lv2 := [(0, .ref 131), (1, vi x1)]) (st2 := [.ref 131, vi 1, .ref 131]) 3 (fun _ _ => rfl) ?_
    refine pr_get (v := .ref 137) rfl rfl rfl (by decide) (rv_ref (hE.2.1 131 0 137 rfl)) fun _ => ?_
    refine pr_s1 (args := []) (rest := [vi 1, .ref 131]) rfl rfl rfl rfl (Nat.le_of_ble_eq_true rfl) rfl (h_40 s t  hE ) s_plc ?_
    rintro _ s4 ⟨rfl, hz4⟩ hE4
    show pr K K d tb_M52 19 [(0, .ref 131), (1, vi x1)] [vi (plc t), vi 1, .ref 131] s4 _
    refine pr_s1 (args := [vi 1, vi (plc t)]) (rest := []) rfl rfl rfl rfl (Nat.le_of_ble_eq_true rfl) rfl (h_41 s4 t 1 (plc t) hE4 (by decide) hz4) chk1 ?_
    rintro _ s5 ⟨rfl, _⟩ hE5
    show pr K K d tb_M52 22 [(0, .ref 131), (1, vi x1)] [] s5 _
    refine pr_n (pc2 := 23) (lv2 := [(0, .ref 131), (1, vi x1)]) (st2 := [.ref 131]) 1 (fun _ _ => rfl) ?_
    refine pr_get (v := .ref 137) rfl rfl rfl (by decide) (rv_ref (hE5.2.1 131 0 137 rfl)) fun _ => ?_
    refine pr_s1 (args := []) (rest := []) rfl rfl rfl rfl (Nat.le_of_ble_eq_true rfl) rfl (h_34 s5 t  hE5 ) s_kkd ?_
    rintro _ s6 ⟨rfl, hz6⟩ hE6
    show pr K K d tb_M52 29 [(0, .ref 131), (1, vi x1)] [vi (kkd t)] s6 _
    by_cases h7 : kkd t = 123
    · refine mq_t h7 ?_
      refine pr_lsw rfl (by decide) hz6 (by rw [h7]) rfl ?_
      refine pr_n (pc2 := 91) (lv2 := [(0, .ref 131), (1, vi x1)]) (st2 := [.ref 131, vi x1, .ref 131]) 3 (fun _ _ => rfl) ?_
      refine pr_get (v := .ref C) rfl rfl rfl (by decide) (rv_ref (show s6.1 131 1 = ((C : Nat) : Int) from hE6.2.2.1)) fun _ => ?_
      refine pr_get (v := .ref (C + 6)) rfl rfl (TK0 hC) (by decide) (rv_ref (hE6.2.1 C 5 (C + 6) (rcK hC (by omega)))) fun _ => ?_
      refine pr_gE (k2 := 105) (v := vi (t 105 3)) hE6 rfl rfl (TK6 hC) (by decide) rfl rfl rfl fun h8 => ?_
      have h8 : i32 (t 105 3) := h8
      refine pr_m1 (args := [vi x1, vi (t 105 3)]) (rest := []) rfl rfl rfl rfl (Nat.le_of_ble_eq_true rfl) rfl (h_53 s6 t x1 (t 105 3) hE6 hx1 h8) ?_
      rintro _ z9 t9 s9 ⟨rfl, hz9⟩ hE9
      show pr K K d tb_M52 103 [(0, .ref 131), (1, vi x1)] [vi z9] s9 _
      refine pr_reti rfl rfl ?_
      exact .inl ⟨_, z9, _, rfl, ⟨rfl, hz9⟩, rfl, hE9⟩
    · refine mq_f h7 ?_
      by_cases h10 : kkd t = 308
      · refine mq_t h10 ?_
        refine pr_lsw rfl (by decide) hz6 (by rw [h10]) rfl ?_
        refine pr_n (pc2 := 133) (lv2 := [(0, .ref 131), (1, vi x1)]) (st2 := [vi x1, .ref 131]) 2 (fun _ _ => rfl) ?_
        refine pr_m1 (args := [vi x1]) (rest := []) rfl rfl rfl rfl (Nat.le_of_ble_eq_true rfl) rfl (h_55 s6 t x1 hE6 hx1) ?_
        rintro _ z11 t11 s11 ⟨rfl, hz11⟩ hE11
        show pr K K d tb_M52 136 [(0, .ref 131), (1, vi x1)] [vi z11] s11 _
        refine pr_reti rfl rfl ?_
        exact .inl ⟨_, z11, _, rfl, ⟨rfl, hz11⟩, rfl, hE11⟩
      · refine mq_f h10 ?_
        by_cases h12 : kkd t = 310
        · refine mq_t h12 ?_
          refine pr_lsw rfl (by decide) hz6 (by rw [h12]) rfl ?_
          refine pr_n (pc2 := 139) (lv2 := [(0, .ref 131), (1, vi x1)]) (st2 := [vi x1, .ref 131]) 2 (fun _ _ => rfl) ?_
          refine pr_m1 (args := [vi x1]) (rest := []) rfl rfl rfl rfl (Nat.le_of_ble_eq_true rfl) rfl (h_56 s6 t x1 hE6 hx1) ?_
          rintro _ z13 t13 s13 ⟨rfl, hz13⟩ hE13
          show pr K K d tb_M52 142 [(0, .ref 131), (1, vi x1)] [vi z13] s13 _
          refine pr_n (pc2 := 144) (lv2 := [(2, vi z13), (0, .ref 131), (1, vi x1)]) (st2 := [.ref 131]) 2 (fun _ _ => rfl) ?_
          refine pr_get (v := .ref C) rfl rfl rfl (by decide) (rv_ref (show s13.1 131 1 = ((C : Nat) : Int) from hE13.2.2.1)) fun _ => ?_
          refine pr_n (pc2 := 154) (lv2 := [(2, vi z13), (0, .ref 131), (1, vi x1)]) (st2 := [vi 1, vi x1, .ref 131, vi z13, vi 310, .ref C]) 5 (fun _ _ => rfl) ?_
          refine pr_add (a := x1) (b := 1) rfl ?_
          have h14 : i32 (x1 + 1) := by unfold i32 at *; omega
          show pr K K d tb_M52 155 [(2, vi z13), (0, .ref 131), (1, vi x1)] [vi (x1 + 1), .ref 131, vi z13, vi 310, .ref C] s13 _
          refine pr_m1 (args := [vi (x1 + 1)]) (rest := [vi z13, vi 310, .ref C]) rfl rfl rfl rfl (Nat.le_of_ble_eq_true rfl) rfl (h_52 s13 t13 (x1 + 1) hE13 h14) ?_
          rintro _ z15 t15 s15 ⟨rfl, hz15⟩ hE15
          show pr K K d tb_M52 158 [(2, vi z13), (0, .ref 131), (1, vi x1)] [vi z15, vi z13, vi 310, .ref C] s15 _
          refine pr_n (pc2 := 159) (lv2 := [(2, vi z13), (0, .ref 131), (1, vi x1)]) (st2 := [vi ((-1)), vi z15, vi z13, vi 310, .ref C]) 1 (fun _ _ => rfl) ?_
          refine pr_s1 (args := [vi 310, vi z13, vi z15, vi ((-1))]) (rest := []) rfl rfl rfl (TK0 hC) (Nat.le_of_ble_eq_true rfl) rfl (h_54 s15 t15 310 z13 z15 ((-1)) hE15 (i32_n rfl) hz13 hz15 (i32_n rfl)) s_cad ?_
          rintro _ s16 ⟨rfl, hz16⟩ hE16
          show pr K K d tb_M52 162 [(2, vi z13), (0, .ref 131), (1, vi x1)] [vi (cadz t15)] s16 _
          refine pr_reti rfl rfl ?_
          exact .inl ⟨_, cadz t15, _, rfl, ⟨rfl, hz16⟩, rfl, hE16⟩
        · refine mq_f h12 ?_
          by_cases h17 : kkd t = 311
          · refine mq_t h17 ?_
            refine pr_lsw rfl (by decide) hz6 (by rw [h17]) rfl ?_
            refine pr_n (pc2 := 164) (lv2 := [(0, .ref 131), (1, vi x1)]) (st2 := [.ref 131]) 1 (fun _ _ => rfl) ?_
            refine pr_get (v := .ref 137) rfl rfl rfl (by decide) (rv_ref (hE6.2.1 131 0 137 rfl)) fun _ => ?_
            refine pr_s1 (args := []) (rest := []) rfl rfl rfl rfl (Nat.le_of_ble_eq_true rfl) rfl (h_35 s6 t  hE6 ) s_stp ?_
            rintro _ s18 ⟨rfl, _⟩ hE18
            show pr K K d tb_M52 170 [(0, .ref 131), (1, vi x1)] [] s18 _
            refine pr_n (pc2 := 174) (lv2 := [(0, .ref 131), (1, vi x1)]) (st2 := [vi 65535, vi 0, .ref 131]) 3 (fun _ _ => rfl) ?_
            refine pr_m1 (args := [vi 0, vi 65535]) (rest := []) rfl rfl rfl rfl (Nat.le_of_ble_eq_true rfl) rfl (h_59 s18 ((stp t)) 0 65535 hE18 (i32_n rfl) (i32_n rfl)) ?_
            rintro _ z19 t19 s19 ⟨rfl, hz19⟩ hE19
            show pr K K d tb_M52 177 [(0, .ref 131), (1, vi x1)] [vi z19] s19 _
            refine pr_n (pc2 := 179) (lv2 := [(3, vi z19), (0, .ref 131), (1, vi x1)]) (st2 := [.ref 131]) 2 (fun _ _ => rfl) ?_
            refine pr_get (v := .ref C) rfl rfl rfl (by decide) (rv_ref (show s19.1 131 1 = ((C : Nat) : Int) from hE19.2.2.1)) fun _ => ?_
            refine pr_n (pc2 := 189) (lv2 := [(3, vi z19), (0, .ref 131), (1, vi x1)]) (st2 := [vi 1, vi x1, .ref 131, vi z19, vi 311, .ref C]) 5 (fun _ _ => rfl) ?_
            refine pr_add (a := x1) (b := 1) rfl ?_
            have h20 : i32 (x1 + 1) := by unfold i32 at *; omega
            show pr K K d tb_M52 190 [(3, vi z19), (0, .ref 131), (1, vi x1)] [vi (x1 + 1), .ref 131, vi z19, vi 311, .ref C] s19 _
            refine pr_m1 (args := [vi (x1 + 1)]) (rest := [vi z19, vi 311, .ref C]) rfl rfl rfl rfl (Nat.le_of_ble_eq_true rfl) rfl (h_52 s19 t19 (x1 + 1) hE19 h20) ?_
            rintro _ z21 t21 s21 ⟨rfl, hz21⟩ hE21
            show pr K K d tb_M52 193 [(3, vi z19), (0, .ref 131), (1, vi x1)] [vi z21, vi z19, vi 311, .ref C] s21 _
            refine pr_n (pc2 := 194) (lv2 := [(3, vi z19), (0, .ref 131), (1, vi x1)]) (st2 := [vi ((-1)), vi z21, vi z19, vi 311, .ref C]) 1 (fun _ _ => rfl) ?_
            refine pr_s1 (args := [vi 311, vi z19, vi z21, vi ((-1))]) (rest := []) rfl rfl rfl (TK0 hC) (Nat.le_of_ble_eq_true rfl) rfl (h_54 s21 t21 311 z19 z21 ((-1)) hE21 (i32_n rfl) hz19 hz21 (i32_n rfl)) s_cad ?_
            rintro _ s22 ⟨rfl, hz22⟩ hE22
            show pr K K d tb_M52 197 [(3, vi z19), (0, .ref 131), (1, vi x1)] [vi (cadz t21)] s22 _
            refine pr_reti rfl rfl ?_
            exact .inl ⟨_, cadz t21, _, rfl, ⟨rfl, hz22⟩, rfl, hE22⟩
          · refine mq_f h17 ?_
            by_cases h23 : kkd t = 312
            · refine mq_t h23 ?_
              refine pr_lsw rfl (by decide) hz6 (by rw [h23]) rfl ?_
              refine pr_n (pc2 := 200) (lv2 := [(0, .ref 131), (1, vi x1)]) (st2 := [vi x1, .ref 131]) 2 (fun _ _ => rfl) ?_
              refine pr_m1 (args := [vi x1]) (rest := []) rfl rfl rfl rfl (Nat.le_of_ble_eq_true rfl) rfl (h_70 s6 t x1 hE6 hx1) ?_
              rintro _ z24 t24 s24 ⟨rfl, hz24⟩ hE24
              show pr K K d tb_M52 203 [(0, .ref 131), (1, vi x1)] [vi z24] s24 _
              refine pr_reti rfl rfl ?_
              exact .inl ⟨_, z24, _, rfl, ⟨rfl, hz24⟩, rfl, hE24⟩
            · refine mq_f h23 ?_
              by_cases h25 : kkd t = 314
              · refine mq_t h25 ?_
                refine pr_lsw rfl (by decide) hz6 (by rw [h25]) rfl ?_
                refine pr_n (pc2 := 105) (lv2 := [(0, .ref 131), (1, vi x1)]) (st2 := [.ref 131]) 1 (fun _ _ => rfl) ?_
                refine pr_get (v := .ref 137) rfl rfl rfl (by decide) (rv_ref (hE6.2.1 131 0 137 rfl)) fun _ => ?_
                refine pr_s1 (args := []) (rest := []) rfl rfl rfl rfl (Nat.le_of_ble_eq_true rfl) rfl (h_35 s6 t  hE6 ) s_stp ?_
                rintro _ s26 ⟨rfl, _⟩ hE26
                show pr K K d tb_M52 111 [(0, .ref 131), (1, vi x1)] [] s26 _
                refine pr_n (pc2 := 114) (lv2 := [(0, .ref 131), (1, vi x1)]) (st2 := [vi 59, .ref 131]) 2 (fun _ _ => rfl) ?_
                refine pr_m1 (args := [vi 59]) (rest := []) rfl rfl rfl rfl (Nat.le_of_ble_eq_true rfl) rfl (h_43 s26 ((stp t)) 59 hE26 (i32_n rfl)) ?_
                rintro _ _ t27 s27 ⟨rfl, rfl⟩ hE27
                show pr K K d tb_M52 117 [(0, .ref 131), (1, vi x1)] [] s27 _
                refine pr_n (pc2 := 118) (lv2 := [(0, .ref 131), (1, vi x1)]) (st2 := [.ref 131]) 1 (fun _ _ => rfl) ?_
                refine pr_get (v := .ref C) rfl rfl rfl (by decide) (rv_ref (show s27.1 131 1 = ((C : Nat) : Int) from hE27.2.2.1)) fun _ => ?_
                refine pr_n (pc2 := 127) (lv2 := [(0, .ref 131), (1, vi x1)]) (st2 := [vi ((-1)), vi ((-1)), vi ((-1)), vi 314, .ref C]) 4 (fun _ _ => rfl) ?_
                refine pr_s1 (args := [vi 314, vi ((-1)), vi ((-1)), vi ((-1))]) (rest := []) rfl rfl rfl (TK0 hC) (Nat.le_of_ble_eq_true rfl) rfl (h_54 s27 t27 314 ((-1)) ((-1)) ((-1)) hE27 (i32_n rfl) (i32_n rfl) (i32_n rfl) (i32_n rfl)) s_cad ?_
                rintro _ s28 ⟨rfl, hz28⟩ hE28
                show pr K K d tb_M52 130 [(0, .ref 131), (1, vi x1)] [vi (cadz t27)] s28 _
                refine pr_reti rfl rfl ?_
                exact .inl ⟨_, cadz t27, _, rfl, ⟨rfl, hz28⟩, rfl, hE28⟩
              · refine mq_f h25 ?_
                refine pr_lsw rfl (by decide) hz6 (ls_no _ ⟨by omega, by omega, by omega, by omega, by omega, by omega, trivial⟩) rfl ?_
                refine pr_n (pc2 := 206) (lv2 := [(0, .ref 131), (1, vi x1)]) (st2 := [vi x1, .ref 131]) 2 (fun _ _ => rfl) ?_
                refine pr_m1 (args := [vi x1]) (rest := []) rfl rfl rfl rfl (Nat.le_of_ble_eq_true rfl) rfl (h_71 s6 t x1 hE6 hx1) ?_
                rintro _ z29 t29 s29 ⟨rfl, hz29⟩ hE29
                show pr K K d tb_M52 209 [(0, .ref 131), (1, vi x1)] [vi z29] s29 _
                refine pr_reti rfl rfl ?_
                exact .inl ⟨_, z29, _, rfl, ⟨rfl, hz29⟩, rfl, hE29⟩
set_option maxHeartbeats 20000000 in
set_option maxRecDepth 100000 in
theorem cm55 {K d C : Nat} (h_34 : cT34 K d C) (h_35 : cT35 K d C) (h_52 : cT52 K d C) (h_54 : cT54 K d C) (h_56 : cT56 K d C) : cT55 K (d + 1) C := by
  intro s t x1 hE hx1
  have hC : C = 99 ∨ C = 115 := hE.1
  refine pcr_of (M := tb_M55) rfl ?_
  show pr K K d tb_M55 0 [(0, .ref 131), (1, vi x1)] [] s _
  rw [cG_55]
  unfold cM55
  refine pr_n (pc2 := 2) (lv2 := [(0, .ref 131), (1, vi x1)]) (st2 := [vi x1, .ref 131]) 2 (fun _ _ => rfl) ?_
  refine pr_m1 (args := [vi x1]) (rest := []) rfl rfl rfl rfl (Nat.le_of_ble_eq_true rfl) rfl (h_56 s t x1 hE hx1) ?_
  rintro _ z1 t1 s1 ⟨rfl, hz1⟩ hE1
  show pr K K d tb_M55 5 [(0, .ref 131), (1, vi x1)] [vi z1] s1 _
  refine pr_n (pc2 := 9) (lv2 := [(2, vi z1), (0, .ref 131), (1, vi x1)]) (st2 := [vi 1, vi x1, .ref 131]) 4 (fun _ _ => rfl) ?_
  refine pr_i2 (a := x1) (b := 1) rfl rfl ?_
  show pr K K d tb_M55 10 [(2, vi z1), (0, .ref 131), (1, vi x1)] [vi (ipl x1 1), .ref 131] s1 _
  have h2 : i32 (ipl x1 1) := i32_in _
  refine pr_m1 (args := [vi (ipl x1 1)]) (rest := []) rfl rfl rfl rfl (Nat.le_of_ble_eq_true rfl) rfl (h_52 s1 t1 (ipl x1 1) hE1 h2) ?_
  rintro _ z3 t3 s3 ⟨rfl, hz3⟩ hE3
  show pr K K d tb_M55 13 [(2, vi z1), (0, .ref 131), (1, vi x1)] [vi z3] s3 _
  refine pr_n (pc2 := 18) (lv2 := [(4, vi ((-1))), (3, vi z3), (2, vi z1), (0, .ref 131), (1, vi x1)]) (st2 := [.ref 131]) 4 (fun _ _ => rfl) ?_
  refine pr_get (v := .ref 137) rfl rfl rfl (by decide) (rv_ref (hE3.2.1 131 0 137 rfl)) fun _ => ?_
  refine pr_s1 (args := []) (rest := []) rfl rfl rfl rfl (Nat.le_of_ble_eq_true rfl) rfl (h_34 s3 t3  hE3 ) s_kkd ?_
  rintro _ s4 ⟨rfl, hz4⟩ hE4
  show pr K K d tb_M55 24 [(4, vi ((-1))), (3, vi z3), (2, vi z1), (0, .ref 131), (1, vi x1)] [vi (kkd t3)] s4 _
  refine pr_n (pc2 := 27) (lv2 := [(4, vi ((-1))), (3, vi z3), (2, vi z1), (0, .ref 131), (1, vi x1)]) (st2 := [vi 309, vi (kkd t3)]) 1 (fun _ _ => rfl) ?_
  by_cases h5 : kkd t3 ≠ 309
  · refine mq_t h5 ?_
    refine pr_if2t rfl rfl hz4 (i32_n rfl) h5 ?_
    refine pr_n (pc2 := 47) (lv2 := [(4, vi ((-1))), (3, vi z3), (2, vi z1), (0, .ref 131), (1, vi x1)]) (st2 := [.ref 131]) 1 (fun _ _ => rfl) ?_
    refine pr_get (v := .ref C) rfl rfl rfl (by decide) (rv_ref (show s4.1 131 1 = ((C : Nat) : Int) from hE4.2.2.1)) fun _ => ?_
    refine pr_n (pc2 := 57) (lv2 := [(4, vi ((-1))), (3, vi z3), (2, vi z1), (0, .ref 131), (1, vi x1)]) (st2 := [vi ((-1)), vi z3, vi z1, vi 308, .ref C]) 4 (fun _ _ => rfl) ?_
    refine pr_s1 (args := [vi 308, vi z1, vi z3, vi ((-1))]) (rest := []) rfl rfl rfl (TK0 hC) (Nat.le_of_ble_eq_true rfl) rfl (h_54 s4 t3 308 z1 z3 ((-1)) hE4 (i32_n rfl) hz1 hz3 (i32_n rfl)) s_cad ?_
    rintro _ s6 ⟨rfl, hz6⟩ hE6
    show pr K K d tb_M55 60 [(4, vi ((-1))), (3, vi z3), (2, vi z1), (0, .ref 131), (1, vi x1)] [vi (cadz t3)] s6 _
    refine pr_reti rfl rfl ?_
    exact .inl ⟨_, cadz t3, _, rfl, ⟨rfl, hz6⟩, rfl, hE6⟩
  · refine mq_f h5 ?_
    refine pr_if2f rfl rfl hz4 (i32_n rfl) h5 ?_
    refine pr_n (pc2 := 31) (lv2 := [(4, vi ((-1))), (3, vi z3), (2, vi z1), (0, .ref 131), (1, vi x1)]) (st2 := [.ref 131]) 1 (fun _ _ => rfl) ?_
    refine pr_get (v := .ref 137) rfl rfl rfl (by decide) (rv_ref (hE4.2.1 131 0 137 rfl)) fun _ => ?_
    refine pr_s1 (args := []) (rest := []) rfl rfl rfl rfl (Nat.le_of_ble_eq_true rfl) rfl (h_35 s4 t3  hE4 ) s_stp ?_
    rintro _ s7 ⟨rfl, _⟩ hE7
    show pr K K d tb_M55 37 [(4, vi ((-1))), (3, vi z3), (2, vi z1), (0, .ref 131), (1, vi x1)] [] s7 _
    refine pr_n (pc2 := 40) (lv2 := [(4, vi ((-1))), (3, vi z3), (2, vi z1), (0, .ref 131), (1, vi x1)]) (st2 := [vi 1, vi x1, .ref 131]) 3 (fun _ _ => rfl) ?_
    refine pr_i2 (a := x1) (b := 1) rfl rfl ?_
    show pr K K d tb_M55 41 [(4, vi ((-1))), (3, vi z3), (2, vi z1), (0, .ref 131), (1, vi x1)] [vi (ipl x1 1), .ref 131] s7 _
    refine pr_m1 (args := [vi (ipl x1 1)]) (rest := []) rfl rfl rfl rfl (Nat.le_of_ble_eq_true rfl) rfl (h_52 s7 ((stp t3)) (ipl x1 1) hE7 h2) ?_
    rintro _ z9 t9 s9 ⟨rfl, hz9⟩ hE9
    show pr K K d tb_M55 44 [(4, vi ((-1))), (3, vi z3), (2, vi z1), (0, .ref 131), (1, vi x1)] [vi z9] s9 _
    refine pr_n (pc2 := 47) (lv2 := [(4, vi z9), (3, vi z3), (2, vi z1), (0, .ref 131), (1, vi x1)]) (st2 := [.ref 131]) 2 (fun _ _ => rfl) ?_
    refine pr_get (v := .ref C) rfl rfl rfl (by decide) (rv_ref (show s9.1 131 1 = ((C : Nat) : Int) from hE9.2.2.1)) fun _ => ?_
    refine pr_n (pc2 := 57) (lv2 := [(4, vi z9), (3, vi z3), (2, vi z1), (0, .ref 131), (1, vi x1)]) (st2 := [vi z9, vi z3, vi z1, vi 308, .ref C]) 4 (fun _ _ => rfl) ?_
    refine pr_s1 (args := [vi 308, vi z1, vi z3, vi z9]) (rest := []) rfl rfl rfl (TK0 hC) (Nat.le_of_ble_eq_true rfl) rfl (h_54 s9 t9 308 z1 z3 z9 hE9 (i32_n rfl) hz1 hz3 hz9) s_cad ?_
    rintro _ s10 ⟨rfl, hz10⟩ hE10
    show pr K K d tb_M55 60 [(4, vi z9), (3, vi z3), (2, vi z1), (0, .ref 131), (1, vi x1)] [vi (cadz t9)] s10 _
    refine pr_reti rfl rfl ?_
    exact .inl ⟨_, cadz t9, _, rfl, ⟨rfl, hz10⟩, rfl, hE10⟩
set_option maxHeartbeats 20000000 in
set_option maxRecDepth 100000 in
theorem cu70_0 {N K d C : Nat} (h_34 : cT34 K d C) (h_35 : cT35 K d C) (h_40 : cT40 K d C) (h_43 : cT43 K d C) (h_52 : cT52 K d C) (h_54 : cT54 K d C) (h_66 : cT66 K d C) (ih : ∀ N2, N2 < N → cA70 N2 K d C) : cU70_0 N K d C := by
  intro s t y18 y17 y16 y15 y13 y11 y9 y7 y5 y3 y2 y1 hE hy18 hy17 hy16 hy15 hy13 hy11 hy9 hy7 hy5 hy3 hy2 hy1
  have hC : C = 99 ∨ C = 115 := hE.1
  rw [cG_70_53]
  unfold cM70_53
  refine pr_lt (pc2 := 55) (lv2 := [(18, vi y18), (17, vi y17), (16, vi y16), (15, vi y15), (13, vl y13), (11, vl y11), (9, vl y9), (7, vl y7), (5, vl y5), (3, vl y3), (2, vi y2), (0, .ref 131), (1, vi y1)]) (st2 := [vi y18]) (fun _ _ => rfl) fun N2 hN2 => ?_
  refine pr_n (pc2 := 56) (lv2 := [(18, vi y18), (17, vi y17), (16, vi y16), (15, vi y15), (13, vl y13), (11, vl y11), (9, vl y9), (7, vl y7), (5, vl y5), (3, vl y3), (2, vi y2), (0, .ref 131), (1, vi y1)]) (st2 := [vi 2, vi y18]) 1 (fun _ _ => rfl) ?_
  by_cases h1 : y18 < 2
  · refine mq_t h1 ?_
    refine pr_if2t rfl rfl hy18 (i32_n rfl) h1 ?_
    refine pr_n (pc2 := 81) (lv2 := [(18, vi y18), (17, vi y17), (16, vi y16), (15, vi y15), (13, vl y13), (11, vl y11), (9, vl y9), (7, vl y7), (5, vl y5), (3, vl y3), (2, vi y2), (0, .ref 131), (1, vi y1)]) (st2 := [vi y18, .ref 131]) 2 (fun _ _ => rfl) ?_
    by_cases h2 : y18 ≠ 0
    · refine mq_t h2 ?_
      refine pr_if1t rfl rfl hy18 h2 ?_
      refine pr_n (pc2 := 91) (lv2 := [(18, vi y18), (17, vi y17), (16, vi y16), (15, vi y15), (13, vl y13), (11, vl y11), (9, vl y9), (7, vl y7), (5, vl y5), (3, vl y3), (2, vi y2), (0, .ref 131), (1, vi y1)]) (st2 := [vi 124, .ref 131]) 1 (fun _ _ => rfl) ?_
      refine pr_m1 (args := [vi 124]) (rest := []) rfl rfl rfl rfl (Nat.le_of_ble_eq_true rfl) rfl (h_43 s t 124 hE (i32_n rfl)) ?_
      rintro _ _ t3 s3 ⟨rfl, rfl⟩ hE3
      show pr N2 K d tb_M70 94 [(18, vi y18), (17, vi y17), (16, vi y16), (15, vi y15), (13, vl y13), (11, vl y11), (9, vl y9), (7, vl y7), (5, vl y5), (3, vl y3), (2, vi y2), (0, .ref 131), (1, vi y1)] [] s3 _
      refine pr_n (pc2 := 96) (lv2 := [(18, vi y18), (17, vi y17), (16, vi y16), (15, vi y15), (13, vl y13), (11, vl y11), (9, vl y9), (7, vl y7), (5, vl y5), (3, vl y3), (2, vi y2), (0, .ref 131), (1, vi y1)]) (st2 := [vl 0, .ref 131]) 2 (fun _ _ => rfl) ?_
      refine pr_pE (k2 := 131) (z := 0) hE3 rfl rfl rfl rfl (by decide) rfl (by decide) rfl (i64_n rfl) (fit_l _) rfl rfl rfl (fun e => absurd e.2 (by decide)) (iv_c (by decide)) fun s4 hE4 => ?_
      refine pr_n (pc2 := 101) (lv2 := [(18, vi y18), (17, vi y17), (16, vi y16), (15, vi y15), (13, vl y13), (11, vl y11), (9, vl y9), (7, vl y7), (5, vl y5), (3, vl y3), (2, vi y2), (0, .ref 131), (1, vi y1)]) (st2 := [vl 0, .ref 131]) 2 (fun _ _ => rfl) ?_
      refine pr_pE (k2 := 131) (z := 0) hE4 rfl rfl rfl rfl (by decide) rfl (by decide) rfl (i64_n rfl) (fit_l _) rfl rfl rfl (fun e => absurd e.2 (by decide)) (iv_c (by decide)) fun s5 hE5 => ?_
      refine pr_n (pc2 := 106) (lv2 := [(18, vi y18), (17, vi y17), (16, vi y16), (15, vi y15), (13, vl y13), (11, vl y11), (9, vl y9), (7, vl y7), (5, vl y5), (3, vl y3), (2, vi y2), (0, .ref 131), (1, vi y1)]) (st2 := [vl 0, .ref 131]) 2 (fun _ _ => rfl) ?_
      refine pr_pE (k2 := 131) (z := 0) hE5 rfl rfl rfl rfl (by decide) rfl (by decide) rfl (i64_n rfl) (fit_l _) rfl rfl rfl (fun e => absurd e.2 (by decide)) (iv_c (by decide)) fun s6 hE6 => ?_
      refine pr_n (pc2 := 112) (lv2 := [(18, vi y18), (17, vi y17), (16, vi y16), (15, vi y15), (13, vl y13), (11, vl y11), (9, vl y9), (7, vl y7), (5, vl y5), (3, vl y3), (2, vi y2), (0, .ref 131), (1, vi y1)]) (st2 := [vi 1, vi y1, .ref 131]) 3 (fun _ _ => rfl) ?_
      refine pr_i2 (a := y1) (b := 1) rfl rfl ?_
      show pr N2 K d tb_M70 113 [(18, vi y18), (17, vi y17), (16, vi y16), (15, vi y15), (13, vl y13), (11, vl y11), (9, vl y9), (7, vl y7), (5, vl y5), (3, vl y3), (2, vi y2), (0, .ref 131), (1, vi y1)] [vi (ipl y1 1), .ref 131] s6 _
      have h7 : i32 (ipl y1 1) := i32_in _
      refine pr_m1 (args := [vi (ipl y1 1)]) (rest := []) rfl rfl rfl rfl (Nat.le_of_ble_eq_true rfl) rfl (h_52 s6 (up2 (up2 (up2 t3 131 7 0) 131 8 0) 131 9 0) (ipl y1 1) hE6 h7) ?_
      rintro _ z8 t8 s8 ⟨rfl, hz8⟩ hE8
      show pr N2 K d tb_M70 116 [(18, vi y18), (17, vi y17), (16, vi y16), (15, vi y15), (13, vl y13), (11, vl y11), (9, vl y9), (7, vl y7), (5, vl y5), (3, vl y3), (2, vi y2), (0, .ref 131), (1, vi y1)] [vi z8] s8 _
      refine pr_n (pc2 := 119) (lv2 := [(19, vi z8), (18, vi y18), (17, vi y17), (16, vi y16), (15, vi y15), (13, vl y13), (11, vl y11), (9, vl y9), (7, vl y7), (5, vl y5), (3, vl y3), (2, vi y2), (0, .ref 131), (1, vi y1)]) (st2 := [.ref 131]) 2 (fun _ _ => rfl) ?_
      refine pr_get (v := .ref C) rfl rfl rfl (by decide) (rv_ref (show s8.1 131 1 = ((C : Nat) : Int) from hE8.2.2.1)) fun _ => ?_
      refine pr_n (pc2 := 126) (lv2 := [(19, vi z8), (18, vi y18), (17, vi y17), (16, vi y16), (15, vi y15), (13, vl y13), (11, vl y11), (9, vl y9), (7, vl y7), (5, vl y5), (3, vl y3), (2, vi y2), (0, .ref 131), (1, vi y1)]) (st2 := [vi z8, vi y17, .ref C]) 2 (fun _ _ => rfl) ?_
      refine pr_s1 (args := [vi y17, vi z8]) (rest := []) rfl rfl rfl (TK0 hC) (Nat.le_of_ble_eq_true rfl) rfl (h_66 s8 t8 y17 z8 hE8 hy17 hz8) s_lnk ?_
      rintro _ s9 ⟨rfl, _⟩ hE9
      show pr N2 K d tb_M70 129 [(19, vi z8), (18, vi y18), (17, vi y17), (16, vi y16), (15, vi y15), (13, vl y13), (11, vl y11), (9, vl y9), (7, vl y7), (5, vl y5), (3, vl y3), (2, vi y2), (0, .ref 131), (1, vi y1)] [] s9 _
      refine pr_n (pc2 := 131) (lv2 := [(19, vi z8), (18, vi y18), (17, vi y17), (16, vi y16), (15, vi y15), (13, vl y13), (11, vl y11), (9, vl y9), (7, vl y7), (5, vl y5), (3, vl y3), (2, vi y2), (0, .ref 131), (1, vi y1)]) (st2 := [vi y18]) 1 (fun _ _ => rfl) ?_
      refine pr_if1t rfl rfl hy18 (show y18 ≠ 0 by omega) ?_
      show pr N2 K d tb_M70 139 [(19, vi z8), (18, vi y18), (17, vi y17), (16, vi y16), (15, vi y15), (13, vl y13), (11, vl y11), (9, vl y9), (7, vl y7), (5, vl y5), (3, vl y3), (2, vi y2), (0, .ref 131), (1, vi y1)] [] s9 _
      refine pr_n (pc2 := 150) (lv2 := [(17, vi z8), (16, vi y16), (19, vi z8), (18, vi y18), (15, vi y15), (13, vl y13), (11, vl y11), (9, vl y9), (7, vl y7), (5, vl y5), (3, vl y3), (2, vi y2), (0, .ref 131), (1, vi y1)]) (st2 := [.ref 131, vi y15]) 6 (fun _ _ => rfl) ?_
      refine pr_gE (k2 := 131) (v := vl ((lnk t8 y17 z8) 131 8)) hE9 rfl rfl rfl (by decide) rfl rfl rfl fun h10 => ?_
      have h10 : i64 ((lnk t8 y17 z8) 131 8) := h10
      refine pr_n (pc2 := 155) (lv2 := [(17, vi z8), (16, vi y16), (19, vi z8), (18, vi y18), (15, vi y15), (13, vl y13), (11, vl y11), (9, vl y9), (7, vl y7), (5, vl y5), (3, vl y3), (2, vi y2), (0, .ref 131), (1, vi y1)]) (st2 := [vl y9, vl ((lnk t8 y17 z8) 131 8), vi y15]) 1 (fun _ _ => rfl) ?_
      refine pr_l2 (a := (lnk t8 y17 z8) 131 8) (b := y9) rfl rfl ?_
      show pr N2 K d tb_M70 156 [(17, vi z8), (16, vi y16), (19, vi z8), (18, vi y18), (15, vi y15), (13, vl y13), (11, vl y11), (9, vl y9), (7, vl y7), (5, vl y5), (3, vl y3), (2, vi y2), (0, .ref 131), (1, vi y1)] [vl (la ((lnk t8 y17 z8) 131 8) y9), vi y15] s9 _
      refine pr_n (pc2 := 157) (lv2 := [(17, vi z8), (16, vi y16), (19, vi z8), (18, vi y18), (15, vi y15), (13, vl y13), (11, vl y11), (9, vl y9), (7, vl y7), (5, vl y5), (3, vl y3), (2, vi y2), (0, .ref 131), (1, vi y1)]) (st2 := [.ref 131, vl (la ((lnk t8 y17 z8) 131 8) y9), vi y15]) 1 (fun _ _ => rfl) ?_
      refine pr_gE (k2 := 131) (v := vl ((lnk t8 y17 z8) 131 7)) hE9 rfl rfl rfl (by decide) rfl rfl rfl fun h11 => ?_
      have h11 : i64 ((lnk t8 y17 z8) 131 7) := h11
      refine pr_n (pc2 := 162) (lv2 := [(17, vi z8), (16, vi y16), (19, vi z8), (18, vi y18), (15, vi y15), (13, vl y13), (11, vl y11), (9, vl y9), (7, vl y7), (5, vl y5), (3, vl y3), (2, vi y2), (0, .ref 131), (1, vi y1)]) (st2 := [vl y11, vl ((lnk t8 y17 z8) 131 7), vl (la ((lnk t8 y17 z8) 131 8) y9), vi y15]) 1 (fun _ _ => rfl) ?_
      refine pr_l2 (a := (lnk t8 y17 z8) 131 7) (b := y11) rfl rfl ?_
      show pr N2 K d tb_M70 163 [(17, vi z8), (16, vi y16), (19, vi z8), (18, vi y18), (15, vi y15), (13, vl y13), (11, vl y11), (9, vl y9), (7, vl y7), (5, vl y5), (3, vl y3), (2, vi y2), (0, .ref 131), (1, vi y1)] [vl (la ((lnk t8 y17 z8) 131 7) y11), vl (la ((lnk t8 y17 z8) 131 8) y9), vi y15] s9 _
      refine pr_l2 (a := la ((lnk t8 y17 z8) 131 8) y9) (b := la ((lnk t8 y17 z8) 131 7) y11) rfl rfl ?_
      show pr N2 K d tb_M70 164 [(17, vi z8), (16, vi y16), (19, vi z8), (18, vi y18), (15, vi y15), (13, vl y13), (11, vl y11), (9, vl y9), (7, vl y7), (5, vl y5), (3, vl y3), (2, vi y2), (0, .ref 131), (1, vi y1)] [vl (lo (la ((lnk t8 y17 z8) 131 8) y9) (la ((lnk t8 y17 z8) 131 7) y11)), vi y15] s9 _
      refine pr_n (pc2 := 165) (lv2 := [(17, vi z8), (16, vi y16), (19, vi z8), (18, vi y18), (15, vi y15), (13, vl y13), (11, vl y11), (9, vl y9), (7, vl y7), (5, vl y5), (3, vl y3), (2, vi y2), (0, .ref 131), (1, vi y1)]) (st2 := [.ref 131, vl (lo (la ((lnk t8 y17 z8) 131 8) y9) (la ((lnk t8 y17 z8) 131 7) y11)), vi y15]) 1 (fun _ _ => rfl) ?_
      refine pr_gE (k2 := 131) (v := vl ((lnk t8 y17 z8) 131 9)) hE9 rfl rfl rfl (by decide) rfl rfl rfl fun h12 => ?_
      have h12 : i64 ((lnk t8 y17 z8) 131 9) := h12
      refine pr_n (pc2 := 170) (lv2 := [(17, vi z8), (16, vi y16), (19, vi z8), (18, vi y18), (15, vi y15), (13, vl y13), (11, vl y11), (9, vl y9), (7, vl y7), (5, vl y5), (3, vl y3), (2, vi y2), (0, .ref 131), (1, vi y1)]) (st2 := [vl y13, vl ((lnk t8 y17 z8) 131 9), vl (lo (la ((lnk t8 y17 z8) 131 8) y9) (la ((lnk t8 y17 z8) 131 7) y11)), vi y15]) 1 (fun _ _ => rfl) ?_
      refine pr_l2 (a := (lnk t8 y17 z8) 131 9) (b := y13) rfl rfl ?_
      show pr N2 K d tb_M70 171 [(17, vi z8), (16, vi y16), (19, vi z8), (18, vi y18), (15, vi y15), (13, vl y13), (11, vl y11), (9, vl y9), (7, vl y7), (5, vl y5), (3, vl y3), (2, vi y2), (0, .ref 131), (1, vi y1)] [vl (la ((lnk t8 y17 z8) 131 9) y13), vl (lo (la ((lnk t8 y17 z8) 131 8) y9) (la ((lnk t8 y17 z8) 131 7) y11)), vi y15] s9 _
      refine pr_l2 (a := lo (la ((lnk t8 y17 z8) 131 8) y9) (la ((lnk t8 y17 z8) 131 7) y11)) (b := la ((lnk t8 y17 z8) 131 9) y13) rfl rfl ?_
      show pr N2 K d tb_M70 172 [(17, vi z8), (16, vi y16), (19, vi z8), (18, vi y18), (15, vi y15), (13, vl y13), (11, vl y11), (9, vl y9), (7, vl y7), (5, vl y5), (3, vl y3), (2, vi y2), (0, .ref 131), (1, vi y1)] [vl (lo (lo (la ((lnk t8 y17 z8) 131 8) y9) (la ((lnk t8 y17 z8) 131 7) y11)) (la ((lnk t8 y17 z8) 131 9) y13)), vi y15] s9 _
      refine pr_n (pc2 := 173) (lv2 := [(17, vi z8), (16, vi y16), (19, vi z8), (18, vi y18), (15, vi y15), (13, vl y13), (11, vl y11), (9, vl y9), (7, vl y7), (5, vl y5), (3, vl y3), (2, vi y2), (0, .ref 131), (1, vi y1)]) (st2 := [vl 0, vl (lo (lo (la ((lnk t8 y17 z8) 131 8) y9) (la ((lnk t8 y17 z8) 131 7) y11)) (la ((lnk t8 y17 z8) 131 9) y13)), vi y15]) 1 (fun _ _ => rfl) ?_
      refine pr_lcmp (a := lo (lo (la ((lnk t8 y17 z8) 131 8) y9) (la ((lnk t8 y17 z8) 131 7) y11)) (la ((lnk t8 y17 z8) 131 9) y13)) (b := 0) rfl (i64_in _) (i64_n rfl) ?_
      by_cases h13 : lo (lo (la ((lnk t8 y17 z8) 131 8) y9) (la ((lnk t8 y17 z8) 131 7) y11)) (la ((lnk t8 y17 z8) 131 9) y13) = 0
      · refine mq_t h13 ?_
        refine pr_if1t rfl rfl lc_i32 (lc_eq.mpr h13) ?_
        refine pr_n (pc2 := 182) (lv2 := [(17, vi z8), (16, vi y16), (19, vi z8), (18, vi y18), (15, vi y15), (13, vl y13), (11, vl y11), (9, vl y9), (7, vl y7), (5, vl y5), (3, vl y3), (2, vi y2), (0, .ref 131), (1, vi y1)]) (st2 := [vi 0, vi y15]) 1 (fun _ _ => rfl) ?_
        refine pr_i2 (a := y15) (b := 0) rfl rfl ?_
        show pr N2 K d tb_M70 183 [(17, vi z8), (16, vi y16), (19, vi z8), (18, vi y18), (15, vi y15), (13, vl y13), (11, vl y11), (9, vl y9), (7, vl y7), (5, vl y5), (3, vl y3), (2, vi y2), (0, .ref 131), (1, vi y1)] [vi (ior y15 0)] s9 _
        have h14 : i32 (ior y15 0) := i32_in _
        refine pr_n (pc2 := 188) (lv2 := [(15, vi (ior y15 0)), (17, vi z8), (16, vi y16), (19, vi z8), (18, vi y18), (13, vl y13), (11, vl y11), (9, vl y9), (7, vl y7), (5, vl y5), (3, vl y3), (2, vi y2), (0, .ref 131), (1, vi y1)]) (st2 := [.ref 131, vl y9]) 3 (fun _ _ => rfl) ?_
        refine pr_gE (k2 := 131) (v := vl ((lnk t8 y17 z8) 131 7)) hE9 rfl rfl rfl (by decide) rfl rfl rfl fun h15 => ?_
        have h15 : i64 ((lnk t8 y17 z8) 131 7) := h15
        refine pr_l2 (a := y9) (b := (lnk t8 y17 z8) 131 7) rfl rfl ?_
        show pr N2 K d tb_M70 192 [(15, vi (ior y15 0)), (17, vi z8), (16, vi y16), (19, vi z8), (18, vi y18), (13, vl y13), (11, vl y11), (9, vl y9), (7, vl y7), (5, vl y5), (3, vl y3), (2, vi y2), (0, .ref 131), (1, vi y1)] [vl (lo y9 ((lnk t8 y17 z8) 131 7))] s9 _
        refine pr_n (pc2 := 197) (lv2 := [(9, vl (lo y9 ((lnk t8 y17 z8) 131 7))), (15, vi (ior y15 0)), (17, vi z8), (16, vi y16), (19, vi z8), (18, vi y18), (13, vl y13), (11, vl y11), (7, vl y7), (5, vl y5), (3, vl y3), (2, vi y2), (0, .ref 131), (1, vi y1)]) (st2 := [.ref 131, vl y11]) 3 (fun _ _ => rfl) ?_
        refine pr_gE (k2 := 131) (v := vl ((lnk t8 y17 z8) 131 8)) hE9 rfl rfl rfl (by decide) rfl rfl rfl fun h16 => ?_
        have h16 : i64 ((lnk t8 y17 z8) 131 8) := h16
        refine pr_l2 (a := y11) (b := (lnk t8 y17 z8) 131 8) rfl rfl ?_
        show pr N2 K d tb_M70 201 [(9, vl (lo y9 ((lnk t8 y17 z8) 131 7))), (15, vi (ior y15 0)), (17, vi z8), (16, vi y16), (19, vi z8), (18, vi y18), (13, vl y13), (11, vl y11), (7, vl y7), (5, vl y5), (3, vl y3), (2, vi y2), (0, .ref 131), (1, vi y1)] [vl (lo y11 ((lnk t8 y17 z8) 131 8))] s9 _
        refine pr_n (pc2 := 206) (lv2 := [(11, vl (lo y11 ((lnk t8 y17 z8) 131 8))), (9, vl (lo y9 ((lnk t8 y17 z8) 131 7))), (15, vi (ior y15 0)), (17, vi z8), (16, vi y16), (19, vi z8), (18, vi y18), (13, vl y13), (7, vl y7), (5, vl y5), (3, vl y3), (2, vi y2), (0, .ref 131), (1, vi y1)]) (st2 := [.ref 131, vl y13]) 3 (fun _ _ => rfl) ?_
        refine pr_gE (k2 := 131) (v := vl ((lnk t8 y17 z8) 131 9)) hE9 rfl rfl rfl (by decide) rfl rfl rfl fun h17 => ?_
        have h17 : i64 ((lnk t8 y17 z8) 131 9) := h17
        refine pr_l2 (a := y13) (b := (lnk t8 y17 z8) 131 9) rfl rfl ?_
        show pr N2 K d tb_M70 210 [(11, vl (lo y11 ((lnk t8 y17 z8) 131 8))), (9, vl (lo y9 ((lnk t8 y17 z8) 131 7))), (15, vi (ior y15 0)), (17, vi z8), (16, vi y16), (19, vi z8), (18, vi y18), (13, vl y13), (7, vl y7), (5, vl y5), (3, vl y3), (2, vi y2), (0, .ref 131), (1, vi y1)] [vl (lo y13 ((lnk t8 y17 z8) 131 9))] s9 _
        refine pr_n (pc2 := 212) (lv2 := [(13, vl (lo y13 ((lnk t8 y17 z8) 131 9))), (11, vl (lo y11 ((lnk t8 y17 z8) 131 8))), (9, vl (lo y9 ((lnk t8 y17 z8) 131 7))), (15, vi (ior y15 0)), (17, vi z8), (16, vi y16), (19, vi z8), (18, vi y18), (7, vl y7), (5, vl y5), (3, vl y3), (2, vi y2), (0, .ref 131), (1, vi y1)]) (st2 := []) 1 (fun _ _ => rfl) ?_
        refine pr_inc (a := y18) rfl rfl ?_
        have h18 : i32 (y18 + 1) := by unfold i32 at *; omega
        show pr N2 K d tb_M70 215 [(18, vi (y18 + 1)), (13, vl (lo y13 ((lnk t8 y17 z8) 131 9))), (11, vl (lo y11 ((lnk t8 y17 z8) 131 8))), (9, vl (lo y9 ((lnk t8 y17 z8) 131 7))), (15, vi (ior y15 0)), (17, vi z8), (16, vi y16), (19, vi z8), (7, vl y7), (5, vl y5), (3, vl y3), (2, vi y2), (0, .ref 131), (1, vi y1)] [] s9 _
        refine pr_n (pc2 := 53) (lv2 := [(18, vi (y18 + 1)), (13, vl (lo y13 ((lnk t8 y17 z8) 131 9))), (11, vl (lo y11 ((lnk t8 y17 z8) 131 8))), (9, vl (lo y9 ((lnk t8 y17 z8) 131 7))), (15, vi (ior y15 0)), (17, vi z8), (16, vi y16), (19, vi z8), (7, vl y7), (5, vl y5), (3, vl y3), (2, vi y2), (0, .ref 131), (1, vi y1)]) (st2 := []) 1 (fun _ _ => rfl) ?_
        exact ((ih N2 hN2).2) s9 ((lnk t8 y17 z8)) (y18 + 1) (lo y13 ((lnk t8 y17 z8) 131 9)) (lo y11 ((lnk t8 y17 z8) 131 8)) (lo y9 ((lnk t8 y17 z8) 131 7)) (ior y15 0) z8 y16 z8 y7 y5 y3 y2 y1 hE9 h18 (i64_in _) (i64_in _) (i64_in _) h14 hz8 hy16 hz8 hy7 hy5 hy3 hy2 hy1
      · refine mq_f h13 ?_
        refine pr_if1f rfl rfl lc_i32 (fun e => h13 (lc_eq.mp e)) ?_
        refine pr_n (pc2 := 182) (lv2 := [(17, vi z8), (16, vi y16), (19, vi z8), (18, vi y18), (15, vi y15), (13, vl y13), (11, vl y11), (9, vl y9), (7, vl y7), (5, vl y5), (3, vl y3), (2, vi y2), (0, .ref 131), (1, vi y1)]) (st2 := [vi 1, vi y15]) 2 (fun _ _ => rfl) ?_
        refine pr_i2 (a := y15) (b := 1) rfl rfl ?_
        show pr N2 K d tb_M70 183 [(17, vi z8), (16, vi y16), (19, vi z8), (18, vi y18), (15, vi y15), (13, vl y13), (11, vl y11), (9, vl y9), (7, vl y7), (5, vl y5), (3, vl y3), (2, vi y2), (0, .ref 131), (1, vi y1)] [vi (ior y15 1)] s9 _
        have h19 : i32 (ior y15 1) := i32_in _
        refine pr_n (pc2 := 188) (lv2 := [(15, vi (ior y15 1)), (17, vi z8), (16, vi y16), (19, vi z8), (18, vi y18), (13, vl y13), (11, vl y11), (9, vl y9), (7, vl y7), (5, vl y5), (3, vl y3), (2, vi y2), (0, .ref 131), (1, vi y1)]) (st2 := [.ref 131, vl y9]) 3 (fun _ _ => rfl) ?_
        refine pr_gE (k2 := 131) (v := vl ((lnk t8 y17 z8) 131 7)) hE9 rfl rfl rfl (by decide) rfl rfl rfl fun h20 => ?_
        have h20 : i64 ((lnk t8 y17 z8) 131 7) := h20
        refine pr_l2 (a := y9) (b := (lnk t8 y17 z8) 131 7) rfl rfl ?_
        show pr N2 K d tb_M70 192 [(15, vi (ior y15 1)), (17, vi z8), (16, vi y16), (19, vi z8), (18, vi y18), (13, vl y13), (11, vl y11), (9, vl y9), (7, vl y7), (5, vl y5), (3, vl y3), (2, vi y2), (0, .ref 131), (1, vi y1)] [vl (lo y9 ((lnk t8 y17 z8) 131 7))] s9 _
        refine pr_n (pc2 := 197) (lv2 := [(9, vl (lo y9 ((lnk t8 y17 z8) 131 7))), (15, vi (ior y15 1)), (17, vi z8), (16, vi y16), (19, vi z8), (18, vi y18), (13, vl y13), (11, vl y11), (7, vl y7), (5, vl y5), (3, vl y3), (2, vi y2), (0, .ref 131), (1, vi y1)]) (st2 := [.ref 131, vl y11]) 3 (fun _ _ => rfl) ?_
        refine pr_gE (k2 := 131) (v := vl ((lnk t8 y17 z8) 131 8)) hE9 rfl rfl rfl (by decide) rfl rfl rfl fun h21 => ?_
        have h21 : i64 ((lnk t8 y17 z8) 131 8) := h21
        refine pr_l2 (a := y11) (b := (lnk t8 y17 z8) 131 8) rfl rfl ?_
        show pr N2 K d tb_M70 201 [(9, vl (lo y9 ((lnk t8 y17 z8) 131 7))), (15, vi (ior y15 1)), (17, vi z8), (16, vi y16), (19, vi z8), (18, vi y18), (13, vl y13), (11, vl y11), (7, vl y7), (5, vl y5), (3, vl y3), (2, vi y2), (0, .ref 131), (1, vi y1)] [vl (lo y11 ((lnk t8 y17 z8) 131 8))] s9 _
        refine pr_n (pc2 := 206) (lv2 := [(11, vl (lo y11 ((lnk t8 y17 z8) 131 8))), (9, vl (lo y9 ((lnk t8 y17 z8) 131 7))), (15, vi (ior y15 1)), (17, vi z8), (16, vi y16), (19, vi z8), (18, vi y18), (13, vl y13), (7, vl y7), (5, vl y5), (3, vl y3), (2, vi y2), (0, .ref 131), (1, vi y1)]) (st2 := [.ref 131, vl y13]) 3 (fun _ _ => rfl) ?_
        refine pr_gE (k2 := 131) (v := vl ((lnk t8 y17 z8) 131 9)) hE9 rfl rfl rfl (by decide) rfl rfl rfl fun h22 => ?_
        have h22 : i64 ((lnk t8 y17 z8) 131 9) := h22
        refine pr_l2 (a := y13) (b := (lnk t8 y17 z8) 131 9) rfl rfl ?_
        show pr N2 K d tb_M70 210 [(11, vl (lo y11 ((lnk t8 y17 z8) 131 8))), (9, vl (lo y9 ((lnk t8 y17 z8) 131 7))), (15, vi (ior y15 1)), (17, vi z8), (16, vi y16), (19, vi z8), (18, vi y18), (13, vl y13), (7, vl y7), (5, vl y5), (3, vl y3), (2, vi y2), (0, .ref 131), (1, vi y1)] [vl (lo y13 ((lnk t8 y17 z8) 131 9))] s9 _
        refine pr_n (pc2 := 212) (lv2 := [(13, vl (lo y13 ((lnk t8 y17 z8) 131 9))), (11, vl (lo y11 ((lnk t8 y17 z8) 131 8))), (9, vl (lo y9 ((lnk t8 y17 z8) 131 7))), (15, vi (ior y15 1)), (17, vi z8), (16, vi y16), (19, vi z8), (18, vi y18), (7, vl y7), (5, vl y5), (3, vl y3), (2, vi y2), (0, .ref 131), (1, vi y1)]) (st2 := []) 1 (fun _ _ => rfl) ?_
        refine pr_inc (a := y18) rfl rfl ?_
        have h23 : i32 (y18 + 1) := by unfold i32 at *; omega
        show pr N2 K d tb_M70 215 [(18, vi (y18 + 1)), (13, vl (lo y13 ((lnk t8 y17 z8) 131 9))), (11, vl (lo y11 ((lnk t8 y17 z8) 131 8))), (9, vl (lo y9 ((lnk t8 y17 z8) 131 7))), (15, vi (ior y15 1)), (17, vi z8), (16, vi y16), (19, vi z8), (7, vl y7), (5, vl y5), (3, vl y3), (2, vi y2), (0, .ref 131), (1, vi y1)] [] s9 _
        refine pr_n (pc2 := 53) (lv2 := [(18, vi (y18 + 1)), (13, vl (lo y13 ((lnk t8 y17 z8) 131 9))), (11, vl (lo y11 ((lnk t8 y17 z8) 131 8))), (9, vl (lo y9 ((lnk t8 y17 z8) 131 7))), (15, vi (ior y15 1)), (17, vi z8), (16, vi y16), (19, vi z8), (7, vl y7), (5, vl y5), (3, vl y3), (2, vi y2), (0, .ref 131), (1, vi y1)]) (st2 := []) 1 (fun _ _ => rfl) ?_
        exact ((ih N2 hN2).2) s9 ((lnk t8 y17 z8)) (y18 + 1) (lo y13 ((lnk t8 y17 z8) 131 9)) (lo y11 ((lnk t8 y17 z8) 131 8)) (lo y9 ((lnk t8 y17 z8) 131 7)) (ior y15 1) z8 y16 z8 y7 y5 y3 y2 y1 hE9 h23 (i64_in _) (i64_in _) (i64_in _) h19 hz8 hy16 hz8 hy7 hy5 hy3 hy2 hy1
    · refine mq_f h2 ?_
      refine pr_if1f rfl rfl hy18 h2 ?_
      refine pr_n (pc2 := 91) (lv2 := [(18, vi y18), (17, vi y17), (16, vi y16), (15, vi y15), (13, vl y13), (11, vl y11), (9, vl y9), (7, vl y7), (5, vl y5), (3, vl y3), (2, vi y2), (0, .ref 131), (1, vi y1)]) (st2 := [vi 123, .ref 131]) 2 (fun _ _ => rfl) ?_
      refine pr_m1 (args := [vi 123]) (rest := []) rfl rfl rfl rfl (Nat.le_of_ble_eq_true rfl) rfl (h_43 s t 123 hE (i32_n rfl)) ?_
      rintro _ _ t24 s24 ⟨rfl, rfl⟩ hE24
      show pr N2 K d tb_M70 94 [(18, vi y18), (17, vi y17), (16, vi y16), (15, vi y15), (13, vl y13), (11, vl y11), (9, vl y9), (7, vl y7), (5, vl y5), (3, vl y3), (2, vi y2), (0, .ref 131), (1, vi y1)] [] s24 _
      refine pr_n (pc2 := 96) (lv2 := [(18, vi y18), (17, vi y17), (16, vi y16), (15, vi y15), (13, vl y13), (11, vl y11), (9, vl y9), (7, vl y7), (5, vl y5), (3, vl y3), (2, vi y2), (0, .ref 131), (1, vi y1)]) (st2 := [vl 0, .ref 131]) 2 (fun _ _ => rfl) ?_
      refine pr_pE (k2 := 131) (z := 0) hE24 rfl rfl rfl rfl (by decide) rfl (by decide) rfl (i64_n rfl) (fit_l _) rfl rfl rfl (fun e => absurd e.2 (by decide)) (iv_c (by decide)) fun s25 hE25 => ?_
      refine pr_n (pc2 := 101) (lv2 := [(18, vi y18), (17, vi y17), (16, vi y16), (15, vi y15), (13, vl y13), (11, vl y11), (9, vl y9), (7, vl y7), (5, vl y5), (3, vl y3), (2, vi y2), (0, .ref 131), (1, vi y1)]) (st2 := [vl 0, .ref 131]) 2 (fun _ _ => rfl) ?_
      refine pr_pE (k2 := 131) (z := 0) hE25 rfl rfl rfl rfl (by decide) rfl (by decide) rfl (i64_n rfl) (fit_l _) rfl rfl rfl (fun e => absurd e.2 (by decide)) (iv_c (by decide)) fun s26 hE26 => ?_
      refine pr_n (pc2 := 106) (lv2 := [(18, vi y18), (17, vi y17), (16, vi y16), (15, vi y15), (13, vl y13), (11, vl y11), (9, vl y9), (7, vl y7), (5, vl y5), (3, vl y3), (2, vi y2), (0, .ref 131), (1, vi y1)]) (st2 := [vl 0, .ref 131]) 2 (fun _ _ => rfl) ?_
      refine pr_pE (k2 := 131) (z := 0) hE26 rfl rfl rfl rfl (by decide) rfl (by decide) rfl (i64_n rfl) (fit_l _) rfl rfl rfl (fun e => absurd e.2 (by decide)) (iv_c (by decide)) fun s27 hE27 => ?_
      refine pr_n (pc2 := 112) (lv2 := [(18, vi y18), (17, vi y17), (16, vi y16), (15, vi y15), (13, vl y13), (11, vl y11), (9, vl y9), (7, vl y7), (5, vl y5), (3, vl y3), (2, vi y2), (0, .ref 131), (1, vi y1)]) (st2 := [vi 1, vi y1, .ref 131]) 3 (fun _ _ => rfl) ?_
      refine pr_i2 (a := y1) (b := 1) rfl rfl ?_
      show pr N2 K d tb_M70 113 [(18, vi y18), (17, vi y17), (16, vi y16), (15, vi y15), (13, vl y13), (11, vl y11), (9, vl y9), (7, vl y7), (5, vl y5), (3, vl y3), (2, vi y2), (0, .ref 131), (1, vi y1)] [vi (ipl y1 1), .ref 131] s27 _
      have h28 : i32 (ipl y1 1) := i32_in _
      refine pr_m1 (args := [vi (ipl y1 1)]) (rest := []) rfl rfl rfl rfl (Nat.le_of_ble_eq_true rfl) rfl (h_52 s27 (up2 (up2 (up2 t24 131 7 0) 131 8 0) 131 9 0) (ipl y1 1) hE27 h28) ?_
      rintro _ z29 t29 s29 ⟨rfl, hz29⟩ hE29
      show pr N2 K d tb_M70 116 [(18, vi y18), (17, vi y17), (16, vi y16), (15, vi y15), (13, vl y13), (11, vl y11), (9, vl y9), (7, vl y7), (5, vl y5), (3, vl y3), (2, vi y2), (0, .ref 131), (1, vi y1)] [vi z29] s29 _
      refine pr_n (pc2 := 119) (lv2 := [(19, vi z29), (18, vi y18), (17, vi y17), (16, vi y16), (15, vi y15), (13, vl y13), (11, vl y11), (9, vl y9), (7, vl y7), (5, vl y5), (3, vl y3), (2, vi y2), (0, .ref 131), (1, vi y1)]) (st2 := [.ref 131]) 2 (fun _ _ => rfl) ?_
      refine pr_get (v := .ref C) rfl rfl rfl (by decide) (rv_ref (show s29.1 131 1 = ((C : Nat) : Int) from hE29.2.2.1)) fun _ => ?_
      refine pr_n (pc2 := 126) (lv2 := [(19, vi z29), (18, vi y18), (17, vi y17), (16, vi y16), (15, vi y15), (13, vl y13), (11, vl y11), (9, vl y9), (7, vl y7), (5, vl y5), (3, vl y3), (2, vi y2), (0, .ref 131), (1, vi y1)]) (st2 := [vi z29, vi y17, .ref C]) 2 (fun _ _ => rfl) ?_
      refine pr_s1 (args := [vi y17, vi z29]) (rest := []) rfl rfl rfl (TK0 hC) (Nat.le_of_ble_eq_true rfl) rfl (h_66 s29 t29 y17 z29 hE29 hy17 hz29) s_lnk ?_
      rintro _ s30 ⟨rfl, _⟩ hE30
      show pr N2 K d tb_M70 129 [(19, vi z29), (18, vi y18), (17, vi y17), (16, vi y16), (15, vi y15), (13, vl y13), (11, vl y11), (9, vl y9), (7, vl y7), (5, vl y5), (3, vl y3), (2, vi y2), (0, .ref 131), (1, vi y1)] [] s30 _
      refine pr_n (pc2 := 131) (lv2 := [(19, vi z29), (18, vi y18), (17, vi y17), (16, vi y16), (15, vi y15), (13, vl y13), (11, vl y11), (9, vl y9), (7, vl y7), (5, vl y5), (3, vl y3), (2, vi y2), (0, .ref 131), (1, vi y1)]) (st2 := [vi y18]) 1 (fun _ _ => rfl) ?_
      refine pr_if1f rfl rfl hy18 (show ¬ (y18 ≠ 0) by omega) ?_
      show pr N2 K d tb_M70 134 [(19, vi z29), (18, vi y18), (17, vi y17), (16, vi y16), (15, vi y15), (13, vl y13), (11, vl y11), (9, vl y9), (7, vl y7), (5, vl y5), (3, vl y3), (2, vi y2), (0, .ref 131), (1, vi y1)] [] s30 _
      refine pr_n (pc2 := 150) (lv2 := [(17, vi z29), (16, vi z29), (19, vi z29), (18, vi y18), (15, vi y15), (13, vl y13), (11, vl y11), (9, vl y9), (7, vl y7), (5, vl y5), (3, vl y3), (2, vi y2), (0, .ref 131), (1, vi y1)]) (st2 := [.ref 131, vi y15]) 7 (fun _ _ => rfl) ?_
      refine pr_gE (k2 := 131) (v := vl ((lnk t29 y17 z29) 131 8)) hE30 rfl rfl rfl (by decide) rfl rfl rfl fun h31 => ?_
      have h31 : i64 ((lnk t29 y17 z29) 131 8) := h31
      refine pr_n (pc2 := 155) (lv2 := [(17, vi z29), (16, vi z29), (19, vi z29), (18, vi y18), (15, vi y15), (13, vl y13), (11, vl y11), (9, vl y9), (7, vl y7), (5, vl y5), (3, vl y3), (2, vi y2), (0, .ref 131), (1, vi y1)]) (st2 := [vl y9, vl ((lnk t29 y17 z29) 131 8), vi y15]) 1 (fun _ _ => rfl) ?_
      refine pr_l2 (a := (lnk t29 y17 z29) 131 8) (b := y9) rfl rfl ?_
      show pr N2 K d tb_M70 156 [(17, vi z29), (16, vi z29), (19, vi z29), (18, vi y18), (15, vi y15), (13, vl y13), (11, vl y11), (9, vl y9), (7, vl y7), (5, vl y5), (3, vl y3), (2, vi y2), (0, .ref 131), (1, vi y1)] [vl (la ((lnk t29 y17 z29) 131 8) y9), vi y15] s30 _
      refine pr_n (pc2 := 157) (lv2 := [(17, vi z29), (16, vi z29), (19, vi z29), (18, vi y18), (15, vi y15), (13, vl y13), (11, vl y11), (9, vl y9), (7, vl y7), (5, vl y5), (3, vl y3), (2, vi y2), (0, .ref 131), (1, vi y1)]) (st2 := [.ref 131, vl (la ((lnk t29 y17 z29) 131 8) y9), vi y15]) 1 (fun _ _ => rfl) ?_
      refine pr_gE (k2 := 131) (v := vl ((lnk t29 y17 z29) 131 7)) hE30 rfl rfl rfl (by decide) rfl rfl rfl fun h32 => ?_
      have h32 : i64 ((lnk t29 y17 z29) 131 7) := h32
      refine pr_n (pc2 := 162) (lv2 := [(17, vi z29), (16, vi z29), (19, vi z29), (18, vi y18), (15, vi y15), (13, vl y13), (11, vl y11), (9, vl y9), (7, vl y7), (5, vl y5), (3, vl y3), (2, vi y2), (0, .ref 131), (1, vi y1)]) (st2 := [vl y11, vl ((lnk t29 y17 z29) 131 7), vl (la ((lnk t29 y17 z29) 131 8) y9), vi y15]) 1 (fun _ _ => rfl) ?_
      refine pr_l2 (a := (lnk t29 y17 z29) 131 7) (b := y11) rfl rfl ?_
      show pr N2 K d tb_M70 163 [(17, vi z29), (16, vi z29), (19, vi z29), (18, vi y18), (15, vi y15), (13, vl y13), (11, vl y11), (9, vl y9), (7, vl y7), (5, vl y5), (3, vl y3), (2, vi y2), (0, .ref 131), (1, vi y1)] [vl (la ((lnk t29 y17 z29) 131 7) y11), vl (la ((lnk t29 y17 z29) 131 8) y9), vi y15] s30 _
      refine pr_l2 (a := la ((lnk t29 y17 z29) 131 8) y9) (b := la ((lnk t29 y17 z29) 131 7) y11) rfl rfl ?_
      show pr N2 K d tb_M70 164 [(17, vi z29), (16, vi z29), (19, vi z29), (18, vi y18), (15, vi y15), (13, vl y13), (11, vl y11), (9, vl y9), (7, vl y7), (5, vl y5), (3, vl y3), (2, vi y2), (0, .ref 131), (1, vi y1)] [vl (lo (la ((lnk t29 y17 z29) 131 8) y9) (la ((lnk t29 y17 z29) 131 7) y11)), vi y15] s30 _
      refine pr_n (pc2 := 165) (lv2 := [(17, vi z29), (16, vi z29), (19, vi z29), (18, vi y18), (15, vi y15), (13, vl y13), (11, vl y11), (9, vl y9), (7, vl y7), (5, vl y5), (3, vl y3), (2, vi y2), (0, .ref 131), (1, vi y1)]) (st2 := [.ref 131, vl (lo (la ((lnk t29 y17 z29) 131 8) y9) (la ((lnk t29 y17 z29) 131 7) y11)), vi y15]) 1 (fun _ _ => rfl) ?_
      refine pr_gE (k2 := 131) (v := vl ((lnk t29 y17 z29) 131 9)) hE30 rfl rfl rfl (by decide) rfl rfl rfl fun h33 => ?_
      have h33 : i64 ((lnk t29 y17 z29) 131 9) := h33
      refine pr_n (pc2 := 170) (lv2 := [(17, vi z29), (16, vi z29), (19, vi z29), (18, vi y18), (15, vi y15), (13, vl y13), (11, vl y11), (9, vl y9), (7, vl y7), (5, vl y5), (3, vl y3), (2, vi y2), (0, .ref 131), (1, vi y1)]) (st2 := [vl y13, vl ((lnk t29 y17 z29) 131 9), vl (lo (la ((lnk t29 y17 z29) 131 8) y9) (la ((lnk t29 y17 z29) 131 7) y11)), vi y15]) 1 (fun _ _ => rfl) ?_
      refine pr_l2 (a := (lnk t29 y17 z29) 131 9) (b := y13) rfl rfl ?_
      show pr N2 K d tb_M70 171 [(17, vi z29), (16, vi z29), (19, vi z29), (18, vi y18), (15, vi y15), (13, vl y13), (11, vl y11), (9, vl y9), (7, vl y7), (5, vl y5), (3, vl y3), (2, vi y2), (0, .ref 131), (1, vi y1)] [vl (la ((lnk t29 y17 z29) 131 9) y13), vl (lo (la ((lnk t29 y17 z29) 131 8) y9) (la ((lnk t29 y17 z29) 131 7) y11)), vi y15] s30 _
      refine pr_l2 (a := lo (la ((lnk t29 y17 z29) 131 8) y9) (la ((lnk t29 y17 z29) 131 7) y11)) (b := la ((lnk t29 y17 z29) 131 9) y13) rfl rfl ?_
      show pr N2 K d tb_M70 172 [(17, vi z29), (16, vi z29), (19, vi z29), (18, vi y18), (15, vi y15), (13, vl y13), (11, vl y11), (9, vl y9), (7, vl y7), (5, vl y5), (3, vl y3), (2, vi y2), (0, .ref 131), (1, vi y1)] [vl (lo (lo (la ((lnk t29 y17 z29) 131 8) y9) (la ((lnk t29 y17 z29) 131 7) y11)) (la ((lnk t29 y17 z29) 131 9) y13)), vi y15] s30 _
      refine pr_n (pc2 := 173) (lv2 := [(17, vi z29), (16, vi z29), (19, vi z29), (18, vi y18), (15, vi y15), (13, vl y13), (11, vl y11), (9, vl y9), (7, vl y7), (5, vl y5), (3, vl y3), (2, vi y2), (0, .ref 131), (1, vi y1)]) (st2 := [vl 0, vl (lo (lo (la ((lnk t29 y17 z29) 131 8) y9) (la ((lnk t29 y17 z29) 131 7) y11)) (la ((lnk t29 y17 z29) 131 9) y13)), vi y15]) 1 (fun _ _ => rfl) ?_
      refine pr_lcmp (a := lo (lo (la ((lnk t29 y17 z29) 131 8) y9) (la ((lnk t29 y17 z29) 131 7) y11)) (la ((lnk t29 y17 z29) 131 9) y13)) (b := 0) rfl (i64_in _) (i64_n rfl) ?_
      by_cases h34 : lo (lo (la ((lnk t29 y17 z29) 131 8) y9) (la ((lnk t29 y17 z29) 131 7) y11)) (la ((lnk t29 y17 z29) 131 9) y13) = 0
      · refine mq_t h34 ?_
        refine pr_if1t rfl rfl lc_i32 (lc_eq.mpr h34) ?_
        refine pr_n (pc2 := 182) (lv2 := [(17, vi z29), (16, vi z29), (19, vi z29), (18, vi y18), (15, vi y15), (13, vl y13), (11, vl y11), (9, vl y9), (7, vl y7), (5, vl y5), (3, vl y3), (2, vi y2), (0, .ref 131), (1, vi y1)]) (st2 := [vi 0, vi y15]) 1 (fun _ _ => rfl) ?_
        refine pr_i2 (a := y15) (b := 0) rfl rfl ?_
        show pr N2 K d tb_M70 183 [(17, vi z29), (16, vi z29), (19, vi z29), (18, vi y18), (15, vi y15), (13, vl y13), (11, vl y11), (9, vl y9), (7, vl y7), (5, vl y5), (3, vl y3), (2, vi y2), (0, .ref 131), (1, vi y1)] [vi (ior y15 0)] s30 _
        have h35 : i32 (ior y15 0) := i32_in _
        refine pr_n (pc2 := 188) (lv2 := [(15, vi (ior y15 0)), (17, vi z29), (16, vi z29), (19, vi z29), (18, vi y18), (13, vl y13), (11, vl y11), (9, vl y9), (7, vl y7), (5, vl y5), (3, vl y3), (2, vi y2), (0, .ref 131), (1, vi y1)]) (st2 := [.ref 131, vl y9]) 3 (fun _ _ => rfl) ?_
        refine pr_gE (k2 := 131) (v := vl ((lnk t29 y17 z29) 131 7)) hE30 rfl rfl rfl (by decide) rfl rfl rfl fun h36 => ?_
        have h36 : i64 ((lnk t29 y17 z29) 131 7) := h36
        refine pr_l2 (a := y9) (b := (lnk t29 y17 z29) 131 7) rfl rfl ?_
        show pr N2 K d tb_M70 192 [(15, vi (ior y15 0)), (17, vi z29), (16, vi z29), (19, vi z29), (18, vi y18), (13, vl y13), (11, vl y11), (9, vl y9), (7, vl y7), (5, vl y5), (3, vl y3), (2, vi y2), (0, .ref 131), (1, vi y1)] [vl (lo y9 ((lnk t29 y17 z29) 131 7))] s30 _
        refine pr_n (pc2 := 197) (lv2 := [(9, vl (lo y9 ((lnk t29 y17 z29) 131 7))), (15, vi (ior y15 0)), (17, vi z29), (16, vi z29), (19, vi z29), (18, vi y18), (13, vl y13), (11, vl y11), (7, vl y7), (5, vl y5), (3, vl y3), (2, vi y2), (0, .ref 131), (1, vi y1)]) (st2 := [.ref 131, vl y11]) 3 (fun _ _ => rfl) ?_
        refine pr_gE (k2 := 131) (v := vl ((lnk t29 y17 z29) 131 8)) hE30 rfl rfl rfl (by decide) rfl rfl rfl fun h37 => ?_
        have h37 : i64 ((lnk t29 y17 z29) 131 8) := h37
        refine pr_l2 (a := y11) (b := (lnk t29 y17 z29) 131 8) rfl rfl ?_
        show pr N2 K d tb_M70 201 [(9, vl (lo y9 ((lnk t29 y17 z29) 131 7))), (15, vi (ior y15 0)), (17, vi z29), (16, vi z29), (19, vi z29), (18, vi y18), (13, vl y13), (11, vl y11), (7, vl y7), (5, vl y5), (3, vl y3), (2, vi y2), (0, .ref 131), (1, vi y1)] [vl (lo y11 ((lnk t29 y17 z29) 131 8))] s30 _
        refine pr_n (pc2 := 206) (lv2 := [(11, vl (lo y11 ((lnk t29 y17 z29) 131 8))), (9, vl (lo y9 ((lnk t29 y17 z29) 131 7))), (15, vi (ior y15 0)), (17, vi z29), (16, vi z29), (19, vi z29), (18, vi y18), (13, vl y13), (7, vl y7), (5, vl y5), (3, vl y3), (2, vi y2), (0, .ref 131), (1, vi y1)]) (st2 := [.ref 131, vl y13]) 3 (fun _ _ => rfl) ?_
        refine pr_gE (k2 := 131) (v := vl ((lnk t29 y17 z29) 131 9)) hE30 rfl rfl rfl (by decide) rfl rfl rfl fun h38 => ?_
        have h38 : i64 ((lnk t29 y17 z29) 131 9) := h38
        refine pr_l2 (a := y13) (b := (lnk t29 y17 z29) 131 9) rfl rfl ?_
        show pr N2 K d tb_M70 210 [(11, vl (lo y11 ((lnk t29 y17 z29) 131 8))), (9, vl (lo y9 ((lnk t29 y17 z29) 131 7))), (15, vi (ior y15 0)), (17, vi z29), (16, vi z29), (19, vi z29), (18, vi y18), (13, vl y13), (7, vl y7), (5, vl y5), (3, vl y3), (2, vi y2), (0, .ref 131), (1, vi y1)] [vl (lo y13 ((lnk t29 y17 z29) 131 9))] s30 _
        refine pr_n (pc2 := 212) (lv2 := [(13, vl (lo y13 ((lnk t29 y17 z29) 131 9))), (11, vl (lo y11 ((lnk t29 y17 z29) 131 8))), (9, vl (lo y9 ((lnk t29 y17 z29) 131 7))), (15, vi (ior y15 0)), (17, vi z29), (16, vi z29), (19, vi z29), (18, vi y18), (7, vl y7), (5, vl y5), (3, vl y3), (2, vi y2), (0, .ref 131), (1, vi y1)]) (st2 := []) 1 (fun _ _ => rfl) ?_
        refine pr_inc (a := y18) rfl rfl ?_
        have h39 : i32 (y18 + 1) := by unfold i32 at *; omega
        show pr N2 K d tb_M70 215 [(18, vi (y18 + 1)), (13, vl (lo y13 ((lnk t29 y17 z29) 131 9))), (11, vl (lo y11 ((lnk t29 y17 z29) 131 8))), (9, vl (lo y9 ((lnk t29 y17 z29) 131 7))), (15, vi (ior y15 0)), (17, vi z29), (16, vi z29), (19, vi z29), (7, vl y7), (5, vl y5), (3, vl y3), (2, vi y2), (0, .ref 131), (1, vi y1)] [] s30 _
        refine pr_n (pc2 := 53) (lv2 := [(18, vi (y18 + 1)), (13, vl (lo y13 ((lnk t29 y17 z29) 131 9))), (11, vl (lo y11 ((lnk t29 y17 z29) 131 8))), (9, vl (lo y9 ((lnk t29 y17 z29) 131 7))), (15, vi (ior y15 0)), (17, vi z29), (16, vi z29), (19, vi z29), (7, vl y7), (5, vl y5), (3, vl y3), (2, vi y2), (0, .ref 131), (1, vi y1)]) (st2 := []) 1 (fun _ _ => rfl) ?_
        exact ((ih N2 hN2).2) s30 ((lnk t29 y17 z29)) (y18 + 1) (lo y13 ((lnk t29 y17 z29) 131 9)) (lo y11 ((lnk t29 y17 z29) 131 8)) (lo y9 ((lnk t29 y17 z29) 131 7)) (ior y15 0) z29 z29 z29 y7 y5 y3 y2 y1 hE30 h39 (i64_in _) (i64_in _) (i64_in _) h35 hz29 hz29 hz29 hy7 hy5 hy3 hy2 hy1
      · refine mq_f h34 ?_
        refine pr_if1f rfl rfl lc_i32 (fun e => h34 (lc_eq.mp e)) ?_
        refine pr_n (pc2 := 182) (lv2 := [(17, vi z29), (16, vi z29), (19, vi z29), (18, vi y18), (15, vi y15), (13, vl y13), (11, vl y11), (9, vl y9), (7, vl y7), (5, vl y5), (3, vl y3), (2, vi y2), (0, .ref 131), (1, vi y1)]) (st2 := [vi 1, vi y15]) 2 (fun _ _ => rfl) ?_
        refine pr_i2 (a := y15) (b := 1) rfl rfl ?_
        show pr N2 K d tb_M70 183 [(17, vi z29), (16, vi z29), (19, vi z29), (18, vi y18), (15, vi y15), (13, vl y13), (11, vl y11), (9, vl y9), (7, vl y7), (5, vl y5), (3, vl y3), (2, vi y2), (0, .ref 131), (1, vi y1)] [vi (ior y15 1)] s30 _
        have h40 : i32 (ior y15 1) := i32_in _
        refine pr_n (pc2 := 188) (lv2 := [(15, vi (ior y15 1)), (17, vi z29), (16, vi z29), (19, vi z29), (18, vi y18), (13, vl y13), (11, vl y11), (9, vl y9), (7, vl y7), (5, vl y5), (3, vl y3), (2, vi y2), (0, .ref 131), (1, vi y1)]) (st2 := [.ref 131, vl y9]) 3 (fun _ _ => rfl) ?_
        refine pr_gE (k2 := 131) (v := vl ((lnk t29 y17 z29) 131 7)) hE30 rfl rfl rfl (by decide) rfl rfl rfl fun h41 => ?_
        have h41 : i64 ((lnk t29 y17 z29) 131 7) := h41
        refine pr_l2 (a := y9) (b := (lnk t29 y17 z29) 131 7) rfl rfl ?_
        show pr N2 K d tb_M70 192 [(15, vi (ior y15 1)), (17, vi z29), (16, vi z29), (19, vi z29), (18, vi y18), (13, vl y13), (11, vl y11), (9, vl y9), (7, vl y7), (5, vl y5), (3, vl y3), (2, vi y2), (0, .ref 131), (1, vi y1)] [vl (lo y9 ((lnk t29 y17 z29) 131 7))] s30 _
        refine pr_n (pc2 := 197) (lv2 := [(9, vl (lo y9 ((lnk t29 y17 z29) 131 7))), (15, vi (ior y15 1)), (17, vi z29), (16, vi z29), (19, vi z29), (18, vi y18), (13, vl y13), (11, vl y11), (7, vl y7), (5, vl y5), (3, vl y3), (2, vi y2), (0, .ref 131), (1, vi y1)]) (st2 := [.ref 131, vl y11]) 3 (fun _ _ => rfl) ?_
        refine pr_gE (k2 := 131) (v := vl ((lnk t29 y17 z29) 131 8)) hE30 rfl rfl rfl (by decide) rfl rfl rfl fun h42 => ?_
        have h42 : i64 ((lnk t29 y17 z29) 131 8) := h42
        refine pr_l2 (a := y11) (b := (lnk t29 y17 z29) 131 8) rfl rfl ?_
        show pr N2 K d tb_M70 201 [(9, vl (lo y9 ((lnk t29 y17 z29) 131 7))), (15, vi (ior y15 1)), (17, vi z29), (16, vi z29), (19, vi z29), (18, vi y18), (13, vl y13), (11, vl y11), (7, vl y7), (5, vl y5), (3, vl y3), (2, vi y2), (0, .ref 131), (1, vi y1)] [vl (lo y11 ((lnk t29 y17 z29) 131 8))] s30 _
        refine pr_n (pc2 := 206) (lv2 := [(11, vl (lo y11 ((lnk t29 y17 z29) 131 8))), (9, vl (lo y9 ((lnk t29 y17 z29) 131 7))), (15, vi (ior y15 1)), (17, vi z29), (16, vi z29), (19, vi z29), (18, vi y18), (13, vl y13), (7, vl y7), (5, vl y5), (3, vl y3), (2, vi y2), (0, .ref 131), (1, vi y1)]) (st2 := [.ref 131, vl y13]) 3 (fun _ _ => rfl) ?_
        refine pr_gE (k2 := 131) (v := vl ((lnk t29 y17 z29) 131 9)) hE30 rfl rfl rfl (by decide) rfl rfl rfl fun h43 => ?_
        have h43 : i64 ((lnk t29 y17 z29) 131 9) := h43
        refine pr_l2 (a := y13) (b := (lnk t29 y17 z29) 131 9) rfl rfl ?_
        show pr N2 K d tb_M70 210 [(11, vl (lo y11 ((lnk t29 y17 z29) 131 8))), (9, vl (lo y9 ((lnk t29 y17 z29) 131 7))), (15, vi (ior y15 1)), (17, vi z29), (16, vi z29), (19, vi z29), (18, vi y18), (13, vl y13), (7, vl y7), (5, vl y5), (3, vl y3), (2, vi y2), (0, .ref 131), (1, vi y1)] [vl (lo y13 ((lnk t29 y17 z29) 131 9))] s30 _
        refine pr_n (pc2 := 212) (lv2 := [(13, vl (lo y13 ((lnk t29 y17 z29) 131 9))), (11, vl (lo y11 ((lnk t29 y17 z29) 131 8))), (9, vl (lo y9 ((lnk t29 y17 z29) 131 7))), (15, vi (ior y15 1)), (17, vi z29), (16, vi z29), (19, vi z29), (18, vi y18), (7, vl y7), (5, vl y5), (3, vl y3), (2, vi y2), (0, .ref 131), (1, vi y1)]) (st2 := []) 1 (fun _ _ => rfl) ?_
        refine pr_inc (a := y18) rfl rfl ?_
        have h44 : i32 (y18 + 1) := by unfold i32 at *; omega
        show pr N2 K d tb_M70 215 [(18, vi (y18 + 1)), (13, vl (lo y13 ((lnk t29 y17 z29) 131 9))), (11, vl (lo y11 ((lnk t29 y17 z29) 131 8))), (9, vl (lo y9 ((lnk t29 y17 z29) 131 7))), (15, vi (ior y15 1)), (17, vi z29), (16, vi z29), (19, vi z29), (7, vl y7), (5, vl y5), (3, vl y3), (2, vi y2), (0, .ref 131), (1, vi y1)] [] s30 _
        refine pr_n (pc2 := 53) (lv2 := [(18, vi (y18 + 1)), (13, vl (lo y13 ((lnk t29 y17 z29) 131 9))), (11, vl (lo y11 ((lnk t29 y17 z29) 131 8))), (9, vl (lo y9 ((lnk t29 y17 z29) 131 7))), (15, vi (ior y15 1)), (17, vi z29), (16, vi z29), (19, vi z29), (7, vl y7), (5, vl y5), (3, vl y3), (2, vi y2), (0, .ref 131), (1, vi y1)]) (st2 := []) 1 (fun _ _ => rfl) ?_
        exact ((ih N2 hN2).2) s30 ((lnk t29 y17 z29)) (y18 + 1) (lo y13 ((lnk t29 y17 z29) 131 9)) (lo y11 ((lnk t29 y17 z29) 131 8)) (lo y9 ((lnk t29 y17 z29) 131 7)) (ior y15 1) z29 z29 z29 y7 y5 y3 y2 y1 hE30 h44 (i64_in _) (i64_in _) (i64_in _) h40 hz29 hz29 hz29 hy7 hy5 hy3 hy2 hy1
  · refine mq_f h1 ?_
    refine pr_if2f rfl rfl hy18 (i32_n rfl) h1 ?_
    refine pr_n (pc2 := 63) (lv2 := [(18, vi y18), (17, vi y17), (16, vi y16), (15, vi y15), (13, vl y13), (11, vl y11), (9, vl y9), (7, vl y7), (5, vl y5), (3, vl y3), (2, vi y2), (0, .ref 131), (1, vi y1)]) (st2 := [vi 6, vi y18]) 2 (fun _ _ => rfl) ?_
    by_cases h45 : 6 ≤ y18
    · refine mq_t h45 ?_
      refine pr_if2t rfl rfl hy18 (i32_n rfl) h45 ?_
      refine pr_n (pc2 := 221) (lv2 := [(18, vi y18), (17, vi y17), (16, vi y16), (15, vi y15), (13, vl y13), (11, vl y11), (9, vl y9), (7, vl y7), (5, vl y5), (3, vl y3), (2, vi y2), (0, .ref 131), (1, vi y1)]) (st2 := [vi 125, .ref 131]) 2 (fun _ _ => rfl) ?_
      refine pr_m1 (args := [vi 125]) (rest := []) rfl rfl rfl rfl (Nat.le_of_ble_eq_true rfl) rfl (h_43 s t 125 hE (i32_n rfl)) ?_
      rintro _ _ t46 s46 ⟨rfl, rfl⟩ hE46
      show pr N2 K d tb_M70 224 [(18, vi y18), (17, vi y17), (16, vi y16), (15, vi y15), (13, vl y13), (11, vl y11), (9, vl y9), (7, vl y7), (5, vl y5), (3, vl y3), (2, vi y2), (0, .ref 131), (1, vi y1)] [] s46 _
      refine pr_n (pc2 := 228) (lv2 := [(18, vi y18), (17, vi y17), (16, vi y16), (15, vi y15), (13, vl y13), (11, vl y11), (9, vl y9), (7, vl y7), (5, vl y5), (3, vl y3), (2, vi y2), (0, .ref 131), (1, vi y1)]) (st2 := [vl y9, vl y3, .ref 131]) 3 (fun _ _ => rfl) ?_
      refine pr_l2 (a := y3) (b := y9) rfl rfl ?_
      show pr N2 K d tb_M70 229 [(18, vi y18), (17, vi y17), (16, vi y16), (15, vi y15), (13, vl y13), (11, vl y11), (9, vl y9), (7, vl y7), (5, vl y5), (3, vl y3), (2, vi y2), (0, .ref 131), (1, vi y1)] [vl (lo y3 y9), .ref 131] s46 _
      refine pr_pE (k2 := 131) (z := lo y3 y9) hE46 rfl rfl rfl rfl (by decide) rfl (by decide) rfl (i64_in _) (fit_l _) rfl rfl rfl (fun e => absurd e.2 (by decide)) (iv_c (by decide)) fun s47 hE47 => ?_
      refine pr_n (pc2 := 237) (lv2 := [(18, vi y18), (17, vi y17), (16, vi y16), (15, vi y15), (13, vl y13), (11, vl y11), (9, vl y9), (7, vl y7), (5, vl y5), (3, vl y3), (2, vi y2), (0, .ref 131), (1, vi y1)]) (st2 := [vl y11, vl y5, .ref 131]) 3 (fun _ _ => rfl) ?_
      refine pr_l2 (a := y5) (b := y11) rfl rfl ?_
      show pr N2 K d tb_M70 238 [(18, vi y18), (17, vi y17), (16, vi y16), (15, vi y15), (13, vl y13), (11, vl y11), (9, vl y9), (7, vl y7), (5, vl y5), (3, vl y3), (2, vi y2), (0, .ref 131), (1, vi y1)] [vl (lo y5 y11), .ref 131] s47 _
      refine pr_pE (k2 := 131) (z := lo y5 y11) hE47 rfl rfl rfl rfl (by decide) rfl (by decide) rfl (i64_in _) (fit_l _) rfl rfl rfl (fun e => absurd e.2 (by decide)) (iv_c (by decide)) fun s48 hE48 => ?_
      refine pr_n (pc2 := 246) (lv2 := [(18, vi y18), (17, vi y17), (16, vi y16), (15, vi y15), (13, vl y13), (11, vl y11), (9, vl y9), (7, vl y7), (5, vl y5), (3, vl y3), (2, vi y2), (0, .ref 131), (1, vi y1)]) (st2 := [vl y13, vl y7, .ref 131]) 3 (fun _ _ => rfl) ?_
      refine pr_l2 (a := y7) (b := y13) rfl rfl ?_
      show pr N2 K d tb_M70 247 [(18, vi y18), (17, vi y17), (16, vi y16), (15, vi y15), (13, vl y13), (11, vl y11), (9, vl y9), (7, vl y7), (5, vl y5), (3, vl y3), (2, vi y2), (0, .ref 131), (1, vi y1)] [vl (lo y7 y13), .ref 131] s48 _
      refine pr_pE (k2 := 131) (z := lo y7 y13) hE48 rfl rfl rfl rfl (by decide) rfl (by decide) rfl (i64_in _) (fit_l _) rfl rfl rfl (fun e => absurd e.2 (by decide)) (iv_c (by decide)) fun s49 hE49 => ?_
      refine pr_n (pc2 := 252) (lv2 := [(18, vi y18), (17, vi y17), (16, vi y16), (15, vi y15), (13, vl y13), (11, vl y11), (9, vl y9), (7, vl y7), (5, vl y5), (3, vl y3), (2, vi y2), (0, .ref 131), (1, vi y1)]) (st2 := [vi y15]) 1 (fun _ _ => rfl) ?_
      by_cases h50 : y15 = 0
      · refine mq_t h50 ?_
        refine pr_if1t rfl rfl hy15 h50 ?_
        refine pr_n (pc2 := 278) (lv2 := [(18, vi y18), (17, vi y17), (16, vi y16), (15, vi y15), (13, vl y13), (11, vl y11), (9, vl y9), (7, vl y7), (5, vl y5), (3, vl y3), (2, vi y2), (0, .ref 131), (1, vi y1)]) (st2 := [.ref 131]) 1 (fun _ _ => rfl) ?_
        refine pr_get (v := .ref C) rfl rfl rfl (by decide) (rv_ref (show s49.1 131 1 = ((C : Nat) : Int) from hE49.2.2.1)) fun _ => ?_
        refine pr_n (pc2 := 289) (lv2 := [(18, vi y18), (17, vi y17), (16, vi y16), (15, vi y15), (13, vl y13), (11, vl y11), (9, vl y9), (7, vl y7), (5, vl y5), (3, vl y3), (2, vi y2), (0, .ref 131), (1, vi y1)]) (st2 := [vi ((-1)), vi y18, vi y16, vi 312, .ref C]) 4 (fun _ _ => rfl) ?_
        refine pr_s1 (args := [vi 312, vi y16, vi y18, vi ((-1))]) (rest := []) rfl rfl rfl (TK0 hC) (Nat.le_of_ble_eq_true rfl) rfl (h_54 s49 (up2 (up2 (up2 t46 131 7 (lo y3 y9)) 131 8 (lo y5 y11)) 131 9 (lo y7 y13)) 312 y16 y18 ((-1)) hE49 (i32_n rfl) hy16 hy18 (i32_n rfl)) s_cad ?_
        rintro _ s51 ⟨rfl, hz51⟩ hE51
        show pr N2 K d tb_M70 292 [(18, vi y18), (17, vi y17), (16, vi y16), (15, vi y15), (13, vl y13), (11, vl y11), (9, vl y9), (7, vl y7), (5, vl y5), (3, vl y3), (2, vi y2), (0, .ref 131), (1, vi y1)] [vi (cadz (up2 (up2 (up2 t46 131 7 (lo y3 y9)) 131 8 (lo y5 y11)) 131 9 (lo y7 y13)))] s51 _
        refine pr_reti rfl rfl ?_
        exact .inl ⟨_, cadz (up2 (up2 (up2 t46 131 7 (lo y3 y9)) 131 8 (lo y5 y11)) 131 9 (lo y7 y13)), _, rfl, ⟨rfl, hz51⟩, rfl, hE51⟩
      · refine mq_f h50 ?_
        refine pr_if1f rfl rfl hy15 h50 ?_
        refine pr_n (pc2 := 256) (lv2 := [(18, vi y18), (17, vi y17), (16, vi y16), (15, vi y15), (13, vl y13), (11, vl y11), (9, vl y9), (7, vl y7), (5, vl y5), (3, vl y3), (2, vi y2), (0, .ref 131), (1, vi y1)]) (st2 := [.ref 131]) 1 (fun _ _ => rfl) ?_
        refine pr_gE (k2 := 131) (v := vi (t46 131 3)) hE49 rfl rfl rfl (by decide) rfl rfl rfl fun h52 => ?_
        have h52 : i32 (t46 131 3) := h52
        refine pr_n (pc2 := 261) (lv2 := [(18, vi y18), (17, vi y17), (16, vi y16), (15, vi y15), (13, vl y13), (11, vl y11), (9, vl y9), (7, vl y7), (5, vl y5), (3, vl y3), (2, vi y2), (0, .ref 131), (1, vi y1)]) (st2 := [vi ((-2)), vi (t46 131 3)]) 1 (fun _ _ => rfl) ?_
        by_cases h53 : t46 131 3 = (-2)
        · refine mq_t h53 ?_
          refine pr_if2t rfl rfl h52 (i32_n rfl) h53 ?_
          refine pr_n (pc2 := 274) (lv2 := [(18, vi y18), (17, vi y17), (16, vi y16), (15, vi y15), (13, vl y13), (11, vl y11), (9, vl y9), (7, vl y7), (5, vl y5), (3, vl y3), (2, vi y2), (0, .ref 131), (1, vi y1)]) (st2 := [vi y2, .ref 131]) 2 (fun _ _ => rfl) ?_
          refine pr_pE (k2 := 131) (z := y2) hE49 rfl rfl rfl rfl (by decide) rfl (by decide) rfl (show i32 (y2) from hy2) (hf_int' _) rfl rfl rfl (fun e => absurd e.2 (by decide)) (iv_c (by decide)) fun s54 hE54 => ?_
          refine pr_n (pc2 := 278) (lv2 := [(18, vi y18), (17, vi y17), (16, vi y16), (15, vi y15), (13, vl y13), (11, vl y11), (9, vl y9), (7, vl y7), (5, vl y5), (3, vl y3), (2, vi y2), (0, .ref 131), (1, vi y1)]) (st2 := [.ref 131]) 1 (fun _ _ => rfl) ?_
          refine pr_get (v := .ref C) rfl rfl rfl (by decide) (rv_ref (show s54.1 131 1 = ((C : Nat) : Int) from hE54.2.2.1)) fun _ => ?_
          refine pr_n (pc2 := 289) (lv2 := [(18, vi y18), (17, vi y17), (16, vi y16), (15, vi y15), (13, vl y13), (11, vl y11), (9, vl y9), (7, vl y7), (5, vl y5), (3, vl y3), (2, vi y2), (0, .ref 131), (1, vi y1)]) (st2 := [vi ((-1)), vi y18, vi y16, vi 312, .ref C]) 4 (fun _ _ => rfl) ?_
          refine pr_s1 (args := [vi 312, vi y16, vi y18, vi ((-1))]) (rest := []) rfl rfl rfl (TK0 hC) (Nat.le_of_ble_eq_true rfl) rfl (h_54 s54 (up2 (up2 (up2 (up2 t46 131 7 (lo y3 y9)) 131 8 (lo y5 y11)) 131 9 (lo y7 y13)) 131 3 y2) 312 y16 y18 ((-1)) hE54 (i32_n rfl) hy16 hy18 (i32_n rfl)) s_cad ?_
          rintro _ s55 ⟨rfl, hz55⟩ hE55
          show pr N2 K d tb_M70 292 [(18, vi y18), (17, vi y17), (16, vi y16), (15, vi y15), (13, vl y13), (11, vl y11), (9, vl y9), (7, vl y7), (5, vl y5), (3, vl y3), (2, vi y2), (0, .ref 131), (1, vi y1)] [vi (cadz (up2 (up2 (up2 (up2 t46 131 7 (lo y3 y9)) 131 8 (lo y5 y11)) 131 9 (lo y7 y13)) 131 3 y2))] s55 _
          refine pr_reti rfl rfl ?_
          exact .inl ⟨_, cadz (up2 (up2 (up2 (up2 t46 131 7 (lo y3 y9)) 131 8 (lo y5 y11)) 131 9 (lo y7 y13)) 131 3 y2), _, rfl, ⟨rfl, hz55⟩, rfl, hE55⟩
        · refine mq_f h53 ?_
          refine pr_if2f rfl rfl h52 (i32_n rfl) h53 ?_
          refine pr_n (pc2 := 266) (lv2 := [(18, vi y18), (17, vi y17), (16, vi y16), (15, vi y15), (13, vl y13), (11, vl y11), (9, vl y9), (7, vl y7), (5, vl y5), (3, vl y3), (2, vi y2), (0, .ref 131), (1, vi y1)]) (st2 := [.ref 131, vi y2]) 2 (fun _ _ => rfl) ?_
          refine pr_gE (k2 := 131) (v := vi (t46 131 3)) hE49 rfl rfl rfl (by decide) rfl rfl rfl fun h56 => ?_
          have h56 : i32 (t46 131 3) := h56
          by_cases h57 : t46 131 3 ≤ y2
          · refine mq_t h57 ?_
            refine pr_if2t rfl rfl hy2 h56 h57 ?_
            refine pr_n (pc2 := 278) (lv2 := [(18, vi y18), (17, vi y17), (16, vi y16), (15, vi y15), (13, vl y13), (11, vl y11), (9, vl y9), (7, vl y7), (5, vl y5), (3, vl y3), (2, vi y2), (0, .ref 131), (1, vi y1)]) (st2 := [.ref 131]) 1 (fun _ _ => rfl) ?_
            refine pr_get (v := .ref C) rfl rfl rfl (by decide) (rv_ref (show s49.1 131 1 = ((C : Nat) : Int) from hE49.2.2.1)) fun _ => ?_
            refine pr_n (pc2 := 289) (lv2 := [(18, vi y18), (17, vi y17), (16, vi y16), (15, vi y15), (13, vl y13), (11, vl y11), (9, vl y9), (7, vl y7), (5, vl y5), (3, vl y3), (2, vi y2), (0, .ref 131), (1, vi y1)]) (st2 := [vi ((-1)), vi y18, vi y16, vi 312, .ref C]) 4 (fun _ _ => rfl) ?_
            refine pr_s1 (args := [vi 312, vi y16, vi y18, vi ((-1))]) (rest := []) rfl rfl rfl (TK0 hC) (Nat.le_of_ble_eq_true rfl) rfl (h_54 s49 (up2 (up2 (up2 t46 131 7 (lo y3 y9)) 131 8 (lo y5 y11)) 131 9 (lo y7 y13)) 312 y16 y18 ((-1)) hE49 (i32_n rfl) hy16 hy18 (i32_n rfl)) s_cad ?_
            rintro _ s58 ⟨rfl, hz58⟩ hE58
            show pr N2 K d tb_M70 292 [(18, vi y18), (17, vi y17), (16, vi y16), (15, vi y15), (13, vl y13), (11, vl y11), (9, vl y9), (7, vl y7), (5, vl y5), (3, vl y3), (2, vi y2), (0, .ref 131), (1, vi y1)] [vi (cadz (up2 (up2 (up2 t46 131 7 (lo y3 y9)) 131 8 (lo y5 y11)) 131 9 (lo y7 y13)))] s58 _
            refine pr_reti rfl rfl ?_
            exact .inl ⟨_, cadz (up2 (up2 (up2 t46 131 7 (lo y3 y9)) 131 8 (lo y5 y11)) 131 9 (lo y7 y13)), _, rfl, ⟨rfl, hz58⟩, rfl, hE58⟩
          · refine mq_f h57 ?_
            refine pr_if2f rfl rfl hy2 h56 h57 ?_
            refine pr_n (pc2 := 274) (lv2 := [(18, vi y18), (17, vi y17), (16, vi y16), (15, vi y15), (13, vl y13), (11, vl y11), (9, vl y9), (7, vl y7), (5, vl y5), (3, vl y3), (2, vi y2), (0, .ref 131), (1, vi y1)]) (st2 := [vi y2, .ref 131]) 2 (fun _ _ => rfl) ?_
            refine pr_pE (k2 := 131) (z := y2) hE49 rfl rfl rfl rfl (by decide) rfl (by decide) rfl (show i32 (y2) from hy2) (hf_int' _) rfl rfl rfl (fun e => absurd e.2 (by decide)) (iv_c (by decide)) fun s59 hE59 => ?_
            refine pr_n (pc2 := 278) (lv2 := [(18, vi y18), (17, vi y17), (16, vi y16), (15, vi y15), (13, vl y13), (11, vl y11), (9, vl y9), (7, vl y7), (5, vl y5), (3, vl y3), (2, vi y2), (0, .ref 131), (1, vi y1)]) (st2 := [.ref 131]) 1 (fun _ _ => rfl) ?_
            refine pr_get (v := .ref C) rfl rfl rfl (by decide) (rv_ref (show s59.1 131 1 = ((C : Nat) : Int) from hE59.2.2.1)) fun _ => ?_
            refine pr_n (pc2 := 289) (lv2 := [(18, vi y18), (17, vi y17), (16, vi y16), (15, vi y15), (13, vl y13), (11, vl y11), (9, vl y9), (7, vl y7), (5, vl y5), (3, vl y3), (2, vi y2), (0, .ref 131), (1, vi y1)]) (st2 := [vi ((-1)), vi y18, vi y16, vi 312, .ref C]) 4 (fun _ _ => rfl) ?_
            refine pr_s1 (args := [vi 312, vi y16, vi y18, vi ((-1))]) (rest := []) rfl rfl rfl (TK0 hC) (Nat.le_of_ble_eq_true rfl) rfl (h_54 s59 (up2 (up2 (up2 (up2 t46 131 7 (lo y3 y9)) 131 8 (lo y5 y11)) 131 9 (lo y7 y13)) 131 3 y2) 312 y16 y18 ((-1)) hE59 (i32_n rfl) hy16 hy18 (i32_n rfl)) s_cad ?_
            rintro _ s60 ⟨rfl, hz60⟩ hE60
            show pr N2 K d tb_M70 292 [(18, vi y18), (17, vi y17), (16, vi y16), (15, vi y15), (13, vl y13), (11, vl y11), (9, vl y9), (7, vl y7), (5, vl y5), (3, vl y3), (2, vi y2), (0, .ref 131), (1, vi y1)] [vi (cadz (up2 (up2 (up2 (up2 t46 131 7 (lo y3 y9)) 131 8 (lo y5 y11)) 131 9 (lo y7 y13)) 131 3 y2))] s60 _
            refine pr_reti rfl rfl ?_
            exact .inl ⟨_, cadz (up2 (up2 (up2 (up2 t46 131 7 (lo y3 y9)) 131 8 (lo y5 y11)) 131 9 (lo y7 y13)) 131 3 y2), _, rfl, ⟨rfl, hz60⟩, rfl, hE60⟩
    · refine mq_f h45 ?_
      refine pr_if2f rfl rfl hy18 (i32_n rfl) h45 ?_
      refine pr_n (pc2 := 67) (lv2 := [(18, vi y18), (17, vi y17), (16, vi y16), (15, vi y15), (13, vl y13), (11, vl y11), (9, vl y9), (7, vl y7), (5, vl y5), (3, vl y3), (2, vi y2), (0, .ref 131), (1, vi y1)]) (st2 := [.ref 131]) 1 (fun _ _ => rfl) ?_
      refine pr_get (v := .ref 137) rfl rfl rfl (by decide) (rv_ref (hE.2.1 131 0 137 rfl)) fun _ => ?_
      refine pr_s1 (args := []) (rest := []) rfl rfl rfl rfl (Nat.le_of_ble_eq_true rfl) rfl (h_34 s t  hE ) s_kkd ?_
      rintro _ s61 ⟨rfl, hz61⟩ hE61
      show pr N2 K d tb_M70 73 [(18, vi y18), (17, vi y17), (16, vi y16), (15, vi y15), (13, vl y13), (11, vl y11), (9, vl y9), (7, vl y7), (5, vl y5), (3, vl y3), (2, vi y2), (0, .ref 131), (1, vi y1)] [vi (kkd t)] s61 _
      refine pr_n (pc2 := 75) (lv2 := [(18, vi y18), (17, vi y17), (16, vi y16), (15, vi y15), (13, vl y13), (11, vl y11), (9, vl y9), (7, vl y7), (5, vl y5), (3, vl y3), (2, vi y2), (0, .ref 131), (1, vi y1)]) (st2 := [vi 124, vi (kkd t)]) 1 (fun _ _ => rfl) ?_
      by_cases h62 : kkd t ≠ 124
      · refine mq_t h62 ?_
        refine pr_if2t rfl rfl hz61 (i32_n rfl) h62 ?_
        refine pr_n (pc2 := 221) (lv2 := [(18, vi y18), (17, vi y17), (16, vi y16), (15, vi y15), (13, vl y13), (11, vl y11), (9, vl y9), (7, vl y7), (5, vl y5), (3, vl y3), (2, vi y2), (0, .ref 131), (1, vi y1)]) (st2 := [vi 125, .ref 131]) 2 (fun _ _ => rfl) ?_
        refine pr_m1 (args := [vi 125]) (rest := []) rfl rfl rfl rfl (Nat.le_of_ble_eq_true rfl) rfl (h_43 s61 t 125 hE61 (i32_n rfl)) ?_
        rintro _ _ t63 s63 ⟨rfl, rfl⟩ hE63
        show pr N2 K d tb_M70 224 [(18, vi y18), (17, vi y17), (16, vi y16), (15, vi y15), (13, vl y13), (11, vl y11), (9, vl y9), (7, vl y7), (5, vl y5), (3, vl y3), (2, vi y2), (0, .ref 131), (1, vi y1)] [] s63 _
        refine pr_n (pc2 := 228) (lv2 := [(18, vi y18), (17, vi y17), (16, vi y16), (15, vi y15), (13, vl y13), (11, vl y11), (9, vl y9), (7, vl y7), (5, vl y5), (3, vl y3), (2, vi y2), (0, .ref 131), (1, vi y1)]) (st2 := [vl y9, vl y3, .ref 131]) 3 (fun _ _ => rfl) ?_
        refine pr_l2 (a := y3) (b := y9) rfl rfl ?_
        show pr N2 K d tb_M70 229 [(18, vi y18), (17, vi y17), (16, vi y16), (15, vi y15), (13, vl y13), (11, vl y11), (9, vl y9), (7, vl y7), (5, vl y5), (3, vl y3), (2, vi y2), (0, .ref 131), (1, vi y1)] [vl (lo y3 y9), .ref 131] s63 _
        refine pr_pE (k2 := 131) (z := lo y3 y9) hE63 rfl rfl rfl rfl (by decide) rfl (by decide) rfl (i64_in _) (fit_l _) rfl rfl rfl (fun e => absurd e.2 (by decide)) (iv_c (by decide)) fun s64 hE64 => ?_
        refine pr_n (pc2 := 237) (lv2 := [(18, vi y18), (17, vi y17), (16, vi y16), (15, vi y15), (13, vl y13), (11, vl y11), (9, vl y9), (7, vl y7), (5, vl y5), (3, vl y3), (2, vi y2), (0, .ref 131), (1, vi y1)]) (st2 := [vl y11, vl y5, .ref 131]) 3 (fun _ _ => rfl) ?_
        refine pr_l2 (a := y5) (b := y11) rfl rfl ?_
        show pr N2 K d tb_M70 238 [(18, vi y18), (17, vi y17), (16, vi y16), (15, vi y15), (13, vl y13), (11, vl y11), (9, vl y9), (7, vl y7), (5, vl y5), (3, vl y3), (2, vi y2), (0, .ref 131), (1, vi y1)] [vl (lo y5 y11), .ref 131] s64 _
        refine pr_pE (k2 := 131) (z := lo y5 y11) hE64 rfl rfl rfl rfl (by decide) rfl (by decide) rfl (i64_in _) (fit_l _) rfl rfl rfl (fun e => absurd e.2 (by decide)) (iv_c (by decide)) fun s65 hE65 => ?_
        refine pr_n (pc2 := 246) (lv2 := [(18, vi y18), (17, vi y17), (16, vi y16), (15, vi y15), (13, vl y13), (11, vl y11), (9, vl y9), (7, vl y7), (5, vl y5), (3, vl y3), (2, vi y2), (0, .ref 131), (1, vi y1)]) (st2 := [vl y13, vl y7, .ref 131]) 3 (fun _ _ => rfl) ?_
        refine pr_l2 (a := y7) (b := y13) rfl rfl ?_
        show pr N2 K d tb_M70 247 [(18, vi y18), (17, vi y17), (16, vi y16), (15, vi y15), (13, vl y13), (11, vl y11), (9, vl y9), (7, vl y7), (5, vl y5), (3, vl y3), (2, vi y2), (0, .ref 131), (1, vi y1)] [vl (lo y7 y13), .ref 131] s65 _
        refine pr_pE (k2 := 131) (z := lo y7 y13) hE65 rfl rfl rfl rfl (by decide) rfl (by decide) rfl (i64_in _) (fit_l _) rfl rfl rfl (fun e => absurd e.2 (by decide)) (iv_c (by decide)) fun s66 hE66 => ?_
        refine pr_n (pc2 := 252) (lv2 := [(18, vi y18), (17, vi y17), (16, vi y16), (15, vi y15), (13, vl y13), (11, vl y11), (9, vl y9), (7, vl y7), (5, vl y5), (3, vl y3), (2, vi y2), (0, .ref 131), (1, vi y1)]) (st2 := [vi y15]) 1 (fun _ _ => rfl) ?_
        by_cases h67 : y15 = 0
        · refine mq_t h67 ?_
          refine pr_if1t rfl rfl hy15 h67 ?_
          refine pr_n (pc2 := 278) (lv2 := [(18, vi y18), (17, vi y17), (16, vi y16), (15, vi y15), (13, vl y13), (11, vl y11), (9, vl y9), (7, vl y7), (5, vl y5), (3, vl y3), (2, vi y2), (0, .ref 131), (1, vi y1)]) (st2 := [.ref 131]) 1 (fun _ _ => rfl) ?_
          refine pr_get (v := .ref C) rfl rfl rfl (by decide) (rv_ref (show s66.1 131 1 = ((C : Nat) : Int) from hE66.2.2.1)) fun _ => ?_
          refine pr_n (pc2 := 289) (lv2 := [(18, vi y18), (17, vi y17), (16, vi y16), (15, vi y15), (13, vl y13), (11, vl y11), (9, vl y9), (7, vl y7), (5, vl y5), (3, vl y3), (2, vi y2), (0, .ref 131), (1, vi y1)]) (st2 := [vi ((-1)), vi y18, vi y16, vi 312, .ref C]) 4 (fun _ _ => rfl) ?_
          refine pr_s1 (args := [vi 312, vi y16, vi y18, vi ((-1))]) (rest := []) rfl rfl rfl (TK0 hC) (Nat.le_of_ble_eq_true rfl) rfl (h_54 s66 (up2 (up2 (up2 t63 131 7 (lo y3 y9)) 131 8 (lo y5 y11)) 131 9 (lo y7 y13)) 312 y16 y18 ((-1)) hE66 (i32_n rfl) hy16 hy18 (i32_n rfl)) s_cad ?_
          rintro _ s68 ⟨rfl, hz68⟩ hE68
          show pr N2 K d tb_M70 292 [(18, vi y18), (17, vi y17), (16, vi y16), (15, vi y15), (13, vl y13), (11, vl y11), (9, vl y9), (7, vl y7), (5, vl y5), (3, vl y3), (2, vi y2), (0, .ref 131), (1, vi y1)] [vi (cadz (up2 (up2 (up2 t63 131 7 (lo y3 y9)) 131 8 (lo y5 y11)) 131 9 (lo y7 y13)))] s68 _
          refine pr_reti rfl rfl ?_
          exact .inl ⟨_, cadz (up2 (up2 (up2 t63 131 7 (lo y3 y9)) 131 8 (lo y5 y11)) 131 9 (lo y7 y13)), _, rfl, ⟨rfl, hz68⟩, rfl, hE68⟩
        · refine mq_f h67 ?_
          refine pr_if1f rfl rfl hy15 h67 ?_
          refine pr_n (pc2 := 256) (lv2 := [(18, vi y18), (17, vi y17), (16, vi y16), (15, vi y15), (13, vl y13), (11, vl y11), (9, vl y9), (7, vl y7), (5, vl y5), (3, vl y3), (2, vi y2), (0, .ref 131), (1, vi y1)]) (st2 := [.ref 131]) 1 (fun _ _ => rfl) ?_
          refine pr_gE (k2 := 131) (v := vi (t63 131 3)) hE66 rfl rfl rfl (by decide) rfl rfl rfl fun h69 => ?_
          have h69 : i32 (t63 131 3) := h69
          refine pr_n (pc2 := 261) (lv2 := [(18, vi y18), (17, vi y17), (16, vi y16), (15, vi y15), (13, vl y13), (11, vl y11), (9, vl y9), (7, vl y7), (5, vl y5), (3, vl y3), (2, vi y2), (0, .ref 131), (1, vi y1)]) (st2 := [vi ((-2)), vi (t63 131 3)]) 1 (fun _ _ => rfl) ?_
          by_cases h70 : t63 131 3 = (-2)
          · refine mq_t h70 ?_
            refine pr_if2t rfl rfl h69 (i32_n rfl) h70 ?_
            refine pr_n (pc2 := 274) (lv2 := [(18, vi y18), (17, vi y17), (16, vi y16), (15, vi y15), (13, vl y13), (11, vl y11), (9, vl y9), (7, vl y7), (5, vl y5), (3, vl y3), (2, vi y2), (0, .ref 131), (1, vi y1)]) (st2 := [vi y2, .ref 131]) 2 (fun _ _ => rfl) ?_
            refine pr_pE (k2 := 131) (z := y2) hE66 rfl rfl rfl rfl (by decide) rfl (by decide) rfl (show i32 (y2) from hy2) (hf_int' _) rfl rfl rfl (fun e => absurd e.2 (by decide)) (iv_c (by decide)) fun s71 hE71 => ?_
            refine pr_n (pc2 := 278) (lv2 := [(18, vi y18), (17, vi y17), (16, vi y16), (15, vi y15), (13, vl y13), (11, vl y11), (9, vl y9), (7, vl y7), (5, vl y5), (3, vl y3), (2, vi y2), (0, .ref 131), (1, vi y1)]) (st2 := [.ref 131]) 1 (fun _ _ => rfl) ?_
            refine pr_get (v := .ref C) rfl rfl rfl (by decide) (rv_ref (show s71.1 131 1 = ((C : Nat) : Int) from hE71.2.2.1)) fun _ => ?_
            refine pr_n (pc2 := 289) (lv2 := [(18, vi y18), (17, vi y17), (16, vi y16), (15, vi y15), (13, vl y13), (11, vl y11), (9, vl y9), (7, vl y7), (5, vl y5), (3, vl y3), (2, vi y2), (0, .ref 131), (1, vi y1)]) (st2 := [vi ((-1)), vi y18, vi y16, vi 312, .ref C]) 4 (fun _ _ => rfl) ?_
            refine pr_s1 (args := [vi 312, vi y16, vi y18, vi ((-1))]) (rest := []) rfl rfl rfl (TK0 hC) (Nat.le_of_ble_eq_true rfl) rfl (h_54 s71 (up2 (up2 (up2 (up2 t63 131 7 (lo y3 y9)) 131 8 (lo y5 y11)) 131 9 (lo y7 y13)) 131 3 y2) 312 y16 y18 ((-1)) hE71 (i32_n rfl) hy16 hy18 (i32_n rfl)) s_cad ?_
            rintro _ s72 ⟨rfl, hz72⟩ hE72
            show pr N2 K d tb_M70 292 [(18, vi y18), (17, vi y17), (16, vi y16), (15, vi y15), (13, vl y13), (11, vl y11), (9, vl y9), (7, vl y7), (5, vl y5), (3, vl y3), (2, vi y2), (0, .ref 131), (1, vi y1)] [vi (cadz (up2 (up2 (up2 (up2 t63 131 7 (lo y3 y9)) 131 8 (lo y5 y11)) 131 9 (lo y7 y13)) 131 3 y2))] s72 _
            refine pr_reti rfl rfl ?_
            exact .inl ⟨_, cadz (up2 (up2 (up2 (up2 t63 131 7 (lo y3 y9)) 131 8 (lo y5 y11)) 131 9 (lo y7 y13)) 131 3 y2), _, rfl, ⟨rfl, hz72⟩, rfl, hE72⟩
          · refine mq_f h70 ?_
            refine pr_if2f rfl rfl h69 (i32_n rfl) h70 ?_
            refine pr_n (pc2 := 266) (lv2 := [(18, vi y18), (17, vi y17), (16, vi y16), (15, vi y15), (13, vl y13), (11, vl y11), (9, vl y9), (7, vl y7), (5, vl y5), (3, vl y3), (2, vi y2), (0, .ref 131), (1, vi y1)]) (st2 := [.ref 131, vi y2]) 2 (fun _ _ => rfl) ?_
            refine pr_gE (k2 := 131) (v := vi (t63 131 3)) hE66 rfl rfl rfl (by decide) rfl rfl rfl fun h73 => ?_
            have h73 : i32 (t63 131 3) := h73
            by_cases h74 : t63 131 3 ≤ y2
            · refine mq_t h74 ?_
              refine pr_if2t rfl rfl hy2 h73 h74 ?_
              refine pr_n (pc2 := 278) (lv2 := [(18, vi y18), (17, vi y17), (16, vi y16), (15, vi y15), (13, vl y13), (11, vl y11), (9, vl y9), (7, vl y7), (5, vl y5), (3, vl y3), (2, vi y2), (0, .ref 131), (1, vi y1)]) (st2 := [.ref 131]) 1 (fun _ _ => rfl) ?_
              refine pr_get (v := .ref C) rfl rfl rfl (by decide) (rv_ref (show s66.1 131 1 = ((C : Nat) : Int) from hE66.2.2.1)) fun _ => ?_
              refine pr_n (pc2 := 289) (lv2 := [(18, vi y18), (17, vi y17), (16, vi y16), (15, vi y15), (13, vl y13), (11, vl y11), (9, vl y9), (7, vl y7), (5, vl y5), (3, vl y3), (2, vi y2), (0, .ref 131), (1, vi y1)]) (st2 := [vi ((-1)), vi y18, vi y16, vi 312, .ref C]) 4 (fun _ _ => rfl) ?_
              refine pr_s1 (args := [vi 312, vi y16, vi y18, vi ((-1))]) (rest := []) rfl rfl rfl (TK0 hC) (Nat.le_of_ble_eq_true rfl) rfl (h_54 s66 (up2 (up2 (up2 t63 131 7 (lo y3 y9)) 131 8 (lo y5 y11)) 131 9 (lo y7 y13)) 312 y16 y18 ((-1)) hE66 (i32_n rfl) hy16 hy18 (i32_n rfl)) s_cad ?_
              rintro _ s75 ⟨rfl, hz75⟩ hE75
              show pr N2 K d tb_M70 292 [(18, vi y18), (17, vi y17), (16, vi y16), (15, vi y15), (13, vl y13), (11, vl y11), (9, vl y9), (7, vl y7), (5, vl y5), (3, vl y3), (2, vi y2), (0, .ref 131), (1, vi y1)] [vi (cadz (up2 (up2 (up2 t63 131 7 (lo y3 y9)) 131 8 (lo y5 y11)) 131 9 (lo y7 y13)))] s75 _
              refine pr_reti rfl rfl ?_
              exact .inl ⟨_, cadz (up2 (up2 (up2 t63 131 7 (lo y3 y9)) 131 8 (lo y5 y11)) 131 9 (lo y7 y13)), _, rfl, ⟨rfl, hz75⟩, rfl, hE75⟩
            · refine mq_f h74 ?_
              refine pr_if2f rfl rfl hy2 h73 h74 ?_
              refine pr_n (pc2 := 274) (lv2 := [(18, vi y18), (17, vi y17), (16, vi y16), (15, vi y15), (13, vl y13), (11, vl y11), (9, vl y9), (7, vl y7), (5, vl y5), (3, vl y3), (2, vi y2), (0, .ref 131), (1, vi y1)]) (st2 := [vi y2, .ref 131]) 2 (fun _ _ => rfl) ?_
              refine pr_pE (k2 := 131) (z := y2) hE66 rfl rfl rfl rfl (by decide) rfl (by decide) rfl (show i32 (y2) from hy2) (hf_int' _) rfl rfl rfl (fun e => absurd e.2 (by decide)) (iv_c (by decide)) fun s76 hE76 => ?_
              refine pr_n (pc2 := 278) (lv2 := [(18, vi y18), (17, vi y17), (16, vi y16), (15, vi y15), (13, vl y13), (11, vl y11), (9, vl y9), (7, vl y7), (5, vl y5), (3, vl y3), (2, vi y2), (0, .ref 131), (1, vi y1)]) (st2 := [.ref 131]) 1 (fun _ _ => rfl) ?_
              refine pr_get (v := .ref C) rfl rfl rfl (by decide) (rv_ref (show s76.1 131 1 = ((C : Nat) : Int) from hE76.2.2.1)) fun _ => ?_
              refine pr_n (pc2 := 289) (lv2 := [(18, vi y18), (17, vi y17), (16, vi y16), (15, vi y15), (13, vl y13), (11, vl y11), (9, vl y9), (7, vl y7), (5, vl y5), (3, vl y3), (2, vi y2), (0, .ref 131), (1, vi y1)]) (st2 := [vi ((-1)), vi y18, vi y16, vi 312, .ref C]) 4 (fun _ _ => rfl) ?_
              refine pr_s1 (args := [vi 312, vi y16, vi y18, vi ((-1))]) (rest := []) rfl rfl rfl (TK0 hC) (Nat.le_of_ble_eq_true rfl) rfl (h_54 s76 (up2 (up2 (up2 (up2 t63 131 7 (lo y3 y9)) 131 8 (lo y5 y11)) 131 9 (lo y7 y13)) 131 3 y2) 312 y16 y18 ((-1)) hE76 (i32_n rfl) hy16 hy18 (i32_n rfl)) s_cad ?_
              rintro _ s77 ⟨rfl, hz77⟩ hE77
              show pr N2 K d tb_M70 292 [(18, vi y18), (17, vi y17), (16, vi y16), (15, vi y15), (13, vl y13), (11, vl y11), (9, vl y9), (7, vl y7), (5, vl y5), (3, vl y3), (2, vi y2), (0, .ref 131), (1, vi y1)] [vi (cadz (up2 (up2 (up2 (up2 t63 131 7 (lo y3 y9)) 131 8 (lo y5 y11)) 131 9 (lo y7 y13)) 131 3 y2))] s77 _
              refine pr_reti rfl rfl ?_
              exact .inl ⟨_, cadz (up2 (up2 (up2 (up2 t63 131 7 (lo y3 y9)) 131 8 (lo y5 y11)) 131 9 (lo y7 y13)) 131 3 y2), _, rfl, ⟨rfl, hz77⟩, rfl, hE77⟩
      · refine mq_f h62 ?_
        refine pr_if2f rfl rfl hz61 (i32_n rfl) h62 ?_
        refine pr_n (pc2 := 81) (lv2 := [(18, vi y18), (17, vi y17), (16, vi y16), (15, vi y15), (13, vl y13), (11, vl y11), (9, vl y9), (7, vl y7), (5, vl y5), (3, vl y3), (2, vi y2), (0, .ref 131), (1, vi y1)]) (st2 := [vi y18, .ref 131]) 2 (fun _ _ => rfl) ?_
        by_cases h78 : y18 ≠ 0
        · refine mq_t h78 ?_
          refine pr_if1t rfl rfl hy18 h78 ?_
          refine pr_n (pc2 := 91) (lv2 := [(18, vi y18), (17, vi y17), (16, vi y16), (15, vi y15), (13, vl y13), (11, vl y11), (9, vl y9), (7, vl y7), (5, vl y5), (3, vl y3), (2, vi y2), (0, .ref 131), (1, vi y1)]) (st2 := [vi 124, .ref 131]) 1 (fun _ _ => rfl) ?_
          refine pr_m1 (args := [vi 124]) (rest := []) rfl rfl rfl rfl (Nat.le_of_ble_eq_true rfl) rfl (h_43 s61 t 124 hE61 (i32_n rfl)) ?_
          rintro _ _ t79 s79 ⟨rfl, rfl⟩ hE79
          show pr N2 K d tb_M70 94 [(18, vi y18), (17, vi y17), (16, vi y16), (15, vi y15), (13, vl y13), (11, vl y11), (9, vl y9), (7, vl y7), (5, vl y5), (3, vl y3), (2, vi y2), (0, .ref 131), (1, vi y1)] [] s79 _
          refine pr_n (pc2 := 96) (lv2 := [(18, vi y18), (17, vi y17), (16, vi y16), (15, vi y15), (13, vl y13), (11, vl y11), (9, vl y9), (7, vl y7), (5, vl y5), (3, vl y3), (2, vi y2), (0, .ref 131), (1, vi y1)]) (st2 := [vl 0, .ref 131]) 2 (fun _ _ => rfl) ?_
          refine pr_pE (k2 := 131) (z := 0) hE79 rfl rfl rfl rfl (by decide) rfl (by decide) rfl (i64_n rfl) (fit_l _) rfl rfl rfl (fun e => absurd e.2 (by decide)) (iv_c (by decide)) fun s80 hE80 => ?_
          refine pr_n (pc2 := 101) (lv2 := [(18, vi y18), (17, vi y17), (16, vi y16), (15, vi y15), (13, vl y13), (11, vl y11), (9, vl y9), (7, vl y7), (5, vl y5), (3, vl y3), (2, vi y2), (0, .ref 131), (1, vi y1)]) (st2 := [vl 0, .ref 131]) 2 (fun _ _ => rfl) ?_
          refine pr_pE (k2 := 131) (z := 0) hE80 rfl rfl rfl rfl (by decide) rfl (by decide) rfl (i64_n rfl) (fit_l _) rfl rfl rfl (fun e => absurd e.2 (by decide)) (iv_c (by decide)) fun s81 hE81 => ?_
          refine pr_n (pc2 := 106) (lv2 := [(18, vi y18), (17, vi y17), (16, vi y16), (15, vi y15), (13, vl y13), (11, vl y11), (9, vl y9), (7, vl y7), (5, vl y5), (3, vl y3), (2, vi y2), (0, .ref 131), (1, vi y1)]) (st2 := [vl 0, .ref 131]) 2 (fun _ _ => rfl) ?_
          refine pr_pE (k2 := 131) (z := 0) hE81 rfl rfl rfl rfl (by decide) rfl (by decide) rfl (i64_n rfl) (fit_l _) rfl rfl rfl (fun e => absurd e.2 (by decide)) (iv_c (by decide)) fun s82 hE82 => ?_
          refine pr_n (pc2 := 112) (lv2 := [(18, vi y18), (17, vi y17), (16, vi y16), (15, vi y15), (13, vl y13), (11, vl y11), (9, vl y9), (7, vl y7), (5, vl y5), (3, vl y3), (2, vi y2), (0, .ref 131), (1, vi y1)]) (st2 := [vi 1, vi y1, .ref 131]) 3 (fun _ _ => rfl) ?_
          refine pr_i2 (a := y1) (b := 1) rfl rfl ?_
          show pr N2 K d tb_M70 113 [(18, vi y18), (17, vi y17), (16, vi y16), (15, vi y15), (13, vl y13), (11, vl y11), (9, vl y9), (7, vl y7), (5, vl y5), (3, vl y3), (2, vi y2), (0, .ref 131), (1, vi y1)] [vi (ipl y1 1), .ref 131] s82 _
          have h83 : i32 (ipl y1 1) := i32_in _
          refine pr_m1 (args := [vi (ipl y1 1)]) (rest := []) rfl rfl rfl rfl (Nat.le_of_ble_eq_true rfl) rfl (h_52 s82 (up2 (up2 (up2 t79 131 7 0) 131 8 0) 131 9 0) (ipl y1 1) hE82 h83) ?_
          rintro _ z84 t84 s84 ⟨rfl, hz84⟩ hE84
          show pr N2 K d tb_M70 116 [(18, vi y18), (17, vi y17), (16, vi y16), (15, vi y15), (13, vl y13), (11, vl y11), (9, vl y9), (7, vl y7), (5, vl y5), (3, vl y3), (2, vi y2), (0, .ref 131), (1, vi y1)] [vi z84] s84 _
          refine pr_n (pc2 := 119) (lv2 := [(19, vi z84), (18, vi y18), (17, vi y17), (16, vi y16), (15, vi y15), (13, vl y13), (11, vl y11), (9, vl y9), (7, vl y7), (5, vl y5), (3, vl y3), (2, vi y2), (0, .ref 131), (1, vi y1)]) (st2 := [.ref 131]) 2 (fun _ _ => rfl) ?_
          refine pr_get (v := .ref C) rfl rfl rfl (by decide) (rv_ref (show s84.1 131 1 = ((C : Nat) : Int) from hE84.2.2.1)) fun _ => ?_
          refine pr_n (pc2 := 126) (lv2 := [(19, vi z84), (18, vi y18), (17, vi y17), (16, vi y16), (15, vi y15), (13, vl y13), (11, vl y11), (9, vl y9), (7, vl y7), (5, vl y5), (3, vl y3), (2, vi y2), (0, .ref 131), (1, vi y1)]) (st2 := [vi z84, vi y17, .ref C]) 2 (fun _ _ => rfl) ?_
          refine pr_s1 (args := [vi y17, vi z84]) (rest := []) rfl rfl rfl (TK0 hC) (Nat.le_of_ble_eq_true rfl) rfl (h_66 s84 t84 y17 z84 hE84 hy17 hz84) s_lnk ?_
          rintro _ s85 ⟨rfl, _⟩ hE85
          show pr N2 K d tb_M70 129 [(19, vi z84), (18, vi y18), (17, vi y17), (16, vi y16), (15, vi y15), (13, vl y13), (11, vl y11), (9, vl y9), (7, vl y7), (5, vl y5), (3, vl y3), (2, vi y2), (0, .ref 131), (1, vi y1)] [] s85 _
          refine pr_n (pc2 := 131) (lv2 := [(19, vi z84), (18, vi y18), (17, vi y17), (16, vi y16), (15, vi y15), (13, vl y13), (11, vl y11), (9, vl y9), (7, vl y7), (5, vl y5), (3, vl y3), (2, vi y2), (0, .ref 131), (1, vi y1)]) (st2 := [vi y18]) 1 (fun _ _ => rfl) ?_
          refine pr_if1t rfl rfl hy18 (show y18 ≠ 0 by omega) ?_
          show pr N2 K d tb_M70 139 [(19, vi z84), (18, vi y18), (17, vi y17), (16, vi y16), (15, vi y15), (13, vl y13), (11, vl y11), (9, vl y9), (7, vl y7), (5, vl y5), (3, vl y3), (2, vi y2), (0, .ref 131), (1, vi y1)] [] s85 _
          refine pr_n (pc2 := 150) (lv2 := [(17, vi z84), (16, vi y16), (19, vi z84), (18, vi y18), (15, vi y15), (13, vl y13), (11, vl y11), (9, vl y9), (7, vl y7), (5, vl y5), (3, vl y3), (2, vi y2), (0, .ref 131), (1, vi y1)]) (st2 := [.ref 131, vi y15]) 6 (fun _ _ => rfl) ?_
          refine pr_gE (k2 := 131) (v := vl ((lnk t84 y17 z84) 131 8)) hE85 rfl rfl rfl (by decide) rfl rfl rfl fun h86 => ?_
          have h86 : i64 ((lnk t84 y17 z84) 131 8) := h86
          refine pr_n (pc2 := 155) (lv2 := [(17, vi z84), (16, vi y16), (19, vi z84), (18, vi y18), (15, vi y15), (13, vl y13), (11, vl y11), (9, vl y9), (7, vl y7), (5, vl y5), (3, vl y3), (2, vi y2), (0, .ref 131), (1, vi y1)]) (st2 := [vl y9, vl ((lnk t84 y17 z84) 131 8), vi y15]) 1 (fun _ _ => rfl) ?_
          refine pr_l2 (a := (lnk t84 y17 z84) 131 8) (b := y9) rfl rfl ?_
          show pr N2 K d tb_M70 156 [(17, vi z84), (16, vi y16), (19, vi z84), (18, vi y18), (15, vi y15), (13, vl y13), (11, vl y11), (9, vl y9), (7, vl y7), (5, vl y5), (3, vl y3), (2, vi y2), (0, .ref 131), (1, vi y1)] [vl (la ((lnk t84 y17 z84) 131 8) y9), vi y15] s85 _
          refine pr_n (pc2 := 157) (lv2 := [(17, vi z84), (16, vi y16), (19, vi z84), (18, vi y18), (15, vi y15), (13, vl y13), (11, vl y11), (9, vl y9), (7, vl y7), (5, vl y5), (3, vl y3), (2, vi y2), (0, .ref 131), (1, vi y1)]) (st2 := [.ref 131, vl (la ((lnk t84 y17 z84) 131 8) y9), vi y15]) 1 (fun _ _ => rfl) ?_
          refine pr_gE (k2 := 131) (v := vl ((lnk t84 y17 z84) 131 7)) hE85 rfl rfl rfl (by decide) rfl rfl rfl fun h87 => ?_
          have h87 : i64 ((lnk t84 y17 z84) 131 7) := h87
          refine pr_n (pc2 := 162) (lv2 := [(17, vi z84), (16, vi y16), (19, vi z84), (18, vi y18), (15, vi y15), (13, vl y13), (11, vl y11), (9, vl y9), (7, vl y7), (5, vl y5), (3, vl y3), (2, vi y2), (0, .ref 131), (1, vi y1)]) (st2 := [vl y11, vl ((lnk t84 y17 z84) 131 7), vl (la ((lnk t84 y17 z84) 131 8) y9), vi y15]) 1 (fun _ _ => rfl) ?_
          refine pr_l2 (a := (lnk t84 y17 z84) 131 7) (b := y11) rfl rfl ?_
          show pr N2 K d tb_M70 163 [(17, vi z84), (16, vi y16), (19, vi z84), (18, vi y18), (15, vi y15), (13, vl y13), (11, vl y11), (9, vl y9), (7, vl y7), (5, vl y5), (3, vl y3), (2, vi y2), (0, .ref 131), (1, vi y1)] [vl (la ((lnk t84 y17 z84) 131 7) y11), vl (la ((lnk t84 y17 z84) 131 8) y9), vi y15] s85 _
          refine pr_l2 (a := la ((lnk t84 y17 z84) 131 8) y9) (b := la ((lnk t84 y17 z84) 131 7) y11) rfl rfl ?_
          show pr N2 K d tb_M70 164 [(17, vi z84), (16, vi y16), (19, vi z84), (18, vi y18), (15, vi y15), (13, vl y13), (11, vl y11), (9, vl y9), (7, vl y7), (5, vl y5), (3, vl y3), (2, vi y2), (0, .ref 131), (1, vi y1)] [vl (lo (la ((lnk t84 y17 z84) 131 8) y9) (la ((lnk t84 y17 z84) 131 7) y11)), vi y15] s85 _
          refine pr_n (pc2 := 165) (lv2 := [(17, vi z84), (16, vi y16), (19, vi z84), (18, vi y18), (15, vi y15), (13, vl y13), (11, vl y11), (9, vl y9), (7, vl y7), (5, vl y5), (3, vl y3), (2, vi y2), (0, .ref 131), (1, vi y1)]) (st2 := [.ref 131, vl (lo (la ((lnk t84 y17 z84) 131 8) y9) (la ((lnk t84 y17 z84) 131 7) y11)), vi y15]) 1 (fun _ _ => rfl) ?_
          refine pr_gE (k2 := 131) (v := vl ((lnk t84 y17 z84) 131 9)) hE85 rfl rfl rfl (by decide) rfl rfl rfl fun h88 => ?_
          have h88 : i64 ((lnk t84 y17 z84) 131 9) := h88
          refine pr_n (pc2 := 170) (lv2 := [(17, vi z84), (16, vi y16), (19, vi z84), (18, vi y18), (15, vi y15), (13, vl y13), (11, vl y11), (9, vl y9), (7, vl y7), (5, vl y5), (3, vl y3), (2, vi y2), (0, .ref 131), (1, vi y1)]) (st2 := [vl y13, vl ((lnk t84 y17 z84) 131 9), vl (lo (la ((lnk t84 y17 z84) 131 8) y9) (la ((lnk t84 y17 z84) 131 7) y11)), vi y15]) 1 (fun _ _ => rfl) ?_
          refine pr_l2 (a := (lnk t84 y17 z84) 131 9) (b := y13) rfl rfl ?_
          show pr N2 K d tb_M70 171 [(17, vi z84), (16, vi y16), (19, vi z84), (18, vi y18), (15, vi y15), (13, vl y13), (11, vl y11), (9, vl y9), (7, vl y7), (5, vl y5), (3, vl y3), (2, vi y2), (0, .ref 131), (1, vi y1)] [vl (la ((lnk t84 y17 z84) 131 9) y13), vl (lo (la ((lnk t84 y17 z84) 131 8) y9) (la ((lnk t84 y17 z84) 131 7) y11)), vi y15] s85 _
          refine pr_l2 (a := lo (la ((lnk t84 y17 z84) 131 8) y9) (la ((lnk t84 y17 z84) 131 7) y11)) (b := la ((lnk t84 y17 z84) 131 9) y13) rfl rfl ?_
          show pr N2 K d tb_M70 172 [(17, vi z84), (16, vi y16), (19, vi z84), (18, vi y18), (15, vi y15), (13, vl y13), (11, vl y11), (9, vl y9), (7, vl y7), (5, vl y5), (3, vl y3), (2, vi y2), (0, .ref 131), (1, vi y1)] [vl (lo (lo (la ((lnk t84 y17 z84) 131 8) y9) (la ((lnk t84 y17 z84) 131 7) y11)) (la ((lnk t84 y17 z84) 131 9) y13)), vi y15] s85 _
          refine pr_n (pc2 := 173) (lv2 := [(17, vi z84), (16, vi y16), (19, vi z84), (18, vi y18), (15, vi y15), (13, vl y13), (11, vl y11), (9, vl y9), (7, vl y7), (5, vl y5), (3, vl y3), (2, vi y2), (0, .ref 131), (1, vi y1)]) (st2 := [vl 0, vl (lo (lo (la ((lnk t84 y17 z84) 131 8) y9) (la ((lnk t84 y17 z84) 131 7) y11)) (la ((lnk t84 y17 z84) 131 9) y13)), vi y15]) 1 (fun _ _ => rfl) ?_
          refine pr_lcmp (a := lo (lo (la ((lnk t84 y17 z84) 131 8) y9) (la ((lnk t84 y17 z84) 131 7) y11)) (la ((lnk t84 y17 z84) 131 9) y13)) (b := 0) rfl (i64_in _) (i64_n rfl) ?_
          by_cases h89 : lo (lo (la ((lnk t84 y17 z84) 131 8) y9) (la ((lnk t84 y17 z84) 131 7) y11)) (la ((lnk t84 y17 z84) 131 9) y13) = 0
          · refine mq_t h89 ?_
            refine pr_if1t rfl rfl lc_i32 (lc_eq.mpr h89) ?_
            refine pr_n (pc2 := 182) (lv2 := [(17, vi z84), (16, vi y16), (19, vi z84), (18, vi y18), (15, vi y15), (13, vl y13), (11, vl y11), (9, vl y9), (7, vl y7), (5, vl y5), (3, vl y3), (2, vi y2), (0, .ref 131), (1, vi y1)]) (st2 := [vi 0, vi y15]) 1 (fun _ _ => rfl) ?_
            refine pr_i2 (a := y15) (b := 0) rfl rfl ?_
            show pr N2 K d tb_M70 183 [(17, vi z84), (16, vi y16), (19, vi z84), (18, vi y18), (15, vi y15), (13, vl y13), (11, vl y11), (9, vl y9), (7, vl y7), (5, vl y5), (3, vl y3), (2, vi y2), (0, .ref 131), (1, vi y1)] [vi (ior y15 0)] s85 _
            have h90 : i32 (ior y15 0) := i32_in _
            refine pr_n (pc2 := 188) (lv2 := [(15, vi (ior y15 0)), (17, vi z84), (16, vi y16), (19, vi z84), (18, vi y18), (13, vl y13), (11, vl y11), (9, vl y9), (7, vl y7), (5, vl y5), (3, vl y3), (2, vi y2), (0, .ref 131), (1, vi y1)]) (st2 := [.ref 131, vl y9]) 3 (fun _ _ => rfl) ?_
            refine pr_gE (k2 := 131) (v := vl ((lnk t84 y17 z84) 131 7)) hE85 rfl rfl rfl (by decide) rfl rfl rfl fun h91 => ?_
            have h91 : i64 ((lnk t84 y17 z84) 131 7) := h91
            refine pr_l2 (a := y9) (b := (lnk t84 y17 z84) 131 7) rfl rfl ?_
            show pr N2 K d tb_M70 192 [(15, vi (ior y15 0)), (17, vi z84), (16, vi y16), (19, vi z84), (18, vi y18), (13, vl y13), (11, vl y11), (9, vl y9), (7, vl y7), (5, vl y5), (3, vl y3), (2, vi y2), (0, .ref 131), (1, vi y1)] [vl (lo y9 ((lnk t84 y17 z84) 131 7))] s85 _
            refine pr_n (pc2 := 197) (lv2 := [(9, vl (lo y9 ((lnk t84 y17 z84) 131 7))), (15, vi (ior y15 0)), (17, vi z84), (16, vi y16), (19, vi z84), (18, vi y18), (13, vl y13), (11, vl y11), (7, vl y7), (5, vl y5), (3, vl y3), (2, vi y2), (0, .ref 131), (1, vi y1)]) (st2 := [.ref 131, vl y11]) 3 (fun _ _ => rfl) ?_
            refine pr_gE (k2 := 131) (v := vl ((lnk t84 y17 z84) 131 8)) hE85 rfl rfl rfl (by decide) rfl rfl rfl fun h92 => ?_
            have h92 : i64 ((lnk t84 y17 z84) 131 8) := h92
            refine pr_l2 (a := y11) (b := (lnk t84 y17 z84) 131 8) rfl rfl ?_
            show pr N2 K d tb_M70 201 [(9, vl (lo y9 ((lnk t84 y17 z84) 131 7))), (15, vi (ior y15 0)), (17, vi z84), (16, vi y16), (19, vi z84), (18, vi y18), (13, vl y13), (11, vl y11), (7, vl y7), (5, vl y5), (3, vl y3), (2, vi y2), (0, .ref 131), (1, vi y1)] [vl (lo y11 ((lnk t84 y17 z84) 131 8))] s85 _
            refine pr_n (pc2 := 206) (lv2 := [(11, vl (lo y11 ((lnk t84 y17 z84) 131 8))), (9, vl (lo y9 ((lnk t84 y17 z84) 131 7))), (15, vi (ior y15 0)), (17, vi z84), (16, vi y16), (19, vi z84), (18, vi y18), (13, vl y13), (7, vl y7), (5, vl y5), (3, vl y3), (2, vi y2), (0, .ref 131), (1, vi y1)]) (st2 := [.ref 131, vl y13]) 3 (fun _ _ => rfl) ?_
            refine pr_gE (k2 := 131) (v := vl ((lnk t84 y17 z84) 131 9)) hE85 rfl rfl rfl (by decide) rfl rfl rfl fun h93 => ?_
            have h93 : i64 ((lnk t84 y17 z84) 131 9) := h93
            refine pr_l2 (a := y13) (b := (lnk t84 y17 z84) 131 9) rfl rfl ?_
            show pr N2 K d tb_M70 210 [(11, vl (lo y11 ((lnk t84 y17 z84) 131 8))), (9, vl (lo y9 ((lnk t84 y17 z84) 131 7))), (15, vi (ior y15 0)), (17, vi z84), (16, vi y16), (19, vi z84), (18, vi y18), (13, vl y13), (7, vl y7), (5, vl y5), (3, vl y3), (2, vi y2), (0, .ref 131), (1, vi y1)] [vl (lo y13 ((lnk t84 y17 z84) 131 9))] s85 _
            refine pr_n (pc2 := 212) (lv2 := [(13, vl (lo y13 ((lnk t84 y17 z84) 131 9))), (11, vl (lo y11 ((lnk t84 y17 z84) 131 8))), (9, vl (lo y9 ((lnk t84 y17 z84) 131 7))), (15, vi (ior y15 0)), (17, vi z84), (16, vi y16), (19, vi z84), (18, vi y18), (7, vl y7), (5, vl y5), (3, vl y3), (2, vi y2), (0, .ref 131), (1, vi y1)]) (st2 := []) 1 (fun _ _ => rfl) ?_
            refine pr_inc (a := y18) rfl rfl ?_
            have h94 : i32 (y18 + 1) := by unfold i32 at *; omega
            show pr N2 K d tb_M70 215 [(18, vi (y18 + 1)), (13, vl (lo y13 ((lnk t84 y17 z84) 131 9))), (11, vl (lo y11 ((lnk t84 y17 z84) 131 8))), (9, vl (lo y9 ((lnk t84 y17 z84) 131 7))), (15, vi (ior y15 0)), (17, vi z84), (16, vi y16), (19, vi z84), (7, vl y7), (5, vl y5), (3, vl y3), (2, vi y2), (0, .ref 131), (1, vi y1)] [] s85 _
            refine pr_n (pc2 := 53) (lv2 := [(18, vi (y18 + 1)), (13, vl (lo y13 ((lnk t84 y17 z84) 131 9))), (11, vl (lo y11 ((lnk t84 y17 z84) 131 8))), (9, vl (lo y9 ((lnk t84 y17 z84) 131 7))), (15, vi (ior y15 0)), (17, vi z84), (16, vi y16), (19, vi z84), (7, vl y7), (5, vl y5), (3, vl y3), (2, vi y2), (0, .ref 131), (1, vi y1)]) (st2 := []) 1 (fun _ _ => rfl) ?_
            exact ((ih N2 hN2).2) s85 ((lnk t84 y17 z84)) (y18 + 1) (lo y13 ((lnk t84 y17 z84) 131 9)) (lo y11 ((lnk t84 y17 z84) 131 8)) (lo y9 ((lnk t84 y17 z84) 131 7)) (ior y15 0) z84 y16 z84 y7 y5 y3 y2 y1 hE85 h94 (i64_in _) (i64_in _) (i64_in _) h90 hz84 hy16 hz84 hy7 hy5 hy3 hy2 hy1
          · refine mq_f h89 ?_
            refine pr_if1f rfl rfl lc_i32 (fun e => h89 (lc_eq.mp e)) ?_
            refine pr_n (pc2 := 182) (lv2 := [(17, vi z84), (16, vi y16), (19, vi z84), (18, vi y18), (15, vi y15), (13, vl y13), (11, vl y11), (9, vl y9), (7, vl y7), (5, vl y5), (3, vl y3), (2, vi y2), (0, .ref 131), (1, vi y1)]) (st2 := [vi 1, vi y15]) 2 (fun _ _ => rfl) ?_
            refine pr_i2 (a := y15) (b := 1) rfl rfl ?_
            show pr N2 K d tb_M70 183 [(17, vi z84), (16, vi y16), (19, vi z84), (18, vi y18), (15, vi y15), (13, vl y13), (11, vl y11), (9, vl y9), (7, vl y7), (5, vl y5), (3, vl y3), (2, vi y2), (0, .ref 131), (1, vi y1)] [vi (ior y15 1)] s85 _
            have h95 : i32 (ior y15 1) := i32_in _
            refine pr_n (pc2 := 188) (lv2 := [(15, vi (ior y15 1)), (17, vi z84), (16, vi y16), (19, vi z84), (18, vi y18), (13, vl y13), (11, vl y11), (9, vl y9), (7, vl y7), (5, vl y5), (3, vl y3), (2, vi y2), (0, .ref 131), (1, vi y1)]) (st2 := [.ref 131, vl y9]) 3 (fun _ _ => rfl) ?_
            refine pr_gE (k2 := 131) (v := vl ((lnk t84 y17 z84) 131 7)) hE85 rfl rfl rfl (by decide) rfl rfl rfl fun h96 => ?_
            have h96 : i64 ((lnk t84 y17 z84) 131 7) := h96
            refine pr_l2 (a := y9) (b := (lnk t84 y17 z84) 131 7) rfl rfl ?_
            show pr N2 K d tb_M70 192 [(15, vi (ior y15 1)), (17, vi z84), (16, vi y16), (19, vi z84), (18, vi y18), (13, vl y13), (11, vl y11), (9, vl y9), (7, vl y7), (5, vl y5), (3, vl y3), (2, vi y2), (0, .ref 131), (1, vi y1)] [vl (lo y9 ((lnk t84 y17 z84) 131 7))] s85 _
            refine pr_n (pc2 := 197) (lv2 := [(9, vl (lo y9 ((lnk t84 y17 z84) 131 7))), (15, vi (ior y15 1)), (17, vi z84), (16, vi y16), (19, vi z84), (18, vi y18), (13, vl y13), (11, vl y11), (7, vl y7), (5, vl y5), (3, vl y3), (2, vi y2), (0, .ref 131), (1, vi y1)]) (st2 := [.ref 131, vl y11]) 3 (fun _ _ => rfl) ?_
            refine pr_gE (k2 := 131) (v := vl ((lnk t84 y17 z84) 131 8)) hE85 rfl rfl rfl (by decide) rfl rfl rfl fun h97 => ?_
            have h97 : i64 ((lnk t84 y17 z84) 131 8) := h97
            refine pr_l2 (a := y11) (b := (lnk t84 y17 z84) 131 8) rfl rfl ?_
            show pr N2 K d tb_M70 201 [(9, vl (lo y9 ((lnk t84 y17 z84) 131 7))), (15, vi (ior y15 1)), (17, vi z84), (16, vi y16), (19, vi z84), (18, vi y18), (13, vl y13), (11, vl y11), (7, vl y7), (5, vl y5), (3, vl y3), (2, vi y2), (0, .ref 131), (1, vi y1)] [vl (lo y11 ((lnk t84 y17 z84) 131 8))] s85 _
            refine pr_n (pc2 := 206) (lv2 := [(11, vl (lo y11 ((lnk t84 y17 z84) 131 8))), (9, vl (lo y9 ((lnk t84 y17 z84) 131 7))), (15, vi (ior y15 1)), (17, vi z84), (16, vi y16), (19, vi z84), (18, vi y18), (13, vl y13), (7, vl y7), (5, vl y5), (3, vl y3), (2, vi y2), (0, .ref 131), (1, vi y1)]) (st2 := [.ref 131, vl y13]) 3 (fun _ _ => rfl) ?_
            refine pr_gE (k2 := 131) (v := vl ((lnk t84 y17 z84) 131 9)) hE85 rfl rfl rfl (by decide) rfl rfl rfl fun h98 => ?_
            have h98 : i64 ((lnk t84 y17 z84) 131 9) := h98
            refine pr_l2 (a := y13) (b := (lnk t84 y17 z84) 131 9) rfl rfl ?_
            show pr N2 K d tb_M70 210 [(11, vl (lo y11 ((lnk t84 y17 z84) 131 8))), (9, vl (lo y9 ((lnk t84 y17 z84) 131 7))), (15, vi (ior y15 1)), (17, vi z84), (16, vi y16), (19, vi z84), (18, vi y18), (13, vl y13), (7, vl y7), (5, vl y5), (3, vl y3), (2, vi y2), (0, .ref 131), (1, vi y1)] [vl (lo y13 ((lnk t84 y17 z84) 131 9))] s85 _
            refine pr_n (pc2 := 212) (lv2 := [(13, vl (lo y13 ((lnk t84 y17 z84) 131 9))), (11, vl (lo y11 ((lnk t84 y17 z84) 131 8))), (9, vl (lo y9 ((lnk t84 y17 z84) 131 7))), (15, vi (ior y15 1)), (17, vi z84), (16, vi y16), (19, vi z84), (18, vi y18), (7, vl y7), (5, vl y5), (3, vl y3), (2, vi y2), (0, .ref 131), (1, vi y1)]) (st2 := []) 1 (fun _ _ => rfl) ?_
            refine pr_inc (a := y18) rfl rfl ?_
            have h99 : i32 (y18 + 1) := by unfold i32 at *; omega
            show pr N2 K d tb_M70 215 [(18, vi (y18 + 1)), (13, vl (lo y13 ((lnk t84 y17 z84) 131 9))), (11, vl (lo y11 ((lnk t84 y17 z84) 131 8))), (9, vl (lo y9 ((lnk t84 y17 z84) 131 7))), (15, vi (ior y15 1)), (17, vi z84), (16, vi y16), (19, vi z84), (7, vl y7), (5, vl y5), (3, vl y3), (2, vi y2), (0, .ref 131), (1, vi y1)] [] s85 _
            refine pr_n (pc2 := 53) (lv2 := [(18, vi (y18 + 1)), (13, vl (lo y13 ((lnk t84 y17 z84) 131 9))), (11, vl (lo y11 ((lnk t84 y17 z84) 131 8))), (9, vl (lo y9 ((lnk t84 y17 z84) 131 7))), (15, vi (ior y15 1)), (17, vi z84), (16, vi y16), (19, vi z84), (7, vl y7), (5, vl y5), (3, vl y3), (2, vi y2), (0, .ref 131), (1, vi y1)]) (st2 := []) 1 (fun _ _ => rfl) ?_
            exact ((ih N2 hN2).2) s85 ((lnk t84 y17 z84)) (y18 + 1) (lo y13 ((lnk t84 y17 z84) 131 9)) (lo y11 ((lnk t84 y17 z84) 131 8)) (lo y9 ((lnk t84 y17 z84) 131 7)) (ior y15 1) z84 y16 z84 y7 y5 y3 y2 y1 hE85 h99 (i64_in _) (i64_in _) (i64_in _) h95 hz84 hy16 hz84 hy7 hy5 hy3 hy2 hy1
        · refine mq_f h78 ?_
          refine pr_if1f rfl rfl hy18 h78 ?_
          refine pr_n (pc2 := 91) (lv2 := [(18, vi y18), (17, vi y17), (16, vi y16), (15, vi y15), (13, vl y13), (11, vl y11), (9, vl y9), (7, vl y7), (5, vl y5), (3, vl y3), (2, vi y2), (0, .ref 131), (1, vi y1)]) (st2 := [vi 123, .ref 131]) 2 (fun _ _ => rfl) ?_
          refine pr_m1 (args := [vi 123]) (rest := []) rfl rfl rfl rfl (Nat.le_of_ble_eq_true rfl) rfl (h_43 s61 t 123 hE61 (i32_n rfl)) ?_
          rintro _ _ t100 s100 ⟨rfl, rfl⟩ hE100
          show pr N2 K d tb_M70 94 [(18, vi y18), (17, vi y17), (16, vi y16), (15, vi y15), (13, vl y13), (11, vl y11), (9, vl y9), (7, vl y7), (5, vl y5), (3, vl y3), (2, vi y2), (0, .ref 131), (1, vi y1)] [] s100 _
          refine pr_n (pc2 := 96) (lv2 := [(18, vi y18), (17, vi y17), (16, vi y16), (15, vi y15), (13, vl y13), (11, vl y11), (9, vl y9), (7, vl y7), (5, vl y5), (3, vl y3), (2, vi y2), (0, .ref 131), (1, vi y1)]) (st2 := [vl 0, .ref 131]) 2 (fun _ _ => rfl) ?_
          refine pr_pE (k2 := 131) (z := 0) hE100 rfl rfl rfl rfl (by decide) rfl (by decide) rfl (i64_n rfl) (fit_l _) rfl rfl rfl (fun e => absurd e.2 (by decide)) (iv_c (by decide)) fun s101 hE101 => ?_
          refine pr_n (pc2 := 101) (lv2 := [(18, vi y18), (17, vi y17), (16, vi y16), (15, vi y15), (13, vl y13), (11, vl y11), (9, vl y9), (7, vl y7), (5, vl y5), (3, vl y3), (2, vi y2), (0, .ref 131), (1, vi y1)]) (st2 := [vl 0, .ref 131]) 2 (fun _ _ => rfl) ?_
          refine pr_pE (k2 := 131) (z := 0) hE101 rfl rfl rfl rfl (by decide) rfl (by decide) rfl (i64_n rfl) (fit_l _) rfl rfl rfl (fun e => absurd e.2 (by decide)) (iv_c (by decide)) fun s102 hE102 => ?_
          refine pr_n (pc2 := 106) (lv2 := [(18, vi y18), (17, vi y17), (16, vi y16), (15, vi y15), (13, vl y13), (11, vl y11), (9, vl y9), (7, vl y7), (5, vl y5), (3, vl y3), (2, vi y2), (0, .ref 131), (1, vi y1)]) (st2 := [vl 0, .ref 131]) 2 (fun _ _ => rfl) ?_
          refine pr_pE (k2 := 131) (z := 0) hE102 rfl rfl rfl rfl (by decide) rfl (by decide) rfl (i64_n rfl) (fit_l _) rfl rfl rfl (fun e => absurd e.2 (by decide)) (iv_c (by decide)) fun s103 hE103 => ?_
          refine pr_n (pc2 := 112) (lv2 := [(18, vi y18), (17, vi y17), (16, vi y16), (15, vi y15), (13, vl y13), (11, vl y11), (9, vl y9), (7, vl y7), (5, vl y5), (3, vl y3), (2, vi y2), (0, .ref 131), (1, vi y1)]) (st2 := [vi 1, vi y1, .ref 131]) 3 (fun _ _ => rfl) ?_
          refine pr_i2 (a := y1) (b := 1) rfl rfl ?_
          show pr N2 K d tb_M70 113 [(18, vi y18), (17, vi y17), (16, vi y16), (15, vi y15), (13, vl y13), (11, vl y11), (9, vl y9), (7, vl y7), (5, vl y5), (3, vl y3), (2, vi y2), (0, .ref 131), (1, vi y1)] [vi (ipl y1 1), .ref 131] s103 _
          have h104 : i32 (ipl y1 1) := i32_in _
          refine pr_m1 (args := [vi (ipl y1 1)]) (rest := []) rfl rfl rfl rfl (Nat.le_of_ble_eq_true rfl) rfl (h_52 s103 (up2 (up2 (up2 t100 131 7 0) 131 8 0) 131 9 0) (ipl y1 1) hE103 h104) ?_
          rintro _ z105 t105 s105 ⟨rfl, hz105⟩ hE105
          show pr N2 K d tb_M70 116 [(18, vi y18), (17, vi y17), (16, vi y16), (15, vi y15), (13, vl y13), (11, vl y11), (9, vl y9), (7, vl y7), (5, vl y5), (3, vl y3), (2, vi y2), (0, .ref 131), (1, vi y1)] [vi z105] s105 _
          refine pr_n (pc2 := 119) (lv2 := [(19, vi z105), (18, vi y18), (17, vi y17), (16, vi y16), (15, vi y15), (13, vl y13), (11, vl y11), (9, vl y9), (7, vl y7), (5, vl y5), (3, vl y3), (2, vi y2), (0, .ref 131), (1, vi y1)]) (st2 := [.ref 131]) 2 (fun _ _ => rfl) ?_
          refine pr_get (v := .ref C) rfl rfl rfl (by decide) (rv_ref (show s105.1 131 1 = ((C : Nat) : Int) from hE105.2.2.1)) fun _ => ?_
          refine pr_n (pc2 := 126) (lv2 := [(19, vi z105), (18, vi y18), (17, vi y17), (16, vi y16), (15, vi y15), (13, vl y13), (11, vl y11), (9, vl y9), (7, vl y7), (5, vl y5), (3, vl y3), (2, vi y2), (0, .ref 131), (1, vi y1)]) (st2 := [vi z105, vi y17, .ref C]) 2 (fun _ _ => rfl) ?_
          refine pr_s1 (args := [vi y17, vi z105]) (rest := []) rfl rfl rfl (TK0 hC) (Nat.le_of_ble_eq_true rfl) rfl (h_66 s105 t105 y17 z105 hE105 hy17 hz105) s_lnk ?_
          rintro _ s106 ⟨rfl, _⟩ hE106
          show pr N2 K d tb_M70 129 [(19, vi z105), (18, vi y18), (17, vi y17), (16, vi y16), (15, vi y15), (13, vl y13), (11, vl y11), (9, vl y9), (7, vl y7), (5, vl y5), (3, vl y3), (2, vi y2), (0, .ref 131), (1, vi y1)] [] s106 _
          refine pr_n (pc2 := 131) (lv2 := [(19, vi z105), (18, vi y18), (17, vi y17), (16, vi y16), (15, vi y15), (13, vl y13), (11, vl y11), (9, vl y9), (7, vl y7), (5, vl y5), (3, vl y3), (2, vi y2), (0, .ref 131), (1, vi y1)]) (st2 := [vi y18]) 1 (fun _ _ => rfl) ?_
          refine pr_if1f rfl rfl hy18 (show ¬ (y18 ≠ 0) by omega) ?_
          show pr N2 K d tb_M70 134 [(19, vi z105), (18, vi y18), (17, vi y17), (16, vi y16), (15, vi y15), (13, vl y13), (11, vl y11), (9, vl y9), (7, vl y7), (5, vl y5), (3, vl y3), (2, vi y2), (0, .ref 131), (1, vi y1)] [] s106 _
          refine pr_n (pc2 := 150) (lv2 := [(17, vi z105), (16, vi z105), (19, vi z105), (18, vi y18), (15, vi y15), (13, vl y13), (11, vl y11), (9, vl y9), (7, vl y7), (5, vl y5), (3, vl y3), (2, vi y2), (0, .ref 131), (1, vi y1)]) (st2 := [.ref 131, vi y15]) 7 (fun _ _ => rfl) ?_
          refine pr_gE (k2 := 131) (v := vl ((lnk t105 y17 z105) 131 8)) hE106 rfl rfl rfl (by decide) rfl rfl rfl fun h107 => ?_
          have h107 : i64 ((lnk t105 y17 z105) 131 8) := h107
          refine pr_n (pc2 := 155) (lv2 := [(17, vi z105), (16, vi z105), (19, vi z105), (18, vi y18), (15, vi y15), (13, vl y13), (11, vl y11), (9, vl y9), (7, vl y7), (5, vl y5), (3, vl y3), (2, vi y2), (0, .ref 131), (1, vi y1)]) (st2 := [vl y9, vl ((lnk t105 y17 z105) 131 8), vi y15]) 1 (fun _ _ => rfl) ?_
          refine pr_l2 (a := (lnk t105 y17 z105) 131 8) (b := y9) rfl rfl ?_
          show pr N2 K d tb_M70 156 [(17, vi z105), (16, vi z105), (19, vi z105), (18, vi y18), (15, vi y15), (13, vl y13), (11, vl y11), (9, vl y9), (7, vl y7), (5, vl y5), (3, vl y3), (2, vi y2), (0, .ref 131), (1, vi y1)] [vl (la ((lnk t105 y17 z105) 131 8) y9), vi y15] s106 _
          refine pr_n (pc2 := 157) (lv2 := [(17, vi z105), (16, vi z105), (19, vi z105), (18, vi y18), (15, vi y15), (13, vl y13), (11, vl y11), (9, vl y9), (7, vl y7), (5, vl y5), (3, vl y3), (2, vi y2), (0, .ref 131), (1, vi y1)]) (st2 := [.ref 131, vl (la ((lnk t105 y17 z105) 131 8) y9), vi y15]) 1 (fun _ _ => rfl) ?_
          refine pr_gE (k2 := 131) (v := vl ((lnk t105 y17 z105) 131 7)) hE106 rfl rfl rfl (by decide) rfl rfl rfl fun h108 => ?_
          have h108 : i64 ((lnk t105 y17 z105) 131 7) := h108
          refine pr_n (pc2 := 162) (lv2 := [(17, vi z105), (16, vi z105), (19, vi z105), (18, vi y18), (15, vi y15), (13, vl y13), (11, vl y11), (9, vl y9), (7, vl y7), (5, vl y5), (3, vl y3), (2, vi y2), (0, .ref 131), (1, vi y1)]) (st2 := [vl y11, vl ((lnk t105 y17 z105) 131 7), vl (la ((lnk t105 y17 z105) 131 8) y9), vi y15]) 1 (fun _ _ => rfl) ?_
          refine pr_l2 (a := (lnk t105 y17 z105) 131 7) (b := y11) rfl rfl ?_
          show pr N2 K d tb_M70 163 [(17, vi z105), (16, vi z105), (19, vi z105), (18, vi y18), (15, vi y15), (13, vl y13), (11, vl y11), (9, vl y9), (7, vl y7), (5, vl y5), (3, vl y3), (2, vi y2), (0, .ref 131), (1, vi y1)] [vl (la ((lnk t105 y17 z105) 131 7) y11), vl (la ((lnk t105 y17 z105) 131 8) y9), vi y15] s106 _
          refine pr_l2 (a := la ((lnk t105 y17 z105) 131 8) y9) (b := la ((lnk t105 y17 z105) 131 7) y11) rfl rfl ?_
          show pr N2 K d tb_M70 164 [(17, vi z105), (16, vi z105), (19, vi z105), (18, vi y18), (15, vi y15), (13, vl y13), (11, vl y11), (9, vl y9), (7, vl y7), (5, vl y5), (3, vl y3), (2, vi y2), (0, .ref 131), (1, vi y1)] [vl (lo (la ((lnk t105 y17 z105) 131 8) y9) (la ((lnk t105 y17 z105) 131 7) y11)), vi y15] s106 _
          refine pr_n (pc2 := 165) (lv2 := [(17, vi z105), (16, vi z105), (19, vi z105), (18, vi y18), (15, vi y15), (13, vl y13), (11, vl y11), (9, vl y9), (7, vl y7), (5, vl y5), (3, vl y3), (2, vi y2), (0, .ref 131), (1, vi y1)]) (st2 := [.ref 131, vl (lo (la ((lnk t105 y17 z105) 131 8) y9) (la ((lnk t105 y17 z105) 131 7) y11)), vi y15]) 1 (fun _ _ => rfl) ?_
          refine pr_gE (k2 := 131) (v := vl ((lnk t105 y17 z105) 131 9)) hE106 rfl rfl rfl (by decide) rfl rfl rfl fun h109 => ?_
          have h109 : i64 ((lnk t105 y17 z105) 131 9) := h109
          refine pr_n (pc2 := 170) (lv2 := [(17, vi z105), (16, vi z105), (19, vi z105), (18, vi y18), (15, vi y15), (13, vl y13), (11, vl y11), (9, vl y9), (7, vl y7), (5, vl y5), (3, vl y3), (2, vi y2), (0, .ref 131), (1, vi y1)]) (st2 := [vl y13, vl ((lnk t105 y17 z105) 131 9), vl (lo (la ((lnk t105 y17 z105) 131 8) y9) (la ((lnk t105 y17 z105) 131 7) y11)), vi y15]) 1 (fun _ _ => rfl) ?_
          refine pr_l2 (a := (lnk t105 y17 z105) 131 9) (b := y13) rfl rfl ?_
          show pr N2 K d tb_M70 171 [(17, vi z105), (16, vi z105), (19, vi z105), (18, vi y18), (15, vi y15), (13, vl y13), (11, vl y11), (9, vl y9), (7, vl y7), (5, vl y5), (3, vl y3), (2, vi y2), (0, .ref 131), (1, vi y1)] [vl (la ((lnk t105 y17 z105) 131 9) y13), vl (lo (la ((lnk t105 y17 z105) 131 8) y9) (la ((lnk t105 y17 z105) 131 7) y11)), vi y15] s106 _
          refine pr_l2 (a := lo (la ((lnk t105 y17 z105) 131 8) y9) (la ((lnk t105 y17 z105) 131 7) y11)) (b := la ((lnk t105 y17 z105) 131 9) y13) rfl rfl ?_
          show pr N2 K d tb_M70 172 [(17, vi z105), (16, vi z105), (19, vi z105), (18, vi y18), (15, vi y15), (13, vl y13), (11, vl y11), (9, vl y9), (7, vl y7), (5, vl y5), (3, vl y3), (2, vi y2), (0, .ref 131), (1, vi y1)] [vl (lo (lo (la ((lnk t105 y17 z105) 131 8) y9) (la ((lnk t105 y17 z105) 131 7) y11)) (la ((lnk t105 y17 z105) 131 9) y13)), vi y15] s106 _
          refine pr_n (pc2 := 173) (lv2 := [(17, vi z105), (16, vi z105), (19, vi z105), (18, vi y18), (15, vi y15), (13, vl y13), (11, vl y11), (9, vl y9), (7, vl y7), (5, vl y5), (3, vl y3), (2, vi y2), (0, .ref 131), (1, vi y1)]) (st2 := [vl 0, vl (lo (lo (la ((lnk t105 y17 z105) 131 8) y9) (la ((lnk t105 y17 z105) 131 7) y11)) (la ((lnk t105 y17 z105) 131 9) y13)), vi y15]) 1 (fun _ _ => rfl) ?_
          refine pr_lcmp (a := lo (lo (la ((lnk t105 y17 z105) 131 8) y9) (la ((lnk t105 y17 z105) 131 7) y11)) (la ((lnk t105 y17 z105) 131 9) y13)) (b := 0) rfl (i64_in _) (i64_n rfl) ?_
          by_cases h110 : lo (lo (la ((lnk t105 y17 z105) 131 8) y9) (la ((lnk t105 y17 z105) 131 7) y11)) (la ((lnk t105 y17 z105) 131 9) y13) = 0
          · refine mq_t h110 ?_
            refine pr_if1t rfl rfl lc_i32 (lc_eq.mpr h110) ?_
            refine pr_n (pc2 := 182) (lv2 := [(17, vi z105), (16, vi z105), (19, vi z105), (18, vi y18), (15, vi y15), (13, vl y13), (11, vl y11), (9, vl y9), (7, vl y7), (5, vl y5), (3, vl y3), (2, vi y2), (0, .ref 131), (1, vi y1)]) (st2 := [vi 0, vi y15]) 1 (fun _ _ => rfl) ?_
            refine pr_i2 (a := y15) (b := 0) rfl rfl ?_
            show pr N2 K d tb_M70 183 [(17, vi z105), (16, vi z105), (19, vi z105), (18, vi y18), (15, vi y15), (13, vl y13), (11, vl y11), (9, vl y9), (7, vl y7), (5, vl y5), (3, vl y3), (2, vi y2), (0, .ref 131), (1, vi y1)] [vi (ior y15 0)] s106 _
            have h111 : i32 (ior y15 0) := i32_in _
            refine pr_n (pc2 := 188) (lv2 := [(15, vi (ior y15 0)), (17, vi z105), (16, vi z105), (19, vi z105), (18, vi y18), (13, vl y13), (11, vl y11), (9, vl y9), (7, vl y7), (5, vl y5), (3, vl y3), (2, vi y2), (0, .ref 131), (1, vi y1)]) (st2 := [.ref 131, vl y9]) 3 (fun _ _ => rfl) ?_
            refine pr_gE (k2 := 131) (v := vl ((lnk t105 y17 z105) 131 7)) hE106 rfl rfl rfl (by decide) rfl rfl rfl fun h112 => ?_
            have h112 : i64 ((lnk t105 y17 z105) 131 7) := h112
            refine pr_l2 (a := y9) (b := (lnk t105 y17 z105) 131 7) rfl rfl ?_
            show pr N2 K d tb_M70 192 [(15, vi (ior y15 0)), (17, vi z105), (16, vi z105), (19, vi z105), (18, vi y18), (13, vl y13), (11, vl y11), (9, vl y9), (7, vl y7), (5, vl y5), (3, vl y3), (2, vi y2), (0, .ref 131), (1, vi y1)] [vl (lo y9 ((lnk t105 y17 z105) 131 7))] s106 _
            refine pr_n (pc2 := 197) (lv2 := [(9, vl (lo y9 ((lnk t105 y17 z105) 131 7))), (15, vi (ior y15 0)), (17, vi z105), (16, vi z105), (19, vi z105), (18, vi y18), (13, vl y13), (11, vl y11), (7, vl y7), (5, vl y5), (3, vl y3), (2, vi y2), (0, .ref 131), (1, vi y1)]) (st2 := [.ref 131, vl y11]) 3 (fun _ _ => rfl) ?_
            refine pr_gE (k2 := 131) (v := vl ((lnk t105 y17 z105) 131 8)) hE106 rfl rfl rfl (by decide) rfl rfl rfl fun h113 => ?_
            have h113 : i64 ((lnk t105 y17 z105) 131 8) := h113
            refine pr_l2 (a := y11) (b := (lnk t105 y17 z105) 131 8) rfl rfl ?_
            show pr N2 K d tb_M70 201 [(9, vl (lo y9 ((lnk t105 y17 z105) 131 7))), (15, vi (ior y15 0)), (17, vi z105), (16, vi z105), (19, vi z105), (18, vi y18), (13, vl y13), (11, vl y11), (7, vl y7), (5, vl y5), (3, vl y3), (2, vi y2), (0, .ref 131), (1, vi y1)] [vl (lo y11 ((lnk t105 y17 z105) 131 8))] s106 _
            refine pr_n (pc2 := 206) (lv2 := [(11, vl (lo y11 ((lnk t105 y17 z105) 131 8))), (9, vl (lo y9 ((lnk t105 y17 z105) 131 7))), (15, vi (ior y15 0)), (17, vi z105), (16, vi z105), (19, vi z105), (18, vi y18), (13, vl y13), (7, vl y7), (5, vl y5), (3, vl y3), (2, vi y2), (0, .ref 131), (1, vi y1)]) (st2 := [.ref 131, vl y13]) 3 (fun _ _ => rfl) ?_
            refine pr_gE (k2 := 131) (v := vl ((lnk t105 y17 z105) 131 9)) hE106 rfl rfl rfl (by decide) rfl rfl rfl fun h114 => ?_
            have h114 : i64 ((lnk t105 y17 z105) 131 9) := h114
            refine pr_l2 (a := y13) (b := (lnk t105 y17 z105) 131 9) rfl rfl ?_
            show pr N2 K d tb_M70 210 [(11, vl (lo y11 ((lnk t105 y17 z105) 131 8))), (9, vl (lo y9 ((lnk t105 y17 z105) 131 7))), (15, vi (ior y15 0)), (17, vi z105), (16, vi z105), (19, vi z105), (18, vi y18), (13, vl y13), (7, vl y7), (5, vl y5), (3, vl y3), (2, vi y2), (0, .ref 131), (1, vi y1)] [vl (lo y13 ((lnk t105 y17 z105) 131 9))] s106 _
            refine pr_n (pc2 := 212) (lv2 := [(13, vl (lo y13 ((lnk t105 y17 z105) 131 9))), (11, vl (lo y11 ((lnk t105 y17 z105) 131 8))), (9, vl (lo y9 ((lnk t105 y17 z105) 131 7))), (15, vi (ior y15 0)), (17, vi z105), (16, vi z105), (19, vi z105), (18, vi y18), (7, vl y7), (5, vl y5), (3, vl y3), (2, vi y2), (0, .ref 131), (1, vi y1)]) (st2 := []) 1 (fun _ _ => rfl) ?_
            refine pr_inc (a := y18) rfl rfl ?_
            have h115 : i32 (y18 + 1) := by unfold i32 at *; omega
            show pr N2 K d tb_M70 215 [(18, vi (y18 + 1)), (13, vl (lo y13 ((lnk t105 y17 z105) 131 9))), (11, vl (lo y11 ((lnk t105 y17 z105) 131 8))), (9, vl (lo y9 ((lnk t105 y17 z105) 131 7))), (15, vi (ior y15 0)), (17, vi z105), (16, vi z105), (19, vi z105), (7, vl y7), (5, vl y5), (3, vl y3), (2, vi y2), (0, .ref 131), (1, vi y1)] [] s106 _
            refine pr_n (pc2 := 53) (lv2 := [(18, vi (y18 + 1)), (13, vl (lo y13 ((lnk t105 y17 z105) 131 9))), (11, vl (lo y11 ((lnk t105 y17 z105) 131 8))), (9, vl (lo y9 ((lnk t105 y17 z105) 131 7))), (15, vi (ior y15 0)), (17, vi z105), (16, vi z105), (19, vi z105), (7, vl y7), (5, vl y5), (3, vl y3), (2, vi y2), (0, .ref 131), (1, vi y1)]) (st2 := []) 1 (fun _ _ => rfl) ?_
            exact ((ih N2 hN2).2) s106 ((lnk t105 y17 z105)) (y18 + 1) (lo y13 ((lnk t105 y17 z105) 131 9)) (lo y11 ((lnk t105 y17 z105) 131 8)) (lo y9 ((lnk t105 y17 z105) 131 7)) (ior y15 0) z105 z105 z105 y7 y5 y3 y2 y1 hE106 h115 (i64_in _) (i64_in _) (i64_in _) h111 hz105 hz105 hz105 hy7 hy5 hy3 hy2 hy1
          · refine mq_f h110 ?_
            refine pr_if1f rfl rfl lc_i32 (fun e => h110 (lc_eq.mp e)) ?_
            refine pr_n (pc2 := 182) (lv2 := [(17, vi z105), (16, vi z105), (19, vi z105), (18, vi y18), (15, vi y15), (13, vl y13), (11, vl y11), (9, vl y9), (7, vl y7), (5, vl y5), (3, vl y3), (2, vi y2), (0, .ref 131), (1, vi y1)]) (st2 := [vi 1, vi y15]) 2 (fun _ _ => rfl) ?_
            refine pr_i2 (a := y15) (b := 1) rfl rfl ?_
            show pr N2 K d tb_M70 183 [(17, vi z105), (16, vi z105), (19, vi z105), (18, vi y18), (15, vi y15), (13, vl y13), (11, vl y11), (9, vl y9), (7, vl y7), (5, vl y5), (3, vl y3), (2, vi y2), (0, .ref 131), (1, vi y1)] [vi (ior y15 1)] s106 _
            have h116 : i32 (ior y15 1) := i32_in _
            refine pr_n (pc2 := 188) (lv2 := [(15, vi (ior y15 1)), (17, vi z105), (16, vi z105), (19, vi z105), (18, vi y18), (13, vl y13), (11, vl y11), (9, vl y9), (7, vl y7), (5, vl y5), (3, vl y3), (2, vi y2), (0, .ref 131), (1, vi y1)]) (st2 := [.ref 131, vl y9]) 3 (fun _ _ => rfl) ?_
            refine pr_gE (k2 := 131) (v := vl ((lnk t105 y17 z105) 131 7)) hE106 rfl rfl rfl (by decide) rfl rfl rfl fun h117 => ?_
            have h117 : i64 ((lnk t105 y17 z105) 131 7) := h117
            refine pr_l2 (a := y9) (b := (lnk t105 y17 z105) 131 7) rfl rfl ?_
            show pr N2 K d tb_M70 192 [(15, vi (ior y15 1)), (17, vi z105), (16, vi z105), (19, vi z105), (18, vi y18), (13, vl y13), (11, vl y11), (9, vl y9), (7, vl y7), (5, vl y5), (3, vl y3), (2, vi y2), (0, .ref 131), (1, vi y1)] [vl (lo y9 ((lnk t105 y17 z105) 131 7))] s106 _
            refine pr_n (pc2 := 197) (lv2 := [(9, vl (lo y9 ((lnk t105 y17 z105) 131 7))), (15, vi (ior y15 1)), (17, vi z105), (16, vi z105), (19, vi z105), (18, vi y18), (13, vl y13), (11, vl y11), (7, vl y7), (5, vl y5), (3, vl y3), (2, vi y2), (0, .ref 131), (1, vi y1)]) (st2 := [.ref 131, vl y11]) 3 (fun _ _ => rfl) ?_
            refine pr_gE (k2 := 131) (v := vl ((lnk t105 y17 z105) 131 8)) hE106 rfl rfl rfl (by decide) rfl rfl rfl fun h118 => ?_
            have h118 : i64 ((lnk t105 y17 z105) 131 8) := h118
            refine pr_l2 (a := y11) (b := (lnk t105 y17 z105) 131 8) rfl rfl ?_
            show pr N2 K d tb_M70 201 [(9, vl (lo y9 ((lnk t105 y17 z105) 131 7))), (15, vi (ior y15 1)), (17, vi z105), (16, vi z105), (19, vi z105), (18, vi y18), (13, vl y13), (11, vl y11), (7, vl y7), (5, vl y5), (3, vl y3), (2, vi y2), (0, .ref 131), (1, vi y1)] [vl (lo y11 ((lnk t105 y17 z105) 131 8))] s106 _
            refine pr_n (pc2 := 206) (lv2 := [(11, vl (lo y11 ((lnk t105 y17 z105) 131 8))), (9, vl (lo y9 ((lnk t105 y17 z105) 131 7))), (15, vi (ior y15 1)), (17, vi z105), (16, vi z105), (19, vi z105), (18, vi y18), (13, vl y13), (7, vl y7), (5, vl y5), (3, vl y3), (2, vi y2), (0, .ref 131), (1, vi y1)]) (st2 := [.ref 131, vl y13]) 3 (fun _ _ => rfl) ?_
            refine pr_gE (k2 := 131) (v := vl ((lnk t105 y17 z105) 131 9)) hE106 rfl rfl rfl (by decide) rfl rfl rfl fun h119 => ?_
            have h119 : i64 ((lnk t105 y17 z105) 131 9) := h119
            refine pr_l2 (a := y13) (b := (lnk t105 y17 z105) 131 9) rfl rfl ?_
            show pr N2 K d tb_M70 210 [(11, vl (lo y11 ((lnk t105 y17 z105) 131 8))), (9, vl (lo y9 ((lnk t105 y17 z105) 131 7))), (15, vi (ior y15 1)), (17, vi z105), (16, vi z105), (19, vi z105), (18, vi y18), (13, vl y13), (7, vl y7), (5, vl y5), (3, vl y3), (2, vi y2), (0, .ref 131), (1, vi y1)] [vl (lo y13 ((lnk t105 y17 z105) 131 9))] s106 _
            refine pr_n (pc2 := 212) (lv2 := [(13, vl (lo y13 ((lnk t105 y17 z105) 131 9))), (11, vl (lo y11 ((lnk t105 y17 z105) 131 8))), (9, vl (lo y9 ((lnk t105 y17 z105) 131 7))), (15, vi (ior y15 1)), (17, vi z105), (16, vi z105), (19, vi z105), (18, vi y18), (7, vl y7), (5, vl y5), (3, vl y3), (2, vi y2), (0, .ref 131), (1, vi y1)]) (st2 := []) 1 (fun _ _ => rfl) ?_
            refine pr_inc (a := y18) rfl rfl ?_
            have h120 : i32 (y18 + 1) := by unfold i32 at *; omega
            show pr N2 K d tb_M70 215 [(18, vi (y18 + 1)), (13, vl (lo y13 ((lnk t105 y17 z105) 131 9))), (11, vl (lo y11 ((lnk t105 y17 z105) 131 8))), (9, vl (lo y9 ((lnk t105 y17 z105) 131 7))), (15, vi (ior y15 1)), (17, vi z105), (16, vi z105), (19, vi z105), (7, vl y7), (5, vl y5), (3, vl y3), (2, vi y2), (0, .ref 131), (1, vi y1)] [] s106 _
            refine pr_n (pc2 := 53) (lv2 := [(18, vi (y18 + 1)), (13, vl (lo y13 ((lnk t105 y17 z105) 131 9))), (11, vl (lo y11 ((lnk t105 y17 z105) 131 8))), (9, vl (lo y9 ((lnk t105 y17 z105) 131 7))), (15, vi (ior y15 1)), (17, vi z105), (16, vi z105), (19, vi z105), (7, vl y7), (5, vl y5), (3, vl y3), (2, vi y2), (0, .ref 131), (1, vi y1)]) (st2 := []) 1 (fun _ _ => rfl) ?_
            exact ((ih N2 hN2).2) s106 ((lnk t105 y17 z105)) (y18 + 1) (lo y13 ((lnk t105 y17 z105) 131 9)) (lo y11 ((lnk t105 y17 z105) 131 8)) (lo y9 ((lnk t105 y17 z105) 131 7)) (ior y15 1) z105 z105 z105 y7 y5 y3 y2 y1 hE106 h120 (i64_in _) (i64_in _) (i64_in _) h116 hz105 hz105 hz105 hy7 hy5 hy3 hy2 hy1
set_option maxHeartbeats 20000000 in
set_option maxRecDepth 100000 in
theorem cu70_1 {N K d C : Nat} (h_34 : cT34 K d C) (h_35 : cT35 K d C) (h_40 : cT40 K d C) (h_43 : cT43 K d C) (h_52 : cT52 K d C) (h_54 : cT54 K d C) (h_66 : cT66 K d C) (ih : ∀ N2, N2 < N → cA70 N2 K d C) : cU70_1 N K d C := by
  intro s t y18 y13 y11 y9 y15 y17 y16 y19 y7 y5 y3 y2 y1 hE hy18 hy13 hy11 hy9 hy15 hy17 hy16 hy19 hy7 hy5 hy3 hy2 hy1
  have hC : C = 99 ∨ C = 115 := hE.1
  rw [cG_70_53]
  unfold cM70_53
  refine pr_lt (pc2 := 55) (lv2 := [(18, vi y18), (13, vl y13), (11, vl y11), (9, vl y9), (15, vi y15), (17, vi y17), (16, vi y16), (19, vi y19), (7, vl y7), (5, vl y5), (3, vl y3), (2, vi y2), (0, .ref 131), (1, vi y1)]) (st2 := [vi y18]) (fun _ _ => rfl) fun N2 hN2 => ?_
  refine pr_n (pc2 := 56) (lv2 := [(18, vi y18), (13, vl y13), (11, vl y11), (9, vl y9), (15, vi y15), (17, vi y17), (16, vi y16), (19, vi y19), (7, vl y7), (5, vl y5), (3, vl y3), (2, vi y2), (0, .ref 131), (1, vi y1)]) (st2 := [vi 2, vi y18]) 1 (fun _ _ => rfl) ?_
  by_cases h1 : y18 < 2
  · refine mq_t h1 ?_
    refine pr_if2t rfl rfl hy18 (i32_n rfl) h1 ?_
    refine pr_n (pc2 := 81) (lv2 := [(18, vi y18), (13, vl y13), (11, vl y11), (9, vl y9), (15, vi y15), (17, vi y17), (16, vi y16), (19, vi y19), (7, vl y7), (5, vl y5), (3, vl y3), (2, vi y2), (0, .ref 131), (1, vi y1)]) (st2 := [vi y18, .ref 131]) 2 (fun _ _ => rfl) ?_
    by_cases h2 : y18 ≠ 0
    · refine mq_t h2 ?_
      refine pr_if1t rfl rfl hy18 h2 ?_
      refine pr_n (pc2 := 91) (lv2 := [(18, vi y18), (13, vl y13), (11, vl y11), (9, vl y9), (15, vi y15), (17, vi y17), (16, vi y16), (19, vi y19), (7, vl y7), (5, vl y5), (3, vl y3), (2, vi y2), (0, .ref 131), (1, vi y1)]) (st2 := [vi 124, .ref 131]) 1 (fun _ _ => rfl) ?_
      refine pr_m1 (args := [vi 124]) (rest := []) rfl rfl rfl rfl (Nat.le_of_ble_eq_true rfl) rfl (h_43 s t 124 hE (i32_n rfl)) ?_
      rintro _ _ t3 s3 ⟨rfl, rfl⟩ hE3
      show pr N2 K d tb_M70 94 [(18, vi y18), (13, vl y13), (11, vl y11), (9, vl y9), (15, vi y15), (17, vi y17), (16, vi y16), (19, vi y19), (7, vl y7), (5, vl y5), (3, vl y3), (2, vi y2), (0, .ref 131), (1, vi y1)] [] s3 _
      refine pr_n (pc2 := 96) (lv2 := [(18, vi y18), (13, vl y13), (11, vl y11), (9, vl y9), (15, vi y15), (17, vi y17), (16, vi y16), (19, vi y19), (7, vl y7), (5, vl y5), (3, vl y3), (2, vi y2), (0, .ref 131), (1, vi y1)]) (st2 := [vl 0, .ref 131]) 2 (fun _ _ => rfl) ?_
      refine pr_pE (k2 := 131) (z := 0) hE3 rfl rfl rfl rfl (by decide) rfl (by decide) rfl (i64_n rfl) (fit_l _) rfl rfl rfl (fun e => absurd e.2 (by decide)) (iv_c (by decide)) fun s4 hE4 => ?_
      refine pr_n (pc2 := 101) (lv2 := [(18, vi y18), (13, vl y13), (11, vl y11), (9, vl y9), (15, vi y15), (17, vi y17), (16, vi y16), (19, vi y19), (7, vl y7), (5, vl y5), (3, vl y3), (2, vi y2), (0, .ref 131), (1, vi y1)]) (st2 := [vl 0, .ref 131]) 2 (fun _ _ => rfl) ?_
      refine pr_pE (k2 := 131) (z := 0) hE4 rfl rfl rfl rfl (by decide) rfl (by decide) rfl (i64_n rfl) (fit_l _) rfl rfl rfl (fun e => absurd e.2 (by decide)) (iv_c (by decide)) fun s5 hE5 => ?_
      refine pr_n (pc2 := 106) (lv2 := [(18, vi y18), (13, vl y13), (11, vl y11), (9, vl y9), (15, vi y15), (17, vi y17), (16, vi y16), (19, vi y19), (7, vl y7), (5, vl y5), (3, vl y3), (2, vi y2), (0, .ref 131), (1, vi y1)]) (st2 := [vl 0, .ref 131]) 2 (fun _ _ => rfl) ?_
      refine pr_pE (k2 := 131) (z := 0) hE5 rfl rfl rfl rfl (by decide) rfl (by decide) rfl (i64_n rfl) (fit_l _) rfl rfl rfl (fun e => absurd e.2 (by decide)) (iv_c (by decide)) fun s6 hE6 => ?_
      refine pr_n (pc2 := 112) (lv2 := [(18, vi y18), (13, vl y13), (11, vl y11), (9, vl y9), (15, vi y15), (17, vi y17), (16, vi y16), (19, vi y19), (7, vl y7), (5, vl y5), (3, vl y3), (2, vi y2), (0, .ref 131), (1, vi y1)]) (st2 := [vi 1, vi y1, .ref 131]) 3 (fun _ _ => rfl) ?_
      refine pr_i2 (a := y1) (b := 1) rfl rfl ?_
      show pr N2 K d tb_M70 113 [(18, vi y18), (13, vl y13), (11, vl y11), (9, vl y9), (15, vi y15), (17, vi y17), (16, vi y16), (19, vi y19), (7, vl y7), (5, vl y5), (3, vl y3), (2, vi y2), (0, .ref 131), (1, vi y1)] [vi (ipl y1 1), .ref 131] s6 _
      have h7 : i32 (ipl y1 1) := i32_in _
      refine pr_m1 (args := [vi (ipl y1 1)]) (rest := []) rfl rfl rfl rfl (Nat.le_of_ble_eq_true rfl) rfl (h_52 s6 (up2 (up2 (up2 t3 131 7 0) 131 8 0) 131 9 0) (ipl y1 1) hE6 h7) ?_
      rintro _ z8 t8 s8 ⟨rfl, hz8⟩ hE8
      show pr N2 K d tb_M70 116 [(18, vi y18), (13, vl y13), (11, vl y11), (9, vl y9), (15, vi y15), (17, vi y17), (16, vi y16), (19, vi y19), (7, vl y7), (5, vl y5), (3, vl y3), (2, vi y2), (0, .ref 131), (1, vi y1)] [vi z8] s8 _
      refine pr_n (pc2 := 119) (lv2 := [(19, vi z8), (18, vi y18), (13, vl y13), (11, vl y11), (9, vl y9), (15, vi y15), (17, vi y17), (16, vi y16), (7, vl y7), (5, vl y5), (3, vl y3), (2, vi y2), (0, .ref 131), (1, vi y1)]) (st2 := [.ref 131]) 2 (fun _ _ => rfl) ?_
      refine pr_get (v := .ref C) rfl rfl rfl (by decide) (rv_ref (show s8.1 131 1 = ((C : Nat) : Int) from hE8.2.2.1)) fun _ => ?_
      refine pr_n (pc2 := 126) (lv2 := [(19, vi z8), (18, vi y18), (13, vl y13), (11, vl y11), (9, vl y9), (15, vi y15), (17, vi y17), (16, vi y16), (7, vl y7), (5, vl y5), (3, vl y3), (2, vi y2), (0, .ref 131), (1, vi y1)]) (st2 := [vi z8, vi y17, .ref C]) 2 (fun _ _ => rfl) ?_
      refine pr_s1 (args := [vi y17, vi z8]) (rest := []) rfl rfl rfl (TK0 hC) (Nat.le_of_ble_eq_true rfl) rfl (h_66 s8 t8 y17 z8 hE8 hy17 hz8) s_lnk ?_
      rintro _ s9 ⟨rfl, _⟩ hE9
      show pr N2 K d tb_M70 129 [(19, vi z8), (18, vi y18), (13, vl y13), (11, vl y11), (9, vl y9), (15, vi y15), (17, vi y17), (16, vi y16), (7, vl y7), (5, vl y5), (3, vl y3), (2, vi y2), (0, .ref 131), (1, vi y1)] [] s9 _
      refine pr_n (pc2 := 131) (lv2 := [(19, vi z8), (18, vi y18), (13, vl y13), (11, vl y11), (9, vl y9), (15, vi y15), (17, vi y17), (16, vi y16), (7, vl y7), (5, vl y5), (3, vl y3), (2, vi y2), (0, .ref 131), (1, vi y1)]) (st2 := [vi y18]) 1 (fun _ _ => rfl) ?_
      refine pr_if1t rfl rfl hy18 (show y18 ≠ 0 by omega) ?_
      show pr N2 K d tb_M70 139 [(19, vi z8), (18, vi y18), (13, vl y13), (11, vl y11), (9, vl y9), (15, vi y15), (17, vi y17), (16, vi y16), (7, vl y7), (5, vl y5), (3, vl y3), (2, vi y2), (0, .ref 131), (1, vi y1)] [] s9 _
      refine pr_n (pc2 := 150) (lv2 := [(17, vi z8), (16, vi y16), (19, vi z8), (18, vi y18), (13, vl y13), (11, vl y11), (9, vl y9), (15, vi y15), (7, vl y7), (5, vl y5), (3, vl y3), (2, vi y2), (0, .ref 131), (1, vi y1)]) (st2 := [.ref 131, vi y15]) 6 (fun _ _ => rfl) ?_
      refine pr_gE (k2 := 131) (v := vl ((lnk t8 y17 z8) 131 8)) hE9 rfl rfl rfl (by decide) rfl rfl rfl fun h10 => ?_
      have h10 : i64 ((lnk t8 y17 z8) 131 8) := h10
      refine pr_n (pc2 := 155) (lv2 := [(17, vi z8), (16, vi y16), (19, vi z8), (18, vi y18), (13, vl y13), (11, vl y11), (9, vl y9), (15, vi y15), (7, vl y7), (5, vl y5), (3, vl y3), (2, vi y2), (0, .ref 131), (1, vi y1)]) (st2 := [vl y9, vl ((lnk t8 y17 z8) 131 8), vi y15]) 1 (fun _ _ => rfl) ?_
      refine pr_l2 (a := (lnk t8 y17 z8) 131 8) (b := y9) rfl rfl ?_
      show pr N2 K d tb_M70 156 [(17, vi z8), (16, vi y16), (19, vi z8), (18, vi y18), (13, vl y13), (11, vl y11), (9, vl y9), (15, vi y15), (7, vl y7), (5, vl y5), (3, vl y3), (2, vi y2), (0, .ref 131), (1, vi y1)] [vl (la ((lnk t8 y17 z8) 131 8) y9), vi y15] s9 _
      refine pr_n (pc2 := 157) (lv2 := [(17, vi z8), (16, vi y16), (19, vi z8), (18, vi y18), (13, vl y13), (11, vl y11), (9, vl y9), (15, vi y15), (7, vl y7), (5, vl y5), (3, vl y3), (2, vi y2), (0, .ref 131), (1, vi y1)]) (st2 := [.ref 131, vl (la ((lnk t8 y17 z8) 131 8) y9), vi y15]) 1 (fun _ _ => rfl) ?_
      refine pr_gE (k2 := 131) (v := vl ((lnk t8 y17 z8) 131 7)) hE9 rfl rfl rfl (by decide) rfl rfl rfl fun h11 => ?_
      have h11 : i64 ((lnk t8 y17 z8) 131 7) := h11
      refine pr_n (pc2 := 162) (lv2 := [(17, vi z8), (16, vi y16), (19, vi z8), (18, vi y18), (13, vl y13), (11, vl y11), (9, vl y9), (15, vi y15), (7, vl y7), (5, vl y5), (3, vl y3), (2, vi y2), (0, .ref 131), (1, vi y1)]) (st2 := [vl y11, vl ((lnk t8 y17 z8) 131 7), vl (la ((lnk t8 y17 z8) 131 8) y9), vi y15]) 1 (fun _ _ => rfl) ?_
      refine pr_l2 (a := (lnk t8 y17 z8) 131 7) (b := y11) rfl rfl ?_
      show pr N2 K d tb_M70 163 [(17, vi z8), (16, vi y16), (19, vi z8), (18, vi y18), (13, vl y13), (11, vl y11), (9, vl y9), (15, vi y15), (7, vl y7), (5, vl y5), (3, vl y3), (2, vi y2), (0, .ref 131), (1, vi y1)] [vl (la ((lnk t8 y17 z8) 131 7) y11), vl (la ((lnk t8 y17 z8) 131 8) y9), vi y15] s9 _
      refine pr_l2 (a := la ((lnk t8 y17 z8) 131 8) y9) (b := la ((lnk t8 y17 z8) 131 7) y11) rfl rfl ?_
      show pr N2 K d tb_M70 164 [(17, vi z8), (16, vi y16), (19, vi z8), (18, vi y18), (13, vl y13), (11, vl y11), (9, vl y9), (15, vi y15), (7, vl y7), (5, vl y5), (3, vl y3), (2, vi y2), (0, .ref 131), (1, vi y1)] [vl (lo (la ((lnk t8 y17 z8) 131 8) y9) (la ((lnk t8 y17 z8) 131 7) y11)), vi y15] s9 _
      refine pr_n (pc2 := 165) (lv2 := [(17, vi z8), (16, vi y16), (19, vi z8), (18, vi y18), (13, vl y13), (11, vl y11), (9, vl y9), (15, vi y15), (7, vl y7), (5, vl y5), (3, vl y3), (2, vi y2), (0, .ref 131), (1, vi y1)]) (st2 := [.ref 131, vl (lo (la ((lnk t8 y17 z8) 131 8) y9) (la ((lnk t8 y17 z8) 131 7) y11)), vi y15]) 1 (fun _ _ => rfl) ?_
      refine pr_gE (k2 := 131) (v := vl ((lnk t8 y17 z8) 131 9)) hE9 rfl rfl rfl (by decide) rfl rfl rfl fun h12 => ?_
      have h12 : i64 ((lnk t8 y17 z8) 131 9) := h12
      refine pr_n (pc2 := 170) (lv2 := [(17, vi z8), (16, vi y16), (19, vi z8), (18, vi y18), (13, vl y13), (11, vl y11), (9, vl y9), (15, vi y15), (7, vl y7), (5, vl y5), (3, vl y3), (2, vi y2), (0, .ref 131), (1, vi y1)]) (st2 := [vl y13, vl ((lnk t8 y17 z8) 131 9), vl (lo (la ((lnk t8 y17 z8) 131 8) y9) (la ((lnk t8 y17 z8) 131 7) y11)), vi y15]) 1 (fun _ _ => rfl) ?_
      refine pr_l2 (a := (lnk t8 y17 z8) 131 9) (b := y13) rfl rfl ?_
      show pr N2 K d tb_M70 171 [(17, vi z8), (16, vi y16), (19, vi z8), (18, vi y18), (13, vl y13), (11, vl y11), (9, vl y9), (15, vi y15), (7, vl y7), (5, vl y5), (3, vl y3), (2, vi y2), (0, .ref 131), (1, vi y1)] [vl (la ((lnk t8 y17 z8) 131 9) y13), vl (lo (la ((lnk t8 y17 z8) 131 8) y9) (la ((lnk t8 y17 z8) 131 7) y11)), vi y15] s9 _
      refine pr_l2 (a := lo (la ((lnk t8 y17 z8) 131 8) y9) (la ((lnk t8 y17 z8) 131 7) y11)) (b := la ((lnk t8 y17 z8) 131 9) y13) rfl rfl ?_
      show pr N2 K d tb_M70 172 [(17, vi z8), (16, vi y16), (19, vi z8), (18, vi y18), (13, vl y13), (11, vl y11), (9, vl y9), (15, vi y15), (7, vl y7), (5, vl y5), (3, vl y3), (2, vi y2), (0, .ref 131), (1, vi y1)] [vl (lo (lo (la ((lnk t8 y17 z8) 131 8) y9) (la ((lnk t8 y17 z8) 131 7) y11)) (la ((lnk t8 y17 z8) 131 9) y13)), vi y15] s9 _
      refine pr_n (pc2 := 173) (lv2 := [(17, vi z8), (16, vi y16), (19, vi z8), (18, vi y18), (13, vl y13), (11, vl y11), (9, vl y9), (15, vi y15), (7, vl y7), (5, vl y5), (3, vl y3), (2, vi y2), (0, .ref 131), (1, vi y1)]) (st2 := [vl 0, vl (lo (lo (la ((lnk t8 y17 z8) 131 8) y9) (la ((lnk t8 y17 z8) 131 7) y11)) (la ((lnk t8 y17 z8) 131 9) y13)), vi y15]) 1 (fun _ _ => rfl) ?_
      refine pr_lcmp (a := lo (lo (la ((lnk t8 y17 z8) 131 8) y9) (la ((lnk t8 y17 z8) 131 7) y11)) (la ((lnk t8 y17 z8) 131 9) y13)) (b := 0) rfl (i64_in _) (i64_n rfl) ?_
      by_cases h13 : lo (lo (la ((lnk t8 y17 z8) 131 8) y9) (la ((lnk t8 y17 z8) 131 7) y11)) (la ((lnk t8 y17 z8) 131 9) y13) = 0
      · refine mq_t h13 ?_
        refine pr_if1t rfl rfl lc_i32 (lc_eq.mpr h13) ?_
        refine pr_n (pc2 := 182) (lv2 := [(17, vi z8), (16, vi y16), (19, vi z8), (18, vi y18), (13, vl y13), (11, vl y11), (9, vl y9), (15, vi y15), (7, vl y7), (5, vl y5), (3, vl y3), (2, vi y2), (0, .ref 131), (1, vi y1)]) (st2 := [vi 0, vi y15]) 1 (fun _ _ => rfl) ?_
        refine pr_i2 (a := y15) (b := 0) rfl rfl ?_
        show pr N2 K d tb_M70 183 [(17, vi z8), (16, vi y16), (19, vi z8), (18, vi y18), (13, vl y13), (11, vl y11), (9, vl y9), (15, vi y15), (7, vl y7), (5, vl y5), (3, vl y3), (2, vi y2), (0, .ref 131), (1, vi y1)] [vi (ior y15 0)] s9 _
        have h14 : i32 (ior y15 0) := i32_in _
        refine pr_n (pc2 := 188) (lv2 := [(15, vi (ior y15 0)), (17, vi z8), (16, vi y16), (19, vi z8), (18, vi y18), (13, vl y13), (11, vl y11), (9, vl y9), (7, vl y7), (5, vl y5), (3, vl y3), (2, vi y2), (0, .ref 131), (1, vi y1)]) (st2 := [.ref 131, vl y9]) 3 (fun _ _ => rfl) ?_
        refine pr_gE (k2 := 131) (v := vl ((lnk t8 y17 z8) 131 7)) hE9 rfl rfl rfl (by decide) rfl rfl rfl fun h15 => ?_
        have h15 : i64 ((lnk t8 y17 z8) 131 7) := h15
        refine pr_l2 (a := y9) (b := (lnk t8 y17 z8) 131 7) rfl rfl ?_
        show pr N2 K d tb_M70 192 [(15, vi (ior y15 0)), (17, vi z8), (16, vi y16), (19, vi z8), (18, vi y18), (13, vl y13), (11, vl y11), (9, vl y9), (7, vl y7), (5, vl y5), (3, vl y3), (2, vi y2), (0, .ref 131), (1, vi y1)] [vl (lo y9 ((lnk t8 y17 z8) 131 7))] s9 _
        refine pr_n (pc2 := 197) (lv2 := [(9, vl (lo y9 ((lnk t8 y17 z8) 131 7))), (15, vi (ior y15 0)), (17, vi z8), (16, vi y16), (19, vi z8), (18, vi y18), (13, vl y13), (11, vl y11), (7, vl y7), (5, vl y5), (3, vl y3), (2, vi y2), (0, .ref 131), (1, vi y1)]) (st2 := [.ref 131, vl y11]) 3 (fun _ _ => rfl) ?_
        refine pr_gE (k2 := 131) (v := vl ((lnk t8 y17 z8) 131 8)) hE9 rfl rfl rfl (by decide) rfl rfl rfl fun h16 => ?_
        have h16 : i64 ((lnk t8 y17 z8) 131 8) := h16
        refine pr_l2 (a := y11) (b := (lnk t8 y17 z8) 131 8) rfl rfl ?_
        show pr N2 K d tb_M70 201 [(9, vl (lo y9 ((lnk t8 y17 z8) 131 7))), (15, vi (ior y15 0)), (17, vi z8), (16, vi y16), (19, vi z8), (18, vi y18), (13, vl y13), (11, vl y11), (7, vl y7), (5, vl y5), (3, vl y3), (2, vi y2), (0, .ref 131), (1, vi y1)] [vl (lo y11 ((lnk t8 y17 z8) 131 8))] s9 _
        refine pr_n (pc2 := 206) (lv2 := [(11, vl (lo y11 ((lnk t8 y17 z8) 131 8))), (9, vl (lo y9 ((lnk t8 y17 z8) 131 7))), (15, vi (ior y15 0)), (17, vi z8), (16, vi y16), (19, vi z8), (18, vi y18), (13, vl y13), (7, vl y7), (5, vl y5), (3, vl y3), (2, vi y2), (0, .ref 131), (1, vi y1)]) (st2 := [.ref 131, vl y13]) 3 (fun _ _ => rfl) ?_
        refine pr_gE (k2 := 131) (v := vl ((lnk t8 y17 z8) 131 9)) hE9 rfl rfl rfl (by decide) rfl rfl rfl fun h17 => ?_
        have h17 : i64 ((lnk t8 y17 z8) 131 9) := h17
        refine pr_l2 (a := y13) (b := (lnk t8 y17 z8) 131 9) rfl rfl ?_
        show pr N2 K d tb_M70 210 [(11, vl (lo y11 ((lnk t8 y17 z8) 131 8))), (9, vl (lo y9 ((lnk t8 y17 z8) 131 7))), (15, vi (ior y15 0)), (17, vi z8), (16, vi y16), (19, vi z8), (18, vi y18), (13, vl y13), (7, vl y7), (5, vl y5), (3, vl y3), (2, vi y2), (0, .ref 131), (1, vi y1)] [vl (lo y13 ((lnk t8 y17 z8) 131 9))] s9 _
        refine pr_n (pc2 := 212) (lv2 := [(13, vl (lo y13 ((lnk t8 y17 z8) 131 9))), (11, vl (lo y11 ((lnk t8 y17 z8) 131 8))), (9, vl (lo y9 ((lnk t8 y17 z8) 131 7))), (15, vi (ior y15 0)), (17, vi z8), (16, vi y16), (19, vi z8), (18, vi y18), (7, vl y7), (5, vl y5), (3, vl y3), (2, vi y2), (0, .ref 131), (1, vi y1)]) (st2 := []) 1 (fun _ _ => rfl) ?_
        refine pr_inc (a := y18) rfl rfl ?_
        have h18 : i32 (y18 + 1) := by unfold i32 at *; omega
        show pr N2 K d tb_M70 215 [(18, vi (y18 + 1)), (13, vl (lo y13 ((lnk t8 y17 z8) 131 9))), (11, vl (lo y11 ((lnk t8 y17 z8) 131 8))), (9, vl (lo y9 ((lnk t8 y17 z8) 131 7))), (15, vi (ior y15 0)), (17, vi z8), (16, vi y16), (19, vi z8), (7, vl y7), (5, vl y5), (3, vl y3), (2, vi y2), (0, .ref 131), (1, vi y1)] [] s9 _
        refine pr_n (pc2 := 53) (lv2 := [(18, vi (y18 + 1)), (13, vl (lo y13 ((lnk t8 y17 z8) 131 9))), (11, vl (lo y11 ((lnk t8 y17 z8) 131 8))), (9, vl (lo y9 ((lnk t8 y17 z8) 131 7))), (15, vi (ior y15 0)), (17, vi z8), (16, vi y16), (19, vi z8), (7, vl y7), (5, vl y5), (3, vl y3), (2, vi y2), (0, .ref 131), (1, vi y1)]) (st2 := []) 1 (fun _ _ => rfl) ?_
        exact ((ih N2 hN2).2) s9 ((lnk t8 y17 z8)) (y18 + 1) (lo y13 ((lnk t8 y17 z8) 131 9)) (lo y11 ((lnk t8 y17 z8) 131 8)) (lo y9 ((lnk t8 y17 z8) 131 7)) (ior y15 0) z8 y16 z8 y7 y5 y3 y2 y1 hE9 h18 (i64_in _) (i64_in _) (i64_in _) h14 hz8 hy16 hz8 hy7 hy5 hy3 hy2 hy1
      · refine mq_f h13 ?_
        refine pr_if1f rfl rfl lc_i32 (fun e => h13 (lc_eq.mp e)) ?_
        refine pr_n (pc2 := 182) (lv2 := [(17, vi z8), (16, vi y16), (19, vi z8), (18, vi y18), (13, vl y13), (11, vl y11), (9, vl y9), (15, vi y15), (7, vl y7), (5, vl y5), (3, vl y3), (2, vi y2), (0, .ref 131), (1, vi y1)]) (st2 := [vi 1, vi y15]) 2 (fun _ _ => rfl) ?_
        refine pr_i2 (a := y15) (b := 1) rfl rfl ?_
        show pr N2 K d tb_M70 183 [(17, vi z8), (16, vi y16), (19, vi z8), (18, vi y18), (13, vl y13), (11, vl y11), (9, vl y9), (15, vi y15), (7, vl y7), (5, vl y5), (3, vl y3), (2, vi y2), (0, .ref 131), (1, vi y1)] [vi (ior y15 1)] s9 _
        have h19 : i32 (ior y15 1) := i32_in _
        refine pr_n (pc2 := 188) (lv2 := [(15, vi (ior y15 1)), (17, vi z8), (16, vi y16), (19, vi z8), (18, vi y18), (13, vl y13), (11, vl y11), (9, vl y9), (7, vl y7), (5, vl y5), (3, vl y3), (2, vi y2), (0, .ref 131), (1, vi y1)]) (st2 := [.ref 131, vl y9]) 3 (fun _ _ => rfl) ?_
        refine pr_gE (k2 := 131) (v := vl ((lnk t8 y17 z8) 131 7)) hE9 rfl rfl rfl (by decide) rfl rfl rfl fun h20 => ?_
        have h20 : i64 ((lnk t8 y17 z8) 131 7) := h20
        refine pr_l2 (a := y9) (b := (lnk t8 y17 z8) 131 7) rfl rfl ?_
        show pr N2 K d tb_M70 192 [(15, vi (ior y15 1)), (17, vi z8), (16, vi y16), (19, vi z8), (18, vi y18), (13, vl y13), (11, vl y11), (9, vl y9), (7, vl y7), (5, vl y5), (3, vl y3), (2, vi y2), (0, .ref 131), (1, vi y1)] [vl (lo y9 ((lnk t8 y17 z8) 131 7))] s9 _
        refine pr_n (pc2 := 197) (lv2 := [(9, vl (lo y9 ((lnk t8 y17 z8) 131 7))), (15, vi (ior y15 1)), (17, vi z8), (16, vi y16), (19, vi z8), (18, vi y18), (13, vl y13), (11, vl y11), (7, vl y7), (5, vl y5), (3, vl y3), (2, vi y2), (0, .ref 131), (1, vi y1)]) (st2 := [.ref 131, vl y11]) 3 (fun _ _ => rfl) ?_
        refine pr_gE (k2 := 131) (v := vl ((lnk t8 y17 z8) 131 8)) hE9 rfl rfl rfl (by decide) rfl rfl rfl fun h21 => ?_
        have h21 : i64 ((lnk t8 y17 z8) 131 8) := h21
        refine pr_l2 (a := y11) (b := (lnk t8 y17 z8) 131 8) rfl rfl ?_
        show pr N2 K d tb_M70 201 [(9, vl (lo y9 ((lnk t8 y17 z8) 131 7))), (15, vi (ior y15 1)), (17, vi z8), (16, vi y16), (19, vi z8), (18, vi y18), (13, vl y13), (11, vl y11), (7, vl y7), (5, vl y5), (3, vl y3), (2, vi y2), (0, .ref 131), (1, vi y1)] [vl (lo y11 ((lnk t8 y17 z8) 131 8))] s9 _
        refine pr_n (pc2 := 206) (lv2 := [(11, vl (lo y11 ((lnk t8 y17 z8) 131 8))), (9, vl (lo y9 ((lnk t8 y17 z8) 131 7))), (15, vi (ior y15 1)), (17, vi z8), (16, vi y16), (19, vi z8), (18, vi y18), (13, vl y13), (7, vl y7), (5, vl y5), (3, vl y3), (2, vi y2), (0, .ref 131), (1, vi y1)]) (st2 := [.ref 131, vl y13]) 3 (fun _ _ => rfl) ?_
        refine pr_gE (k2 := 131) (v := vl ((lnk t8 y17 z8) 131 9)) hE9 rfl rfl rfl (by decide) rfl rfl rfl fun h22 => ?_
        have h22 : i64 ((lnk t8 y17 z8) 131 9) := h22
        refine pr_l2 (a := y13) (b := (lnk t8 y17 z8) 131 9) rfl rfl ?_
        show pr N2 K d tb_M70 210 [(11, vl (lo y11 ((lnk t8 y17 z8) 131 8))), (9, vl (lo y9 ((lnk t8 y17 z8) 131 7))), (15, vi (ior y15 1)), (17, vi z8), (16, vi y16), (19, vi z8), (18, vi y18), (13, vl y13), (7, vl y7), (5, vl y5), (3, vl y3), (2, vi y2), (0, .ref 131), (1, vi y1)] [vl (lo y13 ((lnk t8 y17 z8) 131 9))] s9 _
        refine pr_n (pc2 := 212) (lv2 := [(13, vl (lo y13 ((lnk t8 y17 z8) 131 9))), (11, vl (lo y11 ((lnk t8 y17 z8) 131 8))), (9, vl (lo y9 ((lnk t8 y17 z8) 131 7))), (15, vi (ior y15 1)), (17, vi z8), (16, vi y16), (19, vi z8), (18, vi y18), (7, vl y7), (5, vl y5), (3, vl y3), (2, vi y2), (0, .ref 131), (1, vi y1)]) (st2 := []) 1 (fun _ _ => rfl) ?_
        refine pr_inc (a := y18) rfl rfl ?_
        have h23 : i32 (y18 + 1) := by unfold i32 at *; omega
        show pr N2 K d tb_M70 215 [(18, vi (y18 + 1)), (13, vl (lo y13 ((lnk t8 y17 z8) 131 9))), (11, vl (lo y11 ((lnk t8 y17 z8) 131 8))), (9, vl (lo y9 ((lnk t8 y17 z8) 131 7))), (15, vi (ior y15 1)), (17, vi z8), (16, vi y16), (19, vi z8), (7, vl y7), (5, vl y5), (3, vl y3), (2, vi y2), (0, .ref 131), (1, vi y1)] [] s9 _
        refine pr_n (pc2 := 53) (lv2 := [(18, vi (y18 + 1)), (13, vl (lo y13 ((lnk t8 y17 z8) 131 9))), (11, vl (lo y11 ((lnk t8 y17 z8) 131 8))), (9, vl (lo y9 ((lnk t8 y17 z8) 131 7))), (15, vi (ior y15 1)), (17, vi z8), (16, vi y16), (19, vi z8), (7, vl y7), (5, vl y5), (3, vl y3), (2, vi y2), (0, .ref 131), (1, vi y1)]) (st2 := []) 1 (fun _ _ => rfl) ?_
        exact ((ih N2 hN2).2) s9 ((lnk t8 y17 z8)) (y18 + 1) (lo y13 ((lnk t8 y17 z8) 131 9)) (lo y11 ((lnk t8 y17 z8) 131 8)) (lo y9 ((lnk t8 y17 z8) 131 7)) (ior y15 1) z8 y16 z8 y7 y5 y3 y2 y1 hE9 h23 (i64_in _) (i64_in _) (i64_in _) h19 hz8 hy16 hz8 hy7 hy5 hy3 hy2 hy1
    · refine mq_f h2 ?_
      refine pr_if1f rfl rfl hy18 h2 ?_
      refine pr_n (pc2 := 91) (lv2 := [(18, vi y18), (13, vl y13), (11, vl y11), (9, vl y9), (15, vi y15), (17, vi y17), (16, vi y16), (19, vi y19), (7, vl y7), (5, vl y5), (3, vl y3), (2, vi y2), (0, .ref 131), (1, vi y1)]) (st2 := [vi 123, .ref 131]) 2 (fun _ _ => rfl) ?_
      refine pr_m1 (args := [vi 123]) (rest := []) rfl rfl rfl rfl (Nat.le_of_ble_eq_true rfl) rfl (h_43 s t 123 hE (i32_n rfl)) ?_
      rintro _ _ t24 s24 ⟨rfl, rfl⟩ hE24
      show pr N2 K d tb_M70 94 [(18, vi y18), (13, vl y13), (11, vl y11), (9, vl y9), (15, vi y15), (17, vi y17), (16, vi y16), (19, vi y19), (7, vl y7), (5, vl y5), (3, vl y3), (2, vi y2), (0, .ref 131), (1, vi y1)] [] s24 _
      refine pr_n (pc2 := 96) (lv2 := [(18, vi y18), (13, vl y13), (11, vl y11), (9, vl y9), (15, vi y15), (17, vi y17), (16, vi y16), (19, vi y19), (7, vl y7), (5, vl y5), (3, vl y3), (2, vi y2), (0, .ref 131), (1, vi y1)]) (st2 := [vl 0, .ref 131]) 2 (fun _ _ => rfl) ?_
      refine pr_pE (k2 := 131) (z := 0) hE24 rfl rfl rfl rfl (by decide) rfl (by decide) rfl (i64_n rfl) (fit_l _) rfl rfl rfl (fun e => absurd e.2 (by decide)) (iv_c (by decide)) fun s25 hE25 => ?_
      refine pr_n (pc2 := 101) (lv2 := [(18, vi y18), (13, vl y13), (11, vl y11), (9, vl y9), (15, vi y15), (17, vi y17), (16, vi y16), (19, vi y19), (7, vl y7), (5, vl y5), (3, vl y3), (2, vi y2), (0, .ref 131), (1, vi y1)]) (st2 := [vl 0, .ref 131]) 2 (fun _ _ => rfl) ?_
      refine pr_pE (k2 := 131) (z := 0) hE25 rfl rfl rfl rfl (by decide) rfl (by decide) rfl (i64_n rfl) (fit_l _) rfl rfl rfl (fun e => absurd e.2 (by decide)) (iv_c (by decide)) fun s26 hE26 => ?_
      refine pr_n (pc2 := 106) (lv2 := [(18, vi y18), (13, vl y13), (11, vl y11), (9, vl y9), (15, vi y15), (17, vi y17), (16, vi y16), (19, vi y19), (7, vl y7), (5, vl y5), (3, vl y3), (2, vi y2), (0, .ref 131), (1, vi y1)]) (st2 := [vl 0, .ref 131]) 2 (fun _ _ => rfl) ?_
      refine pr_pE (k2 := 131) (z := 0) hE26 rfl rfl rfl rfl (by decide) rfl (by decide) rfl (i64_n rfl) (fit_l _) rfl rfl rfl (fun e => absurd e.2 (by decide)) (iv_c (by decide)) fun s27 hE27 => ?_
      refine pr_n (pc2 := 112) (lv2 := [(18, vi y18), (13, vl y13), (11, vl y11), (9, vl y9), (15, vi y15), (17, vi y17), (16, vi y16), (19, vi y19), (7, vl y7), (5, vl y5), (3, vl y3), (2, vi y2), (0, .ref 131), (1, vi y1)]) (st2 := [vi 1, vi y1, .ref 131]) 3 (fun _ _ => rfl) ?_
      refine pr_i2 (a := y1) (b := 1) rfl rfl ?_
      show pr N2 K d tb_M70 113 [(18, vi y18), (13, vl y13), (11, vl y11), (9, vl y9), (15, vi y15), (17, vi y17), (16, vi y16), (19, vi y19), (7, vl y7), (5, vl y5), (3, vl y3), (2, vi y2), (0, .ref 131), (1, vi y1)] [vi (ipl y1 1), .ref 131] s27 _
      have h28 : i32 (ipl y1 1) := i32_in _
      refine pr_m1 (args := [vi (ipl y1 1)]) (rest := []) rfl rfl rfl rfl (Nat.le_of_ble_eq_true rfl) rfl (h_52 s27 (up2 (up2 (up2 t24 131 7 0) 131 8 0) 131 9 0) (ipl y1 1) hE27 h28) ?_
      rintro _ z29 t29 s29 ⟨rfl, hz29⟩ hE29
      show pr N2 K d tb_M70 116 [(18, vi y18), (13, vl y13), (11, vl y11), (9, vl y9), (15, vi y15), (17, vi y17), (16, vi y16), (19, vi y19), (7, vl y7), (5, vl y5), (3, vl y3), (2, vi y2), (0, .ref 131), (1, vi y1)] [vi z29] s29 _
      refine pr_n (pc2 := 119) (lv2 := [(19, vi z29), (18, vi y18), (13, vl y13), (11, vl y11), (9, vl y9), (15, vi y15), (17, vi y17), (16, vi y16), (7, vl y7), (5, vl y5), (3, vl y3), (2, vi y2), (0, .ref 131), (1, vi y1)]) (st2 := [.ref 131]) 2 (fun _ _ => rfl) ?_
      refine pr_get (v := .ref C) rfl rfl rfl (by decide) (rv_ref (show s29.1 131 1 = ((C : Nat) : Int) from hE29.2.2.1)) fun _ => ?_
      refine pr_n (pc2 := 126) (lv2 := [(19, vi z29), (18, vi y18), (13, vl y13), (11, vl y11), (9, vl y9), (15, vi y15), (17, vi y17), (16, vi y16), (7, vl y7), (5, vl y5), (3, vl y3), (2, vi y2), (0, .ref 131), (1, vi y1)]) (st2 := [vi z29, vi y17, .ref C]) 2 (fun _ _ => rfl) ?_
      refine pr_s1 (args := [vi y17, vi z29]) (rest := []) rfl rfl rfl (TK0 hC) (Nat.le_of_ble_eq_true rfl) rfl (h_66 s29 t29 y17 z29 hE29 hy17 hz29) s_lnk ?_
      rintro _ s30 ⟨rfl, _⟩ hE30
      show pr N2 K d tb_M70 129 [(19, vi z29), (18, vi y18), (13, vl y13), (11, vl y11), (9, vl y9), (15, vi y15), (17, vi y17), (16, vi y16), (7, vl y7), (5, vl y5), (3, vl y3), (2, vi y2), (0, .ref 131), (1, vi y1)] [] s30 _
      refine pr_n (pc2 := 131) (lv2 := [(19, vi z29), (18, vi y18), (13, vl y13), (11, vl y11), (9, vl y9), (15, vi y15), (17, vi y17), (16, vi y16), (7, vl y7), (5, vl y5), (3, vl y3), (2, vi y2), (0, .ref 131), (1, vi y1)]) (st2 := [vi y18]) 1 (fun _ _ => rfl) ?_
      refine pr_if1f rfl rfl hy18 (show ¬ (y18 ≠ 0) by omega) ?_
      show pr N2 K d tb_M70 134 [(19, vi z29), (18, vi y18), (13, vl y13), (11, vl y11), (9, vl y9), (15, vi y15), (17, vi y17), (16, vi y16), (7, vl y7), (5, vl y5), (3, vl y3), (2, vi y2), (0, .ref 131), (1, vi y1)] [] s30 _
      refine pr_n (pc2 := 150) (lv2 := [(17, vi z29), (16, vi z29), (19, vi z29), (18, vi y18), (13, vl y13), (11, vl y11), (9, vl y9), (15, vi y15), (7, vl y7), (5, vl y5), (3, vl y3), (2, vi y2), (0, .ref 131), (1, vi y1)]) (st2 := [.ref 131, vi y15]) 7 (fun _ _ => rfl) ?_
      refine pr_gE (k2 := 131) (v := vl ((lnk t29 y17 z29) 131 8)) hE30 rfl rfl rfl (by decide) rfl rfl rfl fun h31 => ?_
      have h31 : i64 ((lnk t29 y17 z29) 131 8) := h31
      refine pr_n (pc2 := 155) (lv2 := [(17, vi z29), (16, vi z29), (19, vi z29), (18, vi y18), (13, vl y13), (11, vl y11), (9, vl y9), (15, vi y15), (7, vl y7), (5, vl y5), (3, vl y3), (2, vi y2), (0, .ref 131), (1, vi y1)]) (st2 := [vl y9, vl ((lnk t29 y17 z29) 131 8), vi y15]) 1 (fun _ _ => rfl) ?_
      refine pr_l2 (a := (lnk t29 y17 z29) 131 8) (b := y9) rfl rfl ?_
      show pr N2 K d tb_M70 156 [(17, vi z29), (16, vi z29), (19, vi z29), (18, vi y18), (13, vl y13), (11, vl y11), (9, vl y9), (15, vi y15), (7, vl y7), (5, vl y5), (3, vl y3), (2, vi y2), (0, .ref 131), (1, vi y1)] [vl (la ((lnk t29 y17 z29) 131 8) y9), vi y15] s30 _
      refine pr_n (pc2 := 157) (lv2 := [(17, vi z29), (16, vi z29), (19, vi z29), (18, vi y18), (13, vl y13), (11, vl y11), (9, vl y9), (15, vi y15), (7, vl y7), (5, vl y5), (3, vl y3), (2, vi y2), (0, .ref 131), (1, vi y1)]) (st2 := [.ref 131, vl (la ((lnk t29 y17 z29) 131 8) y9), vi y15]) 1 (fun _ _ => rfl) ?_
      refine pr_gE (k2 := 131) (v := vl ((lnk t29 y17 z29) 131 7)) hE30 rfl rfl rfl (by decide) rfl rfl rfl fun h32 => ?_
      have h32 : i64 ((lnk t29 y17 z29) 131 7) := h32
      refine pr_n (pc2 := 162) (lv2 := [(17, vi z29), (16, vi z29), (19, vi z29), (18, vi y18), (13, vl y13), (11, vl y11), (9, vl y9), (15, vi y15), (7, vl y7), (5, vl y5), (3, vl y3), (2, vi y2), (0, .ref 131), (1, vi y1)]) (st2 := [vl y11, vl ((lnk t29 y17 z29) 131 7), vl (la ((lnk t29 y17 z29) 131 8) y9), vi y15]) 1 (fun _ _ => rfl) ?_
      refine pr_l2 (a := (lnk t29 y17 z29) 131 7) (b := y11) rfl rfl ?_
      show pr N2 K d tb_M70 163 [(17, vi z29), (16, vi z29), (19, vi z29), (18, vi y18), (13, vl y13), (11, vl y11), (9, vl y9), (15, vi y15), (7, vl y7), (5, vl y5), (3, vl y3), (2, vi y2), (0, .ref 131), (1, vi y1)] [vl (la ((lnk t29 y17 z29) 131 7) y11), vl (la ((lnk t29 y17 z29) 131 8) y9), vi y15] s30 _
      refine pr_l2 (a := la ((lnk t29 y17 z29) 131 8) y9) (b := la ((lnk t29 y17 z29) 131 7) y11) rfl rfl ?_
      show pr N2 K d tb_M70 164 [(17, vi z29), (16, vi z29), (19, vi z29), (18, vi y18), (13, vl y13), (11, vl y11), (9, vl y9), (15, vi y15), (7, vl y7), (5, vl y5), (3, vl y3), (2, vi y2), (0, .ref 131), (1, vi y1)] [vl (lo (la ((lnk t29 y17 z29) 131 8) y9) (la ((lnk t29 y17 z29) 131 7) y11)), vi y15] s30 _
      refine pr_n (pc2 := 165) (lv2 := [(17, vi z29), (16, vi z29), (19, vi z29), (18, vi y18), (13, vl y13), (11, vl y11), (9, vl y9), (15, vi y15), (7, vl y7), (5, vl y5), (3, vl y3), (2, vi y2), (0, .ref 131), (1, vi y1)]) (st2 := [.ref 131, vl (lo (la ((lnk t29 y17 z29) 131 8) y9) (la ((lnk t29 y17 z29) 131 7) y11)), vi y15]) 1 (fun _ _ => rfl) ?_
      refine pr_gE (k2 := 131) (v := vl ((lnk t29 y17 z29) 131 9)) hE30 rfl rfl rfl (by decide) rfl rfl rfl fun h33 => ?_
      have h33 : i64 ((lnk t29 y17 z29) 131 9) := h33
      refine pr_n (pc2 := 170) (lv2 := [(17, vi z29), (16, vi z29), (19, vi z29), (18, vi y18), (13, vl y13), (11, vl y11), (9, vl y9), (15, vi y15), (7, vl y7), (5, vl y5), (3, vl y3), (2, vi y2), (0, .ref 131), (1, vi y1)]) (st2 := [vl y13, vl ((lnk t29 y17 z29) 131 9), vl (lo (la ((lnk t29 y17 z29) 131 8) y9) (la ((lnk t29 y17 z29) 131 7) y11)), vi y15]) 1 (fun _ _ => rfl) ?_
      refine pr_l2 (a := (lnk t29 y17 z29) 131 9) (b := y13) rfl rfl ?_
      show pr N2 K d tb_M70 171 [(17, vi z29), (16, vi z29), (19, vi z29), (18, vi y18), (13, vl y13), (11, vl y11), (9, vl y9), (15, vi y15), (7, vl y7), (5, vl y5), (3, vl y3), (2, vi y2), (0, .ref 131), (1, vi y1)] [vl (la ((lnk t29 y17 z29) 131 9) y13), vl (lo (la ((lnk t29 y17 z29) 131 8) y9) (la ((lnk t29 y17 z29) 131 7) y11)), vi y15] s30 _
      refine pr_l2 (a := lo (la ((lnk t29 y17 z29) 131 8) y9) (la ((lnk t29 y17 z29) 131 7) y11)) (b := la ((lnk t29 y17 z29) 131 9) y13) rfl rfl ?_
      show pr N2 K d tb_M70 172 [(17, vi z29), (16, vi z29), (19, vi z29), (18, vi y18), (13, vl y13), (11, vl y11), (9, vl y9), (15, vi y15), (7, vl y7), (5, vl y5), (3, vl y3), (2, vi y2), (0, .ref 131), (1, vi y1)] [vl (lo (lo (la ((lnk t29 y17 z29) 131 8) y9) (la ((lnk t29 y17 z29) 131 7) y11)) (la ((lnk t29 y17 z29) 131 9) y13)), vi y15] s30 _
      refine pr_n (pc2 := 173) (lv2 := [(17, vi z29), (16, vi z29), (19, vi z29), (18, vi y18), (13, vl y13), (11, vl y11), (9, vl y9), (15, vi y15), (7, vl y7), (5, vl y5), (3, vl y3), (2, vi y2), (0, .ref 131), (1, vi y1)]) (st2 := [vl 0, vl (lo (lo (la ((lnk t29 y17 z29) 131 8) y9) (la ((lnk t29 y17 z29) 131 7) y11)) (la ((lnk t29 y17 z29) 131 9) y13)), vi y15]) 1 (fun _ _ => rfl) ?_
      refine pr_lcmp (a := lo (lo (la ((lnk t29 y17 z29) 131 8) y9) (la ((lnk t29 y17 z29) 131 7) y11)) (la ((lnk t29 y17 z29) 131 9) y13)) (b := 0) rfl (i64_in _) (i64_n rfl) ?_
      by_cases h34 : lo (lo (la ((lnk t29 y17 z29) 131 8) y9) (la ((lnk t29 y17 z29) 131 7) y11)) (la ((lnk t29 y17 z29) 131 9) y13) = 0
      · refine mq_t h34 ?_
        refine pr_if1t rfl rfl lc_i32 (lc_eq.mpr h34) ?_
        refine pr_n (pc2 := 182) (lv2 := [(17, vi z29), (16, vi z29), (19, vi z29), (18, vi y18), (13, vl y13), (11, vl y11), (9, vl y9), (15, vi y15), (7, vl y7), (5, vl y5), (3, vl y3), (2, vi y2), (0, .ref 131), (1, vi y1)]) (st2 := [vi 0, vi y15]) 1 (fun _ _ => rfl) ?_
        refine pr_i2 (a := y15) (b := 0) rfl rfl ?_
        show pr N2 K d tb_M70 183 [(17, vi z29), (16, vi z29), (19, vi z29), (18, vi y18), (13, vl y13), (11, vl y11), (9, vl y9), (15, vi y15), (7, vl y7), (5, vl y5), (3, vl y3), (2, vi y2), (0, .ref 131), (1, vi y1)] [vi (ior y15 0)] s30 _
        have h35 : i32 (ior y15 0) := i32_in _
        refine pr_n (pc2 := 188) (lv2 := [(15, vi (ior y15 0)), (17, vi z29), (16, vi z29), (19, vi z29), (18, vi y18), (13, vl y13), (11, vl y11), (9, vl y9), (7, vl y7), (5, vl y5), (3, vl y3), (2, vi y2), (0, .ref 131), (1, vi y1)]) (st2 := [.ref 131, vl y9]) 3 (fun _ _ => rfl) ?_
        refine pr_gE (k2 := 131) (v := vl ((lnk t29 y17 z29) 131 7)) hE30 rfl rfl rfl (by decide) rfl rfl rfl fun h36 => ?_
        have h36 : i64 ((lnk t29 y17 z29) 131 7) := h36
        refine pr_l2 (a := y9) (b := (lnk t29 y17 z29) 131 7) rfl rfl ?_
        show pr N2 K d tb_M70 192 [(15, vi (ior y15 0)), (17, vi z29), (16, vi z29), (19, vi z29), (18, vi y18), (13, vl y13), (11, vl y11), (9, vl y9), (7, vl y7), (5, vl y5), (3, vl y3), (2, vi y2), (0, .ref 131), (1, vi y1)] [vl (lo y9 ((lnk t29 y17 z29) 131 7))] s30 _
        refine pr_n (pc2 := 197) (lv2 := [(9, vl (lo y9 ((lnk t29 y17 z29) 131 7))), (15, vi (ior y15 0)), (17, vi z29), (16, vi z29), (19, vi z29), (18, vi y18), (13, vl y13), (11, vl y11), (7, vl y7), (5, vl y5), (3, vl y3), (2, vi y2), (0, .ref 131), (1, vi y1)]) (st2 := [.ref 131, vl y11]) 3 (fun _ _ => rfl) ?_
        refine pr_gE (k2 := 131) (v := vl ((lnk t29 y17 z29) 131 8)) hE30 rfl rfl rfl (by decide) rfl rfl rfl fun h37 => ?_
        have h37 : i64 ((lnk t29 y17 z29) 131 8) := h37
        refine pr_l2 (a := y11) (b := (lnk t29 y17 z29) 131 8) rfl rfl ?_
        show pr N2 K d tb_M70 201 [(9, vl (lo y9 ((lnk t29 y17 z29) 131 7))), (15, vi (ior y15 0)), (17, vi z29), (16, vi z29), (19, vi z29), (18, vi y18), (13, vl y13), (11, vl y11), (7, vl y7), (5, vl y5), (3, vl y3), (2, vi y2), (0, .ref 131), (1, vi y1)] [vl (lo y11 ((lnk t29 y17 z29) 131 8))] s30 _
        refine pr_n (pc2 := 206) (lv2 := [(11, vl (lo y11 ((lnk t29 y17 z29) 131 8))), (9, vl (lo y9 ((lnk t29 y17 z29) 131 7))), (15, vi (ior y15 0)), (17, vi z29), (16, vi z29), (19, vi z29), (18, vi y18), (13, vl y13), (7, vl y7), (5, vl y5), (3, vl y3), (2, vi y2), (0, .ref 131), (1, vi y1)]) (st2 := [.ref 131, vl y13]) 3 (fun _ _ => rfl) ?_
        refine pr_gE (k2 := 131) (v := vl ((lnk t29 y17 z29) 131 9)) hE30 rfl rfl rfl (by decide) rfl rfl rfl fun h38 => ?_
        have h38 : i64 ((lnk t29 y17 z29) 131 9) := h38
        refine pr_l2 (a := y13) (b := (lnk t29 y17 z29) 131 9) rfl rfl ?_
        show pr N2 K d tb_M70 210 [(11, vl (lo y11 ((lnk t29 y17 z29) 131 8))), (9, vl (lo y9 ((lnk t29 y17 z29) 131 7))), (15, vi (ior y15 0)), (17, vi z29), (16, vi z29), (19, vi z29), (18, vi y18), (13, vl y13), (7, vl y7), (5, vl y5), (3, vl y3), (2, vi y2), (0, .ref 131), (1, vi y1)] [vl (lo y13 ((lnk t29 y17 z29) 131 9))] s30 _
        refine pr_n (pc2 := 212) (lv2 := [(13, vl (lo y13 ((lnk t29 y17 z29) 131 9))), (11, vl (lo y11 ((lnk t29 y17 z29) 131 8))), (9, vl (lo y9 ((lnk t29 y17 z29) 131 7))), (15, vi (ior y15 0)), (17, vi z29), (16, vi z29), (19, vi z29), (18, vi y18), (7, vl y7), (5, vl y5), (3, vl y3), (2, vi y2), (0, .ref 131), (1, vi y1)]) (st2 := []) 1 (fun _ _ => rfl) ?_
        refine pr_inc (a := y18) rfl rfl ?_
        have h39 : i32 (y18 + 1) := by unfold i32 at *; omega
        show pr N2 K d tb_M70 215 [(18, vi (y18 + 1)), (13, vl (lo y13 ((lnk t29 y17 z29) 131 9))), (11, vl (lo y11 ((lnk t29 y17 z29) 131 8))), (9, vl (lo y9 ((lnk t29 y17 z29) 131 7))), (15, vi (ior y15 0)), (17, vi z29), (16, vi z29), (19, vi z29), (7, vl y7), (5, vl y5), (3, vl y3), (2, vi y2), (0, .ref 131), (1, vi y1)] [] s30 _
        refine pr_n (pc2 := 53) (lv2 := [(18, vi (y18 + 1)), (13, vl (lo y13 ((lnk t29 y17 z29) 131 9))), (11, vl (lo y11 ((lnk t29 y17 z29) 131 8))), (9, vl (lo y9 ((lnk t29 y17 z29) 131 7))), (15, vi (ior y15 0)), (17, vi z29), (16, vi z29), (19, vi z29), (7, vl y7), (5, vl y5), (3, vl y3), (2, vi y2), (0, .ref 131), (1, vi y1)]) (st2 := []) 1 (fun _ _ => rfl) ?_
        exact ((ih N2 hN2).2) s30 ((lnk t29 y17 z29)) (y18 + 1) (lo y13 ((lnk t29 y17 z29) 131 9)) (lo y11 ((lnk t29 y17 z29) 131 8)) (lo y9 ((lnk t29 y17 z29) 131 7)) (ior y15 0) z29 z29 z29 y7 y5 y3 y2 y1 hE30 h39 (i64_in _) (i64_in _) (i64_in _) h35 hz29 hz29 hz29 hy7 hy5 hy3 hy2 hy1
      · refine mq_f h34 ?_
        refine pr_if1f rfl rfl lc_i32 (fun e => h34 (lc_eq.mp e)) ?_
        refine pr_n (pc2 := 182) (lv2 := [(17, vi z29), (16, vi z29), (19, vi z29), (18, vi y18), (13, vl y13), (11, vl y11), (9, vl y9), (15, vi y15), (7, vl y7), (5, vl y5), (3, vl y3), (2, vi y2), (0, .ref 131), (1, vi y1)]) (st2 := [vi 1, vi y15]) 2 (fun _ _ => rfl) ?_
        refine pr_i2 (a := y15) (b := 1) rfl rfl ?_
        show pr N2 K d tb_M70 183 [(17, vi z29), (16, vi z29), (19, vi z29), (18, vi y18), (13, vl y13), (11, vl y11), (9, vl y9), (15, vi y15), (7, vl y7), (5, vl y5), (3, vl y3), (2, vi y2), (0, .ref 131), (1, vi y1)] [vi (ior y15 1)] s30 _
        have h40 : i32 (ior y15 1) := i32_in _
        refine pr_n (pc2 := 188) (lv2 := [(15, vi (ior y15 1)), (17, vi z29), (16, vi z29), (19, vi z29), (18, vi y18), (13, vl y13), (11, vl y11), (9, vl y9), (7, vl y7), (5, vl y5), (3, vl y3), (2, vi y2), (0, .ref 131), (1, vi y1)]) (st2 := [.ref 131, vl y9]) 3 (fun _ _ => rfl) ?_
        refine pr_gE (k2 := 131) (v := vl ((lnk t29 y17 z29) 131 7)) hE30 rfl rfl rfl (by decide) rfl rfl rfl fun h41 => ?_
        have h41 : i64 ((lnk t29 y17 z29) 131 7) := h41
        refine pr_l2 (a := y9) (b := (lnk t29 y17 z29) 131 7) rfl rfl ?_
        show pr N2 K d tb_M70 192 [(15, vi (ior y15 1)), (17, vi z29), (16, vi z29), (19, vi z29), (18, vi y18), (13, vl y13), (11, vl y11), (9, vl y9), (7, vl y7), (5, vl y5), (3, vl y3), (2, vi y2), (0, .ref 131), (1, vi y1)] [vl (lo y9 ((lnk t29 y17 z29) 131 7))] s30 _
        refine pr_n (pc2 := 197) (lv2 := [(9, vl (lo y9 ((lnk t29 y17 z29) 131 7))), (15, vi (ior y15 1)), (17, vi z29), (16, vi z29), (19, vi z29), (18, vi y18), (13, vl y13), (11, vl y11), (7, vl y7), (5, vl y5), (3, vl y3), (2, vi y2), (0, .ref 131), (1, vi y1)]) (st2 := [.ref 131, vl y11]) 3 (fun _ _ => rfl) ?_
        refine pr_gE (k2 := 131) (v := vl ((lnk t29 y17 z29) 131 8)) hE30 rfl rfl rfl (by decide) rfl rfl rfl fun h42 => ?_
        have h42 : i64 ((lnk t29 y17 z29) 131 8) := h42
        refine pr_l2 (a := y11) (b := (lnk t29 y17 z29) 131 8) rfl rfl ?_
        show pr N2 K d tb_M70 201 [(9, vl (lo y9 ((lnk t29 y17 z29) 131 7))), (15, vi (ior y15 1)), (17, vi z29), (16, vi z29), (19, vi z29), (18, vi y18), (13, vl y13), (11, vl y11), (7, vl y7), (5, vl y5), (3, vl y3), (2, vi y2), (0, .ref 131), (1, vi y1)] [vl (lo y11 ((lnk t29 y17 z29) 131 8))] s30 _
        refine pr_n (pc2 := 206) (lv2 := [(11, vl (lo y11 ((lnk t29 y17 z29) 131 8))), (9, vl (lo y9 ((lnk t29 y17 z29) 131 7))), (15, vi (ior y15 1)), (17, vi z29), (16, vi z29), (19, vi z29), (18, vi y18), (13, vl y13), (7, vl y7), (5, vl y5), (3, vl y3), (2, vi y2), (0, .ref 131), (1, vi y1)]) (st2 := [.ref 131, vl y13]) 3 (fun _ _ => rfl) ?_
        refine pr_gE (k2 := 131) (v := vl ((lnk t29 y17 z29) 131 9)) hE30 rfl rfl rfl (by decide) rfl rfl rfl fun h43 => ?_
        have h43 : i64 ((lnk t29 y17 z29) 131 9) := h43
        refine pr_l2 (a := y13) (b := (lnk t29 y17 z29) 131 9) rfl rfl ?_
        show pr N2 K d tb_M70 210 [(11, vl (lo y11 ((lnk t29 y17 z29) 131 8))), (9, vl (lo y9 ((lnk t29 y17 z29) 131 7))), (15, vi (ior y15 1)), (17, vi z29), (16, vi z29), (19, vi z29), (18, vi y18), (13, vl y13), (7, vl y7), (5, vl y5), (3, vl y3), (2, vi y2), (0, .ref 131), (1, vi y1)] [vl (lo y13 ((lnk t29 y17 z29) 131 9))] s30 _
        refine pr_n (pc2 := 212) (lv2 := [(13, vl (lo y13 ((lnk t29 y17 z29) 131 9))), (11, vl (lo y11 ((lnk t29 y17 z29) 131 8))), (9, vl (lo y9 ((lnk t29 y17 z29) 131 7))), (15, vi (ior y15 1)), (17, vi z29), (16, vi z29), (19, vi z29), (18, vi y18), (7, vl y7), (5, vl y5), (3, vl y3), (2, vi y2), (0, .ref 131), (1, vi y1)]) (st2 := []) 1 (fun _ _ => rfl) ?_
        refine pr_inc (a := y18) rfl rfl ?_
        have h44 : i32 (y18 + 1) := by unfold i32 at *; omega
        show pr N2 K d tb_M70 215 [(18, vi (y18 + 1)), (13, vl (lo y13 ((lnk t29 y17 z29) 131 9))), (11, vl (lo y11 ((lnk t29 y17 z29) 131 8))), (9, vl (lo y9 ((lnk t29 y17 z29) 131 7))), (15, vi (ior y15 1)), (17, vi z29), (16, vi z29), (19, vi z29), (7, vl y7), (5, vl y5), (3, vl y3), (2, vi y2), (0, .ref 131), (1, vi y1)] [] s30 _
        refine pr_n (pc2 := 53) (lv2 := [(18, vi (y18 + 1)), (13, vl (lo y13 ((lnk t29 y17 z29) 131 9))), (11, vl (lo y11 ((lnk t29 y17 z29) 131 8))), (9, vl (lo y9 ((lnk t29 y17 z29) 131 7))), (15, vi (ior y15 1)), (17, vi z29), (16, vi z29), (19, vi z29), (7, vl y7), (5, vl y5), (3, vl y3), (2, vi y2), (0, .ref 131), (1, vi y1)]) (st2 := []) 1 (fun _ _ => rfl) ?_
        exact ((ih N2 hN2).2) s30 ((lnk t29 y17 z29)) (y18 + 1) (lo y13 ((lnk t29 y17 z29) 131 9)) (lo y11 ((lnk t29 y17 z29) 131 8)) (lo y9 ((lnk t29 y17 z29) 131 7)) (ior y15 1) z29 z29 z29 y7 y5 y3 y2 y1 hE30 h44 (i64_in _) (i64_in _) (i64_in _) h40 hz29 hz29 hz29 hy7 hy5 hy3 hy2 hy1
  · refine mq_f h1 ?_
    refine pr_if2f rfl rfl hy18 (i32_n rfl) h1 ?_
    refine pr_n (pc2 := 63) (lv2 := [(18, vi y18), (13, vl y13), (11, vl y11), (9, vl y9), (15, vi y15), (17, vi y17), (16, vi y16), (19, vi y19), (7, vl y7), (5, vl y5), (3, vl y3), (2, vi y2), (0, .ref 131), (1, vi y1)]) (st2 := [vi 6, vi y18]) 2 (fun _ _ => rfl) ?_
    by_cases h45 : 6 ≤ y18
    · refine mq_t h45 ?_
      refine pr_if2t rfl rfl hy18 (i32_n rfl) h45 ?_
      refine pr_n (pc2 := 221) (lv2 := [(18, vi y18), (13, vl y13), (11, vl y11), (9, vl y9), (15, vi y15), (17, vi y17), (16, vi y16), (19, vi y19), (7, vl y7), (5, vl y5), (3, vl y3), (2, vi y2), (0, .ref 131), (1, vi y1)]) (st2 := [vi 125, .ref 131]) 2 (fun _ _ => rfl) ?_
      refine pr_m1 (args := [vi 125]) (rest := []) rfl rfl rfl rfl (Nat.le_of_ble_eq_true rfl) rfl (h_43 s t 125 hE (i32_n rfl)) ?_
      rintro _ _ t46 s46 ⟨rfl, rfl⟩ hE46
      show pr N2 K d tb_M70 224 [(18, vi y18), (13, vl y13), (11, vl y11), (9, vl y9), (15, vi y15), (17, vi y17), (16, vi y16), (19, vi y19), (7, vl y7), (5, vl y5), (3, vl y3), (2, vi y2), (0, .ref 131), (1, vi y1)] [] s46 _
      refine pr_n (pc2 := 228) (lv2 := [(18, vi y18), (13, vl y13), (11, vl y11), (9, vl y9), (15, vi y15), (17, vi y17), (16, vi y16), (19, vi y19), (7, vl y7), (5, vl y5), (3, vl y3), (2, vi y2), (0, .ref 131), (1, vi y1)]) (st2 := [vl y9, vl y3, .ref 131]) 3 (fun _ _ => rfl) ?_
      refine pr_l2 (a := y3) (b := y9) rfl rfl ?_
      show pr N2 K d tb_M70 229 [(18, vi y18), (13, vl y13), (11, vl y11), (9, vl y9), (15, vi y15), (17, vi y17), (16, vi y16), (19, vi y19), (7, vl y7), (5, vl y5), (3, vl y3), (2, vi y2), (0, .ref 131), (1, vi y1)] [vl (lo y3 y9), .ref 131] s46 _
      refine pr_pE (k2 := 131) (z := lo y3 y9) hE46 rfl rfl rfl rfl (by decide) rfl (by decide) rfl (i64_in _) (fit_l _) rfl rfl rfl (fun e => absurd e.2 (by decide)) (iv_c (by decide)) fun s47 hE47 => ?_
      refine pr_n (pc2 := 237) (lv2 := [(18, vi y18), (13, vl y13), (11, vl y11), (9, vl y9), (15, vi y15), (17, vi y17), (16, vi y16), (19, vi y19), (7, vl y7), (5, vl y5), (3, vl y3), (2, vi y2), (0, .ref 131), (1, vi y1)]) (st2 := [vl y11, vl y5, .ref 131]) 3 (fun _ _ => rfl) ?_
      refine pr_l2 (a := y5) (b := y11) rfl rfl ?_
      show pr N2 K d tb_M70 238 [(18, vi y18), (13, vl y13), (11, vl y11), (9, vl y9), (15, vi y15), (17, vi y17), (16, vi y16), (19, vi y19), (7, vl y7), (5, vl y5), (3, vl y3), (2, vi y2), (0, .ref 131), (1, vi y1)] [vl (lo y5 y11), .ref 131] s47 _
      refine pr_pE (k2 := 131) (z := lo y5 y11) hE47 rfl rfl rfl rfl (by decide) rfl (by decide) rfl (i64_in _) (fit_l _) rfl rfl rfl (fun e => absurd e.2 (by decide)) (iv_c (by decide)) fun s48 hE48 => ?_
      refine pr_n (pc2 := 246) (lv2 := [(18, vi y18), (13, vl y13), (11, vl y11), (9, vl y9), (15, vi y15), (17, vi y17), (16, vi y16), (19, vi y19), (7, vl y7), (5, vl y5), (3, vl y3), (2, vi y2), (0, .ref 131), (1, vi y1)]) (st2 := [vl y13, vl y7, .ref 131]) 3 (fun _ _ => rfl) ?_
      refine pr_l2 (a := y7) (b := y13) rfl rfl ?_
      show pr N2 K d tb_M70 247 [(18, vi y18), (13, vl y13), (11, vl y11), (9, vl y9), (15, vi y15), (17, vi y17), (16, vi y16), (19, vi y19), (7, vl y7), (5, vl y5), (3, vl y3), (2, vi y2), (0, .ref 131), (1, vi y1)] [vl (lo y7 y13), .ref 131] s48 _
      refine pr_pE (k2 := 131) (z := lo y7 y13) hE48 rfl rfl rfl rfl (by decide) rfl (by decide) rfl (i64_in _) (fit_l _) rfl rfl rfl (fun e => absurd e.2 (by decide)) (iv_c (by decide)) fun s49 hE49 => ?_
      refine pr_n (pc2 := 252) (lv2 := [(18, vi y18), (13, vl y13), (11, vl y11), (9, vl y9), (15, vi y15), (17, vi y17), (16, vi y16), (19, vi y19), (7, vl y7), (5, vl y5), (3, vl y3), (2, vi y2), (0, .ref 131), (1, vi y1)]) (st2 := [vi y15]) 1 (fun _ _ => rfl) ?_
      by_cases h50 : y15 = 0
      · refine mq_t h50 ?_
        refine pr_if1t rfl rfl hy15 h50 ?_
        refine pr_n (pc2 := 278) (lv2 := [(18, vi y18), (13, vl y13), (11, vl y11), (9, vl y9), (15, vi y15), (17, vi y17), (16, vi y16), (19, vi y19), (7, vl y7), (5, vl y5), (3, vl y3), (2, vi y2), (0, .ref 131), (1, vi y1)]) (st2 := [.ref 131]) 1 (fun _ _ => rfl) ?_
        refine pr_get (v := .ref C) rfl rfl rfl (by decide) (rv_ref (show s49.1 131 1 = ((C : Nat) : Int) from hE49.2.2.1)) fun _ => ?_
        refine pr_n (pc2 := 289) (lv2 := [(18, vi y18), (13, vl y13), (11, vl y11), (9, vl y9), (15, vi y15), (17, vi y17), (16, vi y16), (19, vi y19), (7, vl y7), (5, vl y5), (3, vl y3), (2, vi y2), (0, .ref 131), (1, vi y1)]) (st2 := [vi ((-1)), vi y18, vi y16, vi 312, .ref C]) 4 (fun _ _ => rfl) ?_
        refine pr_s1 (args := [vi 312, vi y16, vi y18, vi ((-1))]) (rest := []) rfl rfl rfl (TK0 hC) (Nat.le_of_ble_eq_true rfl) rfl (h_54 s49 (up2 (up2 (up2 t46 131 7 (lo y3 y9)) 131 8 (lo y5 y11)) 131 9 (lo y7 y13)) 312 y16 y18 ((-1)) hE49 (i32_n rfl) hy16 hy18 (i32_n rfl)) s_cad ?_
        rintro _ s51 ⟨rfl, hz51⟩ hE51
        show pr N2 K d tb_M70 292 [(18, vi y18), (13, vl y13), (11, vl y11), (9, vl y9), (15, vi y15), (17, vi y17), (16, vi y16), (19, vi y19), (7, vl y7), (5, vl y5), (3, vl y3), (2, vi y2), (0, .ref 131), (1, vi y1)] [vi (cadz (up2 (up2 (up2 t46 131 7 (lo y3 y9)) 131 8 (lo y5 y11)) 131 9 (lo y7 y13)))] s51 _
        refine pr_reti rfl rfl ?_
        exact .inl ⟨_, cadz (up2 (up2 (up2 t46 131 7 (lo y3 y9)) 131 8 (lo y5 y11)) 131 9 (lo y7 y13)), _, rfl, ⟨rfl, hz51⟩, rfl, hE51⟩
      · refine mq_f h50 ?_
        refine pr_if1f rfl rfl hy15 h50 ?_
        refine pr_n (pc2 := 256) (lv2 := [(18, vi y18), (13, vl y13), (11, vl y11), (9, vl y9), (15, vi y15), (17, vi y17), (16, vi y16), (19, vi y19), (7, vl y7), (5, vl y5), (3, vl y3), (2, vi y2), (0, .ref 131), (1, vi y1)]) (st2 := [.ref 131]) 1 (fun _ _ => rfl) ?_
        refine pr_gE (k2 := 131) (v := vi (t46 131 3)) hE49 rfl rfl rfl (by decide) rfl rfl rfl fun h52 => ?_
        have h52 : i32 (t46 131 3) := h52
        refine pr_n (pc2 := 261) (lv2 := [(18, vi y18), (13, vl y13), (11, vl y11), (9, vl y9), (15, vi y15), (17, vi y17), (16, vi y16), (19, vi y19), (7, vl y7), (5, vl y5), (3, vl y3), (2, vi y2), (0, .ref 131), (1, vi y1)]) (st2 := [vi ((-2)), vi (t46 131 3)]) 1 (fun _ _ => rfl) ?_
        by_cases h53 : t46 131 3 = (-2)
        · refine mq_t h53 ?_
          refine pr_if2t rfl rfl h52 (i32_n rfl) h53 ?_
          refine pr_n (pc2 := 274) (lv2 := [(18, vi y18), (13, vl y13), (11, vl y11), (9, vl y9), (15, vi y15), (17, vi y17), (16, vi y16), (19, vi y19), (7, vl y7), (5, vl y5), (3, vl y3), (2, vi y2), (0, .ref 131), (1, vi y1)]) (st2 := [vi y2, .ref 131]) 2 (fun _ _ => rfl) ?_
          refine pr_pE (k2 := 131) (z := y2) hE49 rfl rfl rfl rfl (by decide) rfl (by decide) rfl (show i32 (y2) from hy2) (hf_int' _) rfl rfl rfl (fun e => absurd e.2 (by decide)) (iv_c (by decide)) fun s54 hE54 => ?_
          refine pr_n (pc2 := 278) (lv2 := [(18, vi y18), (13, vl y13), (11, vl y11), (9, vl y9), (15, vi y15), (17, vi y17), (16, vi y16), (19, vi y19), (7, vl y7), (5, vl y5), (3, vl y3), (2, vi y2), (0, .ref 131), (1, vi y1)]) (st2 := [.ref 131]) 1 (fun _ _ => rfl) ?_
          refine pr_get (v := .ref C) rfl rfl rfl (by decide) (rv_ref (show s54.1 131 1 = ((C : Nat) : Int) from hE54.2.2.1)) fun _ => ?_
          refine pr_n (pc2 := 289) (lv2 := [(18, vi y18), (13, vl y13), (11, vl y11), (9, vl y9), (15, vi y15), (17, vi y17), (16, vi y16), (19, vi y19), (7, vl y7), (5, vl y5), (3, vl y3), (2, vi y2), (0, .ref 131), (1, vi y1)]) (st2 := [vi ((-1)), vi y18, vi y16, vi 312, .ref C]) 4 (fun _ _ => rfl) ?_
          refine pr_s1 (args := [vi 312, vi y16, vi y18, vi ((-1))]) (rest := []) rfl rfl rfl (TK0 hC) (Nat.le_of_ble_eq_true rfl) rfl (h_54 s54 (up2 (up2 (up2 (up2 t46 131 7 (lo y3 y9)) 131 8 (lo y5 y11)) 131 9 (lo y7 y13)) 131 3 y2) 312 y16 y18 ((-1)) hE54 (i32_n rfl) hy16 hy18 (i32_n rfl)) s_cad ?_
          rintro _ s55 ⟨rfl, hz55⟩ hE55
          show pr N2 K d tb_M70 292 [(18, vi y18), (13, vl y13), (11, vl y11), (9, vl y9), (15, vi y15), (17, vi y17), (16, vi y16), (19, vi y19), (7, vl y7), (5, vl y5), (3, vl y3), (2, vi y2), (0, .ref 131), (1, vi y1)] [vi (cadz (up2 (up2 (up2 (up2 t46 131 7 (lo y3 y9)) 131 8 (lo y5 y11)) 131 9 (lo y7 y13)) 131 3 y2))] s55 _
          refine pr_reti rfl rfl ?_
          exact .inl ⟨_, cadz (up2 (up2 (up2 (up2 t46 131 7 (lo y3 y9)) 131 8 (lo y5 y11)) 131 9 (lo y7 y13)) 131 3 y2), _, rfl, ⟨rfl, hz55⟩, rfl, hE55⟩
        · refine mq_f h53 ?_
          refine pr_if2f rfl rfl h52 (i32_n rfl) h53 ?_
          refine pr_n (pc2 := 266) (lv2 := [(18, vi y18), (13, vl y13), (11, vl y11), (9, vl y9), (15, vi y15), (17, vi y17), (16, vi y16), (19, vi y19), (7, vl y7), (5, vl y5), (3, vl y3), (2, vi y2), (0, .ref 131), (1, vi y1)]) (st2 := [.ref 131, vi y2]) 2 (fun _ _ => rfl) ?_
          refine pr_gE (k2 := 131) (v := vi (t46 131 3)) hE49 rfl rfl rfl (by decide) rfl rfl rfl fun h56 => ?_
          have h56 : i32 (t46 131 3) := h56
          by_cases h57 : t46 131 3 ≤ y2
          · refine mq_t h57 ?_
            refine pr_if2t rfl rfl hy2 h56 h57 ?_
            refine pr_n (pc2 := 278) (lv2 := [(18, vi y18), (13, vl y13), (11, vl y11), (9, vl y9), (15, vi y15), (17, vi y17), (16, vi y16), (19, vi y19), (7, vl y7), (5, vl y5), (3, vl y3), (2, vi y2), (0, .ref 131), (1, vi y1)]) (st2 := [.ref 131]) 1 (fun _ _ => rfl) ?_
            refine pr_get (v := .ref C) rfl rfl rfl (by decide) (rv_ref (show s49.1 131 1 = ((C : Nat) : Int) from hE49.2.2.1)) fun _ => ?_
            refine pr_n (pc2 := 289) (lv2 := [(18, vi y18), (13, vl y13), (11, vl y11), (9, vl y9), (15, vi y15), (17, vi y17), (16, vi y16), (19, vi y19), (7, vl y7), (5, vl y5), (3, vl y3), (2, vi y2), (0, .ref 131), (1, vi y1)]) (st2 := [vi ((-1)), vi y18, vi y16, vi 312, .ref C]) 4 (fun _ _ => rfl) ?_
            refine pr_s1 (args := [vi 312, vi y16, vi y18, vi ((-1))]) (rest := []) rfl rfl rfl (TK0 hC) (Nat.le_of_ble_eq_true rfl) rfl (h_54 s49 (up2 (up2 (up2 t46 131 7 (lo y3 y9)) 131 8 (lo y5 y11)) 131 9 (lo y7 y13)) 312 y16 y18 ((-1)) hE49 (i32_n rfl) hy16 hy18 (i32_n rfl)) s_cad ?_
            rintro _ s58 ⟨rfl, hz58⟩ hE58
            show pr N2 K d tb_M70 292 [(18, vi y18), (13, vl y13), (11, vl y11), (9, vl y9), (15, vi y15), (17, vi y17), (16, vi y16), (19, vi y19), (7, vl y7), (5, vl y5), (3, vl y3), (2, vi y2), (0, .ref 131), (1, vi y1)] [vi (cadz (up2 (up2 (up2 t46 131 7 (lo y3 y9)) 131 8 (lo y5 y11)) 131 9 (lo y7 y13)))] s58 _
            refine pr_reti rfl rfl ?_
            exact .inl ⟨_, cadz (up2 (up2 (up2 t46 131 7 (lo y3 y9)) 131 8 (lo y5 y11)) 131 9 (lo y7 y13)), _, rfl, ⟨rfl, hz58⟩, rfl, hE58⟩
          · refine mq_f h57 ?_
            refine pr_if2f rfl rfl hy2 h56 h57 ?_
            refine pr_n (pc2 := 274) (lv2 := [(18, vi y18), (13, vl y13), (11, vl y11), (9, vl y9), (15, vi y15), (17, vi y17), (16, vi y16), (19, vi y19), (7, vl y7), (5, vl y5), (3, vl y3), (2, vi y2), (0, .ref 131), (1, vi y1)]) (st2 := [vi y2, .ref 131]) 2 (fun _ _ => rfl) ?_
            refine pr_pE (k2 := 131) (z := y2) hE49 rfl rfl rfl rfl (by decide) rfl (by decide) rfl (show i32 (y2) from hy2) (hf_int' _) rfl rfl rfl (fun e => absurd e.2 (by decide)) (iv_c (by decide)) fun s59 hE59 => ?_
            refine pr_n (pc2 := 278) (lv2 := [(18, vi y18), (13, vl y13), (11, vl y11), (9, vl y9), (15, vi y15), (17, vi y17), (16, vi y16), (19, vi y19), (7, vl y7), (5, vl y5), (3, vl y3), (2, vi y2), (0, .ref 131), (1, vi y1)]) (st2 := [.ref 131]) 1 (fun _ _ => rfl) ?_
            refine pr_get (v := .ref C) rfl rfl rfl (by decide) (rv_ref (show s59.1 131 1 = ((C : Nat) : Int) from hE59.2.2.1)) fun _ => ?_
            refine pr_n (pc2 := 289) (lv2 := [(18, vi y18), (13, vl y13), (11, vl y11), (9, vl y9), (15, vi y15), (17, vi y17), (16, vi y16), (19, vi y19), (7, vl y7), (5, vl y5), (3, vl y3), (2, vi y2), (0, .ref 131), (1, vi y1)]) (st2 := [vi ((-1)), vi y18, vi y16, vi 312, .ref C]) 4 (fun _ _ => rfl) ?_
            refine pr_s1 (args := [vi 312, vi y16, vi y18, vi ((-1))]) (rest := []) rfl rfl rfl (TK0 hC) (Nat.le_of_ble_eq_true rfl) rfl (h_54 s59 (up2 (up2 (up2 (up2 t46 131 7 (lo y3 y9)) 131 8 (lo y5 y11)) 131 9 (lo y7 y13)) 131 3 y2) 312 y16 y18 ((-1)) hE59 (i32_n rfl) hy16 hy18 (i32_n rfl)) s_cad ?_
            rintro _ s60 ⟨rfl, hz60⟩ hE60
            show pr N2 K d tb_M70 292 [(18, vi y18), (13, vl y13), (11, vl y11), (9, vl y9), (15, vi y15), (17, vi y17), (16, vi y16), (19, vi y19), (7, vl y7), (5, vl y5), (3, vl y3), (2, vi y2), (0, .ref 131), (1, vi y1)] [vi (cadz (up2 (up2 (up2 (up2 t46 131 7 (lo y3 y9)) 131 8 (lo y5 y11)) 131 9 (lo y7 y13)) 131 3 y2))] s60 _
            refine pr_reti rfl rfl ?_
            exact .inl ⟨_, cadz (up2 (up2 (up2 (up2 t46 131 7 (lo y3 y9)) 131 8 (lo y5 y11)) 131 9 (lo y7 y13)) 131 3 y2), _, rfl, ⟨rfl, hz60⟩, rfl, hE60⟩
    · refine mq_f h45 ?_
      refine pr_if2f rfl rfl hy18 (i32_n rfl) h45 ?_
      refine pr_n (pc2 := 67) (lv2 := [(18, vi y18), (13, vl y13), (11, vl y11), (9, vl y9), (15, vi y15), (17, vi y17), (16, vi y16), (19, vi y19), (7, vl y7), (5, vl y5), (3, vl y3), (2, vi y2), (0, .ref 131), (1, vi y1)]) (st2 := [.ref 131]) 1 (fun _ _ => rfl) ?_
      refine pr_get (v := .ref 137) rfl rfl rfl (by decide) (rv_ref (hE.2.1 131 0 137 rfl)) fun _ => ?_
      refine pr_s1 (args := []) (rest := []) rfl rfl rfl rfl (Nat.le_of_ble_eq_true rfl) rfl (h_34 s t  hE ) s_kkd ?_
      rintro _ s61 ⟨rfl, hz61⟩ hE61
      show pr N2 K d tb_M70 73 [(18, vi y18), (13, vl y13), (11, vl y11), (9, vl y9), (15, vi y15), (17, vi y17), (16, vi y16), (19, vi y19), (7, vl y7), (5, vl y5), (3, vl y3), (2, vi y2), (0, .ref 131), (1, vi y1)] [vi (kkd t)] s61 _
      refine pr_n (pc2 := 75) (lv2 := [(18, vi y18), (13, vl y13), (11, vl y11), (9, vl y9), (15, vi y15), (17, vi y17), (16, vi y16), (19, vi y19), (7, vl y7), (5, vl y5), (3, vl y3), (2, vi y2), (0, .ref 131), (1, vi y1)]) (st2 := [vi 124, vi (kkd t)]) 1 (fun _ _ => rfl) ?_
      by_cases h62 : kkd t ≠ 124
      · refine mq_t h62 ?_
        refine pr_if2t rfl rfl hz61 (i32_n rfl) h62 ?_
        refine pr_n (pc2 := 221) (lv2 := [(18, vi y18), (13, vl y13), (11, vl y11), (9, vl y9), (15, vi y15), (17, vi y17), (16, vi y16), (19, vi y19), (7, vl y7), (5, vl y5), (3, vl y3), (2, vi y2), (0, .ref 131), (1, vi y1)]) (st2 := [vi 125, .ref 131]) 2 (fun _ _ => rfl) ?_
        refine pr_m1 (args := [vi 125]) (rest := []) rfl rfl rfl rfl (Nat.le_of_ble_eq_true rfl) rfl (h_43 s61 t 125 hE61 (i32_n rfl)) ?_
        rintro _ _ t63 s63 ⟨rfl, rfl⟩ hE63
        show pr N2 K d tb_M70 224 [(18, vi y18), (13, vl y13), (11, vl y11), (9, vl y9), (15, vi y15), (17, vi y17), (16, vi y16), (19, vi y19), (7, vl y7), (5, vl y5), (3, vl y3), (2, vi y2), (0, .ref 131), (1, vi y1)] [] s63 _
        refine pr_n (pc2 := 228) (lv2 := [(18, vi y18), (13, vl y13), (11, vl y11), (9, vl y9), (15, vi y15), (17, vi y17), (16, vi y16), (19, vi y19), (7, vl y7), (5, vl y5), (3, vl y3), (2, vi y2), (0, .ref 131), (1, vi y1)]) (st2 := [vl y9, vl y3, .ref 131]) 3 (fun _ _ => rfl) ?_
        refine pr_l2 (a := y3) (b := y9) rfl rfl ?_
        show pr N2 K d tb_M70 229 [(18, vi y18), (13, vl y13), (11, vl y11), (9, vl y9), (15, vi y15), (17, vi y17), (16, vi y16), (19, vi y19), (7, vl y7), (5, vl y5), (3, vl y3), (2, vi y2), (0, .ref 131), (1, vi y1)] [vl (lo y3 y9), .ref 131] s63 _
        refine pr_pE (k2 := 131) (z := lo y3 y9) hE63 rfl rfl rfl rfl (by decide) rfl (by decide) rfl (i64_in _) (fit_l _) rfl rfl rfl (fun e => absurd e.2 (by decide)) (iv_c (by decide)) fun s64 hE64 => ?_
        refine pr_n (pc2 := 237) (lv2 := [(18, vi y18), (13, vl y13), (11, vl y11), (9, vl y9), (15, vi y15), (17, vi y17), (16, vi y16), (19, vi y19), (7, vl y7), (5, vl y5), (3, vl y3), (2, vi y2), (0, .ref 131), (1, vi y1)]) (st2 := [vl y11, vl y5, .ref 131]) 3 (fun _ _ => rfl) ?_
        refine pr_l2 (a := y5) (b := y11) rfl rfl ?_
        show pr N2 K d tb_M70 238 [(18, vi y18), (13, vl y13), (11, vl y11), (9, vl y9), (15, vi y15), (17, vi y17), (16, vi y16), (19, vi y19), (7, vl y7), (5, vl y5), (3, vl y3), (2, vi y2), (0, .ref 131), (1, vi y1)] [vl (lo y5 y11), .ref 131] s64 _
        refine pr_pE (k2 := 131) (z := lo y5 y11) hE64 rfl rfl rfl rfl (by decide) rfl (by decide) rfl (i64_in _) (fit_l _) rfl rfl rfl (fun e => absurd e.2 (by decide)) (iv_c (by decide)) fun s65 hE65 => ?_
        refine pr_n (pc2 := 246) (lv2 := [(18, vi y18), (13, vl y13), (11, vl y11), (9, vl y9), (15, vi y15), (17, vi y17), (16, vi y16), (19, vi y19), (7, vl y7), (5, vl y5), (3, vl y3), (2, vi y2), (0, .ref 131), (1, vi y1)]) (st2 := [vl y13, vl y7, .ref 131]) 3 (fun _ _ => rfl) ?_
        refine pr_l2 (a := y7) (b := y13) rfl rfl ?_
        show pr N2 K d tb_M70 247 [(18, vi y18), (13, vl y13), (11, vl y11), (9, vl y9), (15, vi y15), (17, vi y17), (16, vi y16), (19, vi y19), (7, vl y7), (5, vl y5), (3, vl y3), (2, vi y2), (0, .ref 131), (1, vi y1)] [vl (lo y7 y13), .ref 131] s65 _
        refine pr_pE (k2 := 131) (z := lo y7 y13) hE65 rfl rfl rfl rfl (by decide) rfl (by decide) rfl (i64_in _) (fit_l _) rfl rfl rfl (fun e => absurd e.2 (by decide)) (iv_c (by decide)) fun s66 hE66 => ?_
        refine pr_n (pc2 := 252) (lv2 := [(18, vi y18), (13, vl y13), (11, vl y11), (9, vl y9), (15, vi y15), (17, vi y17), (16, vi y16), (19, vi y19), (7, vl y7), (5, vl y5), (3, vl y3), (2, vi y2), (0, .ref 131), (1, vi y1)]) (st2 := [vi y15]) 1 (fun _ _ => rfl) ?_
        by_cases h67 : y15 = 0
        · refine mq_t h67 ?_
          refine pr_if1t rfl rfl hy15 h67 ?_
          refine pr_n (pc2 := 278) (lv2 := [(18, vi y18), (13, vl y13), (11, vl y11), (9, vl y9), (15, vi y15), (17, vi y17), (16, vi y16), (19, vi y19), (7, vl y7), (5, vl y5), (3, vl y3), (2, vi y2), (0, .ref 131), (1, vi y1)]) (st2 := [.ref 131]) 1 (fun _ _ => rfl) ?_
          refine pr_get (v := .ref C) rfl rfl rfl (by decide) (rv_ref (show s66.1 131 1 = ((C : Nat) : Int) from hE66.2.2.1)) fun _ => ?_
          refine pr_n (pc2 := 289) (lv2 := [(18, vi y18), (13, vl y13), (11, vl y11), (9, vl y9), (15, vi y15), (17, vi y17), (16, vi y16), (19, vi y19), (7, vl y7), (5, vl y5), (3, vl y3), (2, vi y2), (0, .ref 131), (1, vi y1)]) (st2 := [vi ((-1)), vi y18, vi y16, vi 312, .ref C]) 4 (fun _ _ => rfl) ?_
          refine pr_s1 (args := [vi 312, vi y16, vi y18, vi ((-1))]) (rest := []) rfl rfl rfl (TK0 hC) (Nat.le_of_ble_eq_true rfl) rfl (h_54 s66 (up2 (up2 (up2 t63 131 7 (lo y3 y9)) 131 8 (lo y5 y11)) 131 9 (lo y7 y13)) 312 y16 y18 ((-1)) hE66 (i32_n rfl) hy16 hy18 (i32_n rfl)) s_cad ?_
          rintro _ s68 ⟨rfl, hz68⟩ hE68
          show pr N2 K d tb_M70 292 [(18, vi y18), (13, vl y13), (11, vl y11), (9, vl y9), (15, vi y15), (17, vi y17), (16, vi y16), (19, vi y19), (7, vl y7), (5, vl y5), (3, vl y3), (2, vi y2), (0, .ref 131), (1, vi y1)] [vi (cadz (up2 (up2 (up2 t63 131 7 (lo y3 y9)) 131 8 (lo y5 y11)) 131 9 (lo y7 y13)))] s68 _
          refine pr_reti rfl rfl ?_
          exact .inl ⟨_, cadz (up2 (up2 (up2 t63 131 7 (lo y3 y9)) 131 8 (lo y5 y11)) 131 9 (lo y7 y13)), _, rfl, ⟨rfl, hz68⟩, rfl, hE68⟩
        · refine mq_f h67 ?_
          refine pr_if1f rfl rfl hy15 h67 ?_
          refine pr_n (pc2 := 256) (lv2 := [(18, vi y18), (13, vl y13), (11, vl y11), (9, vl y9), (15, vi y15), (17, vi y17), (16, vi y16), (19, vi y19), (7, vl y7), (5, vl y5), (3, vl y3), (2, vi y2), (0, .ref 131), (1, vi y1)]) (st2 := [.ref 131]) 1 (fun _ _ => rfl) ?_
          refine pr_gE (k2 := 131) (v := vi (t63 131 3)) hE66 rfl rfl rfl (by decide) rfl rfl rfl fun h69 => ?_
          have h69 : i32 (t63 131 3) := h69
          refine pr_n (pc2 := 261) (lv2 := [(18, vi y18), (13, vl y13), (11, vl y11), (9, vl y9), (15, vi y15), (17, vi y17), (16, vi y16), (19, vi y19), (7, vl y7), (5, vl y5), (3, vl y3), (2, vi y2), (0, .ref 131), (1, vi y1)]) (st2 := [vi ((-2)), vi (t63 131 3)]) 1 (fun _ _ => rfl) ?_
          by_cases h70 : t63 131 3 = (-2)
          · refine mq_t h70 ?_
            refine pr_if2t rfl rfl h69 (i32_n rfl) h70 ?_
            refine pr_n (pc2 := 274) (lv2 := [(18, vi y18), (13, vl y13), (11, vl y11), (9, vl y9), (15, vi y15), (17, vi y17), (16, vi y16), (19, vi y19), (7, vl y7), (5, vl y5), (3, vl y3), (2, vi y2), (0, .ref 131), (1, vi y1)]) (st2 := [vi y2, .ref 131]) 2 (fun _ _ => rfl) ?_
            refine pr_pE (k2 := 131) (z := y2) hE66 rfl rfl rfl rfl (by decide) rfl (by decide) rfl (show i32 (y2) from hy2) (hf_int' _) rfl rfl rfl (fun e => absurd e.2 (by decide)) (iv_c (by decide)) fun s71 hE71 => ?_
            refine pr_n (pc2 := 278) (lv2 := [(18, vi y18), (13, vl y13), (11, vl y11), (9, vl y9), (15, vi y15), (17, vi y17), (16, vi y16), (19, vi y19), (7, vl y7), (5, vl y5), (3, vl y3), (2, vi y2), (0, .ref 131), (1, vi y1)]) (st2 := [.ref 131]) 1 (fun _ _ => rfl) ?_
            refine pr_get (v := .ref C) rfl rfl rfl (by decide) (rv_ref (show s71.1 131 1 = ((C : Nat) : Int) from hE71.2.2.1)) fun _ => ?_
            refine pr_n (pc2 := 289) (lv2 := [(18, vi y18), (13, vl y13), (11, vl y11), (9, vl y9), (15, vi y15), (17, vi y17), (16, vi y16), (19, vi y19), (7, vl y7), (5, vl y5), (3, vl y3), (2, vi y2), (0, .ref 131), (1, vi y1)]) (st2 := [vi ((-1)), vi y18, vi y16, vi 312, .ref C]) 4 (fun _ _ => rfl) ?_
            refine pr_s1 (args := [vi 312, vi y16, vi y18, vi ((-1))]) (rest := []) rfl rfl rfl (TK0 hC) (Nat.le_of_ble_eq_true rfl) rfl (h_54 s71 (up2 (up2 (up2 (up2 t63 131 7 (lo y3 y9)) 131 8 (lo y5 y11)) 131 9 (lo y7 y13)) 131 3 y2) 312 y16 y18 ((-1)) hE71 (i32_n rfl) hy16 hy18 (i32_n rfl)) s_cad ?_
            rintro _ s72 ⟨rfl, hz72⟩ hE72
            show pr N2 K d tb_M70 292 [(18, vi y18), (13, vl y13), (11, vl y11), (9, vl y9), (15, vi y15), (17, vi y17), (16, vi y16), (19, vi y19), (7, vl y7), (5, vl y5), (3, vl y3), (2, vi y2), (0, .ref 131), (1, vi y1)] [vi (cadz (up2 (up2 (up2 (up2 t63 131 7 (lo y3 y9)) 131 8 (lo y5 y11)) 131 9 (lo y7 y13)) 131 3 y2))] s72 _
            refine pr_reti rfl rfl ?_
            exact .inl ⟨_, cadz (up2 (up2 (up2 (up2 t63 131 7 (lo y3 y9)) 131 8 (lo y5 y11)) 131 9 (lo y7 y13)) 131 3 y2), _, rfl, ⟨rfl, hz72⟩, rfl, hE72⟩
          · refine mq_f h70 ?_
            refine pr_if2f rfl rfl h69 (i32_n rfl) h70 ?_
            refine pr_n (pc2 := 266) (lv2 := [(18, vi y18), (13, vl y13), (11, vl y11), (9, vl y9), (15, vi y15), (17, vi y17), (16, vi y16), (19, vi y19), (7, vl y7), (5, vl y5), (3, vl y3), (2, vi y2), (0, .ref 131), (1, vi y1)]) (st2 := [.ref 131, vi y2]) 2 (fun _ _ => rfl) ?_
            refine pr_gE (k2 := 131) (v := vi (t63 131 3)) hE66 rfl rfl rfl (by decide) rfl rfl rfl fun h73 => ?_
            have h73 : i32 (t63 131 3) := h73
            by_cases h74 : t63 131 3 ≤ y2
            · refine mq_t h74 ?_
              refine pr_if2t rfl rfl hy2 h73 h74 ?_
              refine pr_n (pc2 := 278) (lv2 := [(18, vi y18), (13, vl y13), (11, vl y11), (9, vl y9), (15, vi y15), (17, vi y17), (16, vi y16), (19, vi y19), (7, vl y7), (5, vl y5), (3, vl y3), (2, vi y2), (0, .ref 131), (1, vi y1)]) (st2 := [.ref 131]) 1 (fun _ _ => rfl) ?_
              refine pr_get (v := .ref C) rfl rfl rfl (by decide) (rv_ref (show s66.1 131 1 = ((C : Nat) : Int) from hE66.2.2.1)) fun _ => ?_
              refine pr_n (pc2 := 289) (lv2 := [(18, vi y18), (13, vl y13), (11, vl y11), (9, vl y9), (15, vi y15), (17, vi y17), (16, vi y16), (19, vi y19), (7, vl y7), (5, vl y5), (3, vl y3), (2, vi y2), (0, .ref 131), (1, vi y1)]) (st2 := [vi ((-1)), vi y18, vi y16, vi 312, .ref C]) 4 (fun _ _ => rfl) ?_
              refine pr_s1 (args := [vi 312, vi y16, vi y18, vi ((-1))]) (rest := []) rfl rfl rfl (TK0 hC) (Nat.le_of_ble_eq_true rfl) rfl (h_54 s66 (up2 (up2 (up2 t63 131 7 (lo y3 y9)) 131 8 (lo y5 y11)) 131 9 (lo y7 y13)) 312 y16 y18 ((-1)) hE66 (i32_n rfl) hy16 hy18 (i32_n rfl)) s_cad ?_
              rintro _ s75 ⟨rfl, hz75⟩ hE75
              show pr N2 K d tb_M70 292 [(18, vi y18), (13, vl y13), (11, vl y11), (9, vl y9), (15, vi y15), (17, vi y17), (16, vi y16), (19, vi y19), (7, vl y7), (5, vl y5), (3, vl y3), (2, vi y2), (0, .ref 131), (1, vi y1)] [vi (cadz (up2 (up2 (up2 t63 131 7 (lo y3 y9)) 131 8 (lo y5 y11)) 131 9 (lo y7 y13)))] s75 _
              refine pr_reti rfl rfl ?_
              exact .inl ⟨_, cadz (up2 (up2 (up2 t63 131 7 (lo y3 y9)) 131 8 (lo y5 y11)) 131 9 (lo y7 y13)), _, rfl, ⟨rfl, hz75⟩, rfl, hE75⟩
            · refine mq_f h74 ?_
              refine pr_if2f rfl rfl hy2 h73 h74 ?_
              refine pr_n (pc2 := 274) (lv2 := [(18, vi y18), (13, vl y13), (11, vl y11), (9, vl y9), (15, vi y15), (17, vi y17), (16, vi y16), (19, vi y19), (7, vl y7), (5, vl y5), (3, vl y3), (2, vi y2), (0, .ref 131), (1, vi y1)]) (st2 := [vi y2, .ref 131]) 2 (fun _ _ => rfl) ?_
              refine pr_pE (k2 := 131) (z := y2) hE66 rfl rfl rfl rfl (by decide) rfl (by decide) rfl (show i32 (y2) from hy2) (hf_int' _) rfl rfl rfl (fun e => absurd e.2 (by decide)) (iv_c (by decide)) fun s76 hE76 => ?_
              refine pr_n (pc2 := 278) (lv2 := [(18, vi y18), (13, vl y13), (11, vl y11), (9, vl y9), (15, vi y15), (17, vi y17), (16, vi y16), (19, vi y19), (7, vl y7), (5, vl y5), (3, vl y3), (2, vi y2), (0, .ref 131), (1, vi y1)]) (st2 := [.ref 131]) 1 (fun _ _ => rfl) ?_
              refine pr_get (v := .ref C) rfl rfl rfl (by decide) (rv_ref (show s76.1 131 1 = ((C : Nat) : Int) from hE76.2.2.1)) fun _ => ?_
              refine pr_n (pc2 := 289) (lv2 := [(18, vi y18), (13, vl y13), (11, vl y11), (9, vl y9), (15, vi y15), (17, vi y17), (16, vi y16), (19, vi y19), (7, vl y7), (5, vl y5), (3, vl y3), (2, vi y2), (0, .ref 131), (1, vi y1)]) (st2 := [vi ((-1)), vi y18, vi y16, vi 312, .ref C]) 4 (fun _ _ => rfl) ?_
              refine pr_s1 (args := [vi 312, vi y16, vi y18, vi ((-1))]) (rest := []) rfl rfl rfl (TK0 hC) (Nat.le_of_ble_eq_true rfl) rfl (h_54 s76 (up2 (up2 (up2 (up2 t63 131 7 (lo y3 y9)) 131 8 (lo y5 y11)) 131 9 (lo y7 y13)) 131 3 y2) 312 y16 y18 ((-1)) hE76 (i32_n rfl) hy16 hy18 (i32_n rfl)) s_cad ?_
              rintro _ s77 ⟨rfl, hz77⟩ hE77
              show pr N2 K d tb_M70 292 [(18, vi y18), (13, vl y13), (11, vl y11), (9, vl y9), (15, vi y15), (17, vi y17), (16, vi y16), (19, vi y19), (7, vl y7), (5, vl y5), (3, vl y3), (2, vi y2), (0, .ref 131), (1, vi y1)] [vi (cadz (up2 (up2 (up2 (up2 t63 131 7 (lo y3 y9)) 131 8 (lo y5 y11)) 131 9 (lo y7 y13)) 131 3 y2))] s77 _
              refine pr_reti rfl rfl ?_
              exact .inl ⟨_, cadz (up2 (up2 (up2 (up2 t63 131 7 (lo y3 y9)) 131 8 (lo y5 y11)) 131 9 (lo y7 y13)) 131 3 y2), _, rfl, ⟨rfl, hz77⟩, rfl, hE77⟩
      · refine mq_f h62 ?_
        refine pr_if2f rfl rfl hz61 (i32_n rfl) h62 ?_
        refine pr_n (pc2 := 81) (lv2 := [(18, vi y18), (13, vl y13), (11, vl y11), (9, vl y9), (15, vi y15), (17, vi y17), (16, vi y16), (19, vi y19), (7, vl y7), (5, vl y5), (3, vl y3), (2, vi y2), (0, .ref 131), (1, vi y1)]) (st2 := [vi y18, .ref 131]) 2 (fun _ _ => rfl) ?_
        by_cases h78 : y18 ≠ 0
        · refine mq_t h78 ?_
          refine pr_if1t rfl rfl hy18 h78 ?_
          refine pr_n (pc2 := 91) (lv2 := [(18, vi y18), (13, vl y13), (11, vl y11), (9, vl y9), (15, vi y15), (17, vi y17), (16, vi y16), (19, vi y19), (7, vl y7), (5, vl y5), (3, vl y3), (2, vi y2), (0, .ref 131), (1, vi y1)]) (st2 := [vi 124, .ref 131]) 1 (fun _ _ => rfl) ?_
          refine pr_m1 (args := [vi 124]) (rest := []) rfl rfl rfl rfl (Nat.le_of_ble_eq_true rfl) rfl (h_43 s61 t 124 hE61 (i32_n rfl)) ?_
          rintro _ _ t79 s79 ⟨rfl, rfl⟩ hE79
          show pr N2 K d tb_M70 94 [(18, vi y18), (13, vl y13), (11, vl y11), (9, vl y9), (15, vi y15), (17, vi y17), (16, vi y16), (19, vi y19), (7, vl y7), (5, vl y5), (3, vl y3), (2, vi y2), (0, .ref 131), (1, vi y1)] [] s79 _
          refine pr_n (pc2 := 96) (lv2 := [(18, vi y18), (13, vl y13), (11, vl y11), (9, vl y9), (15, vi y15), (17, vi y17), (16, vi y16), (19, vi y19), (7, vl y7), (5, vl y5), (3, vl y3), (2, vi y2), (0, .ref 131), (1, vi y1)]) (st2 := [vl 0, .ref 131]) 2 (fun _ _ => rfl) ?_
          refine pr_pE (k2 := 131) (z := 0) hE79 rfl rfl rfl rfl (by decide) rfl (by decide) rfl (i64_n rfl) (fit_l _) rfl rfl rfl (fun e => absurd e.2 (by decide)) (iv_c (by decide)) fun s80 hE80 => ?_
          refine pr_n (pc2 := 101) (lv2 := [(18, vi y18), (13, vl y13), (11, vl y11), (9, vl y9), (15, vi y15), (17, vi y17), (16, vi y16), (19, vi y19), (7, vl y7), (5, vl y5), (3, vl y3), (2, vi y2), (0, .ref 131), (1, vi y1)]) (st2 := [vl 0, .ref 131]) 2 (fun _ _ => rfl) ?_
          refine pr_pE (k2 := 131) (z := 0) hE80 rfl rfl rfl rfl (by decide) rfl (by decide) rfl (i64_n rfl) (fit_l _) rfl rfl rfl (fun e => absurd e.2 (by decide)) (iv_c (by decide)) fun s81 hE81 => ?_
          refine pr_n (pc2 := 106) (lv2 := [(18, vi y18), (13, vl y13), (11, vl y11), (9, vl y9), (15, vi y15), (17, vi y17), (16, vi y16), (19, vi y19), (7, vl y7), (5, vl y5), (3, vl y3), (2, vi y2), (0, .ref 131), (1, vi y1)]) (st2 := [vl 0, .ref 131]) 2 (fun _ _ => rfl) ?_
          refine pr_pE (k2 := 131) (z := 0) hE81 rfl rfl rfl rfl (by decide) rfl (by decide) rfl (i64_n rfl) (fit_l _) rfl rfl rfl (fun e => absurd e.2 (by decide)) (iv_c (by decide)) fun s82 hE82 => ?_
          refine pr_n (pc2 := 112) (lv2 := [(18, vi y18), (13, vl y13), (11, vl y11), (9, vl y9), (15, vi y15), (17, vi y17), (16, vi y16), (19, vi y19), (7, vl y7), (5, vl y5), (3, vl y3), (2, vi y2), (0, .ref 131), (1, vi y1)]) (st2 := [vi 1, vi y1, .ref 131]) 3 (fun _ _ => rfl) ?_
          refine pr_i2 (a := y1) (b := 1) rfl rfl ?_
          show pr N2 K d tb_M70 113 [(18, vi y18), (13, vl y13), (11, vl y11), (9, vl y9), (15, vi y15), (17, vi y17), (16, vi y16), (19, vi y19), (7, vl y7), (5, vl y5), (3, vl y3), (2, vi y2), (0, .ref 131), (1, vi y1)] [vi (ipl y1 1), .ref 131] s82 _
          have h83 : i32 (ipl y1 1) := i32_in _
          refine pr_m1 (args := [vi (ipl y1 1)]) (rest := []) rfl rfl rfl rfl (Nat.le_of_ble_eq_true rfl) rfl (h_52 s82 (up2 (up2 (up2 t79 131 7 0) 131 8 0) 131 9 0) (ipl y1 1) hE82 h83) ?_
          rintro _ z84 t84 s84 ⟨rfl, hz84⟩ hE84
          show pr N2 K d tb_M70 116 [(18, vi y18), (13, vl y13), (11, vl y11), (9, vl y9), (15, vi y15), (17, vi y17), (16, vi y16), (19, vi y19), (7, vl y7), (5, vl y5), (3, vl y3), (2, vi y2), (0, .ref 131), (1, vi y1)] [vi z84] s84 _
          refine pr_n (pc2 := 119) (lv2 := [(19, vi z84), (18, vi y18), (13, vl y13), (11, vl y11), (9, vl y9), (15, vi y15), (17, vi y17), (16, vi y16), (7, vl y7), (5, vl y5), (3, vl y3), (2, vi y2), (0, .ref 131), (1, vi y1)]) (st2 := [.ref 131]) 2 (fun _ _ => rfl) ?_
          refine pr_get (v := .ref C) rfl rfl rfl (by decide) (rv_ref (show s84.1 131 1 = ((C : Nat) : Int) from hE84.2.2.1)) fun _ => ?_
          refine pr_n (pc2 := 126) (lv2 := [(19, vi z84), (18, vi y18), (13, vl y13), (11, vl y11), (9, vl y9), (15, vi y15), (17, vi y17), (16, vi y16), (7, vl y7), (5, vl y5), (3, vl y3), (2, vi y2), (0, .ref 131), (1, vi y1)]) (st2 := [vi z84, vi y17, .ref C]) 2 (fun _ _ => rfl) ?_
          refine pr_s1 (args := [vi y17, vi z84]) (rest := []) rfl rfl rfl (TK0 hC) (Nat.le_of_ble_eq_true rfl) rfl (h_66 s84 t84 y17 z84 hE84 hy17 hz84) s_lnk ?_
          rintro _ s85 ⟨rfl, _⟩ hE85
          show pr N2 K d tb_M70 129 [(19, vi z84), (18, vi y18), (13, vl y13), (11, vl y11), (9, vl y9), (15, vi y15), (17, vi y17), (16, vi y16), (7, vl y7), (5, vl y5), (3, vl y3), (2, vi y2), (0, .ref 131), (1, vi y1)] [] s85 _
          refine pr_n (pc2 := 131) (lv2 := [(19, vi z84), (18, vi y18), (13, vl y13), (11, vl y11), (9, vl y9), (15, vi y15), (17, vi y17), (16, vi y16), (7, vl y7), (5, vl y5), (3, vl y3), (2, vi y2), (0, .ref 131), (1, vi y1)]) (st2 := [vi y18]) 1 (fun _ _ => rfl) ?_
          refine pr_if1t rfl rfl hy18 (show y18 ≠ 0 by omega) ?_
          show pr N2 K d tb_M70 139 [(19, vi z84), (18, vi y18), (13, vl y13), (11, vl y11), (9, vl y9), (15, vi y15), (17, vi y17), (16, vi y16), (7, vl y7), (5, vl y5), (3, vl y3), (2, vi y2), (0, .ref 131), (1, vi y1)] [] s85 _
          refine pr_n (pc2 := 150) (lv2 := [(17, vi z84), (16, vi y16), (19, vi z84), (18, vi y18), (13, vl y13), (11, vl y11), (9, vl y9), (15, vi y15), (7, vl y7), (5, vl y5), (3, vl y3), (2, vi y2), (0, .ref 131), (1, vi y1)]) (st2 := [.ref 131, vi y15]) 6 (fun _ _ => rfl) ?_
          refine pr_gE (k2 := 131) (v := vl ((lnk t84 y17 z84) 131 8)) hE85 rfl rfl rfl (by decide) rfl rfl rfl fun h86 => ?_
          have h86 : i64 ((lnk t84 y17 z84) 131 8) := h86
          refine pr_n (pc2 := 155) (lv2 := [(17, vi z84), (16, vi y16), (19, vi z84), (18, vi y18), (13, vl y13), (11, vl y11), (9, vl y9), (15, vi y15), (7, vl y7), (5, vl y5), (3, vl y3), (2, vi y2), (0, .ref 131), (1, vi y1)]) (st2 := [vl y9, vl ((lnk t84 y17 z84) 131 8), vi y15]) 1 (fun _ _ => rfl) ?_
          refine pr_l2 (a := (lnk t84 y17 z84) 131 8) (b := y9) rfl rfl ?_
          show pr N2 K d tb_M70 156 [(17, vi z84), (16, vi y16), (19, vi z84), (18, vi y18), (13, vl y13), (11, vl y11), (9, vl y9), (15, vi y15), (7, vl y7), (5, vl y5), (3, vl y3), (2, vi y2), (0, .ref 131), (1, vi y1)] [vl (la ((lnk t84 y17 z84) 131 8) y9), vi y15] s85 _
          refine pr_n (pc2 := 157) (lv2 := [(17, vi z84), (16, vi y16), (19, vi z84), (18, vi y18), (13, vl y13), (11, vl y11), (9, vl y9), (15, vi y15), (7, vl y7), (5, vl y5), (3, vl y3), (2, vi y2), (0, .ref 131), (1, vi y1)]) (st2 := [.ref 131, vl (la ((lnk t84 y17 z84) 131 8) y9), vi y15]) 1 (fun _ _ => rfl) ?_
          refine pr_gE (k2 := 131) (v := vl ((lnk t84 y17 z84) 131 7)) hE85 rfl rfl rfl (by decide) rfl rfl rfl fun h87 => ?_
          have h87 : i64 ((lnk t84 y17 z84) 131 7) := h87
          refine pr_n (pc2 := 162) (lv2 := [(17, vi z84), (16, vi y16), (19, vi z84), (18, vi y18), (13, vl y13), (11, vl y11), (9, vl y9), (15, vi y15), (7, vl y7), (5, vl y5), (3, vl y3), (2, vi y2), (0, .ref 131), (1, vi y1)]) (st2 := [vl y11, vl ((lnk t84 y17 z84) 131 7), vl (la ((lnk t84 y17 z84) 131 8) y9), vi y15]) 1 (fun _ _ => rfl) ?_
          refine pr_l2 (a := (lnk t84 y17 z84) 131 7) (b := y11) rfl rfl ?_
          show pr N2 K d tb_M70 163 [(17, vi z84), (16, vi y16), (19, vi z84), (18, vi y18), (13, vl y13), (11, vl y11), (9, vl y9), (15, vi y15), (7, vl y7), (5, vl y5), (3, vl y3), (2, vi y2), (0, .ref 131), (1, vi y1)] [vl (la ((lnk t84 y17 z84) 131 7) y11), vl (la ((lnk t84 y17 z84) 131 8) y9), vi y15] s85 _
          refine pr_l2 (a := la ((lnk t84 y17 z84) 131 8) y9) (b := la ((lnk t84 y17 z84) 131 7) y11) rfl rfl ?_
          show pr N2 K d tb_M70 164 [(17, vi z84), (16, vi y16), (19, vi z84), (18, vi y18), (13, vl y13), (11, vl y11), (9, vl y9), (15, vi y15), (7, vl y7), (5, vl y5), (3, vl y3), (2, vi y2), (0, .ref 131), (1, vi y1)] [vl (lo (la ((lnk t84 y17 z84) 131 8) y9) (la ((lnk t84 y17 z84) 131 7) y11)), vi y15] s85 _
          refine pr_n (pc2 := 165) (lv2 := [(17, vi z84), (16, vi y16), (19, vi z84), (18, vi y18), (13, vl y13), (11, vl y11), (9, vl y9), (15, vi y15), (7, vl y7), (5, vl y5), (3, vl y3), (2, vi y2), (0, .ref 131), (1, vi y1)]) (st2 := [.ref 131, vl (lo (la ((lnk t84 y17 z84) 131 8) y9) (la ((lnk t84 y17 z84) 131 7) y11)), vi y15]) 1 (fun _ _ => rfl) ?_
          refine pr_gE (k2 := 131) (v := vl ((lnk t84 y17 z84) 131 9)) hE85 rfl rfl rfl (by decide) rfl rfl rfl fun h88 => ?_
          have h88 : i64 ((lnk t84 y17 z84) 131 9) := h88
          refine pr_n (pc2 := 170) (lv2 := [(17, vi z84), (16, vi y16), (19, vi z84), (18, vi y18), (13, vl y13), (11, vl y11), (9, vl y9), (15, vi y15), (7, vl y7), (5, vl y5), (3, vl y3), (2, vi y2), (0, .ref 131), (1, vi y1)]) (st2 := [vl y13, vl ((lnk t84 y17 z84) 131 9), vl (lo (la ((lnk t84 y17 z84) 131 8) y9) (la ((lnk t84 y17 z84) 131 7) y11)), vi y15]) 1 (fun _ _ => rfl) ?_
          refine pr_l2 (a := (lnk t84 y17 z84) 131 9) (b := y13) rfl rfl ?_
          show pr N2 K d tb_M70 171 [(17, vi z84), (16, vi y16), (19, vi z84), (18, vi y18), (13, vl y13), (11, vl y11), (9, vl y9), (15, vi y15), (7, vl y7), (5, vl y5), (3, vl y3), (2, vi y2), (0, .ref 131), (1, vi y1)] [vl (la ((lnk t84 y17 z84) 131 9) y13), vl (lo (la ((lnk t84 y17 z84) 131 8) y9) (la ((lnk t84 y17 z84) 131 7) y11)), vi y15] s85 _
          refine pr_l2 (a := lo (la ((lnk t84 y17 z84) 131 8) y9) (la ((lnk t84 y17 z84) 131 7) y11)) (b := la ((lnk t84 y17 z84) 131 9) y13) rfl rfl ?_
          show pr N2 K d tb_M70 172 [(17, vi z84), (16, vi y16), (19, vi z84), (18, vi y18), (13, vl y13), (11, vl y11), (9, vl y9), (15, vi y15), (7, vl y7), (5, vl y5), (3, vl y3), (2, vi y2), (0, .ref 131), (1, vi y1)] [vl (lo (lo (la ((lnk t84 y17 z84) 131 8) y9) (la ((lnk t84 y17 z84) 131 7) y11)) (la ((lnk t84 y17 z84) 131 9) y13)), vi y15] s85 _
          refine pr_n (pc2 := 173) (lv2 := [(17, vi z84), (16, vi y16), (19, vi z84), (18, vi y18), (13, vl y13), (11, vl y11), (9, vl y9), (15, vi y15), (7, vl y7), (5, vl y5), (3, vl y3), (2, vi y2), (0, .ref 131), (1, vi y1)]) (st2 := [vl 0, vl (lo (lo (la ((lnk t84 y17 z84) 131 8) y9) (la ((lnk t84 y17 z84) 131 7) y11)) (la ((lnk t84 y17 z84) 131 9) y13)), vi y15]) 1 (fun _ _ => rfl) ?_
          refine pr_lcmp (a := lo (lo (la ((lnk t84 y17 z84) 131 8) y9) (la ((lnk t84 y17 z84) 131 7) y11)) (la ((lnk t84 y17 z84) 131 9) y13)) (b := 0) rfl (i64_in _) (i64_n rfl) ?_
          by_cases h89 : lo (lo (la ((lnk t84 y17 z84) 131 8) y9) (la ((lnk t84 y17 z84) 131 7) y11)) (la ((lnk t84 y17 z84) 131 9) y13) = 0
          · refine mq_t h89 ?_
            refine pr_if1t rfl rfl lc_i32 (lc_eq.mpr h89) ?_
            refine pr_n (pc2 := 182) (lv2 := [(17, vi z84), (16, vi y16), (19, vi z84), (18, vi y18), (13, vl y13), (11, vl y11), (9, vl y9), (15, vi y15), (7, vl y7), (5, vl y5), (3, vl y3), (2, vi y2), (0, .ref 131), (1, vi y1)]) (st2 := [vi 0, vi y15]) 1 (fun _ _ => rfl) ?_
            refine pr_i2 (a := y15) (b := 0) rfl rfl ?_
            show pr N2 K d tb_M70 183 [(17, vi z84), (16, vi y16), (19, vi z84), (18, vi y18), (13, vl y13), (11, vl y11), (9, vl y9), (15, vi y15), (7, vl y7), (5, vl y5), (3, vl y3), (2, vi y2), (0, .ref 131), (1, vi y1)] [vi (ior y15 0)] s85 _
            have h90 : i32 (ior y15 0) := i32_in _
            refine pr_n (pc2 := 188) (lv2 := [(15, vi (ior y15 0)), (17, vi z84), (16, vi y16), (19, vi z84), (18, vi y18), (13, vl y13), (11, vl y11), (9, vl y9), (7, vl y7), (5, vl y5), (3, vl y3), (2, vi y2), (0, .ref 131), (1, vi y1)]) (st2 := [.ref 131, vl y9]) 3 (fun _ _ => rfl) ?_
            refine pr_gE (k2 := 131) (v := vl ((lnk t84 y17 z84) 131 7)) hE85 rfl rfl rfl (by decide) rfl rfl rfl fun h91 => ?_
            have h91 : i64 ((lnk t84 y17 z84) 131 7) := h91
            refine pr_l2 (a := y9) (b := (lnk t84 y17 z84) 131 7) rfl rfl ?_
            show pr N2 K d tb_M70 192 [(15, vi (ior y15 0)), (17, vi z84), (16, vi y16), (19, vi z84), (18, vi y18), (13, vl y13), (11, vl y11), (9, vl y9), (7, vl y7), (5, vl y5), (3, vl y3), (2, vi y2), (0, .ref 131), (1, vi y1)] [vl (lo y9 ((lnk t84 y17 z84) 131 7))] s85 _
            refine pr_n (pc2 := 197) (lv2 := [(9, vl (lo y9 ((lnk t84 y17 z84) 131 7))), (15, vi (ior y15 0)), (17, vi z84), (16, vi y16), (19, vi z84), (18, vi y18), (13, vl y13), (11, vl y11), (7, vl y7), (5, vl y5), (3, vl y3), (2, vi y2), (0, .ref 131), (1, vi y1)]) (st2 := [.ref 131, vl y11]) 3 (fun _ _ => rfl) ?_
            refine pr_gE (k2 := 131) (v := vl ((lnk t84 y17 z84) 131 8)) hE85 rfl rfl rfl (by decide) rfl rfl rfl fun h92 => ?_
            have h92 : i64 ((lnk t84 y17 z84) 131 8) := h92
            refine pr_l2 (a := y11) (b := (lnk t84 y17 z84) 131 8) rfl rfl ?_
            show pr N2 K d tb_M70 201 [(9, vl (lo y9 ((lnk t84 y17 z84) 131 7))), (15, vi (ior y15 0)), (17, vi z84), (16, vi y16), (19, vi z84), (18, vi y18), (13, vl y13), (11, vl y11), (7, vl y7), (5, vl y5), (3, vl y3), (2, vi y2), (0, .ref 131), (1, vi y1)] [vl (lo y11 ((lnk t84 y17 z84) 131 8))] s85 _
            refine pr_n (pc2 := 206) (lv2 := [(11, vl (lo y11 ((lnk t84 y17 z84) 131 8))), (9, vl (lo y9 ((lnk t84 y17 z84) 131 7))), (15, vi (ior y15 0)), (17, vi z84), (16, vi y16), (19, vi z84), (18, vi y18), (13, vl y13), (7, vl y7), (5, vl y5), (3, vl y3), (2, vi y2), (0, .ref 131), (1, vi y1)]) (st2 := [.ref 131, vl y13]) 3 (fun _ _ => rfl) ?_
            refine pr_gE (k2 := 131) (v := vl ((lnk t84 y17 z84) 131 9)) hE85 rfl rfl rfl (by decide) rfl rfl rfl fun h93 => ?_
            have h93 : i64 ((lnk t84 y17 z84) 131 9) := h93
            refine pr_l2 (a := y13) (b := (lnk t84 y17 z84) 131 9) rfl rfl ?_
            show pr N2 K d tb_M70 210 [(11, vl (lo y11 ((lnk t84 y17 z84) 131 8))), (9, vl (lo y9 ((lnk t84 y17 z84) 131 7))), (15, vi (ior y15 0)), (17, vi z84), (16, vi y16), (19, vi z84), (18, vi y18), (13, vl y13), (7, vl y7), (5, vl y5), (3, vl y3), (2, vi y2), (0, .ref 131), (1, vi y1)] [vl (lo y13 ((lnk t84 y17 z84) 131 9))] s85 _
            refine pr_n (pc2 := 212) (lv2 := [(13, vl (lo y13 ((lnk t84 y17 z84) 131 9))), (11, vl (lo y11 ((lnk t84 y17 z84) 131 8))), (9, vl (lo y9 ((lnk t84 y17 z84) 131 7))), (15, vi (ior y15 0)), (17, vi z84), (16, vi y16), (19, vi z84), (18, vi y18), (7, vl y7), (5, vl y5), (3, vl y3), (2, vi y2), (0, .ref 131), (1, vi y1)]) (st2 := []) 1 (fun _ _ => rfl) ?_
            refine pr_inc (a := y18) rfl rfl ?_
            have h94 : i32 (y18 + 1) := by unfold i32 at *; omega
            show pr N2 K d tb_M70 215 [(18, vi (y18 + 1)), (13, vl (lo y13 ((lnk t84 y17 z84) 131 9))), (11, vl (lo y11 ((lnk t84 y17 z84) 131 8))), (9, vl (lo y9 ((lnk t84 y17 z84) 131 7))), (15, vi (ior y15 0)), (17, vi z84), (16, vi y16), (19, vi z84), (7, vl y7), (5, vl y5), (3, vl y3), (2, vi y2), (0, .ref 131), (1, vi y1)] [] s85 _
            refine pr_n (pc2 := 53) (lv2 := [(18, vi (y18 + 1)), (13, vl (lo y13 ((lnk t84 y17 z84) 131 9))), (11, vl (lo y11 ((lnk t84 y17 z84) 131 8))), (9, vl (lo y9 ((lnk t84 y17 z84) 131 7))), (15, vi (ior y15 0)), (17, vi z84), (16, vi y16), (19, vi z84), (7, vl y7), (5, vl y5), (3, vl y3), (2, vi y2), (0, .ref 131), (1, vi y1)]) (st2 := []) 1 (fun _ _ => rfl) ?_
            exact ((ih N2 hN2).2) s85 ((lnk t84 y17 z84)) (y18 + 1) (lo y13 ((lnk t84 y17 z84) 131 9)) (lo y11 ((lnk t84 y17 z84) 131 8)) (lo y9 ((lnk t84 y17 z84) 131 7)) (ior y15 0) z84 y16 z84 y7 y5 y3 y2 y1 hE85 h94 (i64_in _) (i64_in _) (i64_in _) h90 hz84 hy16 hz84 hy7 hy5 hy3 hy2 hy1
          · refine mq_f h89 ?_
            refine pr_if1f rfl rfl lc_i32 (fun e => h89 (lc_eq.mp e)) ?_
            refine pr_n (pc2 := 182) (lv2 := [(17, vi z84), (16, vi y16), (19, vi z84), (18, vi y18), (13, vl y13), (11, vl y11), (9, vl y9), (15, vi y15), (7, vl y7), (5, vl y5), (3, vl y3), (2, vi y2), (0, .ref 131), (1, vi y1)]) (st2 := [vi 1, vi y15]) 2 (fun _ _ => rfl) ?_
            refine pr_i2 (a := y15) (b := 1) rfl rfl ?_
            show pr N2 K d tb_M70 183 [(17, vi z84), (16, vi y16), (19, vi z84), (18, vi y18), (13, vl y13), (11, vl y11), (9, vl y9), (15, vi y15), (7, vl y7), (5, vl y5), (3, vl y3), (2, vi y2), (0, .ref 131), (1, vi y1)] [vi (ior y15 1)] s85 _
            have h95 : i32 (ior y15 1) := i32_in _
            refine pr_n (pc2 := 188) (lv2 := [(15, vi (ior y15 1)), (17, vi z84), (16, vi y16), (19, vi z84), (18, vi y18), (13, vl y13), (11, vl y11), (9, vl y9), (7, vl y7), (5, vl y5), (3, vl y3), (2, vi y2), (0, .ref 131), (1, vi y1)]) (st2 := [.ref 131, vl y9]) 3 (fun _ _ => rfl) ?_
            refine pr_gE (k2 := 131) (v := vl ((lnk t84 y17 z84) 131 7)) hE85 rfl rfl rfl (by decide) rfl rfl rfl fun h96 => ?_
            have h96 : i64 ((lnk t84 y17 z84) 131 7) := h96
            refine pr_l2 (a := y9) (b := (lnk t84 y17 z84) 131 7) rfl rfl ?_
            show pr N2 K d tb_M70 192 [(15, vi (ior y15 1)), (17, vi z84), (16, vi y16), (19, vi z84), (18, vi y18), (13, vl y13), (11, vl y11), (9, vl y9), (7, vl y7), (5, vl y5), (3, vl y3), (2, vi y2), (0, .ref 131), (1, vi y1)] [vl (lo y9 ((lnk t84 y17 z84) 131 7))] s85 _
            refine pr_n (pc2 := 197) (lv2 := [(9, vl (lo y9 ((lnk t84 y17 z84) 131 7))), (15, vi (ior y15 1)), (17, vi z84), (16, vi y16), (19, vi z84), (18, vi y18), (13, vl y13), (11, vl y11), (7, vl y7), (5, vl y5), (3, vl y3), (2, vi y2), (0, .ref 131), (1, vi y1)]) (st2 := [.ref 131, vl y11]) 3 (fun _ _ => rfl) ?_
            refine pr_gE (k2 := 131) (v := vl ((lnk t84 y17 z84) 131 8)) hE85 rfl rfl rfl (by decide) rfl rfl rfl fun h97 => ?_
            have h97 : i64 ((lnk t84 y17 z84) 131 8) := h97
            refine pr_l2 (a := y11) (b := (lnk t84 y17 z84) 131 8) rfl rfl ?_
            show pr N2 K d tb_M70 201 [(9, vl (lo y9 ((lnk t84 y17 z84) 131 7))), (15, vi (ior y15 1)), (17, vi z84), (16, vi y16), (19, vi z84), (18, vi y18), (13, vl y13), (11, vl y11), (7, vl y7), (5, vl y5), (3, vl y3), (2, vi y2), (0, .ref 131), (1, vi y1)] [vl (lo y11 ((lnk t84 y17 z84) 131 8))] s85 _
            refine pr_n (pc2 := 206) (lv2 := [(11, vl (lo y11 ((lnk t84 y17 z84) 131 8))), (9, vl (lo y9 ((lnk t84 y17 z84) 131 7))), (15, vi (ior y15 1)), (17, vi z84), (16, vi y16), (19, vi z84), (18, vi y18), (13, vl y13), (7, vl y7), (5, vl y5), (3, vl y3), (2, vi y2), (0, .ref 131), (1, vi y1)]) (st2 := [.ref 131, vl y13]) 3 (fun _ _ => rfl) ?_
            refine pr_gE (k2 := 131) (v := vl ((lnk t84 y17 z84) 131 9)) hE85 rfl rfl rfl (by decide) rfl rfl rfl fun h98 => ?_
            have h98 : i64 ((lnk t84 y17 z84) 131 9) := h98
            refine pr_l2 (a := y13) (b := (lnk t84 y17 z84) 131 9) rfl rfl ?_
            show pr N2 K d tb_M70 210 [(11, vl (lo y11 ((lnk t84 y17 z84) 131 8))), (9, vl (lo y9 ((lnk t84 y17 z84) 131 7))), (15, vi (ior y15 1)), (17, vi z84), (16, vi y16), (19, vi z84), (18, vi y18), (13, vl y13), (7, vl y7), (5, vl y5), (3, vl y3), (2, vi y2), (0, .ref 131), (1, vi y1)] [vl (lo y13 ((lnk t84 y17 z84) 131 9))] s85 _
            refine pr_n (pc2 := 212) (lv2 := [(13, vl (lo y13 ((lnk t84 y17 z84) 131 9))), (11, vl (lo y11 ((lnk t84 y17 z84) 131 8))), (9, vl (lo y9 ((lnk t84 y17 z84) 131 7))), (15, vi (ior y15 1)), (17, vi z84), (16, vi y16), (19, vi z84), (18, vi y18), (7, vl y7), (5, vl y5), (3, vl y3), (2, vi y2), (0, .ref 131), (1, vi y1)]) (st2 := []) 1 (fun _ _ => rfl) ?_
            refine pr_inc (a := y18) rfl rfl ?_
            have h99 : i32 (y18 + 1) := by unfold i32 at *; omega
            show pr N2 K d tb_M70 215 [(18, vi (y18 + 1)), (13, vl (lo y13 ((lnk t84 y17 z84) 131 9))), (11, vl (lo y11 ((lnk t84 y17 z84) 131 8))), (9, vl (lo y9 ((lnk t84 y17 z84) 131 7))), (15, vi (ior y15 1)), (17, vi z84), (16, vi y16), (19, vi z84), (7, vl y7), (5, vl y5), (3, vl y3), (2, vi y2), (0, .ref 131), (1, vi y1)] [] s85 _
            refine pr_n (pc2 := 53) (lv2 := [(18, vi (y18 + 1)), (13, vl (lo y13 ((lnk t84 y17 z84) 131 9))), (11, vl (lo y11 ((lnk t84 y17 z84) 131 8))), (9, vl (lo y9 ((lnk t84 y17 z84) 131 7))), (15, vi (ior y15 1)), (17, vi z84), (16, vi y16), (19, vi z84), (7, vl y7), (5, vl y5), (3, vl y3), (2, vi y2), (0, .ref 131), (1, vi y1)]) (st2 := []) 1 (fun _ _ => rfl) ?_
            exact ((ih N2 hN2).2) s85 ((lnk t84 y17 z84)) (y18 + 1) (lo y13 ((lnk t84 y17 z84) 131 9)) (lo y11 ((lnk t84 y17 z84) 131 8)) (lo y9 ((lnk t84 y17 z84) 131 7)) (ior y15 1) z84 y16 z84 y7 y5 y3 y2 y1 hE85 h99 (i64_in _) (i64_in _) (i64_in _) h95 hz84 hy16 hz84 hy7 hy5 hy3 hy2 hy1
        · refine mq_f h78 ?_
          refine pr_if1f rfl rfl hy18 h78 ?_
          refine pr_n (pc2 := 91) (lv2 := [(18, vi y18), (13, vl y13), (11, vl y11), (9, vl y9), (15, vi y15), (17, vi y17), (16, vi y16), (19, vi y19), (7, vl y7), (5, vl y5), (3, vl y3), (2, vi y2), (0, .ref 131), (1, vi y1)]) (st2 := [vi 123, .ref 131]) 2 (fun _ _ => rfl) ?_
          refine pr_m1 (args := [vi 123]) (rest := []) rfl rfl rfl rfl (Nat.le_of_ble_eq_true rfl) rfl (h_43 s61 t 123 hE61 (i32_n rfl)) ?_
          rintro _ _ t100 s100 ⟨rfl, rfl⟩ hE100
          show pr N2 K d tb_M70 94 [(18, vi y18), (13, vl y13), (11, vl y11), (9, vl y9), (15, vi y15), (17, vi y17), (16, vi y16), (19, vi y19), (7, vl y7), (5, vl y5), (3, vl y3), (2, vi y2), (0, .ref 131), (1, vi y1)] [] s100 _
          refine pr_n (pc2 := 96) (lv2 := [(18, vi y18), (13, vl y13), (11, vl y11), (9, vl y9), (15, vi y15), (17, vi y17), (16, vi y16), (19, vi y19), (7, vl y7), (5, vl y5), (3, vl y3), (2, vi y2), (0, .ref 131), (1, vi y1)]) (st2 := [vl 0, .ref 131]) 2 (fun _ _ => rfl) ?_
          refine pr_pE (k2 := 131) (z := 0) hE100 rfl rfl rfl rfl (by decide) rfl (by decide) rfl (i64_n rfl) (fit_l _) rfl rfl rfl (fun e => absurd e.2 (by decide)) (iv_c (by decide)) fun s101 hE101 => ?_
          refine pr_n (pc2 := 101) (lv2 := [(18, vi y18), (13, vl y13), (11, vl y11), (9, vl y9), (15, vi y15), (17, vi y17), (16, vi y16), (19, vi y19), (7, vl y7), (5, vl y5), (3, vl y3), (2, vi y2), (0, .ref 131), (1, vi y1)]) (st2 := [vl 0, .ref 131]) 2 (fun _ _ => rfl) ?_
          refine pr_pE (k2 := 131) (z := 0) hE101 rfl rfl rfl rfl (by decide) rfl (by decide) rfl (i64_n rfl) (fit_l _) rfl rfl rfl (fun e => absurd e.2 (by decide)) (iv_c (by decide)) fun s102 hE102 => ?_
          refine pr_n (pc2 := 106) (lv2 := [(18, vi y18), (13, vl y13), (11, vl y11), (9, vl y9), (15, vi y15), (17, vi y17), (16, vi y16), (19, vi y19), (7, vl y7), (5, vl y5), (3, vl y3), (2, vi y2), (0, .ref 131), (1, vi y1)]) (st2 := [vl 0, .ref 131]) 2 (fun _ _ => rfl) ?_
          refine pr_pE (k2 := 131) (z := 0) hE102 rfl rfl rfl rfl (by decide) rfl (by decide) rfl (i64_n rfl) (fit_l _) rfl rfl rfl (fun e => absurd e.2 (by decide)) (iv_c (by decide)) fun s103 hE103 => ?_
          refine pr_n (pc2 := 112) (lv2 := [(18, vi y18), (13, vl y13), (11, vl y11), (9, vl y9), (15, vi y15), (17, vi y17), (16, vi y16), (19, vi y19), (7, vl y7), (5, vl y5), (3, vl y3), (2, vi y2), (0, .ref 131), (1, vi y1)]) (st2 := [vi 1, vi y1, .ref 131]) 3 (fun _ _ => rfl) ?_
          refine pr_i2 (a := y1) (b := 1) rfl rfl ?_
          show pr N2 K d tb_M70 113 [(18, vi y18), (13, vl y13), (11, vl y11), (9, vl y9), (15, vi y15), (17, vi y17), (16, vi y16), (19, vi y19), (7, vl y7), (5, vl y5), (3, vl y3), (2, vi y2), (0, .ref 131), (1, vi y1)] [vi (ipl y1 1), .ref 131] s103 _
          have h104 : i32 (ipl y1 1) := i32_in _
          refine pr_m1 (args := [vi (ipl y1 1)]) (rest := []) rfl rfl rfl rfl (Nat.le_of_ble_eq_true rfl) rfl (h_52 s103 (up2 (up2 (up2 t100 131 7 0) 131 8 0) 131 9 0) (ipl y1 1) hE103 h104) ?_
          rintro _ z105 t105 s105 ⟨rfl, hz105⟩ hE105
          show pr N2 K d tb_M70 116 [(18, vi y18), (13, vl y13), (11, vl y11), (9, vl y9), (15, vi y15), (17, vi y17), (16, vi y16), (19, vi y19), (7, vl y7), (5, vl y5), (3, vl y3), (2, vi y2), (0, .ref 131), (1, vi y1)] [vi z105] s105 _
          refine pr_n (pc2 := 119) (lv2 := [(19, vi z105), (18, vi y18), (13, vl y13), (11, vl y11), (9, vl y9), (15, vi y15), (17, vi y17), (16, vi y16), (7, vl y7), (5, vl y5), (3, vl y3), (2, vi y2), (0, .ref 131), (1, vi y1)]) (st2 := [.ref 131]) 2 (fun _ _ => rfl) ?_
          refine pr_get (v := .ref C) rfl rfl rfl (by decide) (rv_ref (show s105.1 131 1 = ((C : Nat) : Int) from hE105.2.2.1)) fun _ => ?_
          refine pr_n (pc2 := 126) (lv2 := [(19, vi z105), (18, vi y18), (13, vl y13), (11, vl y11), (9, vl y9), (15, vi y15), (17, vi y17), (16, vi y16), (7, vl y7), (5, vl y5), (3, vl y3), (2, vi y2), (0, .ref 131), (1, vi y1)]) (st2 := [vi z105, vi y17, .ref C]) 2 (fun _ _ => rfl) ?_
          refine pr_s1 (args := [vi y17, vi z105]) (rest := []) rfl rfl rfl (TK0 hC) (Nat.le_of_ble_eq_true rfl) rfl (h_66 s105 t105 y17 z105 hE105 hy17 hz105) s_lnk ?_
          rintro _ s106 ⟨rfl, _⟩ hE106
          show pr N2 K d tb_M70 129 [(19, vi z105), (18, vi y18), (13, vl y13), (11, vl y11), (9, vl y9), (15, vi y15), (17, vi y17), (16, vi y16), (7, vl y7), (5, vl y5), (3, vl y3), (2, vi y2), (0, .ref 131), (1, vi y1)] [] s106 _
          refine pr_n (pc2 := 131) (lv2 := [(19, vi z105), (18, vi y18), (13, vl y13), (11, vl y11), (9, vl y9), (15, vi y15), (17, vi y17), (16, vi y16), (7, vl y7), (5, vl y5), (3, vl y3), (2, vi y2), (0, .ref 131), (1, vi y1)]) (st2 := [vi y18]) 1 (fun _ _ => rfl) ?_
          refine pr_if1f rfl rfl hy18 (show ¬ (y18 ≠ 0) by omega) ?_
          show pr N2 K d tb_M70 134 [(19, vi z105), (18, vi y18), (13, vl y13), (11, vl y11), (9, vl y9), (15, vi y15), (17, vi y17), (16, vi y16), (7, vl y7), (5, vl y5), (3, vl y3), (2, vi y2), (0, .ref 131), (1, vi y1)] [] s106 _
          refine pr_n (pc2 := 150) (lv2 := [(17, vi z105), (16, vi z105), (19, vi z105), (18, vi y18), (13, vl y13), (11, vl y11), (9, vl y9), (15, vi y15), (7, vl y7), (5, vl y5), (3, vl y3), (2, vi y2), (0, .ref 131), (1, vi y1)]) (st2 := [.ref 131, vi y15]) 7 (fun _ _ => rfl) ?_
          refine pr_gE (k2 := 131) (v := vl ((lnk t105 y17 z105) 131 8)) hE106 rfl rfl rfl (by decide) rfl rfl rfl fun h107 => ?_
          have h107 : i64 ((lnk t105 y17 z105) 131 8) := h107
          refine pr_n (pc2 := 155) (lv2 := [(17, vi z105), (16, vi z105), (19, vi z105), (18, vi y18), (13, vl y13), (11, vl y11), (9, vl y9), (15, vi y15), (7, vl y7), (5, vl y5), (3, vl y3), (2, vi y2), (0, .ref 131), (1, vi y1)]) (st2 := [vl y9, vl ((lnk t105 y17 z105) 131 8), vi y15]) 1 (fun _ _ => rfl) ?_
          refine pr_l2 (a := (lnk t105 y17 z105) 131 8) (b := y9) rfl rfl ?_
          show pr N2 K d tb_M70 156 [(17, vi z105), (16, vi z105), (19, vi z105), (18, vi y18), (13, vl y13), (11, vl y11), (9, vl y9), (15, vi y15), (7, vl y7), (5, vl y5), (3, vl y3), (2, vi y2), (0, .ref 131), (1, vi y1)] [vl (la ((lnk t105 y17 z105) 131 8) y9), vi y15] s106 _
          refine pr_n (pc2 := 157) (lv2 := [(17, vi z105), (16, vi z105), (19, vi z105), (18, vi y18), (13, vl y13), (11, vl y11), (9, vl y9), (15, vi y15), (7, vl y7), (5, vl y5), (3, vl y3), (2, vi y2), (0, .ref 131), (1, vi y1)]) (st2 := [.ref 131, vl (la ((lnk t105 y17 z105) 131 8) y9), vi y15]) 1 (fun _ _ => rfl) ?_
          refine pr_gE (k2 := 131) (v := vl ((lnk t105 y17 z105) 131 7)) hE106 rfl rfl rfl (by decide) rfl rfl rfl fun h108 => ?_
          have h108 : i64 ((lnk t105 y17 z105) 131 7) := h108
          refine pr_n (pc2 := 162) (lv2 := [(17, vi z105), (16, vi z105), (19, vi z105), (18, vi y18), (13, vl y13), (11, vl y11), (9, vl y9), (15, vi y15), (7, vl y7), (5, vl y5), (3, vl y3), (2, vi y2), (0, .ref 131), (1, vi y1)]) (st2 := [vl y11, vl ((lnk t105 y17 z105) 131 7), vl (la ((lnk t105 y17 z105) 131 8) y9), vi y15]) 1 (fun _ _ => rfl) ?_
          refine pr_l2 (a := (lnk t105 y17 z105) 131 7) (b := y11) rfl rfl ?_
          show pr N2 K d tb_M70 163 [(17, vi z105), (16, vi z105), (19, vi z105), (18, vi y18), (13, vl y13), (11, vl y11), (9, vl y9), (15, vi y15), (7, vl y7), (5, vl y5), (3, vl y3), (2, vi y2), (0, .ref 131), (1, vi y1)] [vl (la ((lnk t105 y17 z105) 131 7) y11), vl (la ((lnk t105 y17 z105) 131 8) y9), vi y15] s106 _
          refine pr_l2 (a := la ((lnk t105 y17 z105) 131 8) y9) (b := la ((lnk t105 y17 z105) 131 7) y11) rfl rfl ?_
          show pr N2 K d tb_M70 164 [(17, vi z105), (16, vi z105), (19, vi z105), (18, vi y18), (13, vl y13), (11, vl y11), (9, vl y9), (15, vi y15), (7, vl y7), (5, vl y5), (3, vl y3), (2, vi y2), (0, .ref 131), (1, vi y1)] [vl (lo (la ((lnk t105 y17 z105) 131 8) y9) (la ((lnk t105 y17 z105) 131 7) y11)), vi y15] s106 _
          refine pr_n (pc2 := 165) (lv2 := [(17, vi z105), (16, vi z105), (19, vi z105), (18, vi y18), (13, vl y13), (11, vl y11), (9, vl y9), (15, vi y15), (7, vl y7), (5, vl y5), (3, vl y3), (2, vi y2), (0, .ref 131), (1, vi y1)]) (st2 := [.ref 131, vl (lo (la ((lnk t105 y17 z105) 131 8) y9) (la ((lnk t105 y17 z105) 131 7) y11)), vi y15]) 1 (fun _ _ => rfl) ?_
          refine pr_gE (k2 := 131) (v := vl ((lnk t105 y17 z105) 131 9)) hE106 rfl rfl rfl (by decide) rfl rfl rfl fun h109 => ?_
          have h109 : i64 ((lnk t105 y17 z105) 131 9) := h109
          refine pr_n (pc2 := 170) (lv2 := [(17, vi z105), (16, vi z105), (19, vi z105), (18, vi y18), (13, vl y13), (11, vl y11), (9, vl y9), (15, vi y15), (7, vl y7), (5, vl y5), (3, vl y3), (2, vi y2), (0, .ref 131), (1, vi y1)]) (st2 := [vl y13, vl ((lnk t105 y17 z105) 131 9), vl (lo (la ((lnk t105 y17 z105) 131 8) y9) (la ((lnk t105 y17 z105) 131 7) y11)), vi y15]) 1 (fun _ _ => rfl) ?_
          refine pr_l2 (a := (lnk t105 y17 z105) 131 9) (b := y13) rfl rfl ?_
          show pr N2 K d tb_M70 171 [(17, vi z105), (16, vi z105), (19, vi z105), (18, vi y18), (13, vl y13), (11, vl y11), (9, vl y9), (15, vi y15), (7, vl y7), (5, vl y5), (3, vl y3), (2, vi y2), (0, .ref 131), (1, vi y1)] [vl (la ((lnk t105 y17 z105) 131 9) y13), vl (lo (la ((lnk t105 y17 z105) 131 8) y9) (la ((lnk t105 y17 z105) 131 7) y11)), vi y15] s106 _
          refine pr_l2 (a := lo (la ((lnk t105 y17 z105) 131 8) y9) (la ((lnk t105 y17 z105) 131 7) y11)) (b := la ((lnk t105 y17 z105) 131 9) y13) rfl rfl ?_
          show pr N2 K d tb_M70 172 [(17, vi z105), (16, vi z105), (19, vi z105), (18, vi y18), (13, vl y13), (11, vl y11), (9, vl y9), (15, vi y15), (7, vl y7), (5, vl y5), (3, vl y3), (2, vi y2), (0, .ref 131), (1, vi y1)] [vl (lo (lo (la ((lnk t105 y17 z105) 131 8) y9) (la ((lnk t105 y17 z105) 131 7) y11)) (la ((lnk t105 y17 z105) 131 9) y13)), vi y15] s106 _
          refine pr_n (pc2 := 173) (lv2 := [(17, vi z105), (16, vi z105), (19, vi z105), (18, vi y18), (13, vl y13), (11, vl y11), (9, vl y9), (15, vi y15), (7, vl y7), (5, vl y5), (3, vl y3), (2, vi y2), (0, .ref 131), (1, vi y1)]) (st2 := [vl 0, vl (lo (lo (la ((lnk t105 y17 z105) 131 8) y9) (la ((lnk t105 y17 z105) 131 7) y11)) (la ((lnk t105 y17 z105) 131 9) y13)), vi y15]) 1 (fun _ _ => rfl) ?_
          refine pr_lcmp (a := lo (lo (la ((lnk t105 y17 z105) 131 8) y9) (la ((lnk t105 y17 z105) 131 7) y11)) (la ((lnk t105 y17 z105) 131 9) y13)) (b := 0) rfl (i64_in _) (i64_n rfl) ?_
          by_cases h110 : lo (lo (la ((lnk t105 y17 z105) 131 8) y9) (la ((lnk t105 y17 z105) 131 7) y11)) (la ((lnk t105 y17 z105) 131 9) y13) = 0
          · refine mq_t h110 ?_
            refine pr_if1t rfl rfl lc_i32 (lc_eq.mpr h110) ?_
            refine pr_n (pc2 := 182) (lv2 := [(17, vi z105), (16, vi z105), (19, vi z105), (18, vi y18), (13, vl y13), (11, vl y11), (9, vl y9), (15, vi y15), (7, vl y7), (5, vl y5), (3, vl y3), (2, vi y2), (0, .ref 131), (1, vi y1)]) (st2 := [vi 0, vi y15]) 1 (fun _ _ => rfl) ?_
            refine pr_i2 (a := y15) (b := 0) rfl rfl ?_
            show pr N2 K d tb_M70 183 [(17, vi z105), (16, vi z105), (19, vi z105), (18, vi y18), (13, vl y13), (11, vl y11), (9, vl y9), (15, vi y15), (7, vl y7), (5, vl y5), (3, vl y3), (2, vi y2), (0, .ref 131), (1, vi y1)] [vi (ior y15 0)] s106 _
            have h111 : i32 (ior y15 0) := i32_in _
            refine pr_n (pc2 := 188) (lv2 := [(15, vi (ior y15 0)), (17, vi z105), (16, vi z105), (19, vi z105), (18, vi y18), (13, vl y13), (11, vl y11), (9, vl y9), (7, vl y7), (5, vl y5), (3, vl y3), (2, vi y2), (0, .ref 131), (1, vi y1)]) (st2 := [.ref 131, vl y9]) 3 (fun _ _ => rfl) ?_
            refine pr_gE (k2 := 131) (v := vl ((lnk t105 y17 z105) 131 7)) hE106 rfl rfl rfl (by decide) rfl rfl rfl fun h112 => ?_
            have h112 : i64 ((lnk t105 y17 z105) 131 7) := h112
            refine pr_l2 (a := y9) (b := (lnk t105 y17 z105) 131 7) rfl rfl ?_
            show pr N2 K d tb_M70 192 [(15, vi (ior y15 0)), (17, vi z105), (16, vi z105), (19, vi z105), (18, vi y18), (13, vl y13), (11, vl y11), (9, vl y9), (7, vl y7), (5, vl y5), (3, vl y3), (2, vi y2), (0, .ref 131), (1, vi y1)] [vl (lo y9 ((lnk t105 y17 z105) 131 7))] s106 _
            refine pr_n (pc2 := 197) (lv2 := [(9, vl (lo y9 ((lnk t105 y17 z105) 131 7))), (15, vi (ior y15 0)), (17, vi z105), (16, vi z105), (19, vi z105), (18, vi y18), (13, vl y13), (11, vl y11), (7, vl y7), (5, vl y5), (3, vl y3), (2, vi y2), (0, .ref 131), (1, vi y1)]) (st2 := [.ref 131, vl y11]) 3 (fun _ _ => rfl) ?_
            refine pr_gE (k2 := 131) (v := vl ((lnk t105 y17 z105) 131 8)) hE106 rfl rfl rfl (by decide) rfl rfl rfl fun h113 => ?_
            have h113 : i64 ((lnk t105 y17 z105) 131 8) := h113
            refine pr_l2 (a := y11) (b := (lnk t105 y17 z105) 131 8) rfl rfl ?_
            show pr N2 K d tb_M70 201 [(9, vl (lo y9 ((lnk t105 y17 z105) 131 7))), (15, vi (ior y15 0)), (17, vi z105), (16, vi z105), (19, vi z105), (18, vi y18), (13, vl y13), (11, vl y11), (7, vl y7), (5, vl y5), (3, vl y3), (2, vi y2), (0, .ref 131), (1, vi y1)] [vl (lo y11 ((lnk t105 y17 z105) 131 8))] s106 _
            refine pr_n (pc2 := 206) (lv2 := [(11, vl (lo y11 ((lnk t105 y17 z105) 131 8))), (9, vl (lo y9 ((lnk t105 y17 z105) 131 7))), (15, vi (ior y15 0)), (17, vi z105), (16, vi z105), (19, vi z105), (18, vi y18), (13, vl y13), (7, vl y7), (5, vl y5), (3, vl y3), (2, vi y2), (0, .ref 131), (1, vi y1)]) (st2 := [.ref 131, vl y13]) 3 (fun _ _ => rfl) ?_
            refine pr_gE (k2 := 131) (v := vl ((lnk t105 y17 z105) 131 9)) hE106 rfl rfl rfl (by decide) rfl rfl rfl fun h114 => ?_
            have h114 : i64 ((lnk t105 y17 z105) 131 9) := h114
            refine pr_l2 (a := y13) (b := (lnk t105 y17 z105) 131 9) rfl rfl ?_
            show pr N2 K d tb_M70 210 [(11, vl (lo y11 ((lnk t105 y17 z105) 131 8))), (9, vl (lo y9 ((lnk t105 y17 z105) 131 7))), (15, vi (ior y15 0)), (17, vi z105), (16, vi z105), (19, vi z105), (18, vi y18), (13, vl y13), (7, vl y7), (5, vl y5), (3, vl y3), (2, vi y2), (0, .ref 131), (1, vi y1)] [vl (lo y13 ((lnk t105 y17 z105) 131 9))] s106 _
            refine pr_n (pc2 := 212) (lv2 := [(13, vl (lo y13 ((lnk t105 y17 z105) 131 9))), (11, vl (lo y11 ((lnk t105 y17 z105) 131 8))), (9, vl (lo y9 ((lnk t105 y17 z105) 131 7))), (15, vi (ior y15 0)), (17, vi z105), (16, vi z105), (19, vi z105), (18, vi y18), (7, vl y7), (5, vl y5), (3, vl y3), (2, vi y2), (0, .ref 131), (1, vi y1)]) (st2 := []) 1 (fun _ _ => rfl) ?_
            refine pr_inc (a := y18) rfl rfl ?_
            have h115 : i32 (y18 + 1) := by unfold i32 at *; omega
            show pr N2 K d tb_M70 215 [(18, vi (y18 + 1)), (13, vl (lo y13 ((lnk t105 y17 z105) 131 9))), (11, vl (lo y11 ((lnk t105 y17 z105) 131 8))), (9, vl (lo y9 ((lnk t105 y17 z105) 131 7))), (15, vi (ior y15 0)), (17, vi z105), (16, vi z105), (19, vi z105), (7, vl y7), (5, vl y5), (3, vl y3), (2, vi y2), (0, .ref 131), (1, vi y1)] [] s106 _
            refine pr_n (pc2 := 53) (lv2 := [(18, vi (y18 + 1)), (13, vl (lo y13 ((lnk t105 y17 z105) 131 9))), (11, vl (lo y11 ((lnk t105 y17 z105) 131 8))), (9, vl (lo y9 ((lnk t105 y17 z105) 131 7))), (15, vi (ior y15 0)), (17, vi z105), (16, vi z105), (19, vi z105), (7, vl y7), (5, vl y5), (3, vl y3), (2, vi y2), (0, .ref 131), (1, vi y1)]) (st2 := []) 1 (fun _ _ => rfl) ?_
            exact ((ih N2 hN2).2) s106 ((lnk t105 y17 z105)) (y18 + 1) (lo y13 ((lnk t105 y17 z105) 131 9)) (lo y11 ((lnk t105 y17 z105) 131 8)) (lo y9 ((lnk t105 y17 z105) 131 7)) (ior y15 0) z105 z105 z105 y7 y5 y3 y2 y1 hE106 h115 (i64_in _) (i64_in _) (i64_in _) h111 hz105 hz105 hz105 hy7 hy5 hy3 hy2 hy1
          · refine mq_f h110 ?_
            refine pr_if1f rfl rfl lc_i32 (fun e => h110 (lc_eq.mp e)) ?_
            refine pr_n (pc2 := 182) (lv2 := [(17, vi z105), (16, vi z105), (19, vi z105), (18, vi y18), (13, vl y13), (11, vl y11), (9, vl y9), (15, vi y15), (7, vl y7), (5, vl y5), (3, vl y3), (2, vi y2), (0, .ref 131), (1, vi y1)]) (st2 := [vi 1, vi y15]) 2 (fun _ _ => rfl) ?_
            refine pr_i2 (a := y15) (b := 1) rfl rfl ?_
            show pr N2 K d tb_M70 183 [(17, vi z105), (16, vi z105), (19, vi z105), (18, vi y18), (13, vl y13), (11, vl y11), (9, vl y9), (15, vi y15), (7, vl y7), (5, vl y5), (3, vl y3), (2, vi y2), (0, .ref 131), (1, vi y1)] [vi (ior y15 1)] s106 _
            have h116 : i32 (ior y15 1) := i32_in _
            refine pr_n (pc2 := 188) (lv2 := [(15, vi (ior y15 1)), (17, vi z105), (16, vi z105), (19, vi z105), (18, vi y18), (13, vl y13), (11, vl y11), (9, vl y9), (7, vl y7), (5, vl y5), (3, vl y3), (2, vi y2), (0, .ref 131), (1, vi y1)]) (st2 := [.ref 131, vl y9]) 3 (fun _ _ => rfl) ?_
            refine pr_gE (k2 := 131) (v := vl ((lnk t105 y17 z105) 131 7)) hE106 rfl rfl rfl (by decide) rfl rfl rfl fun h117 => ?_
            have h117 : i64 ((lnk t105 y17 z105) 131 7) := h117
            refine pr_l2 (a := y9) (b := (lnk t105 y17 z105) 131 7) rfl rfl ?_
            show pr N2 K d tb_M70 192 [(15, vi (ior y15 1)), (17, vi z105), (16, vi z105), (19, vi z105), (18, vi y18), (13, vl y13), (11, vl y11), (9, vl y9), (7, vl y7), (5, vl y5), (3, vl y3), (2, vi y2), (0, .ref 131), (1, vi y1)] [vl (lo y9 ((lnk t105 y17 z105) 131 7))] s106 _
            refine pr_n (pc2 := 197) (lv2 := [(9, vl (lo y9 ((lnk t105 y17 z105) 131 7))), (15, vi (ior y15 1)), (17, vi z105), (16, vi z105), (19, vi z105), (18, vi y18), (13, vl y13), (11, vl y11), (7, vl y7), (5, vl y5), (3, vl y3), (2, vi y2), (0, .ref 131), (1, vi y1)]) (st2 := [.ref 131, vl y11]) 3 (fun _ _ => rfl) ?_
            refine pr_gE (k2 := 131) (v := vl ((lnk t105 y17 z105) 131 8)) hE106 rfl rfl rfl (by decide) rfl rfl rfl fun h118 => ?_
            have h118 : i64 ((lnk t105 y17 z105) 131 8) := h118
            refine pr_l2 (a := y11) (b := (lnk t105 y17 z105) 131 8) rfl rfl ?_
            show pr N2 K d tb_M70 201 [(9, vl (lo y9 ((lnk t105 y17 z105) 131 7))), (15, vi (ior y15 1)), (17, vi z105), (16, vi z105), (19, vi z105), (18, vi y18), (13, vl y13), (11, vl y11), (7, vl y7), (5, vl y5), (3, vl y3), (2, vi y2), (0, .ref 131), (1, vi y1)] [vl (lo y11 ((lnk t105 y17 z105) 131 8))] s106 _
            refine pr_n (pc2 := 206) (lv2 := [(11, vl (lo y11 ((lnk t105 y17 z105) 131 8))), (9, vl (lo y9 ((lnk t105 y17 z105) 131 7))), (15, vi (ior y15 1)), (17, vi z105), (16, vi z105), (19, vi z105), (18, vi y18), (13, vl y13), (7, vl y7), (5, vl y5), (3, vl y3), (2, vi y2), (0, .ref 131), (1, vi y1)]) (st2 := [.ref 131, vl y13]) 3 (fun _ _ => rfl) ?_
            refine pr_gE (k2 := 131) (v := vl ((lnk t105 y17 z105) 131 9)) hE106 rfl rfl rfl (by decide) rfl rfl rfl fun h119 => ?_
            have h119 : i64 ((lnk t105 y17 z105) 131 9) := h119
            refine pr_l2 (a := y13) (b := (lnk t105 y17 z105) 131 9) rfl rfl ?_
            show pr N2 K d tb_M70 210 [(11, vl (lo y11 ((lnk t105 y17 z105) 131 8))), (9, vl (lo y9 ((lnk t105 y17 z105) 131 7))), (15, vi (ior y15 1)), (17, vi z105), (16, vi z105), (19, vi z105), (18, vi y18), (13, vl y13), (7, vl y7), (5, vl y5), (3, vl y3), (2, vi y2), (0, .ref 131), (1, vi y1)] [vl (lo y13 ((lnk t105 y17 z105) 131 9))] s106 _
            refine pr_n (pc2 := 212) (lv2 := [(13, vl (lo y13 ((lnk t105 y17 z105) 131 9))), (11, vl (lo y11 ((lnk t105 y17 z105) 131 8))), (9, vl (lo y9 ((lnk t105 y17 z105) 131 7))), (15, vi (ior y15 1)), (17, vi z105), (16, vi z105), (19, vi z105), (18, vi y18), (7, vl y7), (5, vl y5), (3, vl y3), (2, vi y2), (0, .ref 131), (1, vi y1)]) (st2 := []) 1 (fun _ _ => rfl) ?_
            refine pr_inc (a := y18) rfl rfl ?_
            have h120 : i32 (y18 + 1) := by unfold i32 at *; omega
            show pr N2 K d tb_M70 215 [(18, vi (y18 + 1)), (13, vl (lo y13 ((lnk t105 y17 z105) 131 9))), (11, vl (lo y11 ((lnk t105 y17 z105) 131 8))), (9, vl (lo y9 ((lnk t105 y17 z105) 131 7))), (15, vi (ior y15 1)), (17, vi z105), (16, vi z105), (19, vi z105), (7, vl y7), (5, vl y5), (3, vl y3), (2, vi y2), (0, .ref 131), (1, vi y1)] [] s106 _
            refine pr_n (pc2 := 53) (lv2 := [(18, vi (y18 + 1)), (13, vl (lo y13 ((lnk t105 y17 z105) 131 9))), (11, vl (lo y11 ((lnk t105 y17 z105) 131 8))), (9, vl (lo y9 ((lnk t105 y17 z105) 131 7))), (15, vi (ior y15 1)), (17, vi z105), (16, vi z105), (19, vi z105), (7, vl y7), (5, vl y5), (3, vl y3), (2, vi y2), (0, .ref 131), (1, vi y1)]) (st2 := []) 1 (fun _ _ => rfl) ?_
            exact ((ih N2 hN2).2) s106 ((lnk t105 y17 z105)) (y18 + 1) (lo y13 ((lnk t105 y17 z105) 131 9)) (lo y11 ((lnk t105 y17 z105) 131 8)) (lo y9 ((lnk t105 y17 z105) 131 7)) (ior y15 1) z105 z105 z105 y7 y5 y3 y2 y1 hE106 h120 (i64_in _) (i64_in _) (i64_in _) h116 hz105 hz105 hz105 hy7 hy5 hy3 hy2 hy1
theorem ca70 {K d C : Nat} (h_34 : cT34 K d C) (h_35 : cT35 K d C) (h_40 : cT40 K d C) (h_43 : cT43 K d C) (h_52 : cT52 K d C) (h_54 : cT54 K d C) (h_66 : cT66 K d C) : ∀ N, cA70 N K d C := by
  intro N
  induction N using Nat.strongRecOn with | ind N ih => ?_
  exact ⟨cu70_0 h_34 h_35 h_40 h_43 h_52 h_54 h_66 ih, cu70_1 h_34 h_35 h_40 h_43 h_52 h_54 h_66 ih⟩
set_option maxHeartbeats 20000000 in
set_option maxRecDepth 100000 in
theorem cm70 {K d C : Nat} (h_34 : cT34 K d C) (h_35 : cT35 K d C) (h_40 : cT40 K d C) (h_43 : cT43 K d C) (h_52 : cT52 K d C) (h_54 : cT54 K d C) (h_66 : cT66 K d C) : cT70 K (d + 1) C := by
  intro s t x1 hE hx1
  have hC : C = 99 ∨ C = 115 := hE.1
  refine pcr_of (M := tb_M70) rfl ?_
  show pr K K d tb_M70 0 [(0, .ref 131), (1, vi x1)] [] s _
  rw [cG_70]
  unfold cM70
  refine pr_n (pc2 := 1) (lv2 := [(0, .ref 131), (1, vi x1)]) (st2 := [.ref 131]) 1 (fun _ _ => rfl) ?_
  refine pr_get (v := .ref 137) rfl rfl rfl (by decide) (rv_ref (hE.2.1 131 0 137 rfl)) fun _ => ?_
  refine pr_s1 (args := []) (rest := []) rfl rfl rfl rfl (Nat.le_of_ble_eq_true rfl) rfl (h_40 s t  hE ) s_plc ?_
  rintro _ s1 ⟨rfl, hz1⟩ hE1
  show pr K K d tb_M70 7 [(0, .ref 131), (1, vi x1)] [vi (plc t)] s1 _
  refine pr_n (pc2 := 9) (lv2 := [(2, vi (plc t)), (0, .ref 131), (1, vi x1)]) (st2 := [.ref 131]) 2 (fun _ _ => rfl) ?_
  refine pr_gE (k2 := 131) (v := vl (t 131 7)) hE1 rfl rfl rfl (by decide) rfl rfl rfl fun h2 => ?_
  have h2 : i64 (t 131 7) := h2
  refine pr_n (pc2 := 14) (lv2 := [(3, vl (t 131 7)), (2, vi (plc t)), (0, .ref 131), (1, vi x1)]) (st2 := [.ref 131]) 2 (fun _ _ => rfl) ?_
  refine pr_gE (k2 := 131) (v := vl (t 131 8)) hE1 rfl rfl rfl (by decide) rfl rfl rfl fun h3 => ?_
  have h3 : i64 (t 131 8) := h3
  refine pr_n (pc2 := 20) (lv2 := [(5, vl (t 131 8)), (3, vl (t 131 7)), (2, vi (plc t)), (0, .ref 131), (1, vi x1)]) (st2 := [.ref 131]) 2 (fun _ _ => rfl) ?_
  refine pr_gE (k2 := 131) (v := vl (t 131 9)) hE1 rfl rfl rfl (by decide) rfl rfl rfl fun h4 => ?_
  have h4 : i64 (t 131 9) := h4
  refine pr_n (pc2 := 47) (lv2 := [(18, vi 0), (17, vi ((-1))), (16, vi ((-1))), (15, vi 0), (13, vl 0), (11, vl 0), (9, vl 0), (7, vl (t 131 9)), (5, vl (t 131 8)), (3, vl (t 131 7)), (2, vi (plc t)), (0, .ref 131), (1, vi x1)]) (st2 := [.ref 131]) 16 (fun _ _ => rfl) ?_
  refine pr_get (v := .ref 137) rfl rfl rfl (by decide) (rv_ref (hE1.2.1 131 0 137 rfl)) fun _ => ?_
  refine pr_s1 (args := []) (rest := []) rfl rfl rfl rfl (Nat.le_of_ble_eq_true rfl) rfl (h_35 s1 t  hE1 ) s_stp ?_
  rintro _ s5 ⟨rfl, _⟩ hE5
  show pr K K d tb_M70 53 [(18, vi 0), (17, vi ((-1))), (16, vi ((-1))), (15, vi 0), (13, vl 0), (11, vl 0), (9, vl 0), (7, vl (t 131 9)), (5, vl (t 131 8)), (3, vl (t 131 7)), (2, vi (plc t)), (0, .ref 131), (1, vi x1)] [] s5 _
  exact ((ca70 h_34 h_35 h_40 h_43 h_52 h_54 h_66 K).1) s5 ((stp t)) 0 ((-1)) ((-1)) 0 0 0 0 (t 131 9) (t 131 8) (t 131 7) (plc t) x1 hE5 (i32_n rfl) (i32_n rfl) (i32_n rfl) (i32_n rfl) (i64_n rfl) (i64_n rfl) (i64_n rfl) h4 h3 h2 (i32_p hz1) hx1
set_option maxHeartbeats 20000000 in
set_option maxRecDepth 100000 in
theorem cm71 {K d C : Nat} (h_34 : cT34 K d C) (h_35 : cT35 K d C) (h_40 : cT40 K d C) (h_41 : cT41 K d C) (h_43 : cT43 K d C) (h_54 : cT54 K d C) (h_57 : cT57 K d C) (h_61 : cT61 K d C) (h_62 : cT62 K d C) (h_63 : cT63 K d C) (h_64 : cT64 K d C) (h_65 : cT65 K d C) (h_72 : cT72 K d C) (h_73 : cT73 K d C) : cT71 K (d + 1) C := by
  intro s t x1 hE hx1
  have hC : C = 99 ∨ C = 115 := hE.1
  refine pcr_of (M := tb_M71) rfl ?_
  show pr K K d tb_M71 0 [(0, .ref 131), (1, vi x1)] [] s _
  rw [cG_71]
  unfold cM71
  refine pr_n (pc2 := 1) (lv2 := [(0, .ref 131), (1, vi x1)]) (st2 := [.ref 131]) 1 (fun _ _ => rfl) ?_
  refine pr_get (v := .ref 137) rfl rfl rfl (by decide) (rv_ref (hE.2.1 131 0 137 rfl)) fun _ => ?_
  refine pr_s1 (args := []) (rest := []) rfl rfl rfl rfl (Nat.le_of_ble_eq_true rfl) rfl (h_40 s t  hE ) s_plc ?_
  rintro _ s1 ⟨rfl, hz1⟩ hE1
  show pr K K d tb_M71 7 [(0, .ref 131), (1, vi x1)] [vi (plc t)] s1 _
  refine pr_n (pc2 := 9) (lv2 := [(2, vi (plc t)), (0, .ref 131), (1, vi x1)]) (st2 := [.ref 131]) 2 (fun _ _ => rfl) ?_
  refine pr_m1 (args := []) (rest := []) rfl rfl rfl rfl (Nat.le_of_ble_eq_true rfl) rfl (h_61 s1 t  hE1 ) ?_
  rintro _ z2 t2 s2 ⟨rfl, hz2⟩ hE2
  show pr K K d tb_M71 12 [(2, vi (plc t)), (0, .ref 131), (1, vi x1)] [vi z2] s2 _
  refine pr_n (pc2 := 14) (lv2 := [(3, vi z2), (2, vi (plc t)), (0, .ref 131), (1, vi x1)]) (st2 := [.ref 131]) 2 (fun _ _ => rfl) ?_
  refine pr_get (v := .ref C) rfl rfl rfl (by decide) (rv_ref (show s2.1 131 1 = ((C : Nat) : Int) from hE2.2.2.1)) fun _ => ?_
  refine pr_get (v := .ref (C + 6)) rfl rfl (TK0 hC) (by decide) (rv_ref (hE2.2.1 C 5 (C + 6) (rcK hC (by omega)))) fun _ => ?_
  refine pr_n (pc2 := 21) (lv2 := [(3, vi z2), (2, vi (plc t)), (0, .ref 131), (1, vi x1)]) (st2 := [vi z2, .ref (C + 6)]) 1 (fun _ _ => rfl) ?_
  refine pr_s1 (args := [vi z2]) (rest := []) rfl rfl rfl (TK6 hC) (Nat.le_of_ble_eq_true rfl) rfl (h_62 s2 t2 z2 hE2 hz2) s_nkd ?_
  rintro _ s3 ⟨rfl, hz3⟩ hE3
  show pr K K d tb_M71 24 [(3, vi z2), (2, vi (plc t)), (0, .ref 131), (1, vi x1)] [vi (nkd t2 z2)] s3 _
  refine pr_n (pc2 := 29) (lv2 := [(4, vi (nkd t2 z2)), (3, vi z2), (2, vi (plc t)), (0, .ref 131), (1, vi x1)]) (st2 := [vi 5, vi (nkd t2 z2)]) 3 (fun _ _ => rfl) ?_
  by_cases h4 : nkd t2 z2 ≠ 5
  · refine mq_t h4 ?_
    refine pr_if2t rfl rfl hz3 (i32_n rfl) h4 ?_
    refine pr_n (pc2 := 62) (lv2 := [(5, vi 0), (4, vi (nkd t2 z2)), (3, vi z2), (2, vi (plc t)), (0, .ref 131), (1, vi x1)]) (st2 := [vi 6, vi (nkd t2 z2), .ref 131]) 5 (fun _ _ => rfl) ?_
    by_cases h5 : nkd t2 z2 = 6
    · refine mq_t h5 ?_
      refine pr_if2t rfl rfl hz3 (i32_n rfl) h5 ?_
      refine pr_n (pc2 := 84) (lv2 := [(5, vi 0), (4, vi (nkd t2 z2)), (3, vi z2), (2, vi (plc t)), (0, .ref 131), (1, vi x1)]) (st2 := [vi (plc t), vi 0, .ref 131]) 2 (fun _ _ => rfl) ?_
      exact pr_c1 (args := [vi 0, vi (plc t)]) (rest := []) rfl rfl rfl rfl (Nat.le_of_ble_eq_true rfl) rfl (h_41 s3 t2 0 (plc t) hE3 (by decide) hz1) chk0
    · refine mq_f h5 ?_
      refine pr_if2f rfl rfl hz3 (i32_n rfl) h5 ?_
      refine pr_n (pc2 := 67) (lv2 := [(5, vi 0), (4, vi (nkd t2 z2)), (3, vi z2), (2, vi (plc t)), (0, .ref 131), (1, vi x1)]) (st2 := [vi 0, .ref 131]) 1 (fun _ _ => rfl) ?_
      refine pr_n (pc2 := 72) (lv2 := [(5, vi 0), (4, vi (nkd t2 z2)), (3, vi z2), (2, vi (plc t)), (0, .ref 131), (1, vi x1)]) (st2 := [.ref 131, vi z2, .ref 131]) 3 (fun _ _ => rfl) ?_
      refine pr_gE (k2 := 131) (v := vi (t2 131 14)) hE3 rfl rfl rfl (by decide) rfl rfl rfl fun h7 => ?_
      have h7 : i32 (t2 131 14) := h7
      by_cases h8 : z2 < t2 131 14
      · refine mq_t h8 ?_
        refine pr_if2t rfl rfl hz2 h7 h8 ?_
        refine pr_n (pc2 := 84) (lv2 := [(5, vi 0), (4, vi (nkd t2 z2)), (3, vi z2), (2, vi (plc t)), (0, .ref 131), (1, vi x1)]) (st2 := [vi (plc t), vi 0, .ref 131]) 2 (fun _ _ => rfl) ?_
        exact pr_c1 (args := [vi 0, vi (plc t)]) (rest := []) rfl rfl rfl rfl (Nat.le_of_ble_eq_true rfl) rfl (h_41 s3 t2 0 (plc t) hE3 (by decide) hz1) chk0
      · refine mq_f h8 ?_
        refine pr_if2f rfl rfl hz2 h7 h8 ?_
        refine pr_n (pc2 := 84) (lv2 := [(5, vi 0), (4, vi (nkd t2 z2)), (3, vi z2), (2, vi (plc t)), (0, .ref 131), (1, vi x1)]) (st2 := [vi (plc t), vi 1, .ref 131]) 3 (fun _ _ => rfl) ?_
        refine pr_s1 (args := [vi 1, vi (plc t)]) (rest := []) rfl rfl rfl rfl (Nat.le_of_ble_eq_true rfl) rfl (h_41 s3 t2 1 (plc t) hE3 (by decide) hz1) chk1 ?_
        rintro _ s10 ⟨rfl, _⟩ hE10
        show pr K K d tb_M71 87 [(5, vi 0), (4, vi (nkd t2 z2)), (3, vi z2), (2, vi (plc t)), (0, .ref 131), (1, vi x1)] [] s10 _
        refine pr_n (pc2 := 88) (lv2 := [(5, vi 0), (4, vi (nkd t2 z2)), (3, vi z2), (2, vi (plc t)), (0, .ref 131), (1, vi x1)]) (st2 := [.ref 131]) 1 (fun _ _ => rfl) ?_
        refine pr_get (v := .ref 137) rfl rfl rfl (by decide) (rv_ref (hE10.2.1 131 0 137 rfl)) fun _ => ?_
        refine pr_s1 (args := []) (rest := []) rfl rfl rfl rfl (Nat.le_of_ble_eq_true rfl) rfl (h_35 s10 t2  hE10 ) s_stp ?_
        rintro _ s11 ⟨rfl, _⟩ hE11
        show pr K K d tb_M71 94 [(5, vi 0), (4, vi (nkd t2 z2)), (3, vi z2), (2, vi (plc t)), (0, .ref 131), (1, vi x1)] [] s11 _
        refine pr_n (pc2 := 95) (lv2 := [(5, vi 0), (4, vi (nkd t2 z2)), (3, vi z2), (2, vi (plc t)), (0, .ref 131), (1, vi x1)]) (st2 := [.ref 131]) 1 (fun _ _ => rfl) ?_
        refine pr_get (v := .ref 137) rfl rfl rfl (by decide) (rv_ref (hE11.2.1 131 0 137 rfl)) fun _ => ?_
        refine pr_s1 (args := []) (rest := []) rfl rfl rfl rfl (Nat.le_of_ble_eq_true rfl) rfl (h_34 s11 ((stp t2))  hE11 ) s_kkd ?_
        rintro _ s12 ⟨rfl, hz12⟩ hE12
        show pr K K d tb_M71 101 [(5, vi 0), (4, vi (nkd t2 z2)), (3, vi z2), (2, vi (plc t)), (0, .ref 131), (1, vi x1)] [vi (kkd ((stp t2)))] s12 _
        by_cases h13 : kkd ((stp t2)) = 33
        · refine mq_t h13 ?_
          refine pr_lsw rfl (by decide) hz12 (by rw [h13]) rfl ?_
          refine pr_n (pc2 := 215) (lv2 := [(5, vi 0), (4, vi (nkd t2 z2)), (3, vi z2), (2, vi (plc t)), (0, .ref 131), (1, vi x1)]) (st2 := [vi 2, vi (nkd t2 z2), .ref 131]) 3 (fun _ _ => rfl) ?_
          by_cases h14 : nkd t2 z2 = 2
          · refine mq_t h14 ?_
            refine pr_if2t rfl rfl hz3 (i32_n rfl) h14 ?_
            refine pr_n (pc2 := 230) (lv2 := [(5, vi 0), (4, vi (nkd t2 z2)), (3, vi z2), (2, vi (plc t)), (0, .ref 131), (1, vi x1)]) (st2 := [vi (plc t), vi 1, .ref 131]) 3 (fun _ _ => rfl) ?_
            refine pr_s1 (args := [vi 1, vi (plc t)]) (rest := []) rfl rfl rfl rfl (Nat.le_of_ble_eq_true rfl) rfl (h_41 s12 ((stp t2)) 1 (plc t) hE12 (by decide) hz1) chk1 ?_
            rintro _ s15 ⟨rfl, _⟩ hE15
            show pr K K d tb_M71 233 [(5, vi 0), (4, vi (nkd t2 z2)), (3, vi z2), (2, vi (plc t)), (0, .ref 131), (1, vi x1)] [] s15 _
            refine pr_n (pc2 := 234) (lv2 := [(5, vi 0), (4, vi (nkd t2 z2)), (3, vi z2), (2, vi (plc t)), (0, .ref 131), (1, vi x1)]) (st2 := [.ref 131]) 1 (fun _ _ => rfl) ?_
            refine pr_get (v := .ref 137) rfl rfl rfl (by decide) (rv_ref (hE15.2.1 131 0 137 rfl)) fun _ => ?_
            refine pr_s1 (args := []) (rest := []) rfl rfl rfl rfl (Nat.le_of_ble_eq_true rfl) rfl (h_35 s15 ((stp t2))  hE15 ) s_stp ?_
            rintro _ s16 ⟨rfl, _⟩ hE16
            show pr K K d tb_M71 240 [(5, vi 0), (4, vi (nkd t2 z2)), (3, vi z2), (2, vi (plc t)), (0, .ref 131), (1, vi x1)] [] s16 _
            refine pr_n (pc2 := 242) (lv2 := [(5, vi 0), (4, vi (nkd t2 z2)), (3, vi z2), (2, vi (plc t)), (0, .ref 131), (1, vi x1)]) (st2 := [vi x1, .ref 131]) 2 (fun _ _ => rfl) ?_
            refine pr_m1 (args := [vi x1]) (rest := []) rfl rfl rfl rfl (Nat.le_of_ble_eq_true rfl) rfl (h_57 s16 ((stp ((stp t2)))) x1 hE16 hx1) ?_
            rintro _ z17 t17 s17 ⟨rfl, hz17⟩ hE17
            show pr K K d tb_M71 245 [(5, vi 0), (4, vi (nkd t2 z2)), (3, vi z2), (2, vi (plc t)), (0, .ref 131), (1, vi x1)] [vi z17] s17 _
            refine pr_n (pc2 := 250) (lv2 := [(9, vi z17), (5, vi 0), (4, vi (nkd t2 z2)), (3, vi z2), (2, vi (plc t)), (0, .ref 131), (1, vi x1)]) (st2 := [vi 59, .ref 131]) 3 (fun _ _ => rfl) ?_
            refine pr_m1 (args := [vi 59]) (rest := []) rfl rfl rfl rfl (Nat.le_of_ble_eq_true rfl) rfl (h_43 s17 t17 59 hE17 (i32_n rfl)) ?_
            rintro _ _ t18 s18 ⟨rfl, rfl⟩ hE18
            show pr K K d tb_M71 253 [(9, vi z17), (5, vi 0), (4, vi (nkd t2 z2)), (3, vi z2), (2, vi (plc t)), (0, .ref 131), (1, vi x1)] [] s18 _
            refine pr_n (pc2 := 255) (lv2 := [(9, vi z17), (5, vi 0), (4, vi (nkd t2 z2)), (3, vi z2), (2, vi (plc t)), (0, .ref 131), (1, vi x1)]) (st2 := [.ref 131, .ref 131]) 2 (fun _ _ => rfl) ?_
            refine pr_gE (k2 := 131) (v := vl (t18 131 9)) hE18 rfl rfl rfl (by decide) rfl rfl rfl fun h19 => ?_
            have h19 : i64 (t18 131 9) := h19
            refine pr_n (pc2 := 261) (lv2 := [(9, vi z17), (5, vi 0), (4, vi (nkd t2 z2)), (3, vi z2), (2, vi (plc t)), (0, .ref 131), (1, vi x1)]) (st2 := [vi z2, .ref 131, vl 1, vl (t18 131 9), .ref 131]) 3 (fun _ _ => rfl) ?_
            refine pr_s1 (args := [vi z2]) (rest := [vl 1, vl (t18 131 9), .ref 131]) rfl rfl rfl rfl (Nat.le_of_ble_eq_true rfl) rfl (h_73 s18 t18 z2 hE18 hz2) s_lin ?_
            rintro _ s20 ⟨rfl, hz20⟩ hE20
            show pr K K d tb_M71 264 [(9, vi z17), (5, vi 0), (4, vi (nkd t2 z2)), (3, vi z2), (2, vi (plc t)), (0, .ref 131), (1, vi x1)] [vi (lin t18 z2), vl 1, vl (t18 131 9), .ref 131] s20 _
            refine pr_lshl (a := 1) (b := lin t18 z2) rfl ?_
            refine pr_l2 (a := t18 131 9) (b := lsl 1 (lin t18 z2)) rfl rfl ?_
            show pr K K d tb_M71 266 [(9, vi z17), (5, vi 0), (4, vi (nkd t2 z2)), (3, vi z2), (2, vi (plc t)), (0, .ref 131), (1, vi x1)] [vl (lo (t18 131 9) (lsl 1 (lin t18 z2))), .ref 131] s20 _
            refine pr_pE (k2 := 131) (z := lo (t18 131 9) (lsl 1 (lin t18 z2))) hE20 rfl rfl rfl rfl (by decide) rfl (by decide) rfl (i64_in _) (fit_l _) rfl rfl rfl (fun e => absurd e.2 (by decide)) (iv_c (by decide)) fun s21 hE21 => ?_
            refine pr_n (pc2 := 270) (lv2 := [(9, vi z17), (5, vi 0), (4, vi (nkd t2 z2)), (3, vi z2), (2, vi (plc t)), (0, .ref 131), (1, vi x1)]) (st2 := [.ref 131]) 1 (fun _ _ => rfl) ?_
            refine pr_get (v := .ref C) rfl rfl rfl (by decide) (rv_ref (show s21.1 131 1 = ((C : Nat) : Int) from hE21.2.2.1)) fun _ => ?_
            refine pr_n (pc2 := 278) (lv2 := [(9, vi z17), (5, vi 0), (4, vi (nkd t2 z2)), (3, vi z2), (2, vi (plc t)), (0, .ref 131), (1, vi x1)]) (st2 := [vi z2, .ref 131, vi 406, .ref C]) 3 (fun _ _ => rfl) ?_
            refine pr_s1 (args := [vi z2]) (rest := [vi 406, .ref C]) rfl rfl rfl rfl (Nat.le_of_ble_eq_true rfl) rfl (h_73 s21 (up2 t18 131 9 (lo (t18 131 9) (lsl 1 (lin t18 z2)))) z2 hE21 hz2) s_lin ?_
            rintro _ s22 ⟨rfl, hz22⟩ hE22
            show pr K K d tb_M71 281 [(9, vi z17), (5, vi 0), (4, vi (nkd t2 z2)), (3, vi z2), (2, vi (plc t)), (0, .ref 131), (1, vi x1)] [vi (lin (up2 t18 131 9 (lo (t18 131 9) (lsl 1 (lin t18 z2)))) z2), vi 406, .ref C] s22 _
            refine pr_n (pc2 := 284) (lv2 := [(9, vi z17), (5, vi 0), (4, vi (nkd t2 z2)), (3, vi z2), (2, vi (plc t)), (0, .ref 131), (1, vi x1)]) (st2 := [vi ((-1)), vi z17, vi (lin (up2 t18 131 9 (lo (t18 131 9) (lsl 1 (lin t18 z2)))) z2), vi 406, .ref C]) 2 (fun _ _ => rfl) ?_
            refine pr_s1 (args := [vi 406, vi (lin (up2 t18 131 9 (lo (t18 131 9) (lsl 1 (lin t18 z2)))) z2), vi z17, vi ((-1))]) (rest := []) rfl rfl rfl (TK0 hC) (Nat.le_of_ble_eq_true rfl) rfl (h_54 s22 (up2 t18 131 9 (lo (t18 131 9) (lsl 1 (lin t18 z2)))) 406 (lin (up2 t18 131 9 (lo (t18 131 9) (lsl 1 (lin t18 z2)))) z2) z17 ((-1)) hE22 (i32_n rfl) hz22 hz17 (i32_n rfl)) s_cad ?_
            rintro _ s23 ⟨rfl, hz23⟩ hE23
            show pr K K d tb_M71 287 [(9, vi z17), (5, vi 0), (4, vi (nkd t2 z2)), (3, vi z2), (2, vi (plc t)), (0, .ref 131), (1, vi x1)] [vi (cadz (up2 t18 131 9 (lo (t18 131 9) (lsl 1 (lin t18 z2)))))] s23 _
            refine pr_reti rfl rfl ?_
            exact .inl ⟨_, cadz (up2 t18 131 9 (lo (t18 131 9) (lsl 1 (lin t18 z2)))), _, rfl, ⟨rfl, hz23⟩, rfl, hE23⟩
          · refine mq_f h14 ?_
            refine pr_if2f rfl rfl hz3 (i32_n rfl) h14 ?_
            refine pr_n (pc2 := 221) (lv2 := [(5, vi 0), (4, vi (nkd t2 z2)), (3, vi z2), (2, vi (plc t)), (0, .ref 131), (1, vi x1)]) (st2 := [vi 4, vi (nkd t2 z2), .ref 131]) 2 (fun _ _ => rfl) ?_
            by_cases h24 : nkd t2 z2 ≠ 4
            · refine mq_t h24 ?_
              refine pr_if2t rfl rfl hz3 (i32_n rfl) h24 ?_
              refine pr_n (pc2 := 230) (lv2 := [(5, vi 0), (4, vi (nkd t2 z2)), (3, vi z2), (2, vi (plc t)), (0, .ref 131), (1, vi x1)]) (st2 := [vi (plc t), vi 0, .ref 131]) 2 (fun _ _ => rfl) ?_
              exact pr_c1 (args := [vi 0, vi (plc t)]) (rest := []) rfl rfl rfl rfl (Nat.le_of_ble_eq_true rfl) rfl (h_41 s12 ((stp t2)) 0 (plc t) hE12 (by decide) hz1) chk0
            · refine mq_f h24 ?_
              refine pr_if2f rfl rfl hz3 (i32_n rfl) h24 ?_
              refine pr_n (pc2 := 230) (lv2 := [(5, vi 0), (4, vi (nkd t2 z2)), (3, vi z2), (2, vi (plc t)), (0, .ref 131), (1, vi x1)]) (st2 := [vi (plc t), vi 1, .ref 131]) 3 (fun _ _ => rfl) ?_
              refine pr_s1 (args := [vi 1, vi (plc t)]) (rest := []) rfl rfl rfl rfl (Nat.le_of_ble_eq_true rfl) rfl (h_41 s12 ((stp t2)) 1 (plc t) hE12 (by decide) hz1) chk1 ?_
              rintro _ s26 ⟨rfl, _⟩ hE26
              show pr K K d tb_M71 233 [(5, vi 0), (4, vi (nkd t2 z2)), (3, vi z2), (2, vi (plc t)), (0, .ref 131), (1, vi x1)] [] s26 _
              refine pr_n (pc2 := 234) (lv2 := [(5, vi 0), (4, vi (nkd t2 z2)), (3, vi z2), (2, vi (plc t)), (0, .ref 131), (1, vi x1)]) (st2 := [.ref 131]) 1 (fun _ _ => rfl) ?_
              refine pr_get (v := .ref 137) rfl rfl rfl (by decide) (rv_ref (hE26.2.1 131 0 137 rfl)) fun _ => ?_
              refine pr_s1 (args := []) (rest := []) rfl rfl rfl rfl (Nat.le_of_ble_eq_true rfl) rfl (h_35 s26 ((stp t2))  hE26 ) s_stp ?_
              rintro _ s27 ⟨rfl, _⟩ hE27
              show pr K K d tb_M71 240 [(5, vi 0), (4, vi (nkd t2 z2)), (3, vi z2), (2, vi (plc t)), (0, .ref 131), (1, vi x1)] [] s27 _
              refine pr_n (pc2 := 242) (lv2 := [(5, vi 0), (4, vi (nkd t2 z2)), (3, vi z2), (2, vi (plc t)), (0, .ref 131), (1, vi x1)]) (st2 := [vi x1, .ref 131]) 2 (fun _ _ => rfl) ?_
              refine pr_m1 (args := [vi x1]) (rest := []) rfl rfl rfl rfl (Nat.le_of_ble_eq_true rfl) rfl (h_57 s27 ((stp ((stp t2)))) x1 hE27 hx1) ?_
              rintro _ z28 t28 s28 ⟨rfl, hz28⟩ hE28
              show pr K K d tb_M71 245 [(5, vi 0), (4, vi (nkd t2 z2)), (3, vi z2), (2, vi (plc t)), (0, .ref 131), (1, vi x1)] [vi z28] s28 _
              refine pr_n (pc2 := 250) (lv2 := [(9, vi z28), (5, vi 0), (4, vi (nkd t2 z2)), (3, vi z2), (2, vi (plc t)), (0, .ref 131), (1, vi x1)]) (st2 := [vi 59, .ref 131]) 3 (fun _ _ => rfl) ?_
              refine pr_m1 (args := [vi 59]) (rest := []) rfl rfl rfl rfl (Nat.le_of_ble_eq_true rfl) rfl (h_43 s28 t28 59 hE28 (i32_n rfl)) ?_
              rintro _ _ t29 s29 ⟨rfl, rfl⟩ hE29
              show pr K K d tb_M71 253 [(9, vi z28), (5, vi 0), (4, vi (nkd t2 z2)), (3, vi z2), (2, vi (plc t)), (0, .ref 131), (1, vi x1)] [] s29 _
              refine pr_n (pc2 := 255) (lv2 := [(9, vi z28), (5, vi 0), (4, vi (nkd t2 z2)), (3, vi z2), (2, vi (plc t)), (0, .ref 131), (1, vi x1)]) (st2 := [.ref 131, .ref 131]) 2 (fun _ _ => rfl) ?_
              refine pr_gE (k2 := 131) (v := vl (t29 131 9)) hE29 rfl rfl rfl (by decide) rfl rfl rfl fun h30 => ?_
              have h30 : i64 (t29 131 9) := h30
              refine pr_n (pc2 := 261) (lv2 := [(9, vi z28), (5, vi 0), (4, vi (nkd t2 z2)), (3, vi z2), (2, vi (plc t)), (0, .ref 131), (1, vi x1)]) (st2 := [vi z2, .ref 131, vl 1, vl (t29 131 9), .ref 131]) 3 (fun _ _ => rfl) ?_
              refine pr_s1 (args := [vi z2]) (rest := [vl 1, vl (t29 131 9), .ref 131]) rfl rfl rfl rfl (Nat.le_of_ble_eq_true rfl) rfl (h_73 s29 t29 z2 hE29 hz2) s_lin ?_
              rintro _ s31 ⟨rfl, hz31⟩ hE31
              show pr K K d tb_M71 264 [(9, vi z28), (5, vi 0), (4, vi (nkd t2 z2)), (3, vi z2), (2, vi (plc t)), (0, .ref 131), (1, vi x1)] [vi (lin t29 z2), vl 1, vl (t29 131 9), .ref 131] s31 _
              refine pr_lshl (a := 1) (b := lin t29 z2) rfl ?_
              refine pr_l2 (a := t29 131 9) (b := lsl 1 (lin t29 z2)) rfl rfl ?_
              show pr K K d tb_M71 266 [(9, vi z28), (5, vi 0), (4, vi (nkd t2 z2)), (3, vi z2), (2, vi (plc t)), (0, .ref 131), (1, vi x1)] [vl (lo (t29 131 9) (lsl 1 (lin t29 z2))), .ref 131] s31 _
              refine pr_pE (k2 := 131) (z := lo (t29 131 9) (lsl 1 (lin t29 z2))) hE31 rfl rfl rfl rfl (by decide) rfl (by decide) rfl (i64_in _) (fit_l _) rfl rfl rfl (fun e => absurd e.2 (by decide)) (iv_c (by decide)) fun s32 hE32 => ?_
              refine pr_n (pc2 := 270) (lv2 := [(9, vi z28), (5, vi 0), (4, vi (nkd t2 z2)), (3, vi z2), (2, vi (plc t)), (0, .ref 131), (1, vi x1)]) (st2 := [.ref 131]) 1 (fun _ _ => rfl) ?_
              refine pr_get (v := .ref C) rfl rfl rfl (by decide) (rv_ref (show s32.1 131 1 = ((C : Nat) : Int) from hE32.2.2.1)) fun _ => ?_
              refine pr_n (pc2 := 278) (lv2 := [(9, vi z28), (5, vi 0), (4, vi (nkd t2 z2)), (3, vi z2), (2, vi (plc t)), (0, .ref 131), (1, vi x1)]) (st2 := [vi z2, .ref 131, vi 406, .ref C]) 3 (fun _ _ => rfl) ?_
              refine pr_s1 (args := [vi z2]) (rest := [vi 406, .ref C]) rfl rfl rfl rfl (Nat.le_of_ble_eq_true rfl) rfl (h_73 s32 (up2 t29 131 9 (lo (t29 131 9) (lsl 1 (lin t29 z2)))) z2 hE32 hz2) s_lin ?_
              rintro _ s33 ⟨rfl, hz33⟩ hE33
              show pr K K d tb_M71 281 [(9, vi z28), (5, vi 0), (4, vi (nkd t2 z2)), (3, vi z2), (2, vi (plc t)), (0, .ref 131), (1, vi x1)] [vi (lin (up2 t29 131 9 (lo (t29 131 9) (lsl 1 (lin t29 z2)))) z2), vi 406, .ref C] s33 _
              refine pr_n (pc2 := 284) (lv2 := [(9, vi z28), (5, vi 0), (4, vi (nkd t2 z2)), (3, vi z2), (2, vi (plc t)), (0, .ref 131), (1, vi x1)]) (st2 := [vi ((-1)), vi z28, vi (lin (up2 t29 131 9 (lo (t29 131 9) (lsl 1 (lin t29 z2)))) z2), vi 406, .ref C]) 2 (fun _ _ => rfl) ?_
              refine pr_s1 (args := [vi 406, vi (lin (up2 t29 131 9 (lo (t29 131 9) (lsl 1 (lin t29 z2)))) z2), vi z28, vi ((-1))]) (rest := []) rfl rfl rfl (TK0 hC) (Nat.le_of_ble_eq_true rfl) rfl (h_54 s33 (up2 t29 131 9 (lo (t29 131 9) (lsl 1 (lin t29 z2)))) 406 (lin (up2 t29 131 9 (lo (t29 131 9) (lsl 1 (lin t29 z2)))) z2) z28 ((-1)) hE33 (i32_n rfl) hz33 hz28 (i32_n rfl)) s_cad ?_
              rintro _ s34 ⟨rfl, hz34⟩ hE34
              show pr K K d tb_M71 287 [(9, vi z28), (5, vi 0), (4, vi (nkd t2 z2)), (3, vi z2), (2, vi (plc t)), (0, .ref 131), (1, vi x1)] [vi (cadz (up2 t29 131 9 (lo (t29 131 9) (lsl 1 (lin t29 z2)))))] s34 _
              refine pr_reti rfl rfl ?_
              exact .inl ⟨_, cadz (up2 t29 131 9 (lo (t29 131 9) (lsl 1 (lin t29 z2)))), _, rfl, ⟨rfl, hz34⟩, rfl, hE34⟩
        · refine mq_f h13 ?_
          by_cases h35 : kkd ((stp t2)) = 61
          · refine mq_t h35 ?_
            refine pr_lsw rfl (by decide) hz12 (by rw [h35]) rfl ?_
            refine pr_n (pc2 := 147) (lv2 := [(5, vi 0), (4, vi (nkd t2 z2)), (3, vi z2), (2, vi (plc t)), (0, .ref 131), (1, vi x1)]) (st2 := [vi (plc t), vi z2, .ref 131]) 3 (fun _ _ => rfl) ?_
            refine pr_m1 (args := [vi z2, vi (plc t)]) (rest := []) rfl rfl rfl rfl (Nat.le_of_ble_eq_true rfl) rfl (h_72 s12 ((stp t2)) z2 (plc t) hE12 hz2 hz1) ?_
            rintro _ z36 t36 s36 ⟨rfl, hz36⟩ hE36
            show pr K K d tb_M71 150 [(5, vi 0), (4, vi (nkd t2 z2)), (3, vi z2), (2, vi (plc t)), (0, .ref 131), (1, vi x1)] [vi z36] s36 _
            refine pr_n (pc2 := 153) (lv2 := [(6, vi z36), (5, vi 0), (4, vi (nkd t2 z2)), (3, vi z2), (2, vi (plc t)), (0, .ref 131), (1, vi x1)]) (st2 := [.ref 131]) 2 (fun _ _ => rfl) ?_
            refine pr_get (v := .ref 137) rfl rfl rfl (by decide) (rv_ref (hE36.2.1 131 0 137 rfl)) fun _ => ?_
            refine pr_s1 (args := []) (rest := []) rfl rfl rfl rfl (Nat.le_of_ble_eq_true rfl) rfl (h_34 s36 t36  hE36 ) s_kkd ?_
            rintro _ s37 ⟨rfl, hz37⟩ hE37
            show pr K K d tb_M71 159 [(6, vi z36), (5, vi 0), (4, vi (nkd t2 z2)), (3, vi z2), (2, vi (plc t)), (0, .ref 131), (1, vi x1)] [vi (kkd t36)] s37 _
            refine pr_n (pc2 := 161) (lv2 := [(6, vi z36), (5, vi 0), (4, vi (nkd t2 z2)), (3, vi z2), (2, vi (plc t)), (0, .ref 131), (1, vi x1)]) (st2 := [vi 91, vi (kkd t36)]) 1 (fun _ _ => rfl) ?_
            by_cases h38 : kkd t36 ≠ 91
            · refine mq_t h38 ?_
              refine pr_if2t rfl rfl hz37 (i32_n rfl) h38 ?_
              refine pr_n (pc2 := 178) (lv2 := [(7, vi ((-1))), (6, vi z36), (5, vi 0), (4, vi (nkd t2 z2)), (3, vi z2), (2, vi (plc t)), (0, .ref 131), (1, vi x1)]) (st2 := [vi 61, .ref 131]) 4 (fun _ _ => rfl) ?_
              refine pr_m1 (args := [vi 61]) (rest := []) rfl rfl rfl rfl (Nat.le_of_ble_eq_true rfl) rfl (h_43 s37 t36 61 hE37 (i32_n rfl)) ?_
              rintro _ _ t39 s39 ⟨rfl, rfl⟩ hE39
              show pr K K d tb_M71 181 [(7, vi ((-1))), (6, vi z36), (5, vi 0), (4, vi (nkd t2 z2)), (3, vi z2), (2, vi (plc t)), (0, .ref 131), (1, vi x1)] [] s39 _
              refine pr_n (pc2 := 183) (lv2 := [(7, vi ((-1))), (6, vi z36), (5, vi 0), (4, vi (nkd t2 z2)), (3, vi z2), (2, vi (plc t)), (0, .ref 131), (1, vi x1)]) (st2 := [vi x1, .ref 131]) 2 (fun _ _ => rfl) ?_
              refine pr_m1 (args := [vi x1]) (rest := []) rfl rfl rfl rfl (Nat.le_of_ble_eq_true rfl) rfl (h_57 s39 t39 x1 hE39 hx1) ?_
              rintro _ z40 t40 s40 ⟨rfl, hz40⟩ hE40
              show pr K K d tb_M71 186 [(7, vi ((-1))), (6, vi z36), (5, vi 0), (4, vi (nkd t2 z2)), (3, vi z2), (2, vi (plc t)), (0, .ref 131), (1, vi x1)] [vi z40] s40 _
              refine pr_n (pc2 := 191) (lv2 := [(8, vi z40), (7, vi ((-1))), (6, vi z36), (5, vi 0), (4, vi (nkd t2 z2)), (3, vi z2), (2, vi (plc t)), (0, .ref 131), (1, vi x1)]) (st2 := [vi 59, .ref 131]) 3 (fun _ _ => rfl) ?_
              refine pr_m1 (args := [vi 59]) (rest := []) rfl rfl rfl rfl (Nat.le_of_ble_eq_true rfl) rfl (h_43 s40 t40 59 hE40 (i32_n rfl)) ?_
              rintro _ _ t41 s41 ⟨rfl, rfl⟩ hE41
              show pr K K d tb_M71 194 [(8, vi z40), (7, vi ((-1))), (6, vi z36), (5, vi 0), (4, vi (nkd t2 z2)), (3, vi z2), (2, vi (plc t)), (0, .ref 131), (1, vi x1)] [] s41 _
              refine pr_n (pc2 := 195) (lv2 := [(8, vi z40), (7, vi ((-1))), (6, vi z36), (5, vi 0), (4, vi (nkd t2 z2)), (3, vi z2), (2, vi (plc t)), (0, .ref 131), (1, vi x1)]) (st2 := [.ref 131]) 1 (fun _ _ => rfl) ?_
              refine pr_get (v := .ref C) rfl rfl rfl (by decide) (rv_ref (show s41.1 131 1 = ((C : Nat) : Int) from hE41.2.2.1)) fun _ => ?_
              refine pr_n (pc2 := 207) (lv2 := [(8, vi z40), (7, vi ((-1))), (6, vi z36), (5, vi 0), (4, vi (nkd t2 z2)), (3, vi z2), (2, vi (plc t)), (0, .ref 131), (1, vi x1)]) (st2 := [vi ((-1)), vi z40, vi z36, vi 405, .ref C]) 4 (fun _ _ => rfl) ?_
              refine pr_s1 (args := [vi 405, vi z36, vi z40, vi ((-1))]) (rest := []) rfl rfl rfl (TK0 hC) (Nat.le_of_ble_eq_true rfl) rfl (h_54 s41 t41 405 z36 z40 ((-1)) hE41 (i32_n rfl) hz36 hz40 (i32_n rfl)) s_cad ?_
              rintro _ s42 ⟨rfl, hz42⟩ hE42
              show pr K K d tb_M71 210 [(8, vi z40), (7, vi ((-1))), (6, vi z36), (5, vi 0), (4, vi (nkd t2 z2)), (3, vi z2), (2, vi (plc t)), (0, .ref 131), (1, vi x1)] [vi (cadz t41)] s42 _
              refine pr_reti rfl rfl ?_
              exact .inl ⟨_, cadz t41, _, rfl, ⟨rfl, hz42⟩, rfl, hE42⟩
            · refine mq_f h38 ?_
              refine pr_if2f rfl rfl hz37 (i32_n rfl) h38 ?_
              refine pr_n (pc2 := 166) (lv2 := [(6, vi z36), (5, vi 0), (4, vi (nkd t2 z2)), (3, vi z2), (2, vi (plc t)), (0, .ref 131), (1, vi x1)]) (st2 := [vi x1, .ref 131]) 2 (fun _ _ => rfl) ?_
              refine pr_m1 (args := [vi x1]) (rest := []) rfl rfl rfl rfl (Nat.le_of_ble_eq_true rfl) rfl (h_64 s37 t36 x1 hE37 hx1) ?_
              rintro _ z43 t43 s43 ⟨rfl, hz43⟩ hE43
              show pr K K d tb_M71 169 [(6, vi z36), (5, vi 0), (4, vi (nkd t2 z2)), (3, vi z2), (2, vi (plc t)), (0, .ref 131), (1, vi x1)] [vi z43] s43 _
              refine pr_n (pc2 := 178) (lv2 := [(7, vi z43), (6, vi z36), (5, vi 0), (4, vi (nkd t2 z2)), (3, vi z2), (2, vi (plc t)), (0, .ref 131), (1, vi x1)]) (st2 := [vi 61, .ref 131]) 4 (fun _ _ => rfl) ?_
              refine pr_m1 (args := [vi 61]) (rest := []) rfl rfl rfl rfl (Nat.le_of_ble_eq_true rfl) rfl (h_43 s43 t43 61 hE43 (i32_n rfl)) ?_
              rintro _ _ t44 s44 ⟨rfl, rfl⟩ hE44
              show pr K K d tb_M71 181 [(7, vi z43), (6, vi z36), (5, vi 0), (4, vi (nkd t2 z2)), (3, vi z2), (2, vi (plc t)), (0, .ref 131), (1, vi x1)] [] s44 _
              refine pr_n (pc2 := 183) (lv2 := [(7, vi z43), (6, vi z36), (5, vi 0), (4, vi (nkd t2 z2)), (3, vi z2), (2, vi (plc t)), (0, .ref 131), (1, vi x1)]) (st2 := [vi x1, .ref 131]) 2 (fun _ _ => rfl) ?_
              refine pr_m1 (args := [vi x1]) (rest := []) rfl rfl rfl rfl (Nat.le_of_ble_eq_true rfl) rfl (h_57 s44 t44 x1 hE44 hx1) ?_
              rintro _ z45 t45 s45 ⟨rfl, hz45⟩ hE45
              show pr K K d tb_M71 186 [(7, vi z43), (6, vi z36), (5, vi 0), (4, vi (nkd t2 z2)), (3, vi z2), (2, vi (plc t)), (0, .ref 131), (1, vi x1)] [vi z45] s45 _
              refine pr_n (pc2 := 191) (lv2 := [(8, vi z45), (7, vi z43), (6, vi z36), (5, vi 0), (4, vi (nkd t2 z2)), (3, vi z2), (2, vi (plc t)), (0, .ref 131), (1, vi x1)]) (st2 := [vi 59, .ref 131]) 3 (fun _ _ => rfl) ?_
              refine pr_m1 (args := [vi 59]) (rest := []) rfl rfl rfl rfl (Nat.le_of_ble_eq_true rfl) rfl (h_43 s45 t45 59 hE45 (i32_n rfl)) ?_
              rintro _ _ t46 s46 ⟨rfl, rfl⟩ hE46
              show pr K K d tb_M71 194 [(8, vi z45), (7, vi z43), (6, vi z36), (5, vi 0), (4, vi (nkd t2 z2)), (3, vi z2), (2, vi (plc t)), (0, .ref 131), (1, vi x1)] [] s46 _
              refine pr_n (pc2 := 195) (lv2 := [(8, vi z45), (7, vi z43), (6, vi z36), (5, vi 0), (4, vi (nkd t2 z2)), (3, vi z2), (2, vi (plc t)), (0, .ref 131), (1, vi x1)]) (st2 := [.ref 131]) 1 (fun _ _ => rfl) ?_
              refine pr_get (v := .ref C) rfl rfl rfl (by decide) (rv_ref (show s46.1 131 1 = ((C : Nat) : Int) from hE46.2.2.1)) fun _ => ?_
              refine pr_n (pc2 := 207) (lv2 := [(8, vi z45), (7, vi z43), (6, vi z36), (5, vi 0), (4, vi (nkd t2 z2)), (3, vi z2), (2, vi (plc t)), (0, .ref 131), (1, vi x1)]) (st2 := [vi z43, vi z45, vi z36, vi 405, .ref C]) 4 (fun _ _ => rfl) ?_
              refine pr_s1 (args := [vi 405, vi z36, vi z45, vi z43]) (rest := []) rfl rfl rfl (TK0 hC) (Nat.le_of_ble_eq_true rfl) rfl (h_54 s46 t46 405 z36 z45 z43 hE46 (i32_n rfl) hz36 hz45 hz43) s_cad ?_
              rintro _ s47 ⟨rfl, hz47⟩ hE47
              show pr K K d tb_M71 210 [(8, vi z45), (7, vi z43), (6, vi z36), (5, vi 0), (4, vi (nkd t2 z2)), (3, vi z2), (2, vi (plc t)), (0, .ref 131), (1, vi x1)] [vi (cadz t46)] s47 _
              refine pr_reti rfl rfl ?_
              exact .inl ⟨_, cadz t46, _, rfl, ⟨rfl, hz47⟩, rfl, hE47⟩
          · refine mq_f h35 ?_
            by_cases h48 : kkd ((stp t2)) = 63
            · refine mq_t h48 ?_
              refine pr_lsw rfl (by decide) hz12 (by rw [h48]) rfl ?_
              refine pr_n (pc2 := 292) (lv2 := [(5, vi 0), (4, vi (nkd t2 z2)), (3, vi z2), (2, vi (plc t)), (0, .ref 131), (1, vi x1)]) (st2 := [vi 2, vi (nkd t2 z2), .ref 131]) 3 (fun _ _ => rfl) ?_
              by_cases h49 : nkd t2 z2 = 2
              · refine mq_t h49 ?_
                refine pr_if2t rfl rfl hz3 (i32_n rfl) h49 ?_
                refine pr_n (pc2 := 307) (lv2 := [(5, vi 0), (4, vi (nkd t2 z2)), (3, vi z2), (2, vi (plc t)), (0, .ref 131), (1, vi x1)]) (st2 := [vi (plc t), vi 1, .ref 131]) 3 (fun _ _ => rfl) ?_
                refine pr_s1 (args := [vi 1, vi (plc t)]) (rest := []) rfl rfl rfl rfl (Nat.le_of_ble_eq_true rfl) rfl (h_41 s12 ((stp t2)) 1 (plc t) hE12 (by decide) hz1) chk1 ?_
                rintro _ s50 ⟨rfl, _⟩ hE50
                show pr K K d tb_M71 310 [(5, vi 0), (4, vi (nkd t2 z2)), (3, vi z2), (2, vi (plc t)), (0, .ref 131), (1, vi x1)] [] s50 _
                refine pr_n (pc2 := 311) (lv2 := [(5, vi 0), (4, vi (nkd t2 z2)), (3, vi z2), (2, vi (plc t)), (0, .ref 131), (1, vi x1)]) (st2 := [.ref 131]) 1 (fun _ _ => rfl) ?_
                refine pr_get (v := .ref 137) rfl rfl rfl (by decide) (rv_ref (hE50.2.1 131 0 137 rfl)) fun _ => ?_
                refine pr_s1 (args := []) (rest := []) rfl rfl rfl rfl (Nat.le_of_ble_eq_true rfl) rfl (h_35 s50 ((stp t2))  hE50 ) s_stp ?_
                rintro _ s51 ⟨rfl, _⟩ hE51
                show pr K K d tb_M71 317 [(5, vi 0), (4, vi (nkd t2 z2)), (3, vi z2), (2, vi (plc t)), (0, .ref 131), (1, vi x1)] [] s51 _
                refine pr_n (pc2 := 318) (lv2 := [(5, vi 0), (4, vi (nkd t2 z2)), (3, vi z2), (2, vi (plc t)), (0, .ref 131), (1, vi x1)]) (st2 := [.ref 131]) 1 (fun _ _ => rfl) ?_
                refine pr_get (v := .ref 137) rfl rfl rfl (by decide) (rv_ref (hE51.2.1 131 0 137 rfl)) fun _ => ?_
                refine pr_s1 (args := []) (rest := []) rfl rfl rfl rfl (Nat.le_of_ble_eq_true rfl) rfl (h_40 s51 ((stp ((stp t2))))  hE51 ) s_plc ?_
                rintro _ s52 ⟨rfl, hz52⟩ hE52
                show pr K K d tb_M71 324 [(5, vi 0), (4, vi (nkd t2 z2)), (3, vi z2), (2, vi (plc t)), (0, .ref 131), (1, vi x1)] [vi (plc ((stp ((stp t2)))))] s52 _
                refine pr_n (pc2 := 327) (lv2 := [(10, vi (plc ((stp ((stp t2)))))), (5, vi 0), (4, vi (nkd t2 z2)), (3, vi z2), (2, vi (plc t)), (0, .ref 131), (1, vi x1)]) (st2 := [.ref 131]) 2 (fun _ _ => rfl) ?_
                refine pr_m1 (args := []) (rest := []) rfl rfl rfl rfl (Nat.le_of_ble_eq_true rfl) rfl (h_61 s52 ((stp ((stp t2))))  hE52 ) ?_
                rintro _ z53 t53 s53 ⟨rfl, hz53⟩ hE53
                show pr K K d tb_M71 330 [(10, vi (plc ((stp ((stp t2)))))), (5, vi 0), (4, vi (nkd t2 z2)), (3, vi z2), (2, vi (plc t)), (0, .ref 131), (1, vi x1)] [vi z53] s53 _
                refine pr_n (pc2 := 333) (lv2 := [(11, vi z53), (10, vi (plc ((stp ((stp t2)))))), (5, vi 0), (4, vi (nkd t2 z2)), (3, vi z2), (2, vi (plc t)), (0, .ref 131), (1, vi x1)]) (st2 := [.ref 131]) 2 (fun _ _ => rfl) ?_
                refine pr_get (v := .ref 137) rfl rfl rfl (by decide) (rv_ref (hE53.2.1 131 0 137 rfl)) fun _ => ?_
                refine pr_s1 (args := []) (rest := []) rfl rfl rfl rfl (Nat.le_of_ble_eq_true rfl) rfl (h_35 s53 t53  hE53 ) s_stp ?_
                rintro _ s54 ⟨rfl, _⟩ hE54
                show pr K K d tb_M71 339 [(11, vi z53), (10, vi (plc ((stp ((stp t2)))))), (5, vi 0), (4, vi (nkd t2 z2)), (3, vi z2), (2, vi (plc t)), (0, .ref 131), (1, vi x1)] [] s54 _
                refine pr_n (pc2 := 344) (lv2 := [(11, vi z53), (10, vi (plc ((stp ((stp t2)))))), (5, vi 0), (4, vi (nkd t2 z2)), (3, vi z2), (2, vi (plc t)), (0, .ref 131), (1, vi x1)]) (st2 := [vi (plc ((stp ((stp t2))))), vi z53, .ref 131]) 3 (fun _ _ => rfl) ?_
                refine pr_m1 (args := [vi z53, vi (plc ((stp ((stp t2)))))]) (rest := []) rfl rfl rfl rfl (Nat.le_of_ble_eq_true rfl) rfl (h_72 s54 ((stp t53)) z53 (plc ((stp ((stp t2))))) hE54 hz53 hz52) ?_
                rintro _ z55 t55 s55 ⟨rfl, hz55⟩ hE55
                show pr K K d tb_M71 347 [(11, vi z53), (10, vi (plc ((stp ((stp t2)))))), (5, vi 0), (4, vi (nkd t2 z2)), (3, vi z2), (2, vi (plc t)), (0, .ref 131), (1, vi x1)] [vi z55] s55 _
                refine pr_n (pc2 := 350) (lv2 := [(12, vi z55), (11, vi z53), (10, vi (plc ((stp ((stp t2)))))), (5, vi 0), (4, vi (nkd t2 z2)), (3, vi z2), (2, vi (plc t)), (0, .ref 131), (1, vi x1)]) (st2 := [.ref 131]) 2 (fun _ _ => rfl) ?_
                refine pr_get (v := .ref 137) rfl rfl rfl (by decide) (rv_ref (hE55.2.1 131 0 137 rfl)) fun _ => ?_
                refine pr_s1 (args := []) (rest := []) rfl rfl rfl rfl (Nat.le_of_ble_eq_true rfl) rfl (h_34 s55 t55  hE55 ) s_kkd ?_
                rintro _ s56 ⟨rfl, hz56⟩ hE56
                show pr K K d tb_M71 356 [(12, vi z55), (11, vi z53), (10, vi (plc ((stp ((stp t2)))))), (5, vi 0), (4, vi (nkd t2 z2)), (3, vi z2), (2, vi (plc t)), (0, .ref 131), (1, vi x1)] [vi (kkd t55)] s56 _
                refine pr_n (pc2 := 358) (lv2 := [(12, vi z55), (11, vi z53), (10, vi (plc ((stp ((stp t2)))))), (5, vi 0), (4, vi (nkd t2 z2)), (3, vi z2), (2, vi (plc t)), (0, .ref 131), (1, vi x1)]) (st2 := [vi 91, vi (kkd t55)]) 1 (fun _ _ => rfl) ?_
                by_cases h57 : kkd t55 ≠ 91
                · refine mq_t h57 ?_
                  refine pr_if2t rfl rfl hz56 (i32_n rfl) h57 ?_
                  refine pr_n (pc2 := 375) (lv2 := [(13, vi ((-1))), (12, vi z55), (11, vi z53), (10, vi (plc ((stp ((stp t2)))))), (5, vi 0), (4, vi (nkd t2 z2)), (3, vi z2), (2, vi (plc t)), (0, .ref 131), (1, vi x1)]) (st2 := [vi 59, .ref 131]) 4 (fun _ _ => rfl) ?_
                  refine pr_m1 (args := [vi 59]) (rest := []) rfl rfl rfl rfl (Nat.le_of_ble_eq_true rfl) rfl (h_43 s56 t55 59 hE56 (i32_n rfl)) ?_
                  rintro _ _ t58 s58 ⟨rfl, rfl⟩ hE58
                  show pr K K d tb_M71 378 [(13, vi ((-1))), (12, vi z55), (11, vi z53), (10, vi (plc ((stp ((stp t2)))))), (5, vi 0), (4, vi (nkd t2 z2)), (3, vi z2), (2, vi (plc t)), (0, .ref 131), (1, vi x1)] [] s58 _
                  refine pr_n (pc2 := 380) (lv2 := [(13, vi ((-1))), (12, vi z55), (11, vi z53), (10, vi (plc ((stp ((stp t2)))))), (5, vi 0), (4, vi (nkd t2 z2)), (3, vi z2), (2, vi (plc t)), (0, .ref 131), (1, vi x1)]) (st2 := [.ref 131, .ref 131]) 2 (fun _ _ => rfl) ?_
                  refine pr_gE (k2 := 131) (v := vl (t58 131 9)) hE58 rfl rfl rfl (by decide) rfl rfl rfl fun h59 => ?_
                  have h59 : i64 (t58 131 9) := h59
                  refine pr_n (pc2 := 388) (lv2 := [(13, vi ((-1))), (12, vi z55), (11, vi z53), (10, vi (plc ((stp ((stp t2)))))), (5, vi 0), (4, vi (nkd t2 z2)), (3, vi z2), (2, vi (plc t)), (0, .ref 131), (1, vi x1)]) (st2 := [vi z2, .ref 131, vi 12, vl 1, vl (t58 131 9), .ref 131]) 4 (fun _ _ => rfl) ?_
                  refine pr_s1 (args := [vi z2]) (rest := [vi 12, vl 1, vl (t58 131 9), .ref 131]) rfl rfl rfl rfl (Nat.le_of_ble_eq_true rfl) rfl (h_73 s58 t58 z2 hE58 hz2) s_lin ?_
                  rintro _ s60 ⟨rfl, hz60⟩ hE60
                  show pr K K d tb_M71 391 [(13, vi ((-1))), (12, vi z55), (11, vi z53), (10, vi (plc ((stp ((stp t2)))))), (5, vi 0), (4, vi (nkd t2 z2)), (3, vi z2), (2, vi (plc t)), (0, .ref 131), (1, vi x1)] [vi (lin t58 z2), vi 12, vl 1, vl (t58 131 9), .ref 131] s60 _
                  refine pr_i2 (a := 12) (b := lin t58 z2) rfl rfl ?_
                  show pr K K d tb_M71 392 [(13, vi ((-1))), (12, vi z55), (11, vi z53), (10, vi (plc ((stp ((stp t2)))))), (5, vi 0), (4, vi (nkd t2 z2)), (3, vi z2), (2, vi (plc t)), (0, .ref 131), (1, vi x1)] [vi (ipl 12 (lin t58 z2)), vl 1, vl (t58 131 9), .ref 131] s60 _
                  have h61 : i32 (ipl 12 (lin t58 z2)) := i32_in _
                  refine pr_lshl (a := 1) (b := ipl 12 (lin t58 z2)) rfl ?_
                  refine pr_l2 (a := t58 131 9) (b := lsl 1 (ipl 12 (lin t58 z2))) rfl rfl ?_
                  show pr K K d tb_M71 394 [(13, vi ((-1))), (12, vi z55), (11, vi z53), (10, vi (plc ((stp ((stp t2)))))), (5, vi 0), (4, vi (nkd t2 z2)), (3, vi z2), (2, vi (plc t)), (0, .ref 131), (1, vi x1)] [vl (lo (t58 131 9) (lsl 1 (ipl 12 (lin t58 z2)))), .ref 131] s60 _
                  refine pr_pE (k2 := 131) (z := lo (t58 131 9) (lsl 1 (ipl 12 (lin t58 z2)))) hE60 rfl rfl rfl rfl (by decide) rfl (by decide) rfl (i64_in _) (fit_l _) rfl rfl rfl (fun e => absurd e.2 (by decide)) (iv_c (by decide)) fun s62 hE62 => ?_
                  refine pr_n (pc2 := 398) (lv2 := [(13, vi ((-1))), (12, vi z55), (11, vi z53), (10, vi (plc ((stp ((stp t2)))))), (5, vi 0), (4, vi (nkd t2 z2)), (3, vi z2), (2, vi (plc t)), (0, .ref 131), (1, vi x1)]) (st2 := [.ref 131]) 1 (fun _ _ => rfl) ?_
                  refine pr_get (v := .ref C) rfl rfl rfl (by decide) (rv_ref (show s62.1 131 1 = ((C : Nat) : Int) from hE62.2.2.1)) fun _ => ?_
                  refine pr_n (pc2 := 406) (lv2 := [(13, vi ((-1))), (12, vi z55), (11, vi z53), (10, vi (plc ((stp ((stp t2)))))), (5, vi 0), (4, vi (nkd t2 z2)), (3, vi z2), (2, vi (plc t)), (0, .ref 131), (1, vi x1)]) (st2 := [vi z2, .ref 131, vi 407, .ref C]) 3 (fun _ _ => rfl) ?_
                  refine pr_s1 (args := [vi z2]) (rest := [vi 407, .ref C]) rfl rfl rfl rfl (Nat.le_of_ble_eq_true rfl) rfl (h_73 s62 (up2 t58 131 9 (lo (t58 131 9) (lsl 1 (ipl 12 (lin t58 z2))))) z2 hE62 hz2) s_lin ?_
                  rintro _ s63 ⟨rfl, hz63⟩ hE63
                  show pr K K d tb_M71 409 [(13, vi ((-1))), (12, vi z55), (11, vi z53), (10, vi (plc ((stp ((stp t2)))))), (5, vi 0), (4, vi (nkd t2 z2)), (3, vi z2), (2, vi (plc t)), (0, .ref 131), (1, vi x1)] [vi (lin (up2 t58 131 9 (lo (t58 131 9) (lsl 1 (ipl 12 (lin t58 z2))))) z2), vi 407, .ref C] s63 _
                  refine pr_n (pc2 := 413) (lv2 := [(13, vi ((-1))), (12, vi z55), (11, vi z53), (10, vi (plc ((stp ((stp t2)))))), (5, vi 0), (4, vi (nkd t2 z2)), (3, vi z2), (2, vi (plc t)), (0, .ref 131), (1, vi x1)]) (st2 := [vi ((-1)), vi z55, vi (lin (up2 t58 131 9 (lo (t58 131 9) (lsl 1 (ipl 12 (lin t58 z2))))) z2), vi 407, .ref C]) 2 (fun _ _ => rfl) ?_
                  refine pr_s1 (args := [vi 407, vi (lin (up2 t58 131 9 (lo (t58 131 9) (lsl 1 (ipl 12 (lin t58 z2))))) z2), vi z55, vi ((-1))]) (rest := []) rfl rfl rfl (TK0 hC) (Nat.le_of_ble_eq_true rfl) rfl (h_54 s63 (up2 t58 131 9 (lo (t58 131 9) (lsl 1 (ipl 12 (lin t58 z2))))) 407 (lin (up2 t58 131 9 (lo (t58 131 9) (lsl 1 (ipl 12 (lin t58 z2))))) z2) z55 ((-1)) hE63 (i32_n rfl) hz63 hz55 (i32_n rfl)) s_cad ?_
                  rintro _ s64 ⟨rfl, hz64⟩ hE64
                  show pr K K d tb_M71 416 [(13, vi ((-1))), (12, vi z55), (11, vi z53), (10, vi (plc ((stp ((stp t2)))))), (5, vi 0), (4, vi (nkd t2 z2)), (3, vi z2), (2, vi (plc t)), (0, .ref 131), (1, vi x1)] [vi (cadz (up2 t58 131 9 (lo (t58 131 9) (lsl 1 (ipl 12 (lin t58 z2))))))] s64 _
                  refine pr_reti rfl rfl ?_
                  exact .inl ⟨_, cadz (up2 t58 131 9 (lo (t58 131 9) (lsl 1 (ipl 12 (lin t58 z2))))), _, rfl, ⟨rfl, hz64⟩, rfl, hE64⟩
                · refine mq_f h57 ?_
                  refine pr_if2f rfl rfl hz56 (i32_n rfl) h57 ?_
                  refine pr_n (pc2 := 363) (lv2 := [(12, vi z55), (11, vi z53), (10, vi (plc ((stp ((stp t2)))))), (5, vi 0), (4, vi (nkd t2 z2)), (3, vi z2), (2, vi (plc t)), (0, .ref 131), (1, vi x1)]) (st2 := [vi x1, .ref 131]) 2 (fun _ _ => rfl) ?_
                  refine pr_m1 (args := [vi x1]) (rest := []) rfl rfl rfl rfl (Nat.le_of_ble_eq_true rfl) rfl (h_64 s56 t55 x1 hE56 hx1) ?_
                  rintro _ z65 t65 s65 ⟨rfl, hz65⟩ hE65
                  show pr K K d tb_M71 366 [(12, vi z55), (11, vi z53), (10, vi (plc ((stp ((stp t2)))))), (5, vi 0), (4, vi (nkd t2 z2)), (3, vi z2), (2, vi (plc t)), (0, .ref 131), (1, vi x1)] [vi z65] s65 _
                  refine pr_n (pc2 := 375) (lv2 := [(13, vi z65), (12, vi z55), (11, vi z53), (10, vi (plc ((stp ((stp t2)))))), (5, vi 0), (4, vi (nkd t2 z2)), (3, vi z2), (2, vi (plc t)), (0, .ref 131), (1, vi x1)]) (st2 := [vi 59, .ref 131]) 4 (fun _ _ => rfl) ?_
                  refine pr_m1 (args := [vi 59]) (rest := []) rfl rfl rfl rfl (Nat.le_of_ble_eq_true rfl) rfl (h_43 s65 t65 59 hE65 (i32_n rfl)) ?_
                  rintro _ _ t66 s66 ⟨rfl, rfl⟩ hE66
                  show pr K K d tb_M71 378 [(13, vi z65), (12, vi z55), (11, vi z53), (10, vi (plc ((stp ((stp t2)))))), (5, vi 0), (4, vi (nkd t2 z2)), (3, vi z2), (2, vi (plc t)), (0, .ref 131), (1, vi x1)] [] s66 _
                  refine pr_n (pc2 := 380) (lv2 := [(13, vi z65), (12, vi z55), (11, vi z53), (10, vi (plc ((stp ((stp t2)))))), (5, vi 0), (4, vi (nkd t2 z2)), (3, vi z2), (2, vi (plc t)), (0, .ref 131), (1, vi x1)]) (st2 := [.ref 131, .ref 131]) 2 (fun _ _ => rfl) ?_
                  refine pr_gE (k2 := 131) (v := vl (t66 131 9)) hE66 rfl rfl rfl (by decide) rfl rfl rfl fun h67 => ?_
                  have h67 : i64 (t66 131 9) := h67
                  refine pr_n (pc2 := 388) (lv2 := [(13, vi z65), (12, vi z55), (11, vi z53), (10, vi (plc ((stp ((stp t2)))))), (5, vi 0), (4, vi (nkd t2 z2)), (3, vi z2), (2, vi (plc t)), (0, .ref 131), (1, vi x1)]) (st2 := [vi z2, .ref 131, vi 12, vl 1, vl (t66 131 9), .ref 131]) 4 (fun _ _ => rfl) ?_
                  refine pr_s1 (args := [vi z2]) (rest := [vi 12, vl 1, vl (t66 131 9), .ref 131]) rfl rfl rfl rfl (Nat.le_of_ble_eq_true rfl) rfl (h_73 s66 t66 z2 hE66 hz2) s_lin ?_
                  rintro _ s68 ⟨rfl, hz68⟩ hE68
                  show pr K K d tb_M71 391 [(13, vi z65), (12, vi z55), (11, vi z53), (10, vi (plc ((stp ((stp t2)))))), (5, vi 0), (4, vi (nkd t2 z2)), (3, vi z2), (2, vi (plc t)), (0, .ref 131), (1, vi x1)] [vi (lin t66 z2), vi 12, vl 1, vl (t66 131 9), .ref 131] s68 _
                  refine pr_i2 (a := 12) (b := lin t66 z2) rfl rfl ?_
                  show pr K K d tb_M71 392 [(13, vi z65), (12, vi z55), (11, vi z53), (10, vi (plc ((stp ((stp t2)))))), (5, vi 0), (4, vi (nkd t2 z2)), (3, vi z2), (2, vi (plc t)), (0, .ref 131), (1, vi x1)] [vi (ipl 12 (lin t66 z2)), vl 1, vl (t66 131 9), .ref 131] s68 _
                  have h69 : i32 (ipl 12 (lin t66 z2)) := i32_in _
                  refine pr_lshl (a := 1) (b := ipl 12 (lin t66 z2)) rfl ?_
                  refine pr_l2 (a := t66 131 9) (b := lsl 1 (ipl 12 (lin t66 z2))) rfl rfl ?_
                  show pr K K d tb_M71 394 [(13, vi z65), (12, vi z55), (11, vi z53), (10, vi (plc ((stp ((stp t2)))))), (5, vi 0), (4, vi (nkd t2 z2)), (3, vi z2), (2, vi (plc t)), (0, .ref 131), (1, vi x1)] [vl (lo (t66 131 9) (lsl 1 (ipl 12 (lin t66 z2)))), .ref 131] s68 _
                  refine pr_pE (k2 := 131) (z := lo (t66 131 9) (lsl 1 (ipl 12 (lin t66 z2)))) hE68 rfl rfl rfl rfl (by decide) rfl (by decide) rfl (i64_in _) (fit_l _) rfl rfl rfl (fun e => absurd e.2 (by decide)) (iv_c (by decide)) fun s70 hE70 => ?_
                  refine pr_n (pc2 := 398) (lv2 := [(13, vi z65), (12, vi z55), (11, vi z53), (10, vi (plc ((stp ((stp t2)))))), (5, vi 0), (4, vi (nkd t2 z2)), (3, vi z2), (2, vi (plc t)), (0, .ref 131), (1, vi x1)]) (st2 := [.ref 131]) 1 (fun _ _ => rfl) ?_
                  refine pr_get (v := .ref C) rfl rfl rfl (by decide) (rv_ref (show s70.1 131 1 = ((C : Nat) : Int) from hE70.2.2.1)) fun _ => ?_
                  refine pr_n (pc2 := 406) (lv2 := [(13, vi z65), (12, vi z55), (11, vi z53), (10, vi (plc ((stp ((stp t2)))))), (5, vi 0), (4, vi (nkd t2 z2)), (3, vi z2), (2, vi (plc t)), (0, .ref 131), (1, vi x1)]) (st2 := [vi z2, .ref 131, vi 407, .ref C]) 3 (fun _ _ => rfl) ?_
                  refine pr_s1 (args := [vi z2]) (rest := [vi 407, .ref C]) rfl rfl rfl rfl (Nat.le_of_ble_eq_true rfl) rfl (h_73 s70 (up2 t66 131 9 (lo (t66 131 9) (lsl 1 (ipl 12 (lin t66 z2))))) z2 hE70 hz2) s_lin ?_
                  rintro _ s71 ⟨rfl, hz71⟩ hE71
                  show pr K K d tb_M71 409 [(13, vi z65), (12, vi z55), (11, vi z53), (10, vi (plc ((stp ((stp t2)))))), (5, vi 0), (4, vi (nkd t2 z2)), (3, vi z2), (2, vi (plc t)), (0, .ref 131), (1, vi x1)] [vi (lin (up2 t66 131 9 (lo (t66 131 9) (lsl 1 (ipl 12 (lin t66 z2))))) z2), vi 407, .ref C] s71 _
                  refine pr_n (pc2 := 413) (lv2 := [(13, vi z65), (12, vi z55), (11, vi z53), (10, vi (plc ((stp ((stp t2)))))), (5, vi 0), (4, vi (nkd t2 z2)), (3, vi z2), (2, vi (plc t)), (0, .ref 131), (1, vi x1)]) (st2 := [vi z65, vi z55, vi (lin (up2 t66 131 9 (lo (t66 131 9) (lsl 1 (ipl 12 (lin t66 z2))))) z2), vi 407, .ref C]) 2 (fun _ _ => rfl) ?_
                  refine pr_s1 (args := [vi 407, vi (lin (up2 t66 131 9 (lo (t66 131 9) (lsl 1 (ipl 12 (lin t66 z2))))) z2), vi z55, vi z65]) (rest := []) rfl rfl rfl (TK0 hC) (Nat.le_of_ble_eq_true rfl) rfl (h_54 s71 (up2 t66 131 9 (lo (t66 131 9) (lsl 1 (ipl 12 (lin t66 z2))))) 407 (lin (up2 t66 131 9 (lo (t66 131 9) (lsl 1 (ipl 12 (lin t66 z2))))) z2) z55 z65 hE71 (i32_n rfl) hz71 hz55 hz65) s_cad ?_
                  rintro _ s72 ⟨rfl, hz72⟩ hE72
                  show pr K K d tb_M71 416 [(13, vi z65), (12, vi z55), (11, vi z53), (10, vi (plc ((stp ((stp t2)))))), (5, vi 0), (4, vi (nkd t2 z2)), (3, vi z2), (2, vi (plc t)), (0, .ref 131), (1, vi x1)] [vi (cadz (up2 t66 131 9 (lo (t66 131 9) (lsl 1 (ipl 12 (lin t66 z2))))))] s72 _
                  refine pr_reti rfl rfl ?_
                  exact .inl ⟨_, cadz (up2 t66 131 9 (lo (t66 131 9) (lsl 1 (ipl 12 (lin t66 z2))))), _, rfl, ⟨rfl, hz72⟩, rfl, hE72⟩
              · refine mq_f h49 ?_
                refine pr_if2f rfl rfl hz3 (i32_n rfl) h49 ?_
                refine pr_n (pc2 := 298) (lv2 := [(5, vi 0), (4, vi (nkd t2 z2)), (3, vi z2), (2, vi (plc t)), (0, .ref 131), (1, vi x1)]) (st2 := [vi 3, vi (nkd t2 z2), .ref 131]) 2 (fun _ _ => rfl) ?_
                by_cases h73 : nkd t2 z2 ≠ 3
                · refine mq_t h73 ?_
                  refine pr_if2t rfl rfl hz3 (i32_n rfl) h73 ?_
                  refine pr_n (pc2 := 307) (lv2 := [(5, vi 0), (4, vi (nkd t2 z2)), (3, vi z2), (2, vi (plc t)), (0, .ref 131), (1, vi x1)]) (st2 := [vi (plc t), vi 0, .ref 131]) 2 (fun _ _ => rfl) ?_
                  exact pr_c1 (args := [vi 0, vi (plc t)]) (rest := []) rfl rfl rfl rfl (Nat.le_of_ble_eq_true rfl) rfl (h_41 s12 ((stp t2)) 0 (plc t) hE12 (by decide) hz1) chk0
                · refine mq_f h73 ?_
                  refine pr_if2f rfl rfl hz3 (i32_n rfl) h73 ?_
                  refine pr_n (pc2 := 307) (lv2 := [(5, vi 0), (4, vi (nkd t2 z2)), (3, vi z2), (2, vi (plc t)), (0, .ref 131), (1, vi x1)]) (st2 := [vi (plc t), vi 1, .ref 131]) 3 (fun _ _ => rfl) ?_
                  refine pr_s1 (args := [vi 1, vi (plc t)]) (rest := []) rfl rfl rfl rfl (Nat.le_of_ble_eq_true rfl) rfl (h_41 s12 ((stp t2)) 1 (plc t) hE12 (by decide) hz1) chk1 ?_
                  rintro _ s75 ⟨rfl, _⟩ hE75
                  show pr K K d tb_M71 310 [(5, vi 0), (4, vi (nkd t2 z2)), (3, vi z2), (2, vi (plc t)), (0, .ref 131), (1, vi x1)] [] s75 _
                  refine pr_n (pc2 := 311) (lv2 := [(5, vi 0), (4, vi (nkd t2 z2)), (3, vi z2), (2, vi (plc t)), (0, .ref 131), (1, vi x1)]) (st2 := [.ref 131]) 1 (fun _ _ => rfl) ?_
                  refine pr_get (v := .ref 137) rfl rfl rfl (by decide) (rv_ref (hE75.2.1 131 0 137 rfl)) fun _ => ?_
                  refine pr_s1 (args := []) (rest := []) rfl rfl rfl rfl (Nat.le_of_ble_eq_true rfl) rfl (h_35 s75 ((stp t2))  hE75 ) s_stp ?_
                  rintro _ s76 ⟨rfl, _⟩ hE76
                  show pr K K d tb_M71 317 [(5, vi 0), (4, vi (nkd t2 z2)), (3, vi z2), (2, vi (plc t)), (0, .ref 131), (1, vi x1)] [] s76 _
                  refine pr_n (pc2 := 318) (lv2 := [(5, vi 0), (4, vi (nkd t2 z2)), (3, vi z2), (2, vi (plc t)), (0, .ref 131), (1, vi x1)]) (st2 := [.ref 131]) 1 (fun _ _ => rfl) ?_
                  refine pr_get (v := .ref 137) rfl rfl rfl (by decide) (rv_ref (hE76.2.1 131 0 137 rfl)) fun _ => ?_
                  refine pr_s1 (args := []) (rest := []) rfl rfl rfl rfl (Nat.le_of_ble_eq_true rfl) rfl (h_40 s76 ((stp ((stp t2))))  hE76 ) s_plc ?_
                  rintro _ s77 ⟨rfl, hz77⟩ hE77
                  show pr K K d tb_M71 324 [(5, vi 0), (4, vi (nkd t2 z2)), (3, vi z2), (2, vi (plc t)), (0, .ref 131), (1, vi x1)] [vi (plc ((stp ((stp t2)))))] s77 _
                  refine pr_n (pc2 := 327) (lv2 := [(10, vi (plc ((stp ((stp t2)))))), (5, vi 0), (4, vi (nkd t2 z2)), (3, vi z2), (2, vi (plc t)), (0, .ref 131), (1, vi x1)]) (st2 := [.ref 131]) 2 (fun _ _ => rfl) ?_
                  refine pr_m1 (args := []) (rest := []) rfl rfl rfl rfl (Nat.le_of_ble_eq_true rfl) rfl (h_61 s77 ((stp ((stp t2))))  hE77 ) ?_
                  rintro _ z78 t78 s78 ⟨rfl, hz78⟩ hE78
                  show pr K K d tb_M71 330 [(10, vi (plc ((stp ((stp t2)))))), (5, vi 0), (4, vi (nkd t2 z2)), (3, vi z2), (2, vi (plc t)), (0, .ref 131), (1, vi x1)] [vi z78] s78 _
                  refine pr_n (pc2 := 333) (lv2 := [(11, vi z78), (10, vi (plc ((stp ((stp t2)))))), (5, vi 0), (4, vi (nkd t2 z2)), (3, vi z2), (2, vi (plc t)), (0, .ref 131), (1, vi x1)]) (st2 := [.ref 131]) 2 (fun _ _ => rfl) ?_
                  refine pr_get (v := .ref 137) rfl rfl rfl (by decide) (rv_ref (hE78.2.1 131 0 137 rfl)) fun _ => ?_
                  refine pr_s1 (args := []) (rest := []) rfl rfl rfl rfl (Nat.le_of_ble_eq_true rfl) rfl (h_35 s78 t78  hE78 ) s_stp ?_
                  rintro _ s79 ⟨rfl, _⟩ hE79
                  show pr K K d tb_M71 339 [(11, vi z78), (10, vi (plc ((stp ((stp t2)))))), (5, vi 0), (4, vi (nkd t2 z2)), (3, vi z2), (2, vi (plc t)), (0, .ref 131), (1, vi x1)] [] s79 _
                  refine pr_n (pc2 := 344) (lv2 := [(11, vi z78), (10, vi (plc ((stp ((stp t2)))))), (5, vi 0), (4, vi (nkd t2 z2)), (3, vi z2), (2, vi (plc t)), (0, .ref 131), (1, vi x1)]) (st2 := [vi (plc ((stp ((stp t2))))), vi z78, .ref 131]) 3 (fun _ _ => rfl) ?_
                  refine pr_m1 (args := [vi z78, vi (plc ((stp ((stp t2)))))]) (rest := []) rfl rfl rfl rfl (Nat.le_of_ble_eq_true rfl) rfl (h_72 s79 ((stp t78)) z78 (plc ((stp ((stp t2))))) hE79 hz78 hz77) ?_
                  rintro _ z80 t80 s80 ⟨rfl, hz80⟩ hE80
                  show pr K K d tb_M71 347 [(11, vi z78), (10, vi (plc ((stp ((stp t2)))))), (5, vi 0), (4, vi (nkd t2 z2)), (3, vi z2), (2, vi (plc t)), (0, .ref 131), (1, vi x1)] [vi z80] s80 _
                  refine pr_n (pc2 := 350) (lv2 := [(12, vi z80), (11, vi z78), (10, vi (plc ((stp ((stp t2)))))), (5, vi 0), (4, vi (nkd t2 z2)), (3, vi z2), (2, vi (plc t)), (0, .ref 131), (1, vi x1)]) (st2 := [.ref 131]) 2 (fun _ _ => rfl) ?_
                  refine pr_get (v := .ref 137) rfl rfl rfl (by decide) (rv_ref (hE80.2.1 131 0 137 rfl)) fun _ => ?_
                  refine pr_s1 (args := []) (rest := []) rfl rfl rfl rfl (Nat.le_of_ble_eq_true rfl) rfl (h_34 s80 t80  hE80 ) s_kkd ?_
                  rintro _ s81 ⟨rfl, hz81⟩ hE81
                  show pr K K d tb_M71 356 [(12, vi z80), (11, vi z78), (10, vi (plc ((stp ((stp t2)))))), (5, vi 0), (4, vi (nkd t2 z2)), (3, vi z2), (2, vi (plc t)), (0, .ref 131), (1, vi x1)] [vi (kkd t80)] s81 _
                  refine pr_n (pc2 := 358) (lv2 := [(12, vi z80), (11, vi z78), (10, vi (plc ((stp ((stp t2)))))), (5, vi 0), (4, vi (nkd t2 z2)), (3, vi z2), (2, vi (plc t)), (0, .ref 131), (1, vi x1)]) (st2 := [vi 91, vi (kkd t80)]) 1 (fun _ _ => rfl) ?_
                  by_cases h82 : kkd t80 ≠ 91
                  · refine mq_t h82 ?_
                    refine pr_if2t rfl rfl hz81 (i32_n rfl) h82 ?_
                    refine pr_n (pc2 := 375) (lv2 := [(13, vi ((-1))), (12, vi z80), (11, vi z78), (10, vi (plc ((stp ((stp t2)))))), (5, vi 0), (4, vi (nkd t2 z2)), (3, vi z2), (2, vi (plc t)), (0, .ref 131), (1, vi x1)]) (st2 := [vi 59, .ref 131]) 4 (fun _ _ => rfl) ?_
                    refine pr_m1 (args := [vi 59]) (rest := []) rfl rfl rfl rfl (Nat.le_of_ble_eq_true rfl) rfl (h_43 s81 t80 59 hE81 (i32_n rfl)) ?_
                    rintro _ _ t83 s83 ⟨rfl, rfl⟩ hE83
                    show pr K K d tb_M71 378 [(13, vi ((-1))), (12, vi z80), (11, vi z78), (10, vi (plc ((stp ((stp t2)))))), (5, vi 0), (4, vi (nkd t2 z2)), (3, vi z2), (2, vi (plc t)), (0, .ref 131), (1, vi x1)] [] s83 _
                    refine pr_n (pc2 := 380) (lv2 := [(13, vi ((-1))), (12, vi z80), (11, vi z78), (10, vi (plc ((stp ((stp t2)))))), (5, vi 0), (4, vi (nkd t2 z2)), (3, vi z2), (2, vi (plc t)), (0, .ref 131), (1, vi x1)]) (st2 := [.ref 131, .ref 131]) 2 (fun _ _ => rfl) ?_
                    refine pr_gE (k2 := 131) (v := vl (t83 131 9)) hE83 rfl rfl rfl (by decide) rfl rfl rfl fun h84 => ?_
                    have h84 : i64 (t83 131 9) := h84
                    refine pr_n (pc2 := 388) (lv2 := [(13, vi ((-1))), (12, vi z80), (11, vi z78), (10, vi (plc ((stp ((stp t2)))))), (5, vi 0), (4, vi (nkd t2 z2)), (3, vi z2), (2, vi (plc t)), (0, .ref 131), (1, vi x1)]) (st2 := [vi z2, .ref 131, vi 12, vl 1, vl (t83 131 9), .ref 131]) 4 (fun _ _ => rfl) ?_
                    refine pr_s1 (args := [vi z2]) (rest := [vi 12, vl 1, vl (t83 131 9), .ref 131]) rfl rfl rfl rfl (Nat.le_of_ble_eq_true rfl) rfl (h_73 s83 t83 z2 hE83 hz2) s_lin ?_
                    rintro _ s85 ⟨rfl, hz85⟩ hE85
                    show pr K K d tb_M71 391 [(13, vi ((-1))), (12, vi z80), (11, vi z78), (10, vi (plc ((stp ((stp t2)))))), (5, vi 0), (4, vi (nkd t2 z2)), (3, vi z2), (2, vi (plc t)), (0, .ref 131), (1, vi x1)] [vi (lin t83 z2), vi 12, vl 1, vl (t83 131 9), .ref 131] s85 _
                    refine pr_i2 (a := 12) (b := lin t83 z2) rfl rfl ?_
                    show pr K K d tb_M71 392 [(13, vi ((-1))), (12, vi z80), (11, vi z78), (10, vi (plc ((stp ((stp t2)))))), (5, vi 0), (4, vi (nkd t2 z2)), (3, vi z2), (2, vi (plc t)), (0, .ref 131), (1, vi x1)] [vi (ipl 12 (lin t83 z2)), vl 1, vl (t83 131 9), .ref 131] s85 _
                    have h86 : i32 (ipl 12 (lin t83 z2)) := i32_in _
                    refine pr_lshl (a := 1) (b := ipl 12 (lin t83 z2)) rfl ?_
                    refine pr_l2 (a := t83 131 9) (b := lsl 1 (ipl 12 (lin t83 z2))) rfl rfl ?_
                    show pr K K d tb_M71 394 [(13, vi ((-1))), (12, vi z80), (11, vi z78), (10, vi (plc ((stp ((stp t2)))))), (5, vi 0), (4, vi (nkd t2 z2)), (3, vi z2), (2, vi (plc t)), (0, .ref 131), (1, vi x1)] [vl (lo (t83 131 9) (lsl 1 (ipl 12 (lin t83 z2)))), .ref 131] s85 _
                    refine pr_pE (k2 := 131) (z := lo (t83 131 9) (lsl 1 (ipl 12 (lin t83 z2)))) hE85 rfl rfl rfl rfl (by decide) rfl (by decide) rfl (i64_in _) (fit_l _) rfl rfl rfl (fun e => absurd e.2 (by decide)) (iv_c (by decide)) fun s87 hE87 => ?_
                    refine pr_n (pc2 := 398) (lv2 := [(13, vi ((-1))), (12, vi z80), (11, vi z78), (10, vi (plc ((stp ((stp t2)))))), (5, vi 0), (4, vi (nkd t2 z2)), (3, vi z2), (2, vi (plc t)), (0, .ref 131), (1, vi x1)]) (st2 := [.ref 131]) 1 (fun _ _ => rfl) ?_
                    refine pr_get (v := .ref C) rfl rfl rfl (by decide) (rv_ref (show s87.1 131 1 = ((C : Nat) : Int) from hE87.2.2.1)) fun _ => ?_
                    refine pr_n (pc2 := 406) (lv2 := [(13, vi ((-1))), (12, vi z80), (11, vi z78), (10, vi (plc ((stp ((stp t2)))))), (5, vi 0), (4, vi (nkd t2 z2)), (3, vi z2), (2, vi (plc t)), (0, .ref 131), (1, vi x1)]) (st2 := [vi z2, .ref 131, vi 407, .ref C]) 3 (fun _ _ => rfl) ?_
                    refine pr_s1 (args := [vi z2]) (rest := [vi 407, .ref C]) rfl rfl rfl rfl (Nat.le_of_ble_eq_true rfl) rfl (h_73 s87 (up2 t83 131 9 (lo (t83 131 9) (lsl 1 (ipl 12 (lin t83 z2))))) z2 hE87 hz2) s_lin ?_
                    rintro _ s88 ⟨rfl, hz88⟩ hE88
                    show pr K K d tb_M71 409 [(13, vi ((-1))), (12, vi z80), (11, vi z78), (10, vi (plc ((stp ((stp t2)))))), (5, vi 0), (4, vi (nkd t2 z2)), (3, vi z2), (2, vi (plc t)), (0, .ref 131), (1, vi x1)] [vi (lin (up2 t83 131 9 (lo (t83 131 9) (lsl 1 (ipl 12 (lin t83 z2))))) z2), vi 407, .ref C] s88 _
                    refine pr_n (pc2 := 413) (lv2 := [(13, vi ((-1))), (12, vi z80), (11, vi z78), (10, vi (plc ((stp ((stp t2)))))), (5, vi 0), (4, vi (nkd t2 z2)), (3, vi z2), (2, vi (plc t)), (0, .ref 131), (1, vi x1)]) (st2 := [vi ((-1)), vi z80, vi (lin (up2 t83 131 9 (lo (t83 131 9) (lsl 1 (ipl 12 (lin t83 z2))))) z2), vi 407, .ref C]) 2 (fun _ _ => rfl) ?_
                    refine pr_s1 (args := [vi 407, vi (lin (up2 t83 131 9 (lo (t83 131 9) (lsl 1 (ipl 12 (lin t83 z2))))) z2), vi z80, vi ((-1))]) (rest := []) rfl rfl rfl (TK0 hC) (Nat.le_of_ble_eq_true rfl) rfl (h_54 s88 (up2 t83 131 9 (lo (t83 131 9) (lsl 1 (ipl 12 (lin t83 z2))))) 407 (lin (up2 t83 131 9 (lo (t83 131 9) (lsl 1 (ipl 12 (lin t83 z2))))) z2) z80 ((-1)) hE88 (i32_n rfl) hz88 hz80 (i32_n rfl)) s_cad ?_
                    rintro _ s89 ⟨rfl, hz89⟩ hE89
                    show pr K K d tb_M71 416 [(13, vi ((-1))), (12, vi z80), (11, vi z78), (10, vi (plc ((stp ((stp t2)))))), (5, vi 0), (4, vi (nkd t2 z2)), (3, vi z2), (2, vi (plc t)), (0, .ref 131), (1, vi x1)] [vi (cadz (up2 t83 131 9 (lo (t83 131 9) (lsl 1 (ipl 12 (lin t83 z2))))))] s89 _
                    refine pr_reti rfl rfl ?_
                    exact .inl ⟨_, cadz (up2 t83 131 9 (lo (t83 131 9) (lsl 1 (ipl 12 (lin t83 z2))))), _, rfl, ⟨rfl, hz89⟩, rfl, hE89⟩
                  · refine mq_f h82 ?_
                    refine pr_if2f rfl rfl hz81 (i32_n rfl) h82 ?_
                    refine pr_n (pc2 := 363) (lv2 := [(12, vi z80), (11, vi z78), (10, vi (plc ((stp ((stp t2)))))), (5, vi 0), (4, vi (nkd t2 z2)), (3, vi z2), (2, vi (plc t)), (0, .ref 131), (1, vi x1)]) (st2 := [vi x1, .ref 131]) 2 (fun _ _ => rfl) ?_
                    refine pr_m1 (args := [vi x1]) (rest := []) rfl rfl rfl rfl (Nat.le_of_ble_eq_true rfl) rfl (h_64 s81 t80 x1 hE81 hx1) ?_
                    rintro _ z90 t90 s90 ⟨rfl, hz90⟩ hE90
                    show pr K K d tb_M71 366 [(12, vi z80), (11, vi z78), (10, vi (plc ((stp ((stp t2)))))), (5, vi 0), (4, vi (nkd t2 z2)), (3, vi z2), (2, vi (plc t)), (0, .ref 131), (1, vi x1)] [vi z90] s90 _
                    refine pr_n (pc2 := 375) (lv2 := [(13, vi z90), (12, vi z80), (11, vi z78), (10, vi (plc ((stp ((stp t2)))))), (5, vi 0), (4, vi (nkd t2 z2)), (3, vi z2), (2, vi (plc t)), (0, .ref 131), (1, vi x1)]) (st2 := [vi 59, .ref 131]) 4 (fun _ _ => rfl) ?_
                    refine pr_m1 (args := [vi 59]) (rest := []) rfl rfl rfl rfl (Nat.le_of_ble_eq_true rfl) rfl (h_43 s90 t90 59 hE90 (i32_n rfl)) ?_
                    rintro _ _ t91 s91 ⟨rfl, rfl⟩ hE91
                    show pr K K d tb_M71 378 [(13, vi z90), (12, vi z80), (11, vi z78), (10, vi (plc ((stp ((stp t2)))))), (5, vi 0), (4, vi (nkd t2 z2)), (3, vi z2), (2, vi (plc t)), (0, .ref 131), (1, vi x1)] [] s91 _
                    refine pr_n (pc2 := 380) (lv2 := [(13, vi z90), (12, vi z80), (11, vi z78), (10, vi (plc ((stp ((stp t2)))))), (5, vi 0), (4, vi (nkd t2 z2)), (3, vi z2), (2, vi (plc t)), (0, .ref 131), (1, vi x1)]) (st2 := [.ref 131, .ref 131]) 2 (fun _ _ => rfl) ?_
                    refine pr_gE (k2 := 131) (v := vl (t91 131 9)) hE91 rfl rfl rfl (by decide) rfl rfl rfl fun h92 => ?_
                    have h92 : i64 (t91 131 9) := h92
                    refine pr_n (pc2 := 388) (lv2 := [(13, vi z90), (12, vi z80), (11, vi z78), (10, vi (plc ((stp ((stp t2)))))), (5, vi 0), (4, vi (nkd t2 z2)), (3, vi z2), (2, vi (plc t)), (0, .ref 131), (1, vi x1)]) (st2 := [vi z2, .ref 131, vi 12, vl 1, vl (t91 131 9), .ref 131]) 4 (fun _ _ => rfl) ?_
                    refine pr_s1 (args := [vi z2]) (rest := [vi 12, vl 1, vl (t91 131 9), .ref 131]) rfl rfl rfl rfl (Nat.le_of_ble_eq_true rfl) rfl (h_73 s91 t91 z2 hE91 hz2) s_lin ?_
                    rintro _ s93 ⟨rfl, hz93⟩ hE93
                    show pr K K d tb_M71 391 [(13, vi z90), (12, vi z80), (11, vi z78), (10, vi (plc ((stp ((stp t2)))))), (5, vi 0), (4, vi (nkd t2 z2)), (3, vi z2), (2, vi (plc t)), (0, .ref 131), (1, vi x1)] [vi (lin t91 z2), vi 12, vl 1, vl (t91 131 9), .ref 131] s93 _
                    refine pr_i2 (a := 12) (b := lin t91 z2) rfl rfl ?_
                    show pr K K d tb_M71 392 [(13, vi z90), (12, vi z80), (11, vi z78), (10, vi (plc ((stp ((stp t2)))))), (5, vi 0), (4, vi (nkd t2 z2)), (3, vi z2), (2, vi (plc t)), (0, .ref 131), (1, vi x1)] [vi (ipl 12 (lin t91 z2)), vl 1, vl (t91 131 9), .ref 131] s93 _
                    have h94 : i32 (ipl 12 (lin t91 z2)) := i32_in _
                    refine pr_lshl (a := 1) (b := ipl 12 (lin t91 z2)) rfl ?_
                    refine pr_l2 (a := t91 131 9) (b := lsl 1 (ipl 12 (lin t91 z2))) rfl rfl ?_
                    show pr K K d tb_M71 394 [(13, vi z90), (12, vi z80), (11, vi z78), (10, vi (plc ((stp ((stp t2)))))), (5, vi 0), (4, vi (nkd t2 z2)), (3, vi z2), (2, vi (plc t)), (0, .ref 131), (1, vi x1)] [vl (lo (t91 131 9) (lsl 1 (ipl 12 (lin t91 z2)))), .ref 131] s93 _
                    refine pr_pE (k2 := 131) (z := lo (t91 131 9) (lsl 1 (ipl 12 (lin t91 z2)))) hE93 rfl rfl rfl rfl (by decide) rfl (by decide) rfl (i64_in _) (fit_l _) rfl rfl rfl (fun e => absurd e.2 (by decide)) (iv_c (by decide)) fun s95 hE95 => ?_
                    refine pr_n (pc2 := 398) (lv2 := [(13, vi z90), (12, vi z80), (11, vi z78), (10, vi (plc ((stp ((stp t2)))))), (5, vi 0), (4, vi (nkd t2 z2)), (3, vi z2), (2, vi (plc t)), (0, .ref 131), (1, vi x1)]) (st2 := [.ref 131]) 1 (fun _ _ => rfl) ?_
                    refine pr_get (v := .ref C) rfl rfl rfl (by decide) (rv_ref (show s95.1 131 1 = ((C : Nat) : Int) from hE95.2.2.1)) fun _ => ?_
                    refine pr_n (pc2 := 406) (lv2 := [(13, vi z90), (12, vi z80), (11, vi z78), (10, vi (plc ((stp ((stp t2)))))), (5, vi 0), (4, vi (nkd t2 z2)), (3, vi z2), (2, vi (plc t)), (0, .ref 131), (1, vi x1)]) (st2 := [vi z2, .ref 131, vi 407, .ref C]) 3 (fun _ _ => rfl) ?_
                    refine pr_s1 (args := [vi z2]) (rest := [vi 407, .ref C]) rfl rfl rfl rfl (Nat.le_of_ble_eq_true rfl) rfl (h_73 s95 (up2 t91 131 9 (lo (t91 131 9) (lsl 1 (ipl 12 (lin t91 z2))))) z2 hE95 hz2) s_lin ?_
                    rintro _ s96 ⟨rfl, hz96⟩ hE96
                    show pr K K d tb_M71 409 [(13, vi z90), (12, vi z80), (11, vi z78), (10, vi (plc ((stp ((stp t2)))))), (5, vi 0), (4, vi (nkd t2 z2)), (3, vi z2), (2, vi (plc t)), (0, .ref 131), (1, vi x1)] [vi (lin (up2 t91 131 9 (lo (t91 131 9) (lsl 1 (ipl 12 (lin t91 z2))))) z2), vi 407, .ref C] s96 _
                    refine pr_n (pc2 := 413) (lv2 := [(13, vi z90), (12, vi z80), (11, vi z78), (10, vi (plc ((stp ((stp t2)))))), (5, vi 0), (4, vi (nkd t2 z2)), (3, vi z2), (2, vi (plc t)), (0, .ref 131), (1, vi x1)]) (st2 := [vi z90, vi z80, vi (lin (up2 t91 131 9 (lo (t91 131 9) (lsl 1 (ipl 12 (lin t91 z2))))) z2), vi 407, .ref C]) 2 (fun _ _ => rfl) ?_
                    refine pr_s1 (args := [vi 407, vi (lin (up2 t91 131 9 (lo (t91 131 9) (lsl 1 (ipl 12 (lin t91 z2))))) z2), vi z80, vi z90]) (rest := []) rfl rfl rfl (TK0 hC) (Nat.le_of_ble_eq_true rfl) rfl (h_54 s96 (up2 t91 131 9 (lo (t91 131 9) (lsl 1 (ipl 12 (lin t91 z2))))) 407 (lin (up2 t91 131 9 (lo (t91 131 9) (lsl 1 (ipl 12 (lin t91 z2))))) z2) z80 z90 hE96 (i32_n rfl) hz96 hz80 hz90) s_cad ?_
                    rintro _ s97 ⟨rfl, hz97⟩ hE97
                    show pr K K d tb_M71 416 [(13, vi z90), (12, vi z80), (11, vi z78), (10, vi (plc ((stp ((stp t2)))))), (5, vi 0), (4, vi (nkd t2 z2)), (3, vi z2), (2, vi (plc t)), (0, .ref 131), (1, vi x1)] [vi (cadz (up2 t91 131 9 (lo (t91 131 9) (lsl 1 (ipl 12 (lin t91 z2))))))] s97 _
                    refine pr_reti rfl rfl ?_
                    exact .inl ⟨_, cadz (up2 t91 131 9 (lo (t91 131 9) (lsl 1 (ipl 12 (lin t91 z2))))), _, rfl, ⟨rfl, hz97⟩, rfl, hE97⟩
            · refine mq_f h48 ?_
              by_cases h98 : kkd ((stp t2)) = 91
              · refine mq_t h98 ?_
                refine pr_lsw rfl (by decide) hz12 (by rw [h98]) rfl ?_
                refine pr_n (pc2 := 147) (lv2 := [(5, vi 0), (4, vi (nkd t2 z2)), (3, vi z2), (2, vi (plc t)), (0, .ref 131), (1, vi x1)]) (st2 := [vi (plc t), vi z2, .ref 131]) 3 (fun _ _ => rfl) ?_
                refine pr_m1 (args := [vi z2, vi (plc t)]) (rest := []) rfl rfl rfl rfl (Nat.le_of_ble_eq_true rfl) rfl (h_72 s12 ((stp t2)) z2 (plc t) hE12 hz2 hz1) ?_
                rintro _ z99 t99 s99 ⟨rfl, hz99⟩ hE99
                show pr K K d tb_M71 150 [(5, vi 0), (4, vi (nkd t2 z2)), (3, vi z2), (2, vi (plc t)), (0, .ref 131), (1, vi x1)] [vi z99] s99 _
                refine pr_n (pc2 := 153) (lv2 := [(6, vi z99), (5, vi 0), (4, vi (nkd t2 z2)), (3, vi z2), (2, vi (plc t)), (0, .ref 131), (1, vi x1)]) (st2 := [.ref 131]) 2 (fun _ _ => rfl) ?_
                refine pr_get (v := .ref 137) rfl rfl rfl (by decide) (rv_ref (hE99.2.1 131 0 137 rfl)) fun _ => ?_
                refine pr_s1 (args := []) (rest := []) rfl rfl rfl rfl (Nat.le_of_ble_eq_true rfl) rfl (h_34 s99 t99  hE99 ) s_kkd ?_
                rintro _ s100 ⟨rfl, hz100⟩ hE100
                show pr K K d tb_M71 159 [(6, vi z99), (5, vi 0), (4, vi (nkd t2 z2)), (3, vi z2), (2, vi (plc t)), (0, .ref 131), (1, vi x1)] [vi (kkd t99)] s100 _
                refine pr_n (pc2 := 161) (lv2 := [(6, vi z99), (5, vi 0), (4, vi (nkd t2 z2)), (3, vi z2), (2, vi (plc t)), (0, .ref 131), (1, vi x1)]) (st2 := [vi 91, vi (kkd t99)]) 1 (fun _ _ => rfl) ?_
                by_cases h101 : kkd t99 ≠ 91
                · refine mq_t h101 ?_
                  refine pr_if2t rfl rfl hz100 (i32_n rfl) h101 ?_
                  refine pr_n (pc2 := 178) (lv2 := [(7, vi ((-1))), (6, vi z99), (5, vi 0), (4, vi (nkd t2 z2)), (3, vi z2), (2, vi (plc t)), (0, .ref 131), (1, vi x1)]) (st2 := [vi 61, .ref 131]) 4 (fun _ _ => rfl) ?_
                  refine pr_m1 (args := [vi 61]) (rest := []) rfl rfl rfl rfl (Nat.le_of_ble_eq_true rfl) rfl (h_43 s100 t99 61 hE100 (i32_n rfl)) ?_
                  rintro _ _ t102 s102 ⟨rfl, rfl⟩ hE102
                  show pr K K d tb_M71 181 [(7, vi ((-1))), (6, vi z99), (5, vi 0), (4, vi (nkd t2 z2)), (3, vi z2), (2, vi (plc t)), (0, .ref 131), (1, vi x1)] [] s102 _
                  refine pr_n (pc2 := 183) (lv2 := [(7, vi ((-1))), (6, vi z99), (5, vi 0), (4, vi (nkd t2 z2)), (3, vi z2), (2, vi (plc t)), (0, .ref 131), (1, vi x1)]) (st2 := [vi x1, .ref 131]) 2 (fun _ _ => rfl) ?_
                  refine pr_m1 (args := [vi x1]) (rest := []) rfl rfl rfl rfl (Nat.le_of_ble_eq_true rfl) rfl (h_57 s102 t102 x1 hE102 hx1) ?_
                  rintro _ z103 t103 s103 ⟨rfl, hz103⟩ hE103
                  show pr K K d tb_M71 186 [(7, vi ((-1))), (6, vi z99), (5, vi 0), (4, vi (nkd t2 z2)), (3, vi z2), (2, vi (plc t)), (0, .ref 131), (1, vi x1)] [vi z103] s103 _
                  refine pr_n (pc2 := 191) (lv2 := [(8, vi z103), (7, vi ((-1))), (6, vi z99), (5, vi 0), (4, vi (nkd t2 z2)), (3, vi z2), (2, vi (plc t)), (0, .ref 131), (1, vi x1)]) (st2 := [vi 59, .ref 131]) 3 (fun _ _ => rfl) ?_
                  refine pr_m1 (args := [vi 59]) (rest := []) rfl rfl rfl rfl (Nat.le_of_ble_eq_true rfl) rfl (h_43 s103 t103 59 hE103 (i32_n rfl)) ?_
                  rintro _ _ t104 s104 ⟨rfl, rfl⟩ hE104
                  show pr K K d tb_M71 194 [(8, vi z103), (7, vi ((-1))), (6, vi z99), (5, vi 0), (4, vi (nkd t2 z2)), (3, vi z2), (2, vi (plc t)), (0, .ref 131), (1, vi x1)] [] s104 _
                  refine pr_n (pc2 := 195) (lv2 := [(8, vi z103), (7, vi ((-1))), (6, vi z99), (5, vi 0), (4, vi (nkd t2 z2)), (3, vi z2), (2, vi (plc t)), (0, .ref 131), (1, vi x1)]) (st2 := [.ref 131]) 1 (fun _ _ => rfl) ?_
                  refine pr_get (v := .ref C) rfl rfl rfl (by decide) (rv_ref (show s104.1 131 1 = ((C : Nat) : Int) from hE104.2.2.1)) fun _ => ?_
                  refine pr_n (pc2 := 207) (lv2 := [(8, vi z103), (7, vi ((-1))), (6, vi z99), (5, vi 0), (4, vi (nkd t2 z2)), (3, vi z2), (2, vi (plc t)), (0, .ref 131), (1, vi x1)]) (st2 := [vi ((-1)), vi z103, vi z99, vi 405, .ref C]) 4 (fun _ _ => rfl) ?_
                  refine pr_s1 (args := [vi 405, vi z99, vi z103, vi ((-1))]) (rest := []) rfl rfl rfl (TK0 hC) (Nat.le_of_ble_eq_true rfl) rfl (h_54 s104 t104 405 z99 z103 ((-1)) hE104 (i32_n rfl) hz99 hz103 (i32_n rfl)) s_cad ?_
                  rintro _ s105 ⟨rfl, hz105⟩ hE105
                  show pr K K d tb_M71 210 [(8, vi z103), (7, vi ((-1))), (6, vi z99), (5, vi 0), (4, vi (nkd t2 z2)), (3, vi z2), (2, vi (plc t)), (0, .ref 131), (1, vi x1)] [vi (cadz t104)] s105 _
                  refine pr_reti rfl rfl ?_
                  exact .inl ⟨_, cadz t104, _, rfl, ⟨rfl, hz105⟩, rfl, hE105⟩
                · refine mq_f h101 ?_
                  refine pr_if2f rfl rfl hz100 (i32_n rfl) h101 ?_
                  refine pr_n (pc2 := 166) (lv2 := [(6, vi z99), (5, vi 0), (4, vi (nkd t2 z2)), (3, vi z2), (2, vi (plc t)), (0, .ref 131), (1, vi x1)]) (st2 := [vi x1, .ref 131]) 2 (fun _ _ => rfl) ?_
                  refine pr_m1 (args := [vi x1]) (rest := []) rfl rfl rfl rfl (Nat.le_of_ble_eq_true rfl) rfl (h_64 s100 t99 x1 hE100 hx1) ?_
                  rintro _ z106 t106 s106 ⟨rfl, hz106⟩ hE106
                  show pr K K d tb_M71 169 [(6, vi z99), (5, vi 0), (4, vi (nkd t2 z2)), (3, vi z2), (2, vi (plc t)), (0, .ref 131), (1, vi x1)] [vi z106] s106 _
                  refine pr_n (pc2 := 178) (lv2 := [(7, vi z106), (6, vi z99), (5, vi 0), (4, vi (nkd t2 z2)), (3, vi z2), (2, vi (plc t)), (0, .ref 131), (1, vi x1)]) (st2 := [vi 61, .ref 131]) 4 (fun _ _ => rfl) ?_
                  refine pr_m1 (args := [vi 61]) (rest := []) rfl rfl rfl rfl (Nat.le_of_ble_eq_true rfl) rfl (h_43 s106 t106 61 hE106 (i32_n rfl)) ?_
                  rintro _ _ t107 s107 ⟨rfl, rfl⟩ hE107
                  show pr K K d tb_M71 181 [(7, vi z106), (6, vi z99), (5, vi 0), (4, vi (nkd t2 z2)), (3, vi z2), (2, vi (plc t)), (0, .ref 131), (1, vi x1)] [] s107 _
                  refine pr_n (pc2 := 183) (lv2 := [(7, vi z106), (6, vi z99), (5, vi 0), (4, vi (nkd t2 z2)), (3, vi z2), (2, vi (plc t)), (0, .ref 131), (1, vi x1)]) (st2 := [vi x1, .ref 131]) 2 (fun _ _ => rfl) ?_
                  refine pr_m1 (args := [vi x1]) (rest := []) rfl rfl rfl rfl (Nat.le_of_ble_eq_true rfl) rfl (h_57 s107 t107 x1 hE107 hx1) ?_
                  rintro _ z108 t108 s108 ⟨rfl, hz108⟩ hE108
                  show pr K K d tb_M71 186 [(7, vi z106), (6, vi z99), (5, vi 0), (4, vi (nkd t2 z2)), (3, vi z2), (2, vi (plc t)), (0, .ref 131), (1, vi x1)] [vi z108] s108 _
                  refine pr_n (pc2 := 191) (lv2 := [(8, vi z108), (7, vi z106), (6, vi z99), (5, vi 0), (4, vi (nkd t2 z2)), (3, vi z2), (2, vi (plc t)), (0, .ref 131), (1, vi x1)]) (st2 := [vi 59, .ref 131]) 3 (fun _ _ => rfl) ?_
                  refine pr_m1 (args := [vi 59]) (rest := []) rfl rfl rfl rfl (Nat.le_of_ble_eq_true rfl) rfl (h_43 s108 t108 59 hE108 (i32_n rfl)) ?_
                  rintro _ _ t109 s109 ⟨rfl, rfl⟩ hE109
                  show pr K K d tb_M71 194 [(8, vi z108), (7, vi z106), (6, vi z99), (5, vi 0), (4, vi (nkd t2 z2)), (3, vi z2), (2, vi (plc t)), (0, .ref 131), (1, vi x1)] [] s109 _
                  refine pr_n (pc2 := 195) (lv2 := [(8, vi z108), (7, vi z106), (6, vi z99), (5, vi 0), (4, vi (nkd t2 z2)), (3, vi z2), (2, vi (plc t)), (0, .ref 131), (1, vi x1)]) (st2 := [.ref 131]) 1 (fun _ _ => rfl) ?_
                  refine pr_get (v := .ref C) rfl rfl rfl (by decide) (rv_ref (show s109.1 131 1 = ((C : Nat) : Int) from hE109.2.2.1)) fun _ => ?_
                  refine pr_n (pc2 := 207) (lv2 := [(8, vi z108), (7, vi z106), (6, vi z99), (5, vi 0), (4, vi (nkd t2 z2)), (3, vi z2), (2, vi (plc t)), (0, .ref 131), (1, vi x1)]) (st2 := [vi z106, vi z108, vi z99, vi 405, .ref C]) 4 (fun _ _ => rfl) ?_
                  refine pr_s1 (args := [vi 405, vi z99, vi z108, vi z106]) (rest := []) rfl rfl rfl (TK0 hC) (Nat.le_of_ble_eq_true rfl) rfl (h_54 s109 t109 405 z99 z108 z106 hE109 (i32_n rfl) hz99 hz108 hz106) s_cad ?_
                  rintro _ s110 ⟨rfl, hz110⟩ hE110
                  show pr K K d tb_M71 210 [(8, vi z108), (7, vi z106), (6, vi z99), (5, vi 0), (4, vi (nkd t2 z2)), (3, vi z2), (2, vi (plc t)), (0, .ref 131), (1, vi x1)] [vi (cadz t109)] s110 _
                  refine pr_reti rfl rfl ?_
                  exact .inl ⟨_, cadz t109, _, rfl, ⟨rfl, hz110⟩, rfl, hE110⟩
              · refine mq_f h98 ?_
                refine pr_lsw rfl (by decide) hz12 (ls_no _ ⟨by omega, by omega, by omega, by omega, trivial⟩) rfl ?_
                refine pr_n (pc2 := 419) (lv2 := [(5, vi 0), (4, vi (nkd t2 z2)), (3, vi z2), (2, vi (plc t)), (0, .ref 131), (1, vi x1)]) (st2 := [.ref 131, .ref 131]) 2 (fun _ _ => rfl) ?_
                refine pr_get (v := .ref 137) rfl rfl rfl (by decide) (rv_ref (hE12.2.1 131 0 137 rfl)) fun _ => ?_
                refine pr_s1 (args := []) (rest := [.ref 131]) rfl rfl rfl rfl (Nat.le_of_ble_eq_true rfl) rfl (h_34 s12 ((stp t2))  hE12 ) s_kkd ?_
                rintro _ s111 ⟨rfl, hz111⟩ hE111
                show pr K K d tb_M71 425 [(5, vi 0), (4, vi (nkd t2 z2)), (3, vi z2), (2, vi (plc t)), (0, .ref 131), (1, vi x1)] [vi (kkd ((stp t2))), .ref 131] s111 _
                refine pr_n (pc2 := 427) (lv2 := [(5, vi 0), (4, vi (nkd t2 z2)), (3, vi z2), (2, vi (plc t)), (0, .ref 131), (1, vi x1)]) (st2 := [vi 40, vi (kkd ((stp t2))), .ref 131]) 1 (fun _ _ => rfl) ?_
                by_cases h112 : kkd ((stp t2)) ≠ 40
                · refine pr_if2t rfl rfl hz111 (i32_n rfl) h112 ?_
                  refine pr_n (pc2 := 436) (lv2 := [(5, vi 0), (4, vi (nkd t2 z2)), (3, vi z2), (2, vi (plc t)), (0, .ref 131), (1, vi x1)]) (st2 := [.ref 131, vi 0, .ref 131]) 2 (fun _ _ => rfl) ?_
                  refine pr_get (v := .ref 137) rfl rfl rfl (by decide) (rv_ref (hE111.2.1 131 0 137 rfl)) fun _ => ?_
                  refine pr_s1 (args := []) (rest := [vi 0, .ref 131]) rfl rfl rfl rfl (Nat.le_of_ble_eq_true rfl) rfl (h_40 s111 ((stp t2))  hE111 ) s_plc ?_
                  rintro _ s113 ⟨rfl, hz113⟩ hE113
                  show pr K K d tb_M71 442 [(5, vi 0), (4, vi (nkd t2 z2)), (3, vi z2), (2, vi (plc t)), (0, .ref 131), (1, vi x1)] [vi (plc ((stp t2))), vi 0, .ref 131] s113 _
                  exact pr_c1 (args := [vi 0, vi (plc ((stp t2)))]) (rest := []) rfl rfl rfl rfl (Nat.le_of_ble_eq_true rfl) rfl (h_41 s113 ((stp t2)) 0 (plc ((stp t2))) hE113 (by decide) hz113) chk0
                · refine pr_if2f rfl rfl hz111 (i32_n rfl) h112 ?_
                  refine pr_n (pc2 := 436) (lv2 := [(5, vi 0), (4, vi (nkd t2 z2)), (3, vi z2), (2, vi (plc t)), (0, .ref 131), (1, vi x1)]) (st2 := [.ref 131, vi 1, .ref 131]) 3 (fun _ _ => rfl) ?_
                  refine pr_get (v := .ref 137) rfl rfl rfl (by decide) (rv_ref (hE111.2.1 131 0 137 rfl)) fun _ => ?_
                  refine pr_s1 (args := []) (rest := [vi 1, .ref 131]) rfl rfl rfl rfl (Nat.le_of_ble_eq_true rfl) rfl (h_40 s111 ((stp t2))  hE111 ) s_plc ?_
                  rintro _ s115 ⟨rfl, hz115⟩ hE115
                  show pr K K d tb_M71 442 [(5, vi 0), (4, vi (nkd t2 z2)), (3, vi z2), (2, vi (plc t)), (0, .ref 131), (1, vi x1)] [vi (plc ((stp t2))), vi 1, .ref 131] s115 _
                  refine pr_s1 (args := [vi 1, vi (plc ((stp t2)))]) (rest := []) rfl rfl rfl rfl (Nat.le_of_ble_eq_true rfl) rfl (h_41 s115 ((stp t2)) 1 (plc ((stp t2))) hE115 (by decide) hz115) chk1 ?_
                  rintro _ s116 ⟨rfl, _⟩ hE116
                  show pr K K d tb_M71 445 [(5, vi 0), (4, vi (nkd t2 z2)), (3, vi z2), (2, vi (plc t)), (0, .ref 131), (1, vi x1)] [] s116 _
                  refine pr_n (pc2 := 449) (lv2 := [(5, vi 0), (4, vi (nkd t2 z2)), (3, vi z2), (2, vi (plc t)), (0, .ref 131), (1, vi x1)]) (st2 := [vi 5, vi (nkd t2 z2), .ref 131]) 3 (fun _ _ => rfl) ?_
                  refine pr_if2t rfl rfl hz3 (i32_n rfl) (show nkd t2 z2 ≠ 5 by omega) ?_
                  show pr K K d tb_M71 456 [(5, vi 0), (4, vi (nkd t2 z2)), (3, vi z2), (2, vi (plc t)), (0, .ref 131), (1, vi x1)] [.ref 131] s116 _
                  refine pr_n (pc2 := 458) (lv2 := [(5, vi 0), (4, vi (nkd t2 z2)), (3, vi z2), (2, vi (plc t)), (0, .ref 131), (1, vi x1)]) (st2 := [vi (plc t), vi 0, .ref 131]) 2 (fun _ _ => rfl) ?_
                  exact pr_c1 (args := [vi 0, vi (plc t)]) (rest := []) rfl rfl rfl rfl (Nat.le_of_ble_eq_true rfl) rfl (h_41 s116 ((stp t2)) 0 (plc t) hE116 (by decide) hz1) chk0
  · refine mq_f h4 ?_
    refine pr_if2f rfl rfl hz3 (i32_n rfl) h4 ?_
    refine pr_n (pc2 := 33) (lv2 := [(4, vi (nkd t2 z2)), (3, vi z2), (2, vi (plc t)), (0, .ref 131), (1, vi x1)]) (st2 := [.ref 131]) 1 (fun _ _ => rfl) ?_
    refine pr_get (v := .ref C) rfl rfl rfl (by decide) (rv_ref (show s3.1 131 1 = ((C : Nat) : Int) from hE3.2.2.1)) fun _ => ?_
    refine pr_get (v := .ref (C + 6)) rfl rfl (TK0 hC) (by decide) (rv_ref (hE3.2.1 C 5 (C + 6) (rcK hC (by omega)))) fun _ => ?_
    refine pr_n (pc2 := 40) (lv2 := [(4, vi (nkd t2 z2)), (3, vi z2), (2, vi (plc t)), (0, .ref 131), (1, vi x1)]) (st2 := [vi z2, .ref (C + 6)]) 1 (fun _ _ => rfl) ?_
    refine pr_s1 (args := [vi z2]) (rest := []) rfl rfl rfl (TK6 hC) (Nat.le_of_ble_eq_true rfl) rfl (h_63 s3 t2 z2 hE3 hz2) s_nnm ?_
    rintro _ s118 ⟨rfl, hz118⟩ hE118
    show pr K K d tb_M71 43 [(4, vi (nkd t2 z2)), (3, vi z2), (2, vi (plc t)), (0, .ref 131), (1, vi x1)] [vi (nnm t2 z2)] s118 _
    refine pr_n (pc2 := 44) (lv2 := [(4, vi (nkd t2 z2)), (3, vi z2), (2, vi (plc t)), (0, .ref 131), (1, vi x1)]) (st2 := [.ref 131, vi (nnm t2 z2)]) 1 (fun _ _ => rfl) ?_
    refine pr_gE (k2 := 131) (v := vi (t2 131 13)) hE118 rfl rfl rfl (by decide) rfl rfl rfl fun h119 => ?_
    have h119 : i32 (t2 131 13) := h119
    by_cases h120 : nnm t2 z2 ≠ t2 131 13
    · refine mq_t h120 ?_
      refine pr_if2t rfl rfl hz118 h119 h120 ?_
      refine pr_n (pc2 := 62) (lv2 := [(5, vi 0), (4, vi (nkd t2 z2)), (3, vi z2), (2, vi (plc t)), (0, .ref 131), (1, vi x1)]) (st2 := [vi 6, vi (nkd t2 z2), .ref 131]) 5 (fun _ _ => rfl) ?_
      by_cases h121 : nkd t2 z2 = 6
      · refine mq_t h121 ?_
        refine pr_if2t rfl rfl hz3 (i32_n rfl) h121 ?_
        refine pr_n (pc2 := 84) (lv2 := [(5, vi 0), (4, vi (nkd t2 z2)), (3, vi z2), (2, vi (plc t)), (0, .ref 131), (1, vi x1)]) (st2 := [vi (plc t), vi 0, .ref 131]) 2 (fun _ _ => rfl) ?_
        exact pr_c1 (args := [vi 0, vi (plc t)]) (rest := []) rfl rfl rfl rfl (Nat.le_of_ble_eq_true rfl) rfl (h_41 s118 t2 0 (plc t) hE118 (by decide) hz1) chk0
      · refine mq_f h121 ?_
        refine pr_if2f rfl rfl hz3 (i32_n rfl) h121 ?_
        refine pr_n (pc2 := 67) (lv2 := [(5, vi 0), (4, vi (nkd t2 z2)), (3, vi z2), (2, vi (plc t)), (0, .ref 131), (1, vi x1)]) (st2 := [vi 0, .ref 131]) 1 (fun _ _ => rfl) ?_
        refine pr_n (pc2 := 72) (lv2 := [(5, vi 0), (4, vi (nkd t2 z2)), (3, vi z2), (2, vi (plc t)), (0, .ref 131), (1, vi x1)]) (st2 := [.ref 131, vi z2, .ref 131]) 3 (fun _ _ => rfl) ?_
        refine pr_gE (k2 := 131) (v := vi (t2 131 14)) hE118 rfl rfl rfl (by decide) rfl rfl rfl fun h123 => ?_
        have h123 : i32 (t2 131 14) := h123
        by_cases h124 : z2 < t2 131 14
        · refine mq_t h124 ?_
          refine pr_if2t rfl rfl hz2 h123 h124 ?_
          refine pr_n (pc2 := 84) (lv2 := [(5, vi 0), (4, vi (nkd t2 z2)), (3, vi z2), (2, vi (plc t)), (0, .ref 131), (1, vi x1)]) (st2 := [vi (plc t), vi 0, .ref 131]) 2 (fun _ _ => rfl) ?_
          exact pr_c1 (args := [vi 0, vi (plc t)]) (rest := []) rfl rfl rfl rfl (Nat.le_of_ble_eq_true rfl) rfl (h_41 s118 t2 0 (plc t) hE118 (by decide) hz1) chk0
        · refine mq_f h124 ?_
          refine pr_if2f rfl rfl hz2 h123 h124 ?_
          refine pr_n (pc2 := 84) (lv2 := [(5, vi 0), (4, vi (nkd t2 z2)), (3, vi z2), (2, vi (plc t)), (0, .ref 131), (1, vi x1)]) (st2 := [vi (plc t), vi 1, .ref 131]) 3 (fun _ _ => rfl) ?_
          refine pr_s1 (args := [vi 1, vi (plc t)]) (rest := []) rfl rfl rfl rfl (Nat.le_of_ble_eq_true rfl) rfl (h_41 s118 t2 1 (plc t) hE118 (by decide) hz1) chk1 ?_
          rintro _ s126 ⟨rfl, _⟩ hE126
          show pr K K d tb_M71 87 [(5, vi 0), (4, vi (nkd t2 z2)), (3, vi z2), (2, vi (plc t)), (0, .ref 131), (1, vi x1)] [] s126 _
          refine pr_n (pc2 := 88) (lv2 := [(5, vi 0), (4, vi (nkd t2 z2)), (3, vi z2), (2, vi (plc t)), (0, .ref 131), (1, vi x1)]) (st2 := [.ref 131]) 1 (fun _ _ => rfl) ?_
          refine pr_get (v := .ref 137) rfl rfl rfl (by decide) (rv_ref (hE126.2.1 131 0 137 rfl)) fun _ => ?_
          refine pr_s1 (args := []) (rest := []) rfl rfl rfl rfl (Nat.le_of_ble_eq_true rfl) rfl (h_35 s126 t2  hE126 ) s_stp ?_
          rintro _ s127 ⟨rfl, _⟩ hE127
          show pr K K d tb_M71 94 [(5, vi 0), (4, vi (nkd t2 z2)), (3, vi z2), (2, vi (plc t)), (0, .ref 131), (1, vi x1)] [] s127 _
          refine pr_n (pc2 := 95) (lv2 := [(5, vi 0), (4, vi (nkd t2 z2)), (3, vi z2), (2, vi (plc t)), (0, .ref 131), (1, vi x1)]) (st2 := [.ref 131]) 1 (fun _ _ => rfl) ?_
          refine pr_get (v := .ref 137) rfl rfl rfl (by decide) (rv_ref (hE127.2.1 131 0 137 rfl)) fun _ => ?_
          refine pr_s1 (args := []) (rest := []) rfl rfl rfl rfl (Nat.le_of_ble_eq_true rfl) rfl (h_34 s127 ((stp t2))  hE127 ) s_kkd ?_
          rintro _ s128 ⟨rfl, hz128⟩ hE128
          show pr K K d tb_M71 101 [(5, vi 0), (4, vi (nkd t2 z2)), (3, vi z2), (2, vi (plc t)), (0, .ref 131), (1, vi x1)] [vi (kkd ((stp t2)))] s128 _
          by_cases h129 : kkd ((stp t2)) = 33
          · refine mq_t h129 ?_
            refine pr_lsw rfl (by decide) hz128 (by rw [h129]) rfl ?_
            refine pr_n (pc2 := 215) (lv2 := [(5, vi 0), (4, vi (nkd t2 z2)), (3, vi z2), (2, vi (plc t)), (0, .ref 131), (1, vi x1)]) (st2 := [vi 2, vi (nkd t2 z2), .ref 131]) 3 (fun _ _ => rfl) ?_
            by_cases h130 : nkd t2 z2 = 2
            · refine mq_t h130 ?_
              refine pr_if2t rfl rfl hz3 (i32_n rfl) h130 ?_
              refine pr_n (pc2 := 230) (lv2 := [(5, vi 0), (4, vi (nkd t2 z2)), (3, vi z2), (2, vi (plc t)), (0, .ref 131), (1, vi x1)]) (st2 := [vi (plc t), vi 1, .ref 131]) 3 (fun _ _ => rfl) ?_
              refine pr_s1 (args := [vi 1, vi (plc t)]) (rest := []) rfl rfl rfl rfl (Nat.le_of_ble_eq_true rfl) rfl (h_41 s128 ((stp t2)) 1 (plc t) hE128 (by decide) hz1) chk1 ?_
              rintro _ s131 ⟨rfl, _⟩ hE131
              show pr K K d tb_M71 233 [(5, vi 0), (4, vi (nkd t2 z2)), (3, vi z2), (2, vi (plc t)), (0, .ref 131), (1, vi x1)] [] s131 _
              refine pr_n (pc2 := 234) (lv2 := [(5, vi 0), (4, vi (nkd t2 z2)), (3, vi z2), (2, vi (plc t)), (0, .ref 131), (1, vi x1)]) (st2 := [.ref 131]) 1 (fun _ _ => rfl) ?_
              refine pr_get (v := .ref 137) rfl rfl rfl (by decide) (rv_ref (hE131.2.1 131 0 137 rfl)) fun _ => ?_
              refine pr_s1 (args := []) (rest := []) rfl rfl rfl rfl (Nat.le_of_ble_eq_true rfl) rfl (h_35 s131 ((stp t2))  hE131 ) s_stp ?_
              rintro _ s132 ⟨rfl, _⟩ hE132
              show pr K K d tb_M71 240 [(5, vi 0), (4, vi (nkd t2 z2)), (3, vi z2), (2, vi (plc t)), (0, .ref 131), (1, vi x1)] [] s132 _
              refine pr_n (pc2 := 242) (lv2 := [(5, vi 0), (4, vi (nkd t2 z2)), (3, vi z2), (2, vi (plc t)), (0, .ref 131), (1, vi x1)]) (st2 := [vi x1, .ref 131]) 2 (fun _ _ => rfl) ?_
              refine pr_m1 (args := [vi x1]) (rest := []) rfl rfl rfl rfl (Nat.le_of_ble_eq_true rfl) rfl (h_57 s132 ((stp ((stp t2)))) x1 hE132 hx1) ?_
              rintro _ z133 t133 s133 ⟨rfl, hz133⟩ hE133
              show pr K K d tb_M71 245 [(5, vi 0), (4, vi (nkd t2 z2)), (3, vi z2), (2, vi (plc t)), (0, .ref 131), (1, vi x1)] [vi z133] s133 _
              refine pr_n (pc2 := 250) (lv2 := [(9, vi z133), (5, vi 0), (4, vi (nkd t2 z2)), (3, vi z2), (2, vi (plc t)), (0, .ref 131), (1, vi x1)]) (st2 := [vi 59, .ref 131]) 3 (fun _ _ => rfl) ?_
              refine pr_m1 (args := [vi 59]) (rest := []) rfl rfl rfl rfl (Nat.le_of_ble_eq_true rfl) rfl (h_43 s133 t133 59 hE133 (i32_n rfl)) ?_
              rintro _ _ t134 s134 ⟨rfl, rfl⟩ hE134
              show pr K K d tb_M71 253 [(9, vi z133), (5, vi 0), (4, vi (nkd t2 z2)), (3, vi z2), (2, vi (plc t)), (0, .ref 131), (1, vi x1)] [] s134 _
              refine pr_n (pc2 := 255) (lv2 := [(9, vi z133), (5, vi 0), (4, vi (nkd t2 z2)), (3, vi z2), (2, vi (plc t)), (0, .ref 131), (1, vi x1)]) (st2 := [.ref 131, .ref 131]) 2 (fun _ _ => rfl) ?_
              refine pr_gE (k2 := 131) (v := vl (t134 131 9)) hE134 rfl rfl rfl (by decide) rfl rfl rfl fun h135 => ?_
              have h135 : i64 (t134 131 9) := h135
              refine pr_n (pc2 := 261) (lv2 := [(9, vi z133), (5, vi 0), (4, vi (nkd t2 z2)), (3, vi z2), (2, vi (plc t)), (0, .ref 131), (1, vi x1)]) (st2 := [vi z2, .ref 131, vl 1, vl (t134 131 9), .ref 131]) 3 (fun _ _ => rfl) ?_
              refine pr_s1 (args := [vi z2]) (rest := [vl 1, vl (t134 131 9), .ref 131]) rfl rfl rfl rfl (Nat.le_of_ble_eq_true rfl) rfl (h_73 s134 t134 z2 hE134 hz2) s_lin ?_
              rintro _ s136 ⟨rfl, hz136⟩ hE136
              show pr K K d tb_M71 264 [(9, vi z133), (5, vi 0), (4, vi (nkd t2 z2)), (3, vi z2), (2, vi (plc t)), (0, .ref 131), (1, vi x1)] [vi (lin t134 z2), vl 1, vl (t134 131 9), .ref 131] s136 _
              refine pr_lshl (a := 1) (b := lin t134 z2) rfl ?_
              refine pr_l2 (a := t134 131 9) (b := lsl 1 (lin t134 z2)) rfl rfl ?_
              show pr K K d tb_M71 266 [(9, vi z133), (5, vi 0), (4, vi (nkd t2 z2)), (3, vi z2), (2, vi (plc t)), (0, .ref 131), (1, vi x1)] [vl (lo (t134 131 9) (lsl 1 (lin t134 z2))), .ref 131] s136 _
              refine pr_pE (k2 := 131) (z := lo (t134 131 9) (lsl 1 (lin t134 z2))) hE136 rfl rfl rfl rfl (by decide) rfl (by decide) rfl (i64_in _) (fit_l _) rfl rfl rfl (fun e => absurd e.2 (by decide)) (iv_c (by decide)) fun s137 hE137 => ?_
              refine pr_n (pc2 := 270) (lv2 := [(9, vi z133), (5, vi 0), (4, vi (nkd t2 z2)), (3, vi z2), (2, vi (plc t)), (0, .ref 131), (1, vi x1)]) (st2 := [.ref 131]) 1 (fun _ _ => rfl) ?_
              refine pr_get (v := .ref C) rfl rfl rfl (by decide) (rv_ref (show s137.1 131 1 = ((C : Nat) : Int) from hE137.2.2.1)) fun _ => ?_
              refine pr_n (pc2 := 278) (lv2 := [(9, vi z133), (5, vi 0), (4, vi (nkd t2 z2)), (3, vi z2), (2, vi (plc t)), (0, .ref 131), (1, vi x1)]) (st2 := [vi z2, .ref 131, vi 406, .ref C]) 3 (fun _ _ => rfl) ?_
              refine pr_s1 (args := [vi z2]) (rest := [vi 406, .ref C]) rfl rfl rfl rfl (Nat.le_of_ble_eq_true rfl) rfl (h_73 s137 (up2 t134 131 9 (lo (t134 131 9) (lsl 1 (lin t134 z2)))) z2 hE137 hz2) s_lin ?_
              rintro _ s138 ⟨rfl, hz138⟩ hE138
              show pr K K d tb_M71 281 [(9, vi z133), (5, vi 0), (4, vi (nkd t2 z2)), (3, vi z2), (2, vi (plc t)), (0, .ref 131), (1, vi x1)] [vi (lin (up2 t134 131 9 (lo (t134 131 9) (lsl 1 (lin t134 z2)))) z2), vi 406, .ref C] s138 _
              refine pr_n (pc2 := 284) (lv2 := [(9, vi z133), (5, vi 0), (4, vi (nkd t2 z2)), (3, vi z2), (2, vi (plc t)), (0, .ref 131), (1, vi x1)]) (st2 := [vi ((-1)), vi z133, vi (lin (up2 t134 131 9 (lo (t134 131 9) (lsl 1 (lin t134 z2)))) z2), vi 406, .ref C]) 2 (fun _ _ => rfl) ?_
              refine pr_s1 (args := [vi 406, vi (lin (up2 t134 131 9 (lo (t134 131 9) (lsl 1 (lin t134 z2)))) z2), vi z133, vi ((-1))]) (rest := []) rfl rfl rfl (TK0 hC) (Nat.le_of_ble_eq_true rfl) rfl (h_54 s138 (up2 t134 131 9 (lo (t134 131 9) (lsl 1 (lin t134 z2)))) 406 (lin (up2 t134 131 9 (lo (t134 131 9) (lsl 1 (lin t134 z2)))) z2) z133 ((-1)) hE138 (i32_n rfl) hz138 hz133 (i32_n rfl)) s_cad ?_
              rintro _ s139 ⟨rfl, hz139⟩ hE139
              show pr K K d tb_M71 287 [(9, vi z133), (5, vi 0), (4, vi (nkd t2 z2)), (3, vi z2), (2, vi (plc t)), (0, .ref 131), (1, vi x1)] [vi (cadz (up2 t134 131 9 (lo (t134 131 9) (lsl 1 (lin t134 z2)))))] s139 _
              refine pr_reti rfl rfl ?_
              exact .inl ⟨_, cadz (up2 t134 131 9 (lo (t134 131 9) (lsl 1 (lin t134 z2)))), _, rfl, ⟨rfl, hz139⟩, rfl, hE139⟩
            · refine mq_f h130 ?_
              refine pr_if2f rfl rfl hz3 (i32_n rfl) h130 ?_
              refine pr_n (pc2 := 221) (lv2 := [(5, vi 0), (4, vi (nkd t2 z2)), (3, vi z2), (2, vi (plc t)), (0, .ref 131), (1, vi x1)]) (st2 := [vi 4, vi (nkd t2 z2), .ref 131]) 2 (fun _ _ => rfl) ?_
              by_cases h140 : nkd t2 z2 ≠ 4
              · refine mq_t h140 ?_
                refine pr_if2t rfl rfl hz3 (i32_n rfl) h140 ?_
                refine pr_n (pc2 := 230) (lv2 := [(5, vi 0), (4, vi (nkd t2 z2)), (3, vi z2), (2, vi (plc t)), (0, .ref 131), (1, vi x1)]) (st2 := [vi (plc t), vi 0, .ref 131]) 2 (fun _ _ => rfl) ?_
                exact pr_c1 (args := [vi 0, vi (plc t)]) (rest := []) rfl rfl rfl rfl (Nat.le_of_ble_eq_true rfl) rfl (h_41 s128 ((stp t2)) 0 (plc t) hE128 (by decide) hz1) chk0
              · refine mq_f h140 ?_
                refine pr_if2f rfl rfl hz3 (i32_n rfl) h140 ?_
                refine pr_n (pc2 := 230) (lv2 := [(5, vi 0), (4, vi (nkd t2 z2)), (3, vi z2), (2, vi (plc t)), (0, .ref 131), (1, vi x1)]) (st2 := [vi (plc t), vi 1, .ref 131]) 3 (fun _ _ => rfl) ?_
                refine pr_s1 (args := [vi 1, vi (plc t)]) (rest := []) rfl rfl rfl rfl (Nat.le_of_ble_eq_true rfl) rfl (h_41 s128 ((stp t2)) 1 (plc t) hE128 (by decide) hz1) chk1 ?_
                rintro _ s142 ⟨rfl, _⟩ hE142
                show pr K K d tb_M71 233 [(5, vi 0), (4, vi (nkd t2 z2)), (3, vi z2), (2, vi (plc t)), (0, .ref 131), (1, vi x1)] [] s142 _
                refine pr_n (pc2 := 234) (lv2 := [(5, vi 0), (4, vi (nkd t2 z2)), (3, vi z2), (2, vi (plc t)), (0, .ref 131), (1, vi x1)]) (st2 := [.ref 131]) 1 (fun _ _ => rfl) ?_
                refine pr_get (v := .ref 137) rfl rfl rfl (by decide) (rv_ref (hE142.2.1 131 0 137 rfl)) fun _ => ?_
                refine pr_s1 (args := []) (rest := []) rfl rfl rfl rfl (Nat.le_of_ble_eq_true rfl) rfl (h_35 s142 ((stp t2))  hE142 ) s_stp ?_
                rintro _ s143 ⟨rfl, _⟩ hE143
                show pr K K d tb_M71 240 [(5, vi 0), (4, vi (nkd t2 z2)), (3, vi z2), (2, vi (plc t)), (0, .ref 131), (1, vi x1)] [] s143 _
                refine pr_n (pc2 := 242) (lv2 := [(5, vi 0), (4, vi (nkd t2 z2)), (3, vi z2), (2, vi (plc t)), (0, .ref 131), (1, vi x1)]) (st2 := [vi x1, .ref 131]) 2 (fun _ _ => rfl) ?_
                refine pr_m1 (args := [vi x1]) (rest := []) rfl rfl rfl rfl (Nat.le_of_ble_eq_true rfl) rfl (h_57 s143 ((stp ((stp t2)))) x1 hE143 hx1) ?_
                rintro _ z144 t144 s144 ⟨rfl, hz144⟩ hE144
                show pr K K d tb_M71 245 [(5, vi 0), (4, vi (nkd t2 z2)), (3, vi z2), (2, vi (plc t)), (0, .ref 131), (1, vi x1)] [vi z144] s144 _
                refine pr_n (pc2 := 250) (lv2 := [(9, vi z144), (5, vi 0), (4, vi (nkd t2 z2)), (3, vi z2), (2, vi (plc t)), (0, .ref 131), (1, vi x1)]) (st2 := [vi 59, .ref 131]) 3 (fun _ _ => rfl) ?_
                refine pr_m1 (args := [vi 59]) (rest := []) rfl rfl rfl rfl (Nat.le_of_ble_eq_true rfl) rfl (h_43 s144 t144 59 hE144 (i32_n rfl)) ?_
                rintro _ _ t145 s145 ⟨rfl, rfl⟩ hE145
                show pr K K d tb_M71 253 [(9, vi z144), (5, vi 0), (4, vi (nkd t2 z2)), (3, vi z2), (2, vi (plc t)), (0, .ref 131), (1, vi x1)] [] s145 _
                refine pr_n (pc2 := 255) (lv2 := [(9, vi z144), (5, vi 0), (4, vi (nkd t2 z2)), (3, vi z2), (2, vi (plc t)), (0, .ref 131), (1, vi x1)]) (st2 := [.ref 131, .ref 131]) 2 (fun _ _ => rfl) ?_
                refine pr_gE (k2 := 131) (v := vl (t145 131 9)) hE145 rfl rfl rfl (by decide) rfl rfl rfl fun h146 => ?_
                have h146 : i64 (t145 131 9) := h146
                refine pr_n (pc2 := 261) (lv2 := [(9, vi z144), (5, vi 0), (4, vi (nkd t2 z2)), (3, vi z2), (2, vi (plc t)), (0, .ref 131), (1, vi x1)]) (st2 := [vi z2, .ref 131, vl 1, vl (t145 131 9), .ref 131]) 3 (fun _ _ => rfl) ?_
                refine pr_s1 (args := [vi z2]) (rest := [vl 1, vl (t145 131 9), .ref 131]) rfl rfl rfl rfl (Nat.le_of_ble_eq_true rfl) rfl (h_73 s145 t145 z2 hE145 hz2) s_lin ?_
                rintro _ s147 ⟨rfl, hz147⟩ hE147
                show pr K K d tb_M71 264 [(9, vi z144), (5, vi 0), (4, vi (nkd t2 z2)), (3, vi z2), (2, vi (plc t)), (0, .ref 131), (1, vi x1)] [vi (lin t145 z2), vl 1, vl (t145 131 9), .ref 131] s147 _
                refine pr_lshl (a := 1) (b := lin t145 z2) rfl ?_
                refine pr_l2 (a := t145 131 9) (b := lsl 1 (lin t145 z2)) rfl rfl ?_
                show pr K K d tb_M71 266 [(9, vi z144), (5, vi 0), (4, vi (nkd t2 z2)), (3, vi z2), (2, vi (plc t)), (0, .ref 131), (1, vi x1)] [vl (lo (t145 131 9) (lsl 1 (lin t145 z2))), .ref 131] s147 _
                refine pr_pE (k2 := 131) (z := lo (t145 131 9) (lsl 1 (lin t145 z2))) hE147 rfl rfl rfl rfl (by decide) rfl (by decide) rfl (i64_in _) (fit_l _) rfl rfl rfl (fun e => absurd e.2 (by decide)) (iv_c (by decide)) fun s148 hE148 => ?_
                refine pr_n (pc2 := 270) (lv2 := [(9, vi z144), (5, vi 0), (4, vi (nkd t2 z2)), (3, vi z2), (2, vi (plc t)), (0, .ref 131), (1, vi x1)]) (st2 := [.ref 131]) 1 (fun _ _ => rfl) ?_
                refine pr_get (v := .ref C) rfl rfl rfl (by decide) (rv_ref (show s148.1 131 1 = ((C : Nat) : Int) from hE148.2.2.1)) fun _ => ?_
                refine pr_n (pc2 := 278) (lv2 := [(9, vi z144), (5, vi 0), (4, vi (nkd t2 z2)), (3, vi z2), (2, vi (plc t)), (0, .ref 131), (1, vi x1)]) (st2 := [vi z2, .ref 131, vi 406, .ref C]) 3 (fun _ _ => rfl) ?_
                refine pr_s1 (args := [vi z2]) (rest := [vi 406, .ref C]) rfl rfl rfl rfl (Nat.le_of_ble_eq_true rfl) rfl (h_73 s148 (up2 t145 131 9 (lo (t145 131 9) (lsl 1 (lin t145 z2)))) z2 hE148 hz2) s_lin ?_
                rintro _ s149 ⟨rfl, hz149⟩ hE149
                show pr K K d tb_M71 281 [(9, vi z144), (5, vi 0), (4, vi (nkd t2 z2)), (3, vi z2), (2, vi (plc t)), (0, .ref 131), (1, vi x1)] [vi (lin (up2 t145 131 9 (lo (t145 131 9) (lsl 1 (lin t145 z2)))) z2), vi 406, .ref C] s149 _
                refine pr_n (pc2 := 284) (lv2 := [(9, vi z144), (5, vi 0), (4, vi (nkd t2 z2)), (3, vi z2), (2, vi (plc t)), (0, .ref 131), (1, vi x1)]) (st2 := [vi ((-1)), vi z144, vi (lin (up2 t145 131 9 (lo (t145 131 9) (lsl 1 (lin t145 z2)))) z2), vi 406, .ref C]) 2 (fun _ _ => rfl) ?_
                refine pr_s1 (args := [vi 406, vi (lin (up2 t145 131 9 (lo (t145 131 9) (lsl 1 (lin t145 z2)))) z2), vi z144, vi ((-1))]) (rest := []) rfl rfl rfl (TK0 hC) (Nat.le_of_ble_eq_true rfl) rfl (h_54 s149 (up2 t145 131 9 (lo (t145 131 9) (lsl 1 (lin t145 z2)))) 406 (lin (up2 t145 131 9 (lo (t145 131 9) (lsl 1 (lin t145 z2)))) z2) z144 ((-1)) hE149 (i32_n rfl) hz149 hz144 (i32_n rfl)) s_cad ?_
                rintro _ s150 ⟨rfl, hz150⟩ hE150
                show pr K K d tb_M71 287 [(9, vi z144), (5, vi 0), (4, vi (nkd t2 z2)), (3, vi z2), (2, vi (plc t)), (0, .ref 131), (1, vi x1)] [vi (cadz (up2 t145 131 9 (lo (t145 131 9) (lsl 1 (lin t145 z2)))))] s150 _
                refine pr_reti rfl rfl ?_
                exact .inl ⟨_, cadz (up2 t145 131 9 (lo (t145 131 9) (lsl 1 (lin t145 z2)))), _, rfl, ⟨rfl, hz150⟩, rfl, hE150⟩
          · refine mq_f h129 ?_
            by_cases h151 : kkd ((stp t2)) = 61
            · refine mq_t h151 ?_
              refine pr_lsw rfl (by decide) hz128 (by rw [h151]) rfl ?_
              refine pr_n (pc2 := 147) (lv2 := [(5, vi 0), (4, vi (nkd t2 z2)), (3, vi z2), (2, vi (plc t)), (0, .ref 131), (1, vi x1)]) (st2 := [vi (plc t), vi z2, .ref 131]) 3 (fun _ _ => rfl) ?_
              refine pr_m1 (args := [vi z2, vi (plc t)]) (rest := []) rfl rfl rfl rfl (Nat.le_of_ble_eq_true rfl) rfl (h_72 s128 ((stp t2)) z2 (plc t) hE128 hz2 hz1) ?_
              rintro _ z152 t152 s152 ⟨rfl, hz152⟩ hE152
              show pr K K d tb_M71 150 [(5, vi 0), (4, vi (nkd t2 z2)), (3, vi z2), (2, vi (plc t)), (0, .ref 131), (1, vi x1)] [vi z152] s152 _
              refine pr_n (pc2 := 153) (lv2 := [(6, vi z152), (5, vi 0), (4, vi (nkd t2 z2)), (3, vi z2), (2, vi (plc t)), (0, .ref 131), (1, vi x1)]) (st2 := [.ref 131]) 2 (fun _ _ => rfl) ?_
              refine pr_get (v := .ref 137) rfl rfl rfl (by decide) (rv_ref (hE152.2.1 131 0 137 rfl)) fun _ => ?_
              refine pr_s1 (args := []) (rest := []) rfl rfl rfl rfl (Nat.le_of_ble_eq_true rfl) rfl (h_34 s152 t152  hE152 ) s_kkd ?_
              rintro _ s153 ⟨rfl, hz153⟩ hE153
              show pr K K d tb_M71 159 [(6, vi z152), (5, vi 0), (4, vi (nkd t2 z2)), (3, vi z2), (2, vi (plc t)), (0, .ref 131), (1, vi x1)] [vi (kkd t152)] s153 _
              refine pr_n (pc2 := 161) (lv2 := [(6, vi z152), (5, vi 0), (4, vi (nkd t2 z2)), (3, vi z2), (2, vi (plc t)), (0, .ref 131), (1, vi x1)]) (st2 := [vi 91, vi (kkd t152)]) 1 (fun _ _ => rfl) ?_
              by_cases h154 : kkd t152 ≠ 91
              · refine mq_t h154 ?_
                refine pr_if2t rfl rfl hz153 (i32_n rfl) h154 ?_
                refine pr_n (pc2 := 178) (lv2 := [(7, vi ((-1))), (6, vi z152), (5, vi 0), (4, vi (nkd t2 z2)), (3, vi z2), (2, vi (plc t)), (0, .ref 131), (1, vi x1)]) (st2 := [vi 61, .ref 131]) 4 (fun _ _ => rfl) ?_
                refine pr_m1 (args := [vi 61]) (rest := []) rfl rfl rfl rfl (Nat.le_of_ble_eq_true rfl) rfl (h_43 s153 t152 61 hE153 (i32_n rfl)) ?_
                rintro _ _ t155 s155 ⟨rfl, rfl⟩ hE155
                show pr K K d tb_M71 181 [(7, vi ((-1))), (6, vi z152), (5, vi 0), (4, vi (nkd t2 z2)), (3, vi z2), (2, vi (plc t)), (0, .ref 131), (1, vi x1)] [] s155 _
                refine pr_n (pc2 := 183) (lv2 := [(7, vi ((-1))), (6, vi z152), (5, vi 0), (4, vi (nkd t2 z2)), (3, vi z2), (2, vi (plc t)), (0, .ref 131), (1, vi x1)]) (st2 := [vi x1, .ref 131]) 2 (fun _ _ => rfl) ?_
                refine pr_m1 (args := [vi x1]) (rest := []) rfl rfl rfl rfl (Nat.le_of_ble_eq_true rfl) rfl (h_57 s155 t155 x1 hE155 hx1) ?_
                rintro _ z156 t156 s156 ⟨rfl, hz156⟩ hE156
                show pr K K d tb_M71 186 [(7, vi ((-1))), (6, vi z152), (5, vi 0), (4, vi (nkd t2 z2)), (3, vi z2), (2, vi (plc t)), (0, .ref 131), (1, vi x1)] [vi z156] s156 _
                refine pr_n (pc2 := 191) (lv2 := [(8, vi z156), (7, vi ((-1))), (6, vi z152), (5, vi 0), (4, vi (nkd t2 z2)), (3, vi z2), (2, vi (plc t)), (0, .ref 131), (1, vi x1)]) (st2 := [vi 59, .ref 131]) 3 (fun _ _ => rfl) ?_
                refine pr_m1 (args := [vi 59]) (rest := []) rfl rfl rfl rfl (Nat.le_of_ble_eq_true rfl) rfl (h_43 s156 t156 59 hE156 (i32_n rfl)) ?_
                rintro _ _ t157 s157 ⟨rfl, rfl⟩ hE157
                show pr K K d tb_M71 194 [(8, vi z156), (7, vi ((-1))), (6, vi z152), (5, vi 0), (4, vi (nkd t2 z2)), (3, vi z2), (2, vi (plc t)), (0, .ref 131), (1, vi x1)] [] s157 _
                refine pr_n (pc2 := 195) (lv2 := [(8, vi z156), (7, vi ((-1))), (6, vi z152), (5, vi 0), (4, vi (nkd t2 z2)), (3, vi z2), (2, vi (plc t)), (0, .ref 131), (1, vi x1)]) (st2 := [.ref 131]) 1 (fun _ _ => rfl) ?_
                refine pr_get (v := .ref C) rfl rfl rfl (by decide) (rv_ref (show s157.1 131 1 = ((C : Nat) : Int) from hE157.2.2.1)) fun _ => ?_
                refine pr_n (pc2 := 207) (lv2 := [(8, vi z156), (7, vi ((-1))), (6, vi z152), (5, vi 0), (4, vi (nkd t2 z2)), (3, vi z2), (2, vi (plc t)), (0, .ref 131), (1, vi x1)]) (st2 := [vi ((-1)), vi z156, vi z152, vi 405, .ref C]) 4 (fun _ _ => rfl) ?_
                refine pr_s1 (args := [vi 405, vi z152, vi z156, vi ((-1))]) (rest := []) rfl rfl rfl (TK0 hC) (Nat.le_of_ble_eq_true rfl) rfl (h_54 s157 t157 405 z152 z156 ((-1)) hE157 (i32_n rfl) hz152 hz156 (i32_n rfl)) s_cad ?_
                rintro _ s158 ⟨rfl, hz158⟩ hE158
                show pr K K d tb_M71 210 [(8, vi z156), (7, vi ((-1))), (6, vi z152), (5, vi 0), (4, vi (nkd t2 z2)), (3, vi z2), (2, vi (plc t)), (0, .ref 131), (1, vi x1)] [vi (cadz t157)] s158 _
                refine pr_reti rfl rfl ?_
                exact .inl ⟨_, cadz t157, _, rfl, ⟨rfl, hz158⟩, rfl, hE158⟩
              · refine mq_f h154 ?_
                refine pr_if2f rfl rfl hz153 (i32_n rfl) h154 ?_
                refine pr_n (pc2 := 166) (lv2 := [(6, vi z152), (5, vi 0), (4, vi (nkd t2 z2)), (3, vi z2), (2, vi (plc t)), (0, .ref 131), (1, vi x1)]) (st2 := [vi x1, .ref 131]) 2 (fun _ _ => rfl) ?_
                refine pr_m1 (args := [vi x1]) (rest := []) rfl rfl rfl rfl (Nat.le_of_ble_eq_true rfl) rfl (h_64 s153 t152 x1 hE153 hx1) ?_
                rintro _ z159 t159 s159 ⟨rfl, hz159⟩ hE159
                show pr K K d tb_M71 169 [(6, vi z152), (5, vi 0), (4, vi (nkd t2 z2)), (3, vi z2), (2, vi (plc t)), (0, .ref 131), (1, vi x1)] [vi z159] s159 _
                refine pr_n (pc2 := 178) (lv2 := [(7, vi z159), (6, vi z152), (5, vi 0), (4, vi (nkd t2 z2)), (3, vi z2), (2, vi (plc t)), (0, .ref 131), (1, vi x1)]) (st2 := [vi 61, .ref 131]) 4 (fun _ _ => rfl) ?_
                refine pr_m1 (args := [vi 61]) (rest := []) rfl rfl rfl rfl (Nat.le_of_ble_eq_true rfl) rfl (h_43 s159 t159 61 hE159 (i32_n rfl)) ?_
                rintro _ _ t160 s160 ⟨rfl, rfl⟩ hE160
                show pr K K d tb_M71 181 [(7, vi z159), (6, vi z152), (5, vi 0), (4, vi (nkd t2 z2)), (3, vi z2), (2, vi (plc t)), (0, .ref 131), (1, vi x1)] [] s160 _
                refine pr_n (pc2 := 183) (lv2 := [(7, vi z159), (6, vi z152), (5, vi 0), (4, vi (nkd t2 z2)), (3, vi z2), (2, vi (plc t)), (0, .ref 131), (1, vi x1)]) (st2 := [vi x1, .ref 131]) 2 (fun _ _ => rfl) ?_
                refine pr_m1 (args := [vi x1]) (rest := []) rfl rfl rfl rfl (Nat.le_of_ble_eq_true rfl) rfl (h_57 s160 t160 x1 hE160 hx1) ?_
                rintro _ z161 t161 s161 ⟨rfl, hz161⟩ hE161
                show pr K K d tb_M71 186 [(7, vi z159), (6, vi z152), (5, vi 0), (4, vi (nkd t2 z2)), (3, vi z2), (2, vi (plc t)), (0, .ref 131), (1, vi x1)] [vi z161] s161 _
                refine pr_n (pc2 := 191) (lv2 := [(8, vi z161), (7, vi z159), (6, vi z152), (5, vi 0), (4, vi (nkd t2 z2)), (3, vi z2), (2, vi (plc t)), (0, .ref 131), (1, vi x1)]) (st2 := [vi 59, .ref 131]) 3 (fun _ _ => rfl) ?_
                refine pr_m1 (args := [vi 59]) (rest := []) rfl rfl rfl rfl (Nat.le_of_ble_eq_true rfl) rfl (h_43 s161 t161 59 hE161 (i32_n rfl)) ?_
                rintro _ _ t162 s162 ⟨rfl, rfl⟩ hE162
                show pr K K d tb_M71 194 [(8, vi z161), (7, vi z159), (6, vi z152), (5, vi 0), (4, vi (nkd t2 z2)), (3, vi z2), (2, vi (plc t)), (0, .ref 131), (1, vi x1)] [] s162 _
                refine pr_n (pc2 := 195) (lv2 := [(8, vi z161), (7, vi z159), (6, vi z152), (5, vi 0), (4, vi (nkd t2 z2)), (3, vi z2), (2, vi (plc t)), (0, .ref 131), (1, vi x1)]) (st2 := [.ref 131]) 1 (fun _ _ => rfl) ?_
                refine pr_get (v := .ref C) rfl rfl rfl (by decide) (rv_ref (show s162.1 131 1 = ((C : Nat) : Int) from hE162.2.2.1)) fun _ => ?_
                refine pr_n (pc2 := 207) (lv2 := [(8, vi z161), (7, vi z159), (6, vi z152), (5, vi 0), (4, vi (nkd t2 z2)), (3, vi z2), (2, vi (plc t)), (0, .ref 131), (1, vi x1)]) (st2 := [vi z159, vi z161, vi z152, vi 405, .ref C]) 4 (fun _ _ => rfl) ?_
                refine pr_s1 (args := [vi 405, vi z152, vi z161, vi z159]) (rest := []) rfl rfl rfl (TK0 hC) (Nat.le_of_ble_eq_true rfl) rfl (h_54 s162 t162 405 z152 z161 z159 hE162 (i32_n rfl) hz152 hz161 hz159) s_cad ?_
                rintro _ s163 ⟨rfl, hz163⟩ hE163
                show pr K K d tb_M71 210 [(8, vi z161), (7, vi z159), (6, vi z152), (5, vi 0), (4, vi (nkd t2 z2)), (3, vi z2), (2, vi (plc t)), (0, .ref 131), (1, vi x1)] [vi (cadz t162)] s163 _
                refine pr_reti rfl rfl ?_
                exact .inl ⟨_, cadz t162, _, rfl, ⟨rfl, hz163⟩, rfl, hE163⟩
            · refine mq_f h151 ?_
              by_cases h164 : kkd ((stp t2)) = 63
              · refine mq_t h164 ?_
                refine pr_lsw rfl (by decide) hz128 (by rw [h164]) rfl ?_
                refine pr_n (pc2 := 292) (lv2 := [(5, vi 0), (4, vi (nkd t2 z2)), (3, vi z2), (2, vi (plc t)), (0, .ref 131), (1, vi x1)]) (st2 := [vi 2, vi (nkd t2 z2), .ref 131]) 3 (fun _ _ => rfl) ?_
                by_cases h165 : nkd t2 z2 = 2
                · refine mq_t h165 ?_
                  refine pr_if2t rfl rfl hz3 (i32_n rfl) h165 ?_
                  refine pr_n (pc2 := 307) (lv2 := [(5, vi 0), (4, vi (nkd t2 z2)), (3, vi z2), (2, vi (plc t)), (0, .ref 131), (1, vi x1)]) (st2 := [vi (plc t), vi 1, .ref 131]) 3 (fun _ _ => rfl) ?_
                  refine pr_s1 (args := [vi 1, vi (plc t)]) (rest := []) rfl rfl rfl rfl (Nat.le_of_ble_eq_true rfl) rfl (h_41 s128 ((stp t2)) 1 (plc t) hE128 (by decide) hz1) chk1 ?_
                  rintro _ s166 ⟨rfl, _⟩ hE166
                  show pr K K d tb_M71 310 [(5, vi 0), (4, vi (nkd t2 z2)), (3, vi z2), (2, vi (plc t)), (0, .ref 131), (1, vi x1)] [] s166 _
                  refine pr_n (pc2 := 311) (lv2 := [(5, vi 0), (4, vi (nkd t2 z2)), (3, vi z2), (2, vi (plc t)), (0, .ref 131), (1, vi x1)]) (st2 := [.ref 131]) 1 (fun _ _ => rfl) ?_
                  refine pr_get (v := .ref 137) rfl rfl rfl (by decide) (rv_ref (hE166.2.1 131 0 137 rfl)) fun _ => ?_
                  refine pr_s1 (args := []) (rest := []) rfl rfl rfl rfl (Nat.le_of_ble_eq_true rfl) rfl (h_35 s166 ((stp t2))  hE166 ) s_stp ?_
                  rintro _ s167 ⟨rfl, _⟩ hE167
                  show pr K K d tb_M71 317 [(5, vi 0), (4, vi (nkd t2 z2)), (3, vi z2), (2, vi (plc t)), (0, .ref 131), (1, vi x1)] [] s167 _
                  refine pr_n (pc2 := 318) (lv2 := [(5, vi 0), (4, vi (nkd t2 z2)), (3, vi z2), (2, vi (plc t)), (0, .ref 131), (1, vi x1)]) (st2 := [.ref 131]) 1 (fun _ _ => rfl) ?_
                  refine pr_get (v := .ref 137) rfl rfl rfl (by decide) (rv_ref (hE167.2.1 131 0 137 rfl)) fun _ => ?_
                  refine pr_s1 (args := []) (rest := []) rfl rfl rfl rfl (Nat.le_of_ble_eq_true rfl) rfl (h_40 s167 ((stp ((stp t2))))  hE167 ) s_plc ?_
                  rintro _ s168 ⟨rfl, hz168⟩ hE168
                  show pr K K d tb_M71 324 [(5, vi 0), (4, vi (nkd t2 z2)), (3, vi z2), (2, vi (plc t)), (0, .ref 131), (1, vi x1)] [vi (plc ((stp ((stp t2)))))] s168 _
                  refine pr_n (pc2 := 327) (lv2 := [(10, vi (plc ((stp ((stp t2)))))), (5, vi 0), (4, vi (nkd t2 z2)), (3, vi z2), (2, vi (plc t)), (0, .ref 131), (1, vi x1)]) (st2 := [.ref 131]) 2 (fun _ _ => rfl) ?_
                  refine pr_m1 (args := []) (rest := []) rfl rfl rfl rfl (Nat.le_of_ble_eq_true rfl) rfl (h_61 s168 ((stp ((stp t2))))  hE168 ) ?_
                  rintro _ z169 t169 s169 ⟨rfl, hz169⟩ hE169
                  show pr K K d tb_M71 330 [(10, vi (plc ((stp ((stp t2)))))), (5, vi 0), (4, vi (nkd t2 z2)), (3, vi z2), (2, vi (plc t)), (0, .ref 131), (1, vi x1)] [vi z169] s169 _
                  refine pr_n (pc2 := 333) (lv2 := [(11, vi z169), (10, vi (plc ((stp ((stp t2)))))), (5, vi 0), (4, vi (nkd t2 z2)), (3, vi z2), (2, vi (plc t)), (0, .ref 131), (1, vi x1)]) (st2 := [.ref 131]) 2 (fun _ _ => rfl) ?_
                  refine pr_get (v := .ref 137) rfl rfl rfl (by decide) (rv_ref (hE169.2.1 131 0 137 rfl)) fun _ => ?_
                  refine pr_s1 (args := []) (rest := []) rfl rfl rfl rfl (Nat.le_of_ble_eq_true rfl) rfl (h_35 s169 t169  hE169 ) s_stp ?_
                  rintro _ s170 ⟨rfl, _⟩ hE170
                  show pr K K d tb_M71 339 [(11, vi z169), (10, vi (plc ((stp ((stp t2)))))), (5, vi 0), (4, vi (nkd t2 z2)), (3, vi z2), (2, vi (plc t)), (0, .ref 131), (1, vi x1)] [] s170 _
                  refine pr_n (pc2 := 344) (lv2 := [(11, vi z169), (10, vi (plc ((stp ((stp t2)))))), (5, vi 0), (4, vi (nkd t2 z2)), (3, vi z2), (2, vi (plc t)), (0, .ref 131), (1, vi x1)]) (st2 := [vi (plc ((stp ((stp t2))))), vi z169, .ref 131]) 3 (fun _ _ => rfl) ?_
                  refine pr_m1 (args := [vi z169, vi (plc ((stp ((stp t2)))))]) (rest := []) rfl rfl rfl rfl (Nat.le_of_ble_eq_true rfl) rfl (h_72 s170 ((stp t169)) z169 (plc ((stp ((stp t2))))) hE170 hz169 hz168) ?_
                  rintro _ z171 t171 s171 ⟨rfl, hz171⟩ hE171
                  show pr K K d tb_M71 347 [(11, vi z169), (10, vi (plc ((stp ((stp t2)))))), (5, vi 0), (4, vi (nkd t2 z2)), (3, vi z2), (2, vi (plc t)), (0, .ref 131), (1, vi x1)] [vi z171] s171 _
                  refine pr_n (pc2 := 350) (lv2 := [(12, vi z171), (11, vi z169), (10, vi (plc ((stp ((stp t2)))))), (5, vi 0), (4, vi (nkd t2 z2)), (3, vi z2), (2, vi (plc t)), (0, .ref 131), (1, vi x1)]) (st2 := [.ref 131]) 2 (fun _ _ => rfl) ?_
                  refine pr_get (v := .ref 137) rfl rfl rfl (by decide) (rv_ref (hE171.2.1 131 0 137 rfl)) fun _ => ?_
                  refine pr_s1 (args := []) (rest := []) rfl rfl rfl rfl (Nat.le_of_ble_eq_true rfl) rfl (h_34 s171 t171  hE171 ) s_kkd ?_
                  rintro _ s172 ⟨rfl, hz172⟩ hE172
                  show pr K K d tb_M71 356 [(12, vi z171), (11, vi z169), (10, vi (plc ((stp ((stp t2)))))), (5, vi 0), (4, vi (nkd t2 z2)), (3, vi z2), (2, vi (plc t)), (0, .ref 131), (1, vi x1)] [vi (kkd t171)] s172 _
                  refine pr_n (pc2 := 358) (lv2 := [(12, vi z171), (11, vi z169), (10, vi (plc ((stp ((stp t2)))))), (5, vi 0), (4, vi (nkd t2 z2)), (3, vi z2), (2, vi (plc t)), (0, .ref 131), (1, vi x1)]) (st2 := [vi 91, vi (kkd t171)]) 1 (fun _ _ => rfl) ?_
                  by_cases h173 : kkd t171 ≠ 91
                  · refine mq_t h173 ?_
                    refine pr_if2t rfl rfl hz172 (i32_n rfl) h173 ?_
                    refine pr_n (pc2 := 375) (lv2 := [(13, vi ((-1))), (12, vi z171), (11, vi z169), (10, vi (plc ((stp ((stp t2)))))), (5, vi 0), (4, vi (nkd t2 z2)), (3, vi z2), (2, vi (plc t)), (0, .ref 131), (1, vi x1)]) (st2 := [vi 59, .ref 131]) 4 (fun _ _ => rfl) ?_
                    refine pr_m1 (args := [vi 59]) (rest := []) rfl rfl rfl rfl (Nat.le_of_ble_eq_true rfl) rfl (h_43 s172 t171 59 hE172 (i32_n rfl)) ?_
                    rintro _ _ t174 s174 ⟨rfl, rfl⟩ hE174
                    show pr K K d tb_M71 378 [(13, vi ((-1))), (12, vi z171), (11, vi z169), (10, vi (plc ((stp ((stp t2)))))), (5, vi 0), (4, vi (nkd t2 z2)), (3, vi z2), (2, vi (plc t)), (0, .ref 131), (1, vi x1)] [] s174 _
                    refine pr_n (pc2 := 380) (lv2 := [(13, vi ((-1))), (12, vi z171), (11, vi z169), (10, vi (plc ((stp ((stp t2)))))), (5, vi 0), (4, vi (nkd t2 z2)), (3, vi z2), (2, vi (plc t)), (0, .ref 131), (1, vi x1)]) (st2 := [.ref 131, .ref 131]) 2 (fun _ _ => rfl) ?_
                    refine pr_gE (k2 := 131) (v := vl (t174 131 9)) hE174 rfl rfl rfl (by decide) rfl rfl rfl fun h175 => ?_
                    have h175 : i64 (t174 131 9) := h175
                    refine pr_n (pc2 := 388) (lv2 := [(13, vi ((-1))), (12, vi z171), (11, vi z169), (10, vi (plc ((stp ((stp t2)))))), (5, vi 0), (4, vi (nkd t2 z2)), (3, vi z2), (2, vi (plc t)), (0, .ref 131), (1, vi x1)]) (st2 := [vi z2, .ref 131, vi 12, vl 1, vl (t174 131 9), .ref 131]) 4 (fun _ _ => rfl) ?_
                    refine pr_s1 (args := [vi z2]) (rest := [vi 12, vl 1, vl (t174 131 9), .ref 131]) rfl rfl rfl rfl (Nat.le_of_ble_eq_true rfl) rfl (h_73 s174 t174 z2 hE174 hz2) s_lin ?_
                    rintro _ s176 ⟨rfl, hz176⟩ hE176
                    show pr K K d tb_M71 391 [(13, vi ((-1))), (12, vi z171), (11, vi z169), (10, vi (plc ((stp ((stp t2)))))), (5, vi 0), (4, vi (nkd t2 z2)), (3, vi z2), (2, vi (plc t)), (0, .ref 131), (1, vi x1)] [vi (lin t174 z2), vi 12, vl 1, vl (t174 131 9), .ref 131] s176 _
                    refine pr_i2 (a := 12) (b := lin t174 z2) rfl rfl ?_
                    show pr K K d tb_M71 392 [(13, vi ((-1))), (12, vi z171), (11, vi z169), (10, vi (plc ((stp ((stp t2)))))), (5, vi 0), (4, vi (nkd t2 z2)), (3, vi z2), (2, vi (plc t)), (0, .ref 131), (1, vi x1)] [vi (ipl 12 (lin t174 z2)), vl 1, vl (t174 131 9), .ref 131] s176 _
                    have h177 : i32 (ipl 12 (lin t174 z2)) := i32_in _
                    refine pr_lshl (a := 1) (b := ipl 12 (lin t174 z2)) rfl ?_
                    refine pr_l2 (a := t174 131 9) (b := lsl 1 (ipl 12 (lin t174 z2))) rfl rfl ?_
                    show pr K K d tb_M71 394 [(13, vi ((-1))), (12, vi z171), (11, vi z169), (10, vi (plc ((stp ((stp t2)))))), (5, vi 0), (4, vi (nkd t2 z2)), (3, vi z2), (2, vi (plc t)), (0, .ref 131), (1, vi x1)] [vl (lo (t174 131 9) (lsl 1 (ipl 12 (lin t174 z2)))), .ref 131] s176 _
                    refine pr_pE (k2 := 131) (z := lo (t174 131 9) (lsl 1 (ipl 12 (lin t174 z2)))) hE176 rfl rfl rfl rfl (by decide) rfl (by decide) rfl (i64_in _) (fit_l _) rfl rfl rfl (fun e => absurd e.2 (by decide)) (iv_c (by decide)) fun s178 hE178 => ?_
                    refine pr_n (pc2 := 398) (lv2 := [(13, vi ((-1))), (12, vi z171), (11, vi z169), (10, vi (plc ((stp ((stp t2)))))), (5, vi 0), (4, vi (nkd t2 z2)), (3, vi z2), (2, vi (plc t)), (0, .ref 131), (1, vi x1)]) (st2 := [.ref 131]) 1 (fun _ _ => rfl) ?_
                    refine pr_get (v := .ref C) rfl rfl rfl (by decide) (rv_ref (show s178.1 131 1 = ((C : Nat) : Int) from hE178.2.2.1)) fun _ => ?_
                    refine pr_n (pc2 := 406) (lv2 := [(13, vi ((-1))), (12, vi z171), (11, vi z169), (10, vi (plc ((stp ((stp t2)))))), (5, vi 0), (4, vi (nkd t2 z2)), (3, vi z2), (2, vi (plc t)), (0, .ref 131), (1, vi x1)]) (st2 := [vi z2, .ref 131, vi 407, .ref C]) 3 (fun _ _ => rfl) ?_
                    refine pr_s1 (args := [vi z2]) (rest := [vi 407, .ref C]) rfl rfl rfl rfl (Nat.le_of_ble_eq_true rfl) rfl (h_73 s178 (up2 t174 131 9 (lo (t174 131 9) (lsl 1 (ipl 12 (lin t174 z2))))) z2 hE178 hz2) s_lin ?_
                    rintro _ s179 ⟨rfl, hz179⟩ hE179
                    show pr K K d tb_M71 409 [(13, vi ((-1))), (12, vi z171), (11, vi z169), (10, vi (plc ((stp ((stp t2)))))), (5, vi 0), (4, vi (nkd t2 z2)), (3, vi z2), (2, vi (plc t)), (0, .ref 131), (1, vi x1)] [vi (lin (up2 t174 131 9 (lo (t174 131 9) (lsl 1 (ipl 12 (lin t174 z2))))) z2), vi 407, .ref C] s179 _
                    refine pr_n (pc2 := 413) (lv2 := [(13, vi ((-1))), (12, vi z171), (11, vi z169), (10, vi (plc ((stp ((stp t2)))))), (5, vi 0), (4, vi (nkd t2 z2)), (3, vi z2), (2, vi (plc t)), (0, .ref 131), (1, vi x1)]) (st2 := [vi ((-1)), vi z171, vi (lin (up2 t174 131 9 (lo (t174 131 9) (lsl 1 (ipl 12 (lin t174 z2))))) z2), vi 407, .ref C]) 2 (fun _ _ => rfl) ?_
                    refine pr_s1 (args := [vi 407, vi (lin (up2 t174 131 9 (lo (t174 131 9) (lsl 1 (ipl 12 (lin t174 z2))))) z2), vi z171, vi ((-1))]) (rest := []) rfl rfl rfl (TK0 hC) (Nat.le_of_ble_eq_true rfl) rfl (h_54 s179 (up2 t174 131 9 (lo (t174 131 9) (lsl 1 (ipl 12 (lin t174 z2))))) 407 (lin (up2 t174 131 9 (lo (t174 131 9) (lsl 1 (ipl 12 (lin t174 z2))))) z2) z171 ((-1)) hE179 (i32_n rfl) hz179 hz171 (i32_n rfl)) s_cad ?_
                    rintro _ s180 ⟨rfl, hz180⟩ hE180
                    show pr K K d tb_M71 416 [(13, vi ((-1))), (12, vi z171), (11, vi z169), (10, vi (plc ((stp ((stp t2)))))), (5, vi 0), (4, vi (nkd t2 z2)), (3, vi z2), (2, vi (plc t)), (0, .ref 131), (1, vi x1)] [vi (cadz (up2 t174 131 9 (lo (t174 131 9) (lsl 1 (ipl 12 (lin t174 z2))))))] s180 _
                    refine pr_reti rfl rfl ?_
                    exact .inl ⟨_, cadz (up2 t174 131 9 (lo (t174 131 9) (lsl 1 (ipl 12 (lin t174 z2))))), _, rfl, ⟨rfl, hz180⟩, rfl, hE180⟩
                  · refine mq_f h173 ?_
                    refine pr_if2f rfl rfl hz172 (i32_n rfl) h173 ?_
                    refine pr_n (pc2 := 363) (lv2 := [(12, vi z171), (11, vi z169), (10, vi (plc ((stp ((stp t2)))))), (5, vi 0), (4, vi (nkd t2 z2)), (3, vi z2), (2, vi (plc t)), (0, .ref 131), (1, vi x1)]) (st2 := [vi x1, .ref 131]) 2 (fun _ _ => rfl) ?_
                    refine pr_m1 (args := [vi x1]) (rest := []) rfl rfl rfl rfl (Nat.le_of_ble_eq_true rfl) rfl (h_64 s172 t171 x1 hE172 hx1) ?_
                    rintro _ z181 t181 s181 ⟨rfl, hz181⟩ hE181
                    show pr K K d tb_M71 366 [(12, vi z171), (11, vi z169), (10, vi (plc ((stp ((stp t2)))))), (5, vi 0), (4, vi (nkd t2 z2)), (3, vi z2), (2, vi (plc t)), (0, .ref 131), (1, vi x1)] [vi z181] s181 _
                    refine pr_n (pc2 := 375) (lv2 := [(13, vi z181), (12, vi z171), (11, vi z169), (10, vi (plc ((stp ((stp t2)))))), (5, vi 0), (4, vi (nkd t2 z2)), (3, vi z2), (2, vi (plc t)), (0, .ref 131), (1, vi x1)]) (st2 := [vi 59, .ref 131]) 4 (fun _ _ => rfl) ?_
                    refine pr_m1 (args := [vi 59]) (rest := []) rfl rfl rfl rfl (Nat.le_of_ble_eq_true rfl) rfl (h_43 s181 t181 59 hE181 (i32_n rfl)) ?_
                    rintro _ _ t182 s182 ⟨rfl, rfl⟩ hE182
                    show pr K K d tb_M71 378 [(13, vi z181), (12, vi z171), (11, vi z169), (10, vi (plc ((stp ((stp t2)))))), (5, vi 0), (4, vi (nkd t2 z2)), (3, vi z2), (2, vi (plc t)), (0, .ref 131), (1, vi x1)] [] s182 _
                    refine pr_n (pc2 := 380) (lv2 := [(13, vi z181), (12, vi z171), (11, vi z169), (10, vi (plc ((stp ((stp t2)))))), (5, vi 0), (4, vi (nkd t2 z2)), (3, vi z2), (2, vi (plc t)), (0, .ref 131), (1, vi x1)]) (st2 := [.ref 131, .ref 131]) 2 (fun _ _ => rfl) ?_
                    refine pr_gE (k2 := 131) (v := vl (t182 131 9)) hE182 rfl rfl rfl (by decide) rfl rfl rfl fun h183 => ?_
                    have h183 : i64 (t182 131 9) := h183
                    refine pr_n (pc2 := 388) (lv2 := [(13, vi z181), (12, vi z171), (11, vi z169), (10, vi (plc ((stp ((stp t2)))))), (5, vi 0), (4, vi (nkd t2 z2)), (3, vi z2), (2, vi (plc t)), (0, .ref 131), (1, vi x1)]) (st2 := [vi z2, .ref 131, vi 12, vl 1, vl (t182 131 9), .ref 131]) 4 (fun _ _ => rfl) ?_
                    refine pr_s1 (args := [vi z2]) (rest := [vi 12, vl 1, vl (t182 131 9), .ref 131]) rfl rfl rfl rfl (Nat.le_of_ble_eq_true rfl) rfl (h_73 s182 t182 z2 hE182 hz2) s_lin ?_
                    rintro _ s184 ⟨rfl, hz184⟩ hE184
                    show pr K K d tb_M71 391 [(13, vi z181), (12, vi z171), (11, vi z169), (10, vi (plc ((stp ((stp t2)))))), (5, vi 0), (4, vi (nkd t2 z2)), (3, vi z2), (2, vi (plc t)), (0, .ref 131), (1, vi x1)] [vi (lin t182 z2), vi 12, vl 1, vl (t182 131 9), .ref 131] s184 _
                    refine pr_i2 (a := 12) (b := lin t182 z2) rfl rfl ?_
                    show pr K K d tb_M71 392 [(13, vi z181), (12, vi z171), (11, vi z169), (10, vi (plc ((stp ((stp t2)))))), (5, vi 0), (4, vi (nkd t2 z2)), (3, vi z2), (2, vi (plc t)), (0, .ref 131), (1, vi x1)] [vi (ipl 12 (lin t182 z2)), vl 1, vl (t182 131 9), .ref 131] s184 _
                    have h185 : i32 (ipl 12 (lin t182 z2)) := i32_in _
                    refine pr_lshl (a := 1) (b := ipl 12 (lin t182 z2)) rfl ?_
                    refine pr_l2 (a := t182 131 9) (b := lsl 1 (ipl 12 (lin t182 z2))) rfl rfl ?_
                    show pr K K d tb_M71 394 [(13, vi z181), (12, vi z171), (11, vi z169), (10, vi (plc ((stp ((stp t2)))))), (5, vi 0), (4, vi (nkd t2 z2)), (3, vi z2), (2, vi (plc t)), (0, .ref 131), (1, vi x1)] [vl (lo (t182 131 9) (lsl 1 (ipl 12 (lin t182 z2)))), .ref 131] s184 _
                    refine pr_pE (k2 := 131) (z := lo (t182 131 9) (lsl 1 (ipl 12 (lin t182 z2)))) hE184 rfl rfl rfl rfl (by decide) rfl (by decide) rfl (i64_in _) (fit_l _) rfl rfl rfl (fun e => absurd e.2 (by decide)) (iv_c (by decide)) fun s186 hE186 => ?_
                    refine pr_n (pc2 := 398) (lv2 := [(13, vi z181), (12, vi z171), (11, vi z169), (10, vi (plc ((stp ((stp t2)))))), (5, vi 0), (4, vi (nkd t2 z2)), (3, vi z2), (2, vi (plc t)), (0, .ref 131), (1, vi x1)]) (st2 := [.ref 131]) 1 (fun _ _ => rfl) ?_
                    refine pr_get (v := .ref C) rfl rfl rfl (by decide) (rv_ref (show s186.1 131 1 = ((C : Nat) : Int) from hE186.2.2.1)) fun _ => ?_
                    refine pr_n (pc2 := 406) (lv2 := [(13, vi z181), (12, vi z171), (11, vi z169), (10, vi (plc ((stp ((stp t2)))))), (5, vi 0), (4, vi (nkd t2 z2)), (3, vi z2), (2, vi (plc t)), (0, .ref 131), (1, vi x1)]) (st2 := [vi z2, .ref 131, vi 407, .ref C]) 3 (fun _ _ => rfl) ?_
                    refine pr_s1 (args := [vi z2]) (rest := [vi 407, .ref C]) rfl rfl rfl rfl (Nat.le_of_ble_eq_true rfl) rfl (h_73 s186 (up2 t182 131 9 (lo (t182 131 9) (lsl 1 (ipl 12 (lin t182 z2))))) z2 hE186 hz2) s_lin ?_
                    rintro _ s187 ⟨rfl, hz187⟩ hE187
                    show pr K K d tb_M71 409 [(13, vi z181), (12, vi z171), (11, vi z169), (10, vi (plc ((stp ((stp t2)))))), (5, vi 0), (4, vi (nkd t2 z2)), (3, vi z2), (2, vi (plc t)), (0, .ref 131), (1, vi x1)] [vi (lin (up2 t182 131 9 (lo (t182 131 9) (lsl 1 (ipl 12 (lin t182 z2))))) z2), vi 407, .ref C] s187 _
                    refine pr_n (pc2 := 413) (lv2 := [(13, vi z181), (12, vi z171), (11, vi z169), (10, vi (plc ((stp ((stp t2)))))), (5, vi 0), (4, vi (nkd t2 z2)), (3, vi z2), (2, vi (plc t)), (0, .ref 131), (1, vi x1)]) (st2 := [vi z181, vi z171, vi (lin (up2 t182 131 9 (lo (t182 131 9) (lsl 1 (ipl 12 (lin t182 z2))))) z2), vi 407, .ref C]) 2 (fun _ _ => rfl) ?_
                    refine pr_s1 (args := [vi 407, vi (lin (up2 t182 131 9 (lo (t182 131 9) (lsl 1 (ipl 12 (lin t182 z2))))) z2), vi z171, vi z181]) (rest := []) rfl rfl rfl (TK0 hC) (Nat.le_of_ble_eq_true rfl) rfl (h_54 s187 (up2 t182 131 9 (lo (t182 131 9) (lsl 1 (ipl 12 (lin t182 z2))))) 407 (lin (up2 t182 131 9 (lo (t182 131 9) (lsl 1 (ipl 12 (lin t182 z2))))) z2) z171 z181 hE187 (i32_n rfl) hz187 hz171 hz181) s_cad ?_
                    rintro _ s188 ⟨rfl, hz188⟩ hE188
                    show pr K K d tb_M71 416 [(13, vi z181), (12, vi z171), (11, vi z169), (10, vi (plc ((stp ((stp t2)))))), (5, vi 0), (4, vi (nkd t2 z2)), (3, vi z2), (2, vi (plc t)), (0, .ref 131), (1, vi x1)] [vi (cadz (up2 t182 131 9 (lo (t182 131 9) (lsl 1 (ipl 12 (lin t182 z2))))))] s188 _
                    refine pr_reti rfl rfl ?_
                    exact .inl ⟨_, cadz (up2 t182 131 9 (lo (t182 131 9) (lsl 1 (ipl 12 (lin t182 z2))))), _, rfl, ⟨rfl, hz188⟩, rfl, hE188⟩
                · refine mq_f h165 ?_
                  refine pr_if2f rfl rfl hz3 (i32_n rfl) h165 ?_
                  refine pr_n (pc2 := 298) (lv2 := [(5, vi 0), (4, vi (nkd t2 z2)), (3, vi z2), (2, vi (plc t)), (0, .ref 131), (1, vi x1)]) (st2 := [vi 3, vi (nkd t2 z2), .ref 131]) 2 (fun _ _ => rfl) ?_
                  by_cases h189 : nkd t2 z2 ≠ 3
                  · refine mq_t h189 ?_
                    refine pr_if2t rfl rfl hz3 (i32_n rfl) h189 ?_
                    refine pr_n (pc2 := 307) (lv2 := [(5, vi 0), (4, vi (nkd t2 z2)), (3, vi z2), (2, vi (plc t)), (0, .ref 131), (1, vi x1)]) (st2 := [vi (plc t), vi 0, .ref 131]) 2 (fun _ _ => rfl) ?_
                    exact pr_c1 (args := [vi 0, vi (plc t)]) (rest := []) rfl rfl rfl rfl (Nat.le_of_ble_eq_true rfl) rfl (h_41 s128 ((stp t2)) 0 (plc t) hE128 (by decide) hz1) chk0
                  · refine mq_f h189 ?_
                    refine pr_if2f rfl rfl hz3 (i32_n rfl) h189 ?_
                    refine pr_n (pc2 := 307) (lv2 := [(5, vi 0), (4, vi (nkd t2 z2)), (3, vi z2), (2, vi (plc t)), (0, .ref 131), (1, vi x1)]) (st2 := [vi (plc t), vi 1, .ref 131]) 3 (fun _ _ => rfl) ?_
                    refine pr_s1 (args := [vi 1, vi (plc t)]) (rest := []) rfl rfl rfl rfl (Nat.le_of_ble_eq_true rfl) rfl (h_41 s128 ((stp t2)) 1 (plc t) hE128 (by decide) hz1) chk1 ?_
                    rintro _ s191 ⟨rfl, _⟩ hE191
                    show pr K K d tb_M71 310 [(5, vi 0), (4, vi (nkd t2 z2)), (3, vi z2), (2, vi (plc t)), (0, .ref 131), (1, vi x1)] [] s191 _
                    refine pr_n (pc2 := 311) (lv2 := [(5, vi 0), (4, vi (nkd t2 z2)), (3, vi z2), (2, vi (plc t)), (0, .ref 131), (1, vi x1)]) (st2 := [.ref 131]) 1 (fun _ _ => rfl) ?_
                    refine pr_get (v := .ref 137) rfl rfl rfl (by decide) (rv_ref (hE191.2.1 131 0 137 rfl)) fun _ => ?_
                    refine pr_s1 (args := []) (rest := []) rfl rfl rfl rfl (Nat.le_of_ble_eq_true rfl) rfl (h_35 s191 ((stp t2))  hE191 ) s_stp ?_
                    rintro _ s192 ⟨rfl, _⟩ hE192
                    show pr K K d tb_M71 317 [(5, vi 0), (4, vi (nkd t2 z2)), (3, vi z2), (2, vi (plc t)), (0, .ref 131), (1, vi x1)] [] s192 _
                    refine pr_n (pc2 := 318) (lv2 := [(5, vi 0), (4, vi (nkd t2 z2)), (3, vi z2), (2, vi (plc t)), (0, .ref 131), (1, vi x1)]) (st2 := [.ref 131]) 1 (fun _ _ => rfl) ?_
                    refine pr_get (v := .ref 137) rfl rfl rfl (by decide) (rv_ref (hE192.2.1 131 0 137 rfl)) fun _ => ?_
                    refine pr_s1 (args := []) (rest := []) rfl rfl rfl rfl (Nat.le_of_ble_eq_true rfl) rfl (h_40 s192 ((stp ((stp t2))))  hE192 ) s_plc ?_
                    rintro _ s193 ⟨rfl, hz193⟩ hE193
                    show pr K K d tb_M71 324 [(5, vi 0), (4, vi (nkd t2 z2)), (3, vi z2), (2, vi (plc t)), (0, .ref 131), (1, vi x1)] [vi (plc ((stp ((stp t2)))))] s193 _
                    refine pr_n (pc2 := 327) (lv2 := [(10, vi (plc ((stp ((stp t2)))))), (5, vi 0), (4, vi (nkd t2 z2)), (3, vi z2), (2, vi (plc t)), (0, .ref 131), (1, vi x1)]) (st2 := [.ref 131]) 2 (fun _ _ => rfl) ?_
                    refine pr_m1 (args := []) (rest := []) rfl rfl rfl rfl (Nat.le_of_ble_eq_true rfl) rfl (h_61 s193 ((stp ((stp t2))))  hE193 ) ?_
                    rintro _ z194 t194 s194 ⟨rfl, hz194⟩ hE194
                    show pr K K d tb_M71 330 [(10, vi (plc ((stp ((stp t2)))))), (5, vi 0), (4, vi (nkd t2 z2)), (3, vi z2), (2, vi (plc t)), (0, .ref 131), (1, vi x1)] [vi z194] s194 _
                    refine pr_n (pc2 := 333) (lv2 := [(11, vi z194), (10, vi (plc ((stp ((stp t2)))))), (5, vi 0), (4, vi (nkd t2 z2)), (3, vi z2), (2, vi (plc t)), (0, .ref 131), (1, vi x1)]) (st2 := [.ref 131]) 2 (fun _ _ => rfl) ?_
                    refine pr_get (v := .ref 137) rfl rfl rfl (by decide) (rv_ref (hE194.2.1 131 0 137 rfl)) fun _ => ?_
                    refine pr_s1 (args := []) (rest := []) rfl rfl rfl rfl (Nat.le_of_ble_eq_true rfl) rfl (h_35 s194 t194  hE194 ) s_stp ?_
                    rintro _ s195 ⟨rfl, _⟩ hE195
                    show pr K K d tb_M71 339 [(11, vi z194), (10, vi (plc ((stp ((stp t2)))))), (5, vi 0), (4, vi (nkd t2 z2)), (3, vi z2), (2, vi (plc t)), (0, .ref 131), (1, vi x1)] [] s195 _
                    refine pr_n (pc2 := 344) (lv2 := [(11, vi z194), (10, vi (plc ((stp ((stp t2)))))), (5, vi 0), (4, vi (nkd t2 z2)), (3, vi z2), (2, vi (plc t)), (0, .ref 131), (1, vi x1)]) (st2 := [vi (plc ((stp ((stp t2))))), vi z194, .ref 131]) 3 (fun _ _ => rfl) ?_
                    refine pr_m1 (args := [vi z194, vi (plc ((stp ((stp t2)))))]) (rest := []) rfl rfl rfl rfl (Nat.le_of_ble_eq_true rfl) rfl (h_72 s195 ((stp t194)) z194 (plc ((stp ((stp t2))))) hE195 hz194 hz193) ?_
                    rintro _ z196 t196 s196 ⟨rfl, hz196⟩ hE196
                    show pr K K d tb_M71 347 [(11, vi z194), (10, vi (plc ((stp ((stp t2)))))), (5, vi 0), (4, vi (nkd t2 z2)), (3, vi z2), (2, vi (plc t)), (0, .ref 131), (1, vi x1)] [vi z196] s196 _
                    refine pr_n (pc2 := 350) (lv2 := [(12, vi z196), (11, vi z194), (10, vi (plc ((stp ((stp t2)))))), (5, vi 0), (4, vi (nkd t2 z2)), (3, vi z2), (2, vi (plc t)), (0, .ref 131), (1, vi x1)]) (st2 := [.ref 131]) 2 (fun _ _ => rfl) ?_
                    refine pr_get (v := .ref 137) rfl rfl rfl (by decide) (rv_ref (hE196.2.1 131 0 137 rfl)) fun _ => ?_
                    refine pr_s1 (args := []) (rest := []) rfl rfl rfl rfl (Nat.le_of_ble_eq_true rfl) rfl (h_34 s196 t196  hE196 ) s_kkd ?_
                    rintro _ s197 ⟨rfl, hz197⟩ hE197
                    show pr K K d tb_M71 356 [(12, vi z196), (11, vi z194), (10, vi (plc ((stp ((stp t2)))))), (5, vi 0), (4, vi (nkd t2 z2)), (3, vi z2), (2, vi (plc t)), (0, .ref 131), (1, vi x1)] [vi (kkd t196)] s197 _
                    refine pr_n (pc2 := 358) (lv2 := [(12, vi z196), (11, vi z194), (10, vi (plc ((stp ((stp t2)))))), (5, vi 0), (4, vi (nkd t2 z2)), (3, vi z2), (2, vi (plc t)), (0, .ref 131), (1, vi x1)]) (st2 := [vi 91, vi (kkd t196)]) 1 (fun _ _ => rfl) ?_
                    by_cases h198 : kkd t196 ≠ 91
                    · refine mq_t h198 ?_
                      refine pr_if2t rfl rfl hz197 (i32_n rfl) h198 ?_
                      refine pr_n (pc2 := 375) (lv2 := [(13, vi ((-1))), (12, vi z196), (11, vi z194), (10, vi (plc ((stp ((stp t2)))))), (5, vi 0), (4, vi (nkd t2 z2)), (3, vi z2), (2, vi (plc t)), (0, .ref 131), (1, vi x1)]) (st2 := [vi 59, .ref 131]) 4 (fun _ _ => rfl) ?_
                      refine pr_m1 (args := [vi 59]) (rest := []) rfl rfl rfl rfl (Nat.le_of_ble_eq_true rfl) rfl (h_43 s197 t196 59 hE197 (i32_n rfl)) ?_
                      rintro _ _ t199 s199 ⟨rfl, rfl⟩ hE199
                      show pr K K d tb_M71 378 [(13, vi ((-1))), (12, vi z196), (11, vi z194), (10, vi (plc ((stp ((stp t2)))))), (5, vi 0), (4, vi (nkd t2 z2)), (3, vi z2), (2, vi (plc t)), (0, .ref 131), (1, vi x1)] [] s199 _
                      refine pr_n (pc2 := 380) (lv2 := [(13, vi ((-1))), (12, vi z196), (11, vi z194), (10, vi (plc ((stp ((stp t2)))))), (5, vi 0), (4, vi (nkd t2 z2)), (3, vi z2), (2, vi (plc t)), (0, .ref 131), (1, vi x1)]) (st2 := [.ref 131, .ref 131]) 2 (fun _ _ => rfl) ?_
                      refine pr_gE (k2 := 131) (v := vl (t199 131 9)) hE199 rfl rfl rfl (by decide) rfl rfl rfl fun h200 => ?_
                      have h200 : i64 (t199 131 9) := h200
                      refine pr_n (pc2 := 388) (lv2 := [(13, vi ((-1))), (12, vi z196), (11, vi z194), (10, vi (plc ((stp ((stp t2)))))), (5, vi 0), (4, vi (nkd t2 z2)), (3, vi z2), (2, vi (plc t)), (0, .ref 131), (1, vi x1)]) (st2 := [vi z2, .ref 131, vi 12, vl 1, vl (t199 131 9), .ref 131]) 4 (fun _ _ => rfl) ?_
                      refine pr_s1 (args := [vi z2]) (rest := [vi 12, vl 1, vl (t199 131 9), .ref 131]) rfl rfl rfl rfl (Nat.le_of_ble_eq_true rfl) rfl (h_73 s199 t199 z2 hE199 hz2) s_lin ?_
                      rintro _ s201 ⟨rfl, hz201⟩ hE201
                      show pr K K d tb_M71 391 [(13, vi ((-1))), (12, vi z196), (11, vi z194), (10, vi (plc ((stp ((stp t2)))))), (5, vi 0), (4, vi (nkd t2 z2)), (3, vi z2), (2, vi (plc t)), (0, .ref 131), (1, vi x1)] [vi (lin t199 z2), vi 12, vl 1, vl (t199 131 9), .ref 131] s201 _
                      refine pr_i2 (a := 12) (b := lin t199 z2) rfl rfl ?_
                      show pr K K d tb_M71 392 [(13, vi ((-1))), (12, vi z196), (11, vi z194), (10, vi (plc ((stp ((stp t2)))))), (5, vi 0), (4, vi (nkd t2 z2)), (3, vi z2), (2, vi (plc t)), (0, .ref 131), (1, vi x1)] [vi (ipl 12 (lin t199 z2)), vl 1, vl (t199 131 9), .ref 131] s201 _
                      have h202 : i32 (ipl 12 (lin t199 z2)) := i32_in _
                      refine pr_lshl (a := 1) (b := ipl 12 (lin t199 z2)) rfl ?_
                      refine pr_l2 (a := t199 131 9) (b := lsl 1 (ipl 12 (lin t199 z2))) rfl rfl ?_
                      show pr K K d tb_M71 394 [(13, vi ((-1))), (12, vi z196), (11, vi z194), (10, vi (plc ((stp ((stp t2)))))), (5, vi 0), (4, vi (nkd t2 z2)), (3, vi z2), (2, vi (plc t)), (0, .ref 131), (1, vi x1)] [vl (lo (t199 131 9) (lsl 1 (ipl 12 (lin t199 z2)))), .ref 131] s201 _
                      refine pr_pE (k2 := 131) (z := lo (t199 131 9) (lsl 1 (ipl 12 (lin t199 z2)))) hE201 rfl rfl rfl rfl (by decide) rfl (by decide) rfl (i64_in _) (fit_l _) rfl rfl rfl (fun e => absurd e.2 (by decide)) (iv_c (by decide)) fun s203 hE203 => ?_
                      refine pr_n (pc2 := 398) (lv2 := [(13, vi ((-1))), (12, vi z196), (11, vi z194), (10, vi (plc ((stp ((stp t2)))))), (5, vi 0), (4, vi (nkd t2 z2)), (3, vi z2), (2, vi (plc t)), (0, .ref 131), (1, vi x1)]) (st2 := [.ref 131]) 1 (fun _ _ => rfl) ?_
                      refine pr_get (v := .ref C) rfl rfl rfl (by decide) (rv_ref (show s203.1 131 1 = ((C : Nat) : Int) from hE203.2.2.1)) fun _ => ?_
                      refine pr_n (pc2 := 406) (lv2 := [(13, vi ((-1))), (12, vi z196), (11, vi z194), (10, vi (plc ((stp ((stp t2)))))), (5, vi 0), (4, vi (nkd t2 z2)), (3, vi z2), (2, vi (plc t)), (0, .ref 131), (1, vi x1)]) (st2 := [vi z2, .ref 131, vi 407, .ref C]) 3 (fun _ _ => rfl) ?_
                      refine pr_s1 (args := [vi z2]) (rest := [vi 407, .ref C]) rfl rfl rfl rfl (Nat.le_of_ble_eq_true rfl) rfl (h_73 s203 (up2 t199 131 9 (lo (t199 131 9) (lsl 1 (ipl 12 (lin t199 z2))))) z2 hE203 hz2) s_lin ?_
                      rintro _ s204 ⟨rfl, hz204⟩ hE204
                      show pr K K d tb_M71 409 [(13, vi ((-1))), (12, vi z196), (11, vi z194), (10, vi (plc ((stp ((stp t2)))))), (5, vi 0), (4, vi (nkd t2 z2)), (3, vi z2), (2, vi (plc t)), (0, .ref 131), (1, vi x1)] [vi (lin (up2 t199 131 9 (lo (t199 131 9) (lsl 1 (ipl 12 (lin t199 z2))))) z2), vi 407, .ref C] s204 _
                      refine pr_n (pc2 := 413) (lv2 := [(13, vi ((-1))), (12, vi z196), (11, vi z194), (10, vi (plc ((stp ((stp t2)))))), (5, vi 0), (4, vi (nkd t2 z2)), (3, vi z2), (2, vi (plc t)), (0, .ref 131), (1, vi x1)]) (st2 := [vi ((-1)), vi z196, vi (lin (up2 t199 131 9 (lo (t199 131 9) (lsl 1 (ipl 12 (lin t199 z2))))) z2), vi 407, .ref C]) 2 (fun _ _ => rfl) ?_
                      refine pr_s1 (args := [vi 407, vi (lin (up2 t199 131 9 (lo (t199 131 9) (lsl 1 (ipl 12 (lin t199 z2))))) z2), vi z196, vi ((-1))]) (rest := []) rfl rfl rfl (TK0 hC) (Nat.le_of_ble_eq_true rfl) rfl (h_54 s204 (up2 t199 131 9 (lo (t199 131 9) (lsl 1 (ipl 12 (lin t199 z2))))) 407 (lin (up2 t199 131 9 (lo (t199 131 9) (lsl 1 (ipl 12 (lin t199 z2))))) z2) z196 ((-1)) hE204 (i32_n rfl) hz204 hz196 (i32_n rfl)) s_cad ?_
                      rintro _ s205 ⟨rfl, hz205⟩ hE205
                      show pr K K d tb_M71 416 [(13, vi ((-1))), (12, vi z196), (11, vi z194), (10, vi (plc ((stp ((stp t2)))))), (5, vi 0), (4, vi (nkd t2 z2)), (3, vi z2), (2, vi (plc t)), (0, .ref 131), (1, vi x1)] [vi (cadz (up2 t199 131 9 (lo (t199 131 9) (lsl 1 (ipl 12 (lin t199 z2))))))] s205 _
                      refine pr_reti rfl rfl ?_
                      exact .inl ⟨_, cadz (up2 t199 131 9 (lo (t199 131 9) (lsl 1 (ipl 12 (lin t199 z2))))), _, rfl, ⟨rfl, hz205⟩, rfl, hE205⟩
                    · refine mq_f h198 ?_
                      refine pr_if2f rfl rfl hz197 (i32_n rfl) h198 ?_
                      refine pr_n (pc2 := 363) (lv2 := [(12, vi z196), (11, vi z194), (10, vi (plc ((stp ((stp t2)))))), (5, vi 0), (4, vi (nkd t2 z2)), (3, vi z2), (2, vi (plc t)), (0, .ref 131), (1, vi x1)]) (st2 := [vi x1, .ref 131]) 2 (fun _ _ => rfl) ?_
                      refine pr_m1 (args := [vi x1]) (rest := []) rfl rfl rfl rfl (Nat.le_of_ble_eq_true rfl) rfl (h_64 s197 t196 x1 hE197 hx1) ?_
                      rintro _ z206 t206 s206 ⟨rfl, hz206⟩ hE206
                      show pr K K d tb_M71 366 [(12, vi z196), (11, vi z194), (10, vi (plc ((stp ((stp t2)))))), (5, vi 0), (4, vi (nkd t2 z2)), (3, vi z2), (2, vi (plc t)), (0, .ref 131), (1, vi x1)] [vi z206] s206 _
                      refine pr_n (pc2 := 375) (lv2 := [(13, vi z206), (12, vi z196), (11, vi z194), (10, vi (plc ((stp ((stp t2)))))), (5, vi 0), (4, vi (nkd t2 z2)), (3, vi z2), (2, vi (plc t)), (0, .ref 131), (1, vi x1)]) (st2 := [vi 59, .ref 131]) 4 (fun _ _ => rfl) ?_
                      refine pr_m1 (args := [vi 59]) (rest := []) rfl rfl rfl rfl (Nat.le_of_ble_eq_true rfl) rfl (h_43 s206 t206 59 hE206 (i32_n rfl)) ?_
                      rintro _ _ t207 s207 ⟨rfl, rfl⟩ hE207
                      show pr K K d tb_M71 378 [(13, vi z206), (12, vi z196), (11, vi z194), (10, vi (plc ((stp ((stp t2)))))), (5, vi 0), (4, vi (nkd t2 z2)), (3, vi z2), (2, vi (plc t)), (0, .ref 131), (1, vi x1)] [] s207 _
                      refine pr_n (pc2 := 380) (lv2 := [(13, vi z206), (12, vi z196), (11, vi z194), (10, vi (plc ((stp ((stp t2)))))), (5, vi 0), (4, vi (nkd t2 z2)), (3, vi z2), (2, vi (plc t)), (0, .ref 131), (1, vi x1)]) (st2 := [.ref 131, .ref 131]) 2 (fun _ _ => rfl) ?_
                      refine pr_gE (k2 := 131) (v := vl (t207 131 9)) hE207 rfl rfl rfl (by decide) rfl rfl rfl fun h208 => ?_
                      have h208 : i64 (t207 131 9) := h208
                      refine pr_n (pc2 := 388) (lv2 := [(13, vi z206), (12, vi z196), (11, vi z194), (10, vi (plc ((stp ((stp t2)))))), (5, vi 0), (4, vi (nkd t2 z2)), (3, vi z2), (2, vi (plc t)), (0, .ref 131), (1, vi x1)]) (st2 := [vi z2, .ref 131, vi 12, vl 1, vl (t207 131 9), .ref 131]) 4 (fun _ _ => rfl) ?_
                      refine pr_s1 (args := [vi z2]) (rest := [vi 12, vl 1, vl (t207 131 9), .ref 131]) rfl rfl rfl rfl (Nat.le_of_ble_eq_true rfl) rfl (h_73 s207 t207 z2 hE207 hz2) s_lin ?_
                      rintro _ s209 ⟨rfl, hz209⟩ hE209
                      show pr K K d tb_M71 391 [(13, vi z206), (12, vi z196), (11, vi z194), (10, vi (plc ((stp ((stp t2)))))), (5, vi 0), (4, vi (nkd t2 z2)), (3, vi z2), (2, vi (plc t)), (0, .ref 131), (1, vi x1)] [vi (lin t207 z2), vi 12, vl 1, vl (t207 131 9), .ref 131] s209 _
                      refine pr_i2 (a := 12) (b := lin t207 z2) rfl rfl ?_
                      show pr K K d tb_M71 392 [(13, vi z206), (12, vi z196), (11, vi z194), (10, vi (plc ((stp ((stp t2)))))), (5, vi 0), (4, vi (nkd t2 z2)), (3, vi z2), (2, vi (plc t)), (0, .ref 131), (1, vi x1)] [vi (ipl 12 (lin t207 z2)), vl 1, vl (t207 131 9), .ref 131] s209 _
                      have h210 : i32 (ipl 12 (lin t207 z2)) := i32_in _
                      refine pr_lshl (a := 1) (b := ipl 12 (lin t207 z2)) rfl ?_
                      refine pr_l2 (a := t207 131 9) (b := lsl 1 (ipl 12 (lin t207 z2))) rfl rfl ?_
                      show pr K K d tb_M71 394 [(13, vi z206), (12, vi z196), (11, vi z194), (10, vi (plc ((stp ((stp t2)))))), (5, vi 0), (4, vi (nkd t2 z2)), (3, vi z2), (2, vi (plc t)), (0, .ref 131), (1, vi x1)] [vl (lo (t207 131 9) (lsl 1 (ipl 12 (lin t207 z2)))), .ref 131] s209 _
                      refine pr_pE (k2 := 131) (z := lo (t207 131 9) (lsl 1 (ipl 12 (lin t207 z2)))) hE209 rfl rfl rfl rfl (by decide) rfl (by decide) rfl (i64_in _) (fit_l _) rfl rfl rfl (fun e => absurd e.2 (by decide)) (iv_c (by decide)) fun s211 hE211 => ?_
                      refine pr_n (pc2 := 398) (lv2 := [(13, vi z206), (12, vi z196), (11, vi z194), (10, vi (plc ((stp ((stp t2)))))), (5, vi 0), (4, vi (nkd t2 z2)), (3, vi z2), (2, vi (plc t)), (0, .ref 131), (1, vi x1)]) (st2 := [.ref 131]) 1 (fun _ _ => rfl) ?_
                      refine pr_get (v := .ref C) rfl rfl rfl (by decide) (rv_ref (show s211.1 131 1 = ((C : Nat) : Int) from hE211.2.2.1)) fun _ => ?_
                      refine pr_n (pc2 := 406) (lv2 := [(13, vi z206), (12, vi z196), (11, vi z194), (10, vi (plc ((stp ((stp t2)))))), (5, vi 0), (4, vi (nkd t2 z2)), (3, vi z2), (2, vi (plc t)), (0, .ref 131), (1, vi x1)]) (st2 := [vi z2, .ref 131, vi 407, .ref C]) 3 (fun _ _ => rfl) ?_
                      refine pr_s1 (args := [vi z2]) (rest := [vi 407, .ref C]) rfl rfl rfl rfl (Nat.le_of_ble_eq_true rfl) rfl (h_73 s211 (up2 t207 131 9 (lo (t207 131 9) (lsl 1 (ipl 12 (lin t207 z2))))) z2 hE211 hz2) s_lin ?_
                      rintro _ s212 ⟨rfl, hz212⟩ hE212
                      show pr K K d tb_M71 409 [(13, vi z206), (12, vi z196), (11, vi z194), (10, vi (plc ((stp ((stp t2)))))), (5, vi 0), (4, vi (nkd t2 z2)), (3, vi z2), (2, vi (plc t)), (0, .ref 131), (1, vi x1)] [vi (lin (up2 t207 131 9 (lo (t207 131 9) (lsl 1 (ipl 12 (lin t207 z2))))) z2), vi 407, .ref C] s212 _
                      refine pr_n (pc2 := 413) (lv2 := [(13, vi z206), (12, vi z196), (11, vi z194), (10, vi (plc ((stp ((stp t2)))))), (5, vi 0), (4, vi (nkd t2 z2)), (3, vi z2), (2, vi (plc t)), (0, .ref 131), (1, vi x1)]) (st2 := [vi z206, vi z196, vi (lin (up2 t207 131 9 (lo (t207 131 9) (lsl 1 (ipl 12 (lin t207 z2))))) z2), vi 407, .ref C]) 2 (fun _ _ => rfl) ?_
                      refine pr_s1 (args := [vi 407, vi (lin (up2 t207 131 9 (lo (t207 131 9) (lsl 1 (ipl 12 (lin t207 z2))))) z2), vi z196, vi z206]) (rest := []) rfl rfl rfl (TK0 hC) (Nat.le_of_ble_eq_true rfl) rfl (h_54 s212 (up2 t207 131 9 (lo (t207 131 9) (lsl 1 (ipl 12 (lin t207 z2))))) 407 (lin (up2 t207 131 9 (lo (t207 131 9) (lsl 1 (ipl 12 (lin t207 z2))))) z2) z196 z206 hE212 (i32_n rfl) hz212 hz196 hz206) s_cad ?_
                      rintro _ s213 ⟨rfl, hz213⟩ hE213
                      show pr K K d tb_M71 416 [(13, vi z206), (12, vi z196), (11, vi z194), (10, vi (plc ((stp ((stp t2)))))), (5, vi 0), (4, vi (nkd t2 z2)), (3, vi z2), (2, vi (plc t)), (0, .ref 131), (1, vi x1)] [vi (cadz (up2 t207 131 9 (lo (t207 131 9) (lsl 1 (ipl 12 (lin t207 z2))))))] s213 _
                      refine pr_reti rfl rfl ?_
                      exact .inl ⟨_, cadz (up2 t207 131 9 (lo (t207 131 9) (lsl 1 (ipl 12 (lin t207 z2))))), _, rfl, ⟨rfl, hz213⟩, rfl, hE213⟩
              · refine mq_f h164 ?_
                by_cases h214 : kkd ((stp t2)) = 91
                · refine mq_t h214 ?_
                  refine pr_lsw rfl (by decide) hz128 (by rw [h214]) rfl ?_
                  refine pr_n (pc2 := 147) (lv2 := [(5, vi 0), (4, vi (nkd t2 z2)), (3, vi z2), (2, vi (plc t)), (0, .ref 131), (1, vi x1)]) (st2 := [vi (plc t), vi z2, .ref 131]) 3 (fun _ _ => rfl) ?_
                  refine pr_m1 (args := [vi z2, vi (plc t)]) (rest := []) rfl rfl rfl rfl (Nat.le_of_ble_eq_true rfl) rfl (h_72 s128 ((stp t2)) z2 (plc t) hE128 hz2 hz1) ?_
                  rintro _ z215 t215 s215 ⟨rfl, hz215⟩ hE215
                  show pr K K d tb_M71 150 [(5, vi 0), (4, vi (nkd t2 z2)), (3, vi z2), (2, vi (plc t)), (0, .ref 131), (1, vi x1)] [vi z215] s215 _
                  refine pr_n (pc2 := 153) (lv2 := [(6, vi z215), (5, vi 0), (4, vi (nkd t2 z2)), (3, vi z2), (2, vi (plc t)), (0, .ref 131), (1, vi x1)]) (st2 := [.ref 131]) 2 (fun _ _ => rfl) ?_
                  refine pr_get (v := .ref 137) rfl rfl rfl (by decide) (rv_ref (hE215.2.1 131 0 137 rfl)) fun _ => ?_
                  refine pr_s1 (args := []) (rest := []) rfl rfl rfl rfl (Nat.le_of_ble_eq_true rfl) rfl (h_34 s215 t215  hE215 ) s_kkd ?_
                  rintro _ s216 ⟨rfl, hz216⟩ hE216
                  show pr K K d tb_M71 159 [(6, vi z215), (5, vi 0), (4, vi (nkd t2 z2)), (3, vi z2), (2, vi (plc t)), (0, .ref 131), (1, vi x1)] [vi (kkd t215)] s216 _
                  refine pr_n (pc2 := 161) (lv2 := [(6, vi z215), (5, vi 0), (4, vi (nkd t2 z2)), (3, vi z2), (2, vi (plc t)), (0, .ref 131), (1, vi x1)]) (st2 := [vi 91, vi (kkd t215)]) 1 (fun _ _ => rfl) ?_
                  by_cases h217 : kkd t215 ≠ 91
                  · refine mq_t h217 ?_
                    refine pr_if2t rfl rfl hz216 (i32_n rfl) h217 ?_
                    refine pr_n (pc2 := 178) (lv2 := [(7, vi ((-1))), (6, vi z215), (5, vi 0), (4, vi (nkd t2 z2)), (3, vi z2), (2, vi (plc t)), (0, .ref 131), (1, vi x1)]) (st2 := [vi 61, .ref 131]) 4 (fun _ _ => rfl) ?_
                    refine pr_m1 (args := [vi 61]) (rest := []) rfl rfl rfl rfl (Nat.le_of_ble_eq_true rfl) rfl (h_43 s216 t215 61 hE216 (i32_n rfl)) ?_
                    rintro _ _ t218 s218 ⟨rfl, rfl⟩ hE218
                    show pr K K d tb_M71 181 [(7, vi ((-1))), (6, vi z215), (5, vi 0), (4, vi (nkd t2 z2)), (3, vi z2), (2, vi (plc t)), (0, .ref 131), (1, vi x1)] [] s218 _
                    refine pr_n (pc2 := 183) (lv2 := [(7, vi ((-1))), (6, vi z215), (5, vi 0), (4, vi (nkd t2 z2)), (3, vi z2), (2, vi (plc t)), (0, .ref 131), (1, vi x1)]) (st2 := [vi x1, .ref 131]) 2 (fun _ _ => rfl) ?_
                    refine pr_m1 (args := [vi x1]) (rest := []) rfl rfl rfl rfl (Nat.le_of_ble_eq_true rfl) rfl (h_57 s218 t218 x1 hE218 hx1) ?_
                    rintro _ z219 t219 s219 ⟨rfl, hz219⟩ hE219
                    show pr K K d tb_M71 186 [(7, vi ((-1))), (6, vi z215), (5, vi 0), (4, vi (nkd t2 z2)), (3, vi z2), (2, vi (plc t)), (0, .ref 131), (1, vi x1)] [vi z219] s219 _
                    refine pr_n (pc2 := 191) (lv2 := [(8, vi z219), (7, vi ((-1))), (6, vi z215), (5, vi 0), (4, vi (nkd t2 z2)), (3, vi z2), (2, vi (plc t)), (0, .ref 131), (1, vi x1)]) (st2 := [vi 59, .ref 131]) 3 (fun _ _ => rfl) ?_
                    refine pr_m1 (args := [vi 59]) (rest := []) rfl rfl rfl rfl (Nat.le_of_ble_eq_true rfl) rfl (h_43 s219 t219 59 hE219 (i32_n rfl)) ?_
                    rintro _ _ t220 s220 ⟨rfl, rfl⟩ hE220
                    show pr K K d tb_M71 194 [(8, vi z219), (7, vi ((-1))), (6, vi z215), (5, vi 0), (4, vi (nkd t2 z2)), (3, vi z2), (2, vi (plc t)), (0, .ref 131), (1, vi x1)] [] s220 _
                    refine pr_n (pc2 := 195) (lv2 := [(8, vi z219), (7, vi ((-1))), (6, vi z215), (5, vi 0), (4, vi (nkd t2 z2)), (3, vi z2), (2, vi (plc t)), (0, .ref 131), (1, vi x1)]) (st2 := [.ref 131]) 1 (fun _ _ => rfl) ?_
                    refine pr_get (v := .ref C) rfl rfl rfl (by decide) (rv_ref (show s220.1 131 1 = ((C : Nat) : Int) from hE220.2.2.1)) fun _ => ?_
                    refine pr_n (pc2 := 207) (lv2 := [(8, vi z219), (7, vi ((-1))), (6, vi z215), (5, vi 0), (4, vi (nkd t2 z2)), (3, vi z2), (2, vi (plc t)), (0, .ref 131), (1, vi x1)]) (st2 := [vi ((-1)), vi z219, vi z215, vi 405, .ref C]) 4 (fun _ _ => rfl) ?_
                    refine pr_s1 (args := [vi 405, vi z215, vi z219, vi ((-1))]) (rest := []) rfl rfl rfl (TK0 hC) (Nat.le_of_ble_eq_true rfl) rfl (h_54 s220 t220 405 z215 z219 ((-1)) hE220 (i32_n rfl) hz215 hz219 (i32_n rfl)) s_cad ?_
                    rintro _ s221 ⟨rfl, hz221⟩ hE221
                    show pr K K d tb_M71 210 [(8, vi z219), (7, vi ((-1))), (6, vi z215), (5, vi 0), (4, vi (nkd t2 z2)), (3, vi z2), (2, vi (plc t)), (0, .ref 131), (1, vi x1)] [vi (cadz t220)] s221 _
                    refine pr_reti rfl rfl ?_
                    exact .inl ⟨_, cadz t220, _, rfl, ⟨rfl, hz221⟩, rfl, hE221⟩
                  · refine mq_f h217 ?_
                    refine pr_if2f rfl rfl hz216 (i32_n rfl) h217 ?_
                    refine pr_n (pc2 := 166) (lv2 := [(6, vi z215), (5, vi 0), (4, vi (nkd t2 z2)), (3, vi z2), (2, vi (plc t)), (0, .ref 131), (1, vi x1)]) (st2 := [vi x1, .ref 131]) 2 (fun _ _ => rfl) ?_
                    refine pr_m1 (args := [vi x1]) (rest := []) rfl rfl rfl rfl (Nat.le_of_ble_eq_true rfl) rfl (h_64 s216 t215 x1 hE216 hx1) ?_
                    rintro _ z222 t222 s222 ⟨rfl, hz222⟩ hE222
                    show pr K K d tb_M71 169 [(6, vi z215), (5, vi 0), (4, vi (nkd t2 z2)), (3, vi z2), (2, vi (plc t)), (0, .ref 131), (1, vi x1)] [vi z222] s222 _
                    refine pr_n (pc2 := 178) (lv2 := [(7, vi z222), (6, vi z215), (5, vi 0), (4, vi (nkd t2 z2)), (3, vi z2), (2, vi (plc t)), (0, .ref 131), (1, vi x1)]) (st2 := [vi 61, .ref 131]) 4 (fun _ _ => rfl) ?_
                    refine pr_m1 (args := [vi 61]) (rest := []) rfl rfl rfl rfl (Nat.le_of_ble_eq_true rfl) rfl (h_43 s222 t222 61 hE222 (i32_n rfl)) ?_
                    rintro _ _ t223 s223 ⟨rfl, rfl⟩ hE223
                    show pr K K d tb_M71 181 [(7, vi z222), (6, vi z215), (5, vi 0), (4, vi (nkd t2 z2)), (3, vi z2), (2, vi (plc t)), (0, .ref 131), (1, vi x1)] [] s223 _
                    refine pr_n (pc2 := 183) (lv2 := [(7, vi z222), (6, vi z215), (5, vi 0), (4, vi (nkd t2 z2)), (3, vi z2), (2, vi (plc t)), (0, .ref 131), (1, vi x1)]) (st2 := [vi x1, .ref 131]) 2 (fun _ _ => rfl) ?_
                    refine pr_m1 (args := [vi x1]) (rest := []) rfl rfl rfl rfl (Nat.le_of_ble_eq_true rfl) rfl (h_57 s223 t223 x1 hE223 hx1) ?_
                    rintro _ z224 t224 s224 ⟨rfl, hz224⟩ hE224
                    show pr K K d tb_M71 186 [(7, vi z222), (6, vi z215), (5, vi 0), (4, vi (nkd t2 z2)), (3, vi z2), (2, vi (plc t)), (0, .ref 131), (1, vi x1)] [vi z224] s224 _
                    refine pr_n (pc2 := 191) (lv2 := [(8, vi z224), (7, vi z222), (6, vi z215), (5, vi 0), (4, vi (nkd t2 z2)), (3, vi z2), (2, vi (plc t)), (0, .ref 131), (1, vi x1)]) (st2 := [vi 59, .ref 131]) 3 (fun _ _ => rfl) ?_
                    refine pr_m1 (args := [vi 59]) (rest := []) rfl rfl rfl rfl (Nat.le_of_ble_eq_true rfl) rfl (h_43 s224 t224 59 hE224 (i32_n rfl)) ?_
                    rintro _ _ t225 s225 ⟨rfl, rfl⟩ hE225
                    show pr K K d tb_M71 194 [(8, vi z224), (7, vi z222), (6, vi z215), (5, vi 0), (4, vi (nkd t2 z2)), (3, vi z2), (2, vi (plc t)), (0, .ref 131), (1, vi x1)] [] s225 _
                    refine pr_n (pc2 := 195) (lv2 := [(8, vi z224), (7, vi z222), (6, vi z215), (5, vi 0), (4, vi (nkd t2 z2)), (3, vi z2), (2, vi (plc t)), (0, .ref 131), (1, vi x1)]) (st2 := [.ref 131]) 1 (fun _ _ => rfl) ?_
                    refine pr_get (v := .ref C) rfl rfl rfl (by decide) (rv_ref (show s225.1 131 1 = ((C : Nat) : Int) from hE225.2.2.1)) fun _ => ?_
                    refine pr_n (pc2 := 207) (lv2 := [(8, vi z224), (7, vi z222), (6, vi z215), (5, vi 0), (4, vi (nkd t2 z2)), (3, vi z2), (2, vi (plc t)), (0, .ref 131), (1, vi x1)]) (st2 := [vi z222, vi z224, vi z215, vi 405, .ref C]) 4 (fun _ _ => rfl) ?_
                    refine pr_s1 (args := [vi 405, vi z215, vi z224, vi z222]) (rest := []) rfl rfl rfl (TK0 hC) (Nat.le_of_ble_eq_true rfl) rfl (h_54 s225 t225 405 z215 z224 z222 hE225 (i32_n rfl) hz215 hz224 hz222) s_cad ?_
                    rintro _ s226 ⟨rfl, hz226⟩ hE226
                    show pr K K d tb_M71 210 [(8, vi z224), (7, vi z222), (6, vi z215), (5, vi 0), (4, vi (nkd t2 z2)), (3, vi z2), (2, vi (plc t)), (0, .ref 131), (1, vi x1)] [vi (cadz t225)] s226 _
                    refine pr_reti rfl rfl ?_
                    exact .inl ⟨_, cadz t225, _, rfl, ⟨rfl, hz226⟩, rfl, hE226⟩
                · refine mq_f h214 ?_
                  refine pr_lsw rfl (by decide) hz128 (ls_no _ ⟨by omega, by omega, by omega, by omega, trivial⟩) rfl ?_
                  refine pr_n (pc2 := 419) (lv2 := [(5, vi 0), (4, vi (nkd t2 z2)), (3, vi z2), (2, vi (plc t)), (0, .ref 131), (1, vi x1)]) (st2 := [.ref 131, .ref 131]) 2 (fun _ _ => rfl) ?_
                  refine pr_get (v := .ref 137) rfl rfl rfl (by decide) (rv_ref (hE128.2.1 131 0 137 rfl)) fun _ => ?_
                  refine pr_s1 (args := []) (rest := [.ref 131]) rfl rfl rfl rfl (Nat.le_of_ble_eq_true rfl) rfl (h_34 s128 ((stp t2))  hE128 ) s_kkd ?_
                  rintro _ s227 ⟨rfl, hz227⟩ hE227
                  show pr K K d tb_M71 425 [(5, vi 0), (4, vi (nkd t2 z2)), (3, vi z2), (2, vi (plc t)), (0, .ref 131), (1, vi x1)] [vi (kkd ((stp t2))), .ref 131] s227 _
                  refine pr_n (pc2 := 427) (lv2 := [(5, vi 0), (4, vi (nkd t2 z2)), (3, vi z2), (2, vi (plc t)), (0, .ref 131), (1, vi x1)]) (st2 := [vi 40, vi (kkd ((stp t2))), .ref 131]) 1 (fun _ _ => rfl) ?_
                  by_cases h228 : kkd ((stp t2)) ≠ 40
                  · refine mq_t h228 ?_
                    refine pr_if2t rfl rfl hz227 (i32_n rfl) h228 ?_
                    refine pr_n (pc2 := 436) (lv2 := [(5, vi 0), (4, vi (nkd t2 z2)), (3, vi z2), (2, vi (plc t)), (0, .ref 131), (1, vi x1)]) (st2 := [.ref 131, vi 0, .ref 131]) 2 (fun _ _ => rfl) ?_
                    refine pr_get (v := .ref 137) rfl rfl rfl (by decide) (rv_ref (hE227.2.1 131 0 137 rfl)) fun _ => ?_
                    refine pr_s1 (args := []) (rest := [vi 0, .ref 131]) rfl rfl rfl rfl (Nat.le_of_ble_eq_true rfl) rfl (h_40 s227 ((stp t2))  hE227 ) s_plc ?_
                    rintro _ s229 ⟨rfl, hz229⟩ hE229
                    show pr K K d tb_M71 442 [(5, vi 0), (4, vi (nkd t2 z2)), (3, vi z2), (2, vi (plc t)), (0, .ref 131), (1, vi x1)] [vi (plc ((stp t2))), vi 0, .ref 131] s229 _
                    exact pr_c1 (args := [vi 0, vi (plc ((stp t2)))]) (rest := []) rfl rfl rfl rfl (Nat.le_of_ble_eq_true rfl) rfl (h_41 s229 ((stp t2)) 0 (plc ((stp t2))) hE229 (by decide) hz229) chk0
                  · refine mq_f h228 ?_
                    refine pr_if2f rfl rfl hz227 (i32_n rfl) h228 ?_
                    refine pr_n (pc2 := 436) (lv2 := [(5, vi 0), (4, vi (nkd t2 z2)), (3, vi z2), (2, vi (plc t)), (0, .ref 131), (1, vi x1)]) (st2 := [.ref 131, vi 1, .ref 131]) 3 (fun _ _ => rfl) ?_
                    refine pr_get (v := .ref 137) rfl rfl rfl (by decide) (rv_ref (hE227.2.1 131 0 137 rfl)) fun _ => ?_
                    refine pr_s1 (args := []) (rest := [vi 1, .ref 131]) rfl rfl rfl rfl (Nat.le_of_ble_eq_true rfl) rfl (h_40 s227 ((stp t2))  hE227 ) s_plc ?_
                    rintro _ s231 ⟨rfl, hz231⟩ hE231
                    show pr K K d tb_M71 442 [(5, vi 0), (4, vi (nkd t2 z2)), (3, vi z2), (2, vi (plc t)), (0, .ref 131), (1, vi x1)] [vi (plc ((stp t2))), vi 1, .ref 131] s231 _
                    refine pr_s1 (args := [vi 1, vi (plc ((stp t2)))]) (rest := []) rfl rfl rfl rfl (Nat.le_of_ble_eq_true rfl) rfl (h_41 s231 ((stp t2)) 1 (plc ((stp t2))) hE231 (by decide) hz231) chk1 ?_
                    rintro _ s232 ⟨rfl, _⟩ hE232
                    show pr K K d tb_M71 445 [(5, vi 0), (4, vi (nkd t2 z2)), (3, vi z2), (2, vi (plc t)), (0, .ref 131), (1, vi x1)] [] s232 _
                    refine pr_n (pc2 := 449) (lv2 := [(5, vi 0), (4, vi (nkd t2 z2)), (3, vi z2), (2, vi (plc t)), (0, .ref 131), (1, vi x1)]) (st2 := [vi 5, vi (nkd t2 z2), .ref 131]) 3 (fun _ _ => rfl) ?_
                    refine pr_if2f rfl rfl hz3 (i32_n rfl) (show ¬ (nkd t2 z2 ≠ 5) by omega) ?_
                    show pr K K d tb_M71 452 [(5, vi 0), (4, vi (nkd t2 z2)), (3, vi z2), (2, vi (plc t)), (0, .ref 131), (1, vi x1)] [.ref 131] s232 _
                    refine pr_n (pc2 := 458) (lv2 := [(5, vi 0), (4, vi (nkd t2 z2)), (3, vi z2), (2, vi (plc t)), (0, .ref 131), (1, vi x1)]) (st2 := [vi (plc t), vi 1, .ref 131]) 3 (fun _ _ => rfl) ?_
                    refine pr_s1 (args := [vi 1, vi (plc t)]) (rest := []) rfl rfl rfl rfl (Nat.le_of_ble_eq_true rfl) rfl (h_41 s232 ((stp t2)) 1 (plc t) hE232 (by decide) hz1) chk1 ?_
                    rintro _ s233 ⟨rfl, _⟩ hE233
                    show pr K K d tb_M71 461 [(5, vi 0), (4, vi (nkd t2 z2)), (3, vi z2), (2, vi (plc t)), (0, .ref 131), (1, vi x1)] [] s233 _
                    refine pr_n (pc2 := 463) (lv2 := [(5, vi 0), (4, vi (nkd t2 z2)), (3, vi z2), (2, vi (plc t)), (0, .ref 131), (1, vi x1)]) (st2 := [.ref 131, .ref 131]) 2 (fun _ _ => rfl) ?_
                    refine pr_get (v := .ref C) rfl rfl rfl (by decide) (rv_ref (show s233.1 131 1 = ((C : Nat) : Int) from hE233.2.2.1)) fun _ => ?_
                    refine pr_get (v := .ref (C + 6)) rfl rfl (TK0 hC) (by decide) (rv_ref (hE233.2.1 C 5 (C + 6) (rcK hC (by omega)))) fun _ => ?_
                    refine pr_n (pc2 := 470) (lv2 := [(5, vi 0), (4, vi (nkd t2 z2)), (3, vi z2), (2, vi (plc t)), (0, .ref 131), (1, vi x1)]) (st2 := [vi z2, .ref (C + 6), .ref 131]) 1 (fun _ _ => rfl) ?_
                    refine pr_s1 (args := [vi z2]) (rest := [.ref 131]) rfl rfl rfl (TK6 hC) (Nat.le_of_ble_eq_true rfl) rfl (h_63 s233 ((stp t2)) z2 hE233 hz2) s_nnm ?_
                    rintro _ s234 ⟨rfl, hz234⟩ hE234
                    show pr K K d tb_M71 473 [(5, vi 0), (4, vi (nkd t2 z2)), (3, vi z2), (2, vi (plc t)), (0, .ref 131), (1, vi x1)] [vi (nnm ((stp t2)) z2), .ref 131] s234 _
                    refine pr_n (pc2 := 475) (lv2 := [(5, vi 0), (4, vi (nkd t2 z2)), (3, vi z2), (2, vi (plc t)), (0, .ref 131), (1, vi x1)]) (st2 := [vi x1, vi (plc t), vi (nnm ((stp t2)) z2), .ref 131]) 2 (fun _ _ => rfl) ?_
                    refine pr_m1 (args := [vi (nnm ((stp t2)) z2), vi (plc t), vi x1]) (rest := []) rfl rfl rfl rfl (Nat.le_of_ble_eq_true rfl) rfl (h_65 s234 ((stp t2)) (nnm ((stp t2)) z2) (plc t) x1 hE234 hz234 hz1 hx1) ?_
                    rintro _ z235 t235 s235 ⟨rfl, hz235⟩ hE235
                    show pr K K d tb_M71 478 [(5, vi 0), (4, vi (nkd t2 z2)), (3, vi z2), (2, vi (plc t)), (0, .ref 131), (1, vi x1)] [vi z235] s235 _
                    refine pr_n (pc2 := 483) (lv2 := [(14, vi z235), (5, vi 0), (4, vi (nkd t2 z2)), (3, vi z2), (2, vi (plc t)), (0, .ref 131), (1, vi x1)]) (st2 := [vi 59, .ref 131]) 3 (fun _ _ => rfl) ?_
                    refine pr_m1 (args := [vi 59]) (rest := []) rfl rfl rfl rfl (Nat.le_of_ble_eq_true rfl) rfl (h_43 s235 t235 59 hE235 (i32_n rfl)) ?_
                    rintro _ _ t236 s236 ⟨rfl, rfl⟩ hE236
                    show pr K K d tb_M71 486 [(14, vi z235), (5, vi 0), (4, vi (nkd t2 z2)), (3, vi z2), (2, vi (plc t)), (0, .ref 131), (1, vi x1)] [] s236 _
                    refine pr_n (pc2 := 488) (lv2 := [(14, vi z235), (5, vi 0), (4, vi (nkd t2 z2)), (3, vi z2), (2, vi (plc t)), (0, .ref 131), (1, vi x1)]) (st2 := [vi z235]) 1 (fun _ _ => rfl) ?_
                    refine pr_reti rfl rfl ?_
                    exact .inl ⟨_, z235, _, rfl, ⟨rfl, hz235⟩, rfl, hE236⟩
    · refine mq_f h120 ?_
      refine pr_if2f rfl rfl hz118 h119 h120 ?_
      refine pr_n (pc2 := 62) (lv2 := [(5, vi 1), (4, vi (nkd t2 z2)), (3, vi z2), (2, vi (plc t)), (0, .ref 131), (1, vi x1)]) (st2 := [vi 6, vi (nkd t2 z2), .ref 131]) 6 (fun _ _ => rfl) ?_
      by_cases h237 : nkd t2 z2 = 6
      · refine pr_if2t rfl rfl hz3 (i32_n rfl) h237 ?_
        refine pr_n (pc2 := 84) (lv2 := [(5, vi 1), (4, vi (nkd t2 z2)), (3, vi z2), (2, vi (plc t)), (0, .ref 131), (1, vi x1)]) (st2 := [vi (plc t), vi 0, .ref 131]) 2 (fun _ _ => rfl) ?_
        exact pr_c1 (args := [vi 0, vi (plc t)]) (rest := []) rfl rfl rfl rfl (Nat.le_of_ble_eq_true rfl) rfl (h_41 s118 t2 0 (plc t) hE118 (by decide) hz1) chk0
      · refine pr_if2f rfl rfl hz3 (i32_n rfl) h237 ?_
        refine pr_n (pc2 := 67) (lv2 := [(5, vi 1), (4, vi (nkd t2 z2)), (3, vi z2), (2, vi (plc t)), (0, .ref 131), (1, vi x1)]) (st2 := [vi 1, .ref 131]) 1 (fun _ _ => rfl) ?_
        refine pr_n (pc2 := 84) (lv2 := [(5, vi 1), (4, vi (nkd t2 z2)), (3, vi z2), (2, vi (plc t)), (0, .ref 131), (1, vi x1)]) (st2 := [vi (plc t), vi 0, .ref 131]) 3 (fun _ _ => rfl) ?_
        exact pr_c1 (args := [vi 0, vi (plc t)]) (rest := []) rfl rfl rfl rfl (Nat.le_of_ble_eq_true rfl) rfl (h_41 s118 t2 0 (plc t) hE118 (by decide) hz1) chk0
set_option maxHeartbeats 20000000 in
set_option maxRecDepth 100000 in
theorem cu44_0 {N K d C : Nat} (h_34 : cT34 K d C) (h_35 : cT35 K d C) (h_40 : cT40 K d C) (h_41 : cT41 K d C) (h_45 : cT45 K d C) (ih : ∀ N2, N2 < N → cA44 N2 K d C) : cU44_0 N K d C := by
  intro s t y2 y1 hE hy2 hy1
  have hC : C = 99 ∨ C = 115 := hE.1
  rw [cG_44_7]
  unfold cM44_7
  refine pr_lt (pc2 := 8) (lv2 := [(2, vi y2), (0, .ref 131), (1, vi y1)]) (st2 := [vi y2]) (fun _ _ => rfl) fun N2 hN2 => ?_
  refine pr_n (pc2 := 11) (lv2 := [(2, vi y2), (0, .ref 131), (1, vi y1)]) (st2 := [vi 2000, vi y2]) 1 (fun _ _ => rfl) ?_
  by_cases h1 : 2000 ≤ y2
  · refine mq_t h1 ?_
    refine pr_if2t rfl rfl hy2 (i32_n rfl) h1 ?_
    refine pr_n (pc2 := 66) (lv2 := [(2, vi y2), (0, .ref 131), (1, vi y1)]) (st2 := [vi y2]) 1 (fun _ _ => rfl) ?_
    refine pr_reti rfl rfl ?_
    exact .inl ⟨_, y2, _, rfl, ⟨rfl, hy2⟩, rfl, hE⟩
  · refine mq_f h1 ?_
    refine pr_if2f rfl rfl hy2 (i32_n rfl) h1 ?_
    refine pr_n (pc2 := 15) (lv2 := [(2, vi y2), (0, .ref 131), (1, vi y1)]) (st2 := [.ref 131]) 1 (fun _ _ => rfl) ?_
    refine pr_get (v := .ref 137) rfl rfl rfl (by decide) (rv_ref (hE.2.1 131 0 137 rfl)) fun _ => ?_
    refine pr_s1 (args := []) (rest := []) rfl rfl rfl rfl (Nat.le_of_ble_eq_true rfl) rfl (h_34 s t  hE ) s_kkd ?_
    rintro _ s2 ⟨rfl, hz2⟩ hE2
    show pr N2 K d tb_M44 21 [(2, vi y2), (0, .ref 131), (1, vi y1)] [vi (kkd t)] s2 _
    refine pr_n (pc2 := 23) (lv2 := [(2, vi y2), (0, .ref 131), (1, vi y1)]) (st2 := [vi 44, vi (kkd t)]) 1 (fun _ _ => rfl) ?_
    by_cases h3 : kkd t ≠ 44
    · refine mq_t h3 ?_
      refine pr_if2t rfl rfl hz2 (i32_n rfl) h3 ?_
      refine pr_n (pc2 := 66) (lv2 := [(2, vi y2), (0, .ref 131), (1, vi y1)]) (st2 := [vi y2]) 1 (fun _ _ => rfl) ?_
      refine pr_reti rfl rfl ?_
      exact .inl ⟨_, y2, _, rfl, ⟨rfl, hy2⟩, rfl, hE2⟩
    · refine mq_f h3 ?_
      refine pr_if2f rfl rfl hz2 (i32_n rfl) h3 ?_
      refine pr_n (pc2 := 27) (lv2 := [(2, vi y2), (0, .ref 131), (1, vi y1)]) (st2 := [.ref 131]) 1 (fun _ _ => rfl) ?_
      refine pr_get (v := .ref 137) rfl rfl rfl (by decide) (rv_ref (hE2.2.1 131 0 137 rfl)) fun _ => ?_
      refine pr_s1 (args := []) (rest := []) rfl rfl rfl rfl (Nat.le_of_ble_eq_true rfl) rfl (h_35 s2 t  hE2 ) s_stp ?_
      rintro _ s4 ⟨rfl, _⟩ hE4
      show pr N2 K d tb_M44 33 [(2, vi y2), (0, .ref 131), (1, vi y1)] [] s4 _
      refine pr_n (pc2 := 36) (lv2 := [(2, vi y2), (0, .ref 131), (1, vi y1)]) (st2 := [vi 4, vi y2, .ref 131]) 3 (fun _ _ => rfl) ?_
      by_cases h5 : 4 ≤ y2
      · refine mq_t h5 ?_
        refine pr_if2t rfl rfl hy2 (i32_n rfl) h5 ?_
        refine pr_n (pc2 := 45) (lv2 := [(2, vi y2), (0, .ref 131), (1, vi y1)]) (st2 := [.ref 131, vi 0, .ref 131]) 2 (fun _ _ => rfl) ?_
        refine pr_get (v := .ref 137) rfl rfl rfl (by decide) (rv_ref (hE4.2.1 131 0 137 rfl)) fun _ => ?_
        refine pr_s1 (args := []) (rest := [vi 0, .ref 131]) rfl rfl rfl rfl (Nat.le_of_ble_eq_true rfl) rfl (h_40 s4 ((stp t))  hE4 ) s_plc ?_
        rintro _ s6 ⟨rfl, hz6⟩ hE6
        show pr N2 K d tb_M44 51 [(2, vi y2), (0, .ref 131), (1, vi y1)] [vi (plc ((stp t))), vi 0, .ref 131] s6 _
        exact pr_c1 (args := [vi 0, vi (plc ((stp t)))]) (rest := []) rfl rfl rfl rfl (Nat.le_of_ble_eq_true rfl) rfl (h_41 s6 ((stp t)) 0 (plc ((stp t))) hE6 (by decide) hz6) chk0
      · refine mq_f h5 ?_
        refine pr_if2f rfl rfl hy2 (i32_n rfl) h5 ?_
        refine pr_n (pc2 := 45) (lv2 := [(2, vi y2), (0, .ref 131), (1, vi y1)]) (st2 := [.ref 131, vi 1, .ref 131]) 3 (fun _ _ => rfl) ?_
        refine pr_get (v := .ref 137) rfl rfl rfl (by decide) (rv_ref (hE4.2.1 131 0 137 rfl)) fun _ => ?_
        refine pr_s1 (args := []) (rest := [vi 1, .ref 131]) rfl rfl rfl rfl (Nat.le_of_ble_eq_true rfl) rfl (h_40 s4 ((stp t))  hE4 ) s_plc ?_
        rintro _ s8 ⟨rfl, hz8⟩ hE8
        show pr N2 K d tb_M44 51 [(2, vi y2), (0, .ref 131), (1, vi y1)] [vi (plc ((stp t))), vi 1, .ref 131] s8 _
        refine pr_s1 (args := [vi 1, vi (plc ((stp t)))]) (rest := []) rfl rfl rfl rfl (Nat.le_of_ble_eq_true rfl) rfl (h_41 s8 ((stp t)) 1 (plc ((stp t))) hE8 (by decide) hz8) chk1 ?_
        rintro _ s9 ⟨rfl, _⟩ hE9
        show pr N2 K d tb_M44 54 [(2, vi y2), (0, .ref 131), (1, vi y1)] [] s9 _
        refine pr_n (pc2 := 56) (lv2 := [(2, vi y2), (0, .ref 131), (1, vi y1)]) (st2 := [vi y1, .ref 131]) 2 (fun _ _ => rfl) ?_
        refine pr_m1 (args := [vi y1]) (rest := []) rfl rfl rfl rfl (Nat.le_of_ble_eq_true rfl) rfl (h_45 s9 ((stp t)) y1 hE9 hy1) ?_
        rintro _ _ t10 s10 ⟨rfl, rfl⟩ hE10
        show pr N2 K d tb_M44 59 [(2, vi y2), (0, .ref 131), (1, vi y1)] [] s10 _
        refine pr_inc (a := y2) rfl rfl ?_
        have h11 : i32 (y2 + 1) := by unfold i32 at *; omega
        show pr N2 K d tb_M44 62 [(2, vi (y2 + 1)), (0, .ref 131), (1, vi y1)] [] s10 _
        refine pr_n (pc2 := 7) (lv2 := [(2, vi (y2 + 1)), (0, .ref 131), (1, vi y1)]) (st2 := []) 1 (fun _ _ => rfl) ?_
        exact ((ih N2 hN2)) s10 t10 (y2 + 1) y1 hE10 h11 hy1
theorem ca44 {K d C : Nat} (h_34 : cT34 K d C) (h_35 : cT35 K d C) (h_40 : cT40 K d C) (h_41 : cT41 K d C) (h_45 : cT45 K d C) : ∀ N, cA44 N K d C := by
  intro N
  induction N using Nat.strongRecOn with | ind N ih => ?_
  exact cu44_0 h_34 h_35 h_40 h_41 h_45 ih
set_option maxHeartbeats 20000000 in
set_option maxRecDepth 100000 in
theorem cm44 {K d C : Nat} (h_34 : cT34 K d C) (h_35 : cT35 K d C) (h_40 : cT40 K d C) (h_41 : cT41 K d C) (h_45 : cT45 K d C) : cT44 K (d + 1) C := by
  intro s t x1 hE hx1
  have hC : C = 99 ∨ C = 115 := hE.1
  refine pcr_of (M := tb_M44) rfl ?_
  show pr K K d tb_M44 0 [(0, .ref 131), (1, vi x1)] [] s _
  rw [cG_44]
  unfold cM44
  refine pr_n (pc2 := 2) (lv2 := [(0, .ref 131), (1, vi x1)]) (st2 := [vi x1, .ref 131]) 2 (fun _ _ => rfl) ?_
  refine pr_m1 (args := [vi x1]) (rest := []) rfl rfl rfl rfl (Nat.le_of_ble_eq_true rfl) rfl (h_45 s t x1 hE hx1) ?_
  rintro _ _ t1 s1 ⟨rfl, rfl⟩ hE1
  show pr K K d tb_M44 5 [(0, .ref 131), (1, vi x1)] [] s1 _
  refine pr_n (pc2 := 7) (lv2 := [(2, vi 1), (0, .ref 131), (1, vi x1)]) (st2 := []) 2 (fun _ _ => rfl) ?_
  exact ((ca44 h_34 h_35 h_40 h_41 h_45 K)) s1 t1 1 x1 hE1 (i32_n rfl) hx1
set_option maxHeartbeats 20000000 in
set_option maxRecDepth 100000 in
theorem cm36 {K d C : Nat} (h_34 : cT34 K d C) (h_37 : cT37 K d C) (h_43 : cT43 K d C) (h_44 : cT44 K d C) (h_47 : cT47 K d C) : cT36 K (d + 1) C := by
  intro s t x1 hE hx1
  have hC : C = 99 ∨ C = 115 := hE.1
  refine pcr_of (M := tb_M36) rfl ?_
  show pr K K d tb_M36 0 [(0, .ref 131), (1, vi x1)] [] s _
  rw [cG_36]
  unfold cM36
  refine pr_n (pc2 := 3) (lv2 := [(0, .ref 131), (1, vi x1)]) (st2 := [vi 0, vi x1, .ref 131]) 3 (fun _ _ => rfl) ?_
  refine pr_m1 (args := [vi x1, vi 0]) (rest := []) rfl rfl rfl rfl (Nat.le_of_ble_eq_true rfl) rfl (h_37 s t x1 0 hE hx1 (i32_n rfl)) ?_
  rintro _ z1 t1 s1 ⟨rfl, hz1⟩ hE1
  show pr K K d tb_M36 6 [(0, .ref 131), (1, vi x1)] [vi z1] s1 _
  refine pr_n (pc2 := 8) (lv2 := [(2, vi z1), (0, .ref 131), (1, vi x1)]) (st2 := [.ref 131]) 2 (fun _ _ => rfl) ?_
  refine pr_get (v := .ref C) rfl rfl rfl (by decide) (rv_ref (show s1.1 131 1 = ((C : Nat) : Int) from hE1.2.2.1)) fun _ => ?_
  refine pr_get (v := .ref (C + 6)) rfl rfl (TK0 hC) (by decide) (rv_ref (hE1.2.1 C 5 (C + 6) (rcK hC (by omega)))) fun _ => ?_
  refine pr_gE (k2 := 105) (v := vi (t1 105 3)) hE1 rfl rfl (TK6 hC) (by decide) rfl rfl rfl fun h2 => ?_
  have h2 : i32 (t1 105 3) := h2
  refine pr_n (pc2 := 19) (lv2 := [(3, vi (t1 105 3)), (2, vi z1), (0, .ref 131), (1, vi x1)]) (st2 := [.ref 131]) 2 (fun _ _ => rfl) ?_
  refine pr_get (v := .ref C) rfl rfl rfl (by decide) (rv_ref (show s1.1 131 1 = ((C : Nat) : Int) from hE1.2.2.1)) fun _ => ?_
  refine pr_get (v := .ref (C + 10)) rfl rfl (TK0 hC) (by decide) (rv_ref (hE1.2.1 C 6 (C + 10) (rcK hC (by omega)))) fun _ => ?_
  refine pr_n (pc2 := 26) (lv2 := [(3, vi (t1 105 3)), (2, vi z1), (0, .ref 131), (1, vi x1)]) (st2 := [vi 0, .ref (C + 10)]) 1 (fun _ _ => rfl) ?_
  refine pr_aE (k2 := 109) (a := 0) (v := vi (t1 109 0)) hE1 rfl (TK10 hC) rfl (i32_n rfl) (by decide) rfl rfl rfl fun h4 h5 h3 => ?_
  have h3 : i32 (t1 109 0) := h3
  refine pr_n (pc2 := 32) (lv2 := [(4, vi (t1 109 0)), (3, vi (t1 105 3)), (2, vi z1), (0, .ref 131), (1, vi x1)]) (st2 := [vi 40, .ref 131]) 3 (fun _ _ => rfl) ?_
  refine pr_m1 (args := [vi 40]) (rest := []) rfl rfl rfl rfl (Nat.le_of_ble_eq_true rfl) rfl (h_43 s1 t1 40 hE1 (i32_n rfl)) ?_
  rintro _ _ t6 s6 ⟨rfl, rfl⟩ hE6
  show pr K K d tb_M36 35 [(4, vi (t1 109 0)), (3, vi (t1 105 3)), (2, vi z1), (0, .ref 131), (1, vi x1)] [] s6 _
  refine pr_n (pc2 := 36) (lv2 := [(4, vi (t1 109 0)), (3, vi (t1 105 3)), (2, vi z1), (0, .ref 131), (1, vi x1)]) (st2 := [.ref 131]) 1 (fun _ _ => rfl) ?_
  refine pr_get (v := .ref 137) rfl rfl rfl (by decide) (rv_ref (hE6.2.1 131 0 137 rfl)) fun _ => ?_
  refine pr_s1 (args := []) (rest := []) rfl rfl rfl rfl (Nat.le_of_ble_eq_true rfl) rfl (h_34 s6 t6  hE6 ) s_kkd ?_
  rintro _ s7 ⟨rfl, hz7⟩ hE7
  show pr K K d tb_M36 42 [(4, vi (t1 109 0)), (3, vi (t1 105 3)), (2, vi z1), (0, .ref 131), (1, vi x1)] [vi (kkd t6)] s7 _
  refine pr_n (pc2 := 44) (lv2 := [(4, vi (t1 109 0)), (3, vi (t1 105 3)), (2, vi z1), (0, .ref 131), (1, vi x1)]) (st2 := [vi 41, vi (kkd t6)]) 1 (fun _ _ => rfl) ?_
  by_cases h8 : kkd t6 ≠ 41
  · refine mq_t h8 ?_
    refine pr_if2t rfl rfl hz7 (i32_n rfl) h8 ?_
    refine pr_n (pc2 := 53) (lv2 := [(4, vi (t1 109 0)), (3, vi (t1 105 3)), (2, vi z1), (0, .ref 131), (1, vi x1)]) (st2 := [vi (t1 105 3), .ref 131]) 2 (fun _ _ => rfl) ?_
    refine pr_m1 (args := [vi (t1 105 3)]) (rest := []) rfl rfl rfl rfl (Nat.le_of_ble_eq_true rfl) rfl (h_44 s7 t6 (t1 105 3) hE7 h2) ?_
    rintro _ z9 t9 s9 ⟨rfl, hz9⟩ hE9
    show pr K K d tb_M36 56 [(4, vi (t1 109 0)), (3, vi (t1 105 3)), (2, vi z1), (0, .ref 131), (1, vi x1)] [vi z9] s9 _
    refine pr_n (pc2 := 61) (lv2 := [(5, vi z9), (4, vi (t1 109 0)), (3, vi (t1 105 3)), (2, vi z1), (0, .ref 131), (1, vi x1)]) (st2 := [vi 41, .ref 131]) 3 (fun _ _ => rfl) ?_
    refine pr_m1 (args := [vi 41]) (rest := []) rfl rfl rfl rfl (Nat.le_of_ble_eq_true rfl) rfl (h_43 s9 t9 41 hE9 (i32_n rfl)) ?_
    rintro _ _ t10 s10 ⟨rfl, rfl⟩ hE10
    show pr K K d tb_M36 64 [(5, vi z9), (4, vi (t1 109 0)), (3, vi (t1 105 3)), (2, vi z1), (0, .ref 131), (1, vi x1)] [] s10 _
    refine pr_n (pc2 := 65) (lv2 := [(5, vi z9), (4, vi (t1 109 0)), (3, vi (t1 105 3)), (2, vi z1), (0, .ref 131), (1, vi x1)]) (st2 := [.ref 131]) 1 (fun _ _ => rfl) ?_
    refine pr_get (v := .ref C) rfl rfl rfl (by decide) (rv_ref (show s10.1 131 1 = ((C : Nat) : Int) from hE10.2.2.1)) fun _ => ?_
    refine pr_n (pc2 := 73) (lv2 := [(5, vi z9), (4, vi (t1 109 0)), (3, vi (t1 105 3)), (2, vi z1), (0, .ref 131), (1, vi x1)]) (st2 := [vi z9, vi (t1 109 0), vi z1, .ref C]) 3 (fun _ _ => rfl) ?_
    refine pr_s1 (args := [vi z1, vi (t1 109 0), vi z9]) (rest := []) rfl rfl rfl (TK0 hC) (Nat.le_of_ble_eq_true rfl) rfl (h_47 s10 t10 z1 (t1 109 0) z9 hE10 hz1 h3 hz9) s_spm ?_
    rintro _ s11 ⟨rfl, _⟩ hE11
    show pr K K d tb_M36 76 [(5, vi z9), (4, vi (t1 109 0)), (3, vi (t1 105 3)), (2, vi z1), (0, .ref 131), (1, vi x1)] [] s11 _
    refine pr_n (pc2 := 78) (lv2 := [(5, vi z9), (4, vi (t1 109 0)), (3, vi (t1 105 3)), (2, vi z1), (0, .ref 131), (1, vi x1)]) (st2 := [vi z1, .ref 131]) 2 (fun _ _ => rfl) ?_
    refine pr_pE (k2 := 131) (z := z1) hE11 rfl rfl rfl rfl (by decide) rfl (by decide) rfl (show i32 (z1) from hz1) (hf_int' _) rfl rfl rfl (fun e => absurd e.2 (by decide)) (iv_c (by decide)) fun s12 hE12 => ?_
    refine pr_n (pc2 := 85) (lv2 := [(5, vi z9), (4, vi (t1 109 0)), (3, vi (t1 105 3)), (2, vi z1), (0, .ref 131), (1, vi x1)]) (st2 := [vi 6, vi x1, .ref 131]) 3 (fun _ _ => rfl) ?_
    by_cases h13 : x1 ≠ 6
    · refine mq_t h13 ?_
      refine pr_if2t rfl rfl hx1 (i32_n rfl) h13 ?_
      refine pr_n (pc2 := 93) (lv2 := [(5, vi z9), (4, vi (t1 109 0)), (3, vi (t1 105 3)), (2, vi z1), (0, .ref 131), (1, vi x1)]) (st2 := [vi 0, .ref 131]) 1 (fun _ _ => rfl) ?_
      refine pr_pE (k2 := 131) (z := 0) hE12 rfl rfl rfl rfl (by decide) rfl (by decide) rfl (show i32 (0) from (i32_n rfl)) (hf_int' _) rfl rfl rfl (fun e => absurd e.2 (by decide)) (iv_c (by decide)) fun s14 hE14 => ?_
      refine pr_n (pc2 := 98) (lv2 := [(5, vi z9), (4, vi (t1 109 0)), (3, vi (t1 105 3)), (2, vi z1), (0, .ref 131), (1, vi x1)]) (st2 := [vl 0, .ref 131]) 2 (fun _ _ => rfl) ?_
      refine pr_pE (k2 := 131) (z := 0) hE14 rfl rfl rfl rfl (by decide) rfl (by decide) rfl (i64_n rfl) (fit_l _) rfl rfl rfl (fun e => absurd e.2 (by decide)) (iv_c (by decide)) fun s15 hE15 => ?_
      refine pr_n (pc2 := 103) (lv2 := [(5, vi z9), (4, vi (t1 109 0)), (3, vi (t1 105 3)), (2, vi z1), (0, .ref 131), (1, vi x1)]) (st2 := [vl 0, .ref 131]) 2 (fun _ _ => rfl) ?_
      refine pr_pE (k2 := 131) (z := 0) hE15 rfl rfl rfl rfl (by decide) rfl (by decide) rfl (i64_n rfl) (fit_l _) rfl rfl rfl (fun e => absurd e.2 (by decide)) (iv_c (by decide)) fun s16 hE16 => ?_
      refine pr_n (pc2 := 108) (lv2 := [(5, vi z9), (4, vi (t1 109 0)), (3, vi (t1 105 3)), (2, vi z1), (0, .ref 131), (1, vi x1)]) (st2 := [vl 0, .ref 131]) 2 (fun _ _ => rfl) ?_
      refine pr_pE (k2 := 131) (z := 0) hE16 rfl rfl rfl rfl (by decide) rfl (by decide) rfl (i64_n rfl) (fit_l _) rfl rfl rfl (fun e => absurd e.2 (by decide)) (iv_c (by decide)) fun s17 hE17 => ?_
      refine pr_n (pc2 := 112) (lv2 := [(5, vi z9), (4, vi (t1 109 0)), (3, vi (t1 105 3)), (2, vi z1), (0, .ref 131), (1, vi x1)]) (st2 := [vi z1]) 1 (fun _ _ => rfl) ?_
      refine pr_reti rfl rfl ?_
      exact .inl ⟨_, z1, _, rfl, ⟨rfl, hz1⟩, rfl, hE17⟩
    · refine mq_f h13 ?_
      refine pr_if2f rfl rfl hx1 (i32_n rfl) h13 ?_
      refine pr_n (pc2 := 93) (lv2 := [(5, vi z9), (4, vi (t1 109 0)), (3, vi (t1 105 3)), (2, vi z1), (0, .ref 131), (1, vi x1)]) (st2 := [vi (t1 105 3), .ref 131]) 2 (fun _ _ => rfl) ?_
      refine pr_pE (k2 := 131) (z := t1 105 3) hE12 rfl rfl rfl rfl (by decide) rfl (by decide) rfl (show i32 (t1 105 3) from h2) (hf_int' _) rfl rfl rfl (fun e => absurd e.2 (by decide)) (iv_c (by decide)) fun s18 hE18 => ?_
      refine pr_n (pc2 := 98) (lv2 := [(5, vi z9), (4, vi (t1 109 0)), (3, vi (t1 105 3)), (2, vi z1), (0, .ref 131), (1, vi x1)]) (st2 := [vl 0, .ref 131]) 2 (fun _ _ => rfl) ?_
      refine pr_pE (k2 := 131) (z := 0) hE18 rfl rfl rfl rfl (by decide) rfl (by decide) rfl (i64_n rfl) (fit_l _) rfl rfl rfl (fun e => absurd e.2 (by decide)) (iv_c (by decide)) fun s19 hE19 => ?_
      refine pr_n (pc2 := 103) (lv2 := [(5, vi z9), (4, vi (t1 109 0)), (3, vi (t1 105 3)), (2, vi z1), (0, .ref 131), (1, vi x1)]) (st2 := [vl 0, .ref 131]) 2 (fun _ _ => rfl) ?_
      refine pr_pE (k2 := 131) (z := 0) hE19 rfl rfl rfl rfl (by decide) rfl (by decide) rfl (i64_n rfl) (fit_l _) rfl rfl rfl (fun e => absurd e.2 (by decide)) (iv_c (by decide)) fun s20 hE20 => ?_
      refine pr_n (pc2 := 108) (lv2 := [(5, vi z9), (4, vi (t1 109 0)), (3, vi (t1 105 3)), (2, vi z1), (0, .ref 131), (1, vi x1)]) (st2 := [vl 0, .ref 131]) 2 (fun _ _ => rfl) ?_
      refine pr_pE (k2 := 131) (z := 0) hE20 rfl rfl rfl rfl (by decide) rfl (by decide) rfl (i64_n rfl) (fit_l _) rfl rfl rfl (fun e => absurd e.2 (by decide)) (iv_c (by decide)) fun s21 hE21 => ?_
      refine pr_n (pc2 := 112) (lv2 := [(5, vi z9), (4, vi (t1 109 0)), (3, vi (t1 105 3)), (2, vi z1), (0, .ref 131), (1, vi x1)]) (st2 := [vi z1]) 1 (fun _ _ => rfl) ?_
      refine pr_reti rfl rfl ?_
      exact .inl ⟨_, z1, _, rfl, ⟨rfl, hz1⟩, rfl, hE21⟩
  · refine mq_f h8 ?_
    refine pr_if2f rfl rfl hz7 (i32_n rfl) h8 ?_
    refine pr_n (pc2 := 61) (lv2 := [(5, vi 0), (4, vi (t1 109 0)), (3, vi (t1 105 3)), (2, vi z1), (0, .ref 131), (1, vi x1)]) (st2 := [vi 41, .ref 131]) 5 (fun _ _ => rfl) ?_
    refine pr_m1 (args := [vi 41]) (rest := []) rfl rfl rfl rfl (Nat.le_of_ble_eq_true rfl) rfl (h_43 s7 t6 41 hE7 (i32_n rfl)) ?_
    rintro _ _ t22 s22 ⟨rfl, rfl⟩ hE22
    show pr K K d tb_M36 64 [(5, vi 0), (4, vi (t1 109 0)), (3, vi (t1 105 3)), (2, vi z1), (0, .ref 131), (1, vi x1)] [] s22 _
    refine pr_n (pc2 := 65) (lv2 := [(5, vi 0), (4, vi (t1 109 0)), (3, vi (t1 105 3)), (2, vi z1), (0, .ref 131), (1, vi x1)]) (st2 := [.ref 131]) 1 (fun _ _ => rfl) ?_
    refine pr_get (v := .ref C) rfl rfl rfl (by decide) (rv_ref (show s22.1 131 1 = ((C : Nat) : Int) from hE22.2.2.1)) fun _ => ?_
    refine pr_n (pc2 := 73) (lv2 := [(5, vi 0), (4, vi (t1 109 0)), (3, vi (t1 105 3)), (2, vi z1), (0, .ref 131), (1, vi x1)]) (st2 := [vi 0, vi (t1 109 0), vi z1, .ref C]) 3 (fun _ _ => rfl) ?_
    refine pr_s1 (args := [vi z1, vi (t1 109 0), vi 0]) (rest := []) rfl rfl rfl (TK0 hC) (Nat.le_of_ble_eq_true rfl) rfl (h_47 s22 t22 z1 (t1 109 0) 0 hE22 hz1 h3 (i32_n rfl)) s_spm ?_
    rintro _ s23 ⟨rfl, _⟩ hE23
    show pr K K d tb_M36 76 [(5, vi 0), (4, vi (t1 109 0)), (3, vi (t1 105 3)), (2, vi z1), (0, .ref 131), (1, vi x1)] [] s23 _
    refine pr_n (pc2 := 78) (lv2 := [(5, vi 0), (4, vi (t1 109 0)), (3, vi (t1 105 3)), (2, vi z1), (0, .ref 131), (1, vi x1)]) (st2 := [vi z1, .ref 131]) 2 (fun _ _ => rfl) ?_
    refine pr_pE (k2 := 131) (z := z1) hE23 rfl rfl rfl rfl (by decide) rfl (by decide) rfl (show i32 (z1) from hz1) (hf_int' _) rfl rfl rfl (fun e => absurd e.2 (by decide)) (iv_c (by decide)) fun s24 hE24 => ?_
    refine pr_n (pc2 := 85) (lv2 := [(5, vi 0), (4, vi (t1 109 0)), (3, vi (t1 105 3)), (2, vi z1), (0, .ref 131), (1, vi x1)]) (st2 := [vi 6, vi x1, .ref 131]) 3 (fun _ _ => rfl) ?_
    by_cases h25 : x1 ≠ 6
    · refine mq_t h25 ?_
      refine pr_if2t rfl rfl hx1 (i32_n rfl) h25 ?_
      refine pr_n (pc2 := 93) (lv2 := [(5, vi 0), (4, vi (t1 109 0)), (3, vi (t1 105 3)), (2, vi z1), (0, .ref 131), (1, vi x1)]) (st2 := [vi 0, .ref 131]) 1 (fun _ _ => rfl) ?_
      refine pr_pE (k2 := 131) (z := 0) hE24 rfl rfl rfl rfl (by decide) rfl (by decide) rfl (show i32 (0) from (i32_n rfl)) (hf_int' _) rfl rfl rfl (fun e => absurd e.2 (by decide)) (iv_c (by decide)) fun s26 hE26 => ?_
      refine pr_n (pc2 := 98) (lv2 := [(5, vi 0), (4, vi (t1 109 0)), (3, vi (t1 105 3)), (2, vi z1), (0, .ref 131), (1, vi x1)]) (st2 := [vl 0, .ref 131]) 2 (fun _ _ => rfl) ?_
      refine pr_pE (k2 := 131) (z := 0) hE26 rfl rfl rfl rfl (by decide) rfl (by decide) rfl (i64_n rfl) (fit_l _) rfl rfl rfl (fun e => absurd e.2 (by decide)) (iv_c (by decide)) fun s27 hE27 => ?_
      refine pr_n (pc2 := 103) (lv2 := [(5, vi 0), (4, vi (t1 109 0)), (3, vi (t1 105 3)), (2, vi z1), (0, .ref 131), (1, vi x1)]) (st2 := [vl 0, .ref 131]) 2 (fun _ _ => rfl) ?_
      refine pr_pE (k2 := 131) (z := 0) hE27 rfl rfl rfl rfl (by decide) rfl (by decide) rfl (i64_n rfl) (fit_l _) rfl rfl rfl (fun e => absurd e.2 (by decide)) (iv_c (by decide)) fun s28 hE28 => ?_
      refine pr_n (pc2 := 108) (lv2 := [(5, vi 0), (4, vi (t1 109 0)), (3, vi (t1 105 3)), (2, vi z1), (0, .ref 131), (1, vi x1)]) (st2 := [vl 0, .ref 131]) 2 (fun _ _ => rfl) ?_
      refine pr_pE (k2 := 131) (z := 0) hE28 rfl rfl rfl rfl (by decide) rfl (by decide) rfl (i64_n rfl) (fit_l _) rfl rfl rfl (fun e => absurd e.2 (by decide)) (iv_c (by decide)) fun s29 hE29 => ?_
      refine pr_n (pc2 := 112) (lv2 := [(5, vi 0), (4, vi (t1 109 0)), (3, vi (t1 105 3)), (2, vi z1), (0, .ref 131), (1, vi x1)]) (st2 := [vi z1]) 1 (fun _ _ => rfl) ?_
      refine pr_reti rfl rfl ?_
      exact .inl ⟨_, z1, _, rfl, ⟨rfl, hz1⟩, rfl, hE29⟩
    · refine mq_f h25 ?_
      refine pr_if2f rfl rfl hx1 (i32_n rfl) h25 ?_
      refine pr_n (pc2 := 93) (lv2 := [(5, vi 0), (4, vi (t1 109 0)), (3, vi (t1 105 3)), (2, vi z1), (0, .ref 131), (1, vi x1)]) (st2 := [vi (t1 105 3), .ref 131]) 2 (fun _ _ => rfl) ?_
      refine pr_pE (k2 := 131) (z := t1 105 3) hE24 rfl rfl rfl rfl (by decide) rfl (by decide) rfl (show i32 (t1 105 3) from h2) (hf_int' _) rfl rfl rfl (fun e => absurd e.2 (by decide)) (iv_c (by decide)) fun s30 hE30 => ?_
      refine pr_n (pc2 := 98) (lv2 := [(5, vi 0), (4, vi (t1 109 0)), (3, vi (t1 105 3)), (2, vi z1), (0, .ref 131), (1, vi x1)]) (st2 := [vl 0, .ref 131]) 2 (fun _ _ => rfl) ?_
      refine pr_pE (k2 := 131) (z := 0) hE30 rfl rfl rfl rfl (by decide) rfl (by decide) rfl (i64_n rfl) (fit_l _) rfl rfl rfl (fun e => absurd e.2 (by decide)) (iv_c (by decide)) fun s31 hE31 => ?_
      refine pr_n (pc2 := 103) (lv2 := [(5, vi 0), (4, vi (t1 109 0)), (3, vi (t1 105 3)), (2, vi z1), (0, .ref 131), (1, vi x1)]) (st2 := [vl 0, .ref 131]) 2 (fun _ _ => rfl) ?_
      refine pr_pE (k2 := 131) (z := 0) hE31 rfl rfl rfl rfl (by decide) rfl (by decide) rfl (i64_n rfl) (fit_l _) rfl rfl rfl (fun e => absurd e.2 (by decide)) (iv_c (by decide)) fun s32 hE32 => ?_
      refine pr_n (pc2 := 108) (lv2 := [(5, vi 0), (4, vi (t1 109 0)), (3, vi (t1 105 3)), (2, vi z1), (0, .ref 131), (1, vi x1)]) (st2 := [vl 0, .ref 131]) 2 (fun _ _ => rfl) ?_
      refine pr_pE (k2 := 131) (z := 0) hE32 rfl rfl rfl rfl (by decide) rfl (by decide) rfl (i64_n rfl) (fit_l _) rfl rfl rfl (fun e => absurd e.2 (by decide)) (iv_c (by decide)) fun s33 hE33 => ?_
      refine pr_n (pc2 := 112) (lv2 := [(5, vi 0), (4, vi (t1 109 0)), (3, vi (t1 105 3)), (2, vi z1), (0, .ref 131), (1, vi x1)]) (st2 := [vi z1]) 1 (fun _ _ => rfl) ?_
      refine pr_reti rfl rfl ?_
      exact .inl ⟨_, z1, _, rfl, ⟨rfl, hz1⟩, rfl, hE33⟩
set_option maxHeartbeats 20000000 in
set_option maxRecDepth 100000 in
theorem cm74 {K d C : Nat} : cT74 K (d + 1) C := by
  intro s t x1 x2 hE hx1 hx2
  have hC : C = 99 ∨ C = 115 := hE.1
  refine pcr_of (M := tb_M74) rfl ?_
  show pr K K d tb_M74 0 [(0, .ref 131), (1, vi x1), (2, vi x2)] [] s _
  rw [cG_74]
  unfold cM74
  refine pr_n (pc2 := 2) (lv2 := [(0, .ref 131), (1, vi x1), (2, vi x2)]) (st2 := [vi ((-1)), .ref 131]) 2 (fun _ _ => rfl) ?_
  refine pr_pE (k2 := 131) (z := (-1)) hE rfl rfl rfl rfl (by decide) rfl (by decide) rfl (show i32 ((-1)) from (i32_n rfl)) (hf_int' _) rfl rfl rfl (fun e => absurd e.2 (by decide)) (iv_c (by decide)) fun s1 hE1 => ?_
  refine pr_n (pc2 := 7) (lv2 := [(0, .ref 131), (1, vi x1), (2, vi x2)]) (st2 := [vi 0, .ref 131]) 2 (fun _ _ => rfl) ?_
  refine pr_pE (k2 := 131) (z := 0) hE1 rfl rfl rfl rfl (by decide) rfl (by decide) rfl (show i32 (0) from (i32_n rfl)) (hf_int' _) rfl rfl rfl (fun e => absurd e.2 (by decide)) (iv_c (by decide)) fun s2 hE2 => ?_
  refine pr_n (pc2 := 11) (lv2 := [(0, .ref 131), (1, vi x1), (2, vi x2)]) (st2 := [vi x1]) 1 (fun _ _ => rfl) ?_
  by_cases h3 : x1 < 0
  · refine mq_t h3 ?_
    refine pr_if1t rfl rfl hx1 h3 ?_
    refine pr_end (fun _ _ => rfl) ?_
    exact .inl ⟨_, 0, _, rfl, ⟨rfl, rfl⟩, rfl, hE2⟩
  · refine mq_f h3 ?_
    refine pr_if1f rfl rfl hx1 h3 ?_
    refine pr_n (pc2 := 17) (lv2 := [(0, .ref 131), (1, vi x1), (2, vi x2)]) (st2 := [vi 12, vi x1]) 2 (fun _ _ => rfl) ?_
    by_cases h4 : 12 ≤ x1
    · refine mq_t h4 ?_
      refine pr_if2t rfl rfl hx1 (i32_n rfl) h4 ?_
      refine pr_end (fun _ _ => rfl) ?_
      exact .inl ⟨_, 0, _, rfl, ⟨rfl, rfl⟩, rfl, hE2⟩
    · refine mq_f h4 ?_
      refine pr_if2f rfl rfl hx1 (i32_n rfl) h4 ?_
      refine pr_n (pc2 := 21) (lv2 := [(0, .ref 131), (1, vi x1), (2, vi x2)]) (st2 := [.ref 131]) 1 (fun _ _ => rfl) ?_
      refine pr_get (v := .ref C) rfl rfl rfl (by decide) (rv_ref (show s2.1 131 1 = ((C : Nat) : Int) from hE2.2.2.1)) fun _ => ?_
      refine pr_get (v := .ref (C + 15)) rfl rfl (TK0 hC) (by decide) (rv_ref (hE2.2.1 C 11 (C + 15) (rcK hC (by omega)))) fun _ => ?_
      refine pr_n (pc2 := 29) (lv2 := [(0, .ref 131), (1, vi x1), (2, vi x2)]) (st2 := [vi x2, vi x1, .ref (C + 15)]) 2 (fun _ _ => rfl) ?_
      refine pr_sE (k2 := 114) (a := x1) (z := x2) hE2 rfl (show 96 ≤ C + 15 by omega) (TK15 hC) rfl hx1 (by decide) rfl (show i32 (x2) from hx2) (nK hC (by omega)) rfl rfl (fun e => absurd e.1 (show ¬ (C + 15 = 131) by omega)) (iv_c (by decide)) fun h5 h6 s7 hE7 => ?_
      refine pr_n (pc2 := 32) (lv2 := [(0, .ref 131), (1, vi x1), (2, vi x2)]) (st2 := [.ref 131, vl 1]) 2 (fun _ _ => rfl) ?_
      refine pr_get (v := .ref C) rfl rfl rfl (by decide) (rv_ref (show s7.1 131 1 = ((C : Nat) : Int) from hE7.2.2.1)) fun _ => ?_
      refine pr_get (v := .ref (C + 13)) rfl rfl (TK0 hC) (by decide) (rv_ref (hE7.2.1 C 9 (C + 13) (rcK hC (by omega)))) fun _ => ?_
      refine pr_n (pc2 := 39) (lv2 := [(0, .ref 131), (1, vi x1), (2, vi x2)]) (st2 := [vi x1, .ref (C + 13), vl 1]) 1 (fun _ _ => rfl) ?_
      refine pr_aE (k2 := 112) (a := x1) (v := vi (t 112 x1.toNat)) hE7 rfl (TK13 hC) rfl hx1 (by decide) rfl rfl rfl fun h9 h10 h8 => ?_
      have h8 : i32 (t 112 x1.toNat) := h8
      refine pr_lshl (a := 1) (b := t 112 x1.toNat) rfl ?_
      refine pr_n (pc2 := 42) (lv2 := [(0, .ref 131), (1, vi x1), (2, vi x2)]) (st2 := [vl 1, vl (lsl 1 (t 112 x1.toNat))]) 1 (fun _ _ => rfl) ?_
      refine pr_l2 (a := lsl 1 (t 112 x1.toNat)) (b := 1) rfl rfl ?_
      show pr K K d tb_M74 43 [(0, .ref 131), (1, vi x1), (2, vi x2)] [vl (lmi (lsl 1 (t 112 x1.toNat)) 1)] s7 _
      refine pr_n (pc2 := 44) (lv2 := [(0, .ref 131), (1, vi x1), (2, vi x2)]) (st2 := [.ref 131, vl (lmi (lsl 1 (t 112 x1.toNat)) 1)]) 1 (fun _ _ => rfl) ?_
      refine pr_get (v := .ref C) rfl rfl rfl (by decide) (rv_ref (show s7.1 131 1 = ((C : Nat) : Int) from hE7.2.2.1)) fun _ => ?_
      refine pr_get (v := .ref (C + 14)) rfl rfl (TK0 hC) (by decide) (rv_ref (hE7.2.1 C 10 (C + 14) (rcK hC (by omega)))) fun _ => ?_
      refine pr_n (pc2 := 51) (lv2 := [(0, .ref 131), (1, vi x1), (2, vi x2)]) (st2 := [vi x1, .ref (C + 14), vl (lmi (lsl 1 (t 112 x1.toNat)) 1)]) 1 (fun _ _ => rfl) ?_
      refine pr_aE (k2 := 113) (a := x1) (v := vi (t 113 x1.toNat)) hE7 rfl (TK14 hC) rfl hx1 (by decide) rfl rfl rfl fun h12 h13 h11 => ?_
      have h11 : i32 (t 113 x1.toNat) := h11
      refine pr_lshl (a := lmi (lsl 1 (t 112 x1.toNat)) 1) (b := t 113 x1.toNat) rfl ?_
      refine pr_n (pc2 := 55) (lv2 := [(3, vl (lsl (lmi (lsl 1 (t 112 x1.toNat)) 1) (t 113 x1.toNat))), (0, .ref 131), (1, vi x1), (2, vi x2)]) (st2 := [.ref 131]) 2 (fun _ _ => rfl) ?_
      refine pr_get (v := .ref 134) rfl rfl rfl (by decide) (rv_ref (hE7.2.1 131 10 134 rfl)) fun _ => ?_
      refine pr_n (pc2 := 60) (lv2 := [(3, vl (lsl (lmi (lsl 1 (t 112 x1.toNat)) 1) (t 113 x1.toNat))), (0, .ref 131), (1, vi x1), (2, vi x2)]) (st2 := [.ref 131, vi x1, .ref 134]) 2 (fun _ _ => rfl) ?_
      refine pr_gE (k2 := 131) (v := vl (t 131 7)) hE7 rfl rfl rfl (by decide) rfl rfl rfl fun h14 => ?_
      have h14 : i64 (t 131 7) := h14
      refine pr_n (pc2 := 64) (lv2 := [(3, vl (lsl (lmi (lsl 1 (t 112 x1.toNat)) 1) (t 113 x1.toNat))), (0, .ref 131), (1, vi x1), (2, vi x2)]) (st2 := [vl (lsl (lmi (lsl 1 (t 112 x1.toNat)) 1) (t 113 x1.toNat)), vl (t 131 7), vi x1, .ref 134]) 1 (fun _ _ => rfl) ?_
      refine pr_l2 (a := t 131 7) (b := lsl (lmi (lsl 1 (t 112 x1.toNat)) 1) (t 113 x1.toNat)) rfl rfl ?_
      show pr K K d tb_M74 65 [(3, vl (lsl (lmi (lsl 1 (t 112 x1.toNat)) 1) (t 113 x1.toNat))), (0, .ref 131), (1, vi x1), (2, vi x2)] [vl (lo (t 131 7) (lsl (lmi (lsl 1 (t 112 x1.toNat)) 1) (t 113 x1.toNat))), vi x1, .ref 134] s7 _
      refine pr_sE (k2 := 134) (a := x1) (z := lo (t 131 7) (lsl (lmi (lsl 1 (t 112 x1.toNat)) 1) (t 113 x1.toNat))) hE7 rfl (by decide) rfl rfl hx1 (by decide) rfl (i64_in _) (n0 rfl (by omega) (by omega)) rfl rfl (fun e => absurd e.1 (by decide)) (iv_c (by decide)) fun h15 h16 s17 hE17 => ?_
      refine pr_n (pc2 := 67) (lv2 := [(3, vl (lsl (lmi (lsl 1 (t 112 x1.toNat)) 1) (t 113 x1.toNat))), (0, .ref 131), (1, vi x1), (2, vi x2)]) (st2 := [.ref 131]) 1 (fun _ _ => rfl) ?_
      refine pr_get (v := .ref 135) rfl rfl rfl (by decide) (rv_ref (hE17.2.1 131 11 135 rfl)) fun _ => ?_
      refine pr_n (pc2 := 72) (lv2 := [(3, vl (lsl (lmi (lsl 1 (t 112 x1.toNat)) 1) (t 113 x1.toNat))), (0, .ref 131), (1, vi x1), (2, vi x2)]) (st2 := [.ref 131, vi x1, .ref 135]) 2 (fun _ _ => rfl) ?_
      refine pr_gE (k2 := 131) (v := vl (t 131 8)) hE17 rfl rfl rfl (by decide) rfl rfl rfl fun h18 => ?_
      have h18 : i64 (t 131 8) := h18
      refine pr_n (pc2 := 76) (lv2 := [(3, vl (lsl (lmi (lsl 1 (t 112 x1.toNat)) 1) (t 113 x1.toNat))), (0, .ref 131), (1, vi x1), (2, vi x2)]) (st2 := [vl (lsl (lmi (lsl 1 (t 112 x1.toNat)) 1) (t 113 x1.toNat)), vl (t 131 8), vi x1, .ref 135]) 1 (fun _ _ => rfl) ?_
      refine pr_l2 (a := t 131 8) (b := lsl (lmi (lsl 1 (t 112 x1.toNat)) 1) (t 113 x1.toNat)) rfl rfl ?_
      show pr K K d tb_M74 77 [(3, vl (lsl (lmi (lsl 1 (t 112 x1.toNat)) 1) (t 113 x1.toNat))), (0, .ref 131), (1, vi x1), (2, vi x2)] [vl (lo (t 131 8) (lsl (lmi (lsl 1 (t 112 x1.toNat)) 1) (t 113 x1.toNat))), vi x1, .ref 135] s17 _
      refine pr_sE (k2 := 135) (a := x1) (z := lo (t 131 8) (lsl (lmi (lsl 1 (t 112 x1.toNat)) 1) (t 113 x1.toNat))) hE17 rfl (by decide) rfl rfl hx1 (by decide) rfl (i64_in _) (n0 rfl (by omega) (by omega)) rfl rfl (fun e => absurd e.1 (by decide)) (iv_c (by decide)) fun h19 h20 s21 hE21 => ?_
      refine pr_n (pc2 := 79) (lv2 := [(3, vl (lsl (lmi (lsl 1 (t 112 x1.toNat)) 1) (t 113 x1.toNat))), (0, .ref 131), (1, vi x1), (2, vi x2)]) (st2 := [.ref 131]) 1 (fun _ _ => rfl) ?_
      refine pr_get (v := .ref 136) rfl rfl rfl (by decide) (rv_ref (hE21.2.1 131 12 136 rfl)) fun _ => ?_
      refine pr_n (pc2 := 84) (lv2 := [(3, vl (lsl (lmi (lsl 1 (t 112 x1.toNat)) 1) (t 113 x1.toNat))), (0, .ref 131), (1, vi x1), (2, vi x2)]) (st2 := [.ref 131, vi x1, .ref 136]) 2 (fun _ _ => rfl) ?_
      refine pr_gE (k2 := 131) (v := vl (t 131 9)) hE21 rfl rfl rfl (by decide) rfl rfl rfl fun h22 => ?_
      have h22 : i64 (t 131 9) := h22
      refine pr_sE (k2 := 136) (a := x1) (z := t 131 9) hE21 rfl (by decide) rfl rfl hx1 (by decide) rfl h22 (n0 rfl (by omega) (by omega)) rfl rfl (fun e => absurd e.1 (by decide)) (iv_c (by decide)) fun h23 h24 s25 hE25 => ?_
      refine pr_end (fun _ _ => rfl) ?_
      exact .inl ⟨_, 0, _, rfl, ⟨rfl, rfl⟩, rfl, hE25⟩
set_option maxHeartbeats 20000000 in
set_option maxRecDepth 100000 in
theorem cm49 {K d C : Nat} (h_22 : cT22 K d C) (h_43 : cT43 K d C) (h_50 : cT50 K d C) (h_51 : cT51 K d C) (h_57 : cT57 K d C) (h_66 : cT66 K d C) : cT49 K (d + 1) C := by
  intro s t x1 hE hx1
  have hC : C = 99 ∨ C = 115 := hE.1
  refine pcr_of (M := tb_M49) rfl ?_
  show pr K K d tb_M49 0 [(0, .ref 131), (1, vi x1)] [] s _
  rw [cG_49]
  unfold cM49
  refine pr_n (pc2 := 3) (lv2 := [(0, .ref 131), (1, vi x1)]) (st2 := [vi 123, .ref 131]) 2 (fun _ _ => rfl) ?_
  refine pr_m1 (args := [vi 123]) (rest := []) rfl rfl rfl rfl (Nat.le_of_ble_eq_true rfl) rfl (h_43 s t 123 hE (i32_n rfl)) ?_
  rintro _ _ t1 s1 ⟨rfl, rfl⟩ hE1
  show pr K K d tb_M49 6 [(0, .ref 131), (1, vi x1)] [] s1 _
  refine pr_n (pc2 := 8) (lv2 := [(0, .ref 131), (1, vi x1)]) (st2 := [vi x1, .ref 131]) 2 (fun _ _ => rfl) ?_
  refine pr_m1 (args := [vi x1]) (rest := []) rfl rfl rfl rfl (Nat.le_of_ble_eq_true rfl) rfl (h_50 s1 t1 x1 hE1 hx1) ?_
  rintro _ _ t2 s2 ⟨rfl, rfl⟩ hE2
  show pr K K d tb_M49 11 [(0, .ref 131), (1, vi x1)] [] s2 _
  refine pr_n (pc2 := 16) (lv2 := [(0, .ref 131), (1, vi x1)]) (st2 := [vi 0, vi 313, .ref 131]) 3 (fun _ _ => rfl) ?_
  refine pr_m1 (args := [vi 313, vi 0]) (rest := []) rfl rfl rfl rfl (Nat.le_of_ble_eq_true rfl) rfl (h_51 s2 t2 313 0 hE2 (i32_n rfl) (i32_n rfl)) ?_
  rintro _ z3 t3 s3 ⟨rfl, hz3⟩ hE3
  show pr K K d tb_M49 19 [(0, .ref 131), (1, vi x1)] [vi z3] s3 _
  refine pr_n (pc2 := 21) (lv2 := [(2, vi z3), (0, .ref 131), (1, vi x1)]) (st2 := [.ref 131]) 2 (fun _ _ => rfl) ?_
  refine pr_gE (k2 := 131) (v := vi (t3 131 15)) hE3 rfl rfl rfl (by decide) rfl rfl rfl fun h4 => ?_
  have h4 : i32 (t3 131 15) := h4
  refine pr_n (pc2 := 29) (lv2 := [(3, vi (t3 131 15)), (2, vi z3), (0, .ref 131), (1, vi x1)]) (st2 := [vi 313, .ref 131]) 3 (fun _ _ => rfl) ?_
  refine pr_m1 (args := [vi 313]) (rest := []) rfl rfl rfl rfl (Nat.le_of_ble_eq_true rfl) rfl (h_43 s3 t3 313 hE3 (i32_n rfl)) ?_
  rintro _ _ t5 s5 ⟨rfl, rfl⟩ hE5
  show pr K K d tb_M49 32 [(3, vi (t3 131 15)), (2, vi z3), (0, .ref 131), (1, vi x1)] [] s5 _
  refine pr_n (pc2 := 34) (lv2 := [(3, vi (t3 131 15)), (2, vi z3), (0, .ref 131), (1, vi x1)]) (st2 := [vi 0, .ref 131]) 2 (fun _ _ => rfl) ?_
  refine pr_m1 (args := [vi 0]) (rest := []) rfl rfl rfl rfl (Nat.le_of_ble_eq_true rfl) rfl (h_57 s5 t5 0 hE5 (i32_n rfl)) ?_
  rintro _ z6 t6 s6 ⟨rfl, hz6⟩ hE6
  show pr K K d tb_M49 37 [(3, vi (t3 131 15)), (2, vi z3), (0, .ref 131), (1, vi x1)] [vi z6] s6 _
  refine pr_n (pc2 := 40) (lv2 := [(4, vi z6), (3, vi (t3 131 15)), (2, vi z3), (0, .ref 131), (1, vi x1)]) (st2 := [.ref 131]) 2 (fun _ _ => rfl) ?_
  refine pr_get (v := .ref C) rfl rfl rfl (by decide) (rv_ref (show s6.1 131 1 = ((C : Nat) : Int) from hE6.2.2.1)) fun _ => ?_
  refine pr_n (pc2 := 46) (lv2 := [(4, vi z6), (3, vi (t3 131 15)), (2, vi z3), (0, .ref 131), (1, vi x1)]) (st2 := [vi z6, vi (t3 131 15), .ref C]) 2 (fun _ _ => rfl) ?_
  refine pr_s1 (args := [vi (t3 131 15), vi z6]) (rest := []) rfl rfl rfl (TK0 hC) (Nat.le_of_ble_eq_true rfl) rfl (h_66 s6 t6 (t3 131 15) z6 hE6 h4 hz6) s_lnk ?_
  rintro _ s7 ⟨rfl, _⟩ hE7
  show pr K K d tb_M49 49 [(4, vi z6), (3, vi (t3 131 15)), (2, vi z3), (0, .ref 131), (1, vi x1)] [] s7 _
  refine pr_n (pc2 := 52) (lv2 := [(4, vi z6), (3, vi (t3 131 15)), (2, vi z3), (0, .ref 131), (1, vi x1)]) (st2 := [vi 59, .ref 131]) 2 (fun _ _ => rfl) ?_
  refine pr_m1 (args := [vi 59]) (rest := []) rfl rfl rfl rfl (Nat.le_of_ble_eq_true rfl) rfl (h_43 s7 ((lnk t6 (t3 131 15) z6)) 59 hE7 (i32_n rfl)) ?_
  rintro _ _ t8 s8 ⟨rfl, rfl⟩ hE8
  show pr K K d tb_M49 55 [(4, vi z6), (3, vi (t3 131 15)), (2, vi z3), (0, .ref 131), (1, vi x1)] [] s8 _
  refine pr_n (pc2 := 58) (lv2 := [(4, vi z6), (3, vi (t3 131 15)), (2, vi z3), (0, .ref 131), (1, vi x1)]) (st2 := [vi 125, .ref 131]) 2 (fun _ _ => rfl) ?_
  refine pr_m1 (args := [vi 125]) (rest := []) rfl rfl rfl rfl (Nat.le_of_ble_eq_true rfl) rfl (h_43 s8 t8 125 hE8 (i32_n rfl)) ?_
  rintro _ _ t9 s9 ⟨rfl, rfl⟩ hE9
  show pr K K d tb_M49 61 [(4, vi z6), (3, vi (t3 131 15)), (2, vi z3), (0, .ref 131), (1, vi x1)] [] s9 _
  refine pr_n (pc2 := 62) (lv2 := [(4, vi z6), (3, vi (t3 131 15)), (2, vi z3), (0, .ref 131), (1, vi x1)]) (st2 := [.ref 131]) 1 (fun _ _ => rfl) ?_
  refine pr_get (v := .ref C) rfl rfl rfl (by decide) (rv_ref (show s9.1 131 1 = ((C : Nat) : Int) from hE9.2.2.1)) fun _ => ?_
  refine pr_get (v := .ref (C + 6)) rfl rfl (TK0 hC) (by decide) (rv_ref (hE9.2.1 C 5 (C + 6) (rcK hC (by omega)))) fun _ => ?_
  refine pr_n (pc2 := 69) (lv2 := [(4, vi z6), (3, vi (t3 131 15)), (2, vi z3), (0, .ref 131), (1, vi x1)]) (st2 := [vi x1, .ref (C + 6)]) 1 (fun _ _ => rfl) ?_
  refine pr_s1 (args := [vi x1]) (rest := []) rfl rfl rfl (TK6 hC) (Nat.le_of_ble_eq_true rfl) rfl (h_22 s9 t9 x1 hE9 hx1) s_ncu ?_
  rintro _ s10 ⟨rfl, _⟩ hE10
  show pr K K d tb_M49 72 [(4, vi z6), (3, vi (t3 131 15)), (2, vi z3), (0, .ref 131), (1, vi x1)] [] s10 _
  refine pr_n (pc2 := 73) (lv2 := [(4, vi z6), (3, vi (t3 131 15)), (2, vi z3), (0, .ref 131), (1, vi x1)]) (st2 := [vi z3]) 1 (fun _ _ => rfl) ?_
  by_cases h11 : 0 ≤ z3
  · refine mq_t h11 ?_
    refine pr_if1t rfl rfl hz3 h11 ?_
    refine pr_n (pc2 := 82) (lv2 := [(4, vi z6), (3, vi (t3 131 15)), (2, vi z3), (0, .ref 131), (1, vi x1)]) (st2 := [vi z3]) 1 (fun _ _ => rfl) ?_
    refine pr_reti rfl rfl ?_
    exact .inl ⟨_, z3, _, rfl, ⟨rfl, hz3⟩, rfl, hE10⟩
  · refine mq_f h11 ?_
    refine pr_if1f rfl rfl hz3 h11 ?_
    refine pr_n (pc2 := 82) (lv2 := [(4, vi z6), (3, vi (t3 131 15)), (2, vi z3), (0, .ref 131), (1, vi x1)]) (st2 := [vi z6]) 2 (fun _ _ => rfl) ?_
    refine pr_reti rfl rfl ?_
    exact .inl ⟨_, z6, _, rfl, ⟨rfl, hz6⟩, rfl, hE10⟩
set_option maxHeartbeats 20000000 in
set_option maxRecDepth 100000 in
theorem cm75 {K d C : Nat} (h_37 : cT37 K d C) (h_40 : cT40 K d C) (h_41 : cT41 K d C) (h_43 : cT43 K d C) (h_46 : cT46 K d C) (h_59 : cT59 K d C) (h_76 : cT76 K d C) (h_77 : cT77 K d C) : cT75 K (d + 1) C := by
  intro s t x1 hE hx1
  have hC : C = 99 ∨ C = 115 := hE.1
  refine pcr_of (M := tb_M75) rfl ?_
  show pr K K d tb_M75 0 [(0, .ref 131), (1, vi x1)] [] s _
  rw [cG_75]
  unfold cM75
  refine pr_n (pc2 := 1) (lv2 := [(0, .ref 131), (1, vi x1)]) (st2 := [vi x1]) 1 (fun _ _ => rfl) ?_
  by_cases h1 : x1 = 300
  · refine mq_t h1 ?_
    refine pr_tsw rfl hx1 (by rw [h1]; rfl) rfl ?_
    refine pr_n (pc2 := 39) (lv2 := [(0, .ref 131), (1, vi x1)]) (st2 := [vi 0, vi 0, .ref 131]) 3 (fun _ _ => rfl) ?_
    refine pr_m1 (args := [vi 0, vi 0]) (rest := []) rfl rfl rfl rfl (Nat.le_of_ble_eq_true rfl) rfl (h_37 s t 0 0 hE (i32_n rfl) (i32_n rfl)) ?_
    rintro _ z2 t2 s2 ⟨rfl, hz2⟩ hE2
    show pr K K d tb_M75 42 [(0, .ref 131), (1, vi x1)] [vi z2] s2 _
    refine pr_n (pc2 := 46) (lv2 := [(2, vi z2), (0, .ref 131), (1, vi x1)]) (st2 := [vi 58, .ref 131]) 3 (fun _ _ => rfl) ?_
    refine pr_m1 (args := [vi 58]) (rest := []) rfl rfl rfl rfl (Nat.le_of_ble_eq_true rfl) rfl (h_43 s2 t2 58 hE2 (i32_n rfl)) ?_
    rintro _ _ t3 s3 ⟨rfl, rfl⟩ hE3
    show pr K K d tb_M75 49 [(2, vi z2), (0, .ref 131), (1, vi x1)] [] s3 _
    refine pr_n (pc2 := 50) (lv2 := [(2, vi z2), (0, .ref 131), (1, vi x1)]) (st2 := [.ref 131]) 1 (fun _ _ => rfl) ?_
    refine pr_get (v := .ref C) rfl rfl rfl (by decide) (rv_ref (show s3.1 131 1 = ((C : Nat) : Int) from hE3.2.2.1)) fun _ => ?_
    refine pr_n (pc2 := 58) (lv2 := [(2, vi z2), (0, .ref 131), (1, vi x1)]) (st2 := [vi 16, vi 1, .ref 131, vi z2, .ref C]) 4 (fun _ _ => rfl) ?_
    refine pr_m1 (args := [vi 1, vi 16]) (rest := [vi z2, .ref C]) rfl rfl rfl rfl (Nat.le_of_ble_eq_true rfl) rfl (h_59 s3 t3 1 16 hE3 (i32_n rfl) (i32_n rfl)) ?_
    rintro _ z4 t4 s4 ⟨rfl, hz4⟩ hE4
    show pr K K d tb_M75 61 [(2, vi z2), (0, .ref 131), (1, vi x1)] [vi z4, vi z2, .ref C] s4 _
    refine pr_s1 (args := [vi z2, vi z4]) (rest := []) rfl rfl rfl (TK0 hC) (Nat.le_of_ble_eq_true rfl) rfl (h_46 s4 t4 z2 z4 hE4 hz2 hz4) s_sbi ?_
    rintro _ s5 ⟨rfl, _⟩ hE5
    show pr K K d tb_M75 64 [(2, vi z2), (0, .ref 131), (1, vi x1)] [] s5 _
    refine pr_n (pc2 := 184) (lv2 := [(2, vi z2), (0, .ref 131), (1, vi x1)]) (st2 := [vi 59, .ref 131]) 3 (fun _ _ => rfl) ?_
    refine pr_m1 (args := [vi 59]) (rest := []) rfl rfl rfl rfl (Nat.le_of_ble_eq_true rfl) rfl (h_43 s5 ((sbi t4 z2 z4)) 59 hE5 (i32_n rfl)) ?_
    rintro _ _ t6 s6 ⟨rfl, rfl⟩ hE6
    show pr K K d tb_M75 187 [(2, vi z2), (0, .ref 131), (1, vi x1)] [] s6 _
    refine pr_end (fun _ _ => rfl) ?_
    exact .inl ⟨_, 0, _, rfl, ⟨rfl, rfl⟩, rfl, hE6⟩
  · refine mq_f h1 ?_
    by_cases h7 : x1 = 301
    · refine mq_t h7 ?_
      refine pr_tsw rfl hx1 (by rw [h7]; rfl) rfl ?_
      refine pr_n (pc2 := 68) (lv2 := [(0, .ref 131), (1, vi x1)]) (st2 := [.ref 131]) 1 (fun _ _ => rfl) ?_
      refine pr_get (v := .ref C) rfl rfl rfl (by decide) (rv_ref (show s.1 131 1 = ((C : Nat) : Int) from hE.2.2.1)) fun _ => ?_
      refine pr_n (pc2 := 74) (lv2 := [(0, .ref 131), (1, vi x1)]) (st2 := [vi 0, vi 0, .ref 131, .ref C]) 3 (fun _ _ => rfl) ?_
      refine pr_m1 (args := [vi 0, vi 0]) (rest := [.ref C]) rfl rfl rfl rfl (Nat.le_of_ble_eq_true rfl) rfl (h_37 s t 0 0 hE (i32_n rfl) (i32_n rfl)) ?_
      rintro _ z8 t8 s8 ⟨rfl, hz8⟩ hE8
      show pr K K d tb_M75 77 [(0, .ref 131), (1, vi x1)] [vi z8, .ref C] s8 _
      refine pr_n (pc2 := 78) (lv2 := [(0, .ref 131), (1, vi x1)]) (st2 := [vi 0, vi z8, .ref C]) 1 (fun _ _ => rfl) ?_
      refine pr_s1 (args := [vi z8, vi 0]) (rest := []) rfl rfl rfl (TK0 hC) (Nat.le_of_ble_eq_true rfl) rfl (h_46 s8 t8 z8 0 hE8 hz8 (i32_n rfl)) s_sbi ?_
      rintro _ s9 ⟨rfl, _⟩ hE9
      show pr K K d tb_M75 81 [(0, .ref 131), (1, vi x1)] [] s9 _
      refine pr_n (pc2 := 184) (lv2 := [(0, .ref 131), (1, vi x1)]) (st2 := [vi 59, .ref 131]) 3 (fun _ _ => rfl) ?_
      refine pr_m1 (args := [vi 59]) (rest := []) rfl rfl rfl rfl (Nat.le_of_ble_eq_true rfl) rfl (h_43 s9 ((sbi t8 z8 0)) 59 hE9 (i32_n rfl)) ?_
      rintro _ _ t10 s10 ⟨rfl, rfl⟩ hE10
      show pr K K d tb_M75 187 [(0, .ref 131), (1, vi x1)] [] s10 _
      refine pr_end (fun _ _ => rfl) ?_
      exact .inl ⟨_, 0, _, rfl, ⟨rfl, rfl⟩, rfl, hE10⟩
    · refine mq_f h7 ?_
      by_cases h11 : x1 = 302
      · refine mq_t h11 ?_
        refine pr_tsw rfl hx1 (by rw [h11]; rfl) rfl ?_
        refine pr_n (pc2 := 87) (lv2 := [(0, .ref 131), (1, vi x1)]) (st2 := [vi 0, vi 1, .ref 131]) 3 (fun _ _ => rfl) ?_
        refine pr_m1 (args := [vi 1, vi 0]) (rest := []) rfl rfl rfl rfl (Nat.le_of_ble_eq_true rfl) rfl (h_37 s t 1 0 hE (i32_n rfl) (i32_n rfl)) ?_
        rintro _ z12 t12 s12 ⟨rfl, hz12⟩ hE12
        show pr K K d tb_M75 90 [(0, .ref 131), (1, vi x1)] [vi z12] s12 _
        refine pr_n (pc2 := 94) (lv2 := [(3, vi z12), (0, .ref 131), (1, vi x1)]) (st2 := [vi 91, .ref 131]) 3 (fun _ _ => rfl) ?_
        refine pr_m1 (args := [vi 91]) (rest := []) rfl rfl rfl rfl (Nat.le_of_ble_eq_true rfl) rfl (h_43 s12 t12 91 hE12 (i32_n rfl)) ?_
        rintro _ _ t13 s13 ⟨rfl, rfl⟩ hE13
        show pr K K d tb_M75 97 [(3, vi z12), (0, .ref 131), (1, vi x1)] [] s13 _
        refine pr_n (pc2 := 98) (lv2 := [(3, vi z12), (0, .ref 131), (1, vi x1)]) (st2 := [.ref 131]) 1 (fun _ _ => rfl) ?_
        refine pr_get (v := .ref 137) rfl rfl rfl (by decide) (rv_ref (hE13.2.1 131 0 137 rfl)) fun _ => ?_
        refine pr_s1 (args := []) (rest := []) rfl rfl rfl rfl (Nat.le_of_ble_eq_true rfl) rfl (h_40 s13 t13  hE13 ) s_plc ?_
        rintro _ s14 ⟨rfl, hz14⟩ hE14
        show pr K K d tb_M75 104 [(3, vi z12), (0, .ref 131), (1, vi x1)] [vi (plc t13)] s14 _
        refine pr_n (pc2 := 110) (lv2 := [(4, vi (plc t13)), (3, vi z12), (0, .ref 131), (1, vi x1)]) (st2 := [vi 64, vi 1, .ref 131]) 4 (fun _ _ => rfl) ?_
        refine pr_m1 (args := [vi 1, vi 64]) (rest := []) rfl rfl rfl rfl (Nat.le_of_ble_eq_true rfl) rfl (h_59 s14 t13 1 64 hE14 (i32_n rfl) (i32_n rfl)) ?_
        rintro _ z15 t15 s15 ⟨rfl, hz15⟩ hE15
        show pr K K d tb_M75 113 [(4, vi (plc t13)), (3, vi z12), (0, .ref 131), (1, vi x1)] [vi z15] s15 _
        refine pr_n (pc2 := 118) (lv2 := [(5, vi z15), (4, vi (plc t13)), (3, vi z12), (0, .ref 131), (1, vi x1)]) (st2 := [vi z15, .ref 131]) 3 (fun _ _ => rfl) ?_
        refine pr_m0 (args := [vi z15]) (rest := [.ref 131]) rfl rfl rfl (Nat.le_of_ble_eq_true rfl) rfl (h_76 s15 t15 z15 hE15 hz15) ?_
        rintro _ z16 t16 s16 ⟨rfl, hz16⟩ hE16
        show pr K K d tb_M75 121 [(5, vi z15), (4, vi (plc t13)), (3, vi z12), (0, .ref 131), (1, vi x1)] [vi z16, .ref 131] s16 _
        refine pr_n (pc2 := 122) (lv2 := [(5, vi z15), (4, vi (plc t13)), (3, vi z12), (0, .ref 131), (1, vi x1)]) (st2 := [vi 1, vi z16, .ref 131]) 1 (fun _ _ => rfl) ?_
        by_cases h17 : z16 ≠ 1
        · refine mq_t h17 ?_
          refine pr_if2t rfl rfl hz16 (i32_n rfl) h17 ?_
          refine pr_n (pc2 := 132) (lv2 := [(5, vi z15), (4, vi (plc t13)), (3, vi z12), (0, .ref 131), (1, vi x1)]) (st2 := [vi (plc t13), vi 0, .ref 131]) 2 (fun _ _ => rfl) ?_
          exact pr_c1 (args := [vi 0, vi (plc t13)]) (rest := []) rfl rfl rfl rfl (Nat.le_of_ble_eq_true rfl) rfl (h_41 s16 t16 0 (plc t13) hE16 (by decide) hz14) chk0
        · refine mq_f h17 ?_
          refine pr_if2f rfl rfl hz16 (i32_n rfl) h17 ?_
          refine pr_n (pc2 := 132) (lv2 := [(5, vi z15), (4, vi (plc t13)), (3, vi z12), (0, .ref 131), (1, vi x1)]) (st2 := [vi (plc t13), vi 1, .ref 131]) 3 (fun _ _ => rfl) ?_
          refine pr_s1 (args := [vi 1, vi (plc t13)]) (rest := []) rfl rfl rfl rfl (Nat.le_of_ble_eq_true rfl) rfl (h_41 s16 t16 1 (plc t13) hE16 (by decide) hz14) chk1 ?_
          rintro _ s19 ⟨rfl, _⟩ hE19
          show pr K K d tb_M75 135 [(5, vi z15), (4, vi (plc t13)), (3, vi z12), (0, .ref 131), (1, vi x1)] [] s19 _
          refine pr_n (pc2 := 136) (lv2 := [(5, vi z15), (4, vi (plc t13)), (3, vi z12), (0, .ref 131), (1, vi x1)]) (st2 := [.ref 131]) 1 (fun _ _ => rfl) ?_
          refine pr_get (v := .ref C) rfl rfl rfl (by decide) (rv_ref (show s19.1 131 1 = ((C : Nat) : Int) from hE19.2.2.1)) fun _ => ?_
          refine pr_n (pc2 := 142) (lv2 := [(5, vi z15), (4, vi (plc t13)), (3, vi z12), (0, .ref 131), (1, vi x1)]) (st2 := [vi z15, vi z12, .ref C]) 2 (fun _ _ => rfl) ?_
          refine pr_s1 (args := [vi z12, vi z15]) (rest := []) rfl rfl rfl (TK0 hC) (Nat.le_of_ble_eq_true rfl) rfl (h_77 s19 t16 z12 z15 hE19 hz12 hz15) s_ssi ?_
          rintro _ s20 ⟨rfl, _⟩ hE20
          show pr K K d tb_M75 145 [(5, vi z15), (4, vi (plc t13)), (3, vi z12), (0, .ref 131), (1, vi x1)] [] s20 _
          refine pr_n (pc2 := 148) (lv2 := [(5, vi z15), (4, vi (plc t13)), (3, vi z12), (0, .ref 131), (1, vi x1)]) (st2 := [vi 93, .ref 131]) 2 (fun _ _ => rfl) ?_
          refine pr_m1 (args := [vi 93]) (rest := []) rfl rfl rfl rfl (Nat.le_of_ble_eq_true rfl) rfl (h_43 s20 ((ssi t16 z12 z15)) 93 hE20 (i32_n rfl)) ?_
          rintro _ _ t21 s21 ⟨rfl, rfl⟩ hE21
          show pr K K d tb_M75 151 [(5, vi z15), (4, vi (plc t13)), (3, vi z12), (0, .ref 131), (1, vi x1)] [] s21 _
          refine pr_n (pc2 := 184) (lv2 := [(5, vi z15), (4, vi (plc t13)), (3, vi z12), (0, .ref 131), (1, vi x1)]) (st2 := [vi 59, .ref 131]) 3 (fun _ _ => rfl) ?_
          refine pr_m1 (args := [vi 59]) (rest := []) rfl rfl rfl rfl (Nat.le_of_ble_eq_true rfl) rfl (h_43 s21 t21 59 hE21 (i32_n rfl)) ?_
          rintro _ _ t22 s22 ⟨rfl, rfl⟩ hE22
          show pr K K d tb_M75 187 [(5, vi z15), (4, vi (plc t13)), (3, vi z12), (0, .ref 131), (1, vi x1)] [] s22 _
          refine pr_end (fun _ _ => rfl) ?_
          exact .inl ⟨_, 0, _, rfl, ⟨rfl, rfl⟩, rfl, hE22⟩
      · refine mq_f h11 ?_
        by_cases h23 : x1 = 303
        · refine mq_t h23 ?_
          refine pr_tsw rfl hx1 (by rw [h23]; rfl) rfl ?_
          refine pr_n (pc2 := 157) (lv2 := [(0, .ref 131), (1, vi x1)]) (st2 := [vi 0, vi 2, .ref 131]) 3 (fun _ _ => rfl) ?_
          refine pr_m1 (args := [vi 2, vi 0]) (rest := []) rfl rfl rfl rfl (Nat.le_of_ble_eq_true rfl) rfl (h_37 s t 2 0 hE (i32_n rfl) (i32_n rfl)) ?_
          rintro _ z24 t24 s24 ⟨rfl, hz24⟩ hE24
          show pr K K d tb_M75 160 [(0, .ref 131), (1, vi x1)] [vi z24] s24 _
          refine pr_n (pc2 := 184) (lv2 := [(0, .ref 131), (1, vi x1)]) (st2 := [vi 59, .ref 131]) 4 (fun _ _ => rfl) ?_
          refine pr_m1 (args := [vi 59]) (rest := []) rfl rfl rfl rfl (Nat.le_of_ble_eq_true rfl) rfl (h_43 s24 t24 59 hE24 (i32_n rfl)) ?_
          rintro _ _ t25 s25 ⟨rfl, rfl⟩ hE25
          show pr K K d tb_M75 187 [(0, .ref 131), (1, vi x1)] [] s25 _
          refine pr_end (fun _ _ => rfl) ?_
          exact .inl ⟨_, 0, _, rfl, ⟨rfl, rfl⟩, rfl, hE25⟩
        · refine mq_f h23 ?_
          by_cases h26 : x1 = 304
          · refine mq_t h26 ?_
            refine pr_tsw rfl hx1 (by rw [h26]; rfl) rfl ?_
            refine pr_n (pc2 := 167) (lv2 := [(0, .ref 131), (1, vi x1)]) (st2 := [vi 0, vi 3, .ref 131]) 3 (fun _ _ => rfl) ?_
            refine pr_m1 (args := [vi 3, vi 0]) (rest := []) rfl rfl rfl rfl (Nat.le_of_ble_eq_true rfl) rfl (h_37 s t 3 0 hE (i32_n rfl) (i32_n rfl)) ?_
            rintro _ z27 t27 s27 ⟨rfl, hz27⟩ hE27
            show pr K K d tb_M75 170 [(0, .ref 131), (1, vi x1)] [vi z27] s27 _
            refine pr_n (pc2 := 184) (lv2 := [(0, .ref 131), (1, vi x1)]) (st2 := [vi 59, .ref 131]) 4 (fun _ _ => rfl) ?_
            refine pr_m1 (args := [vi 59]) (rest := []) rfl rfl rfl rfl (Nat.le_of_ble_eq_true rfl) rfl (h_43 s27 t27 59 hE27 (i32_n rfl)) ?_
            rintro _ _ t28 s28 ⟨rfl, rfl⟩ hE28
            show pr K K d tb_M75 187 [(0, .ref 131), (1, vi x1)] [] s28 _
            refine pr_end (fun _ _ => rfl) ?_
            exact .inl ⟨_, 0, _, rfl, ⟨rfl, rfl⟩, rfl, hE28⟩
          · refine mq_f h26 ?_
            refine pr_tsw rfl hx1 (if_pos (by omega)) rfl ?_
            refine pr_n (pc2 := 177) (lv2 := [(0, .ref 131), (1, vi x1)]) (st2 := [vi 0, vi 4, .ref 131]) 3 (fun _ _ => rfl) ?_
            refine pr_m1 (args := [vi 4, vi 0]) (rest := []) rfl rfl rfl rfl (Nat.le_of_ble_eq_true rfl) rfl (h_37 s t 4 0 hE (i32_n rfl) (i32_n rfl)) ?_
            rintro _ z29 t29 s29 ⟨rfl, hz29⟩ hE29
            show pr K K d tb_M75 180 [(0, .ref 131), (1, vi x1)] [vi z29] s29 _
            refine pr_n (pc2 := 184) (lv2 := [(0, .ref 131), (1, vi x1)]) (st2 := [vi 59, .ref 131]) 3 (fun _ _ => rfl) ?_
            refine pr_m1 (args := [vi 59]) (rest := []) rfl rfl rfl rfl (Nat.le_of_ble_eq_true rfl) rfl (h_43 s29 t29 59 hE29 (i32_n rfl)) ?_
            rintro _ _ t30 s30 ⟨rfl, rfl⟩ hE30
            show pr K K d tb_M75 187 [(0, .ref 131), (1, vi x1)] [] s30 _
            refine pr_end (fun _ _ => rfl) ?_
            exact .inl ⟨_, 0, _, rfl, ⟨rfl, rfl⟩, rfl, hE30⟩
set_option maxHeartbeats 20000000 in
set_option maxRecDepth 100000 in
theorem cu20_0 {N K d C : Nat} (h_21 : cT21 K d C) (h_24 : cT24 K d C) (h_34 : cT34 K d C) (h_35 : cT35 K d C) (h_36 : cT36 K d C) (h_40 : cT40 K d C) (h_41 : cT41 K d C) (h_48 : cT48 K d C) (h_49 : cT49 K d C) (h_53 : cT53 K d C) (h_74 : cT74 K d C) (h_75 : cT75 K d C) (ih : ∀ N2, N2 < N → cA20 N2 K d C) : cU20_0 N K d C := by
  intro s t y2 hE hy2
  have hC : C = 99 ∨ C = 115 := hE.1
  rw [cG_20_42]
  unfold cM20_42
  refine pr_lt (pc2 := 43) (lv2 := [(2, vi y2), (0, .ref 131), (1, .ref C)]) (st2 := [vi y2]) (fun _ _ => rfl) fun N2 hN2 => ?_
  refine pr_n (pc2 := 46) (lv2 := [(2, vi y2), (0, .ref 131), (1, .ref C)]) (st2 := [vi 2000, vi y2]) 1 (fun _ _ => rfl) ?_
  by_cases h1 : 2000 ≤ y2
  · refine mq_t h1 ?_
    refine pr_if2t rfl rfl hy2 (i32_n rfl) h1 ?_
    refine pr_n (pc2 := 189) (lv2 := [(2, vi y2), (0, .ref 131), (1, .ref C)]) (st2 := [.ref 131]) 1 (fun _ _ => rfl) ?_
    refine pr_get (v := .ref C) rfl rfl rfl (by decide) (rv_ref (show s.1 131 1 = ((C : Nat) : Int) from hE.2.2.1)) fun _ => ?_
    refine pr_n (pc2 := 195) (lv2 := [(2, vi y2), (0, .ref 131), (1, .ref C)]) (st2 := [.ref 131, vi 0, .ref 131, .ref C]) 3 (fun _ _ => rfl) ?_
    refine pr_get (v := .ref C) rfl rfl rfl (by decide) (rv_ref (show s.1 131 1 = ((C : Nat) : Int) from hE.2.2.1)) fun _ => ?_
    refine pr_get (v := .ref (C + 6)) rfl rfl (TK0 hC) (by decide) (rv_ref (hE.2.1 C 5 (C + 6) (rcK hC (by omega)))) fun _ => ?_
    refine pr_gE (k2 := 105) (v := vi (t 105 3)) hE rfl rfl (TK6 hC) (by decide) rfl rfl rfl fun h2 => ?_
    have h2 : i32 (t 105 3) := h2
    refine pr_m1 (args := [vi 0, vi (t 105 3)]) (rest := [.ref C]) rfl rfl rfl rfl (Nat.le_of_ble_eq_true rfl) rfl (h_53 s t 0 (t 105 3) hE (i32_n rfl) h2) ?_
    rintro _ z3 t3 s3 ⟨rfl, hz3⟩ hE3
    show pr N2 K d tb_M20 207 [(2, vi y2), (0, .ref 131), (1, .ref C)] [vi z3, .ref C] s3 _
    refine pr_pE (k2 := 99) (z := z3) hE3 rfl rfl rfl rfl (show 96 ≤ C by omega) (TK0 hC) (by decide) rfl (show i32 (z3) from hz3) (hf_int' _) (nK (a := 0) hC (by omega)) rfl rfl (fun e => absurd e.1 (show ¬ (C = 131) by omega)) (iv_c (by decide)) fun s4 hE4 => ?_
    refine pr_n (pc2 := 212) (lv2 := [(2, vi y2), (0, .ref 131), (1, .ref C)]) (st2 := [.ref 131, .ref 131]) 2 (fun _ _ => rfl) ?_
    refine pr_get (v := .ref 137) rfl rfl rfl (by decide) (rv_ref (hE4.2.1 131 0 137 rfl)) fun _ => ?_
    refine pr_s1 (args := []) (rest := [.ref 131]) rfl rfl rfl rfl (Nat.le_of_ble_eq_true rfl) rfl (h_34 s4 (up2 t3 99 13 z3)  hE4 ) s_kkd ?_
    rintro _ s5 ⟨rfl, hz5⟩ hE5
    show pr N2 K d tb_M20 218 [(2, vi y2), (0, .ref 131), (1, .ref C)] [vi (kkd (up2 t3 99 13 z3)), .ref 131] s5 _
    refine pr_n (pc2 := 219) (lv2 := [(2, vi y2), (0, .ref 131), (1, .ref C)]) (st2 := [vi 3, vi (kkd (up2 t3 99 13 z3)), .ref 131]) 1 (fun _ _ => rfl) ?_
    by_cases h6 : kkd (up2 t3 99 13 z3) ≠ 3
    · refine mq_t h6 ?_
      refine pr_if2t rfl rfl hz5 (i32_n rfl) h6 ?_
      refine pr_n (pc2 := 228) (lv2 := [(2, vi y2), (0, .ref 131), (1, .ref C)]) (st2 := [.ref 131, vi 0, .ref 131]) 2 (fun _ _ => rfl) ?_
      refine pr_get (v := .ref 137) rfl rfl rfl (by decide) (rv_ref (hE5.2.1 131 0 137 rfl)) fun _ => ?_
      refine pr_s1 (args := []) (rest := [vi 0, .ref 131]) rfl rfl rfl rfl (Nat.le_of_ble_eq_true rfl) rfl (h_40 s5 (up2 t3 99 13 z3)  hE5 ) s_plc ?_
      rintro _ s7 ⟨rfl, hz7⟩ hE7
      show pr N2 K d tb_M20 234 [(2, vi y2), (0, .ref 131), (1, .ref C)] [vi (plc (up2 t3 99 13 z3)), vi 0, .ref 131] s7 _
      exact pr_c1 (args := [vi 0, vi (plc (up2 t3 99 13 z3))]) (rest := []) rfl rfl rfl rfl (Nat.le_of_ble_eq_true rfl) rfl (h_41 s7 (up2 t3 99 13 z3) 0 (plc (up2 t3 99 13 z3)) hE7 (by decide) hz7) chk0
    · refine mq_f h6 ?_
      refine pr_if2f rfl rfl hz5 (i32_n rfl) h6 ?_
      refine pr_n (pc2 := 228) (lv2 := [(2, vi y2), (0, .ref 131), (1, .ref C)]) (st2 := [.ref 131, vi 1, .ref 131]) 3 (fun _ _ => rfl) ?_
      refine pr_get (v := .ref 137) rfl rfl rfl (by decide) (rv_ref (hE5.2.1 131 0 137 rfl)) fun _ => ?_
      refine pr_s1 (args := []) (rest := [vi 1, .ref 131]) rfl rfl rfl rfl (Nat.le_of_ble_eq_true rfl) rfl (h_40 s5 (up2 t3 99 13 z3)  hE5 ) s_plc ?_
      rintro _ s9 ⟨rfl, hz9⟩ hE9
      show pr N2 K d tb_M20 234 [(2, vi y2), (0, .ref 131), (1, .ref C)] [vi (plc (up2 t3 99 13 z3)), vi 1, .ref 131] s9 _
      refine pr_s1 (args := [vi 1, vi (plc (up2 t3 99 13 z3))]) (rest := []) rfl rfl rfl rfl (Nat.le_of_ble_eq_true rfl) rfl (h_41 s9 (up2 t3 99 13 z3) 1 (plc (up2 t3 99 13 z3)) hE9 (by decide) hz9) chk1 ?_
      rintro _ s10 ⟨rfl, _⟩ hE10
      show pr N2 K d tb_M20 237 [(2, vi y2), (0, .ref 131), (1, .ref C)] [] s10 _
      refine pr_end (fun _ _ => rfl) ?_
      exact .inl ⟨_, 0, _, rfl, ⟨rfl, rfl⟩, rfl, hE10⟩
  · refine mq_f h1 ?_
    refine pr_if2f rfl rfl hy2 (i32_n rfl) h1 ?_
    refine pr_n (pc2 := 50) (lv2 := [(2, vi y2), (0, .ref 131), (1, .ref C)]) (st2 := [.ref 131]) 1 (fun _ _ => rfl) ?_
    refine pr_get (v := .ref 137) rfl rfl rfl (by decide) (rv_ref (hE.2.1 131 0 137 rfl)) fun _ => ?_
    refine pr_s1 (args := []) (rest := []) rfl rfl rfl rfl (Nat.le_of_ble_eq_true rfl) rfl (h_34 s t  hE ) s_kkd ?_
    rintro _ s11 ⟨rfl, hz11⟩ hE11
    show pr N2 K d tb_M20 56 [(2, vi y2), (0, .ref 131), (1, .ref C)] [vi (kkd t)] s11 _
    refine pr_n (pc2 := 59) (lv2 := [(2, vi y2), (0, .ref 131), (1, .ref C)]) (st2 := [vi 300, vi (kkd t)]) 1 (fun _ _ => rfl) ?_
    by_cases h12 : kkd t < 300
    · refine mq_t h12 ?_
      refine pr_if2t rfl rfl hz11 (i32_n rfl) h12 ?_
      refine pr_n (pc2 := 189) (lv2 := [(2, vi y2), (0, .ref 131), (1, .ref C)]) (st2 := [.ref 131]) 1 (fun _ _ => rfl) ?_
      refine pr_get (v := .ref C) rfl rfl rfl (by decide) (rv_ref (show s11.1 131 1 = ((C : Nat) : Int) from hE11.2.2.1)) fun _ => ?_
      refine pr_n (pc2 := 195) (lv2 := [(2, vi y2), (0, .ref 131), (1, .ref C)]) (st2 := [.ref 131, vi 0, .ref 131, .ref C]) 3 (fun _ _ => rfl) ?_
      refine pr_get (v := .ref C) rfl rfl rfl (by decide) (rv_ref (show s11.1 131 1 = ((C : Nat) : Int) from hE11.2.2.1)) fun _ => ?_
      refine pr_get (v := .ref (C + 6)) rfl rfl (TK0 hC) (by decide) (rv_ref (hE11.2.1 C 5 (C + 6) (rcK hC (by omega)))) fun _ => ?_
      refine pr_gE (k2 := 105) (v := vi (t 105 3)) hE11 rfl rfl (TK6 hC) (by decide) rfl rfl rfl fun h13 => ?_
      have h13 : i32 (t 105 3) := h13
      refine pr_m1 (args := [vi 0, vi (t 105 3)]) (rest := [.ref C]) rfl rfl rfl rfl (Nat.le_of_ble_eq_true rfl) rfl (h_53 s11 t 0 (t 105 3) hE11 (i32_n rfl) h13) ?_
      rintro _ z14 t14 s14 ⟨rfl, hz14⟩ hE14
      show pr N2 K d tb_M20 207 [(2, vi y2), (0, .ref 131), (1, .ref C)] [vi z14, .ref C] s14 _
      refine pr_pE (k2 := 99) (z := z14) hE14 rfl rfl rfl rfl (show 96 ≤ C by omega) (TK0 hC) (by decide) rfl (show i32 (z14) from hz14) (hf_int' _) (nK (a := 0) hC (by omega)) rfl rfl (fun e => absurd e.1 (show ¬ (C = 131) by omega)) (iv_c (by decide)) fun s15 hE15 => ?_
      refine pr_n (pc2 := 212) (lv2 := [(2, vi y2), (0, .ref 131), (1, .ref C)]) (st2 := [.ref 131, .ref 131]) 2 (fun _ _ => rfl) ?_
      refine pr_get (v := .ref 137) rfl rfl rfl (by decide) (rv_ref (hE15.2.1 131 0 137 rfl)) fun _ => ?_
      refine pr_s1 (args := []) (rest := [.ref 131]) rfl rfl rfl rfl (Nat.le_of_ble_eq_true rfl) rfl (h_34 s15 (up2 t14 99 13 z14)  hE15 ) s_kkd ?_
      rintro _ s16 ⟨rfl, hz16⟩ hE16
      show pr N2 K d tb_M20 218 [(2, vi y2), (0, .ref 131), (1, .ref C)] [vi (kkd (up2 t14 99 13 z14)), .ref 131] s16 _
      refine pr_n (pc2 := 219) (lv2 := [(2, vi y2), (0, .ref 131), (1, .ref C)]) (st2 := [vi 3, vi (kkd (up2 t14 99 13 z14)), .ref 131]) 1 (fun _ _ => rfl) ?_
      by_cases h17 : kkd (up2 t14 99 13 z14) ≠ 3
      · refine mq_t h17 ?_
        refine pr_if2t rfl rfl hz16 (i32_n rfl) h17 ?_
        refine pr_n (pc2 := 228) (lv2 := [(2, vi y2), (0, .ref 131), (1, .ref C)]) (st2 := [.ref 131, vi 0, .ref 131]) 2 (fun _ _ => rfl) ?_
        refine pr_get (v := .ref 137) rfl rfl rfl (by decide) (rv_ref (hE16.2.1 131 0 137 rfl)) fun _ => ?_
        refine pr_s1 (args := []) (rest := [vi 0, .ref 131]) rfl rfl rfl rfl (Nat.le_of_ble_eq_true rfl) rfl (h_40 s16 (up2 t14 99 13 z14)  hE16 ) s_plc ?_
        rintro _ s18 ⟨rfl, hz18⟩ hE18
        show pr N2 K d tb_M20 234 [(2, vi y2), (0, .ref 131), (1, .ref C)] [vi (plc (up2 t14 99 13 z14)), vi 0, .ref 131] s18 _
        exact pr_c1 (args := [vi 0, vi (plc (up2 t14 99 13 z14))]) (rest := []) rfl rfl rfl rfl (Nat.le_of_ble_eq_true rfl) rfl (h_41 s18 (up2 t14 99 13 z14) 0 (plc (up2 t14 99 13 z14)) hE18 (by decide) hz18) chk0
      · refine mq_f h17 ?_
        refine pr_if2f rfl rfl hz16 (i32_n rfl) h17 ?_
        refine pr_n (pc2 := 228) (lv2 := [(2, vi y2), (0, .ref 131), (1, .ref C)]) (st2 := [.ref 131, vi 1, .ref 131]) 3 (fun _ _ => rfl) ?_
        refine pr_get (v := .ref 137) rfl rfl rfl (by decide) (rv_ref (hE16.2.1 131 0 137 rfl)) fun _ => ?_
        refine pr_s1 (args := []) (rest := [vi 1, .ref 131]) rfl rfl rfl rfl (Nat.le_of_ble_eq_true rfl) rfl (h_40 s16 (up2 t14 99 13 z14)  hE16 ) s_plc ?_
        rintro _ s20 ⟨rfl, hz20⟩ hE20
        show pr N2 K d tb_M20 234 [(2, vi y2), (0, .ref 131), (1, .ref C)] [vi (plc (up2 t14 99 13 z14)), vi 1, .ref 131] s20 _
        refine pr_s1 (args := [vi 1, vi (plc (up2 t14 99 13 z14))]) (rest := []) rfl rfl rfl rfl (Nat.le_of_ble_eq_true rfl) rfl (h_41 s20 (up2 t14 99 13 z14) 1 (plc (up2 t14 99 13 z14)) hE20 (by decide) hz20) chk1 ?_
        rintro _ s21 ⟨rfl, _⟩ hE21
        show pr N2 K d tb_M20 237 [(2, vi y2), (0, .ref 131), (1, .ref C)] [] s21 _
        refine pr_end (fun _ _ => rfl) ?_
        exact .inl ⟨_, 0, _, rfl, ⟨rfl, rfl⟩, rfl, hE21⟩
    · refine mq_f h12 ?_
      refine pr_if2f rfl rfl hz11 (i32_n rfl) h12 ?_
      refine pr_n (pc2 := 63) (lv2 := [(2, vi y2), (0, .ref 131), (1, .ref C)]) (st2 := [.ref 131]) 1 (fun _ _ => rfl) ?_
      refine pr_get (v := .ref 137) rfl rfl rfl (by decide) (rv_ref (hE11.2.1 131 0 137 rfl)) fun _ => ?_
      refine pr_s1 (args := []) (rest := []) rfl rfl rfl rfl (Nat.le_of_ble_eq_true rfl) rfl (h_34 s11 t  hE11 ) s_kkd ?_
      rintro _ s22 ⟨rfl, hz22⟩ hE22
      show pr N2 K d tb_M20 69 [(2, vi y2), (0, .ref 131), (1, .ref C)] [vi (kkd t)] s22 _
      refine pr_n (pc2 := 72) (lv2 := [(2, vi y2), (0, .ref 131), (1, .ref C)]) (st2 := [vi 307, vi (kkd t)]) 1 (fun _ _ => rfl) ?_
      by_cases h23 : 307 < kkd t
      · refine mq_t h23 ?_
        refine pr_if2t rfl rfl hz22 (i32_n rfl) h23 ?_
        refine pr_n (pc2 := 189) (lv2 := [(2, vi y2), (0, .ref 131), (1, .ref C)]) (st2 := [.ref 131]) 1 (fun _ _ => rfl) ?_
        refine pr_get (v := .ref C) rfl rfl rfl (by decide) (rv_ref (show s22.1 131 1 = ((C : Nat) : Int) from hE22.2.2.1)) fun _ => ?_
        refine pr_n (pc2 := 195) (lv2 := [(2, vi y2), (0, .ref 131), (1, .ref C)]) (st2 := [.ref 131, vi 0, .ref 131, .ref C]) 3 (fun _ _ => rfl) ?_
        refine pr_get (v := .ref C) rfl rfl rfl (by decide) (rv_ref (show s22.1 131 1 = ((C : Nat) : Int) from hE22.2.2.1)) fun _ => ?_
        refine pr_get (v := .ref (C + 6)) rfl rfl (TK0 hC) (by decide) (rv_ref (hE22.2.1 C 5 (C + 6) (rcK hC (by omega)))) fun _ => ?_
        refine pr_gE (k2 := 105) (v := vi (t 105 3)) hE22 rfl rfl (TK6 hC) (by decide) rfl rfl rfl fun h24 => ?_
        have h24 : i32 (t 105 3) := h24
        refine pr_m1 (args := [vi 0, vi (t 105 3)]) (rest := [.ref C]) rfl rfl rfl rfl (Nat.le_of_ble_eq_true rfl) rfl (h_53 s22 t 0 (t 105 3) hE22 (i32_n rfl) h24) ?_
        rintro _ z25 t25 s25 ⟨rfl, hz25⟩ hE25
        show pr N2 K d tb_M20 207 [(2, vi y2), (0, .ref 131), (1, .ref C)] [vi z25, .ref C] s25 _
        refine pr_pE (k2 := 99) (z := z25) hE25 rfl rfl rfl rfl (show 96 ≤ C by omega) (TK0 hC) (by decide) rfl (show i32 (z25) from hz25) (hf_int' _) (nK (a := 0) hC (by omega)) rfl rfl (fun e => absurd e.1 (show ¬ (C = 131) by omega)) (iv_c (by decide)) fun s26 hE26 => ?_
        refine pr_n (pc2 := 212) (lv2 := [(2, vi y2), (0, .ref 131), (1, .ref C)]) (st2 := [.ref 131, .ref 131]) 2 (fun _ _ => rfl) ?_
        refine pr_get (v := .ref 137) rfl rfl rfl (by decide) (rv_ref (hE26.2.1 131 0 137 rfl)) fun _ => ?_
        refine pr_s1 (args := []) (rest := [.ref 131]) rfl rfl rfl rfl (Nat.le_of_ble_eq_true rfl) rfl (h_34 s26 (up2 t25 99 13 z25)  hE26 ) s_kkd ?_
        rintro _ s27 ⟨rfl, hz27⟩ hE27
        show pr N2 K d tb_M20 218 [(2, vi y2), (0, .ref 131), (1, .ref C)] [vi (kkd (up2 t25 99 13 z25)), .ref 131] s27 _
        refine pr_n (pc2 := 219) (lv2 := [(2, vi y2), (0, .ref 131), (1, .ref C)]) (st2 := [vi 3, vi (kkd (up2 t25 99 13 z25)), .ref 131]) 1 (fun _ _ => rfl) ?_
        by_cases h28 : kkd (up2 t25 99 13 z25) ≠ 3
        · refine mq_t h28 ?_
          refine pr_if2t rfl rfl hz27 (i32_n rfl) h28 ?_
          refine pr_n (pc2 := 228) (lv2 := [(2, vi y2), (0, .ref 131), (1, .ref C)]) (st2 := [.ref 131, vi 0, .ref 131]) 2 (fun _ _ => rfl) ?_
          refine pr_get (v := .ref 137) rfl rfl rfl (by decide) (rv_ref (hE27.2.1 131 0 137 rfl)) fun _ => ?_
          refine pr_s1 (args := []) (rest := [vi 0, .ref 131]) rfl rfl rfl rfl (Nat.le_of_ble_eq_true rfl) rfl (h_40 s27 (up2 t25 99 13 z25)  hE27 ) s_plc ?_
          rintro _ s29 ⟨rfl, hz29⟩ hE29
          show pr N2 K d tb_M20 234 [(2, vi y2), (0, .ref 131), (1, .ref C)] [vi (plc (up2 t25 99 13 z25)), vi 0, .ref 131] s29 _
          exact pr_c1 (args := [vi 0, vi (plc (up2 t25 99 13 z25))]) (rest := []) rfl rfl rfl rfl (Nat.le_of_ble_eq_true rfl) rfl (h_41 s29 (up2 t25 99 13 z25) 0 (plc (up2 t25 99 13 z25)) hE29 (by decide) hz29) chk0
        · refine mq_f h28 ?_
          refine pr_if2f rfl rfl hz27 (i32_n rfl) h28 ?_
          refine pr_n (pc2 := 228) (lv2 := [(2, vi y2), (0, .ref 131), (1, .ref C)]) (st2 := [.ref 131, vi 1, .ref 131]) 3 (fun _ _ => rfl) ?_
          refine pr_get (v := .ref 137) rfl rfl rfl (by decide) (rv_ref (hE27.2.1 131 0 137 rfl)) fun _ => ?_
          refine pr_s1 (args := []) (rest := [vi 1, .ref 131]) rfl rfl rfl rfl (Nat.le_of_ble_eq_true rfl) rfl (h_40 s27 (up2 t25 99 13 z25)  hE27 ) s_plc ?_
          rintro _ s31 ⟨rfl, hz31⟩ hE31
          show pr N2 K d tb_M20 234 [(2, vi y2), (0, .ref 131), (1, .ref C)] [vi (plc (up2 t25 99 13 z25)), vi 1, .ref 131] s31 _
          refine pr_s1 (args := [vi 1, vi (plc (up2 t25 99 13 z25))]) (rest := []) rfl rfl rfl rfl (Nat.le_of_ble_eq_true rfl) rfl (h_41 s31 (up2 t25 99 13 z25) 1 (plc (up2 t25 99 13 z25)) hE31 (by decide) hz31) chk1 ?_
          rintro _ s32 ⟨rfl, _⟩ hE32
          show pr N2 K d tb_M20 237 [(2, vi y2), (0, .ref 131), (1, .ref C)] [] s32 _
          refine pr_end (fun _ _ => rfl) ?_
          exact .inl ⟨_, 0, _, rfl, ⟨rfl, rfl⟩, rfl, hE32⟩
      · refine mq_f h23 ?_
        refine pr_if2f rfl rfl hz22 (i32_n rfl) h23 ?_
        refine pr_n (pc2 := 76) (lv2 := [(2, vi y2), (0, .ref 131), (1, .ref C)]) (st2 := [.ref 131]) 1 (fun _ _ => rfl) ?_
        refine pr_get (v := .ref 137) rfl rfl rfl (by decide) (rv_ref (hE22.2.1 131 0 137 rfl)) fun _ => ?_
        refine pr_s1 (args := []) (rest := []) rfl rfl rfl rfl (Nat.le_of_ble_eq_true rfl) rfl (h_34 s22 t  hE22 ) s_kkd ?_
        rintro _ s33 ⟨rfl, hz33⟩ hE33
        show pr N2 K d tb_M20 82 [(2, vi y2), (0, .ref 131), (1, .ref C)] [vi (kkd t)] s33 _
        refine pr_n (pc2 := 84) (lv2 := [(3, vi (kkd t)), (2, vi y2), (0, .ref 131), (1, .ref C)]) (st2 := [.ref 131]) 2 (fun _ _ => rfl) ?_
        refine pr_get (v := .ref 137) rfl rfl rfl (by decide) (rv_ref (hE33.2.1 131 0 137 rfl)) fun _ => ?_
        refine pr_s1 (args := []) (rest := []) rfl rfl rfl rfl (Nat.le_of_ble_eq_true rfl) rfl (h_35 s33 t  hE33 ) s_stp ?_
        rintro _ s34 ⟨rfl, _⟩ hE34
        show pr N2 K d tb_M20 90 [(3, vi (kkd t)), (2, vi y2), (0, .ref 131), (1, .ref C)] [] s34 _
        refine pr_n (pc2 := 94) (lv2 := [(3, vi (kkd t)), (2, vi y2), (0, .ref 131), (1, .ref C)]) (st2 := [vi 306, vi (kkd t)]) 2 (fun _ _ => rfl) ?_
        by_cases h35 : kkd t = 306
        · refine mq_t h35 ?_
          refine pr_if2t rfl rfl hz33 (i32_n rfl) h35 ?_
          refine pr_n (pc2 := 109) (lv2 := [(3, vi (kkd t)), (2, vi y2), (0, .ref 131), (1, .ref C)]) (st2 := [vi 307, vi (kkd t), .ref 131]) 3 (fun _ _ => rfl) ?_
          by_cases h36 : kkd t ≠ 307
          · refine mq_t h36 ?_
            refine pr_if2t rfl rfl hz33 (i32_n rfl) h36 ?_
            refine pr_n (pc2 := 118) (lv2 := [(3, vi (kkd t)), (2, vi y2), (0, .ref 131), (1, .ref C)]) (st2 := [vi 5, .ref 131]) 1 (fun _ _ => rfl) ?_
            refine pr_m1 (args := [vi 5]) (rest := []) rfl rfl rfl rfl (Nat.le_of_ble_eq_true rfl) rfl (h_36 s34 ((stp t)) 5 hE34 (i32_n rfl)) ?_
            rintro _ z37 t37 s37 ⟨rfl, hz37⟩ hE37
            show pr N2 K d tb_M20 121 [(3, vi (kkd t)), (2, vi y2), (0, .ref 131), (1, .ref C)] [vi z37] s37 _
            refine pr_n (pc2 := 124) (lv2 := [(4, vi z37), (3, vi (kkd t)), (2, vi y2), (0, .ref 131), (1, .ref C)]) (st2 := [.ref 131]) 2 (fun _ _ => rfl) ?_
            refine pr_get (v := .ref C) rfl rfl rfl (by decide) (rv_ref (show s37.1 131 1 = ((C : Nat) : Int) from hE37.2.2.1)) fun _ => ?_
            refine pr_get (v := .ref (C + 6)) rfl rfl (TK0 hC) (by decide) (rv_ref (hE37.2.1 C 5 (C + 6) (rcK hC (by omega)))) fun _ => ?_
            refine pr_gE (k2 := 105) (v := vi (t37 105 3)) hE37 rfl rfl (TK6 hC) (by decide) rfl rfl rfl fun h38 => ?_
            have h38 : i32 (t37 105 3) := h38
            refine pr_n (pc2 := 134) (lv2 := [(4, vi z37), (3, vi (kkd t)), (2, vi y2), (0, .ref 131), (1, .ref C)]) (st2 := [.ref 131, vi (t37 105 3)]) 1 (fun _ _ => rfl) ?_
            refine pr_get (v := .ref C) rfl rfl rfl (by decide) (rv_ref (show s37.1 131 1 = ((C : Nat) : Int) from hE37.2.2.1)) fun _ => ?_
            refine pr_n (pc2 := 139) (lv2 := [(4, vi z37), (3, vi (kkd t)), (2, vi y2), (0, .ref 131), (1, .ref C)]) (st2 := [vi z37, .ref C, vi (t37 105 3)]) 1 (fun _ _ => rfl) ?_
            refine pr_s1 (args := [vi z37]) (rest := [vi (t37 105 3)]) rfl rfl rfl (TK0 hC) (Nat.le_of_ble_eq_true rfl) rfl (h_48 s37 t37 z37 hE37 hz37) s_prm ?_
            rintro _ s39 ⟨rfl, hz39⟩ hE39
            show pr N2 K d tb_M20 142 [(4, vi z37), (3, vi (kkd t)), (2, vi y2), (0, .ref 131), (1, .ref C)] [vi (prm t37 z37), vi (t37 105 3)] s39 _
            refine pr_i2 (a := t37 105 3) (b := prm t37 z37) rfl rfl ?_
            show pr N2 K d tb_M20 143 [(4, vi z37), (3, vi (kkd t)), (2, vi y2), (0, .ref 131), (1, .ref C)] [vi (imi (t37 105 3) (prm t37 z37))] s39 _
            have h40 : i32 (imi (t37 105 3) (prm t37 z37)) := i32_in _
            refine pr_n (pc2 := 152) (lv2 := [(5, vi (imi (t37 105 3) (prm t37 z37))), (4, vi z37), (3, vi (kkd t)), (2, vi y2), (0, .ref 131), (1, .ref C)]) (st2 := [vi 307, vi (kkd t), vi z37, .ref 131]) 5 (fun _ _ => rfl) ?_
            refine pr_if2t rfl rfl hz33 (i32_n rfl) (show kkd t ≠ 307 by omega) ?_
            show pr N2 K d tb_M20 164 [(5, vi (imi (t37 105 3) (prm t37 z37))), (4, vi z37), (3, vi (kkd t)), (2, vi y2), (0, .ref 131), (1, .ref C)] [vi z37, .ref 131] s39 _
            refine pr_n (pc2 := 168) (lv2 := [(5, vi (imi (t37 105 3) (prm t37 z37))), (4, vi z37), (3, vi (kkd t)), (2, vi y2), (0, .ref 131), (1, .ref C)]) (st2 := [vi (imi (t37 105 3) (prm t37 z37)), vi 0, .ref 131, vi z37, .ref 131]) 3 (fun _ _ => rfl) ?_
            refine pr_m1 (args := [vi 0, vi (imi (t37 105 3) (prm t37 z37))]) (rest := [vi z37, .ref 131]) rfl rfl rfl rfl (Nat.le_of_ble_eq_true rfl) rfl (h_53 s39 t37 0 (imi (t37 105 3) (prm t37 z37)) hE39 (i32_n rfl) h40) ?_
            rintro _ z41 t41 s41 ⟨rfl, hz41⟩ hE41
            show pr N2 K d tb_M20 171 [(5, vi (imi (t37 105 3) (prm t37 z37))), (4, vi z37), (3, vi (kkd t)), (2, vi y2), (0, .ref 131), (1, .ref C)] [vi z41, vi z37, .ref 131] s41 _
            refine pr_m1 (args := [vi z37, vi z41]) (rest := []) rfl rfl rfl rfl (Nat.le_of_ble_eq_true rfl) rfl (h_74 s41 t41 z37 z41 hE41 hz37 hz41) ?_
            rintro _ _ t42 s42 ⟨rfl, rfl⟩ hE42
            show pr N2 K d tb_M20 174 [(5, vi (imi (t37 105 3) (prm t37 z37))), (4, vi z37), (3, vi (kkd t)), (2, vi y2), (0, .ref 131), (1, .ref C)] [] s42 _
            refine pr_n (pc2 := 182) (lv2 := [(5, vi (imi (t37 105 3) (prm t37 z37))), (4, vi z37), (3, vi (kkd t)), (2, vi y2), (0, .ref 131), (1, .ref C)]) (st2 := []) 1 (fun _ _ => rfl) ?_
            refine pr_inc (a := y2) rfl rfl ?_
            have h43 : i32 (y2 + 1) := by unfold i32 at *; omega
            show pr N2 K d tb_M20 185 [(2, vi (y2 + 1)), (5, vi (imi (t37 105 3) (prm t37 z37))), (4, vi z37), (3, vi (kkd t)), (0, .ref 131), (1, .ref C)] [] s42 _
            refine pr_n (pc2 := 42) (lv2 := [(2, vi (y2 + 1)), (5, vi (imi (t37 105 3) (prm t37 z37))), (4, vi z37), (3, vi (kkd t)), (0, .ref 131), (1, .ref C)]) (st2 := []) 1 (fun _ _ => rfl) ?_
            exact ((ih N2 hN2).2.1) s42 t42 (y2 + 1) (imi (t37 105 3) (prm t37 z37)) z37 (kkd t) hE42 h43 h40 hz37 hz33
          · refine mq_f h36 ?_
            refine pr_if2f rfl rfl hz33 (i32_n rfl) h36 ?_
            refine pr_n (pc2 := 118) (lv2 := [(3, vi (kkd t)), (2, vi y2), (0, .ref 131), (1, .ref C)]) (st2 := [vi 6, .ref 131]) 2 (fun _ _ => rfl) ?_
            refine pr_m1 (args := [vi 6]) (rest := []) rfl rfl rfl rfl (Nat.le_of_ble_eq_true rfl) rfl (h_36 s34 ((stp t)) 6 hE34 (i32_n rfl)) ?_
            rintro _ z44 t44 s44 ⟨rfl, hz44⟩ hE44
            show pr N2 K d tb_M20 121 [(3, vi (kkd t)), (2, vi y2), (0, .ref 131), (1, .ref C)] [vi z44] s44 _
            refine pr_n (pc2 := 124) (lv2 := [(4, vi z44), (3, vi (kkd t)), (2, vi y2), (0, .ref 131), (1, .ref C)]) (st2 := [.ref 131]) 2 (fun _ _ => rfl) ?_
            refine pr_get (v := .ref C) rfl rfl rfl (by decide) (rv_ref (show s44.1 131 1 = ((C : Nat) : Int) from hE44.2.2.1)) fun _ => ?_
            refine pr_get (v := .ref (C + 6)) rfl rfl (TK0 hC) (by decide) (rv_ref (hE44.2.1 C 5 (C + 6) (rcK hC (by omega)))) fun _ => ?_
            refine pr_gE (k2 := 105) (v := vi (t44 105 3)) hE44 rfl rfl (TK6 hC) (by decide) rfl rfl rfl fun h45 => ?_
            have h45 : i32 (t44 105 3) := h45
            refine pr_n (pc2 := 134) (lv2 := [(4, vi z44), (3, vi (kkd t)), (2, vi y2), (0, .ref 131), (1, .ref C)]) (st2 := [.ref 131, vi (t44 105 3)]) 1 (fun _ _ => rfl) ?_
            refine pr_get (v := .ref C) rfl rfl rfl (by decide) (rv_ref (show s44.1 131 1 = ((C : Nat) : Int) from hE44.2.2.1)) fun _ => ?_
            refine pr_n (pc2 := 139) (lv2 := [(4, vi z44), (3, vi (kkd t)), (2, vi y2), (0, .ref 131), (1, .ref C)]) (st2 := [vi z44, .ref C, vi (t44 105 3)]) 1 (fun _ _ => rfl) ?_
            refine pr_s1 (args := [vi z44]) (rest := [vi (t44 105 3)]) rfl rfl rfl (TK0 hC) (Nat.le_of_ble_eq_true rfl) rfl (h_48 s44 t44 z44 hE44 hz44) s_prm ?_
            rintro _ s46 ⟨rfl, hz46⟩ hE46
            show pr N2 K d tb_M20 142 [(4, vi z44), (3, vi (kkd t)), (2, vi y2), (0, .ref 131), (1, .ref C)] [vi (prm t44 z44), vi (t44 105 3)] s46 _
            refine pr_i2 (a := t44 105 3) (b := prm t44 z44) rfl rfl ?_
            show pr N2 K d tb_M20 143 [(4, vi z44), (3, vi (kkd t)), (2, vi y2), (0, .ref 131), (1, .ref C)] [vi (imi (t44 105 3) (prm t44 z44))] s46 _
            have h47 : i32 (imi (t44 105 3) (prm t44 z44)) := i32_in _
            refine pr_n (pc2 := 152) (lv2 := [(5, vi (imi (t44 105 3) (prm t44 z44))), (4, vi z44), (3, vi (kkd t)), (2, vi y2), (0, .ref 131), (1, .ref C)]) (st2 := [vi 307, vi (kkd t), vi z44, .ref 131]) 5 (fun _ _ => rfl) ?_
            refine pr_if2f rfl rfl hz33 (i32_n rfl) (show ¬ (kkd t ≠ 307) by omega) ?_
            show pr N2 K d tb_M20 155 [(5, vi (imi (t44 105 3) (prm t44 z44))), (4, vi z44), (3, vi (kkd t)), (2, vi y2), (0, .ref 131), (1, .ref C)] [vi z44, .ref 131] s46 _
            refine pr_n (pc2 := 158) (lv2 := [(5, vi (imi (t44 105 3) (prm t44 z44))), (4, vi z44), (3, vi (kkd t)), (2, vi y2), (0, .ref 131), (1, .ref C)]) (st2 := [vi (imi (t44 105 3) (prm t44 z44)), .ref 131, vi z44, .ref 131]) 2 (fun _ _ => rfl) ?_
            refine pr_m1 (args := [vi (imi (t44 105 3) (prm t44 z44))]) (rest := [vi z44, .ref 131]) rfl rfl rfl rfl (Nat.le_of_ble_eq_true rfl) rfl (h_49 s46 t44 (imi (t44 105 3) (prm t44 z44)) hE46 h47) ?_
            rintro _ z48 t48 s48 ⟨rfl, hz48⟩ hE48
            show pr N2 K d tb_M20 161 [(5, vi (imi (t44 105 3) (prm t44 z44))), (4, vi z44), (3, vi (kkd t)), (2, vi y2), (0, .ref 131), (1, .ref C)] [vi z48, vi z44, .ref 131] s48 _
            refine pr_n (pc2 := 171) (lv2 := [(5, vi (imi (t44 105 3) (prm t44 z44))), (4, vi z44), (3, vi (kkd t)), (2, vi y2), (0, .ref 131), (1, .ref C)]) (st2 := [vi z48, vi z44, .ref 131]) 1 (fun _ _ => rfl) ?_
            refine pr_m1 (args := [vi z44, vi z48]) (rest := []) rfl rfl rfl rfl (Nat.le_of_ble_eq_true rfl) rfl (h_74 s48 t48 z44 z48 hE48 hz44 hz48) ?_
            rintro _ _ t49 s49 ⟨rfl, rfl⟩ hE49
            show pr N2 K d tb_M20 174 [(5, vi (imi (t44 105 3) (prm t44 z44))), (4, vi z44), (3, vi (kkd t)), (2, vi y2), (0, .ref 131), (1, .ref C)] [] s49 _
            refine pr_n (pc2 := 182) (lv2 := [(5, vi (imi (t44 105 3) (prm t44 z44))), (4, vi z44), (3, vi (kkd t)), (2, vi y2), (0, .ref 131), (1, .ref C)]) (st2 := []) 1 (fun _ _ => rfl) ?_
            refine pr_inc (a := y2) rfl rfl ?_
            have h50 : i32 (y2 + 1) := by unfold i32 at *; omega
            show pr N2 K d tb_M20 185 [(2, vi (y2 + 1)), (5, vi (imi (t44 105 3) (prm t44 z44))), (4, vi z44), (3, vi (kkd t)), (0, .ref 131), (1, .ref C)] [] s49 _
            refine pr_n (pc2 := 42) (lv2 := [(2, vi (y2 + 1)), (5, vi (imi (t44 105 3) (prm t44 z44))), (4, vi z44), (3, vi (kkd t)), (0, .ref 131), (1, .ref C)]) (st2 := []) 1 (fun _ _ => rfl) ?_
            exact ((ih N2 hN2).2.1) s49 t49 (y2 + 1) (imi (t44 105 3) (prm t44 z44)) z44 (kkd t) hE49 h50 h47 hz44 hz33
        · refine mq_f h35 ?_
          refine pr_if2f rfl rfl hz33 (i32_n rfl) h35 ?_
          refine pr_n (pc2 := 101) (lv2 := [(3, vi (kkd t)), (2, vi y2), (0, .ref 131), (1, .ref C)]) (st2 := [vi 307, vi (kkd t)]) 2 (fun _ _ => rfl) ?_
          by_cases h51 : kkd t ≠ 307
          · refine mq_t h51 ?_
            refine pr_if2t rfl rfl hz33 (i32_n rfl) h51 ?_
            refine pr_n (pc2 := 179) (lv2 := [(3, vi (kkd t)), (2, vi y2), (0, .ref 131), (1, .ref C)]) (st2 := [vi (kkd t), .ref 131]) 2 (fun _ _ => rfl) ?_
            refine pr_m1 (args := [vi (kkd t)]) (rest := []) rfl rfl rfl rfl (Nat.le_of_ble_eq_true rfl) rfl (h_75 s34 ((stp t)) (kkd t) hE34 hz33) ?_
            rintro _ _ t52 s52 ⟨rfl, rfl⟩ hE52
            show pr N2 K d tb_M20 182 [(3, vi (kkd t)), (2, vi y2), (0, .ref 131), (1, .ref C)] [] s52 _
            refine pr_inc (a := y2) rfl rfl ?_
            have h53 : i32 (y2 + 1) := by unfold i32 at *; omega
            show pr N2 K d tb_M20 185 [(2, vi (y2 + 1)), (3, vi (kkd t)), (0, .ref 131), (1, .ref C)] [] s52 _
            refine pr_n (pc2 := 42) (lv2 := [(2, vi (y2 + 1)), (3, vi (kkd t)), (0, .ref 131), (1, .ref C)]) (st2 := []) 1 (fun _ _ => rfl) ?_
            exact ((ih N2 hN2).2.2.1) s52 t52 (y2 + 1) (kkd t) hE52 h53 hz33
          · refine mq_f h51 ?_
            refine pr_if2f rfl rfl hz33 (i32_n rfl) h51 ?_
            refine pr_n (pc2 := 109) (lv2 := [(3, vi (kkd t)), (2, vi y2), (0, .ref 131), (1, .ref C)]) (st2 := [vi 307, vi (kkd t), .ref 131]) 3 (fun _ _ => rfl) ?_
            refine pr_if2f rfl rfl hz33 (i32_n rfl) (show ¬ (kkd t ≠ 307) by omega) ?_
            show pr N2 K d tb_M20 112 [(3, vi (kkd t)), (2, vi y2), (0, .ref 131), (1, .ref C)] [.ref 131] s34 _
            refine pr_n (pc2 := 118) (lv2 := [(3, vi (kkd t)), (2, vi y2), (0, .ref 131), (1, .ref C)]) (st2 := [vi 6, .ref 131]) 2 (fun _ _ => rfl) ?_
            refine pr_m1 (args := [vi 6]) (rest := []) rfl rfl rfl rfl (Nat.le_of_ble_eq_true rfl) rfl (h_36 s34 ((stp t)) 6 hE34 (i32_n rfl)) ?_
            rintro _ z54 t54 s54 ⟨rfl, hz54⟩ hE54
            show pr N2 K d tb_M20 121 [(3, vi (kkd t)), (2, vi y2), (0, .ref 131), (1, .ref C)] [vi z54] s54 _
            refine pr_n (pc2 := 124) (lv2 := [(4, vi z54), (3, vi (kkd t)), (2, vi y2), (0, .ref 131), (1, .ref C)]) (st2 := [.ref 131]) 2 (fun _ _ => rfl) ?_
            refine pr_get (v := .ref C) rfl rfl rfl (by decide) (rv_ref (show s54.1 131 1 = ((C : Nat) : Int) from hE54.2.2.1)) fun _ => ?_
            refine pr_get (v := .ref (C + 6)) rfl rfl (TK0 hC) (by decide) (rv_ref (hE54.2.1 C 5 (C + 6) (rcK hC (by omega)))) fun _ => ?_
            refine pr_gE (k2 := 105) (v := vi (t54 105 3)) hE54 rfl rfl (TK6 hC) (by decide) rfl rfl rfl fun h55 => ?_
            have h55 : i32 (t54 105 3) := h55
            refine pr_n (pc2 := 134) (lv2 := [(4, vi z54), (3, vi (kkd t)), (2, vi y2), (0, .ref 131), (1, .ref C)]) (st2 := [.ref 131, vi (t54 105 3)]) 1 (fun _ _ => rfl) ?_
            refine pr_get (v := .ref C) rfl rfl rfl (by decide) (rv_ref (show s54.1 131 1 = ((C : Nat) : Int) from hE54.2.2.1)) fun _ => ?_
            refine pr_n (pc2 := 139) (lv2 := [(4, vi z54), (3, vi (kkd t)), (2, vi y2), (0, .ref 131), (1, .ref C)]) (st2 := [vi z54, .ref C, vi (t54 105 3)]) 1 (fun _ _ => rfl) ?_
            refine pr_s1 (args := [vi z54]) (rest := [vi (t54 105 3)]) rfl rfl rfl (TK0 hC) (Nat.le_of_ble_eq_true rfl) rfl (h_48 s54 t54 z54 hE54 hz54) s_prm ?_
            rintro _ s56 ⟨rfl, hz56⟩ hE56
            show pr N2 K d tb_M20 142 [(4, vi z54), (3, vi (kkd t)), (2, vi y2), (0, .ref 131), (1, .ref C)] [vi (prm t54 z54), vi (t54 105 3)] s56 _
            refine pr_i2 (a := t54 105 3) (b := prm t54 z54) rfl rfl ?_
            show pr N2 K d tb_M20 143 [(4, vi z54), (3, vi (kkd t)), (2, vi y2), (0, .ref 131), (1, .ref C)] [vi (imi (t54 105 3) (prm t54 z54))] s56 _
            have h57 : i32 (imi (t54 105 3) (prm t54 z54)) := i32_in _
            refine pr_n (pc2 := 152) (lv2 := [(5, vi (imi (t54 105 3) (prm t54 z54))), (4, vi z54), (3, vi (kkd t)), (2, vi y2), (0, .ref 131), (1, .ref C)]) (st2 := [vi 307, vi (kkd t), vi z54, .ref 131]) 5 (fun _ _ => rfl) ?_
            refine pr_if2f rfl rfl hz33 (i32_n rfl) (show ¬ (kkd t ≠ 307) by omega) ?_
            show pr N2 K d tb_M20 155 [(5, vi (imi (t54 105 3) (prm t54 z54))), (4, vi z54), (3, vi (kkd t)), (2, vi y2), (0, .ref 131), (1, .ref C)] [vi z54, .ref 131] s56 _
            refine pr_n (pc2 := 158) (lv2 := [(5, vi (imi (t54 105 3) (prm t54 z54))), (4, vi z54), (3, vi (kkd t)), (2, vi y2), (0, .ref 131), (1, .ref C)]) (st2 := [vi (imi (t54 105 3) (prm t54 z54)), .ref 131, vi z54, .ref 131]) 2 (fun _ _ => rfl) ?_
            refine pr_m1 (args := [vi (imi (t54 105 3) (prm t54 z54))]) (rest := [vi z54, .ref 131]) rfl rfl rfl rfl (Nat.le_of_ble_eq_true rfl) rfl (h_49 s56 t54 (imi (t54 105 3) (prm t54 z54)) hE56 h57) ?_
            rintro _ z58 t58 s58 ⟨rfl, hz58⟩ hE58
            show pr N2 K d tb_M20 161 [(5, vi (imi (t54 105 3) (prm t54 z54))), (4, vi z54), (3, vi (kkd t)), (2, vi y2), (0, .ref 131), (1, .ref C)] [vi z58, vi z54, .ref 131] s58 _
            refine pr_n (pc2 := 171) (lv2 := [(5, vi (imi (t54 105 3) (prm t54 z54))), (4, vi z54), (3, vi (kkd t)), (2, vi y2), (0, .ref 131), (1, .ref C)]) (st2 := [vi z58, vi z54, .ref 131]) 1 (fun _ _ => rfl) ?_
            refine pr_m1 (args := [vi z54, vi z58]) (rest := []) rfl rfl rfl rfl (Nat.le_of_ble_eq_true rfl) rfl (h_74 s58 t58 z54 z58 hE58 hz54 hz58) ?_
            rintro _ _ t59 s59 ⟨rfl, rfl⟩ hE59
            show pr N2 K d tb_M20 174 [(5, vi (imi (t54 105 3) (prm t54 z54))), (4, vi z54), (3, vi (kkd t)), (2, vi y2), (0, .ref 131), (1, .ref C)] [] s59 _
            refine pr_n (pc2 := 182) (lv2 := [(5, vi (imi (t54 105 3) (prm t54 z54))), (4, vi z54), (3, vi (kkd t)), (2, vi y2), (0, .ref 131), (1, .ref C)]) (st2 := []) 1 (fun _ _ => rfl) ?_
            refine pr_inc (a := y2) rfl rfl ?_
            have h60 : i32 (y2 + 1) := by unfold i32 at *; omega
            show pr N2 K d tb_M20 185 [(2, vi (y2 + 1)), (5, vi (imi (t54 105 3) (prm t54 z54))), (4, vi z54), (3, vi (kkd t)), (0, .ref 131), (1, .ref C)] [] s59 _
            refine pr_n (pc2 := 42) (lv2 := [(2, vi (y2 + 1)), (5, vi (imi (t54 105 3) (prm t54 z54))), (4, vi z54), (3, vi (kkd t)), (0, .ref 131), (1, .ref C)]) (st2 := []) 1 (fun _ _ => rfl) ?_
            exact ((ih N2 hN2).2.1) s59 t59 (y2 + 1) (imi (t54 105 3) (prm t54 z54)) z54 (kkd t) hE59 h60 h57 hz54 hz33
set_option maxHeartbeats 20000000 in
set_option maxRecDepth 100000 in
theorem cu20_1 {N K d C : Nat} (h_21 : cT21 K d C) (h_24 : cT24 K d C) (h_34 : cT34 K d C) (h_35 : cT35 K d C) (h_36 : cT36 K d C) (h_40 : cT40 K d C) (h_41 : cT41 K d C) (h_48 : cT48 K d C) (h_49 : cT49 K d C) (h_53 : cT53 K d C) (h_74 : cT74 K d C) (h_75 : cT75 K d C) (ih : ∀ N2, N2 < N → cA20 N2 K d C) : cU20_1 N K d C := by
  intro s t y2 y5 y4 y3 hE hy2 hy5 hy4 hy3
  have hC : C = 99 ∨ C = 115 := hE.1
  rw [cG_20_42]
  unfold cM20_42
  refine pr_lt (pc2 := 43) (lv2 := [(2, vi y2), (5, vi y5), (4, vi y4), (3, vi y3), (0, .ref 131), (1, .ref C)]) (st2 := [vi y2]) (fun _ _ => rfl) fun N2 hN2 => ?_
  refine pr_n (pc2 := 46) (lv2 := [(2, vi y2), (5, vi y5), (4, vi y4), (3, vi y3), (0, .ref 131), (1, .ref C)]) (st2 := [vi 2000, vi y2]) 1 (fun _ _ => rfl) ?_
  by_cases h1 : 2000 ≤ y2
  · refine mq_t h1 ?_
    refine pr_if2t rfl rfl hy2 (i32_n rfl) h1 ?_
    refine pr_n (pc2 := 189) (lv2 := [(2, vi y2), (5, vi y5), (4, vi y4), (3, vi y3), (0, .ref 131), (1, .ref C)]) (st2 := [.ref 131]) 1 (fun _ _ => rfl) ?_
    refine pr_get (v := .ref C) rfl rfl rfl (by decide) (rv_ref (show s.1 131 1 = ((C : Nat) : Int) from hE.2.2.1)) fun _ => ?_
    refine pr_n (pc2 := 195) (lv2 := [(2, vi y2), (5, vi y5), (4, vi y4), (3, vi y3), (0, .ref 131), (1, .ref C)]) (st2 := [.ref 131, vi 0, .ref 131, .ref C]) 3 (fun _ _ => rfl) ?_
    refine pr_get (v := .ref C) rfl rfl rfl (by decide) (rv_ref (show s.1 131 1 = ((C : Nat) : Int) from hE.2.2.1)) fun _ => ?_
    refine pr_get (v := .ref (C + 6)) rfl rfl (TK0 hC) (by decide) (rv_ref (hE.2.1 C 5 (C + 6) (rcK hC (by omega)))) fun _ => ?_
    refine pr_gE (k2 := 105) (v := vi (t 105 3)) hE rfl rfl (TK6 hC) (by decide) rfl rfl rfl fun h2 => ?_
    have h2 : i32 (t 105 3) := h2
    refine pr_m1 (args := [vi 0, vi (t 105 3)]) (rest := [.ref C]) rfl rfl rfl rfl (Nat.le_of_ble_eq_true rfl) rfl (h_53 s t 0 (t 105 3) hE (i32_n rfl) h2) ?_
    rintro _ z3 t3 s3 ⟨rfl, hz3⟩ hE3
    show pr N2 K d tb_M20 207 [(2, vi y2), (5, vi y5), (4, vi y4), (3, vi y3), (0, .ref 131), (1, .ref C)] [vi z3, .ref C] s3 _
    refine pr_pE (k2 := 99) (z := z3) hE3 rfl rfl rfl rfl (show 96 ≤ C by omega) (TK0 hC) (by decide) rfl (show i32 (z3) from hz3) (hf_int' _) (nK (a := 0) hC (by omega)) rfl rfl (fun e => absurd e.1 (show ¬ (C = 131) by omega)) (iv_c (by decide)) fun s4 hE4 => ?_
    refine pr_n (pc2 := 212) (lv2 := [(2, vi y2), (5, vi y5), (4, vi y4), (3, vi y3), (0, .ref 131), (1, .ref C)]) (st2 := [.ref 131, .ref 131]) 2 (fun _ _ => rfl) ?_
    refine pr_get (v := .ref 137) rfl rfl rfl (by decide) (rv_ref (hE4.2.1 131 0 137 rfl)) fun _ => ?_
    refine pr_s1 (args := []) (rest := [.ref 131]) rfl rfl rfl rfl (Nat.le_of_ble_eq_true rfl) rfl (h_34 s4 (up2 t3 99 13 z3)  hE4 ) s_kkd ?_
    rintro _ s5 ⟨rfl, hz5⟩ hE5
    show pr N2 K d tb_M20 218 [(2, vi y2), (5, vi y5), (4, vi y4), (3, vi y3), (0, .ref 131), (1, .ref C)] [vi (kkd (up2 t3 99 13 z3)), .ref 131] s5 _
    refine pr_n (pc2 := 219) (lv2 := [(2, vi y2), (5, vi y5), (4, vi y4), (3, vi y3), (0, .ref 131), (1, .ref C)]) (st2 := [vi 3, vi (kkd (up2 t3 99 13 z3)), .ref 131]) 1 (fun _ _ => rfl) ?_
    by_cases h6 : kkd (up2 t3 99 13 z3) ≠ 3
    · refine mq_t h6 ?_
      refine pr_if2t rfl rfl hz5 (i32_n rfl) h6 ?_
      refine pr_n (pc2 := 228) (lv2 := [(2, vi y2), (5, vi y5), (4, vi y4), (3, vi y3), (0, .ref 131), (1, .ref C)]) (st2 := [.ref 131, vi 0, .ref 131]) 2 (fun _ _ => rfl) ?_
      refine pr_get (v := .ref 137) rfl rfl rfl (by decide) (rv_ref (hE5.2.1 131 0 137 rfl)) fun _ => ?_
      refine pr_s1 (args := []) (rest := [vi 0, .ref 131]) rfl rfl rfl rfl (Nat.le_of_ble_eq_true rfl) rfl (h_40 s5 (up2 t3 99 13 z3)  hE5 ) s_plc ?_
      rintro _ s7 ⟨rfl, hz7⟩ hE7
      show pr N2 K d tb_M20 234 [(2, vi y2), (5, vi y5), (4, vi y4), (3, vi y3), (0, .ref 131), (1, .ref C)] [vi (plc (up2 t3 99 13 z3)), vi 0, .ref 131] s7 _
      exact pr_c1 (args := [vi 0, vi (plc (up2 t3 99 13 z3))]) (rest := []) rfl rfl rfl rfl (Nat.le_of_ble_eq_true rfl) rfl (h_41 s7 (up2 t3 99 13 z3) 0 (plc (up2 t3 99 13 z3)) hE7 (by decide) hz7) chk0
    · refine mq_f h6 ?_
      refine pr_if2f rfl rfl hz5 (i32_n rfl) h6 ?_
      refine pr_n (pc2 := 228) (lv2 := [(2, vi y2), (5, vi y5), (4, vi y4), (3, vi y3), (0, .ref 131), (1, .ref C)]) (st2 := [.ref 131, vi 1, .ref 131]) 3 (fun _ _ => rfl) ?_
      refine pr_get (v := .ref 137) rfl rfl rfl (by decide) (rv_ref (hE5.2.1 131 0 137 rfl)) fun _ => ?_
      refine pr_s1 (args := []) (rest := [vi 1, .ref 131]) rfl rfl rfl rfl (Nat.le_of_ble_eq_true rfl) rfl (h_40 s5 (up2 t3 99 13 z3)  hE5 ) s_plc ?_
      rintro _ s9 ⟨rfl, hz9⟩ hE9
      show pr N2 K d tb_M20 234 [(2, vi y2), (5, vi y5), (4, vi y4), (3, vi y3), (0, .ref 131), (1, .ref C)] [vi (plc (up2 t3 99 13 z3)), vi 1, .ref 131] s9 _
      refine pr_s1 (args := [vi 1, vi (plc (up2 t3 99 13 z3))]) (rest := []) rfl rfl rfl rfl (Nat.le_of_ble_eq_true rfl) rfl (h_41 s9 (up2 t3 99 13 z3) 1 (plc (up2 t3 99 13 z3)) hE9 (by decide) hz9) chk1 ?_
      rintro _ s10 ⟨rfl, _⟩ hE10
      show pr N2 K d tb_M20 237 [(2, vi y2), (5, vi y5), (4, vi y4), (3, vi y3), (0, .ref 131), (1, .ref C)] [] s10 _
      refine pr_end (fun _ _ => rfl) ?_
      exact .inl ⟨_, 0, _, rfl, ⟨rfl, rfl⟩, rfl, hE10⟩
  · refine mq_f h1 ?_
    refine pr_if2f rfl rfl hy2 (i32_n rfl) h1 ?_
    refine pr_n (pc2 := 50) (lv2 := [(2, vi y2), (5, vi y5), (4, vi y4), (3, vi y3), (0, .ref 131), (1, .ref C)]) (st2 := [.ref 131]) 1 (fun _ _ => rfl) ?_
    refine pr_get (v := .ref 137) rfl rfl rfl (by decide) (rv_ref (hE.2.1 131 0 137 rfl)) fun _ => ?_
    refine pr_s1 (args := []) (rest := []) rfl rfl rfl rfl (Nat.le_of_ble_eq_true rfl) rfl (h_34 s t  hE ) s_kkd ?_
    rintro _ s11 ⟨rfl, hz11⟩ hE11
    show pr N2 K d tb_M20 56 [(2, vi y2), (5, vi y5), (4, vi y4), (3, vi y3), (0, .ref 131), (1, .ref C)] [vi (kkd t)] s11 _
    refine pr_n (pc2 := 59) (lv2 := [(2, vi y2), (5, vi y5), (4, vi y4), (3, vi y3), (0, .ref 131), (1, .ref C)]) (st2 := [vi 300, vi (kkd t)]) 1 (fun _ _ => rfl) ?_
    by_cases h12 : kkd t < 300
    · refine mq_t h12 ?_
      refine pr_if2t rfl rfl hz11 (i32_n rfl) h12 ?_
      refine pr_n (pc2 := 189) (lv2 := [(2, vi y2), (5, vi y5), (4, vi y4), (3, vi y3), (0, .ref 131), (1, .ref C)]) (st2 := [.ref 131]) 1 (fun _ _ => rfl) ?_
      refine pr_get (v := .ref C) rfl rfl rfl (by decide) (rv_ref (show s11.1 131 1 = ((C : Nat) : Int) from hE11.2.2.1)) fun _ => ?_
      refine pr_n (pc2 := 195) (lv2 := [(2, vi y2), (5, vi y5), (4, vi y4), (3, vi y3), (0, .ref 131), (1, .ref C)]) (st2 := [.ref 131, vi 0, .ref 131, .ref C]) 3 (fun _ _ => rfl) ?_
      refine pr_get (v := .ref C) rfl rfl rfl (by decide) (rv_ref (show s11.1 131 1 = ((C : Nat) : Int) from hE11.2.2.1)) fun _ => ?_
      refine pr_get (v := .ref (C + 6)) rfl rfl (TK0 hC) (by decide) (rv_ref (hE11.2.1 C 5 (C + 6) (rcK hC (by omega)))) fun _ => ?_
      refine pr_gE (k2 := 105) (v := vi (t 105 3)) hE11 rfl rfl (TK6 hC) (by decide) rfl rfl rfl fun h13 => ?_
      have h13 : i32 (t 105 3) := h13
      refine pr_m1 (args := [vi 0, vi (t 105 3)]) (rest := [.ref C]) rfl rfl rfl rfl (Nat.le_of_ble_eq_true rfl) rfl (h_53 s11 t 0 (t 105 3) hE11 (i32_n rfl) h13) ?_
      rintro _ z14 t14 s14 ⟨rfl, hz14⟩ hE14
      show pr N2 K d tb_M20 207 [(2, vi y2), (5, vi y5), (4, vi y4), (3, vi y3), (0, .ref 131), (1, .ref C)] [vi z14, .ref C] s14 _
      refine pr_pE (k2 := 99) (z := z14) hE14 rfl rfl rfl rfl (show 96 ≤ C by omega) (TK0 hC) (by decide) rfl (show i32 (z14) from hz14) (hf_int' _) (nK (a := 0) hC (by omega)) rfl rfl (fun e => absurd e.1 (show ¬ (C = 131) by omega)) (iv_c (by decide)) fun s15 hE15 => ?_
      refine pr_n (pc2 := 212) (lv2 := [(2, vi y2), (5, vi y5), (4, vi y4), (3, vi y3), (0, .ref 131), (1, .ref C)]) (st2 := [.ref 131, .ref 131]) 2 (fun _ _ => rfl) ?_
      refine pr_get (v := .ref 137) rfl rfl rfl (by decide) (rv_ref (hE15.2.1 131 0 137 rfl)) fun _ => ?_
      refine pr_s1 (args := []) (rest := [.ref 131]) rfl rfl rfl rfl (Nat.le_of_ble_eq_true rfl) rfl (h_34 s15 (up2 t14 99 13 z14)  hE15 ) s_kkd ?_
      rintro _ s16 ⟨rfl, hz16⟩ hE16
      show pr N2 K d tb_M20 218 [(2, vi y2), (5, vi y5), (4, vi y4), (3, vi y3), (0, .ref 131), (1, .ref C)] [vi (kkd (up2 t14 99 13 z14)), .ref 131] s16 _
      refine pr_n (pc2 := 219) (lv2 := [(2, vi y2), (5, vi y5), (4, vi y4), (3, vi y3), (0, .ref 131), (1, .ref C)]) (st2 := [vi 3, vi (kkd (up2 t14 99 13 z14)), .ref 131]) 1 (fun _ _ => rfl) ?_
      by_cases h17 : kkd (up2 t14 99 13 z14) ≠ 3
      · refine mq_t h17 ?_
        refine pr_if2t rfl rfl hz16 (i32_n rfl) h17 ?_
        refine pr_n (pc2 := 228) (lv2 := [(2, vi y2), (5, vi y5), (4, vi y4), (3, vi y3), (0, .ref 131), (1, .ref C)]) (st2 := [.ref 131, vi 0, .ref 131]) 2 (fun _ _ => rfl) ?_
        refine pr_get (v := .ref 137) rfl rfl rfl (by decide) (rv_ref (hE16.2.1 131 0 137 rfl)) fun _ => ?_
        refine pr_s1 (args := []) (rest := [vi 0, .ref 131]) rfl rfl rfl rfl (Nat.le_of_ble_eq_true rfl) rfl (h_40 s16 (up2 t14 99 13 z14)  hE16 ) s_plc ?_
        rintro _ s18 ⟨rfl, hz18⟩ hE18
        show pr N2 K d tb_M20 234 [(2, vi y2), (5, vi y5), (4, vi y4), (3, vi y3), (0, .ref 131), (1, .ref C)] [vi (plc (up2 t14 99 13 z14)), vi 0, .ref 131] s18 _
        exact pr_c1 (args := [vi 0, vi (plc (up2 t14 99 13 z14))]) (rest := []) rfl rfl rfl rfl (Nat.le_of_ble_eq_true rfl) rfl (h_41 s18 (up2 t14 99 13 z14) 0 (plc (up2 t14 99 13 z14)) hE18 (by decide) hz18) chk0
      · refine mq_f h17 ?_
        refine pr_if2f rfl rfl hz16 (i32_n rfl) h17 ?_
        refine pr_n (pc2 := 228) (lv2 := [(2, vi y2), (5, vi y5), (4, vi y4), (3, vi y3), (0, .ref 131), (1, .ref C)]) (st2 := [.ref 131, vi 1, .ref 131]) 3 (fun _ _ => rfl) ?_
        refine pr_get (v := .ref 137) rfl rfl rfl (by decide) (rv_ref (hE16.2.1 131 0 137 rfl)) fun _ => ?_
        refine pr_s1 (args := []) (rest := [vi 1, .ref 131]) rfl rfl rfl rfl (Nat.le_of_ble_eq_true rfl) rfl (h_40 s16 (up2 t14 99 13 z14)  hE16 ) s_plc ?_
        rintro _ s20 ⟨rfl, hz20⟩ hE20
        show pr N2 K d tb_M20 234 [(2, vi y2), (5, vi y5), (4, vi y4), (3, vi y3), (0, .ref 131), (1, .ref C)] [vi (plc (up2 t14 99 13 z14)), vi 1, .ref 131] s20 _
        refine pr_s1 (args := [vi 1, vi (plc (up2 t14 99 13 z14))]) (rest := []) rfl rfl rfl rfl (Nat.le_of_ble_eq_true rfl) rfl (h_41 s20 (up2 t14 99 13 z14) 1 (plc (up2 t14 99 13 z14)) hE20 (by decide) hz20) chk1 ?_
        rintro _ s21 ⟨rfl, _⟩ hE21
        show pr N2 K d tb_M20 237 [(2, vi y2), (5, vi y5), (4, vi y4), (3, vi y3), (0, .ref 131), (1, .ref C)] [] s21 _
        refine pr_end (fun _ _ => rfl) ?_
        exact .inl ⟨_, 0, _, rfl, ⟨rfl, rfl⟩, rfl, hE21⟩
    · refine mq_f h12 ?_
      refine pr_if2f rfl rfl hz11 (i32_n rfl) h12 ?_
      refine pr_n (pc2 := 63) (lv2 := [(2, vi y2), (5, vi y5), (4, vi y4), (3, vi y3), (0, .ref 131), (1, .ref C)]) (st2 := [.ref 131]) 1 (fun _ _ => rfl) ?_
      refine pr_get (v := .ref 137) rfl rfl rfl (by decide) (rv_ref (hE11.2.1 131 0 137 rfl)) fun _ => ?_
      refine pr_s1 (args := []) (rest := []) rfl rfl rfl rfl (Nat.le_of_ble_eq_true rfl) rfl (h_34 s11 t  hE11 ) s_kkd ?_
      rintro _ s22 ⟨rfl, hz22⟩ hE22
      show pr N2 K d tb_M20 69 [(2, vi y2), (5, vi y5), (4, vi y4), (3, vi y3), (0, .ref 131), (1, .ref C)] [vi (kkd t)] s22 _
      refine pr_n (pc2 := 72) (lv2 := [(2, vi y2), (5, vi y5), (4, vi y4), (3, vi y3), (0, .ref 131), (1, .ref C)]) (st2 := [vi 307, vi (kkd t)]) 1 (fun _ _ => rfl) ?_
      by_cases h23 : 307 < kkd t
      · refine mq_t h23 ?_
        refine pr_if2t rfl rfl hz22 (i32_n rfl) h23 ?_
        refine pr_n (pc2 := 189) (lv2 := [(2, vi y2), (5, vi y5), (4, vi y4), (3, vi y3), (0, .ref 131), (1, .ref C)]) (st2 := [.ref 131]) 1 (fun _ _ => rfl) ?_
        refine pr_get (v := .ref C) rfl rfl rfl (by decide) (rv_ref (show s22.1 131 1 = ((C : Nat) : Int) from hE22.2.2.1)) fun _ => ?_
        refine pr_n (pc2 := 195) (lv2 := [(2, vi y2), (5, vi y5), (4, vi y4), (3, vi y3), (0, .ref 131), (1, .ref C)]) (st2 := [.ref 131, vi 0, .ref 131, .ref C]) 3 (fun _ _ => rfl) ?_
        refine pr_get (v := .ref C) rfl rfl rfl (by decide) (rv_ref (show s22.1 131 1 = ((C : Nat) : Int) from hE22.2.2.1)) fun _ => ?_
        refine pr_get (v := .ref (C + 6)) rfl rfl (TK0 hC) (by decide) (rv_ref (hE22.2.1 C 5 (C + 6) (rcK hC (by omega)))) fun _ => ?_
        refine pr_gE (k2 := 105) (v := vi (t 105 3)) hE22 rfl rfl (TK6 hC) (by decide) rfl rfl rfl fun h24 => ?_
        have h24 : i32 (t 105 3) := h24
        refine pr_m1 (args := [vi 0, vi (t 105 3)]) (rest := [.ref C]) rfl rfl rfl rfl (Nat.le_of_ble_eq_true rfl) rfl (h_53 s22 t 0 (t 105 3) hE22 (i32_n rfl) h24) ?_
        rintro _ z25 t25 s25 ⟨rfl, hz25⟩ hE25
        show pr N2 K d tb_M20 207 [(2, vi y2), (5, vi y5), (4, vi y4), (3, vi y3), (0, .ref 131), (1, .ref C)] [vi z25, .ref C] s25 _
        refine pr_pE (k2 := 99) (z := z25) hE25 rfl rfl rfl rfl (show 96 ≤ C by omega) (TK0 hC) (by decide) rfl (show i32 (z25) from hz25) (hf_int' _) (nK (a := 0) hC (by omega)) rfl rfl (fun e => absurd e.1 (show ¬ (C = 131) by omega)) (iv_c (by decide)) fun s26 hE26 => ?_
        refine pr_n (pc2 := 212) (lv2 := [(2, vi y2), (5, vi y5), (4, vi y4), (3, vi y3), (0, .ref 131), (1, .ref C)]) (st2 := [.ref 131, .ref 131]) 2 (fun _ _ => rfl) ?_
        refine pr_get (v := .ref 137) rfl rfl rfl (by decide) (rv_ref (hE26.2.1 131 0 137 rfl)) fun _ => ?_
        refine pr_s1 (args := []) (rest := [.ref 131]) rfl rfl rfl rfl (Nat.le_of_ble_eq_true rfl) rfl (h_34 s26 (up2 t25 99 13 z25)  hE26 ) s_kkd ?_
        rintro _ s27 ⟨rfl, hz27⟩ hE27
        show pr N2 K d tb_M20 218 [(2, vi y2), (5, vi y5), (4, vi y4), (3, vi y3), (0, .ref 131), (1, .ref C)] [vi (kkd (up2 t25 99 13 z25)), .ref 131] s27 _
        refine pr_n (pc2 := 219) (lv2 := [(2, vi y2), (5, vi y5), (4, vi y4), (3, vi y3), (0, .ref 131), (1, .ref C)]) (st2 := [vi 3, vi (kkd (up2 t25 99 13 z25)), .ref 131]) 1 (fun _ _ => rfl) ?_
        by_cases h28 : kkd (up2 t25 99 13 z25) ≠ 3
        · refine mq_t h28 ?_
          refine pr_if2t rfl rfl hz27 (i32_n rfl) h28 ?_
          refine pr_n (pc2 := 228) (lv2 := [(2, vi y2), (5, vi y5), (4, vi y4), (3, vi y3), (0, .ref 131), (1, .ref C)]) (st2 := [.ref 131, vi 0, .ref 131]) 2 (fun _ _ => rfl) ?_
          refine pr_get (v := .ref 137) rfl rfl rfl (by decide) (rv_ref (hE27.2.1 131 0 137 rfl)) fun _ => ?_
          refine pr_s1 (args := []) (rest := [vi 0, .ref 131]) rfl rfl rfl rfl (Nat.le_of_ble_eq_true rfl) rfl (h_40 s27 (up2 t25 99 13 z25)  hE27 ) s_plc ?_
          rintro _ s29 ⟨rfl, hz29⟩ hE29
          show pr N2 K d tb_M20 234 [(2, vi y2), (5, vi y5), (4, vi y4), (3, vi y3), (0, .ref 131), (1, .ref C)] [vi (plc (up2 t25 99 13 z25)), vi 0, .ref 131] s29 _
          exact pr_c1 (args := [vi 0, vi (plc (up2 t25 99 13 z25))]) (rest := []) rfl rfl rfl rfl (Nat.le_of_ble_eq_true rfl) rfl (h_41 s29 (up2 t25 99 13 z25) 0 (plc (up2 t25 99 13 z25)) hE29 (by decide) hz29) chk0
        · refine mq_f h28 ?_
          refine pr_if2f rfl rfl hz27 (i32_n rfl) h28 ?_
          refine pr_n (pc2 := 228) (lv2 := [(2, vi y2), (5, vi y5), (4, vi y4), (3, vi y3), (0, .ref 131), (1, .ref C)]) (st2 := [.ref 131, vi 1, .ref 131]) 3 (fun _ _ => rfl) ?_
          refine pr_get (v := .ref 137) rfl rfl rfl (by decide) (rv_ref (hE27.2.1 131 0 137 rfl)) fun _ => ?_
          refine pr_s1 (args := []) (rest := [vi 1, .ref 131]) rfl rfl rfl rfl (Nat.le_of_ble_eq_true rfl) rfl (h_40 s27 (up2 t25 99 13 z25)  hE27 ) s_plc ?_
          rintro _ s31 ⟨rfl, hz31⟩ hE31
          show pr N2 K d tb_M20 234 [(2, vi y2), (5, vi y5), (4, vi y4), (3, vi y3), (0, .ref 131), (1, .ref C)] [vi (plc (up2 t25 99 13 z25)), vi 1, .ref 131] s31 _
          refine pr_s1 (args := [vi 1, vi (plc (up2 t25 99 13 z25))]) (rest := []) rfl rfl rfl rfl (Nat.le_of_ble_eq_true rfl) rfl (h_41 s31 (up2 t25 99 13 z25) 1 (plc (up2 t25 99 13 z25)) hE31 (by decide) hz31) chk1 ?_
          rintro _ s32 ⟨rfl, _⟩ hE32
          show pr N2 K d tb_M20 237 [(2, vi y2), (5, vi y5), (4, vi y4), (3, vi y3), (0, .ref 131), (1, .ref C)] [] s32 _
          refine pr_end (fun _ _ => rfl) ?_
          exact .inl ⟨_, 0, _, rfl, ⟨rfl, rfl⟩, rfl, hE32⟩
      · refine mq_f h23 ?_
        refine pr_if2f rfl rfl hz22 (i32_n rfl) h23 ?_
        refine pr_n (pc2 := 76) (lv2 := [(2, vi y2), (5, vi y5), (4, vi y4), (3, vi y3), (0, .ref 131), (1, .ref C)]) (st2 := [.ref 131]) 1 (fun _ _ => rfl) ?_
        refine pr_get (v := .ref 137) rfl rfl rfl (by decide) (rv_ref (hE22.2.1 131 0 137 rfl)) fun _ => ?_
        refine pr_s1 (args := []) (rest := []) rfl rfl rfl rfl (Nat.le_of_ble_eq_true rfl) rfl (h_34 s22 t  hE22 ) s_kkd ?_
        rintro _ s33 ⟨rfl, hz33⟩ hE33
        show pr N2 K d tb_M20 82 [(2, vi y2), (5, vi y5), (4, vi y4), (3, vi y3), (0, .ref 131), (1, .ref C)] [vi (kkd t)] s33 _
        refine pr_n (pc2 := 84) (lv2 := [(3, vi (kkd t)), (2, vi y2), (5, vi y5), (4, vi y4), (0, .ref 131), (1, .ref C)]) (st2 := [.ref 131]) 2 (fun _ _ => rfl) ?_
        refine pr_get (v := .ref 137) rfl rfl rfl (by decide) (rv_ref (hE33.2.1 131 0 137 rfl)) fun _ => ?_
        refine pr_s1 (args := []) (rest := []) rfl rfl rfl rfl (Nat.le_of_ble_eq_true rfl) rfl (h_35 s33 t  hE33 ) s_stp ?_
        rintro _ s34 ⟨rfl, _⟩ hE34
        show pr N2 K d tb_M20 90 [(3, vi (kkd t)), (2, vi y2), (5, vi y5), (4, vi y4), (0, .ref 131), (1, .ref C)] [] s34 _
        refine pr_n (pc2 := 94) (lv2 := [(3, vi (kkd t)), (2, vi y2), (5, vi y5), (4, vi y4), (0, .ref 131), (1, .ref C)]) (st2 := [vi 306, vi (kkd t)]) 2 (fun _ _ => rfl) ?_
        by_cases h35 : kkd t = 306
        · refine mq_t h35 ?_
          refine pr_if2t rfl rfl hz33 (i32_n rfl) h35 ?_
          refine pr_n (pc2 := 109) (lv2 := [(3, vi (kkd t)), (2, vi y2), (5, vi y5), (4, vi y4), (0, .ref 131), (1, .ref C)]) (st2 := [vi 307, vi (kkd t), .ref 131]) 3 (fun _ _ => rfl) ?_
          by_cases h36 : kkd t ≠ 307
          · refine mq_t h36 ?_
            refine pr_if2t rfl rfl hz33 (i32_n rfl) h36 ?_
            refine pr_n (pc2 := 118) (lv2 := [(3, vi (kkd t)), (2, vi y2), (5, vi y5), (4, vi y4), (0, .ref 131), (1, .ref C)]) (st2 := [vi 5, .ref 131]) 1 (fun _ _ => rfl) ?_
            refine pr_m1 (args := [vi 5]) (rest := []) rfl rfl rfl rfl (Nat.le_of_ble_eq_true rfl) rfl (h_36 s34 ((stp t)) 5 hE34 (i32_n rfl)) ?_
            rintro _ z37 t37 s37 ⟨rfl, hz37⟩ hE37
            show pr N2 K d tb_M20 121 [(3, vi (kkd t)), (2, vi y2), (5, vi y5), (4, vi y4), (0, .ref 131), (1, .ref C)] [vi z37] s37 _
            refine pr_n (pc2 := 124) (lv2 := [(4, vi z37), (3, vi (kkd t)), (2, vi y2), (5, vi y5), (0, .ref 131), (1, .ref C)]) (st2 := [.ref 131]) 2 (fun _ _ => rfl) ?_
            refine pr_get (v := .ref C) rfl rfl rfl (by decide) (rv_ref (show s37.1 131 1 = ((C : Nat) : Int) from hE37.2.2.1)) fun _ => ?_
            refine pr_get (v := .ref (C + 6)) rfl rfl (TK0 hC) (by decide) (rv_ref (hE37.2.1 C 5 (C + 6) (rcK hC (by omega)))) fun _ => ?_
            refine pr_gE (k2 := 105) (v := vi (t37 105 3)) hE37 rfl rfl (TK6 hC) (by decide) rfl rfl rfl fun h38 => ?_
            have h38 : i32 (t37 105 3) := h38
            refine pr_n (pc2 := 134) (lv2 := [(4, vi z37), (3, vi (kkd t)), (2, vi y2), (5, vi y5), (0, .ref 131), (1, .ref C)]) (st2 := [.ref 131, vi (t37 105 3)]) 1 (fun _ _ => rfl) ?_
            refine pr_get (v := .ref C) rfl rfl rfl (by decide) (rv_ref (show s37.1 131 1 = ((C : Nat) : Int) from hE37.2.2.1)) fun _ => ?_
            refine pr_n (pc2 := 139) (lv2 := [(4, vi z37), (3, vi (kkd t)), (2, vi y2), (5, vi y5), (0, .ref 131), (1, .ref C)]) (st2 := [vi z37, .ref C, vi (t37 105 3)]) 1 (fun _ _ => rfl) ?_
            refine pr_s1 (args := [vi z37]) (rest := [vi (t37 105 3)]) rfl rfl rfl (TK0 hC) (Nat.le_of_ble_eq_true rfl) rfl (h_48 s37 t37 z37 hE37 hz37) s_prm ?_
            rintro _ s39 ⟨rfl, hz39⟩ hE39
            show pr N2 K d tb_M20 142 [(4, vi z37), (3, vi (kkd t)), (2, vi y2), (5, vi y5), (0, .ref 131), (1, .ref C)] [vi (prm t37 z37), vi (t37 105 3)] s39 _
            refine pr_i2 (a := t37 105 3) (b := prm t37 z37) rfl rfl ?_
            show pr N2 K d tb_M20 143 [(4, vi z37), (3, vi (kkd t)), (2, vi y2), (5, vi y5), (0, .ref 131), (1, .ref C)] [vi (imi (t37 105 3) (prm t37 z37))] s39 _
            have h40 : i32 (imi (t37 105 3) (prm t37 z37)) := i32_in _
            refine pr_n (pc2 := 152) (lv2 := [(5, vi (imi (t37 105 3) (prm t37 z37))), (4, vi z37), (3, vi (kkd t)), (2, vi y2), (0, .ref 131), (1, .ref C)]) (st2 := [vi 307, vi (kkd t), vi z37, .ref 131]) 5 (fun _ _ => rfl) ?_
            refine pr_if2t rfl rfl hz33 (i32_n rfl) (show kkd t ≠ 307 by omega) ?_
            show pr N2 K d tb_M20 164 [(5, vi (imi (t37 105 3) (prm t37 z37))), (4, vi z37), (3, vi (kkd t)), (2, vi y2), (0, .ref 131), (1, .ref C)] [vi z37, .ref 131] s39 _
            refine pr_n (pc2 := 168) (lv2 := [(5, vi (imi (t37 105 3) (prm t37 z37))), (4, vi z37), (3, vi (kkd t)), (2, vi y2), (0, .ref 131), (1, .ref C)]) (st2 := [vi (imi (t37 105 3) (prm t37 z37)), vi 0, .ref 131, vi z37, .ref 131]) 3 (fun _ _ => rfl) ?_
            refine pr_m1 (args := [vi 0, vi (imi (t37 105 3) (prm t37 z37))]) (rest := [vi z37, .ref 131]) rfl rfl rfl rfl (Nat.le_of_ble_eq_true rfl) rfl (h_53 s39 t37 0 (imi (t37 105 3) (prm t37 z37)) hE39 (i32_n rfl) h40) ?_
            rintro _ z41 t41 s41 ⟨rfl, hz41⟩ hE41
            show pr N2 K d tb_M20 171 [(5, vi (imi (t37 105 3) (prm t37 z37))), (4, vi z37), (3, vi (kkd t)), (2, vi y2), (0, .ref 131), (1, .ref C)] [vi z41, vi z37, .ref 131] s41 _
            refine pr_m1 (args := [vi z37, vi z41]) (rest := []) rfl rfl rfl rfl (Nat.le_of_ble_eq_true rfl) rfl (h_74 s41 t41 z37 z41 hE41 hz37 hz41) ?_
            rintro _ _ t42 s42 ⟨rfl, rfl⟩ hE42
            show pr N2 K d tb_M20 174 [(5, vi (imi (t37 105 3) (prm t37 z37))), (4, vi z37), (3, vi (kkd t)), (2, vi y2), (0, .ref 131), (1, .ref C)] [] s42 _
            refine pr_n (pc2 := 182) (lv2 := [(5, vi (imi (t37 105 3) (prm t37 z37))), (4, vi z37), (3, vi (kkd t)), (2, vi y2), (0, .ref 131), (1, .ref C)]) (st2 := []) 1 (fun _ _ => rfl) ?_
            refine pr_inc (a := y2) rfl rfl ?_
            have h43 : i32 (y2 + 1) := by unfold i32 at *; omega
            show pr N2 K d tb_M20 185 [(2, vi (y2 + 1)), (5, vi (imi (t37 105 3) (prm t37 z37))), (4, vi z37), (3, vi (kkd t)), (0, .ref 131), (1, .ref C)] [] s42 _
            refine pr_n (pc2 := 42) (lv2 := [(2, vi (y2 + 1)), (5, vi (imi (t37 105 3) (prm t37 z37))), (4, vi z37), (3, vi (kkd t)), (0, .ref 131), (1, .ref C)]) (st2 := []) 1 (fun _ _ => rfl) ?_
            exact ((ih N2 hN2).2.1) s42 t42 (y2 + 1) (imi (t37 105 3) (prm t37 z37)) z37 (kkd t) hE42 h43 h40 hz37 hz33
          · refine mq_f h36 ?_
            refine pr_if2f rfl rfl hz33 (i32_n rfl) h36 ?_
            refine pr_n (pc2 := 118) (lv2 := [(3, vi (kkd t)), (2, vi y2), (5, vi y5), (4, vi y4), (0, .ref 131), (1, .ref C)]) (st2 := [vi 6, .ref 131]) 2 (fun _ _ => rfl) ?_
            refine pr_m1 (args := [vi 6]) (rest := []) rfl rfl rfl rfl (Nat.le_of_ble_eq_true rfl) rfl (h_36 s34 ((stp t)) 6 hE34 (i32_n rfl)) ?_
            rintro _ z44 t44 s44 ⟨rfl, hz44⟩ hE44
            show pr N2 K d tb_M20 121 [(3, vi (kkd t)), (2, vi y2), (5, vi y5), (4, vi y4), (0, .ref 131), (1, .ref C)] [vi z44] s44 _
            refine pr_n (pc2 := 124) (lv2 := [(4, vi z44), (3, vi (kkd t)), (2, vi y2), (5, vi y5), (0, .ref 131), (1, .ref C)]) (st2 := [.ref 131]) 2 (fun _ _ => rfl) ?_
            refine pr_get (v := .ref C) rfl rfl rfl (by decide) (rv_ref (show s44.1 131 1 = ((C : Nat) : Int) from hE44.2.2.1)) fun _ => ?_
            refine pr_get (v := .ref (C + 6)) rfl rfl (TK0 hC) (by decide) (rv_ref (hE44.2.1 C 5 (C + 6) (rcK hC (by omega)))) fun _ => ?_
            refine pr_gE (k2 := 105) (v := vi (t44 105 3)) hE44 rfl rfl (TK6 hC) (by decide) rfl rfl rfl fun h45 => ?_
            have h45 : i32 (t44 105 3) := h45
            refine pr_n (pc2 := 134) (lv2 := [(4, vi z44), (3, vi (kkd t)), (2, vi y2), (5, vi y5), (0, .ref 131), (1, .ref C)]) (st2 := [.ref 131, vi (t44 105 3)]) 1 (fun _ _ => rfl) ?_
            refine pr_get (v := .ref C) rfl rfl rfl (by decide) (rv_ref (show s44.1 131 1 = ((C : Nat) : Int) from hE44.2.2.1)) fun _ => ?_
            refine pr_n (pc2 := 139) (lv2 := [(4, vi z44), (3, vi (kkd t)), (2, vi y2), (5, vi y5), (0, .ref 131), (1, .ref C)]) (st2 := [vi z44, .ref C, vi (t44 105 3)]) 1 (fun _ _ => rfl) ?_
            refine pr_s1 (args := [vi z44]) (rest := [vi (t44 105 3)]) rfl rfl rfl (TK0 hC) (Nat.le_of_ble_eq_true rfl) rfl (h_48 s44 t44 z44 hE44 hz44) s_prm ?_
            rintro _ s46 ⟨rfl, hz46⟩ hE46
            show pr N2 K d tb_M20 142 [(4, vi z44), (3, vi (kkd t)), (2, vi y2), (5, vi y5), (0, .ref 131), (1, .ref C)] [vi (prm t44 z44), vi (t44 105 3)] s46 _
            refine pr_i2 (a := t44 105 3) (b := prm t44 z44) rfl rfl ?_
            show pr N2 K d tb_M20 143 [(4, vi z44), (3, vi (kkd t)), (2, vi y2), (5, vi y5), (0, .ref 131), (1, .ref C)] [vi (imi (t44 105 3) (prm t44 z44))] s46 _
            have h47 : i32 (imi (t44 105 3) (prm t44 z44)) := i32_in _
            refine pr_n (pc2 := 152) (lv2 := [(5, vi (imi (t44 105 3) (prm t44 z44))), (4, vi z44), (3, vi (kkd t)), (2, vi y2), (0, .ref 131), (1, .ref C)]) (st2 := [vi 307, vi (kkd t), vi z44, .ref 131]) 5 (fun _ _ => rfl) ?_
            refine pr_if2f rfl rfl hz33 (i32_n rfl) (show ¬ (kkd t ≠ 307) by omega) ?_
            show pr N2 K d tb_M20 155 [(5, vi (imi (t44 105 3) (prm t44 z44))), (4, vi z44), (3, vi (kkd t)), (2, vi y2), (0, .ref 131), (1, .ref C)] [vi z44, .ref 131] s46 _
            refine pr_n (pc2 := 158) (lv2 := [(5, vi (imi (t44 105 3) (prm t44 z44))), (4, vi z44), (3, vi (kkd t)), (2, vi y2), (0, .ref 131), (1, .ref C)]) (st2 := [vi (imi (t44 105 3) (prm t44 z44)), .ref 131, vi z44, .ref 131]) 2 (fun _ _ => rfl) ?_
            refine pr_m1 (args := [vi (imi (t44 105 3) (prm t44 z44))]) (rest := [vi z44, .ref 131]) rfl rfl rfl rfl (Nat.le_of_ble_eq_true rfl) rfl (h_49 s46 t44 (imi (t44 105 3) (prm t44 z44)) hE46 h47) ?_
            rintro _ z48 t48 s48 ⟨rfl, hz48⟩ hE48
            show pr N2 K d tb_M20 161 [(5, vi (imi (t44 105 3) (prm t44 z44))), (4, vi z44), (3, vi (kkd t)), (2, vi y2), (0, .ref 131), (1, .ref C)] [vi z48, vi z44, .ref 131] s48 _
            refine pr_n (pc2 := 171) (lv2 := [(5, vi (imi (t44 105 3) (prm t44 z44))), (4, vi z44), (3, vi (kkd t)), (2, vi y2), (0, .ref 131), (1, .ref C)]) (st2 := [vi z48, vi z44, .ref 131]) 1 (fun _ _ => rfl) ?_
            refine pr_m1 (args := [vi z44, vi z48]) (rest := []) rfl rfl rfl rfl (Nat.le_of_ble_eq_true rfl) rfl (h_74 s48 t48 z44 z48 hE48 hz44 hz48) ?_
            rintro _ _ t49 s49 ⟨rfl, rfl⟩ hE49
            show pr N2 K d tb_M20 174 [(5, vi (imi (t44 105 3) (prm t44 z44))), (4, vi z44), (3, vi (kkd t)), (2, vi y2), (0, .ref 131), (1, .ref C)] [] s49 _
            refine pr_n (pc2 := 182) (lv2 := [(5, vi (imi (t44 105 3) (prm t44 z44))), (4, vi z44), (3, vi (kkd t)), (2, vi y2), (0, .ref 131), (1, .ref C)]) (st2 := []) 1 (fun _ _ => rfl) ?_
            refine pr_inc (a := y2) rfl rfl ?_
            have h50 : i32 (y2 + 1) := by unfold i32 at *; omega
            show pr N2 K d tb_M20 185 [(2, vi (y2 + 1)), (5, vi (imi (t44 105 3) (prm t44 z44))), (4, vi z44), (3, vi (kkd t)), (0, .ref 131), (1, .ref C)] [] s49 _
            refine pr_n (pc2 := 42) (lv2 := [(2, vi (y2 + 1)), (5, vi (imi (t44 105 3) (prm t44 z44))), (4, vi z44), (3, vi (kkd t)), (0, .ref 131), (1, .ref C)]) (st2 := []) 1 (fun _ _ => rfl) ?_
            exact ((ih N2 hN2).2.1) s49 t49 (y2 + 1) (imi (t44 105 3) (prm t44 z44)) z44 (kkd t) hE49 h50 h47 hz44 hz33
        · refine mq_f h35 ?_
          refine pr_if2f rfl rfl hz33 (i32_n rfl) h35 ?_
          refine pr_n (pc2 := 101) (lv2 := [(3, vi (kkd t)), (2, vi y2), (5, vi y5), (4, vi y4), (0, .ref 131), (1, .ref C)]) (st2 := [vi 307, vi (kkd t)]) 2 (fun _ _ => rfl) ?_
          by_cases h51 : kkd t ≠ 307
          · refine mq_t h51 ?_
            refine pr_if2t rfl rfl hz33 (i32_n rfl) h51 ?_
            refine pr_n (pc2 := 179) (lv2 := [(3, vi (kkd t)), (2, vi y2), (5, vi y5), (4, vi y4), (0, .ref 131), (1, .ref C)]) (st2 := [vi (kkd t), .ref 131]) 2 (fun _ _ => rfl) ?_
            refine pr_m1 (args := [vi (kkd t)]) (rest := []) rfl rfl rfl rfl (Nat.le_of_ble_eq_true rfl) rfl (h_75 s34 ((stp t)) (kkd t) hE34 hz33) ?_
            rintro _ _ t52 s52 ⟨rfl, rfl⟩ hE52
            show pr N2 K d tb_M20 182 [(3, vi (kkd t)), (2, vi y2), (5, vi y5), (4, vi y4), (0, .ref 131), (1, .ref C)] [] s52 _
            refine pr_inc (a := y2) rfl rfl ?_
            have h53 : i32 (y2 + 1) := by unfold i32 at *; omega
            show pr N2 K d tb_M20 185 [(2, vi (y2 + 1)), (3, vi (kkd t)), (5, vi y5), (4, vi y4), (0, .ref 131), (1, .ref C)] [] s52 _
            refine pr_n (pc2 := 42) (lv2 := [(2, vi (y2 + 1)), (3, vi (kkd t)), (5, vi y5), (4, vi y4), (0, .ref 131), (1, .ref C)]) (st2 := []) 1 (fun _ _ => rfl) ?_
            exact ((ih N2 hN2).2.2.2) s52 t52 (y2 + 1) (kkd t) y5 y4 hE52 h53 hz33 hy5 hy4
          · refine mq_f h51 ?_
            refine pr_if2f rfl rfl hz33 (i32_n rfl) h51 ?_
            refine pr_n (pc2 := 109) (lv2 := [(3, vi (kkd t)), (2, vi y2), (5, vi y5), (4, vi y4), (0, .ref 131), (1, .ref C)]) (st2 := [vi 307, vi (kkd t), .ref 131]) 3 (fun _ _ => rfl) ?_
            refine pr_if2f rfl rfl hz33 (i32_n rfl) (show ¬ (kkd t ≠ 307) by omega) ?_
            show pr N2 K d tb_M20 112 [(3, vi (kkd t)), (2, vi y2), (5, vi y5), (4, vi y4), (0, .ref 131), (1, .ref C)] [.ref 131] s34 _
            refine pr_n (pc2 := 118) (lv2 := [(3, vi (kkd t)), (2, vi y2), (5, vi y5), (4, vi y4), (0, .ref 131), (1, .ref C)]) (st2 := [vi 6, .ref 131]) 2 (fun _ _ => rfl) ?_
            refine pr_m1 (args := [vi 6]) (rest := []) rfl rfl rfl rfl (Nat.le_of_ble_eq_true rfl) rfl (h_36 s34 ((stp t)) 6 hE34 (i32_n rfl)) ?_
            rintro _ z54 t54 s54 ⟨rfl, hz54⟩ hE54
            show pr N2 K d tb_M20 121 [(3, vi (kkd t)), (2, vi y2), (5, vi y5), (4, vi y4), (0, .ref 131), (1, .ref C)] [vi z54] s54 _
            refine pr_n (pc2 := 124) (lv2 := [(4, vi z54), (3, vi (kkd t)), (2, vi y2), (5, vi y5), (0, .ref 131), (1, .ref C)]) (st2 := [.ref 131]) 2 (fun _ _ => rfl) ?_
            refine pr_get (v := .ref C) rfl rfl rfl (by decide) (rv_ref (show s54.1 131 1 = ((C : Nat) : Int) from hE54.2.2.1)) fun _ => ?_
            refine pr_get (v := .ref (C + 6)) rfl rfl (TK0 hC) (by decide) (rv_ref (hE54.2.1 C 5 (C + 6) (rcK hC (by omega)))) fun _ => ?_
            refine pr_gE (k2 := 105) (v := vi (t54 105 3)) hE54 rfl rfl (TK6 hC) (by decide) rfl rfl rfl fun h55 => ?_
            have h55 : i32 (t54 105 3) := h55
            refine pr_n (pc2 := 134) (lv2 := [(4, vi z54), (3, vi (kkd t)), (2, vi y2), (5, vi y5), (0, .ref 131), (1, .ref C)]) (st2 := [.ref 131, vi (t54 105 3)]) 1 (fun _ _ => rfl) ?_
            refine pr_get (v := .ref C) rfl rfl rfl (by decide) (rv_ref (show s54.1 131 1 = ((C : Nat) : Int) from hE54.2.2.1)) fun _ => ?_
            refine pr_n (pc2 := 139) (lv2 := [(4, vi z54), (3, vi (kkd t)), (2, vi y2), (5, vi y5), (0, .ref 131), (1, .ref C)]) (st2 := [vi z54, .ref C, vi (t54 105 3)]) 1 (fun _ _ => rfl) ?_
            refine pr_s1 (args := [vi z54]) (rest := [vi (t54 105 3)]) rfl rfl rfl (TK0 hC) (Nat.le_of_ble_eq_true rfl) rfl (h_48 s54 t54 z54 hE54 hz54) s_prm ?_
            rintro _ s56 ⟨rfl, hz56⟩ hE56
            show pr N2 K d tb_M20 142 [(4, vi z54), (3, vi (kkd t)), (2, vi y2), (5, vi y5), (0, .ref 131), (1, .ref C)] [vi (prm t54 z54), vi (t54 105 3)] s56 _
            refine pr_i2 (a := t54 105 3) (b := prm t54 z54) rfl rfl ?_
            show pr N2 K d tb_M20 143 [(4, vi z54), (3, vi (kkd t)), (2, vi y2), (5, vi y5), (0, .ref 131), (1, .ref C)] [vi (imi (t54 105 3) (prm t54 z54))] s56 _
            have h57 : i32 (imi (t54 105 3) (prm t54 z54)) := i32_in _
            refine pr_n (pc2 := 152) (lv2 := [(5, vi (imi (t54 105 3) (prm t54 z54))), (4, vi z54), (3, vi (kkd t)), (2, vi y2), (0, .ref 131), (1, .ref C)]) (st2 := [vi 307, vi (kkd t), vi z54, .ref 131]) 5 (fun _ _ => rfl) ?_
            refine pr_if2f rfl rfl hz33 (i32_n rfl) (show ¬ (kkd t ≠ 307) by omega) ?_
            show pr N2 K d tb_M20 155 [(5, vi (imi (t54 105 3) (prm t54 z54))), (4, vi z54), (3, vi (kkd t)), (2, vi y2), (0, .ref 131), (1, .ref C)] [vi z54, .ref 131] s56 _
            refine pr_n (pc2 := 158) (lv2 := [(5, vi (imi (t54 105 3) (prm t54 z54))), (4, vi z54), (3, vi (kkd t)), (2, vi y2), (0, .ref 131), (1, .ref C)]) (st2 := [vi (imi (t54 105 3) (prm t54 z54)), .ref 131, vi z54, .ref 131]) 2 (fun _ _ => rfl) ?_
            refine pr_m1 (args := [vi (imi (t54 105 3) (prm t54 z54))]) (rest := [vi z54, .ref 131]) rfl rfl rfl rfl (Nat.le_of_ble_eq_true rfl) rfl (h_49 s56 t54 (imi (t54 105 3) (prm t54 z54)) hE56 h57) ?_
            rintro _ z58 t58 s58 ⟨rfl, hz58⟩ hE58
            show pr N2 K d tb_M20 161 [(5, vi (imi (t54 105 3) (prm t54 z54))), (4, vi z54), (3, vi (kkd t)), (2, vi y2), (0, .ref 131), (1, .ref C)] [vi z58, vi z54, .ref 131] s58 _
            refine pr_n (pc2 := 171) (lv2 := [(5, vi (imi (t54 105 3) (prm t54 z54))), (4, vi z54), (3, vi (kkd t)), (2, vi y2), (0, .ref 131), (1, .ref C)]) (st2 := [vi z58, vi z54, .ref 131]) 1 (fun _ _ => rfl) ?_
            refine pr_m1 (args := [vi z54, vi z58]) (rest := []) rfl rfl rfl rfl (Nat.le_of_ble_eq_true rfl) rfl (h_74 s58 t58 z54 z58 hE58 hz54 hz58) ?_
            rintro _ _ t59 s59 ⟨rfl, rfl⟩ hE59
            show pr N2 K d tb_M20 174 [(5, vi (imi (t54 105 3) (prm t54 z54))), (4, vi z54), (3, vi (kkd t)), (2, vi y2), (0, .ref 131), (1, .ref C)] [] s59 _
            refine pr_n (pc2 := 182) (lv2 := [(5, vi (imi (t54 105 3) (prm t54 z54))), (4, vi z54), (3, vi (kkd t)), (2, vi y2), (0, .ref 131), (1, .ref C)]) (st2 := []) 1 (fun _ _ => rfl) ?_
            refine pr_inc (a := y2) rfl rfl ?_
            have h60 : i32 (y2 + 1) := by unfold i32 at *; omega
            show pr N2 K d tb_M20 185 [(2, vi (y2 + 1)), (5, vi (imi (t54 105 3) (prm t54 z54))), (4, vi z54), (3, vi (kkd t)), (0, .ref 131), (1, .ref C)] [] s59 _
            refine pr_n (pc2 := 42) (lv2 := [(2, vi (y2 + 1)), (5, vi (imi (t54 105 3) (prm t54 z54))), (4, vi z54), (3, vi (kkd t)), (0, .ref 131), (1, .ref C)]) (st2 := []) 1 (fun _ _ => rfl) ?_
            exact ((ih N2 hN2).2.1) s59 t59 (y2 + 1) (imi (t54 105 3) (prm t54 z54)) z54 (kkd t) hE59 h60 h57 hz54 hz33
set_option maxHeartbeats 20000000 in
set_option maxRecDepth 100000 in
theorem cu20_2 {N K d C : Nat} (h_21 : cT21 K d C) (h_24 : cT24 K d C) (h_34 : cT34 K d C) (h_35 : cT35 K d C) (h_36 : cT36 K d C) (h_40 : cT40 K d C) (h_41 : cT41 K d C) (h_48 : cT48 K d C) (h_49 : cT49 K d C) (h_53 : cT53 K d C) (h_74 : cT74 K d C) (h_75 : cT75 K d C) (ih : ∀ N2, N2 < N → cA20 N2 K d C) : cU20_2 N K d C := by
  intro s t y2 y3 hE hy2 hy3
  have hC : C = 99 ∨ C = 115 := hE.1
  rw [cG_20_42]
  unfold cM20_42
  refine pr_lt (pc2 := 43) (lv2 := [(2, vi y2), (3, vi y3), (0, .ref 131), (1, .ref C)]) (st2 := [vi y2]) (fun _ _ => rfl) fun N2 hN2 => ?_
  refine pr_n (pc2 := 46) (lv2 := [(2, vi y2), (3, vi y3), (0, .ref 131), (1, .ref C)]) (st2 := [vi 2000, vi y2]) 1 (fun _ _ => rfl) ?_
  by_cases h1 : 2000 ≤ y2
  · refine mq_t h1 ?_
    refine pr_if2t rfl rfl hy2 (i32_n rfl) h1 ?_
    refine pr_n (pc2 := 189) (lv2 := [(2, vi y2), (3, vi y3), (0, .ref 131), (1, .ref C)]) (st2 := [.ref 131]) 1 (fun _ _ => rfl) ?_
    refine pr_get (v := .ref C) rfl rfl rfl (by decide) (rv_ref (show s.1 131 1 = ((C : Nat) : Int) from hE.2.2.1)) fun _ => ?_
    refine pr_n (pc2 := 195) (lv2 := [(2, vi y2), (3, vi y3), (0, .ref 131), (1, .ref C)]) (st2 := [.ref 131, vi 0, .ref 131, .ref C]) 3 (fun _ _ => rfl) ?_
    refine pr_get (v := .ref C) rfl rfl rfl (by decide) (rv_ref (show s.1 131 1 = ((C : Nat) : Int) from hE.2.2.1)) fun _ => ?_
    refine pr_get (v := .ref (C + 6)) rfl rfl (TK0 hC) (by decide) (rv_ref (hE.2.1 C 5 (C + 6) (rcK hC (by omega)))) fun _ => ?_
    refine pr_gE (k2 := 105) (v := vi (t 105 3)) hE rfl rfl (TK6 hC) (by decide) rfl rfl rfl fun h2 => ?_
    have h2 : i32 (t 105 3) := h2
    refine pr_m1 (args := [vi 0, vi (t 105 3)]) (rest := [.ref C]) rfl rfl rfl rfl (Nat.le_of_ble_eq_true rfl) rfl (h_53 s t 0 (t 105 3) hE (i32_n rfl) h2) ?_
    rintro _ z3 t3 s3 ⟨rfl, hz3⟩ hE3
    show pr N2 K d tb_M20 207 [(2, vi y2), (3, vi y3), (0, .ref 131), (1, .ref C)] [vi z3, .ref C] s3 _
    refine pr_pE (k2 := 99) (z := z3) hE3 rfl rfl rfl rfl (show 96 ≤ C by omega) (TK0 hC) (by decide) rfl (show i32 (z3) from hz3) (hf_int' _) (nK (a := 0) hC (by omega)) rfl rfl (fun e => absurd e.1 (show ¬ (C = 131) by omega)) (iv_c (by decide)) fun s4 hE4 => ?_
    refine pr_n (pc2 := 212) (lv2 := [(2, vi y2), (3, vi y3), (0, .ref 131), (1, .ref C)]) (st2 := [.ref 131, .ref 131]) 2 (fun _ _ => rfl) ?_
    refine pr_get (v := .ref 137) rfl rfl rfl (by decide) (rv_ref (hE4.2.1 131 0 137 rfl)) fun _ => ?_
    refine pr_s1 (args := []) (rest := [.ref 131]) rfl rfl rfl rfl (Nat.le_of_ble_eq_true rfl) rfl (h_34 s4 (up2 t3 99 13 z3)  hE4 ) s_kkd ?_
    rintro _ s5 ⟨rfl, hz5⟩ hE5
    show pr N2 K d tb_M20 218 [(2, vi y2), (3, vi y3), (0, .ref 131), (1, .ref C)] [vi (kkd (up2 t3 99 13 z3)), .ref 131] s5 _
    refine pr_n (pc2 := 219) (lv2 := [(2, vi y2), (3, vi y3), (0, .ref 131), (1, .ref C)]) (st2 := [vi 3, vi (kkd (up2 t3 99 13 z3)), .ref 131]) 1 (fun _ _ => rfl) ?_
    by_cases h6 : kkd (up2 t3 99 13 z3) ≠ 3
    · refine mq_t h6 ?_
      refine pr_if2t rfl rfl hz5 (i32_n rfl) h6 ?_
      refine pr_n (pc2 := 228) (lv2 := [(2, vi y2), (3, vi y3), (0, .ref 131), (1, .ref C)]) (st2 := [.ref 131, vi 0, .ref 131]) 2 (fun _ _ => rfl) ?_
      refine pr_get (v := .ref 137) rfl rfl rfl (by decide) (rv_ref (hE5.2.1 131 0 137 rfl)) fun _ => ?_
      refine pr_s1 (args := []) (rest := [vi 0, .ref 131]) rfl rfl rfl rfl (Nat.le_of_ble_eq_true rfl) rfl (h_40 s5 (up2 t3 99 13 z3)  hE5 ) s_plc ?_
      rintro _ s7 ⟨rfl, hz7⟩ hE7
      show pr N2 K d tb_M20 234 [(2, vi y2), (3, vi y3), (0, .ref 131), (1, .ref C)] [vi (plc (up2 t3 99 13 z3)), vi 0, .ref 131] s7 _
      exact pr_c1 (args := [vi 0, vi (plc (up2 t3 99 13 z3))]) (rest := []) rfl rfl rfl rfl (Nat.le_of_ble_eq_true rfl) rfl (h_41 s7 (up2 t3 99 13 z3) 0 (plc (up2 t3 99 13 z3)) hE7 (by decide) hz7) chk0
    · refine mq_f h6 ?_
      refine pr_if2f rfl rfl hz5 (i32_n rfl) h6 ?_
      refine pr_n (pc2 := 228) (lv2 := [(2, vi y2), (3, vi y3), (0, .ref 131), (1, .ref C)]) (st2 := [.ref 131, vi 1, .ref 131]) 3 (fun _ _ => rfl) ?_
      refine pr_get (v := .ref 137) rfl rfl rfl (by decide) (rv_ref (hE5.2.1 131 0 137 rfl)) fun _ => ?_
      refine pr_s1 (args := []) (rest := [vi 1, .ref 131]) rfl rfl rfl rfl (Nat.le_of_ble_eq_true rfl) rfl (h_40 s5 (up2 t3 99 13 z3)  hE5 ) s_plc ?_
      rintro _ s9 ⟨rfl, hz9⟩ hE9
      show pr N2 K d tb_M20 234 [(2, vi y2), (3, vi y3), (0, .ref 131), (1, .ref C)] [vi (plc (up2 t3 99 13 z3)), vi 1, .ref 131] s9 _
      refine pr_s1 (args := [vi 1, vi (plc (up2 t3 99 13 z3))]) (rest := []) rfl rfl rfl rfl (Nat.le_of_ble_eq_true rfl) rfl (h_41 s9 (up2 t3 99 13 z3) 1 (plc (up2 t3 99 13 z3)) hE9 (by decide) hz9) chk1 ?_
      rintro _ s10 ⟨rfl, _⟩ hE10
      show pr N2 K d tb_M20 237 [(2, vi y2), (3, vi y3), (0, .ref 131), (1, .ref C)] [] s10 _
      refine pr_end (fun _ _ => rfl) ?_
      exact .inl ⟨_, 0, _, rfl, ⟨rfl, rfl⟩, rfl, hE10⟩
  · refine mq_f h1 ?_
    refine pr_if2f rfl rfl hy2 (i32_n rfl) h1 ?_
    refine pr_n (pc2 := 50) (lv2 := [(2, vi y2), (3, vi y3), (0, .ref 131), (1, .ref C)]) (st2 := [.ref 131]) 1 (fun _ _ => rfl) ?_
    refine pr_get (v := .ref 137) rfl rfl rfl (by decide) (rv_ref (hE.2.1 131 0 137 rfl)) fun _ => ?_
    refine pr_s1 (args := []) (rest := []) rfl rfl rfl rfl (Nat.le_of_ble_eq_true rfl) rfl (h_34 s t  hE ) s_kkd ?_
    rintro _ s11 ⟨rfl, hz11⟩ hE11
    show pr N2 K d tb_M20 56 [(2, vi y2), (3, vi y3), (0, .ref 131), (1, .ref C)] [vi (kkd t)] s11 _
    refine pr_n (pc2 := 59) (lv2 := [(2, vi y2), (3, vi y3), (0, .ref 131), (1, .ref C)]) (st2 := [vi 300, vi (kkd t)]) 1 (fun _ _ => rfl) ?_
    by_cases h12 : kkd t < 300
    · refine mq_t h12 ?_
      refine pr_if2t rfl rfl hz11 (i32_n rfl) h12 ?_
      refine pr_n (pc2 := 189) (lv2 := [(2, vi y2), (3, vi y3), (0, .ref 131), (1, .ref C)]) (st2 := [.ref 131]) 1 (fun _ _ => rfl) ?_
      refine pr_get (v := .ref C) rfl rfl rfl (by decide) (rv_ref (show s11.1 131 1 = ((C : Nat) : Int) from hE11.2.2.1)) fun _ => ?_
      refine pr_n (pc2 := 195) (lv2 := [(2, vi y2), (3, vi y3), (0, .ref 131), (1, .ref C)]) (st2 := [.ref 131, vi 0, .ref 131, .ref C]) 3 (fun _ _ => rfl) ?_
      refine pr_get (v := .ref C) rfl rfl rfl (by decide) (rv_ref (show s11.1 131 1 = ((C : Nat) : Int) from hE11.2.2.1)) fun _ => ?_
      refine pr_get (v := .ref (C + 6)) rfl rfl (TK0 hC) (by decide) (rv_ref (hE11.2.1 C 5 (C + 6) (rcK hC (by omega)))) fun _ => ?_
      refine pr_gE (k2 := 105) (v := vi (t 105 3)) hE11 rfl rfl (TK6 hC) (by decide) rfl rfl rfl fun h13 => ?_
      have h13 : i32 (t 105 3) := h13
      refine pr_m1 (args := [vi 0, vi (t 105 3)]) (rest := [.ref C]) rfl rfl rfl rfl (Nat.le_of_ble_eq_true rfl) rfl (h_53 s11 t 0 (t 105 3) hE11 (i32_n rfl) h13) ?_
      rintro _ z14 t14 s14 ⟨rfl, hz14⟩ hE14
      show pr N2 K d tb_M20 207 [(2, vi y2), (3, vi y3), (0, .ref 131), (1, .ref C)] [vi z14, .ref C] s14 _
      refine pr_pE (k2 := 99) (z := z14) hE14 rfl rfl rfl rfl (show 96 ≤ C by omega) (TK0 hC) (by decide) rfl (show i32 (z14) from hz14) (hf_int' _) (nK (a := 0) hC (by omega)) rfl rfl (fun e => absurd e.1 (show ¬ (C = 131) by omega)) (iv_c (by decide)) fun s15 hE15 => ?_
      refine pr_n (pc2 := 212) (lv2 := [(2, vi y2), (3, vi y3), (0, .ref 131), (1, .ref C)]) (st2 := [.ref 131, .ref 131]) 2 (fun _ _ => rfl) ?_
      refine pr_get (v := .ref 137) rfl rfl rfl (by decide) (rv_ref (hE15.2.1 131 0 137 rfl)) fun _ => ?_
      refine pr_s1 (args := []) (rest := [.ref 131]) rfl rfl rfl rfl (Nat.le_of_ble_eq_true rfl) rfl (h_34 s15 (up2 t14 99 13 z14)  hE15 ) s_kkd ?_
      rintro _ s16 ⟨rfl, hz16⟩ hE16
      show pr N2 K d tb_M20 218 [(2, vi y2), (3, vi y3), (0, .ref 131), (1, .ref C)] [vi (kkd (up2 t14 99 13 z14)), .ref 131] s16 _
      refine pr_n (pc2 := 219) (lv2 := [(2, vi y2), (3, vi y3), (0, .ref 131), (1, .ref C)]) (st2 := [vi 3, vi (kkd (up2 t14 99 13 z14)), .ref 131]) 1 (fun _ _ => rfl) ?_
      by_cases h17 : kkd (up2 t14 99 13 z14) ≠ 3
      · refine mq_t h17 ?_
        refine pr_if2t rfl rfl hz16 (i32_n rfl) h17 ?_
        refine pr_n (pc2 := 228) (lv2 := [(2, vi y2), (3, vi y3), (0, .ref 131), (1, .ref C)]) (st2 := [.ref 131, vi 0, .ref 131]) 2 (fun _ _ => rfl) ?_
        refine pr_get (v := .ref 137) rfl rfl rfl (by decide) (rv_ref (hE16.2.1 131 0 137 rfl)) fun _ => ?_
        refine pr_s1 (args := []) (rest := [vi 0, .ref 131]) rfl rfl rfl rfl (Nat.le_of_ble_eq_true rfl) rfl (h_40 s16 (up2 t14 99 13 z14)  hE16 ) s_plc ?_
        rintro _ s18 ⟨rfl, hz18⟩ hE18
        show pr N2 K d tb_M20 234 [(2, vi y2), (3, vi y3), (0, .ref 131), (1, .ref C)] [vi (plc (up2 t14 99 13 z14)), vi 0, .ref 131] s18 _
        exact pr_c1 (args := [vi 0, vi (plc (up2 t14 99 13 z14))]) (rest := []) rfl rfl rfl rfl (Nat.le_of_ble_eq_true rfl) rfl (h_41 s18 (up2 t14 99 13 z14) 0 (plc (up2 t14 99 13 z14)) hE18 (by decide) hz18) chk0
      · refine mq_f h17 ?_
        refine pr_if2f rfl rfl hz16 (i32_n rfl) h17 ?_
        refine pr_n (pc2 := 228) (lv2 := [(2, vi y2), (3, vi y3), (0, .ref 131), (1, .ref C)]) (st2 := [.ref 131, vi 1, .ref 131]) 3 (fun _ _ => rfl) ?_
        refine pr_get (v := .ref 137) rfl rfl rfl (by decide) (rv_ref (hE16.2.1 131 0 137 rfl)) fun _ => ?_
        refine pr_s1 (args := []) (rest := [vi 1, .ref 131]) rfl rfl rfl rfl (Nat.le_of_ble_eq_true rfl) rfl (h_40 s16 (up2 t14 99 13 z14)  hE16 ) s_plc ?_
        rintro _ s20 ⟨rfl, hz20⟩ hE20
        show pr N2 K d tb_M20 234 [(2, vi y2), (3, vi y3), (0, .ref 131), (1, .ref C)] [vi (plc (up2 t14 99 13 z14)), vi 1, .ref 131] s20 _
        refine pr_s1 (args := [vi 1, vi (plc (up2 t14 99 13 z14))]) (rest := []) rfl rfl rfl rfl (Nat.le_of_ble_eq_true rfl) rfl (h_41 s20 (up2 t14 99 13 z14) 1 (plc (up2 t14 99 13 z14)) hE20 (by decide) hz20) chk1 ?_
        rintro _ s21 ⟨rfl, _⟩ hE21
        show pr N2 K d tb_M20 237 [(2, vi y2), (3, vi y3), (0, .ref 131), (1, .ref C)] [] s21 _
        refine pr_end (fun _ _ => rfl) ?_
        exact .inl ⟨_, 0, _, rfl, ⟨rfl, rfl⟩, rfl, hE21⟩
    · refine mq_f h12 ?_
      refine pr_if2f rfl rfl hz11 (i32_n rfl) h12 ?_
      refine pr_n (pc2 := 63) (lv2 := [(2, vi y2), (3, vi y3), (0, .ref 131), (1, .ref C)]) (st2 := [.ref 131]) 1 (fun _ _ => rfl) ?_
      refine pr_get (v := .ref 137) rfl rfl rfl (by decide) (rv_ref (hE11.2.1 131 0 137 rfl)) fun _ => ?_
      refine pr_s1 (args := []) (rest := []) rfl rfl rfl rfl (Nat.le_of_ble_eq_true rfl) rfl (h_34 s11 t  hE11 ) s_kkd ?_
      rintro _ s22 ⟨rfl, hz22⟩ hE22
      show pr N2 K d tb_M20 69 [(2, vi y2), (3, vi y3), (0, .ref 131), (1, .ref C)] [vi (kkd t)] s22 _
      refine pr_n (pc2 := 72) (lv2 := [(2, vi y2), (3, vi y3), (0, .ref 131), (1, .ref C)]) (st2 := [vi 307, vi (kkd t)]) 1 (fun _ _ => rfl) ?_
      by_cases h23 : 307 < kkd t
      · refine mq_t h23 ?_
        refine pr_if2t rfl rfl hz22 (i32_n rfl) h23 ?_
        refine pr_n (pc2 := 189) (lv2 := [(2, vi y2), (3, vi y3), (0, .ref 131), (1, .ref C)]) (st2 := [.ref 131]) 1 (fun _ _ => rfl) ?_
        refine pr_get (v := .ref C) rfl rfl rfl (by decide) (rv_ref (show s22.1 131 1 = ((C : Nat) : Int) from hE22.2.2.1)) fun _ => ?_
        refine pr_n (pc2 := 195) (lv2 := [(2, vi y2), (3, vi y3), (0, .ref 131), (1, .ref C)]) (st2 := [.ref 131, vi 0, .ref 131, .ref C]) 3 (fun _ _ => rfl) ?_
        refine pr_get (v := .ref C) rfl rfl rfl (by decide) (rv_ref (show s22.1 131 1 = ((C : Nat) : Int) from hE22.2.2.1)) fun _ => ?_
        refine pr_get (v := .ref (C + 6)) rfl rfl (TK0 hC) (by decide) (rv_ref (hE22.2.1 C 5 (C + 6) (rcK hC (by omega)))) fun _ => ?_
        refine pr_gE (k2 := 105) (v := vi (t 105 3)) hE22 rfl rfl (TK6 hC) (by decide) rfl rfl rfl fun h24 => ?_
        have h24 : i32 (t 105 3) := h24
        refine pr_m1 (args := [vi 0, vi (t 105 3)]) (rest := [.ref C]) rfl rfl rfl rfl (Nat.le_of_ble_eq_true rfl) rfl (h_53 s22 t 0 (t 105 3) hE22 (i32_n rfl) h24) ?_
        rintro _ z25 t25 s25 ⟨rfl, hz25⟩ hE25
        show pr N2 K d tb_M20 207 [(2, vi y2), (3, vi y3), (0, .ref 131), (1, .ref C)] [vi z25, .ref C] s25 _
        refine pr_pE (k2 := 99) (z := z25) hE25 rfl rfl rfl rfl (show 96 ≤ C by omega) (TK0 hC) (by decide) rfl (show i32 (z25) from hz25) (hf_int' _) (nK (a := 0) hC (by omega)) rfl rfl (fun e => absurd e.1 (show ¬ (C = 131) by omega)) (iv_c (by decide)) fun s26 hE26 => ?_
        refine pr_n (pc2 := 212) (lv2 := [(2, vi y2), (3, vi y3), (0, .ref 131), (1, .ref C)]) (st2 := [.ref 131, .ref 131]) 2 (fun _ _ => rfl) ?_
        refine pr_get (v := .ref 137) rfl rfl rfl (by decide) (rv_ref (hE26.2.1 131 0 137 rfl)) fun _ => ?_
        refine pr_s1 (args := []) (rest := [.ref 131]) rfl rfl rfl rfl (Nat.le_of_ble_eq_true rfl) rfl (h_34 s26 (up2 t25 99 13 z25)  hE26 ) s_kkd ?_
        rintro _ s27 ⟨rfl, hz27⟩ hE27
        show pr N2 K d tb_M20 218 [(2, vi y2), (3, vi y3), (0, .ref 131), (1, .ref C)] [vi (kkd (up2 t25 99 13 z25)), .ref 131] s27 _
        refine pr_n (pc2 := 219) (lv2 := [(2, vi y2), (3, vi y3), (0, .ref 131), (1, .ref C)]) (st2 := [vi 3, vi (kkd (up2 t25 99 13 z25)), .ref 131]) 1 (fun _ _ => rfl) ?_
        by_cases h28 : kkd (up2 t25 99 13 z25) ≠ 3
        · refine mq_t h28 ?_
          refine pr_if2t rfl rfl hz27 (i32_n rfl) h28 ?_
          refine pr_n (pc2 := 228) (lv2 := [(2, vi y2), (3, vi y3), (0, .ref 131), (1, .ref C)]) (st2 := [.ref 131, vi 0, .ref 131]) 2 (fun _ _ => rfl) ?_
          refine pr_get (v := .ref 137) rfl rfl rfl (by decide) (rv_ref (hE27.2.1 131 0 137 rfl)) fun _ => ?_
          refine pr_s1 (args := []) (rest := [vi 0, .ref 131]) rfl rfl rfl rfl (Nat.le_of_ble_eq_true rfl) rfl (h_40 s27 (up2 t25 99 13 z25)  hE27 ) s_plc ?_
          rintro _ s29 ⟨rfl, hz29⟩ hE29
          show pr N2 K d tb_M20 234 [(2, vi y2), (3, vi y3), (0, .ref 131), (1, .ref C)] [vi (plc (up2 t25 99 13 z25)), vi 0, .ref 131] s29 _
          exact pr_c1 (args := [vi 0, vi (plc (up2 t25 99 13 z25))]) (rest := []) rfl rfl rfl rfl (Nat.le_of_ble_eq_true rfl) rfl (h_41 s29 (up2 t25 99 13 z25) 0 (plc (up2 t25 99 13 z25)) hE29 (by decide) hz29) chk0
        · refine mq_f h28 ?_
          refine pr_if2f rfl rfl hz27 (i32_n rfl) h28 ?_
          refine pr_n (pc2 := 228) (lv2 := [(2, vi y2), (3, vi y3), (0, .ref 131), (1, .ref C)]) (st2 := [.ref 131, vi 1, .ref 131]) 3 (fun _ _ => rfl) ?_
          refine pr_get (v := .ref 137) rfl rfl rfl (by decide) (rv_ref (hE27.2.1 131 0 137 rfl)) fun _ => ?_
          refine pr_s1 (args := []) (rest := [vi 1, .ref 131]) rfl rfl rfl rfl (Nat.le_of_ble_eq_true rfl) rfl (h_40 s27 (up2 t25 99 13 z25)  hE27 ) s_plc ?_
          rintro _ s31 ⟨rfl, hz31⟩ hE31
          show pr N2 K d tb_M20 234 [(2, vi y2), (3, vi y3), (0, .ref 131), (1, .ref C)] [vi (plc (up2 t25 99 13 z25)), vi 1, .ref 131] s31 _
          refine pr_s1 (args := [vi 1, vi (plc (up2 t25 99 13 z25))]) (rest := []) rfl rfl rfl rfl (Nat.le_of_ble_eq_true rfl) rfl (h_41 s31 (up2 t25 99 13 z25) 1 (plc (up2 t25 99 13 z25)) hE31 (by decide) hz31) chk1 ?_
          rintro _ s32 ⟨rfl, _⟩ hE32
          show pr N2 K d tb_M20 237 [(2, vi y2), (3, vi y3), (0, .ref 131), (1, .ref C)] [] s32 _
          refine pr_end (fun _ _ => rfl) ?_
          exact .inl ⟨_, 0, _, rfl, ⟨rfl, rfl⟩, rfl, hE32⟩
      · refine mq_f h23 ?_
        refine pr_if2f rfl rfl hz22 (i32_n rfl) h23 ?_
        refine pr_n (pc2 := 76) (lv2 := [(2, vi y2), (3, vi y3), (0, .ref 131), (1, .ref C)]) (st2 := [.ref 131]) 1 (fun _ _ => rfl) ?_
        refine pr_get (v := .ref 137) rfl rfl rfl (by decide) (rv_ref (hE22.2.1 131 0 137 rfl)) fun _ => ?_
        refine pr_s1 (args := []) (rest := []) rfl rfl rfl rfl (Nat.le_of_ble_eq_true rfl) rfl (h_34 s22 t  hE22 ) s_kkd ?_
        rintro _ s33 ⟨rfl, hz33⟩ hE33
        show pr N2 K d tb_M20 82 [(2, vi y2), (3, vi y3), (0, .ref 131), (1, .ref C)] [vi (kkd t)] s33 _
        refine pr_n (pc2 := 84) (lv2 := [(3, vi (kkd t)), (2, vi y2), (0, .ref 131), (1, .ref C)]) (st2 := [.ref 131]) 2 (fun _ _ => rfl) ?_
        refine pr_get (v := .ref 137) rfl rfl rfl (by decide) (rv_ref (hE33.2.1 131 0 137 rfl)) fun _ => ?_
        refine pr_s1 (args := []) (rest := []) rfl rfl rfl rfl (Nat.le_of_ble_eq_true rfl) rfl (h_35 s33 t  hE33 ) s_stp ?_
        rintro _ s34 ⟨rfl, _⟩ hE34
        show pr N2 K d tb_M20 90 [(3, vi (kkd t)), (2, vi y2), (0, .ref 131), (1, .ref C)] [] s34 _
        refine pr_n (pc2 := 94) (lv2 := [(3, vi (kkd t)), (2, vi y2), (0, .ref 131), (1, .ref C)]) (st2 := [vi 306, vi (kkd t)]) 2 (fun _ _ => rfl) ?_
        by_cases h35 : kkd t = 306
        · refine mq_t h35 ?_
          refine pr_if2t rfl rfl hz33 (i32_n rfl) h35 ?_
          refine pr_n (pc2 := 109) (lv2 := [(3, vi (kkd t)), (2, vi y2), (0, .ref 131), (1, .ref C)]) (st2 := [vi 307, vi (kkd t), .ref 131]) 3 (fun _ _ => rfl) ?_
          by_cases h36 : kkd t ≠ 307
          · refine mq_t h36 ?_
            refine pr_if2t rfl rfl hz33 (i32_n rfl) h36 ?_
            refine pr_n (pc2 := 118) (lv2 := [(3, vi (kkd t)), (2, vi y2), (0, .ref 131), (1, .ref C)]) (st2 := [vi 5, .ref 131]) 1 (fun _ _ => rfl) ?_
            refine pr_m1 (args := [vi 5]) (rest := []) rfl rfl rfl rfl (Nat.le_of_ble_eq_true rfl) rfl (h_36 s34 ((stp t)) 5 hE34 (i32_n rfl)) ?_
            rintro _ z37 t37 s37 ⟨rfl, hz37⟩ hE37
            show pr N2 K d tb_M20 121 [(3, vi (kkd t)), (2, vi y2), (0, .ref 131), (1, .ref C)] [vi z37] s37 _
            refine pr_n (pc2 := 124) (lv2 := [(4, vi z37), (3, vi (kkd t)), (2, vi y2), (0, .ref 131), (1, .ref C)]) (st2 := [.ref 131]) 2 (fun _ _ => rfl) ?_
            refine pr_get (v := .ref C) rfl rfl rfl (by decide) (rv_ref (show s37.1 131 1 = ((C : Nat) : Int) from hE37.2.2.1)) fun _ => ?_
            refine pr_get (v := .ref (C + 6)) rfl rfl (TK0 hC) (by decide) (rv_ref (hE37.2.1 C 5 (C + 6) (rcK hC (by omega)))) fun _ => ?_
            refine pr_gE (k2 := 105) (v := vi (t37 105 3)) hE37 rfl rfl (TK6 hC) (by decide) rfl rfl rfl fun h38 => ?_
            have h38 : i32 (t37 105 3) := h38
            refine pr_n (pc2 := 134) (lv2 := [(4, vi z37), (3, vi (kkd t)), (2, vi y2), (0, .ref 131), (1, .ref C)]) (st2 := [.ref 131, vi (t37 105 3)]) 1 (fun _ _ => rfl) ?_
            refine pr_get (v := .ref C) rfl rfl rfl (by decide) (rv_ref (show s37.1 131 1 = ((C : Nat) : Int) from hE37.2.2.1)) fun _ => ?_
            refine pr_n (pc2 := 139) (lv2 := [(4, vi z37), (3, vi (kkd t)), (2, vi y2), (0, .ref 131), (1, .ref C)]) (st2 := [vi z37, .ref C, vi (t37 105 3)]) 1 (fun _ _ => rfl) ?_
            refine pr_s1 (args := [vi z37]) (rest := [vi (t37 105 3)]) rfl rfl rfl (TK0 hC) (Nat.le_of_ble_eq_true rfl) rfl (h_48 s37 t37 z37 hE37 hz37) s_prm ?_
            rintro _ s39 ⟨rfl, hz39⟩ hE39
            show pr N2 K d tb_M20 142 [(4, vi z37), (3, vi (kkd t)), (2, vi y2), (0, .ref 131), (1, .ref C)] [vi (prm t37 z37), vi (t37 105 3)] s39 _
            refine pr_i2 (a := t37 105 3) (b := prm t37 z37) rfl rfl ?_
            show pr N2 K d tb_M20 143 [(4, vi z37), (3, vi (kkd t)), (2, vi y2), (0, .ref 131), (1, .ref C)] [vi (imi (t37 105 3) (prm t37 z37))] s39 _
            have h40 : i32 (imi (t37 105 3) (prm t37 z37)) := i32_in _
            refine pr_n (pc2 := 152) (lv2 := [(5, vi (imi (t37 105 3) (prm t37 z37))), (4, vi z37), (3, vi (kkd t)), (2, vi y2), (0, .ref 131), (1, .ref C)]) (st2 := [vi 307, vi (kkd t), vi z37, .ref 131]) 5 (fun _ _ => rfl) ?_
            refine pr_if2t rfl rfl hz33 (i32_n rfl) (show kkd t ≠ 307 by omega) ?_
            show pr N2 K d tb_M20 164 [(5, vi (imi (t37 105 3) (prm t37 z37))), (4, vi z37), (3, vi (kkd t)), (2, vi y2), (0, .ref 131), (1, .ref C)] [vi z37, .ref 131] s39 _
            refine pr_n (pc2 := 168) (lv2 := [(5, vi (imi (t37 105 3) (prm t37 z37))), (4, vi z37), (3, vi (kkd t)), (2, vi y2), (0, .ref 131), (1, .ref C)]) (st2 := [vi (imi (t37 105 3) (prm t37 z37)), vi 0, .ref 131, vi z37, .ref 131]) 3 (fun _ _ => rfl) ?_
            refine pr_m1 (args := [vi 0, vi (imi (t37 105 3) (prm t37 z37))]) (rest := [vi z37, .ref 131]) rfl rfl rfl rfl (Nat.le_of_ble_eq_true rfl) rfl (h_53 s39 t37 0 (imi (t37 105 3) (prm t37 z37)) hE39 (i32_n rfl) h40) ?_
            rintro _ z41 t41 s41 ⟨rfl, hz41⟩ hE41
            show pr N2 K d tb_M20 171 [(5, vi (imi (t37 105 3) (prm t37 z37))), (4, vi z37), (3, vi (kkd t)), (2, vi y2), (0, .ref 131), (1, .ref C)] [vi z41, vi z37, .ref 131] s41 _
            refine pr_m1 (args := [vi z37, vi z41]) (rest := []) rfl rfl rfl rfl (Nat.le_of_ble_eq_true rfl) rfl (h_74 s41 t41 z37 z41 hE41 hz37 hz41) ?_
            rintro _ _ t42 s42 ⟨rfl, rfl⟩ hE42
            show pr N2 K d tb_M20 174 [(5, vi (imi (t37 105 3) (prm t37 z37))), (4, vi z37), (3, vi (kkd t)), (2, vi y2), (0, .ref 131), (1, .ref C)] [] s42 _
            refine pr_n (pc2 := 182) (lv2 := [(5, vi (imi (t37 105 3) (prm t37 z37))), (4, vi z37), (3, vi (kkd t)), (2, vi y2), (0, .ref 131), (1, .ref C)]) (st2 := []) 1 (fun _ _ => rfl) ?_
            refine pr_inc (a := y2) rfl rfl ?_
            have h43 : i32 (y2 + 1) := by unfold i32 at *; omega
            show pr N2 K d tb_M20 185 [(2, vi (y2 + 1)), (5, vi (imi (t37 105 3) (prm t37 z37))), (4, vi z37), (3, vi (kkd t)), (0, .ref 131), (1, .ref C)] [] s42 _
            refine pr_n (pc2 := 42) (lv2 := [(2, vi (y2 + 1)), (5, vi (imi (t37 105 3) (prm t37 z37))), (4, vi z37), (3, vi (kkd t)), (0, .ref 131), (1, .ref C)]) (st2 := []) 1 (fun _ _ => rfl) ?_
            exact ((ih N2 hN2).2.1) s42 t42 (y2 + 1) (imi (t37 105 3) (prm t37 z37)) z37 (kkd t) hE42 h43 h40 hz37 hz33
          · refine mq_f h36 ?_
            refine pr_if2f rfl rfl hz33 (i32_n rfl) h36 ?_
            refine pr_n (pc2 := 118) (lv2 := [(3, vi (kkd t)), (2, vi y2), (0, .ref 131), (1, .ref C)]) (st2 := [vi 6, .ref 131]) 2 (fun _ _ => rfl) ?_
            refine pr_m1 (args := [vi 6]) (rest := []) rfl rfl rfl rfl (Nat.le_of_ble_eq_true rfl) rfl (h_36 s34 ((stp t)) 6 hE34 (i32_n rfl)) ?_
            rintro _ z44 t44 s44 ⟨rfl, hz44⟩ hE44
            show pr N2 K d tb_M20 121 [(3, vi (kkd t)), (2, vi y2), (0, .ref 131), (1, .ref C)] [vi z44] s44 _
            refine pr_n (pc2 := 124) (lv2 := [(4, vi z44), (3, vi (kkd t)), (2, vi y2), (0, .ref 131), (1, .ref C)]) (st2 := [.ref 131]) 2 (fun _ _ => rfl) ?_
            refine pr_get (v := .ref C) rfl rfl rfl (by decide) (rv_ref (show s44.1 131 1 = ((C : Nat) : Int) from hE44.2.2.1)) fun _ => ?_
            refine pr_get (v := .ref (C + 6)) rfl rfl (TK0 hC) (by decide) (rv_ref (hE44.2.1 C 5 (C + 6) (rcK hC (by omega)))) fun _ => ?_
            refine pr_gE (k2 := 105) (v := vi (t44 105 3)) hE44 rfl rfl (TK6 hC) (by decide) rfl rfl rfl fun h45 => ?_
            have h45 : i32 (t44 105 3) := h45
            refine pr_n (pc2 := 134) (lv2 := [(4, vi z44), (3, vi (kkd t)), (2, vi y2), (0, .ref 131), (1, .ref C)]) (st2 := [.ref 131, vi (t44 105 3)]) 1 (fun _ _ => rfl) ?_
            refine pr_get (v := .ref C) rfl rfl rfl (by decide) (rv_ref (show s44.1 131 1 = ((C : Nat) : Int) from hE44.2.2.1)) fun _ => ?_
            refine pr_n (pc2 := 139) (lv2 := [(4, vi z44), (3, vi (kkd t)), (2, vi y2), (0, .ref 131), (1, .ref C)]) (st2 := [vi z44, .ref C, vi (t44 105 3)]) 1 (fun _ _ => rfl) ?_
            refine pr_s1 (args := [vi z44]) (rest := [vi (t44 105 3)]) rfl rfl rfl (TK0 hC) (Nat.le_of_ble_eq_true rfl) rfl (h_48 s44 t44 z44 hE44 hz44) s_prm ?_
            rintro _ s46 ⟨rfl, hz46⟩ hE46
            show pr N2 K d tb_M20 142 [(4, vi z44), (3, vi (kkd t)), (2, vi y2), (0, .ref 131), (1, .ref C)] [vi (prm t44 z44), vi (t44 105 3)] s46 _
            refine pr_i2 (a := t44 105 3) (b := prm t44 z44) rfl rfl ?_
            show pr N2 K d tb_M20 143 [(4, vi z44), (3, vi (kkd t)), (2, vi y2), (0, .ref 131), (1, .ref C)] [vi (imi (t44 105 3) (prm t44 z44))] s46 _
            have h47 : i32 (imi (t44 105 3) (prm t44 z44)) := i32_in _
            refine pr_n (pc2 := 152) (lv2 := [(5, vi (imi (t44 105 3) (prm t44 z44))), (4, vi z44), (3, vi (kkd t)), (2, vi y2), (0, .ref 131), (1, .ref C)]) (st2 := [vi 307, vi (kkd t), vi z44, .ref 131]) 5 (fun _ _ => rfl) ?_
            refine pr_if2f rfl rfl hz33 (i32_n rfl) (show ¬ (kkd t ≠ 307) by omega) ?_
            show pr N2 K d tb_M20 155 [(5, vi (imi (t44 105 3) (prm t44 z44))), (4, vi z44), (3, vi (kkd t)), (2, vi y2), (0, .ref 131), (1, .ref C)] [vi z44, .ref 131] s46 _
            refine pr_n (pc2 := 158) (lv2 := [(5, vi (imi (t44 105 3) (prm t44 z44))), (4, vi z44), (3, vi (kkd t)), (2, vi y2), (0, .ref 131), (1, .ref C)]) (st2 := [vi (imi (t44 105 3) (prm t44 z44)), .ref 131, vi z44, .ref 131]) 2 (fun _ _ => rfl) ?_
            refine pr_m1 (args := [vi (imi (t44 105 3) (prm t44 z44))]) (rest := [vi z44, .ref 131]) rfl rfl rfl rfl (Nat.le_of_ble_eq_true rfl) rfl (h_49 s46 t44 (imi (t44 105 3) (prm t44 z44)) hE46 h47) ?_
            rintro _ z48 t48 s48 ⟨rfl, hz48⟩ hE48
            show pr N2 K d tb_M20 161 [(5, vi (imi (t44 105 3) (prm t44 z44))), (4, vi z44), (3, vi (kkd t)), (2, vi y2), (0, .ref 131), (1, .ref C)] [vi z48, vi z44, .ref 131] s48 _
            refine pr_n (pc2 := 171) (lv2 := [(5, vi (imi (t44 105 3) (prm t44 z44))), (4, vi z44), (3, vi (kkd t)), (2, vi y2), (0, .ref 131), (1, .ref C)]) (st2 := [vi z48, vi z44, .ref 131]) 1 (fun _ _ => rfl) ?_
            refine pr_m1 (args := [vi z44, vi z48]) (rest := []) rfl rfl rfl rfl (Nat.le_of_ble_eq_true rfl) rfl (h_74 s48 t48 z44 z48 hE48 hz44 hz48) ?_
            rintro _ _ t49 s49 ⟨rfl, rfl⟩ hE49
            show pr N2 K d tb_M20 174 [(5, vi (imi (t44 105 3) (prm t44 z44))), (4, vi z44), (3, vi (kkd t)), (2, vi y2), (0, .ref 131), (1, .ref C)] [] s49 _
            refine pr_n (pc2 := 182) (lv2 := [(5, vi (imi (t44 105 3) (prm t44 z44))), (4, vi z44), (3, vi (kkd t)), (2, vi y2), (0, .ref 131), (1, .ref C)]) (st2 := []) 1 (fun _ _ => rfl) ?_
            refine pr_inc (a := y2) rfl rfl ?_
            have h50 : i32 (y2 + 1) := by unfold i32 at *; omega
            show pr N2 K d tb_M20 185 [(2, vi (y2 + 1)), (5, vi (imi (t44 105 3) (prm t44 z44))), (4, vi z44), (3, vi (kkd t)), (0, .ref 131), (1, .ref C)] [] s49 _
            refine pr_n (pc2 := 42) (lv2 := [(2, vi (y2 + 1)), (5, vi (imi (t44 105 3) (prm t44 z44))), (4, vi z44), (3, vi (kkd t)), (0, .ref 131), (1, .ref C)]) (st2 := []) 1 (fun _ _ => rfl) ?_
            exact ((ih N2 hN2).2.1) s49 t49 (y2 + 1) (imi (t44 105 3) (prm t44 z44)) z44 (kkd t) hE49 h50 h47 hz44 hz33
        · refine mq_f h35 ?_
          refine pr_if2f rfl rfl hz33 (i32_n rfl) h35 ?_
          refine pr_n (pc2 := 101) (lv2 := [(3, vi (kkd t)), (2, vi y2), (0, .ref 131), (1, .ref C)]) (st2 := [vi 307, vi (kkd t)]) 2 (fun _ _ => rfl) ?_
          by_cases h51 : kkd t ≠ 307
          · refine mq_t h51 ?_
            refine pr_if2t rfl rfl hz33 (i32_n rfl) h51 ?_
            refine pr_n (pc2 := 179) (lv2 := [(3, vi (kkd t)), (2, vi y2), (0, .ref 131), (1, .ref C)]) (st2 := [vi (kkd t), .ref 131]) 2 (fun _ _ => rfl) ?_
            refine pr_m1 (args := [vi (kkd t)]) (rest := []) rfl rfl rfl rfl (Nat.le_of_ble_eq_true rfl) rfl (h_75 s34 ((stp t)) (kkd t) hE34 hz33) ?_
            rintro _ _ t52 s52 ⟨rfl, rfl⟩ hE52
            show pr N2 K d tb_M20 182 [(3, vi (kkd t)), (2, vi y2), (0, .ref 131), (1, .ref C)] [] s52 _
            refine pr_inc (a := y2) rfl rfl ?_
            have h53 : i32 (y2 + 1) := by unfold i32 at *; omega
            show pr N2 K d tb_M20 185 [(2, vi (y2 + 1)), (3, vi (kkd t)), (0, .ref 131), (1, .ref C)] [] s52 _
            refine pr_n (pc2 := 42) (lv2 := [(2, vi (y2 + 1)), (3, vi (kkd t)), (0, .ref 131), (1, .ref C)]) (st2 := []) 1 (fun _ _ => rfl) ?_
            exact ((ih N2 hN2).2.2.1) s52 t52 (y2 + 1) (kkd t) hE52 h53 hz33
          · refine mq_f h51 ?_
            refine pr_if2f rfl rfl hz33 (i32_n rfl) h51 ?_
            refine pr_n (pc2 := 109) (lv2 := [(3, vi (kkd t)), (2, vi y2), (0, .ref 131), (1, .ref C)]) (st2 := [vi 307, vi (kkd t), .ref 131]) 3 (fun _ _ => rfl) ?_
            refine pr_if2f rfl rfl hz33 (i32_n rfl) (show ¬ (kkd t ≠ 307) by omega) ?_
            show pr N2 K d tb_M20 112 [(3, vi (kkd t)), (2, vi y2), (0, .ref 131), (1, .ref C)] [.ref 131] s34 _
            refine pr_n (pc2 := 118) (lv2 := [(3, vi (kkd t)), (2, vi y2), (0, .ref 131), (1, .ref C)]) (st2 := [vi 6, .ref 131]) 2 (fun _ _ => rfl) ?_
            refine pr_m1 (args := [vi 6]) (rest := []) rfl rfl rfl rfl (Nat.le_of_ble_eq_true rfl) rfl (h_36 s34 ((stp t)) 6 hE34 (i32_n rfl)) ?_
            rintro _ z54 t54 s54 ⟨rfl, hz54⟩ hE54
            show pr N2 K d tb_M20 121 [(3, vi (kkd t)), (2, vi y2), (0, .ref 131), (1, .ref C)] [vi z54] s54 _
            refine pr_n (pc2 := 124) (lv2 := [(4, vi z54), (3, vi (kkd t)), (2, vi y2), (0, .ref 131), (1, .ref C)]) (st2 := [.ref 131]) 2 (fun _ _ => rfl) ?_
            refine pr_get (v := .ref C) rfl rfl rfl (by decide) (rv_ref (show s54.1 131 1 = ((C : Nat) : Int) from hE54.2.2.1)) fun _ => ?_
            refine pr_get (v := .ref (C + 6)) rfl rfl (TK0 hC) (by decide) (rv_ref (hE54.2.1 C 5 (C + 6) (rcK hC (by omega)))) fun _ => ?_
            refine pr_gE (k2 := 105) (v := vi (t54 105 3)) hE54 rfl rfl (TK6 hC) (by decide) rfl rfl rfl fun h55 => ?_
            have h55 : i32 (t54 105 3) := h55
            refine pr_n (pc2 := 134) (lv2 := [(4, vi z54), (3, vi (kkd t)), (2, vi y2), (0, .ref 131), (1, .ref C)]) (st2 := [.ref 131, vi (t54 105 3)]) 1 (fun _ _ => rfl) ?_
            refine pr_get (v := .ref C) rfl rfl rfl (by decide) (rv_ref (show s54.1 131 1 = ((C : Nat) : Int) from hE54.2.2.1)) fun _ => ?_
            refine pr_n (pc2 := 139) (lv2 := [(4, vi z54), (3, vi (kkd t)), (2, vi y2), (0, .ref 131), (1, .ref C)]) (st2 := [vi z54, .ref C, vi (t54 105 3)]) 1 (fun _ _ => rfl) ?_
            refine pr_s1 (args := [vi z54]) (rest := [vi (t54 105 3)]) rfl rfl rfl (TK0 hC) (Nat.le_of_ble_eq_true rfl) rfl (h_48 s54 t54 z54 hE54 hz54) s_prm ?_
            rintro _ s56 ⟨rfl, hz56⟩ hE56
            show pr N2 K d tb_M20 142 [(4, vi z54), (3, vi (kkd t)), (2, vi y2), (0, .ref 131), (1, .ref C)] [vi (prm t54 z54), vi (t54 105 3)] s56 _
            refine pr_i2 (a := t54 105 3) (b := prm t54 z54) rfl rfl ?_
            show pr N2 K d tb_M20 143 [(4, vi z54), (3, vi (kkd t)), (2, vi y2), (0, .ref 131), (1, .ref C)] [vi (imi (t54 105 3) (prm t54 z54))] s56 _
            have h57 : i32 (imi (t54 105 3) (prm t54 z54)) := i32_in _
            refine pr_n (pc2 := 152) (lv2 := [(5, vi (imi (t54 105 3) (prm t54 z54))), (4, vi z54), (3, vi (kkd t)), (2, vi y2), (0, .ref 131), (1, .ref C)]) (st2 := [vi 307, vi (kkd t), vi z54, .ref 131]) 5 (fun _ _ => rfl) ?_
            refine pr_if2f rfl rfl hz33 (i32_n rfl) (show ¬ (kkd t ≠ 307) by omega) ?_
            show pr N2 K d tb_M20 155 [(5, vi (imi (t54 105 3) (prm t54 z54))), (4, vi z54), (3, vi (kkd t)), (2, vi y2), (0, .ref 131), (1, .ref C)] [vi z54, .ref 131] s56 _
            refine pr_n (pc2 := 158) (lv2 := [(5, vi (imi (t54 105 3) (prm t54 z54))), (4, vi z54), (3, vi (kkd t)), (2, vi y2), (0, .ref 131), (1, .ref C)]) (st2 := [vi (imi (t54 105 3) (prm t54 z54)), .ref 131, vi z54, .ref 131]) 2 (fun _ _ => rfl) ?_
            refine pr_m1 (args := [vi (imi (t54 105 3) (prm t54 z54))]) (rest := [vi z54, .ref 131]) rfl rfl rfl rfl (Nat.le_of_ble_eq_true rfl) rfl (h_49 s56 t54 (imi (t54 105 3) (prm t54 z54)) hE56 h57) ?_
            rintro _ z58 t58 s58 ⟨rfl, hz58⟩ hE58
            show pr N2 K d tb_M20 161 [(5, vi (imi (t54 105 3) (prm t54 z54))), (4, vi z54), (3, vi (kkd t)), (2, vi y2), (0, .ref 131), (1, .ref C)] [vi z58, vi z54, .ref 131] s58 _
            refine pr_n (pc2 := 171) (lv2 := [(5, vi (imi (t54 105 3) (prm t54 z54))), (4, vi z54), (3, vi (kkd t)), (2, vi y2), (0, .ref 131), (1, .ref C)]) (st2 := [vi z58, vi z54, .ref 131]) 1 (fun _ _ => rfl) ?_
            refine pr_m1 (args := [vi z54, vi z58]) (rest := []) rfl rfl rfl rfl (Nat.le_of_ble_eq_true rfl) rfl (h_74 s58 t58 z54 z58 hE58 hz54 hz58) ?_
            rintro _ _ t59 s59 ⟨rfl, rfl⟩ hE59
            show pr N2 K d tb_M20 174 [(5, vi (imi (t54 105 3) (prm t54 z54))), (4, vi z54), (3, vi (kkd t)), (2, vi y2), (0, .ref 131), (1, .ref C)] [] s59 _
            refine pr_n (pc2 := 182) (lv2 := [(5, vi (imi (t54 105 3) (prm t54 z54))), (4, vi z54), (3, vi (kkd t)), (2, vi y2), (0, .ref 131), (1, .ref C)]) (st2 := []) 1 (fun _ _ => rfl) ?_
            refine pr_inc (a := y2) rfl rfl ?_
            have h60 : i32 (y2 + 1) := by unfold i32 at *; omega
            show pr N2 K d tb_M20 185 [(2, vi (y2 + 1)), (5, vi (imi (t54 105 3) (prm t54 z54))), (4, vi z54), (3, vi (kkd t)), (0, .ref 131), (1, .ref C)] [] s59 _
            refine pr_n (pc2 := 42) (lv2 := [(2, vi (y2 + 1)), (5, vi (imi (t54 105 3) (prm t54 z54))), (4, vi z54), (3, vi (kkd t)), (0, .ref 131), (1, .ref C)]) (st2 := []) 1 (fun _ _ => rfl) ?_
            exact ((ih N2 hN2).2.1) s59 t59 (y2 + 1) (imi (t54 105 3) (prm t54 z54)) z54 (kkd t) hE59 h60 h57 hz54 hz33
set_option maxHeartbeats 20000000 in
set_option maxRecDepth 100000 in
theorem cu20_3 {N K d C : Nat} (h_21 : cT21 K d C) (h_24 : cT24 K d C) (h_34 : cT34 K d C) (h_35 : cT35 K d C) (h_36 : cT36 K d C) (h_40 : cT40 K d C) (h_41 : cT41 K d C) (h_48 : cT48 K d C) (h_49 : cT49 K d C) (h_53 : cT53 K d C) (h_74 : cT74 K d C) (h_75 : cT75 K d C) (ih : ∀ N2, N2 < N → cA20 N2 K d C) : cU20_3 N K d C := by
  intro s t y2 y3 y5 y4 hE hy2 hy3 hy5 hy4
  have hC : C = 99 ∨ C = 115 := hE.1
  rw [cG_20_42]
  unfold cM20_42
  refine pr_lt (pc2 := 43) (lv2 := [(2, vi y2), (3, vi y3), (5, vi y5), (4, vi y4), (0, .ref 131), (1, .ref C)]) (st2 := [vi y2]) (fun _ _ => rfl) fun N2 hN2 => ?_
  refine pr_n (pc2 := 46) (lv2 := [(2, vi y2), (3, vi y3), (5, vi y5), (4, vi y4), (0, .ref 131), (1, .ref C)]) (st2 := [vi 2000, vi y2]) 1 (fun _ _ => rfl) ?_
  by_cases h1 : 2000 ≤ y2
  · refine mq_t h1 ?_
    refine pr_if2t rfl rfl hy2 (i32_n rfl) h1 ?_
    refine pr_n (pc2 := 189) (lv2 := [(2, vi y2), (3, vi y3), (5, vi y5), (4, vi y4), (0, .ref 131), (1, .ref C)]) (st2 := [.ref 131]) 1 (fun _ _ => rfl) ?_
    refine pr_get (v := .ref C) rfl rfl rfl (by decide) (rv_ref (show s.1 131 1 = ((C : Nat) : Int) from hE.2.2.1)) fun _ => ?_
    refine pr_n (pc2 := 195) (lv2 := [(2, vi y2), (3, vi y3), (5, vi y5), (4, vi y4), (0, .ref 131), (1, .ref C)]) (st2 := [.ref 131, vi 0, .ref 131, .ref C]) 3 (fun _ _ => rfl) ?_
    refine pr_get (v := .ref C) rfl rfl rfl (by decide) (rv_ref (show s.1 131 1 = ((C : Nat) : Int) from hE.2.2.1)) fun _ => ?_
    refine pr_get (v := .ref (C + 6)) rfl rfl (TK0 hC) (by decide) (rv_ref (hE.2.1 C 5 (C + 6) (rcK hC (by omega)))) fun _ => ?_
    refine pr_gE (k2 := 105) (v := vi (t 105 3)) hE rfl rfl (TK6 hC) (by decide) rfl rfl rfl fun h2 => ?_
    have h2 : i32 (t 105 3) := h2
    refine pr_m1 (args := [vi 0, vi (t 105 3)]) (rest := [.ref C]) rfl rfl rfl rfl (Nat.le_of_ble_eq_true rfl) rfl (h_53 s t 0 (t 105 3) hE (i32_n rfl) h2) ?_
    rintro _ z3 t3 s3 ⟨rfl, hz3⟩ hE3
    show pr N2 K d tb_M20 207 [(2, vi y2), (3, vi y3), (5, vi y5), (4, vi y4), (0, .ref 131), (1, .ref C)] [vi z3, .ref C] s3 _
    refine pr_pE (k2 := 99) (z := z3) hE3 rfl rfl rfl rfl (show 96 ≤ C by omega) (TK0 hC) (by decide) rfl (show i32 (z3) from hz3) (hf_int' _) (nK (a := 0) hC (by omega)) rfl rfl (fun e => absurd e.1 (show ¬ (C = 131) by omega)) (iv_c (by decide)) fun s4 hE4 => ?_
    refine pr_n (pc2 := 212) (lv2 := [(2, vi y2), (3, vi y3), (5, vi y5), (4, vi y4), (0, .ref 131), (1, .ref C)]) (st2 := [.ref 131, .ref 131]) 2 (fun _ _ => rfl) ?_
    refine pr_get (v := .ref 137) rfl rfl rfl (by decide) (rv_ref (hE4.2.1 131 0 137 rfl)) fun _ => ?_
    refine pr_s1 (args := []) (rest := [.ref 131]) rfl rfl rfl rfl (Nat.le_of_ble_eq_true rfl) rfl (h_34 s4 (up2 t3 99 13 z3)  hE4 ) s_kkd ?_
    rintro _ s5 ⟨rfl, hz5⟩ hE5
    show pr N2 K d tb_M20 218 [(2, vi y2), (3, vi y3), (5, vi y5), (4, vi y4), (0, .ref 131), (1, .ref C)] [vi (kkd (up2 t3 99 13 z3)), .ref 131] s5 _
    refine pr_n (pc2 := 219) (lv2 := [(2, vi y2), (3, vi y3), (5, vi y5), (4, vi y4), (0, .ref 131), (1, .ref C)]) (st2 := [vi 3, vi (kkd (up2 t3 99 13 z3)), .ref 131]) 1 (fun _ _ => rfl) ?_
    by_cases h6 : kkd (up2 t3 99 13 z3) ≠ 3
    · refine mq_t h6 ?_
      refine pr_if2t rfl rfl hz5 (i32_n rfl) h6 ?_
      refine pr_n (pc2 := 228) (lv2 := [(2, vi y2), (3, vi y3), (5, vi y5), (4, vi y4), (0, .ref 131), (1, .ref C)]) (st2 := [.ref 131, vi 0, .ref 131]) 2 (fun _ _ => rfl) ?_
      refine pr_get (v := .ref 137) rfl rfl rfl (by decide) (rv_ref (hE5.2.1 131 0 137 rfl)) fun _ => ?_
      refine pr_s1 (args := []) (rest := [vi 0, .ref 131]) rfl rfl rfl rfl (Nat.le_of_ble_eq_true rfl) rfl (h_40 s5 (up2 t3 99 13 z3)  hE5 ) s_plc ?_
      rintro _ s7 ⟨rfl, hz7⟩ hE7
      show pr N2 K d tb_M20 234 [(2, vi y2), (3, vi y3), (5, vi y5), (4, vi y4), (0, .ref 131), (1, .ref C)] [vi (plc (up2 t3 99 13 z3)), vi 0, .ref 131] s7 _
      exact pr_c1 (args := [vi 0, vi (plc (up2 t3 99 13 z3))]) (rest := []) rfl rfl rfl rfl (Nat.le_of_ble_eq_true rfl) rfl (h_41 s7 (up2 t3 99 13 z3) 0 (plc (up2 t3 99 13 z3)) hE7 (by decide) hz7) chk0
    · refine mq_f h6 ?_
      refine pr_if2f rfl rfl hz5 (i32_n rfl) h6 ?_
      refine pr_n (pc2 := 228) (lv2 := [(2, vi y2), (3, vi y3), (5, vi y5), (4, vi y4), (0, .ref 131), (1, .ref C)]) (st2 := [.ref 131, vi 1, .ref 131]) 3 (fun _ _ => rfl) ?_
      refine pr_get (v := .ref 137) rfl rfl rfl (by decide) (rv_ref (hE5.2.1 131 0 137 rfl)) fun _ => ?_
      refine pr_s1 (args := []) (rest := [vi 1, .ref 131]) rfl rfl rfl rfl (Nat.le_of_ble_eq_true rfl) rfl (h_40 s5 (up2 t3 99 13 z3)  hE5 ) s_plc ?_
      rintro _ s9 ⟨rfl, hz9⟩ hE9
      show pr N2 K d tb_M20 234 [(2, vi y2), (3, vi y3), (5, vi y5), (4, vi y4), (0, .ref 131), (1, .ref C)] [vi (plc (up2 t3 99 13 z3)), vi 1, .ref 131] s9 _
      refine pr_s1 (args := [vi 1, vi (plc (up2 t3 99 13 z3))]) (rest := []) rfl rfl rfl rfl (Nat.le_of_ble_eq_true rfl) rfl (h_41 s9 (up2 t3 99 13 z3) 1 (plc (up2 t3 99 13 z3)) hE9 (by decide) hz9) chk1 ?_
      rintro _ s10 ⟨rfl, _⟩ hE10
      show pr N2 K d tb_M20 237 [(2, vi y2), (3, vi y3), (5, vi y5), (4, vi y4), (0, .ref 131), (1, .ref C)] [] s10 _
      refine pr_end (fun _ _ => rfl) ?_
      exact .inl ⟨_, 0, _, rfl, ⟨rfl, rfl⟩, rfl, hE10⟩
  · refine mq_f h1 ?_
    refine pr_if2f rfl rfl hy2 (i32_n rfl) h1 ?_
    refine pr_n (pc2 := 50) (lv2 := [(2, vi y2), (3, vi y3), (5, vi y5), (4, vi y4), (0, .ref 131), (1, .ref C)]) (st2 := [.ref 131]) 1 (fun _ _ => rfl) ?_
    refine pr_get (v := .ref 137) rfl rfl rfl (by decide) (rv_ref (hE.2.1 131 0 137 rfl)) fun _ => ?_
    refine pr_s1 (args := []) (rest := []) rfl rfl rfl rfl (Nat.le_of_ble_eq_true rfl) rfl (h_34 s t  hE ) s_kkd ?_
    rintro _ s11 ⟨rfl, hz11⟩ hE11
    show pr N2 K d tb_M20 56 [(2, vi y2), (3, vi y3), (5, vi y5), (4, vi y4), (0, .ref 131), (1, .ref C)] [vi (kkd t)] s11 _
    refine pr_n (pc2 := 59) (lv2 := [(2, vi y2), (3, vi y3), (5, vi y5), (4, vi y4), (0, .ref 131), (1, .ref C)]) (st2 := [vi 300, vi (kkd t)]) 1 (fun _ _ => rfl) ?_
    by_cases h12 : kkd t < 300
    · refine mq_t h12 ?_
      refine pr_if2t rfl rfl hz11 (i32_n rfl) h12 ?_
      refine pr_n (pc2 := 189) (lv2 := [(2, vi y2), (3, vi y3), (5, vi y5), (4, vi y4), (0, .ref 131), (1, .ref C)]) (st2 := [.ref 131]) 1 (fun _ _ => rfl) ?_
      refine pr_get (v := .ref C) rfl rfl rfl (by decide) (rv_ref (show s11.1 131 1 = ((C : Nat) : Int) from hE11.2.2.1)) fun _ => ?_
      refine pr_n (pc2 := 195) (lv2 := [(2, vi y2), (3, vi y3), (5, vi y5), (4, vi y4), (0, .ref 131), (1, .ref C)]) (st2 := [.ref 131, vi 0, .ref 131, .ref C]) 3 (fun _ _ => rfl) ?_
      refine pr_get (v := .ref C) rfl rfl rfl (by decide) (rv_ref (show s11.1 131 1 = ((C : Nat) : Int) from hE11.2.2.1)) fun _ => ?_
      refine pr_get (v := .ref (C + 6)) rfl rfl (TK0 hC) (by decide) (rv_ref (hE11.2.1 C 5 (C + 6) (rcK hC (by omega)))) fun _ => ?_
      refine pr_gE (k2 := 105) (v := vi (t 105 3)) hE11 rfl rfl (TK6 hC) (by decide) rfl rfl rfl fun h13 => ?_
      have h13 : i32 (t 105 3) := h13
      refine pr_m1 (args := [vi 0, vi (t 105 3)]) (rest := [.ref C]) rfl rfl rfl rfl (Nat.le_of_ble_eq_true rfl) rfl (h_53 s11 t 0 (t 105 3) hE11 (i32_n rfl) h13) ?_
      rintro _ z14 t14 s14 ⟨rfl, hz14⟩ hE14
      show pr N2 K d tb_M20 207 [(2, vi y2), (3, vi y3), (5, vi y5), (4, vi y4), (0, .ref 131), (1, .ref C)] [vi z14, .ref C] s14 _
      refine pr_pE (k2 := 99) (z := z14) hE14 rfl rfl rfl rfl (show 96 ≤ C by omega) (TK0 hC) (by decide) rfl (show i32 (z14) from hz14) (hf_int' _) (nK (a := 0) hC (by omega)) rfl rfl (fun e => absurd e.1 (show ¬ (C = 131) by omega)) (iv_c (by decide)) fun s15 hE15 => ?_
      refine pr_n (pc2 := 212) (lv2 := [(2, vi y2), (3, vi y3), (5, vi y5), (4, vi y4), (0, .ref 131), (1, .ref C)]) (st2 := [.ref 131, .ref 131]) 2 (fun _ _ => rfl) ?_
      refine pr_get (v := .ref 137) rfl rfl rfl (by decide) (rv_ref (hE15.2.1 131 0 137 rfl)) fun _ => ?_
      refine pr_s1 (args := []) (rest := [.ref 131]) rfl rfl rfl rfl (Nat.le_of_ble_eq_true rfl) rfl (h_34 s15 (up2 t14 99 13 z14)  hE15 ) s_kkd ?_
      rintro _ s16 ⟨rfl, hz16⟩ hE16
      show pr N2 K d tb_M20 218 [(2, vi y2), (3, vi y3), (5, vi y5), (4, vi y4), (0, .ref 131), (1, .ref C)] [vi (kkd (up2 t14 99 13 z14)), .ref 131] s16 _
      refine pr_n (pc2 := 219) (lv2 := [(2, vi y2), (3, vi y3), (5, vi y5), (4, vi y4), (0, .ref 131), (1, .ref C)]) (st2 := [vi 3, vi (kkd (up2 t14 99 13 z14)), .ref 131]) 1 (fun _ _ => rfl) ?_
      by_cases h17 : kkd (up2 t14 99 13 z14) ≠ 3
      · refine mq_t h17 ?_
        refine pr_if2t rfl rfl hz16 (i32_n rfl) h17 ?_
        refine pr_n (pc2 := 228) (lv2 := [(2, vi y2), (3, vi y3), (5, vi y5), (4, vi y4), (0, .ref 131), (1, .ref C)]) (st2 := [.ref 131, vi 0, .ref 131]) 2 (fun _ _ => rfl) ?_
        refine pr_get (v := .ref 137) rfl rfl rfl (by decide) (rv_ref (hE16.2.1 131 0 137 rfl)) fun _ => ?_
        refine pr_s1 (args := []) (rest := [vi 0, .ref 131]) rfl rfl rfl rfl (Nat.le_of_ble_eq_true rfl) rfl (h_40 s16 (up2 t14 99 13 z14)  hE16 ) s_plc ?_
        rintro _ s18 ⟨rfl, hz18⟩ hE18
        show pr N2 K d tb_M20 234 [(2, vi y2), (3, vi y3), (5, vi y5), (4, vi y4), (0, .ref 131), (1, .ref C)] [vi (plc (up2 t14 99 13 z14)), vi 0, .ref 131] s18 _
        exact pr_c1 (args := [vi 0, vi (plc (up2 t14 99 13 z14))]) (rest := []) rfl rfl rfl rfl (Nat.le_of_ble_eq_true rfl) rfl (h_41 s18 (up2 t14 99 13 z14) 0 (plc (up2 t14 99 13 z14)) hE18 (by decide) hz18) chk0
      · refine mq_f h17 ?_
        refine pr_if2f rfl rfl hz16 (i32_n rfl) h17 ?_
        refine pr_n (pc2 := 228) (lv2 := [(2, vi y2), (3, vi y3), (5, vi y5), (4, vi y4), (0, .ref 131), (1, .ref C)]) (st2 := [.ref 131, vi 1, .ref 131]) 3 (fun _ _ => rfl) ?_
        refine pr_get (v := .ref 137) rfl rfl rfl (by decide) (rv_ref (hE16.2.1 131 0 137 rfl)) fun _ => ?_
        refine pr_s1 (args := []) (rest := [vi 1, .ref 131]) rfl rfl rfl rfl (Nat.le_of_ble_eq_true rfl) rfl (h_40 s16 (up2 t14 99 13 z14)  hE16 ) s_plc ?_
        rintro _ s20 ⟨rfl, hz20⟩ hE20
        show pr N2 K d tb_M20 234 [(2, vi y2), (3, vi y3), (5, vi y5), (4, vi y4), (0, .ref 131), (1, .ref C)] [vi (plc (up2 t14 99 13 z14)), vi 1, .ref 131] s20 _
        refine pr_s1 (args := [vi 1, vi (plc (up2 t14 99 13 z14))]) (rest := []) rfl rfl rfl rfl (Nat.le_of_ble_eq_true rfl) rfl (h_41 s20 (up2 t14 99 13 z14) 1 (plc (up2 t14 99 13 z14)) hE20 (by decide) hz20) chk1 ?_
        rintro _ s21 ⟨rfl, _⟩ hE21
        show pr N2 K d tb_M20 237 [(2, vi y2), (3, vi y3), (5, vi y5), (4, vi y4), (0, .ref 131), (1, .ref C)] [] s21 _
        refine pr_end (fun _ _ => rfl) ?_
        exact .inl ⟨_, 0, _, rfl, ⟨rfl, rfl⟩, rfl, hE21⟩
    · refine mq_f h12 ?_
      refine pr_if2f rfl rfl hz11 (i32_n rfl) h12 ?_
      refine pr_n (pc2 := 63) (lv2 := [(2, vi y2), (3, vi y3), (5, vi y5), (4, vi y4), (0, .ref 131), (1, .ref C)]) (st2 := [.ref 131]) 1 (fun _ _ => rfl) ?_
      refine pr_get (v := .ref 137) rfl rfl rfl (by decide) (rv_ref (hE11.2.1 131 0 137 rfl)) fun _ => ?_
      refine pr_s1 (args := []) (rest := []) rfl rfl rfl rfl (Nat.le_of_ble_eq_true rfl) rfl (h_34 s11 t  hE11 ) s_kkd ?_
      rintro _ s22 ⟨rfl, hz22⟩ hE22
      show pr N2 K d tb_M20 69 [(2, vi y2), (3, vi y3), (5, vi y5), (4, vi y4), (0, .ref 131), (1, .ref C)] [vi (kkd t)] s22 _
      refine pr_n (pc2 := 72) (lv2 := [(2, vi y2), (3, vi y3), (5, vi y5), (4, vi y4), (0, .ref 131), (1, .ref C)]) (st2 := [vi 307, vi (kkd t)]) 1 (fun _ _ => rfl) ?_
      by_cases h23 : 307 < kkd t
      · refine mq_t h23 ?_
        refine pr_if2t rfl rfl hz22 (i32_n rfl) h23 ?_
        refine pr_n (pc2 := 189) (lv2 := [(2, vi y2), (3, vi y3), (5, vi y5), (4, vi y4), (0, .ref 131), (1, .ref C)]) (st2 := [.ref 131]) 1 (fun _ _ => rfl) ?_
        refine pr_get (v := .ref C) rfl rfl rfl (by decide) (rv_ref (show s22.1 131 1 = ((C : Nat) : Int) from hE22.2.2.1)) fun _ => ?_
        refine pr_n (pc2 := 195) (lv2 := [(2, vi y2), (3, vi y3), (5, vi y5), (4, vi y4), (0, .ref 131), (1, .ref C)]) (st2 := [.ref 131, vi 0, .ref 131, .ref C]) 3 (fun _ _ => rfl) ?_
        refine pr_get (v := .ref C) rfl rfl rfl (by decide) (rv_ref (show s22.1 131 1 = ((C : Nat) : Int) from hE22.2.2.1)) fun _ => ?_
        refine pr_get (v := .ref (C + 6)) rfl rfl (TK0 hC) (by decide) (rv_ref (hE22.2.1 C 5 (C + 6) (rcK hC (by omega)))) fun _ => ?_
        refine pr_gE (k2 := 105) (v := vi (t 105 3)) hE22 rfl rfl (TK6 hC) (by decide) rfl rfl rfl fun h24 => ?_
        have h24 : i32 (t 105 3) := h24
        refine pr_m1 (args := [vi 0, vi (t 105 3)]) (rest := [.ref C]) rfl rfl rfl rfl (Nat.le_of_ble_eq_true rfl) rfl (h_53 s22 t 0 (t 105 3) hE22 (i32_n rfl) h24) ?_
        rintro _ z25 t25 s25 ⟨rfl, hz25⟩ hE25
        show pr N2 K d tb_M20 207 [(2, vi y2), (3, vi y3), (5, vi y5), (4, vi y4), (0, .ref 131), (1, .ref C)] [vi z25, .ref C] s25 _
        refine pr_pE (k2 := 99) (z := z25) hE25 rfl rfl rfl rfl (show 96 ≤ C by omega) (TK0 hC) (by decide) rfl (show i32 (z25) from hz25) (hf_int' _) (nK (a := 0) hC (by omega)) rfl rfl (fun e => absurd e.1 (show ¬ (C = 131) by omega)) (iv_c (by decide)) fun s26 hE26 => ?_
        refine pr_n (pc2 := 212) (lv2 := [(2, vi y2), (3, vi y3), (5, vi y5), (4, vi y4), (0, .ref 131), (1, .ref C)]) (st2 := [.ref 131, .ref 131]) 2 (fun _ _ => rfl) ?_
        refine pr_get (v := .ref 137) rfl rfl rfl (by decide) (rv_ref (hE26.2.1 131 0 137 rfl)) fun _ => ?_
        refine pr_s1 (args := []) (rest := [.ref 131]) rfl rfl rfl rfl (Nat.le_of_ble_eq_true rfl) rfl (h_34 s26 (up2 t25 99 13 z25)  hE26 ) s_kkd ?_
        rintro _ s27 ⟨rfl, hz27⟩ hE27
        show pr N2 K d tb_M20 218 [(2, vi y2), (3, vi y3), (5, vi y5), (4, vi y4), (0, .ref 131), (1, .ref C)] [vi (kkd (up2 t25 99 13 z25)), .ref 131] s27 _
        refine pr_n (pc2 := 219) (lv2 := [(2, vi y2), (3, vi y3), (5, vi y5), (4, vi y4), (0, .ref 131), (1, .ref C)]) (st2 := [vi 3, vi (kkd (up2 t25 99 13 z25)), .ref 131]) 1 (fun _ _ => rfl) ?_
        by_cases h28 : kkd (up2 t25 99 13 z25) ≠ 3
        · refine mq_t h28 ?_
          refine pr_if2t rfl rfl hz27 (i32_n rfl) h28 ?_
          refine pr_n (pc2 := 228) (lv2 := [(2, vi y2), (3, vi y3), (5, vi y5), (4, vi y4), (0, .ref 131), (1, .ref C)]) (st2 := [.ref 131, vi 0, .ref 131]) 2 (fun _ _ => rfl) ?_
          refine pr_get (v := .ref 137) rfl rfl rfl (by decide) (rv_ref (hE27.2.1 131 0 137 rfl)) fun _ => ?_
          refine pr_s1 (args := []) (rest := [vi 0, .ref 131]) rfl rfl rfl rfl (Nat.le_of_ble_eq_true rfl) rfl (h_40 s27 (up2 t25 99 13 z25)  hE27 ) s_plc ?_
          rintro _ s29 ⟨rfl, hz29⟩ hE29
          show pr N2 K d tb_M20 234 [(2, vi y2), (3, vi y3), (5, vi y5), (4, vi y4), (0, .ref 131), (1, .ref C)] [vi (plc (up2 t25 99 13 z25)), vi 0, .ref 131] s29 _
          exact pr_c1 (args := [vi 0, vi (plc (up2 t25 99 13 z25))]) (rest := []) rfl rfl rfl rfl (Nat.le_of_ble_eq_true rfl) rfl (h_41 s29 (up2 t25 99 13 z25) 0 (plc (up2 t25 99 13 z25)) hE29 (by decide) hz29) chk0
        · refine mq_f h28 ?_
          refine pr_if2f rfl rfl hz27 (i32_n rfl) h28 ?_
          refine pr_n (pc2 := 228) (lv2 := [(2, vi y2), (3, vi y3), (5, vi y5), (4, vi y4), (0, .ref 131), (1, .ref C)]) (st2 := [.ref 131, vi 1, .ref 131]) 3 (fun _ _ => rfl) ?_
          refine pr_get (v := .ref 137) rfl rfl rfl (by decide) (rv_ref (hE27.2.1 131 0 137 rfl)) fun _ => ?_
          refine pr_s1 (args := []) (rest := [vi 1, .ref 131]) rfl rfl rfl rfl (Nat.le_of_ble_eq_true rfl) rfl (h_40 s27 (up2 t25 99 13 z25)  hE27 ) s_plc ?_
          rintro _ s31 ⟨rfl, hz31⟩ hE31
          show pr N2 K d tb_M20 234 [(2, vi y2), (3, vi y3), (5, vi y5), (4, vi y4), (0, .ref 131), (1, .ref C)] [vi (plc (up2 t25 99 13 z25)), vi 1, .ref 131] s31 _
          refine pr_s1 (args := [vi 1, vi (plc (up2 t25 99 13 z25))]) (rest := []) rfl rfl rfl rfl (Nat.le_of_ble_eq_true rfl) rfl (h_41 s31 (up2 t25 99 13 z25) 1 (plc (up2 t25 99 13 z25)) hE31 (by decide) hz31) chk1 ?_
          rintro _ s32 ⟨rfl, _⟩ hE32
          show pr N2 K d tb_M20 237 [(2, vi y2), (3, vi y3), (5, vi y5), (4, vi y4), (0, .ref 131), (1, .ref C)] [] s32 _
          refine pr_end (fun _ _ => rfl) ?_
          exact .inl ⟨_, 0, _, rfl, ⟨rfl, rfl⟩, rfl, hE32⟩
      · refine mq_f h23 ?_
        refine pr_if2f rfl rfl hz22 (i32_n rfl) h23 ?_
        refine pr_n (pc2 := 76) (lv2 := [(2, vi y2), (3, vi y3), (5, vi y5), (4, vi y4), (0, .ref 131), (1, .ref C)]) (st2 := [.ref 131]) 1 (fun _ _ => rfl) ?_
        refine pr_get (v := .ref 137) rfl rfl rfl (by decide) (rv_ref (hE22.2.1 131 0 137 rfl)) fun _ => ?_
        refine pr_s1 (args := []) (rest := []) rfl rfl rfl rfl (Nat.le_of_ble_eq_true rfl) rfl (h_34 s22 t  hE22 ) s_kkd ?_
        rintro _ s33 ⟨rfl, hz33⟩ hE33
        show pr N2 K d tb_M20 82 [(2, vi y2), (3, vi y3), (5, vi y5), (4, vi y4), (0, .ref 131), (1, .ref C)] [vi (kkd t)] s33 _
        refine pr_n (pc2 := 84) (lv2 := [(3, vi (kkd t)), (2, vi y2), (5, vi y5), (4, vi y4), (0, .ref 131), (1, .ref C)]) (st2 := [.ref 131]) 2 (fun _ _ => rfl) ?_
        refine pr_get (v := .ref 137) rfl rfl rfl (by decide) (rv_ref (hE33.2.1 131 0 137 rfl)) fun _ => ?_
        refine pr_s1 (args := []) (rest := []) rfl rfl rfl rfl (Nat.le_of_ble_eq_true rfl) rfl (h_35 s33 t  hE33 ) s_stp ?_
        rintro _ s34 ⟨rfl, _⟩ hE34
        show pr N2 K d tb_M20 90 [(3, vi (kkd t)), (2, vi y2), (5, vi y5), (4, vi y4), (0, .ref 131), (1, .ref C)] [] s34 _
        refine pr_n (pc2 := 94) (lv2 := [(3, vi (kkd t)), (2, vi y2), (5, vi y5), (4, vi y4), (0, .ref 131), (1, .ref C)]) (st2 := [vi 306, vi (kkd t)]) 2 (fun _ _ => rfl) ?_
        by_cases h35 : kkd t = 306
        · refine mq_t h35 ?_
          refine pr_if2t rfl rfl hz33 (i32_n rfl) h35 ?_
          refine pr_n (pc2 := 109) (lv2 := [(3, vi (kkd t)), (2, vi y2), (5, vi y5), (4, vi y4), (0, .ref 131), (1, .ref C)]) (st2 := [vi 307, vi (kkd t), .ref 131]) 3 (fun _ _ => rfl) ?_
          by_cases h36 : kkd t ≠ 307
          · refine mq_t h36 ?_
            refine pr_if2t rfl rfl hz33 (i32_n rfl) h36 ?_
            refine pr_n (pc2 := 118) (lv2 := [(3, vi (kkd t)), (2, vi y2), (5, vi y5), (4, vi y4), (0, .ref 131), (1, .ref C)]) (st2 := [vi 5, .ref 131]) 1 (fun _ _ => rfl) ?_
            refine pr_m1 (args := [vi 5]) (rest := []) rfl rfl rfl rfl (Nat.le_of_ble_eq_true rfl) rfl (h_36 s34 ((stp t)) 5 hE34 (i32_n rfl)) ?_
            rintro _ z37 t37 s37 ⟨rfl, hz37⟩ hE37
            show pr N2 K d tb_M20 121 [(3, vi (kkd t)), (2, vi y2), (5, vi y5), (4, vi y4), (0, .ref 131), (1, .ref C)] [vi z37] s37 _
            refine pr_n (pc2 := 124) (lv2 := [(4, vi z37), (3, vi (kkd t)), (2, vi y2), (5, vi y5), (0, .ref 131), (1, .ref C)]) (st2 := [.ref 131]) 2 (fun _ _ => rfl) ?_
            refine pr_get (v := .ref C) rfl rfl rfl (by decide) (rv_ref (show s37.1 131 1 = ((C : Nat) : Int) from hE37.2.2.1)) fun _ => ?_
            refine pr_get (v := .ref (C + 6)) rfl rfl (TK0 hC) (by decide) (rv_ref (hE37.2.1 C 5 (C + 6) (rcK hC (by omega)))) fun _ => ?_
            refine pr_gE (k2 := 105) (v := vi (t37 105 3)) hE37 rfl rfl (TK6 hC) (by decide) rfl rfl rfl fun h38 => ?_
            have h38 : i32 (t37 105 3) := h38
            refine pr_n (pc2 := 134) (lv2 := [(4, vi z37), (3, vi (kkd t)), (2, vi y2), (5, vi y5), (0, .ref 131), (1, .ref C)]) (st2 := [.ref 131, vi (t37 105 3)]) 1 (fun _ _ => rfl) ?_
            refine pr_get (v := .ref C) rfl rfl rfl (by decide) (rv_ref (show s37.1 131 1 = ((C : Nat) : Int) from hE37.2.2.1)) fun _ => ?_
            refine pr_n (pc2 := 139) (lv2 := [(4, vi z37), (3, vi (kkd t)), (2, vi y2), (5, vi y5), (0, .ref 131), (1, .ref C)]) (st2 := [vi z37, .ref C, vi (t37 105 3)]) 1 (fun _ _ => rfl) ?_
            refine pr_s1 (args := [vi z37]) (rest := [vi (t37 105 3)]) rfl rfl rfl (TK0 hC) (Nat.le_of_ble_eq_true rfl) rfl (h_48 s37 t37 z37 hE37 hz37) s_prm ?_
            rintro _ s39 ⟨rfl, hz39⟩ hE39
            show pr N2 K d tb_M20 142 [(4, vi z37), (3, vi (kkd t)), (2, vi y2), (5, vi y5), (0, .ref 131), (1, .ref C)] [vi (prm t37 z37), vi (t37 105 3)] s39 _
            refine pr_i2 (a := t37 105 3) (b := prm t37 z37) rfl rfl ?_
            show pr N2 K d tb_M20 143 [(4, vi z37), (3, vi (kkd t)), (2, vi y2), (5, vi y5), (0, .ref 131), (1, .ref C)] [vi (imi (t37 105 3) (prm t37 z37))] s39 _
            have h40 : i32 (imi (t37 105 3) (prm t37 z37)) := i32_in _
            refine pr_n (pc2 := 152) (lv2 := [(5, vi (imi (t37 105 3) (prm t37 z37))), (4, vi z37), (3, vi (kkd t)), (2, vi y2), (0, .ref 131), (1, .ref C)]) (st2 := [vi 307, vi (kkd t), vi z37, .ref 131]) 5 (fun _ _ => rfl) ?_
            refine pr_if2t rfl rfl hz33 (i32_n rfl) (show kkd t ≠ 307 by omega) ?_
            show pr N2 K d tb_M20 164 [(5, vi (imi (t37 105 3) (prm t37 z37))), (4, vi z37), (3, vi (kkd t)), (2, vi y2), (0, .ref 131), (1, .ref C)] [vi z37, .ref 131] s39 _
            refine pr_n (pc2 := 168) (lv2 := [(5, vi (imi (t37 105 3) (prm t37 z37))), (4, vi z37), (3, vi (kkd t)), (2, vi y2), (0, .ref 131), (1, .ref C)]) (st2 := [vi (imi (t37 105 3) (prm t37 z37)), vi 0, .ref 131, vi z37, .ref 131]) 3 (fun _ _ => rfl) ?_
            refine pr_m1 (args := [vi 0, vi (imi (t37 105 3) (prm t37 z37))]) (rest := [vi z37, .ref 131]) rfl rfl rfl rfl (Nat.le_of_ble_eq_true rfl) rfl (h_53 s39 t37 0 (imi (t37 105 3) (prm t37 z37)) hE39 (i32_n rfl) h40) ?_
            rintro _ z41 t41 s41 ⟨rfl, hz41⟩ hE41
            show pr N2 K d tb_M20 171 [(5, vi (imi (t37 105 3) (prm t37 z37))), (4, vi z37), (3, vi (kkd t)), (2, vi y2), (0, .ref 131), (1, .ref C)] [vi z41, vi z37, .ref 131] s41 _
            refine pr_m1 (args := [vi z37, vi z41]) (rest := []) rfl rfl rfl rfl (Nat.le_of_ble_eq_true rfl) rfl (h_74 s41 t41 z37 z41 hE41 hz37 hz41) ?_
            rintro _ _ t42 s42 ⟨rfl, rfl⟩ hE42
            show pr N2 K d tb_M20 174 [(5, vi (imi (t37 105 3) (prm t37 z37))), (4, vi z37), (3, vi (kkd t)), (2, vi y2), (0, .ref 131), (1, .ref C)] [] s42 _
            refine pr_n (pc2 := 182) (lv2 := [(5, vi (imi (t37 105 3) (prm t37 z37))), (4, vi z37), (3, vi (kkd t)), (2, vi y2), (0, .ref 131), (1, .ref C)]) (st2 := []) 1 (fun _ _ => rfl) ?_
            refine pr_inc (a := y2) rfl rfl ?_
            have h43 : i32 (y2 + 1) := by unfold i32 at *; omega
            show pr N2 K d tb_M20 185 [(2, vi (y2 + 1)), (5, vi (imi (t37 105 3) (prm t37 z37))), (4, vi z37), (3, vi (kkd t)), (0, .ref 131), (1, .ref C)] [] s42 _
            refine pr_n (pc2 := 42) (lv2 := [(2, vi (y2 + 1)), (5, vi (imi (t37 105 3) (prm t37 z37))), (4, vi z37), (3, vi (kkd t)), (0, .ref 131), (1, .ref C)]) (st2 := []) 1 (fun _ _ => rfl) ?_
            exact ((ih N2 hN2).2.1) s42 t42 (y2 + 1) (imi (t37 105 3) (prm t37 z37)) z37 (kkd t) hE42 h43 h40 hz37 hz33
          · refine mq_f h36 ?_
            refine pr_if2f rfl rfl hz33 (i32_n rfl) h36 ?_
            refine pr_n (pc2 := 118) (lv2 := [(3, vi (kkd t)), (2, vi y2), (5, vi y5), (4, vi y4), (0, .ref 131), (1, .ref C)]) (st2 := [vi 6, .ref 131]) 2 (fun _ _ => rfl) ?_
            refine pr_m1 (args := [vi 6]) (rest := []) rfl rfl rfl rfl (Nat.le_of_ble_eq_true rfl) rfl (h_36 s34 ((stp t)) 6 hE34 (i32_n rfl)) ?_
            rintro _ z44 t44 s44 ⟨rfl, hz44⟩ hE44
            show pr N2 K d tb_M20 121 [(3, vi (kkd t)), (2, vi y2), (5, vi y5), (4, vi y4), (0, .ref 131), (1, .ref C)] [vi z44] s44 _
            refine pr_n (pc2 := 124) (lv2 := [(4, vi z44), (3, vi (kkd t)), (2, vi y2), (5, vi y5), (0, .ref 131), (1, .ref C)]) (st2 := [.ref 131]) 2 (fun _ _ => rfl) ?_
            refine pr_get (v := .ref C) rfl rfl rfl (by decide) (rv_ref (show s44.1 131 1 = ((C : Nat) : Int) from hE44.2.2.1)) fun _ => ?_
            refine pr_get (v := .ref (C + 6)) rfl rfl (TK0 hC) (by decide) (rv_ref (hE44.2.1 C 5 (C + 6) (rcK hC (by omega)))) fun _ => ?_
            refine pr_gE (k2 := 105) (v := vi (t44 105 3)) hE44 rfl rfl (TK6 hC) (by decide) rfl rfl rfl fun h45 => ?_
            have h45 : i32 (t44 105 3) := h45
            refine pr_n (pc2 := 134) (lv2 := [(4, vi z44), (3, vi (kkd t)), (2, vi y2), (5, vi y5), (0, .ref 131), (1, .ref C)]) (st2 := [.ref 131, vi (t44 105 3)]) 1 (fun _ _ => rfl) ?_
            refine pr_get (v := .ref C) rfl rfl rfl (by decide) (rv_ref (show s44.1 131 1 = ((C : Nat) : Int) from hE44.2.2.1)) fun _ => ?_
            refine pr_n (pc2 := 139) (lv2 := [(4, vi z44), (3, vi (kkd t)), (2, vi y2), (5, vi y5), (0, .ref 131), (1, .ref C)]) (st2 := [vi z44, .ref C, vi (t44 105 3)]) 1 (fun _ _ => rfl) ?_
            refine pr_s1 (args := [vi z44]) (rest := [vi (t44 105 3)]) rfl rfl rfl (TK0 hC) (Nat.le_of_ble_eq_true rfl) rfl (h_48 s44 t44 z44 hE44 hz44) s_prm ?_
            rintro _ s46 ⟨rfl, hz46⟩ hE46
            show pr N2 K d tb_M20 142 [(4, vi z44), (3, vi (kkd t)), (2, vi y2), (5, vi y5), (0, .ref 131), (1, .ref C)] [vi (prm t44 z44), vi (t44 105 3)] s46 _
            refine pr_i2 (a := t44 105 3) (b := prm t44 z44) rfl rfl ?_
            show pr N2 K d tb_M20 143 [(4, vi z44), (3, vi (kkd t)), (2, vi y2), (5, vi y5), (0, .ref 131), (1, .ref C)] [vi (imi (t44 105 3) (prm t44 z44))] s46 _
            have h47 : i32 (imi (t44 105 3) (prm t44 z44)) := i32_in _
            refine pr_n (pc2 := 152) (lv2 := [(5, vi (imi (t44 105 3) (prm t44 z44))), (4, vi z44), (3, vi (kkd t)), (2, vi y2), (0, .ref 131), (1, .ref C)]) (st2 := [vi 307, vi (kkd t), vi z44, .ref 131]) 5 (fun _ _ => rfl) ?_
            refine pr_if2f rfl rfl hz33 (i32_n rfl) (show ¬ (kkd t ≠ 307) by omega) ?_
            show pr N2 K d tb_M20 155 [(5, vi (imi (t44 105 3) (prm t44 z44))), (4, vi z44), (3, vi (kkd t)), (2, vi y2), (0, .ref 131), (1, .ref C)] [vi z44, .ref 131] s46 _
            refine pr_n (pc2 := 158) (lv2 := [(5, vi (imi (t44 105 3) (prm t44 z44))), (4, vi z44), (3, vi (kkd t)), (2, vi y2), (0, .ref 131), (1, .ref C)]) (st2 := [vi (imi (t44 105 3) (prm t44 z44)), .ref 131, vi z44, .ref 131]) 2 (fun _ _ => rfl) ?_
            refine pr_m1 (args := [vi (imi (t44 105 3) (prm t44 z44))]) (rest := [vi z44, .ref 131]) rfl rfl rfl rfl (Nat.le_of_ble_eq_true rfl) rfl (h_49 s46 t44 (imi (t44 105 3) (prm t44 z44)) hE46 h47) ?_
            rintro _ z48 t48 s48 ⟨rfl, hz48⟩ hE48
            show pr N2 K d tb_M20 161 [(5, vi (imi (t44 105 3) (prm t44 z44))), (4, vi z44), (3, vi (kkd t)), (2, vi y2), (0, .ref 131), (1, .ref C)] [vi z48, vi z44, .ref 131] s48 _
            refine pr_n (pc2 := 171) (lv2 := [(5, vi (imi (t44 105 3) (prm t44 z44))), (4, vi z44), (3, vi (kkd t)), (2, vi y2), (0, .ref 131), (1, .ref C)]) (st2 := [vi z48, vi z44, .ref 131]) 1 (fun _ _ => rfl) ?_
            refine pr_m1 (args := [vi z44, vi z48]) (rest := []) rfl rfl rfl rfl (Nat.le_of_ble_eq_true rfl) rfl (h_74 s48 t48 z44 z48 hE48 hz44 hz48) ?_
            rintro _ _ t49 s49 ⟨rfl, rfl⟩ hE49
            show pr N2 K d tb_M20 174 [(5, vi (imi (t44 105 3) (prm t44 z44))), (4, vi z44), (3, vi (kkd t)), (2, vi y2), (0, .ref 131), (1, .ref C)] [] s49 _
            refine pr_n (pc2 := 182) (lv2 := [(5, vi (imi (t44 105 3) (prm t44 z44))), (4, vi z44), (3, vi (kkd t)), (2, vi y2), (0, .ref 131), (1, .ref C)]) (st2 := []) 1 (fun _ _ => rfl) ?_
            refine pr_inc (a := y2) rfl rfl ?_
            have h50 : i32 (y2 + 1) := by unfold i32 at *; omega
            show pr N2 K d tb_M20 185 [(2, vi (y2 + 1)), (5, vi (imi (t44 105 3) (prm t44 z44))), (4, vi z44), (3, vi (kkd t)), (0, .ref 131), (1, .ref C)] [] s49 _
            refine pr_n (pc2 := 42) (lv2 := [(2, vi (y2 + 1)), (5, vi (imi (t44 105 3) (prm t44 z44))), (4, vi z44), (3, vi (kkd t)), (0, .ref 131), (1, .ref C)]) (st2 := []) 1 (fun _ _ => rfl) ?_
            exact ((ih N2 hN2).2.1) s49 t49 (y2 + 1) (imi (t44 105 3) (prm t44 z44)) z44 (kkd t) hE49 h50 h47 hz44 hz33
        · refine mq_f h35 ?_
          refine pr_if2f rfl rfl hz33 (i32_n rfl) h35 ?_
          refine pr_n (pc2 := 101) (lv2 := [(3, vi (kkd t)), (2, vi y2), (5, vi y5), (4, vi y4), (0, .ref 131), (1, .ref C)]) (st2 := [vi 307, vi (kkd t)]) 2 (fun _ _ => rfl) ?_
          by_cases h51 : kkd t ≠ 307
          · refine mq_t h51 ?_
            refine pr_if2t rfl rfl hz33 (i32_n rfl) h51 ?_
            refine pr_n (pc2 := 179) (lv2 := [(3, vi (kkd t)), (2, vi y2), (5, vi y5), (4, vi y4), (0, .ref 131), (1, .ref C)]) (st2 := [vi (kkd t), .ref 131]) 2 (fun _ _ => rfl) ?_
            refine pr_m1 (args := [vi (kkd t)]) (rest := []) rfl rfl rfl rfl (Nat.le_of_ble_eq_true rfl) rfl (h_75 s34 ((stp t)) (kkd t) hE34 hz33) ?_
            rintro _ _ t52 s52 ⟨rfl, rfl⟩ hE52
            show pr N2 K d tb_M20 182 [(3, vi (kkd t)), (2, vi y2), (5, vi y5), (4, vi y4), (0, .ref 131), (1, .ref C)] [] s52 _
            refine pr_inc (a := y2) rfl rfl ?_
            have h53 : i32 (y2 + 1) := by unfold i32 at *; omega
            show pr N2 K d tb_M20 185 [(2, vi (y2 + 1)), (3, vi (kkd t)), (5, vi y5), (4, vi y4), (0, .ref 131), (1, .ref C)] [] s52 _
            refine pr_n (pc2 := 42) (lv2 := [(2, vi (y2 + 1)), (3, vi (kkd t)), (5, vi y5), (4, vi y4), (0, .ref 131), (1, .ref C)]) (st2 := []) 1 (fun _ _ => rfl) ?_
            exact ((ih N2 hN2).2.2.2) s52 t52 (y2 + 1) (kkd t) y5 y4 hE52 h53 hz33 hy5 hy4
          · refine mq_f h51 ?_
            refine pr_if2f rfl rfl hz33 (i32_n rfl) h51 ?_
            refine pr_n (pc2 := 109) (lv2 := [(3, vi (kkd t)), (2, vi y2), (5, vi y5), (4, vi y4), (0, .ref 131), (1, .ref C)]) (st2 := [vi 307, vi (kkd t), .ref 131]) 3 (fun _ _ => rfl) ?_
            refine pr_if2f rfl rfl hz33 (i32_n rfl) (show ¬ (kkd t ≠ 307) by omega) ?_
            show pr N2 K d tb_M20 112 [(3, vi (kkd t)), (2, vi y2), (5, vi y5), (4, vi y4), (0, .ref 131), (1, .ref C)] [.ref 131] s34 _
            refine pr_n (pc2 := 118) (lv2 := [(3, vi (kkd t)), (2, vi y2), (5, vi y5), (4, vi y4), (0, .ref 131), (1, .ref C)]) (st2 := [vi 6, .ref 131]) 2 (fun _ _ => rfl) ?_
            refine pr_m1 (args := [vi 6]) (rest := []) rfl rfl rfl rfl (Nat.le_of_ble_eq_true rfl) rfl (h_36 s34 ((stp t)) 6 hE34 (i32_n rfl)) ?_
            rintro _ z54 t54 s54 ⟨rfl, hz54⟩ hE54
            show pr N2 K d tb_M20 121 [(3, vi (kkd t)), (2, vi y2), (5, vi y5), (4, vi y4), (0, .ref 131), (1, .ref C)] [vi z54] s54 _
            refine pr_n (pc2 := 124) (lv2 := [(4, vi z54), (3, vi (kkd t)), (2, vi y2), (5, vi y5), (0, .ref 131), (1, .ref C)]) (st2 := [.ref 131]) 2 (fun _ _ => rfl) ?_
            refine pr_get (v := .ref C) rfl rfl rfl (by decide) (rv_ref (show s54.1 131 1 = ((C : Nat) : Int) from hE54.2.2.1)) fun _ => ?_
            refine pr_get (v := .ref (C + 6)) rfl rfl (TK0 hC) (by decide) (rv_ref (hE54.2.1 C 5 (C + 6) (rcK hC (by omega)))) fun _ => ?_
            refine pr_gE (k2 := 105) (v := vi (t54 105 3)) hE54 rfl rfl (TK6 hC) (by decide) rfl rfl rfl fun h55 => ?_
            have h55 : i32 (t54 105 3) := h55
            refine pr_n (pc2 := 134) (lv2 := [(4, vi z54), (3, vi (kkd t)), (2, vi y2), (5, vi y5), (0, .ref 131), (1, .ref C)]) (st2 := [.ref 131, vi (t54 105 3)]) 1 (fun _ _ => rfl) ?_
            refine pr_get (v := .ref C) rfl rfl rfl (by decide) (rv_ref (show s54.1 131 1 = ((C : Nat) : Int) from hE54.2.2.1)) fun _ => ?_
            refine pr_n (pc2 := 139) (lv2 := [(4, vi z54), (3, vi (kkd t)), (2, vi y2), (5, vi y5), (0, .ref 131), (1, .ref C)]) (st2 := [vi z54, .ref C, vi (t54 105 3)]) 1 (fun _ _ => rfl) ?_
            refine pr_s1 (args := [vi z54]) (rest := [vi (t54 105 3)]) rfl rfl rfl (TK0 hC) (Nat.le_of_ble_eq_true rfl) rfl (h_48 s54 t54 z54 hE54 hz54) s_prm ?_
            rintro _ s56 ⟨rfl, hz56⟩ hE56
            show pr N2 K d tb_M20 142 [(4, vi z54), (3, vi (kkd t)), (2, vi y2), (5, vi y5), (0, .ref 131), (1, .ref C)] [vi (prm t54 z54), vi (t54 105 3)] s56 _
            refine pr_i2 (a := t54 105 3) (b := prm t54 z54) rfl rfl ?_
            show pr N2 K d tb_M20 143 [(4, vi z54), (3, vi (kkd t)), (2, vi y2), (5, vi y5), (0, .ref 131), (1, .ref C)] [vi (imi (t54 105 3) (prm t54 z54))] s56 _
            have h57 : i32 (imi (t54 105 3) (prm t54 z54)) := i32_in _
            refine pr_n (pc2 := 152) (lv2 := [(5, vi (imi (t54 105 3) (prm t54 z54))), (4, vi z54), (3, vi (kkd t)), (2, vi y2), (0, .ref 131), (1, .ref C)]) (st2 := [vi 307, vi (kkd t), vi z54, .ref 131]) 5 (fun _ _ => rfl) ?_
            refine pr_if2f rfl rfl hz33 (i32_n rfl) (show ¬ (kkd t ≠ 307) by omega) ?_
            show pr N2 K d tb_M20 155 [(5, vi (imi (t54 105 3) (prm t54 z54))), (4, vi z54), (3, vi (kkd t)), (2, vi y2), (0, .ref 131), (1, .ref C)] [vi z54, .ref 131] s56 _
            refine pr_n (pc2 := 158) (lv2 := [(5, vi (imi (t54 105 3) (prm t54 z54))), (4, vi z54), (3, vi (kkd t)), (2, vi y2), (0, .ref 131), (1, .ref C)]) (st2 := [vi (imi (t54 105 3) (prm t54 z54)), .ref 131, vi z54, .ref 131]) 2 (fun _ _ => rfl) ?_
            refine pr_m1 (args := [vi (imi (t54 105 3) (prm t54 z54))]) (rest := [vi z54, .ref 131]) rfl rfl rfl rfl (Nat.le_of_ble_eq_true rfl) rfl (h_49 s56 t54 (imi (t54 105 3) (prm t54 z54)) hE56 h57) ?_
            rintro _ z58 t58 s58 ⟨rfl, hz58⟩ hE58
            show pr N2 K d tb_M20 161 [(5, vi (imi (t54 105 3) (prm t54 z54))), (4, vi z54), (3, vi (kkd t)), (2, vi y2), (0, .ref 131), (1, .ref C)] [vi z58, vi z54, .ref 131] s58 _
            refine pr_n (pc2 := 171) (lv2 := [(5, vi (imi (t54 105 3) (prm t54 z54))), (4, vi z54), (3, vi (kkd t)), (2, vi y2), (0, .ref 131), (1, .ref C)]) (st2 := [vi z58, vi z54, .ref 131]) 1 (fun _ _ => rfl) ?_
            refine pr_m1 (args := [vi z54, vi z58]) (rest := []) rfl rfl rfl rfl (Nat.le_of_ble_eq_true rfl) rfl (h_74 s58 t58 z54 z58 hE58 hz54 hz58) ?_
            rintro _ _ t59 s59 ⟨rfl, rfl⟩ hE59
            show pr N2 K d tb_M20 174 [(5, vi (imi (t54 105 3) (prm t54 z54))), (4, vi z54), (3, vi (kkd t)), (2, vi y2), (0, .ref 131), (1, .ref C)] [] s59 _
            refine pr_n (pc2 := 182) (lv2 := [(5, vi (imi (t54 105 3) (prm t54 z54))), (4, vi z54), (3, vi (kkd t)), (2, vi y2), (0, .ref 131), (1, .ref C)]) (st2 := []) 1 (fun _ _ => rfl) ?_
            refine pr_inc (a := y2) rfl rfl ?_
            have h60 : i32 (y2 + 1) := by unfold i32 at *; omega
            show pr N2 K d tb_M20 185 [(2, vi (y2 + 1)), (5, vi (imi (t54 105 3) (prm t54 z54))), (4, vi z54), (3, vi (kkd t)), (0, .ref 131), (1, .ref C)] [] s59 _
            refine pr_n (pc2 := 42) (lv2 := [(2, vi (y2 + 1)), (5, vi (imi (t54 105 3) (prm t54 z54))), (4, vi z54), (3, vi (kkd t)), (0, .ref 131), (1, .ref C)]) (st2 := []) 1 (fun _ _ => rfl) ?_
            exact ((ih N2 hN2).2.1) s59 t59 (y2 + 1) (imi (t54 105 3) (prm t54 z54)) z54 (kkd t) hE59 h60 h57 hz54 hz33
theorem ca20 {K d C : Nat} (h_21 : cT21 K d C) (h_24 : cT24 K d C) (h_34 : cT34 K d C) (h_35 : cT35 K d C) (h_36 : cT36 K d C) (h_40 : cT40 K d C) (h_41 : cT41 K d C) (h_48 : cT48 K d C) (h_49 : cT49 K d C) (h_53 : cT53 K d C) (h_74 : cT74 K d C) (h_75 : cT75 K d C) : ∀ N, cA20 N K d C := by
  intro N
  induction N using Nat.strongRecOn with | ind N ih => ?_
  exact ⟨cu20_0 h_21 h_24 h_34 h_35 h_36 h_40 h_41 h_48 h_49 h_53 h_74 h_75 ih, cu20_1 h_21 h_24 h_34 h_35 h_36 h_40 h_41 h_48 h_49 h_53 h_74 h_75 ih, cu20_2 h_21 h_24 h_34 h_35 h_36 h_40 h_41 h_48 h_49 h_53 h_74 h_75 ih, cu20_3 h_21 h_24 h_34 h_35 h_36 h_40 h_41 h_48 h_49 h_53 h_74 h_75 ih⟩
set_option maxHeartbeats 20000000 in
set_option maxRecDepth 100000 in
theorem cm20 {K d C : Nat} (h_21 : cT21 K d C) (h_24 : cT24 K d C) (h_34 : cT34 K d C) (h_35 : cT35 K d C) (h_36 : cT36 K d C) (h_40 : cT40 K d C) (h_41 : cT41 K d C) (h_48 : cT48 K d C) (h_49 : cT49 K d C) (h_53 : cT53 K d C) (h_74 : cT74 K d C) (h_75 : cT75 K d C) : cT20 K (d + 1) C := by
  intro s0 t hE hsc
  have hC : C = 99 ∨ C = 115 := hE.1
  refine pcr_of (M := tb_M20) rfl ?_
  refine pr_n (pc2 := 2) (lv2 := [(0, .ref 131), (1, .ref C)]) (st2 := [.ref C, .ref 131]) 2 (fun _ _ => rfl) ?_
  refine pr_put (z := (C : Int)) rfl rfl rfl rfl (by decide) rfl (by decide) (rv_ref rfl) (show -1 ≤ (C : Int) by omega) (hf_ref _ _) ?_
  obtain ⟨s, hs⟩ : ∃ s9 : rS, s9 = (up2 s0.1 131 1 (C : Int), s0.2) := ⟨_, rfl⟩
  rw [← hs] at hE ⊢
  clear hs
  show pr K K d tb_M20 5 [(0, .ref 131), (1, .ref C)] [] s _
  rw [cG_20]
  unfold cM20
  refine pr_n (pc2 := 6) (lv2 := [(0, .ref 131), (1, .ref C)]) (st2 := [.ref 131]) 1 (fun _ _ => rfl) ?_
  refine pr_get (v := .ref C) rfl rfl rfl (by decide) (rv_ref (show s.1 131 1 = ((C : Nat) : Int) from hE.2.2.1)) fun _ => ?_
  refine pr_s1 (args := []) (rest := []) rfl rfl rfl (TK0 hC) (Nat.le_of_ble_eq_true rfl) rfl (h_21 s t  hE ) s_ccl ?_
  rintro _ s1 ⟨rfl, _⟩ hE1
  show pr K K d tb_M20 12 [(0, .ref 131), (1, .ref C)] [] s1 _
  refine pr_n (pc2 := 15) (lv2 := [(0, .ref 131), (1, .ref C)]) (st2 := [vi ((-2)), .ref 131]) 2 (fun _ _ => rfl) ?_
  refine pr_pE (k2 := 131) (z := (-2)) hE1 rfl rfl rfl rfl (by decide) rfl (by decide) rfl (show i32 ((-2)) from (i32_n rfl)) (hf_int' _) rfl rfl rfl (fun e => absurd e.2 (by decide)) (iv_c (by decide)) fun s2 hE2 => ?_
  refine pr_n (pc2 := 20) (lv2 := [(0, .ref 131), (1, .ref C)]) (st2 := [vi 0, .ref 131]) 2 (fun _ _ => rfl) ?_
  refine pr_pE (k2 := 131) (z := 0) hE2 rfl rfl rfl rfl (by decide) rfl (by decide) rfl (show i32 (0) from (i32_n rfl)) (hf_int' _) rfl rfl rfl (fun e => absurd e.2 (by decide)) (iv_c (by decide)) fun s3 hE3 => ?_
  refine pr_n (pc2 := 25) (lv2 := [(0, .ref 131), (1, .ref C)]) (st2 := [vi ((-1)), .ref 131]) 2 (fun _ _ => rfl) ?_
  refine pr_pE (k2 := 131) (z := (-1)) hE3 rfl rfl rfl rfl (by decide) rfl (by decide) rfl (show i32 ((-1)) from (i32_n rfl)) (hf_int' _) rfl rfl rfl (fun e => absurd e.2 (by decide)) (iv_c (by decide)) fun s4 hE4 => ?_
  refine pr_n (pc2 := 30) (lv2 := [(0, .ref 131), (1, .ref C)]) (st2 := [vi 0, .ref 131]) 2 (fun _ _ => rfl) ?_
  refine pr_pE (k2 := 131) (z := 0) hE4 rfl rfl rfl rfl (by decide) rfl (by decide) rfl (show i32 (0) from (i32_n rfl)) (hf_int' _) rfl rfl rfl (fun e => absurd e.2 (by decide)) (iv_c (by decide)) fun s5 hE5 => ?_
  refine pr_n (pc2 := 34) (lv2 := [(0, .ref 131), (1, .ref C)]) (st2 := [.ref 131]) 1 (fun _ _ => rfl) ?_
  refine pr_get (v := .ref 137) rfl rfl rfl (by decide) (rv_ref (hE5.2.1 131 0 137 rfl)) fun _ => ?_
  refine pr_mx (args := []) (rest := []) rfl rfl rfl rfl (Nat.le_of_ble_eq_true rfl) rfl (h_24 s5 (up2 (up2 (up2 (up2 ((ccl t)) 131 3 ((-2))) 131 6 0) 131 13 ((-1))) 131 14 0) (EE_w hE5)) c_scan9 ?_
  rintro _ _ t6 s6 ⟨rfl, rfl⟩ hX6 hE6
  replace hE6 : EE cQ C t6 s6 := EE_q hE6 (hsc _ _ hX6)
  show pr K K d tb_M20 40 [(0, .ref 131), (1, .ref C)] [] s6 _
  refine pr_n (pc2 := 42) (lv2 := [(2, vi 0), (0, .ref 131), (1, .ref C)]) (st2 := []) 2 (fun _ _ => rfl) ?_
  exact ((ca20 h_21 h_24 h_34 h_35 h_36 h_40 h_41 h_48 h_49 h_53 h_74 h_75 K).1) s6 t6 0 hE6 (i32_n rfl)
