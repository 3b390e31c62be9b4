/-! The methods are as their models. -/
set_option maxHeartbeats 20000000 in
set_option maxRecDepth 100000 in
theorem rm120 {K d C : Nat} : rT120 K (d + 1) C := by
  intro s t x0 x2 x4 hE hx0 hx2 hx4
  have hC : C = 177 ∨ C = 186 := hE.1
  refine pcr_of (M := tb_M120) rfl ?_
  show pr K K d tb_M120 0 [(0, vl x0), (2, vl x2), (4, vl x4)] [] s _
  rw [rG_120]
  unfold rM120
  refine pr_n (pc2 := 2) (lv2 := [(0, vl x0), (2, vl x2), (4, vl x4)]) (st2 := [vl x2, vl x0]) 2 (fun _ _ => rfl) ?_
  refine pr_lcmp (a := x0) (b := x2) rfl hx0 hx2 ?_
  by_cases h1 : x0 < x2
  · refine mq_t h1 ?_
    refine pr_if1t rfl rfl lc_i32 (lc_lt.mpr h1) ?_
    refine pr_n (pc2 := 18) (lv2 := [(0, vl x0), (2, vl x2), (4, vl x4)]) (st2 := [vi 0]) 1 (fun _ _ => rfl) ?_
    refine pr_end (fun _ _ => rfl) ?_
    exact .inl ⟨_, 0, _, rfl, ⟨rfl, (by decide)⟩, rfl, hE⟩
  · refine mq_f h1 ?_
    refine pr_if1f rfl rfl lc_i32 (fun e => h1 (lc_lt.mp e)) ?_
    refine pr_n (pc2 := 9) (lv2 := [(0, vl x0), (2, vl x2), (4, vl x4)]) (st2 := [vl x4, vl x0]) 2 (fun _ _ => rfl) ?_
    refine pr_lcmp (a := x0) (b := x4) rfl hx0 hx4 ?_
    by_cases h2 : x4 < x0
    · refine mq_t h2 ?_
      refine pr_if1t rfl rfl lc_i32 (lc_gt.mpr h2) ?_
      refine pr_n (pc2 := 18) (lv2 := [(0, vl x0), (2, vl x2), (4, vl x4)]) (st2 := [vi 0]) 1 (fun _ _ => rfl) ?_
      refine pr_end (fun _ _ => rfl) ?_
      exact .inl ⟨_, 0, _, rfl, ⟨rfl, (by decide)⟩, rfl, hE⟩
    · refine mq_f h2 ?_
      refine pr_if1f rfl rfl lc_i32 (fun e => h2 (lc_gt.mp e)) ?_
      refine pr_n (pc2 := 18) (lv2 := [(0, vl x0), (2, vl x2), (4, vl x4)]) (st2 := [vi 1]) 2 (fun _ _ => rfl) ?_
      refine pr_end (fun _ _ => rfl) ?_
      exact .inl ⟨_, 1, _, rfl, ⟨rfl, (by decide)⟩, rfl, hE⟩
set_option maxHeartbeats 20000000 in
set_option maxRecDepth 100000 in
theorem rm124 {K d C : Nat} : rT124 K (d + 1) C := by
  intro s t x0 hE hx0
  have hC : C = 177 ∨ C = 186 := hE.1
  refine pcr_of (M := tb_M124) rfl ?_
  show pr K K d tb_M124 0 [(0, vi x0)] [] s _
  rw [rG_124]
  unfold rM124
  refine pr_n (pc2 := 3) (lv2 := [(0, vi x0)]) (st2 := [vi 97, vi x0]) 2 (fun _ _ => rfl) ?_
  by_cases h1 : x0 < 97
  · refine mq_t h1 ?_
    refine pr_if2t rfl rfl hx0 (i32_n rfl) h1 ?_
    refine pr_n (pc2 := 17) (lv2 := [(0, vi x0)]) (st2 := [vi 0]) 1 (fun _ _ => rfl) ?_
    refine pr_end (fun _ _ => rfl) ?_
    exact .inl ⟨_, 0, _, rfl, ⟨rfl, (by decide)⟩, rfl, hE⟩
  · refine mq_f h1 ?_
    refine pr_if2f rfl rfl hx0 (i32_n rfl) h1 ?_
    refine pr_n (pc2 := 9) (lv2 := [(0, vi x0)]) (st2 := [vi 122, vi x0]) 2 (fun _ _ => rfl) ?_
    by_cases h2 : 122 < x0
    · refine mq_t h2 ?_
      refine pr_if2t rfl rfl hx0 (i32_n rfl) h2 ?_
      refine pr_n (pc2 := 17) (lv2 := [(0, vi x0)]) (st2 := [vi 0]) 1 (fun _ _ => rfl) ?_
      refine pr_end (fun _ _ => rfl) ?_
      exact .inl ⟨_, 0, _, rfl, ⟨rfl, (by decide)⟩, rfl, hE⟩
    · refine mq_f h2 ?_
      refine pr_if2f rfl rfl hx0 (i32_n rfl) h2 ?_
      refine pr_n (pc2 := 17) (lv2 := [(0, vi x0)]) (st2 := [vi 1]) 2 (fun _ _ => rfl) ?_
      refine pr_end (fun _ _ => rfl) ?_
      exact .inl ⟨_, 1, _, rfl, ⟨rfl, (by decide)⟩, rfl, hE⟩
set_option maxHeartbeats 20000000 in
set_option maxRecDepth 100000 in
theorem rm125 {K d C : Nat} : rT125 K (d + 1) C := by
  intro s t x0 hE hx0
  have hC : C = 177 ∨ C = 186 := hE.1
  refine pcr_of (M := tb_M125) rfl ?_
  show pr K K d tb_M125 0 [(0, vi x0)] [] s _
  rw [rG_125]
  unfold rM125
  refine pr_n (pc2 := 3) (lv2 := [(0, vi x0)]) (st2 := [vi 48, vi x0]) 2 (fun _ _ => rfl) ?_
  by_cases h1 : x0 < 48
  · refine mq_t h1 ?_
    refine pr_if2t rfl rfl hx0 (i32_n rfl) h1 ?_
    refine pr_n (pc2 := 17) (lv2 := [(0, vi x0)]) (st2 := [vi 0]) 1 (fun _ _ => rfl) ?_
    refine pr_end (fun _ _ => rfl) ?_
    exact .inl ⟨_, 0, _, rfl, ⟨rfl, (by decide)⟩, rfl, hE⟩
  · refine mq_f h1 ?_
    refine pr_if2f rfl rfl hx0 (i32_n rfl) h1 ?_
    refine pr_n (pc2 := 9) (lv2 := [(0, vi x0)]) (st2 := [vi 57, vi x0]) 2 (fun _ _ => rfl) ?_
    by_cases h2 : 57 < x0
    · refine mq_t h2 ?_
      refine pr_if2t rfl rfl hx0 (i32_n rfl) h2 ?_
      refine pr_n (pc2 := 17) (lv2 := [(0, vi x0)]) (st2 := [vi 0]) 1 (fun _ _ => rfl) ?_
      refine pr_end (fun _ _ => rfl) ?_
      exact .inl ⟨_, 0, _, rfl, ⟨rfl, (by decide)⟩, rfl, hE⟩
    · refine mq_f h2 ?_
      refine pr_if2f rfl rfl hx0 (i32_n rfl) h2 ?_
      refine pr_n (pc2 := 17) (lv2 := [(0, vi x0)]) (st2 := [vi 1]) 2 (fun _ _ => rfl) ?_
      refine pr_end (fun _ _ => rfl) ?_
      exact .inl ⟨_, 1, _, rfl, ⟨rfl, (by decide)⟩, rfl, hE⟩
set_option maxHeartbeats 20000000 in
set_option maxRecDepth 100000 in
theorem ru126_0 {N K d C : Nat} (ih : ∀ N2, N2 < N → rA126 N2 K d C) : rU126_0 N K d C := by
  intro s t y3 y2 hE hy3 hy2
  have hC : C = 177 ∨ C = 186 := hE.1
  rw [rG_126_15]
  unfold rM126_15
  refine pr_lt (pc2 := 16) (lv2 := [(3, vi y3), (2, vi y2), (1, .ref 4), (0, .ref 170)]) (st2 := [vi y3]) (fun _ _ => rfl) fun N2 hN2 => ?_
  refine pr_n (pc2 := 17) (lv2 := [(3, vi y3), (2, vi y2), (1, .ref 4), (0, .ref 170)]) (st2 := [vi y2, vi y3]) 1 (fun _ _ => rfl) ?_
  refine pr_i2 (a := y3) (b := y2) rfl rfl ?_
  show pr N2 K d tb_M126 18 [(3, vi y3), (2, vi y2), (1, .ref 4), (0, .ref 170)] [vi (ipl y3 y2)] s _
  have h1 : i32 (ipl y3 y2) := i32_in _
  refine pr_n (pc2 := 19) (lv2 := [(3, vi y3), (2, vi y2), (1, .ref 4), (0, .ref 170)]) (st2 := [vi 1, vi (ipl y3 y2)]) 1 (fun _ _ => rfl) ?_
  refine pr_i2 (a := ipl y3 y2) (b := 1) rfl rfl ?_
  show pr N2 K d tb_M126 20 [(3, vi y3), (2, vi y2), (1, .ref 4), (0, .ref 170)] [vi (ipl (ipl y3 y2) 1)] s _
  have h2 : i32 (ipl (ipl y3 y2) 1) := i32_in _
  refine pr_n (pc2 := 21) (lv2 := [(3, vi y3), (2, vi y2), (1, .ref 4), (0, .ref 170)]) (st2 := [.ref 4, vi (ipl (ipl y3 y2) 1)]) 1 (fun _ _ => rfl) ?_
  refine pr_t4 (args := []) (rest := [vi (ipl (ipl y3 y2) 1)]) rfl rfl rfl isX_4.1.1 (Nat.le_of_ble_eq_true rfl) rfl (tx_len isX_4) ?_
  show pr N2 K d tb_M126 24 [(3, vi y3), (2, vi y2), (1, .ref 4), (0, .ref 170)] [vi (txn (4 : Int)), vi (ipl (ipl y3 y2) 1)] s _
  have h3 : i32 (txn (4 : Int)) := (txn_i32 isX_4)
  by_cases h4 : txn (4 : Int) ≤ ipl (ipl y3 y2) 1
  · refine mq_t h4 ?_
    refine pr_if2t rfl rfl h2 h3 h4 ?_
    refine pr_n (pc2 := 124) (lv2 := [(3, vi y3), (2, vi y2), (1, .ref 4), (0, .ref 170)]) (st2 := [vi 0]) 1 (fun _ _ => rfl) ?_
    refine pr_end (fun _ _ => rfl) ?_
    exact .inl ⟨_, 0, _, rfl, ⟨rfl, (by decide)⟩, rfl, hE⟩
  · refine mq_f h4 ?_
    refine pr_if2f rfl rfl h2 h3 h4 ?_
    refine pr_n (pc2 := 29) (lv2 := [(3, vi y3), (2, vi y2), (1, .ref 4), (0, .ref 170)]) (st2 := [vi y3, .ref 4]) 2 (fun _ _ => rfl) ?_
    refine pr_t4 (args := [vi y3]) (rest := []) rfl rfl rfl isX_4.1.1 (Nat.le_of_ble_eq_true rfl) rfl (tx_chr isX_4 hy3) ?_
    show pr N2 K d tb_M126 32 [(3, vi y3), (2, vi y2), (1, .ref 4), (0, .ref 170)] [vi (txc (4 : Int) y3)] s _
    have h5 : i32 (txc (4 : Int) y3) := (txc_i32 isX_4)
    refine pr_n (pc2 := 34) (lv2 := [(3, vi y3), (2, vi y2), (1, .ref 4), (0, .ref 170)]) (st2 := [vi 32, vi (txc (4 : Int) y3)]) 1 (fun _ _ => rfl) ?_
    by_cases h6 : txc (4 : Int) y3 ≠ 32
    · refine mq_t h6 ?_
      refine pr_if2t rfl rfl h5 (i32_n rfl) h6 ?_
      refine pr_n (pc2 := 61) (lv2 := [(5, vi 0), (4, vi 0), (3, vi y3), (2, vi y2), (1, .ref 4), (0, .ref 170)]) (st2 := []) 4 (fun _ _ => rfl) ?_
      exact ((ih N2 hN2).2.1) s t 0 0 y3 y2 hE (i32_n rfl) (i32_n rfl) hy3 hy2
    · refine mq_f h6 ?_
      refine pr_if2f rfl rfl h5 (i32_n rfl) h6 ?_
      refine pr_n (pc2 := 40) (lv2 := [(3, vi y3), (2, vi y2), (1, .ref 4), (0, .ref 170)]) (st2 := [vi y2, vi y3, .ref 4]) 3 (fun _ _ => rfl) ?_
      refine pr_i2 (a := y3) (b := y2) rfl rfl ?_
      show pr N2 K d tb_M126 41 [(3, vi y3), (2, vi y2), (1, .ref 4), (0, .ref 170)] [vi (ipl y3 y2), .ref 4] s _
      refine pr_n (pc2 := 42) (lv2 := [(3, vi y3), (2, vi y2), (1, .ref 4), (0, .ref 170)]) (st2 := [vi 1, vi (ipl y3 y2), .ref 4]) 1 (fun _ _ => rfl) ?_
      refine pr_i2 (a := ipl y3 y2) (b := 1) rfl rfl ?_
      show pr N2 K d tb_M126 43 [(3, vi y3), (2, vi y2), (1, .ref 4), (0, .ref 170)] [vi (ipl (ipl y3 y2) 1), .ref 4] s _
      refine pr_t4 (args := [vi (ipl (ipl y3 y2) 1)]) (rest := []) rfl rfl rfl isX_4.1.1 (Nat.le_of_ble_eq_true rfl) rfl (tx_chr isX_4 h2) ?_
      show pr N2 K d tb_M126 46 [(3, vi y3), (2, vi y2), (1, .ref 4), (0, .ref 170)] [vi (txc (4 : Int) (ipl (ipl y3 y2) 1))] s _
      have h9 : i32 (txc (4 : Int) (ipl (ipl y3 y2) 1)) := (txc_i32 isX_4)
      refine pr_n (pc2 := 48) (lv2 := [(3, vi y3), (2, vi y2), (1, .ref 4), (0, .ref 170)]) (st2 := [vi 32, vi (txc (4 : Int) (ipl (ipl y3 y2) 1))]) 1 (fun _ _ => rfl) ?_
      by_cases h10 : txc (4 : Int) (ipl (ipl y3 y2) 1) ≠ 32
      · refine mq_t h10 ?_
        refine pr_if2t rfl rfl h9 (i32_n rfl) h10 ?_
        refine pr_n (pc2 := 61) (lv2 := [(5, vi 0), (4, vi 0), (3, vi y3), (2, vi y2), (1, .ref 4), (0, .ref 170)]) (st2 := []) 4 (fun _ _ => rfl) ?_
        exact ((ih N2 hN2).2.1) s t 0 0 y3 y2 hE (i32_n rfl) (i32_n rfl) hy3 hy2
      · refine mq_f h10 ?_
        refine pr_if2f rfl rfl h9 (i32_n rfl) h10 ?_
        refine pr_n (pc2 := 61) (lv2 := [(5, vi 0), (4, vi 1), (3, vi y3), (2, vi y2), (1, .ref 4), (0, .ref 170)]) (st2 := []) 5 (fun _ _ => rfl) ?_
        exact ((ih N2 hN2).2.1) s t 0 1 y3 y2 hE (i32_n rfl) (i32_n rfl) hy3 hy2
set_option maxHeartbeats 20000000 in
set_option maxRecDepth 100000 in
theorem ru126_1 {N K d C : Nat} (ih : ∀ N2, N2 < N → rA126 N2 K d C) : rU126_1 N K d C := by
  intro s t y5 y4 y3 y2 hE hy5 hy4 hy3 hy2
  have hC : C = 177 ∨ C = 186 := hE.1
  rw [rG_126_61]
  unfold rM126_61
  refine pr_lt (pc2 := 63) (lv2 := [(5, vi y5), (4, vi y4), (3, vi y3), (2, vi y2), (1, .ref 4), (0, .ref 170)]) (st2 := [vi y5]) (fun _ _ => rfl) fun N2 hN2 => ?_
  refine pr_n (pc2 := 64) (lv2 := [(5, vi y5), (4, vi y4), (3, vi y3), (2, vi y2), (1, .ref 4), (0, .ref 170)]) (st2 := [vi y2, vi y5]) 1 (fun _ _ => rfl) ?_
  by_cases h1 : y2 ≤ y5
  · refine mq_t h1 ?_
    refine pr_if2t rfl rfl hy5 hy2 h1 ?_
    refine pr_n (pc2 := 112) (lv2 := [(5, vi y5), (4, vi y4), (3, vi y3), (2, vi y2), (1, .ref 4), (0, .ref 170)]) (st2 := [vi y4]) 1 (fun _ _ => rfl) ?_
    by_cases h2 : y4 = 0
    · refine mq_t h2 ?_
      refine pr_if1t rfl rfl hy4 h2 ?_
      refine pr_incw (a := y3) rfl rfl ?_
      show pr N2 K d tb_M126 120 [(3, vi (ipl y3 1)), (5, vi y5), (4, vi y4), (2, vi y2), (1, .ref 4), (0, .ref 170)] [] s _
      have h3 : i32 (ipl y3 1) := i32_in _
      refine pr_n (pc2 := 15) (lv2 := [(3, vi (ipl y3 1)), (5, vi y5), (4, vi y4), (2, vi y2), (1, .ref 4), (0, .ref 170)]) (st2 := []) 1 (fun _ _ => rfl) ?_
      exact ((ih N2 hN2).2.2) s t (ipl y3 1) y5 y4 y2 hE h3 hy5 hy4 hy2
    · refine mq_f h2 ?_
      refine pr_if1f rfl rfl hy4 h2 ?_
      refine pr_n (pc2 := 116) (lv2 := [(5, vi y5), (4, vi y4), (3, vi y3), (2, vi y2), (1, .ref 4), (0, .ref 170)]) (st2 := [vi 1]) 1 (fun _ _ => rfl) ?_
      refine pr_end (fun _ _ => rfl) ?_
      exact .inl ⟨_, 1, _, rfl, ⟨rfl, (by decide)⟩, rfl, hE⟩
  · refine mq_f h1 ?_
    refine pr_if2f rfl rfl hy5 hy2 h1 ?_
    refine pr_n (pc2 := 69) (lv2 := [(5, vi y5), (4, vi y4), (3, vi y3), (2, vi y2), (1, .ref 4), (0, .ref 170)]) (st2 := [vi y4]) 1 (fun _ _ => rfl) ?_
    by_cases h4 : y4 = 0
    · refine mq_t h4 ?_
      refine pr_if1t rfl rfl hy4 h4 ?_
      refine pr_n (pc2 := 112) (lv2 := [(5, vi y5), (4, vi y4), (3, vi y3), (2, vi y2), (1, .ref 4), (0, .ref 170)]) (st2 := [vi y4]) 1 (fun _ _ => rfl) ?_
      refine pr_if1t rfl rfl hy4 (show y4 = 0 by omega) ?_
      show pr N2 K d tb_M126 117 [(5, vi y5), (4, vi y4), (3, vi y3), (2, vi y2), (1, .ref 4), (0, .ref 170)] [] s _
      refine pr_incw (a := y3) rfl rfl ?_
      show pr N2 K d tb_M126 120 [(3, vi (ipl y3 1)), (5, vi y5), (4, vi y4), (2, vi y2), (1, .ref 4), (0, .ref 170)] [] s _
      have h5 : i32 (ipl y3 1) := i32_in _
      refine pr_n (pc2 := 15) (lv2 := [(3, vi (ipl y3 1)), (5, vi y5), (4, vi y4), (2, vi y2), (1, .ref 4), (0, .ref 170)]) (st2 := []) 1 (fun _ _ => rfl) ?_
      exact ((ih N2 hN2).2.2) s t (ipl y3 1) y5 y4 y2 hE h5 hy5 hy4 hy2
    · refine mq_f h4 ?_
      refine pr_if1f rfl rfl hy4 h4 ?_
      refine pr_n (pc2 := 75) (lv2 := [(5, vi y5), (4, vi y4), (3, vi y3), (2, vi y2), (1, .ref 4), (0, .ref 170)]) (st2 := [vi 1, vi y3, .ref 4]) 3 (fun _ _ => rfl) ?_
      refine pr_i2 (a := y3) (b := 1) rfl rfl ?_
      show pr N2 K d tb_M126 76 [(5, vi y5), (4, vi y4), (3, vi y3), (2, vi y2), (1, .ref 4), (0, .ref 170)] [vi (ipl y3 1), .ref 4] s _
      have h6 : i32 (ipl y3 1) := i32_in _
      refine pr_n (pc2 := 78) (lv2 := [(5, vi y5), (4, vi y4), (3, vi y3), (2, vi y2), (1, .ref 4), (0, .ref 170)]) (st2 := [vi y5, vi (ipl y3 1), .ref 4]) 1 (fun _ _ => rfl) ?_
      refine pr_i2 (a := ipl y3 1) (b := y5) rfl rfl ?_
      show pr N2 K d tb_M126 79 [(5, vi y5), (4, vi y4), (3, vi y3), (2, vi y2), (1, .ref 4), (0, .ref 170)] [vi (ipl (ipl y3 1) y5), .ref 4] s _
      have h7 : i32 (ipl (ipl y3 1) y5) := i32_in _
      refine pr_t4 (args := [vi (ipl (ipl y3 1) y5)]) (rest := []) rfl rfl rfl isX_4.1.1 (Nat.le_of_ble_eq_true rfl) rfl (tx_chr isX_4 h7) ?_
      show pr N2 K d tb_M126 82 [(5, vi y5), (4, vi y4), (3, vi y3), (2, vi y2), (1, .ref 4), (0, .ref 170)] [vi (txc (4 : Int) (ipl (ipl y3 1) y5))] s _
      have h8 : i32 (txc (4 : Int) (ipl (ipl y3 1) y5)) := (txc_i32 isX_4)
      refine pr_n (pc2 := 83) (lv2 := [(5, vi y5), (4, vi y4), (3, vi y3), (2, vi y2), (1, .ref 4), (0, .ref 170)]) (st2 := [.ref 170, vi (txc (4 : Int) (ipl (ipl y3 1) y5))]) 1 (fun _ _ => rfl) ?_
      refine pr_get (v := .ref 171) rfl rfl rfl (by decide) (rv_ref (hE.2.1 170 0 171 rfl)) fun _ => ?_
      refine pr_n (pc2 := 87) (lv2 := [(5, vi y5), (4, vi y4), (3, vi y3), (2, vi y2), (1, .ref 4), (0, .ref 170)]) (st2 := [.ref 170, .ref 171, vi (txc (4 : Int) (ipl (ipl y3 1) y5))]) 1 (fun _ _ => rfl) ?_
      refine pr_gE (k2 := 170) (v := vi (t 170 5)) hE rfl rfl rfl (by decide) rfl rfl rfl fun h9 => ?_
      have h9 : i32 (t 170 5) := h9
      refine pr_n (pc2 := 92) (lv2 := [(5, vi y5), (4, vi y4), (3, vi y3), (2, vi y2), (1, .ref 4), (0, .ref 170)]) (st2 := [vi y5, vi (t 170 5), .ref 171, vi (txc (4 : Int) (ipl (ipl y3 1) y5))]) 1 (fun _ _ => rfl) ?_
      refine pr_i2 (a := t 170 5) (b := y5) rfl rfl ?_
      show pr N2 K d tb_M126 93 [(5, vi y5), (4, vi y4), (3, vi y3), (2, vi y2), (1, .ref 4), (0, .ref 170)] [vi (ipl (t 170 5) y5), .ref 171, vi (txc (4 : Int) (ipl (ipl y3 1) y5))] s _
      have h10 : i32 (ipl (t 170 5) y5) := i32_in _
      refine pr_aE (k2 := 171) (a := ipl (t 170 5) y5) (v := vi (t 171 ((ipl (t 170 5) y5).toNat))) hE rfl rfl rfl h10 (by decide) rfl rfl rfl fun h12 h13 h11 => ?_
      have h11 : -128 ≤ t 171 ((ipl (t 170 5) y5).toNat) ∧ t 171 ((ipl (t 170 5) y5).toNat) ≤ 127 := h11
      by_cases h14 : txc (4 : Int) (ipl (ipl y3 1) y5) ≠ t 171 ((ipl (t 170 5) y5).toNat)
      · refine mq_t h14 ?_
        refine pr_if2t rfl rfl h8 (i32_b h11) h14 ?_
        refine pr_n (pc2 := 104) (lv2 := [(4, vi 0), (5, vi y5), (3, vi y3), (2, vi y2), (1, .ref 4), (0, .ref 170)]) (st2 := []) 2 (fun _ _ => rfl) ?_
        refine pr_inc (a := y5) rfl rfl ?_
        have h15 : i32 (y5 + 1) := by unfold i32 at *; omega
        show pr N2 K d tb_M126 107 [(5, vi (y5 + 1)), (4, vi 0), (3, vi y3), (2, vi y2), (1, .ref 4), (0, .ref 170)] [] s _
        refine pr_n (pc2 := 61) (lv2 := [(5, vi (y5 + 1)), (4, vi 0), (3, vi y3), (2, vi y2), (1, .ref 4), (0, .ref 170)]) (st2 := []) 1 (fun _ _ => rfl) ?_
        exact ((ih N2 hN2).2.1) s t (y5 + 1) 0 y3 y2 hE h15 (i32_n rfl) hy3 hy2
      · refine mq_f h14 ?_
        refine pr_if2f rfl rfl h8 (i32_b h11) h14 ?_
        refine pr_n (pc2 := 104) (lv2 := [(4, vi 1), (5, vi y5), (3, vi y3), (2, vi y2), (1, .ref 4), (0, .ref 170)]) (st2 := []) 3 (fun _ _ => rfl) ?_
        refine pr_inc (a := y5) rfl rfl ?_
        have h16 : i32 (y5 + 1) := by unfold i32 at *; omega
        show pr N2 K d tb_M126 107 [(5, vi (y5 + 1)), (4, vi 1), (3, vi y3), (2, vi y2), (1, .ref 4), (0, .ref 170)] [] s _
        refine pr_n (pc2 := 61) (lv2 := [(5, vi (y5 + 1)), (4, vi 1), (3, vi y3), (2, vi y2), (1, .ref 4), (0, .ref 170)]) (st2 := []) 1 (fun _ _ => rfl) ?_
        exact ((ih N2 hN2).2.1) s t (y5 + 1) 1 y3 y2 hE h16 (i32_n rfl) hy3 hy2
set_option maxHeartbeats 20000000 in
set_option maxRecDepth 100000 in
theorem ru126_2 {N K d C : Nat} (ih : ∀ N2, N2 < N → rA126 N2 K d C) : rU126_2 N K d C := by
  intro s t y3 y5 y4 y2 hE hy3 hy5 hy4 hy2
  have hC : C = 177 ∨ C = 186 := hE.1
  rw [rG_126_15]
  unfold rM126_15
  refine pr_lt (pc2 := 16) (lv2 := [(3, vi y3), (5, vi y5), (4, vi y4), (2, vi y2), (1, .ref 4), (0, .ref 170)]) (st2 := [vi y3]) (fun _ _ => rfl) fun N2 hN2 => ?_
  refine pr_n (pc2 := 17) (lv2 := [(3, vi y3), (5, vi y5), (4, vi y4), (2, vi y2), (1, .ref 4), (0, .ref 170)]) (st2 := [vi y2, vi y3]) 1 (fun _ _ => rfl) ?_
  refine pr_i2 (a := y3) (b := y2) rfl rfl ?_
  show pr N2 K d tb_M126 18 [(3, vi y3), (5, vi y5), (4, vi y4), (2, vi y2), (1, .ref 4), (0, .ref 170)] [vi (ipl y3 y2)] s _
  have h1 : i32 (ipl y3 y2) := i32_in _
  refine pr_n (pc2 := 19) (lv2 := [(3, vi y3), (5, vi y5), (4, vi y4), (2, vi y2), (1, .ref 4), (0, .ref 170)]) (st2 := [vi 1, vi (ipl y3 y2)]) 1 (fun _ _ => rfl) ?_
  refine pr_i2 (a := ipl y3 y2) (b := 1) rfl rfl ?_
  show pr N2 K d tb_M126 20 [(3, vi y3), (5, vi y5), (4, vi y4), (2, vi y2), (1, .ref 4), (0, .ref 170)] [vi (ipl (ipl y3 y2) 1)] s _
  have h2 : i32 (ipl (ipl y3 y2) 1) := i32_in _
  refine pr_n (pc2 := 21) (lv2 := [(3, vi y3), (5, vi y5), (4, vi y4), (2, vi y2), (1, .ref 4), (0, .ref 170)]) (st2 := [.ref 4, vi (ipl (ipl y3 y2) 1)]) 1 (fun _ _ => rfl) ?_
  refine pr_t4 (args := []) (rest := [vi (ipl (ipl y3 y2) 1)]) rfl rfl rfl isX_4.1.1 (Nat.le_of_ble_eq_true rfl) rfl (tx_len isX_4) ?_
  show pr N2 K d tb_M126 24 [(3, vi y3), (5, vi y5), (4, vi y4), (2, vi y2), (1, .ref 4), (0, .ref 170)] [vi (txn (4 : Int)), vi (ipl (ipl y3 y2) 1)] s _
  have h3 : i32 (txn (4 : Int)) := (txn_i32 isX_4)
  by_cases h4 : txn (4 : Int) ≤ ipl (ipl y3 y2) 1
  · refine mq_t h4 ?_
    refine pr_if2t rfl rfl h2 h3 h4 ?_
    refine pr_n (pc2 := 124) (lv2 := [(3, vi y3), (5, vi y5), (4, vi y4), (2, vi y2), (1, .ref 4), (0, .ref 170)]) (st2 := [vi 0]) 1 (fun _ _ => rfl) ?_
    refine pr_end (fun _ _ => rfl) ?_
    exact .inl ⟨_, 0, _, rfl, ⟨rfl, (by decide)⟩, rfl, hE⟩
  · refine mq_f h4 ?_
    refine pr_if2f rfl rfl h2 h3 h4 ?_
    refine pr_n (pc2 := 29) (lv2 := [(3, vi y3), (5, vi y5), (4, vi y4), (2, vi y2), (1, .ref 4), (0, .ref 170)]) (st2 := [vi y3, .ref 4]) 2 (fun _ _ => rfl) ?_
    refine pr_t4 (args := [vi y3]) (rest := []) rfl rfl rfl isX_4.1.1 (Nat.le_of_ble_eq_true rfl) rfl (tx_chr isX_4 hy3) ?_
    show pr N2 K d tb_M126 32 [(3, vi y3), (5, vi y5), (4, vi y4), (2, vi y2), (1, .ref 4), (0, .ref 170)] [vi (txc (4 : Int) y3)] s _
    have h5 : i32 (txc (4 : Int) y3) := (txc_i32 isX_4)
    refine pr_n (pc2 := 34) (lv2 := [(3, vi y3), (5, vi y5), (4, vi y4), (2, vi y2), (1, .ref 4), (0, .ref 170)]) (st2 := [vi 32, vi (txc (4 : Int) y3)]) 1 (fun _ _ => rfl) ?_
    by_cases h6 : txc (4 : Int) y3 ≠ 32
    · refine mq_t h6 ?_
      refine pr_if2t rfl rfl h5 (i32_n rfl) h6 ?_
      refine pr_n (pc2 := 61) (lv2 := [(5, vi 0), (4, vi 0), (3, vi y3), (2, vi y2), (1, .ref 4), (0, .ref 170)]) (st2 := []) 4 (fun _ _ => rfl) ?_
      exact ((ih N2 hN2).2.1) s t 0 0 y3 y2 hE (i32_n rfl) (i32_n rfl) hy3 hy2
    · refine mq_f h6 ?_
      refine pr_if2f rfl rfl h5 (i32_n rfl) h6 ?_
      refine pr_n (pc2 := 40) (lv2 := [(3, vi y3), (5, vi y5), (4, vi y4), (2, vi y2), (1, .ref 4), (0, .ref 170)]) (st2 := [vi y2, vi y3, .ref 4]) 3 (fun _ _ => rfl) ?_
      refine pr_i2 (a := y3) (b := y2) rfl rfl ?_
      show pr N2 K d tb_M126 41 [(3, vi y3), (5, vi y5), (4, vi y4), (2, vi y2), (1, .ref 4), (0, .ref 170)] [vi (ipl y3 y2), .ref 4] s _
      refine pr_n (pc2 := 42) (lv2 := [(3, vi y3), (5, vi y5), (4, vi y4), (2, vi y2), (1, .ref 4), (0, .ref 170)]) (st2 := [vi 1, vi (ipl y3 y2), .ref 4]) 1 (fun _ _ => rfl) ?_
      refine pr_i2 (a := ipl y3 y2) (b := 1) rfl rfl ?_
      show pr N2 K d tb_M126 43 [(3, vi y3), (5, vi y5), (4, vi y4), (2, vi y2), (1, .ref 4), (0, .ref 170)] [vi (ipl (ipl y3 y2) 1), .ref 4] s _
      refine pr_t4 (args := [vi (ipl (ipl y3 y2) 1)]) (rest := []) rfl rfl rfl isX_4.1.1 (Nat.le_of_ble_eq_true rfl) rfl (tx_chr isX_4 h2) ?_
      show pr N2 K d tb_M126 46 [(3, vi y3), (5, vi y5), (4, vi y4), (2, vi y2), (1, .ref 4), (0, .ref 170)] [vi (txc (4 : Int) (ipl (ipl y3 y2) 1))] s _
      have h9 : i32 (txc (4 : Int) (ipl (ipl y3 y2) 1)) := (txc_i32 isX_4)
      refine pr_n (pc2 := 48) (lv2 := [(3, vi y3), (5, vi y5), (4, vi y4), (2, vi y2), (1, .ref 4), (0, .ref 170)]) (st2 := [vi 32, vi (txc (4 : Int) (ipl (ipl y3 y2) 1))]) 1 (fun _ _ => rfl) ?_
      by_cases h10 : txc (4 : Int) (ipl (ipl y3 y2) 1) ≠ 32
      · refine mq_t h10 ?_
        refine pr_if2t rfl rfl h9 (i32_n rfl) h10 ?_
        refine pr_n (pc2 := 61) (lv2 := [(5, vi 0), (4, vi 0), (3, vi y3), (2, vi y2), (1, .ref 4), (0, .ref 170)]) (st2 := []) 4 (fun _ _ => rfl) ?_
        exact ((ih N2 hN2).2.1) s t 0 0 y3 y2 hE (i32_n rfl) (i32_n rfl) hy3 hy2
      · refine mq_f h10 ?_
        refine pr_if2f rfl rfl h9 (i32_n rfl) h10 ?_
        refine pr_n (pc2 := 61) (lv2 := [(5, vi 0), (4, vi 1), (3, vi y3), (2, vi y2), (1, .ref 4), (0, .ref 170)]) (st2 := []) 5 (fun _ _ => rfl) ?_
        exact ((ih N2 hN2).2.1) s t 0 1 y3 y2 hE (i32_n rfl) (i32_n rfl) hy3 hy2
theorem ra126 {K d C : Nat} : ∀ N, rA126 N K d C := by
  intro N
  induction N using Nat.strongRecOn with | ind N ih => ?_
  exact ⟨ru126_0 ih, ru126_1 ih, ru126_2 ih⟩
set_option maxHeartbeats 20000000 in
set_option maxRecDepth 100000 in
theorem rm126 {K d C : Nat} : rT126 K (d + 1) C := by
  intro s t  hE 
  have hC : C = 177 ∨ C = 186 := hE.1
  refine pcr_of (M := tb_M126) rfl ?_
  show pr K K d tb_M126 0 [(0, .ref 170)] [] s _
  rw [rG_126]
  unfold rM126
  refine pr_n (pc2 := 4) (lv2 := [(1, .ref 4), (0, .ref 170)]) (st2 := [.ref 170]) 3 (fun _ _ => rfl) ?_
  refine pr_gE (k2 := 170) (v := vi (t 170 6)) hE rfl rfl rfl (by decide) rfl rfl rfl fun h1 => ?_
  have h1 : i32 (t 170 6) := h1
  refine pr_n (pc2 := 8) (lv2 := [(1, .ref 4), (0, .ref 170)]) (st2 := [.ref 170, vi (t 170 6)]) 1 (fun _ _ => rfl) ?_
  refine pr_gE (k2 := 170) (v := vi (t 170 5)) hE rfl rfl rfl (by decide) rfl rfl rfl fun h2 => ?_
  have h2 : i32 (t 170 5) := h2
  refine pr_i2 (a := t 170 6) (b := t 170 5) rfl rfl ?_
  show pr K K d tb_M126 12 [(1, .ref 4), (0, .ref 170)] [vi (imi (t 170 6) (t 170 5))] s _
  have h3 : i32 (imi (t 170 6) (t 170 5)) := i32_in _
  refine pr_n (pc2 := 15) (lv2 := [(3, vi 0), (2, vi (imi (t 170 6) (t 170 5))), (1, .ref 4), (0, .ref 170)]) (st2 := []) 3 (fun _ _ => rfl) ?_
  exact ((ra126 K).1) s t 0 (imi (t 170 6) (t 170 5)) hE (i32_n rfl) h3
set_option maxHeartbeats 20000000 in
set_option maxRecDepth 100000 in
theorem ru123_0 {N K d C : Nat} (h_124 : rT124 K d C) (h_125 : rT125 K d C) (h_126 : rT126 K d C) (ih : ∀ N2, N2 < N → rA123 N2 K d C) : rU123_0 N K d C := by
  intro s t  hE 
  have hC : C = 177 ∨ C = 186 := hE.1
  rw [rG_123_99999]
  unfold rM123_99999
  refine pr_lt (pc2 := 1) (lv2 := [(0, .ref 170)]) (st2 := [.ref 170]) (fun _ _ => rfl) fun N2 hN2 => ?_
  refine pr_gE (k2 := 170) (v := vi (t 170 3)) hE rfl rfl rfl (by decide) rfl rfl rfl fun h1 => ?_
  have h1 : i32 (t 170 3) := h1
  refine pr_n (pc2 := 5) (lv2 := [(0, .ref 170)]) (st2 := [.ref 170, vi (t 170 3)]) 1 (fun _ _ => rfl) ?_
  refine pr_gE (k2 := 170) (v := vi (t 170 2)) hE rfl rfl rfl (by decide) rfl rfl rfl fun h2 => ?_
  have h2 : i32 (t 170 2) := h2
  by_cases h3 : t 170 2 ≤ t 170 3
  · refine mq_t h3 ?_
    refine pr_if2t rfl rfl h1 h2 h3 ?_
    refine pr_n (pc2 := 54) (lv2 := [(0, .ref 170)]) (st2 := [.ref 170, .ref 170]) 2 (fun _ _ => rfl) ?_
    refine pr_gE (k2 := 170) (v := vi (t 170 3)) hE rfl rfl rfl (by decide) rfl rfl rfl fun h4 => ?_
    have h4 : i32 (t 170 3) := h4
    refine pr_pE (k2 := 170) (z := t 170 3) hE rfl rfl rfl rfl (by decide) rfl (by decide) rfl (show i32 (t 170 3) from h4) (hf_int' _) rfl rfl rfl (fun e => absurd e.2 (by decide)) (fun _ => trivial) fun s5 hE5 => ?_
    refine pr_n (pc2 := 61) (lv2 := [(0, .ref 170)]) (st2 := [.ref 170]) 1 (fun _ _ => rfl) ?_
    refine pr_gE (k2 := 170) (v := vi (t 170 3)) hE5 rfl rfl rfl (by decide) rfl rfl rfl fun h6 => ?_
    have h6 : i32 (t 170 3) := h6
    refine pr_n (pc2 := 65) (lv2 := [(0, .ref 170)]) (st2 := [.ref 170, vi (t 170 3)]) 1 (fun _ _ => rfl) ?_
    refine pr_gE (k2 := 170) (v := vi (t 170 2)) hE5 rfl rfl rfl (by decide) rfl rfl rfl fun h7 => ?_
    have h7 : i32 (t 170 2) := h7
    by_cases h8 : t 170 3 ≠ t 170 2
    · refine mq_t h8 ?_
      refine pr_if2t rfl rfl h6 h7 h8 ?_
      refine pr_n (pc2 := 80) (lv2 := [(0, .ref 170)]) (st2 := [.ref 170]) 1 (fun _ _ => rfl) ?_
      refine pr_get (v := .ref 171) rfl rfl rfl (by decide) (rv_ref (hE5.2.1 170 0 171 rfl)) fun _ => ?_
      refine pr_n (pc2 := 84) (lv2 := [(0, .ref 170)]) (st2 := [.ref 170, .ref 171]) 1 (fun _ _ => rfl) ?_
      refine pr_gE (k2 := 170) (v := vi (t 170 3)) hE5 rfl rfl rfl (by decide) rfl rfl rfl fun h9 => ?_
      have h9 : i32 (t 170 3) := h9
      refine pr_aE (k2 := 171) (a := t 170 3) (v := vi (t 171 ((t 170 3).toNat))) hE5 rfl rfl rfl h9 (by decide) rfl rfl rfl fun h11 h12 h10 => ?_
      have h10 : -128 ≤ t 171 ((t 170 3).toNat) ∧ t 171 ((t 170 3).toNat) ≤ 127 := h10
      refine pr_s0 (args := [vi (t 171 ((t 170 3).toNat))]) (rest := []) rfl rfl rfl (Nat.le_of_ble_eq_true rfl) rfl (h_124 s5 (up2 t 170 5 (t 170 3)) (t 171 ((t 170 3).toNat)) hE5 (i32_b h10)) q_ltz ?_
      rintro _ s13 ⟨rfl, hz13⟩ hE13
      show pr N2 K d tb_M123 91 [(0, .ref 170)] [vi (ltz (t 171 ((t 170 3).toNat)))] s13 _
      by_cases h14 : ltz (t 171 ((t 170 3).toNat)) = 0
      · refine mq_t h14 ?_
        refine pr_if1t rfl rfl (i32_z hz13) h14 ?_
        refine pr_n (pc2 := 194) (lv2 := [(0, .ref 170)]) (st2 := [.ref 170]) 1 (fun _ _ => rfl) ?_
        refine pr_get (v := .ref 171) rfl rfl rfl (by decide) (rv_ref (hE13.2.1 170 0 171 rfl)) fun _ => ?_
        refine pr_n (pc2 := 198) (lv2 := [(0, .ref 170)]) (st2 := [.ref 170, .ref 171]) 1 (fun _ _ => rfl) ?_
        refine pr_gE (k2 := 170) (v := vi (t 170 3)) hE13 rfl rfl rfl (by decide) rfl rfl rfl fun h15 => ?_
        have h15 : i32 (t 170 3) := h15
        refine pr_aE (k2 := 171) (a := t 170 3) (v := vi (t 171 ((t 170 3).toNat))) hE13 rfl rfl rfl h15 (by decide) rfl rfl rfl fun h17 h18 h16 => ?_
        have h16 : -128 ≤ t 171 ((t 170 3).toNat) ∧ t 171 ((t 170 3).toNat) ≤ 127 := h16
        refine pr_s0 (args := [vi (t 171 ((t 170 3).toNat))]) (rest := []) rfl rfl rfl (Nat.le_of_ble_eq_true rfl) rfl (h_125 s13 (up2 t 170 5 (t 170 3)) (t 171 ((t 170 3).toNat)) hE13 (i32_b h16)) q_dgz ?_
        rintro _ s19 ⟨rfl, hz19⟩ hE19
        show pr N2 K d tb_M123 205 [(0, .ref 170)] [vi (dgz (t 171 ((t 170 3).toNat)))] s19 _
        by_cases h20 : dgz (t 171 ((t 170 3).toNat)) = 0
        · refine mq_t h20 ?_
          refine pr_if1t rfl rfl (i32_z hz19) h20 ?_
          refine pr_n (pc2 := 303) (lv2 := [(0, .ref 170)]) (st2 := [.ref 170]) 1 (fun _ _ => rfl) ?_
          refine pr_get (v := .ref 171) rfl rfl rfl (by decide) (rv_ref (hE19.2.1 170 0 171 rfl)) fun _ => ?_
          refine pr_n (pc2 := 307) (lv2 := [(0, .ref 170)]) (st2 := [.ref 170, .ref 171]) 1 (fun _ _ => rfl) ?_
          refine pr_gE (k2 := 170) (v := vi (t 170 3)) hE19 rfl rfl rfl (by decide) rfl rfl rfl fun h21 => ?_
          have h21 : i32 (t 170 3) := h21
          refine pr_aE (k2 := 171) (a := t 170 3) (v := vi (t 171 ((t 170 3).toNat))) hE19 rfl rfl rfl h21 (by decide) rfl rfl rfl fun h23 h24 h22 => ?_
          have h22 : -128 ≤ t 171 ((t 170 3).toNat) ∧ t 171 ((t 170 3).toNat) ≤ 127 := h22
          refine pr_n (pc2 := 313) (lv2 := [(1, vi (t 171 ((t 170 3).toNat))), (0, .ref 170)]) (st2 := [.ref 170]) 2 (fun _ _ => rfl) ?_
          refine pr_gE (k2 := 170) (v := vi (t 170 3)) hE19 rfl rfl rfl (by decide) rfl rfl rfl fun h25 => ?_
          have h25 : i32 (t 170 3) := h25
          refine pr_n (pc2 := 317) (lv2 := [(1, vi (t 171 ((t 170 3).toNat))), (0, .ref 170)]) (st2 := [vi 1, vi (t 170 3)]) 1 (fun _ _ => rfl) ?_
          refine pr_i2 (a := t 170 3) (b := 1) rfl rfl ?_
          show pr N2 K d tb_M123 318 [(1, vi (t 171 ((t 170 3).toNat))), (0, .ref 170)] [vi (ipl (t 170 3) 1)] s19 _
          have h26 : i32 (ipl (t 170 3) 1) := i32_in _
          refine pr_n (pc2 := 319) (lv2 := [(1, vi (t 171 ((t 170 3).toNat))), (0, .ref 170)]) (st2 := [.ref 170, vi (ipl (t 170 3) 1)]) 1 (fun _ _ => rfl) ?_
          refine pr_gE (k2 := 170) (v := vi (t 170 2)) hE19 rfl rfl rfl (by decide) rfl rfl rfl fun h27 => ?_
          have h27 : i32 (t 170 2) := h27
          by_cases h28 : t 170 2 ≤ ipl (t 170 3) 1
          · refine mq_t h28 ?_
            refine pr_if2t rfl rfl h26 h27 h28 ?_
            refine pr_n (pc2 := 340) (lv2 := [(1, vi (t 171 ((t 170 3).toNat))), (0, .ref 170)]) (st2 := [vi 0]) 1 (fun _ _ => rfl) ?_
            exact ((ih N2 hN2).2.1) s19 (up2 t 170 5 (t 170 3)) (t 171 ((t 170 3).toNat)) 0 hE19 (i32_b h22) (i32_n rfl)
          · refine mq_f h28 ?_
            refine pr_if2f rfl rfl h26 h27 h28 ?_
            refine pr_n (pc2 := 326) (lv2 := [(1, vi (t 171 ((t 170 3).toNat))), (0, .ref 170)]) (st2 := [.ref 170]) 1 (fun _ _ => rfl) ?_
            refine pr_get (v := .ref 171) rfl rfl rfl (by decide) (rv_ref (hE19.2.1 170 0 171 rfl)) fun _ => ?_
            refine pr_n (pc2 := 330) (lv2 := [(1, vi (t 171 ((t 170 3).toNat))), (0, .ref 170)]) (st2 := [.ref 170, .ref 171]) 1 (fun _ _ => rfl) ?_
            refine pr_gE (k2 := 170) (v := vi (t 170 3)) hE19 rfl rfl rfl (by decide) rfl rfl rfl fun h29 => ?_
            have h29 : i32 (t 170 3) := h29
            refine pr_n (pc2 := 334) (lv2 := [(1, vi (t 171 ((t 170 3).toNat))), (0, .ref 170)]) (st2 := [vi 1, vi (t 170 3), .ref 171]) 1 (fun _ _ => rfl) ?_
            refine pr_i2 (a := t 170 3) (b := 1) rfl rfl ?_
            show pr N2 K d tb_M123 335 [(1, vi (t 171 ((t 170 3).toNat))), (0, .ref 170)] [vi (ipl (t 170 3) 1), .ref 171] s19 _
            refine pr_aE (k2 := 171) (a := ipl (t 170 3) 1) (v := vi (t 171 ((ipl (t 170 3) 1).toNat))) hE19 rfl rfl rfl h26 (by decide) rfl rfl rfl fun h32 h33 h31 => ?_
            have h31 : -128 ≤ t 171 ((ipl (t 170 3) 1).toNat) ∧ t 171 ((ipl (t 170 3) 1).toNat) ≤ 127 := h31
            refine pr_n (pc2 := 340) (lv2 := [(1, vi (t 171 ((t 170 3).toNat))), (0, .ref 170)]) (st2 := [vi (t 171 ((ipl (t 170 3) 1).toNat))]) 1 (fun _ _ => rfl) ?_
            exact ((ih N2 hN2).2.1) s19 (up2 t 170 5 (t 170 3)) (t 171 ((t 170 3).toNat)) (t 171 ((ipl (t 170 3) 1).toNat)) hE19 (i32_b h22) (i32_b h31)
        · refine mq_f h20 ?_
          refine pr_if1f rfl rfl (i32_z hz19) h20 ?_
          refine pr_n (pc2 := 210) (lv2 := [(0, .ref 170)]) (st2 := [vi 0, .ref 170]) 2 (fun _ _ => rfl) ?_
          refine pr_pE (k2 := 170) (z := 0) hE19 rfl rfl rfl rfl (by decide) rfl (by decide) rfl (show i32 (0) from (i32_n rfl)) (hf_int' _) rfl rfl rfl (fun e => absurd e.2 (by decide)) (fun _ => trivial) fun s34 hE34 => ?_
          exact ((ih N2 hN2).2.2.1) s34 (up2 (up2 t 170 5 (t 170 3)) 170 7 0)  hE34 
      · refine mq_f h14 ?_
        refine pr_if1f rfl rfl (i32_z hz13) h14 ?_
        exact ((ih N2 hN2).2.2.2.1) s13 (up2 t 170 5 (t 170 3))  hE13 
    · refine mq_f h8 ?_
      refine pr_if2f rfl rfl h6 h7 h8 ?_
      refine pr_n (pc2 := 73) (lv2 := [(0, .ref 170)]) (st2 := [vi 0, .ref 170]) 2 (fun _ _ => rfl) ?_
      refine pr_pE (k2 := 170) (z := 0) hE5 rfl rfl rfl rfl (by decide) rfl (by decide) rfl (show i32 (0) from (i32_n rfl)) (hf_int' _) rfl rfl rfl (fun e => absurd e.2 (by decide)) (fun _ => trivial) fun s35 hE35 => ?_
      refine pr_n (pc2 := 585) (lv2 := [(0, .ref 170)]) (st2 := [.ref 170, .ref 170]) 3 (fun _ _ => rfl) ?_
      refine pr_gE (k2 := 170) (v := vi (t 170 3)) hE35 rfl rfl rfl (by decide) rfl rfl rfl fun h36 => ?_
      have h36 : i32 (t 170 3) := h36
      refine pr_pE (k2 := 170) (z := t 170 3) hE35 rfl rfl rfl rfl (by decide) rfl (by decide) rfl (show i32 (t 170 3) from h36) (hf_int' _) rfl rfl rfl (fun e => absurd e.2 (by decide)) (fun _ => trivial) fun s37 hE37 => ?_
      refine pr_end (fun _ _ => rfl) ?_
      exact .inl ⟨_, 0, _, rfl, ⟨rfl, rfl⟩, rfl, hE37⟩
  · refine mq_f h3 ?_
    refine pr_if2f rfl rfl h1 h2 h3 ?_
    refine pr_n (pc2 := 12) (lv2 := [(0, .ref 170)]) (st2 := [.ref 170]) 1 (fun _ _ => rfl) ?_
    refine pr_get (v := .ref 171) rfl rfl rfl (by decide) (rv_ref (hE.2.1 170 0 171 rfl)) fun _ => ?_
    refine pr_n (pc2 := 16) (lv2 := [(0, .ref 170)]) (st2 := [.ref 170, .ref 171]) 1 (fun _ _ => rfl) ?_
    refine pr_gE (k2 := 170) (v := vi (t 170 3)) hE rfl rfl rfl (by decide) rfl rfl rfl fun h38 => ?_
    have h38 : i32 (t 170 3) := h38
    refine pr_aE (k2 := 171) (a := t 170 3) (v := vi (t 171 ((t 170 3).toNat))) hE rfl rfl rfl h38 (by decide) rfl rfl rfl fun h40 h41 h39 => ?_
    have h39 : -128 ≤ t 171 ((t 170 3).toNat) ∧ t 171 ((t 170 3).toNat) ≤ 127 := h39
    refine pr_n (pc2 := 22) (lv2 := [(0, .ref 170)]) (st2 := [vi 32, vi (t 171 ((t 170 3).toNat))]) 1 (fun _ _ => rfl) ?_
    by_cases h42 : t 171 ((t 170 3).toNat) = 32
    · refine mq_t h42 ?_
      refine pr_if2t rfl rfl (i32_b h39) (i32_n rfl) h42 ?_
      refine pr_n (pc2 := 41) (lv2 := [(0, .ref 170)]) (st2 := [.ref 170, .ref 170]) 2 (fun _ _ => rfl) ?_
      refine pr_gE (k2 := 170) (v := vi (t 170 3)) hE rfl rfl rfl (by decide) rfl rfl rfl fun h43 => ?_
      have h43 : i32 (t 170 3) := h43
      refine pr_n (pc2 := 45) (lv2 := [(0, .ref 170)]) (st2 := [vi 1, vi (t 170 3), .ref 170]) 1 (fun _ _ => rfl) ?_
      refine pr_i2 (a := t 170 3) (b := 1) rfl rfl ?_
      show pr N2 K d tb_M123 46 [(0, .ref 170)] [vi (ipl (t 170 3) 1), .ref 170] s _
      have h44 : i32 (ipl (t 170 3) 1) := i32_in _
      refine pr_pE (k2 := 170) (z := ipl (t 170 3) 1) hE rfl rfl rfl rfl (by decide) rfl (by decide) rfl (show i32 (ipl (t 170 3) 1) from h44) (hf_int' _) rfl rfl rfl (fun e => absurd e.2 (by decide)) (fun _ => trivial) fun s45 hE45 => ?_
      refine pr_n (pc2 := 0) (lv2 := [(0, .ref 170)]) (st2 := []) 1 (fun _ _ => rfl) ?_
      exact ((ih N2 hN2).1) s45 (up2 t 170 3 (ipl (t 170 3) 1))  hE45 
    · refine mq_f h42 ?_
      refine pr_if2f rfl rfl (i32_b h39) (i32_n rfl) h42 ?_
      refine pr_n (pc2 := 26) (lv2 := [(0, .ref 170)]) (st2 := [.ref 170]) 1 (fun _ _ => rfl) ?_
      refine pr_get (v := .ref 171) rfl rfl rfl (by decide) (rv_ref (hE.2.1 170 0 171 rfl)) fun _ => ?_
      refine pr_n (pc2 := 30) (lv2 := [(0, .ref 170)]) (st2 := [.ref 170, .ref 171]) 1 (fun _ _ => rfl) ?_
      refine pr_gE (k2 := 170) (v := vi (t 170 3)) hE rfl rfl rfl (by decide) rfl rfl rfl fun h46 => ?_
      have h46 : i32 (t 170 3) := h46
      refine pr_aE (k2 := 171) (a := t 170 3) (v := vi (t 171 ((t 170 3).toNat))) hE rfl rfl rfl h46 (by decide) rfl rfl rfl fun h48 h49 h47 => ?_
      have h47 : -128 ≤ t 171 ((t 170 3).toNat) ∧ t 171 ((t 170 3).toNat) ≤ 127 := h47
      refine pr_n (pc2 := 36) (lv2 := [(0, .ref 170)]) (st2 := [vi 10, vi (t 171 ((t 170 3).toNat))]) 1 (fun _ _ => rfl) ?_
      by_cases h50 : t 171 ((t 170 3).toNat) ≠ 10
      · refine mq_t h50 ?_
        refine pr_if2t rfl rfl (i32_b h47) (i32_n rfl) h50 ?_
        refine pr_n (pc2 := 54) (lv2 := [(0, .ref 170)]) (st2 := [.ref 170, .ref 170]) 2 (fun _ _ => rfl) ?_
        refine pr_gE (k2 := 170) (v := vi (t 170 3)) hE rfl rfl rfl (by decide) rfl rfl rfl fun h51 => ?_
        have h51 : i32 (t 170 3) := h51
        refine pr_pE (k2 := 170) (z := t 170 3) hE rfl rfl rfl rfl (by decide) rfl (by decide) rfl (show i32 (t 170 3) from h51) (hf_int' _) rfl rfl rfl (fun e => absurd e.2 (by decide)) (fun _ => trivial) fun s52 hE52 => ?_
        refine pr_n (pc2 := 61) (lv2 := [(0, .ref 170)]) (st2 := [.ref 170]) 1 (fun _ _ => rfl) ?_
        refine pr_gE (k2 := 170) (v := vi (t 170 3)) hE52 rfl rfl rfl (by decide) rfl rfl rfl fun h53 => ?_
        have h53 : i32 (t 170 3) := h53
        refine pr_n (pc2 := 65) (lv2 := [(0, .ref 170)]) (st2 := [.ref 170, vi (t 170 3)]) 1 (fun _ _ => rfl) ?_
        refine pr_gE (k2 := 170) (v := vi (t 170 2)) hE52 rfl rfl rfl (by decide) rfl rfl rfl fun h54 => ?_
        have h54 : i32 (t 170 2) := h54
        by_cases h55 : t 170 3 ≠ t 170 2
        · refine mq_t h55 ?_
          refine pr_if2t rfl rfl h53 h54 h55 ?_
          refine pr_n (pc2 := 80) (lv2 := [(0, .ref 170)]) (st2 := [.ref 170]) 1 (fun _ _ => rfl) ?_
          refine pr_get (v := .ref 171) rfl rfl rfl (by decide) (rv_ref (hE52.2.1 170 0 171 rfl)) fun _ => ?_
          refine pr_n (pc2 := 84) (lv2 := [(0, .ref 170)]) (st2 := [.ref 170, .ref 171]) 1 (fun _ _ => rfl) ?_
          refine pr_gE (k2 := 170) (v := vi (t 170 3)) hE52 rfl rfl rfl (by decide) rfl rfl rfl fun h56 => ?_
          have h56 : i32 (t 170 3) := h56
          refine pr_aE (k2 := 171) (a := t 170 3) (v := vi (t 171 ((t 170 3).toNat))) hE52 rfl rfl rfl h56 (by decide) rfl rfl rfl fun h58 h59 h57 => ?_
          have h57 : -128 ≤ t 171 ((t 170 3).toNat) ∧ t 171 ((t 170 3).toNat) ≤ 127 := h57
          refine pr_s0 (args := [vi (t 171 ((t 170 3).toNat))]) (rest := []) rfl rfl rfl (Nat.le_of_ble_eq_true rfl) rfl (h_124 s52 (up2 t 170 5 (t 170 3)) (t 171 ((t 170 3).toNat)) hE52 (i32_b h57)) q_ltz ?_
          rintro _ s60 ⟨rfl, hz60⟩ hE60
          show pr N2 K d tb_M123 91 [(0, .ref 170)] [vi (ltz (t 171 ((t 170 3).toNat)))] s60 _
          by_cases h61 : ltz (t 171 ((t 170 3).toNat)) = 0
          · refine mq_t h61 ?_
            refine pr_if1t rfl rfl (i32_z hz60) h61 ?_
            refine pr_n (pc2 := 194) (lv2 := [(0, .ref 170)]) (st2 := [.ref 170]) 1 (fun _ _ => rfl) ?_
            refine pr_get (v := .ref 171) rfl rfl rfl (by decide) (rv_ref (hE60.2.1 170 0 171 rfl)) fun _ => ?_
            refine pr_n (pc2 := 198) (lv2 := [(0, .ref 170)]) (st2 := [.ref 170, .ref 171]) 1 (fun _ _ => rfl) ?_
            refine pr_gE (k2 := 170) (v := vi (t 170 3)) hE60 rfl rfl rfl (by decide) rfl rfl rfl fun h62 => ?_
            have h62 : i32 (t 170 3) := h62
            refine pr_aE (k2 := 171) (a := t 170 3) (v := vi (t 171 ((t 170 3).toNat))) hE60 rfl rfl rfl h62 (by decide) rfl rfl rfl fun h64 h65 h63 => ?_
            have h63 : -128 ≤ t 171 ((t 170 3).toNat) ∧ t 171 ((t 170 3).toNat) ≤ 127 := h63
            refine pr_s0 (args := [vi (t 171 ((t 170 3).toNat))]) (rest := []) rfl rfl rfl (Nat.le_of_ble_eq_true rfl) rfl (h_125 s60 (up2 t 170 5 (t 170 3)) (t 171 ((t 170 3).toNat)) hE60 (i32_b h63)) q_dgz ?_
            rintro _ s66 ⟨rfl, hz66⟩ hE66
            show pr N2 K d tb_M123 205 [(0, .ref 170)] [vi (dgz (t 171 ((t 170 3).toNat)))] s66 _
            by_cases h67 : dgz (t 171 ((t 170 3).toNat)) = 0
            · refine mq_t h67 ?_
              refine pr_if1t rfl rfl (i32_z hz66) h67 ?_
              refine pr_n (pc2 := 303) (lv2 := [(0, .ref 170)]) (st2 := [.ref 170]) 1 (fun _ _ => rfl) ?_
              refine pr_get (v := .ref 171) rfl rfl rfl (by decide) (rv_ref (hE66.2.1 170 0 171 rfl)) fun _ => ?_
              refine pr_n (pc2 := 307) (lv2 := [(0, .ref 170)]) (st2 := [.ref 170, .ref 171]) 1 (fun _ _ => rfl) ?_
              refine pr_gE (k2 := 170) (v := vi (t 170 3)) hE66 rfl rfl rfl (by decide) rfl rfl rfl fun h68 => ?_
              have h68 : i32 (t 170 3) := h68
              refine pr_aE (k2 := 171) (a := t 170 3) (v := vi (t 171 ((t 170 3).toNat))) hE66 rfl rfl rfl h68 (by decide) rfl rfl rfl fun h70 h71 h69 => ?_
              have h69 : -128 ≤ t 171 ((t 170 3).toNat) ∧ t 171 ((t 170 3).toNat) ≤ 127 := h69
              refine pr_n (pc2 := 313) (lv2 := [(1, vi (t 171 ((t 170 3).toNat))), (0, .ref 170)]) (st2 := [.ref 170]) 2 (fun _ _ => rfl) ?_
              refine pr_gE (k2 := 170) (v := vi (t 170 3)) hE66 rfl rfl rfl (by decide) rfl rfl rfl fun h72 => ?_
              have h72 : i32 (t 170 3) := h72
              refine pr_n (pc2 := 317) (lv2 := [(1, vi (t 171 ((t 170 3).toNat))), (0, .ref 170)]) (st2 := [vi 1, vi (t 170 3)]) 1 (fun _ _ => rfl) ?_
              refine pr_i2 (a := t 170 3) (b := 1) rfl rfl ?_
              show pr N2 K d tb_M123 318 [(1, vi (t 171 ((t 170 3).toNat))), (0, .ref 170)] [vi (ipl (t 170 3) 1)] s66 _
              have h73 : i32 (ipl (t 170 3) 1) := i32_in _
              refine pr_n (pc2 := 319) (lv2 := [(1, vi (t 171 ((t 170 3).toNat))), (0, .ref 170)]) (st2 := [.ref 170, vi (ipl (t 170 3) 1)]) 1 (fun _ _ => rfl) ?_
              refine pr_gE (k2 := 170) (v := vi (t 170 2)) hE66 rfl rfl rfl (by decide) rfl rfl rfl fun h74 => ?_
              have h74 : i32 (t 170 2) := h74
              by_cases h75 : t 170 2 ≤ ipl (t 170 3) 1
              · refine mq_t h75 ?_
                refine pr_if2t rfl rfl h73 h74 h75 ?_
                refine pr_n (pc2 := 340) (lv2 := [(1, vi (t 171 ((t 170 3).toNat))), (0, .ref 170)]) (st2 := [vi 0]) 1 (fun _ _ => rfl) ?_
                exact ((ih N2 hN2).2.1) s66 (up2 t 170 5 (t 170 3)) (t 171 ((t 170 3).toNat)) 0 hE66 (i32_b h69) (i32_n rfl)
              · refine mq_f h75 ?_
                refine pr_if2f rfl rfl h73 h74 h75 ?_
                refine pr_n (pc2 := 326) (lv2 := [(1, vi (t 171 ((t 170 3).toNat))), (0, .ref 170)]) (st2 := [.ref 170]) 1 (fun _ _ => rfl) ?_
                refine pr_get (v := .ref 171) rfl rfl rfl (by decide) (rv_ref (hE66.2.1 170 0 171 rfl)) fun _ => ?_
                refine pr_n (pc2 := 330) (lv2 := [(1, vi (t 171 ((t 170 3).toNat))), (0, .ref 170)]) (st2 := [.ref 170, .ref 171]) 1 (fun _ _ => rfl) ?_
                refine pr_gE (k2 := 170) (v := vi (t 170 3)) hE66 rfl rfl rfl (by decide) rfl rfl rfl fun h76 => ?_
                have h76 : i32 (t 170 3) := h76
                refine pr_n (pc2 := 334) (lv2 := [(1, vi (t 171 ((t 170 3).toNat))), (0, .ref 170)]) (st2 := [vi 1, vi (t 170 3), .ref 171]) 1 (fun _ _ => rfl) ?_
                refine pr_i2 (a := t 170 3) (b := 1) rfl rfl ?_
                show pr N2 K d tb_M123 335 [(1, vi (t 171 ((t 170 3).toNat))), (0, .ref 170)] [vi (ipl (t 170 3) 1), .ref 171] s66 _
                refine pr_aE (k2 := 171) (a := ipl (t 170 3) 1) (v := vi (t 171 ((ipl (t 170 3) 1).toNat))) hE66 rfl rfl rfl h73 (by decide) rfl rfl rfl fun h79 h80 h78 => ?_
                have h78 : -128 ≤ t 171 ((ipl (t 170 3) 1).toNat) ∧ t 171 ((ipl (t 170 3) 1).toNat) ≤ 127 := h78
                refine pr_n (pc2 := 340) (lv2 := [(1, vi (t 171 ((t 170 3).toNat))), (0, .ref 170)]) (st2 := [vi (t 171 ((ipl (t 170 3) 1).toNat))]) 1 (fun _ _ => rfl) ?_
                exact ((ih N2 hN2).2.1) s66 (up2 t 170 5 (t 170 3)) (t 171 ((t 170 3).toNat)) (t 171 ((ipl (t 170 3) 1).toNat)) hE66 (i32_b h69) (i32_b h78)
            · refine mq_f h67 ?_
              refine pr_if1f rfl rfl (i32_z hz66) h67 ?_
              refine pr_n (pc2 := 210) (lv2 := [(0, .ref 170)]) (st2 := [vi 0, .ref 170]) 2 (fun _ _ => rfl) ?_
              refine pr_pE (k2 := 170) (z := 0) hE66 rfl rfl rfl rfl (by decide) rfl (by decide) rfl (show i32 (0) from (i32_n rfl)) (hf_int' _) rfl rfl rfl (fun e => absurd e.2 (by decide)) (fun _ => trivial) fun s81 hE81 => ?_
              exact ((ih N2 hN2).2.2.1) s81 (up2 (up2 t 170 5 (t 170 3)) 170 7 0)  hE81 
          · refine mq_f h61 ?_
            refine pr_if1f rfl rfl (i32_z hz60) h61 ?_
            exact ((ih N2 hN2).2.2.2.1) s60 (up2 t 170 5 (t 170 3))  hE60 
        · refine mq_f h55 ?_
          refine pr_if2f rfl rfl h53 h54 h55 ?_
          refine pr_n (pc2 := 73) (lv2 := [(0, .ref 170)]) (st2 := [vi 0, .ref 170]) 2 (fun _ _ => rfl) ?_
          refine pr_pE (k2 := 170) (z := 0) hE52 rfl rfl rfl rfl (by decide) rfl (by decide) rfl (show i32 (0) from (i32_n rfl)) (hf_int' _) rfl rfl rfl (fun e => absurd e.2 (by decide)) (fun _ => trivial) fun s82 hE82 => ?_
          refine pr_n (pc2 := 585) (lv2 := [(0, .ref 170)]) (st2 := [.ref 170, .ref 170]) 3 (fun _ _ => rfl) ?_
          refine pr_gE (k2 := 170) (v := vi (t 170 3)) hE82 rfl rfl rfl (by decide) rfl rfl rfl fun h83 => ?_
          have h83 : i32 (t 170 3) := h83
          refine pr_pE (k2 := 170) (z := t 170 3) hE82 rfl rfl rfl rfl (by decide) rfl (by decide) rfl (show i32 (t 170 3) from h83) (hf_int' _) rfl rfl rfl (fun e => absurd e.2 (by decide)) (fun _ => trivial) fun s84 hE84 => ?_
          refine pr_end (fun _ _ => rfl) ?_
          exact .inl ⟨_, 0, _, rfl, ⟨rfl, rfl⟩, rfl, hE84⟩
      · refine mq_f h50 ?_
        refine pr_if2f rfl rfl (i32_b h47) (i32_n rfl) h50 ?_
        refine pr_n (pc2 := 41) (lv2 := [(0, .ref 170)]) (st2 := [.ref 170, .ref 170]) 2 (fun _ _ => rfl) ?_
        refine pr_gE (k2 := 170) (v := vi (t 170 3)) hE rfl rfl rfl (by decide) rfl rfl rfl fun h85 => ?_
        have h85 : i32 (t 170 3) := h85
        refine pr_n (pc2 := 45) (lv2 := [(0, .ref 170)]) (st2 := [vi 1, vi (t 170 3), .ref 170]) 1 (fun _ _ => rfl) ?_
        refine pr_i2 (a := t 170 3) (b := 1) rfl rfl ?_
        show pr N2 K d tb_M123 46 [(0, .ref 170)] [vi (ipl (t 170 3) 1), .ref 170] s _
        have h86 : i32 (ipl (t 170 3) 1) := i32_in _
        refine pr_pE (k2 := 170) (z := ipl (t 170 3) 1) hE rfl rfl rfl rfl (by decide) rfl (by decide) rfl (show i32 (ipl (t 170 3) 1) from h86) (hf_int' _) rfl rfl rfl (fun e => absurd e.2 (by decide)) (fun _ => trivial) fun s87 hE87 => ?_
        refine pr_n (pc2 := 0) (lv2 := [(0, .ref 170)]) (st2 := []) 1 (fun _ _ => rfl) ?_
        exact ((ih N2 hN2).1) s87 (up2 t 170 3 (ipl (t 170 3) 1))  hE87 
set_option maxHeartbeats 20000000 in
set_option maxRecDepth 100000 in
theorem ru123_1 {N K d C : Nat} (h_124 : rT124 K d C) (h_125 : rT125 K d C) (h_126 : rT126 K d C) (ih : ∀ N2, N2 < N → rA123 N2 K d C) : rU123_1 N K d C := by
  intro s t y1 ys0 hE hy1 hys0
  have hC : C = 177 ∨ C = 186 := hE.1
  rw [rG_123_340]
  unfold rM123_340
  refine pr_lt (pc2 := 341) (lv2 := [(2, vi ys0), (1, vi y1), (0, .ref 170)]) (st2 := []) (fun _ _ => rfl) fun N2 hN2 => ?_
  refine pr_n (pc2 := 344) (lv2 := [(2, vi ys0), (1, vi y1), (0, .ref 170)]) (st2 := [vi 123, vi y1]) 2 (fun _ _ => rfl) ?_
  by_cases h1 : y1 = 123
  · refine mq_t h1 ?_
    refine pr_if2t rfl rfl hy1 (i32_n rfl) h1 ?_
    refine pr_n (pc2 := 484) (lv2 := [(2, vi ys0), (1, vi y1), (0, .ref 170)]) (st2 := [vi 1]) 2 (fun _ _ => rfl) ?_
    exact ((ih N2 hN2).2.2.2.2.1) s t ys0 y1 1 hE hys0 hy1 (i32_n rfl)
  · refine mq_f h1 ?_
    refine pr_if2f rfl rfl hy1 (i32_n rfl) h1 ?_
    refine pr_n (pc2 := 350) (lv2 := [(2, vi ys0), (1, vi y1), (0, .ref 170)]) (st2 := [vi 125, vi y1]) 2 (fun _ _ => rfl) ?_
    by_cases h2 : y1 = 125
    · refine mq_t h2 ?_
      refine pr_if2t rfl rfl hy1 (i32_n rfl) h2 ?_
      refine pr_n (pc2 := 484) (lv2 := [(2, vi ys0), (1, vi y1), (0, .ref 170)]) (st2 := [vi 1]) 2 (fun _ _ => rfl) ?_
      exact ((ih N2 hN2).2.2.2.2.1) s t ys0 y1 1 hE hys0 hy1 (i32_n rfl)
    · refine mq_f h2 ?_
      refine pr_if2f rfl rfl hy1 (i32_n rfl) h2 ?_
      refine pr_n (pc2 := 356) (lv2 := [(2, vi ys0), (1, vi y1), (0, .ref 170)]) (st2 := [vi 40, vi y1]) 2 (fun _ _ => rfl) ?_
      by_cases h3 : y1 = 40
      · refine mq_t h3 ?_
        refine pr_if2t rfl rfl hy1 (i32_n rfl) h3 ?_
        refine pr_n (pc2 := 484) (lv2 := [(2, vi ys0), (1, vi y1), (0, .ref 170)]) (st2 := [vi 1]) 2 (fun _ _ => rfl) ?_
        exact ((ih N2 hN2).2.2.2.2.1) s t ys0 y1 1 hE hys0 hy1 (i32_n rfl)
      · refine mq_f h3 ?_
        refine pr_if2f rfl rfl hy1 (i32_n rfl) h3 ?_
        refine pr_n (pc2 := 362) (lv2 := [(2, vi ys0), (1, vi y1), (0, .ref 170)]) (st2 := [vi 41, vi y1]) 2 (fun _ _ => rfl) ?_
        by_cases h4 : y1 = 41
        · refine mq_t h4 ?_
          refine pr_if2t rfl rfl hy1 (i32_n rfl) h4 ?_
          refine pr_n (pc2 := 484) (lv2 := [(2, vi ys0), (1, vi y1), (0, .ref 170)]) (st2 := [vi 1]) 2 (fun _ _ => rfl) ?_
          exact ((ih N2 hN2).2.2.2.2.1) s t ys0 y1 1 hE hys0 hy1 (i32_n rfl)
        · refine mq_f h4 ?_
          refine pr_if2f rfl rfl hy1 (i32_n rfl) h4 ?_
          refine pr_n (pc2 := 368) (lv2 := [(2, vi ys0), (1, vi y1), (0, .ref 170)]) (st2 := [vi 91, vi y1]) 2 (fun _ _ => rfl) ?_
          by_cases h5 : y1 = 91
          · refine mq_t h5 ?_
            refine pr_if2t rfl rfl hy1 (i32_n rfl) h5 ?_
            refine pr_n (pc2 := 484) (lv2 := [(2, vi ys0), (1, vi y1), (0, .ref 170)]) (st2 := [vi 1]) 2 (fun _ _ => rfl) ?_
            exact ((ih N2 hN2).2.2.2.2.1) s t ys0 y1 1 hE hys0 hy1 (i32_n rfl)
          · refine mq_f h5 ?_
            refine pr_if2f rfl rfl hy1 (i32_n rfl) h5 ?_
            refine pr_n (pc2 := 374) (lv2 := [(2, vi ys0), (1, vi y1), (0, .ref 170)]) (st2 := [vi 93, vi y1]) 2 (fun _ _ => rfl) ?_
            by_cases h6 : y1 = 93
            · refine mq_t h6 ?_
              refine pr_if2t rfl rfl hy1 (i32_n rfl) h6 ?_
              refine pr_n (pc2 := 484) (lv2 := [(2, vi ys0), (1, vi y1), (0, .ref 170)]) (st2 := [vi 1]) 2 (fun _ _ => rfl) ?_
              exact ((ih N2 hN2).2.2.2.2.1) s t ys0 y1 1 hE hys0 hy1 (i32_n rfl)
            · refine mq_f h6 ?_
              refine pr_if2f rfl rfl hy1 (i32_n rfl) h6 ?_
              refine pr_n (pc2 := 380) (lv2 := [(2, vi ys0), (1, vi y1), (0, .ref 170)]) (st2 := [vi 44, vi y1]) 2 (fun _ _ => rfl) ?_
              by_cases h7 : y1 = 44
              · refine mq_t h7 ?_
                refine pr_if2t rfl rfl hy1 (i32_n rfl) h7 ?_
                refine pr_n (pc2 := 484) (lv2 := [(2, vi ys0), (1, vi y1), (0, .ref 170)]) (st2 := [vi 1]) 2 (fun _ _ => rfl) ?_
                exact ((ih N2 hN2).2.2.2.2.1) s t ys0 y1 1 hE hys0 hy1 (i32_n rfl)
              · refine mq_f h7 ?_
                refine pr_if2f rfl rfl hy1 (i32_n rfl) h7 ?_
                refine pr_n (pc2 := 386) (lv2 := [(2, vi ys0), (1, vi y1), (0, .ref 170)]) (st2 := [vi 59, vi y1]) 2 (fun _ _ => rfl) ?_
                by_cases h8 : y1 = 59
                · refine mq_t h8 ?_
                  refine pr_if2t rfl rfl hy1 (i32_n rfl) h8 ?_
                  refine pr_n (pc2 := 484) (lv2 := [(2, vi ys0), (1, vi y1), (0, .ref 170)]) (st2 := [vi 1]) 2 (fun _ _ => rfl) ?_
                  exact ((ih N2 hN2).2.2.2.2.1) s t ys0 y1 1 hE hys0 hy1 (i32_n rfl)
                · refine mq_f h8 ?_
                  refine pr_if2f rfl rfl hy1 (i32_n rfl) h8 ?_
                  refine pr_n (pc2 := 392) (lv2 := [(2, vi ys0), (1, vi y1), (0, .ref 170)]) (st2 := [vi 58, vi y1]) 2 (fun _ _ => rfl) ?_
                  by_cases h9 : y1 = 58
                  · refine mq_t h9 ?_
                    refine pr_if2t rfl rfl hy1 (i32_n rfl) h9 ?_
                    refine pr_n (pc2 := 484) (lv2 := [(2, vi ys0), (1, vi y1), (0, .ref 170)]) (st2 := [vi 1]) 2 (fun _ _ => rfl) ?_
                    exact ((ih N2 hN2).2.2.2.2.1) s t ys0 y1 1 hE hys0 hy1 (i32_n rfl)
                  · refine mq_f h9 ?_
                    refine pr_if2f rfl rfl hy1 (i32_n rfl) h9 ?_
                    refine pr_n (pc2 := 398) (lv2 := [(2, vi ys0), (1, vi y1), (0, .ref 170)]) (st2 := [vi 61, vi y1]) 2 (fun _ _ => rfl) ?_
                    by_cases h10 : y1 = 61
                    · refine mq_t h10 ?_
                      refine pr_if2t rfl rfl hy1 (i32_n rfl) h10 ?_
                      refine pr_n (pc2 := 484) (lv2 := [(2, vi ys0), (1, vi y1), (0, .ref 170)]) (st2 := [vi 1]) 2 (fun _ _ => rfl) ?_
                      exact ((ih N2 hN2).2.2.2.2.1) s t ys0 y1 1 hE hys0 hy1 (i32_n rfl)
                    · refine mq_f h10 ?_
                      refine pr_if2f rfl rfl hy1 (i32_n rfl) h10 ?_
                      refine pr_n (pc2 := 404) (lv2 := [(2, vi ys0), (1, vi y1), (0, .ref 170)]) (st2 := [vi 43, vi y1]) 2 (fun _ _ => rfl) ?_
                      by_cases h11 : y1 = 43
                      · refine mq_t h11 ?_
                        refine pr_if2t rfl rfl hy1 (i32_n rfl) h11 ?_
                        refine pr_n (pc2 := 484) (lv2 := [(2, vi ys0), (1, vi y1), (0, .ref 170)]) (st2 := [vi 1]) 2 (fun _ _ => rfl) ?_
                        exact ((ih N2 hN2).2.2.2.2.1) s t ys0 y1 1 hE hys0 hy1 (i32_n rfl)
                      · refine mq_f h11 ?_
                        refine pr_if2f rfl rfl hy1 (i32_n rfl) h11 ?_
                        refine pr_n (pc2 := 410) (lv2 := [(2, vi ys0), (1, vi y1), (0, .ref 170)]) (st2 := [vi 45, vi y1]) 2 (fun _ _ => rfl) ?_
                        by_cases h12 : y1 = 45
                        · refine mq_t h12 ?_
                          refine pr_if2t rfl rfl hy1 (i32_n rfl) h12 ?_
                          refine pr_n (pc2 := 484) (lv2 := [(2, vi ys0), (1, vi y1), (0, .ref 170)]) (st2 := [vi 1]) 2 (fun _ _ => rfl) ?_
                          exact ((ih N2 hN2).2.2.2.2.1) s t ys0 y1 1 hE hys0 hy1 (i32_n rfl)
                        · refine mq_f h12 ?_
                          refine pr_if2f rfl rfl hy1 (i32_n rfl) h12 ?_
                          refine pr_n (pc2 := 416) (lv2 := [(2, vi ys0), (1, vi y1), (0, .ref 170)]) (st2 := [vi 42, vi y1]) 2 (fun _ _ => rfl) ?_
                          by_cases h13 : y1 = 42
                          · refine mq_t h13 ?_
                            refine pr_if2t rfl rfl hy1 (i32_n rfl) h13 ?_
                            refine pr_n (pc2 := 484) (lv2 := [(2, vi ys0), (1, vi y1), (0, .ref 170)]) (st2 := [vi 1]) 2 (fun _ _ => rfl) ?_
                            exact ((ih N2 hN2).2.2.2.2.1) s t ys0 y1 1 hE hys0 hy1 (i32_n rfl)
                          · refine mq_f h13 ?_
                            refine pr_if2f rfl rfl hy1 (i32_n rfl) h13 ?_
                            refine pr_n (pc2 := 422) (lv2 := [(2, vi ys0), (1, vi y1), (0, .ref 170)]) (st2 := [vi 47, vi y1]) 2 (fun _ _ => rfl) ?_
                            by_cases h14 : y1 = 47
                            · refine mq_t h14 ?_
                              refine pr_if2t rfl rfl hy1 (i32_n rfl) h14 ?_
                              refine pr_n (pc2 := 484) (lv2 := [(2, vi ys0), (1, vi y1), (0, .ref 170)]) (st2 := [vi 1]) 2 (fun _ _ => rfl) ?_
                              exact ((ih N2 hN2).2.2.2.2.1) s t ys0 y1 1 hE hys0 hy1 (i32_n rfl)
                            · refine mq_f h14 ?_
                              refine pr_if2f rfl rfl hy1 (i32_n rfl) h14 ?_
                              refine pr_n (pc2 := 428) (lv2 := [(2, vi ys0), (1, vi y1), (0, .ref 170)]) (st2 := [vi 37, vi y1]) 2 (fun _ _ => rfl) ?_
                              by_cases h15 : y1 = 37
                              · refine mq_t h15 ?_
                                refine pr_if2t rfl rfl hy1 (i32_n rfl) h15 ?_
                                refine pr_n (pc2 := 484) (lv2 := [(2, vi ys0), (1, vi y1), (0, .ref 170)]) (st2 := [vi 1]) 2 (fun _ _ => rfl) ?_
                                exact ((ih N2 hN2).2.2.2.2.1) s t ys0 y1 1 hE hys0 hy1 (i32_n rfl)
                              · refine mq_f h15 ?_
                                refine pr_if2f rfl rfl hy1 (i32_n rfl) h15 ?_
                                refine pr_n (pc2 := 434) (lv2 := [(2, vi ys0), (1, vi y1), (0, .ref 170)]) (st2 := [vi 38, vi y1]) 2 (fun _ _ => rfl) ?_
                                by_cases h16 : y1 = 38
                                · refine mq_t h16 ?_
                                  refine pr_if2t rfl rfl hy1 (i32_n rfl) h16 ?_
                                  refine pr_n (pc2 := 484) (lv2 := [(2, vi ys0), (1, vi y1), (0, .ref 170)]) (st2 := [vi 1]) 2 (fun _ _ => rfl) ?_
                                  exact ((ih N2 hN2).2.2.2.2.1) s t ys0 y1 1 hE hys0 hy1 (i32_n rfl)
                                · refine mq_f h16 ?_
                                  refine pr_if2f rfl rfl hy1 (i32_n rfl) h16 ?_
                                  refine pr_n (pc2 := 440) (lv2 := [(2, vi ys0), (1, vi y1), (0, .ref 170)]) (st2 := [vi 124, vi y1]) 2 (fun _ _ => rfl) ?_
                                  by_cases h17 : y1 = 124
                                  · refine mq_t h17 ?_
                                    refine pr_if2t rfl rfl hy1 (i32_n rfl) h17 ?_
                                    refine pr_n (pc2 := 484) (lv2 := [(2, vi ys0), (1, vi y1), (0, .ref 170)]) (st2 := [vi 1]) 2 (fun _ _ => rfl) ?_
                                    exact ((ih N2 hN2).2.2.2.2.1) s t ys0 y1 1 hE hys0 hy1 (i32_n rfl)
                                  · refine mq_f h17 ?_
                                    refine pr_if2f rfl rfl hy1 (i32_n rfl) h17 ?_
                                    refine pr_n (pc2 := 446) (lv2 := [(2, vi ys0), (1, vi y1), (0, .ref 170)]) (st2 := [vi 94, vi y1]) 2 (fun _ _ => rfl) ?_
                                    by_cases h18 : y1 = 94
                                    · refine mq_t h18 ?_
                                      refine pr_if2t rfl rfl hy1 (i32_n rfl) h18 ?_
                                      refine pr_n (pc2 := 484) (lv2 := [(2, vi ys0), (1, vi y1), (0, .ref 170)]) (st2 := [vi 1]) 2 (fun _ _ => rfl) ?_
                                      exact ((ih N2 hN2).2.2.2.2.1) s t ys0 y1 1 hE hys0 hy1 (i32_n rfl)
                                    · refine mq_f h18 ?_
                                      refine pr_if2f rfl rfl hy1 (i32_n rfl) h18 ?_
                                      refine pr_n (pc2 := 452) (lv2 := [(2, vi ys0), (1, vi y1), (0, .ref 170)]) (st2 := [vi 126, vi y1]) 2 (fun _ _ => rfl) ?_
                                      by_cases h19 : y1 = 126
                                      · refine mq_t h19 ?_
                                        refine pr_if2t rfl rfl hy1 (i32_n rfl) h19 ?_
                                        refine pr_n (pc2 := 484) (lv2 := [(2, vi ys0), (1, vi y1), (0, .ref 170)]) (st2 := [vi 1]) 2 (fun _ _ => rfl) ?_
                                        exact ((ih N2 hN2).2.2.2.2.1) s t ys0 y1 1 hE hys0 hy1 (i32_n rfl)
                                      · refine mq_f h19 ?_
                                        refine pr_if2f rfl rfl hy1 (i32_n rfl) h19 ?_
                                        refine pr_n (pc2 := 458) (lv2 := [(2, vi ys0), (1, vi y1), (0, .ref 170)]) (st2 := [vi 33, vi y1]) 2 (fun _ _ => rfl) ?_
                                        by_cases h20 : y1 = 33
                                        · refine mq_t h20 ?_
                                          refine pr_if2t rfl rfl hy1 (i32_n rfl) h20 ?_
                                          refine pr_n (pc2 := 484) (lv2 := [(2, vi ys0), (1, vi y1), (0, .ref 170)]) (st2 := [vi 1]) 2 (fun _ _ => rfl) ?_
                                          exact ((ih N2 hN2).2.2.2.2.1) s t ys0 y1 1 hE hys0 hy1 (i32_n rfl)
                                        · refine mq_f h20 ?_
                                          refine pr_if2f rfl rfl hy1 (i32_n rfl) h20 ?_
                                          refine pr_n (pc2 := 464) (lv2 := [(2, vi ys0), (1, vi y1), (0, .ref 170)]) (st2 := [vi 63, vi y1]) 2 (fun _ _ => rfl) ?_
                                          by_cases h21 : y1 = 63
                                          · refine mq_t h21 ?_
                                            refine pr_if2t rfl rfl hy1 (i32_n rfl) h21 ?_
                                            refine pr_n (pc2 := 484) (lv2 := [(2, vi ys0), (1, vi y1), (0, .ref 170)]) (st2 := [vi 1]) 2 (fun _ _ => rfl) ?_
                                            exact ((ih N2 hN2).2.2.2.2.1) s t ys0 y1 1 hE hys0 hy1 (i32_n rfl)
                                          · refine mq_f h21 ?_
                                            refine pr_if2f rfl rfl hy1 (i32_n rfl) h21 ?_
                                            refine pr_n (pc2 := 470) (lv2 := [(2, vi ys0), (1, vi y1), (0, .ref 170)]) (st2 := [vi 60, vi y1]) 2 (fun _ _ => rfl) ?_
                                            by_cases h22 : y1 = 60
                                            · refine mq_t h22 ?_
                                              refine pr_if2t rfl rfl hy1 (i32_n rfl) h22 ?_
                                              refine pr_n (pc2 := 484) (lv2 := [(2, vi ys0), (1, vi y1), (0, .ref 170)]) (st2 := [vi 1]) 2 (fun _ _ => rfl) ?_
                                              exact ((ih N2 hN2).2.2.2.2.1) s t ys0 y1 1 hE hys0 hy1 (i32_n rfl)
                                            · refine mq_f h22 ?_
                                              refine pr_if2f rfl rfl hy1 (i32_n rfl) h22 ?_
                                              refine pr_n (pc2 := 476) (lv2 := [(2, vi ys0), (1, vi y1), (0, .ref 170)]) (st2 := [vi 62, vi y1]) 2 (fun _ _ => rfl) ?_
                                              by_cases h23 : y1 ≠ 62
                                              · refine mq_t h23 ?_
                                                refine pr_if2t rfl rfl hy1 (i32_n rfl) h23 ?_
                                                refine pr_n (pc2 := 484) (lv2 := [(2, vi ys0), (1, vi y1), (0, .ref 170)]) (st2 := [vi 0]) 1 (fun _ _ => rfl) ?_
                                                exact ((ih N2 hN2).2.2.2.2.1) s t ys0 y1 0 hE hys0 hy1 (i32_n rfl)
                                              · refine mq_f h23 ?_
                                                refine pr_if2f rfl rfl hy1 (i32_n rfl) h23 ?_
                                                refine pr_n (pc2 := 484) (lv2 := [(2, vi ys0), (1, vi y1), (0, .ref 170)]) (st2 := [vi 1]) 2 (fun _ _ => rfl) ?_
                                                exact ((ih N2 hN2).2.2.2.2.1) s t ys0 y1 1 hE hys0 hy1 (i32_n rfl)
set_option maxHeartbeats 20000000 in
set_option maxRecDepth 100000 in
theorem ru123_2 {N K d C : Nat} (h_124 : rT124 K d C) (h_125 : rT125 K d C) (h_126 : rT126 K d C) (ih : ∀ N2, N2 < N → rA123 N2 K d C) : rU123_2 N K d C := by
  intro s t  hE 
  have hC : C = 177 ∨ C = 186 := hE.1
  rw [rG_123_213]
  unfold rM123_213
  refine pr_lt (pc2 := 214) (lv2 := [(0, .ref 170)]) (st2 := [.ref 170]) (fun _ _ => rfl) fun N2 hN2 => ?_
  refine pr_gE (k2 := 170) (v := vi (t 170 3)) hE rfl rfl rfl (by decide) rfl rfl rfl fun h1 => ?_
  have h1 : i32 (t 170 3) := h1
  refine pr_n (pc2 := 218) (lv2 := [(0, .ref 170)]) (st2 := [.ref 170, vi (t 170 3)]) 1 (fun _ _ => rfl) ?_
  refine pr_gE (k2 := 170) (v := vi (t 170 2)) hE rfl rfl rfl (by decide) rfl rfl rfl fun h2 => ?_
  have h2 : i32 (t 170 2) := h2
  by_cases h3 : t 170 2 ≤ t 170 3
  · refine mq_t h3 ?_
    refine pr_if2t rfl rfl h1 h2 h3 ?_
    refine pr_n (pc2 := 283) (lv2 := [(0, .ref 170)]) (st2 := [.ref 170, .ref 170]) 2 (fun _ _ => rfl) ?_
    refine pr_gE (k2 := 170) (v := vi (t 170 7)) hE rfl rfl rfl (by decide) rfl rfl rfl fun h4 => ?_
    have h4 : i32 (t 170 7) := h4
    refine pr_n (pc2 := 288) (lv2 := [(0, .ref 170)]) (st2 := [vi 65535, vi (t 170 7), .ref 170]) 1 (fun _ _ => rfl) ?_
    by_cases h5 : 65535 < t 170 7
    · refine mq_t h5 ?_
      refine pr_if2t rfl rfl h4 (i32_n rfl) h5 ?_
      refine pr_n (pc2 := 296) (lv2 := [(0, .ref 170)]) (st2 := [vi 5, .ref 170]) 1 (fun _ _ => rfl) ?_
      refine pr_pE (k2 := 170) (z := 5) hE rfl rfl rfl rfl (by decide) rfl (by decide) rfl (show i32 (5) from (i32_n rfl)) (hf_int' _) rfl rfl rfl (fun e => absurd e.2 (by decide)) (fun _ => trivial) fun s6 hE6 => ?_
      refine pr_n (pc2 := 585) (lv2 := [(0, .ref 170)]) (st2 := [.ref 170, .ref 170]) 3 (fun _ _ => rfl) ?_
      refine pr_gE (k2 := 170) (v := vi (t 170 3)) hE6 rfl rfl rfl (by decide) rfl rfl rfl fun h7 => ?_
      have h7 : i32 (t 170 3) := h7
      refine pr_pE (k2 := 170) (z := t 170 3) hE6 rfl rfl rfl rfl (by decide) rfl (by decide) rfl (show i32 (t 170 3) from h7) (hf_int' _) rfl rfl rfl (fun e => absurd e.2 (by decide)) (fun _ => trivial) fun s8 hE8 => ?_
      refine pr_end (fun _ _ => rfl) ?_
      exact .inl ⟨_, 0, _, rfl, ⟨rfl, rfl⟩, rfl, hE8⟩
    · refine mq_f h5 ?_
      refine pr_if2f rfl rfl h4 (i32_n rfl) h5 ?_
      refine pr_n (pc2 := 296) (lv2 := [(0, .ref 170)]) (st2 := [vi 3, .ref 170]) 2 (fun _ _ => rfl) ?_
      refine pr_pE (k2 := 170) (z := 3) hE rfl rfl rfl rfl (by decide) rfl (by decide) rfl (show i32 (3) from (i32_n rfl)) (hf_int' _) rfl rfl rfl (fun e => absurd e.2 (by decide)) (fun _ => trivial) fun s9 hE9 => ?_
      refine pr_n (pc2 := 585) (lv2 := [(0, .ref 170)]) (st2 := [.ref 170, .ref 170]) 3 (fun _ _ => rfl) ?_
      refine pr_gE (k2 := 170) (v := vi (t 170 3)) hE9 rfl rfl rfl (by decide) rfl rfl rfl fun h10 => ?_
      have h10 : i32 (t 170 3) := h10
      refine pr_pE (k2 := 170) (z := t 170 3) hE9 rfl rfl rfl rfl (by decide) rfl (by decide) rfl (show i32 (t 170 3) from h10) (hf_int' _) rfl rfl rfl (fun e => absurd e.2 (by decide)) (fun _ => trivial) fun s11 hE11 => ?_
      refine pr_end (fun _ _ => rfl) ?_
      exact .inl ⟨_, 0, _, rfl, ⟨rfl, rfl⟩, rfl, hE11⟩
  · refine mq_f h3 ?_
    refine pr_if2f rfl rfl h1 h2 h3 ?_
    refine pr_n (pc2 := 225) (lv2 := [(0, .ref 170)]) (st2 := [.ref 170]) 1 (fun _ _ => rfl) ?_
    refine pr_get (v := .ref 171) rfl rfl rfl (by decide) (rv_ref (hE.2.1 170 0 171 rfl)) fun _ => ?_
    refine pr_n (pc2 := 229) (lv2 := [(0, .ref 170)]) (st2 := [.ref 170, .ref 171]) 1 (fun _ _ => rfl) ?_
    refine pr_gE (k2 := 170) (v := vi (t 170 3)) hE rfl rfl rfl (by decide) rfl rfl rfl fun h12 => ?_
    have h12 : i32 (t 170 3) := h12
    refine pr_aE (k2 := 171) (a := t 170 3) (v := vi (t 171 ((t 170 3).toNat))) hE rfl rfl rfl h12 (by decide) rfl rfl rfl fun h14 h15 h13 => ?_
    have h13 : -128 ≤ t 171 ((t 170 3).toNat) ∧ t 171 ((t 170 3).toNat) ≤ 127 := h13
    refine pr_s0 (args := [vi (t 171 ((t 170 3).toNat))]) (rest := []) rfl rfl rfl (Nat.le_of_ble_eq_true rfl) rfl (h_125 s t (t 171 ((t 170 3).toNat)) hE (i32_b h13)) q_dgz ?_
    rintro _ s16 ⟨rfl, hz16⟩ hE16
    show pr N2 K d tb_M123 236 [(0, .ref 170)] [vi (dgz (t 171 ((t 170 3).toNat)))] s16 _
    by_cases h17 : dgz (t 171 ((t 170 3).toNat)) = 0
    · refine mq_t h17 ?_
      refine pr_if1t rfl rfl (i32_z hz16) h17 ?_
      refine pr_n (pc2 := 283) (lv2 := [(0, .ref 170)]) (st2 := [.ref 170, .ref 170]) 2 (fun _ _ => rfl) ?_
      refine pr_gE (k2 := 170) (v := vi (t 170 7)) hE16 rfl rfl rfl (by decide) rfl rfl rfl fun h18 => ?_
      have h18 : i32 (t 170 7) := h18
      refine pr_n (pc2 := 288) (lv2 := [(0, .ref 170)]) (st2 := [vi 65535, vi (t 170 7), .ref 170]) 1 (fun _ _ => rfl) ?_
      by_cases h19 : 65535 < t 170 7
      · refine mq_t h19 ?_
        refine pr_if2t rfl rfl h18 (i32_n rfl) h19 ?_
        refine pr_n (pc2 := 296) (lv2 := [(0, .ref 170)]) (st2 := [vi 5, .ref 170]) 1 (fun _ _ => rfl) ?_
        refine pr_pE (k2 := 170) (z := 5) hE16 rfl rfl rfl rfl (by decide) rfl (by decide) rfl (show i32 (5) from (i32_n rfl)) (hf_int' _) rfl rfl rfl (fun e => absurd e.2 (by decide)) (fun _ => trivial) fun s20 hE20 => ?_
        refine pr_n (pc2 := 585) (lv2 := [(0, .ref 170)]) (st2 := [.ref 170, .ref 170]) 3 (fun _ _ => rfl) ?_
        refine pr_gE (k2 := 170) (v := vi (t 170 3)) hE20 rfl rfl rfl (by decide) rfl rfl rfl fun h21 => ?_
        have h21 : i32 (t 170 3) := h21
        refine pr_pE (k2 := 170) (z := t 170 3) hE20 rfl rfl rfl rfl (by decide) rfl (by decide) rfl (show i32 (t 170 3) from h21) (hf_int' _) rfl rfl rfl (fun e => absurd e.2 (by decide)) (fun _ => trivial) fun s22 hE22 => ?_
        refine pr_end (fun _ _ => rfl) ?_
        exact .inl ⟨_, 0, _, rfl, ⟨rfl, rfl⟩, rfl, hE22⟩
      · refine mq_f h19 ?_
        refine pr_if2f rfl rfl h18 (i32_n rfl) h19 ?_
        refine pr_n (pc2 := 296) (lv2 := [(0, .ref 170)]) (st2 := [vi 3, .ref 170]) 2 (fun _ _ => rfl) ?_
        refine pr_pE (k2 := 170) (z := 3) hE16 rfl rfl rfl rfl (by decide) rfl (by decide) rfl (show i32 (3) from (i32_n rfl)) (hf_int' _) rfl rfl rfl (fun e => absurd e.2 (by decide)) (fun _ => trivial) fun s23 hE23 => ?_
        refine pr_n (pc2 := 585) (lv2 := [(0, .ref 170)]) (st2 := [.ref 170, .ref 170]) 3 (fun _ _ => rfl) ?_
        refine pr_gE (k2 := 170) (v := vi (t 170 3)) hE23 rfl rfl rfl (by decide) rfl rfl rfl fun h24 => ?_
        have h24 : i32 (t 170 3) := h24
        refine pr_pE (k2 := 170) (z := t 170 3) hE23 rfl rfl rfl rfl (by decide) rfl (by decide) rfl (show i32 (t 170 3) from h24) (hf_int' _) rfl rfl rfl (fun e => absurd e.2 (by decide)) (fun _ => trivial) fun s25 hE25 => ?_
        refine pr_end (fun _ _ => rfl) ?_
        exact .inl ⟨_, 0, _, rfl, ⟨rfl, rfl⟩, rfl, hE25⟩
    · refine mq_f h17 ?_
      refine pr_if1f rfl rfl (i32_z hz16) h17 ?_
      refine pr_n (pc2 := 245) (lv2 := [(0, .ref 170)]) (st2 := [.ref 170, vi 10, vi 100000, .ref 170]) 4 (fun _ _ => rfl) ?_
      refine pr_gE (k2 := 170) (v := vi (t 170 7)) hE16 rfl rfl rfl (by decide) rfl rfl rfl fun h26 => ?_
      have h26 : i32 (t 170 7) := h26
      refine pr_i2 (a := 10) (b := t 170 7) rfl rfl ?_
      show pr N2 K d tb_M123 249 [(0, .ref 170)] [vi (imu 10 (t 170 7)), vi 100000, .ref 170] s16 _
      have h27 : i32 (imu 10 (t 170 7)) := i32_in _
      refine pr_n (pc2 := 250) (lv2 := [(0, .ref 170)]) (st2 := [.ref 170, vi (imu 10 (t 170 7)), vi 100000, .ref 170]) 1 (fun _ _ => rfl) ?_
      refine pr_get (v := .ref 171) rfl rfl rfl (by decide) (rv_ref (hE16.2.1 170 0 171 rfl)) fun _ => ?_
      refine pr_n (pc2 := 254) (lv2 := [(0, .ref 170)]) (st2 := [.ref 170, .ref 171, vi (imu 10 (t 170 7)), vi 100000, .ref 170]) 1 (fun _ _ => rfl) ?_
      refine pr_gE (k2 := 170) (v := vi (t 170 3)) hE16 rfl rfl rfl (by decide) rfl rfl rfl fun h28 => ?_
      have h28 : i32 (t 170 3) := h28
      refine pr_aE (k2 := 171) (a := t 170 3) (v := vi (t 171 ((t 170 3).toNat))) hE16 rfl rfl rfl h28 (by decide) rfl rfl rfl fun h30 h31 h29 => ?_
      have h29 : -128 ≤ t 171 ((t 170 3).toNat) ∧ t 171 ((t 170 3).toNat) ≤ 127 := h29
      refine pr_i2 (a := imu 10 (t 170 7)) (b := t 171 ((t 170 3).toNat)) rfl rfl ?_
      show pr N2 K d tb_M123 259 [(0, .ref 170)] [vi (ipl (imu 10 (t 170 7)) (t 171 ((t 170 3).toNat))), vi 100000, .ref 170] s16 _
      have h32 : i32 (ipl (imu 10 (t 170 7)) (t 171 ((t 170 3).toNat))) := i32_in _
      refine pr_n (pc2 := 261) (lv2 := [(0, .ref 170)]) (st2 := [vi 48, vi (ipl (imu 10 (t 170 7)) (t 171 ((t 170 3).toNat))), vi 100000, .ref 170]) 1 (fun _ _ => rfl) ?_
      refine pr_i2 (a := ipl (imu 10 (t 170 7)) (t 171 ((t 170 3).toNat))) (b := 48) rfl rfl ?_
      show pr N2 K d tb_M123 262 [(0, .ref 170)] [vi (imi (ipl (imu 10 (t 170 7)) (t 171 ((t 170 3).toNat))) 48), vi 100000, .ref 170] s16 _
      have h33 : i32 (imi (ipl (imu 10 (t 170 7)) (t 171 ((t 170 3).toNat))) 48) := i32_in _
      refine pr_min (a := 100000) (b := imi (ipl (imu 10 (t 170 7)) (t 171 ((t 170 3).toNat))) 48) rfl rfl (i32_n rfl) h33 (by decide) ?_
      refine pr_pE (k2 := 170) (z := mnx 100000 (imi (ipl (imu 10 (t 170 7)) (t 171 ((t 170 3).toNat))) 48)) hE16 rfl rfl rfl rfl (by decide) rfl (by decide) rfl (show i32 (mnx 100000 (imi (ipl (imu 10 (t 170 7)) (t 171 ((t 170 3).toNat))) 48)) from (mn_i32 (i32_n rfl) h33)) (hf_int' _) rfl rfl rfl (fun e => absurd e.2 (by decide)) (fun _ => trivial) fun s34 hE34 => ?_
      refine pr_n (pc2 := 270) (lv2 := [(0, .ref 170)]) (st2 := [.ref 170, .ref 170]) 2 (fun _ _ => rfl) ?_
      refine pr_gE (k2 := 170) (v := vi (t 170 3)) hE34 rfl rfl rfl (by decide) rfl rfl rfl fun h35 => ?_
      have h35 : i32 (t 170 3) := h35
      refine pr_n (pc2 := 274) (lv2 := [(0, .ref 170)]) (st2 := [vi 1, vi (t 170 3), .ref 170]) 1 (fun _ _ => rfl) ?_
      refine pr_i2 (a := t 170 3) (b := 1) rfl rfl ?_
      show pr N2 K d tb_M123 275 [(0, .ref 170)] [vi (ipl (t 170 3) 1), .ref 170] s34 _
      have h36 : i32 (ipl (t 170 3) 1) := i32_in _
      refine pr_pE (k2 := 170) (z := ipl (t 170 3) 1) hE34 rfl rfl rfl rfl (by decide) rfl (by decide) rfl (show i32 (ipl (t 170 3) 1) from h36) (hf_int' _) rfl rfl rfl (fun e => absurd e.2 (by decide)) (fun _ => trivial) fun s37 hE37 => ?_
      refine pr_n (pc2 := 213) (lv2 := [(0, .ref 170)]) (st2 := []) 1 (fun _ _ => rfl) ?_
      exact ((ih N2 hN2).2.2.1) s37 (up2 (up2 t 170 7 (mnx 100000 (imi (ipl (imu 10 (t 170 7)) (t 171 ((t 170 3).toNat))) 48))) 170 3 (ipl (t 170 3) 1))  hE37 
set_option maxHeartbeats 20000000 in
set_option maxRecDepth 100000 in
theorem ru123_3 {N K d C : Nat} (h_124 : rT124 K d C) (h_125 : rT125 K d C) (h_126 : rT126 K d C) (ih : ∀ N2, N2 < N → rA123 N2 K d C) : rU123_3 N K d C := by
  intro s t  hE 
  have hC : C = 177 ∨ C = 186 := hE.1
  rw [rG_123_94]
  unfold rM123_94
  refine pr_lt (pc2 := 95) (lv2 := [(0, .ref 170)]) (st2 := [.ref 170]) (fun _ _ => rfl) fun N2 hN2 => ?_
  refine pr_gE (k2 := 170) (v := vi (t 170 3)) hE rfl rfl rfl (by decide) rfl rfl rfl fun h1 => ?_
  have h1 : i32 (t 170 3) := h1
  refine pr_n (pc2 := 99) (lv2 := [(0, .ref 170)]) (st2 := [.ref 170, vi (t 170 3)]) 1 (fun _ _ => rfl) ?_
  refine pr_gE (k2 := 170) (v := vi (t 170 2)) hE rfl rfl rfl (by decide) rfl rfl rfl fun h2 => ?_
  have h2 : i32 (t 170 2) := h2
  by_cases h3 : t 170 2 ≤ t 170 3
  · refine mq_t h3 ?_
    refine pr_if2t rfl rfl h1 h2 h3 ?_
    refine pr_n (pc2 := 150) (lv2 := [(0, .ref 170)]) (st2 := [.ref 170, .ref 170]) 2 (fun _ _ => rfl) ?_
    refine pr_gE (k2 := 170) (v := vi (t 170 3)) hE rfl rfl rfl (by decide) rfl rfl rfl fun h4 => ?_
    have h4 : i32 (t 170 3) := h4
    refine pr_pE (k2 := 170) (z := t 170 3) hE rfl rfl rfl rfl (by decide) rfl (by decide) rfl (show i32 (t 170 3) from h4) (hf_int' _) rfl rfl rfl (fun e => absurd e.2 (by decide)) (fun _ => trivial) fun s5 hE5 => ?_
    refine pr_n (pc2 := 158) (lv2 := [(0, .ref 170)]) (st2 := [.ref 170, .ref 170]) 2 (fun _ _ => rfl) ?_
    refine pr_p1 (args := []) (rest := [.ref 170]) rfl rfl rfl rfl (Nat.le_of_ble_eq_true rfl) rfl (h_126 s5 (up2 t 170 6 (t 170 3))  hE5 ) (fun z t3 => pu_126) ?_
    rintro _ z6 s6 ⟨rfl, hz6⟩ hX6 hE6
    show pr N2 K d tb_M123 161 [(0, .ref 170)] [vi z6, .ref 170] s6 _
    by_cases h7 : z6 = 0
    · refine mq_t h7 ?_
      refine pr_if1t rfl rfl (i32_z hz6) h7 ?_
      refine pr_n (pc2 := 169) (lv2 := [(0, .ref 170)]) (st2 := [.ref 170, .ref 170]) 1 (fun _ _ => rfl) ?_
      refine pr_gE (k2 := 170) (v := vi (t 170 3)) hE6 rfl rfl rfl (by decide) rfl rfl rfl fun h8 => ?_
      have h8 : i32 (t 170 3) := h8
      refine pr_n (pc2 := 173) (lv2 := [(0, .ref 170)]) (st2 := [.ref 170, vi (t 170 3), .ref 170]) 1 (fun _ _ => rfl) ?_
      refine pr_gE (k2 := 170) (v := vi (t 170 5)) hE6 rfl rfl rfl (by decide) rfl rfl rfl fun h9 => ?_
      have h9 : i32 (t 170 5) := h9
      refine pr_i2 (a := t 170 3) (b := t 170 5) rfl rfl ?_
      show pr N2 K d tb_M123 177 [(0, .ref 170)] [vi (imi (t 170 3) (t 170 5)), .ref 170] s6 _
      have h10 : i32 (imi (t 170 3) (t 170 5)) := i32_in _
      refine pr_n (pc2 := 179) (lv2 := [(0, .ref 170)]) (st2 := [vi 8, vi (imi (t 170 3) (t 170 5)), .ref 170]) 1 (fun _ _ => rfl) ?_
      by_cases h11 : 8 < imi (t 170 3) (t 170 5)
      · refine mq_t h11 ?_
        refine pr_if2t rfl rfl h10 (i32_n rfl) h11 ?_
        refine pr_n (pc2 := 187) (lv2 := [(0, .ref 170)]) (st2 := [vi 5, .ref 170]) 1 (fun _ _ => rfl) ?_
        refine pr_pE (k2 := 170) (z := 5) hE6 rfl rfl rfl rfl (by decide) rfl (by decide) rfl (show i32 (5) from (i32_n rfl)) (hf_int' _) rfl rfl rfl (fun e => absurd e.2 (by decide)) (fun _ => trivial) fun s12 hE12 => ?_
        refine pr_n (pc2 := 585) (lv2 := [(0, .ref 170)]) (st2 := [.ref 170, .ref 170]) 3 (fun _ _ => rfl) ?_
        refine pr_gE (k2 := 170) (v := vi (t 170 3)) hE12 rfl rfl rfl (by decide) rfl rfl rfl fun h13 => ?_
        have h13 : i32 (t 170 3) := h13
        refine pr_pE (k2 := 170) (z := t 170 3) hE12 rfl rfl rfl rfl (by decide) rfl (by decide) rfl (show i32 (t 170 3) from h13) (hf_int' _) rfl rfl rfl (fun e => absurd e.2 (by decide)) (fun _ => trivial) fun s14 hE14 => ?_
        refine pr_end (fun _ _ => rfl) ?_
        exact .inl ⟨_, 0, _, rfl, ⟨rfl, rfl⟩, rfl, hE14⟩
      · refine mq_f h11 ?_
        refine pr_if2f rfl rfl h10 (i32_n rfl) h11 ?_
        refine pr_n (pc2 := 187) (lv2 := [(0, .ref 170)]) (st2 := [vi 1, .ref 170]) 2 (fun _ _ => rfl) ?_
        refine pr_pE (k2 := 170) (z := 1) hE6 rfl rfl rfl rfl (by decide) rfl (by decide) rfl (show i32 (1) from (i32_n rfl)) (hf_int' _) rfl rfl rfl (fun e => absurd e.2 (by decide)) (fun _ => trivial) fun s15 hE15 => ?_
        refine pr_n (pc2 := 585) (lv2 := [(0, .ref 170)]) (st2 := [.ref 170, .ref 170]) 3 (fun _ _ => rfl) ?_
        refine pr_gE (k2 := 170) (v := vi (t 170 3)) hE15 rfl rfl rfl (by decide) rfl rfl rfl fun h16 => ?_
        have h16 : i32 (t 170 3) := h16
        refine pr_pE (k2 := 170) (z := t 170 3) hE15 rfl rfl rfl rfl (by decide) rfl (by decide) rfl (show i32 (t 170 3) from h16) (hf_int' _) rfl rfl rfl (fun e => absurd e.2 (by decide)) (fun _ => trivial) fun s17 hE17 => ?_
        refine pr_end (fun _ _ => rfl) ?_
        exact .inl ⟨_, 0, _, rfl, ⟨rfl, rfl⟩, rfl, hE17⟩
    · refine mq_f h7 ?_
      refine pr_if1f rfl rfl (i32_z hz6) h7 ?_
      refine pr_n (pc2 := 187) (lv2 := [(0, .ref 170)]) (st2 := [vi 2, .ref 170]) 2 (fun _ _ => rfl) ?_
      refine pr_pE (k2 := 170) (z := 2) hE6 rfl rfl rfl rfl (by decide) rfl (by decide) rfl (show i32 (2) from (i32_n rfl)) (hf_int' _) rfl rfl rfl (fun e => absurd e.2 (by decide)) (fun _ => trivial) fun s18 hE18 => ?_
      refine pr_n (pc2 := 585) (lv2 := [(0, .ref 170)]) (st2 := [.ref 170, .ref 170]) 3 (fun _ _ => rfl) ?_
      refine pr_gE (k2 := 170) (v := vi (t 170 3)) hE18 rfl rfl rfl (by decide) rfl rfl rfl fun h19 => ?_
      have h19 : i32 (t 170 3) := h19
      refine pr_pE (k2 := 170) (z := t 170 3) hE18 rfl rfl rfl rfl (by decide) rfl (by decide) rfl (show i32 (t 170 3) from h19) (hf_int' _) rfl rfl rfl (fun e => absurd e.2 (by decide)) (fun _ => trivial) fun s20 hE20 => ?_
      refine pr_end (fun _ _ => rfl) ?_
      exact .inl ⟨_, 0, _, rfl, ⟨rfl, rfl⟩, rfl, hE20⟩
  · refine mq_f h3 ?_
    refine pr_if2f rfl rfl h1 h2 h3 ?_
    refine pr_n (pc2 := 106) (lv2 := [(0, .ref 170)]) (st2 := [.ref 170]) 1 (fun _ _ => rfl) ?_
    refine pr_get (v := .ref 171) rfl rfl rfl (by decide) (rv_ref (hE.2.1 170 0 171 rfl)) fun _ => ?_
    refine pr_n (pc2 := 110) (lv2 := [(0, .ref 170)]) (st2 := [.ref 170, .ref 171]) 1 (fun _ _ => rfl) ?_
    refine pr_gE (k2 := 170) (v := vi (t 170 3)) hE rfl rfl rfl (by decide) rfl rfl rfl fun h21 => ?_
    have h21 : i32 (t 170 3) := h21
    refine pr_aE (k2 := 171) (a := t 170 3) (v := vi (t 171 ((t 170 3).toNat))) hE rfl rfl rfl h21 (by decide) rfl rfl rfl fun h23 h24 h22 => ?_
    have h22 : -128 ≤ t 171 ((t 170 3).toNat) ∧ t 171 ((t 170 3).toNat) ≤ 127 := h22
    refine pr_s0 (args := [vi (t 171 ((t 170 3).toNat))]) (rest := []) rfl rfl rfl (Nat.le_of_ble_eq_true rfl) rfl (h_124 s t (t 171 ((t 170 3).toNat)) hE (i32_b h22)) q_ltz ?_
    rintro _ s25 ⟨rfl, hz25⟩ hE25
    show pr N2 K d tb_M123 117 [(0, .ref 170)] [vi (ltz (t 171 ((t 170 3).toNat)))] s25 _
    by_cases h26 : ltz (t 171 ((t 170 3).toNat)) ≠ 0
    · refine mq_t h26 ?_
      refine pr_if1t rfl rfl (i32_z hz25) h26 ?_
      refine pr_n (pc2 := 137) (lv2 := [(0, .ref 170)]) (st2 := [.ref 170, .ref 170]) 2 (fun _ _ => rfl) ?_
      refine pr_gE (k2 := 170) (v := vi (t 170 3)) hE25 rfl rfl rfl (by decide) rfl rfl rfl fun h27 => ?_
      have h27 : i32 (t 170 3) := h27
      refine pr_n (pc2 := 141) (lv2 := [(0, .ref 170)]) (st2 := [vi 1, vi (t 170 3), .ref 170]) 1 (fun _ _ => rfl) ?_
      refine pr_i2 (a := t 170 3) (b := 1) rfl rfl ?_
      show pr N2 K d tb_M123 142 [(0, .ref 170)] [vi (ipl (t 170 3) 1), .ref 170] s25 _
      have h28 : i32 (ipl (t 170 3) 1) := i32_in _
      refine pr_pE (k2 := 170) (z := ipl (t 170 3) 1) hE25 rfl rfl rfl rfl (by decide) rfl (by decide) rfl (show i32 (ipl (t 170 3) 1) from h28) (hf_int' _) rfl rfl rfl (fun e => absurd e.2 (by decide)) (fun _ => trivial) fun s29 hE29 => ?_
      refine pr_n (pc2 := 94) (lv2 := [(0, .ref 170)]) (st2 := []) 1 (fun _ _ => rfl) ?_
      exact ((ih N2 hN2).2.2.2.1) s29 (up2 t 170 3 (ipl (t 170 3) 1))  hE29 
    · refine mq_f h26 ?_
      refine pr_if1f rfl rfl (i32_z hz25) h26 ?_
      refine pr_n (pc2 := 121) (lv2 := [(0, .ref 170)]) (st2 := [.ref 170]) 1 (fun _ _ => rfl) ?_
      refine pr_get (v := .ref 171) rfl rfl rfl (by decide) (rv_ref (hE25.2.1 170 0 171 rfl)) fun _ => ?_
      refine pr_n (pc2 := 125) (lv2 := [(0, .ref 170)]) (st2 := [.ref 170, .ref 171]) 1 (fun _ _ => rfl) ?_
      refine pr_gE (k2 := 170) (v := vi (t 170 3)) hE25 rfl rfl rfl (by decide) rfl rfl rfl fun h30 => ?_
      have h30 : i32 (t 170 3) := h30
      refine pr_aE (k2 := 171) (a := t 170 3) (v := vi (t 171 ((t 170 3).toNat))) hE25 rfl rfl rfl h30 (by decide) rfl rfl rfl fun h32 h33 h31 => ?_
      have h31 : -128 ≤ t 171 ((t 170 3).toNat) ∧ t 171 ((t 170 3).toNat) ≤ 127 := h31
      refine pr_s0 (args := [vi (t 171 ((t 170 3).toNat))]) (rest := []) rfl rfl rfl (Nat.le_of_ble_eq_true rfl) rfl (h_125 s25 t (t 171 ((t 170 3).toNat)) hE25 (i32_b h31)) q_dgz ?_
      rintro _ s34 ⟨rfl, hz34⟩ hE34
      show pr N2 K d tb_M123 132 [(0, .ref 170)] [vi (dgz (t 171 ((t 170 3).toNat)))] s34 _
      by_cases h35 : dgz (t 171 ((t 170 3).toNat)) = 0
      · refine mq_t h35 ?_
        refine pr_if1t rfl rfl (i32_z hz34) h35 ?_
        refine pr_n (pc2 := 150) (lv2 := [(0, .ref 170)]) (st2 := [.ref 170, .ref 170]) 2 (fun _ _ => rfl) ?_
        refine pr_gE (k2 := 170) (v := vi (t 170 3)) hE34 rfl rfl rfl (by decide) rfl rfl rfl fun h36 => ?_
        have h36 : i32 (t 170 3) := h36
        refine pr_pE (k2 := 170) (z := t 170 3) hE34 rfl rfl rfl rfl (by decide) rfl (by decide) rfl (show i32 (t 170 3) from h36) (hf_int' _) rfl rfl rfl (fun e => absurd e.2 (by decide)) (fun _ => trivial) fun s37 hE37 => ?_
        refine pr_n (pc2 := 158) (lv2 := [(0, .ref 170)]) (st2 := [.ref 170, .ref 170]) 2 (fun _ _ => rfl) ?_
        refine pr_p1 (args := []) (rest := [.ref 170]) rfl rfl rfl rfl (Nat.le_of_ble_eq_true rfl) rfl (h_126 s37 (up2 t 170 6 (t 170 3))  hE37 ) (fun z t3 => pu_126) ?_
        rintro _ z38 s38 ⟨rfl, hz38⟩ hX38 hE38
        show pr N2 K d tb_M123 161 [(0, .ref 170)] [vi z38, .ref 170] s38 _
        by_cases h39 : z38 = 0
        · refine mq_t h39 ?_
          refine pr_if1t rfl rfl (i32_z hz38) h39 ?_
          refine pr_n (pc2 := 169) (lv2 := [(0, .ref 170)]) (st2 := [.ref 170, .ref 170]) 1 (fun _ _ => rfl) ?_
          refine pr_gE (k2 := 170) (v := vi (t 170 3)) hE38 rfl rfl rfl (by decide) rfl rfl rfl fun h40 => ?_
          have h40 : i32 (t 170 3) := h40
          refine pr_n (pc2 := 173) (lv2 := [(0, .ref 170)]) (st2 := [.ref 170, vi (t 170 3), .ref 170]) 1 (fun _ _ => rfl) ?_
          refine pr_gE (k2 := 170) (v := vi (t 170 5)) hE38 rfl rfl rfl (by decide) rfl rfl rfl fun h41 => ?_
          have h41 : i32 (t 170 5) := h41
          refine pr_i2 (a := t 170 3) (b := t 170 5) rfl rfl ?_
          show pr N2 K d tb_M123 177 [(0, .ref 170)] [vi (imi (t 170 3) (t 170 5)), .ref 170] s38 _
          have h42 : i32 (imi (t 170 3) (t 170 5)) := i32_in _
          refine pr_n (pc2 := 179) (lv2 := [(0, .ref 170)]) (st2 := [vi 8, vi (imi (t 170 3) (t 170 5)), .ref 170]) 1 (fun _ _ => rfl) ?_
          by_cases h43 : 8 < imi (t 170 3) (t 170 5)
          · refine mq_t h43 ?_
            refine pr_if2t rfl rfl h42 (i32_n rfl) h43 ?_
            refine pr_n (pc2 := 187) (lv2 := [(0, .ref 170)]) (st2 := [vi 5, .ref 170]) 1 (fun _ _ => rfl) ?_
            refine pr_pE (k2 := 170) (z := 5) hE38 rfl rfl rfl rfl (by decide) rfl (by decide) rfl (show i32 (5) from (i32_n rfl)) (hf_int' _) rfl rfl rfl (fun e => absurd e.2 (by decide)) (fun _ => trivial) fun s44 hE44 => ?_
            refine pr_n (pc2 := 585) (lv2 := [(0, .ref 170)]) (st2 := [.ref 170, .ref 170]) 3 (fun _ _ => rfl) ?_
            refine pr_gE (k2 := 170) (v := vi (t 170 3)) hE44 rfl rfl rfl (by decide) rfl rfl rfl fun h45 => ?_
            have h45 : i32 (t 170 3) := h45
            refine pr_pE (k2 := 170) (z := t 170 3) hE44 rfl rfl rfl rfl (by decide) rfl (by decide) rfl (show i32 (t 170 3) from h45) (hf_int' _) rfl rfl rfl (fun e => absurd e.2 (by decide)) (fun _ => trivial) fun s46 hE46 => ?_
            refine pr_end (fun _ _ => rfl) ?_
            exact .inl ⟨_, 0, _, rfl, ⟨rfl, rfl⟩, rfl, hE46⟩
          · refine mq_f h43 ?_
            refine pr_if2f rfl rfl h42 (i32_n rfl) h43 ?_
            refine pr_n (pc2 := 187) (lv2 := [(0, .ref 170)]) (st2 := [vi 1, .ref 170]) 2 (fun _ _ => rfl) ?_
            refine pr_pE (k2 := 170) (z := 1) hE38 rfl rfl rfl rfl (by decide) rfl (by decide) rfl (show i32 (1) from (i32_n rfl)) (hf_int' _) rfl rfl rfl (fun e => absurd e.2 (by decide)) (fun _ => trivial) fun s47 hE47 => ?_
            refine pr_n (pc2 := 585) (lv2 := [(0, .ref 170)]) (st2 := [.ref 170, .ref 170]) 3 (fun _ _ => rfl) ?_
            refine pr_gE (k2 := 170) (v := vi (t 170 3)) hE47 rfl rfl rfl (by decide) rfl rfl rfl fun h48 => ?_
            have h48 : i32 (t 170 3) := h48
            refine pr_pE (k2 := 170) (z := t 170 3) hE47 rfl rfl rfl rfl (by decide) rfl (by decide) rfl (show i32 (t 170 3) from h48) (hf_int' _) rfl rfl rfl (fun e => absurd e.2 (by decide)) (fun _ => trivial) fun s49 hE49 => ?_
            refine pr_end (fun _ _ => rfl) ?_
            exact .inl ⟨_, 0, _, rfl, ⟨rfl, rfl⟩, rfl, hE49⟩
        · refine mq_f h39 ?_
          refine pr_if1f rfl rfl (i32_z hz38) h39 ?_
          refine pr_n (pc2 := 187) (lv2 := [(0, .ref 170)]) (st2 := [vi 2, .ref 170]) 2 (fun _ _ => rfl) ?_
          refine pr_pE (k2 := 170) (z := 2) hE38 rfl rfl rfl rfl (by decide) rfl (by decide) rfl (show i32 (2) from (i32_n rfl)) (hf_int' _) rfl rfl rfl (fun e => absurd e.2 (by decide)) (fun _ => trivial) fun s50 hE50 => ?_
          refine pr_n (pc2 := 585) (lv2 := [(0, .ref 170)]) (st2 := [.ref 170, .ref 170]) 3 (fun _ _ => rfl) ?_
          refine pr_gE (k2 := 170) (v := vi (t 170 3)) hE50 rfl rfl rfl (by decide) rfl rfl rfl fun h51 => ?_
          have h51 : i32 (t 170 3) := h51
          refine pr_pE (k2 := 170) (z := t 170 3) hE50 rfl rfl rfl rfl (by decide) rfl (by decide) rfl (show i32 (t 170 3) from h51) (hf_int' _) rfl rfl rfl (fun e => absurd e.2 (by decide)) (fun _ => trivial) fun s52 hE52 => ?_
          refine pr_end (fun _ _ => rfl) ?_
          exact .inl ⟨_, 0, _, rfl, ⟨rfl, rfl⟩, rfl, hE52⟩
      · refine mq_f h35 ?_
        refine pr_if1f rfl rfl (i32_z hz34) h35 ?_
        refine pr_n (pc2 := 137) (lv2 := [(0, .ref 170)]) (st2 := [.ref 170, .ref 170]) 2 (fun _ _ => rfl) ?_
        refine pr_gE (k2 := 170) (v := vi (t 170 3)) hE34 rfl rfl rfl (by decide) rfl rfl rfl fun h53 => ?_
        have h53 : i32 (t 170 3) := h53
        refine pr_n (pc2 := 141) (lv2 := [(0, .ref 170)]) (st2 := [vi 1, vi (t 170 3), .ref 170]) 1 (fun _ _ => rfl) ?_
        refine pr_i2 (a := t 170 3) (b := 1) rfl rfl ?_
        show pr N2 K d tb_M123 142 [(0, .ref 170)] [vi (ipl (t 170 3) 1), .ref 170] s34 _
        have h54 : i32 (ipl (t 170 3) 1) := i32_in _
        refine pr_pE (k2 := 170) (z := ipl (t 170 3) 1) hE34 rfl rfl rfl rfl (by decide) rfl (by decide) rfl (show i32 (ipl (t 170 3) 1) from h54) (hf_int' _) rfl rfl rfl (fun e => absurd e.2 (by decide)) (fun _ => trivial) fun s55 hE55 => ?_
        refine pr_n (pc2 := 94) (lv2 := [(0, .ref 170)]) (st2 := []) 1 (fun _ _ => rfl) ?_
        exact ((ih N2 hN2).2.2.2.1) s55 (up2 t 170 3 (ipl (t 170 3) 1))  hE55 
set_option maxHeartbeats 20000000 in
set_option maxRecDepth 100000 in
theorem ru123_4 {N K d C : Nat} (h_124 : rT124 K d C) (h_125 : rT125 K d C) (h_126 : rT126 K d C) (ih : ∀ N2, N2 < N → rA123 N2 K d C) : rU123_4 N K d C := by
  intro s t y2 y1 ys0 hE hy2 hy1 hys0
  have hC : C = 177 ∨ C = 186 := hE.1
  rw [rG_123_484]
  unfold rM123_484
  refine pr_lt (pc2 := 485) (lv2 := [(3, vi ys0), (2, vi y2), (1, vi y1), (0, .ref 170)]) (st2 := []) (fun _ _ => rfl) fun N2 hN2 => ?_
  refine pr_n (pc2 := 488) (lv2 := [(3, vi ys0), (2, vi y2), (1, vi y1), (0, .ref 170)]) (st2 := [vi 61, vi y2]) 2 (fun _ _ => rfl) ?_
  by_cases h1 : y2 ≠ 61
  · refine mq_t h1 ?_
    refine pr_if2t rfl rfl hy2 (i32_n rfl) h1 ?_
    refine pr_n (pc2 := 517) (lv2 := [(3, vi ys0), (2, vi y2), (1, vi y1), (0, .ref 170)]) (st2 := [vi y1, vi y2]) 2 (fun _ _ => rfl) ?_
    by_cases h2 : y2 ≠ y1
    · refine mq_t h2 ?_
      refine pr_if2t rfl rfl hy2 hy1 h2 ?_
      refine pr_n (pc2 := 549) (lv2 := [(3, vi ys0), (2, vi y2), (1, vi y1), (0, .ref 170)]) (st2 := [vi 0]) 1 (fun _ _ => rfl) ?_
      exact ((ih N2 hN2).2.2.2.2.2) s t ys0 y2 y1 0 hE hys0 hy2 hy1 (i32_n rfl)
    · refine mq_f h2 ?_
      refine pr_if2f rfl rfl hy2 hy1 h2 ?_
      refine pr_n (pc2 := 523) (lv2 := [(3, vi ys0), (2, vi y2), (1, vi y1), (0, .ref 170)]) (st2 := [vi 38, vi y1]) 2 (fun _ _ => rfl) ?_
      by_cases h3 : y1 = 38
      · refine mq_t h3 ?_
        refine pr_if2t rfl rfl hy1 (i32_n rfl) h3 ?_
        refine pr_n (pc2 := 549) (lv2 := [(3, vi ys0), (2, vi y2), (1, vi y1), (0, .ref 170)]) (st2 := [vi 1]) 2 (fun _ _ => rfl) ?_
        exact ((ih N2 hN2).2.2.2.2.2) s t ys0 y2 y1 1 hE hys0 hy2 hy1 (i32_n rfl)
      · refine mq_f h3 ?_
        refine pr_if2f rfl rfl hy1 (i32_n rfl) h3 ?_
        refine pr_n (pc2 := 529) (lv2 := [(3, vi ys0), (2, vi y2), (1, vi y1), (0, .ref 170)]) (st2 := [vi 124, vi y1]) 2 (fun _ _ => rfl) ?_
        by_cases h4 : y1 = 124
        · refine mq_t h4 ?_
          refine pr_if2t rfl rfl hy1 (i32_n rfl) h4 ?_
          refine pr_n (pc2 := 549) (lv2 := [(3, vi ys0), (2, vi y2), (1, vi y1), (0, .ref 170)]) (st2 := [vi 1]) 2 (fun _ _ => rfl) ?_
          exact ((ih N2 hN2).2.2.2.2.2) s t ys0 y2 y1 1 hE hys0 hy2 hy1 (i32_n rfl)
        · refine mq_f h4 ?_
          refine pr_if2f rfl rfl hy1 (i32_n rfl) h4 ?_
          refine pr_n (pc2 := 535) (lv2 := [(3, vi ys0), (2, vi y2), (1, vi y1), (0, .ref 170)]) (st2 := [vi 60, vi y1]) 2 (fun _ _ => rfl) ?_
          by_cases h5 : y1 = 60
          · refine mq_t h5 ?_
            refine pr_if2t rfl rfl hy1 (i32_n rfl) h5 ?_
            refine pr_n (pc2 := 549) (lv2 := [(3, vi ys0), (2, vi y2), (1, vi y1), (0, .ref 170)]) (st2 := [vi 1]) 2 (fun _ _ => rfl) ?_
            exact ((ih N2 hN2).2.2.2.2.2) s t ys0 y2 y1 1 hE hys0 hy2 hy1 (i32_n rfl)
          · refine mq_f h5 ?_
            refine pr_if2f rfl rfl hy1 (i32_n rfl) h5 ?_
            refine pr_n (pc2 := 541) (lv2 := [(3, vi ys0), (2, vi y2), (1, vi y1), (0, .ref 170)]) (st2 := [vi 62, vi y1]) 2 (fun _ _ => rfl) ?_
            by_cases h6 : y1 ≠ 62
            · refine mq_t h6 ?_
              refine pr_if2t rfl rfl hy1 (i32_n rfl) h6 ?_
              refine pr_n (pc2 := 549) (lv2 := [(3, vi ys0), (2, vi y2), (1, vi y1), (0, .ref 170)]) (st2 := [vi 0]) 1 (fun _ _ => rfl) ?_
              exact ((ih N2 hN2).2.2.2.2.2) s t ys0 y2 y1 0 hE hys0 hy2 hy1 (i32_n rfl)
            · refine mq_f h6 ?_
              refine pr_if2f rfl rfl hy1 (i32_n rfl) h6 ?_
              refine pr_n (pc2 := 549) (lv2 := [(3, vi ys0), (2, vi y2), (1, vi y1), (0, .ref 170)]) (st2 := [vi 1]) 2 (fun _ _ => rfl) ?_
              exact ((ih N2 hN2).2.2.2.2.2) s t ys0 y2 y1 1 hE hys0 hy2 hy1 (i32_n rfl)
  · refine mq_f h1 ?_
    refine pr_if2f rfl rfl hy2 (i32_n rfl) h1 ?_
    refine pr_n (pc2 := 494) (lv2 := [(3, vi ys0), (2, vi y2), (1, vi y1), (0, .ref 170)]) (st2 := [vi 61, vi y1]) 2 (fun _ _ => rfl) ?_
    by_cases h7 : y1 = 61
    · refine mq_t h7 ?_
      refine pr_if2t rfl rfl hy1 (i32_n rfl) h7 ?_
      refine pr_n (pc2 := 549) (lv2 := [(3, vi ys0), (2, vi y2), (1, vi y1), (0, .ref 170)]) (st2 := [vi 1]) 2 (fun _ _ => rfl) ?_
      exact ((ih N2 hN2).2.2.2.2.2) s t ys0 y2 y1 1 hE hys0 hy2 hy1 (i32_n rfl)
    · refine mq_f h7 ?_
      refine pr_if2f rfl rfl hy1 (i32_n rfl) h7 ?_
      refine pr_n (pc2 := 500) (lv2 := [(3, vi ys0), (2, vi y2), (1, vi y1), (0, .ref 170)]) (st2 := [vi 33, vi y1]) 2 (fun _ _ => rfl) ?_
      by_cases h8 : y1 = 33
      · refine mq_t h8 ?_
        refine pr_if2t rfl rfl hy1 (i32_n rfl) h8 ?_
        refine pr_n (pc2 := 549) (lv2 := [(3, vi ys0), (2, vi y2), (1, vi y1), (0, .ref 170)]) (st2 := [vi 1]) 2 (fun _ _ => rfl) ?_
        exact ((ih N2 hN2).2.2.2.2.2) s t ys0 y2 y1 1 hE hys0 hy2 hy1 (i32_n rfl)
      · refine mq_f h8 ?_
        refine pr_if2f rfl rfl hy1 (i32_n rfl) h8 ?_
        refine pr_n (pc2 := 506) (lv2 := [(3, vi ys0), (2, vi y2), (1, vi y1), (0, .ref 170)]) (st2 := [vi 60, vi y1]) 2 (fun _ _ => rfl) ?_
        by_cases h9 : y1 = 60
        · refine mq_t h9 ?_
          refine pr_if2t rfl rfl hy1 (i32_n rfl) h9 ?_
          refine pr_n (pc2 := 549) (lv2 := [(3, vi ys0), (2, vi y2), (1, vi y1), (0, .ref 170)]) (st2 := [vi 1]) 2 (fun _ _ => rfl) ?_
          exact ((ih N2 hN2).2.2.2.2.2) s t ys0 y2 y1 1 hE hys0 hy2 hy1 (i32_n rfl)
        · refine mq_f h9 ?_
          refine pr_if2f rfl rfl hy1 (i32_n rfl) h9 ?_
          refine pr_n (pc2 := 512) (lv2 := [(3, vi ys0), (2, vi y2), (1, vi y1), (0, .ref 170)]) (st2 := [vi 62, vi y1]) 2 (fun _ _ => rfl) ?_
          by_cases h10 : y1 = 62
          · refine mq_t h10 ?_
            refine pr_if2t rfl rfl hy1 (i32_n rfl) h10 ?_
            refine pr_n (pc2 := 549) (lv2 := [(3, vi ys0), (2, vi y2), (1, vi y1), (0, .ref 170)]) (st2 := [vi 1]) 2 (fun _ _ => rfl) ?_
            exact ((ih N2 hN2).2.2.2.2.2) s t ys0 y2 y1 1 hE hys0 hy2 hy1 (i32_n rfl)
          · refine mq_f h10 ?_
            refine pr_if2f rfl rfl hy1 (i32_n rfl) h10 ?_
            refine pr_n (pc2 := 517) (lv2 := [(3, vi ys0), (2, vi y2), (1, vi y1), (0, .ref 170)]) (st2 := [vi y1, vi y2]) 2 (fun _ _ => rfl) ?_
            by_cases h11 : y2 ≠ y1
            · refine mq_t h11 ?_
              refine pr_if2t rfl rfl hy2 hy1 h11 ?_
              refine pr_n (pc2 := 549) (lv2 := [(3, vi ys0), (2, vi y2), (1, vi y1), (0, .ref 170)]) (st2 := [vi 0]) 1 (fun _ _ => rfl) ?_
              exact ((ih N2 hN2).2.2.2.2.2) s t ys0 y2 y1 0 hE hys0 hy2 hy1 (i32_n rfl)
            · refine mq_f h11 ?_
              refine pr_if2f rfl rfl hy2 hy1 h11 ?_
              refine pr_n (pc2 := 523) (lv2 := [(3, vi ys0), (2, vi y2), (1, vi y1), (0, .ref 170)]) (st2 := [vi 38, vi y1]) 2 (fun _ _ => rfl) ?_
              by_cases h12 : y1 = 38
              · refine mq_t h12 ?_
                refine pr_if2t rfl rfl hy1 (i32_n rfl) h12 ?_
                refine pr_n (pc2 := 549) (lv2 := [(3, vi ys0), (2, vi y2), (1, vi y1), (0, .ref 170)]) (st2 := [vi 1]) 2 (fun _ _ => rfl) ?_
                exact ((ih N2 hN2).2.2.2.2.2) s t ys0 y2 y1 1 hE hys0 hy2 hy1 (i32_n rfl)
              · refine mq_f h12 ?_
                refine pr_if2f rfl rfl hy1 (i32_n rfl) h12 ?_
                refine pr_n (pc2 := 529) (lv2 := [(3, vi ys0), (2, vi y2), (1, vi y1), (0, .ref 170)]) (st2 := [vi 124, vi y1]) 2 (fun _ _ => rfl) ?_
                by_cases h13 : y1 = 124
                · refine mq_t h13 ?_
                  refine pr_if2t rfl rfl hy1 (i32_n rfl) h13 ?_
                  refine pr_n (pc2 := 549) (lv2 := [(3, vi ys0), (2, vi y2), (1, vi y1), (0, .ref 170)]) (st2 := [vi 1]) 2 (fun _ _ => rfl) ?_
                  exact ((ih N2 hN2).2.2.2.2.2) s t ys0 y2 y1 1 hE hys0 hy2 hy1 (i32_n rfl)
                · refine mq_f h13 ?_
                  refine pr_if2f rfl rfl hy1 (i32_n rfl) h13 ?_
                  refine pr_n (pc2 := 535) (lv2 := [(3, vi ys0), (2, vi y2), (1, vi y1), (0, .ref 170)]) (st2 := [vi 60, vi y1]) 2 (fun _ _ => rfl) ?_
                  refine pr_if2f rfl rfl hy1 (i32_n rfl) (show ¬ (y1 = 60) by omega) ?_
                  show pr N2 K d tb_M123 538 [(3, vi ys0), (2, vi y2), (1, vi y1), (0, .ref 170)] [] s _
                  refine pr_n (pc2 := 541) (lv2 := [(3, vi ys0), (2, vi y2), (1, vi y1), (0, .ref 170)]) (st2 := [vi 62, vi y1]) 2 (fun _ _ => rfl) ?_
                  refine pr_if2t rfl rfl hy1 (i32_n rfl) (show y1 ≠ 62 by omega) ?_
                  show pr N2 K d tb_M123 548 [(3, vi ys0), (2, vi y2), (1, vi y1), (0, .ref 170)] [] s _
                  refine pr_n (pc2 := 549) (lv2 := [(3, vi ys0), (2, vi y2), (1, vi y1), (0, .ref 170)]) (st2 := [vi 0]) 1 (fun _ _ => rfl) ?_
                  exact ((ih N2 hN2).2.2.2.2.2) s t ys0 y2 y1 0 hE hys0 hy2 hy1 (i32_n rfl)
set_option maxHeartbeats 20000000 in
set_option maxRecDepth 100000 in
theorem ru123_5 {N K d C : Nat} (h_124 : rT124 K d C) (h_125 : rT125 K d C) (h_126 : rT126 K d C) (ih : ∀ N2, N2 < N → rA123 N2 K d C) : rU123_5 N K d C := by
  intro s t y3 y2 y1 ys0 hE hy3 hy2 hy1 hys0
  have hC : C = 177 ∨ C = 186 := hE.1
  rw [rG_123_549]
  unfold rM123_549
  refine pr_lt (pc2 := 551) (lv2 := [(4, vi ys0), (3, vi y3), (2, vi y2), (1, vi y1), (0, .ref 170)]) (st2 := []) (fun _ _ => rfl) fun N2 hN2 => ?_
  refine pr_n (pc2 := 553) (lv2 := [(4, vi ys0), (3, vi y3), (2, vi y2), (1, vi y1), (0, .ref 170)]) (st2 := [vi y3, .ref 170]) 2 (fun _ _ => rfl) ?_
  by_cases h1 : y3 = 0
  · refine mq_t h1 ?_
    refine pr_if1t rfl rfl hy3 h1 ?_
    refine pr_n (pc2 := 561) (lv2 := [(4, vi ys0), (3, vi y3), (2, vi y2), (1, vi y1), (0, .ref 170)]) (st2 := [vi 5, .ref 170]) 1 (fun _ _ => rfl) ?_
    refine pr_pE (k2 := 170) (z := 5) hE rfl rfl rfl rfl (by decide) rfl (by decide) rfl (show i32 (5) from (i32_n rfl)) (hf_int' _) rfl rfl rfl (fun e => absurd e.2 (by decide)) (fun _ => trivial) fun s2 hE2 => ?_
    refine pr_n (pc2 := 566) (lv2 := [(4, vi ys0), (3, vi y3), (2, vi y2), (1, vi y1), (0, .ref 170)]) (st2 := [.ref 170, .ref 170]) 2 (fun _ _ => rfl) ?_
    refine pr_gE (k2 := 170) (v := vi (t 170 3)) hE2 rfl rfl rfl (by decide) rfl rfl rfl fun h3 => ?_
    have h3 : i32 (t 170 3) := h3
    refine pr_n (pc2 := 571) (lv2 := [(4, vi ys0), (3, vi y3), (2, vi y2), (1, vi y1), (0, .ref 170)]) (st2 := [vi ys0, vi (t 170 3), .ref 170]) 1 (fun _ _ => rfl) ?_
    by_cases h4 : ys0 = 0
    · refine mq_t h4 ?_
      refine pr_if1t rfl rfl hys0 h4 ?_
      refine pr_n (pc2 := 579) (lv2 := [(4, vi ys0), (3, vi y3), (2, vi y2), (1, vi y1), (0, .ref 170)]) (st2 := [vi 1, vi (t 170 3), .ref 170]) 1 (fun _ _ => rfl) ?_
      refine pr_i2 (a := t 170 3) (b := 1) rfl rfl ?_
      show pr N2 K d tb_M123 580 [(4, vi ys0), (3, vi y3), (2, vi y2), (1, vi y1), (0, .ref 170)] [vi (ipl (t 170 3) 1), .ref 170] s2 _
      have h5 : i32 (ipl (t 170 3) 1) := i32_in _
      refine pr_pE (k2 := 170) (z := ipl (t 170 3) 1) hE2 rfl rfl rfl rfl (by decide) rfl (by decide) rfl (show i32 (ipl (t 170 3) 1) from h5) (hf_int' _) rfl rfl rfl (fun e => absurd e.2 (by decide)) (fun _ => trivial) fun s6 hE6 => ?_
      refine pr_n (pc2 := 585) (lv2 := [(4, vi ys0), (3, vi y3), (2, vi y2), (1, vi y1), (0, .ref 170)]) (st2 := [.ref 170, .ref 170]) 2 (fun _ _ => rfl) ?_
      refine pr_gE (k2 := 170) (v := vi (ipl (t 170 3) 1)) hE6 rfl rfl rfl (by decide) rfl rfl rfl fun h7 => ?_
      have h7 : i32 (ipl (t 170 3) 1) := h7
      refine pr_pE (k2 := 170) (z := ipl (t 170 3) 1) hE6 rfl rfl rfl rfl (by decide) rfl (by decide) rfl (show i32 (ipl (t 170 3) 1) from h7) (hf_int' _) rfl rfl rfl (fun e => absurd e.2 (by decide)) (fun _ => trivial) fun s8 hE8 => ?_
      refine pr_end (fun _ _ => rfl) ?_
      exact .inl ⟨_, 0, _, rfl, ⟨rfl, rfl⟩, rfl, hE8⟩
    · refine mq_f h4 ?_
      refine pr_if1f rfl rfl hys0 h4 ?_
      refine pr_n (pc2 := 579) (lv2 := [(4, vi ys0), (3, vi y3), (2, vi y2), (1, vi y1), (0, .ref 170)]) (st2 := [vi 2, vi (t 170 3), .ref 170]) 2 (fun _ _ => rfl) ?_
      refine pr_i2 (a := t 170 3) (b := 2) rfl rfl ?_
      show pr N2 K d tb_M123 580 [(4, vi ys0), (3, vi y3), (2, vi y2), (1, vi y1), (0, .ref 170)] [vi (ipl (t 170 3) 2), .ref 170] s2 _
      have h9 : i32 (ipl (t 170 3) 2) := i32_in _
      refine pr_pE (k2 := 170) (z := ipl (t 170 3) 2) hE2 rfl rfl rfl rfl (by decide) rfl (by decide) rfl (show i32 (ipl (t 170 3) 2) from h9) (hf_int' _) rfl rfl rfl (fun e => absurd e.2 (by decide)) (fun _ => trivial) fun s10 hE10 => ?_
      refine pr_n (pc2 := 585) (lv2 := [(4, vi ys0), (3, vi y3), (2, vi y2), (1, vi y1), (0, .ref 170)]) (st2 := [.ref 170, .ref 170]) 2 (fun _ _ => rfl) ?_
      refine pr_gE (k2 := 170) (v := vi (ipl (t 170 3) 2)) hE10 rfl rfl rfl (by decide) rfl rfl rfl fun h11 => ?_
      have h11 : i32 (ipl (t 170 3) 2) := h11
      refine pr_pE (k2 := 170) (z := ipl (t 170 3) 2) hE10 rfl rfl rfl rfl (by decide) rfl (by decide) rfl (show i32 (ipl (t 170 3) 2) from h11) (hf_int' _) rfl rfl rfl (fun e => absurd e.2 (by decide)) (fun _ => trivial) fun s12 hE12 => ?_
      refine pr_end (fun _ _ => rfl) ?_
      exact .inl ⟨_, 0, _, rfl, ⟨rfl, rfl⟩, rfl, hE12⟩
  · refine mq_f h1 ?_
    refine pr_if1f rfl rfl hy3 h1 ?_
    refine pr_n (pc2 := 561) (lv2 := [(4, vi ys0), (3, vi y3), (2, vi y2), (1, vi y1), (0, .ref 170)]) (st2 := [vi 4, .ref 170]) 2 (fun _ _ => rfl) ?_
    refine pr_pE (k2 := 170) (z := 4) hE rfl rfl rfl rfl (by decide) rfl (by decide) rfl (show i32 (4) from (i32_n rfl)) (hf_int' _) rfl rfl rfl (fun e => absurd e.2 (by decide)) (fun _ => trivial) fun s13 hE13 => ?_
    refine pr_n (pc2 := 566) (lv2 := [(4, vi ys0), (3, vi y3), (2, vi y2), (1, vi y1), (0, .ref 170)]) (st2 := [.ref 170, .ref 170]) 2 (fun _ _ => rfl) ?_
    refine pr_gE (k2 := 170) (v := vi (t 170 3)) hE13 rfl rfl rfl (by decide) rfl rfl rfl fun h14 => ?_
    have h14 : i32 (t 170 3) := h14
    refine pr_n (pc2 := 571) (lv2 := [(4, vi ys0), (3, vi y3), (2, vi y2), (1, vi y1), (0, .ref 170)]) (st2 := [vi ys0, vi (t 170 3), .ref 170]) 1 (fun _ _ => rfl) ?_
    by_cases h15 : ys0 = 0
    · refine mq_t h15 ?_
      refine pr_if1t rfl rfl hys0 h15 ?_
      refine pr_n (pc2 := 579) (lv2 := [(4, vi ys0), (3, vi y3), (2, vi y2), (1, vi y1), (0, .ref 170)]) (st2 := [vi 1, vi (t 170 3), .ref 170]) 1 (fun _ _ => rfl) ?_
      refine pr_i2 (a := t 170 3) (b := 1) rfl rfl ?_
      show pr N2 K d tb_M123 580 [(4, vi ys0), (3, vi y3), (2, vi y2), (1, vi y1), (0, .ref 170)] [vi (ipl (t 170 3) 1), .ref 170] s13 _
      have h16 : i32 (ipl (t 170 3) 1) := i32_in _
      refine pr_pE (k2 := 170) (z := ipl (t 170 3) 1) hE13 rfl rfl rfl rfl (by decide) rfl (by decide) rfl (show i32 (ipl (t 170 3) 1) from h16) (hf_int' _) rfl rfl rfl (fun e => absurd e.2 (by decide)) (fun _ => trivial) fun s17 hE17 => ?_
      refine pr_n (pc2 := 585) (lv2 := [(4, vi ys0), (3, vi y3), (2, vi y2), (1, vi y1), (0, .ref 170)]) (st2 := [.ref 170, .ref 170]) 2 (fun _ _ => rfl) ?_
      refine pr_gE (k2 := 170) (v := vi (ipl (t 170 3) 1)) hE17 rfl rfl rfl (by decide) rfl rfl rfl fun h18 => ?_
      have h18 : i32 (ipl (t 170 3) 1) := h18
      refine pr_pE (k2 := 170) (z := ipl (t 170 3) 1) hE17 rfl rfl rfl rfl (by decide) rfl (by decide) rfl (show i32 (ipl (t 170 3) 1) from h18) (hf_int' _) rfl rfl rfl (fun e => absurd e.2 (by decide)) (fun _ => trivial) fun s19 hE19 => ?_
      refine pr_end (fun _ _ => rfl) ?_
      exact .inl ⟨_, 0, _, rfl, ⟨rfl, rfl⟩, rfl, hE19⟩
    · refine mq_f h15 ?_
      refine pr_if1f rfl rfl hys0 h15 ?_
      refine pr_n (pc2 := 579) (lv2 := [(4, vi ys0), (3, vi y3), (2, vi y2), (1, vi y1), (0, .ref 170)]) (st2 := [vi 2, vi (t 170 3), .ref 170]) 2 (fun _ _ => rfl) ?_
      refine pr_i2 (a := t 170 3) (b := 2) rfl rfl ?_
      show pr N2 K d tb_M123 580 [(4, vi ys0), (3, vi y3), (2, vi y2), (1, vi y1), (0, .ref 170)] [vi (ipl (t 170 3) 2), .ref 170] s13 _
      have h20 : i32 (ipl (t 170 3) 2) := i32_in _
      refine pr_pE (k2 := 170) (z := ipl (t 170 3) 2) hE13 rfl rfl rfl rfl (by decide) rfl (by decide) rfl (show i32 (ipl (t 170 3) 2) from h20) (hf_int' _) rfl rfl rfl (fun e => absurd e.2 (by decide)) (fun _ => trivial) fun s21 hE21 => ?_
      refine pr_n (pc2 := 585) (lv2 := [(4, vi ys0), (3, vi y3), (2, vi y2), (1, vi y1), (0, .ref 170)]) (st2 := [.ref 170, .ref 170]) 2 (fun _ _ => rfl) ?_
      refine pr_gE (k2 := 170) (v := vi (ipl (t 170 3) 2)) hE21 rfl rfl rfl (by decide) rfl rfl rfl fun h22 => ?_
      have h22 : i32 (ipl (t 170 3) 2) := h22
      refine pr_pE (k2 := 170) (z := ipl (t 170 3) 2) hE21 rfl rfl rfl rfl (by decide) rfl (by decide) rfl (show i32 (ipl (t 170 3) 2) from h22) (hf_int' _) rfl rfl rfl (fun e => absurd e.2 (by decide)) (fun _ => trivial) fun s23 hE23 => ?_
      refine pr_end (fun _ _ => rfl) ?_
      exact .inl ⟨_, 0, _, rfl, ⟨rfl, rfl⟩, rfl, hE23⟩
theorem ra123 {K d C : Nat} (h_124 : rT124 K d C) (h_125 : rT125 K d C) (h_126 : rT126 K d C) : ∀ N, rA123 N K d C := by
  intro N
  induction N using Nat.strongRecOn with | ind N ih => ?_
  exact ⟨ru123_0 h_124 h_125 h_126 ih, ru123_1 h_124 h_125 h_126 ih, ru123_2 h_124 h_125 h_126 ih, ru123_3 h_124 h_125 h_126 ih, ru123_4 h_124 h_125 h_126 ih, ru123_5 h_124 h_125 h_126 ih⟩
set_option maxHeartbeats 20000000 in
set_option maxRecDepth 100000 in
theorem rm123 {K d C : Nat} (h_124 : rT124 K d C) (h_125 : rT125 K d C) (h_126 : rT126 K d C) : rT123 K (d + 1) C := by
  intro s t  hE 
  have hC : C = 177 ∨ C = 186 := hE.1
  refine pcr_of (M := tb_M123) rfl ?_
  show pr K K d tb_M123 0 [(0, .ref 170)] [] s _
  rw [rG_123]
  unfold rM123
  exact ((ra123 h_124 h_125 h_126 K).1) s t  hE 
set_option maxHeartbeats 20000000 in
set_option maxRecDepth 100000 in
theorem ru127_0 {N K d C : Nat} (ih : ∀ N2, N2 < N → rA127 N2 K d C) : rU127_0 N K d C := by
  intro s t y2 x1 hE hy2 hx1
  have hC : C = 177 ∨ C = 186 := hE.1
  rw [rG_127_36]
  unfold rM127_36
  refine pr_lt (pc2 := 37) (lv2 := [(2, vi y2), (0, .ref 170), (1, .ref x1)]) (st2 := [vi y2]) (fun _ _ => rfl) fun N2 hN2 => ?_
  refine pr_n (pc2 := 38) (lv2 := [(2, vi y2), (0, .ref 170), (1, .ref x1)]) (st2 := [.ref x1, vi y2]) 1 (fun _ _ => rfl) ?_
  refine pr_t4 (args := []) (rest := [vi y2]) rfl rfl rfl hx1.1.1 (Nat.le_of_ble_eq_true rfl) rfl (tx_len hx1) ?_
  show pr N2 K d tb_M127 41 [(2, vi y2), (0, .ref 170), (1, .ref x1)] [vi (txn (x1 : Int)), vi y2] s _
  have h1 : i32 (txn (x1 : Int)) := (txn_i32 hx1)
  by_cases h2 : txn (x1 : Int) ≤ y2
  · refine mq_t h2 ?_
    refine pr_if2t rfl rfl hy2 h1 h2 ?_
    refine pr_n (pc2 := 72) (lv2 := [(2, vi y2), (0, .ref 170), (1, .ref x1)]) (st2 := [vi 1]) 1 (fun _ _ => rfl) ?_
    refine pr_end (fun _ _ => rfl) ?_
    exact .inl ⟨_, 1, _, rfl, ⟨rfl, (by decide)⟩, rfl, hE⟩
  · refine mq_f h2 ?_
    refine pr_if2f rfl rfl hy2 h1 h2 ?_
    refine pr_n (pc2 := 45) (lv2 := [(2, vi y2), (0, .ref 170), (1, .ref x1)]) (st2 := [.ref 170]) 1 (fun _ _ => rfl) ?_
    refine pr_get (v := .ref 171) rfl rfl rfl (by decide) (rv_ref (hE.2.1 170 0 171 rfl)) fun _ => ?_
    refine pr_n (pc2 := 49) (lv2 := [(2, vi y2), (0, .ref 170), (1, .ref x1)]) (st2 := [.ref 170, .ref 171]) 1 (fun _ _ => rfl) ?_
    refine pr_gE (k2 := 170) (v := vi (t 170 5)) hE rfl rfl rfl (by decide) rfl rfl rfl fun h3 => ?_
    have h3 : i32 (t 170 5) := h3
    refine pr_n (pc2 := 53) (lv2 := [(2, vi y2), (0, .ref 170), (1, .ref x1)]) (st2 := [vi y2, vi (t 170 5), .ref 171]) 1 (fun _ _ => rfl) ?_
    refine pr_i2 (a := t 170 5) (b := y2) rfl rfl ?_
    show pr N2 K d tb_M127 54 [(2, vi y2), (0, .ref 170), (1, .ref x1)] [vi (ipl (t 170 5) y2), .ref 171] s _
    have h4 : i32 (ipl (t 170 5) y2) := i32_in _
    refine pr_aE (k2 := 171) (a := ipl (t 170 5) y2) (v := vi (t 171 ((ipl (t 170 5) y2).toNat))) hE rfl rfl rfl h4 (by decide) rfl rfl rfl fun h6 h7 h5 => ?_
    have h5 : -128 ≤ t 171 ((ipl (t 170 5) y2).toNat) ∧ t 171 ((ipl (t 170 5) y2).toNat) ≤ 127 := h5
    refine pr_n (pc2 := 57) (lv2 := [(2, vi y2), (0, .ref 170), (1, .ref x1)]) (st2 := [vi y2, .ref x1, vi (t 171 ((ipl (t 170 5) y2).toNat))]) 2 (fun _ _ => rfl) ?_
    refine pr_t4 (args := [vi y2]) (rest := [vi (t 171 ((ipl (t 170 5) y2).toNat))]) rfl rfl rfl hx1.1.1 (Nat.le_of_ble_eq_true rfl) rfl (tx_chr hx1 hy2) ?_
    show pr N2 K d tb_M127 60 [(2, vi y2), (0, .ref 170), (1, .ref x1)] [vi (txc (x1 : Int) y2), vi (t 171 ((ipl (t 170 5) y2).toNat))] s _
    have h8 : i32 (txc (x1 : Int) y2) := (txc_i32 hx1)
    by_cases h9 : t 171 ((ipl (t 170 5) y2).toNat) = txc (x1 : Int) y2
    · refine mq_t h9 ?_
      refine pr_if2t rfl rfl (i32_b h5) h8 h9 ?_
      refine pr_inc (a := y2) rfl rfl ?_
      have h10 : i32 (y2 + 1) := by unfold i32 at *; omega
      show pr N2 K d tb_M127 68 [(2, vi (y2 + 1)), (0, .ref 170), (1, .ref x1)] [] s _
      refine pr_n (pc2 := 36) (lv2 := [(2, vi (y2 + 1)), (0, .ref 170), (1, .ref x1)]) (st2 := []) 1 (fun _ _ => rfl) ?_
      exact ((ih N2 hN2)) s t (y2 + 1) x1 hE h10 hx1
    · refine mq_f h9 ?_
      refine pr_if2f rfl rfl (i32_b h5) h8 h9 ?_
      refine pr_n (pc2 := 64) (lv2 := [(2, vi y2), (0, .ref 170), (1, .ref x1)]) (st2 := [vi 0]) 1 (fun _ _ => rfl) ?_
      refine pr_end (fun _ _ => rfl) ?_
      exact .inl ⟨_, 0, _, rfl, ⟨rfl, (by decide)⟩, rfl, hE⟩
theorem ra127 {K d C : Nat} : ∀ N, rA127 N K d C := by
  intro N
  induction N using Nat.strongRecOn with | ind N ih => ?_
  exact ru127_0 ih
set_option maxHeartbeats 20000000 in
set_option maxRecDepth 100000 in
theorem rm127 {K d C : Nat} : rT127 K (d + 1) C := by
  intro s t x1 hE hx1
  have hC : C = 177 ∨ C = 186 := hE.1
  refine pcr_of (M := tb_M127) rfl ?_
  show pr K K d tb_M127 0 [(0, .ref 170), (1, .ref x1)] [] s _
  rw [rG_127]
  unfold rM127
  refine pr_n (pc2 := 1) (lv2 := [(0, .ref 170), (1, .ref x1)]) (st2 := [.ref 170]) 1 (fun _ _ => rfl) ?_
  refine pr_gE (k2 := 170) (v := vi (t 170 4)) hE rfl rfl rfl (by decide) rfl rfl rfl fun h1 => ?_
  have h1 : i32 (t 170 4) := h1
  refine pr_n (pc2 := 5) (lv2 := [(0, .ref 170), (1, .ref x1)]) (st2 := [vi 2, vi (t 170 4)]) 1 (fun _ _ => rfl) ?_
  by_cases h2 : t 170 4 = 2
  · refine mq_t h2 ?_
    refine pr_if2t rfl rfl h1 (i32_n rfl) h2 ?_
    refine pr_n (pc2 := 17) (lv2 := [(0, .ref 170), (1, .ref x1)]) (st2 := [.ref 170]) 1 (fun _ _ => rfl) ?_
    refine pr_gE (k2 := 170) (v := vi (t 170 6)) hE rfl rfl rfl (by decide) rfl rfl rfl fun h3 => ?_
    have h3 : i32 (t 170 6) := h3
    refine pr_n (pc2 := 21) (lv2 := [(0, .ref 170), (1, .ref x1)]) (st2 := [.ref 170, vi (t 170 6)]) 1 (fun _ _ => rfl) ?_
    refine pr_gE (k2 := 170) (v := vi (t 170 5)) hE rfl rfl rfl (by decide) rfl rfl rfl fun h4 => ?_
    have h4 : i32 (t 170 5) := h4
    refine pr_i2 (a := t 170 6) (b := t 170 5) rfl rfl ?_
    show pr K K d tb_M127 25 [(0, .ref 170), (1, .ref x1)] [vi (imi (t 170 6) (t 170 5))] s _
    have h5 : i32 (imi (t 170 6) (t 170 5)) := i32_in _
    refine pr_n (pc2 := 26) (lv2 := [(0, .ref 170), (1, .ref x1)]) (st2 := [.ref x1, vi (imi (t 170 6) (t 170 5))]) 1 (fun _ _ => rfl) ?_
    refine pr_t4 (args := []) (rest := [vi (imi (t 170 6) (t 170 5))]) rfl rfl rfl hx1.1.1 (Nat.le_of_ble_eq_true rfl) rfl (tx_len hx1) ?_
    show pr K K d tb_M127 29 [(0, .ref 170), (1, .ref x1)] [vi (txn (x1 : Int)), vi (imi (t 170 6) (t 170 5))] s _
    have h6 : i32 (txn (x1 : Int)) := (txn_i32 hx1)
    by_cases h7 : imi (t 170 6) (t 170 5) = txn (x1 : Int)
    · refine mq_t h7 ?_
      refine pr_if2t rfl rfl h5 h6 h7 ?_
      refine pr_n (pc2 := 36) (lv2 := [(2, vi 0), (0, .ref 170), (1, .ref x1)]) (st2 := []) 2 (fun _ _ => rfl) ?_
      exact ((ra127 K)) s t 0 x1 hE (i32_n rfl) hx1
    · refine mq_f h7 ?_
      refine pr_if2f rfl rfl h5 h6 h7 ?_
      refine pr_n (pc2 := 33) (lv2 := [(0, .ref 170), (1, .ref x1)]) (st2 := [vi 0]) 1 (fun _ _ => rfl) ?_
      refine pr_end (fun _ _ => rfl) ?_
      exact .inl ⟨_, 0, _, rfl, ⟨rfl, (by decide)⟩, rfl, hE⟩
  · refine mq_f h2 ?_
    refine pr_if2f rfl rfl h1 (i32_n rfl) h2 ?_
    refine pr_n (pc2 := 9) (lv2 := [(0, .ref 170), (1, .ref x1)]) (st2 := [.ref 170]) 1 (fun _ _ => rfl) ?_
    refine pr_gE (k2 := 170) (v := vi (t 170 4)) hE rfl rfl rfl (by decide) rfl rfl rfl fun h8 => ?_
    have h8 : i32 (t 170 4) := h8
    refine pr_n (pc2 := 13) (lv2 := [(0, .ref 170), (1, .ref x1)]) (st2 := [vi 4, vi (t 170 4)]) 1 (fun _ _ => rfl) ?_
    by_cases h9 : t 170 4 ≠ 4
    · refine mq_t h9 ?_
      refine pr_if2t rfl rfl h8 (i32_n rfl) h9 ?_
      refine pr_n (pc2 := 33) (lv2 := [(0, .ref 170), (1, .ref x1)]) (st2 := [vi 0]) 1 (fun _ _ => rfl) ?_
      refine pr_end (fun _ _ => rfl) ?_
      exact .inl ⟨_, 0, _, rfl, ⟨rfl, (by decide)⟩, rfl, hE⟩
    · refine mq_f h9 ?_
      refine pr_if2f rfl rfl h8 (i32_n rfl) h9 ?_
      refine pr_n (pc2 := 17) (lv2 := [(0, .ref 170), (1, .ref x1)]) (st2 := [.ref 170]) 1 (fun _ _ => rfl) ?_
      refine pr_gE (k2 := 170) (v := vi (t 170 6)) hE rfl rfl rfl (by decide) rfl rfl rfl fun h10 => ?_
      have h10 : i32 (t 170 6) := h10
      refine pr_n (pc2 := 21) (lv2 := [(0, .ref 170), (1, .ref x1)]) (st2 := [.ref 170, vi (t 170 6)]) 1 (fun _ _ => rfl) ?_
      refine pr_gE (k2 := 170) (v := vi (t 170 5)) hE rfl rfl rfl (by decide) rfl rfl rfl fun h11 => ?_
      have h11 : i32 (t 170 5) := h11
      refine pr_i2 (a := t 170 6) (b := t 170 5) rfl rfl ?_
      show pr K K d tb_M127 25 [(0, .ref 170), (1, .ref x1)] [vi (imi (t 170 6) (t 170 5))] s _
      have h12 : i32 (imi (t 170 6) (t 170 5)) := i32_in _
      refine pr_n (pc2 := 26) (lv2 := [(0, .ref 170), (1, .ref x1)]) (st2 := [.ref x1, vi (imi (t 170 6) (t 170 5))]) 1 (fun _ _ => rfl) ?_
      refine pr_t4 (args := []) (rest := [vi (imi (t 170 6) (t 170 5))]) rfl rfl rfl hx1.1.1 (Nat.le_of_ble_eq_true rfl) rfl (tx_len hx1) ?_
      show pr K K d tb_M127 29 [(0, .ref 170), (1, .ref x1)] [vi (txn (x1 : Int)), vi (imi (t 170 6) (t 170 5))] s _
      have h13 : i32 (txn (x1 : Int)) := (txn_i32 hx1)
      by_cases h14 : imi (t 170 6) (t 170 5) = txn (x1 : Int)
      · refine mq_t h14 ?_
        refine pr_if2t rfl rfl h12 h13 h14 ?_
        refine pr_n (pc2 := 36) (lv2 := [(2, vi 0), (0, .ref 170), (1, .ref x1)]) (st2 := []) 2 (fun _ _ => rfl) ?_
        exact ((ra127 K)) s t 0 x1 hE (i32_n rfl) hx1
      · refine mq_f h14 ?_
        refine pr_if2f rfl rfl h12 h13 h14 ?_
        refine pr_n (pc2 := 33) (lv2 := [(0, .ref 170), (1, .ref x1)]) (st2 := [vi 0]) 1 (fun _ _ => rfl) ?_
        refine pr_end (fun _ _ => rfl) ?_
        exact .inl ⟨_, 0, _, rfl, ⟨rfl, (by decide)⟩, rfl, hE⟩
set_option maxHeartbeats 20000000 in
set_option maxRecDepth 100000 in
theorem rm132 {K d C : Nat} : rT132 K (d + 1) C := by
  intro s t x1 hE hx1
  have hC : C = 177 ∨ C = 186 := hE.1
  refine pcr_of (M := tb_M132) rfl ?_
  show pr K K d tb_M132 0 [(0, .ref 170), (1, vi x1)] [] s _
  rw [rG_132]
  unfold rM132
  refine pr_n (pc2 := 1) (lv2 := [(0, .ref 170), (1, vi x1)]) (st2 := [.ref 170]) 1 (fun _ _ => rfl) ?_
  refine pr_get (v := vi (s.1 170 8)) rfl rfl rfl (by decide) rfl fun h1 => ?_
  have h1 : i32 (s.1 170 8) := h1
  by_cases h2 : 0 ≤ s.1 170 8
  · refine pr_if1t rfl rfl h1 h2 ?_
    refine pr_n (pc2 := 13) (lv2 := [(0, .ref 170), (1, vi x1)]) (st2 := [vi 0]) 1 (fun _ _ => rfl) ?_
    refine pr_end (fun _ _ => rfl) ?_
    exact .inl ⟨_, 0, _, rfl, ⟨rfl, (by decide)⟩, rfl, hE⟩
  · refine pr_if1f rfl rfl h1 h2 ?_
    refine pr_n (pc2 := 9) (lv2 := [(0, .ref 170), (1, vi x1)]) (st2 := [vi x1, .ref 170]) 2 (fun _ _ => rfl) ?_
    refine pr_pN (k2 := 170) (z := x1) hE rfl rfl rfl rfl (by decide) rfl (by decide) rfl (show i32 (x1) from hx1) (hf_int' _) rfl rfl (okk_n rfl) rfl (fun e => absurd e.2 (by decide)) fun s3 hE3 => ?_
    refine pr_n (pc2 := 13) (lv2 := [(0, .ref 170), (1, vi x1)]) (st2 := [vi 0]) 1 (fun _ _ => rfl) ?_
    refine pr_end (fun _ _ => rfl) ?_
    exact .inl ⟨_, 0, _, rfl, ⟨rfl, (by decide)⟩, rfl, hE3⟩
set_option maxHeartbeats 20000000 in
set_option maxRecDepth 100000 in
theorem rm131 {K d C : Nat} (h_132 : rT132 K d C) : rT131 K (d + 1) C := by
  intro s t  hE 
  have hC : C = 177 ∨ C = 186 := hE.1
  refine pcr_of (M := tb_M131) rfl ?_
  show pr K K d tb_M131 0 [(0, .ref 170)] [] s _
  rw [rG_131]
  unfold rM131
  refine pr_n (pc2 := 2) (lv2 := [(0, .ref 170)]) (st2 := [.ref 170, .ref 170]) 2 (fun _ _ => rfl) ?_
  refine pr_gE (k2 := 170) (v := vi (t 170 5)) hE rfl rfl rfl (by decide) rfl rfl rfl fun h1 => ?_
  have h1 : i32 (t 170 5) := h1
  refine pr_s1 (args := [vi (t 170 5)]) (rest := []) rfl rfl rfl rfl (Nat.le_of_ble_eq_true rfl) rfl (h_132 s t (t 170 5) hE h1) q_bad1 ?_
  rintro _ s2 ⟨rfl, hz2⟩ hE2
  show pr K K d tb_M131 8 [(0, .ref 170)] [vi 0] s2 _
  refine pr_end (fun _ _ => rfl) ?_
  exact .inl ⟨_, 0, _, rfl, ⟨rfl, (by decide)⟩, rfl, hE2⟩
set_option maxHeartbeats 20000000 in
set_option maxRecDepth 100000 in
theorem rm136 {K d C : Nat} (h_123 : rT123 K d C) (h_127 : rT127 K d C) (h_131 : rT131 K d C) : rT136 K (d + 1) C := by
  intro s t x1 hE hx1
  have hC : C = 177 ∨ C = 186 := hE.1
  refine pcr_of (M := tb_M136) rfl ?_
  show pr K K d tb_M136 0 [(0, .ref 170), (1, .ref x1)] [] s _
  rw [rG_136]
  unfold rM136
  refine pr_n (pc2 := 2) (lv2 := [(0, .ref 170), (1, .ref x1)]) (st2 := [.ref x1, .ref 170]) 2 (fun _ _ => rfl) ?_
  refine pr_p1 (args := [.ref x1]) (rest := []) rfl rfl rfl rfl (Nat.le_of_ble_eq_true rfl) rfl (h_127 s t x1 hE hx1) (fun z t3 => pu_127) ?_
  rintro _ z1 s1 ⟨rfl, hz1⟩ hX1 hE1
  show pr K K d tb_M136 5 [(0, .ref 170), (1, .ref x1)] [vi z1] s1 _
  by_cases h2 : z1 ≠ 0
  · refine mq_t h2 ?_
    refine pr_if1t rfl rfl (i32_z hz1) h2 ?_
    refine pr_n (pc2 := 14) (lv2 := [(0, .ref 170), (1, .ref x1)]) (st2 := [.ref 170]) 1 (fun _ _ => rfl) ?_
    refine pr_m1 (args := []) (rest := []) rfl rfl rfl rfl (Nat.le_of_ble_eq_true rfl) rfl (h_123 s1 t  hE1 ) ?_
    rintro _ _ t3 s3 ⟨rfl, rfl⟩ hE3
    show pr K K d tb_M136 17 [(0, .ref 170), (1, .ref x1)] [] s3 _
    refine pr_n (pc2 := 18) (lv2 := [(0, .ref 170), (1, .ref x1)]) (st2 := [vi 1]) 1 (fun _ _ => rfl) ?_
    refine pr_end (fun _ _ => rfl) ?_
    exact .inl ⟨_, 1, _, rfl, ⟨rfl, (by decide)⟩, rfl, hE3⟩
  · refine mq_f h2 ?_
    refine pr_if1f rfl rfl (i32_z hz1) h2 ?_
    refine pr_n (pc2 := 9) (lv2 := [(0, .ref 170), (1, .ref x1)]) (st2 := [.ref 170]) 1 (fun _ _ => rfl) ?_
    refine pr_s1 (args := []) (rest := []) rfl rfl rfl rfl (Nat.le_of_ble_eq_true rfl) rfl (h_131 s1 t  hE1 ) q_bad0 ?_
    rintro _ s4 ⟨rfl, hz4⟩ hE4
    show pr K K d tb_M136 12 [(0, .ref 170), (1, .ref x1)] [vi 0] s4 _
    refine pr_end (fun _ _ => rfl) ?_
    exact .inl ⟨_, 0, _, rfl, ⟨rfl, (by decide)⟩, rfl, hE4⟩
set_option maxHeartbeats 20000000 in
set_option maxRecDepth 100000 in
theorem ru134_0 {N K d C : Nat} (ih : ∀ N2, N2 < N → rA134 N2 K d C) : rU134_0 N K d C := by
  intro s t y1 hE hy1
  have hC : C = 177 ∨ C = 186 := hE.1
  rw [rG_134_7]
  unfold rM134_7
  refine pr_lt (pc2 := 8) (lv2 := [(1, vi y1), (0, .ref 170)]) (st2 := [vi y1]) (fun _ _ => rfl) fun N2 hN2 => ?_
  by_cases h1 : y1 < 0
  · refine mq_t h1 ?_
    refine pr_if1t rfl rfl hy1 h1 ?_
    refine pr_n (pc2 := 113) (lv2 := [(1, vi y1), (0, .ref 170)]) (st2 := [vi ((-1))]) 1 (fun _ _ => rfl) ?_
    refine pr_end (fun _ _ => rfl) ?_
    exact .inl ⟨_, (-1), _, rfl, ⟨rfl, (i32_n rfl)⟩, rfl, hE⟩
  · refine mq_f h1 ?_
    refine pr_if1f rfl rfl hy1 h1 ?_
    refine pr_n (pc2 := 12) (lv2 := [(1, vi y1), (0, .ref 170)]) (st2 := [.ref 170]) 1 (fun _ _ => rfl) ?_
    refine pr_get (v := .ref 173) rfl rfl rfl (by decide) (rv_ref (hE.2.1 170 10 173 rfl)) fun _ => ?_
    refine pr_n (pc2 := 16) (lv2 := [(1, vi y1), (0, .ref 170)]) (st2 := [vi y1, .ref 173]) 1 (fun _ _ => rfl) ?_
    refine pr_aE (k2 := 173) (a := y1) (v := vi (t 173 y1.toNat)) hE rfl rfl rfl hy1 (by decide) rfl rfl rfl fun h3 h4 h2 => ?_
    have h2 : i32 (t 173 y1.toNat) := h2
    refine pr_n (pc2 := 18) (lv2 := [(1, vi y1), (0, .ref 170)]) (st2 := [.ref 170, vi (t 173 y1.toNat)]) 1 (fun _ _ => rfl) ?_
    refine pr_get (v := .ref 172) rfl rfl rfl (by decide) (rv_ref (hE.2.1 170 9 172 rfl)) fun _ => ?_
    refine pr_n (pc2 := 22) (lv2 := [(1, vi y1), (0, .ref 170)]) (st2 := [vi y1, .ref 172, vi (t 173 y1.toNat)]) 1 (fun _ _ => rfl) ?_
    refine pr_aE (k2 := 172) (a := y1) (v := vi (t 172 y1.toNat)) hE rfl rfl rfl hy1 (by decide) rfl rfl rfl fun h6 h7 h5 => ?_
    have h5 : i32 (t 172 y1.toNat) := h5
    refine pr_i2 (a := t 173 y1.toNat) (b := t 172 y1.toNat) rfl rfl ?_
    show pr N2 K d tb_M134 24 [(1, vi y1), (0, .ref 170)] [vi (imi (t 173 y1.toNat) (t 172 y1.toNat))] s _
    have h8 : i32 (imi (t 173 y1.toNat) (t 172 y1.toNat)) := i32_in _
    refine pr_n (pc2 := 25) (lv2 := [(1, vi y1), (0, .ref 170)]) (st2 := [.ref 170, vi (imi (t 173 y1.toNat) (t 172 y1.toNat))]) 1 (fun _ _ => rfl) ?_
    refine pr_gE (k2 := 170) (v := vi (t 170 6)) hE rfl rfl rfl (by decide) rfl rfl rfl fun h9 => ?_
    have h9 : i32 (t 170 6) := h9
    refine pr_n (pc2 := 29) (lv2 := [(1, vi y1), (0, .ref 170)]) (st2 := [.ref 170, vi (t 170 6), vi (imi (t 173 y1.toNat) (t 172 y1.toNat))]) 1 (fun _ _ => rfl) ?_
    refine pr_gE (k2 := 170) (v := vi (t 170 5)) hE rfl rfl rfl (by decide) rfl rfl rfl fun h10 => ?_
    have h10 : i32 (t 170 5) := h10
    refine pr_i2 (a := t 170 6) (b := t 170 5) rfl rfl ?_
    show pr N2 K d tb_M134 33 [(1, vi y1), (0, .ref 170)] [vi (imi (t 170 6) (t 170 5)), vi (imi (t 173 y1.toNat) (t 172 y1.toNat))] s _
    have h11 : i32 (imi (t 170 6) (t 170 5)) := i32_in _
    by_cases h12 : imi (t 173 y1.toNat) (t 172 y1.toNat) ≠ imi (t 170 6) (t 170 5)
    · refine mq_t h12 ?_
      refine pr_if2t rfl rfl h8 h11 h12 ?_
      refine pr_n (pc2 := 44) (lv2 := [(3, vi 0), (2, vi 0), (1, vi y1), (0, .ref 170)]) (st2 := []) 4 (fun _ _ => rfl) ?_
      exact ((ih N2 hN2).2.1) s t 0 0 y1 hE (i32_n rfl) (i32_n rfl) hy1
    · refine mq_f h12 ?_
      refine pr_if2f rfl rfl h8 h11 h12 ?_
      refine pr_n (pc2 := 44) (lv2 := [(3, vi 0), (2, vi 1), (1, vi y1), (0, .ref 170)]) (st2 := []) 5 (fun _ _ => rfl) ?_
      exact ((ih N2 hN2).2.1) s t 0 1 y1 hE (i32_n rfl) (i32_n rfl) hy1
set_option maxHeartbeats 20000000 in
set_option maxRecDepth 100000 in
theorem ru134_1 {N K d C : Nat} (ih : ∀ N2, N2 < N → rA134 N2 K d C) : rU134_1 N K d C := by
  intro s t y3 y2 y1 hE hy3 hy2 hy1
  have hC : C = 177 ∨ C = 186 := hE.1
  rw [rG_134_44]
  unfold rM134_44
  refine pr_lt (pc2 := 45) (lv2 := [(3, vi y3), (2, vi y2), (1, vi y1), (0, .ref 170)]) (st2 := [vi y3]) (fun _ _ => rfl) fun N2 hN2 => ?_
  refine pr_n (pc2 := 46) (lv2 := [(3, vi y3), (2, vi y2), (1, vi y1), (0, .ref 170)]) (st2 := [.ref 170, vi y3]) 1 (fun _ _ => rfl) ?_
  refine pr_gE (k2 := 170) (v := vi (t 170 6)) hE rfl rfl rfl (by decide) rfl rfl rfl fun h1 => ?_
  have h1 : i32 (t 170 6) := h1
  refine pr_n (pc2 := 50) (lv2 := [(3, vi y3), (2, vi y2), (1, vi y1), (0, .ref 170)]) (st2 := [.ref 170, vi (t 170 6), vi y3]) 1 (fun _ _ => rfl) ?_
  refine pr_gE (k2 := 170) (v := vi (t 170 5)) hE rfl rfl rfl (by decide) rfl rfl rfl fun h2 => ?_
  have h2 : i32 (t 170 5) := h2
  refine pr_i2 (a := t 170 6) (b := t 170 5) rfl rfl ?_
  show pr N2 K d tb_M134 54 [(3, vi y3), (2, vi y2), (1, vi y1), (0, .ref 170)] [vi (imi (t 170 6) (t 170 5)), vi y3] s _
  have h3 : i32 (imi (t 170 6) (t 170 5)) := i32_in _
  by_cases h4 : imi (t 170 6) (t 170 5) ≤ y3
  · refine mq_t h4 ?_
    refine pr_if2t rfl rfl hy3 h3 h4 ?_
    refine pr_n (pc2 := 101) (lv2 := [(3, vi y3), (2, vi y2), (1, vi y1), (0, .ref 170)]) (st2 := [vi y2]) 1 (fun _ _ => rfl) ?_
    by_cases h5 : y2 = 0
    · refine mq_t h5 ?_
      refine pr_if1t rfl rfl hy2 h5 ?_
      refine pr_incw (a := y1) rfl rfl ?_
      show pr N2 K d tb_M134 109 [(1, vi (ipl y1 (-1))), (3, vi y3), (2, vi y2), (0, .ref 170)] [] s _
      have h6 : i32 (ipl y1 (-1)) := i32_in _
      refine pr_n (pc2 := 7) (lv2 := [(1, vi (ipl y1 (-1))), (3, vi y3), (2, vi y2), (0, .ref 170)]) (st2 := []) 1 (fun _ _ => rfl) ?_
      exact ((ih N2 hN2).2.2) s t (ipl y1 (-1)) y3 y2 hE h6 hy3 hy2
    · refine mq_f h5 ?_
      refine pr_if1f rfl rfl hy2 h5 ?_
      refine pr_n (pc2 := 105) (lv2 := [(3, vi y3), (2, vi y2), (1, vi y1), (0, .ref 170)]) (st2 := [vi y1]) 1 (fun _ _ => rfl) ?_
      refine pr_reti rfl rfl ?_
      exact .inl ⟨_, y1, _, rfl, ⟨rfl, hy1⟩, rfl, hE⟩
  · refine mq_f h4 ?_
    refine pr_if2f rfl rfl hy3 h3 h4 ?_
    refine pr_n (pc2 := 58) (lv2 := [(3, vi y3), (2, vi y2), (1, vi y1), (0, .ref 170)]) (st2 := [vi y2]) 1 (fun _ _ => rfl) ?_
    by_cases h7 : y2 = 0
    · refine mq_t h7 ?_
      refine pr_if1t rfl rfl hy2 h7 ?_
      refine pr_n (pc2 := 101) (lv2 := [(3, vi y3), (2, vi y2), (1, vi y1), (0, .ref 170)]) (st2 := [vi y2]) 1 (fun _ _ => rfl) ?_
      refine pr_if1t rfl rfl hy2 (show y2 = 0 by omega) ?_
      show pr N2 K d tb_M134 106 [(3, vi y3), (2, vi y2), (1, vi y1), (0, .ref 170)] [] s _
      refine pr_incw (a := y1) rfl rfl ?_
      show pr N2 K d tb_M134 109 [(1, vi (ipl y1 (-1))), (3, vi y3), (2, vi y2), (0, .ref 170)] [] s _
      have h8 : i32 (ipl y1 (-1)) := i32_in _
      refine pr_n (pc2 := 7) (lv2 := [(1, vi (ipl y1 (-1))), (3, vi y3), (2, vi y2), (0, .ref 170)]) (st2 := []) 1 (fun _ _ => rfl) ?_
      exact ((ih N2 hN2).2.2) s t (ipl y1 (-1)) y3 y2 hE h8 hy3 hy2
    · refine mq_f h7 ?_
      refine pr_if1f rfl rfl hy2 h7 ?_
      refine pr_n (pc2 := 62) (lv2 := [(3, vi y3), (2, vi y2), (1, vi y1), (0, .ref 170)]) (st2 := [.ref 170]) 1 (fun _ _ => rfl) ?_
      refine pr_get (v := .ref 171) rfl rfl rfl (by decide) (rv_ref (hE.2.1 170 0 171 rfl)) fun _ => ?_
      refine pr_n (pc2 := 66) (lv2 := [(3, vi y3), (2, vi y2), (1, vi y1), (0, .ref 170)]) (st2 := [.ref 170, .ref 171]) 1 (fun _ _ => rfl) ?_
      refine pr_get (v := .ref 172) rfl rfl rfl (by decide) (rv_ref (hE.2.1 170 9 172 rfl)) fun _ => ?_
      refine pr_n (pc2 := 70) (lv2 := [(3, vi y3), (2, vi y2), (1, vi y1), (0, .ref 170)]) (st2 := [vi y1, .ref 172, .ref 171]) 1 (fun _ _ => rfl) ?_
      refine pr_aE (k2 := 172) (a := y1) (v := vi (t 172 y1.toNat)) hE rfl rfl rfl hy1 (by decide) rfl rfl rfl fun h10 h11 h9 => ?_
      have h9 : i32 (t 172 y1.toNat) := h9
      refine pr_n (pc2 := 72) (lv2 := [(3, vi y3), (2, vi y2), (1, vi y1), (0, .ref 170)]) (st2 := [vi y3, vi (t 172 y1.toNat), .ref 171]) 1 (fun _ _ => rfl) ?_
      refine pr_i2 (a := t 172 y1.toNat) (b := y3) rfl rfl ?_
      show pr N2 K d tb_M134 73 [(3, vi y3), (2, vi y2), (1, vi y1), (0, .ref 170)] [vi (ipl (t 172 y1.toNat) y3), .ref 171] s _
      have h12 : i32 (ipl (t 172 y1.toNat) y3) := i32_in _
      refine pr_aE (k2 := 171) (a := ipl (t 172 y1.toNat) y3) (v := vi (t 171 ((ipl (t 172 y1.toNat) y3).toNat))) hE rfl rfl rfl h12 (by decide) rfl rfl rfl fun h14 h15 h13 => ?_
      have h13 : -128 ≤ t 171 ((ipl (t 172 y1.toNat) y3).toNat) ∧ t 171 ((ipl (t 172 y1.toNat) y3).toNat) ≤ 127 := h13
      refine pr_n (pc2 := 75) (lv2 := [(3, vi y3), (2, vi y2), (1, vi y1), (0, .ref 170)]) (st2 := [.ref 170, vi (t 171 ((ipl (t 172 y1.toNat) y3).toNat))]) 1 (fun _ _ => rfl) ?_
      refine pr_get (v := .ref 171) rfl rfl rfl (by decide) (rv_ref (hE.2.1 170 0 171 rfl)) fun _ => ?_
      refine pr_n (pc2 := 79) (lv2 := [(3, vi y3), (2, vi y2), (1, vi y1), (0, .ref 170)]) (st2 := [.ref 170, .ref 171, vi (t 171 ((ipl (t 172 y1.toNat) y3).toNat))]) 1 (fun _ _ => rfl) ?_
      refine pr_gE (k2 := 170) (v := vi (t 170 5)) hE rfl rfl rfl (by decide) rfl rfl rfl fun h16 => ?_
      have h16 : i32 (t 170 5) := h16
      refine pr_n (pc2 := 83) (lv2 := [(3, vi y3), (2, vi y2), (1, vi y1), (0, .ref 170)]) (st2 := [vi y3, vi (t 170 5), .ref 171, vi (t 171 ((ipl (t 172 y1.toNat) y3).toNat))]) 1 (fun _ _ => rfl) ?_
      refine pr_i2 (a := t 170 5) (b := y3) rfl rfl ?_
      show pr N2 K d tb_M134 84 [(3, vi y3), (2, vi y2), (1, vi y1), (0, .ref 170)] [vi (ipl (t 170 5) y3), .ref 171, vi (t 171 ((ipl (t 172 y1.toNat) y3).toNat))] s _
      have h17 : i32 (ipl (t 170 5) y3) := i32_in _
      refine pr_aE (k2 := 171) (a := ipl (t 170 5) y3) (v := vi (t 171 ((ipl (t 170 5) y3).toNat))) hE rfl rfl rfl h17 (by decide) rfl rfl rfl fun h19 h20 h18 => ?_
      have h18 : -128 ≤ t 171 ((ipl (t 170 5) y3).toNat) ∧ t 171 ((ipl (t 170 5) y3).toNat) ≤ 127 := h18
      by_cases h21 : t 171 ((ipl (t 172 y1.toNat) y3).toNat) ≠ t 171 ((ipl (t 170 5) y3).toNat)
      · refine mq_t h21 ?_
        refine pr_if2t rfl rfl (i32_b h13) (i32_b h18) h21 ?_
        refine pr_n (pc2 := 94) (lv2 := [(2, vi 0), (3, vi y3), (1, vi y1), (0, .ref 170)]) (st2 := []) 2 (fun _ _ => rfl) ?_
        refine pr_inc (a := y3) rfl rfl ?_
        have h22 : i32 (y3 + 1) := by unfold i32 at *; omega
        show pr N2 K d tb_M134 97 [(3, vi (y3 + 1)), (2, vi 0), (1, vi y1), (0, .ref 170)] [] s _
        refine pr_n (pc2 := 44) (lv2 := [(3, vi (y3 + 1)), (2, vi 0), (1, vi y1), (0, .ref 170)]) (st2 := []) 1 (fun _ _ => rfl) ?_
        exact ((ih N2 hN2).2.1) s t (y3 + 1) 0 y1 hE h22 (i32_n rfl) hy1
      · refine mq_f h21 ?_
        refine pr_if2f rfl rfl (i32_b h13) (i32_b h18) h21 ?_
        refine pr_n (pc2 := 94) (lv2 := [(2, vi 1), (3, vi y3), (1, vi y1), (0, .ref 170)]) (st2 := []) 3 (fun _ _ => rfl) ?_
        refine pr_inc (a := y3) rfl rfl ?_
        have h23 : i32 (y3 + 1) := by unfold i32 at *; omega
        show pr N2 K d tb_M134 97 [(3, vi (y3 + 1)), (2, vi 1), (1, vi y1), (0, .ref 170)] [] s _
        refine pr_n (pc2 := 44) (lv2 := [(3, vi (y3 + 1)), (2, vi 1), (1, vi y1), (0, .ref 170)]) (st2 := []) 1 (fun _ _ => rfl) ?_
        exact ((ih N2 hN2).2.1) s t (y3 + 1) 1 y1 hE h23 (i32_n rfl) hy1
set_option maxHeartbeats 20000000 in
set_option maxRecDepth 100000 in
theorem ru134_2 {N K d C : Nat} (ih : ∀ N2, N2 < N → rA134 N2 K d C) : rU134_2 N K d C := by
  intro s t y1 y3 y2 hE hy1 hy3 hy2
  have hC : C = 177 ∨ C = 186 := hE.1
  rw [rG_134_7]
  unfold rM134_7
  refine pr_lt (pc2 := 8) (lv2 := [(1, vi y1), (3, vi y3), (2, vi y2), (0, .ref 170)]) (st2 := [vi y1]) (fun _ _ => rfl) fun N2 hN2 => ?_
  by_cases h1 : y1 < 0
  · refine mq_t h1 ?_
    refine pr_if1t rfl rfl hy1 h1 ?_
    refine pr_n (pc2 := 113) (lv2 := [(1, vi y1), (3, vi y3), (2, vi y2), (0, .ref 170)]) (st2 := [vi ((-1))]) 1 (fun _ _ => rfl) ?_
    refine pr_end (fun _ _ => rfl) ?_
    exact .inl ⟨_, (-1), _, rfl, ⟨rfl, (i32_n rfl)⟩, rfl, hE⟩
  · refine mq_f h1 ?_
    refine pr_if1f rfl rfl hy1 h1 ?_
    refine pr_n (pc2 := 12) (lv2 := [(1, vi y1), (3, vi y3), (2, vi y2), (0, .ref 170)]) (st2 := [.ref 170]) 1 (fun _ _ => rfl) ?_
    refine pr_get (v := .ref 173) rfl rfl rfl (by decide) (rv_ref (hE.2.1 170 10 173 rfl)) fun _ => ?_
    refine pr_n (pc2 := 16) (lv2 := [(1, vi y1), (3, vi y3), (2, vi y2), (0, .ref 170)]) (st2 := [vi y1, .ref 173]) 1 (fun _ _ => rfl) ?_
    refine pr_aE (k2 := 173) (a := y1) (v := vi (t 173 y1.toNat)) hE rfl rfl rfl hy1 (by decide) rfl rfl rfl fun h3 h4 h2 => ?_
    have h2 : i32 (t 173 y1.toNat) := h2
    refine pr_n (pc2 := 18) (lv2 := [(1, vi y1), (3, vi y3), (2, vi y2), (0, .ref 170)]) (st2 := [.ref 170, vi (t 173 y1.toNat)]) 1 (fun _ _ => rfl) ?_
    refine pr_get (v := .ref 172) rfl rfl rfl (by decide) (rv_ref (hE.2.1 170 9 172 rfl)) fun _ => ?_
    refine pr_n (pc2 := 22) (lv2 := [(1, vi y1), (3, vi y3), (2, vi y2), (0, .ref 170)]) (st2 := [vi y1, .ref 172, vi (t 173 y1.toNat)]) 1 (fun _ _ => rfl) ?_
    refine pr_aE (k2 := 172) (a := y1) (v := vi (t 172 y1.toNat)) hE rfl rfl rfl hy1 (by decide) rfl rfl rfl fun h6 h7 h5 => ?_
    have h5 : i32 (t 172 y1.toNat) := h5
    refine pr_i2 (a := t 173 y1.toNat) (b := t 172 y1.toNat) rfl rfl ?_
    show pr N2 K d tb_M134 24 [(1, vi y1), (3, vi y3), (2, vi y2), (0, .ref 170)] [vi (imi (t 173 y1.toNat) (t 172 y1.toNat))] s _
    have h8 : i32 (imi (t 173 y1.toNat) (t 172 y1.toNat)) := i32_in _
    refine pr_n (pc2 := 25) (lv2 := [(1, vi y1), (3, vi y3), (2, vi y2), (0, .ref 170)]) (st2 := [.ref 170, vi (imi (t 173 y1.toNat) (t 172 y1.toNat))]) 1 (fun _ _ => rfl) ?_
    refine pr_gE (k2 := 170) (v := vi (t 170 6)) hE rfl rfl rfl (by decide) rfl rfl rfl fun h9 => ?_
    have h9 : i32 (t 170 6) := h9
    refine pr_n (pc2 := 29) (lv2 := [(1, vi y1), (3, vi y3), (2, vi y2), (0, .ref 170)]) (st2 := [.ref 170, vi (t 170 6), vi (imi (t 173 y1.toNat) (t 172 y1.toNat))]) 1 (fun _ _ => rfl) ?_
    refine pr_gE (k2 := 170) (v := vi (t 170 5)) hE rfl rfl rfl (by decide) rfl rfl rfl fun h10 => ?_
    have h10 : i32 (t 170 5) := h10
    refine pr_i2 (a := t 170 6) (b := t 170 5) rfl rfl ?_
    show pr N2 K d tb_M134 33 [(1, vi y1), (3, vi y3), (2, vi y2), (0, .ref 170)] [vi (imi (t 170 6) (t 170 5)), vi (imi (t 173 y1.toNat) (t 172 y1.toNat))] s _
    have h11 : i32 (imi (t 170 6) (t 170 5)) := i32_in _
    by_cases h12 : imi (t 173 y1.toNat) (t 172 y1.toNat) ≠ imi (t 170 6) (t 170 5)
    · refine mq_t h12 ?_
      refine pr_if2t rfl rfl h8 h11 h12 ?_
      refine pr_n (pc2 := 44) (lv2 := [(3, vi 0), (2, vi 0), (1, vi y1), (0, .ref 170)]) (st2 := []) 4 (fun _ _ => rfl) ?_
      exact ((ih N2 hN2).2.1) s t 0 0 y1 hE (i32_n rfl) (i32_n rfl) hy1
    · refine mq_f h12 ?_
      refine pr_if2f rfl rfl h8 h11 h12 ?_
      refine pr_n (pc2 := 44) (lv2 := [(3, vi 0), (2, vi 1), (1, vi y1), (0, .ref 170)]) (st2 := []) 5 (fun _ _ => rfl) ?_
      exact ((ih N2 hN2).2.1) s t 0 1 y1 hE (i32_n rfl) (i32_n rfl) hy1
theorem ra134 {K d C : Nat} : ∀ N, rA134 N K d C := by
  intro N
  induction N using Nat.strongRecOn with | ind N ih => ?_
  exact ⟨ru134_0 ih, ru134_1 ih, ru134_2 ih⟩
set_option maxHeartbeats 20000000 in
set_option maxRecDepth 100000 in
theorem rm134 {K d C : Nat} : rT134 K (d + 1) C := by
  intro s t  hE 
  have hC : C = 177 ∨ C = 186 := hE.1
  refine pcr_of (M := tb_M134) rfl ?_
  show pr K K d tb_M134 0 [(0, .ref 170)] [] s _
  rw [rG_134]
  unfold rM134
  refine pr_n (pc2 := 1) (lv2 := [(0, .ref 170)]) (st2 := [.ref 170]) 1 (fun _ _ => rfl) ?_
  refine pr_gE (k2 := 170) (v := vi (t 170 14)) hE rfl rfl rfl (by decide) rfl rfl rfl fun h1 => ?_
  have h1 : i32 (t 170 14) := h1
  refine pr_n (pc2 := 5) (lv2 := [(0, .ref 170)]) (st2 := [vi 1, vi (t 170 14)]) 1 (fun _ _ => rfl) ?_
  refine pr_i2 (a := t 170 14) (b := 1) rfl rfl ?_
  show pr K K d tb_M134 6 [(0, .ref 170)] [vi (imi (t 170 14) 1)] s _
  have h2 : i32 (imi (t 170 14) 1) := i32_in _
  refine pr_n (pc2 := 7) (lv2 := [(1, vi (imi (t 170 14) 1)), (0, .ref 170)]) (st2 := []) 1 (fun _ _ => rfl) ?_
  exact ((ra134 K).1) s t (imi (t 170 14) 1) hE h2
set_option maxHeartbeats 20000000 in
set_option maxRecDepth 100000 in
theorem rm133 {K d C : Nat} (h_123 : rT123 K d C) (h_131 : rT131 K d C) (h_134 : rT134 K d C) : rT133 K (d + 1) C := by
  intro s t x1 x2 hE hx1 hx2
  have hC : C = 177 ∨ C = 186 := hE.1
  refine pcr_of (M := tb_M133) rfl ?_
  show pr K K d tb_M133 0 [(0, .ref 170), (1, vi x1), (2, vi x2)] [] s _
  rw [rG_133]
  unfold rM133
  refine pr_n (pc2 := 1) (lv2 := [(0, .ref 170), (1, vi x1), (2, vi x2)]) (st2 := [.ref 170]) 1 (fun _ _ => rfl) ?_
  refine pr_p1 (args := []) (rest := []) rfl rfl rfl rfl (Nat.le_of_ble_eq_true rfl) rfl (h_134 s t  hE ) (fun z t3 => pu_134) ?_
  rintro _ z1 s1 ⟨rfl, hz1⟩ hX1 hE1
  show pr K K d tb_M133 4 [(0, .ref 170), (1, vi x1), (2, vi x2)] [vi z1] s1 _
  refine pr_n (pc2 := 6) (lv2 := [(3, vi z1), (0, .ref 170), (1, vi x1), (2, vi x2)]) (st2 := [vi z1]) 2 (fun _ _ => rfl) ?_
  by_cases h2 : z1 < 0
  · refine mq_t h2 ?_
    refine pr_if1t rfl rfl hz1 h2 ?_
    refine pr_n (pc2 := 28) (lv2 := [(3, vi z1), (0, .ref 170), (1, vi x1), (2, vi x2)]) (st2 := [.ref 170]) 1 (fun _ _ => rfl) ?_
    refine pr_get (v := .ref 172) rfl rfl rfl (by decide) (rv_ref (hE1.2.1 170 9 172 rfl)) fun _ => ?_
    refine pr_n (pc2 := 32) (lv2 := [(3, vi z1), (0, .ref 170), (1, vi x1), (2, vi x2)]) (st2 := [.ref 170, .ref 172]) 1 (fun _ _ => rfl) ?_
    refine pr_gE (k2 := 170) (v := vi (t 170 14)) hE1 rfl rfl rfl (by decide) rfl rfl rfl fun h3 => ?_
    have h3 : i32 (t 170 14) := h3
    refine pr_n (pc2 := 36) (lv2 := [(3, vi z1), (0, .ref 170), (1, vi x1), (2, vi x2)]) (st2 := [.ref 170, vi (t 170 14), .ref 172]) 1 (fun _ _ => rfl) ?_
    refine pr_gE (k2 := 170) (v := vi (t 170 5)) hE1 rfl rfl rfl (by decide) rfl rfl rfl fun h4 => ?_
    have h4 : i32 (t 170 5) := h4
    refine pr_sE (k2 := 172) (a := t 170 14) (z := t 170 5) hE1 rfl (by decide) rfl rfl h3 (by decide) rfl (show i32 (t 170 5) from h4) (n0 rfl (by omega) (by omega)) rfl rfl (fun e => absurd e.1 (by decide)) (fun _ => trivial) fun h5 h6 s7 hE7 => ?_
    refine pr_n (pc2 := 41) (lv2 := [(3, vi z1), (0, .ref 170), (1, vi x1), (2, vi x2)]) (st2 := [.ref 170]) 1 (fun _ _ => rfl) ?_
    refine pr_get (v := .ref 173) rfl rfl rfl (by decide) (rv_ref (hE7.2.1 170 10 173 rfl)) fun _ => ?_
    refine pr_n (pc2 := 45) (lv2 := [(3, vi z1), (0, .ref 170), (1, vi x1), (2, vi x2)]) (st2 := [.ref 170, .ref 173]) 1 (fun _ _ => rfl) ?_
    refine pr_gE (k2 := 170) (v := vi (t 170 14)) hE7 rfl rfl rfl (by decide) rfl rfl rfl fun h8 => ?_
    have h8 : i32 (t 170 14) := h8
    refine pr_n (pc2 := 49) (lv2 := [(3, vi z1), (0, .ref 170), (1, vi x1), (2, vi x2)]) (st2 := [.ref 170, vi (t 170 14), .ref 173]) 1 (fun _ _ => rfl) ?_
    refine pr_gE (k2 := 170) (v := vi (t 170 6)) hE7 rfl rfl rfl (by decide) rfl rfl rfl fun h9 => ?_
    have h9 : i32 (t 170 6) := h9
    refine pr_sE (k2 := 173) (a := t 170 14) (z := t 170 6) hE7 rfl (by decide) rfl rfl h8 (by decide) rfl (show i32 (t 170 6) from h9) (n0 rfl (by omega) (by omega)) rfl rfl (fun e => absurd e.1 (by decide)) (fun _ => trivial) fun h10 h11 s12 hE12 => ?_
    refine pr_n (pc2 := 54) (lv2 := [(3, vi z1), (0, .ref 170), (1, vi x1), (2, vi x2)]) (st2 := [.ref 170]) 1 (fun _ _ => rfl) ?_
    refine pr_get (v := .ref 174) rfl rfl rfl (by decide) (rv_ref (hE12.2.1 170 11 174 rfl)) fun _ => ?_
    refine pr_n (pc2 := 58) (lv2 := [(3, vi z1), (0, .ref 170), (1, vi x1), (2, vi x2)]) (st2 := [.ref 170, .ref 174]) 1 (fun _ _ => rfl) ?_
    refine pr_gE (k2 := 170) (v := vi (t 170 14)) hE12 rfl rfl rfl (by decide) rfl rfl rfl fun h13 => ?_
    have h13 : i32 (t 170 14) := h13
    refine pr_n (pc2 := 62) (lv2 := [(3, vi z1), (0, .ref 170), (1, vi x1), (2, vi x2)]) (st2 := [vi x1, vi (t 170 14), .ref 174]) 1 (fun _ _ => rfl) ?_
    refine pr_sE (k2 := 174) (a := t 170 14) (z := x1) hE12 rfl (by decide) rfl rfl h13 (by decide) rfl (show i32 (x1) from hx1) (n0 rfl (by omega) (by omega)) rfl rfl (fun e => absurd e.1 (by decide)) (fun _ => trivial) fun h14 h15 s16 hE16 => ?_
    refine pr_n (pc2 := 64) (lv2 := [(3, vi z1), (0, .ref 170), (1, vi x1), (2, vi x2)]) (st2 := [.ref 170]) 1 (fun _ _ => rfl) ?_
    refine pr_get (v := .ref 175) rfl rfl rfl (by decide) (rv_ref (hE16.2.1 170 12 175 rfl)) fun _ => ?_
    refine pr_n (pc2 := 68) (lv2 := [(3, vi z1), (0, .ref 170), (1, vi x1), (2, vi x2)]) (st2 := [.ref 170, .ref 175]) 1 (fun _ _ => rfl) ?_
    refine pr_gE (k2 := 170) (v := vi (t 170 14)) hE16 rfl rfl rfl (by decide) rfl rfl rfl fun h17 => ?_
    have h17 : i32 (t 170 14) := h17
    refine pr_n (pc2 := 72) (lv2 := [(3, vi z1), (0, .ref 170), (1, vi x1), (2, vi x2)]) (st2 := [vi x2, vi (t 170 14), .ref 175]) 1 (fun _ _ => rfl) ?_
    refine pr_sE (k2 := 175) (a := t 170 14) (z := x2) hE16 rfl (by decide) rfl rfl h17 (by decide) rfl (show i32 (x2) from hx2) (n0 rfl (by omega) (by omega)) rfl rfl (fun e => absurd e.1 (by decide)) (fun _ => trivial) fun h18 h19 s20 hE20 => ?_
    refine pr_n (pc2 := 74) (lv2 := [(3, vi z1), (0, .ref 170), (1, vi x1), (2, vi x2)]) (st2 := [.ref 170]) 1 (fun _ _ => rfl) ?_
    refine pr_get (v := .ref 176) rfl rfl rfl (by decide) (rv_ref (hE20.2.1 170 13 176 rfl)) fun _ => ?_
    refine pr_n (pc2 := 78) (lv2 := [(3, vi z1), (0, .ref 170), (1, vi x1), (2, vi x2)]) (st2 := [.ref 170, .ref 176]) 1 (fun _ _ => rfl) ?_
    refine pr_gE (k2 := 170) (v := vi (t 170 14)) hE20 rfl rfl rfl (by decide) rfl rfl rfl fun h21 => ?_
    have h21 : i32 (t 170 14) := h21
    refine pr_n (pc2 := 82) (lv2 := [(3, vi z1), (0, .ref 170), (1, vi x1), (2, vi x2)]) (st2 := [.ref 170, vi (t 170 14), .ref 176]) 1 (fun _ _ => rfl) ?_
    refine pr_gE (k2 := 170) (v := vi (t 170 15)) hE20 rfl rfl rfl (by decide) rfl rfl rfl fun h22 => ?_
    have h22 : i32 (t 170 15) := h22
    refine pr_sE (k2 := 176) (a := t 170 14) (z := t 170 15) hE20 rfl (by decide) rfl rfl h21 (by decide) rfl (show i32 (t 170 15) from h22) (n0 rfl (by omega) (by omega)) rfl rfl (fun e => absurd e.1 (by decide)) (fun _ => trivial) fun h23 h24 s25 hE25 => ?_
    refine pr_n (pc2 := 88) (lv2 := [(3, vi z1), (0, .ref 170), (1, vi x1), (2, vi x2)]) (st2 := [.ref 170, .ref 170]) 2 (fun _ _ => rfl) ?_
    refine pr_gE (k2 := 170) (v := vi (t 170 14)) hE25 rfl rfl rfl (by decide) rfl rfl rfl fun h26 => ?_
    have h26 : i32 (t 170 14) := h26
    refine pr_n (pc2 := 92) (lv2 := [(3, vi z1), (0, .ref 170), (1, vi x1), (2, vi x2)]) (st2 := [vi 1, vi (t 170 14), .ref 170]) 1 (fun _ _ => rfl) ?_
    refine pr_i2 (a := t 170 14) (b := 1) rfl rfl ?_
    show pr K K d tb_M133 93 [(3, vi z1), (0, .ref 170), (1, vi x1), (2, vi x2)] [vi (ipl (t 170 14) 1), .ref 170] s25 _
    have h27 : i32 (ipl (t 170 14) 1) := i32_in _
    refine pr_pE (k2 := 170) (z := ipl (t 170 14) 1) hE25 rfl rfl rfl rfl (by decide) rfl (by decide) rfl (show i32 (ipl (t 170 14) 1) from h27) (hf_int' _) rfl rfl rfl (fun e => absurd e.2 (by decide)) (fun _ => trivial) fun s28 hE28 => ?_
    refine pr_n (pc2 := 97) (lv2 := [(3, vi z1), (0, .ref 170), (1, vi x1), (2, vi x2)]) (st2 := [.ref 170]) 1 (fun _ _ => rfl) ?_
    refine pr_m1 (args := []) (rest := []) rfl rfl rfl rfl (Nat.le_of_ble_eq_true rfl) rfl (h_123 s28 (up2 (up2 (up2 (up2 (up2 (up2 t 172 ((t 170 14).toNat) (t 170 5)) 173 ((t 170 14).toNat) (t 170 6)) 174 ((t 170 14).toNat) x1) 175 ((t 170 14).toNat) x2) 176 ((t 170 14).toNat) (t 170 15)) 170 14 (ipl (t 170 14) 1))  hE28 ) ?_
    rintro _ _ t29 s29 ⟨rfl, rfl⟩ hE29
    show pr K K d tb_M133 100 [(3, vi z1), (0, .ref 170), (1, vi x1), (2, vi x2)] [] s29 _
    refine pr_n (pc2 := 101) (lv2 := [(3, vi z1), (0, .ref 170), (1, vi x1), (2, vi x2)]) (st2 := [vi 1]) 1 (fun _ _ => rfl) ?_
    refine pr_end (fun _ _ => rfl) ?_
    exact .inl ⟨_, 1, _, rfl, ⟨rfl, (by decide)⟩, rfl, hE29⟩
  · refine mq_f h2 ?_
    refine pr_if1f rfl rfl hz1 h2 ?_
    refine pr_n (pc2 := 10) (lv2 := [(3, vi z1), (0, .ref 170), (1, vi x1), (2, vi x2)]) (st2 := [.ref 170]) 1 (fun _ _ => rfl) ?_
    refine pr_get (v := .ref 176) rfl rfl rfl (by decide) (rv_ref (hE1.2.1 170 13 176 rfl)) fun _ => ?_
    refine pr_n (pc2 := 14) (lv2 := [(3, vi z1), (0, .ref 170), (1, vi x1), (2, vi x2)]) (st2 := [vi z1, .ref 176]) 1 (fun _ _ => rfl) ?_
    refine pr_aE (k2 := 176) (a := z1) (v := vi (t 176 z1.toNat)) hE1 rfl rfl rfl hz1 (by decide) rfl rfl rfl fun h31 h32 h30 => ?_
    have h30 : i32 (t 176 z1.toNat) := h30
    refine pr_n (pc2 := 16) (lv2 := [(3, vi z1), (0, .ref 170), (1, vi x1), (2, vi x2)]) (st2 := [.ref 170, vi (t 176 z1.toNat)]) 1 (fun _ _ => rfl) ?_
    refine pr_gE (k2 := 170) (v := vi (t 170 15)) hE1 rfl rfl rfl (by decide) rfl rfl rfl fun h33 => ?_
    have h33 : i32 (t 170 15) := h33
    by_cases h34 : t 176 z1.toNat ≠ t 170 15
    · refine mq_t h34 ?_
      refine pr_if2t rfl rfl h30 h33 h34 ?_
      refine pr_n (pc2 := 28) (lv2 := [(3, vi z1), (0, .ref 170), (1, vi x1), (2, vi x2)]) (st2 := [.ref 170]) 1 (fun _ _ => rfl) ?_
      refine pr_get (v := .ref 172) rfl rfl rfl (by decide) (rv_ref (hE1.2.1 170 9 172 rfl)) fun _ => ?_
      refine pr_n (pc2 := 32) (lv2 := [(3, vi z1), (0, .ref 170), (1, vi x1), (2, vi x2)]) (st2 := [.ref 170, .ref 172]) 1 (fun _ _ => rfl) ?_
      refine pr_gE (k2 := 170) (v := vi (t 170 14)) hE1 rfl rfl rfl (by decide) rfl rfl rfl fun h35 => ?_
      have h35 : i32 (t 170 14) := h35
      refine pr_n (pc2 := 36) (lv2 := [(3, vi z1), (0, .ref 170), (1, vi x1), (2, vi x2)]) (st2 := [.ref 170, vi (t 170 14), .ref 172]) 1 (fun _ _ => rfl) ?_
      refine pr_gE (k2 := 170) (v := vi (t 170 5)) hE1 rfl rfl rfl (by decide) rfl rfl rfl fun h36 => ?_
      have h36 : i32 (t 170 5) := h36
      refine pr_sE (k2 := 172) (a := t 170 14) (z := t 170 5) hE1 rfl (by decide) rfl rfl h35 (by decide) rfl (show i32 (t 170 5) from h36) (n0 rfl (by omega) (by omega)) rfl rfl (fun e => absurd e.1 (by decide)) (fun _ => trivial) fun h37 h38 s39 hE39 => ?_
      refine pr_n (pc2 := 41) (lv2 := [(3, vi z1), (0, .ref 170), (1, vi x1), (2, vi x2)]) (st2 := [.ref 170]) 1 (fun _ _ => rfl) ?_
      refine pr_get (v := .ref 173) rfl rfl rfl (by decide) (rv_ref (hE39.2.1 170 10 173 rfl)) fun _ => ?_
      refine pr_n (pc2 := 45) (lv2 := [(3, vi z1), (0, .ref 170), (1, vi x1), (2, vi x2)]) (st2 := [.ref 170, .ref 173]) 1 (fun _ _ => rfl) ?_
      refine pr_gE (k2 := 170) (v := vi (t 170 14)) hE39 rfl rfl rfl (by decide) rfl rfl rfl fun h40 => ?_
      have h40 : i32 (t 170 14) := h40
      refine pr_n (pc2 := 49) (lv2 := [(3, vi z1), (0, .ref 170), (1, vi x1), (2, vi x2)]) (st2 := [.ref 170, vi (t 170 14), .ref 173]) 1 (fun _ _ => rfl) ?_
      refine pr_gE (k2 := 170) (v := vi (t 170 6)) hE39 rfl rfl rfl (by decide) rfl rfl rfl fun h41 => ?_
      have h41 : i32 (t 170 6) := h41
      refine pr_sE (k2 := 173) (a := t 170 14) (z := t 170 6) hE39 rfl (by decide) rfl rfl h40 (by decide) rfl (show i32 (t 170 6) from h41) (n0 rfl (by omega) (by omega)) rfl rfl (fun e => absurd e.1 (by decide)) (fun _ => trivial) fun h42 h43 s44 hE44 => ?_
      refine pr_n (pc2 := 54) (lv2 := [(3, vi z1), (0, .ref 170), (1, vi x1), (2, vi x2)]) (st2 := [.ref 170]) 1 (fun _ _ => rfl) ?_
      refine pr_get (v := .ref 174) rfl rfl rfl (by decide) (rv_ref (hE44.2.1 170 11 174 rfl)) fun _ => ?_
      refine pr_n (pc2 := 58) (lv2 := [(3, vi z1), (0, .ref 170), (1, vi x1), (2, vi x2)]) (st2 := [.ref 170, .ref 174]) 1 (fun _ _ => rfl) ?_
      refine pr_gE (k2 := 170) (v := vi (t 170 14)) hE44 rfl rfl rfl (by decide) rfl rfl rfl fun h45 => ?_
      have h45 : i32 (t 170 14) := h45
      refine pr_n (pc2 := 62) (lv2 := [(3, vi z1), (0, .ref 170), (1, vi x1), (2, vi x2)]) (st2 := [vi x1, vi (t 170 14), .ref 174]) 1 (fun _ _ => rfl) ?_
      refine pr_sE (k2 := 174) (a := t 170 14) (z := x1) hE44 rfl (by decide) rfl rfl h45 (by decide) rfl (show i32 (x1) from hx1) (n0 rfl (by omega) (by omega)) rfl rfl (fun e => absurd e.1 (by decide)) (fun _ => trivial) fun h46 h47 s48 hE48 => ?_
      refine pr_n (pc2 := 64) (lv2 := [(3, vi z1), (0, .ref 170), (1, vi x1), (2, vi x2)]) (st2 := [.ref 170]) 1 (fun _ _ => rfl) ?_
      refine pr_get (v := .ref 175) rfl rfl rfl (by decide) (rv_ref (hE48.2.1 170 12 175 rfl)) fun _ => ?_
      refine pr_n (pc2 := 68) (lv2 := [(3, vi z1), (0, .ref 170), (1, vi x1), (2, vi x2)]) (st2 := [.ref 170, .ref 175]) 1 (fun _ _ => rfl) ?_
      refine pr_gE (k2 := 170) (v := vi (t 170 14)) hE48 rfl rfl rfl (by decide) rfl rfl rfl fun h49 => ?_
      have h49 : i32 (t 170 14) := h49
      refine pr_n (pc2 := 72) (lv2 := [(3, vi z1), (0, .ref 170), (1, vi x1), (2, vi x2)]) (st2 := [vi x2, vi (t 170 14), .ref 175]) 1 (fun _ _ => rfl) ?_
      refine pr_sE (k2 := 175) (a := t 170 14) (z := x2) hE48 rfl (by decide) rfl rfl h49 (by decide) rfl (show i32 (x2) from hx2) (n0 rfl (by omega) (by omega)) rfl rfl (fun e => absurd e.1 (by decide)) (fun _ => trivial) fun h50 h51 s52 hE52 => ?_
      refine pr_n (pc2 := 74) (lv2 := [(3, vi z1), (0, .ref 170), (1, vi x1), (2, vi x2)]) (st2 := [.ref 170]) 1 (fun _ _ => rfl) ?_
      refine pr_get (v := .ref 176) rfl rfl rfl (by decide) (rv_ref (hE52.2.1 170 13 176 rfl)) fun _ => ?_
      refine pr_n (pc2 := 78) (lv2 := [(3, vi z1), (0, .ref 170), (1, vi x1), (2, vi x2)]) (st2 := [.ref 170, .ref 176]) 1 (fun _ _ => rfl) ?_
      refine pr_gE (k2 := 170) (v := vi (t 170 14)) hE52 rfl rfl rfl (by decide) rfl rfl rfl fun h53 => ?_
      have h53 : i32 (t 170 14) := h53
      refine pr_n (pc2 := 82) (lv2 := [(3, vi z1), (0, .ref 170), (1, vi x1), (2, vi x2)]) (st2 := [.ref 170, vi (t 170 14), .ref 176]) 1 (fun _ _ => rfl) ?_
      refine pr_gE (k2 := 170) (v := vi (t 170 15)) hE52 rfl rfl rfl (by decide) rfl rfl rfl fun h54 => ?_
      have h54 : i32 (t 170 15) := h54
      refine pr_sE (k2 := 176) (a := t 170 14) (z := t 170 15) hE52 rfl (by decide) rfl rfl h53 (by decide) rfl (show i32 (t 170 15) from h54) (n0 rfl (by omega) (by omega)) rfl rfl (fun e => absurd e.1 (by decide)) (fun _ => trivial) fun h55 h56 s57 hE57 => ?_
      refine pr_n (pc2 := 88) (lv2 := [(3, vi z1), (0, .ref 170), (1, vi x1), (2, vi x2)]) (st2 := [.ref 170, .ref 170]) 2 (fun _ _ => rfl) ?_
      refine pr_gE (k2 := 170) (v := vi (t 170 14)) hE57 rfl rfl rfl (by decide) rfl rfl rfl fun h58 => ?_
      have h58 : i32 (t 170 14) := h58
      refine pr_n (pc2 := 92) (lv2 := [(3, vi z1), (0, .ref 170), (1, vi x1), (2, vi x2)]) (st2 := [vi 1, vi (t 170 14), .ref 170]) 1 (fun _ _ => rfl) ?_
      refine pr_i2 (a := t 170 14) (b := 1) rfl rfl ?_
      show pr K K d tb_M133 93 [(3, vi z1), (0, .ref 170), (1, vi x1), (2, vi x2)] [vi (ipl (t 170 14) 1), .ref 170] s57 _
      have h59 : i32 (ipl (t 170 14) 1) := i32_in _
      refine pr_pE (k2 := 170) (z := ipl (t 170 14) 1) hE57 rfl rfl rfl rfl (by decide) rfl (by decide) rfl (show i32 (ipl (t 170 14) 1) from h59) (hf_int' _) rfl rfl rfl (fun e => absurd e.2 (by decide)) (fun _ => trivial) fun s60 hE60 => ?_
      refine pr_n (pc2 := 97) (lv2 := [(3, vi z1), (0, .ref 170), (1, vi x1), (2, vi x2)]) (st2 := [.ref 170]) 1 (fun _ _ => rfl) ?_
      refine pr_m1 (args := []) (rest := []) rfl rfl rfl rfl (Nat.le_of_ble_eq_true rfl) rfl (h_123 s60 (up2 (up2 (up2 (up2 (up2 (up2 t 172 ((t 170 14).toNat) (t 170 5)) 173 ((t 170 14).toNat) (t 170 6)) 174 ((t 170 14).toNat) x1) 175 ((t 170 14).toNat) x2) 176 ((t 170 14).toNat) (t 170 15)) 170 14 (ipl (t 170 14) 1))  hE60 ) ?_
      rintro _ _ t61 s61 ⟨rfl, rfl⟩ hE61
      show pr K K d tb_M133 100 [(3, vi z1), (0, .ref 170), (1, vi x1), (2, vi x2)] [] s61 _
      refine pr_n (pc2 := 101) (lv2 := [(3, vi z1), (0, .ref 170), (1, vi x1), (2, vi x2)]) (st2 := [vi 1]) 1 (fun _ _ => rfl) ?_
      refine pr_end (fun _ _ => rfl) ?_
      exact .inl ⟨_, 1, _, rfl, ⟨rfl, (by decide)⟩, rfl, hE61⟩
    · refine mq_f h34 ?_
      refine pr_if2f rfl rfl h30 h33 h34 ?_
      refine pr_n (pc2 := 23) (lv2 := [(3, vi z1), (0, .ref 170), (1, vi x1), (2, vi x2)]) (st2 := [.ref 170]) 1 (fun _ _ => rfl) ?_
      refine pr_s1 (args := []) (rest := []) rfl rfl rfl rfl (Nat.le_of_ble_eq_true rfl) rfl (h_131 s1 t  hE1 ) q_bad0 ?_
      rintro _ s62 ⟨rfl, hz62⟩ hE62
      show pr K K d tb_M133 26 [(3, vi z1), (0, .ref 170), (1, vi x1), (2, vi x2)] [vi 0] s62 _
      refine pr_end (fun _ _ => rfl) ?_
      exact .inl ⟨_, 0, _, rfl, ⟨rfl, (by decide)⟩, rfl, hE62⟩
set_option maxHeartbeats 20000000 in
set_option maxRecDepth 100000 in
theorem rm140 {K d C : Nat} : rT140 K (d + 1) C := by
  intro s t x1 hE hx1
  have hC : C = 177 ∨ C = 186 := hE.1
  refine pcr_of (M := tb_M140) rfl ?_
  show pr K K d tb_M140 0 [(0, .ref 170), (1, vi x1)] [] s _
  rw [rG_140]
  unfold rM140
  refine pr_n (pc2 := 1) (lv2 := [(0, .ref 170), (1, vi x1)]) (st2 := [.ref 170]) 1 (fun _ _ => rfl) ?_
  refine pr_get (v := .ref C) rfl rfl rfl (by decide) (rv_ref (show s.1 170 19 = ((C : Nat) : Int) from hE.2.2.1)) fun _ => ?_
  refine pr_get (v := .ref (C + 1)) rfl rfl (TG_C hC) (by decide) (rv_ref (hE.2.1 C 0 (C + 1) (rc_C0 hC))) fun _ => ?_
  refine pr_n (pc2 := 8) (lv2 := [(0, .ref 170), (1, vi x1)]) (st2 := [.ref 170, .ref (C + 1)]) 1 (fun _ _ => rfl) ?_
  refine pr_get (v := .ref C) rfl rfl rfl (by decide) (rv_ref (show s.1 170 19 = ((C : Nat) : Int) from hE.2.2.1)) fun _ => ?_
  refine pr_gE (k2 := 177) (v := vi (t 177 1)) hE rfl rfl (TG_C hC) (by decide) rfl rfl rfl fun h1 => ?_
  have h1 : i32 (t 177 1) := h1
  refine pr_n (pc2 := 15) (lv2 := [(0, .ref 170), (1, vi x1)]) (st2 := [vi x1, vi (t 177 1), .ref (C + 1)]) 1 (fun _ _ => rfl) ?_
  refine pr_sE (k2 := 178) (a := t 177 1) (z := x1) hE rfl (show 96 ≤ C + 1 by omega) (TG_C1 hC) rfl h1 (by decide) rfl (show i32 (x1) from hx1) (nD1 hC (by omega)) rfl rfl (fun e => absurd e.1 (show ¬ (C + 1 = 170) by omega)) (fun _ => trivial) fun h2 h3 s4 hE4 => ?_
  refine pr_n (pc2 := 17) (lv2 := [(0, .ref 170), (1, vi x1)]) (st2 := [.ref 170]) 1 (fun _ _ => rfl) ?_
  refine pr_get (v := .ref C) rfl rfl rfl (by decide) (rv_ref (show s4.1 170 19 = ((C : Nat) : Int) from hE4.2.2.1)) fun _ => ?_
  refine pr_n (pc2 := 21) (lv2 := [(0, .ref 170), (1, vi x1)]) (st2 := [.ref C, .ref C]) 1 (fun _ _ => rfl) ?_
  refine pr_gE (k2 := 177) (v := vi (t 177 1)) hE4 rfl rfl (TG_C hC) (by decide) rfl rfl rfl fun h5 => ?_
  have h5 : i32 (t 177 1) := h5
  refine pr_n (pc2 := 25) (lv2 := [(0, .ref 170), (1, vi x1)]) (st2 := [vi 1, vi (t 177 1), .ref C]) 1 (fun _ _ => rfl) ?_
  refine pr_i2 (a := t 177 1) (b := 1) rfl rfl ?_
  show pr K K d tb_M140 26 [(0, .ref 170), (1, vi x1)] [vi (ipl (t 177 1) 1), .ref C] s4 _
  have h6 : i32 (ipl (t 177 1) 1) := i32_in _
  refine pr_pE (k2 := 177) (z := ipl (t 177 1) 1) hE4 rfl rfl rfl rfl (show 96 ≤ C by omega) (TG_C hC) (by decide) rfl (show i32 (ipl (t 177 1) 1) from h6) (hf_int' _) (nD hC (by omega)) rfl rfl (fun e => absurd e.1 (show ¬ (C = 170) by omega)) (fun _ => trivial) fun s7 hE7 => ?_
  refine pr_n (pc2 := 30) (lv2 := [(0, .ref 170), (1, vi x1)]) (st2 := [.ref 170]) 1 (fun _ _ => rfl) ?_
  refine pr_get (v := .ref C) rfl rfl rfl (by decide) (rv_ref (show s7.1 170 19 = ((C : Nat) : Int) from hE7.2.2.1)) fun _ => ?_
  refine pr_gE (k2 := 177) (v := vi (ipl (t 177 1) 1)) hE7 rfl rfl (TG_C hC) (by decide) rfl rfl rfl fun h8 => ?_
  have h8 : i32 (ipl (t 177 1) 1) := h8
  refine pr_n (pc2 := 37) (lv2 := [(0, .ref 170), (1, vi x1)]) (st2 := [vi 1, vi (ipl (t 177 1) 1)]) 1 (fun _ _ => rfl) ?_
  refine pr_i2 (a := ipl (t 177 1) 1) (b := 1) rfl rfl ?_
  show pr K K d tb_M140 38 [(0, .ref 170), (1, vi x1)] [vi (imi (ipl (t 177 1) 1) 1)] s7 _
  have h9 : i32 (imi (ipl (t 177 1) 1) 1) := i32_in _
  refine pr_reti rfl rfl ?_
  exact .inl ⟨_, imi (ipl (t 177 1) 1) 1, _, rfl, ⟨rfl, h9⟩, rfl, hE7⟩
set_option maxHeartbeats 20000000 in
set_option maxRecDepth 100000 in
theorem rm147 {K d C : Nat} (h_140 : rT140 K d C) : rT147 K (d + 1) C := by
  intro s t x1 x2 hE hx1 hx2
  have hC : C = 177 ∨ C = 186 := hE.1
  refine pcr_of (M := tb_M147) rfl ?_
  show pr K K d tb_M147 0 [(0, .ref 170), (1, vi x1), (2, vi x2)] [] s _
  rw [rG_147]
  unfold rM147
  refine pr_n (pc2 := 2) (lv2 := [(0, .ref 170), (1, vi x1), (2, vi x2)]) (st2 := [vi x1, .ref 170]) 2 (fun _ _ => rfl) ?_
  refine pr_s1 (args := [vi x1]) (rest := []) rfl rfl rfl rfl (Nat.le_of_ble_eq_true rfl) rfl (h_140 s t x1 hE hx1) q_put1 ?_
  rintro _ s1 ⟨rfl, hz1⟩ hE1
  show pr K K d tb_M147 5 [(0, .ref 170), (1, vi x1), (2, vi x2)] [vi (ptz t)] s1 _
  refine pr_n (pc2 := 8) (lv2 := [(0, .ref 170), (1, vi x1), (2, vi x2)]) (st2 := [vi x2, .ref 170]) 3 (fun _ _ => rfl) ?_
  refine pr_s1 (args := [vi x2]) (rest := []) rfl rfl rfl rfl (Nat.le_of_ble_eq_true rfl) rfl (h_140 s1 ((pt1 t x1)) x2 hE1 hx2) q_put1 ?_
  rintro _ s2 ⟨rfl, hz2⟩ hE2
  show pr K K d tb_M147 11 [(0, .ref 170), (1, vi x1), (2, vi x2)] [vi (ptz ((pt1 t x1)))] s2 _
  refine pr_n (pc2 := 12) (lv2 := [(0, .ref 170), (1, vi x1), (2, vi x2)]) (st2 := []) 1 (fun _ _ => rfl) ?_
  refine pr_end (fun _ _ => rfl) ?_
  exact .inl ⟨_, 0, _, rfl, ⟨rfl, rfl⟩, rfl, hE2⟩
set_option maxHeartbeats 20000000 in
set_option maxRecDepth 100000 in
theorem rm142 {K d C : Nat} (h_140 : rT140 K d C) : rT142 K (d + 1) C := by
  intro s t  hE 
  have hC : C = 177 ∨ C = 186 := hE.1
  refine pcr_of (M := tb_M142) rfl ?_
  show pr K K d tb_M142 0 [(0, .ref 170)] [] s _
  rw [rG_142]
  unfold rM142
  refine pr_n (pc2 := 2) (lv2 := [(0, .ref 170)]) (st2 := [vi 0, .ref 170]) 2 (fun _ _ => rfl) ?_
  refine pr_s1 (args := [vi 0]) (rest := []) rfl rfl rfl rfl (Nat.le_of_ble_eq_true rfl) rfl (h_140 s t 0 hE (i32_n rfl)) q_put1 ?_
  rintro _ s1 ⟨rfl, hz1⟩ hE1
  show pr K K d tb_M142 5 [(0, .ref 170)] [vi (ptz t)] s1 _
  refine pr_n (pc2 := 7) (lv2 := [(0, .ref 170)]) (st2 := [.ref 170]) 2 (fun _ _ => rfl) ?_
  refine pr_get (v := .ref C) rfl rfl rfl (by decide) (rv_ref (show s1.1 170 19 = ((C : Nat) : Int) from hE1.2.2.1)) fun _ => ?_
  refine pr_n (pc2 := 11) (lv2 := [(0, .ref 170)]) (st2 := [.ref C, .ref C]) 1 (fun _ _ => rfl) ?_
  refine pr_gE (k2 := 177) (v := vi (t 177 3)) hE1 rfl rfl (TG_C hC) (by decide) rfl rfl rfl fun h2 => ?_
  have h2 : i32 (t 177 3) := h2
  refine pr_n (pc2 := 15) (lv2 := [(0, .ref 170)]) (st2 := [vi 1, vi (t 177 3), .ref C]) 1 (fun _ _ => rfl) ?_
  refine pr_i2 (a := t 177 3) (b := 1) rfl rfl ?_
  show pr K K d tb_M142 16 [(0, .ref 170)] [vi (ipl (t 177 3) 1), .ref C] s1 _
  have h3 : i32 (ipl (t 177 3) 1) := i32_in _
  refine pr_pE (k2 := 177) (z := ipl (t 177 3) 1) hE1 rfl rfl rfl rfl (show 96 ≤ C by omega) (TG_C hC) (by decide) rfl (show i32 (ipl (t 177 3) 1) from h3) (hf_int' _) (nD hC (by omega)) rfl rfl (fun e => absurd e.1 (show ¬ (C = 170) by omega)) (fun _ => trivial) fun s4 hE4 => ?_
  refine pr_end (fun _ _ => rfl) ?_
  exact .inl ⟨_, 0, _, rfl, ⟨rfl, rfl⟩, rfl, hE4⟩
set_option maxHeartbeats 20000000 in
set_option maxRecDepth 100000 in
theorem rm138 {K d C : Nat} : rT138 K (d + 1) C := by
  intro s t  hE 
  have hC : C = 177 ∨ C = 186 := hE.1
  refine pcr_of (M := tb_M138) rfl ?_
  show pr K K d tb_M138 0 [(0, .ref 170)] [] s _
  rw [rG_138]
  unfold rM138
  refine pr_n (pc2 := 2) (lv2 := [(0, .ref 170)]) (st2 := [vl 0, .ref 170]) 2 (fun _ _ => rfl) ?_
  refine pr_pE (k2 := 170) (z := 0) hE rfl rfl rfl rfl (by decide) rfl (by decide) rfl (i64_n rfl) (fit_l _) rfl rfl rfl (fun e => absurd e.2 (by decide)) (fun _ => trivial) fun s1 hE1 => ?_
  refine pr_n (pc2 := 7) (lv2 := [(0, .ref 170)]) (st2 := [vl 0, .ref 170]) 2 (fun _ _ => rfl) ?_
  refine pr_pE (k2 := 170) (z := 0) hE1 rfl rfl rfl rfl (by decide) rfl (by decide) rfl (i64_n rfl) (fit_l _) rfl rfl rfl (fun e => absurd e.2 (by decide)) (fun _ => trivial) fun s2 hE2 => ?_
  refine pr_n (pc2 := 12) (lv2 := [(0, .ref 170)]) (st2 := [vl 0, .ref 170]) 2 (fun _ _ => rfl) ?_
  refine pr_pE (k2 := 170) (z := 0) hE2 rfl rfl rfl rfl (by decide) rfl (by decide) rfl (i64_n rfl) (fit_l _) rfl rfl rfl (fun e => absurd e.2 (by decide)) (fun _ => trivial) fun s3 hE3 => ?_
  refine pr_n (pc2 := 17) (lv2 := [(0, .ref 170)]) (st2 := [vl 0, .ref 170]) 2 (fun _ _ => rfl) ?_
  refine pr_pE (k2 := 170) (z := 0) hE3 rfl rfl rfl rfl (by decide) rfl (by decide) rfl (i64_n rfl) (fit_l _) rfl rfl rfl (fun e => absurd e.2 (by decide)) (fun _ => trivial) fun s4 hE4 => ?_
  refine pr_n (pc2 := 22) (lv2 := [(0, .ref 170)]) (st2 := [vl 0, .ref 170]) 2 (fun _ _ => rfl) ?_
  refine pr_pE (k2 := 170) (z := 0) hE4 rfl rfl rfl rfl (by decide) rfl (by decide) rfl (i64_n rfl) (fit_l _) rfl rfl rfl (fun e => absurd e.2 (by decide)) (fun _ => trivial) fun s5 hE5 => ?_
  refine pr_end (fun _ _ => rfl) ?_
  exact .inl ⟨_, 0, _, rfl, ⟨rfl, rfl⟩, rfl, hE5⟩
set_option maxHeartbeats 20000000 in
set_option maxRecDepth 100000 in
theorem rm135 {K d C : Nat} : rT135 K (d + 1) C := by
  intro s t  hE 
  have hC : C = 177 ∨ C = 186 := hE.1
  refine pcr_of (M := tb_M135) rfl ?_
  show pr K K d tb_M135 0 [(0, .ref 170)] [] s _
  rw [rG_135]
  unfold rM135
  refine pr_n (pc2 := 2) (lv2 := [(0, .ref 170)]) (st2 := [.ref 170, .ref 170]) 2 (fun _ _ => rfl) ?_
  refine pr_gE (k2 := 170) (v := vi (t 170 16)) hE rfl rfl rfl (by decide) rfl rfl rfl fun h1 => ?_
  have h1 : i32 (t 170 16) := h1
  refine pr_pE (k2 := 170) (z := t 170 16) hE rfl rfl rfl rfl (by decide) rfl (by decide) rfl (show i32 (t 170 16) from h1) (hf_int' _) rfl rfl rfl (fun e => absurd e.2 (by decide)) (fun _ => trivial) fun s2 hE2 => ?_
  refine pr_n (pc2 := 10) (lv2 := [(0, .ref 170)]) (st2 := [.ref 170, .ref 170]) 2 (fun _ _ => rfl) ?_
  refine pr_gE (k2 := 170) (v := vi (t 170 16)) hE2 rfl rfl rfl (by decide) rfl rfl rfl fun h3 => ?_
  have h3 : i32 (t 170 16) := h3
  refine pr_n (pc2 := 14) (lv2 := [(0, .ref 170)]) (st2 := [vi 1, vi (t 170 16), .ref 170]) 1 (fun _ _ => rfl) ?_
  refine pr_i2 (a := t 170 16) (b := 1) rfl rfl ?_
  show pr K K d tb_M135 15 [(0, .ref 170)] [vi (ipl (t 170 16) 1), .ref 170] s2 _
  have h4 : i32 (ipl (t 170 16) 1) := i32_in _
  refine pr_pE (k2 := 170) (z := ipl (t 170 16) 1) hE2 rfl rfl rfl rfl (by decide) rfl (by decide) rfl (show i32 (ipl (t 170 16) 1) from h4) (hf_int' _) rfl rfl rfl (fun e => absurd e.2 (by decide)) (fun _ => trivial) fun s5 hE5 => ?_
  refine pr_end (fun _ _ => rfl) ?_
  exact .inl ⟨_, 0, _, rfl, ⟨rfl, rfl⟩, rfl, hE5⟩
set_option maxHeartbeats 20000000 in
set_option maxRecDepth 100000 in
theorem rm130 {K d C : Nat} (h_131 : rT131 K d C) : rT130 K (d + 1) C := by
  intro s t x1 x2 hE hx1 hx2
  have hC : C = 177 ∨ C = 186 := hE.1
  refine pcr_of (M := tb_M130) rfl ?_
  show pr K K d tb_M130 0 [(0, .ref 170), (1, vi x1), (2, vi x2)] [] s _
  rw [rG_130]
  unfold rM130
  refine pr_n (pc2 := 1) (lv2 := [(0, .ref 170), (1, vi x1), (2, vi x2)]) (st2 := [.ref 170]) 1 (fun _ _ => rfl) ?_
  refine pr_gE (k2 := 170) (v := vi (t 170 4)) hE rfl rfl rfl (by decide) rfl rfl rfl fun h1 => ?_
  have h1 : i32 (t 170 4) := h1
  refine pr_n (pc2 := 5) (lv2 := [(0, .ref 170), (1, vi x1), (2, vi x2)]) (st2 := [vi 1, vi (t 170 4)]) 1 (fun _ _ => rfl) ?_
  by_cases h2 : t 170 4 ≠ 1
  · refine mq_t h2 ?_
    refine pr_if2t rfl rfl h1 (i32_n rfl) h2 ?_
    refine pr_n (pc2 := 14) (lv2 := [(0, .ref 170), (1, vi x1), (2, vi x2)]) (st2 := [.ref 170]) 1 (fun _ _ => rfl) ?_
    refine pr_s1 (args := []) (rest := []) rfl rfl rfl rfl (Nat.le_of_ble_eq_true rfl) rfl (h_131 s t  hE ) q_bad0 ?_
    rintro _ s3 ⟨rfl, hz3⟩ hE3
    show pr K K d tb_M130 17 [(0, .ref 170), (1, vi x1), (2, vi x2)] [vi 0] s3 _
    refine pr_n (pc2 := 25) (lv2 := [(0, .ref 170), (1, vi x1), (2, vi x2)]) (st2 := [vi 0]) 2 (fun _ _ => rfl) ?_
    refine pr_end (fun _ _ => rfl) ?_
    exact .inl ⟨_, 0, _, rfl, ⟨rfl, (by decide)⟩, rfl, hE3⟩
  · refine mq_f h2 ?_
    refine pr_if2f rfl rfl h1 (i32_n rfl) h2 ?_
    refine pr_n (pc2 := 10) (lv2 := [(0, .ref 170), (1, vi x1), (2, vi x2)]) (st2 := [vi x2, vi x1]) 2 (fun _ _ => rfl) ?_
    by_cases h4 : x1 < x2
    · refine mq_t h4 ?_
      refine pr_if2t rfl rfl hx1 hx2 h4 ?_
      refine pr_n (pc2 := 25) (lv2 := [(0, .ref 170), (1, vi x1), (2, vi x2)]) (st2 := [vi 1]) 2 (fun _ _ => rfl) ?_
      refine pr_end (fun _ _ => rfl) ?_
      exact .inl ⟨_, 1, _, rfl, ⟨rfl, (by decide)⟩, rfl, hE⟩
    · refine mq_f h4 ?_
      refine pr_if2f rfl rfl hx1 hx2 h4 ?_
      refine pr_n (pc2 := 14) (lv2 := [(0, .ref 170), (1, vi x1), (2, vi x2)]) (st2 := [.ref 170]) 1 (fun _ _ => rfl) ?_
      refine pr_s1 (args := []) (rest := []) rfl rfl rfl rfl (Nat.le_of_ble_eq_true rfl) rfl (h_131 s t  hE ) q_bad0 ?_
      rintro _ s5 ⟨rfl, hz5⟩ hE5
      show pr K K d tb_M130 17 [(0, .ref 170), (1, vi x1), (2, vi x2)] [vi 0] s5 _
      refine pr_n (pc2 := 25) (lv2 := [(0, .ref 170), (1, vi x1), (2, vi x2)]) (st2 := [vi 0]) 2 (fun _ _ => rfl) ?_
      refine pr_end (fun _ _ => rfl) ?_
      exact .inl ⟨_, 0, _, rfl, ⟨rfl, (by decide)⟩, rfl, hE5⟩
set_option maxHeartbeats 20000000 in
set_option maxRecDepth 100000 in
theorem rm137 {K d C : Nat} (h_130 : rT130 K d C) (h_133 : rT133 K d C) : rT137 K (d + 1) C := by
  intro s t x1 hE hx1
  have hC : C = 177 ∨ C = 186 := hE.1
  refine pcr_of (M := tb_M137) rfl ?_
  show pr K K d tb_M137 0 [(0, .ref 170), (1, vi x1)] [] s _
  rw [rG_137]
  unfold rM137
  refine pr_n (pc2 := 2) (lv2 := [(0, .ref 170), (1, vi x1)]) (st2 := [.ref 170, .ref 170]) 2 (fun _ _ => rfl) ?_
  refine pr_get (v := .ref C) rfl rfl rfl (by decide) (rv_ref (show s.1 170 19 = ((C : Nat) : Int) from hE.2.2.1)) fun _ => ?_
  refine pr_gE (k2 := 177) (v := vi (t 177 4)) hE rfl rfl (TG_C hC) (by decide) rfl rfl rfl fun h1 => ?_
  have h1 : i32 (t 177 4) := h1
  refine pr_n (pc2 := 10) (lv2 := [(0, .ref 170), (1, vi x1)]) (st2 := [vi 24, vi (t 177 4), .ref 170]) 1 (fun _ _ => rfl) ?_
  refine pr_p1 (args := [vi (t 177 4), vi 24]) (rest := []) rfl rfl rfl rfl (Nat.le_of_ble_eq_true rfl) rfl (h_130 s t (t 177 4) 24 hE h1 (i32_n rfl)) (fun z t3 => pu_130) ?_
  rintro _ z2 s2 ⟨rfl, hz2⟩ hX2 hE2
  show pr K K d tb_M137 13 [(0, .ref 170), (1, vi x1)] [vi z2] s2 _
  by_cases h3 : z2 = 0
  · refine mq_t h3 ?_
    refine pr_if1t rfl rfl (i32_z hz2) h3 ?_
    refine pr_n (pc2 := 32) (lv2 := [(0, .ref 170), (1, vi x1)]) (st2 := [vi 0]) 1 (fun _ _ => rfl) ?_
    refine pr_end (fun _ _ => rfl) ?_
    exact .inl ⟨_, 0, _, rfl, ⟨rfl, (by decide)⟩, rfl, hE2⟩
  · refine mq_f h3 ?_
    refine pr_if1f rfl rfl (i32_z hz2) h3 ?_
    refine pr_n (pc2 := 19) (lv2 := [(0, .ref 170), (1, vi x1)]) (st2 := [.ref 170, vi 0, .ref 170]) 3 (fun _ _ => rfl) ?_
    refine pr_get (v := .ref C) rfl rfl rfl (by decide) (rv_ref (show s2.1 170 19 = ((C : Nat) : Int) from hE2.2.2.1)) fun _ => ?_
    refine pr_gE (k2 := 177) (v := vi (t 177 4)) hE2 rfl rfl (TG_C hC) (by decide) rfl rfl rfl fun h4 => ?_
    have h4 : i32 (t 177 4) := h4
    refine pr_m1 (args := [vi 0, vi (t 177 4)]) (rest := []) rfl rfl rfl rfl (Nat.le_of_ble_eq_true rfl) rfl (h_133 s2 t 0 (t 177 4) hE2 (i32_n rfl) h4) ?_
    rintro _ z5 t5 s5 ⟨rfl, hz5⟩ hE5
    show pr K K d tb_M137 28 [(0, .ref 170), (1, vi x1)] [vi z5] s5 _
    by_cases h6 : z5 ≠ 0
    · refine mq_t h6 ?_
      refine pr_if1t rfl rfl (i32_z hz5) h6 ?_
      refine pr_n (pc2 := 34) (lv2 := [(0, .ref 170), (1, vi x1)]) (st2 := [.ref 170]) 1 (fun _ _ => rfl) ?_
      refine pr_get (v := .ref C) rfl rfl rfl (by decide) (rv_ref (show s5.1 170 19 = ((C : Nat) : Int) from hE5.2.2.1)) fun _ => ?_
      refine pr_get (v := .ref (C + 2)) rfl rfl (TG_C hC) (by decide) (rv_ref (hE5.2.1 C 11 (C + 2) (rc_C11 hC))) fun _ => ?_
      refine pr_n (pc2 := 41) (lv2 := [(0, .ref 170), (1, vi x1)]) (st2 := [.ref 170, .ref (C + 2)]) 1 (fun _ _ => rfl) ?_
      refine pr_get (v := .ref C) rfl rfl rfl (by decide) (rv_ref (show s5.1 170 19 = ((C : Nat) : Int) from hE5.2.2.1)) fun _ => ?_
      refine pr_gE (k2 := 177) (v := vi (t5 177 4)) hE5 rfl rfl (TG_C hC) (by decide) rfl rfl rfl fun h7 => ?_
      have h7 : i32 (t5 177 4) := h7
      refine pr_n (pc2 := 48) (lv2 := [(0, .ref 170), (1, vi x1)]) (st2 := [vi x1, vi (t5 177 4), .ref (C + 2)]) 1 (fun _ _ => rfl) ?_
      refine pr_sE (k2 := 179) (a := t5 177 4) (z := x1) hE5 rfl (show 96 ≤ C + 2 by omega) (TG_C2 hC) rfl h7 (by decide) rfl (show i32 (x1) from hx1) (nD1 hC (by omega)) rfl rfl (fun e => absurd e.1 (show ¬ (C + 2 = 170) by omega)) (fun _ => trivial) fun h8 h9 s10 hE10 => ?_
      refine pr_n (pc2 := 50) (lv2 := [(0, .ref 170), (1, vi x1)]) (st2 := [.ref 170]) 1 (fun _ _ => rfl) ?_
      refine pr_get (v := .ref C) rfl rfl rfl (by decide) (rv_ref (show s10.1 170 19 = ((C : Nat) : Int) from hE10.2.2.1)) fun _ => ?_
      refine pr_n (pc2 := 54) (lv2 := [(0, .ref 170), (1, vi x1)]) (st2 := [.ref C, .ref C]) 1 (fun _ _ => rfl) ?_
      refine pr_gE (k2 := 177) (v := vi (t5 177 4)) hE10 rfl rfl (TG_C hC) (by decide) rfl rfl rfl fun h11 => ?_
      have h11 : i32 (t5 177 4) := h11
      refine pr_n (pc2 := 58) (lv2 := [(0, .ref 170), (1, vi x1)]) (st2 := [vi 1, vi (t5 177 4), .ref C]) 1 (fun _ _ => rfl) ?_
      refine pr_i2 (a := t5 177 4) (b := 1) rfl rfl ?_
      show pr K K d tb_M137 59 [(0, .ref 170), (1, vi x1)] [vi (ipl (t5 177 4) 1), .ref C] s10 _
      have h12 : i32 (ipl (t5 177 4) 1) := i32_in _
      refine pr_pE (k2 := 177) (z := ipl (t5 177 4) 1) hE10 rfl rfl rfl rfl (show 96 ≤ C by omega) (TG_C hC) (by decide) rfl (show i32 (ipl (t5 177 4) 1) from h12) (hf_int' _) (nD hC (by omega)) rfl rfl (fun e => absurd e.1 (show ¬ (C = 170) by omega)) (fun _ => trivial) fun s13 hE13 => ?_
      refine pr_n (pc2 := 63) (lv2 := [(0, .ref 170), (1, vi x1)]) (st2 := [vi 1]) 1 (fun _ _ => rfl) ?_
      refine pr_end (fun _ _ => rfl) ?_
      exact .inl ⟨_, 1, _, rfl, ⟨rfl, (by decide)⟩, rfl, hE13⟩
    · refine mq_f h6 ?_
      refine pr_if1f rfl rfl (i32_z hz5) h6 ?_
      refine pr_n (pc2 := 32) (lv2 := [(0, .ref 170), (1, vi x1)]) (st2 := [vi 0]) 1 (fun _ _ => rfl) ?_
      refine pr_end (fun _ _ => rfl) ?_
      exact .inl ⟨_, 0, _, rfl, ⟨rfl, (by decide)⟩, rfl, hE5⟩
set_option maxHeartbeats 20000000 in
set_option maxRecDepth 100000 in
theorem rm158 {K d C : Nat} (h_147 : rT147 K d C) : rT158 K (d + 1) C := by
  intro s t x1 x2 hE hx1 hx2
  have hC : C = 177 ∨ C = 186 := hE.1
  refine pcr_of (M := tb_M158) rfl ?_
  show pr K K d tb_M158 0 [(0, .ref 170), (1, vi x1), (2, vi x2)] [] s _
  rw [rG_158]
  unfold rM158
  refine pr_n (pc2 := 2) (lv2 := [(0, .ref 170), (1, vi x1), (2, vi x2)]) (st2 := [vi x1, .ref 170]) 2 (fun _ _ => rfl) ?_
  by_cases h1 : x1 ≠ 0
  · refine mq_t h1 ?_
    refine pr_if1t rfl rfl hx1 h1 ?_
    refine pr_n (pc2 := 12) (lv2 := [(0, .ref 170), (1, vi x1), (2, vi x2)]) (st2 := [vi x2, vi 6, .ref 170]) 2 (fun _ _ => rfl) ?_
    refine pr_s1 (args := [vi 6, vi x2]) (rest := []) rfl rfl rfl rfl (Nat.le_of_ble_eq_true rfl) rfl (h_147 s t 6 x2 hE (i32_n rfl) hx2) q_pt2 ?_
    rintro _ s2 ⟨rfl, _⟩ hE2
    show pr K K d tb_M158 15 [(0, .ref 170), (1, vi x1), (2, vi x2)] [] s2 _
    refine pr_end (fun _ _ => rfl) ?_
    exact .inl ⟨_, 0, _, rfl, ⟨rfl, rfl⟩, rfl, hE2⟩
  · refine mq_f h1 ?_
    refine pr_if1f rfl rfl hx1 h1 ?_
    refine pr_n (pc2 := 12) (lv2 := [(0, .ref 170), (1, vi x1), (2, vi x2)]) (st2 := [vi x2, vi 5, .ref 170]) 3 (fun _ _ => rfl) ?_
    refine pr_s1 (args := [vi 5, vi x2]) (rest := []) rfl rfl rfl rfl (Nat.le_of_ble_eq_true rfl) rfl (h_147 s t 5 x2 hE (i32_n rfl) hx2) q_pt2 ?_
    rintro _ s3 ⟨rfl, _⟩ hE3
    show pr K K d tb_M158 15 [(0, .ref 170), (1, vi x1), (2, vi x2)] [] s3 _
    refine pr_end (fun _ _ => rfl) ?_
    exact .inl ⟨_, 0, _, rfl, ⟨rfl, rfl⟩, rfl, hE3⟩
set_option maxHeartbeats 20000000 in
set_option maxRecDepth 100000 in
theorem ru148_0 {N K d C : Nat} (ih : ∀ N2, N2 < N → rA148 N2 K d C) : rU148_0 N K d C := by
  intro s t y2 y1 hE hy2 hy1
  have hC : C = 177 ∨ C = 186 := hE.1
  rw [rG_148_5]
  unfold rM148_5
  refine pr_lt (pc2 := 6) (lv2 := [(2, vi y2), (0, .ref 170), (1, vi y1)]) (st2 := [vi y2]) (fun _ _ => rfl) fun N2 hN2 => ?_
  refine pr_n (pc2 := 7) (lv2 := [(2, vi y2), (0, .ref 170), (1, vi y1)]) (st2 := [.ref 170, vi y2]) 1 (fun _ _ => rfl) ?_
  refine pr_gE (k2 := 170) (v := vi (t 170 2)) hE rfl rfl rfl (by decide) rfl rfl rfl fun h1 => ?_
  have h1 : i32 (t 170 2) := h1
  by_cases h2 : t 170 2 ≤ y2
  · refine mq_t h2 ?_
    refine pr_if2t rfl rfl hy2 h1 h2 ?_
    refine pr_n (pc2 := 43) (lv2 := [(2, vi y2), (0, .ref 170), (1, vi y1)]) (st2 := [.ref 170, vi y2]) 2 (fun _ _ => rfl) ?_
    refine pr_gE (k2 := 170) (v := vi (t 170 2)) hE rfl rfl rfl (by decide) rfl rfl rfl fun h3 => ?_
    have h3 : i32 (t 170 2) := h3
    by_cases h4 : y2 = t 170 2
    · refine mq_t h4 ?_
      refine pr_if2t rfl rfl hy2 h3 h4 ?_
      refine pr_n (pc2 := 60) (lv2 := [(2, vi y2), (0, .ref 170), (1, vi y1)]) (st2 := [vi 0]) 1 (fun _ _ => rfl) ?_
      refine pr_end (fun _ _ => rfl) ?_
      exact .inl ⟨_, 0, _, rfl, ⟨rfl, (by decide)⟩, rfl, hE⟩
    · refine mq_f h4 ?_
      refine pr_if2f rfl rfl hy2 h3 h4 ?_
      refine pr_n (pc2 := 50) (lv2 := [(2, vi y2), (0, .ref 170), (1, vi y1)]) (st2 := [.ref 170]) 1 (fun _ _ => rfl) ?_
      refine pr_get (v := .ref 171) rfl rfl rfl (by decide) (rv_ref (hE.2.1 170 0 171 rfl)) fun _ => ?_
      refine pr_n (pc2 := 54) (lv2 := [(2, vi y2), (0, .ref 170), (1, vi y1)]) (st2 := [vi y2, .ref 171]) 1 (fun _ _ => rfl) ?_
      refine pr_aE (k2 := 171) (a := y2) (v := vi (t 171 y2.toNat)) hE rfl rfl rfl hy2 (by decide) rfl rfl rfl fun h6 h7 h5 => ?_
      have h5 : -128 ≤ t 171 y2.toNat ∧ t 171 y2.toNat ≤ 127 := h5
      refine pr_n (pc2 := 56) (lv2 := [(2, vi y2), (0, .ref 170), (1, vi y1)]) (st2 := [vi y1, vi (t 171 y2.toNat)]) 1 (fun _ _ => rfl) ?_
      by_cases h8 : t 171 y2.toNat = y1
      · refine mq_t h8 ?_
        refine pr_if2t rfl rfl (i32_b h5) hy1 h8 ?_
        refine pr_n (pc2 := 63) (lv2 := [(2, vi y2), (0, .ref 170), (1, vi y1)]) (st2 := [vi 1, vi y2]) 2 (fun _ _ => rfl) ?_
        refine pr_i2 (a := y2) (b := 1) rfl rfl ?_
        show pr N2 K d tb_M148 64 [(2, vi y2), (0, .ref 170), (1, vi y1)] [vi (ipl y2 1)] s _
        have h9 : i32 (ipl y2 1) := i32_in _
        refine pr_n (pc2 := 65) (lv2 := [(2, vi y2), (0, .ref 170), (1, vi y1)]) (st2 := [.ref 170, vi (ipl y2 1)]) 1 (fun _ _ => rfl) ?_
        refine pr_gE (k2 := 170) (v := vi (t 170 2)) hE rfl rfl rfl (by decide) rfl rfl rfl fun h10 => ?_
        have h10 : i32 (t 170 2) := h10
        by_cases h11 : ipl y2 1 = t 170 2
        · refine mq_t h11 ?_
          refine pr_if2t rfl rfl h9 h10 h11 ?_
          refine pr_n (pc2 := 101) (lv2 := [(2, vi y2), (0, .ref 170), (1, vi y1)]) (st2 := [vi 1]) 2 (fun _ _ => rfl) ?_
          refine pr_end (fun _ _ => rfl) ?_
          exact .inl ⟨_, 1, _, rfl, ⟨rfl, (by decide)⟩, rfl, hE⟩
        · refine mq_f h11 ?_
          refine pr_if2f rfl rfl h9 h10 h11 ?_
          refine pr_n (pc2 := 72) (lv2 := [(2, vi y2), (0, .ref 170), (1, vi y1)]) (st2 := [.ref 170]) 1 (fun _ _ => rfl) ?_
          refine pr_get (v := .ref 171) rfl rfl rfl (by decide) (rv_ref (hE.2.1 170 0 171 rfl)) fun _ => ?_
          refine pr_n (pc2 := 77) (lv2 := [(2, vi y2), (0, .ref 170), (1, vi y1)]) (st2 := [vi 1, vi y2, .ref 171]) 2 (fun _ _ => rfl) ?_
          refine pr_i2 (a := y2) (b := 1) rfl rfl ?_
          show pr N2 K d tb_M148 78 [(2, vi y2), (0, .ref 170), (1, vi y1)] [vi (ipl y2 1), .ref 171] s _
          refine pr_aE (k2 := 171) (a := ipl y2 1) (v := vi (t 171 ((ipl y2 1).toNat))) hE rfl rfl rfl h9 (by decide) rfl rfl rfl fun h14 h15 h13 => ?_
          have h13 : -128 ≤ t 171 ((ipl y2 1).toNat) ∧ t 171 ((ipl y2 1).toNat) ≤ 127 := h13
          refine pr_n (pc2 := 81) (lv2 := [(2, vi y2), (0, .ref 170), (1, vi y1)]) (st2 := [vi 61, vi (t 171 ((ipl y2 1).toNat))]) 1 (fun _ _ => rfl) ?_
          by_cases h16 : t 171 ((ipl y2 1).toNat) ≠ 61
          · refine mq_t h16 ?_
            refine pr_if2t rfl rfl (i32_b h13) (i32_n rfl) h16 ?_
            refine pr_n (pc2 := 101) (lv2 := [(2, vi y2), (0, .ref 170), (1, vi y1)]) (st2 := [vi 1]) 2 (fun _ _ => rfl) ?_
            refine pr_end (fun _ _ => rfl) ?_
            exact .inl ⟨_, 1, _, rfl, ⟨rfl, (by decide)⟩, rfl, hE⟩
          · refine mq_f h16 ?_
            refine pr_if2f rfl rfl (i32_b h13) (i32_n rfl) h16 ?_
            refine pr_n (pc2 := 87) (lv2 := [(2, vi y2), (0, .ref 170), (1, vi y1)]) (st2 := [vi 61, vi y1]) 2 (fun _ _ => rfl) ?_
            by_cases h17 : y1 = 61
            · refine mq_t h17 ?_
              refine pr_if2t rfl rfl hy1 (i32_n rfl) h17 ?_
              refine pr_n (pc2 := 101) (lv2 := [(2, vi y2), (0, .ref 170), (1, vi y1)]) (st2 := [vi 0]) 1 (fun _ _ => rfl) ?_
              refine pr_end (fun _ _ => rfl) ?_
              exact .inl ⟨_, 0, _, rfl, ⟨rfl, (by decide)⟩, rfl, hE⟩
            · refine mq_f h17 ?_
              refine pr_if2f rfl rfl hy1 (i32_n rfl) h17 ?_
              refine pr_n (pc2 := 93) (lv2 := [(2, vi y2), (0, .ref 170), (1, vi y1)]) (st2 := [vi 33, vi y1]) 2 (fun _ _ => rfl) ?_
              by_cases h18 : y1 = 33
              · refine mq_t h18 ?_
                refine pr_if2t rfl rfl hy1 (i32_n rfl) h18 ?_
                refine pr_n (pc2 := 101) (lv2 := [(2, vi y2), (0, .ref 170), (1, vi y1)]) (st2 := [vi 0]) 1 (fun _ _ => rfl) ?_
                refine pr_end (fun _ _ => rfl) ?_
                exact .inl ⟨_, 0, _, rfl, ⟨rfl, (by decide)⟩, rfl, hE⟩
              · refine mq_f h18 ?_
                refine pr_if2f rfl rfl hy1 (i32_n rfl) h18 ?_
                refine pr_n (pc2 := 101) (lv2 := [(2, vi y2), (0, .ref 170), (1, vi y1)]) (st2 := [vi 1]) 2 (fun _ _ => rfl) ?_
                refine pr_end (fun _ _ => rfl) ?_
                exact .inl ⟨_, 1, _, rfl, ⟨rfl, (by decide)⟩, rfl, hE⟩
      · refine mq_f h8 ?_
        refine pr_if2f rfl rfl (i32_b h5) hy1 h8 ?_
        refine pr_n (pc2 := 60) (lv2 := [(2, vi y2), (0, .ref 170), (1, vi y1)]) (st2 := [vi 0]) 1 (fun _ _ => rfl) ?_
        refine pr_end (fun _ _ => rfl) ?_
        exact .inl ⟨_, 0, _, rfl, ⟨rfl, (by decide)⟩, rfl, hE⟩
  · refine mq_f h2 ?_
    refine pr_if2f rfl rfl hy2 h1 h2 ?_
    refine pr_n (pc2 := 14) (lv2 := [(2, vi y2), (0, .ref 170), (1, vi y1)]) (st2 := [.ref 170]) 1 (fun _ _ => rfl) ?_
    refine pr_get (v := .ref 171) rfl rfl rfl (by decide) (rv_ref (hE.2.1 170 0 171 rfl)) fun _ => ?_
    refine pr_n (pc2 := 18) (lv2 := [(2, vi y2), (0, .ref 170), (1, vi y1)]) (st2 := [vi y2, .ref 171]) 1 (fun _ _ => rfl) ?_
    refine pr_aE (k2 := 171) (a := y2) (v := vi (t 171 y2.toNat)) hE rfl rfl rfl hy2 (by decide) rfl rfl rfl fun h20 h21 h19 => ?_
    have h19 : -128 ≤ t 171 y2.toNat ∧ t 171 y2.toNat ≤ 127 := h19
    refine pr_n (pc2 := 21) (lv2 := [(2, vi y2), (0, .ref 170), (1, vi y1)]) (st2 := [vi 32, vi (t 171 y2.toNat)]) 1 (fun _ _ => rfl) ?_
    by_cases h22 : t 171 y2.toNat = 32
    · refine mq_t h22 ?_
      refine pr_if2t rfl rfl (i32_b h19) (i32_n rfl) h22 ?_
      refine pr_inc (a := y2) rfl rfl ?_
      have h23 : i32 (y2 + 1) := by unfold i32 at *; omega
      show pr N2 K d tb_M148 38 [(2, vi (y2 + 1)), (0, .ref 170), (1, vi y1)] [] s _
      refine pr_n (pc2 := 5) (lv2 := [(2, vi (y2 + 1)), (0, .ref 170), (1, vi y1)]) (st2 := []) 1 (fun _ _ => rfl) ?_
      exact ((ih N2 hN2)) s t (y2 + 1) y1 hE h23 hy1
    · refine mq_f h22 ?_
      refine pr_if2f rfl rfl (i32_b h19) (i32_n rfl) h22 ?_
      refine pr_n (pc2 := 25) (lv2 := [(2, vi y2), (0, .ref 170), (1, vi y1)]) (st2 := [.ref 170]) 1 (fun _ _ => rfl) ?_
      refine pr_get (v := .ref 171) rfl rfl rfl (by decide) (rv_ref (hE.2.1 170 0 171 rfl)) fun _ => ?_
      refine pr_n (pc2 := 29) (lv2 := [(2, vi y2), (0, .ref 170), (1, vi y1)]) (st2 := [vi y2, .ref 171]) 1 (fun _ _ => rfl) ?_
      refine pr_aE (k2 := 171) (a := y2) (v := vi (t 171 y2.toNat)) hE rfl rfl rfl hy2 (by decide) rfl rfl rfl fun h25 h26 h24 => ?_
      have h24 : -128 ≤ t 171 y2.toNat ∧ t 171 y2.toNat ≤ 127 := h24
      refine pr_n (pc2 := 32) (lv2 := [(2, vi y2), (0, .ref 170), (1, vi y1)]) (st2 := [vi 10, vi (t 171 y2.toNat)]) 1 (fun _ _ => rfl) ?_
      by_cases h27 : t 171 y2.toNat ≠ 10
      · refine mq_t h27 ?_
        refine pr_if2t rfl rfl (i32_b h24) (i32_n rfl) h27 ?_
        refine pr_n (pc2 := 43) (lv2 := [(2, vi y2), (0, .ref 170), (1, vi y1)]) (st2 := [.ref 170, vi y2]) 2 (fun _ _ => rfl) ?_
        refine pr_gE (k2 := 170) (v := vi (t 170 2)) hE rfl rfl rfl (by decide) rfl rfl rfl fun h28 => ?_
        have h28 : i32 (t 170 2) := h28
        by_cases h29 : y2 = t 170 2
        · refine mq_t h29 ?_
          refine pr_if2t rfl rfl hy2 h28 h29 ?_
          refine pr_n (pc2 := 60) (lv2 := [(2, vi y2), (0, .ref 170), (1, vi y1)]) (st2 := [vi 0]) 1 (fun _ _ => rfl) ?_
          refine pr_end (fun _ _ => rfl) ?_
          exact .inl ⟨_, 0, _, rfl, ⟨rfl, (by decide)⟩, rfl, hE⟩
        · refine mq_f h29 ?_
          refine pr_if2f rfl rfl hy2 h28 h29 ?_
          refine pr_n (pc2 := 50) (lv2 := [(2, vi y2), (0, .ref 170), (1, vi y1)]) (st2 := [.ref 170]) 1 (fun _ _ => rfl) ?_
          refine pr_get (v := .ref 171) rfl rfl rfl (by decide) (rv_ref (hE.2.1 170 0 171 rfl)) fun _ => ?_
          refine pr_n (pc2 := 54) (lv2 := [(2, vi y2), (0, .ref 170), (1, vi y1)]) (st2 := [vi y2, .ref 171]) 1 (fun _ _ => rfl) ?_
          refine pr_aE (k2 := 171) (a := y2) (v := vi (t 171 y2.toNat)) hE rfl rfl rfl hy2 (by decide) rfl rfl rfl fun h31 h32 h30 => ?_
          have h30 : -128 ≤ t 171 y2.toNat ∧ t 171 y2.toNat ≤ 127 := h30
          refine pr_n (pc2 := 56) (lv2 := [(2, vi y2), (0, .ref 170), (1, vi y1)]) (st2 := [vi y1, vi (t 171 y2.toNat)]) 1 (fun _ _ => rfl) ?_
          by_cases h33 : t 171 y2.toNat = y1
          · refine mq_t h33 ?_
            refine pr_if2t rfl rfl (i32_b h30) hy1 h33 ?_
            refine pr_n (pc2 := 63) (lv2 := [(2, vi y2), (0, .ref 170), (1, vi y1)]) (st2 := [vi 1, vi y2]) 2 (fun _ _ => rfl) ?_
            refine pr_i2 (a := y2) (b := 1) rfl rfl ?_
            show pr N2 K d tb_M148 64 [(2, vi y2), (0, .ref 170), (1, vi y1)] [vi (ipl y2 1)] s _
            have h34 : i32 (ipl y2 1) := i32_in _
            refine pr_n (pc2 := 65) (lv2 := [(2, vi y2), (0, .ref 170), (1, vi y1)]) (st2 := [.ref 170, vi (ipl y2 1)]) 1 (fun _ _ => rfl) ?_
            refine pr_gE (k2 := 170) (v := vi (t 170 2)) hE rfl rfl rfl (by decide) rfl rfl rfl fun h35 => ?_
            have h35 : i32 (t 170 2) := h35
            by_cases h36 : ipl y2 1 = t 170 2
            · refine mq_t h36 ?_
              refine pr_if2t rfl rfl h34 h35 h36 ?_
              refine pr_n (pc2 := 101) (lv2 := [(2, vi y2), (0, .ref 170), (1, vi y1)]) (st2 := [vi 1]) 2 (fun _ _ => rfl) ?_
              refine pr_end (fun _ _ => rfl) ?_
              exact .inl ⟨_, 1, _, rfl, ⟨rfl, (by decide)⟩, rfl, hE⟩
            · refine mq_f h36 ?_
              refine pr_if2f rfl rfl h34 h35 h36 ?_
              refine pr_n (pc2 := 72) (lv2 := [(2, vi y2), (0, .ref 170), (1, vi y1)]) (st2 := [.ref 170]) 1 (fun _ _ => rfl) ?_
              refine pr_get (v := .ref 171) rfl rfl rfl (by decide) (rv_ref (hE.2.1 170 0 171 rfl)) fun _ => ?_
              refine pr_n (pc2 := 77) (lv2 := [(2, vi y2), (0, .ref 170), (1, vi y1)]) (st2 := [vi 1, vi y2, .ref 171]) 2 (fun _ _ => rfl) ?_
              refine pr_i2 (a := y2) (b := 1) rfl rfl ?_
              show pr N2 K d tb_M148 78 [(2, vi y2), (0, .ref 170), (1, vi y1)] [vi (ipl y2 1), .ref 171] s _
              refine pr_aE (k2 := 171) (a := ipl y2 1) (v := vi (t 171 ((ipl y2 1).toNat))) hE rfl rfl rfl h34 (by decide) rfl rfl rfl fun h39 h40 h38 => ?_
              have h38 : -128 ≤ t 171 ((ipl y2 1).toNat) ∧ t 171 ((ipl y2 1).toNat) ≤ 127 := h38
              refine pr_n (pc2 := 81) (lv2 := [(2, vi y2), (0, .ref 170), (1, vi y1)]) (st2 := [vi 61, vi (t 171 ((ipl y2 1).toNat))]) 1 (fun _ _ => rfl) ?_
              by_cases h41 : t 171 ((ipl y2 1).toNat) ≠ 61
              · refine mq_t h41 ?_
                refine pr_if2t rfl rfl (i32_b h38) (i32_n rfl) h41 ?_
                refine pr_n (pc2 := 101) (lv2 := [(2, vi y2), (0, .ref 170), (1, vi y1)]) (st2 := [vi 1]) 2 (fun _ _ => rfl) ?_
                refine pr_end (fun _ _ => rfl) ?_
                exact .inl ⟨_, 1, _, rfl, ⟨rfl, (by decide)⟩, rfl, hE⟩
              · refine mq_f h41 ?_
                refine pr_if2f rfl rfl (i32_b h38) (i32_n rfl) h41 ?_
                refine pr_n (pc2 := 87) (lv2 := [(2, vi y2), (0, .ref 170), (1, vi y1)]) (st2 := [vi 61, vi y1]) 2 (fun _ _ => rfl) ?_
                by_cases h42 : y1 = 61
                · refine mq_t h42 ?_
                  refine pr_if2t rfl rfl hy1 (i32_n rfl) h42 ?_
                  refine pr_n (pc2 := 101) (lv2 := [(2, vi y2), (0, .ref 170), (1, vi y1)]) (st2 := [vi 0]) 1 (fun _ _ => rfl) ?_
                  refine pr_end (fun _ _ => rfl) ?_
                  exact .inl ⟨_, 0, _, rfl, ⟨rfl, (by decide)⟩, rfl, hE⟩
                · refine mq_f h42 ?_
                  refine pr_if2f rfl rfl hy1 (i32_n rfl) h42 ?_
                  refine pr_n (pc2 := 93) (lv2 := [(2, vi y2), (0, .ref 170), (1, vi y1)]) (st2 := [vi 33, vi y1]) 2 (fun _ _ => rfl) ?_
                  by_cases h43 : y1 = 33
                  · refine mq_t h43 ?_
                    refine pr_if2t rfl rfl hy1 (i32_n rfl) h43 ?_
                    refine pr_n (pc2 := 101) (lv2 := [(2, vi y2), (0, .ref 170), (1, vi y1)]) (st2 := [vi 0]) 1 (fun _ _ => rfl) ?_
                    refine pr_end (fun _ _ => rfl) ?_
                    exact .inl ⟨_, 0, _, rfl, ⟨rfl, (by decide)⟩, rfl, hE⟩
                  · refine mq_f h43 ?_
                    refine pr_if2f rfl rfl hy1 (i32_n rfl) h43 ?_
                    refine pr_n (pc2 := 101) (lv2 := [(2, vi y2), (0, .ref 170), (1, vi y1)]) (st2 := [vi 1]) 2 (fun _ _ => rfl) ?_
                    refine pr_end (fun _ _ => rfl) ?_
                    exact .inl ⟨_, 1, _, rfl, ⟨rfl, (by decide)⟩, rfl, hE⟩
          · refine mq_f h33 ?_
            refine pr_if2f rfl rfl (i32_b h30) hy1 h33 ?_
            refine pr_n (pc2 := 60) (lv2 := [(2, vi y2), (0, .ref 170), (1, vi y1)]) (st2 := [vi 0]) 1 (fun _ _ => rfl) ?_
            refine pr_end (fun _ _ => rfl) ?_
            exact .inl ⟨_, 0, _, rfl, ⟨rfl, (by decide)⟩, rfl, hE⟩
      · refine mq_f h27 ?_
        refine pr_if2f rfl rfl (i32_b h24) (i32_n rfl) h27 ?_
        refine pr_inc (a := y2) rfl rfl ?_
        have h44 : i32 (y2 + 1) := by unfold i32 at *; omega
        show pr N2 K d tb_M148 38 [(2, vi (y2 + 1)), (0, .ref 170), (1, vi y1)] [] s _
        refine pr_n (pc2 := 5) (lv2 := [(2, vi (y2 + 1)), (0, .ref 170), (1, vi y1)]) (st2 := []) 1 (fun _ _ => rfl) ?_
        exact ((ih N2 hN2)) s t (y2 + 1) y1 hE h44 hy1
theorem ra148 {K d C : Nat} : ∀ N, rA148 N K d C := by
  intro N
  induction N using Nat.strongRecOn with | ind N ih => ?_
  exact ru148_0 ih
set_option maxHeartbeats 20000000 in
set_option maxRecDepth 100000 in
theorem rm148 {K d C : Nat} : rT148 K (d + 1) C := by
  intro s t x1 hE hx1
  have hC : C = 177 ∨ C = 186 := hE.1
  refine pcr_of (M := tb_M148) rfl ?_
  show pr K K d tb_M148 0 [(0, .ref 170), (1, vi x1)] [] s _
  rw [rG_148]
  unfold rM148
  refine pr_n (pc2 := 1) (lv2 := [(0, .ref 170), (1, vi x1)]) (st2 := [.ref 170]) 1 (fun _ _ => rfl) ?_
  refine pr_gE (k2 := 170) (v := vi (t 170 3)) hE rfl rfl rfl (by decide) rfl rfl rfl fun h1 => ?_
  have h1 : i32 (t 170 3) := h1
  refine pr_n (pc2 := 5) (lv2 := [(2, vi (t 170 3)), (0, .ref 170), (1, vi x1)]) (st2 := []) 1 (fun _ _ => rfl) ?_
  exact ((ra148 K)) s t (t 170 3) x1 hE h1 hx1
set_option maxHeartbeats 20000000 in
set_option maxRecDepth 100000 in
theorem rm151 {K d C : Nat} (h_127 : rT127 K d C) : rT151 K (d + 1) C := by
  intro s t  hE 
  have hC : C = 177 ∨ C = 186 := hE.1
  refine pcr_of (M := tb_M151) rfl ?_
  show pr K K d tb_M151 0 [(0, .ref 170)] [] s _
  rw [rG_151]
  unfold rM151
  refine pr_n (pc2 := 4) (lv2 := [(0, .ref 170)]) (st2 := [.ref 46, .ref 170]) 2 (fun _ _ => rfl) ?_
  refine pr_p1 (args := [.ref 46]) (rest := []) rfl rfl rfl rfl (Nat.le_of_ble_eq_true rfl) rfl (h_127 s t 46 hE isX_46) (fun z t3 => pu_127) ?_
  rintro _ z1 s1 ⟨rfl, hz1⟩ hX1 hE1
  show pr K K d tb_M151 7 [(0, .ref 170)] [vi z1] s1 _
  by_cases h2 : z1 = 0
  · refine mq_t h2 ?_
    refine pr_if1t rfl rfl (i32_z hz1) h2 ?_
    refine pr_n (pc2 := 16) (lv2 := [(0, .ref 170)]) (st2 := [.ref 48, .ref 170]) 2 (fun _ _ => rfl) ?_
    refine pr_p1 (args := [.ref 48]) (rest := []) rfl rfl rfl rfl (Nat.le_of_ble_eq_true rfl) rfl (h_127 s1 t 48 hE1 isX_48) (fun z t3 => pu_127) ?_
    rintro _ z3 s3 ⟨rfl, hz3⟩ hX3 hE3
    show pr K K d tb_M151 19 [(0, .ref 170)] [vi z3] s3 _
    by_cases h4 : z3 = 0
    · refine mq_t h4 ?_
      refine pr_if1t rfl rfl (i32_z hz3) h4 ?_
      refine pr_n (pc2 := 28) (lv2 := [(0, .ref 170)]) (st2 := [.ref 50, .ref 170]) 2 (fun _ _ => rfl) ?_
      refine pr_p1 (args := [.ref 50]) (rest := []) rfl rfl rfl rfl (Nat.le_of_ble_eq_true rfl) rfl (h_127 s3 t 50 hE3 isX_50) (fun z t3 => pu_127) ?_
      rintro _ z5 s5 ⟨rfl, hz5⟩ hX5 hE5
      show pr K K d tb_M151 31 [(0, .ref 170)] [vi z5] s5 _
      by_cases h6 : z5 = 0
      · refine mq_t h6 ?_
        refine pr_if1t rfl rfl (i32_z hz5) h6 ?_
        refine pr_n (pc2 := 40) (lv2 := [(0, .ref 170)]) (st2 := [.ref 52, .ref 170]) 2 (fun _ _ => rfl) ?_
        refine pr_p1 (args := [.ref 52]) (rest := []) rfl rfl rfl rfl (Nat.le_of_ble_eq_true rfl) rfl (h_127 s5 t 52 hE5 isX_52) (fun z t3 => pu_127) ?_
        rintro _ z7 s7 ⟨rfl, hz7⟩ hX7 hE7
        show pr K K d tb_M151 43 [(0, .ref 170)] [vi z7] s7 _
        by_cases h8 : z7 = 0
        · refine mq_t h8 ?_
          refine pr_if1t rfl rfl (i32_z hz7) h8 ?_
          refine pr_n (pc2 := 52) (lv2 := [(0, .ref 170)]) (st2 := [.ref 54, .ref 170]) 2 (fun _ _ => rfl) ?_
          refine pr_p1 (args := [.ref 54]) (rest := []) rfl rfl rfl rfl (Nat.le_of_ble_eq_true rfl) rfl (h_127 s7 t 54 hE7 isX_54) (fun z t3 => pu_127) ?_
          rintro _ z9 s9 ⟨rfl, hz9⟩ hX9 hE9
          show pr K K d tb_M151 55 [(0, .ref 170)] [vi z9] s9 _
          by_cases h10 : z9 = 0
          · refine mq_t h10 ?_
            refine pr_if1t rfl rfl (i32_z hz9) h10 ?_
            refine pr_n (pc2 := 64) (lv2 := [(0, .ref 170)]) (st2 := [.ref 56, .ref 170]) 2 (fun _ _ => rfl) ?_
            refine pr_p1 (args := [.ref 56]) (rest := []) rfl rfl rfl rfl (Nat.le_of_ble_eq_true rfl) rfl (h_127 s9 t 56 hE9 isX_56) (fun z t3 => pu_127) ?_
            rintro _ z11 s11 ⟨rfl, hz11⟩ hX11 hE11
            show pr K K d tb_M151 67 [(0, .ref 170)] [vi z11] s11 _
            by_cases h12 : z11 ≠ 0
            · refine mq_t h12 ?_
              refine pr_if1t rfl rfl (i32_z hz11) h12 ?_
              refine pr_n (pc2 := 81) (lv2 := [(0, .ref 170)]) (st2 := [vi 5]) 1 (fun _ _ => rfl) ?_
              refine pr_end (fun _ _ => rfl) ?_
              exact .inl ⟨_, 5, _, rfl, ⟨rfl, (i32_n rfl)⟩, rfl, hE11⟩
            · refine mq_f h12 ?_
              refine pr_if1f rfl rfl (i32_z hz11) h12 ?_
              refine pr_n (pc2 := 74) (lv2 := [(0, .ref 170)]) (st2 := [.ref 58, .ref 170]) 2 (fun _ _ => rfl) ?_
              refine pr_p1 (args := [.ref 58]) (rest := []) rfl rfl rfl rfl (Nat.le_of_ble_eq_true rfl) rfl (h_127 s11 t 58 hE11 isX_58) (fun z t3 => pu_127) ?_
              rintro _ z13 s13 ⟨rfl, hz13⟩ hX13 hE13
              show pr K K d tb_M151 77 [(0, .ref 170)] [vi z13] s13 _
              by_cases h14 : z13 = 0
              · refine mq_t h14 ?_
                refine pr_if1t rfl rfl (i32_z hz13) h14 ?_
                refine pr_n (pc2 := 86) (lv2 := [(0, .ref 170)]) (st2 := [.ref 60, .ref 170]) 2 (fun _ _ => rfl) ?_
                refine pr_p1 (args := [.ref 60]) (rest := []) rfl rfl rfl rfl (Nat.le_of_ble_eq_true rfl) rfl (h_127 s13 t 60 hE13 isX_60) (fun z t3 => pu_127) ?_
                rintro _ z15 s15 ⟨rfl, hz15⟩ hX15 hE15
                show pr K K d tb_M151 89 [(0, .ref 170)] [vi z15] s15 _
                by_cases h16 : z15 ≠ 0
                · refine mq_t h16 ?_
                  refine pr_if1t rfl rfl (i32_z hz15) h16 ?_
                  refine pr_n (pc2 := 124) (lv2 := [(0, .ref 170)]) (st2 := [vi 6]) 1 (fun _ _ => rfl) ?_
                  refine pr_end (fun _ _ => rfl) ?_
                  exact .inl ⟨_, 6, _, rfl, ⟨rfl, (i32_n rfl)⟩, rfl, hE15⟩
                · refine mq_f h16 ?_
                  refine pr_if1f rfl rfl (i32_z hz15) h16 ?_
                  refine pr_n (pc2 := 96) (lv2 := [(0, .ref 170)]) (st2 := [.ref 62, .ref 170]) 2 (fun _ _ => rfl) ?_
                  refine pr_p1 (args := [.ref 62]) (rest := []) rfl rfl rfl rfl (Nat.le_of_ble_eq_true rfl) rfl (h_127 s15 t 62 hE15 isX_62) (fun z t3 => pu_127) ?_
                  rintro _ z17 s17 ⟨rfl, hz17⟩ hX17 hE17
                  show pr K K d tb_M151 99 [(0, .ref 170)] [vi z17] s17 _
                  by_cases h18 : z17 ≠ 0
                  · refine mq_t h18 ?_
                    refine pr_if1t rfl rfl (i32_z hz17) h18 ?_
                    refine pr_n (pc2 := 124) (lv2 := [(0, .ref 170)]) (st2 := [vi 6]) 1 (fun _ _ => rfl) ?_
                    refine pr_end (fun _ _ => rfl) ?_
                    exact .inl ⟨_, 6, _, rfl, ⟨rfl, (i32_n rfl)⟩, rfl, hE17⟩
                  · refine mq_f h18 ?_
                    refine pr_if1f rfl rfl (i32_z hz17) h18 ?_
                    refine pr_n (pc2 := 106) (lv2 := [(0, .ref 170)]) (st2 := [.ref 64, .ref 170]) 2 (fun _ _ => rfl) ?_
                    refine pr_p1 (args := [.ref 64]) (rest := []) rfl rfl rfl rfl (Nat.le_of_ble_eq_true rfl) rfl (h_127 s17 t 64 hE17 isX_64) (fun z t3 => pu_127) ?_
                    rintro _ z19 s19 ⟨rfl, hz19⟩ hX19 hE19
                    show pr K K d tb_M151 109 [(0, .ref 170)] [vi z19] s19 _
                    by_cases h20 : z19 ≠ 0
                    · refine mq_t h20 ?_
                      refine pr_if1t rfl rfl (i32_z hz19) h20 ?_
                      refine pr_n (pc2 := 124) (lv2 := [(0, .ref 170)]) (st2 := [vi 6]) 1 (fun _ _ => rfl) ?_
                      refine pr_end (fun _ _ => rfl) ?_
                      exact .inl ⟨_, 6, _, rfl, ⟨rfl, (i32_n rfl)⟩, rfl, hE19⟩
                    · refine mq_f h20 ?_
                      refine pr_if1f rfl rfl (i32_z hz19) h20 ?_
                      refine pr_n (pc2 := 116) (lv2 := [(0, .ref 170)]) (st2 := [.ref 66, .ref 170]) 2 (fun _ _ => rfl) ?_
                      refine pr_p1 (args := [.ref 66]) (rest := []) rfl rfl rfl rfl (Nat.le_of_ble_eq_true rfl) rfl (h_127 s19 t 66 hE19 isX_66) (fun z t3 => pu_127) ?_
                      rintro _ z21 s21 ⟨rfl, hz21⟩ hX21 hE21
                      show pr K K d tb_M151 119 [(0, .ref 170)] [vi z21] s21 _
                      by_cases h22 : z21 = 0
                      · refine mq_t h22 ?_
                        refine pr_if1t rfl rfl (i32_z hz21) h22 ?_
                        refine pr_n (pc2 := 129) (lv2 := [(0, .ref 170)]) (st2 := [.ref 68, .ref 170]) 2 (fun _ _ => rfl) ?_
                        refine pr_p1 (args := [.ref 68]) (rest := []) rfl rfl rfl rfl (Nat.le_of_ble_eq_true rfl) rfl (h_127 s21 t 68 hE21 isX_68) (fun z t3 => pu_127) ?_
                        rintro _ z23 s23 ⟨rfl, hz23⟩ hX23 hE23
                        show pr K K d tb_M151 132 [(0, .ref 170)] [vi z23] s23 _
                        by_cases h24 : z23 ≠ 0
                        · refine mq_t h24 ?_
                          refine pr_if1t rfl rfl (i32_z hz23) h24 ?_
                          refine pr_n (pc2 := 147) (lv2 := [(0, .ref 170)]) (st2 := [vi 7]) 1 (fun _ _ => rfl) ?_
                          refine pr_end (fun _ _ => rfl) ?_
                          exact .inl ⟨_, 7, _, rfl, ⟨rfl, (i32_n rfl)⟩, rfl, hE23⟩
                        · refine mq_f h24 ?_
                          refine pr_if1f rfl rfl (i32_z hz23) h24 ?_
                          refine pr_n (pc2 := 139) (lv2 := [(0, .ref 170)]) (st2 := [.ref 70, .ref 170]) 2 (fun _ _ => rfl) ?_
                          refine pr_p1 (args := [.ref 70]) (rest := []) rfl rfl rfl rfl (Nat.le_of_ble_eq_true rfl) rfl (h_127 s23 t 70 hE23 isX_70) (fun z t3 => pu_127) ?_
                          rintro _ z25 s25 ⟨rfl, hz25⟩ hX25 hE25
                          show pr K K d tb_M151 142 [(0, .ref 170)] [vi z25] s25 _
                          by_cases h26 : z25 = 0
                          · refine mq_t h26 ?_
                            refine pr_if1t rfl rfl (i32_z hz25) h26 ?_
                            refine pr_n (pc2 := 152) (lv2 := [(0, .ref 170)]) (st2 := [.ref 72, .ref 170]) 2 (fun _ _ => rfl) ?_
                            refine pr_p1 (args := [.ref 72]) (rest := []) rfl rfl rfl rfl (Nat.le_of_ble_eq_true rfl) rfl (h_127 s25 t 72 hE25 isX_72) (fun z t3 => pu_127) ?_
                            rintro _ z27 s27 ⟨rfl, hz27⟩ hX27 hE27
                            show pr K K d tb_M151 155 [(0, .ref 170)] [vi z27] s27 _
                            by_cases h28 : z27 ≠ 0
                            · refine mq_t h28 ?_
                              refine pr_if1t rfl rfl (i32_z hz27) h28 ?_
                              refine pr_n (pc2 := 170) (lv2 := [(0, .ref 170)]) (st2 := [vi 8]) 1 (fun _ _ => rfl) ?_
                              refine pr_end (fun _ _ => rfl) ?_
                              exact .inl ⟨_, 8, _, rfl, ⟨rfl, (i32_n rfl)⟩, rfl, hE27⟩
                            · refine mq_f h28 ?_
                              refine pr_if1f rfl rfl (i32_z hz27) h28 ?_
                              refine pr_n (pc2 := 162) (lv2 := [(0, .ref 170)]) (st2 := [.ref 38, .ref 170]) 2 (fun _ _ => rfl) ?_
                              refine pr_p1 (args := [.ref 38]) (rest := []) rfl rfl rfl rfl (Nat.le_of_ble_eq_true rfl) rfl (h_127 s27 t 38 hE27 isX_38) (fun z t3 => pu_127) ?_
                              rintro _ z29 s29 ⟨rfl, hz29⟩ hX29 hE29
                              show pr K K d tb_M151 165 [(0, .ref 170)] [vi z29] s29 _
                              by_cases h30 : z29 = 0
                              · refine mq_t h30 ?_
                                refine pr_if1t rfl rfl (i32_z hz29) h30 ?_
                                refine pr_n (pc2 := 175) (lv2 := [(0, .ref 170)]) (st2 := [.ref 74, .ref 170]) 2 (fun _ _ => rfl) ?_
                                refine pr_p1 (args := [.ref 74]) (rest := []) rfl rfl rfl rfl (Nat.le_of_ble_eq_true rfl) rfl (h_127 s29 t 74 hE29 isX_74) (fun z t3 => pu_127) ?_
                                rintro _ z31 s31 ⟨rfl, hz31⟩ hX31 hE31
                                show pr K K d tb_M151 178 [(0, .ref 170)] [vi z31] s31 _
                                by_cases h32 : z31 ≠ 0
                                · refine mq_t h32 ?_
                                  refine pr_if1t rfl rfl (i32_z hz31) h32 ?_
                                  refine pr_n (pc2 := 207) (lv2 := [(0, .ref 170)]) (st2 := [vi 9]) 2 (fun _ _ => rfl) ?_
                                  refine pr_end (fun _ _ => rfl) ?_
                                  exact .inl ⟨_, 9, _, rfl, ⟨rfl, (i32_n rfl)⟩, rfl, hE31⟩
                                · refine mq_f h32 ?_
                                  refine pr_if1f rfl rfl (i32_z hz31) h32 ?_
                                  refine pr_n (pc2 := 185) (lv2 := [(0, .ref 170)]) (st2 := [.ref 76, .ref 170]) 2 (fun _ _ => rfl) ?_
                                  refine pr_p1 (args := [.ref 76]) (rest := []) rfl rfl rfl rfl (Nat.le_of_ble_eq_true rfl) rfl (h_127 s31 t 76 hE31 isX_76) (fun z t3 => pu_127) ?_
                                  rintro _ z33 s33 ⟨rfl, hz33⟩ hX33 hE33
                                  show pr K K d tb_M151 188 [(0, .ref 170)] [vi z33] s33 _
                                  by_cases h34 : z33 ≠ 0
                                  · refine mq_t h34 ?_
                                    refine pr_if1t rfl rfl (i32_z hz33) h34 ?_
                                    refine pr_n (pc2 := 207) (lv2 := [(0, .ref 170)]) (st2 := [vi 9]) 2 (fun _ _ => rfl) ?_
                                    refine pr_end (fun _ _ => rfl) ?_
                                    exact .inl ⟨_, 9, _, rfl, ⟨rfl, (i32_n rfl)⟩, rfl, hE33⟩
                                  · refine mq_f h34 ?_
                                    refine pr_if1f rfl rfl (i32_z hz33) h34 ?_
                                    refine pr_n (pc2 := 195) (lv2 := [(0, .ref 170)]) (st2 := [.ref 78, .ref 170]) 2 (fun _ _ => rfl) ?_
                                    refine pr_p1 (args := [.ref 78]) (rest := []) rfl rfl rfl rfl (Nat.le_of_ble_eq_true rfl) rfl (h_127 s33 t 78 hE33 isX_78) (fun z t3 => pu_127) ?_
                                    rintro _ z35 s35 ⟨rfl, hz35⟩ hX35 hE35
                                    show pr K K d tb_M151 198 [(0, .ref 170)] [vi z35] s35 _
                                    by_cases h36 : z35 = 0
                                    · refine mq_t h36 ?_
                                      refine pr_if1t rfl rfl (i32_z hz35) h36 ?_
                                      refine pr_n (pc2 := 207) (lv2 := [(0, .ref 170)]) (st2 := [vi ((-1))]) 1 (fun _ _ => rfl) ?_
                                      refine pr_end (fun _ _ => rfl) ?_
                                      exact .inl ⟨_, (-1), _, rfl, ⟨rfl, (i32_n rfl)⟩, rfl, hE35⟩
                                    · refine mq_f h36 ?_
                                      refine pr_if1f rfl rfl (i32_z hz35) h36 ?_
                                      refine pr_n (pc2 := 207) (lv2 := [(0, .ref 170)]) (st2 := [vi 9]) 2 (fun _ _ => rfl) ?_
                                      refine pr_end (fun _ _ => rfl) ?_
                                      exact .inl ⟨_, 9, _, rfl, ⟨rfl, (i32_n rfl)⟩, rfl, hE35⟩
                              · refine mq_f h30 ?_
                                refine pr_if1f rfl rfl (i32_z hz29) h30 ?_
                                refine pr_n (pc2 := 170) (lv2 := [(0, .ref 170)]) (st2 := [vi 8]) 1 (fun _ _ => rfl) ?_
                                refine pr_end (fun _ _ => rfl) ?_
                                exact .inl ⟨_, 8, _, rfl, ⟨rfl, (i32_n rfl)⟩, rfl, hE29⟩
                          · refine mq_f h26 ?_
                            refine pr_if1f rfl rfl (i32_z hz25) h26 ?_
                            refine pr_n (pc2 := 147) (lv2 := [(0, .ref 170)]) (st2 := [vi 7]) 1 (fun _ _ => rfl) ?_
                            refine pr_end (fun _ _ => rfl) ?_
                            exact .inl ⟨_, 7, _, rfl, ⟨rfl, (i32_n rfl)⟩, rfl, hE25⟩
                      · refine mq_f h22 ?_
                        refine pr_if1f rfl rfl (i32_z hz21) h22 ?_
                        refine pr_n (pc2 := 124) (lv2 := [(0, .ref 170)]) (st2 := [vi 6]) 1 (fun _ _ => rfl) ?_
                        refine pr_end (fun _ _ => rfl) ?_
                        exact .inl ⟨_, 6, _, rfl, ⟨rfl, (i32_n rfl)⟩, rfl, hE21⟩
              · refine mq_f h14 ?_
                refine pr_if1f rfl rfl (i32_z hz13) h14 ?_
                refine pr_n (pc2 := 81) (lv2 := [(0, .ref 170)]) (st2 := [vi 5]) 1 (fun _ _ => rfl) ?_
                refine pr_end (fun _ _ => rfl) ?_
                exact .inl ⟨_, 5, _, rfl, ⟨rfl, (i32_n rfl)⟩, rfl, hE13⟩
          · refine mq_f h10 ?_
            refine pr_if1f rfl rfl (i32_z hz9) h10 ?_
            refine pr_n (pc2 := 59) (lv2 := [(0, .ref 170)]) (st2 := [vi 4]) 1 (fun _ _ => rfl) ?_
            refine pr_end (fun _ _ => rfl) ?_
            exact .inl ⟨_, 4, _, rfl, ⟨rfl, (i32_n rfl)⟩, rfl, hE9⟩
        · refine mq_f h8 ?_
          refine pr_if1f rfl rfl (i32_z hz7) h8 ?_
          refine pr_n (pc2 := 47) (lv2 := [(0, .ref 170)]) (st2 := [vi 3]) 1 (fun _ _ => rfl) ?_
          refine pr_end (fun _ _ => rfl) ?_
          exact .inl ⟨_, 3, _, rfl, ⟨rfl, (i32_n rfl)⟩, rfl, hE7⟩
      · refine mq_f h6 ?_
        refine pr_if1f rfl rfl (i32_z hz5) h6 ?_
        refine pr_n (pc2 := 35) (lv2 := [(0, .ref 170)]) (st2 := [vi 2]) 1 (fun _ _ => rfl) ?_
        refine pr_end (fun _ _ => rfl) ?_
        exact .inl ⟨_, 2, _, rfl, ⟨rfl, (i32_n rfl)⟩, rfl, hE5⟩
    · refine mq_f h4 ?_
      refine pr_if1f rfl rfl (i32_z hz3) h4 ?_
      refine pr_n (pc2 := 23) (lv2 := [(0, .ref 170)]) (st2 := [vi 1]) 1 (fun _ _ => rfl) ?_
      refine pr_end (fun _ _ => rfl) ?_
      exact .inl ⟨_, 1, _, rfl, ⟨rfl, (i32_n rfl)⟩, rfl, hE3⟩
  · refine mq_f h2 ?_
    refine pr_if1f rfl rfl (i32_z hz1) h2 ?_
    refine pr_n (pc2 := 11) (lv2 := [(0, .ref 170)]) (st2 := [vi 0]) 1 (fun _ _ => rfl) ?_
    refine pr_end (fun _ _ => rfl) ?_
    exact .inl ⟨_, 0, _, rfl, ⟨rfl, (i32_n rfl)⟩, rfl, hE1⟩
set_option maxHeartbeats 20000000 in
set_option maxRecDepth 100000 in
theorem rm152 {K d C : Nat} : rT152 K (d + 1) C := by
  intro s t  hE 
  have hC : C = 177 ∨ C = 186 := hE.1
  refine pcr_of (M := tb_M152) rfl ?_
  show pr K K d tb_M152 0 [(0, .ref 170)] [] s _
  rw [rG_152]
  unfold rM152
  refine pr_n (pc2 := 1) (lv2 := [(0, .ref 170)]) (st2 := [.ref 170]) 1 (fun _ _ => rfl) ?_
  refine pr_get (v := .ref 171) rfl rfl rfl (by decide) (rv_ref (hE.2.1 170 0 171 rfl)) fun _ => ?_
  refine pr_n (pc2 := 5) (lv2 := [(0, .ref 170)]) (st2 := [.ref 170, .ref 171]) 1 (fun _ _ => rfl) ?_
  refine pr_gE (k2 := 170) (v := vi (t 170 5)) hE rfl rfl rfl (by decide) rfl rfl rfl fun h1 => ?_
  have h1 : i32 (t 170 5) := h1
  refine pr_aE (k2 := 171) (a := t 170 5) (v := vi (t 171 ((t 170 5).toNat))) hE rfl rfl rfl h1 (by decide) rfl rfl rfl fun h3 h4 h2 => ?_
  have h2 : -128 ≤ t 171 ((t 170 5).toNat) ∧ t 171 ((t 170 5).toNat) ≤ 127 := h2
  refine pr_n (pc2 := 11) (lv2 := [(1, vi (t 171 ((t 170 5).toNat))), (0, .ref 170)]) (st2 := [.ref 170]) 2 (fun _ _ => rfl) ?_
  refine pr_gE (k2 := 170) (v := vi (t 170 6)) hE rfl rfl rfl (by decide) rfl rfl rfl fun h5 => ?_
  have h5 : i32 (t 170 6) := h5
  refine pr_n (pc2 := 15) (lv2 := [(1, vi (t 171 ((t 170 5).toNat))), (0, .ref 170)]) (st2 := [.ref 170, vi (t 170 6)]) 1 (fun _ _ => rfl) ?_
  refine pr_gE (k2 := 170) (v := vi (t 170 5)) hE rfl rfl rfl (by decide) rfl rfl rfl fun h6 => ?_
  have h6 : i32 (t 170 5) := h6
  refine pr_i2 (a := t 170 6) (b := t 170 5) rfl rfl ?_
  show pr K K d tb_M152 19 [(1, vi (t 171 ((t 170 5).toNat))), (0, .ref 170)] [vi (imi (t 170 6) (t 170 5))] s _
  have h7 : i32 (imi (t 170 6) (t 170 5)) := i32_in _
  refine pr_n (pc2 := 20) (lv2 := [(1, vi (t 171 ((t 170 5).toNat))), (0, .ref 170)]) (st2 := [vi 1, vi (imi (t 170 6) (t 170 5))]) 1 (fun _ _ => rfl) ?_
  by_cases h8 : imi (t 170 6) (t 170 5) ≠ 1
  · refine mq_t h8 ?_
    refine pr_if2t rfl rfl h7 (i32_n rfl) h8 ?_
    refine pr_n (pc2 := 31) (lv2 := [(1, vi (t 171 ((t 170 5).toNat))), (0, .ref 170)]) (st2 := [.ref 170, vi 256]) 2 (fun _ _ => rfl) ?_
    refine pr_get (v := .ref 171) rfl rfl rfl (by decide) (rv_ref (hE.2.1 170 0 171 rfl)) fun _ => ?_
    refine pr_n (pc2 := 35) (lv2 := [(1, vi (t 171 ((t 170 5).toNat))), (0, .ref 170)]) (st2 := [.ref 170, .ref 171, vi 256]) 1 (fun _ _ => rfl) ?_
    refine pr_gE (k2 := 170) (v := vi (t 170 5)) hE rfl rfl rfl (by decide) rfl rfl rfl fun h9 => ?_
    have h9 : i32 (t 170 5) := h9
    refine pr_n (pc2 := 39) (lv2 := [(1, vi (t 171 ((t 170 5).toNat))), (0, .ref 170)]) (st2 := [vi 1, vi (t 170 5), .ref 171, vi 256]) 1 (fun _ _ => rfl) ?_
    refine pr_i2 (a := t 170 5) (b := 1) rfl rfl ?_
    show pr K K d tb_M152 40 [(1, vi (t 171 ((t 170 5).toNat))), (0, .ref 170)] [vi (ipl (t 170 5) 1), .ref 171, vi 256] s _
    have h10 : i32 (ipl (t 170 5) 1) := i32_in _
    refine pr_aE (k2 := 171) (a := ipl (t 170 5) 1) (v := vi (t 171 ((ipl (t 170 5) 1).toNat))) hE rfl rfl rfl h10 (by decide) rfl rfl rfl fun h12 h13 h11 => ?_
    have h11 : -128 ≤ t 171 ((ipl (t 170 5) 1).toNat) ∧ t 171 ((ipl (t 170 5) 1).toNat) ≤ 127 := h11
    refine pr_i2 (a := 256) (b := t 171 ((ipl (t 170 5) 1).toNat)) rfl rfl ?_
    show pr K K d tb_M152 42 [(1, vi (t 171 ((t 170 5).toNat))), (0, .ref 170)] [vi (imu 256 (t 171 ((ipl (t 170 5) 1).toNat)))] s _
    have h14 : i32 (imu 256 (t 171 ((ipl (t 170 5) 1).toNat))) := i32_in _
    refine pr_n (pc2 := 43) (lv2 := [(1, vi (t 171 ((t 170 5).toNat))), (0, .ref 170)]) (st2 := [vi (t 171 ((t 170 5).toNat)), vi (imu 256 (t 171 ((ipl (t 170 5) 1).toNat)))]) 1 (fun _ _ => rfl) ?_
    refine pr_i2 (a := imu 256 (t 171 ((ipl (t 170 5) 1).toNat))) (b := t 171 ((t 170 5).toNat)) rfl rfl ?_
    show pr K K d tb_M152 44 [(1, vi (t 171 ((t 170 5).toNat))), (0, .ref 170)] [vi (ipl (imu 256 (t 171 ((ipl (t 170 5) 1).toNat))) (t 171 ((t 170 5).toNat)))] s _
    have h15 : i32 (ipl (imu 256 (t 171 ((ipl (t 170 5) 1).toNat))) (t 171 ((t 170 5).toNat))) := i32_in _
    refine pr_reti rfl rfl ?_
    exact .inl ⟨_, ipl (imu 256 (t 171 ((ipl (t 170 5) 1).toNat))) (t 171 ((t 170 5).toNat)), _, rfl, ⟨rfl, h15⟩, rfl, hE⟩
  · refine mq_f h8 ?_
    refine pr_if2f rfl rfl h7 (i32_n rfl) h8 ?_
    refine pr_n (pc2 := 44) (lv2 := [(1, vi (t 171 ((t 170 5).toNat))), (0, .ref 170)]) (st2 := [vi (t 171 ((t 170 5).toNat))]) 2 (fun _ _ => rfl) ?_
    refine pr_reti rfl rfl ?_
    exact .inl ⟨_, t 171 ((t 170 5).toNat), _, rfl, ⟨rfl, (i32_b h2)⟩, rfl, hE⟩
set_option maxHeartbeats 20000000 in
set_option maxRecDepth 100000 in
theorem rm76 {K d C : Nat} : rT76 K (d + 1) C := by
  intro s t x0 hE hx0
  have hC : C = 177 ∨ C = 186 := hE.1
  refine pcr_of (M := tb_M76) rfl ?_
  show pr K K d tb_M76 0 [(0, vi x0)] [] s _
  rw [rG_76]
  unfold rM76
  refine pr_n (pc2 := 3) (lv2 := [(0, vi x0)]) (st2 := [vi 1, vi x0, vi x0]) 3 (fun _ _ => rfl) ?_
  refine pr_i2 (a := x0) (b := 1) rfl rfl ?_
  show pr K K d tb_M76 4 [(0, vi x0)] [vi (iur x0 1), vi x0] s _
  have h1 : i32 (iur x0 1) := i32_in _
  refine pr_n (pc2 := 7) (lv2 := [(0, vi x0)]) (st2 := [vi 1431655765, vi (iur x0 1), vi x0]) 1 (fun _ _ => rfl) ?_
  refine pr_i2 (a := iur x0 1) (b := 1431655765) rfl rfl ?_
  show pr K K d tb_M76 8 [(0, vi x0)] [vi (ian (iur x0 1) 1431655765), vi x0] s _
  have h2 : i32 (ian (iur x0 1) 1431655765) := i32_in _
  refine pr_i2 (a := x0) (b := ian (iur x0 1) 1431655765) rfl rfl ?_
  show pr K K d tb_M76 9 [(0, vi x0)] [vi (imi x0 (ian (iur x0 1) 1431655765))] s _
  have h3 : i32 (imi x0 (ian (iur x0 1) 1431655765)) := i32_in _
  refine pr_n (pc2 := 14) (lv2 := [(0, vi (imi x0 (ian (iur x0 1) 1431655765)))]) (st2 := [vi 858993459, vi (imi x0 (ian (iur x0 1) 1431655765))]) 3 (fun _ _ => rfl) ?_
  refine pr_i2 (a := imi x0 (ian (iur x0 1) 1431655765)) (b := 858993459) rfl rfl ?_
  show pr K K d tb_M76 15 [(0, vi (imi x0 (ian (iur x0 1) 1431655765)))] [vi (ian (imi x0 (ian (iur x0 1) 1431655765)) 858993459)] s _
  have h4 : i32 (ian (imi x0 (ian (iur x0 1) 1431655765)) 858993459) := i32_in _
  refine pr_n (pc2 := 17) (lv2 := [(0, vi (imi x0 (ian (iur x0 1) 1431655765)))]) (st2 := [vi 2, vi (imi x0 (ian (iur x0 1) 1431655765)), vi (ian (imi x0 (ian (iur x0 1) 1431655765)) 858993459)]) 2 (fun _ _ => rfl) ?_
  refine pr_i2 (a := imi x0 (ian (iur x0 1) 1431655765)) (b := 2) rfl rfl ?_
  show pr K K d tb_M76 18 [(0, vi (imi x0 (ian (iur x0 1) 1431655765)))] [vi (iur (imi x0 (ian (iur x0 1) 1431655765)) 2), vi (ian (imi x0 (ian (iur x0 1) 1431655765)) 858993459)] s _
  have h5 : i32 (iur (imi x0 (ian (iur x0 1) 1431655765)) 2) := i32_in _
  refine pr_n (pc2 := 21) (lv2 := [(0, vi (imi x0 (ian (iur x0 1) 1431655765)))]) (st2 := [vi 858993459, vi (iur (imi x0 (ian (iur x0 1) 1431655765)) 2), vi (ian (imi x0 (ian (iur x0 1) 1431655765)) 858993459)]) 1 (fun _ _ => rfl) ?_
  refine pr_i2 (a := iur (imi x0 (ian (iur x0 1) 1431655765)) 2) (b := 858993459) rfl rfl ?_
  show pr K K d tb_M76 22 [(0, vi (imi x0 (ian (iur x0 1) 1431655765)))] [vi (ian (iur (imi x0 (ian (iur x0 1) 1431655765)) 2) 858993459), vi (ian (imi x0 (ian (iur x0 1) 1431655765)) 858993459)] s _
  have h6 : i32 (ian (iur (imi x0 (ian (iur x0 1) 1431655765)) 2) 858993459) := i32_in _
  refine pr_i2 (a := ian (imi x0 (ian (iur x0 1) 1431655765)) 858993459) (b := ian (iur (imi x0 (ian (iur x0 1) 1431655765)) 2) 858993459) rfl rfl ?_
  show pr K K d tb_M76 23 [(0, vi (imi x0 (ian (iur x0 1) 1431655765)))] [vi (ipl (ian (imi x0 (ian (iur x0 1) 1431655765)) 858993459) (ian (iur (imi x0 (ian (iur x0 1) 1431655765)) 2) 858993459))] s _
  have h7 : i32 (ipl (ian (imi x0 (ian (iur x0 1) 1431655765)) 858993459) (ian (iur (imi x0 (ian (iur x0 1) 1431655765)) 2) 858993459)) := i32_in _
  refine pr_n (pc2 := 27) (lv2 := [(0, vi (ipl (ian (imi x0 (ian (iur x0 1) 1431655765)) 858993459) (ian (iur (imi x0 (ian (iur x0 1) 1431655765)) 2) 858993459)))]) (st2 := [vi 4, vi (ipl (ian (imi x0 (ian (iur x0 1) 1431655765)) 858993459) (ian (iur (imi x0 (ian (iur x0 1) 1431655765)) 2) 858993459)), vi (ipl (ian (imi x0 (ian (iur x0 1) 1431655765)) 858993459) (ian (iur (imi x0 (ian (iur x0 1) 1431655765)) 2) 858993459))]) 4 (fun _ _ => rfl) ?_
  refine pr_i2 (a := ipl (ian (imi x0 (ian (iur x0 1) 1431655765)) 858993459) (ian (iur (imi x0 (ian (iur x0 1) 1431655765)) 2) 858993459)) (b := 4) rfl rfl ?_
  show pr K K d tb_M76 28 [(0, vi (ipl (ian (imi x0 (ian (iur x0 1) 1431655765)) 858993459) (ian (iur (imi x0 (ian (iur x0 1) 1431655765)) 2) 858993459)))] [vi (iur (ipl (ian (imi x0 (ian (iur x0 1) 1431655765)) 858993459) (ian (iur (imi x0 (ian (iur x0 1) 1431655765)) 2) 858993459)) 4), vi (ipl (ian (imi x0 (ian (iur x0 1) 1431655765)) 858993459) (ian (iur (imi x0 (ian (iur x0 1) 1431655765)) 2) 858993459))] s _
  have h8 : i32 (iur (ipl (ian (imi x0 (ian (iur x0 1) 1431655765)) 858993459) (ian (iur (imi x0 (ian (iur x0 1) 1431655765)) 2) 858993459)) 4) := i32_in _
  refine pr_i2 (a := ipl (ian (imi x0 (ian (iur x0 1) 1431655765)) 858993459) (ian (iur (imi x0 (ian (iur x0 1) 1431655765)) 2) 858993459)) (b := iur (ipl (ian (imi x0 (ian (iur x0 1) 1431655765)) 858993459) (ian (iur (imi x0 (ian (iur x0 1) 1431655765)) 2) 858993459)) 4) rfl rfl ?_
  show pr K K d tb_M76 29 [(0, vi (ipl (ian (imi x0 (ian (iur x0 1) 1431655765)) 858993459) (ian (iur (imi x0 (ian (iur x0 1) 1431655765)) 2) 858993459)))] [vi (ipl (ipl (ian (imi x0 (ian (iur x0 1) 1431655765)) 858993459) (ian (iur (imi x0 (ian (iur x0 1) 1431655765)) 2) 858993459)) (iur (ipl (ian (imi x0 (ian (iur x0 1) 1431655765)) 858993459) (ian (iur (imi x0 (ian (iur x0 1) 1431655765)) 2) 858993459)) 4))] s _
  have h9 : i32 (ipl (ipl (ian (imi x0 (ian (iur x0 1) 1431655765)) 858993459) (ian (iur (imi x0 (ian (iur x0 1) 1431655765)) 2) 858993459)) (iur (ipl (ian (imi x0 (ian (iur x0 1) 1431655765)) 858993459) (ian (iur (imi x0 (ian (iur x0 1) 1431655765)) 2) 858993459)) 4)) := i32_in _
  refine pr_n (pc2 := 32) (lv2 := [(0, vi (ipl (ian (imi x0 (ian (iur x0 1) 1431655765)) 858993459) (ian (iur (imi x0 (ian (iur x0 1) 1431655765)) 2) 858993459)))]) (st2 := [vi 252645135, vi (ipl (ipl (ian (imi x0 (ian (iur x0 1) 1431655765)) 858993459) (ian (iur (imi x0 (ian (iur x0 1) 1431655765)) 2) 858993459)) (iur (ipl (ian (imi x0 (ian (iur x0 1) 1431655765)) 858993459) (ian (iur (imi x0 (ian (iur x0 1) 1431655765)) 2) 858993459)) 4))]) 1 (fun _ _ => rfl) ?_
  refine pr_i2 (a := ipl (ipl (ian (imi x0 (ian (iur x0 1) 1431655765)) 858993459) (ian (iur (imi x0 (ian (iur x0 1) 1431655765)) 2) 858993459)) (iur (ipl (ian (imi x0 (ian (iur x0 1) 1431655765)) 858993459) (ian (iur (imi x0 (ian (iur x0 1) 1431655765)) 2) 858993459)) 4)) (b := 252645135) rfl rfl ?_
  show pr K K d tb_M76 33 [(0, vi (ipl (ian (imi x0 (ian (iur x0 1) 1431655765)) 858993459) (ian (iur (imi x0 (ian (iur x0 1) 1431655765)) 2) 858993459)))] [vi (ian (ipl (ipl (ian (imi x0 (ian (iur x0 1) 1431655765)) 858993459) (ian (iur (imi x0 (ian (iur x0 1) 1431655765)) 2) 858993459)) (iur (ipl (ian (imi x0 (ian (iur x0 1) 1431655765)) 858993459) (ian (iur (imi x0 (ian (iur x0 1) 1431655765)) 2) 858993459)) 4)) 252645135)] s _
  have h10 : i32 (ian (ipl (ipl (ian (imi x0 (ian (iur x0 1) 1431655765)) 858993459) (ian (iur (imi x0 (ian (iur x0 1) 1431655765)) 2) 858993459)) (iur (ipl (ian (imi x0 (ian (iur x0 1) 1431655765)) 858993459) (ian (iur (imi x0 (ian (iur x0 1) 1431655765)) 2) 858993459)) 4)) 252645135) := i32_in _
  refine pr_n (pc2 := 38) (lv2 := [(0, vi (ian (ipl (ipl (ian (imi x0 (ian (iur x0 1) 1431655765)) 858993459) (ian (iur (imi x0 (ian (iur x0 1) 1431655765)) 2) 858993459)) (iur (ipl (ian (imi x0 (ian (iur x0 1) 1431655765)) 858993459) (ian (iur (imi x0 (ian (iur x0 1) 1431655765)) 2) 858993459)) 4)) 252645135))]) (st2 := [vi 8, vi (ian (ipl (ipl (ian (imi x0 (ian (iur x0 1) 1431655765)) 858993459) (ian (iur (imi x0 (ian (iur x0 1) 1431655765)) 2) 858993459)) (iur (ipl (ian (imi x0 (ian (iur x0 1) 1431655765)) 858993459) (ian (iur (imi x0 (ian (iur x0 1) 1431655765)) 2) 858993459)) 4)) 252645135), vi (ian (ipl (ipl (ian (imi x0 (ian (iur x0 1) 1431655765)) 858993459) (ian (iur (imi x0 (ian (iur x0 1) 1431655765)) 2) 858993459)) (iur (ipl (ian (imi x0 (ian (iur x0 1) 1431655765)) 858993459) (ian (iur (imi x0 (ian (iur x0 1) 1431655765)) 2) 858993459)) 4)) 252645135)]) 4 (fun _ _ => rfl) ?_
  refine pr_i2 (a := ian (ipl (ipl (ian (imi x0 (ian (iur x0 1) 1431655765)) 858993459) (ian (iur (imi x0 (ian (iur x0 1) 1431655765)) 2) 858993459)) (iur (ipl (ian (imi x0 (ian (iur x0 1) 1431655765)) 858993459) (ian (iur (imi x0 (ian (iur x0 1) 1431655765)) 2) 858993459)) 4)) 252645135) (b := 8) rfl rfl ?_
  show pr K K d tb_M76 39 [(0, vi (ian (ipl (ipl (ian (imi x0 (ian (iur x0 1) 1431655765)) 858993459) (ian (iur (imi x0 (ian (iur x0 1) 1431655765)) 2) 858993459)) (iur (ipl (ian (imi x0 (ian (iur x0 1) 1431655765)) 858993459) (ian (iur (imi x0 (ian (iur x0 1) 1431655765)) 2) 858993459)) 4)) 252645135))] [vi (iur (ian (ipl (ipl (ian (imi x0 (ian (iur x0 1) 1431655765)) 858993459) (ian (iur (imi x0 (ian (iur x0 1) 1431655765)) 2) 858993459)) (iur (ipl (ian (imi x0 (ian (iur x0 1) 1431655765)) 858993459) (ian (iur (imi x0 (ian (iur x0 1) 1431655765)) 2) 858993459)) 4)) 252645135) 8), vi (ian (ipl (ipl (ian (imi x0 (ian (iur x0 1) 1431655765)) 858993459) (ian (iur (imi x0 (ian (iur x0 1) 1431655765)) 2) 858993459)) (iur (ipl (ian (imi x0 (ian (iur x0 1) 1431655765)) 858993459) (ian (iur (imi x0 (ian (iur x0 1) 1431655765)) 2) 858993459)) 4)) 252645135)] s _
  have h11 : i32 (iur (ian (ipl (ipl (ian (imi x0 (ian (iur x0 1) 1431655765)) 858993459) (ian (iur (imi x0 (ian (iur x0 1) 1431655765)) 2) 858993459)) (iur (ipl (ian (imi x0 (ian (iur x0 1) 1431655765)) 858993459) (ian (iur (imi x0 (ian (iur x0 1) 1431655765)) 2) 858993459)) 4)) 252645135) 8) := i32_in _
  refine pr_i2 (a := ian (ipl (ipl (ian (imi x0 (ian (iur x0 1) 1431655765)) 858993459) (ian (iur (imi x0 (ian (iur x0 1) 1431655765)) 2) 858993459)) (iur (ipl (ian (imi x0 (ian (iur x0 1) 1431655765)) 858993459) (ian (iur (imi x0 (ian (iur x0 1) 1431655765)) 2) 858993459)) 4)) 252645135) (b := iur (ian (ipl (ipl (ian (imi x0 (ian (iur x0 1) 1431655765)) 858993459) (ian (iur (imi x0 (ian (iur x0 1) 1431655765)) 2) 858993459)) (iur (ipl (ian (imi x0 (ian (iur x0 1) 1431655765)) 858993459) (ian (iur (imi x0 (ian (iur x0 1) 1431655765)) 2) 858993459)) 4)) 252645135) 8) rfl rfl ?_
  show pr K K d tb_M76 40 [(0, vi (ian (ipl (ipl (ian (imi x0 (ian (iur x0 1) 1431655765)) 858993459) (ian (iur (imi x0 (ian (iur x0 1) 1431655765)) 2) 858993459)) (iur (ipl (ian (imi x0 (ian (iur x0 1) 1431655765)) 858993459) (ian (iur (imi x0 (ian (iur x0 1) 1431655765)) 2) 858993459)) 4)) 252645135))] [vi (ipl (ian (ipl (ipl (ian (imi x0 (ian (iur x0 1) 1431655765)) 858993459) (ian (iur (imi x0 (ian (iur x0 1) 1431655765)) 2) 858993459)) (iur (ipl (ian (imi x0 (ian (iur x0 1) 1431655765)) 858993459) (ian (iur (imi x0 (ian (iur x0 1) 1431655765)) 2) 858993459)) 4)) 252645135) (iur (ian (ipl (ipl (ian (imi x0 (ian (iur x0 1) 1431655765)) 858993459) (ian (iur (imi x0 (ian (iur x0 1) 1431655765)) 2) 858993459)) (iur (ipl (ian (imi x0 (ian (iur x0 1) 1431655765)) 858993459) (ian (iur (imi x0 (ian (iur x0 1) 1431655765)) 2) 858993459)) 4)) 252645135) 8))] s _
  have h12 : i32 (ipl (ian (ipl (ipl (ian (imi x0 (ian (iur x0 1) 1431655765)) 858993459) (ian (iur (imi x0 (ian (iur x0 1) 1431655765)) 2) 858993459)) (iur (ipl (ian (imi x0 (ian (iur x0 1) 1431655765)) 858993459) (ian (iur (imi x0 (ian (iur x0 1) 1431655765)) 2) 858993459)) 4)) 252645135) (iur (ian (ipl (ipl (ian (imi x0 (ian (iur x0 1) 1431655765)) 858993459) (ian (iur (imi x0 (ian (iur x0 1) 1431655765)) 2) 858993459)) (iur (ipl (ian (imi x0 (ian (iur x0 1) 1431655765)) 858993459) (ian (iur (imi x0 (ian (iur x0 1) 1431655765)) 2) 858993459)) 4)) 252645135) 8)) := i32_in _
  refine pr_n (pc2 := 45) (lv2 := [(0, vi (ipl (ian (ipl (ipl (ian (imi x0 (ian (iur x0 1) 1431655765)) 858993459) (ian (iur (imi x0 (ian (iur x0 1) 1431655765)) 2) 858993459)) (iur (ipl (ian (imi x0 (ian (iur x0 1) 1431655765)) 858993459) (ian (iur (imi x0 (ian (iur x0 1) 1431655765)) 2) 858993459)) 4)) 252645135) (iur (ian (ipl (ipl (ian (imi x0 (ian (iur x0 1) 1431655765)) 858993459) (ian (iur (imi x0 (ian (iur x0 1) 1431655765)) 2) 858993459)) (iur (ipl (ian (imi x0 (ian (iur x0 1) 1431655765)) 858993459) (ian (iur (imi x0 (ian (iur x0 1) 1431655765)) 2) 858993459)) 4)) 252645135) 8)))]) (st2 := [vi 16, vi (ipl (ian (ipl (ipl (ian (imi x0 (ian (iur x0 1) 1431655765)) 858993459) (ian (iur (imi x0 (ian (iur x0 1) 1431655765)) 2) 858993459)) (iur (ipl (ian (imi x0 (ian (iur x0 1) 1431655765)) 858993459) (ian (iur (imi x0 (ian (iur x0 1) 1431655765)) 2) 858993459)) 4)) 252645135) (iur (ian (ipl (ipl (ian (imi x0 (ian (iur x0 1) 1431655765)) 858993459) (ian (iur (imi x0 (ian (iur x0 1) 1431655765)) 2) 858993459)) (iur (ipl (ian (imi x0 (ian (iur x0 1) 1431655765)) 858993459) (ian (iur (imi x0 (ian (iur x0 1) 1431655765)) 2) 858993459)) 4)) 252645135) 8)), vi (ipl (ian (ipl (ipl (ian (imi x0 (ian (iur x0 1) 1431655765)) 858993459) (ian (iur (imi x0 (ian (iur x0 1) 1431655765)) 2) 858993459)) (iur (ipl (ian (imi x0 (ian (iur x0 1) 1431655765)) 858993459) (ian (iur (imi x0 (ian (iur x0 1) 1431655765)) 2) 858993459)) 4)) 252645135) (iur (ian (ipl (ipl (ian (imi x0 (ian (iur x0 1) 1431655765)) 858993459) (ian (iur (imi x0 (ian (iur x0 1) 1431655765)) 2) 858993459)) (iur (ipl (ian (imi x0 (ian (iur x0 1) 1431655765)) 858993459) (ian (iur (imi x0 (ian (iur x0 1) 1431655765)) 2) 858993459)) 4)) 252645135) 8))]) 4 (fun _ _ => rfl) ?_
  refine pr_i2 (a := ipl (ian (ipl (ipl (ian (imi x0 (ian (iur x0 1) 1431655765)) 858993459) (ian (iur (imi x0 (ian (iur x0 1) 1431655765)) 2) 858993459)) (iur (ipl (ian (imi x0 (ian (iur x0 1) 1431655765)) 858993459) (ian (iur (imi x0 (ian (iur x0 1) 1431655765)) 2) 858993459)) 4)) 252645135) (iur (ian (ipl (ipl (ian (imi x0 (ian (iur x0 1) 1431655765)) 858993459) (ian (iur (imi x0 (ian (iur x0 1) 1431655765)) 2) 858993459)) (iur (ipl (ian (imi x0 (ian (iur x0 1) 1431655765)) 858993459) (ian (iur (imi x0 (ian (iur x0 1) 1431655765)) 2) 858993459)) 4)) 252645135) 8)) (b := 16) rfl rfl ?_
  show pr K K d tb_M76 46 [(0, vi (ipl (ian (ipl (ipl (ian (imi x0 (ian (iur x0 1) 1431655765)) 858993459) (ian (iur (imi x0 (ian (iur x0 1) 1431655765)) 2) 858993459)) (iur (ipl (ian (imi x0 (ian (iur x0 1) 1431655765)) 858993459) (ian (iur (imi x0 (ian (iur x0 1) 1431655765)) 2) 858993459)) 4)) 252645135) (iur (ian (ipl (ipl (ian (imi x0 (ian (iur x0 1) 1431655765)) 858993459) (ian (iur (imi x0 (ian (iur x0 1) 1431655765)) 2) 858993459)) (iur (ipl (ian (imi x0 (ian (iur x0 1) 1431655765)) 858993459) (ian (iur (imi x0 (ian (iur x0 1) 1431655765)) 2) 858993459)) 4)) 252645135) 8)))] [vi (iur (ipl (ian (ipl (ipl (ian (imi x0 (ian (iur x0 1) 1431655765)) 858993459) (ian (iur (imi x0 (ian (iur x0 1) 1431655765)) 2) 858993459)) (iur (ipl (ian (imi x0 (ian (iur x0 1) 1431655765)) 858993459) (ian (iur (imi x0 (ian (iur x0 1) 1431655765)) 2) 858993459)) 4)) 252645135) (iur (ian (ipl (ipl (ian (imi x0 (ian (iur x0 1) 1431655765)) 858993459) (ian (iur (imi x0 (ian (iur x0 1) 1431655765)) 2) 858993459)) (iur (ipl (ian (imi x0 (ian (iur x0 1) 1431655765)) 858993459) (ian (iur (imi x0 (ian (iur x0 1) 1431655765)) 2) 858993459)) 4)) 252645135) 8)) 16), vi (ipl (ian (ipl (ipl (ian (imi x0 (ian (iur x0 1) 1431655765)) 858993459) (ian (iur (imi x0 (ian (iur x0 1) 1431655765)) 2) 858993459)) (iur (ipl (ian (imi x0 (ian (iur x0 1) 1431655765)) 858993459) (ian (iur (imi x0 (ian (iur x0 1) 1431655765)) 2) 858993459)) 4)) 252645135) (iur (ian (ipl (ipl (ian (imi x0 (ian (iur x0 1) 1431655765)) 858993459) (ian (iur (imi x0 (ian (iur x0 1) 1431655765)) 2) 858993459)) (iur (ipl (ian (imi x0 (ian (iur x0 1) 1431655765)) 858993459) (ian (iur (imi x0 (ian (iur x0 1) 1431655765)) 2) 858993459)) 4)) 252645135) 8))] s _
  have h13 : i32 (iur (ipl (ian (ipl (ipl (ian (imi x0 (ian (iur x0 1) 1431655765)) 858993459) (ian (iur (imi x0 (ian (iur x0 1) 1431655765)) 2) 858993459)) (iur (ipl (ian (imi x0 (ian (iur x0 1) 1431655765)) 858993459) (ian (iur (imi x0 (ian (iur x0 1) 1431655765)) 2) 858993459)) 4)) 252645135) (iur (ian (ipl (ipl (ian (imi x0 (ian (iur x0 1) 1431655765)) 858993459) (ian (iur (imi x0 (ian (iur x0 1) 1431655765)) 2) 858993459)) (iur (ipl (ian (imi x0 (ian (iur x0 1) 1431655765)) 858993459) (ian (iur (imi x0 (ian (iur x0 1) 1431655765)) 2) 858993459)) 4)) 252645135) 8)) 16) := i32_in _
  refine pr_i2 (a := ipl (ian (ipl (ipl (ian (imi x0 (ian (iur x0 1) 1431655765)) 858993459) (ian (iur (imi x0 (ian (iur x0 1) 1431655765)) 2) 858993459)) (iur (ipl (ian (imi x0 (ian (iur x0 1) 1431655765)) 858993459) (ian (iur (imi x0 (ian (iur x0 1) 1431655765)) 2) 858993459)) 4)) 252645135) (iur (ian (ipl (ipl (ian (imi x0 (ian (iur x0 1) 1431655765)) 858993459) (ian (iur (imi x0 (ian (iur x0 1) 1431655765)) 2) 858993459)) (iur (ipl (ian (imi x0 (ian (iur x0 1) 1431655765)) 858993459) (ian (iur (imi x0 (ian (iur x0 1) 1431655765)) 2) 858993459)) 4)) 252645135) 8)) (b := iur (ipl (ian (ipl (ipl (ian (imi x0 (ian (iur x0 1) 1431655765)) 858993459) (ian (iur (imi x0 (ian (iur x0 1) 1431655765)) 2) 858993459)) (iur (ipl (ian (imi x0 (ian (iur x0 1) 1431655765)) 858993459) (ian (iur (imi x0 (ian (iur x0 1) 1431655765)) 2) 858993459)) 4)) 252645135) (iur (ian (ipl (ipl (ian (imi x0 (ian (iur x0 1) 1431655765)) 858993459) (ian (iur (imi x0 (ian (iur x0 1) 1431655765)) 2) 858993459)) (iur (ipl (ian (imi x0 (ian (iur x0 1) 1431655765)) 858993459) (ian (iur (imi x0 (ian (iur x0 1) 1431655765)) 2) 858993459)) 4)) 252645135) 8)) 16) rfl rfl ?_
  show pr K K d tb_M76 47 [(0, vi (ipl (ian (ipl (ipl (ian (imi x0 (ian (iur x0 1) 1431655765)) 858993459) (ian (iur (imi x0 (ian (iur x0 1) 1431655765)) 2) 858993459)) (iur (ipl (ian (imi x0 (ian (iur x0 1) 1431655765)) 858993459) (ian (iur (imi x0 (ian (iur x0 1) 1431655765)) 2) 858993459)) 4)) 252645135) (iur (ian (ipl (ipl (ian (imi x0 (ian (iur x0 1) 1431655765)) 858993459) (ian (iur (imi x0 (ian (iur x0 1) 1431655765)) 2) 858993459)) (iur (ipl (ian (imi x0 (ian (iur x0 1) 1431655765)) 858993459) (ian (iur (imi x0 (ian (iur x0 1) 1431655765)) 2) 858993459)) 4)) 252645135) 8)))] [vi (ipl (ipl (ian (ipl (ipl (ian (imi x0 (ian (iur x0 1) 1431655765)) 858993459) (ian (iur (imi x0 (ian (iur x0 1) 1431655765)) 2) 858993459)) (iur (ipl (ian (imi x0 (ian (iur x0 1) 1431655765)) 858993459) (ian (iur (imi x0 (ian (iur x0 1) 1431655765)) 2) 858993459)) 4)) 252645135) (iur (ian (ipl (ipl (ian (imi x0 (ian (iur x0 1) 1431655765)) 858993459) (ian (iur (imi x0 (ian (iur x0 1) 1431655765)) 2) 858993459)) (iur (ipl (ian (imi x0 (ian (iur x0 1) 1431655765)) 858993459) (ian (iur (imi x0 (ian (iur x0 1) 1431655765)) 2) 858993459)) 4)) 252645135) 8)) (iur (ipl (ian (ipl (ipl (ian (imi x0 (ian (iur x0 1) 1431655765)) 858993459) (ian (iur (imi x0 (ian (iur x0 1) 1431655765)) 2) 858993459)) (iur (ipl (ian (imi x0 (ian (iur x0 1) 1431655765)) 858993459) (ian (iur (imi x0 (ian (iur x0 1) 1431655765)) 2) 858993459)) 4)) 252645135) (iur (ian (ipl (ipl (ian (imi x0 (ian (iur x0 1) 1431655765)) 858993459) (ian (iur (imi x0 (ian (iur x0 1) 1431655765)) 2) 858993459)) (iur (ipl (ian (imi x0 (ian (iur x0 1) 1431655765)) 858993459) (ian (iur (imi x0 (ian (iur x0 1) 1431655765)) 2) 858993459)) 4)) 252645135) 8)) 16))] s _
  have h14 : i32 (ipl (ipl (ian (ipl (ipl (ian (imi x0 (ian (iur x0 1) 1431655765)) 858993459) (ian (iur (imi x0 (ian (iur x0 1) 1431655765)) 2) 858993459)) (iur (ipl (ian (imi x0 (ian (iur x0 1) 1431655765)) 858993459) (ian (iur (imi x0 (ian (iur x0 1) 1431655765)) 2) 858993459)) 4)) 252645135) (iur (ian (ipl (ipl (ian (imi x0 (ian (iur x0 1) 1431655765)) 858993459) (ian (iur (imi x0 (ian (iur x0 1) 1431655765)) 2) 858993459)) (iur (ipl (ian (imi x0 (ian (iur x0 1) 1431655765)) 858993459) (ian (iur (imi x0 (ian (iur x0 1) 1431655765)) 2) 858993459)) 4)) 252645135) 8)) (iur (ipl (ian (ipl (ipl (ian (imi x0 (ian (iur x0 1) 1431655765)) 858993459) (ian (iur (imi x0 (ian (iur x0 1) 1431655765)) 2) 858993459)) (iur (ipl (ian (imi x0 (ian (iur x0 1) 1431655765)) 858993459) (ian (iur (imi x0 (ian (iur x0 1) 1431655765)) 2) 858993459)) 4)) 252645135) (iur (ian (ipl (ipl (ian (imi x0 (ian (iur x0 1) 1431655765)) 858993459) (ian (iur (imi x0 (ian (iur x0 1) 1431655765)) 2) 858993459)) (iur (ipl (ian (imi x0 (ian (iur x0 1) 1431655765)) 858993459) (ian (iur (imi x0 (ian (iur x0 1) 1431655765)) 2) 858993459)) 4)) 252645135) 8)) 16)) := i32_in _
  refine pr_n (pc2 := 51) (lv2 := [(0, vi (ipl (ipl (ian (ipl (ipl (ian (imi x0 (ian (iur x0 1) 1431655765)) 858993459) (ian (iur (imi x0 (ian (iur x0 1) 1431655765)) 2) 858993459)) (iur (ipl (ian (imi x0 (ian (iur x0 1) 1431655765)) 858993459) (ian (iur (imi x0 (ian (iur x0 1) 1431655765)) 2) 858993459)) 4)) 252645135) (iur (ian (ipl (ipl (ian (imi x0 (ian (iur x0 1) 1431655765)) 858993459) (ian (iur (imi x0 (ian (iur x0 1) 1431655765)) 2) 858993459)) (iur (ipl (ian (imi x0 (ian (iur x0 1) 1431655765)) 858993459) (ian (iur (imi x0 (ian (iur x0 1) 1431655765)) 2) 858993459)) 4)) 252645135) 8)) (iur (ipl (ian (ipl (ipl (ian (imi x0 (ian (iur x0 1) 1431655765)) 858993459) (ian (iur (imi x0 (ian (iur x0 1) 1431655765)) 2) 858993459)) (iur (ipl (ian (imi x0 (ian (iur x0 1) 1431655765)) 858993459) (ian (iur (imi x0 (ian (iur x0 1) 1431655765)) 2) 858993459)) 4)) 252645135) (iur (ian (ipl (ipl (ian (imi x0 (ian (iur x0 1) 1431655765)) 858993459) (ian (iur (imi x0 (ian (iur x0 1) 1431655765)) 2) 858993459)) (iur (ipl (ian (imi x0 (ian (iur x0 1) 1431655765)) 858993459) (ian (iur (imi x0 (ian (iur x0 1) 1431655765)) 2) 858993459)) 4)) 252645135) 8)) 16)))]) (st2 := [vi 63, vi (ipl (ipl (ian (ipl (ipl (ian (imi x0 (ian (iur x0 1) 1431655765)) 858993459) (ian (iur (imi x0 (ian (iur x0 1) 1431655765)) 2) 858993459)) (iur (ipl (ian (imi x0 (ian (iur x0 1) 1431655765)) 858993459) (ian (iur (imi x0 (ian (iur x0 1) 1431655765)) 2) 858993459)) 4)) 252645135) (iur (ian (ipl (ipl (ian (imi x0 (ian (iur x0 1) 1431655765)) 858993459) (ian (iur (imi x0 (ian (iur x0 1) 1431655765)) 2) 858993459)) (iur (ipl (ian (imi x0 (ian (iur x0 1) 1431655765)) 858993459) (ian (iur (imi x0 (ian (iur x0 1) 1431655765)) 2) 858993459)) 4)) 252645135) 8)) (iur (ipl (ian (ipl (ipl (ian (imi x0 (ian (iur x0 1) 1431655765)) 858993459) (ian (iur (imi x0 (ian (iur x0 1) 1431655765)) 2) 858993459)) (iur (ipl (ian (imi x0 (ian (iur x0 1) 1431655765)) 858993459) (ian (iur (imi x0 (ian (iur x0 1) 1431655765)) 2) 858993459)) 4)) 252645135) (iur (ian (ipl (ipl (ian (imi x0 (ian (iur x0 1) 1431655765)) 858993459) (ian (iur (imi x0 (ian (iur x0 1) 1431655765)) 2) 858993459)) (iur (ipl (ian (imi x0 (ian (iur x0 1) 1431655765)) 858993459) (ian (iur (imi x0 (ian (iur x0 1) 1431655765)) 2) 858993459)) 4)) 252645135) 8)) 16))]) 3 (fun _ _ => rfl) ?_
  refine pr_i2 (a := ipl (ipl (ian (ipl (ipl (ian (imi x0 (ian (iur x0 1) 1431655765)) 858993459) (ian (iur (imi x0 (ian (iur x0 1) 1431655765)) 2) 858993459)) (iur (ipl (ian (imi x0 (ian (iur x0 1) 1431655765)) 858993459) (ian (iur (imi x0 (ian (iur x0 1) 1431655765)) 2) 858993459)) 4)) 252645135) (iur (ian (ipl (ipl (ian (imi x0 (ian (iur x0 1) 1431655765)) 858993459) (ian (iur (imi x0 (ian (iur x0 1) 1431655765)) 2) 858993459)) (iur (ipl (ian (imi x0 (ian (iur x0 1) 1431655765)) 858993459) (ian (iur (imi x0 (ian (iur x0 1) 1431655765)) 2) 858993459)) 4)) 252645135) 8)) (iur (ipl (ian (ipl (ipl (ian (imi x0 (ian (iur x0 1) 1431655765)) 858993459) (ian (iur (imi x0 (ian (iur x0 1) 1431655765)) 2) 858993459)) (iur (ipl (ian (imi x0 (ian (iur x0 1) 1431655765)) 858993459) (ian (iur (imi x0 (ian (iur x0 1) 1431655765)) 2) 858993459)) 4)) 252645135) (iur (ian (ipl (ipl (ian (imi x0 (ian (iur x0 1) 1431655765)) 858993459) (ian (iur (imi x0 (ian (iur x0 1) 1431655765)) 2) 858993459)) (iur (ipl (ian (imi x0 (ian (iur x0 1) 1431655765)) 858993459) (ian (iur (imi x0 (ian (iur x0 1) 1431655765)) 2) 858993459)) 4)) 252645135) 8)) 16)) (b := 63) rfl rfl ?_
  show pr K K d tb_M76 52 [(0, vi (ipl (ipl (ian (ipl (ipl (ian (imi x0 (ian (iur x0 1) 1431655765)) 858993459) (ian (iur (imi x0 (ian (iur x0 1) 1431655765)) 2) 858993459)) (iur (ipl (ian (imi x0 (ian (iur x0 1) 1431655765)) 858993459) (ian (iur (imi x0 (ian (iur x0 1) 1431655765)) 2) 858993459)) 4)) 252645135) (iur (ian (ipl (ipl (ian (imi x0 (ian (iur x0 1) 1431655765)) 858993459) (ian (iur (imi x0 (ian (iur x0 1) 1431655765)) 2) 858993459)) (iur (ipl (ian (imi x0 (ian (iur x0 1) 1431655765)) 858993459) (ian (iur (imi x0 (ian (iur x0 1) 1431655765)) 2) 858993459)) 4)) 252645135) 8)) (iur (ipl (ian (ipl (ipl (ian (imi x0 (ian (iur x0 1) 1431655765)) 858993459) (ian (iur (imi x0 (ian (iur x0 1) 1431655765)) 2) 858993459)) (iur (ipl (ian (imi x0 (ian (iur x0 1) 1431655765)) 858993459) (ian (iur (imi x0 (ian (iur x0 1) 1431655765)) 2) 858993459)) 4)) 252645135) (iur (ian (ipl (ipl (ian (imi x0 (ian (iur x0 1) 1431655765)) 858993459) (ian (iur (imi x0 (ian (iur x0 1) 1431655765)) 2) 858993459)) (iur (ipl (ian (imi x0 (ian (iur x0 1) 1431655765)) 858993459) (ian (iur (imi x0 (ian (iur x0 1) 1431655765)) 2) 858993459)) 4)) 252645135) 8)) 16)))] [vi (ian (ipl (ipl (ian (ipl (ipl (ian (imi x0 (ian (iur x0 1) 1431655765)) 858993459) (ian (iur (imi x0 (ian (iur x0 1) 1431655765)) 2) 858993459)) (iur (ipl (ian (imi x0 (ian (iur x0 1) 1431655765)) 858993459) (ian (iur (imi x0 (ian (iur x0 1) 1431655765)) 2) 858993459)) 4)) 252645135) (iur (ian (ipl (ipl (ian (imi x0 (ian (iur x0 1) 1431655765)) 858993459) (ian (iur (imi x0 (ian (iur x0 1) 1431655765)) 2) 858993459)) (iur (ipl (ian (imi x0 (ian (iur x0 1) 1431655765)) 858993459) (ian (iur (imi x0 (ian (iur x0 1) 1431655765)) 2) 858993459)) 4)) 252645135) 8)) (iur (ipl (ian (ipl (ipl (ian (imi x0 (ian (iur x0 1) 1431655765)) 858993459) (ian (iur (imi x0 (ian (iur x0 1) 1431655765)) 2) 858993459)) (iur (ipl (ian (imi x0 (ian (iur x0 1) 1431655765)) 858993459) (ian (iur (imi x0 (ian (iur x0 1) 1431655765)) 2) 858993459)) 4)) 252645135) (iur (ian (ipl (ipl (ian (imi x0 (ian (iur x0 1) 1431655765)) 858993459) (ian (iur (imi x0 (ian (iur x0 1) 1431655765)) 2) 858993459)) (iur (ipl (ian (imi x0 (ian (iur x0 1) 1431655765)) 858993459) (ian (iur (imi x0 (ian (iur x0 1) 1431655765)) 2) 858993459)) 4)) 252645135) 8)) 16)) 63)] s _
  have h15 : i32 (ian (ipl (ipl (ian (ipl (ipl (ian (imi x0 (ian (iur x0 1) 1431655765)) 858993459) (ian (iur (imi x0 (ian (iur x0 1) 1431655765)) 2) 858993459)) (iur (ipl (ian (imi x0 (ian (iur x0 1) 1431655765)) 858993459) (ian (iur (imi x0 (ian (iur x0 1) 1431655765)) 2) 858993459)) 4)) 252645135) (iur (ian (ipl (ipl (ian (imi x0 (ian (iur x0 1) 1431655765)) 858993459) (ian (iur (imi x0 (ian (iur x0 1) 1431655765)) 2) 858993459)) (iur (ipl (ian (imi x0 (ian (iur x0 1) 1431655765)) 858993459) (ian (iur (imi x0 (ian (iur x0 1) 1431655765)) 2) 858993459)) 4)) 252645135) 8)) (iur (ipl (ian (ipl (ipl (ian (imi x0 (ian (iur x0 1) 1431655765)) 858993459) (ian (iur (imi x0 (ian (iur x0 1) 1431655765)) 2) 858993459)) (iur (ipl (ian (imi x0 (ian (iur x0 1) 1431655765)) 858993459) (ian (iur (imi x0 (ian (iur x0 1) 1431655765)) 2) 858993459)) 4)) 252645135) (iur (ian (ipl (ipl (ian (imi x0 (ian (iur x0 1) 1431655765)) 858993459) (ian (iur (imi x0 (ian (iur x0 1) 1431655765)) 2) 858993459)) (iur (ipl (ian (imi x0 (ian (iur x0 1) 1431655765)) 858993459) (ian (iur (imi x0 (ian (iur x0 1) 1431655765)) 2) 858993459)) 4)) 252645135) 8)) 16)) 63) := i32_in _
  refine pr_reti rfl rfl ?_
  exact .inl ⟨_, ian (ipl (ipl (ian (ipl (ipl (ian (imi x0 (ian (iur x0 1) 1431655765)) 858993459) (ian (iur (imi x0 (ian (iur x0 1) 1431655765)) 2) 858993459)) (iur (ipl (ian (imi x0 (ian (iur x0 1) 1431655765)) 858993459) (ian (iur (imi x0 (ian (iur x0 1) 1431655765)) 2) 858993459)) 4)) 252645135) (iur (ian (ipl (ipl (ian (imi x0 (ian (iur x0 1) 1431655765)) 858993459) (ian (iur (imi x0 (ian (iur x0 1) 1431655765)) 2) 858993459)) (iur (ipl (ian (imi x0 (ian (iur x0 1) 1431655765)) 858993459) (ian (iur (imi x0 (ian (iur x0 1) 1431655765)) 2) 858993459)) 4)) 252645135) 8)) (iur (ipl (ian (ipl (ipl (ian (imi x0 (ian (iur x0 1) 1431655765)) 858993459) (ian (iur (imi x0 (ian (iur x0 1) 1431655765)) 2) 858993459)) (iur (ipl (ian (imi x0 (ian (iur x0 1) 1431655765)) 858993459) (ian (iur (imi x0 (ian (iur x0 1) 1431655765)) 2) 858993459)) 4)) 252645135) (iur (ian (ipl (ipl (ian (imi x0 (ian (iur x0 1) 1431655765)) 858993459) (ian (iur (imi x0 (ian (iur x0 1) 1431655765)) 2) 858993459)) (iur (ipl (ian (imi x0 (ian (iur x0 1) 1431655765)) 858993459) (ian (iur (imi x0 (ian (iur x0 1) 1431655765)) 2) 858993459)) 4)) 252645135) 8)) 16)) 63, _, rfl, ⟨rfl, h15⟩, rfl, hE⟩
