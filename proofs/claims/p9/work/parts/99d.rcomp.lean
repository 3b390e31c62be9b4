/-! The methods are as their models. -/
set_option maxHeartbeats 20000000 in
set_option maxRecDepth 100000 in
theorem ru144_0 {N K d C : Nat} (h_123 : rT123 K d C) (h_142 : rT142 K d C) (h_144 : rT144 K d C) (h_145 : rT145 K d C) (h_147 : rT147 K d C) (h_151 : rT151 K d C) (h_152 : rT152 K d C) (ih : ∀ N2, N2 < N → rA144 N2 K d C) : rU144_0 N K d C := by
  intro s t y1 y2 hE hy1 hy2
  have hC : C = 177 ∨ C = 186 := hE.1
  rw [rG_144_25]
  unfold rM144_25
  refine pr_lt (pc2 := 26) (lv2 := [(0, .ref 170), (1, vi y1), (2, vi y2)]) (st2 := [.ref 170]) (fun _ _ => rfl) fun N2 hN2 => ?_
  refine pr_p1 (args := []) (rest := []) rfl rfl rfl rfl (Nat.le_of_ble_eq_true rfl) rfl (h_151 s t  hE ) (fun z t3 => pu_151) ?_
  rintro _ z1 s1 ⟨rfl, hz1⟩ hX1 hE1
  show pr N2 K d tb_M144 29 [(0, .ref 170), (1, vi y1), (2, vi y2)] [vi z1] s1 _
  refine pr_n (pc2 := 30) (lv2 := [(0, .ref 170), (1, vi y1), (2, vi y2)]) (st2 := [vi y1, vi z1]) 1 (fun _ _ => rfl) ?_
  by_cases h2 : z1 ≠ y1
  · refine mq_t h2 ?_
    refine pr_if2t rfl rfl hz1 hy1 h2 ?_
    refine pr_n (pc2 := 70) (lv2 := [(0, .ref 170), (1, vi y1), (2, vi y2)]) (st2 := [vi 1]) 1 (fun _ _ => rfl) ?_
    refine pr_end (fun _ _ => rfl) ?_
    exact .inl ⟨_, 1, _, rfl, ⟨rfl, (by decide)⟩, rfl, hE1⟩
  · refine mq_f h2 ?_
    refine pr_if2f rfl rfl hz1 hy1 h2 ?_
    refine pr_n (pc2 := 34) (lv2 := [(0, .ref 170), (1, vi y1), (2, vi y2)]) (st2 := [.ref 170]) 1 (fun _ _ => rfl) ?_
    refine pr_s1 (args := []) (rest := []) rfl rfl rfl rfl (Nat.le_of_ble_eq_true rfl) rfl (h_152 s1 t  hE1 ) q_sgo ?_
    rintro _ s3 ⟨rfl, hz3⟩ hE3
    show pr N2 K d tb_M144 37 [(0, .ref 170), (1, vi y1), (2, vi y2)] [vi (sgo t)] s3 _
    refine pr_n (pc2 := 39) (lv2 := [(3, vi (sgo t)), (0, .ref 170), (1, vi y1), (2, vi y2)]) (st2 := [.ref 170]) 2 (fun _ _ => rfl) ?_
    refine pr_m1 (args := []) (rest := []) rfl rfl rfl rfl (Nat.le_of_ble_eq_true rfl) rfl (h_123 s3 t  hE3 ) ?_
    rintro _ _ t4 s4 ⟨rfl, rfl⟩ hE4
    show pr N2 K d tb_M144 42 [(3, vi (sgo t)), (0, .ref 170), (1, vi y1), (2, vi y2)] [] s4 _
    refine pr_n (pc2 := 45) (lv2 := [(3, vi (sgo t)), (0, .ref 170), (1, vi y1), (2, vi y2)]) (st2 := [vi 1, vi y1, .ref 170]) 3 (fun _ _ => rfl) ?_
    refine pr_i2 (a := y1) (b := 1) rfl rfl ?_
    show pr N2 K d tb_M144 46 [(3, vi (sgo t)), (0, .ref 170), (1, vi y1), (2, vi y2)] [vi (ipl y1 1), .ref 170] s4 _
    have h5 : i32 (ipl y1 1) := i32_in _
    refine pr_n (pc2 := 47) (lv2 := [(3, vi (sgo t)), (0, .ref 170), (1, vi y1), (2, vi y2)]) (st2 := [vi y2, vi (ipl y1 1), .ref 170]) 1 (fun _ _ => rfl) ?_
    refine pr_m1 (args := [vi (ipl y1 1), vi y2]) (rest := []) rfl rfl rfl rfl (Nat.le_of_ble_eq_true rfl) rfl (h_144 s4 t4 (ipl y1 1) y2 hE4 h5 hy2) ?_
    rintro _ z6 t6 s6 ⟨rfl, hz6⟩ hE6
    show pr N2 K d tb_M144 50 [(3, vi (sgo t)), (0, .ref 170), (1, vi y1), (2, vi y2)] [vi z6] s6 _
    by_cases h7 : z6 ≠ 0
    · refine mq_t h7 ?_
      refine pr_if1t rfl rfl (i32_z hz6) h7 ?_
      refine pr_n (pc2 := 56) (lv2 := [(3, vi (sgo t)), (0, .ref 170), (1, vi y1), (2, vi y2)]) (st2 := [.ref 170]) 1 (fun _ _ => rfl) ?_
      refine pr_s1 (args := []) (rest := []) rfl rfl rfl rfl (Nat.le_of_ble_eq_true rfl) rfl (h_142 s6 t6  hE6 ) q_prt ?_
      rintro _ s8 ⟨rfl, _⟩ hE8
      show pr N2 K d tb_M144 59 [(3, vi (sgo t)), (0, .ref 170), (1, vi y1), (2, vi y2)] [] s8 _
      refine pr_n (pc2 := 63) (lv2 := [(3, vi (sgo t)), (0, .ref 170), (1, vi y1), (2, vi y2)]) (st2 := [vi (sgo t), vi 7, .ref 170]) 3 (fun _ _ => rfl) ?_
      refine pr_s1 (args := [vi 7, vi (sgo t)]) (rest := []) rfl rfl rfl rfl (Nat.le_of_ble_eq_true rfl) rfl (h_147 s8 ((prt t6)) 7 (sgo t) hE8 (i32_n rfl) hz3) q_pt2 ?_
      rintro _ s9 ⟨rfl, _⟩ hE9
      show pr N2 K d tb_M144 66 [(3, vi (sgo t)), (0, .ref 170), (1, vi y1), (2, vi y2)] [] s9 _
      refine pr_n (pc2 := 25) (lv2 := [(3, vi (sgo t)), (0, .ref 170), (1, vi y1), (2, vi y2)]) (st2 := []) 1 (fun _ _ => rfl) ?_
      exact ((ih N2 hN2).2) s9 ((pt2 ((prt t6)) 7 (sgo t))) (sgo t) y1 y2 hE9 hz3 hy1 hy2
    · refine mq_f h7 ?_
      refine pr_if1f rfl rfl (i32_z hz6) h7 ?_
      refine pr_n (pc2 := 54) (lv2 := [(3, vi (sgo t)), (0, .ref 170), (1, vi y1), (2, vi y2)]) (st2 := [vi 0]) 1 (fun _ _ => rfl) ?_
      refine pr_end (fun _ _ => rfl) ?_
      exact .inl ⟨_, 0, _, rfl, ⟨rfl, (by decide)⟩, rfl, hE6⟩
set_option maxHeartbeats 20000000 in
set_option maxRecDepth 100000 in
theorem ru144_1 {N K d C : Nat} (h_123 : rT123 K d C) (h_142 : rT142 K d C) (h_144 : rT144 K d C) (h_145 : rT145 K d C) (h_147 : rT147 K d C) (h_151 : rT151 K d C) (h_152 : rT152 K d C) (ih : ∀ N2, N2 < N → rA144 N2 K d C) : rU144_1 N K d C := by
  intro s t y3 y1 y2 hE hy3 hy1 hy2
  have hC : C = 177 ∨ C = 186 := hE.1
  rw [rG_144_25]
  unfold rM144_25
  refine pr_lt (pc2 := 26) (lv2 := [(3, vi y3), (0, .ref 170), (1, vi y1), (2, vi y2)]) (st2 := [.ref 170]) (fun _ _ => rfl) fun N2 hN2 => ?_
  refine pr_p1 (args := []) (rest := []) rfl rfl rfl rfl (Nat.le_of_ble_eq_true rfl) rfl (h_151 s t  hE ) (fun z t3 => pu_151) ?_
  rintro _ z1 s1 ⟨rfl, hz1⟩ hX1 hE1
  show pr N2 K d tb_M144 29 [(3, vi y3), (0, .ref 170), (1, vi y1), (2, vi y2)] [vi z1] s1 _
  refine pr_n (pc2 := 30) (lv2 := [(3, vi y3), (0, .ref 170), (1, vi y1), (2, vi y2)]) (st2 := [vi y1, vi z1]) 1 (fun _ _ => rfl) ?_
  by_cases h2 : z1 ≠ y1
  · refine mq_t h2 ?_
    refine pr_if2t rfl rfl hz1 hy1 h2 ?_
    refine pr_n (pc2 := 70) (lv2 := [(3, vi y3), (0, .ref 170), (1, vi y1), (2, vi y2)]) (st2 := [vi 1]) 1 (fun _ _ => rfl) ?_
    refine pr_end (fun _ _ => rfl) ?_
    exact .inl ⟨_, 1, _, rfl, ⟨rfl, (by decide)⟩, rfl, hE1⟩
  · refine mq_f h2 ?_
    refine pr_if2f rfl rfl hz1 hy1 h2 ?_
    refine pr_n (pc2 := 34) (lv2 := [(3, vi y3), (0, .ref 170), (1, vi y1), (2, vi y2)]) (st2 := [.ref 170]) 1 (fun _ _ => rfl) ?_
    refine pr_s1 (args := []) (rest := []) rfl rfl rfl rfl (Nat.le_of_ble_eq_true rfl) rfl (h_152 s1 t  hE1 ) q_sgo ?_
    rintro _ s3 ⟨rfl, hz3⟩ hE3
    show pr N2 K d tb_M144 37 [(3, vi y3), (0, .ref 170), (1, vi y1), (2, vi y2)] [vi (sgo t)] s3 _
    refine pr_n (pc2 := 39) (lv2 := [(3, vi (sgo t)), (0, .ref 170), (1, vi y1), (2, vi y2)]) (st2 := [.ref 170]) 2 (fun _ _ => rfl) ?_
    refine pr_m1 (args := []) (rest := []) rfl rfl rfl rfl (Nat.le_of_ble_eq_true rfl) rfl (h_123 s3 t  hE3 ) ?_
    rintro _ _ t4 s4 ⟨rfl, rfl⟩ hE4
    show pr N2 K d tb_M144 42 [(3, vi (sgo t)), (0, .ref 170), (1, vi y1), (2, vi y2)] [] s4 _
    refine pr_n (pc2 := 45) (lv2 := [(3, vi (sgo t)), (0, .ref 170), (1, vi y1), (2, vi y2)]) (st2 := [vi 1, vi y1, .ref 170]) 3 (fun _ _ => rfl) ?_
    refine pr_i2 (a := y1) (b := 1) rfl rfl ?_
    show pr N2 K d tb_M144 46 [(3, vi (sgo t)), (0, .ref 170), (1, vi y1), (2, vi y2)] [vi (ipl y1 1), .ref 170] s4 _
    have h5 : i32 (ipl y1 1) := i32_in _
    refine pr_n (pc2 := 47) (lv2 := [(3, vi (sgo t)), (0, .ref 170), (1, vi y1), (2, vi y2)]) (st2 := [vi y2, vi (ipl y1 1), .ref 170]) 1 (fun _ _ => rfl) ?_
    refine pr_m1 (args := [vi (ipl y1 1), vi y2]) (rest := []) rfl rfl rfl rfl (Nat.le_of_ble_eq_true rfl) rfl (h_144 s4 t4 (ipl y1 1) y2 hE4 h5 hy2) ?_
    rintro _ z6 t6 s6 ⟨rfl, hz6⟩ hE6
    show pr N2 K d tb_M144 50 [(3, vi (sgo t)), (0, .ref 170), (1, vi y1), (2, vi y2)] [vi z6] s6 _
    by_cases h7 : z6 ≠ 0
    · refine mq_t h7 ?_
      refine pr_if1t rfl rfl (i32_z hz6) h7 ?_
      refine pr_n (pc2 := 56) (lv2 := [(3, vi (sgo t)), (0, .ref 170), (1, vi y1), (2, vi y2)]) (st2 := [.ref 170]) 1 (fun _ _ => rfl) ?_
      refine pr_s1 (args := []) (rest := []) rfl rfl rfl rfl (Nat.le_of_ble_eq_true rfl) rfl (h_142 s6 t6  hE6 ) q_prt ?_
      rintro _ s8 ⟨rfl, _⟩ hE8
      show pr N2 K d tb_M144 59 [(3, vi (sgo t)), (0, .ref 170), (1, vi y1), (2, vi y2)] [] s8 _
      refine pr_n (pc2 := 63) (lv2 := [(3, vi (sgo t)), (0, .ref 170), (1, vi y1), (2, vi y2)]) (st2 := [vi (sgo t), vi 7, .ref 170]) 3 (fun _ _ => rfl) ?_
      refine pr_s1 (args := [vi 7, vi (sgo t)]) (rest := []) rfl rfl rfl rfl (Nat.le_of_ble_eq_true rfl) rfl (h_147 s8 ((prt t6)) 7 (sgo t) hE8 (i32_n rfl) hz3) q_pt2 ?_
      rintro _ s9 ⟨rfl, _⟩ hE9
      show pr N2 K d tb_M144 66 [(3, vi (sgo t)), (0, .ref 170), (1, vi y1), (2, vi y2)] [] s9 _
      refine pr_n (pc2 := 25) (lv2 := [(3, vi (sgo t)), (0, .ref 170), (1, vi y1), (2, vi y2)]) (st2 := []) 1 (fun _ _ => rfl) ?_
      exact ((ih N2 hN2).2) s9 ((pt2 ((prt t6)) 7 (sgo t))) (sgo t) y1 y2 hE9 hz3 hy1 hy2
    · refine mq_f h7 ?_
      refine pr_if1f rfl rfl (i32_z hz6) h7 ?_
      refine pr_n (pc2 := 54) (lv2 := [(3, vi (sgo t)), (0, .ref 170), (1, vi y1), (2, vi y2)]) (st2 := [vi 0]) 1 (fun _ _ => rfl) ?_
      refine pr_end (fun _ _ => rfl) ?_
      exact .inl ⟨_, 0, _, rfl, ⟨rfl, (by decide)⟩, rfl, hE6⟩
theorem ra144 {K d C : Nat} (h_123 : rT123 K d C) (h_142 : rT142 K d C) (h_144 : rT144 K d C) (h_145 : rT145 K d C) (h_147 : rT147 K d C) (h_151 : rT151 K d C) (h_152 : rT152 K d C) : ∀ N, rA144 N K d C := by
  intro N
  induction N using Nat.strongRecOn with | ind N ih => ?_
  exact ⟨ru144_0 h_123 h_142 h_144 h_145 h_147 h_151 h_152 ih, ru144_1 h_123 h_142 h_144 h_145 h_147 h_151 h_152 ih⟩
set_option maxHeartbeats 20000000 in
set_option maxRecDepth 100000 in
theorem rm144 {K d C : Nat} (h_123 : rT123 K d C) (h_142 : rT142 K d C) (h_144 : rT144 K d C) (h_145 : rT145 K d C) (h_147 : rT147 K d C) (h_151 : rT151 K d C) (h_152 : rT152 K d C) : rT144 K (d + 1) C := by
  intro s t x1 x2 hE hx1 hx2
  have hC : C = 177 ∨ C = 186 := hE.1
  refine pcr_of (M := tb_M144) rfl ?_
  show pr K K d tb_M144 0 [(0, .ref 170), (1, vi x1), (2, vi x2)] [] s _
  rw [rG_144]
  unfold rM144
  refine pr_n (pc2 := 3) (lv2 := [(0, .ref 170), (1, vi x1), (2, vi x2)]) (st2 := [vi 9, vi x1]) 2 (fun _ _ => rfl) ?_
  by_cases h1 : x1 ≤ 9
  · refine mq_t h1 ?_
    refine pr_if2t rfl rfl hx1 (i32_n rfl) h1 ?_
    refine pr_n (pc2 := 15) (lv2 := [(0, .ref 170), (1, vi x1), (2, vi x2)]) (st2 := [vi 1, vi x1, .ref 170]) 3 (fun _ _ => rfl) ?_
    refine pr_i2 (a := x1) (b := 1) rfl rfl ?_
    show pr K K d tb_M144 16 [(0, .ref 170), (1, vi x1), (2, vi x2)] [vi (ipl x1 1), .ref 170] s _
    have h2 : i32 (ipl x1 1) := i32_in _
    refine pr_n (pc2 := 17) (lv2 := [(0, .ref 170), (1, vi x1), (2, vi x2)]) (st2 := [vi x2, vi (ipl x1 1), .ref 170]) 1 (fun _ _ => rfl) ?_
    refine pr_m1 (args := [vi (ipl x1 1), vi x2]) (rest := []) rfl rfl rfl rfl (Nat.le_of_ble_eq_true rfl) rfl (h_144 s t (ipl x1 1) x2 hE h2 hx2) ?_
    rintro _ z3 t3 s3 ⟨rfl, hz3⟩ hE3
    show pr K K d tb_M144 20 [(0, .ref 170), (1, vi x1), (2, vi x2)] [vi z3] s3 _
    by_cases h4 : z3 ≠ 0
    · refine mq_t h4 ?_
      refine pr_if1t rfl rfl (i32_z hz3) h4 ?_
      exact ((ra144 h_123 h_142 h_144 h_145 h_147 h_151 h_152 K).1) s3 t3 x1 x2 hE3 hx1 hx2
    · refine mq_f h4 ?_
      refine pr_if1f rfl rfl (i32_z hz3) h4 ?_
      refine pr_n (pc2 := 24) (lv2 := [(0, .ref 170), (1, vi x1), (2, vi x2)]) (st2 := [vi 0]) 1 (fun _ _ => rfl) ?_
      refine pr_end (fun _ _ => rfl) ?_
      exact .inl ⟨_, 0, _, rfl, ⟨rfl, (by decide)⟩, rfl, hE3⟩
  · refine mq_f h1 ?_
    refine pr_if2f rfl rfl hx1 (i32_n rfl) h1 ?_
    refine pr_n (pc2 := 8) (lv2 := [(0, .ref 170), (1, vi x1), (2, vi x2)]) (st2 := [vi x2, .ref 170]) 2 (fun _ _ => rfl) ?_
    refine pr_m1 (args := [vi x2]) (rest := []) rfl rfl rfl rfl (Nat.le_of_ble_eq_true rfl) rfl (h_145 s t x2 hE hx2) ?_
    rintro _ z5 t5 s5 ⟨rfl, hz5⟩ hE5
    show pr K K d tb_M144 11 [(0, .ref 170), (1, vi x1), (2, vi x2)] [vi z5] s5 _
    refine pr_retz rfl rfl hz5 ?_
    exact .inl ⟨_, z5, _, rfl, ⟨rfl, hz5⟩, rfl, hE5⟩
set_option maxHeartbeats 20000000 in
set_option maxRecDepth 100000 in
theorem rm145 {K d C : Nat} (h_123 : rT123 K d C) (h_127 : rT127 K d C) (h_131 : rT131 K d C) (h_142 : rT142 K d C) (h_145 : rT145 K d C) (h_146 : rT146 K d C) (h_147 : rT147 K d C) : rT145 K (d + 1) C := by
  intro s t x1 hE hx1
  have hC : C = 177 ∨ C = 186 := hE.1
  refine pcr_of (M := tb_M145) rfl ?_
  show pr K K d tb_M145 0 [(0, .ref 170), (1, vi x1)] [] s _
  rw [rG_145]
  unfold rM145
  refine pr_n (pc2 := 4) (lv2 := [(0, .ref 170), (1, vi x1)]) (st2 := [.ref 38, .ref 170]) 2 (fun _ _ => rfl) ?_
  refine pr_p1 (args := [.ref 38]) (rest := []) rfl rfl rfl rfl (Nat.le_of_ble_eq_true rfl) rfl (h_127 s t 38 hE isX_38) (fun z t3 => pu_127) ?_
  rintro _ z1 s1 ⟨rfl, hz1⟩ hX1 hE1
  show pr K K d tb_M145 7 [(0, .ref 170), (1, vi x1)] [vi z1] s1 _
  by_cases h2 : z1 ≠ 0
  · refine mq_t h2 ?_
    refine pr_if1t rfl rfl (i32_z hz1) h2 ?_
    refine pr_n (pc2 := 39) (lv2 := [(0, .ref 170), (1, vi x1)]) (st2 := [vi 20, vi x1]) 2 (fun _ _ => rfl) ?_
    by_cases h3 : x1 ≠ 20
    · refine mq_t h3 ?_
      refine pr_if2t rfl rfl hx1 (i32_n rfl) h3 ?_
      refine pr_n (pc2 := 48) (lv2 := [(0, .ref 170), (1, vi x1)]) (st2 := [.ref 170]) 1 (fun _ _ => rfl) ?_
      refine pr_get (v := .ref 171) rfl rfl rfl (by decide) (rv_ref (hE1.2.1 170 0 171 rfl)) fun _ => ?_
      refine pr_n (pc2 := 52) (lv2 := [(0, .ref 170), (1, vi x1)]) (st2 := [.ref 170, .ref 171]) 1 (fun _ _ => rfl) ?_
      refine pr_gE (k2 := 170) (v := vi (t 170 5)) hE1 rfl rfl rfl (by decide) rfl rfl rfl fun h4 => ?_
      have h4 : i32 (t 170 5) := h4
      refine pr_aE (k2 := 171) (a := t 170 5) (v := vi (t 171 ((t 170 5).toNat))) hE1 rfl rfl rfl h4 (by decide) rfl rfl rfl fun h6 h7 h5 => ?_
      have h5 : -128 ≤ t 171 ((t 170 5).toNat) ∧ t 171 ((t 170 5).toNat) ≤ 127 := h5
      refine pr_n (pc2 := 58) (lv2 := [(2, vi (t 171 ((t 170 5).toNat))), (0, .ref 170), (1, vi x1)]) (st2 := [.ref 170]) 2 (fun _ _ => rfl) ?_
      refine pr_m1 (args := []) (rest := []) rfl rfl rfl rfl (Nat.le_of_ble_eq_true rfl) rfl (h_123 s1 t  hE1 ) ?_
      rintro _ _ t8 s8 ⟨rfl, rfl⟩ hE8
      show pr K K d tb_M145 61 [(2, vi (t 171 ((t 170 5).toNat))), (0, .ref 170), (1, vi x1)] [] s8 _
      refine pr_n (pc2 := 64) (lv2 := [(2, vi (t 171 ((t 170 5).toNat))), (0, .ref 170), (1, vi x1)]) (st2 := [vi 1, vi x1, .ref 170]) 3 (fun _ _ => rfl) ?_
      refine pr_i2 (a := x1) (b := 1) rfl rfl ?_
      show pr K K d tb_M145 65 [(2, vi (t 171 ((t 170 5).toNat))), (0, .ref 170), (1, vi x1)] [vi (ipl x1 1), .ref 170] s8 _
      have h9 : i32 (ipl x1 1) := i32_in _
      refine pr_m1 (args := [vi (ipl x1 1)]) (rest := []) rfl rfl rfl rfl (Nat.le_of_ble_eq_true rfl) rfl (h_145 s8 t8 (ipl x1 1) hE8 h9) ?_
      rintro _ z10 t10 s10 ⟨rfl, hz10⟩ hE10
      show pr K K d tb_M145 68 [(2, vi (t 171 ((t 170 5).toNat))), (0, .ref 170), (1, vi x1)] [vi z10] s10 _
      by_cases h11 : z10 ≠ 0
      · refine mq_t h11 ?_
        refine pr_if1t rfl rfl (i32_z hz10) h11 ?_
        refine pr_n (pc2 := 74) (lv2 := [(2, vi (t 171 ((t 170 5).toNat))), (0, .ref 170), (1, vi x1)]) (st2 := [.ref 170]) 1 (fun _ _ => rfl) ?_
        refine pr_s1 (args := []) (rest := []) rfl rfl rfl rfl (Nat.le_of_ble_eq_true rfl) rfl (h_142 s10 t10  hE10 ) q_prt ?_
        rintro _ s12 ⟨rfl, _⟩ hE12
        show pr K K d tb_M145 77 [(2, vi (t 171 ((t 170 5).toNat))), (0, .ref 170), (1, vi x1)] [] s12 _
        refine pr_n (pc2 := 81) (lv2 := [(2, vi (t 171 ((t 170 5).toNat))), (0, .ref 170), (1, vi x1)]) (st2 := [vi (t 171 ((t 170 5).toNat)), vi 8, .ref 170]) 3 (fun _ _ => rfl) ?_
        refine pr_s1 (args := [vi 8, vi (t 171 ((t 170 5).toNat))]) (rest := []) rfl rfl rfl rfl (Nat.le_of_ble_eq_true rfl) rfl (h_147 s12 ((prt t10)) 8 (t 171 ((t 170 5).toNat)) hE12 (i32_n rfl) (i32_b h5)) q_pt2 ?_
        rintro _ s13 ⟨rfl, _⟩ hE13
        show pr K K d tb_M145 84 [(2, vi (t 171 ((t 170 5).toNat))), (0, .ref 170), (1, vi x1)] [] s13 _
        refine pr_n (pc2 := 85) (lv2 := [(2, vi (t 171 ((t 170 5).toNat))), (0, .ref 170), (1, vi x1)]) (st2 := [vi 1]) 1 (fun _ _ => rfl) ?_
        refine pr_end (fun _ _ => rfl) ?_
        exact .inl ⟨_, 1, _, rfl, ⟨rfl, (by decide)⟩, rfl, hE13⟩
      · refine mq_f h11 ?_
        refine pr_if1f rfl rfl (i32_z hz10) h11 ?_
        refine pr_n (pc2 := 72) (lv2 := [(2, vi (t 171 ((t 170 5).toNat))), (0, .ref 170), (1, vi x1)]) (st2 := [vi 0]) 1 (fun _ _ => rfl) ?_
        refine pr_end (fun _ _ => rfl) ?_
        exact .inl ⟨_, 0, _, rfl, ⟨rfl, (by decide)⟩, rfl, hE10⟩
    · refine mq_f h3 ?_
      refine pr_if2f rfl rfl hx1 (i32_n rfl) h3 ?_
      refine pr_n (pc2 := 43) (lv2 := [(0, .ref 170), (1, vi x1)]) (st2 := [.ref 170]) 1 (fun _ _ => rfl) ?_
      refine pr_s1 (args := []) (rest := []) rfl rfl rfl rfl (Nat.le_of_ble_eq_true rfl) rfl (h_131 s1 t  hE1 ) q_bad0 ?_
      rintro _ s14 ⟨rfl, hz14⟩ hE14
      show pr K K d tb_M145 46 [(0, .ref 170), (1, vi x1)] [vi 0] s14 _
      refine pr_end (fun _ _ => rfl) ?_
      exact .inl ⟨_, 0, _, rfl, ⟨rfl, (by decide)⟩, rfl, hE14⟩
  · refine mq_f h2 ?_
    refine pr_if1f rfl rfl (i32_z hz1) h2 ?_
    refine pr_n (pc2 := 14) (lv2 := [(0, .ref 170), (1, vi x1)]) (st2 := [.ref 40, .ref 170]) 2 (fun _ _ => rfl) ?_
    refine pr_p1 (args := [.ref 40]) (rest := []) rfl rfl rfl rfl (Nat.le_of_ble_eq_true rfl) rfl (h_127 s1 t 40 hE1 isX_40) (fun z t3 => pu_127) ?_
    rintro _ z15 s15 ⟨rfl, hz15⟩ hX15 hE15
    show pr K K d tb_M145 17 [(0, .ref 170), (1, vi x1)] [vi z15] s15 _
    by_cases h16 : z15 ≠ 0
    · refine mq_t h16 ?_
      refine pr_if1t rfl rfl (i32_z hz15) h16 ?_
      refine pr_n (pc2 := 39) (lv2 := [(0, .ref 170), (1, vi x1)]) (st2 := [vi 20, vi x1]) 2 (fun _ _ => rfl) ?_
      by_cases h17 : x1 ≠ 20
      · refine mq_t h17 ?_
        refine pr_if2t rfl rfl hx1 (i32_n rfl) h17 ?_
        refine pr_n (pc2 := 48) (lv2 := [(0, .ref 170), (1, vi x1)]) (st2 := [.ref 170]) 1 (fun _ _ => rfl) ?_
        refine pr_get (v := .ref 171) rfl rfl rfl (by decide) (rv_ref (hE15.2.1 170 0 171 rfl)) fun _ => ?_
        refine pr_n (pc2 := 52) (lv2 := [(0, .ref 170), (1, vi x1)]) (st2 := [.ref 170, .ref 171]) 1 (fun _ _ => rfl) ?_
        refine pr_gE (k2 := 170) (v := vi (t 170 5)) hE15 rfl rfl rfl (by decide) rfl rfl rfl fun h18 => ?_
        have h18 : i32 (t 170 5) := h18
        refine pr_aE (k2 := 171) (a := t 170 5) (v := vi (t 171 ((t 170 5).toNat))) hE15 rfl rfl rfl h18 (by decide) rfl rfl rfl fun h20 h21 h19 => ?_
        have h19 : -128 ≤ t 171 ((t 170 5).toNat) ∧ t 171 ((t 170 5).toNat) ≤ 127 := h19
        refine pr_n (pc2 := 58) (lv2 := [(2, vi (t 171 ((t 170 5).toNat))), (0, .ref 170), (1, vi x1)]) (st2 := [.ref 170]) 2 (fun _ _ => rfl) ?_
        refine pr_m1 (args := []) (rest := []) rfl rfl rfl rfl (Nat.le_of_ble_eq_true rfl) rfl (h_123 s15 t  hE15 ) ?_
        rintro _ _ t22 s22 ⟨rfl, rfl⟩ hE22
        show pr K K d tb_M145 61 [(2, vi (t 171 ((t 170 5).toNat))), (0, .ref 170), (1, vi x1)] [] s22 _
        refine pr_n (pc2 := 64) (lv2 := [(2, vi (t 171 ((t 170 5).toNat))), (0, .ref 170), (1, vi x1)]) (st2 := [vi 1, vi x1, .ref 170]) 3 (fun _ _ => rfl) ?_
        refine pr_i2 (a := x1) (b := 1) rfl rfl ?_
        show pr K K d tb_M145 65 [(2, vi (t 171 ((t 170 5).toNat))), (0, .ref 170), (1, vi x1)] [vi (ipl x1 1), .ref 170] s22 _
        have h23 : i32 (ipl x1 1) := i32_in _
        refine pr_m1 (args := [vi (ipl x1 1)]) (rest := []) rfl rfl rfl rfl (Nat.le_of_ble_eq_true rfl) rfl (h_145 s22 t22 (ipl x1 1) hE22 h23) ?_
        rintro _ z24 t24 s24 ⟨rfl, hz24⟩ hE24
        show pr K K d tb_M145 68 [(2, vi (t 171 ((t 170 5).toNat))), (0, .ref 170), (1, vi x1)] [vi z24] s24 _
        by_cases h25 : z24 ≠ 0
        · refine mq_t h25 ?_
          refine pr_if1t rfl rfl (i32_z hz24) h25 ?_
          refine pr_n (pc2 := 74) (lv2 := [(2, vi (t 171 ((t 170 5).toNat))), (0, .ref 170), (1, vi x1)]) (st2 := [.ref 170]) 1 (fun _ _ => rfl) ?_
          refine pr_s1 (args := []) (rest := []) rfl rfl rfl rfl (Nat.le_of_ble_eq_true rfl) rfl (h_142 s24 t24  hE24 ) q_prt ?_
          rintro _ s26 ⟨rfl, _⟩ hE26
          show pr K K d tb_M145 77 [(2, vi (t 171 ((t 170 5).toNat))), (0, .ref 170), (1, vi x1)] [] s26 _
          refine pr_n (pc2 := 81) (lv2 := [(2, vi (t 171 ((t 170 5).toNat))), (0, .ref 170), (1, vi x1)]) (st2 := [vi (t 171 ((t 170 5).toNat)), vi 8, .ref 170]) 3 (fun _ _ => rfl) ?_
          refine pr_s1 (args := [vi 8, vi (t 171 ((t 170 5).toNat))]) (rest := []) rfl rfl rfl rfl (Nat.le_of_ble_eq_true rfl) rfl (h_147 s26 ((prt t24)) 8 (t 171 ((t 170 5).toNat)) hE26 (i32_n rfl) (i32_b h19)) q_pt2 ?_
          rintro _ s27 ⟨rfl, _⟩ hE27
          show pr K K d tb_M145 84 [(2, vi (t 171 ((t 170 5).toNat))), (0, .ref 170), (1, vi x1)] [] s27 _
          refine pr_n (pc2 := 85) (lv2 := [(2, vi (t 171 ((t 170 5).toNat))), (0, .ref 170), (1, vi x1)]) (st2 := [vi 1]) 1 (fun _ _ => rfl) ?_
          refine pr_end (fun _ _ => rfl) ?_
          exact .inl ⟨_, 1, _, rfl, ⟨rfl, (by decide)⟩, rfl, hE27⟩
        · refine mq_f h25 ?_
          refine pr_if1f rfl rfl (i32_z hz24) h25 ?_
          refine pr_n (pc2 := 72) (lv2 := [(2, vi (t 171 ((t 170 5).toNat))), (0, .ref 170), (1, vi x1)]) (st2 := [vi 0]) 1 (fun _ _ => rfl) ?_
          refine pr_end (fun _ _ => rfl) ?_
          exact .inl ⟨_, 0, _, rfl, ⟨rfl, (by decide)⟩, rfl, hE24⟩
      · refine mq_f h17 ?_
        refine pr_if2f rfl rfl hx1 (i32_n rfl) h17 ?_
        refine pr_n (pc2 := 43) (lv2 := [(0, .ref 170), (1, vi x1)]) (st2 := [.ref 170]) 1 (fun _ _ => rfl) ?_
        refine pr_s1 (args := []) (rest := []) rfl rfl rfl rfl (Nat.le_of_ble_eq_true rfl) rfl (h_131 s15 t  hE15 ) q_bad0 ?_
        rintro _ s28 ⟨rfl, hz28⟩ hE28
        show pr K K d tb_M145 46 [(0, .ref 170), (1, vi x1)] [vi 0] s28 _
        refine pr_end (fun _ _ => rfl) ?_
        exact .inl ⟨_, 0, _, rfl, ⟨rfl, (by decide)⟩, rfl, hE28⟩
    · refine mq_f h16 ?_
      refine pr_if1f rfl rfl (i32_z hz15) h16 ?_
      refine pr_n (pc2 := 24) (lv2 := [(0, .ref 170), (1, vi x1)]) (st2 := [.ref 42, .ref 170]) 2 (fun _ _ => rfl) ?_
      refine pr_p1 (args := [.ref 42]) (rest := []) rfl rfl rfl rfl (Nat.le_of_ble_eq_true rfl) rfl (h_127 s15 t 42 hE15 isX_42) (fun z t3 => pu_127) ?_
      rintro _ z29 s29 ⟨rfl, hz29⟩ hX29 hE29
      show pr K K d tb_M145 27 [(0, .ref 170), (1, vi x1)] [vi z29] s29 _
      by_cases h30 : z29 ≠ 0
      · refine mq_t h30 ?_
        refine pr_if1t rfl rfl (i32_z hz29) h30 ?_
        refine pr_n (pc2 := 39) (lv2 := [(0, .ref 170), (1, vi x1)]) (st2 := [vi 20, vi x1]) 2 (fun _ _ => rfl) ?_
        by_cases h31 : x1 ≠ 20
        · refine mq_t h31 ?_
          refine pr_if2t rfl rfl hx1 (i32_n rfl) h31 ?_
          refine pr_n (pc2 := 48) (lv2 := [(0, .ref 170), (1, vi x1)]) (st2 := [.ref 170]) 1 (fun _ _ => rfl) ?_
          refine pr_get (v := .ref 171) rfl rfl rfl (by decide) (rv_ref (hE29.2.1 170 0 171 rfl)) fun _ => ?_
          refine pr_n (pc2 := 52) (lv2 := [(0, .ref 170), (1, vi x1)]) (st2 := [.ref 170, .ref 171]) 1 (fun _ _ => rfl) ?_
          refine pr_gE (k2 := 170) (v := vi (t 170 5)) hE29 rfl rfl rfl (by decide) rfl rfl rfl fun h32 => ?_
          have h32 : i32 (t 170 5) := h32
          refine pr_aE (k2 := 171) (a := t 170 5) (v := vi (t 171 ((t 170 5).toNat))) hE29 rfl rfl rfl h32 (by decide) rfl rfl rfl fun h34 h35 h33 => ?_
          have h33 : -128 ≤ t 171 ((t 170 5).toNat) ∧ t 171 ((t 170 5).toNat) ≤ 127 := h33
          refine pr_n (pc2 := 58) (lv2 := [(2, vi (t 171 ((t 170 5).toNat))), (0, .ref 170), (1, vi x1)]) (st2 := [.ref 170]) 2 (fun _ _ => rfl) ?_
          refine pr_m1 (args := []) (rest := []) rfl rfl rfl rfl (Nat.le_of_ble_eq_true rfl) rfl (h_123 s29 t  hE29 ) ?_
          rintro _ _ t36 s36 ⟨rfl, rfl⟩ hE36
          show pr K K d tb_M145 61 [(2, vi (t 171 ((t 170 5).toNat))), (0, .ref 170), (1, vi x1)] [] s36 _
          refine pr_n (pc2 := 64) (lv2 := [(2, vi (t 171 ((t 170 5).toNat))), (0, .ref 170), (1, vi x1)]) (st2 := [vi 1, vi x1, .ref 170]) 3 (fun _ _ => rfl) ?_
          refine pr_i2 (a := x1) (b := 1) rfl rfl ?_
          show pr K K d tb_M145 65 [(2, vi (t 171 ((t 170 5).toNat))), (0, .ref 170), (1, vi x1)] [vi (ipl x1 1), .ref 170] s36 _
          have h37 : i32 (ipl x1 1) := i32_in _
          refine pr_m1 (args := [vi (ipl x1 1)]) (rest := []) rfl rfl rfl rfl (Nat.le_of_ble_eq_true rfl) rfl (h_145 s36 t36 (ipl x1 1) hE36 h37) ?_
          rintro _ z38 t38 s38 ⟨rfl, hz38⟩ hE38
          show pr K K d tb_M145 68 [(2, vi (t 171 ((t 170 5).toNat))), (0, .ref 170), (1, vi x1)] [vi z38] s38 _
          by_cases h39 : z38 ≠ 0
          · refine mq_t h39 ?_
            refine pr_if1t rfl rfl (i32_z hz38) h39 ?_
            refine pr_n (pc2 := 74) (lv2 := [(2, vi (t 171 ((t 170 5).toNat))), (0, .ref 170), (1, vi x1)]) (st2 := [.ref 170]) 1 (fun _ _ => rfl) ?_
            refine pr_s1 (args := []) (rest := []) rfl rfl rfl rfl (Nat.le_of_ble_eq_true rfl) rfl (h_142 s38 t38  hE38 ) q_prt ?_
            rintro _ s40 ⟨rfl, _⟩ hE40
            show pr K K d tb_M145 77 [(2, vi (t 171 ((t 170 5).toNat))), (0, .ref 170), (1, vi x1)] [] s40 _
            refine pr_n (pc2 := 81) (lv2 := [(2, vi (t 171 ((t 170 5).toNat))), (0, .ref 170), (1, vi x1)]) (st2 := [vi (t 171 ((t 170 5).toNat)), vi 8, .ref 170]) 3 (fun _ _ => rfl) ?_
            refine pr_s1 (args := [vi 8, vi (t 171 ((t 170 5).toNat))]) (rest := []) rfl rfl rfl rfl (Nat.le_of_ble_eq_true rfl) rfl (h_147 s40 ((prt t38)) 8 (t 171 ((t 170 5).toNat)) hE40 (i32_n rfl) (i32_b h33)) q_pt2 ?_
            rintro _ s41 ⟨rfl, _⟩ hE41
            show pr K K d tb_M145 84 [(2, vi (t 171 ((t 170 5).toNat))), (0, .ref 170), (1, vi x1)] [] s41 _
            refine pr_n (pc2 := 85) (lv2 := [(2, vi (t 171 ((t 170 5).toNat))), (0, .ref 170), (1, vi x1)]) (st2 := [vi 1]) 1 (fun _ _ => rfl) ?_
            refine pr_end (fun _ _ => rfl) ?_
            exact .inl ⟨_, 1, _, rfl, ⟨rfl, (by decide)⟩, rfl, hE41⟩
          · refine mq_f h39 ?_
            refine pr_if1f rfl rfl (i32_z hz38) h39 ?_
            refine pr_n (pc2 := 72) (lv2 := [(2, vi (t 171 ((t 170 5).toNat))), (0, .ref 170), (1, vi x1)]) (st2 := [vi 0]) 1 (fun _ _ => rfl) ?_
            refine pr_end (fun _ _ => rfl) ?_
            exact .inl ⟨_, 0, _, rfl, ⟨rfl, (by decide)⟩, rfl, hE38⟩
        · refine mq_f h31 ?_
          refine pr_if2f rfl rfl hx1 (i32_n rfl) h31 ?_
          refine pr_n (pc2 := 43) (lv2 := [(0, .ref 170), (1, vi x1)]) (st2 := [.ref 170]) 1 (fun _ _ => rfl) ?_
          refine pr_s1 (args := []) (rest := []) rfl rfl rfl rfl (Nat.le_of_ble_eq_true rfl) rfl (h_131 s29 t  hE29 ) q_bad0 ?_
          rintro _ s42 ⟨rfl, hz42⟩ hE42
          show pr K K d tb_M145 46 [(0, .ref 170), (1, vi x1)] [vi 0] s42 _
          refine pr_end (fun _ _ => rfl) ?_
          exact .inl ⟨_, 0, _, rfl, ⟨rfl, (by decide)⟩, rfl, hE42⟩
      · refine mq_f h30 ?_
        refine pr_if1f rfl rfl (i32_z hz29) h30 ?_
        refine pr_n (pc2 := 32) (lv2 := [(0, .ref 170), (1, vi x1)]) (st2 := [vi x1, .ref 170]) 2 (fun _ _ => rfl) ?_
        refine pr_m1 (args := [vi x1]) (rest := []) rfl rfl rfl rfl (Nat.le_of_ble_eq_true rfl) rfl (h_146 s29 t x1 hE29 hx1) ?_
        rintro _ z43 t43 s43 ⟨rfl, hz43⟩ hE43
        show pr K K d tb_M145 35 [(0, .ref 170), (1, vi x1)] [vi z43] s43 _
        refine pr_retz rfl rfl hz43 ?_
        exact .inl ⟨_, z43, _, rfl, ⟨rfl, hz43⟩, rfl, hE43⟩
set_option maxHeartbeats 20000000 in
set_option maxRecDepth 100000 in
theorem rm146 {K d C : Nat} (h_123 : rT123 K d C) (h_127 : rT127 K d C) (h_131 : rT131 K d C) (h_134 : rT134 K d C) (h_136 : rT136 K d C) (h_142 : rT142 K d C) (h_144 : rT144 K d C) (h_147 : rT147 K d C) (h_148 : rT148 K d C) (h_149 : rT149 K d C) : rT146 K (d + 1) C := by
  intro s t x1 hE hx1
  have hC : C = 177 ∨ C = 186 := hE.1
  refine pcr_of (M := tb_M146) rfl ?_
  show pr K K d tb_M146 0 [(0, .ref 170), (1, vi x1)] [] s _
  rw [rG_146]
  unfold rM146
  refine pr_n (pc2 := 1) (lv2 := [(0, .ref 170), (1, vi x1)]) (st2 := [.ref 170]) 1 (fun _ _ => rfl) ?_
  refine pr_gE (k2 := 170) (v := vi (t 170 4)) hE rfl rfl rfl (by decide) rfl rfl rfl fun h1 => ?_
  have h1 : i32 (t 170 4) := h1
  refine pr_n (pc2 := 5) (lv2 := [(0, .ref 170), (1, vi x1)]) (st2 := [vi 3, vi (t 170 4)]) 1 (fun _ _ => rfl) ?_
  by_cases h2 : t 170 4 ≠ 3
  · refine mq_t h2 ?_
    refine pr_if2t rfl rfl h1 (i32_n rfl) h2 ?_
    refine pr_n (pc2 := 31) (lv2 := [(0, .ref 170), (1, vi x1)]) (st2 := [.ref 22, .ref 170]) 2 (fun _ _ => rfl) ?_
    refine pr_p1 (args := [.ref 22]) (rest := []) rfl rfl rfl rfl (Nat.le_of_ble_eq_true rfl) rfl (h_127 s t 22 hE isX_22) (fun z t3 => pu_127) ?_
    rintro _ z3 s3 ⟨rfl, hz3⟩ hX3 hE3
    show pr K K d tb_M146 34 [(0, .ref 170), (1, vi x1)] [vi z3] s3 _
    by_cases h4 : z3 = 0
    · refine mq_t h4 ?_
      refine pr_if1t rfl rfl (i32_z hz3) h4 ?_
      refine pr_n (pc2 := 80) (lv2 := [(0, .ref 170), (1, vi x1)]) (st2 := [.ref 170]) 1 (fun _ _ => rfl) ?_
      refine pr_gE (k2 := 170) (v := vi (t 170 4)) hE3 rfl rfl rfl (by decide) rfl rfl rfl fun h5 => ?_
      have h5 : i32 (t 170 4) := h5
      refine pr_n (pc2 := 84) (lv2 := [(0, .ref 170), (1, vi x1)]) (st2 := [vi 1, vi (t 170 4)]) 1 (fun _ _ => rfl) ?_
      by_cases h6 : t 170 4 = 1
      · refine mq_t h6 ?_
        refine pr_if2t rfl rfl h5 (i32_n rfl) h6 ?_
        refine pr_n (pc2 := 93) (lv2 := [(0, .ref 170), (1, vi x1)]) (st2 := [.ref 170]) 1 (fun _ _ => rfl) ?_
        refine pr_p1 (args := []) (rest := []) rfl rfl rfl rfl (Nat.le_of_ble_eq_true rfl) rfl (h_134 s3 t  hE3 ) (fun z t3 => pu_134) ?_
        rintro _ z7 s7 ⟨rfl, hz7⟩ hX7 hE7
        show pr K K d tb_M146 96 [(0, .ref 170), (1, vi x1)] [vi z7] s7 _
        refine pr_n (pc2 := 98) (lv2 := [(2, vi z7), (0, .ref 170), (1, vi x1)]) (st2 := [.ref 170]) 2 (fun _ _ => rfl) ?_
        refine pr_gE (k2 := 170) (v := vi (t 170 5)) hE7 rfl rfl rfl (by decide) rfl rfl rfl fun h8 => ?_
        have h8 : i32 (t 170 5) := h8
        refine pr_n (pc2 := 103) (lv2 := [(3, vi (t 170 5)), (2, vi z7), (0, .ref 170), (1, vi x1)]) (st2 := [vi z7]) 2 (fun _ _ => rfl) ?_
        by_cases h9 : z7 < 0
        · refine mq_t h9 ?_
          refine pr_if1t rfl rfl hz7 h9 ?_
          refine pr_n (pc2 := 144) (lv2 := [(3, vi (t 170 5)), (2, vi z7), (0, .ref 170), (1, vi x1)]) (st2 := [.ref 170]) 1 (fun _ _ => rfl) ?_
          refine pr_s1 (args := []) (rest := []) rfl rfl rfl rfl (Nat.le_of_ble_eq_true rfl) rfl (h_131 s7 t  hE7 ) q_bad0 ?_
          rintro _ s10 ⟨rfl, hz10⟩ hE10
          show pr K K d tb_M146 147 [(3, vi (t 170 5)), (2, vi z7), (0, .ref 170), (1, vi x1)] [vi 0] s10 _
          refine pr_end (fun _ _ => rfl) ?_
          exact .inl ⟨_, 0, _, rfl, ⟨rfl, (by decide)⟩, rfl, hE10⟩
        · refine mq_f h9 ?_
          refine pr_if1f rfl rfl hz7 h9 ?_
          refine pr_n (pc2 := 107) (lv2 := [(3, vi (t 170 5)), (2, vi z7), (0, .ref 170), (1, vi x1)]) (st2 := [.ref 170]) 1 (fun _ _ => rfl) ?_
          refine pr_get (v := .ref 174) rfl rfl rfl (by decide) (rv_ref (hE7.2.1 170 11 174 rfl)) fun _ => ?_
          refine pr_n (pc2 := 111) (lv2 := [(3, vi (t 170 5)), (2, vi z7), (0, .ref 170), (1, vi x1)]) (st2 := [vi z7, .ref 174]) 1 (fun _ _ => rfl) ?_
          refine pr_aE (k2 := 174) (a := z7) (v := vi (t 174 z7.toNat)) hE7 rfl rfl rfl hz7 (by decide) rfl rfl rfl fun h12 h13 h11 => ?_
          have h11 : i32 (t 174 z7.toNat) := h11
          refine pr_n (pc2 := 115) (lv2 := [(3, vi (t 170 5)), (2, vi z7), (0, .ref 170), (1, vi x1)]) (st2 := [vi 91, .ref 170, vi (t 174 z7.toNat)]) 2 (fun _ _ => rfl) ?_
          refine pr_p1 (args := [vi 91]) (rest := [vi (t 174 z7.toNat)]) rfl rfl rfl rfl (Nat.le_of_ble_eq_true rfl) rfl (h_148 s7 t 91 hE7 (i32_n rfl)) (fun z t3 => pu_148) ?_
          rintro _ z14 s14 ⟨rfl, hz14⟩ hX14 hE14
          show pr K K d tb_M146 118 [(3, vi (t 170 5)), (2, vi z7), (0, .ref 170), (1, vi x1)] [vi z14, vi (t 174 z7.toNat)] s14 _
          by_cases h15 : z14 = 0
          · refine mq_t h15 ?_
            refine pr_if1t rfl rfl (i32_z hz14) h15 ?_
            refine pr_n (pc2 := 128) (lv2 := [(3, vi (t 170 5)), (2, vi z7), (0, .ref 170), (1, vi x1)]) (st2 := [vi 40, .ref 170, vi (t 174 z7.toNat)]) 2 (fun _ _ => rfl) ?_
            refine pr_p1 (args := [vi 40]) (rest := [vi (t 174 z7.toNat)]) rfl rfl rfl rfl (Nat.le_of_ble_eq_true rfl) rfl (h_148 s14 t 40 hE14 (i32_n rfl)) (fun z t3 => pu_148) ?_
            rintro _ z16 s16 ⟨rfl, hz16⟩ hX16 hE16
            show pr K K d tb_M146 131 [(3, vi (t 170 5)), (2, vi z7), (0, .ref 170), (1, vi x1)] [vi z16, vi (t 174 z7.toNat)] s16 _
            by_cases h17 : z16 = 0
            · refine mq_t h17 ?_
              refine pr_if1t rfl rfl (i32_z hz16) h17 ?_
              refine pr_n (pc2 := 140) (lv2 := [(3, vi (t 170 5)), (2, vi z7), (0, .ref 170), (1, vi x1)]) (st2 := [vi 0, vi (t 174 z7.toNat)]) 1 (fun _ _ => rfl) ?_
              by_cases h18 : t 174 z7.toNat = 0
              · refine mq_t h18 ?_
                refine pr_if2t rfl rfl h11 (i32_n rfl) h18 ?_
                refine pr_n (pc2 := 149) (lv2 := [(3, vi (t 170 5)), (2, vi z7), (0, .ref 170), (1, vi x1)]) (st2 := [.ref 170]) 1 (fun _ _ => rfl) ?_
                refine pr_get (v := .ref 174) rfl rfl rfl (by decide) (rv_ref (hE16.2.1 170 11 174 rfl)) fun _ => ?_
                refine pr_n (pc2 := 153) (lv2 := [(3, vi (t 170 5)), (2, vi z7), (0, .ref 170), (1, vi x1)]) (st2 := [vi z7, .ref 174]) 1 (fun _ _ => rfl) ?_
                refine pr_aE (k2 := 174) (a := z7) (v := vi (t 174 z7.toNat)) hE16 rfl rfl rfl hz7 (by decide) rfl rfl rfl fun h20 h21 h19 => ?_
                have h19 : i32 (t 174 z7.toNat) := h19
                refine pr_n (pc2 := 156) (lv2 := [(3, vi (t 170 5)), (2, vi z7), (0, .ref 170), (1, vi x1)]) (st2 := [vi 6, vi (t 174 z7.toNat)]) 1 (fun _ _ => rfl) ?_
                by_cases h22 : t 174 z7.toNat ≠ 6
                · refine mq_t h22 ?_
                  refine pr_if2t rfl rfl h19 (i32_n rfl) h22 ?_
                  refine pr_n (pc2 := 186) (lv2 := [(3, vi (t 170 5)), (2, vi z7), (0, .ref 170), (1, vi x1)]) (st2 := [.ref 170]) 1 (fun _ _ => rfl) ?_
                  refine pr_m1 (args := []) (rest := []) rfl rfl rfl rfl (Nat.le_of_ble_eq_true rfl) rfl (h_123 s16 t  hE16 ) ?_
                  rintro _ _ t23 s23 ⟨rfl, rfl⟩ hE23
                  show pr K K d tb_M146 189 [(3, vi (t 170 5)), (2, vi z7), (0, .ref 170), (1, vi x1)] [] s23 _
                  refine pr_n (pc2 := 190) (lv2 := [(3, vi (t 170 5)), (2, vi z7), (0, .ref 170), (1, vi x1)]) (st2 := [.ref 170]) 1 (fun _ _ => rfl) ?_
                  refine pr_s1 (args := []) (rest := []) rfl rfl rfl rfl (Nat.le_of_ble_eq_true rfl) rfl (h_142 s23 t23  hE23 ) q_prt ?_
                  rintro _ s24 ⟨rfl, _⟩ hE24
                  show pr K K d tb_M146 193 [(3, vi (t 170 5)), (2, vi z7), (0, .ref 170), (1, vi x1)] [] s24 _
                  refine pr_n (pc2 := 195) (lv2 := [(3, vi (t 170 5)), (2, vi z7), (0, .ref 170), (1, vi x1)]) (st2 := [.ref 170, .ref 170]) 2 (fun _ _ => rfl) ?_
                  refine pr_gE (k2 := 170) (v := vl (t23 170 23)) hE24 rfl rfl rfl (by decide) rfl rfl rfl fun h25 => ?_
                  have h25 : i64 (t23 170 23) := h25
                  refine pr_n (pc2 := 200) (lv2 := [(3, vi (t 170 5)), (2, vi z7), (0, .ref 170), (1, vi x1)]) (st2 := [.ref 170, vl 1, vl (t23 170 23), .ref 170]) 2 (fun _ _ => rfl) ?_
                  refine pr_get (v := .ref 174) rfl rfl rfl (by decide) (rv_ref (hE24.2.1 170 11 174 rfl)) fun _ => ?_
                  refine pr_n (pc2 := 204) (lv2 := [(3, vi (t 170 5)), (2, vi z7), (0, .ref 170), (1, vi x1)]) (st2 := [vi z7, .ref 174, vl 1, vl (t23 170 23), .ref 170]) 1 (fun _ _ => rfl) ?_
                  refine pr_aE (k2 := 174) (a := z7) (v := vi (t23 174 z7.toNat)) hE24 rfl rfl rfl hz7 (by decide) rfl rfl rfl fun h27 h28 h26 => ?_
                  have h26 : i32 (t23 174 z7.toNat) := h26
                  refine pr_n (pc2 := 206) (lv2 := [(3, vi (t 170 5)), (2, vi z7), (0, .ref 170), (1, vi x1)]) (st2 := [vi 1, vi (t23 174 z7.toNat), vl 1, vl (t23 170 23), .ref 170]) 1 (fun _ _ => rfl) ?_
                  by_cases h29 : t23 174 z7.toNat ≠ 1
                  · refine mq_t h29 ?_
                    refine pr_if2t rfl rfl h26 (i32_n rfl) h29 ?_
                    refine pr_n (pc2 := 216) (lv2 := [(3, vi (t 170 5)), (2, vi z7), (0, .ref 170), (1, vi x1)]) (st2 := [.ref 170, vi 0, vl 1, vl (t23 170 23), .ref 170]) 2 (fun _ _ => rfl) ?_
                    refine pr_get (v := .ref 175) rfl rfl rfl (by decide) (rv_ref (hE24.2.1 170 12 175 rfl)) fun _ => ?_
                    refine pr_n (pc2 := 220) (lv2 := [(3, vi (t 170 5)), (2, vi z7), (0, .ref 170), (1, vi x1)]) (st2 := [vi z7, .ref 175, vi 0, vl 1, vl (t23 170 23), .ref 170]) 1 (fun _ _ => rfl) ?_
                    refine pr_aE (k2 := 175) (a := z7) (v := vi (t23 175 z7.toNat)) hE24 rfl rfl rfl hz7 (by decide) rfl rfl rfl fun h31 h32 h30 => ?_
                    have h30 : i32 (t23 175 z7.toNat) := h30
                    refine pr_i2 (a := 0) (b := t23 175 z7.toNat) rfl rfl ?_
                    show pr K K d tb_M146 222 [(3, vi (t 170 5)), (2, vi z7), (0, .ref 170), (1, vi x1)] [vi (ipl 0 (t23 175 z7.toNat)), vl 1, vl (t23 170 23), .ref 170] s24 _
                    have h33 : i32 (ipl 0 (t23 175 z7.toNat)) := i32_in _
                    refine pr_lshl (a := 1) (b := ipl 0 (t23 175 z7.toNat)) rfl ?_
                    refine pr_l2 (a := t23 170 23) (b := lsl 1 (ipl 0 (t23 175 z7.toNat))) rfl rfl ?_
                    show pr K K d tb_M146 224 [(3, vi (t 170 5)), (2, vi z7), (0, .ref 170), (1, vi x1)] [vl (lo (t23 170 23) (lsl 1 (ipl 0 (t23 175 z7.toNat)))), .ref 170] s24 _
                    refine pr_pE (k2 := 170) (z := lo (t23 170 23) (lsl 1 (ipl 0 (t23 175 z7.toNat)))) hE24 rfl rfl rfl rfl (by decide) rfl (by decide) rfl (i64_in _) (fit_l _) rfl rfl rfl (fun e => absurd e.2 (by decide)) (fun _ => trivial) fun s34 hE34 => ?_
                    refine pr_n (pc2 := 228) (lv2 := [(3, vi (t 170 5)), (2, vi z7), (0, .ref 170), (1, vi x1)]) (st2 := [.ref 170]) 1 (fun _ _ => rfl) ?_
                    refine pr_get (v := .ref 174) rfl rfl rfl (by decide) (rv_ref (hE34.2.1 170 11 174 rfl)) fun _ => ?_
                    refine pr_n (pc2 := 232) (lv2 := [(3, vi (t 170 5)), (2, vi z7), (0, .ref 170), (1, vi x1)]) (st2 := [vi z7, .ref 174]) 1 (fun _ _ => rfl) ?_
                    refine pr_aE (k2 := 174) (a := z7) (v := vi (t23 174 z7.toNat)) hE34 rfl rfl rfl hz7 (by decide) rfl rfl rfl fun h36 h37 h35 => ?_
                    have h35 : i32 (t23 174 z7.toNat) := h35
                    by_cases h38 : t23 174 z7.toNat ≠ 0
                    · refine mq_t h38 ?_
                      refine pr_if1t rfl rfl h35 h38 ?_
                      refine pr_n (pc2 := 252) (lv2 := [(3, vi (t 170 5)), (2, vi z7), (0, .ref 170), (1, vi x1)]) (st2 := [vi 20, vi x1]) 2 (fun _ _ => rfl) ?_
                      by_cases h39 : x1 ≠ 20
                      · refine mq_t h39 ?_
                        refine pr_if2t rfl rfl hx1 (i32_n rfl) h39 ?_
                        refine pr_n (pc2 := 261) (lv2 := [(3, vi (t 170 5)), (2, vi z7), (0, .ref 170), (1, vi x1)]) (st2 := [.ref 170]) 1 (fun _ _ => rfl) ?_
                        refine pr_m1 (args := []) (rest := []) rfl rfl rfl rfl (Nat.le_of_ble_eq_true rfl) rfl (h_123 s34 (up2 ((prt t23)) 170 23 (lo (t23 170 23) (lsl 1 (ipl 0 (t23 175 z7.toNat)))))  hE34 ) ?_
                        rintro _ _ t40 s40 ⟨rfl, rfl⟩ hE40
                        show pr K K d tb_M146 264 [(3, vi (t 170 5)), (2, vi z7), (0, .ref 170), (1, vi x1)] [] s40 _
                        refine pr_n (pc2 := 268) (lv2 := [(3, vi (t 170 5)), (2, vi z7), (0, .ref 170), (1, vi x1)]) (st2 := [vi 1, vi x1, vi 0, .ref 170]) 4 (fun _ _ => rfl) ?_
                        refine pr_i2 (a := x1) (b := 1) rfl rfl ?_
                        show pr K K d tb_M146 269 [(3, vi (t 170 5)), (2, vi z7), (0, .ref 170), (1, vi x1)] [vi (ipl x1 1), vi 0, .ref 170] s40 _
                        have h41 : i32 (ipl x1 1) := i32_in _
                        refine pr_m1 (args := [vi 0, vi (ipl x1 1)]) (rest := []) rfl rfl rfl rfl (Nat.le_of_ble_eq_true rfl) rfl (h_144 s40 t40 0 (ipl x1 1) hE40 (i32_n rfl) h41) ?_
                        rintro _ z42 t42 s42 ⟨rfl, hz42⟩ hE42
                        show pr K K d tb_M146 272 [(3, vi (t 170 5)), (2, vi z7), (0, .ref 170), (1, vi x1)] [vi z42] s42 _
                        by_cases h43 : z42 = 0
                        · refine mq_t h43 ?_
                          refine pr_if1t rfl rfl (i32_z hz42) h43 ?_
                          refine pr_n (pc2 := 286) (lv2 := [(3, vi (t 170 5)), (2, vi z7), (0, .ref 170), (1, vi x1)]) (st2 := [vi 0]) 1 (fun _ _ => rfl) ?_
                          refine pr_end (fun _ _ => rfl) ?_
                          exact .inl ⟨_, 0, _, rfl, ⟨rfl, (by decide)⟩, rfl, hE42⟩
                        · refine mq_f h43 ?_
                          refine pr_if1f rfl rfl (i32_z hz42) h43 ?_
                          refine pr_n (pc2 := 279) (lv2 := [(3, vi (t 170 5)), (2, vi z7), (0, .ref 170), (1, vi x1)]) (st2 := [.ref 44, .ref 170]) 2 (fun _ _ => rfl) ?_
                          refine pr_m1 (args := [.ref 44]) (rest := []) rfl rfl rfl rfl (Nat.le_of_ble_eq_true rfl) rfl (h_136 s42 t42 44 hE42 isX_44) ?_
                          rintro _ z44 t44 s44 ⟨rfl, hz44⟩ hE44
                          show pr K K d tb_M146 282 [(3, vi (t 170 5)), (2, vi z7), (0, .ref 170), (1, vi x1)] [vi z44] s44 _
                          by_cases h45 : z44 ≠ 0
                          · refine mq_t h45 ?_
                            refine pr_if1t rfl rfl (i32_z hz44) h45 ?_
                            refine pr_n (pc2 := 290) (lv2 := [(3, vi (t 170 5)), (2, vi z7), (0, .ref 170), (1, vi x1)]) (st2 := [.ref 170, vi 4, .ref 170]) 3 (fun _ _ => rfl) ?_
                            refine pr_get (v := .ref 175) rfl rfl rfl (by decide) (rv_ref (hE44.2.1 170 12 175 rfl)) fun _ => ?_
                            refine pr_n (pc2 := 294) (lv2 := [(3, vi (t 170 5)), (2, vi z7), (0, .ref 170), (1, vi x1)]) (st2 := [vi z7, .ref 175, vi 4, .ref 170]) 1 (fun _ _ => rfl) ?_
                            refine pr_aE (k2 := 175) (a := z7) (v := vi (t44 175 z7.toNat)) hE44 rfl rfl rfl hz7 (by decide) rfl rfl rfl fun h47 h48 h46 => ?_
                            have h46 : i32 (t44 175 z7.toNat) := h46
                            refine pr_s1 (args := [vi 4, vi (t44 175 z7.toNat)]) (rest := []) rfl rfl rfl rfl (Nat.le_of_ble_eq_true rfl) rfl (h_147 s44 t44 4 (t44 175 z7.toNat) hE44 (i32_n rfl) h46) q_pt2 ?_
                            rintro _ s49 ⟨rfl, _⟩ hE49
                            show pr K K d tb_M146 298 [(3, vi (t 170 5)), (2, vi z7), (0, .ref 170), (1, vi x1)] [] s49 _
                            refine pr_n (pc2 := 299) (lv2 := [(3, vi (t 170 5)), (2, vi z7), (0, .ref 170), (1, vi x1)]) (st2 := [vi 1]) 1 (fun _ _ => rfl) ?_
                            refine pr_end (fun _ _ => rfl) ?_
                            exact .inl ⟨_, 1, _, rfl, ⟨rfl, (by decide)⟩, rfl, hE49⟩
                          · refine mq_f h45 ?_
                            refine pr_if1f rfl rfl (i32_z hz44) h45 ?_
                            refine pr_n (pc2 := 286) (lv2 := [(3, vi (t 170 5)), (2, vi z7), (0, .ref 170), (1, vi x1)]) (st2 := [vi 0]) 1 (fun _ _ => rfl) ?_
                            refine pr_end (fun _ _ => rfl) ?_
                            exact .inl ⟨_, 0, _, rfl, ⟨rfl, (by decide)⟩, rfl, hE44⟩
                      · refine mq_f h39 ?_
                        refine pr_if2f rfl rfl hx1 (i32_n rfl) h39 ?_
                        refine pr_n (pc2 := 256) (lv2 := [(3, vi (t 170 5)), (2, vi z7), (0, .ref 170), (1, vi x1)]) (st2 := [.ref 170]) 1 (fun _ _ => rfl) ?_
                        refine pr_s1 (args := []) (rest := []) rfl rfl rfl rfl (Nat.le_of_ble_eq_true rfl) rfl (h_131 s34 (up2 ((prt t23)) 170 23 (lo (t23 170 23) (lsl 1 (ipl 0 (t23 175 z7.toNat)))))  hE34 ) q_bad0 ?_
                        rintro _ s50 ⟨rfl, hz50⟩ hE50
                        show pr K K d tb_M146 259 [(3, vi (t 170 5)), (2, vi z7), (0, .ref 170), (1, vi x1)] [vi 0] s50 _
                        refine pr_end (fun _ _ => rfl) ?_
                        exact .inl ⟨_, 0, _, rfl, ⟨rfl, (by decide)⟩, rfl, hE50⟩
                    · refine mq_f h38 ?_
                      refine pr_if1f rfl rfl h35 h38 ?_
                      refine pr_n (pc2 := 239) (lv2 := [(3, vi (t 170 5)), (2, vi z7), (0, .ref 170), (1, vi x1)]) (st2 := [.ref 170, vi 3, .ref 170]) 3 (fun _ _ => rfl) ?_
                      refine pr_get (v := .ref 175) rfl rfl rfl (by decide) (rv_ref (hE34.2.1 170 12 175 rfl)) fun _ => ?_
                      refine pr_n (pc2 := 243) (lv2 := [(3, vi (t 170 5)), (2, vi z7), (0, .ref 170), (1, vi x1)]) (st2 := [vi z7, .ref 175, vi 3, .ref 170]) 1 (fun _ _ => rfl) ?_
                      refine pr_aE (k2 := 175) (a := z7) (v := vi (t23 175 z7.toNat)) hE34 rfl rfl rfl hz7 (by decide) rfl rfl rfl fun h52 h53 h51 => ?_
                      have h51 : i32 (t23 175 z7.toNat) := h51
                      refine pr_s1 (args := [vi 3, vi (t23 175 z7.toNat)]) (rest := []) rfl rfl rfl rfl (Nat.le_of_ble_eq_true rfl) rfl (h_147 s34 (up2 ((prt t23)) 170 23 (lo (t23 170 23) (lsl 1 (ipl 0 (t23 175 z7.toNat))))) 3 (t23 175 z7.toNat) hE34 (i32_n rfl) h51) q_pt2 ?_
                      rintro _ s54 ⟨rfl, _⟩ hE54
                      show pr K K d tb_M146 247 [(3, vi (t 170 5)), (2, vi z7), (0, .ref 170), (1, vi x1)] [] s54 _
                      refine pr_n (pc2 := 248) (lv2 := [(3, vi (t 170 5)), (2, vi z7), (0, .ref 170), (1, vi x1)]) (st2 := [vi 1]) 1 (fun _ _ => rfl) ?_
                      refine pr_end (fun _ _ => rfl) ?_
                      exact .inl ⟨_, 1, _, rfl, ⟨rfl, (by decide)⟩, rfl, hE54⟩
                  · refine mq_f h29 ?_
                    refine pr_if2f rfl rfl h26 (i32_n rfl) h29 ?_
                    refine pr_n (pc2 := 216) (lv2 := [(3, vi (t 170 5)), (2, vi z7), (0, .ref 170), (1, vi x1)]) (st2 := [.ref 170, vi 24, vl 1, vl (t23 170 23), .ref 170]) 3 (fun _ _ => rfl) ?_
                    refine pr_get (v := .ref 175) rfl rfl rfl (by decide) (rv_ref (hE24.2.1 170 12 175 rfl)) fun _ => ?_
                    refine pr_n (pc2 := 220) (lv2 := [(3, vi (t 170 5)), (2, vi z7), (0, .ref 170), (1, vi x1)]) (st2 := [vi z7, .ref 175, vi 24, vl 1, vl (t23 170 23), .ref 170]) 1 (fun _ _ => rfl) ?_
                    refine pr_aE (k2 := 175) (a := z7) (v := vi (t23 175 z7.toNat)) hE24 rfl rfl rfl hz7 (by decide) rfl rfl rfl fun h56 h57 h55 => ?_
                    have h55 : i32 (t23 175 z7.toNat) := h55
                    refine pr_i2 (a := 24) (b := t23 175 z7.toNat) rfl rfl ?_
                    show pr K K d tb_M146 222 [(3, vi (t 170 5)), (2, vi z7), (0, .ref 170), (1, vi x1)] [vi (ipl 24 (t23 175 z7.toNat)), vl 1, vl (t23 170 23), .ref 170] s24 _
                    have h58 : i32 (ipl 24 (t23 175 z7.toNat)) := i32_in _
                    refine pr_lshl (a := 1) (b := ipl 24 (t23 175 z7.toNat)) rfl ?_
                    refine pr_l2 (a := t23 170 23) (b := lsl 1 (ipl 24 (t23 175 z7.toNat))) rfl rfl ?_
                    show pr K K d tb_M146 224 [(3, vi (t 170 5)), (2, vi z7), (0, .ref 170), (1, vi x1)] [vl (lo (t23 170 23) (lsl 1 (ipl 24 (t23 175 z7.toNat)))), .ref 170] s24 _
                    refine pr_pE (k2 := 170) (z := lo (t23 170 23) (lsl 1 (ipl 24 (t23 175 z7.toNat)))) hE24 rfl rfl rfl rfl (by decide) rfl (by decide) rfl (i64_in _) (fit_l _) rfl rfl rfl (fun e => absurd e.2 (by decide)) (fun _ => trivial) fun s59 hE59 => ?_
                    refine pr_n (pc2 := 228) (lv2 := [(3, vi (t 170 5)), (2, vi z7), (0, .ref 170), (1, vi x1)]) (st2 := [.ref 170]) 1 (fun _ _ => rfl) ?_
                    refine pr_get (v := .ref 174) rfl rfl rfl (by decide) (rv_ref (hE59.2.1 170 11 174 rfl)) fun _ => ?_
                    refine pr_n (pc2 := 232) (lv2 := [(3, vi (t 170 5)), (2, vi z7), (0, .ref 170), (1, vi x1)]) (st2 := [vi z7, .ref 174]) 1 (fun _ _ => rfl) ?_
                    refine pr_aE (k2 := 174) (a := z7) (v := vi (t23 174 z7.toNat)) hE59 rfl rfl rfl hz7 (by decide) rfl rfl rfl fun h61 h62 h60 => ?_
                    have h60 : i32 (t23 174 z7.toNat) := h60
                    by_cases h63 : t23 174 z7.toNat ≠ 0
                    · refine mq_t h63 ?_
                      refine pr_if1t rfl rfl h60 h63 ?_
                      refine pr_n (pc2 := 252) (lv2 := [(3, vi (t 170 5)), (2, vi z7), (0, .ref 170), (1, vi x1)]) (st2 := [vi 20, vi x1]) 2 (fun _ _ => rfl) ?_
                      by_cases h64 : x1 ≠ 20
                      · refine mq_t h64 ?_
                        refine pr_if2t rfl rfl hx1 (i32_n rfl) h64 ?_
                        refine pr_n (pc2 := 261) (lv2 := [(3, vi (t 170 5)), (2, vi z7), (0, .ref 170), (1, vi x1)]) (st2 := [.ref 170]) 1 (fun _ _ => rfl) ?_
                        refine pr_m1 (args := []) (rest := []) rfl rfl rfl rfl (Nat.le_of_ble_eq_true rfl) rfl (h_123 s59 (up2 ((prt t23)) 170 23 (lo (t23 170 23) (lsl 1 (ipl 24 (t23 175 z7.toNat)))))  hE59 ) ?_
                        rintro _ _ t65 s65 ⟨rfl, rfl⟩ hE65
                        show pr K K d tb_M146 264 [(3, vi (t 170 5)), (2, vi z7), (0, .ref 170), (1, vi x1)] [] s65 _
                        refine pr_n (pc2 := 268) (lv2 := [(3, vi (t 170 5)), (2, vi z7), (0, .ref 170), (1, vi x1)]) (st2 := [vi 1, vi x1, vi 0, .ref 170]) 4 (fun _ _ => rfl) ?_
                        refine pr_i2 (a := x1) (b := 1) rfl rfl ?_
                        show pr K K d tb_M146 269 [(3, vi (t 170 5)), (2, vi z7), (0, .ref 170), (1, vi x1)] [vi (ipl x1 1), vi 0, .ref 170] s65 _
                        have h66 : i32 (ipl x1 1) := i32_in _
                        refine pr_m1 (args := [vi 0, vi (ipl x1 1)]) (rest := []) rfl rfl rfl rfl (Nat.le_of_ble_eq_true rfl) rfl (h_144 s65 t65 0 (ipl x1 1) hE65 (i32_n rfl) h66) ?_
                        rintro _ z67 t67 s67 ⟨rfl, hz67⟩ hE67
                        show pr K K d tb_M146 272 [(3, vi (t 170 5)), (2, vi z7), (0, .ref 170), (1, vi x1)] [vi z67] s67 _
                        by_cases h68 : z67 = 0
                        · refine mq_t h68 ?_
                          refine pr_if1t rfl rfl (i32_z hz67) h68 ?_
                          refine pr_n (pc2 := 286) (lv2 := [(3, vi (t 170 5)), (2, vi z7), (0, .ref 170), (1, vi x1)]) (st2 := [vi 0]) 1 (fun _ _ => rfl) ?_
                          refine pr_end (fun _ _ => rfl) ?_
                          exact .inl ⟨_, 0, _, rfl, ⟨rfl, (by decide)⟩, rfl, hE67⟩
                        · refine mq_f h68 ?_
                          refine pr_if1f rfl rfl (i32_z hz67) h68 ?_
                          refine pr_n (pc2 := 279) (lv2 := [(3, vi (t 170 5)), (2, vi z7), (0, .ref 170), (1, vi x1)]) (st2 := [.ref 44, .ref 170]) 2 (fun _ _ => rfl) ?_
                          refine pr_m1 (args := [.ref 44]) (rest := []) rfl rfl rfl rfl (Nat.le_of_ble_eq_true rfl) rfl (h_136 s67 t67 44 hE67 isX_44) ?_
                          rintro _ z69 t69 s69 ⟨rfl, hz69⟩ hE69
                          show pr K K d tb_M146 282 [(3, vi (t 170 5)), (2, vi z7), (0, .ref 170), (1, vi x1)] [vi z69] s69 _
                          by_cases h70 : z69 ≠ 0
                          · refine mq_t h70 ?_
                            refine pr_if1t rfl rfl (i32_z hz69) h70 ?_
                            refine pr_n (pc2 := 290) (lv2 := [(3, vi (t 170 5)), (2, vi z7), (0, .ref 170), (1, vi x1)]) (st2 := [.ref 170, vi 4, .ref 170]) 3 (fun _ _ => rfl) ?_
                            refine pr_get (v := .ref 175) rfl rfl rfl (by decide) (rv_ref (hE69.2.1 170 12 175 rfl)) fun _ => ?_
                            refine pr_n (pc2 := 294) (lv2 := [(3, vi (t 170 5)), (2, vi z7), (0, .ref 170), (1, vi x1)]) (st2 := [vi z7, .ref 175, vi 4, .ref 170]) 1 (fun _ _ => rfl) ?_
                            refine pr_aE (k2 := 175) (a := z7) (v := vi (t69 175 z7.toNat)) hE69 rfl rfl rfl hz7 (by decide) rfl rfl rfl fun h72 h73 h71 => ?_
                            have h71 : i32 (t69 175 z7.toNat) := h71
                            refine pr_s1 (args := [vi 4, vi (t69 175 z7.toNat)]) (rest := []) rfl rfl rfl rfl (Nat.le_of_ble_eq_true rfl) rfl (h_147 s69 t69 4 (t69 175 z7.toNat) hE69 (i32_n rfl) h71) q_pt2 ?_
                            rintro _ s74 ⟨rfl, _⟩ hE74
                            show pr K K d tb_M146 298 [(3, vi (t 170 5)), (2, vi z7), (0, .ref 170), (1, vi x1)] [] s74 _
                            refine pr_n (pc2 := 299) (lv2 := [(3, vi (t 170 5)), (2, vi z7), (0, .ref 170), (1, vi x1)]) (st2 := [vi 1]) 1 (fun _ _ => rfl) ?_
                            refine pr_end (fun _ _ => rfl) ?_
                            exact .inl ⟨_, 1, _, rfl, ⟨rfl, (by decide)⟩, rfl, hE74⟩
                          · refine mq_f h70 ?_
                            refine pr_if1f rfl rfl (i32_z hz69) h70 ?_
                            refine pr_n (pc2 := 286) (lv2 := [(3, vi (t 170 5)), (2, vi z7), (0, .ref 170), (1, vi x1)]) (st2 := [vi 0]) 1 (fun _ _ => rfl) ?_
                            refine pr_end (fun _ _ => rfl) ?_
                            exact .inl ⟨_, 0, _, rfl, ⟨rfl, (by decide)⟩, rfl, hE69⟩
                      · refine mq_f h64 ?_
                        refine pr_if2f rfl rfl hx1 (i32_n rfl) h64 ?_
                        refine pr_n (pc2 := 256) (lv2 := [(3, vi (t 170 5)), (2, vi z7), (0, .ref 170), (1, vi x1)]) (st2 := [.ref 170]) 1 (fun _ _ => rfl) ?_
                        refine pr_s1 (args := []) (rest := []) rfl rfl rfl rfl (Nat.le_of_ble_eq_true rfl) rfl (h_131 s59 (up2 ((prt t23)) 170 23 (lo (t23 170 23) (lsl 1 (ipl 24 (t23 175 z7.toNat)))))  hE59 ) q_bad0 ?_
                        rintro _ s75 ⟨rfl, hz75⟩ hE75
                        show pr K K d tb_M146 259 [(3, vi (t 170 5)), (2, vi z7), (0, .ref 170), (1, vi x1)] [vi 0] s75 _
                        refine pr_end (fun _ _ => rfl) ?_
                        exact .inl ⟨_, 0, _, rfl, ⟨rfl, (by decide)⟩, rfl, hE75⟩
                    · refine mq_f h63 ?_
                      refine pr_if1f rfl rfl h60 h63 ?_
                      refine pr_n (pc2 := 239) (lv2 := [(3, vi (t 170 5)), (2, vi z7), (0, .ref 170), (1, vi x1)]) (st2 := [.ref 170, vi 3, .ref 170]) 3 (fun _ _ => rfl) ?_
                      refine pr_get (v := .ref 175) rfl rfl rfl (by decide) (rv_ref (hE59.2.1 170 12 175 rfl)) fun _ => ?_
                      refine pr_n (pc2 := 243) (lv2 := [(3, vi (t 170 5)), (2, vi z7), (0, .ref 170), (1, vi x1)]) (st2 := [vi z7, .ref 175, vi 3, .ref 170]) 1 (fun _ _ => rfl) ?_
                      refine pr_aE (k2 := 175) (a := z7) (v := vi (t23 175 z7.toNat)) hE59 rfl rfl rfl hz7 (by decide) rfl rfl rfl fun h77 h78 h76 => ?_
                      have h76 : i32 (t23 175 z7.toNat) := h76
                      refine pr_s1 (args := [vi 3, vi (t23 175 z7.toNat)]) (rest := []) rfl rfl rfl rfl (Nat.le_of_ble_eq_true rfl) rfl (h_147 s59 (up2 ((prt t23)) 170 23 (lo (t23 170 23) (lsl 1 (ipl 24 (t23 175 z7.toNat))))) 3 (t23 175 z7.toNat) hE59 (i32_n rfl) h76) q_pt2 ?_
                      rintro _ s79 ⟨rfl, _⟩ hE79
                      show pr K K d tb_M146 247 [(3, vi (t 170 5)), (2, vi z7), (0, .ref 170), (1, vi x1)] [] s79 _
                      refine pr_n (pc2 := 248) (lv2 := [(3, vi (t 170 5)), (2, vi z7), (0, .ref 170), (1, vi x1)]) (st2 := [vi 1]) 1 (fun _ _ => rfl) ?_
                      refine pr_end (fun _ _ => rfl) ?_
                      exact .inl ⟨_, 1, _, rfl, ⟨rfl, (by decide)⟩, rfl, hE79⟩
                · refine mq_f h22 ?_
                  refine pr_if2f rfl rfl h19 (i32_n rfl) h22 ?_
                  refine pr_n (pc2 := 160) (lv2 := [(3, vi (t 170 5)), (2, vi z7), (0, .ref 170), (1, vi x1)]) (st2 := [.ref 170]) 1 (fun _ _ => rfl) ?_
                  refine pr_get (v := .ref 175) rfl rfl rfl (by decide) (rv_ref (hE16.2.1 170 12 175 rfl)) fun _ => ?_
                  refine pr_n (pc2 := 164) (lv2 := [(3, vi (t 170 5)), (2, vi z7), (0, .ref 170), (1, vi x1)]) (st2 := [vi z7, .ref 175]) 1 (fun _ _ => rfl) ?_
                  refine pr_aE (k2 := 175) (a := z7) (v := vi (t 175 z7.toNat)) hE16 rfl rfl rfl hz7 (by decide) rfl rfl rfl fun h81 h82 h80 => ?_
                  have h80 : i32 (t 175 z7.toNat) := h80
                  refine pr_n (pc2 := 166) (lv2 := [(3, vi (t 170 5)), (2, vi z7), (0, .ref 170), (1, vi x1)]) (st2 := [.ref 170, vi (t 175 z7.toNat)]) 1 (fun _ _ => rfl) ?_
                  refine pr_gE (k2 := 170) (v := vi (t 170 35)) hE16 rfl rfl rfl (by decide) rfl rfl rfl fun h83 => ?_
                  have h83 : i32 (t 170 35) := h83
                  by_cases h84 : t 175 z7.toNat ≠ t 170 35
                  · refine mq_t h84 ?_
                    refine pr_if2t rfl rfl h80 h83 h84 ?_
                    refine pr_n (pc2 := 181) (lv2 := [(3, vi (t 170 5)), (2, vi z7), (0, .ref 170), (1, vi x1)]) (st2 := [vi x1, vi (t 170 5), vi z7, .ref 170]) 4 (fun _ _ => rfl) ?_
                    refine pr_m1 (args := [vi z7, vi (t 170 5), vi x1]) (rest := []) rfl rfl rfl rfl (Nat.le_of_ble_eq_true rfl) rfl (h_149 s16 t z7 (t 170 5) x1 hE16 hz7 h8 hx1) ?_
                    rintro _ z85 t85 s85 ⟨rfl, hz85⟩ hE85
                    show pr K K d tb_M146 184 [(3, vi (t 170 5)), (2, vi z7), (0, .ref 170), (1, vi x1)] [vi z85] s85 _
                    refine pr_retz rfl rfl hz85 ?_
                    exact .inl ⟨_, z85, _, rfl, ⟨rfl, hz85⟩, rfl, hE85⟩
                  · refine mq_f h84 ?_
                    refine pr_if2f rfl rfl h80 h83 h84 ?_
                    refine pr_n (pc2 := 173) (lv2 := [(3, vi (t 170 5)), (2, vi z7), (0, .ref 170), (1, vi x1)]) (st2 := [.ref 170]) 1 (fun _ _ => rfl) ?_
                    refine pr_s1 (args := []) (rest := []) rfl rfl rfl rfl (Nat.le_of_ble_eq_true rfl) rfl (h_131 s16 t  hE16 ) q_bad0 ?_
                    rintro _ s86 ⟨rfl, hz86⟩ hE86
                    show pr K K d tb_M146 176 [(3, vi (t 170 5)), (2, vi z7), (0, .ref 170), (1, vi x1)] [vi 0] s86 _
                    refine pr_end (fun _ _ => rfl) ?_
                    exact .inl ⟨_, 0, _, rfl, ⟨rfl, (by decide)⟩, rfl, hE86⟩
              · refine mq_f h18 ?_
                refine pr_if2f rfl rfl h11 (i32_n rfl) h18 ?_
                refine pr_n (pc2 := 144) (lv2 := [(3, vi (t 170 5)), (2, vi z7), (0, .ref 170), (1, vi x1)]) (st2 := [.ref 170]) 1 (fun _ _ => rfl) ?_
                refine pr_s1 (args := []) (rest := []) rfl rfl rfl rfl (Nat.le_of_ble_eq_true rfl) rfl (h_131 s16 t  hE16 ) q_bad0 ?_
                rintro _ s87 ⟨rfl, hz87⟩ hE87
                show pr K K d tb_M146 147 [(3, vi (t 170 5)), (2, vi z7), (0, .ref 170), (1, vi x1)] [vi 0] s87 _
                refine pr_end (fun _ _ => rfl) ?_
                exact .inl ⟨_, 0, _, rfl, ⟨rfl, (by decide)⟩, rfl, hE87⟩
            · refine mq_f h17 ?_
              refine pr_if1f rfl rfl (i32_z hz16) h17 ?_
              refine pr_n (pc2 := 140) (lv2 := [(3, vi (t 170 5)), (2, vi z7), (0, .ref 170), (1, vi x1)]) (st2 := [vi 6, vi (t 174 z7.toNat)]) 2 (fun _ _ => rfl) ?_
              by_cases h88 : t 174 z7.toNat = 6
              · refine mq_t h88 ?_
                refine pr_if2t rfl rfl h11 (i32_n rfl) h88 ?_
                refine pr_n (pc2 := 149) (lv2 := [(3, vi (t 170 5)), (2, vi z7), (0, .ref 170), (1, vi x1)]) (st2 := [.ref 170]) 1 (fun _ _ => rfl) ?_
                refine pr_get (v := .ref 174) rfl rfl rfl (by decide) (rv_ref (hE16.2.1 170 11 174 rfl)) fun _ => ?_
                refine pr_n (pc2 := 153) (lv2 := [(3, vi (t 170 5)), (2, vi z7), (0, .ref 170), (1, vi x1)]) (st2 := [vi z7, .ref 174]) 1 (fun _ _ => rfl) ?_
                refine pr_aE (k2 := 174) (a := z7) (v := vi (t 174 z7.toNat)) hE16 rfl rfl rfl hz7 (by decide) rfl rfl rfl fun h90 h91 h89 => ?_
                have h89 : i32 (t 174 z7.toNat) := h89
                refine pr_n (pc2 := 156) (lv2 := [(3, vi (t 170 5)), (2, vi z7), (0, .ref 170), (1, vi x1)]) (st2 := [vi 6, vi (t 174 z7.toNat)]) 1 (fun _ _ => rfl) ?_
                refine pr_if2f rfl rfl h89 (i32_n rfl) (show ¬ (t 174 z7.toNat ≠ 6) by omega) ?_
                show pr K K d tb_M146 159 [(3, vi (t 170 5)), (2, vi z7), (0, .ref 170), (1, vi x1)] [] s16 _
                refine pr_n (pc2 := 160) (lv2 := [(3, vi (t 170 5)), (2, vi z7), (0, .ref 170), (1, vi x1)]) (st2 := [.ref 170]) 1 (fun _ _ => rfl) ?_
                refine pr_get (v := .ref 175) rfl rfl rfl (by decide) (rv_ref (hE16.2.1 170 12 175 rfl)) fun _ => ?_
                refine pr_n (pc2 := 164) (lv2 := [(3, vi (t 170 5)), (2, vi z7), (0, .ref 170), (1, vi x1)]) (st2 := [vi z7, .ref 175]) 1 (fun _ _ => rfl) ?_
                refine pr_aE (k2 := 175) (a := z7) (v := vi (t 175 z7.toNat)) hE16 rfl rfl rfl hz7 (by decide) rfl rfl rfl fun h93 h94 h92 => ?_
                have h92 : i32 (t 175 z7.toNat) := h92
                refine pr_n (pc2 := 166) (lv2 := [(3, vi (t 170 5)), (2, vi z7), (0, .ref 170), (1, vi x1)]) (st2 := [.ref 170, vi (t 175 z7.toNat)]) 1 (fun _ _ => rfl) ?_
                refine pr_gE (k2 := 170) (v := vi (t 170 35)) hE16 rfl rfl rfl (by decide) rfl rfl rfl fun h95 => ?_
                have h95 : i32 (t 170 35) := h95
                by_cases h96 : t 175 z7.toNat ≠ t 170 35
                · refine mq_t h96 ?_
                  refine pr_if2t rfl rfl h92 h95 h96 ?_
                  refine pr_n (pc2 := 181) (lv2 := [(3, vi (t 170 5)), (2, vi z7), (0, .ref 170), (1, vi x1)]) (st2 := [vi x1, vi (t 170 5), vi z7, .ref 170]) 4 (fun _ _ => rfl) ?_
                  refine pr_m1 (args := [vi z7, vi (t 170 5), vi x1]) (rest := []) rfl rfl rfl rfl (Nat.le_of_ble_eq_true rfl) rfl (h_149 s16 t z7 (t 170 5) x1 hE16 hz7 h8 hx1) ?_
                  rintro _ z97 t97 s97 ⟨rfl, hz97⟩ hE97
                  show pr K K d tb_M146 184 [(3, vi (t 170 5)), (2, vi z7), (0, .ref 170), (1, vi x1)] [vi z97] s97 _
                  refine pr_retz rfl rfl hz97 ?_
                  exact .inl ⟨_, z97, _, rfl, ⟨rfl, hz97⟩, rfl, hE97⟩
                · refine mq_f h96 ?_
                  refine pr_if2f rfl rfl h92 h95 h96 ?_
                  refine pr_n (pc2 := 173) (lv2 := [(3, vi (t 170 5)), (2, vi z7), (0, .ref 170), (1, vi x1)]) (st2 := [.ref 170]) 1 (fun _ _ => rfl) ?_
                  refine pr_s1 (args := []) (rest := []) rfl rfl rfl rfl (Nat.le_of_ble_eq_true rfl) rfl (h_131 s16 t  hE16 ) q_bad0 ?_
                  rintro _ s98 ⟨rfl, hz98⟩ hE98
                  show pr K K d tb_M146 176 [(3, vi (t 170 5)), (2, vi z7), (0, .ref 170), (1, vi x1)] [vi 0] s98 _
                  refine pr_end (fun _ _ => rfl) ?_
                  exact .inl ⟨_, 0, _, rfl, ⟨rfl, (by decide)⟩, rfl, hE98⟩
              · refine mq_f h88 ?_
                refine pr_if2f rfl rfl h11 (i32_n rfl) h88 ?_
                refine pr_n (pc2 := 144) (lv2 := [(3, vi (t 170 5)), (2, vi z7), (0, .ref 170), (1, vi x1)]) (st2 := [.ref 170]) 1 (fun _ _ => rfl) ?_
                refine pr_s1 (args := []) (rest := []) rfl rfl rfl rfl (Nat.le_of_ble_eq_true rfl) rfl (h_131 s16 t  hE16 ) q_bad0 ?_
                rintro _ s99 ⟨rfl, hz99⟩ hE99
                show pr K K d tb_M146 147 [(3, vi (t 170 5)), (2, vi z7), (0, .ref 170), (1, vi x1)] [vi 0] s99 _
                refine pr_end (fun _ _ => rfl) ?_
                exact .inl ⟨_, 0, _, rfl, ⟨rfl, (by decide)⟩, rfl, hE99⟩
          · refine mq_f h15 ?_
            refine pr_if1f rfl rfl (i32_z hz14) h15 ?_
            refine pr_n (pc2 := 140) (lv2 := [(3, vi (t 170 5)), (2, vi z7), (0, .ref 170), (1, vi x1)]) (st2 := [vi 1, vi (t 174 z7.toNat)]) 2 (fun _ _ => rfl) ?_
            by_cases h100 : t 174 z7.toNat = 1
            · refine mq_t h100 ?_
              refine pr_if2t rfl rfl h11 (i32_n rfl) h100 ?_
              refine pr_n (pc2 := 149) (lv2 := [(3, vi (t 170 5)), (2, vi z7), (0, .ref 170), (1, vi x1)]) (st2 := [.ref 170]) 1 (fun _ _ => rfl) ?_
              refine pr_get (v := .ref 174) rfl rfl rfl (by decide) (rv_ref (hE14.2.1 170 11 174 rfl)) fun _ => ?_
              refine pr_n (pc2 := 153) (lv2 := [(3, vi (t 170 5)), (2, vi z7), (0, .ref 170), (1, vi x1)]) (st2 := [vi z7, .ref 174]) 1 (fun _ _ => rfl) ?_
              refine pr_aE (k2 := 174) (a := z7) (v := vi (t 174 z7.toNat)) hE14 rfl rfl rfl hz7 (by decide) rfl rfl rfl fun h102 h103 h101 => ?_
              have h101 : i32 (t 174 z7.toNat) := h101
              refine pr_n (pc2 := 156) (lv2 := [(3, vi (t 170 5)), (2, vi z7), (0, .ref 170), (1, vi x1)]) (st2 := [vi 6, vi (t 174 z7.toNat)]) 1 (fun _ _ => rfl) ?_
              by_cases h104 : t 174 z7.toNat ≠ 6
              · refine mq_t h104 ?_
                refine pr_if2t rfl rfl h101 (i32_n rfl) h104 ?_
                refine pr_n (pc2 := 186) (lv2 := [(3, vi (t 170 5)), (2, vi z7), (0, .ref 170), (1, vi x1)]) (st2 := [.ref 170]) 1 (fun _ _ => rfl) ?_
                refine pr_m1 (args := []) (rest := []) rfl rfl rfl rfl (Nat.le_of_ble_eq_true rfl) rfl (h_123 s14 t  hE14 ) ?_
                rintro _ _ t105 s105 ⟨rfl, rfl⟩ hE105
                show pr K K d tb_M146 189 [(3, vi (t 170 5)), (2, vi z7), (0, .ref 170), (1, vi x1)] [] s105 _
                refine pr_n (pc2 := 190) (lv2 := [(3, vi (t 170 5)), (2, vi z7), (0, .ref 170), (1, vi x1)]) (st2 := [.ref 170]) 1 (fun _ _ => rfl) ?_
                refine pr_s1 (args := []) (rest := []) rfl rfl rfl rfl (Nat.le_of_ble_eq_true rfl) rfl (h_142 s105 t105  hE105 ) q_prt ?_
                rintro _ s106 ⟨rfl, _⟩ hE106
                show pr K K d tb_M146 193 [(3, vi (t 170 5)), (2, vi z7), (0, .ref 170), (1, vi x1)] [] s106 _
                refine pr_n (pc2 := 195) (lv2 := [(3, vi (t 170 5)), (2, vi z7), (0, .ref 170), (1, vi x1)]) (st2 := [.ref 170, .ref 170]) 2 (fun _ _ => rfl) ?_
                refine pr_gE (k2 := 170) (v := vl (t105 170 23)) hE106 rfl rfl rfl (by decide) rfl rfl rfl fun h107 => ?_
                have h107 : i64 (t105 170 23) := h107
                refine pr_n (pc2 := 200) (lv2 := [(3, vi (t 170 5)), (2, vi z7), (0, .ref 170), (1, vi x1)]) (st2 := [.ref 170, vl 1, vl (t105 170 23), .ref 170]) 2 (fun _ _ => rfl) ?_
                refine pr_get (v := .ref 174) rfl rfl rfl (by decide) (rv_ref (hE106.2.1 170 11 174 rfl)) fun _ => ?_
                refine pr_n (pc2 := 204) (lv2 := [(3, vi (t 170 5)), (2, vi z7), (0, .ref 170), (1, vi x1)]) (st2 := [vi z7, .ref 174, vl 1, vl (t105 170 23), .ref 170]) 1 (fun _ _ => rfl) ?_
                refine pr_aE (k2 := 174) (a := z7) (v := vi (t105 174 z7.toNat)) hE106 rfl rfl rfl hz7 (by decide) rfl rfl rfl fun h109 h110 h108 => ?_
                have h108 : i32 (t105 174 z7.toNat) := h108
                refine pr_n (pc2 := 206) (lv2 := [(3, vi (t 170 5)), (2, vi z7), (0, .ref 170), (1, vi x1)]) (st2 := [vi 1, vi (t105 174 z7.toNat), vl 1, vl (t105 170 23), .ref 170]) 1 (fun _ _ => rfl) ?_
                by_cases h111 : t105 174 z7.toNat ≠ 1
                · refine mq_t h111 ?_
                  refine pr_if2t rfl rfl h108 (i32_n rfl) h111 ?_
                  refine pr_n (pc2 := 216) (lv2 := [(3, vi (t 170 5)), (2, vi z7), (0, .ref 170), (1, vi x1)]) (st2 := [.ref 170, vi 0, vl 1, vl (t105 170 23), .ref 170]) 2 (fun _ _ => rfl) ?_
                  refine pr_get (v := .ref 175) rfl rfl rfl (by decide) (rv_ref (hE106.2.1 170 12 175 rfl)) fun _ => ?_
                  refine pr_n (pc2 := 220) (lv2 := [(3, vi (t 170 5)), (2, vi z7), (0, .ref 170), (1, vi x1)]) (st2 := [vi z7, .ref 175, vi 0, vl 1, vl (t105 170 23), .ref 170]) 1 (fun _ _ => rfl) ?_
                  refine pr_aE (k2 := 175) (a := z7) (v := vi (t105 175 z7.toNat)) hE106 rfl rfl rfl hz7 (by decide) rfl rfl rfl fun h113 h114 h112 => ?_
                  have h112 : i32 (t105 175 z7.toNat) := h112
                  refine pr_i2 (a := 0) (b := t105 175 z7.toNat) rfl rfl ?_
                  show pr K K d tb_M146 222 [(3, vi (t 170 5)), (2, vi z7), (0, .ref 170), (1, vi x1)] [vi (ipl 0 (t105 175 z7.toNat)), vl 1, vl (t105 170 23), .ref 170] s106 _
                  have h115 : i32 (ipl 0 (t105 175 z7.toNat)) := i32_in _
                  refine pr_lshl (a := 1) (b := ipl 0 (t105 175 z7.toNat)) rfl ?_
                  refine pr_l2 (a := t105 170 23) (b := lsl 1 (ipl 0 (t105 175 z7.toNat))) rfl rfl ?_
                  show pr K K d tb_M146 224 [(3, vi (t 170 5)), (2, vi z7), (0, .ref 170), (1, vi x1)] [vl (lo (t105 170 23) (lsl 1 (ipl 0 (t105 175 z7.toNat)))), .ref 170] s106 _
                  refine pr_pE (k2 := 170) (z := lo (t105 170 23) (lsl 1 (ipl 0 (t105 175 z7.toNat)))) hE106 rfl rfl rfl rfl (by decide) rfl (by decide) rfl (i64_in _) (fit_l _) rfl rfl rfl (fun e => absurd e.2 (by decide)) (fun _ => trivial) fun s116 hE116 => ?_
                  refine pr_n (pc2 := 228) (lv2 := [(3, vi (t 170 5)), (2, vi z7), (0, .ref 170), (1, vi x1)]) (st2 := [.ref 170]) 1 (fun _ _ => rfl) ?_
                  refine pr_get (v := .ref 174) rfl rfl rfl (by decide) (rv_ref (hE116.2.1 170 11 174 rfl)) fun _ => ?_
                  refine pr_n (pc2 := 232) (lv2 := [(3, vi (t 170 5)), (2, vi z7), (0, .ref 170), (1, vi x1)]) (st2 := [vi z7, .ref 174]) 1 (fun _ _ => rfl) ?_
                  refine pr_aE (k2 := 174) (a := z7) (v := vi (t105 174 z7.toNat)) hE116 rfl rfl rfl hz7 (by decide) rfl rfl rfl fun h118 h119 h117 => ?_
                  have h117 : i32 (t105 174 z7.toNat) := h117
                  by_cases h120 : t105 174 z7.toNat ≠ 0
                  · refine mq_t h120 ?_
                    refine pr_if1t rfl rfl h117 h120 ?_
                    refine pr_n (pc2 := 252) (lv2 := [(3, vi (t 170 5)), (2, vi z7), (0, .ref 170), (1, vi x1)]) (st2 := [vi 20, vi x1]) 2 (fun _ _ => rfl) ?_
                    by_cases h121 : x1 ≠ 20
                    · refine mq_t h121 ?_
                      refine pr_if2t rfl rfl hx1 (i32_n rfl) h121 ?_
                      refine pr_n (pc2 := 261) (lv2 := [(3, vi (t 170 5)), (2, vi z7), (0, .ref 170), (1, vi x1)]) (st2 := [.ref 170]) 1 (fun _ _ => rfl) ?_
                      refine pr_m1 (args := []) (rest := []) rfl rfl rfl rfl (Nat.le_of_ble_eq_true rfl) rfl (h_123 s116 (up2 ((prt t105)) 170 23 (lo (t105 170 23) (lsl 1 (ipl 0 (t105 175 z7.toNat)))))  hE116 ) ?_
                      rintro _ _ t122 s122 ⟨rfl, rfl⟩ hE122
                      show pr K K d tb_M146 264 [(3, vi (t 170 5)), (2, vi z7), (0, .ref 170), (1, vi x1)] [] s122 _
                      refine pr_n (pc2 := 268) (lv2 := [(3, vi (t 170 5)), (2, vi z7), (0, .ref 170), (1, vi x1)]) (st2 := [vi 1, vi x1, vi 0, .ref 170]) 4 (fun _ _ => rfl) ?_
                      refine pr_i2 (a := x1) (b := 1) rfl rfl ?_
                      show pr K K d tb_M146 269 [(3, vi (t 170 5)), (2, vi z7), (0, .ref 170), (1, vi x1)] [vi (ipl x1 1), vi 0, .ref 170] s122 _
                      have h123 : i32 (ipl x1 1) := i32_in _
                      refine pr_m1 (args := [vi 0, vi (ipl x1 1)]) (rest := []) rfl rfl rfl rfl (Nat.le_of_ble_eq_true rfl) rfl (h_144 s122 t122 0 (ipl x1 1) hE122 (i32_n rfl) h123) ?_
                      rintro _ z124 t124 s124 ⟨rfl, hz124⟩ hE124
                      show pr K K d tb_M146 272 [(3, vi (t 170 5)), (2, vi z7), (0, .ref 170), (1, vi x1)] [vi z124] s124 _
                      by_cases h125 : z124 = 0
                      · refine mq_t h125 ?_
                        refine pr_if1t rfl rfl (i32_z hz124) h125 ?_
                        refine pr_n (pc2 := 286) (lv2 := [(3, vi (t 170 5)), (2, vi z7), (0, .ref 170), (1, vi x1)]) (st2 := [vi 0]) 1 (fun _ _ => rfl) ?_
                        refine pr_end (fun _ _ => rfl) ?_
                        exact .inl ⟨_, 0, _, rfl, ⟨rfl, (by decide)⟩, rfl, hE124⟩
                      · refine mq_f h125 ?_
                        refine pr_if1f rfl rfl (i32_z hz124) h125 ?_
                        refine pr_n (pc2 := 279) (lv2 := [(3, vi (t 170 5)), (2, vi z7), (0, .ref 170), (1, vi x1)]) (st2 := [.ref 44, .ref 170]) 2 (fun _ _ => rfl) ?_
                        refine pr_m1 (args := [.ref 44]) (rest := []) rfl rfl rfl rfl (Nat.le_of_ble_eq_true rfl) rfl (h_136 s124 t124 44 hE124 isX_44) ?_
                        rintro _ z126 t126 s126 ⟨rfl, hz126⟩ hE126
                        show pr K K d tb_M146 282 [(3, vi (t 170 5)), (2, vi z7), (0, .ref 170), (1, vi x1)] [vi z126] s126 _
                        by_cases h127 : z126 ≠ 0
                        · refine mq_t h127 ?_
                          refine pr_if1t rfl rfl (i32_z hz126) h127 ?_
                          refine pr_n (pc2 := 290) (lv2 := [(3, vi (t 170 5)), (2, vi z7), (0, .ref 170), (1, vi x1)]) (st2 := [.ref 170, vi 4, .ref 170]) 3 (fun _ _ => rfl) ?_
                          refine pr_get (v := .ref 175) rfl rfl rfl (by decide) (rv_ref (hE126.2.1 170 12 175 rfl)) fun _ => ?_
                          refine pr_n (pc2 := 294) (lv2 := [(3, vi (t 170 5)), (2, vi z7), (0, .ref 170), (1, vi x1)]) (st2 := [vi z7, .ref 175, vi 4, .ref 170]) 1 (fun _ _ => rfl) ?_
                          refine pr_aE (k2 := 175) (a := z7) (v := vi (t126 175 z7.toNat)) hE126 rfl rfl rfl hz7 (by decide) rfl rfl rfl fun h129 h130 h128 => ?_
                          have h128 : i32 (t126 175 z7.toNat) := h128
                          refine pr_s1 (args := [vi 4, vi (t126 175 z7.toNat)]) (rest := []) rfl rfl rfl rfl (Nat.le_of_ble_eq_true rfl) rfl (h_147 s126 t126 4 (t126 175 z7.toNat) hE126 (i32_n rfl) h128) q_pt2 ?_
                          rintro _ s131 ⟨rfl, _⟩ hE131
                          show pr K K d tb_M146 298 [(3, vi (t 170 5)), (2, vi z7), (0, .ref 170), (1, vi x1)] [] s131 _
                          refine pr_n (pc2 := 299) (lv2 := [(3, vi (t 170 5)), (2, vi z7), (0, .ref 170), (1, vi x1)]) (st2 := [vi 1]) 1 (fun _ _ => rfl) ?_
                          refine pr_end (fun _ _ => rfl) ?_
                          exact .inl ⟨_, 1, _, rfl, ⟨rfl, (by decide)⟩, rfl, hE131⟩
                        · refine mq_f h127 ?_
                          refine pr_if1f rfl rfl (i32_z hz126) h127 ?_
                          refine pr_n (pc2 := 286) (lv2 := [(3, vi (t 170 5)), (2, vi z7), (0, .ref 170), (1, vi x1)]) (st2 := [vi 0]) 1 (fun _ _ => rfl) ?_
                          refine pr_end (fun _ _ => rfl) ?_
                          exact .inl ⟨_, 0, _, rfl, ⟨rfl, (by decide)⟩, rfl, hE126⟩
                    · refine mq_f h121 ?_
                      refine pr_if2f rfl rfl hx1 (i32_n rfl) h121 ?_
                      refine pr_n (pc2 := 256) (lv2 := [(3, vi (t 170 5)), (2, vi z7), (0, .ref 170), (1, vi x1)]) (st2 := [.ref 170]) 1 (fun _ _ => rfl) ?_
                      refine pr_s1 (args := []) (rest := []) rfl rfl rfl rfl (Nat.le_of_ble_eq_true rfl) rfl (h_131 s116 (up2 ((prt t105)) 170 23 (lo (t105 170 23) (lsl 1 (ipl 0 (t105 175 z7.toNat)))))  hE116 ) q_bad0 ?_
                      rintro _ s132 ⟨rfl, hz132⟩ hE132
                      show pr K K d tb_M146 259 [(3, vi (t 170 5)), (2, vi z7), (0, .ref 170), (1, vi x1)] [vi 0] s132 _
                      refine pr_end (fun _ _ => rfl) ?_
                      exact .inl ⟨_, 0, _, rfl, ⟨rfl, (by decide)⟩, rfl, hE132⟩
                  · refine mq_f h120 ?_
                    refine pr_if1f rfl rfl h117 h120 ?_
                    refine pr_n (pc2 := 239) (lv2 := [(3, vi (t 170 5)), (2, vi z7), (0, .ref 170), (1, vi x1)]) (st2 := [.ref 170, vi 3, .ref 170]) 3 (fun _ _ => rfl) ?_
                    refine pr_get (v := .ref 175) rfl rfl rfl (by decide) (rv_ref (hE116.2.1 170 12 175 rfl)) fun _ => ?_
                    refine pr_n (pc2 := 243) (lv2 := [(3, vi (t 170 5)), (2, vi z7), (0, .ref 170), (1, vi x1)]) (st2 := [vi z7, .ref 175, vi 3, .ref 170]) 1 (fun _ _ => rfl) ?_
                    refine pr_aE (k2 := 175) (a := z7) (v := vi (t105 175 z7.toNat)) hE116 rfl rfl rfl hz7 (by decide) rfl rfl rfl fun h134 h135 h133 => ?_
                    have h133 : i32 (t105 175 z7.toNat) := h133
                    refine pr_s1 (args := [vi 3, vi (t105 175 z7.toNat)]) (rest := []) rfl rfl rfl rfl (Nat.le_of_ble_eq_true rfl) rfl (h_147 s116 (up2 ((prt t105)) 170 23 (lo (t105 170 23) (lsl 1 (ipl 0 (t105 175 z7.toNat))))) 3 (t105 175 z7.toNat) hE116 (i32_n rfl) h133) q_pt2 ?_
                    rintro _ s136 ⟨rfl, _⟩ hE136
                    show pr K K d tb_M146 247 [(3, vi (t 170 5)), (2, vi z7), (0, .ref 170), (1, vi x1)] [] s136 _
                    refine pr_n (pc2 := 248) (lv2 := [(3, vi (t 170 5)), (2, vi z7), (0, .ref 170), (1, vi x1)]) (st2 := [vi 1]) 1 (fun _ _ => rfl) ?_
                    refine pr_end (fun _ _ => rfl) ?_
                    exact .inl ⟨_, 1, _, rfl, ⟨rfl, (by decide)⟩, rfl, hE136⟩
                · refine mq_f h111 ?_
                  refine pr_if2f rfl rfl h108 (i32_n rfl) h111 ?_
                  refine pr_n (pc2 := 216) (lv2 := [(3, vi (t 170 5)), (2, vi z7), (0, .ref 170), (1, vi x1)]) (st2 := [.ref 170, vi 24, vl 1, vl (t105 170 23), .ref 170]) 3 (fun _ _ => rfl) ?_
                  refine pr_get (v := .ref 175) rfl rfl rfl (by decide) (rv_ref (hE106.2.1 170 12 175 rfl)) fun _ => ?_
                  refine pr_n (pc2 := 220) (lv2 := [(3, vi (t 170 5)), (2, vi z7), (0, .ref 170), (1, vi x1)]) (st2 := [vi z7, .ref 175, vi 24, vl 1, vl (t105 170 23), .ref 170]) 1 (fun _ _ => rfl) ?_
                  refine pr_aE (k2 := 175) (a := z7) (v := vi (t105 175 z7.toNat)) hE106 rfl rfl rfl hz7 (by decide) rfl rfl rfl fun h138 h139 h137 => ?_
                  have h137 : i32 (t105 175 z7.toNat) := h137
                  refine pr_i2 (a := 24) (b := t105 175 z7.toNat) rfl rfl ?_
                  show pr K K d tb_M146 222 [(3, vi (t 170 5)), (2, vi z7), (0, .ref 170), (1, vi x1)] [vi (ipl 24 (t105 175 z7.toNat)), vl 1, vl (t105 170 23), .ref 170] s106 _
                  have h140 : i32 (ipl 24 (t105 175 z7.toNat)) := i32_in _
                  refine pr_lshl (a := 1) (b := ipl 24 (t105 175 z7.toNat)) rfl ?_
                  refine pr_l2 (a := t105 170 23) (b := lsl 1 (ipl 24 (t105 175 z7.toNat))) rfl rfl ?_
                  show pr K K d tb_M146 224 [(3, vi (t 170 5)), (2, vi z7), (0, .ref 170), (1, vi x1)] [vl (lo (t105 170 23) (lsl 1 (ipl 24 (t105 175 z7.toNat)))), .ref 170] s106 _
                  refine pr_pE (k2 := 170) (z := lo (t105 170 23) (lsl 1 (ipl 24 (t105 175 z7.toNat)))) hE106 rfl rfl rfl rfl (by decide) rfl (by decide) rfl (i64_in _) (fit_l _) rfl rfl rfl (fun e => absurd e.2 (by decide)) (fun _ => trivial) fun s141 hE141 => ?_
                  refine pr_n (pc2 := 228) (lv2 := [(3, vi (t 170 5)), (2, vi z7), (0, .ref 170), (1, vi x1)]) (st2 := [.ref 170]) 1 (fun _ _ => rfl) ?_
                  refine pr_get (v := .ref 174) rfl rfl rfl (by decide) (rv_ref (hE141.2.1 170 11 174 rfl)) fun _ => ?_
                  refine pr_n (pc2 := 232) (lv2 := [(3, vi (t 170 5)), (2, vi z7), (0, .ref 170), (1, vi x1)]) (st2 := [vi z7, .ref 174]) 1 (fun _ _ => rfl) ?_
                  refine pr_aE (k2 := 174) (a := z7) (v := vi (t105 174 z7.toNat)) hE141 rfl rfl rfl hz7 (by decide) rfl rfl rfl fun h143 h144 h142 => ?_
                  have h142 : i32 (t105 174 z7.toNat) := h142
                  by_cases h145 : t105 174 z7.toNat ≠ 0
                  · refine mq_t h145 ?_
                    refine pr_if1t rfl rfl h142 h145 ?_
                    refine pr_n (pc2 := 252) (lv2 := [(3, vi (t 170 5)), (2, vi z7), (0, .ref 170), (1, vi x1)]) (st2 := [vi 20, vi x1]) 2 (fun _ _ => rfl) ?_
                    by_cases h146 : x1 ≠ 20
                    · refine mq_t h146 ?_
                      refine pr_if2t rfl rfl hx1 (i32_n rfl) h146 ?_
                      refine pr_n (pc2 := 261) (lv2 := [(3, vi (t 170 5)), (2, vi z7), (0, .ref 170), (1, vi x1)]) (st2 := [.ref 170]) 1 (fun _ _ => rfl) ?_
                      refine pr_m1 (args := []) (rest := []) rfl rfl rfl rfl (Nat.le_of_ble_eq_true rfl) rfl (h_123 s141 (up2 ((prt t105)) 170 23 (lo (t105 170 23) (lsl 1 (ipl 24 (t105 175 z7.toNat)))))  hE141 ) ?_
                      rintro _ _ t147 s147 ⟨rfl, rfl⟩ hE147
                      show pr K K d tb_M146 264 [(3, vi (t 170 5)), (2, vi z7), (0, .ref 170), (1, vi x1)] [] s147 _
                      refine pr_n (pc2 := 268) (lv2 := [(3, vi (t 170 5)), (2, vi z7), (0, .ref 170), (1, vi x1)]) (st2 := [vi 1, vi x1, vi 0, .ref 170]) 4 (fun _ _ => rfl) ?_
                      refine pr_i2 (a := x1) (b := 1) rfl rfl ?_
                      show pr K K d tb_M146 269 [(3, vi (t 170 5)), (2, vi z7), (0, .ref 170), (1, vi x1)] [vi (ipl x1 1), vi 0, .ref 170] s147 _
                      have h148 : i32 (ipl x1 1) := i32_in _
                      refine pr_m1 (args := [vi 0, vi (ipl x1 1)]) (rest := []) rfl rfl rfl rfl (Nat.le_of_ble_eq_true rfl) rfl (h_144 s147 t147 0 (ipl x1 1) hE147 (i32_n rfl) h148) ?_
                      rintro _ z149 t149 s149 ⟨rfl, hz149⟩ hE149
                      show pr K K d tb_M146 272 [(3, vi (t 170 5)), (2, vi z7), (0, .ref 170), (1, vi x1)] [vi z149] s149 _
                      by_cases h150 : z149 = 0
                      · refine mq_t h150 ?_
                        refine pr_if1t rfl rfl (i32_z hz149) h150 ?_
                        refine pr_n (pc2 := 286) (lv2 := [(3, vi (t 170 5)), (2, vi z7), (0, .ref 170), (1, vi x1)]) (st2 := [vi 0]) 1 (fun _ _ => rfl) ?_
                        refine pr_end (fun _ _ => rfl) ?_
                        exact .inl ⟨_, 0, _, rfl, ⟨rfl, (by decide)⟩, rfl, hE149⟩
                      · refine mq_f h150 ?_
                        refine pr_if1f rfl rfl (i32_z hz149) h150 ?_
                        refine pr_n (pc2 := 279) (lv2 := [(3, vi (t 170 5)), (2, vi z7), (0, .ref 170), (1, vi x1)]) (st2 := [.ref 44, .ref 170]) 2 (fun _ _ => rfl) ?_
                        refine pr_m1 (args := [.ref 44]) (rest := []) rfl rfl rfl rfl (Nat.le_of_ble_eq_true rfl) rfl (h_136 s149 t149 44 hE149 isX_44) ?_
                        rintro _ z151 t151 s151 ⟨rfl, hz151⟩ hE151
                        show pr K K d tb_M146 282 [(3, vi (t 170 5)), (2, vi z7), (0, .ref 170), (1, vi x1)] [vi z151] s151 _
                        by_cases h152 : z151 ≠ 0
                        · refine mq_t h152 ?_
                          refine pr_if1t rfl rfl (i32_z hz151) h152 ?_
                          refine pr_n (pc2 := 290) (lv2 := [(3, vi (t 170 5)), (2, vi z7), (0, .ref 170), (1, vi x1)]) (st2 := [.ref 170, vi 4, .ref 170]) 3 (fun _ _ => rfl) ?_
                          refine pr_get (v := .ref 175) rfl rfl rfl (by decide) (rv_ref (hE151.2.1 170 12 175 rfl)) fun _ => ?_
                          refine pr_n (pc2 := 294) (lv2 := [(3, vi (t 170 5)), (2, vi z7), (0, .ref 170), (1, vi x1)]) (st2 := [vi z7, .ref 175, vi 4, .ref 170]) 1 (fun _ _ => rfl) ?_
                          refine pr_aE (k2 := 175) (a := z7) (v := vi (t151 175 z7.toNat)) hE151 rfl rfl rfl hz7 (by decide) rfl rfl rfl fun h154 h155 h153 => ?_
                          have h153 : i32 (t151 175 z7.toNat) := h153
                          refine pr_s1 (args := [vi 4, vi (t151 175 z7.toNat)]) (rest := []) rfl rfl rfl rfl (Nat.le_of_ble_eq_true rfl) rfl (h_147 s151 t151 4 (t151 175 z7.toNat) hE151 (i32_n rfl) h153) q_pt2 ?_
                          rintro _ s156 ⟨rfl, _⟩ hE156
                          show pr K K d tb_M146 298 [(3, vi (t 170 5)), (2, vi z7), (0, .ref 170), (1, vi x1)] [] s156 _
                          refine pr_n (pc2 := 299) (lv2 := [(3, vi (t 170 5)), (2, vi z7), (0, .ref 170), (1, vi x1)]) (st2 := [vi 1]) 1 (fun _ _ => rfl) ?_
                          refine pr_end (fun _ _ => rfl) ?_
                          exact .inl ⟨_, 1, _, rfl, ⟨rfl, (by decide)⟩, rfl, hE156⟩
                        · refine mq_f h152 ?_
                          refine pr_if1f rfl rfl (i32_z hz151) h152 ?_
                          refine pr_n (pc2 := 286) (lv2 := [(3, vi (t 170 5)), (2, vi z7), (0, .ref 170), (1, vi x1)]) (st2 := [vi 0]) 1 (fun _ _ => rfl) ?_
                          refine pr_end (fun _ _ => rfl) ?_
                          exact .inl ⟨_, 0, _, rfl, ⟨rfl, (by decide)⟩, rfl, hE151⟩
                    · refine mq_f h146 ?_
                      refine pr_if2f rfl rfl hx1 (i32_n rfl) h146 ?_
                      refine pr_n (pc2 := 256) (lv2 := [(3, vi (t 170 5)), (2, vi z7), (0, .ref 170), (1, vi x1)]) (st2 := [.ref 170]) 1 (fun _ _ => rfl) ?_
                      refine pr_s1 (args := []) (rest := []) rfl rfl rfl rfl (Nat.le_of_ble_eq_true rfl) rfl (h_131 s141 (up2 ((prt t105)) 170 23 (lo (t105 170 23) (lsl 1 (ipl 24 (t105 175 z7.toNat)))))  hE141 ) q_bad0 ?_
                      rintro _ s157 ⟨rfl, hz157⟩ hE157
                      show pr K K d tb_M146 259 [(3, vi (t 170 5)), (2, vi z7), (0, .ref 170), (1, vi x1)] [vi 0] s157 _
                      refine pr_end (fun _ _ => rfl) ?_
                      exact .inl ⟨_, 0, _, rfl, ⟨rfl, (by decide)⟩, rfl, hE157⟩
                  · refine mq_f h145 ?_
                    refine pr_if1f rfl rfl h142 h145 ?_
                    refine pr_n (pc2 := 239) (lv2 := [(3, vi (t 170 5)), (2, vi z7), (0, .ref 170), (1, vi x1)]) (st2 := [.ref 170, vi 3, .ref 170]) 3 (fun _ _ => rfl) ?_
                    refine pr_get (v := .ref 175) rfl rfl rfl (by decide) (rv_ref (hE141.2.1 170 12 175 rfl)) fun _ => ?_
                    refine pr_n (pc2 := 243) (lv2 := [(3, vi (t 170 5)), (2, vi z7), (0, .ref 170), (1, vi x1)]) (st2 := [vi z7, .ref 175, vi 3, .ref 170]) 1 (fun _ _ => rfl) ?_
                    refine pr_aE (k2 := 175) (a := z7) (v := vi (t105 175 z7.toNat)) hE141 rfl rfl rfl hz7 (by decide) rfl rfl rfl fun h159 h160 h158 => ?_
                    have h158 : i32 (t105 175 z7.toNat) := h158
                    refine pr_s1 (args := [vi 3, vi (t105 175 z7.toNat)]) (rest := []) rfl rfl rfl rfl (Nat.le_of_ble_eq_true rfl) rfl (h_147 s141 (up2 ((prt t105)) 170 23 (lo (t105 170 23) (lsl 1 (ipl 24 (t105 175 z7.toNat))))) 3 (t105 175 z7.toNat) hE141 (i32_n rfl) h158) q_pt2 ?_
                    rintro _ s161 ⟨rfl, _⟩ hE161
                    show pr K K d tb_M146 247 [(3, vi (t 170 5)), (2, vi z7), (0, .ref 170), (1, vi x1)] [] s161 _
                    refine pr_n (pc2 := 248) (lv2 := [(3, vi (t 170 5)), (2, vi z7), (0, .ref 170), (1, vi x1)]) (st2 := [vi 1]) 1 (fun _ _ => rfl) ?_
                    refine pr_end (fun _ _ => rfl) ?_
                    exact .inl ⟨_, 1, _, rfl, ⟨rfl, (by decide)⟩, rfl, hE161⟩
              · refine mq_f h104 ?_
                refine pr_if2f rfl rfl h101 (i32_n rfl) h104 ?_
                refine pr_n (pc2 := 160) (lv2 := [(3, vi (t 170 5)), (2, vi z7), (0, .ref 170), (1, vi x1)]) (st2 := [.ref 170]) 1 (fun _ _ => rfl) ?_
                refine pr_get (v := .ref 175) rfl rfl rfl (by decide) (rv_ref (hE14.2.1 170 12 175 rfl)) fun _ => ?_
                refine pr_n (pc2 := 164) (lv2 := [(3, vi (t 170 5)), (2, vi z7), (0, .ref 170), (1, vi x1)]) (st2 := [vi z7, .ref 175]) 1 (fun _ _ => rfl) ?_
                refine pr_aE (k2 := 175) (a := z7) (v := vi (t 175 z7.toNat)) hE14 rfl rfl rfl hz7 (by decide) rfl rfl rfl fun h163 h164 h162 => ?_
                have h162 : i32 (t 175 z7.toNat) := h162
                refine pr_n (pc2 := 166) (lv2 := [(3, vi (t 170 5)), (2, vi z7), (0, .ref 170), (1, vi x1)]) (st2 := [.ref 170, vi (t 175 z7.toNat)]) 1 (fun _ _ => rfl) ?_
                refine pr_gE (k2 := 170) (v := vi (t 170 35)) hE14 rfl rfl rfl (by decide) rfl rfl rfl fun h165 => ?_
                have h165 : i32 (t 170 35) := h165
                by_cases h166 : t 175 z7.toNat ≠ t 170 35
                · refine mq_t h166 ?_
                  refine pr_if2t rfl rfl h162 h165 h166 ?_
                  refine pr_n (pc2 := 181) (lv2 := [(3, vi (t 170 5)), (2, vi z7), (0, .ref 170), (1, vi x1)]) (st2 := [vi x1, vi (t 170 5), vi z7, .ref 170]) 4 (fun _ _ => rfl) ?_
                  refine pr_m1 (args := [vi z7, vi (t 170 5), vi x1]) (rest := []) rfl rfl rfl rfl (Nat.le_of_ble_eq_true rfl) rfl (h_149 s14 t z7 (t 170 5) x1 hE14 hz7 h8 hx1) ?_
                  rintro _ z167 t167 s167 ⟨rfl, hz167⟩ hE167
                  show pr K K d tb_M146 184 [(3, vi (t 170 5)), (2, vi z7), (0, .ref 170), (1, vi x1)] [vi z167] s167 _
                  refine pr_retz rfl rfl hz167 ?_
                  exact .inl ⟨_, z167, _, rfl, ⟨rfl, hz167⟩, rfl, hE167⟩
                · refine mq_f h166 ?_
                  refine pr_if2f rfl rfl h162 h165 h166 ?_
                  refine pr_n (pc2 := 173) (lv2 := [(3, vi (t 170 5)), (2, vi z7), (0, .ref 170), (1, vi x1)]) (st2 := [.ref 170]) 1 (fun _ _ => rfl) ?_
                  refine pr_s1 (args := []) (rest := []) rfl rfl rfl rfl (Nat.le_of_ble_eq_true rfl) rfl (h_131 s14 t  hE14 ) q_bad0 ?_
                  rintro _ s168 ⟨rfl, hz168⟩ hE168
                  show pr K K d tb_M146 176 [(3, vi (t 170 5)), (2, vi z7), (0, .ref 170), (1, vi x1)] [vi 0] s168 _
                  refine pr_end (fun _ _ => rfl) ?_
                  exact .inl ⟨_, 0, _, rfl, ⟨rfl, (by decide)⟩, rfl, hE168⟩
            · refine mq_f h100 ?_
              refine pr_if2f rfl rfl h11 (i32_n rfl) h100 ?_
              refine pr_n (pc2 := 144) (lv2 := [(3, vi (t 170 5)), (2, vi z7), (0, .ref 170), (1, vi x1)]) (st2 := [.ref 170]) 1 (fun _ _ => rfl) ?_
              refine pr_s1 (args := []) (rest := []) rfl rfl rfl rfl (Nat.le_of_ble_eq_true rfl) rfl (h_131 s14 t  hE14 ) q_bad0 ?_
              rintro _ s169 ⟨rfl, hz169⟩ hE169
              show pr K K d tb_M146 147 [(3, vi (t 170 5)), (2, vi z7), (0, .ref 170), (1, vi x1)] [vi 0] s169 _
              refine pr_end (fun _ _ => rfl) ?_
              exact .inl ⟨_, 0, _, rfl, ⟨rfl, (by decide)⟩, rfl, hE169⟩
      · refine mq_f h6 ?_
        refine pr_if2f rfl rfl h5 (i32_n rfl) h6 ?_
        refine pr_n (pc2 := 88) (lv2 := [(0, .ref 170), (1, vi x1)]) (st2 := [.ref 170]) 1 (fun _ _ => rfl) ?_
        refine pr_s1 (args := []) (rest := []) rfl rfl rfl rfl (Nat.le_of_ble_eq_true rfl) rfl (h_131 s3 t  hE3 ) q_bad0 ?_
        rintro _ s170 ⟨rfl, hz170⟩ hE170
        show pr K K d tb_M146 91 [(0, .ref 170), (1, vi x1)] [vi 0] s170 _
        refine pr_end (fun _ _ => rfl) ?_
        exact .inl ⟨_, 0, _, rfl, ⟨rfl, (by decide)⟩, rfl, hE170⟩
    · refine mq_f h4 ?_
      refine pr_if1f rfl rfl (i32_z hz3) h4 ?_
      refine pr_n (pc2 := 40) (lv2 := [(0, .ref 170), (1, vi x1)]) (st2 := [vi 20, vi x1]) 2 (fun _ _ => rfl) ?_
      by_cases h171 : x1 ≠ 20
      · refine mq_t h171 ?_
        refine pr_if2t rfl rfl hx1 (i32_n rfl) h171 ?_
        refine pr_n (pc2 := 49) (lv2 := [(0, .ref 170), (1, vi x1)]) (st2 := [.ref 170]) 1 (fun _ _ => rfl) ?_
        refine pr_m1 (args := []) (rest := []) rfl rfl rfl rfl (Nat.le_of_ble_eq_true rfl) rfl (h_123 s3 t  hE3 ) ?_
        rintro _ _ t172 s172 ⟨rfl, rfl⟩ hE172
        show pr K K d tb_M146 52 [(0, .ref 170), (1, vi x1)] [] s172 _
        refine pr_n (pc2 := 56) (lv2 := [(0, .ref 170), (1, vi x1)]) (st2 := [vi 1, vi x1, vi 0, .ref 170]) 4 (fun _ _ => rfl) ?_
        refine pr_i2 (a := x1) (b := 1) rfl rfl ?_
        show pr K K d tb_M146 57 [(0, .ref 170), (1, vi x1)] [vi (ipl x1 1), vi 0, .ref 170] s172 _
        have h173 : i32 (ipl x1 1) := i32_in _
        refine pr_m1 (args := [vi 0, vi (ipl x1 1)]) (rest := []) rfl rfl rfl rfl (Nat.le_of_ble_eq_true rfl) rfl (h_144 s172 t172 0 (ipl x1 1) hE172 (i32_n rfl) h173) ?_
        rintro _ z174 t174 s174 ⟨rfl, hz174⟩ hE174
        show pr K K d tb_M146 60 [(0, .ref 170), (1, vi x1)] [vi z174] s174 _
        by_cases h175 : z174 = 0
        · refine mq_t h175 ?_
          refine pr_if1t rfl rfl (i32_z hz174) h175 ?_
          refine pr_n (pc2 := 78) (lv2 := [(0, .ref 170), (1, vi x1)]) (st2 := [vi 0]) 1 (fun _ _ => rfl) ?_
          refine pr_end (fun _ _ => rfl) ?_
          exact .inl ⟨_, 0, _, rfl, ⟨rfl, (by decide)⟩, rfl, hE174⟩
        · refine mq_f h175 ?_
          refine pr_if1f rfl rfl (i32_z hz174) h175 ?_
          refine pr_n (pc2 := 67) (lv2 := [(0, .ref 170), (1, vi x1)]) (st2 := [.ref 24, .ref 170]) 2 (fun _ _ => rfl) ?_
          refine pr_m1 (args := [.ref 24]) (rest := []) rfl rfl rfl rfl (Nat.le_of_ble_eq_true rfl) rfl (h_136 s174 t174 24 hE174 isX_24) ?_
          rintro _ z176 t176 s176 ⟨rfl, hz176⟩ hE176
          show pr K K d tb_M146 70 [(0, .ref 170), (1, vi x1)] [vi z176] s176 _
          by_cases h177 : z176 = 0
          · refine mq_t h177 ?_
            refine pr_if1t rfl rfl (i32_z hz176) h177 ?_
            refine pr_n (pc2 := 78) (lv2 := [(0, .ref 170), (1, vi x1)]) (st2 := [vi 0]) 1 (fun _ _ => rfl) ?_
            refine pr_end (fun _ _ => rfl) ?_
            exact .inl ⟨_, 0, _, rfl, ⟨rfl, (by decide)⟩, rfl, hE176⟩
          · refine mq_f h177 ?_
            refine pr_if1f rfl rfl (i32_z hz176) h177 ?_
            refine pr_n (pc2 := 78) (lv2 := [(0, .ref 170), (1, vi x1)]) (st2 := [vi 1]) 2 (fun _ _ => rfl) ?_
            refine pr_end (fun _ _ => rfl) ?_
            exact .inl ⟨_, 1, _, rfl, ⟨rfl, (by decide)⟩, rfl, hE176⟩
      · refine mq_f h171 ?_
        refine pr_if2f rfl rfl hx1 (i32_n rfl) h171 ?_
        refine pr_n (pc2 := 44) (lv2 := [(0, .ref 170), (1, vi x1)]) (st2 := [.ref 170]) 1 (fun _ _ => rfl) ?_
        refine pr_s1 (args := []) (rest := []) rfl rfl rfl rfl (Nat.le_of_ble_eq_true rfl) rfl (h_131 s3 t  hE3 ) q_bad0 ?_
        rintro _ s178 ⟨rfl, hz178⟩ hE178
        show pr K K d tb_M146 47 [(0, .ref 170), (1, vi x1)] [vi 0] s178 _
        refine pr_end (fun _ _ => rfl) ?_
        exact .inl ⟨_, 0, _, rfl, ⟨rfl, (by decide)⟩, rfl, hE178⟩
  · refine mq_f h2 ?_
    refine pr_if2f rfl rfl h1 (i32_n rfl) h2 ?_
    refine pr_n (pc2 := 9) (lv2 := [(0, .ref 170), (1, vi x1)]) (st2 := [.ref 170]) 1 (fun _ _ => rfl) ?_
    refine pr_s1 (args := []) (rest := []) rfl rfl rfl rfl (Nat.le_of_ble_eq_true rfl) rfl (h_142 s t  hE ) q_prt ?_
    rintro _ s179 ⟨rfl, _⟩ hE179
    show pr K K d tb_M146 12 [(0, .ref 170), (1, vi x1)] [] s179 _
    refine pr_n (pc2 := 15) (lv2 := [(0, .ref 170), (1, vi x1)]) (st2 := [.ref 170, vi 2, .ref 170]) 3 (fun _ _ => rfl) ?_
    refine pr_gE (k2 := 170) (v := vi (t 170 7)) hE179 rfl rfl rfl (by decide) rfl rfl rfl fun h180 => ?_
    have h180 : i32 (t 170 7) := h180
    refine pr_s1 (args := [vi 2, vi (t 170 7)]) (rest := []) rfl rfl rfl rfl (Nat.le_of_ble_eq_true rfl) rfl (h_147 s179 ((prt t)) 2 (t 170 7) hE179 (i32_n rfl) h180) q_pt2 ?_
    rintro _ s181 ⟨rfl, _⟩ hE181
    show pr K K d tb_M146 21 [(0, .ref 170), (1, vi x1)] [] s181 _
    refine pr_n (pc2 := 22) (lv2 := [(0, .ref 170), (1, vi x1)]) (st2 := [.ref 170]) 1 (fun _ _ => rfl) ?_
    refine pr_m1 (args := []) (rest := []) rfl rfl rfl rfl (Nat.le_of_ble_eq_true rfl) rfl (h_123 s181 ((pt2 ((prt t)) 2 (t 170 7)))  hE181 ) ?_
    rintro _ _ t182 s182 ⟨rfl, rfl⟩ hE182
    show pr K K d tb_M146 25 [(0, .ref 170), (1, vi x1)] [] s182 _
    refine pr_n (pc2 := 26) (lv2 := [(0, .ref 170), (1, vi x1)]) (st2 := [vi 1]) 1 (fun _ _ => rfl) ?_
    refine pr_end (fun _ _ => rfl) ?_
    exact .inl ⟨_, 1, _, rfl, ⟨rfl, (by decide)⟩, rfl, hE182⟩
set_option maxHeartbeats 20000000 in
set_option maxRecDepth 100000 in
theorem ru149_0 {N K d C : Nat} (h_132 : rT132 K d C) (h_150 : rT150 K d C) (ih : ∀ N2, N2 < N → rA149 N2 K d C) : rU149_0 N K d C := by
  intro s t y4 y1 y2 y3 hE hy4 hy1 hy2 hy3
  have hC : C = 177 ∨ C = 186 := hE.1
  rw [rG_149_6]
  unfold rM149_6
  refine pr_lt (pc2 := 8) (lv2 := [(4, vi y4), (0, .ref 170), (1, vi y1), (2, vi y2), (3, vi y3)]) (st2 := [vi y4]) (fun _ _ => rfl) fun N2 hN2 => ?_
  refine pr_n (pc2 := 9) (lv2 := [(4, vi y4), (0, .ref 170), (1, vi y1), (2, vi y2), (3, vi y3)]) (st2 := [.ref 170, vi y4]) 1 (fun _ _ => rfl) ?_
  refine pr_gE (k2 := 170) (v := vi (t 170 2)) hE rfl rfl rfl (by decide) rfl rfl rfl fun h1 => ?_
  have h1 : i32 (t 170 2) := h1
  by_cases h2 : t 170 2 ≤ y4
  · refine mq_t h2 ?_
    refine pr_if2t rfl rfl hy4 h1 h2 ?_
    refine pr_n (pc2 := 48) (lv2 := [(4, vi y4), (0, .ref 170), (1, vi y1), (2, vi y2), (3, vi y3)]) (st2 := [.ref 170, vi y4]) 2 (fun _ _ => rfl) ?_
    refine pr_gE (k2 := 170) (v := vi (t 170 2)) hE rfl rfl rfl (by decide) rfl rfl rfl fun h3 => ?_
    have h3 : i32 (t 170 2) := h3
    refine pr_if2t rfl rfl hy4 h3 (show t 170 2 ≤ y4 by omega) ?_
    show pr N2 K d tb_M149 66 [(4, vi y4), (0, .ref 170), (1, vi y1), (2, vi y2), (3, vi y3)] [] s _
    refine pr_n (pc2 := 69) (lv2 := [(4, vi y4), (0, .ref 170), (1, vi y1), (2, vi y2), (3, vi y3)]) (st2 := [vi y4, .ref 170]) 2 (fun _ _ => rfl) ?_
    refine pr_s1 (args := [vi y4]) (rest := []) rfl rfl rfl rfl (Nat.le_of_ble_eq_true rfl) rfl (h_132 s t y4 hE hy4) q_bad1 ?_
    rintro _ s4 ⟨rfl, hz4⟩ hE4
    show pr N2 K d tb_M149 72 [(4, vi y4), (0, .ref 170), (1, vi y1), (2, vi y2), (3, vi y3)] [vi 0] s4 _
    refine pr_end (fun _ _ => rfl) ?_
    exact .inl ⟨_, 0, _, rfl, ⟨rfl, (by decide)⟩, rfl, hE4⟩
  · refine mq_f h2 ?_
    refine pr_if2f rfl rfl hy4 h1 h2 ?_
    refine pr_n (pc2 := 16) (lv2 := [(4, vi y4), (0, .ref 170), (1, vi y1), (2, vi y2), (3, vi y3)]) (st2 := [.ref 170]) 1 (fun _ _ => rfl) ?_
    refine pr_get (v := .ref 171) rfl rfl rfl (by decide) (rv_ref (hE.2.1 170 0 171 rfl)) fun _ => ?_
    refine pr_n (pc2 := 21) (lv2 := [(4, vi y4), (0, .ref 170), (1, vi y1), (2, vi y2), (3, vi y3)]) (st2 := [vi y4, .ref 171]) 1 (fun _ _ => rfl) ?_
    refine pr_aE (k2 := 171) (a := y4) (v := vi (t 171 y4.toNat)) hE rfl rfl rfl hy4 (by decide) rfl rfl rfl fun h6 h7 h5 => ?_
    have h5 : -128 ≤ t 171 y4.toNat ∧ t 171 y4.toNat ≤ 127 := h5
    refine pr_n (pc2 := 24) (lv2 := [(4, vi y4), (0, .ref 170), (1, vi y1), (2, vi y2), (3, vi y3)]) (st2 := [vi 32, vi (t 171 y4.toNat)]) 1 (fun _ _ => rfl) ?_
    by_cases h8 : t 171 y4.toNat = 32
    · refine mq_t h8 ?_
      refine pr_if2t rfl rfl (i32_b h5) (i32_n rfl) h8 ?_
      refine pr_inc (a := y4) rfl rfl ?_
      have h9 : i32 (y4 + 1) := by unfold i32 at *; omega
      show pr N2 K d tb_M149 42 [(4, vi (y4 + 1)), (0, .ref 170), (1, vi y1), (2, vi y2), (3, vi y3)] [] s _
      refine pr_n (pc2 := 6) (lv2 := [(4, vi (y4 + 1)), (0, .ref 170), (1, vi y1), (2, vi y2), (3, vi y3)]) (st2 := []) 1 (fun _ _ => rfl) ?_
      exact ((ih N2 hN2)) s t (y4 + 1) y1 y2 y3 hE h9 hy1 hy2 hy3
    · refine mq_f h8 ?_
      refine pr_if2f rfl rfl (i32_b h5) (i32_n rfl) h8 ?_
      refine pr_n (pc2 := 28) (lv2 := [(4, vi y4), (0, .ref 170), (1, vi y1), (2, vi y2), (3, vi y3)]) (st2 := [.ref 170]) 1 (fun _ _ => rfl) ?_
      refine pr_get (v := .ref 171) rfl rfl rfl (by decide) (rv_ref (hE.2.1 170 0 171 rfl)) fun _ => ?_
      refine pr_n (pc2 := 33) (lv2 := [(4, vi y4), (0, .ref 170), (1, vi y1), (2, vi y2), (3, vi y3)]) (st2 := [vi y4, .ref 171]) 1 (fun _ _ => rfl) ?_
      refine pr_aE (k2 := 171) (a := y4) (v := vi (t 171 y4.toNat)) hE rfl rfl rfl hy4 (by decide) rfl rfl rfl fun h11 h12 h10 => ?_
      have h10 : -128 ≤ t 171 y4.toNat ∧ t 171 y4.toNat ≤ 127 := h10
      refine pr_n (pc2 := 36) (lv2 := [(4, vi y4), (0, .ref 170), (1, vi y1), (2, vi y2), (3, vi y3)]) (st2 := [vi 10, vi (t 171 y4.toNat)]) 1 (fun _ _ => rfl) ?_
      by_cases h13 : t 171 y4.toNat ≠ 10
      · refine mq_t h13 ?_
        refine pr_if2t rfl rfl (i32_b h10) (i32_n rfl) h13 ?_
        refine pr_n (pc2 := 48) (lv2 := [(4, vi y4), (0, .ref 170), (1, vi y1), (2, vi y2), (3, vi y3)]) (st2 := [.ref 170, vi y4]) 2 (fun _ _ => rfl) ?_
        refine pr_gE (k2 := 170) (v := vi (t 170 2)) hE rfl rfl rfl (by decide) rfl rfl rfl fun h14 => ?_
        have h14 : i32 (t 170 2) := h14
        refine pr_if2f rfl rfl hy4 h14 (show ¬ (t 170 2 ≤ y4) by omega) ?_
        show pr N2 K d tb_M149 54 [(4, vi y4), (0, .ref 170), (1, vi y1), (2, vi y2), (3, vi y3)] [] s _
        refine pr_n (pc2 := 55) (lv2 := [(4, vi y4), (0, .ref 170), (1, vi y1), (2, vi y2), (3, vi y3)]) (st2 := [.ref 170]) 1 (fun _ _ => rfl) ?_
        refine pr_get (v := .ref 171) rfl rfl rfl (by decide) (rv_ref (hE.2.1 170 0 171 rfl)) fun _ => ?_
        refine pr_n (pc2 := 60) (lv2 := [(4, vi y4), (0, .ref 170), (1, vi y1), (2, vi y2), (3, vi y3)]) (st2 := [vi y4, .ref 171]) 1 (fun _ _ => rfl) ?_
        refine pr_aE (k2 := 171) (a := y4) (v := vi (t 171 y4.toNat)) hE rfl rfl rfl hy4 (by decide) rfl rfl rfl fun h16 h17 h15 => ?_
        have h15 : -128 ≤ t 171 y4.toNat ∧ t 171 y4.toNat ≤ 127 := h15
        refine pr_n (pc2 := 63) (lv2 := [(4, vi y4), (0, .ref 170), (1, vi y1), (2, vi y2), (3, vi y3)]) (st2 := [vi 40, vi (t 171 y4.toNat)]) 1 (fun _ _ => rfl) ?_
        by_cases h18 : t 171 y4.toNat = 40
        · refine mq_t h18 ?_
          refine pr_if2t rfl rfl (i32_b h15) (i32_n rfl) h18 ?_
          refine pr_n (pc2 := 76) (lv2 := [(4, vi y4), (0, .ref 170), (1, vi y1), (2, vi y2), (3, vi y3)]) (st2 := [vi 20, vi y3]) 2 (fun _ _ => rfl) ?_
          by_cases h19 : y3 ≠ 20
          · refine mq_t h19 ?_
            refine pr_if2t rfl rfl hy3 (i32_n rfl) h19 ?_
            refine pr_n (pc2 := 91) (lv2 := [(4, vi y4), (0, .ref 170), (1, vi y1), (2, vi y2), (3, vi y3)]) (st2 := [vi 1, vi y3, vi y2, vi y1, .ref 170]) 5 (fun _ _ => rfl) ?_
            refine pr_i2 (a := y3) (b := 1) rfl rfl ?_
            show pr N2 K d tb_M149 92 [(4, vi y4), (0, .ref 170), (1, vi y1), (2, vi y2), (3, vi y3)] [vi (ipl y3 1), vi y2, vi y1, .ref 170] s _
            have h20 : i32 (ipl y3 1) := i32_in _
            refine pr_n (pc2 := 93) (lv2 := [(4, vi y4), (0, .ref 170), (1, vi y1), (2, vi y2), (3, vi y3)]) (st2 := [vi 1, vi (ipl y3 1), vi y2, vi y1, .ref 170]) 1 (fun _ _ => rfl) ?_
            refine pr_m1 (args := [vi y1, vi y2, vi (ipl y3 1), vi 1]) (rest := []) rfl rfl rfl rfl (Nat.le_of_ble_eq_true rfl) rfl (h_150 s t y1 y2 (ipl y3 1) 1 hE hy1 hy2 h20 (by decide)) ?_
            rintro _ z21 t21 s21 ⟨rfl, hz21⟩ hE21
            show pr N2 K d tb_M149 96 [(4, vi y4), (0, .ref 170), (1, vi y1), (2, vi y2), (3, vi y3)] [vi z21] s21 _
            refine pr_retz rfl rfl hz21 ?_
            exact .inl ⟨_, z21, _, rfl, ⟨rfl, hz21⟩, rfl, hE21⟩
          · refine mq_f h19 ?_
            refine pr_if2f rfl rfl hy3 (i32_n rfl) h19 ?_
            refine pr_n (pc2 := 82) (lv2 := [(4, vi y4), (0, .ref 170), (1, vi y1), (2, vi y2), (3, vi y3)]) (st2 := [vi y4, .ref 170]) 2 (fun _ _ => rfl) ?_
            refine pr_s1 (args := [vi y4]) (rest := []) rfl rfl rfl rfl (Nat.le_of_ble_eq_true rfl) rfl (h_132 s t y4 hE hy4) q_bad1 ?_
            rintro _ s22 ⟨rfl, hz22⟩ hE22
            show pr N2 K d tb_M149 85 [(4, vi y4), (0, .ref 170), (1, vi y1), (2, vi y2), (3, vi y3)] [vi 0] s22 _
            refine pr_end (fun _ _ => rfl) ?_
            exact .inl ⟨_, 0, _, rfl, ⟨rfl, (by decide)⟩, rfl, hE22⟩
        · refine mq_f h18 ?_
          refine pr_if2f rfl rfl (i32_b h15) (i32_n rfl) h18 ?_
          refine pr_n (pc2 := 69) (lv2 := [(4, vi y4), (0, .ref 170), (1, vi y1), (2, vi y2), (3, vi y3)]) (st2 := [vi y4, .ref 170]) 2 (fun _ _ => rfl) ?_
          refine pr_s1 (args := [vi y4]) (rest := []) rfl rfl rfl rfl (Nat.le_of_ble_eq_true rfl) rfl (h_132 s t y4 hE hy4) q_bad1 ?_
          rintro _ s23 ⟨rfl, hz23⟩ hE23
          show pr N2 K d tb_M149 72 [(4, vi y4), (0, .ref 170), (1, vi y1), (2, vi y2), (3, vi y3)] [vi 0] s23 _
          refine pr_end (fun _ _ => rfl) ?_
          exact .inl ⟨_, 0, _, rfl, ⟨rfl, (by decide)⟩, rfl, hE23⟩
      · refine mq_f h13 ?_
        refine pr_if2f rfl rfl (i32_b h10) (i32_n rfl) h13 ?_
        refine pr_inc (a := y4) rfl rfl ?_
        have h24 : i32 (y4 + 1) := by unfold i32 at *; omega
        show pr N2 K d tb_M149 42 [(4, vi (y4 + 1)), (0, .ref 170), (1, vi y1), (2, vi y2), (3, vi y3)] [] s _
        refine pr_n (pc2 := 6) (lv2 := [(4, vi (y4 + 1)), (0, .ref 170), (1, vi y1), (2, vi y2), (3, vi y3)]) (st2 := []) 1 (fun _ _ => rfl) ?_
        exact ((ih N2 hN2)) s t (y4 + 1) y1 y2 y3 hE h24 hy1 hy2 hy3
theorem ra149 {K d C : Nat} (h_132 : rT132 K d C) (h_150 : rT150 K d C) : ∀ N, rA149 N K d C := by
  intro N
  induction N using Nat.strongRecOn with | ind N ih => ?_
  exact ru149_0 h_132 h_150 ih
set_option maxHeartbeats 20000000 in
set_option maxRecDepth 100000 in
theorem rm149 {K d C : Nat} (h_132 : rT132 K d C) (h_150 : rT150 K d C) : rT149 K (d + 1) C := by
  intro s t x1 x2 x3 hE hx1 hx2 hx3
  have hC : C = 177 ∨ C = 186 := hE.1
  refine pcr_of (M := tb_M149) rfl ?_
  show pr K K d tb_M149 0 [(0, .ref 170), (1, vi x1), (2, vi x2), (3, vi x3)] [] s _
  rw [rG_149]
  unfold rM149
  refine pr_n (pc2 := 1) (lv2 := [(0, .ref 170), (1, vi x1), (2, vi x2), (3, vi x3)]) (st2 := [.ref 170]) 1 (fun _ _ => rfl) ?_
  refine pr_gE (k2 := 170) (v := vi (t 170 3)) hE rfl rfl rfl (by decide) rfl rfl rfl fun h1 => ?_
  have h1 : i32 (t 170 3) := h1
  refine pr_n (pc2 := 6) (lv2 := [(4, vi (t 170 3)), (0, .ref 170), (1, vi x1), (2, vi x2), (3, vi x3)]) (st2 := []) 1 (fun _ _ => rfl) ?_
  exact ((ra149 h_132 h_150 K)) s t (t 170 3) x1 x2 x3 hE h1 hx1 hx2 hx3
set_option maxHeartbeats 20000000 in
set_option maxRecDepth 100000 in
theorem ru150_0 {N K d C : Nat} (h_123 : rT123 K d C) (h_127 : rT127 K d C) (h_131 : rT131 K d C) (h_132 : rT132 K d C) (h_136 : rT136 K d C) (h_142 : rT142 K d C) (h_144 : rT144 K d C) (h_147 : rT147 K d C) (ih : ∀ N2, N2 < N → rA150 N2 K d C) : rU150_0 N K d C := by
  intro s t y6 y5 y1 y2 y3 y4 hE hy6 hy5 hy1 hy2 hy3 hy4
  have hC : C = 177 ∨ C = 186 := hE.1
  rw [rG_150_31]
  unfold rM150_31
  refine pr_lt (pc2 := 33) (lv2 := [(6, vi y6), (5, vi y5), (0, .ref 170), (1, vi y1), (2, vi y2), (3, vi y3), (4, vi y4)]) (st2 := [vi y6]) (fun _ _ => rfl) fun N2 hN2 => ?_
  by_cases h1 : y6 ≠ 0
  · refine mq_t h1 ?_
    refine pr_if1t rfl rfl hy6 h1 ?_
    refine pr_n (pc2 := 53) (lv2 := [(6, vi y6), (5, vi y5), (0, .ref 170), (1, vi y1), (2, vi y2), (3, vi y3), (4, vi y4)]) (st2 := [.ref 26, .ref 170]) 2 (fun _ _ => rfl) ?_
    refine pr_p1 (args := [.ref 26]) (rest := []) rfl rfl rfl rfl (Nat.le_of_ble_eq_true rfl) rfl (h_127 s t 26 hE isX_26) (fun z t3 => pu_127) ?_
    rintro _ z2 s2 ⟨rfl, hz2⟩ hX2 hE2
    show pr N2 K d tb_M150 56 [(6, vi y6), (5, vi y5), (0, .ref 170), (1, vi y1), (2, vi y2), (3, vi y3), (4, vi y4)] [vi z2] s2 _
    by_cases h3 : z2 = 0
    · refine mq_t h3 ?_
      refine pr_if1t rfl rfl (i32_z hz2) h3 ?_
      refine pr_n (pc2 := 89) (lv2 := [(6, vi y6), (5, vi y5), (0, .ref 170), (1, vi y1), (2, vi y2), (3, vi y3), (4, vi y4)]) (st2 := [.ref 24, .ref 170]) 2 (fun _ _ => rfl) ?_
      refine pr_p1 (args := [.ref 24]) (rest := []) rfl rfl rfl rfl (Nat.le_of_ble_eq_true rfl) rfl (h_127 s2 t 24 hE2 isX_24) (fun z t3 => pu_127) ?_
      rintro _ z4 s4 ⟨rfl, hz4⟩ hX4 hE4
      show pr N2 K d tb_M150 92 [(6, vi y6), (5, vi y5), (0, .ref 170), (1, vi y1), (2, vi y2), (3, vi y3), (4, vi y4)] [vi z4] s4 _
      by_cases h5 : z4 ≠ 0
      · refine mq_t h5 ?_
        refine pr_if1t rfl rfl (i32_z hz4) h5 ?_
        refine pr_n (pc2 := 103) (lv2 := [(6, vi y6), (5, vi y5), (0, .ref 170), (1, vi y1), (2, vi y2), (3, vi y3), (4, vi y4)]) (st2 := [.ref 170, vi y6]) 2 (fun _ _ => rfl) ?_
        refine pr_get (v := .ref 201) rfl rfl rfl (by decide) (rv_ref (hE4.2.1 170 33 201 rfl)) fun _ => ?_
        refine pr_n (pc2 := 108) (lv2 := [(6, vi y6), (5, vi y5), (0, .ref 170), (1, vi y1), (2, vi y2), (3, vi y3), (4, vi y4)]) (st2 := [vi y5, .ref 201, vi y6]) 1 (fun _ _ => rfl) ?_
        refine pr_aE (k2 := 201) (a := y5) (v := vi (t 201 y5.toNat)) hE4 rfl rfl rfl hy5 (by decide) rfl rfl rfl fun h7 h8 h6 => ?_
        have h6 : i32 (t 201 y5.toNat) := h6
        by_cases h9 : y6 = t 201 y5.toNat
        · refine mq_t h9 ?_
          refine pr_if2t rfl rfl hy6 h6 h9 ?_
          refine pr_n (pc2 := 119) (lv2 := [(6, vi y6), (5, vi y5), (0, .ref 170), (1, vi y1), (2, vi y2), (3, vi y3), (4, vi y4)]) (st2 := [.ref 170]) 1 (fun _ _ => rfl) ?_
          refine pr_m1 (args := []) (rest := []) rfl rfl rfl rfl (Nat.le_of_ble_eq_true rfl) rfl (h_123 s4 t  hE4 ) ?_
          rintro _ _ t10 s10 ⟨rfl, rfl⟩ hE10
          show pr N2 K d tb_M150 122 [(6, vi y6), (5, vi y5), (0, .ref 170), (1, vi y1), (2, vi y2), (3, vi y3), (4, vi y4)] [] s10 _
          refine pr_n (pc2 := 125) (lv2 := [(6, vi y6), (5, vi y5), (0, .ref 170), (1, vi y1), (2, vi y2), (3, vi y3), (4, vi y4)]) (st2 := [vi 1, vi y6]) 2 (fun _ _ => rfl) ?_
          refine pr_i2 (a := y6) (b := 1) rfl rfl ?_
          show pr N2 K d tb_M150 126 [(6, vi y6), (5, vi y5), (0, .ref 170), (1, vi y1), (2, vi y2), (3, vi y3), (4, vi y4)] [vi (imi y6 1)] s10 _
          have h11 : i32 (imi y6 1) := i32_in _
          refine pr_n (pc2 := 128) (lv2 := [(7, vi (imi y6 1)), (6, vi y6), (5, vi y5), (0, .ref 170), (1, vi y1), (2, vi y2), (3, vi y3), (4, vi y4)]) (st2 := []) 1 (fun _ _ => rfl) ?_
          exact ((ih N2 hN2).2) s10 t10 (imi y6 1) y6 y5 y1 y2 y3 y4 hE10 h11 hy6 hy5 hy1 hy2 hy3 hy4
        · refine mq_f h9 ?_
          refine pr_if2f rfl rfl hy6 h6 h9 ?_
          refine pr_n (pc2 := 114) (lv2 := [(6, vi y6), (5, vi y5), (0, .ref 170), (1, vi y1), (2, vi y2), (3, vi y3), (4, vi y4)]) (st2 := [vi y2, .ref 170]) 2 (fun _ _ => rfl) ?_
          refine pr_s1 (args := [vi y2]) (rest := []) rfl rfl rfl rfl (Nat.le_of_ble_eq_true rfl) rfl (h_132 s4 t y2 hE4 hy2) q_bad1 ?_
          rintro _ s12 ⟨rfl, hz12⟩ hE12
          show pr N2 K d tb_M150 117 [(6, vi y6), (5, vi y5), (0, .ref 170), (1, vi y1), (2, vi y2), (3, vi y3), (4, vi y4)] [vi 0] s12 _
          refine pr_end (fun _ _ => rfl) ?_
          exact .inl ⟨_, 0, _, rfl, ⟨rfl, (by decide)⟩, rfl, hE12⟩
      · refine mq_f h5 ?_
        refine pr_if1f rfl rfl (i32_z hz4) h5 ?_
        refine pr_n (pc2 := 96) (lv2 := [(6, vi y6), (5, vi y5), (0, .ref 170), (1, vi y1), (2, vi y2), (3, vi y3), (4, vi y4)]) (st2 := [.ref 170]) 1 (fun _ _ => rfl) ?_
        refine pr_s1 (args := []) (rest := []) rfl rfl rfl rfl (Nat.le_of_ble_eq_true rfl) rfl (h_131 s4 t  hE4 ) q_bad0 ?_
        rintro _ s13 ⟨rfl, hz13⟩ hE13
        show pr N2 K d tb_M150 99 [(6, vi y6), (5, vi y5), (0, .ref 170), (1, vi y1), (2, vi y2), (3, vi y3), (4, vi y4)] [vi 0] s13 _
        refine pr_end (fun _ _ => rfl) ?_
        exact .inl ⟨_, 0, _, rfl, ⟨rfl, (by decide)⟩, rfl, hE13⟩
    · refine mq_f h3 ?_
      refine pr_if1f rfl rfl (i32_z hz2) h3 ?_
      refine pr_n (pc2 := 61) (lv2 := [(6, vi y6), (5, vi y5), (0, .ref 170), (1, vi y1), (2, vi y2), (3, vi y3), (4, vi y4)]) (st2 := [vi y6]) 1 (fun _ _ => rfl) ?_
      by_cases h14 : y6 ≤ 0
      · refine mq_t h14 ?_
        refine pr_if1t rfl rfl hy6 h14 ?_
        refine pr_n (pc2 := 71) (lv2 := [(6, vi y6), (5, vi y5), (0, .ref 170), (1, vi y1), (2, vi y2), (3, vi y3), (4, vi y4)]) (st2 := [vi y3, vi 0, .ref 170]) 3 (fun _ _ => rfl) ?_
        refine pr_m1 (args := [vi 0, vi y3]) (rest := []) rfl rfl rfl rfl (Nat.le_of_ble_eq_true rfl) rfl (h_144 s2 t 0 y3 hE2 (i32_n rfl) hy3) ?_
        rintro _ z15 t15 s15 ⟨rfl, hz15⟩ hE15
        show pr N2 K d tb_M150 74 [(6, vi y6), (5, vi y5), (0, .ref 170), (1, vi y1), (2, vi y2), (3, vi y3), (4, vi y4)] [vi z15] s15 _
        by_cases h16 : z15 ≠ 0
        · refine mq_t h16 ?_
          refine pr_if1t rfl rfl (i32_z hz15) h16 ?_
          refine pr_incw (a := y6) rfl rfl ?_
          show pr N2 K d tb_M150 82 [(6, vi (ipl y6 1)), (5, vi y5), (0, .ref 170), (1, vi y1), (2, vi y2), (3, vi y3), (4, vi y4)] [] s15 _
          have h17 : i32 (ipl y6 1) := i32_in _
          refine pr_n (pc2 := 31) (lv2 := [(6, vi (ipl y6 1)), (5, vi y5), (0, .ref 170), (1, vi y1), (2, vi y2), (3, vi y3), (4, vi y4)]) (st2 := []) 1 (fun _ _ => rfl) ?_
          exact ((ih N2 hN2).1) s15 t15 (ipl y6 1) y5 y1 y2 y3 y4 hE15 h17 hy5 hy1 hy2 hy3 hy4
        · refine mq_f h16 ?_
          refine pr_if1f rfl rfl (i32_z hz15) h16 ?_
          refine pr_n (pc2 := 78) (lv2 := [(6, vi y6), (5, vi y5), (0, .ref 170), (1, vi y1), (2, vi y2), (3, vi y3), (4, vi y4)]) (st2 := [vi 0]) 1 (fun _ _ => rfl) ?_
          refine pr_end (fun _ _ => rfl) ?_
          exact .inl ⟨_, 0, _, rfl, ⟨rfl, (by decide)⟩, rfl, hE15⟩
      · refine mq_f h14 ?_
        refine pr_if1f rfl rfl hy6 h14 ?_
        refine pr_n (pc2 := 65) (lv2 := [(6, vi y6), (5, vi y5), (0, .ref 170), (1, vi y1), (2, vi y2), (3, vi y3), (4, vi y4)]) (st2 := [.ref 170]) 1 (fun _ _ => rfl) ?_
        refine pr_m1 (args := []) (rest := []) rfl rfl rfl rfl (Nat.le_of_ble_eq_true rfl) rfl (h_123 s2 t  hE2 ) ?_
        rintro _ _ t18 s18 ⟨rfl, rfl⟩ hE18
        show pr N2 K d tb_M150 68 [(6, vi y6), (5, vi y5), (0, .ref 170), (1, vi y1), (2, vi y2), (3, vi y3), (4, vi y4)] [] s18 _
        refine pr_n (pc2 := 71) (lv2 := [(6, vi y6), (5, vi y5), (0, .ref 170), (1, vi y1), (2, vi y2), (3, vi y3), (4, vi y4)]) (st2 := [vi y3, vi 0, .ref 170]) 3 (fun _ _ => rfl) ?_
        refine pr_m1 (args := [vi 0, vi y3]) (rest := []) rfl rfl rfl rfl (Nat.le_of_ble_eq_true rfl) rfl (h_144 s18 t18 0 y3 hE18 (i32_n rfl) hy3) ?_
        rintro _ z19 t19 s19 ⟨rfl, hz19⟩ hE19
        show pr N2 K d tb_M150 74 [(6, vi y6), (5, vi y5), (0, .ref 170), (1, vi y1), (2, vi y2), (3, vi y3), (4, vi y4)] [vi z19] s19 _
        by_cases h20 : z19 ≠ 0
        · refine mq_t h20 ?_
          refine pr_if1t rfl rfl (i32_z hz19) h20 ?_
          refine pr_incw (a := y6) rfl rfl ?_
          show pr N2 K d tb_M150 82 [(6, vi (ipl y6 1)), (5, vi y5), (0, .ref 170), (1, vi y1), (2, vi y2), (3, vi y3), (4, vi y4)] [] s19 _
          have h21 : i32 (ipl y6 1) := i32_in _
          refine pr_n (pc2 := 31) (lv2 := [(6, vi (ipl y6 1)), (5, vi y5), (0, .ref 170), (1, vi y1), (2, vi y2), (3, vi y3), (4, vi y4)]) (st2 := []) 1 (fun _ _ => rfl) ?_
          exact ((ih N2 hN2).1) s19 t19 (ipl y6 1) y5 y1 y2 y3 y4 hE19 h21 hy5 hy1 hy2 hy3 hy4
        · refine mq_f h20 ?_
          refine pr_if1f rfl rfl (i32_z hz19) h20 ?_
          refine pr_n (pc2 := 78) (lv2 := [(6, vi y6), (5, vi y5), (0, .ref 170), (1, vi y1), (2, vi y2), (3, vi y3), (4, vi y4)]) (st2 := [vi 0]) 1 (fun _ _ => rfl) ?_
          refine pr_end (fun _ _ => rfl) ?_
          exact .inl ⟨_, 0, _, rfl, ⟨rfl, (by decide)⟩, rfl, hE19⟩
  · refine mq_f h1 ?_
    refine pr_if1f rfl rfl hy6 h1 ?_
    refine pr_n (pc2 := 40) (lv2 := [(6, vi y6), (5, vi y5), (0, .ref 170), (1, vi y1), (2, vi y2), (3, vi y3), (4, vi y4)]) (st2 := [.ref 24, .ref 170]) 2 (fun _ _ => rfl) ?_
    refine pr_p1 (args := [.ref 24]) (rest := []) rfl rfl rfl rfl (Nat.le_of_ble_eq_true rfl) rfl (h_127 s t 24 hE isX_24) (fun z t3 => pu_127) ?_
    rintro _ z22 s22 ⟨rfl, hz22⟩ hX22 hE22
    show pr N2 K d tb_M150 43 [(6, vi y6), (5, vi y5), (0, .ref 170), (1, vi y1), (2, vi y2), (3, vi y3), (4, vi y4)] [vi z22] s22 _
    by_cases h23 : z22 ≠ 0
    · refine mq_t h23 ?_
      refine pr_if1t rfl rfl (i32_z hz22) h23 ?_
      refine pr_n (pc2 := 89) (lv2 := [(6, vi y6), (5, vi y5), (0, .ref 170), (1, vi y1), (2, vi y2), (3, vi y3), (4, vi y4)]) (st2 := [.ref 24, .ref 170]) 2 (fun _ _ => rfl) ?_
      refine pr_s1 (args := [.ref 24]) (rest := []) rfl rfl rfl rfl (Nat.le_of_ble_eq_true rfl) rfl (h_127 s22 t 24 hE22 isX_24) hX22 ?_
      rintro _ s24 ⟨rfl, hz24⟩ hE24
      show pr N2 K d tb_M150 92 [(6, vi y6), (5, vi y5), (0, .ref 170), (1, vi y1), (2, vi y2), (3, vi y3), (4, vi y4)] [vi z22] s24 _
      refine pr_if1t rfl rfl (i32_z hz22) (show z22 ≠ 0 by omega) ?_
      show pr N2 K d tb_M150 100 [(6, vi y6), (5, vi y5), (0, .ref 170), (1, vi y1), (2, vi y2), (3, vi y3), (4, vi y4)] [] s24 _
      refine pr_n (pc2 := 103) (lv2 := [(6, vi y6), (5, vi y5), (0, .ref 170), (1, vi y1), (2, vi y2), (3, vi y3), (4, vi y4)]) (st2 := [.ref 170, vi y6]) 2 (fun _ _ => rfl) ?_
      refine pr_get (v := .ref 201) rfl rfl rfl (by decide) (rv_ref (hE24.2.1 170 33 201 rfl)) fun _ => ?_
      refine pr_n (pc2 := 108) (lv2 := [(6, vi y6), (5, vi y5), (0, .ref 170), (1, vi y1), (2, vi y2), (3, vi y3), (4, vi y4)]) (st2 := [vi y5, .ref 201, vi y6]) 1 (fun _ _ => rfl) ?_
      refine pr_aE (k2 := 201) (a := y5) (v := vi (t 201 y5.toNat)) hE24 rfl rfl rfl hy5 (by decide) rfl rfl rfl fun h26 h27 h25 => ?_
      have h25 : i32 (t 201 y5.toNat) := h25
      by_cases h28 : y6 = t 201 y5.toNat
      · refine mq_t h28 ?_
        refine pr_if2t rfl rfl hy6 h25 h28 ?_
        refine pr_n (pc2 := 119) (lv2 := [(6, vi y6), (5, vi y5), (0, .ref 170), (1, vi y1), (2, vi y2), (3, vi y3), (4, vi y4)]) (st2 := [.ref 170]) 1 (fun _ _ => rfl) ?_
        refine pr_m1 (args := []) (rest := []) rfl rfl rfl rfl (Nat.le_of_ble_eq_true rfl) rfl (h_123 s24 t  hE24 ) ?_
        rintro _ _ t29 s29 ⟨rfl, rfl⟩ hE29
        show pr N2 K d tb_M150 122 [(6, vi y6), (5, vi y5), (0, .ref 170), (1, vi y1), (2, vi y2), (3, vi y3), (4, vi y4)] [] s29 _
        refine pr_n (pc2 := 125) (lv2 := [(6, vi y6), (5, vi y5), (0, .ref 170), (1, vi y1), (2, vi y2), (3, vi y3), (4, vi y4)]) (st2 := [vi 1, vi y6]) 2 (fun _ _ => rfl) ?_
        refine pr_i2 (a := y6) (b := 1) rfl rfl ?_
        show pr N2 K d tb_M150 126 [(6, vi y6), (5, vi y5), (0, .ref 170), (1, vi y1), (2, vi y2), (3, vi y3), (4, vi y4)] [vi (imi y6 1)] s29 _
        have h30 : i32 (imi y6 1) := i32_in _
        refine pr_n (pc2 := 128) (lv2 := [(7, vi (imi y6 1)), (6, vi y6), (5, vi y5), (0, .ref 170), (1, vi y1), (2, vi y2), (3, vi y3), (4, vi y4)]) (st2 := []) 1 (fun _ _ => rfl) ?_
        exact ((ih N2 hN2).2) s29 t29 (imi y6 1) y6 y5 y1 y2 y3 y4 hE29 h30 hy6 hy5 hy1 hy2 hy3 hy4
      · refine mq_f h28 ?_
        refine pr_if2f rfl rfl hy6 h25 h28 ?_
        refine pr_n (pc2 := 114) (lv2 := [(6, vi y6), (5, vi y5), (0, .ref 170), (1, vi y1), (2, vi y2), (3, vi y3), (4, vi y4)]) (st2 := [vi y2, .ref 170]) 2 (fun _ _ => rfl) ?_
        refine pr_s1 (args := [vi y2]) (rest := []) rfl rfl rfl rfl (Nat.le_of_ble_eq_true rfl) rfl (h_132 s24 t y2 hE24 hy2) q_bad1 ?_
        rintro _ s31 ⟨rfl, hz31⟩ hE31
        show pr N2 K d tb_M150 117 [(6, vi y6), (5, vi y5), (0, .ref 170), (1, vi y1), (2, vi y2), (3, vi y3), (4, vi y4)] [vi 0] s31 _
        refine pr_end (fun _ _ => rfl) ?_
        exact .inl ⟨_, 0, _, rfl, ⟨rfl, (by decide)⟩, rfl, hE31⟩
    · refine mq_f h23 ?_
      refine pr_if1f rfl rfl (i32_z hz22) h23 ?_
      refine pr_n (pc2 := 61) (lv2 := [(6, vi y6), (5, vi y5), (0, .ref 170), (1, vi y1), (2, vi y2), (3, vi y3), (4, vi y4)]) (st2 := [vi y6]) 2 (fun _ _ => rfl) ?_
      by_cases h32 : y6 ≤ 0
      · refine mq_t h32 ?_
        refine pr_if1t rfl rfl hy6 h32 ?_
        refine pr_n (pc2 := 71) (lv2 := [(6, vi y6), (5, vi y5), (0, .ref 170), (1, vi y1), (2, vi y2), (3, vi y3), (4, vi y4)]) (st2 := [vi y3, vi 0, .ref 170]) 3 (fun _ _ => rfl) ?_
        refine pr_m1 (args := [vi 0, vi y3]) (rest := []) rfl rfl rfl rfl (Nat.le_of_ble_eq_true rfl) rfl (h_144 s22 t 0 y3 hE22 (i32_n rfl) hy3) ?_
        rintro _ z33 t33 s33 ⟨rfl, hz33⟩ hE33
        show pr N2 K d tb_M150 74 [(6, vi y6), (5, vi y5), (0, .ref 170), (1, vi y1), (2, vi y2), (3, vi y3), (4, vi y4)] [vi z33] s33 _
        by_cases h34 : z33 ≠ 0
        · refine mq_t h34 ?_
          refine pr_if1t rfl rfl (i32_z hz33) h34 ?_
          refine pr_incw (a := y6) rfl rfl ?_
          show pr N2 K d tb_M150 82 [(6, vi (ipl y6 1)), (5, vi y5), (0, .ref 170), (1, vi y1), (2, vi y2), (3, vi y3), (4, vi y4)] [] s33 _
          have h35 : i32 (ipl y6 1) := i32_in _
          refine pr_n (pc2 := 31) (lv2 := [(6, vi (ipl y6 1)), (5, vi y5), (0, .ref 170), (1, vi y1), (2, vi y2), (3, vi y3), (4, vi y4)]) (st2 := []) 1 (fun _ _ => rfl) ?_
          exact ((ih N2 hN2).1) s33 t33 (ipl y6 1) y5 y1 y2 y3 y4 hE33 h35 hy5 hy1 hy2 hy3 hy4
        · refine mq_f h34 ?_
          refine pr_if1f rfl rfl (i32_z hz33) h34 ?_
          refine pr_n (pc2 := 78) (lv2 := [(6, vi y6), (5, vi y5), (0, .ref 170), (1, vi y1), (2, vi y2), (3, vi y3), (4, vi y4)]) (st2 := [vi 0]) 1 (fun _ _ => rfl) ?_
          refine pr_end (fun _ _ => rfl) ?_
          exact .inl ⟨_, 0, _, rfl, ⟨rfl, (by decide)⟩, rfl, hE33⟩
      · refine mq_f h32 ?_
        refine pr_if1f rfl rfl hy6 h32 ?_
        refine pr_n (pc2 := 65) (lv2 := [(6, vi y6), (5, vi y5), (0, .ref 170), (1, vi y1), (2, vi y2), (3, vi y3), (4, vi y4)]) (st2 := [.ref 170]) 1 (fun _ _ => rfl) ?_
        refine pr_m1 (args := []) (rest := []) rfl rfl rfl rfl (Nat.le_of_ble_eq_true rfl) rfl (h_123 s22 t  hE22 ) ?_
        rintro _ _ t36 s36 ⟨rfl, rfl⟩ hE36
        show pr N2 K d tb_M150 68 [(6, vi y6), (5, vi y5), (0, .ref 170), (1, vi y1), (2, vi y2), (3, vi y3), (4, vi y4)] [] s36 _
        refine pr_n (pc2 := 71) (lv2 := [(6, vi y6), (5, vi y5), (0, .ref 170), (1, vi y1), (2, vi y2), (3, vi y3), (4, vi y4)]) (st2 := [vi y3, vi 0, .ref 170]) 3 (fun _ _ => rfl) ?_
        refine pr_m1 (args := [vi 0, vi y3]) (rest := []) rfl rfl rfl rfl (Nat.le_of_ble_eq_true rfl) rfl (h_144 s36 t36 0 y3 hE36 (i32_n rfl) hy3) ?_
        rintro _ z37 t37 s37 ⟨rfl, hz37⟩ hE37
        show pr N2 K d tb_M150 74 [(6, vi y6), (5, vi y5), (0, .ref 170), (1, vi y1), (2, vi y2), (3, vi y3), (4, vi y4)] [vi z37] s37 _
        by_cases h38 : z37 ≠ 0
        · refine mq_t h38 ?_
          refine pr_if1t rfl rfl (i32_z hz37) h38 ?_
          refine pr_incw (a := y6) rfl rfl ?_
          show pr N2 K d tb_M150 82 [(6, vi (ipl y6 1)), (5, vi y5), (0, .ref 170), (1, vi y1), (2, vi y2), (3, vi y3), (4, vi y4)] [] s37 _
          have h39 : i32 (ipl y6 1) := i32_in _
          refine pr_n (pc2 := 31) (lv2 := [(6, vi (ipl y6 1)), (5, vi y5), (0, .ref 170), (1, vi y1), (2, vi y2), (3, vi y3), (4, vi y4)]) (st2 := []) 1 (fun _ _ => rfl) ?_
          exact ((ih N2 hN2).1) s37 t37 (ipl y6 1) y5 y1 y2 y3 y4 hE37 h39 hy5 hy1 hy2 hy3 hy4
        · refine mq_f h38 ?_
          refine pr_if1f rfl rfl (i32_z hz37) h38 ?_
          refine pr_n (pc2 := 78) (lv2 := [(6, vi y6), (5, vi y5), (0, .ref 170), (1, vi y1), (2, vi y2), (3, vi y3), (4, vi y4)]) (st2 := [vi 0]) 1 (fun _ _ => rfl) ?_
          refine pr_end (fun _ _ => rfl) ?_
          exact .inl ⟨_, 0, _, rfl, ⟨rfl, (by decide)⟩, rfl, hE37⟩
set_option maxHeartbeats 20000000 in
set_option maxRecDepth 100000 in
theorem ru150_1 {N K d C : Nat} (h_123 : rT123 K d C) (h_127 : rT127 K d C) (h_131 : rT131 K d C) (h_132 : rT132 K d C) (h_136 : rT136 K d C) (h_142 : rT142 K d C) (h_144 : rT144 K d C) (h_147 : rT147 K d C) (ih : ∀ N2, N2 < N → rA150 N2 K d C) : rU150_1 N K d C := by
  intro s t y7 y6 y5 y1 y2 y3 y4 hE hy7 hy6 hy5 hy1 hy2 hy3 hy4
  have hC : C = 177 ∨ C = 186 := hE.1
  rw [rG_150_128]
  unfold rM150_128
  refine pr_lt (pc2 := 130) (lv2 := [(7, vi y7), (6, vi y6), (5, vi y5), (0, .ref 170), (1, vi y1), (2, vi y2), (3, vi y3), (4, vi y4)]) (st2 := [vi y7]) (fun _ _ => rfl) fun N2 hN2 => ?_
  by_cases h1 : y7 < 0
  · refine mq_t h1 ?_
    refine pr_if1t rfl rfl hy7 h1 ?_
    refine pr_n (pc2 := 158) (lv2 := [(7, vi y7), (6, vi y6), (5, vi y5), (0, .ref 170), (1, vi y1), (2, vi y2), (3, vi y3), (4, vi y4)]) (st2 := [.ref 170, vi 11, .ref 170]) 3 (fun _ _ => rfl) ?_
    refine pr_get (v := .ref 200) rfl rfl rfl (by decide) (rv_ref (hE.2.1 170 32 200 rfl)) fun _ => ?_
    refine pr_n (pc2 := 163) (lv2 := [(7, vi y7), (6, vi y6), (5, vi y5), (0, .ref 170), (1, vi y1), (2, vi y2), (3, vi y3), (4, vi y4)]) (st2 := [vi y5, .ref 200, vi 11, .ref 170]) 1 (fun _ _ => rfl) ?_
    refine pr_aE (k2 := 200) (a := y5) (v := vi (t 200 y5.toNat)) hE rfl rfl rfl hy5 (by decide) rfl rfl rfl fun h3 h4 h2 => ?_
    have h2 : i32 (t 200 y5.toNat) := h2
    refine pr_s1 (args := [vi 11, vi (t 200 y5.toNat)]) (rest := []) rfl rfl rfl rfl (Nat.le_of_ble_eq_true rfl) rfl (h_147 s t 11 (t 200 y5.toNat) hE (i32_n rfl) h2) q_pt2 ?_
    rintro _ s5 ⟨rfl, _⟩ hE5
    show pr N2 K d tb_M150 167 [(7, vi y7), (6, vi y6), (5, vi y5), (0, .ref 170), (1, vi y1), (2, vi y2), (3, vi y3), (4, vi y4)] [] s5 _
    refine pr_n (pc2 := 169) (lv2 := [(7, vi y7), (6, vi y6), (5, vi y5), (0, .ref 170), (1, vi y1), (2, vi y2), (3, vi y3), (4, vi y4)]) (st2 := [.ref 170, .ref 170]) 2 (fun _ _ => rfl) ?_
    refine pr_gE (k2 := 170) (v := vl (t 170 22)) hE5 rfl rfl rfl (by decide) rfl rfl rfl fun h6 => ?_
    have h6 : i64 (t 170 22) := h6
    refine pr_n (pc2 := 173) (lv2 := [(7, vi y7), (6, vi y6), (5, vi y5), (0, .ref 170), (1, vi y1), (2, vi y2), (3, vi y3), (4, vi y4)]) (st2 := [.ref 170, vl (t 170 22), .ref 170]) 1 (fun _ _ => rfl) ?_
    refine pr_get (v := .ref 195) rfl rfl rfl (by decide) (rv_ref (hE5.2.1 170 27 195 rfl)) fun _ => ?_
    refine pr_n (pc2 := 178) (lv2 := [(7, vi y7), (6, vi y6), (5, vi y5), (0, .ref 170), (1, vi y1), (2, vi y2), (3, vi y3), (4, vi y4)]) (st2 := [vi y5, .ref 195, vl (t 170 22), .ref 170]) 1 (fun _ _ => rfl) ?_
    refine pr_aE (k2 := 195) (a := y5) (v := vl (t 195 y5.toNat)) hE5 rfl rfl rfl hy5 (by decide) rfl rfl rfl fun h8 h9 h7 => ?_
    have h7 : i64 (t 195 y5.toNat) := h7
    refine pr_l2 (a := t 170 22) (b := t 195 y5.toNat) rfl rfl ?_
    show pr N2 K d tb_M150 180 [(7, vi y7), (6, vi y6), (5, vi y5), (0, .ref 170), (1, vi y1), (2, vi y2), (3, vi y3), (4, vi y4)] [vl (lo (t 170 22) (t 195 y5.toNat)), .ref 170] s5 _
    refine pr_pE (k2 := 170) (z := lo (t 170 22) (t 195 y5.toNat)) hE5 rfl rfl rfl rfl (by decide) rfl (by decide) rfl (i64_in _) (fit_l _) rfl rfl rfl (fun e => absurd e.2 (by decide)) (fun _ => trivial) fun s10 hE10 => ?_
    refine pr_n (pc2 := 185) (lv2 := [(7, vi y7), (6, vi y6), (5, vi y5), (0, .ref 170), (1, vi y1), (2, vi y2), (3, vi y3), (4, vi y4)]) (st2 := [.ref 170, .ref 170]) 2 (fun _ _ => rfl) ?_
    refine pr_gE (k2 := 170) (v := vl (t 170 23)) hE10 rfl rfl rfl (by decide) rfl rfl rfl fun h11 => ?_
    have h11 : i64 (t 170 23) := h11
    refine pr_n (pc2 := 189) (lv2 := [(7, vi y7), (6, vi y6), (5, vi y5), (0, .ref 170), (1, vi y1), (2, vi y2), (3, vi y3), (4, vi y4)]) (st2 := [.ref 170, vl (t 170 23), .ref 170]) 1 (fun _ _ => rfl) ?_
    refine pr_get (v := .ref 196) rfl rfl rfl (by decide) (rv_ref (hE10.2.1 170 28 196 rfl)) fun _ => ?_
    refine pr_n (pc2 := 194) (lv2 := [(7, vi y7), (6, vi y6), (5, vi y5), (0, .ref 170), (1, vi y1), (2, vi y2), (3, vi y3), (4, vi y4)]) (st2 := [vi y5, .ref 196, vl (t 170 23), .ref 170]) 1 (fun _ _ => rfl) ?_
    refine pr_aE (k2 := 196) (a := y5) (v := vl (t 196 y5.toNat)) hE10 rfl rfl rfl hy5 (by decide) rfl rfl rfl fun h13 h14 h12 => ?_
    have h12 : i64 (t 196 y5.toNat) := h12
    refine pr_l2 (a := t 170 23) (b := t 196 y5.toNat) rfl rfl ?_
    show pr N2 K d tb_M150 196 [(7, vi y7), (6, vi y6), (5, vi y5), (0, .ref 170), (1, vi y1), (2, vi y2), (3, vi y3), (4, vi y4)] [vl (lo (t 170 23) (t 196 y5.toNat)), .ref 170] s10 _
    refine pr_pE (k2 := 170) (z := lo (t 170 23) (t 196 y5.toNat)) hE10 rfl rfl rfl rfl (by decide) rfl (by decide) rfl (i64_in _) (fit_l _) rfl rfl rfl (fun e => absurd e.2 (by decide)) (fun _ => trivial) fun s15 hE15 => ?_
    refine pr_n (pc2 := 201) (lv2 := [(7, vi y7), (6, vi y6), (5, vi y5), (0, .ref 170), (1, vi y1), (2, vi y2), (3, vi y3), (4, vi y4)]) (st2 := [.ref 170, .ref 170]) 2 (fun _ _ => rfl) ?_
    refine pr_gE (k2 := 170) (v := vl (t 170 24)) hE15 rfl rfl rfl (by decide) rfl rfl rfl fun h16 => ?_
    have h16 : i64 (t 170 24) := h16
    refine pr_n (pc2 := 205) (lv2 := [(7, vi y7), (6, vi y6), (5, vi y5), (0, .ref 170), (1, vi y1), (2, vi y2), (3, vi y3), (4, vi y4)]) (st2 := [.ref 170, vl (t 170 24), .ref 170]) 1 (fun _ _ => rfl) ?_
    refine pr_get (v := .ref 197) rfl rfl rfl (by decide) (rv_ref (hE15.2.1 170 29 197 rfl)) fun _ => ?_
    refine pr_n (pc2 := 210) (lv2 := [(7, vi y7), (6, vi y6), (5, vi y5), (0, .ref 170), (1, vi y1), (2, vi y2), (3, vi y3), (4, vi y4)]) (st2 := [vi y5, .ref 197, vl (t 170 24), .ref 170]) 1 (fun _ _ => rfl) ?_
    refine pr_aE (k2 := 197) (a := y5) (v := vl (t 197 y5.toNat)) hE15 rfl rfl rfl hy5 (by decide) rfl rfl rfl fun h18 h19 h17 => ?_
    have h17 : i64 (t 197 y5.toNat) := h17
    refine pr_l2 (a := t 170 24) (b := t 197 y5.toNat) rfl rfl ?_
    show pr N2 K d tb_M150 212 [(7, vi y7), (6, vi y6), (5, vi y5), (0, .ref 170), (1, vi y1), (2, vi y2), (3, vi y3), (4, vi y4)] [vl (lo (t 170 24) (t 197 y5.toNat)), .ref 170] s15 _
    refine pr_pE (k2 := 170) (z := lo (t 170 24) (t 197 y5.toNat)) hE15 rfl rfl rfl rfl (by decide) rfl (by decide) rfl (i64_in _) (fit_l _) rfl rfl rfl (fun e => absurd e.2 (by decide)) (fun _ => trivial) fun s20 hE20 => ?_
    refine pr_n (pc2 := 217) (lv2 := [(7, vi y7), (6, vi y6), (5, vi y5), (0, .ref 170), (1, vi y1), (2, vi y2), (3, vi y3), (4, vi y4)]) (st2 := [.ref 170, .ref 170]) 2 (fun _ _ => rfl) ?_
    refine pr_gE (k2 := 170) (v := vl (t 170 25)) hE20 rfl rfl rfl (by decide) rfl rfl rfl fun h21 => ?_
    have h21 : i64 (t 170 25) := h21
    refine pr_n (pc2 := 221) (lv2 := [(7, vi y7), (6, vi y6), (5, vi y5), (0, .ref 170), (1, vi y1), (2, vi y2), (3, vi y3), (4, vi y4)]) (st2 := [.ref 170, vl (t 170 25), .ref 170]) 1 (fun _ _ => rfl) ?_
    refine pr_get (v := .ref 198) rfl rfl rfl (by decide) (rv_ref (hE20.2.1 170 30 198 rfl)) fun _ => ?_
    refine pr_n (pc2 := 226) (lv2 := [(7, vi y7), (6, vi y6), (5, vi y5), (0, .ref 170), (1, vi y1), (2, vi y2), (3, vi y3), (4, vi y4)]) (st2 := [vi y5, .ref 198, vl (t 170 25), .ref 170]) 1 (fun _ _ => rfl) ?_
    refine pr_aE (k2 := 198) (a := y5) (v := vl (t 198 y5.toNat)) hE20 rfl rfl rfl hy5 (by decide) rfl rfl rfl fun h23 h24 h22 => ?_
    have h22 : i64 (t 198 y5.toNat) := h22
    refine pr_l2 (a := t 170 25) (b := t 198 y5.toNat) rfl rfl ?_
    show pr N2 K d tb_M150 228 [(7, vi y7), (6, vi y6), (5, vi y5), (0, .ref 170), (1, vi y1), (2, vi y2), (3, vi y3), (4, vi y4)] [vl (lo (t 170 25) (t 198 y5.toNat)), .ref 170] s20 _
    refine pr_pE (k2 := 170) (z := lo (t 170 25) (t 198 y5.toNat)) hE20 rfl rfl rfl rfl (by decide) rfl (by decide) rfl (i64_in _) (fit_l _) rfl rfl rfl (fun e => absurd e.2 (by decide)) (fun _ => trivial) fun s25 hE25 => ?_
    refine pr_n (pc2 := 233) (lv2 := [(7, vi y7), (6, vi y6), (5, vi y5), (0, .ref 170), (1, vi y1), (2, vi y2), (3, vi y3), (4, vi y4)]) (st2 := [.ref 170, .ref 170]) 2 (fun _ _ => rfl) ?_
    refine pr_gE (k2 := 170) (v := vl (t 170 26)) hE25 rfl rfl rfl (by decide) rfl rfl rfl fun h26 => ?_
    have h26 : i64 (t 170 26) := h26
    refine pr_n (pc2 := 237) (lv2 := [(7, vi y7), (6, vi y6), (5, vi y5), (0, .ref 170), (1, vi y1), (2, vi y2), (3, vi y3), (4, vi y4)]) (st2 := [.ref 170, vl (t 170 26), .ref 170]) 1 (fun _ _ => rfl) ?_
    refine pr_get (v := .ref 199) rfl rfl rfl (by decide) (rv_ref (hE25.2.1 170 31 199 rfl)) fun _ => ?_
    refine pr_n (pc2 := 242) (lv2 := [(7, vi y7), (6, vi y6), (5, vi y5), (0, .ref 170), (1, vi y1), (2, vi y2), (3, vi y3), (4, vi y4)]) (st2 := [vi y5, .ref 199, vl (t 170 26), .ref 170]) 1 (fun _ _ => rfl) ?_
    refine pr_aE (k2 := 199) (a := y5) (v := vl (t 199 y5.toNat)) hE25 rfl rfl rfl hy5 (by decide) rfl rfl rfl fun h28 h29 h27 => ?_
    have h27 : i64 (t 199 y5.toNat) := h27
    refine pr_l2 (a := t 170 26) (b := t 199 y5.toNat) rfl rfl ?_
    show pr N2 K d tb_M150 244 [(7, vi y7), (6, vi y6), (5, vi y5), (0, .ref 170), (1, vi y1), (2, vi y2), (3, vi y3), (4, vi y4)] [vl (lo (t 170 26) (t 199 y5.toNat)), .ref 170] s25 _
    refine pr_pE (k2 := 170) (z := lo (t 170 26) (t 199 y5.toNat)) hE25 rfl rfl rfl rfl (by decide) rfl (by decide) rfl (i64_in _) (fit_l _) rfl rfl rfl (fun e => absurd e.2 (by decide)) (fun _ => trivial) fun s30 hE30 => ?_
    refine pr_n (pc2 := 249) (lv2 := [(7, vi y7), (6, vi y6), (5, vi y5), (0, .ref 170), (1, vi y1), (2, vi y2), (3, vi y3), (4, vi y4)]) (st2 := [vi y4]) 1 (fun _ _ => rfl) ?_
    by_cases h31 : y4 ≠ 0
    · refine mq_t h31 ?_
      refine pr_if1t rfl rfl hy4 h31 ?_
      refine pr_n (pc2 := 266) (lv2 := [(7, vi y7), (6, vi y6), (5, vi y5), (0, .ref 170), (1, vi y1), (2, vi y2), (3, vi y3), (4, vi y4)]) (st2 := [vi 1]) 2 (fun _ _ => rfl) ?_
      refine pr_end (fun _ _ => rfl) ?_
      exact .inl ⟨_, 1, _, rfl, ⟨rfl, (by decide)⟩, rfl, hE30⟩
    · refine mq_f h31 ?_
      refine pr_if1f rfl rfl hy4 h31 ?_
      refine pr_n (pc2 := 255) (lv2 := [(7, vi y7), (6, vi y6), (5, vi y5), (0, .ref 170), (1, vi y1), (2, vi y2), (3, vi y3), (4, vi y4)]) (st2 := [.ref 30, .ref 170]) 2 (fun _ _ => rfl) ?_
      refine pr_m1 (args := [.ref 30]) (rest := []) rfl rfl rfl rfl (Nat.le_of_ble_eq_true rfl) rfl (h_136 s30 (up2 (up2 (up2 (up2 (up2 ((pt2 t 11 (t 200 y5.toNat))) 170 22 (lo (t 170 22) (t 195 y5.toNat))) 170 23 (lo (t 170 23) (t 196 y5.toNat))) 170 24 (lo (t 170 24) (t 197 y5.toNat))) 170 25 (lo (t 170 25) (t 198 y5.toNat))) 170 26 (lo (t 170 26) (t 199 y5.toNat))) 30 hE30 isX_30) ?_
      rintro _ z32 t32 s32 ⟨rfl, hz32⟩ hE32
      show pr N2 K d tb_M150 258 [(7, vi y7), (6, vi y6), (5, vi y5), (0, .ref 170), (1, vi y1), (2, vi y2), (3, vi y3), (4, vi y4)] [vi z32] s32 _
      by_cases h33 : z32 = 0
      · refine mq_t h33 ?_
        refine pr_if1t rfl rfl (i32_z hz32) h33 ?_
        refine pr_n (pc2 := 266) (lv2 := [(7, vi y7), (6, vi y6), (5, vi y5), (0, .ref 170), (1, vi y1), (2, vi y2), (3, vi y3), (4, vi y4)]) (st2 := [vi 0]) 1 (fun _ _ => rfl) ?_
        refine pr_end (fun _ _ => rfl) ?_
        exact .inl ⟨_, 0, _, rfl, ⟨rfl, (by decide)⟩, rfl, hE32⟩
      · refine mq_f h33 ?_
        refine pr_if1f rfl rfl (i32_z hz32) h33 ?_
        refine pr_n (pc2 := 266) (lv2 := [(7, vi y7), (6, vi y6), (5, vi y5), (0, .ref 170), (1, vi y1), (2, vi y2), (3, vi y3), (4, vi y4)]) (st2 := [vi 1]) 2 (fun _ _ => rfl) ?_
        refine pr_end (fun _ _ => rfl) ?_
        exact .inl ⟨_, 1, _, rfl, ⟨rfl, (by decide)⟩, rfl, hE32⟩
  · refine mq_f h1 ?_
    refine pr_if1f rfl rfl hy7 h1 ?_
    refine pr_n (pc2 := 136) (lv2 := [(7, vi y7), (6, vi y6), (5, vi y5), (0, .ref 170), (1, vi y1), (2, vi y2), (3, vi y3), (4, vi y4)]) (st2 := [.ref 170, vi 5, .ref 170]) 3 (fun _ _ => rfl) ?_
    refine pr_get (v := .ref 202) rfl rfl rfl (by decide) (rv_ref (hE.2.1 170 34 202 rfl)) fun _ => ?_
    refine pr_n (pc2 := 141) (lv2 := [(7, vi y7), (6, vi y6), (5, vi y5), (0, .ref 170), (1, vi y1), (2, vi y2), (3, vi y3), (4, vi y4)]) (st2 := [vi y5, .ref 202, vi 5, .ref 170]) 1 (fun _ _ => rfl) ?_
    refine pr_aE (k2 := 202) (a := y5) (v := vi (t 202 y5.toNat)) hE rfl rfl rfl hy5 (by decide) rfl rfl rfl fun h35 h36 h34 => ?_
    have h34 : i32 (t 202 y5.toNat) := h34
    refine pr_n (pc2 := 144) (lv2 := [(7, vi y7), (6, vi y6), (5, vi y5), (0, .ref 170), (1, vi y1), (2, vi y2), (3, vi y3), (4, vi y4)]) (st2 := [vi y7, vi (t 202 y5.toNat), vi 5, .ref 170]) 1 (fun _ _ => rfl) ?_
    refine pr_i2 (a := t 202 y5.toNat) (b := y7) rfl rfl ?_
    show pr N2 K d tb_M150 145 [(7, vi y7), (6, vi y6), (5, vi y5), (0, .ref 170), (1, vi y1), (2, vi y2), (3, vi y3), (4, vi y4)] [vi (ipl (t 202 y5.toNat) y7), vi 5, .ref 170] s _
    have h37 : i32 (ipl (t 202 y5.toNat) y7) := i32_in _
    refine pr_s1 (args := [vi 5, vi (ipl (t 202 y5.toNat) y7)]) (rest := []) rfl rfl rfl rfl (Nat.le_of_ble_eq_true rfl) rfl (h_147 s t 5 (ipl (t 202 y5.toNat) y7) hE (i32_n rfl) h37) q_pt2 ?_
    rintro _ s38 ⟨rfl, _⟩ hE38
    show pr N2 K d tb_M150 148 [(7, vi y7), (6, vi y6), (5, vi y5), (0, .ref 170), (1, vi y1), (2, vi y2), (3, vi y3), (4, vi y4)] [] s38 _
    refine pr_inc (a := y7) rfl rfl ?_
    have h39 : i32 (y7 + (-1)) := by unfold i32 at *; omega
    show pr N2 K d tb_M150 151 [(7, vi (y7 + (-1))), (6, vi y6), (5, vi y5), (0, .ref 170), (1, vi y1), (2, vi y2), (3, vi y3), (4, vi y4)] [] s38 _
    refine pr_n (pc2 := 128) (lv2 := [(7, vi (y7 + (-1))), (6, vi y6), (5, vi y5), (0, .ref 170), (1, vi y1), (2, vi y2), (3, vi y3), (4, vi y4)]) (st2 := []) 1 (fun _ _ => rfl) ?_
    exact ((ih N2 hN2).2) s38 ((pt2 t 5 (ipl (t 202 y5.toNat) y7))) (y7 + (-1)) y6 y5 y1 y2 y3 y4 hE38 h39 hy6 hy5 hy1 hy2 hy3 hy4
theorem ra150 {K d C : Nat} (h_123 : rT123 K d C) (h_127 : rT127 K d C) (h_131 : rT131 K d C) (h_132 : rT132 K d C) (h_136 : rT136 K d C) (h_142 : rT142 K d C) (h_144 : rT144 K d C) (h_147 : rT147 K d C) : ∀ N, rA150 N K d C := by
  intro N
  induction N using Nat.strongRecOn with | ind N ih => ?_
  exact ⟨ru150_0 h_123 h_127 h_131 h_132 h_136 h_142 h_144 h_147 ih, ru150_1 h_123 h_127 h_131 h_132 h_136 h_142 h_144 h_147 ih⟩
set_option maxHeartbeats 20000000 in
set_option maxRecDepth 100000 in
theorem rm150 {K d C : Nat} (h_123 : rT123 K d C) (h_127 : rT127 K d C) (h_131 : rT131 K d C) (h_132 : rT132 K d C) (h_136 : rT136 K d C) (h_142 : rT142 K d C) (h_144 : rT144 K d C) (h_147 : rT147 K d C) : rT150 K (d + 1) C := by
  intro s t x1 x2 x3 x4 hE hx1 hx2 hx3 hx4
  have hC : C = 177 ∨ C = 186 := hE.1
  refine pcr_of (M := tb_M150) rfl ?_
  show pr K K d tb_M150 0 [(0, .ref 170), (1, vi x1), (2, vi x2), (3, vi x3), (4, vi x4)] [] s _
  rw [rG_150]
  unfold rM150
  refine pr_n (pc2 := 1) (lv2 := [(0, .ref 170), (1, vi x1), (2, vi x2), (3, vi x3), (4, vi x4)]) (st2 := [.ref 170]) 1 (fun _ _ => rfl) ?_
  refine pr_get (v := .ref 175) rfl rfl rfl (by decide) (rv_ref (hE.2.1 170 12 175 rfl)) fun _ => ?_
  refine pr_n (pc2 := 5) (lv2 := [(0, .ref 170), (1, vi x1), (2, vi x2), (3, vi x3), (4, vi x4)]) (st2 := [vi x1, .ref 175]) 1 (fun _ _ => rfl) ?_
  refine pr_aE (k2 := 175) (a := x1) (v := vi (t 175 x1.toNat)) hE rfl rfl rfl hx1 (by decide) rfl rfl rfl fun h2 h3 h1 => ?_
  have h1 : i32 (t 175 x1.toNat) := h1
  refine pr_n (pc2 := 12) (lv2 := [(6, vi 0), (5, vi (t 175 x1.toNat)), (0, .ref 170), (1, vi x1), (2, vi x2), (3, vi x3), (4, vi x4)]) (st2 := [.ref 170]) 4 (fun _ _ => rfl) ?_
  refine pr_s1 (args := []) (rest := []) rfl rfl rfl rfl (Nat.le_of_ble_eq_true rfl) rfl (h_142 s t  hE ) q_prt ?_
  rintro _ s4 ⟨rfl, _⟩ hE4
  show pr K K d tb_M150 15 [(6, vi 0), (5, vi (t 175 x1.toNat)), (0, .ref 170), (1, vi x1), (2, vi x2), (3, vi x3), (4, vi x4)] [] s4 _
  refine pr_n (pc2 := 16) (lv2 := [(6, vi 0), (5, vi (t 175 x1.toNat)), (0, .ref 170), (1, vi x1), (2, vi x2), (3, vi x3), (4, vi x4)]) (st2 := [.ref 170]) 1 (fun _ _ => rfl) ?_
  refine pr_m1 (args := []) (rest := []) rfl rfl rfl rfl (Nat.le_of_ble_eq_true rfl) rfl (h_123 s4 ((prt t))  hE4 ) ?_
  rintro _ _ t5 s5 ⟨rfl, rfl⟩ hE5
  show pr K K d tb_M150 19 [(6, vi 0), (5, vi (t 175 x1.toNat)), (0, .ref 170), (1, vi x1), (2, vi x2), (3, vi x3), (4, vi x4)] [] s5 _
  refine pr_n (pc2 := 23) (lv2 := [(6, vi 0), (5, vi (t 175 x1.toNat)), (0, .ref 170), (1, vi x1), (2, vi x2), (3, vi x3), (4, vi x4)]) (st2 := [.ref 22, .ref 170]) 2 (fun _ _ => rfl) ?_
  refine pr_m1 (args := [.ref 22]) (rest := []) rfl rfl rfl rfl (Nat.le_of_ble_eq_true rfl) rfl (h_136 s5 t5 22 hE5 isX_22) ?_
  rintro _ z6 t6 s6 ⟨rfl, hz6⟩ hE6
  show pr K K d tb_M150 26 [(6, vi 0), (5, vi (t 175 x1.toNat)), (0, .ref 170), (1, vi x1), (2, vi x2), (3, vi x3), (4, vi x4)] [vi z6] s6 _
  by_cases h7 : z6 ≠ 0
  · refine mq_t h7 ?_
    refine pr_if1t rfl rfl (i32_z hz6) h7 ?_
    exact ((ra150 h_123 h_127 h_131 h_132 h_136 h_142 h_144 h_147 K).1) s6 t6 0 (t 175 x1.toNat) x1 x2 x3 x4 hE6 (i32_n rfl) h1 hx1 hx2 hx3 (i32_z hx4)
  · refine mq_f h7 ?_
    refine pr_if1f rfl rfl (i32_z hz6) h7 ?_
    refine pr_n (pc2 := 30) (lv2 := [(6, vi 0), (5, vi (t 175 x1.toNat)), (0, .ref 170), (1, vi x1), (2, vi x2), (3, vi x3), (4, vi x4)]) (st2 := [vi 0]) 1 (fun _ _ => rfl) ?_
    refine pr_end (fun _ _ => rfl) ?_
    exact .inl ⟨_, 0, _, rfl, ⟨rfl, (by decide)⟩, rfl, hE6⟩
set_option maxHeartbeats 20000000 in
set_option maxRecDepth 100000 in
theorem rm157 {K d C : Nat} (h_123 : rT123 K d C) (h_131 : rT131 K d C) (h_132 : rT132 K d C) (h_136 : rT136 K d C) (h_144 : rT144 K d C) : rT157 K (d + 1) C := by
  intro s t x1 x2 x3 hE hx1 hx2 hx3
  have hC : C = 177 ∨ C = 186 := hE.1
  refine pcr_of (M := tb_M157) rfl ?_
  show pr K K d tb_M157 0 [(0, .ref 170), (1, vi x1), (2, vi x2), (3, vi x3)] [] s _
  rw [rG_157]
  unfold rM157
  refine pr_n (pc2 := 1) (lv2 := [(0, .ref 170), (1, vi x1), (2, vi x2), (3, vi x3)]) (st2 := [.ref 170]) 1 (fun _ _ => rfl) ?_
  refine pr_m1 (args := []) (rest := []) rfl rfl rfl rfl (Nat.le_of_ble_eq_true rfl) rfl (h_123 s t  hE ) ?_
  rintro _ _ t1 s1 ⟨rfl, rfl⟩ hE1
  show pr K K d tb_M157 4 [(0, .ref 170), (1, vi x1), (2, vi x2), (3, vi x3)] [] s1 _
  refine pr_n (pc2 := 5) (lv2 := [(0, .ref 170), (1, vi x1), (2, vi x2), (3, vi x3)]) (st2 := [.ref 170]) 1 (fun _ _ => rfl) ?_
  refine pr_gE (k2 := 170) (v := vi (t1 170 37)) hE1 rfl rfl rfl (by decide) rfl rfl rfl fun h2 => ?_
  have h2 : 0 ≤ t1 170 37 ∧ t1 170 37 ≤ 1 := h2
  by_cases h3 : t1 170 37 = 0
  · refine mq_t h3 ?_
    refine pr_if1t rfl rfl (i32_z h2) h3 ?_
    refine pr_n (pc2 := 42) (lv2 := [(0, .ref 170), (1, vi x1), (2, vi x2), (3, vi x3)]) (st2 := [.ref 170, .ref 170]) 2 (fun _ _ => rfl) ?_
    refine pr_gE (k2 := 170) (v := vl (t1 170 22)) hE1 rfl rfl rfl (by decide) rfl rfl rfl fun h4 => ?_
    have h4 : i64 (t1 170 22) := h4
    refine pr_n (pc2 := 47) (lv2 := [(0, .ref 170), (1, vi x1), (2, vi x2), (3, vi x3)]) (st2 := [.ref 170, vl 1, vl (t1 170 22), .ref 170]) 2 (fun _ _ => rfl) ?_
    refine pr_get (v := .ref 174) rfl rfl rfl (by decide) (rv_ref (hE1.2.1 170 11 174 rfl)) fun _ => ?_
    refine pr_n (pc2 := 51) (lv2 := [(0, .ref 170), (1, vi x1), (2, vi x2), (3, vi x3)]) (st2 := [vi x1, .ref 174, vl 1, vl (t1 170 22), .ref 170]) 1 (fun _ _ => rfl) ?_
    refine pr_aE (k2 := 174) (a := x1) (v := vi (t1 174 x1.toNat)) hE1 rfl rfl rfl hx1 (by decide) rfl rfl rfl fun h6 h7 h5 => ?_
    have h5 : i32 (t1 174 x1.toNat) := h5
    refine pr_n (pc2 := 53) (lv2 := [(0, .ref 170), (1, vi x1), (2, vi x2), (3, vi x3)]) (st2 := [vi 1, vi (t1 174 x1.toNat), vl 1, vl (t1 170 22), .ref 170]) 1 (fun _ _ => rfl) ?_
    by_cases h8 : t1 174 x1.toNat ≠ 1
    · refine mq_t h8 ?_
      refine pr_if2t rfl rfl h5 (i32_n rfl) h8 ?_
      refine pr_n (pc2 := 63) (lv2 := [(0, .ref 170), (1, vi x1), (2, vi x2), (3, vi x3)]) (st2 := [.ref 170, vi 0, vl 1, vl (t1 170 22), .ref 170]) 2 (fun _ _ => rfl) ?_
      refine pr_get (v := .ref 175) rfl rfl rfl (by decide) (rv_ref (hE1.2.1 170 12 175 rfl)) fun _ => ?_
      refine pr_n (pc2 := 67) (lv2 := [(0, .ref 170), (1, vi x1), (2, vi x2), (3, vi x3)]) (st2 := [vi x1, .ref 175, vi 0, vl 1, vl (t1 170 22), .ref 170]) 1 (fun _ _ => rfl) ?_
      refine pr_aE (k2 := 175) (a := x1) (v := vi (t1 175 x1.toNat)) hE1 rfl rfl rfl hx1 (by decide) rfl rfl rfl fun h10 h11 h9 => ?_
      have h9 : i32 (t1 175 x1.toNat) := h9
      refine pr_i2 (a := 0) (b := t1 175 x1.toNat) rfl rfl ?_
      show pr K K d tb_M157 69 [(0, .ref 170), (1, vi x1), (2, vi x2), (3, vi x3)] [vi (ipl 0 (t1 175 x1.toNat)), vl 1, vl (t1 170 22), .ref 170] s1 _
      have h12 : i32 (ipl 0 (t1 175 x1.toNat)) := i32_in _
      refine pr_lshl (a := 1) (b := ipl 0 (t1 175 x1.toNat)) rfl ?_
      refine pr_l2 (a := t1 170 22) (b := lsl 1 (ipl 0 (t1 175 x1.toNat))) rfl rfl ?_
      show pr K K d tb_M157 71 [(0, .ref 170), (1, vi x1), (2, vi x2), (3, vi x3)] [vl (lo (t1 170 22) (lsl 1 (ipl 0 (t1 175 x1.toNat)))), .ref 170] s1 _
      refine pr_pE (k2 := 170) (z := lo (t1 170 22) (lsl 1 (ipl 0 (t1 175 x1.toNat)))) hE1 rfl rfl rfl rfl (by decide) rfl (by decide) rfl (i64_in _) (fit_l _) rfl rfl rfl (fun e => absurd e.2 (by decide)) (fun _ => trivial) fun s13 hE13 => ?_
      refine pr_n (pc2 := 75) (lv2 := [(0, .ref 170), (1, vi x1), (2, vi x2), (3, vi x3)]) (st2 := [.ref 170]) 1 (fun _ _ => rfl) ?_
      refine pr_get (v := .ref 174) rfl rfl rfl (by decide) (rv_ref (hE13.2.1 170 11 174 rfl)) fun _ => ?_
      refine pr_n (pc2 := 79) (lv2 := [(0, .ref 170), (1, vi x1), (2, vi x2), (3, vi x3)]) (st2 := [vi x1, .ref 174]) 1 (fun _ _ => rfl) ?_
      refine pr_aE (k2 := 174) (a := x1) (v := vi (t1 174 x1.toNat)) hE13 rfl rfl rfl hx1 (by decide) rfl rfl rfl fun h15 h16 h14 => ?_
      have h14 : i32 (t1 174 x1.toNat) := h14
      by_cases h17 : t1 174 x1.toNat ≠ 0
      · refine mq_t h17 ?_
        refine pr_if1t rfl rfl h14 h17 ?_
        refine pr_n (pc2 := 87) (lv2 := [(0, .ref 170), (1, vi x1), (2, vi x2), (3, vi x3)]) (st2 := [vi 1, vi x3]) 2 (fun _ _ => rfl) ?_
        refine pr_i2 (a := x3) (b := 1) rfl rfl ?_
        show pr K K d tb_M157 88 [(0, .ref 170), (1, vi x1), (2, vi x2), (3, vi x3)] [vi (ipl x3 1)] s13 _
        have h18 : i32 (ipl x3 1) := i32_in _
        refine pr_n (pc2 := 90) (lv2 := [(0, .ref 170), (1, vi x1), (2, vi x2), (3, vi x3)]) (st2 := [vi 20, vi (ipl x3 1)]) 1 (fun _ _ => rfl) ?_
        by_cases h19 : ipl x3 1 ≠ 20
        · refine mq_t h19 ?_
          refine pr_if2t rfl rfl h18 (i32_n rfl) h19 ?_
          refine pr_n (pc2 := 99) (lv2 := [(0, .ref 170), (1, vi x1), (2, vi x2), (3, vi x3)]) (st2 := [.ref 170]) 1 (fun _ _ => rfl) ?_
          refine pr_m1 (args := []) (rest := []) rfl rfl rfl rfl (Nat.le_of_ble_eq_true rfl) rfl (h_123 s13 (up2 t1 170 22 (lo (t1 170 22) (lsl 1 (ipl 0 (t1 175 x1.toNat)))))  hE13 ) ?_
          rintro _ _ t20 s20 ⟨rfl, rfl⟩ hE20
          show pr K K d tb_M157 102 [(0, .ref 170), (1, vi x1), (2, vi x2), (3, vi x3)] [] s20 _
          refine pr_n (pc2 := 106) (lv2 := [(0, .ref 170), (1, vi x1), (2, vi x2), (3, vi x3)]) (st2 := [vi 2, vi x3, vi 0, .ref 170]) 4 (fun _ _ => rfl) ?_
          refine pr_i2 (a := x3) (b := 2) rfl rfl ?_
          show pr K K d tb_M157 107 [(0, .ref 170), (1, vi x1), (2, vi x2), (3, vi x3)] [vi (ipl x3 2), vi 0, .ref 170] s20 _
          have h21 : i32 (ipl x3 2) := i32_in _
          refine pr_m1 (args := [vi 0, vi (ipl x3 2)]) (rest := []) rfl rfl rfl rfl (Nat.le_of_ble_eq_true rfl) rfl (h_144 s20 t20 0 (ipl x3 2) hE20 (i32_n rfl) h21) ?_
          rintro _ z22 t22 s22 ⟨rfl, hz22⟩ hE22
          show pr K K d tb_M157 110 [(0, .ref 170), (1, vi x1), (2, vi x2), (3, vi x3)] [vi z22] s22 _
          by_cases h23 : z22 = 0
          · refine mq_t h23 ?_
            refine pr_if1t rfl rfl (i32_z hz22) h23 ?_
            refine pr_n (pc2 := 128) (lv2 := [(0, .ref 170), (1, vi x1), (2, vi x2), (3, vi x3)]) (st2 := [vi 0]) 1 (fun _ _ => rfl) ?_
            refine pr_end (fun _ _ => rfl) ?_
            exact .inl ⟨_, 0, _, rfl, ⟨rfl, (by decide)⟩, rfl, hE22⟩
          · refine mq_f h23 ?_
            refine pr_if1f rfl rfl (i32_z hz22) h23 ?_
            refine pr_n (pc2 := 117) (lv2 := [(0, .ref 170), (1, vi x1), (2, vi x2), (3, vi x3)]) (st2 := [.ref 44, .ref 170]) 2 (fun _ _ => rfl) ?_
            refine pr_m1 (args := [.ref 44]) (rest := []) rfl rfl rfl rfl (Nat.le_of_ble_eq_true rfl) rfl (h_136 s22 t22 44 hE22 isX_44) ?_
            rintro _ z24 t24 s24 ⟨rfl, hz24⟩ hE24
            show pr K K d tb_M157 120 [(0, .ref 170), (1, vi x1), (2, vi x2), (3, vi x3)] [vi z24] s24 _
            by_cases h25 : z24 = 0
            · refine mq_t h25 ?_
              refine pr_if1t rfl rfl (i32_z hz24) h25 ?_
              refine pr_n (pc2 := 128) (lv2 := [(0, .ref 170), (1, vi x1), (2, vi x2), (3, vi x3)]) (st2 := [vi 0]) 1 (fun _ _ => rfl) ?_
              refine pr_end (fun _ _ => rfl) ?_
              exact .inl ⟨_, 0, _, rfl, ⟨rfl, (by decide)⟩, rfl, hE24⟩
            · refine mq_f h25 ?_
              refine pr_if1f rfl rfl (i32_z hz24) h25 ?_
              refine pr_n (pc2 := 128) (lv2 := [(0, .ref 170), (1, vi x1), (2, vi x2), (3, vi x3)]) (st2 := [vi 1]) 2 (fun _ _ => rfl) ?_
              refine pr_end (fun _ _ => rfl) ?_
              exact .inl ⟨_, 1, _, rfl, ⟨rfl, (by decide)⟩, rfl, hE24⟩
        · refine mq_f h19 ?_
          refine pr_if2f rfl rfl h18 (i32_n rfl) h19 ?_
          refine pr_n (pc2 := 94) (lv2 := [(0, .ref 170), (1, vi x1), (2, vi x2), (3, vi x3)]) (st2 := [.ref 170]) 1 (fun _ _ => rfl) ?_
          refine pr_s1 (args := []) (rest := []) rfl rfl rfl rfl (Nat.le_of_ble_eq_true rfl) rfl (h_131 s13 (up2 t1 170 22 (lo (t1 170 22) (lsl 1 (ipl 0 (t1 175 x1.toNat)))))  hE13 ) q_bad0 ?_
          rintro _ s26 ⟨rfl, hz26⟩ hE26
          show pr K K d tb_M157 97 [(0, .ref 170), (1, vi x1), (2, vi x2), (3, vi x3)] [vi 0] s26 _
          refine pr_end (fun _ _ => rfl) ?_
          exact .inl ⟨_, 0, _, rfl, ⟨rfl, (by decide)⟩, rfl, hE26⟩
      · refine mq_f h17 ?_
        refine pr_if1f rfl rfl h14 h17 ?_
        refine pr_n (pc2 := 84) (lv2 := [(0, .ref 170), (1, vi x1), (2, vi x2), (3, vi x3)]) (st2 := [vi 1]) 1 (fun _ _ => rfl) ?_
        refine pr_end (fun _ _ => rfl) ?_
        exact .inl ⟨_, 1, _, rfl, ⟨rfl, (by decide)⟩, rfl, hE13⟩
    · refine mq_f h8 ?_
      refine pr_if2f rfl rfl h5 (i32_n rfl) h8 ?_
      refine pr_n (pc2 := 63) (lv2 := [(0, .ref 170), (1, vi x1), (2, vi x2), (3, vi x3)]) (st2 := [.ref 170, vi 24, vl 1, vl (t1 170 22), .ref 170]) 3 (fun _ _ => rfl) ?_
      refine pr_get (v := .ref 175) rfl rfl rfl (by decide) (rv_ref (hE1.2.1 170 12 175 rfl)) fun _ => ?_
      refine pr_n (pc2 := 67) (lv2 := [(0, .ref 170), (1, vi x1), (2, vi x2), (3, vi x3)]) (st2 := [vi x1, .ref 175, vi 24, vl 1, vl (t1 170 22), .ref 170]) 1 (fun _ _ => rfl) ?_
      refine pr_aE (k2 := 175) (a := x1) (v := vi (t1 175 x1.toNat)) hE1 rfl rfl rfl hx1 (by decide) rfl rfl rfl fun h28 h29 h27 => ?_
      have h27 : i32 (t1 175 x1.toNat) := h27
      refine pr_i2 (a := 24) (b := t1 175 x1.toNat) rfl rfl ?_
      show pr K K d tb_M157 69 [(0, .ref 170), (1, vi x1), (2, vi x2), (3, vi x3)] [vi (ipl 24 (t1 175 x1.toNat)), vl 1, vl (t1 170 22), .ref 170] s1 _
      have h30 : i32 (ipl 24 (t1 175 x1.toNat)) := i32_in _
      refine pr_lshl (a := 1) (b := ipl 24 (t1 175 x1.toNat)) rfl ?_
      refine pr_l2 (a := t1 170 22) (b := lsl 1 (ipl 24 (t1 175 x1.toNat))) rfl rfl ?_
      show pr K K d tb_M157 71 [(0, .ref 170), (1, vi x1), (2, vi x2), (3, vi x3)] [vl (lo (t1 170 22) (lsl 1 (ipl 24 (t1 175 x1.toNat)))), .ref 170] s1 _
      refine pr_pE (k2 := 170) (z := lo (t1 170 22) (lsl 1 (ipl 24 (t1 175 x1.toNat)))) hE1 rfl rfl rfl rfl (by decide) rfl (by decide) rfl (i64_in _) (fit_l _) rfl rfl rfl (fun e => absurd e.2 (by decide)) (fun _ => trivial) fun s31 hE31 => ?_
      refine pr_n (pc2 := 75) (lv2 := [(0, .ref 170), (1, vi x1), (2, vi x2), (3, vi x3)]) (st2 := [.ref 170]) 1 (fun _ _ => rfl) ?_
      refine pr_get (v := .ref 174) rfl rfl rfl (by decide) (rv_ref (hE31.2.1 170 11 174 rfl)) fun _ => ?_
      refine pr_n (pc2 := 79) (lv2 := [(0, .ref 170), (1, vi x1), (2, vi x2), (3, vi x3)]) (st2 := [vi x1, .ref 174]) 1 (fun _ _ => rfl) ?_
      refine pr_aE (k2 := 174) (a := x1) (v := vi (t1 174 x1.toNat)) hE31 rfl rfl rfl hx1 (by decide) rfl rfl rfl fun h33 h34 h32 => ?_
      have h32 : i32 (t1 174 x1.toNat) := h32
      by_cases h35 : t1 174 x1.toNat ≠ 0
      · refine mq_t h35 ?_
        refine pr_if1t rfl rfl h32 h35 ?_
        refine pr_n (pc2 := 87) (lv2 := [(0, .ref 170), (1, vi x1), (2, vi x2), (3, vi x3)]) (st2 := [vi 1, vi x3]) 2 (fun _ _ => rfl) ?_
        refine pr_i2 (a := x3) (b := 1) rfl rfl ?_
        show pr K K d tb_M157 88 [(0, .ref 170), (1, vi x1), (2, vi x2), (3, vi x3)] [vi (ipl x3 1)] s31 _
        have h36 : i32 (ipl x3 1) := i32_in _
        refine pr_n (pc2 := 90) (lv2 := [(0, .ref 170), (1, vi x1), (2, vi x2), (3, vi x3)]) (st2 := [vi 20, vi (ipl x3 1)]) 1 (fun _ _ => rfl) ?_
        by_cases h37 : ipl x3 1 ≠ 20
        · refine mq_t h37 ?_
          refine pr_if2t rfl rfl h36 (i32_n rfl) h37 ?_
          refine pr_n (pc2 := 99) (lv2 := [(0, .ref 170), (1, vi x1), (2, vi x2), (3, vi x3)]) (st2 := [.ref 170]) 1 (fun _ _ => rfl) ?_
          refine pr_m1 (args := []) (rest := []) rfl rfl rfl rfl (Nat.le_of_ble_eq_true rfl) rfl (h_123 s31 (up2 t1 170 22 (lo (t1 170 22) (lsl 1 (ipl 24 (t1 175 x1.toNat)))))  hE31 ) ?_
          rintro _ _ t38 s38 ⟨rfl, rfl⟩ hE38
          show pr K K d tb_M157 102 [(0, .ref 170), (1, vi x1), (2, vi x2), (3, vi x3)] [] s38 _
          refine pr_n (pc2 := 106) (lv2 := [(0, .ref 170), (1, vi x1), (2, vi x2), (3, vi x3)]) (st2 := [vi 2, vi x3, vi 0, .ref 170]) 4 (fun _ _ => rfl) ?_
          refine pr_i2 (a := x3) (b := 2) rfl rfl ?_
          show pr K K d tb_M157 107 [(0, .ref 170), (1, vi x1), (2, vi x2), (3, vi x3)] [vi (ipl x3 2), vi 0, .ref 170] s38 _
          have h39 : i32 (ipl x3 2) := i32_in _
          refine pr_m1 (args := [vi 0, vi (ipl x3 2)]) (rest := []) rfl rfl rfl rfl (Nat.le_of_ble_eq_true rfl) rfl (h_144 s38 t38 0 (ipl x3 2) hE38 (i32_n rfl) h39) ?_
          rintro _ z40 t40 s40 ⟨rfl, hz40⟩ hE40
          show pr K K d tb_M157 110 [(0, .ref 170), (1, vi x1), (2, vi x2), (3, vi x3)] [vi z40] s40 _
          by_cases h41 : z40 = 0
          · refine mq_t h41 ?_
            refine pr_if1t rfl rfl (i32_z hz40) h41 ?_
            refine pr_n (pc2 := 128) (lv2 := [(0, .ref 170), (1, vi x1), (2, vi x2), (3, vi x3)]) (st2 := [vi 0]) 1 (fun _ _ => rfl) ?_
            refine pr_end (fun _ _ => rfl) ?_
            exact .inl ⟨_, 0, _, rfl, ⟨rfl, (by decide)⟩, rfl, hE40⟩
          · refine mq_f h41 ?_
            refine pr_if1f rfl rfl (i32_z hz40) h41 ?_
            refine pr_n (pc2 := 117) (lv2 := [(0, .ref 170), (1, vi x1), (2, vi x2), (3, vi x3)]) (st2 := [.ref 44, .ref 170]) 2 (fun _ _ => rfl) ?_
            refine pr_m1 (args := [.ref 44]) (rest := []) rfl rfl rfl rfl (Nat.le_of_ble_eq_true rfl) rfl (h_136 s40 t40 44 hE40 isX_44) ?_
            rintro _ z42 t42 s42 ⟨rfl, hz42⟩ hE42
            show pr K K d tb_M157 120 [(0, .ref 170), (1, vi x1), (2, vi x2), (3, vi x3)] [vi z42] s42 _
            by_cases h43 : z42 = 0
            · refine mq_t h43 ?_
              refine pr_if1t rfl rfl (i32_z hz42) h43 ?_
              refine pr_n (pc2 := 128) (lv2 := [(0, .ref 170), (1, vi x1), (2, vi x2), (3, vi x3)]) (st2 := [vi 0]) 1 (fun _ _ => rfl) ?_
              refine pr_end (fun _ _ => rfl) ?_
              exact .inl ⟨_, 0, _, rfl, ⟨rfl, (by decide)⟩, rfl, hE42⟩
            · refine mq_f h43 ?_
              refine pr_if1f rfl rfl (i32_z hz42) h43 ?_
              refine pr_n (pc2 := 128) (lv2 := [(0, .ref 170), (1, vi x1), (2, vi x2), (3, vi x3)]) (st2 := [vi 1]) 2 (fun _ _ => rfl) ?_
              refine pr_end (fun _ _ => rfl) ?_
              exact .inl ⟨_, 1, _, rfl, ⟨rfl, (by decide)⟩, rfl, hE42⟩
        · refine mq_f h37 ?_
          refine pr_if2f rfl rfl h36 (i32_n rfl) h37 ?_
          refine pr_n (pc2 := 94) (lv2 := [(0, .ref 170), (1, vi x1), (2, vi x2), (3, vi x3)]) (st2 := [.ref 170]) 1 (fun _ _ => rfl) ?_
          refine pr_s1 (args := []) (rest := []) rfl rfl rfl rfl (Nat.le_of_ble_eq_true rfl) rfl (h_131 s31 (up2 t1 170 22 (lo (t1 170 22) (lsl 1 (ipl 24 (t1 175 x1.toNat)))))  hE31 ) q_bad0 ?_
          rintro _ s44 ⟨rfl, hz44⟩ hE44
          show pr K K d tb_M157 97 [(0, .ref 170), (1, vi x1), (2, vi x2), (3, vi x3)] [vi 0] s44 _
          refine pr_end (fun _ _ => rfl) ?_
          exact .inl ⟨_, 0, _, rfl, ⟨rfl, (by decide)⟩, rfl, hE44⟩
      · refine mq_f h35 ?_
        refine pr_if1f rfl rfl h32 h35 ?_
        refine pr_n (pc2 := 84) (lv2 := [(0, .ref 170), (1, vi x1), (2, vi x2), (3, vi x3)]) (st2 := [vi 1]) 1 (fun _ _ => rfl) ?_
        refine pr_end (fun _ _ => rfl) ?_
        exact .inl ⟨_, 1, _, rfl, ⟨rfl, (by decide)⟩, rfl, hE31⟩
  · refine mq_f h3 ?_
    refine pr_if1f rfl rfl (i32_z h2) h3 ?_
    refine pr_n (pc2 := 12) (lv2 := [(0, .ref 170), (1, vi x1), (2, vi x2), (3, vi x3)]) (st2 := [.ref 170]) 1 (fun _ _ => rfl) ?_
    refine pr_get (v := .ref 174) rfl rfl rfl (by decide) (rv_ref (hE1.2.1 170 11 174 rfl)) fun _ => ?_
    refine pr_n (pc2 := 16) (lv2 := [(0, .ref 170), (1, vi x1), (2, vi x2), (3, vi x3)]) (st2 := [vi x1, .ref 174]) 1 (fun _ _ => rfl) ?_
    refine pr_aE (k2 := 174) (a := x1) (v := vi (t1 174 x1.toNat)) hE1 rfl rfl rfl hx1 (by decide) rfl rfl rfl fun h46 h47 h45 => ?_
    have h45 : i32 (t1 174 x1.toNat) := h45
    refine pr_n (pc2 := 18) (lv2 := [(0, .ref 170), (1, vi x1), (2, vi x2), (3, vi x3)]) (st2 := [vi 1, vi (t1 174 x1.toNat)]) 1 (fun _ _ => rfl) ?_
    by_cases h48 : t1 174 x1.toNat = 1
    · refine mq_t h48 ?_
      refine pr_if2t rfl rfl h45 (i32_n rfl) h48 ?_
      refine pr_n (pc2 := 36) (lv2 := [(0, .ref 170), (1, vi x1), (2, vi x2), (3, vi x3)]) (st2 := [vi x2, .ref 170]) 2 (fun _ _ => rfl) ?_
      refine pr_s1 (args := [vi x2]) (rest := []) rfl rfl rfl rfl (Nat.le_of_ble_eq_true rfl) rfl (h_132 s1 t1 x2 hE1 hx2) q_bad1 ?_
      rintro _ s49 ⟨rfl, hz49⟩ hE49
      show pr K K d tb_M157 39 [(0, .ref 170), (1, vi x1), (2, vi x2), (3, vi x3)] [vi 0] s49 _
      refine pr_end (fun _ _ => rfl) ?_
      exact .inl ⟨_, 0, _, rfl, ⟨rfl, (by decide)⟩, rfl, hE49⟩
    · refine mq_f h48 ?_
      refine pr_if2f rfl rfl h45 (i32_n rfl) h48 ?_
      refine pr_n (pc2 := 22) (lv2 := [(0, .ref 170), (1, vi x1), (2, vi x2), (3, vi x3)]) (st2 := [.ref 170]) 1 (fun _ _ => rfl) ?_
      refine pr_get (v := .ref 175) rfl rfl rfl (by decide) (rv_ref (hE1.2.1 170 12 175 rfl)) fun _ => ?_
      refine pr_n (pc2 := 26) (lv2 := [(0, .ref 170), (1, vi x1), (2, vi x2), (3, vi x3)]) (st2 := [vi x1, .ref 175]) 1 (fun _ _ => rfl) ?_
      refine pr_aE (k2 := 175) (a := x1) (v := vi (t1 175 x1.toNat)) hE1 rfl rfl rfl hx1 (by decide) rfl rfl rfl fun h51 h52 h50 => ?_
      have h50 : i32 (t1 175 x1.toNat) := h50
      refine pr_n (pc2 := 28) (lv2 := [(0, .ref 170), (1, vi x1), (2, vi x2), (3, vi x3)]) (st2 := [.ref 170, vi (t1 175 x1.toNat)]) 1 (fun _ _ => rfl) ?_
      refine pr_gE (k2 := 170) (v := vi (t1 170 36)) hE1 rfl rfl rfl (by decide) rfl rfl rfl fun h53 => ?_
      have h53 : i32 (t1 170 36) := h53
      by_cases h54 : t1 170 36 ≤ t1 175 x1.toNat
      · refine mq_t h54 ?_
        refine pr_if2t rfl rfl h50 h53 h54 ?_
        refine pr_n (pc2 := 42) (lv2 := [(0, .ref 170), (1, vi x1), (2, vi x2), (3, vi x3)]) (st2 := [.ref 170, .ref 170]) 2 (fun _ _ => rfl) ?_
        refine pr_gE (k2 := 170) (v := vl (t1 170 22)) hE1 rfl rfl rfl (by decide) rfl rfl rfl fun h55 => ?_
        have h55 : i64 (t1 170 22) := h55
        refine pr_n (pc2 := 47) (lv2 := [(0, .ref 170), (1, vi x1), (2, vi x2), (3, vi x3)]) (st2 := [.ref 170, vl 1, vl (t1 170 22), .ref 170]) 2 (fun _ _ => rfl) ?_
        refine pr_get (v := .ref 174) rfl rfl rfl (by decide) (rv_ref (hE1.2.1 170 11 174 rfl)) fun _ => ?_
        refine pr_n (pc2 := 51) (lv2 := [(0, .ref 170), (1, vi x1), (2, vi x2), (3, vi x3)]) (st2 := [vi x1, .ref 174, vl 1, vl (t1 170 22), .ref 170]) 1 (fun _ _ => rfl) ?_
        refine pr_aE (k2 := 174) (a := x1) (v := vi (t1 174 x1.toNat)) hE1 rfl rfl rfl hx1 (by decide) rfl rfl rfl fun h57 h58 h56 => ?_
        have h56 : i32 (t1 174 x1.toNat) := h56
        refine pr_n (pc2 := 53) (lv2 := [(0, .ref 170), (1, vi x1), (2, vi x2), (3, vi x3)]) (st2 := [vi 1, vi (t1 174 x1.toNat), vl 1, vl (t1 170 22), .ref 170]) 1 (fun _ _ => rfl) ?_
        refine pr_if2t rfl rfl h56 (i32_n rfl) (show t1 174 x1.toNat ≠ 1 by omega) ?_
        show pr K K d tb_M157 61 [(0, .ref 170), (1, vi x1), (2, vi x2), (3, vi x3)] [vl 1, vl (t1 170 22), .ref 170] s1 _
        refine pr_n (pc2 := 63) (lv2 := [(0, .ref 170), (1, vi x1), (2, vi x2), (3, vi x3)]) (st2 := [.ref 170, vi 0, vl 1, vl (t1 170 22), .ref 170]) 2 (fun _ _ => rfl) ?_
        refine pr_get (v := .ref 175) rfl rfl rfl (by decide) (rv_ref (hE1.2.1 170 12 175 rfl)) fun _ => ?_
        refine pr_n (pc2 := 67) (lv2 := [(0, .ref 170), (1, vi x1), (2, vi x2), (3, vi x3)]) (st2 := [vi x1, .ref 175, vi 0, vl 1, vl (t1 170 22), .ref 170]) 1 (fun _ _ => rfl) ?_
        refine pr_aE (k2 := 175) (a := x1) (v := vi (t1 175 x1.toNat)) hE1 rfl rfl rfl hx1 (by decide) rfl rfl rfl fun h60 h61 h59 => ?_
        have h59 : i32 (t1 175 x1.toNat) := h59
        refine pr_i2 (a := 0) (b := t1 175 x1.toNat) rfl rfl ?_
        show pr K K d tb_M157 69 [(0, .ref 170), (1, vi x1), (2, vi x2), (3, vi x3)] [vi (ipl 0 (t1 175 x1.toNat)), vl 1, vl (t1 170 22), .ref 170] s1 _
        have h62 : i32 (ipl 0 (t1 175 x1.toNat)) := i32_in _
        refine pr_lshl (a := 1) (b := ipl 0 (t1 175 x1.toNat)) rfl ?_
        refine pr_l2 (a := t1 170 22) (b := lsl 1 (ipl 0 (t1 175 x1.toNat))) rfl rfl ?_
        show pr K K d tb_M157 71 [(0, .ref 170), (1, vi x1), (2, vi x2), (3, vi x3)] [vl (lo (t1 170 22) (lsl 1 (ipl 0 (t1 175 x1.toNat)))), .ref 170] s1 _
        refine pr_pE (k2 := 170) (z := lo (t1 170 22) (lsl 1 (ipl 0 (t1 175 x1.toNat)))) hE1 rfl rfl rfl rfl (by decide) rfl (by decide) rfl (i64_in _) (fit_l _) rfl rfl rfl (fun e => absurd e.2 (by decide)) (fun _ => trivial) fun s63 hE63 => ?_
        refine pr_n (pc2 := 75) (lv2 := [(0, .ref 170), (1, vi x1), (2, vi x2), (3, vi x3)]) (st2 := [.ref 170]) 1 (fun _ _ => rfl) ?_
        refine pr_get (v := .ref 174) rfl rfl rfl (by decide) (rv_ref (hE63.2.1 170 11 174 rfl)) fun _ => ?_
        refine pr_n (pc2 := 79) (lv2 := [(0, .ref 170), (1, vi x1), (2, vi x2), (3, vi x3)]) (st2 := [vi x1, .ref 174]) 1 (fun _ _ => rfl) ?_
        refine pr_aE (k2 := 174) (a := x1) (v := vi (t1 174 x1.toNat)) hE63 rfl rfl rfl hx1 (by decide) rfl rfl rfl fun h65 h66 h64 => ?_
        have h64 : i32 (t1 174 x1.toNat) := h64
        by_cases h67 : t1 174 x1.toNat ≠ 0
        · refine mq_t h67 ?_
          refine pr_if1t rfl rfl h64 h67 ?_
          refine pr_n (pc2 := 87) (lv2 := [(0, .ref 170), (1, vi x1), (2, vi x2), (3, vi x3)]) (st2 := [vi 1, vi x3]) 2 (fun _ _ => rfl) ?_
          refine pr_i2 (a := x3) (b := 1) rfl rfl ?_
          show pr K K d tb_M157 88 [(0, .ref 170), (1, vi x1), (2, vi x2), (3, vi x3)] [vi (ipl x3 1)] s63 _
          have h68 : i32 (ipl x3 1) := i32_in _
          refine pr_n (pc2 := 90) (lv2 := [(0, .ref 170), (1, vi x1), (2, vi x2), (3, vi x3)]) (st2 := [vi 20, vi (ipl x3 1)]) 1 (fun _ _ => rfl) ?_
          by_cases h69 : ipl x3 1 ≠ 20
          · refine mq_t h69 ?_
            refine pr_if2t rfl rfl h68 (i32_n rfl) h69 ?_
            refine pr_n (pc2 := 99) (lv2 := [(0, .ref 170), (1, vi x1), (2, vi x2), (3, vi x3)]) (st2 := [.ref 170]) 1 (fun _ _ => rfl) ?_
            refine pr_m1 (args := []) (rest := []) rfl rfl rfl rfl (Nat.le_of_ble_eq_true rfl) rfl (h_123 s63 (up2 t1 170 22 (lo (t1 170 22) (lsl 1 (ipl 0 (t1 175 x1.toNat)))))  hE63 ) ?_
            rintro _ _ t70 s70 ⟨rfl, rfl⟩ hE70
            show pr K K d tb_M157 102 [(0, .ref 170), (1, vi x1), (2, vi x2), (3, vi x3)] [] s70 _
            refine pr_n (pc2 := 106) (lv2 := [(0, .ref 170), (1, vi x1), (2, vi x2), (3, vi x3)]) (st2 := [vi 2, vi x3, vi 0, .ref 170]) 4 (fun _ _ => rfl) ?_
            refine pr_i2 (a := x3) (b := 2) rfl rfl ?_
            show pr K K d tb_M157 107 [(0, .ref 170), (1, vi x1), (2, vi x2), (3, vi x3)] [vi (ipl x3 2), vi 0, .ref 170] s70 _
            have h71 : i32 (ipl x3 2) := i32_in _
            refine pr_m1 (args := [vi 0, vi (ipl x3 2)]) (rest := []) rfl rfl rfl rfl (Nat.le_of_ble_eq_true rfl) rfl (h_144 s70 t70 0 (ipl x3 2) hE70 (i32_n rfl) h71) ?_
            rintro _ z72 t72 s72 ⟨rfl, hz72⟩ hE72
            show pr K K d tb_M157 110 [(0, .ref 170), (1, vi x1), (2, vi x2), (3, vi x3)] [vi z72] s72 _
            by_cases h73 : z72 = 0
            · refine mq_t h73 ?_
              refine pr_if1t rfl rfl (i32_z hz72) h73 ?_
              refine pr_n (pc2 := 128) (lv2 := [(0, .ref 170), (1, vi x1), (2, vi x2), (3, vi x3)]) (st2 := [vi 0]) 1 (fun _ _ => rfl) ?_
              refine pr_end (fun _ _ => rfl) ?_
              exact .inl ⟨_, 0, _, rfl, ⟨rfl, (by decide)⟩, rfl, hE72⟩
            · refine mq_f h73 ?_
              refine pr_if1f rfl rfl (i32_z hz72) h73 ?_
              refine pr_n (pc2 := 117) (lv2 := [(0, .ref 170), (1, vi x1), (2, vi x2), (3, vi x3)]) (st2 := [.ref 44, .ref 170]) 2 (fun _ _ => rfl) ?_
              refine pr_m1 (args := [.ref 44]) (rest := []) rfl rfl rfl rfl (Nat.le_of_ble_eq_true rfl) rfl (h_136 s72 t72 44 hE72 isX_44) ?_
              rintro _ z74 t74 s74 ⟨rfl, hz74⟩ hE74
              show pr K K d tb_M157 120 [(0, .ref 170), (1, vi x1), (2, vi x2), (3, vi x3)] [vi z74] s74 _
              by_cases h75 : z74 = 0
              · refine mq_t h75 ?_
                refine pr_if1t rfl rfl (i32_z hz74) h75 ?_
                refine pr_n (pc2 := 128) (lv2 := [(0, .ref 170), (1, vi x1), (2, vi x2), (3, vi x3)]) (st2 := [vi 0]) 1 (fun _ _ => rfl) ?_
                refine pr_end (fun _ _ => rfl) ?_
                exact .inl ⟨_, 0, _, rfl, ⟨rfl, (by decide)⟩, rfl, hE74⟩
              · refine mq_f h75 ?_
                refine pr_if1f rfl rfl (i32_z hz74) h75 ?_
                refine pr_n (pc2 := 128) (lv2 := [(0, .ref 170), (1, vi x1), (2, vi x2), (3, vi x3)]) (st2 := [vi 1]) 2 (fun _ _ => rfl) ?_
                refine pr_end (fun _ _ => rfl) ?_
                exact .inl ⟨_, 1, _, rfl, ⟨rfl, (by decide)⟩, rfl, hE74⟩
          · refine mq_f h69 ?_
            refine pr_if2f rfl rfl h68 (i32_n rfl) h69 ?_
            refine pr_n (pc2 := 94) (lv2 := [(0, .ref 170), (1, vi x1), (2, vi x2), (3, vi x3)]) (st2 := [.ref 170]) 1 (fun _ _ => rfl) ?_
            refine pr_s1 (args := []) (rest := []) rfl rfl rfl rfl (Nat.le_of_ble_eq_true rfl) rfl (h_131 s63 (up2 t1 170 22 (lo (t1 170 22) (lsl 1 (ipl 0 (t1 175 x1.toNat)))))  hE63 ) q_bad0 ?_
            rintro _ s76 ⟨rfl, hz76⟩ hE76
            show pr K K d tb_M157 97 [(0, .ref 170), (1, vi x1), (2, vi x2), (3, vi x3)] [vi 0] s76 _
            refine pr_end (fun _ _ => rfl) ?_
            exact .inl ⟨_, 0, _, rfl, ⟨rfl, (by decide)⟩, rfl, hE76⟩
        · refine mq_f h67 ?_
          refine pr_if1f rfl rfl h64 h67 ?_
          refine pr_n (pc2 := 84) (lv2 := [(0, .ref 170), (1, vi x1), (2, vi x2), (3, vi x3)]) (st2 := [vi 1]) 1 (fun _ _ => rfl) ?_
          refine pr_end (fun _ _ => rfl) ?_
          exact .inl ⟨_, 1, _, rfl, ⟨rfl, (by decide)⟩, rfl, hE63⟩
      · refine mq_f h54 ?_
        refine pr_if2f rfl rfl h50 h53 h54 ?_
        refine pr_n (pc2 := 36) (lv2 := [(0, .ref 170), (1, vi x1), (2, vi x2), (3, vi x3)]) (st2 := [vi x2, .ref 170]) 2 (fun _ _ => rfl) ?_
        refine pr_s1 (args := [vi x2]) (rest := []) rfl rfl rfl rfl (Nat.le_of_ble_eq_true rfl) rfl (h_132 s1 t1 x2 hE1 hx2) q_bad1 ?_
        rintro _ s77 ⟨rfl, hz77⟩ hE77
        show pr K K d tb_M157 39 [(0, .ref 170), (1, vi x1), (2, vi x2), (3, vi x3)] [vi 0] s77 _
        refine pr_end (fun _ _ => rfl) ?_
        exact .inl ⟨_, 0, _, rfl, ⟨rfl, (by decide)⟩, rfl, hE77⟩
set_option maxHeartbeats 20000000 in
set_option maxRecDepth 100000 in
theorem ru139_0 {N K d C : Nat} (h_123 : rT123 K d C) (h_127 : rT127 K d C) (h_136 : rT136 K d C) (h_137 : rT137 K d C) (h_140 : rT140 K d C) (h_141 : rT141 K d C) (ih : ∀ N2, N2 < N → rA139 N2 K d C) : rU139_0 N K d C := by
  intro s t y4 y3 y2 y1 hE hy4 hy3 hy2 hy1
  have hC : C = 177 ∨ C = 186 := hE.1
  rw [rG_139_26]
  unfold rM139_26
  refine pr_lt (pc2 := 27) (lv2 := [(4, vi y4), (3, vi y3), (2, vi y2), (0, .ref 170), (1, vi y1)]) (st2 := [.ref 170]) (fun _ _ => rfl) fun N2 hN2 => ?_
  refine pr_n (pc2 := 29) (lv2 := [(4, vi y4), (3, vi y3), (2, vi y2), (0, .ref 170), (1, vi y1)]) (st2 := [.ref 8, .ref 170]) 1 (fun _ _ => rfl) ?_
  refine pr_p1 (args := [.ref 8]) (rest := []) rfl rfl rfl rfl (Nat.le_of_ble_eq_true rfl) rfl (h_127 s t 8 hE isX_8) (fun z t3 => pu_127) ?_
  rintro _ z1 s1 ⟨rfl, hz1⟩ hX1 hE1
  show pr N2 K d tb_M139 32 [(4, vi y4), (3, vi y3), (2, vi y2), (0, .ref 170), (1, vi y1)] [vi z1] s1 _
  by_cases h2 : z1 = 0
  · refine mq_t h2 ?_
    refine pr_if1t rfl rfl (i32_z hz1) h2 ?_
    exact ((ih N2 hN2).2) s1 t y4 y3 y2 y1 hE1 hy4 hy3 hy2 hy1
  · refine mq_f h2 ?_
    refine pr_if1f rfl rfl (i32_z hz1) h2 ?_
    refine pr_n (pc2 := 36) (lv2 := [(4, vi y4), (3, vi y3), (2, vi y2), (0, .ref 170), (1, vi y1)]) (st2 := [.ref 170]) 1 (fun _ _ => rfl) ?_
    refine pr_m1 (args := []) (rest := []) rfl rfl rfl rfl (Nat.le_of_ble_eq_true rfl) rfl (h_123 s1 t  hE1 ) ?_
    rintro _ _ t3 s3 ⟨rfl, rfl⟩ hE3
    show pr N2 K d tb_M139 39 [(4, vi y4), (3, vi y3), (2, vi y2), (0, .ref 170), (1, vi y1)] [] s3 _
    refine pr_n (pc2 := 41) (lv2 := [(4, vi y4), (3, vi y3), (2, vi y2), (0, .ref 170), (1, vi y1)]) (st2 := [vi 0, .ref 170]) 2 (fun _ _ => rfl) ?_
    refine pr_m1 (args := [vi 0]) (rest := []) rfl rfl rfl rfl (Nat.le_of_ble_eq_true rfl) rfl (h_137 s3 t3 0 hE3 (i32_n rfl)) ?_
    rintro _ z4 t4 s4 ⟨rfl, hz4⟩ hE4
    show pr N2 K d tb_M139 44 [(4, vi y4), (3, vi y3), (2, vi y2), (0, .ref 170), (1, vi y1)] [vi z4] s4 _
    by_cases h5 : z4 = 0
    · refine mq_t h5 ?_
      refine pr_if1t rfl rfl (i32_z hz4) h5 ?_
      refine pr_n (pc2 := 57) (lv2 := [(4, vi y4), (3, vi y3), (2, vi y2), (0, .ref 170), (1, vi y1)]) (st2 := [vi 0]) 1 (fun _ _ => rfl) ?_
      refine pr_end (fun _ _ => rfl) ?_
      exact .inl ⟨_, 0, _, rfl, ⟨rfl, (by decide)⟩, rfl, hE4⟩
    · refine mq_f h5 ?_
      refine pr_if1f rfl rfl (i32_z hz4) h5 ?_
      refine pr_n (pc2 := 50) (lv2 := [(4, vi y4), (3, vi y3), (2, vi y2), (0, .ref 170), (1, vi y1)]) (st2 := [.ref 30, .ref 170]) 2 (fun _ _ => rfl) ?_
      refine pr_m1 (args := [.ref 30]) (rest := []) rfl rfl rfl rfl (Nat.le_of_ble_eq_true rfl) rfl (h_136 s4 t4 30 hE4 isX_30) ?_
      rintro _ z6 t6 s6 ⟨rfl, hz6⟩ hE6
      show pr N2 K d tb_M139 53 [(4, vi y4), (3, vi y3), (2, vi y2), (0, .ref 170), (1, vi y1)] [vi z6] s6 _
      by_cases h7 : z6 ≠ 0
      · refine mq_t h7 ?_
        refine pr_if1t rfl rfl (i32_z hz6) h7 ?_
        exact ((ih N2 hN2).1) s6 t6 y4 y3 y2 y1 hE6 hy4 hy3 hy2 hy1
      · refine mq_f h7 ?_
        refine pr_if1f rfl rfl (i32_z hz6) h7 ?_
        refine pr_n (pc2 := 57) (lv2 := [(4, vi y4), (3, vi y3), (2, vi y2), (0, .ref 170), (1, vi y1)]) (st2 := [vi 0]) 1 (fun _ _ => rfl) ?_
        refine pr_end (fun _ _ => rfl) ?_
        exact .inl ⟨_, 0, _, rfl, ⟨rfl, (by decide)⟩, rfl, hE6⟩
set_option maxHeartbeats 20000000 in
set_option maxRecDepth 100000 in
theorem ru139_1 {N K d C : Nat} (h_123 : rT123 K d C) (h_127 : rT127 K d C) (h_136 : rT136 K d C) (h_137 : rT137 K d C) (h_140 : rT140 K d C) (h_141 : rT141 K d C) (ih : ∀ N2, N2 < N → rA139 N2 K d C) : rU139_1 N K d C := by
  intro s t y4 y3 y2 y1 hE hy4 hy3 hy2 hy1
  have hC : C = 177 ∨ C = 186 := hE.1
  rw [rG_139_58]
  unfold rM139_58
  refine pr_lt (pc2 := 59) (lv2 := [(4, vi y4), (3, vi y3), (2, vi y2), (0, .ref 170), (1, vi y1)]) (st2 := [.ref 170]) (fun _ _ => rfl) fun N2 hN2 => ?_
  refine pr_n (pc2 := 62) (lv2 := [(4, vi y4), (3, vi y3), (2, vi y2), (0, .ref 170), (1, vi y1)]) (st2 := [.ref 32, .ref 170]) 1 (fun _ _ => rfl) ?_
  refine pr_p1 (args := [.ref 32]) (rest := []) rfl rfl rfl rfl (Nat.le_of_ble_eq_true rfl) rfl (h_127 s t 32 hE isX_32) (fun z t3 => pu_127) ?_
  rintro _ z1 s1 ⟨rfl, hz1⟩ hX1 hE1
  show pr N2 K d tb_M139 65 [(4, vi y4), (3, vi y3), (2, vi y2), (0, .ref 170), (1, vi y1)] [vi z1] s1 _
  by_cases h2 : z1 ≠ 0
  · refine mq_t h2 ?_
    refine pr_if1t rfl rfl (i32_z hz1) h2 ?_
    refine pr_n (pc2 := 85) (lv2 := [(4, vi y4), (3, vi y3), (2, vi y2), (0, .ref 170), (1, vi y1)]) (st2 := [.ref 170]) 1 (fun _ _ => rfl) ?_
    refine pr_m1 (args := []) (rest := []) rfl rfl rfl rfl (Nat.le_of_ble_eq_true rfl) rfl (h_123 s1 t  hE1 ) ?_
    rintro _ _ t3 s3 ⟨rfl, rfl⟩ hE3
    show pr N2 K d tb_M139 88 [(4, vi y4), (3, vi y3), (2, vi y2), (0, .ref 170), (1, vi y1)] [] s3 _
    refine pr_n (pc2 := 90) (lv2 := [(4, vi y4), (3, vi y3), (2, vi y2), (0, .ref 170), (1, vi y1)]) (st2 := [vi y2, .ref 170]) 2 (fun _ _ => rfl) ?_
    refine pr_pE (k2 := 170) (z := y2) hE3 rfl rfl rfl rfl (by decide) rfl (by decide) rfl (show i32 (y2) from hy2) (hf_int' _) rfl rfl rfl (fun e => absurd e.2 (by decide)) (fun _ => trivial) fun s4 hE4 => ?_
    refine pr_n (pc2 := 96) (lv2 := [(4, vi y4), (3, vi y3), (2, vi y2), (0, .ref 170), (1, vi y1)]) (st2 := [vi 1, vi y4]) 2 (fun _ _ => rfl) ?_
    by_cases h5 : y4 = 1
    · refine mq_t h5 ?_
      refine pr_if2t rfl rfl hy4 (i32_n rfl) h5 ?_
      refine pr_n (pc2 := 123) (lv2 := [(4, vi y4), (3, vi y3), (2, vi y2), (0, .ref 170), (1, vi y1)]) (st2 := [vi 1]) 1 (fun _ _ => rfl) ?_
      refine pr_end (fun _ _ => rfl) ?_
      exact .inl ⟨_, 1, _, rfl, ⟨rfl, (by decide)⟩, rfl, hE4⟩
    · refine mq_f h5 ?_
      refine pr_if2f rfl rfl hy4 (i32_n rfl) h5 ?_
      refine pr_n (pc2 := 100) (lv2 := [(4, vi y4), (3, vi y3), (2, vi y2), (0, .ref 170), (1, vi y1)]) (st2 := [.ref 170]) 1 (fun _ _ => rfl) ?_
      refine pr_get (v := .ref C) rfl rfl rfl (by decide) (rv_ref (show s4.1 170 19 = ((C : Nat) : Int) from hE4.2.2.1)) fun _ => ?_
      refine pr_get (v := .ref (C + 1)) rfl rfl (TG_C hC) (by decide) (rv_ref (hE4.2.1 C 0 (C + 1) (rc_C0 hC))) fun _ => ?_
      refine pr_n (pc2 := 108) (lv2 := [(4, vi y4), (3, vi y3), (2, vi y2), (0, .ref 170), (1, vi y1)]) (st2 := [vi 0, vi y3, .ref (C + 1)]) 2 (fun _ _ => rfl) ?_
      refine pr_sE (k2 := 178) (a := y3) (z := 0) hE4 rfl (show 96 ≤ C + 1 by omega) (TG_C1 hC) rfl hy3 (by decide) rfl (show i32 (0) from (i32_n rfl)) (nD1 hC (by omega)) rfl rfl (fun e => absurd e.1 (show ¬ (C + 1 = 170) by omega)) (fun _ => trivial) fun h6 h7 s8 hE8 => ?_
      refine pr_n (pc2 := 110) (lv2 := [(4, vi y4), (3, vi y3), (2, vi y2), (0, .ref 170), (1, vi y1)]) (st2 := [.ref 170]) 1 (fun _ _ => rfl) ?_
      refine pr_get (v := .ref C) rfl rfl rfl (by decide) (rv_ref (show s8.1 170 19 = ((C : Nat) : Int) from hE8.2.2.1)) fun _ => ?_
      refine pr_n (pc2 := 114) (lv2 := [(4, vi y4), (3, vi y3), (2, vi y2), (0, .ref 170), (1, vi y1)]) (st2 := [.ref C, .ref C]) 1 (fun _ _ => rfl) ?_
      refine pr_gE (k2 := 177) (v := vi (t3 177 3)) hE8 rfl rfl (TG_C hC) (by decide) rfl rfl rfl fun h9 => ?_
      have h9 : i32 (t3 177 3) := h9
      refine pr_n (pc2 := 118) (lv2 := [(4, vi y4), (3, vi y3), (2, vi y2), (0, .ref 170), (1, vi y1)]) (st2 := [vi 1, vi (t3 177 3), .ref C]) 1 (fun _ _ => rfl) ?_
      refine pr_i2 (a := t3 177 3) (b := 1) rfl rfl ?_
      show pr N2 K d tb_M139 119 [(4, vi y4), (3, vi y3), (2, vi y2), (0, .ref 170), (1, vi y1)] [vi (ipl (t3 177 3) 1), .ref C] s8 _
      have h10 : i32 (ipl (t3 177 3) 1) := i32_in _
      refine pr_pE (k2 := 177) (z := ipl (t3 177 3) 1) hE8 rfl rfl rfl rfl (show 96 ≤ C by omega) (TG_C hC) (by decide) rfl (show i32 (ipl (t3 177 3) 1) from h10) (hf_int' _) (nD hC (by omega)) rfl rfl (fun e => absurd e.1 (show ¬ (C = 170) by omega)) (fun _ => trivial) fun s11 hE11 => ?_
      refine pr_n (pc2 := 123) (lv2 := [(4, vi y4), (3, vi y3), (2, vi y2), (0, .ref 170), (1, vi y1)]) (st2 := [vi 1]) 1 (fun _ _ => rfl) ?_
      refine pr_end (fun _ _ => rfl) ?_
      exact .inl ⟨_, 1, _, rfl, ⟨rfl, (by decide)⟩, rfl, hE11⟩
  · refine mq_f h2 ?_
    refine pr_if1f rfl rfl (i32_z hz1) h2 ?_
    refine pr_n (pc2 := 70) (lv2 := [(4, vi y4), (3, vi y3), (2, vi y2), (0, .ref 170), (1, vi y1)]) (st2 := [vi y1, .ref 170]) 2 (fun _ _ => rfl) ?_
    refine pr_m1 (args := [vi y1]) (rest := []) rfl rfl rfl rfl (Nat.le_of_ble_eq_true rfl) rfl (h_141 s1 t y1 hE1 hy1) ?_
    rintro _ z12 t12 s12 ⟨rfl, hz12⟩ hE12
    show pr N2 K d tb_M139 73 [(4, vi y4), (3, vi y3), (2, vi y2), (0, .ref 170), (1, vi y1)] [vi z12] s12 _
    by_cases h13 : z12 ≠ 0
    · refine mq_t h13 ?_
      refine pr_if1t rfl rfl (i32_z hz12) h13 ?_
      refine pr_incw (a := y4) rfl rfl ?_
      show pr N2 K d tb_M139 81 [(4, vi (ipl y4 1)), (3, vi y3), (2, vi y2), (0, .ref 170), (1, vi y1)] [] s12 _
      have h14 : i32 (ipl y4 1) := i32_in _
      refine pr_n (pc2 := 58) (lv2 := [(4, vi (ipl y4 1)), (3, vi y3), (2, vi y2), (0, .ref 170), (1, vi y1)]) (st2 := []) 1 (fun _ _ => rfl) ?_
      exact ((ih N2 hN2).2) s12 t12 (ipl y4 1) y3 y2 y1 hE12 h14 hy3 hy2 hy1
    · refine mq_f h13 ?_
      refine pr_if1f rfl rfl (i32_z hz12) h13 ?_
      refine pr_n (pc2 := 77) (lv2 := [(4, vi y4), (3, vi y3), (2, vi y2), (0, .ref 170), (1, vi y1)]) (st2 := [vi 0]) 1 (fun _ _ => rfl) ?_
      refine pr_end (fun _ _ => rfl) ?_
      exact .inl ⟨_, 0, _, rfl, ⟨rfl, (by decide)⟩, rfl, hE12⟩
theorem ra139 {K d C : Nat} (h_123 : rT123 K d C) (h_127 : rT127 K d C) (h_136 : rT136 K d C) (h_137 : rT137 K d C) (h_140 : rT140 K d C) (h_141 : rT141 K d C) : ∀ N, rA139 N K d C := by
  intro N
  induction N using Nat.strongRecOn with | ind N ih => ?_
  exact ⟨ru139_0 h_123 h_127 h_136 h_137 h_140 h_141 ih, ru139_1 h_123 h_127 h_136 h_137 h_140 h_141 ih⟩
set_option maxHeartbeats 20000000 in
set_option maxRecDepth 100000 in
theorem rm139 {K d C : Nat} (h_123 : rT123 K d C) (h_127 : rT127 K d C) (h_136 : rT136 K d C) (h_137 : rT137 K d C) (h_140 : rT140 K d C) (h_141 : rT141 K d C) : rT139 K (d + 1) C := by
  intro s t x1 hE hx1
  have hC : C = 177 ∨ C = 186 := hE.1
  refine pcr_of (M := tb_M139) rfl ?_
  show pr K K d tb_M139 0 [(0, .ref 170), (1, vi x1)] [] s _
  rw [rG_139]
  unfold rM139
  refine pr_n (pc2 := 4) (lv2 := [(0, .ref 170), (1, vi x1)]) (st2 := [.ref 28, .ref 170]) 2 (fun _ _ => rfl) ?_
  refine pr_m1 (args := [.ref 28]) (rest := []) rfl rfl rfl rfl (Nat.le_of_ble_eq_true rfl) rfl (h_136 s t 28 hE isX_28) ?_
  rintro _ z1 t1 s1 ⟨rfl, hz1⟩ hE1
  show pr K K d tb_M139 7 [(0, .ref 170), (1, vi x1)] [vi z1] s1 _
  by_cases h2 : z1 ≠ 0
  · refine mq_t h2 ?_
    refine pr_if1t rfl rfl (i32_z hz1) h2 ?_
    refine pr_n (pc2 := 13) (lv2 := [(0, .ref 170), (1, vi x1)]) (st2 := [.ref 170]) 1 (fun _ _ => rfl) ?_
    refine pr_gE (k2 := 170) (v := vi (t1 170 14)) hE1 rfl rfl rfl (by decide) rfl rfl rfl fun h3 => ?_
    have h3 : i32 (t1 170 14) := h3
    refine pr_n (pc2 := 19) (lv2 := [(2, vi (t1 170 14)), (0, .ref 170), (1, vi x1)]) (st2 := [vi 1, .ref 170]) 3 (fun _ _ => rfl) ?_
    refine pr_s1 (args := [vi 1]) (rest := []) rfl rfl rfl rfl (Nat.le_of_ble_eq_true rfl) rfl (h_140 s1 t1 1 hE1 (i32_n rfl)) q_put1 ?_
    rintro _ s4 ⟨rfl, hz4⟩ hE4
    show pr K K d tb_M139 22 [(2, vi (t1 170 14)), (0, .ref 170), (1, vi x1)] [vi (ptz t1)] s4 _
    refine pr_n (pc2 := 26) (lv2 := [(4, vi 0), (3, vi (ptz t1)), (2, vi (t1 170 14)), (0, .ref 170), (1, vi x1)]) (st2 := []) 3 (fun _ _ => rfl) ?_
    exact ((ra139 h_123 h_127 h_136 h_137 h_140 h_141 K).1) s4 ((pt1 t1 1)) 0 (ptz t1) (t1 170 14) x1 hE4 (i32_n rfl) hz4 h3 hx1
  · refine mq_f h2 ?_
    refine pr_if1f rfl rfl (i32_z hz1) h2 ?_
    refine pr_n (pc2 := 11) (lv2 := [(0, .ref 170), (1, vi x1)]) (st2 := [vi 0]) 1 (fun _ _ => rfl) ?_
    refine pr_end (fun _ _ => rfl) ?_
    exact .inl ⟨_, 0, _, rfl, ⟨rfl, (by decide)⟩, rfl, hE1⟩
set_option maxHeartbeats 20000000 in
set_option maxRecDepth 100000 in
theorem rm141 {K d C : Nat} (h_123 : rT123 K d C) (h_127 : rT127 K d C) (h_131 : rT131 K d C) (h_135 : rT135 K d C) (h_136 : rT136 K d C) (h_139 : rT139 K d C) (h_142 : rT142 K d C) (h_143 : rT143 K d C) (h_153 : rT153 K d C) (h_154 : rT154 K d C) (h_155 : rT155 K d C) (h_156 : rT156 K d C) : rT141 K (d + 1) C := by
  intro s t x1 hE hx1
  have hC : C = 177 ∨ C = 186 := hE.1
  refine pcr_of (M := tb_M141) rfl ?_
  show pr K K d tb_M141 0 [(0, .ref 170), (1, vi x1)] [] s _
  rw [rG_141]
  unfold rM141
  refine pr_n (pc2 := 3) (lv2 := [(0, .ref 170), (1, vi x1)]) (st2 := [vi 20, vi x1]) 2 (fun _ _ => rfl) ?_
  by_cases h1 : x1 ≠ 20
  · refine mq_t h1 ?_
    refine pr_if2t rfl rfl hx1 (i32_n rfl) h1 ?_
    refine pr_n (pc2 := 15) (lv2 := [(0, .ref 170), (1, vi x1)]) (st2 := [.ref 28, .ref 170]) 2 (fun _ _ => rfl) ?_
    refine pr_p1 (args := [.ref 28]) (rest := []) rfl rfl rfl rfl (Nat.le_of_ble_eq_true rfl) rfl (h_127 s t 28 hE isX_28) (fun z t3 => pu_127) ?_
    rintro _ z2 s2 ⟨rfl, hz2⟩ hX2 hE2
    show pr K K d tb_M141 18 [(0, .ref 170), (1, vi x1)] [vi z2] s2 _
    by_cases h3 : z2 = 0
    · refine mq_t h3 ?_
      refine pr_if1t rfl rfl (i32_z hz2) h3 ?_
      refine pr_n (pc2 := 53) (lv2 := [(0, .ref 170), (1, vi x1)]) (st2 := [.ref 34, .ref 170]) 2 (fun _ _ => rfl) ?_
      refine pr_p1 (args := [.ref 34]) (rest := []) rfl rfl rfl rfl (Nat.le_of_ble_eq_true rfl) rfl (h_127 s2 t 34 hE2 isX_34) (fun z t3 => pu_127) ?_
      rintro _ z4 s4 ⟨rfl, hz4⟩ hX4 hE4
      show pr K K d tb_M141 56 [(0, .ref 170), (1, vi x1)] [vi z4] s4 _
      by_cases h5 : z4 = 0
      · refine mq_t h5 ?_
        refine pr_if1t rfl rfl (i32_z hz4) h5 ?_
        refine pr_n (pc2 := 78) (lv2 := [(0, .ref 170), (1, vi x1)]) (st2 := [.ref 36, .ref 170]) 2 (fun _ _ => rfl) ?_
        refine pr_p1 (args := [.ref 36]) (rest := []) rfl rfl rfl rfl (Nat.le_of_ble_eq_true rfl) rfl (h_127 s4 t 36 hE4 isX_36) (fun z t3 => pu_127) ?_
        rintro _ z6 s6 ⟨rfl, hz6⟩ hX6 hE6
        show pr K K d tb_M141 81 [(0, .ref 170), (1, vi x1)] [vi z6] s6 _
        by_cases h7 : z6 = 0
        · refine mq_t h7 ?_
          refine pr_if1t rfl rfl (i32_z hz6) h7 ?_
          refine pr_n (pc2 := 94) (lv2 := [(0, .ref 170), (1, vi x1)]) (st2 := [.ref 82, .ref 170]) 2 (fun _ _ => rfl) ?_
          refine pr_p1 (args := [.ref 82]) (rest := []) rfl rfl rfl rfl (Nat.le_of_ble_eq_true rfl) rfl (h_127 s6 t 82 hE6 isX_82) (fun z t3 => pu_127) ?_
          rintro _ z8 s8 ⟨rfl, hz8⟩ hX8 hE8
          show pr K K d tb_M141 97 [(0, .ref 170), (1, vi x1)] [vi z8] s8 _
          by_cases h9 : z8 = 0
          · refine mq_t h9 ?_
            refine pr_if1t rfl rfl (i32_z hz8) h9 ?_
            refine pr_n (pc2 := 110) (lv2 := [(0, .ref 170), (1, vi x1)]) (st2 := [.ref 84, .ref 170]) 2 (fun _ _ => rfl) ?_
            refine pr_p1 (args := [.ref 84]) (rest := []) rfl rfl rfl rfl (Nat.le_of_ble_eq_true rfl) rfl (h_127 s8 t 84 hE8 isX_84) (fun z t3 => pu_127) ?_
            rintro _ z10 s10 ⟨rfl, hz10⟩ hX10 hE10
            show pr K K d tb_M141 113 [(0, .ref 170), (1, vi x1)] [vi z10] s10 _
            by_cases h11 : z10 = 0
            · refine mq_t h11 ?_
              refine pr_if1t rfl rfl (i32_z hz10) h11 ?_
              refine pr_n (pc2 := 126) (lv2 := [(0, .ref 170), (1, vi x1)]) (st2 := [.ref 86, .ref 170]) 2 (fun _ _ => rfl) ?_
              refine pr_p1 (args := [.ref 86]) (rest := []) rfl rfl rfl rfl (Nat.le_of_ble_eq_true rfl) rfl (h_127 s10 t 86 hE10 isX_86) (fun z t3 => pu_127) ?_
              rintro _ z12 s12 ⟨rfl, hz12⟩ hX12 hE12
              show pr K K d tb_M141 129 [(0, .ref 170), (1, vi x1)] [vi z12] s12 _
              by_cases h13 : z12 = 0
              · refine mq_t h13 ?_
                refine pr_if1t rfl rfl (i32_z hz12) h13 ?_
                refine pr_n (pc2 := 139) (lv2 := [(0, .ref 170), (1, vi x1)]) (st2 := [.ref 170]) 1 (fun _ _ => rfl) ?_
                refine pr_gE (k2 := 170) (v := vi (t 170 4)) hE12 rfl rfl rfl (by decide) rfl rfl rfl fun h14 => ?_
                have h14 : i32 (t 170 4) := h14
                refine pr_n (pc2 := 143) (lv2 := [(0, .ref 170), (1, vi x1)]) (st2 := [vi 1, vi (t 170 4)]) 1 (fun _ _ => rfl) ?_
                by_cases h15 : t 170 4 ≠ 1
                · refine mq_t h15 ?_
                  refine pr_if2t rfl rfl h14 (i32_n rfl) h15 ?_
                  refine pr_n (pc2 := 155) (lv2 := [(0, .ref 170), (1, vi x1)]) (st2 := [.ref 170]) 1 (fun _ _ => rfl) ?_
                  refine pr_s1 (args := []) (rest := []) rfl rfl rfl rfl (Nat.le_of_ble_eq_true rfl) rfl (h_131 s12 t  hE12 ) q_bad0 ?_
                  rintro _ s16 ⟨rfl, hz16⟩ hE16
                  show pr K K d tb_M141 158 [(0, .ref 170), (1, vi x1)] [vi 0] s16 _
                  refine pr_end (fun _ _ => rfl) ?_
                  exact .inl ⟨_, 0, _, rfl, ⟨rfl, (by decide)⟩, rfl, hE16⟩
                · refine mq_f h15 ?_
                  refine pr_if2f rfl rfl h14 (i32_n rfl) h15 ?_
                  refine pr_n (pc2 := 148) (lv2 := [(0, .ref 170), (1, vi x1)]) (st2 := [vi x1, .ref 170]) 2 (fun _ _ => rfl) ?_
                  refine pr_m1 (args := [vi x1]) (rest := []) rfl rfl rfl rfl (Nat.le_of_ble_eq_true rfl) rfl (h_156 s12 t x1 hE12 hx1) ?_
                  rintro _ z17 t17 s17 ⟨rfl, hz17⟩ hE17
                  show pr K K d tb_M141 151 [(0, .ref 170), (1, vi x1)] [vi z17] s17 _
                  refine pr_n (pc2 := 158) (lv2 := [(0, .ref 170), (1, vi x1)]) (st2 := [vi z17]) 1 (fun _ _ => rfl) ?_
                  refine pr_retz rfl rfl hz17 ?_
                  exact .inl ⟨_, z17, _, rfl, ⟨rfl, hz17⟩, rfl, hE17⟩
              · refine mq_f h13 ?_
                refine pr_if1f rfl rfl (i32_z hz12) h13 ?_
                refine pr_n (pc2 := 134) (lv2 := [(0, .ref 170), (1, vi x1)]) (st2 := [vi x1, .ref 170]) 2 (fun _ _ => rfl) ?_
                refine pr_m1 (args := [vi x1]) (rest := []) rfl rfl rfl rfl (Nat.le_of_ble_eq_true rfl) rfl (h_155 s12 t x1 hE12 hx1) ?_
                rintro _ z18 t18 s18 ⟨rfl, hz18⟩ hE18
                show pr K K d tb_M141 137 [(0, .ref 170), (1, vi x1)] [vi z18] s18 _
                refine pr_retz rfl rfl hz18 ?_
                exact .inl ⟨_, z18, _, rfl, ⟨rfl, hz18⟩, rfl, hE18⟩
            · refine mq_f h11 ?_
              refine pr_if1f rfl rfl (i32_z hz10) h11 ?_
              refine pr_n (pc2 := 118) (lv2 := [(0, .ref 170), (1, vi x1)]) (st2 := [vi x1, .ref 170]) 2 (fun _ _ => rfl) ?_
              refine pr_m1 (args := [vi x1]) (rest := []) rfl rfl rfl rfl (Nat.le_of_ble_eq_true rfl) rfl (h_154 s10 t x1 hE10 hx1) ?_
              rintro _ z19 t19 s19 ⟨rfl, hz19⟩ hE19
              show pr K K d tb_M141 121 [(0, .ref 170), (1, vi x1)] [vi z19] s19 _
              refine pr_retz rfl rfl hz19 ?_
              exact .inl ⟨_, z19, _, rfl, ⟨rfl, hz19⟩, rfl, hE19⟩
          · refine mq_f h9 ?_
            refine pr_if1f rfl rfl (i32_z hz8) h9 ?_
            refine pr_n (pc2 := 102) (lv2 := [(0, .ref 170), (1, vi x1)]) (st2 := [vi x1, .ref 170]) 2 (fun _ _ => rfl) ?_
            refine pr_m1 (args := [vi x1]) (rest := []) rfl rfl rfl rfl (Nat.le_of_ble_eq_true rfl) rfl (h_153 s8 t x1 hE8 hx1) ?_
            rintro _ z20 t20 s20 ⟨rfl, hz20⟩ hE20
            show pr K K d tb_M141 105 [(0, .ref 170), (1, vi x1)] [vi z20] s20 _
            refine pr_retz rfl rfl hz20 ?_
            exact .inl ⟨_, z20, _, rfl, ⟨rfl, hz20⟩, rfl, hE20⟩
        · refine mq_f h7 ?_
          refine pr_if1f rfl rfl (i32_z hz6) h7 ?_
          refine pr_n (pc2 := 86) (lv2 := [(0, .ref 170), (1, vi x1)]) (st2 := [vi x1, .ref 170]) 2 (fun _ _ => rfl) ?_
          refine pr_m1 (args := [vi x1]) (rest := []) rfl rfl rfl rfl (Nat.le_of_ble_eq_true rfl) rfl (h_143 s6 t x1 hE6 hx1) ?_
          rintro _ z21 t21 s21 ⟨rfl, hz21⟩ hE21
          show pr K K d tb_M141 89 [(0, .ref 170), (1, vi x1)] [vi z21] s21 _
          refine pr_retz rfl rfl hz21 ?_
          exact .inl ⟨_, z21, _, rfl, ⟨rfl, hz21⟩, rfl, hE21⟩
      · refine mq_f h5 ?_
        refine pr_if1f rfl rfl (i32_z hz4) h5 ?_
        refine pr_n (pc2 := 60) (lv2 := [(0, .ref 170), (1, vi x1)]) (st2 := [.ref 170]) 1 (fun _ _ => rfl) ?_
        refine pr_s1 (args := []) (rest := []) rfl rfl rfl rfl (Nat.le_of_ble_eq_true rfl) rfl (h_142 s4 t  hE4 ) q_prt ?_
        rintro _ s22 ⟨rfl, _⟩ hE22
        show pr K K d tb_M141 63 [(0, .ref 170), (1, vi x1)] [] s22 _
        refine pr_n (pc2 := 64) (lv2 := [(0, .ref 170), (1, vi x1)]) (st2 := [.ref 170]) 1 (fun _ _ => rfl) ?_
        refine pr_m1 (args := []) (rest := []) rfl rfl rfl rfl (Nat.le_of_ble_eq_true rfl) rfl (h_123 s22 ((prt t))  hE22 ) ?_
        rintro _ _ t23 s23 ⟨rfl, rfl⟩ hE23
        show pr K K d tb_M141 67 [(0, .ref 170), (1, vi x1)] [] s23 _
        refine pr_n (pc2 := 70) (lv2 := [(0, .ref 170), (1, vi x1)]) (st2 := [.ref 30, .ref 170]) 2 (fun _ _ => rfl) ?_
        refine pr_m1 (args := [.ref 30]) (rest := []) rfl rfl rfl rfl (Nat.le_of_ble_eq_true rfl) rfl (h_136 s23 t23 30 hE23 isX_30) ?_
        rintro _ z24 t24 s24 ⟨rfl, hz24⟩ hE24
        show pr K K d tb_M141 73 [(0, .ref 170), (1, vi x1)] [vi z24] s24 _
        refine pr_retz rfl rfl hz24 ?_
        exact .inl ⟨_, z24, _, rfl, ⟨rfl, hz24⟩, rfl, hE24⟩
    · refine mq_f h3 ?_
      refine pr_if1f rfl rfl (i32_z hz2) h3 ?_
      refine pr_n (pc2 := 22) (lv2 := [(0, .ref 170), (1, vi x1)]) (st2 := [.ref 170]) 1 (fun _ _ => rfl) ?_
      refine pr_gE (k2 := 170) (v := vi (t 170 15)) hE2 rfl rfl rfl (by decide) rfl rfl rfl fun h25 => ?_
      have h25 : i32 (t 170 15) := h25
      refine pr_n (pc2 := 27) (lv2 := [(2, vi (t 170 15)), (0, .ref 170), (1, vi x1)]) (st2 := [.ref 170]) 2 (fun _ _ => rfl) ?_
      refine pr_s1 (args := []) (rest := []) rfl rfl rfl rfl (Nat.le_of_ble_eq_true rfl) rfl (h_135 s2 t  hE2 ) q_rop ?_
      rintro _ s26 ⟨rfl, _⟩ hE26
      show pr K K d tb_M141 30 [(2, vi (t 170 15)), (0, .ref 170), (1, vi x1)] [] s26 _
      refine pr_n (pc2 := 33) (lv2 := [(2, vi (t 170 15)), (0, .ref 170), (1, vi x1)]) (st2 := [vi 1, vi x1, .ref 170]) 3 (fun _ _ => rfl) ?_
      refine pr_i2 (a := x1) (b := 1) rfl rfl ?_
      show pr K K d tb_M141 34 [(2, vi (t 170 15)), (0, .ref 170), (1, vi x1)] [vi (ipl x1 1), .ref 170] s26 _
      have h27 : i32 (ipl x1 1) := i32_in _
      refine pr_m1 (args := [vi (ipl x1 1)]) (rest := []) rfl rfl rfl rfl (Nat.le_of_ble_eq_true rfl) rfl (h_139 s26 ((rop t)) (ipl x1 1) hE26 h27) ?_
      rintro _ z28 t28 s28 ⟨rfl, hz28⟩ hE28
      show pr K K d tb_M141 37 [(2, vi (t 170 15)), (0, .ref 170), (1, vi x1)] [vi z28] s28 _
      by_cases h29 : z28 ≠ 0
      · refine mq_t h29 ?_
        refine pr_if1t rfl rfl (i32_z hz28) h29 ?_
        refine pr_n (pc2 := 44) (lv2 := [(2, vi (t 170 15)), (0, .ref 170), (1, vi x1)]) (st2 := [vi (t 170 15), .ref 170]) 2 (fun _ _ => rfl) ?_
        refine pr_pE (k2 := 170) (z := t 170 15) hE28 rfl rfl rfl rfl (by decide) rfl (by decide) rfl (show i32 (t 170 15) from h25) (hf_int' _) rfl rfl rfl (fun e => absurd e.2 (by decide)) (fun _ => trivial) fun s30 hE30 => ?_
        refine pr_n (pc2 := 48) (lv2 := [(2, vi (t 170 15)), (0, .ref 170), (1, vi x1)]) (st2 := [vi 1]) 1 (fun _ _ => rfl) ?_
        refine pr_end (fun _ _ => rfl) ?_
        exact .inl ⟨_, 1, _, rfl, ⟨rfl, (by decide)⟩, rfl, hE30⟩
      · refine mq_f h29 ?_
        refine pr_if1f rfl rfl (i32_z hz28) h29 ?_
        refine pr_n (pc2 := 41) (lv2 := [(2, vi (t 170 15)), (0, .ref 170), (1, vi x1)]) (st2 := [vi 0]) 1 (fun _ _ => rfl) ?_
        refine pr_end (fun _ _ => rfl) ?_
        exact .inl ⟨_, 0, _, rfl, ⟨rfl, (by decide)⟩, rfl, hE28⟩
  · refine mq_f h1 ?_
    refine pr_if2f rfl rfl hx1 (i32_n rfl) h1 ?_
    refine pr_n (pc2 := 7) (lv2 := [(0, .ref 170), (1, vi x1)]) (st2 := [.ref 170]) 1 (fun _ _ => rfl) ?_
    refine pr_s1 (args := []) (rest := []) rfl rfl rfl rfl (Nat.le_of_ble_eq_true rfl) rfl (h_131 s t  hE ) q_bad0 ?_
    rintro _ s31 ⟨rfl, hz31⟩ hE31
    show pr K K d tb_M141 10 [(0, .ref 170), (1, vi x1)] [vi 0] s31 _
    refine pr_end (fun _ _ => rfl) ?_
    exact .inl ⟨_, 0, _, rfl, ⟨rfl, (by decide)⟩, rfl, hE31⟩
set_option maxHeartbeats 20000000 in
set_option maxRecDepth 100000 in
theorem rm143 {K d C : Nat} (h_123 : rT123 K d C) (h_127 : rT127 K d C) (h_136 : rT136 K d C) (h_140 : rT140 K d C) (h_141 : rT141 K d C) (h_142 : rT142 K d C) (h_144 : rT144 K d C) : rT143 K (d + 1) C := by
  intro s t x1 hE hx1
  have hC : C = 177 ∨ C = 186 := hE.1
  refine pcr_of (M := tb_M143) rfl ?_
  show pr K K d tb_M143 0 [(0, .ref 170), (1, vi x1)] [] s _
  rw [rG_143]
  unfold rM143
  refine pr_n (pc2 := 1) (lv2 := [(0, .ref 170), (1, vi x1)]) (st2 := [.ref 170]) 1 (fun _ _ => rfl) ?_
  refine pr_s1 (args := []) (rest := []) rfl rfl rfl rfl (Nat.le_of_ble_eq_true rfl) rfl (h_142 s t  hE ) q_prt ?_
  rintro _ s1 ⟨rfl, _⟩ hE1
  show pr K K d tb_M143 4 [(0, .ref 170), (1, vi x1)] [] s1 _
  refine pr_n (pc2 := 5) (lv2 := [(0, .ref 170), (1, vi x1)]) (st2 := [.ref 170]) 1 (fun _ _ => rfl) ?_
  refine pr_m1 (args := []) (rest := []) rfl rfl rfl rfl (Nat.le_of_ble_eq_true rfl) rfl (h_123 s1 ((prt t))  hE1 ) ?_
  rintro _ _ t2 s2 ⟨rfl, rfl⟩ hE2
  show pr K K d tb_M143 8 [(0, .ref 170), (1, vi x1)] [] s2 _
  refine pr_n (pc2 := 12) (lv2 := [(0, .ref 170), (1, vi x1)]) (st2 := [.ref 22, .ref 170]) 2 (fun _ _ => rfl) ?_
  refine pr_m1 (args := [.ref 22]) (rest := []) rfl rfl rfl rfl (Nat.le_of_ble_eq_true rfl) rfl (h_136 s2 t2 22 hE2 isX_22) ?_
  rintro _ z3 t3 s3 ⟨rfl, hz3⟩ hE3
  show pr K K d tb_M143 15 [(0, .ref 170), (1, vi x1)] [vi z3] s3 _
  by_cases h4 : z3 = 0
  · refine mq_t h4 ?_
    refine pr_if1t rfl rfl (i32_z hz3) h4 ?_
    refine pr_n (pc2 := 40) (lv2 := [(0, .ref 170), (1, vi x1)]) (st2 := [vi 0]) 1 (fun _ _ => rfl) ?_
    refine pr_end (fun _ _ => rfl) ?_
    exact .inl ⟨_, 0, _, rfl, ⟨rfl, (by decide)⟩, rfl, hE3⟩
  · refine mq_f h4 ?_
    refine pr_if1f rfl rfl (i32_z hz3) h4 ?_
    refine pr_n (pc2 := 22) (lv2 := [(0, .ref 170), (1, vi x1)]) (st2 := [vi 1, vi x1, vi 0, .ref 170]) 4 (fun _ _ => rfl) ?_
    refine pr_i2 (a := x1) (b := 1) rfl rfl ?_
    show pr K K d tb_M143 23 [(0, .ref 170), (1, vi x1)] [vi (ipl x1 1), vi 0, .ref 170] s3 _
    have h5 : i32 (ipl x1 1) := i32_in _
    refine pr_m1 (args := [vi 0, vi (ipl x1 1)]) (rest := []) rfl rfl rfl rfl (Nat.le_of_ble_eq_true rfl) rfl (h_144 s3 t3 0 (ipl x1 1) hE3 (i32_n rfl) h5) ?_
    rintro _ z6 t6 s6 ⟨rfl, hz6⟩ hE6
    show pr K K d tb_M143 26 [(0, .ref 170), (1, vi x1)] [vi z6] s6 _
    by_cases h7 : z6 = 0
    · refine mq_t h7 ?_
      refine pr_if1t rfl rfl (i32_z hz6) h7 ?_
      refine pr_n (pc2 := 40) (lv2 := [(0, .ref 170), (1, vi x1)]) (st2 := [vi 0]) 1 (fun _ _ => rfl) ?_
      refine pr_end (fun _ _ => rfl) ?_
      exact .inl ⟨_, 0, _, rfl, ⟨rfl, (by decide)⟩, rfl, hE6⟩
    · refine mq_f h7 ?_
      refine pr_if1f rfl rfl (i32_z hz6) h7 ?_
      refine pr_n (pc2 := 33) (lv2 := [(0, .ref 170), (1, vi x1)]) (st2 := [.ref 24, .ref 170]) 2 (fun _ _ => rfl) ?_
      refine pr_m1 (args := [.ref 24]) (rest := []) rfl rfl rfl rfl (Nat.le_of_ble_eq_true rfl) rfl (h_136 s6 t6 24 hE6 isX_24) ?_
      rintro _ z8 t8 s8 ⟨rfl, hz8⟩ hE8
      show pr K K d tb_M143 36 [(0, .ref 170), (1, vi x1)] [vi z8] s8 _
      by_cases h9 : z8 ≠ 0
      · refine mq_t h9 ?_
        refine pr_if1t rfl rfl (i32_z hz8) h9 ?_
        refine pr_n (pc2 := 44) (lv2 := [(0, .ref 170), (1, vi x1)]) (st2 := [vi 10, .ref 170]) 2 (fun _ _ => rfl) ?_
        refine pr_s1 (args := [vi 10]) (rest := []) rfl rfl rfl rfl (Nat.le_of_ble_eq_true rfl) rfl (h_140 s8 t8 10 hE8 (i32_n rfl)) q_put1 ?_
        rintro _ s10 ⟨rfl, hz10⟩ hE10
        show pr K K d tb_M143 47 [(0, .ref 170), (1, vi x1)] [vi (ptz t8)] s10 _
        refine pr_n (pc2 := 50) (lv2 := [(0, .ref 170), (1, vi x1)]) (st2 := [vi 0, .ref 170]) 3 (fun _ _ => rfl) ?_
        refine pr_s1 (args := [vi 0]) (rest := []) rfl rfl rfl rfl (Nat.le_of_ble_eq_true rfl) rfl (h_140 s10 ((pt1 t8 10)) 0 hE10 (i32_n rfl)) q_put1 ?_
        rintro _ s11 ⟨rfl, hz11⟩ hE11
        show pr K K d tb_M143 53 [(0, .ref 170), (1, vi x1)] [vi (ptz ((pt1 t8 10)))] s11 _
        refine pr_n (pc2 := 57) (lv2 := [(2, vi (ptz ((pt1 t8 10)))), (0, .ref 170), (1, vi x1)]) (st2 := [vi 1, vi x1, .ref 170]) 4 (fun _ _ => rfl) ?_
        refine pr_i2 (a := x1) (b := 1) rfl rfl ?_
        show pr K K d tb_M143 58 [(2, vi (ptz ((pt1 t8 10)))), (0, .ref 170), (1, vi x1)] [vi (ipl x1 1), .ref 170] s11 _
        refine pr_m1 (args := [vi (ipl x1 1)]) (rest := []) rfl rfl rfl rfl (Nat.le_of_ble_eq_true rfl) rfl (h_141 s11 ((pt1 ((pt1 t8 10)) 0)) (ipl x1 1) hE11 h5) ?_
        rintro _ z13 t13 s13 ⟨rfl, hz13⟩ hE13
        show pr K K d tb_M143 61 [(2, vi (ptz ((pt1 t8 10)))), (0, .ref 170), (1, vi x1)] [vi z13] s13 _
        by_cases h14 : z13 ≠ 0
        · refine mq_t h14 ?_
          refine pr_if1t rfl rfl (i32_z hz13) h14 ?_
          refine pr_n (pc2 := 70) (lv2 := [(2, vi (ptz ((pt1 t8 10)))), (0, .ref 170), (1, vi x1)]) (st2 := [.ref 80, .ref 170]) 2 (fun _ _ => rfl) ?_
          refine pr_p1 (args := [.ref 80]) (rest := []) rfl rfl rfl rfl (Nat.le_of_ble_eq_true rfl) rfl (h_127 s13 t13 80 hE13 isX_80) (fun z t3 => pu_127) ?_
          rintro _ z15 s15 ⟨rfl, hz15⟩ hX15 hE15
          show pr K K d tb_M143 73 [(2, vi (ptz ((pt1 t8 10)))), (0, .ref 170), (1, vi x1)] [vi z15] s15 _
          by_cases h16 : z15 = 0
          · refine mq_t h16 ?_
            refine pr_if1t rfl rfl (i32_z hz15) h16 ?_
            refine pr_n (pc2 := 141) (lv2 := [(2, vi (ptz ((pt1 t8 10)))), (0, .ref 170), (1, vi x1)]) (st2 := [.ref 170]) 1 (fun _ _ => rfl) ?_
            refine pr_get (v := .ref C) rfl rfl rfl (by decide) (rv_ref (show s15.1 170 19 = ((C : Nat) : Int) from hE15.2.2.1)) fun _ => ?_
            refine pr_get (v := .ref (C + 1)) rfl rfl (TG_C hC) (by decide) (rv_ref (hE15.2.1 C 0 (C + 1) (rc_C0 hC))) fun _ => ?_
            refine pr_n (pc2 := 149) (lv2 := [(2, vi (ptz ((pt1 t8 10)))), (0, .ref 170), (1, vi x1)]) (st2 := [.ref 170, vi (ptz ((pt1 t8 10))), .ref (C + 1)]) 2 (fun _ _ => rfl) ?_
            refine pr_get (v := .ref C) rfl rfl rfl (by decide) (rv_ref (show s15.1 170 19 = ((C : Nat) : Int) from hE15.2.2.1)) fun _ => ?_
            refine pr_gE (k2 := 177) (v := vi (t13 177 1)) hE15 rfl rfl (TG_C hC) (by decide) rfl rfl rfl fun h17 => ?_
            have h17 : i32 (t13 177 1) := h17
            refine pr_sE (k2 := 178) (a := ptz ((pt1 t8 10))) (z := t13 177 1) hE15 rfl (show 96 ≤ C + 1 by omega) (TG_C1 hC) rfl hz11 (by decide) rfl (show i32 (t13 177 1) from h17) (nD1 hC (by omega)) rfl rfl (fun e => absurd e.1 (show ¬ (C + 1 = 170) by omega)) (fun _ => trivial) fun h18 h19 s20 hE20 => ?_
            refine pr_n (pc2 := 157) (lv2 := [(2, vi (ptz ((pt1 t8 10)))), (0, .ref 170), (1, vi x1)]) (st2 := [vi 1]) 1 (fun _ _ => rfl) ?_
            refine pr_end (fun _ _ => rfl) ?_
            exact .inl ⟨_, 1, _, rfl, ⟨rfl, (by decide)⟩, rfl, hE20⟩
          · refine mq_f h16 ?_
            refine pr_if1f rfl rfl (i32_z hz15) h16 ?_
            refine pr_n (pc2 := 77) (lv2 := [(2, vi (ptz ((pt1 t8 10)))), (0, .ref 170), (1, vi x1)]) (st2 := [.ref 170]) 1 (fun _ _ => rfl) ?_
            refine pr_m1 (args := []) (rest := []) rfl rfl rfl rfl (Nat.le_of_ble_eq_true rfl) rfl (h_123 s15 t13  hE15 ) ?_
            rintro _ _ t21 s21 ⟨rfl, rfl⟩ hE21
            show pr K K d tb_M143 80 [(2, vi (ptz ((pt1 t8 10)))), (0, .ref 170), (1, vi x1)] [] s21 _
            refine pr_n (pc2 := 83) (lv2 := [(2, vi (ptz ((pt1 t8 10)))), (0, .ref 170), (1, vi x1)]) (st2 := [vi 9, .ref 170]) 2 (fun _ _ => rfl) ?_
            refine pr_s1 (args := [vi 9]) (rest := []) rfl rfl rfl rfl (Nat.le_of_ble_eq_true rfl) rfl (h_140 s21 t21 9 hE21 (i32_n rfl)) q_put1 ?_
            rintro _ s22 ⟨rfl, hz22⟩ hE22
            show pr K K d tb_M143 86 [(2, vi (ptz ((pt1 t8 10)))), (0, .ref 170), (1, vi x1)] [vi (ptz t21)] s22 _
            refine pr_n (pc2 := 89) (lv2 := [(2, vi (ptz ((pt1 t8 10)))), (0, .ref 170), (1, vi x1)]) (st2 := [vi 0, .ref 170]) 3 (fun _ _ => rfl) ?_
            refine pr_s1 (args := [vi 0]) (rest := []) rfl rfl rfl rfl (Nat.le_of_ble_eq_true rfl) rfl (h_140 s22 ((pt1 t21 9)) 0 hE22 (i32_n rfl)) q_put1 ?_
            rintro _ s23 ⟨rfl, hz23⟩ hE23
            show pr K K d tb_M143 92 [(2, vi (ptz ((pt1 t8 10)))), (0, .ref 170), (1, vi x1)] [vi (ptz ((pt1 t21 9)))] s23 _
            refine pr_n (pc2 := 94) (lv2 := [(3, vi (ptz ((pt1 t21 9)))), (2, vi (ptz ((pt1 t8 10)))), (0, .ref 170), (1, vi x1)]) (st2 := [.ref 170]) 2 (fun _ _ => rfl) ?_
            refine pr_get (v := .ref C) rfl rfl rfl (by decide) (rv_ref (show s23.1 170 19 = ((C : Nat) : Int) from hE23.2.2.1)) fun _ => ?_
            refine pr_get (v := .ref (C + 1)) rfl rfl (TG_C hC) (by decide) (rv_ref (hE23.2.1 C 0 (C + 1) (rc_C0 hC))) fun _ => ?_
            refine pr_n (pc2 := 102) (lv2 := [(3, vi (ptz ((pt1 t21 9)))), (2, vi (ptz ((pt1 t8 10)))), (0, .ref 170), (1, vi x1)]) (st2 := [.ref 170, vi (ptz ((pt1 t8 10))), .ref (C + 1)]) 2 (fun _ _ => rfl) ?_
            refine pr_get (v := .ref C) rfl rfl rfl (by decide) (rv_ref (show s23.1 170 19 = ((C : Nat) : Int) from hE23.2.2.1)) fun _ => ?_
            refine pr_gE (k2 := 177) (v := vi ((pt1 ((pt1 t21 9)) 0) 177 1)) hE23 rfl rfl (TG_C hC) (by decide) rfl rfl rfl fun h24 => ?_
            have h24 : i32 ((pt1 ((pt1 t21 9)) 0) 177 1) := h24
            refine pr_sE (k2 := 178) (a := ptz ((pt1 t8 10))) (z := (pt1 ((pt1 t21 9)) 0) 177 1) hE23 rfl (show 96 ≤ C + 1 by omega) (TG_C1 hC) rfl hz11 (by decide) rfl (show i32 ((pt1 ((pt1 t21 9)) 0) 177 1) from h24) (nD1 hC (by omega)) rfl rfl (fun e => absurd e.1 (show ¬ (C + 1 = 170) by omega)) (fun _ => trivial) fun h25 h26 s27 hE27 => ?_
            refine pr_n (pc2 := 112) (lv2 := [(3, vi (ptz ((pt1 t21 9)))), (2, vi (ptz ((pt1 t8 10)))), (0, .ref 170), (1, vi x1)]) (st2 := [vi 1, vi x1, .ref 170]) 3 (fun _ _ => rfl) ?_
            refine pr_i2 (a := x1) (b := 1) rfl rfl ?_
            show pr K K d tb_M143 113 [(3, vi (ptz ((pt1 t21 9)))), (2, vi (ptz ((pt1 t8 10)))), (0, .ref 170), (1, vi x1)] [vi (ipl x1 1), .ref 170] s27 _
            refine pr_m1 (args := [vi (ipl x1 1)]) (rest := []) rfl rfl rfl rfl (Nat.le_of_ble_eq_true rfl) rfl (h_141 s27 (up2 ((pt1 ((pt1 t21 9)) 0)) 178 ((ptz ((pt1 t8 10))).toNat) ((pt1 ((pt1 t21 9)) 0) 177 1)) (ipl x1 1) hE27 h5) ?_
            rintro _ z29 t29 s29 ⟨rfl, hz29⟩ hE29
            show pr K K d tb_M143 116 [(3, vi (ptz ((pt1 t21 9)))), (2, vi (ptz ((pt1 t8 10)))), (0, .ref 170), (1, vi x1)] [vi z29] s29 _
            by_cases h30 : z29 ≠ 0
            · refine mq_t h30 ?_
              refine pr_if1t rfl rfl (i32_z hz29) h30 ?_
              refine pr_n (pc2 := 122) (lv2 := [(3, vi (ptz ((pt1 t21 9)))), (2, vi (ptz ((pt1 t8 10)))), (0, .ref 170), (1, vi x1)]) (st2 := [.ref 170]) 1 (fun _ _ => rfl) ?_
              refine pr_get (v := .ref C) rfl rfl rfl (by decide) (rv_ref (show s29.1 170 19 = ((C : Nat) : Int) from hE29.2.2.1)) fun _ => ?_
              refine pr_get (v := .ref (C + 1)) rfl rfl (TG_C hC) (by decide) (rv_ref (hE29.2.1 C 0 (C + 1) (rc_C0 hC))) fun _ => ?_
              refine pr_n (pc2 := 130) (lv2 := [(3, vi (ptz ((pt1 t21 9)))), (2, vi (ptz ((pt1 t8 10)))), (0, .ref 170), (1, vi x1)]) (st2 := [.ref 170, vi (ptz ((pt1 t21 9))), .ref (C + 1)]) 2 (fun _ _ => rfl) ?_
              refine pr_get (v := .ref C) rfl rfl rfl (by decide) (rv_ref (show s29.1 170 19 = ((C : Nat) : Int) from hE29.2.2.1)) fun _ => ?_
              refine pr_gE (k2 := 177) (v := vi (t29 177 1)) hE29 rfl rfl (TG_C hC) (by decide) rfl rfl rfl fun h31 => ?_
              have h31 : i32 (t29 177 1) := h31
              refine pr_sE (k2 := 178) (a := ptz ((pt1 t21 9))) (z := t29 177 1) hE29 rfl (show 96 ≤ C + 1 by omega) (TG_C1 hC) rfl hz23 (by decide) rfl (show i32 (t29 177 1) from h31) (nD1 hC (by omega)) rfl rfl (fun e => absurd e.1 (show ¬ (C + 1 = 170) by omega)) (fun _ => trivial) fun h32 h33 s34 hE34 => ?_
              refine pr_n (pc2 := 157) (lv2 := [(3, vi (ptz ((pt1 t21 9)))), (2, vi (ptz ((pt1 t8 10)))), (0, .ref 170), (1, vi x1)]) (st2 := [vi 1]) 2 (fun _ _ => rfl) ?_
              refine pr_end (fun _ _ => rfl) ?_
              exact .inl ⟨_, 1, _, rfl, ⟨rfl, (by decide)⟩, rfl, hE34⟩
            · refine mq_f h30 ?_
              refine pr_if1f rfl rfl (i32_z hz29) h30 ?_
              refine pr_n (pc2 := 120) (lv2 := [(3, vi (ptz ((pt1 t21 9)))), (2, vi (ptz ((pt1 t8 10)))), (0, .ref 170), (1, vi x1)]) (st2 := [vi 0]) 1 (fun _ _ => rfl) ?_
              refine pr_end (fun _ _ => rfl) ?_
              exact .inl ⟨_, 0, _, rfl, ⟨rfl, (by decide)⟩, rfl, hE29⟩
        · refine mq_f h14 ?_
          refine pr_if1f rfl rfl (i32_z hz13) h14 ?_
          refine pr_n (pc2 := 65) (lv2 := [(2, vi (ptz ((pt1 t8 10)))), (0, .ref 170), (1, vi x1)]) (st2 := [vi 0]) 1 (fun _ _ => rfl) ?_
          refine pr_end (fun _ _ => rfl) ?_
          exact .inl ⟨_, 0, _, rfl, ⟨rfl, (by decide)⟩, rfl, hE13⟩
      · refine mq_f h9 ?_
        refine pr_if1f rfl rfl (i32_z hz8) h9 ?_
        refine pr_n (pc2 := 40) (lv2 := [(0, .ref 170), (1, vi x1)]) (st2 := [vi 0]) 1 (fun _ _ => rfl) ?_
        refine pr_end (fun _ _ => rfl) ?_
        exact .inl ⟨_, 0, _, rfl, ⟨rfl, (by decide)⟩, rfl, hE8⟩
set_option maxHeartbeats 20000000 in
set_option maxRecDepth 100000 in
theorem rm153 {K d C : Nat} (h_123 : rT123 K d C) (h_136 : rT136 K d C) (h_140 : rT140 K d C) (h_141 : rT141 K d C) (h_142 : rT142 K d C) (h_144 : rT144 K d C) (h_147 : rT147 K d C) : rT153 K (d + 1) C := by
  intro s t x1 hE hx1
  have hC : C = 177 ∨ C = 186 := hE.1
  refine pcr_of (M := tb_M153) rfl ?_
  show pr K K d tb_M153 0 [(0, .ref 170), (1, vi x1)] [] s _
  rw [rG_153]
  unfold rM153
  refine pr_n (pc2 := 1) (lv2 := [(0, .ref 170), (1, vi x1)]) (st2 := [.ref 170]) 1 (fun _ _ => rfl) ?_
  refine pr_s1 (args := []) (rest := []) rfl rfl rfl rfl (Nat.le_of_ble_eq_true rfl) rfl (h_142 s t  hE ) q_prt ?_
  rintro _ s1 ⟨rfl, _⟩ hE1
  show pr K K d tb_M153 4 [(0, .ref 170), (1, vi x1)] [] s1 _
  refine pr_n (pc2 := 5) (lv2 := [(0, .ref 170), (1, vi x1)]) (st2 := [.ref 170]) 1 (fun _ _ => rfl) ?_
  refine pr_m1 (args := []) (rest := []) rfl rfl rfl rfl (Nat.le_of_ble_eq_true rfl) rfl (h_123 s1 ((prt t))  hE1 ) ?_
  rintro _ _ t2 s2 ⟨rfl, rfl⟩ hE2
  show pr K K d tb_M153 8 [(0, .ref 170), (1, vi x1)] [] s2 _
  refine pr_n (pc2 := 9) (lv2 := [(0, .ref 170), (1, vi x1)]) (st2 := [.ref 170]) 1 (fun _ _ => rfl) ?_
  refine pr_get (v := .ref C) rfl rfl rfl (by decide) (rv_ref (show s2.1 170 19 = ((C : Nat) : Int) from hE2.2.2.1)) fun _ => ?_
  refine pr_gE (k2 := 177) (v := vi (t2 177 1)) hE2 rfl rfl (TG_C hC) (by decide) rfl rfl rfl fun h3 => ?_
  have h3 : i32 (t2 177 1) := h3
  refine pr_n (pc2 := 20) (lv2 := [(2, vi (t2 177 1)), (0, .ref 170), (1, vi x1)]) (st2 := [.ref 22, .ref 170]) 3 (fun _ _ => rfl) ?_
  refine pr_m1 (args := [.ref 22]) (rest := []) rfl rfl rfl rfl (Nat.le_of_ble_eq_true rfl) rfl (h_136 s2 t2 22 hE2 isX_22) ?_
  rintro _ z4 t4 s4 ⟨rfl, hz4⟩ hE4
  show pr K K d tb_M153 23 [(2, vi (t2 177 1)), (0, .ref 170), (1, vi x1)] [vi z4] s4 _
  by_cases h5 : z4 = 0
  · refine mq_t h5 ?_
    refine pr_if1t rfl rfl (i32_z hz4) h5 ?_
    refine pr_n (pc2 := 48) (lv2 := [(2, vi (t2 177 1)), (0, .ref 170), (1, vi x1)]) (st2 := [vi 0]) 1 (fun _ _ => rfl) ?_
    refine pr_end (fun _ _ => rfl) ?_
    exact .inl ⟨_, 0, _, rfl, ⟨rfl, (by decide)⟩, rfl, hE4⟩
  · refine mq_f h5 ?_
    refine pr_if1f rfl rfl (i32_z hz4) h5 ?_
    refine pr_n (pc2 := 30) (lv2 := [(2, vi (t2 177 1)), (0, .ref 170), (1, vi x1)]) (st2 := [vi 1, vi x1, vi 0, .ref 170]) 4 (fun _ _ => rfl) ?_
    refine pr_i2 (a := x1) (b := 1) rfl rfl ?_
    show pr K K d tb_M153 31 [(2, vi (t2 177 1)), (0, .ref 170), (1, vi x1)] [vi (ipl x1 1), vi 0, .ref 170] s4 _
    have h6 : i32 (ipl x1 1) := i32_in _
    refine pr_m1 (args := [vi 0, vi (ipl x1 1)]) (rest := []) rfl rfl rfl rfl (Nat.le_of_ble_eq_true rfl) rfl (h_144 s4 t4 0 (ipl x1 1) hE4 (i32_n rfl) h6) ?_
    rintro _ z7 t7 s7 ⟨rfl, hz7⟩ hE7
    show pr K K d tb_M153 34 [(2, vi (t2 177 1)), (0, .ref 170), (1, vi x1)] [vi z7] s7 _
    by_cases h8 : z7 = 0
    · refine mq_t h8 ?_
      refine pr_if1t rfl rfl (i32_z hz7) h8 ?_
      refine pr_n (pc2 := 48) (lv2 := [(2, vi (t2 177 1)), (0, .ref 170), (1, vi x1)]) (st2 := [vi 0]) 1 (fun _ _ => rfl) ?_
      refine pr_end (fun _ _ => rfl) ?_
      exact .inl ⟨_, 0, _, rfl, ⟨rfl, (by decide)⟩, rfl, hE7⟩
    · refine mq_f h8 ?_
      refine pr_if1f rfl rfl (i32_z hz7) h8 ?_
      refine pr_n (pc2 := 41) (lv2 := [(2, vi (t2 177 1)), (0, .ref 170), (1, vi x1)]) (st2 := [.ref 24, .ref 170]) 2 (fun _ _ => rfl) ?_
      refine pr_m1 (args := [.ref 24]) (rest := []) rfl rfl rfl rfl (Nat.le_of_ble_eq_true rfl) rfl (h_136 s7 t7 24 hE7 isX_24) ?_
      rintro _ z9 t9 s9 ⟨rfl, hz9⟩ hE9
      show pr K K d tb_M153 44 [(2, vi (t2 177 1)), (0, .ref 170), (1, vi x1)] [vi z9] s9 _
      by_cases h10 : z9 ≠ 0
      · refine mq_t h10 ?_
        refine pr_if1t rfl rfl (i32_z hz9) h10 ?_
        refine pr_n (pc2 := 52) (lv2 := [(2, vi (t2 177 1)), (0, .ref 170), (1, vi x1)]) (st2 := [vi 10, .ref 170]) 2 (fun _ _ => rfl) ?_
        refine pr_s1 (args := [vi 10]) (rest := []) rfl rfl rfl rfl (Nat.le_of_ble_eq_true rfl) rfl (h_140 s9 t9 10 hE9 (i32_n rfl)) q_put1 ?_
        rintro _ s11 ⟨rfl, hz11⟩ hE11
        show pr K K d tb_M153 55 [(2, vi (t2 177 1)), (0, .ref 170), (1, vi x1)] [vi (ptz t9)] s11 _
        refine pr_n (pc2 := 58) (lv2 := [(2, vi (t2 177 1)), (0, .ref 170), (1, vi x1)]) (st2 := [vi 0, .ref 170]) 3 (fun _ _ => rfl) ?_
        refine pr_s1 (args := [vi 0]) (rest := []) rfl rfl rfl rfl (Nat.le_of_ble_eq_true rfl) rfl (h_140 s11 ((pt1 t9 10)) 0 hE11 (i32_n rfl)) q_put1 ?_
        rintro _ s12 ⟨rfl, hz12⟩ hE12
        show pr K K d tb_M153 61 [(2, vi (t2 177 1)), (0, .ref 170), (1, vi x1)] [vi (ptz ((pt1 t9 10)))] s12 _
        refine pr_n (pc2 := 65) (lv2 := [(3, vi (ptz ((pt1 t9 10)))), (2, vi (t2 177 1)), (0, .ref 170), (1, vi x1)]) (st2 := [vi 1, vi x1, .ref 170]) 4 (fun _ _ => rfl) ?_
        refine pr_i2 (a := x1) (b := 1) rfl rfl ?_
        show pr K K d tb_M153 66 [(3, vi (ptz ((pt1 t9 10)))), (2, vi (t2 177 1)), (0, .ref 170), (1, vi x1)] [vi (ipl x1 1), .ref 170] s12 _
        refine pr_m1 (args := [vi (ipl x1 1)]) (rest := []) rfl rfl rfl rfl (Nat.le_of_ble_eq_true rfl) rfl (h_141 s12 ((pt1 ((pt1 t9 10)) 0)) (ipl x1 1) hE12 h6) ?_
        rintro _ z14 t14 s14 ⟨rfl, hz14⟩ hE14
        show pr K K d tb_M153 69 [(3, vi (ptz ((pt1 t9 10)))), (2, vi (t2 177 1)), (0, .ref 170), (1, vi x1)] [vi z14] s14 _
        by_cases h15 : z14 ≠ 0
        · refine mq_t h15 ?_
          refine pr_if1t rfl rfl (i32_z hz14) h15 ?_
          refine pr_n (pc2 := 78) (lv2 := [(3, vi (ptz ((pt1 t9 10)))), (2, vi (t2 177 1)), (0, .ref 170), (1, vi x1)]) (st2 := [vi (t2 177 1), vi 9, .ref 170]) 3 (fun _ _ => rfl) ?_
          refine pr_s1 (args := [vi 9, vi (t2 177 1)]) (rest := []) rfl rfl rfl rfl (Nat.le_of_ble_eq_true rfl) rfl (h_147 s14 t14 9 (t2 177 1) hE14 (i32_n rfl) h3) q_pt2 ?_
          rintro _ s16 ⟨rfl, _⟩ hE16
          show pr K K d tb_M153 81 [(3, vi (ptz ((pt1 t9 10)))), (2, vi (t2 177 1)), (0, .ref 170), (1, vi x1)] [] s16 _
          refine pr_n (pc2 := 82) (lv2 := [(3, vi (ptz ((pt1 t9 10)))), (2, vi (t2 177 1)), (0, .ref 170), (1, vi x1)]) (st2 := [.ref 170]) 1 (fun _ _ => rfl) ?_
          refine pr_get (v := .ref C) rfl rfl rfl (by decide) (rv_ref (show s16.1 170 19 = ((C : Nat) : Int) from hE16.2.2.1)) fun _ => ?_
          refine pr_get (v := .ref (C + 1)) rfl rfl (TG_C hC) (by decide) (rv_ref (hE16.2.1 C 0 (C + 1) (rc_C0 hC))) fun _ => ?_
          refine pr_n (pc2 := 90) (lv2 := [(3, vi (ptz ((pt1 t9 10)))), (2, vi (t2 177 1)), (0, .ref 170), (1, vi x1)]) (st2 := [.ref 170, vi (ptz ((pt1 t9 10))), .ref (C + 1)]) 2 (fun _ _ => rfl) ?_
          refine pr_get (v := .ref C) rfl rfl rfl (by decide) (rv_ref (show s16.1 170 19 = ((C : Nat) : Int) from hE16.2.2.1)) fun _ => ?_
          refine pr_gE (k2 := 177) (v := vi ((pt2 t14 9 (t2 177 1)) 177 1)) hE16 rfl rfl (TG_C hC) (by decide) rfl rfl rfl fun h17 => ?_
          have h17 : i32 ((pt2 t14 9 (t2 177 1)) 177 1) := h17
          refine pr_sE (k2 := 178) (a := ptz ((pt1 t9 10))) (z := (pt2 t14 9 (t2 177 1)) 177 1) hE16 rfl (show 96 ≤ C + 1 by omega) (TG_C1 hC) rfl hz12 (by decide) rfl (show i32 ((pt2 t14 9 (t2 177 1)) 177 1) from h17) (nD1 hC (by omega)) rfl rfl (fun e => absurd e.1 (show ¬ (C + 1 = 170) by omega)) (fun _ => trivial) fun h18 h19 s20 hE20 => ?_
          refine pr_n (pc2 := 98) (lv2 := [(3, vi (ptz ((pt1 t9 10)))), (2, vi (t2 177 1)), (0, .ref 170), (1, vi x1)]) (st2 := [vi 1]) 1 (fun _ _ => rfl) ?_
          refine pr_end (fun _ _ => rfl) ?_
          exact .inl ⟨_, 1, _, rfl, ⟨rfl, (by decide)⟩, rfl, hE20⟩
        · refine mq_f h15 ?_
          refine pr_if1f rfl rfl (i32_z hz14) h15 ?_
          refine pr_n (pc2 := 73) (lv2 := [(3, vi (ptz ((pt1 t9 10)))), (2, vi (t2 177 1)), (0, .ref 170), (1, vi x1)]) (st2 := [vi 0]) 1 (fun _ _ => rfl) ?_
          refine pr_end (fun _ _ => rfl) ?_
          exact .inl ⟨_, 0, _, rfl, ⟨rfl, (by decide)⟩, rfl, hE14⟩
      · refine mq_f h10 ?_
        refine pr_if1f rfl rfl (i32_z hz9) h10 ?_
        refine pr_n (pc2 := 48) (lv2 := [(2, vi (t2 177 1)), (0, .ref 170), (1, vi x1)]) (st2 := [vi 0]) 1 (fun _ _ => rfl) ?_
        refine pr_end (fun _ _ => rfl) ?_
        exact .inl ⟨_, 0, _, rfl, ⟨rfl, (by decide)⟩, rfl, hE9⟩
set_option maxHeartbeats 20000000 in
set_option maxRecDepth 100000 in
theorem rm154 {K d C : Nat} (h_123 : rT123 K d C) (h_131 : rT131 K d C) (h_140 : rT140 K d C) (h_141 : rT141 K d C) (h_142 : rT142 K d C) (h_147 : rT147 K d C) : rT154 K (d + 1) C := by
  intro s t x1 hE hx1
  have hC : C = 177 ∨ C = 186 := hE.1
  refine pcr_of (M := tb_M154) rfl ?_
  show pr K K d tb_M154 0 [(0, .ref 170), (1, vi x1)] [] s _
  rw [rG_154]
  unfold rM154
  refine pr_n (pc2 := 1) (lv2 := [(0, .ref 170), (1, vi x1)]) (st2 := [.ref 170]) 1 (fun _ _ => rfl) ?_
  refine pr_s1 (args := []) (rest := []) rfl rfl rfl rfl (Nat.le_of_ble_eq_true rfl) rfl (h_142 s t  hE ) q_prt ?_
  rintro _ s1 ⟨rfl, _⟩ hE1
  show pr K K d tb_M154 4 [(0, .ref 170), (1, vi x1)] [] s1 _
  refine pr_n (pc2 := 5) (lv2 := [(0, .ref 170), (1, vi x1)]) (st2 := [.ref 170]) 1 (fun _ _ => rfl) ?_
  refine pr_m1 (args := []) (rest := []) rfl rfl rfl rfl (Nat.le_of_ble_eq_true rfl) rfl (h_123 s1 ((prt t))  hE1 ) ?_
  rintro _ _ t2 s2 ⟨rfl, rfl⟩ hE2
  show pr K K d tb_M154 8 [(0, .ref 170), (1, vi x1)] [] s2 _
  refine pr_n (pc2 := 9) (lv2 := [(0, .ref 170), (1, vi x1)]) (st2 := [.ref 170]) 1 (fun _ _ => rfl) ?_
  refine pr_gE (k2 := 170) (v := vi (t2 170 4)) hE2 rfl rfl rfl (by decide) rfl rfl rfl fun h3 => ?_
  have h3 : i32 (t2 170 4) := h3
  refine pr_n (pc2 := 13) (lv2 := [(0, .ref 170), (1, vi x1)]) (st2 := [vi 3, vi (t2 170 4)]) 1 (fun _ _ => rfl) ?_
  by_cases h4 : t2 170 4 = 3
  · refine mq_t h4 ?_
    refine pr_if2t rfl rfl h3 (i32_n rfl) h4 ?_
    refine pr_n (pc2 := 25) (lv2 := [(0, .ref 170), (1, vi x1)]) (st2 := [.ref 170, vi 17, .ref 170]) 3 (fun _ _ => rfl) ?_
    refine pr_get (v := .ref C) rfl rfl rfl (by decide) (rv_ref (show s2.1 170 19 = ((C : Nat) : Int) from hE2.2.2.1)) fun _ => ?_
    refine pr_gE (k2 := 177) (v := vi (t2 177 10)) hE2 rfl rfl (TG_C hC) (by decide) rfl rfl rfl fun h5 => ?_
    have h5 : i32 (t2 177 10) := h5
    refine pr_s1 (args := [vi 17, vi (t2 177 10)]) (rest := []) rfl rfl rfl rfl (Nat.le_of_ble_eq_true rfl) rfl (h_147 s2 t2 17 (t2 177 10) hE2 (i32_n rfl) h5) q_pt2 ?_
    rintro _ s6 ⟨rfl, _⟩ hE6
    show pr K K d tb_M154 34 [(0, .ref 170), (1, vi x1)] [] s6 _
    refine pr_n (pc2 := 36) (lv2 := [(0, .ref 170), (1, vi x1)]) (st2 := [.ref 170, .ref 170]) 2 (fun _ _ => rfl) ?_
    refine pr_gE (k2 := 170) (v := vi (t2 170 7)) hE6 rfl rfl rfl (by decide) rfl rfl rfl fun h7 => ?_
    have h7 : i32 (t2 170 7) := h7
    refine pr_s1 (args := [vi (t2 170 7)]) (rest := []) rfl rfl rfl rfl (Nat.le_of_ble_eq_true rfl) rfl (h_140 s6 ((pt2 t2 17 (t2 177 10))) (t2 170 7) hE6 h7) q_put1 ?_
    rintro _ s8 ⟨rfl, hz8⟩ hE8
    show pr K K d tb_M154 42 [(0, .ref 170), (1, vi x1)] [vi (ptz ((pt2 t2 17 (t2 177 10))))] s8 _
    refine pr_n (pc2 := 46) (lv2 := [(0, .ref 170), (1, vi x1)]) (st2 := [vi 18, .ref 170]) 3 (fun _ _ => rfl) ?_
    refine pr_s1 (args := [vi 18]) (rest := []) rfl rfl rfl rfl (Nat.le_of_ble_eq_true rfl) rfl (h_140 s8 ((pt1 ((pt2 t2 17 (t2 177 10))) (t2 170 7))) 18 hE8 (i32_n rfl)) q_put1 ?_
    rintro _ s9 ⟨rfl, hz9⟩ hE9
    show pr K K d tb_M154 49 [(0, .ref 170), (1, vi x1)] [vi (ptz ((pt1 ((pt2 t2 17 (t2 177 10))) (t2 170 7))))] s9 _
    refine pr_n (pc2 := 52) (lv2 := [(2, vi (ptz ((pt1 ((pt2 t2 17 (t2 177 10))) (t2 170 7))))), (0, .ref 170), (1, vi x1)]) (st2 := [.ref 170, .ref 170]) 3 (fun _ _ => rfl) ?_
    refine pr_get (v := .ref C) rfl rfl rfl (by decide) (rv_ref (show s9.1 170 19 = ((C : Nat) : Int) from hE9.2.2.1)) fun _ => ?_
    refine pr_gE (k2 := 177) (v := vi (t2 177 10)) hE9 rfl rfl (TG_C hC) (by decide) rfl rfl rfl fun h10 => ?_
    have h10 : i32 (t2 177 10) := h10
    refine pr_s1 (args := [vi (t2 177 10)]) (rest := []) rfl rfl rfl rfl (Nat.le_of_ble_eq_true rfl) rfl (h_140 s9 ((pt1 ((pt1 ((pt2 t2 17 (t2 177 10))) (t2 170 7))) 18)) (t2 177 10) hE9 h10) q_put1 ?_
    rintro _ s11 ⟨rfl, hz11⟩ hE11
    show pr K K d tb_M154 61 [(2, vi (ptz ((pt1 ((pt2 t2 17 (t2 177 10))) (t2 170 7))))), (0, .ref 170), (1, vi x1)] [vi (ptz ((pt1 ((pt1 ((pt2 t2 17 (t2 177 10))) (t2 170 7))) 18)))] s11 _
    refine pr_n (pc2 := 63) (lv2 := [(2, vi (ptz ((pt1 ((pt2 t2 17 (t2 177 10))) (t2 170 7))))), (0, .ref 170), (1, vi x1)]) (st2 := [.ref 170]) 2 (fun _ _ => rfl) ?_
    refine pr_get (v := .ref C) rfl rfl rfl (by decide) (rv_ref (show s11.1 170 19 = ((C : Nat) : Int) from hE11.2.2.1)) fun _ => ?_
    refine pr_n (pc2 := 67) (lv2 := [(2, vi (ptz ((pt1 ((pt2 t2 17 (t2 177 10))) (t2 170 7))))), (0, .ref 170), (1, vi x1)]) (st2 := [.ref C, .ref C]) 1 (fun _ _ => rfl) ?_
    refine pr_gE (k2 := 177) (v := vi (t2 177 10)) hE11 rfl rfl (TG_C hC) (by decide) rfl rfl rfl fun h12 => ?_
    have h12 : i32 (t2 177 10) := h12
    refine pr_n (pc2 := 71) (lv2 := [(2, vi (ptz ((pt1 ((pt2 t2 17 (t2 177 10))) (t2 170 7))))), (0, .ref 170), (1, vi x1)]) (st2 := [vi 1, vi (t2 177 10), .ref C]) 1 (fun _ _ => rfl) ?_
    refine pr_i2 (a := t2 177 10) (b := 1) rfl rfl ?_
    show pr K K d tb_M154 72 [(2, vi (ptz ((pt1 ((pt2 t2 17 (t2 177 10))) (t2 170 7))))), (0, .ref 170), (1, vi x1)] [vi (ipl (t2 177 10) 1), .ref C] s11 _
    have h13 : i32 (ipl (t2 177 10) 1) := i32_in _
    refine pr_pE (k2 := 177) (z := ipl (t2 177 10) 1) hE11 rfl rfl rfl rfl (show 96 ≤ C by omega) (TG_C hC) (by decide) rfl (show i32 (ipl (t2 177 10) 1) from h13) (hf_int' _) (nD hC (by omega)) rfl rfl (fun e => absurd e.1 (show ¬ (C = 170) by omega)) (fun _ => trivial) fun s14 hE14 => ?_
    refine pr_n (pc2 := 77) (lv2 := [(2, vi (ptz ((pt1 ((pt2 t2 17 (t2 177 10))) (t2 170 7))))), (0, .ref 170), (1, vi x1)]) (st2 := [vi 0, .ref 170]) 2 (fun _ _ => rfl) ?_
    refine pr_s1 (args := [vi 0]) (rest := []) rfl rfl rfl rfl (Nat.le_of_ble_eq_true rfl) rfl (h_140 s14 (up2 ((pt1 ((pt1 ((pt1 ((pt2 t2 17 (t2 177 10))) (t2 170 7))) 18)) (t2 177 10))) 177 10 (ipl (t2 177 10) 1)) 0 hE14 (i32_n rfl)) q_put1 ?_
    rintro _ s15 ⟨rfl, hz15⟩ hE15
    show pr K K d tb_M154 80 [(2, vi (ptz ((pt1 ((pt2 t2 17 (t2 177 10))) (t2 170 7))))), (0, .ref 170), (1, vi x1)] [vi (ptz (up2 ((pt1 ((pt1 ((pt1 ((pt2 t2 17 (t2 177 10))) (t2 170 7))) 18)) (t2 177 10))) 177 10 (ipl (t2 177 10) 1)))] s15 _
    refine pr_n (pc2 := 82) (lv2 := [(3, vi (ptz (up2 ((pt1 ((pt1 ((pt1 ((pt2 t2 17 (t2 177 10))) (t2 170 7))) 18)) (t2 177 10))) 177 10 (ipl (t2 177 10) 1)))), (2, vi (ptz ((pt1 ((pt2 t2 17 (t2 177 10))) (t2 170 7))))), (0, .ref 170), (1, vi x1)]) (st2 := [.ref 170]) 2 (fun _ _ => rfl) ?_
    refine pr_m1 (args := []) (rest := []) rfl rfl rfl rfl (Nat.le_of_ble_eq_true rfl) rfl (h_123 s15 ((pt1 (up2 ((pt1 ((pt1 ((pt1 ((pt2 t2 17 (t2 177 10))) (t2 170 7))) 18)) (t2 177 10))) 177 10 (ipl (t2 177 10) 1)) 0))  hE15 ) ?_
    rintro _ _ t16 s16 ⟨rfl, rfl⟩ hE16
    show pr K K d tb_M154 85 [(3, vi (ptz (up2 ((pt1 ((pt1 ((pt1 ((pt2 t2 17 (t2 177 10))) (t2 170 7))) 18)) (t2 177 10))) 177 10 (ipl (t2 177 10) 1)))), (2, vi (ptz ((pt1 ((pt2 t2 17 (t2 177 10))) (t2 170 7))))), (0, .ref 170), (1, vi x1)] [] s16 _
    refine pr_n (pc2 := 88) (lv2 := [(3, vi (ptz (up2 ((pt1 ((pt1 ((pt1 ((pt2 t2 17 (t2 177 10))) (t2 170 7))) 18)) (t2 177 10))) 177 10 (ipl (t2 177 10) 1)))), (2, vi (ptz ((pt1 ((pt2 t2 17 (t2 177 10))) (t2 170 7))))), (0, .ref 170), (1, vi x1)]) (st2 := [vi 1, vi x1, .ref 170]) 3 (fun _ _ => rfl) ?_
    refine pr_i2 (a := x1) (b := 1) rfl rfl ?_
    show pr K K d tb_M154 89 [(3, vi (ptz (up2 ((pt1 ((pt1 ((pt1 ((pt2 t2 17 (t2 177 10))) (t2 170 7))) 18)) (t2 177 10))) 177 10 (ipl (t2 177 10) 1)))), (2, vi (ptz ((pt1 ((pt2 t2 17 (t2 177 10))) (t2 170 7))))), (0, .ref 170), (1, vi x1)] [vi (ipl x1 1), .ref 170] s16 _
    have h17 : i32 (ipl x1 1) := i32_in _
    refine pr_m1 (args := [vi (ipl x1 1)]) (rest := []) rfl rfl rfl rfl (Nat.le_of_ble_eq_true rfl) rfl (h_141 s16 t16 (ipl x1 1) hE16 h17) ?_
    rintro _ z18 t18 s18 ⟨rfl, hz18⟩ hE18
    show pr K K d tb_M154 92 [(3, vi (ptz (up2 ((pt1 ((pt1 ((pt1 ((pt2 t2 17 (t2 177 10))) (t2 170 7))) 18)) (t2 177 10))) 177 10 (ipl (t2 177 10) 1)))), (2, vi (ptz ((pt1 ((pt2 t2 17 (t2 177 10))) (t2 170 7))))), (0, .ref 170), (1, vi x1)] [vi z18] s18 _
    by_cases h19 : z18 ≠ 0
    · refine mq_t h19 ?_
      refine pr_if1t rfl rfl (i32_z hz18) h19 ?_
      refine pr_n (pc2 := 101) (lv2 := [(3, vi (ptz (up2 ((pt1 ((pt1 ((pt1 ((pt2 t2 17 (t2 177 10))) (t2 170 7))) 18)) (t2 177 10))) 177 10 (ipl (t2 177 10) 1)))), (2, vi (ptz ((pt1 ((pt2 t2 17 (t2 177 10))) (t2 170 7))))), (0, .ref 170), (1, vi x1)]) (st2 := [vi (ptz ((pt1 ((pt2 t2 17 (t2 177 10))) (t2 170 7)))), vi 9, .ref 170]) 3 (fun _ _ => rfl) ?_
      refine pr_s1 (args := [vi 9, vi (ptz ((pt1 ((pt2 t2 17 (t2 177 10))) (t2 170 7))))]) (rest := []) rfl rfl rfl rfl (Nat.le_of_ble_eq_true rfl) rfl (h_147 s18 t18 9 (ptz ((pt1 ((pt2 t2 17 (t2 177 10))) (t2 170 7)))) hE18 (i32_n rfl) hz9) q_pt2 ?_
      rintro _ s20 ⟨rfl, _⟩ hE20
      show pr K K d tb_M154 104 [(3, vi (ptz (up2 ((pt1 ((pt1 ((pt1 ((pt2 t2 17 (t2 177 10))) (t2 170 7))) 18)) (t2 177 10))) 177 10 (ipl (t2 177 10) 1)))), (2, vi (ptz ((pt1 ((pt2 t2 17 (t2 177 10))) (t2 170 7))))), (0, .ref 170), (1, vi x1)] [] s20 _
      refine pr_n (pc2 := 105) (lv2 := [(3, vi (ptz (up2 ((pt1 ((pt1 ((pt1 ((pt2 t2 17 (t2 177 10))) (t2 170 7))) 18)) (t2 177 10))) 177 10 (ipl (t2 177 10) 1)))), (2, vi (ptz ((pt1 ((pt2 t2 17 (t2 177 10))) (t2 170 7))))), (0, .ref 170), (1, vi x1)]) (st2 := [.ref 170]) 1 (fun _ _ => rfl) ?_
      refine pr_get (v := .ref C) rfl rfl rfl (by decide) (rv_ref (show s20.1 170 19 = ((C : Nat) : Int) from hE20.2.2.1)) fun _ => ?_
      refine pr_get (v := .ref (C + 1)) rfl rfl (TG_C hC) (by decide) (rv_ref (hE20.2.1 C 0 (C + 1) (rc_C0 hC))) fun _ => ?_
      refine pr_n (pc2 := 113) (lv2 := [(3, vi (ptz (up2 ((pt1 ((pt1 ((pt1 ((pt2 t2 17 (t2 177 10))) (t2 170 7))) 18)) (t2 177 10))) 177 10 (ipl (t2 177 10) 1)))), (2, vi (ptz ((pt1 ((pt2 t2 17 (t2 177 10))) (t2 170 7))))), (0, .ref 170), (1, vi x1)]) (st2 := [.ref 170, vi (ptz (up2 ((pt1 ((pt1 ((pt1 ((pt2 t2 17 (t2 177 10))) (t2 170 7))) 18)) (t2 177 10))) 177 10 (ipl (t2 177 10) 1))), .ref (C + 1)]) 2 (fun _ _ => rfl) ?_
      refine pr_get (v := .ref C) rfl rfl rfl (by decide) (rv_ref (show s20.1 170 19 = ((C : Nat) : Int) from hE20.2.2.1)) fun _ => ?_
      refine pr_gE (k2 := 177) (v := vi ((pt2 t18 9 (ptz ((pt1 ((pt2 t2 17 (t2 177 10))) (t2 170 7))))) 177 1)) hE20 rfl rfl (TG_C hC) (by decide) rfl rfl rfl fun h21 => ?_
      have h21 : i32 ((pt2 t18 9 (ptz ((pt1 ((pt2 t2 17 (t2 177 10))) (t2 170 7))))) 177 1) := h21
      refine pr_sE (k2 := 178) (a := ptz (up2 ((pt1 ((pt1 ((pt1 ((pt2 t2 17 (t2 177 10))) (t2 170 7))) 18)) (t2 177 10))) 177 10 (ipl (t2 177 10) 1))) (z := (pt2 t18 9 (ptz ((pt1 ((pt2 t2 17 (t2 177 10))) (t2 170 7))))) 177 1) hE20 rfl (show 96 ≤ C + 1 by omega) (TG_C1 hC) rfl hz15 (by decide) rfl (show i32 ((pt2 t18 9 (ptz ((pt1 ((pt2 t2 17 (t2 177 10))) (t2 170 7))))) 177 1) from h21) (nD1 hC (by omega)) rfl rfl (fun e => absurd e.1 (show ¬ (C + 1 = 170) by omega)) (fun _ => trivial) fun h22 h23 s24 hE24 => ?_
      refine pr_n (pc2 := 121) (lv2 := [(3, vi (ptz (up2 ((pt1 ((pt1 ((pt1 ((pt2 t2 17 (t2 177 10))) (t2 170 7))) 18)) (t2 177 10))) 177 10 (ipl (t2 177 10) 1)))), (2, vi (ptz ((pt1 ((pt2 t2 17 (t2 177 10))) (t2 170 7))))), (0, .ref 170), (1, vi x1)]) (st2 := [vi 1]) 1 (fun _ _ => rfl) ?_
      refine pr_end (fun _ _ => rfl) ?_
      exact .inl ⟨_, 1, _, rfl, ⟨rfl, (by decide)⟩, rfl, hE24⟩
    · refine mq_f h19 ?_
      refine pr_if1f rfl rfl (i32_z hz18) h19 ?_
      refine pr_n (pc2 := 96) (lv2 := [(3, vi (ptz (up2 ((pt1 ((pt1 ((pt1 ((pt2 t2 17 (t2 177 10))) (t2 170 7))) 18)) (t2 177 10))) 177 10 (ipl (t2 177 10) 1)))), (2, vi (ptz ((pt1 ((pt2 t2 17 (t2 177 10))) (t2 170 7))))), (0, .ref 170), (1, vi x1)]) (st2 := [vi 0]) 1 (fun _ _ => rfl) ?_
      refine pr_end (fun _ _ => rfl) ?_
      exact .inl ⟨_, 0, _, rfl, ⟨rfl, (by decide)⟩, rfl, hE18⟩
  · refine mq_f h4 ?_
    refine pr_if2f rfl rfl h3 (i32_n rfl) h4 ?_
    refine pr_n (pc2 := 17) (lv2 := [(0, .ref 170), (1, vi x1)]) (st2 := [.ref 170]) 1 (fun _ _ => rfl) ?_
    refine pr_s1 (args := []) (rest := []) rfl rfl rfl rfl (Nat.le_of_ble_eq_true rfl) rfl (h_131 s2 t2  hE2 ) q_bad0 ?_
    rintro _ s25 ⟨rfl, hz25⟩ hE25
    show pr K K d tb_M154 20 [(0, .ref 170), (1, vi x1)] [vi 0] s25 _
    refine pr_end (fun _ _ => rfl) ?_
    exact .inl ⟨_, 0, _, rfl, ⟨rfl, (by decide)⟩, rfl, hE25⟩
set_option maxHeartbeats 20000000 in
set_option maxRecDepth 100000 in
theorem ru155_0 {N K d C : Nat} (h_123 : rT123 K d C) (h_127 : rT127 K d C) (h_131 : rT131 K d C) (h_136 : rT136 K d C) (h_138 : rT138 K d C) (h_140 : rT140 K d C) (h_141 : rT141 K d C) (h_142 : rT142 K d C) (ih : ∀ N2, N2 < N → rA155 N2 K d C) : rU155_0 N K d C := by
  intro s t y6 y5 y4 y3 y2 y1 hE hy6 hy5 hy4 hy3 hy2 hy1
  have hC : C = 177 ∨ C = 186 := hE.1
  rw [rG_155_53]
  unfold rM155_53
  refine pr_lt (pc2 := 55) (lv2 := [(6, vi y6), (5, vi y5), (4, vi y4), (3, vi y3), (2, vi y2), (0, .ref 170), (1, vi y1)]) (st2 := [vi y6]) (fun _ _ => rfl) fun N2 hN2 => ?_
  refine pr_n (pc2 := 57) (lv2 := [(6, vi y6), (5, vi y5), (4, vi y4), (3, vi y3), (2, vi y2), (0, .ref 170), (1, vi y1)]) (st2 := [vi 6, vi y6]) 1 (fun _ _ => rfl) ?_
  by_cases h1 : 6 ≤ y6
  · refine mq_t h1 ?_
    refine pr_if2t rfl rfl hy6 (i32_n rfl) h1 ?_
    refine pr_n (pc2 := 75) (lv2 := [(6, vi y6), (5, vi y5), (4, vi y4), (3, vi y3), (2, vi y2), (0, .ref 170), (1, vi y1)]) (st2 := [vi 9, .ref 170]) 2 (fun _ _ => rfl) ?_
    refine pr_s1 (args := [vi 9]) (rest := []) rfl rfl rfl rfl (Nat.le_of_ble_eq_true rfl) rfl (h_140 s t 9 hE (i32_n rfl)) q_put1 ?_
    rintro _ s2 ⟨rfl, hz2⟩ hE2
    show pr N2 K d tb_M155 78 [(6, vi y6), (5, vi y5), (4, vi y4), (3, vi y3), (2, vi y2), (0, .ref 170), (1, vi y1)] [vi (ptz t)] s2 _
    refine pr_n (pc2 := 81) (lv2 := [(6, vi y6), (5, vi y5), (4, vi y4), (3, vi y3), (2, vi y2), (0, .ref 170), (1, vi y1)]) (st2 := [vi 0, .ref 170]) 3 (fun _ _ => rfl) ?_
    refine pr_s1 (args := [vi 0]) (rest := []) rfl rfl rfl rfl (Nat.le_of_ble_eq_true rfl) rfl (h_140 s2 ((pt1 t 9)) 0 hE2 (i32_n rfl)) q_put1 ?_
    rintro _ s3 ⟨rfl, hz3⟩ hE3
    show pr N2 K d tb_M155 84 [(6, vi y6), (5, vi y5), (4, vi y4), (3, vi y3), (2, vi y2), (0, .ref 170), (1, vi y1)] [vi (ptz ((pt1 t 9)))] s3 _
    refine pr_n (pc2 := 87) (lv2 := [(6, vi (ptz ((pt1 t 9)))), (5, vi y5), (4, vi y4), (3, vi y3), (2, vi y2), (0, .ref 170), (1, vi y1)]) (st2 := [.ref 170]) 2 (fun _ _ => rfl) ?_
    refine pr_gE (k2 := 170) (v := vl (t 170 22)) hE3 rfl rfl rfl (by decide) rfl rfl rfl fun h4 => ?_
    have h4 : i64 (t 170 22) := h4
    refine pr_n (pc2 := 93) (lv2 := [(7, vl (t 170 22)), (6, vi (ptz ((pt1 t 9)))), (5, vi y5), (4, vi y4), (3, vi y3), (2, vi y2), (0, .ref 170), (1, vi y1)]) (st2 := [.ref 170]) 2 (fun _ _ => rfl) ?_
    refine pr_gE (k2 := 170) (v := vl (t 170 23)) hE3 rfl rfl rfl (by decide) rfl rfl rfl fun h5 => ?_
    have h5 : i64 (t 170 23) := h5
    refine pr_n (pc2 := 99) (lv2 := [(9, vl (t 170 23)), (7, vl (t 170 22)), (6, vi (ptz ((pt1 t 9)))), (5, vi y5), (4, vi y4), (3, vi y3), (2, vi y2), (0, .ref 170), (1, vi y1)]) (st2 := [.ref 170]) 2 (fun _ _ => rfl) ?_
    refine pr_gE (k2 := 170) (v := vl (t 170 24)) hE3 rfl rfl rfl (by decide) rfl rfl rfl fun h6 => ?_
    have h6 : i64 (t 170 24) := h6
    refine pr_n (pc2 := 105) (lv2 := [(11, vl (t 170 24)), (9, vl (t 170 23)), (7, vl (t 170 22)), (6, vi (ptz ((pt1 t 9)))), (5, vi y5), (4, vi y4), (3, vi y3), (2, vi y2), (0, .ref 170), (1, vi y1)]) (st2 := [.ref 170]) 2 (fun _ _ => rfl) ?_
    refine pr_gE (k2 := 170) (v := vl (t 170 25)) hE3 rfl rfl rfl (by decide) rfl rfl rfl fun h7 => ?_
    have h7 : i64 (t 170 25) := h7
    refine pr_n (pc2 := 111) (lv2 := [(13, vl (t 170 25)), (11, vl (t 170 24)), (9, vl (t 170 23)), (7, vl (t 170 22)), (6, vi (ptz ((pt1 t 9)))), (5, vi y5), (4, vi y4), (3, vi y3), (2, vi y2), (0, .ref 170), (1, vi y1)]) (st2 := [.ref 170]) 2 (fun _ _ => rfl) ?_
    refine pr_gE (k2 := 170) (v := vl (t 170 26)) hE3 rfl rfl rfl (by decide) rfl rfl rfl fun h8 => ?_
    have h8 : i64 (t 170 26) := h8
    refine pr_n (pc2 := 134) (lv2 := [(27, vi 0), (25, vl 0), (23, vl 0), (21, vl 0), (19, vl 0), (17, vl 0), (15, vl (t 170 26)), (13, vl (t 170 25)), (11, vl (t 170 24)), (9, vl (t 170 23)), (7, vl (t 170 22)), (6, vi (ptz ((pt1 t 9)))), (5, vi y5), (4, vi y4), (3, vi y3), (2, vi y2), (0, .ref 170), (1, vi y1)]) (st2 := []) 13 (fun _ _ => rfl) ?_
    exact ((ih N2 hN2).2.1) s3 ((pt1 ((pt1 t 9)) 0)) 0 0 0 0 0 0 (t 170 26) (t 170 25) (t 170 24) (t 170 23) (t 170 22) (ptz ((pt1 t 9))) y5 y4 y3 y2 y1 hE3 (i32_n rfl) (i64_n rfl) (i64_n rfl) (i64_n rfl) (i64_n rfl) (i64_n rfl) h8 h7 h6 h5 h4 hz3 hy5 hy4 hy3 hy2 hy1
  · refine mq_f h1 ?_
    refine pr_if2f rfl rfl hy6 (i32_n rfl) h1 ?_
    refine pr_n (pc2 := 62) (lv2 := [(6, vi y6), (5, vi y5), (4, vi y4), (3, vi y3), (2, vi y2), (0, .ref 170), (1, vi y1)]) (st2 := [vi 0, .ref 170]) 2 (fun _ _ => rfl) ?_
    refine pr_s1 (args := [vi 0]) (rest := []) rfl rfl rfl rfl (Nat.le_of_ble_eq_true rfl) rfl (h_140 s t 0 hE (i32_n rfl)) q_put1 ?_
    rintro _ s9 ⟨rfl, hz9⟩ hE9
    show pr N2 K d tb_M155 65 [(6, vi y6), (5, vi y5), (4, vi y4), (3, vi y3), (2, vi y2), (0, .ref 170), (1, vi y1)] [vi (ptz t)] s9 _
    refine pr_n (pc2 := 66) (lv2 := [(6, vi y6), (5, vi y5), (4, vi y4), (3, vi y3), (2, vi y2), (0, .ref 170), (1, vi y1)]) (st2 := []) 1 (fun _ _ => rfl) ?_
    refine pr_inc (a := y6) rfl rfl ?_
    have h10 : i32 (y6 + 1) := by unfold i32 at *; omega
    show pr N2 K d tb_M155 69 [(6, vi (y6 + 1)), (5, vi y5), (4, vi y4), (3, vi y3), (2, vi y2), (0, .ref 170), (1, vi y1)] [] s9 _
    refine pr_n (pc2 := 53) (lv2 := [(6, vi (y6 + 1)), (5, vi y5), (4, vi y4), (3, vi y3), (2, vi y2), (0, .ref 170), (1, vi y1)]) (st2 := []) 1 (fun _ _ => rfl) ?_
    exact ((ih N2 hN2).1) s9 ((pt1 t 0)) (y6 + 1) y5 y4 y3 y2 y1 hE9 h10 hy5 hy4 hy3 hy2 hy1
set_option maxHeartbeats 20000000 in
set_option maxRecDepth 100000 in
theorem ru155_1 {N K d C : Nat} (h_123 : rT123 K d C) (h_127 : rT127 K d C) (h_131 : rT131 K d C) (h_136 : rT136 K d C) (h_138 : rT138 K d C) (h_140 : rT140 K d C) (h_141 : rT141 K d C) (h_142 : rT142 K d C) (ih : ∀ N2, N2 < N → rA155 N2 K d C) : rU155_1 N K d C := by
  intro s t y27 y25 y23 y21 y19 y17 y15 y13 y11 y9 y7 y6 y5 y4 y3 y2 y1 hE hy27 hy25 hy23 hy21 hy19 hy17 hy15 hy13 hy11 hy9 hy7 hy6 hy5 hy4 hy3 hy2 hy1
  have hC : C = 177 ∨ C = 186 := hE.1
  rw [rG_155_134]
  unfold rM155_134
  refine pr_lt (pc2 := 136) (lv2 := [(27, vi y27), (25, vl y25), (23, vl y23), (21, vl y21), (19, vl y19), (17, vl y17), (15, vl y15), (13, vl y13), (11, vl y11), (9, vl y9), (7, vl y7), (6, vi y6), (5, vi y5), (4, vi y4), (3, vi y3), (2, vi y2), (0, .ref 170), (1, vi y1)]) (st2 := [vi y5]) (fun _ _ => rfl) fun N2 hN2 => ?_
  refine pr_n (pc2 := 138) (lv2 := [(27, vi y27), (25, vl y25), (23, vl y23), (21, vl y21), (19, vl y19), (17, vl y17), (15, vl y15), (13, vl y13), (11, vl y11), (9, vl y9), (7, vl y7), (6, vi y6), (5, vi y5), (4, vi y4), (3, vi y3), (2, vi y2), (0, .ref 170), (1, vi y1)]) (st2 := [vi 6, vi y5]) 1 (fun _ _ => rfl) ?_
  by_cases h1 : y5 ≠ 6
  · refine mq_t h1 ?_
    refine pr_if2t rfl rfl hy5 (i32_n rfl) h1 ?_
    refine pr_n (pc2 := 148) (lv2 := [(27, vi y27), (25, vl y25), (23, vl y23), (21, vl y21), (19, vl y19), (17, vl y17), (15, vl y15), (13, vl y13), (11, vl y11), (9, vl y9), (7, vl y7), (6, vi y6), (5, vi y5), (4, vi y4), (3, vi y3), (2, vi y2), (0, .ref 170), (1, vi y1)]) (st2 := [vi y5]) 1 (fun _ _ => rfl) ?_
    by_cases h2 : y5 ≤ 0
    · refine mq_t h2 ?_
      refine pr_if1t rfl rfl hy5 h2 ?_
      refine pr_n (pc2 := 156) (lv2 := [(27, vi y27), (25, vl y25), (23, vl y23), (21, vl y21), (19, vl y19), (17, vl y17), (15, vl y15), (13, vl y13), (11, vl y11), (9, vl y9), (7, vl y7), (6, vi y6), (5, vi y5), (4, vi y4), (3, vi y3), (2, vi y2), (0, .ref 170), (1, vi y1)]) (st2 := [.ref 170]) 1 (fun _ _ => rfl) ?_
      refine pr_s1 (args := []) (rest := []) rfl rfl rfl rfl (Nat.le_of_ble_eq_true rfl) rfl (h_138 s t  hE ) q_rfg ?_
      rintro _ s3 ⟨rfl, _⟩ hE3
      show pr N2 K d tb_M155 159 [(27, vi y27), (25, vl y25), (23, vl y23), (21, vl y21), (19, vl y19), (17, vl y17), (15, vl y15), (13, vl y13), (11, vl y11), (9, vl y9), (7, vl y7), (6, vi y6), (5, vi y5), (4, vi y4), (3, vi y3), (2, vi y2), (0, .ref 170), (1, vi y1)] [] s3 _
      refine pr_n (pc2 := 160) (lv2 := [(27, vi y27), (25, vl y25), (23, vl y23), (21, vl y21), (19, vl y19), (17, vl y17), (15, vl y15), (13, vl y13), (11, vl y11), (9, vl y9), (7, vl y7), (6, vi y6), (5, vi y5), (4, vi y4), (3, vi y3), (2, vi y2), (0, .ref 170), (1, vi y1)]) (st2 := [.ref 170]) 1 (fun _ _ => rfl) ?_
      refine pr_get (v := .ref C) rfl rfl rfl (by decide) (rv_ref (show s3.1 170 19 = ((C : Nat) : Int) from hE3.2.2.1)) fun _ => ?_
      refine pr_get (v := .ref (C + 1)) rfl rfl (TG_C hC) (by decide) (rv_ref (hE3.2.1 C 0 (C + 1) (rc_C0 hC))) fun _ => ?_
      refine pr_n (pc2 := 170) (lv2 := [(27, vi y27), (25, vl y25), (23, vl y23), (21, vl y21), (19, vl y19), (17, vl y17), (15, vl y15), (13, vl y13), (11, vl y11), (9, vl y9), (7, vl y7), (6, vi y6), (5, vi y5), (4, vi y4), (3, vi y3), (2, vi y2), (0, .ref 170), (1, vi y1)]) (st2 := [vi y5, vi y4, .ref (C + 1)]) 2 (fun _ _ => rfl) ?_
      refine pr_i2 (a := y4) (b := y5) rfl rfl ?_
      show pr N2 K d tb_M155 171 [(27, vi y27), (25, vl y25), (23, vl y23), (21, vl y21), (19, vl y19), (17, vl y17), (15, vl y15), (13, vl y13), (11, vl y11), (9, vl y9), (7, vl y7), (6, vi y6), (5, vi y5), (4, vi y4), (3, vi y3), (2, vi y2), (0, .ref 170), (1, vi y1)] [vi (ipl y4 y5), .ref (C + 1)] s3 _
      have h4 : i32 (ipl y4 y5) := i32_in _
      refine pr_n (pc2 := 172) (lv2 := [(27, vi y27), (25, vl y25), (23, vl y23), (21, vl y21), (19, vl y19), (17, vl y17), (15, vl y15), (13, vl y13), (11, vl y11), (9, vl y9), (7, vl y7), (6, vi y6), (5, vi y5), (4, vi y4), (3, vi y3), (2, vi y2), (0, .ref 170), (1, vi y1)]) (st2 := [.ref 170, vi (ipl y4 y5), .ref (C + 1)]) 1 (fun _ _ => rfl) ?_
      refine pr_get (v := .ref C) rfl rfl rfl (by decide) (rv_ref (show s3.1 170 19 = ((C : Nat) : Int) from hE3.2.2.1)) fun _ => ?_
      refine pr_gE (k2 := 177) (v := vi ((rfg t) 177 1)) hE3 rfl rfl (TG_C hC) (by decide) rfl rfl rfl fun h5 => ?_
      have h5 : i32 ((rfg t) 177 1) := h5
      refine pr_sE (k2 := 178) (a := ipl y4 y5) (z := (rfg t) 177 1) hE3 rfl (show 96 ≤ C + 1 by omega) (TG_C1 hC) rfl h4 (by decide) rfl (show i32 ((rfg t) 177 1) from h5) (nD1 hC (by omega)) rfl rfl (fun e => absurd e.1 (show ¬ (C + 1 = 170) by omega)) (fun _ => trivial) fun h6 h7 s8 hE8 => ?_
      refine pr_n (pc2 := 182) (lv2 := [(27, vi y27), (25, vl y25), (23, vl y23), (21, vl y21), (19, vl y19), (17, vl y17), (15, vl y15), (13, vl y13), (11, vl y11), (9, vl y9), (7, vl y7), (6, vi y6), (5, vi y5), (4, vi y4), (3, vi y3), (2, vi y2), (0, .ref 170), (1, vi y1)]) (st2 := [vi 1, vi y1, .ref 170]) 3 (fun _ _ => rfl) ?_
      refine pr_i2 (a := y1) (b := 1) rfl rfl ?_
      show pr N2 K d tb_M155 183 [(27, vi y27), (25, vl y25), (23, vl y23), (21, vl y21), (19, vl y19), (17, vl y17), (15, vl y15), (13, vl y13), (11, vl y11), (9, vl y9), (7, vl y7), (6, vi y6), (5, vi y5), (4, vi y4), (3, vi y3), (2, vi y2), (0, .ref 170), (1, vi y1)] [vi (ipl y1 1), .ref 170] s8 _
      have h9 : i32 (ipl y1 1) := i32_in _
      refine pr_m1 (args := [vi (ipl y1 1)]) (rest := []) rfl rfl rfl rfl (Nat.le_of_ble_eq_true rfl) rfl (h_141 s8 (up2 ((rfg t)) 178 ((ipl y4 y5).toNat) ((rfg t) 177 1)) (ipl y1 1) hE8 h9) ?_
      rintro _ z10 t10 s10 ⟨rfl, hz10⟩ hE10
      show pr N2 K d tb_M155 186 [(27, vi y27), (25, vl y25), (23, vl y23), (21, vl y21), (19, vl y19), (17, vl y17), (15, vl y15), (13, vl y13), (11, vl y11), (9, vl y9), (7, vl y7), (6, vi y6), (5, vi y5), (4, vi y4), (3, vi y3), (2, vi y2), (0, .ref 170), (1, vi y1)] [vi z10] s10 _
      by_cases h11 : z10 ≠ 0
      · refine mq_t h11 ?_
        refine pr_if1t rfl rfl (i32_z hz10) h11 ?_
        refine pr_n (pc2 := 194) (lv2 := [(27, vi y27), (25, vl y25), (23, vl y23), (21, vl y21), (19, vl y19), (17, vl y17), (15, vl y15), (13, vl y13), (11, vl y11), (9, vl y9), (7, vl y7), (6, vi y6), (5, vi y5), (4, vi y4), (3, vi y3), (2, vi y2), (0, .ref 170), (1, vi y1)]) (st2 := [vi 20, .ref 170]) 2 (fun _ _ => rfl) ?_
        refine pr_s1 (args := [vi 20]) (rest := []) rfl rfl rfl rfl (Nat.le_of_ble_eq_true rfl) rfl (h_140 s10 t10 20 hE10 (i32_n rfl)) q_put1 ?_
        rintro _ s12 ⟨rfl, hz12⟩ hE12
        show pr N2 K d tb_M155 197 [(27, vi y27), (25, vl y25), (23, vl y23), (21, vl y21), (19, vl y19), (17, vl y17), (15, vl y15), (13, vl y13), (11, vl y11), (9, vl y9), (7, vl y7), (6, vi y6), (5, vi y5), (4, vi y4), (3, vi y3), (2, vi y2), (0, .ref 170), (1, vi y1)] [vi (ptz t10)] s12 _
        refine pr_n (pc2 := 203) (lv2 := [(27, vi y27), (25, vl y25), (23, vl y23), (21, vl y21), (19, vl y19), (17, vl y17), (15, vl y15), (13, vl y13), (11, vl y11), (9, vl y9), (7, vl y7), (6, vi y6), (5, vi y5), (4, vi y4), (3, vi y3), (2, vi y2), (0, .ref 170), (1, vi y1)]) (st2 := [.ref 170, vl y17, vi y27]) 4 (fun _ _ => rfl) ?_
        refine pr_gE (k2 := 170) (v := vl (t10 170 23)) hE12 rfl rfl rfl (by decide) rfl rfl rfl fun h13 => ?_
        have h13 : i64 (t10 170 23) := h13
        refine pr_n (pc2 := 207) (lv2 := [(27, vi y27), (25, vl y25), (23, vl y23), (21, vl y21), (19, vl y19), (17, vl y17), (15, vl y15), (13, vl y13), (11, vl y11), (9, vl y9), (7, vl y7), (6, vi y6), (5, vi y5), (4, vi y4), (3, vi y3), (2, vi y2), (0, .ref 170), (1, vi y1)]) (st2 := [.ref 170, vl (t10 170 23), vl y17, vi y27]) 1 (fun _ _ => rfl) ?_
        refine pr_gE (k2 := 170) (v := vl (t10 170 22)) hE12 rfl rfl rfl (by decide) rfl rfl rfl fun h14 => ?_
        have h14 : i64 (t10 170 22) := h14
        refine pr_l2 (a := t10 170 23) (b := t10 170 22) rfl rfl ?_
        show pr N2 K d tb_M155 211 [(27, vi y27), (25, vl y25), (23, vl y23), (21, vl y21), (19, vl y19), (17, vl y17), (15, vl y15), (13, vl y13), (11, vl y11), (9, vl y9), (7, vl y7), (6, vi y6), (5, vi y5), (4, vi y4), (3, vi y3), (2, vi y2), (0, .ref 170), (1, vi y1)] [vl (lo (t10 170 23) (t10 170 22)), vl y17, vi y27] s12 _
        refine pr_l2 (a := y17) (b := lo (t10 170 23) (t10 170 22)) rfl rfl ?_
        show pr N2 K d tb_M155 212 [(27, vi y27), (25, vl y25), (23, vl y23), (21, vl y21), (19, vl y19), (17, vl y17), (15, vl y15), (13, vl y13), (11, vl y11), (9, vl y9), (7, vl y7), (6, vi y6), (5, vi y5), (4, vi y4), (3, vi y3), (2, vi y2), (0, .ref 170), (1, vi y1)] [vl (la y17 (lo (t10 170 23) (t10 170 22))), vi y27] s12 _
        refine pr_n (pc2 := 213) (lv2 := [(27, vi y27), (25, vl y25), (23, vl y23), (21, vl y21), (19, vl y19), (17, vl y17), (15, vl y15), (13, vl y13), (11, vl y11), (9, vl y9), (7, vl y7), (6, vi y6), (5, vi y5), (4, vi y4), (3, vi y3), (2, vi y2), (0, .ref 170), (1, vi y1)]) (st2 := [vl 0, vl (la y17 (lo (t10 170 23) (t10 170 22))), vi y27]) 1 (fun _ _ => rfl) ?_
        refine pr_lcmp (a := la y17 (lo (t10 170 23) (t10 170 22))) (b := 0) rfl (i64_in _) (i64_n rfl) ?_
        by_cases h15 : la y17 (lo (t10 170 23) (t10 170 22)) ≠ 0
        · refine mq_t h15 ?_
          refine pr_if1t rfl rfl lc_i32 (lc_ne.mpr h15) ?_
          refine pr_n (pc2 := 273) (lv2 := [(27, vi y27), (25, vl y25), (23, vl y23), (21, vl y21), (19, vl y19), (17, vl y17), (15, vl y15), (13, vl y13), (11, vl y11), (9, vl y9), (7, vl y7), (6, vi y6), (5, vi y5), (4, vi y4), (3, vi y3), (2, vi y2), (0, .ref 170), (1, vi y1)]) (st2 := [vi 1, vi y27]) 2 (fun _ _ => rfl) ?_
          exact ((ih N2 hN2).2.2.1) s12 ((pt1 t10 20)) y27 y25 y23 y21 y19 y17 y15 y13 y11 y9 y7 y6 y5 y4 y3 y2 y1 1 y27 hE12 hy27 hy25 hy23 hy21 hy19 hy17 hy15 hy13 hy11 hy9 hy7 hy6 hy5 hy4 hy3 hy2 hy1 (i32_n rfl) hy27
        · refine mq_f h15 ?_
          refine pr_if1f rfl rfl lc_i32 (fun e => h15 (lc_ne.mp e)) ?_
          refine pr_n (pc2 := 218) (lv2 := [(27, vi y27), (25, vl y25), (23, vl y23), (21, vl y21), (19, vl y19), (17, vl y17), (15, vl y15), (13, vl y13), (11, vl y11), (9, vl y9), (7, vl y7), (6, vi y6), (5, vi y5), (4, vi y4), (3, vi y3), (2, vi y2), (0, .ref 170), (1, vi y1)]) (st2 := [.ref 170, vi y27]) 1 (fun _ _ => rfl) ?_
          refine pr_gE (k2 := 170) (v := vl (t10 170 22)) hE12 rfl rfl rfl (by decide) rfl rfl rfl fun h16 => ?_
          have h16 : i64 (t10 170 22) := h16
          refine pr_n (pc2 := 225) (lv2 := [(27, vi y27), (25, vl y25), (23, vl y23), (21, vl y21), (19, vl y19), (17, vl y17), (15, vl y15), (13, vl y13), (11, vl y11), (9, vl y9), (7, vl y7), (6, vi y6), (5, vi y5), (4, vi y4), (3, vi y3), (2, vi y2), (0, .ref 170), (1, vi y1)]) (st2 := [vl y17, vl y19, vl (t10 170 22), vi y27]) 2 (fun _ _ => rfl) ?_
          refine pr_l2 (a := y19) (b := y17) rfl rfl ?_
          show pr N2 K d tb_M155 226 [(27, vi y27), (25, vl y25), (23, vl y23), (21, vl y21), (19, vl y19), (17, vl y17), (15, vl y15), (13, vl y13), (11, vl y11), (9, vl y9), (7, vl y7), (6, vi y6), (5, vi y5), (4, vi y4), (3, vi y3), (2, vi y2), (0, .ref 170), (1, vi y1)] [vl (lo y19 y17), vl (t10 170 22), vi y27] s12 _
          refine pr_l2 (a := t10 170 22) (b := lo y19 y17) rfl rfl ?_
          show pr N2 K d tb_M155 227 [(27, vi y27), (25, vl y25), (23, vl y23), (21, vl y21), (19, vl y19), (17, vl y17), (15, vl y15), (13, vl y13), (11, vl y11), (9, vl y9), (7, vl y7), (6, vi y6), (5, vi y5), (4, vi y4), (3, vi y3), (2, vi y2), (0, .ref 170), (1, vi y1)] [vl (la (t10 170 22) (lo y19 y17)), vi y27] s12 _
          refine pr_n (pc2 := 228) (lv2 := [(27, vi y27), (25, vl y25), (23, vl y23), (21, vl y21), (19, vl y19), (17, vl y17), (15, vl y15), (13, vl y13), (11, vl y11), (9, vl y9), (7, vl y7), (6, vi y6), (5, vi y5), (4, vi y4), (3, vi y3), (2, vi y2), (0, .ref 170), (1, vi y1)]) (st2 := [vl 0, vl (la (t10 170 22) (lo y19 y17)), vi y27]) 1 (fun _ _ => rfl) ?_
          refine pr_lcmp (a := la (t10 170 22) (lo y19 y17)) (b := 0) rfl (i64_in _) (i64_n rfl) ?_
          by_cases h17 : la (t10 170 22) (lo y19 y17) ≠ 0
          · refine mq_t h17 ?_
            refine pr_if1t rfl rfl lc_i32 (lc_ne.mpr h17) ?_
            refine pr_n (pc2 := 273) (lv2 := [(27, vi y27), (25, vl y25), (23, vl y23), (21, vl y21), (19, vl y19), (17, vl y17), (15, vl y15), (13, vl y13), (11, vl y11), (9, vl y9), (7, vl y7), (6, vi y6), (5, vi y5), (4, vi y4), (3, vi y3), (2, vi y2), (0, .ref 170), (1, vi y1)]) (st2 := [vi 1, vi y27]) 2 (fun _ _ => rfl) ?_
            exact ((ih N2 hN2).2.2.1) s12 ((pt1 t10 20)) y27 y25 y23 y21 y19 y17 y15 y13 y11 y9 y7 y6 y5 y4 y3 y2 y1 1 y27 hE12 hy27 hy25 hy23 hy21 hy19 hy17 hy15 hy13 hy11 hy9 hy7 hy6 hy5 hy4 hy3 hy2 hy1 (i32_n rfl) hy27
          · refine mq_f h17 ?_
            refine pr_if1f rfl rfl lc_i32 (fun e => h17 (lc_ne.mp e)) ?_
            refine pr_n (pc2 := 235) (lv2 := [(27, vi y27), (25, vl y25), (23, vl y23), (21, vl y21), (19, vl y19), (17, vl y17), (15, vl y15), (13, vl y13), (11, vl y11), (9, vl y9), (7, vl y7), (6, vi y6), (5, vi y5), (4, vi y4), (3, vi y3), (2, vi y2), (0, .ref 170), (1, vi y1)]) (st2 := [.ref 170, vl y21, vi y27]) 2 (fun _ _ => rfl) ?_
            refine pr_gE (k2 := 170) (v := vl (t10 170 24)) hE12 rfl rfl rfl (by decide) rfl rfl rfl fun h18 => ?_
            have h18 : i64 (t10 170 24) := h18
            refine pr_l2 (a := y21) (b := t10 170 24) rfl rfl ?_
            show pr N2 K d tb_M155 239 [(27, vi y27), (25, vl y25), (23, vl y23), (21, vl y21), (19, vl y19), (17, vl y17), (15, vl y15), (13, vl y13), (11, vl y11), (9, vl y9), (7, vl y7), (6, vi y6), (5, vi y5), (4, vi y4), (3, vi y3), (2, vi y2), (0, .ref 170), (1, vi y1)] [vl (la y21 (t10 170 24)), vi y27] s12 _
            refine pr_n (pc2 := 240) (lv2 := [(27, vi y27), (25, vl y25), (23, vl y23), (21, vl y21), (19, vl y19), (17, vl y17), (15, vl y15), (13, vl y13), (11, vl y11), (9, vl y9), (7, vl y7), (6, vi y6), (5, vi y5), (4, vi y4), (3, vi y3), (2, vi y2), (0, .ref 170), (1, vi y1)]) (st2 := [vl 0, vl (la y21 (t10 170 24)), vi y27]) 1 (fun _ _ => rfl) ?_
            refine pr_lcmp (a := la y21 (t10 170 24)) (b := 0) rfl (i64_in _) (i64_n rfl) ?_
            by_cases h19 : la y21 (t10 170 24) ≠ 0
            · refine mq_t h19 ?_
              refine pr_if1t rfl rfl lc_i32 (lc_ne.mpr h19) ?_
              refine pr_n (pc2 := 273) (lv2 := [(27, vi y27), (25, vl y25), (23, vl y23), (21, vl y21), (19, vl y19), (17, vl y17), (15, vl y15), (13, vl y13), (11, vl y11), (9, vl y9), (7, vl y7), (6, vi y6), (5, vi y5), (4, vi y4), (3, vi y3), (2, vi y2), (0, .ref 170), (1, vi y1)]) (st2 := [vi 1, vi y27]) 2 (fun _ _ => rfl) ?_
              exact ((ih N2 hN2).2.2.1) s12 ((pt1 t10 20)) y27 y25 y23 y21 y19 y17 y15 y13 y11 y9 y7 y6 y5 y4 y3 y2 y1 1 y27 hE12 hy27 hy25 hy23 hy21 hy19 hy17 hy15 hy13 hy11 hy9 hy7 hy6 hy5 hy4 hy3 hy2 hy1 (i32_n rfl) hy27
            · refine mq_f h19 ?_
              refine pr_if1f rfl rfl lc_i32 (fun e => h19 (lc_ne.mp e)) ?_
              refine pr_n (pc2 := 247) (lv2 := [(27, vi y27), (25, vl y25), (23, vl y23), (21, vl y21), (19, vl y19), (17, vl y17), (15, vl y15), (13, vl y13), (11, vl y11), (9, vl y9), (7, vl y7), (6, vi y6), (5, vi y5), (4, vi y4), (3, vi y3), (2, vi y2), (0, .ref 170), (1, vi y1)]) (st2 := [.ref 170, vl y23, vi y27]) 2 (fun _ _ => rfl) ?_
              refine pr_gE (k2 := 170) (v := vl (t10 170 25)) hE12 rfl rfl rfl (by decide) rfl rfl rfl fun h20 => ?_
              have h20 : i64 (t10 170 25) := h20
              refine pr_l2 (a := y23) (b := t10 170 25) rfl rfl ?_
              show pr N2 K d tb_M155 251 [(27, vi y27), (25, vl y25), (23, vl y23), (21, vl y21), (19, vl y19), (17, vl y17), (15, vl y15), (13, vl y13), (11, vl y11), (9, vl y9), (7, vl y7), (6, vi y6), (5, vi y5), (4, vi y4), (3, vi y3), (2, vi y2), (0, .ref 170), (1, vi y1)] [vl (la y23 (t10 170 25)), vi y27] s12 _
              refine pr_n (pc2 := 252) (lv2 := [(27, vi y27), (25, vl y25), (23, vl y23), (21, vl y21), (19, vl y19), (17, vl y17), (15, vl y15), (13, vl y13), (11, vl y11), (9, vl y9), (7, vl y7), (6, vi y6), (5, vi y5), (4, vi y4), (3, vi y3), (2, vi y2), (0, .ref 170), (1, vi y1)]) (st2 := [vl 0, vl (la y23 (t10 170 25)), vi y27]) 1 (fun _ _ => rfl) ?_
              refine pr_lcmp (a := la y23 (t10 170 25)) (b := 0) rfl (i64_in _) (i64_n rfl) ?_
              by_cases h21 : la y23 (t10 170 25) ≠ 0
              · refine mq_t h21 ?_
                refine pr_if1t rfl rfl lc_i32 (lc_ne.mpr h21) ?_
                refine pr_n (pc2 := 273) (lv2 := [(27, vi y27), (25, vl y25), (23, vl y23), (21, vl y21), (19, vl y19), (17, vl y17), (15, vl y15), (13, vl y13), (11, vl y11), (9, vl y9), (7, vl y7), (6, vi y6), (5, vi y5), (4, vi y4), (3, vi y3), (2, vi y2), (0, .ref 170), (1, vi y1)]) (st2 := [vi 1, vi y27]) 2 (fun _ _ => rfl) ?_
                exact ((ih N2 hN2).2.2.1) s12 ((pt1 t10 20)) y27 y25 y23 y21 y19 y17 y15 y13 y11 y9 y7 y6 y5 y4 y3 y2 y1 1 y27 hE12 hy27 hy25 hy23 hy21 hy19 hy17 hy15 hy13 hy11 hy9 hy7 hy6 hy5 hy4 hy3 hy2 hy1 (i32_n rfl) hy27
              · refine mq_f h21 ?_
                refine pr_if1f rfl rfl lc_i32 (fun e => h21 (lc_ne.mp e)) ?_
                refine pr_n (pc2 := 259) (lv2 := [(27, vi y27), (25, vl y25), (23, vl y23), (21, vl y21), (19, vl y19), (17, vl y17), (15, vl y15), (13, vl y13), (11, vl y11), (9, vl y9), (7, vl y7), (6, vi y6), (5, vi y5), (4, vi y4), (3, vi y3), (2, vi y2), (0, .ref 170), (1, vi y1)]) (st2 := [.ref 170, vl y25, vi y27]) 2 (fun _ _ => rfl) ?_
                refine pr_gE (k2 := 170) (v := vl (t10 170 26)) hE12 rfl rfl rfl (by decide) rfl rfl rfl fun h22 => ?_
                have h22 : i64 (t10 170 26) := h22
                refine pr_l2 (a := y25) (b := t10 170 26) rfl rfl ?_
                show pr N2 K d tb_M155 263 [(27, vi y27), (25, vl y25), (23, vl y23), (21, vl y21), (19, vl y19), (17, vl y17), (15, vl y15), (13, vl y13), (11, vl y11), (9, vl y9), (7, vl y7), (6, vi y6), (5, vi y5), (4, vi y4), (3, vi y3), (2, vi y2), (0, .ref 170), (1, vi y1)] [vl (la y25 (t10 170 26)), vi y27] s12 _
                refine pr_n (pc2 := 264) (lv2 := [(27, vi y27), (25, vl y25), (23, vl y23), (21, vl y21), (19, vl y19), (17, vl y17), (15, vl y15), (13, vl y13), (11, vl y11), (9, vl y9), (7, vl y7), (6, vi y6), (5, vi y5), (4, vi y4), (3, vi y3), (2, vi y2), (0, .ref 170), (1, vi y1)]) (st2 := [vl 0, vl (la y25 (t10 170 26)), vi y27]) 1 (fun _ _ => rfl) ?_
                refine pr_lcmp (a := la y25 (t10 170 26)) (b := 0) rfl (i64_in _) (i64_n rfl) ?_
                by_cases h23 : la y25 (t10 170 26) = 0
                · refine mq_t h23 ?_
                  refine pr_if1t rfl rfl lc_i32 (lc_eq.mpr h23) ?_
                  refine pr_n (pc2 := 273) (lv2 := [(27, vi y27), (25, vl y25), (23, vl y23), (21, vl y21), (19, vl y19), (17, vl y17), (15, vl y15), (13, vl y13), (11, vl y11), (9, vl y9), (7, vl y7), (6, vi y6), (5, vi y5), (4, vi y4), (3, vi y3), (2, vi y2), (0, .ref 170), (1, vi y1)]) (st2 := [vi 0, vi y27]) 1 (fun _ _ => rfl) ?_
                  exact ((ih N2 hN2).2.2.1) s12 ((pt1 t10 20)) y27 y25 y23 y21 y19 y17 y15 y13 y11 y9 y7 y6 y5 y4 y3 y2 y1 0 y27 hE12 hy27 hy25 hy23 hy21 hy19 hy17 hy15 hy13 hy11 hy9 hy7 hy6 hy5 hy4 hy3 hy2 hy1 (i32_n rfl) hy27
                · refine mq_f h23 ?_
                  refine pr_if1f rfl rfl lc_i32 (fun e => h23 (lc_eq.mp e)) ?_
                  refine pr_n (pc2 := 273) (lv2 := [(27, vi y27), (25, vl y25), (23, vl y23), (21, vl y21), (19, vl y19), (17, vl y17), (15, vl y15), (13, vl y13), (11, vl y11), (9, vl y9), (7, vl y7), (6, vi y6), (5, vi y5), (4, vi y4), (3, vi y3), (2, vi y2), (0, .ref 170), (1, vi y1)]) (st2 := [vi 1, vi y27]) 2 (fun _ _ => rfl) ?_
                  exact ((ih N2 hN2).2.2.1) s12 ((pt1 t10 20)) y27 y25 y23 y21 y19 y17 y15 y13 y11 y9 y7 y6 y5 y4 y3 y2 y1 1 y27 hE12 hy27 hy25 hy23 hy21 hy19 hy17 hy15 hy13 hy11 hy9 hy7 hy6 hy5 hy4 hy3 hy2 hy1 (i32_n rfl) hy27
      · refine mq_f h11 ?_
        refine pr_if1f rfl rfl (i32_z hz10) h11 ?_
        refine pr_n (pc2 := 190) (lv2 := [(27, vi y27), (25, vl y25), (23, vl y23), (21, vl y21), (19, vl y19), (17, vl y17), (15, vl y15), (13, vl y13), (11, vl y11), (9, vl y9), (7, vl y7), (6, vi y6), (5, vi y5), (4, vi y4), (3, vi y3), (2, vi y2), (0, .ref 170), (1, vi y1)]) (st2 := [vi 0]) 1 (fun _ _ => rfl) ?_
        refine pr_end (fun _ _ => rfl) ?_
        exact .inl ⟨_, 0, _, rfl, ⟨rfl, (by decide)⟩, rfl, hE10⟩
    · refine mq_f h2 ?_
      refine pr_if1f rfl rfl hy5 h2 ?_
      refine pr_n (pc2 := 152) (lv2 := [(27, vi y27), (25, vl y25), (23, vl y23), (21, vl y21), (19, vl y19), (17, vl y17), (15, vl y15), (13, vl y13), (11, vl y11), (9, vl y9), (7, vl y7), (6, vi y6), (5, vi y5), (4, vi y4), (3, vi y3), (2, vi y2), (0, .ref 170), (1, vi y1)]) (st2 := [.ref 170]) 1 (fun _ _ => rfl) ?_
      refine pr_m1 (args := []) (rest := []) rfl rfl rfl rfl (Nat.le_of_ble_eq_true rfl) rfl (h_123 s t  hE ) ?_
      rintro _ _ t24 s24 ⟨rfl, rfl⟩ hE24
      show pr N2 K d tb_M155 155 [(27, vi y27), (25, vl y25), (23, vl y23), (21, vl y21), (19, vl y19), (17, vl y17), (15, vl y15), (13, vl y13), (11, vl y11), (9, vl y9), (7, vl y7), (6, vi y6), (5, vi y5), (4, vi y4), (3, vi y3), (2, vi y2), (0, .ref 170), (1, vi y1)] [] s24 _
      refine pr_n (pc2 := 156) (lv2 := [(27, vi y27), (25, vl y25), (23, vl y23), (21, vl y21), (19, vl y19), (17, vl y17), (15, vl y15), (13, vl y13), (11, vl y11), (9, vl y9), (7, vl y7), (6, vi y6), (5, vi y5), (4, vi y4), (3, vi y3), (2, vi y2), (0, .ref 170), (1, vi y1)]) (st2 := [.ref 170]) 1 (fun _ _ => rfl) ?_
      refine pr_s1 (args := []) (rest := []) rfl rfl rfl rfl (Nat.le_of_ble_eq_true rfl) rfl (h_138 s24 t24  hE24 ) q_rfg ?_
      rintro _ s25 ⟨rfl, _⟩ hE25
      show pr N2 K d tb_M155 159 [(27, vi y27), (25, vl y25), (23, vl y23), (21, vl y21), (19, vl y19), (17, vl y17), (15, vl y15), (13, vl y13), (11, vl y11), (9, vl y9), (7, vl y7), (6, vi y6), (5, vi y5), (4, vi y4), (3, vi y3), (2, vi y2), (0, .ref 170), (1, vi y1)] [] s25 _
      refine pr_n (pc2 := 160) (lv2 := [(27, vi y27), (25, vl y25), (23, vl y23), (21, vl y21), (19, vl y19), (17, vl y17), (15, vl y15), (13, vl y13), (11, vl y11), (9, vl y9), (7, vl y7), (6, vi y6), (5, vi y5), (4, vi y4), (3, vi y3), (2, vi y2), (0, .ref 170), (1, vi y1)]) (st2 := [.ref 170]) 1 (fun _ _ => rfl) ?_
      refine pr_get (v := .ref C) rfl rfl rfl (by decide) (rv_ref (show s25.1 170 19 = ((C : Nat) : Int) from hE25.2.2.1)) fun _ => ?_
      refine pr_get (v := .ref (C + 1)) rfl rfl (TG_C hC) (by decide) (rv_ref (hE25.2.1 C 0 (C + 1) (rc_C0 hC))) fun _ => ?_
      refine pr_n (pc2 := 170) (lv2 := [(27, vi y27), (25, vl y25), (23, vl y23), (21, vl y21), (19, vl y19), (17, vl y17), (15, vl y15), (13, vl y13), (11, vl y11), (9, vl y9), (7, vl y7), (6, vi y6), (5, vi y5), (4, vi y4), (3, vi y3), (2, vi y2), (0, .ref 170), (1, vi y1)]) (st2 := [vi y5, vi y4, .ref (C + 1)]) 2 (fun _ _ => rfl) ?_
      refine pr_i2 (a := y4) (b := y5) rfl rfl ?_
      show pr N2 K d tb_M155 171 [(27, vi y27), (25, vl y25), (23, vl y23), (21, vl y21), (19, vl y19), (17, vl y17), (15, vl y15), (13, vl y13), (11, vl y11), (9, vl y9), (7, vl y7), (6, vi y6), (5, vi y5), (4, vi y4), (3, vi y3), (2, vi y2), (0, .ref 170), (1, vi y1)] [vi (ipl y4 y5), .ref (C + 1)] s25 _
      have h26 : i32 (ipl y4 y5) := i32_in _
      refine pr_n (pc2 := 172) (lv2 := [(27, vi y27), (25, vl y25), (23, vl y23), (21, vl y21), (19, vl y19), (17, vl y17), (15, vl y15), (13, vl y13), (11, vl y11), (9, vl y9), (7, vl y7), (6, vi y6), (5, vi y5), (4, vi y4), (3, vi y3), (2, vi y2), (0, .ref 170), (1, vi y1)]) (st2 := [.ref 170, vi (ipl y4 y5), .ref (C + 1)]) 1 (fun _ _ => rfl) ?_
      refine pr_get (v := .ref C) rfl rfl rfl (by decide) (rv_ref (show s25.1 170 19 = ((C : Nat) : Int) from hE25.2.2.1)) fun _ => ?_
      refine pr_gE (k2 := 177) (v := vi ((rfg t24) 177 1)) hE25 rfl rfl (TG_C hC) (by decide) rfl rfl rfl fun h27 => ?_
      have h27 : i32 ((rfg t24) 177 1) := h27
      refine pr_sE (k2 := 178) (a := ipl y4 y5) (z := (rfg t24) 177 1) hE25 rfl (show 96 ≤ C + 1 by omega) (TG_C1 hC) rfl h26 (by decide) rfl (show i32 ((rfg t24) 177 1) from h27) (nD1 hC (by omega)) rfl rfl (fun e => absurd e.1 (show ¬ (C + 1 = 170) by omega)) (fun _ => trivial) fun h28 h29 s30 hE30 => ?_
      refine pr_n (pc2 := 182) (lv2 := [(27, vi y27), (25, vl y25), (23, vl y23), (21, vl y21), (19, vl y19), (17, vl y17), (15, vl y15), (13, vl y13), (11, vl y11), (9, vl y9), (7, vl y7), (6, vi y6), (5, vi y5), (4, vi y4), (3, vi y3), (2, vi y2), (0, .ref 170), (1, vi y1)]) (st2 := [vi 1, vi y1, .ref 170]) 3 (fun _ _ => rfl) ?_
      refine pr_i2 (a := y1) (b := 1) rfl rfl ?_
      show pr N2 K d tb_M155 183 [(27, vi y27), (25, vl y25), (23, vl y23), (21, vl y21), (19, vl y19), (17, vl y17), (15, vl y15), (13, vl y13), (11, vl y11), (9, vl y9), (7, vl y7), (6, vi y6), (5, vi y5), (4, vi y4), (3, vi y3), (2, vi y2), (0, .ref 170), (1, vi y1)] [vi (ipl y1 1), .ref 170] s30 _
      have h31 : i32 (ipl y1 1) := i32_in _
      refine pr_m1 (args := [vi (ipl y1 1)]) (rest := []) rfl rfl rfl rfl (Nat.le_of_ble_eq_true rfl) rfl (h_141 s30 (up2 ((rfg t24)) 178 ((ipl y4 y5).toNat) ((rfg t24) 177 1)) (ipl y1 1) hE30 h31) ?_
      rintro _ z32 t32 s32 ⟨rfl, hz32⟩ hE32
      show pr N2 K d tb_M155 186 [(27, vi y27), (25, vl y25), (23, vl y23), (21, vl y21), (19, vl y19), (17, vl y17), (15, vl y15), (13, vl y13), (11, vl y11), (9, vl y9), (7, vl y7), (6, vi y6), (5, vi y5), (4, vi y4), (3, vi y3), (2, vi y2), (0, .ref 170), (1, vi y1)] [vi z32] s32 _
      by_cases h33 : z32 ≠ 0
      · refine mq_t h33 ?_
        refine pr_if1t rfl rfl (i32_z hz32) h33 ?_
        refine pr_n (pc2 := 194) (lv2 := [(27, vi y27), (25, vl y25), (23, vl y23), (21, vl y21), (19, vl y19), (17, vl y17), (15, vl y15), (13, vl y13), (11, vl y11), (9, vl y9), (7, vl y7), (6, vi y6), (5, vi y5), (4, vi y4), (3, vi y3), (2, vi y2), (0, .ref 170), (1, vi y1)]) (st2 := [vi 20, .ref 170]) 2 (fun _ _ => rfl) ?_
        refine pr_s1 (args := [vi 20]) (rest := []) rfl rfl rfl rfl (Nat.le_of_ble_eq_true rfl) rfl (h_140 s32 t32 20 hE32 (i32_n rfl)) q_put1 ?_
        rintro _ s34 ⟨rfl, hz34⟩ hE34
        show pr N2 K d tb_M155 197 [(27, vi y27), (25, vl y25), (23, vl y23), (21, vl y21), (19, vl y19), (17, vl y17), (15, vl y15), (13, vl y13), (11, vl y11), (9, vl y9), (7, vl y7), (6, vi y6), (5, vi y5), (4, vi y4), (3, vi y3), (2, vi y2), (0, .ref 170), (1, vi y1)] [vi (ptz t32)] s34 _
        refine pr_n (pc2 := 203) (lv2 := [(27, vi y27), (25, vl y25), (23, vl y23), (21, vl y21), (19, vl y19), (17, vl y17), (15, vl y15), (13, vl y13), (11, vl y11), (9, vl y9), (7, vl y7), (6, vi y6), (5, vi y5), (4, vi y4), (3, vi y3), (2, vi y2), (0, .ref 170), (1, vi y1)]) (st2 := [.ref 170, vl y17, vi y27]) 4 (fun _ _ => rfl) ?_
        refine pr_gE (k2 := 170) (v := vl (t32 170 23)) hE34 rfl rfl rfl (by decide) rfl rfl rfl fun h35 => ?_
        have h35 : i64 (t32 170 23) := h35
        refine pr_n (pc2 := 207) (lv2 := [(27, vi y27), (25, vl y25), (23, vl y23), (21, vl y21), (19, vl y19), (17, vl y17), (15, vl y15), (13, vl y13), (11, vl y11), (9, vl y9), (7, vl y7), (6, vi y6), (5, vi y5), (4, vi y4), (3, vi y3), (2, vi y2), (0, .ref 170), (1, vi y1)]) (st2 := [.ref 170, vl (t32 170 23), vl y17, vi y27]) 1 (fun _ _ => rfl) ?_
        refine pr_gE (k2 := 170) (v := vl (t32 170 22)) hE34 rfl rfl rfl (by decide) rfl rfl rfl fun h36 => ?_
        have h36 : i64 (t32 170 22) := h36
        refine pr_l2 (a := t32 170 23) (b := t32 170 22) rfl rfl ?_
        show pr N2 K d tb_M155 211 [(27, vi y27), (25, vl y25), (23, vl y23), (21, vl y21), (19, vl y19), (17, vl y17), (15, vl y15), (13, vl y13), (11, vl y11), (9, vl y9), (7, vl y7), (6, vi y6), (5, vi y5), (4, vi y4), (3, vi y3), (2, vi y2), (0, .ref 170), (1, vi y1)] [vl (lo (t32 170 23) (t32 170 22)), vl y17, vi y27] s34 _
        refine pr_l2 (a := y17) (b := lo (t32 170 23) (t32 170 22)) rfl rfl ?_
        show pr N2 K d tb_M155 212 [(27, vi y27), (25, vl y25), (23, vl y23), (21, vl y21), (19, vl y19), (17, vl y17), (15, vl y15), (13, vl y13), (11, vl y11), (9, vl y9), (7, vl y7), (6, vi y6), (5, vi y5), (4, vi y4), (3, vi y3), (2, vi y2), (0, .ref 170), (1, vi y1)] [vl (la y17 (lo (t32 170 23) (t32 170 22))), vi y27] s34 _
        refine pr_n (pc2 := 213) (lv2 := [(27, vi y27), (25, vl y25), (23, vl y23), (21, vl y21), (19, vl y19), (17, vl y17), (15, vl y15), (13, vl y13), (11, vl y11), (9, vl y9), (7, vl y7), (6, vi y6), (5, vi y5), (4, vi y4), (3, vi y3), (2, vi y2), (0, .ref 170), (1, vi y1)]) (st2 := [vl 0, vl (la y17 (lo (t32 170 23) (t32 170 22))), vi y27]) 1 (fun _ _ => rfl) ?_
        refine pr_lcmp (a := la y17 (lo (t32 170 23) (t32 170 22))) (b := 0) rfl (i64_in _) (i64_n rfl) ?_
        by_cases h37 : la y17 (lo (t32 170 23) (t32 170 22)) ≠ 0
        · refine mq_t h37 ?_
          refine pr_if1t rfl rfl lc_i32 (lc_ne.mpr h37) ?_
          refine pr_n (pc2 := 273) (lv2 := [(27, vi y27), (25, vl y25), (23, vl y23), (21, vl y21), (19, vl y19), (17, vl y17), (15, vl y15), (13, vl y13), (11, vl y11), (9, vl y9), (7, vl y7), (6, vi y6), (5, vi y5), (4, vi y4), (3, vi y3), (2, vi y2), (0, .ref 170), (1, vi y1)]) (st2 := [vi 1, vi y27]) 2 (fun _ _ => rfl) ?_
          exact ((ih N2 hN2).2.2.1) s34 ((pt1 t32 20)) y27 y25 y23 y21 y19 y17 y15 y13 y11 y9 y7 y6 y5 y4 y3 y2 y1 1 y27 hE34 hy27 hy25 hy23 hy21 hy19 hy17 hy15 hy13 hy11 hy9 hy7 hy6 hy5 hy4 hy3 hy2 hy1 (i32_n rfl) hy27
        · refine mq_f h37 ?_
          refine pr_if1f rfl rfl lc_i32 (fun e => h37 (lc_ne.mp e)) ?_
          refine pr_n (pc2 := 218) (lv2 := [(27, vi y27), (25, vl y25), (23, vl y23), (21, vl y21), (19, vl y19), (17, vl y17), (15, vl y15), (13, vl y13), (11, vl y11), (9, vl y9), (7, vl y7), (6, vi y6), (5, vi y5), (4, vi y4), (3, vi y3), (2, vi y2), (0, .ref 170), (1, vi y1)]) (st2 := [.ref 170, vi y27]) 1 (fun _ _ => rfl) ?_
          refine pr_gE (k2 := 170) (v := vl (t32 170 22)) hE34 rfl rfl rfl (by decide) rfl rfl rfl fun h38 => ?_
          have h38 : i64 (t32 170 22) := h38
          refine pr_n (pc2 := 225) (lv2 := [(27, vi y27), (25, vl y25), (23, vl y23), (21, vl y21), (19, vl y19), (17, vl y17), (15, vl y15), (13, vl y13), (11, vl y11), (9, vl y9), (7, vl y7), (6, vi y6), (5, vi y5), (4, vi y4), (3, vi y3), (2, vi y2), (0, .ref 170), (1, vi y1)]) (st2 := [vl y17, vl y19, vl (t32 170 22), vi y27]) 2 (fun _ _ => rfl) ?_
          refine pr_l2 (a := y19) (b := y17) rfl rfl ?_
          show pr N2 K d tb_M155 226 [(27, vi y27), (25, vl y25), (23, vl y23), (21, vl y21), (19, vl y19), (17, vl y17), (15, vl y15), (13, vl y13), (11, vl y11), (9, vl y9), (7, vl y7), (6, vi y6), (5, vi y5), (4, vi y4), (3, vi y3), (2, vi y2), (0, .ref 170), (1, vi y1)] [vl (lo y19 y17), vl (t32 170 22), vi y27] s34 _
          refine pr_l2 (a := t32 170 22) (b := lo y19 y17) rfl rfl ?_
          show pr N2 K d tb_M155 227 [(27, vi y27), (25, vl y25), (23, vl y23), (21, vl y21), (19, vl y19), (17, vl y17), (15, vl y15), (13, vl y13), (11, vl y11), (9, vl y9), (7, vl y7), (6, vi y6), (5, vi y5), (4, vi y4), (3, vi y3), (2, vi y2), (0, .ref 170), (1, vi y1)] [vl (la (t32 170 22) (lo y19 y17)), vi y27] s34 _
          refine pr_n (pc2 := 228) (lv2 := [(27, vi y27), (25, vl y25), (23, vl y23), (21, vl y21), (19, vl y19), (17, vl y17), (15, vl y15), (13, vl y13), (11, vl y11), (9, vl y9), (7, vl y7), (6, vi y6), (5, vi y5), (4, vi y4), (3, vi y3), (2, vi y2), (0, .ref 170), (1, vi y1)]) (st2 := [vl 0, vl (la (t32 170 22) (lo y19 y17)), vi y27]) 1 (fun _ _ => rfl) ?_
          refine pr_lcmp (a := la (t32 170 22) (lo y19 y17)) (b := 0) rfl (i64_in _) (i64_n rfl) ?_
          by_cases h39 : la (t32 170 22) (lo y19 y17) ≠ 0
          · refine mq_t h39 ?_
            refine pr_if1t rfl rfl lc_i32 (lc_ne.mpr h39) ?_
            refine pr_n (pc2 := 273) (lv2 := [(27, vi y27), (25, vl y25), (23, vl y23), (21, vl y21), (19, vl y19), (17, vl y17), (15, vl y15), (13, vl y13), (11, vl y11), (9, vl y9), (7, vl y7), (6, vi y6), (5, vi y5), (4, vi y4), (3, vi y3), (2, vi y2), (0, .ref 170), (1, vi y1)]) (st2 := [vi 1, vi y27]) 2 (fun _ _ => rfl) ?_
            exact ((ih N2 hN2).2.2.1) s34 ((pt1 t32 20)) y27 y25 y23 y21 y19 y17 y15 y13 y11 y9 y7 y6 y5 y4 y3 y2 y1 1 y27 hE34 hy27 hy25 hy23 hy21 hy19 hy17 hy15 hy13 hy11 hy9 hy7 hy6 hy5 hy4 hy3 hy2 hy1 (i32_n rfl) hy27
          · refine mq_f h39 ?_
            refine pr_if1f rfl rfl lc_i32 (fun e => h39 (lc_ne.mp e)) ?_
            refine pr_n (pc2 := 235) (lv2 := [(27, vi y27), (25, vl y25), (23, vl y23), (21, vl y21), (19, vl y19), (17, vl y17), (15, vl y15), (13, vl y13), (11, vl y11), (9, vl y9), (7, vl y7), (6, vi y6), (5, vi y5), (4, vi y4), (3, vi y3), (2, vi y2), (0, .ref 170), (1, vi y1)]) (st2 := [.ref 170, vl y21, vi y27]) 2 (fun _ _ => rfl) ?_
            refine pr_gE (k2 := 170) (v := vl (t32 170 24)) hE34 rfl rfl rfl (by decide) rfl rfl rfl fun h40 => ?_
            have h40 : i64 (t32 170 24) := h40
            refine pr_l2 (a := y21) (b := t32 170 24) rfl rfl ?_
            show pr N2 K d tb_M155 239 [(27, vi y27), (25, vl y25), (23, vl y23), (21, vl y21), (19, vl y19), (17, vl y17), (15, vl y15), (13, vl y13), (11, vl y11), (9, vl y9), (7, vl y7), (6, vi y6), (5, vi y5), (4, vi y4), (3, vi y3), (2, vi y2), (0, .ref 170), (1, vi y1)] [vl (la y21 (t32 170 24)), vi y27] s34 _
            refine pr_n (pc2 := 240) (lv2 := [(27, vi y27), (25, vl y25), (23, vl y23), (21, vl y21), (19, vl y19), (17, vl y17), (15, vl y15), (13, vl y13), (11, vl y11), (9, vl y9), (7, vl y7), (6, vi y6), (5, vi y5), (4, vi y4), (3, vi y3), (2, vi y2), (0, .ref 170), (1, vi y1)]) (st2 := [vl 0, vl (la y21 (t32 170 24)), vi y27]) 1 (fun _ _ => rfl) ?_
            refine pr_lcmp (a := la y21 (t32 170 24)) (b := 0) rfl (i64_in _) (i64_n rfl) ?_
            by_cases h41 : la y21 (t32 170 24) ≠ 0
            · refine mq_t h41 ?_
              refine pr_if1t rfl rfl lc_i32 (lc_ne.mpr h41) ?_
              refine pr_n (pc2 := 273) (lv2 := [(27, vi y27), (25, vl y25), (23, vl y23), (21, vl y21), (19, vl y19), (17, vl y17), (15, vl y15), (13, vl y13), (11, vl y11), (9, vl y9), (7, vl y7), (6, vi y6), (5, vi y5), (4, vi y4), (3, vi y3), (2, vi y2), (0, .ref 170), (1, vi y1)]) (st2 := [vi 1, vi y27]) 2 (fun _ _ => rfl) ?_
              exact ((ih N2 hN2).2.2.1) s34 ((pt1 t32 20)) y27 y25 y23 y21 y19 y17 y15 y13 y11 y9 y7 y6 y5 y4 y3 y2 y1 1 y27 hE34 hy27 hy25 hy23 hy21 hy19 hy17 hy15 hy13 hy11 hy9 hy7 hy6 hy5 hy4 hy3 hy2 hy1 (i32_n rfl) hy27
            · refine mq_f h41 ?_
              refine pr_if1f rfl rfl lc_i32 (fun e => h41 (lc_ne.mp e)) ?_
              refine pr_n (pc2 := 247) (lv2 := [(27, vi y27), (25, vl y25), (23, vl y23), (21, vl y21), (19, vl y19), (17, vl y17), (15, vl y15), (13, vl y13), (11, vl y11), (9, vl y9), (7, vl y7), (6, vi y6), (5, vi y5), (4, vi y4), (3, vi y3), (2, vi y2), (0, .ref 170), (1, vi y1)]) (st2 := [.ref 170, vl y23, vi y27]) 2 (fun _ _ => rfl) ?_
              refine pr_gE (k2 := 170) (v := vl (t32 170 25)) hE34 rfl rfl rfl (by decide) rfl rfl rfl fun h42 => ?_
              have h42 : i64 (t32 170 25) := h42
              refine pr_l2 (a := y23) (b := t32 170 25) rfl rfl ?_
              show pr N2 K d tb_M155 251 [(27, vi y27), (25, vl y25), (23, vl y23), (21, vl y21), (19, vl y19), (17, vl y17), (15, vl y15), (13, vl y13), (11, vl y11), (9, vl y9), (7, vl y7), (6, vi y6), (5, vi y5), (4, vi y4), (3, vi y3), (2, vi y2), (0, .ref 170), (1, vi y1)] [vl (la y23 (t32 170 25)), vi y27] s34 _
              refine pr_n (pc2 := 252) (lv2 := [(27, vi y27), (25, vl y25), (23, vl y23), (21, vl y21), (19, vl y19), (17, vl y17), (15, vl y15), (13, vl y13), (11, vl y11), (9, vl y9), (7, vl y7), (6, vi y6), (5, vi y5), (4, vi y4), (3, vi y3), (2, vi y2), (0, .ref 170), (1, vi y1)]) (st2 := [vl 0, vl (la y23 (t32 170 25)), vi y27]) 1 (fun _ _ => rfl) ?_
              refine pr_lcmp (a := la y23 (t32 170 25)) (b := 0) rfl (i64_in _) (i64_n rfl) ?_
              by_cases h43 : la y23 (t32 170 25) ≠ 0
              · refine mq_t h43 ?_
                refine pr_if1t rfl rfl lc_i32 (lc_ne.mpr h43) ?_
                refine pr_n (pc2 := 273) (lv2 := [(27, vi y27), (25, vl y25), (23, vl y23), (21, vl y21), (19, vl y19), (17, vl y17), (15, vl y15), (13, vl y13), (11, vl y11), (9, vl y9), (7, vl y7), (6, vi y6), (5, vi y5), (4, vi y4), (3, vi y3), (2, vi y2), (0, .ref 170), (1, vi y1)]) (st2 := [vi 1, vi y27]) 2 (fun _ _ => rfl) ?_
                exact ((ih N2 hN2).2.2.1) s34 ((pt1 t32 20)) y27 y25 y23 y21 y19 y17 y15 y13 y11 y9 y7 y6 y5 y4 y3 y2 y1 1 y27 hE34 hy27 hy25 hy23 hy21 hy19 hy17 hy15 hy13 hy11 hy9 hy7 hy6 hy5 hy4 hy3 hy2 hy1 (i32_n rfl) hy27
              · refine mq_f h43 ?_
                refine pr_if1f rfl rfl lc_i32 (fun e => h43 (lc_ne.mp e)) ?_
                refine pr_n (pc2 := 259) (lv2 := [(27, vi y27), (25, vl y25), (23, vl y23), (21, vl y21), (19, vl y19), (17, vl y17), (15, vl y15), (13, vl y13), (11, vl y11), (9, vl y9), (7, vl y7), (6, vi y6), (5, vi y5), (4, vi y4), (3, vi y3), (2, vi y2), (0, .ref 170), (1, vi y1)]) (st2 := [.ref 170, vl y25, vi y27]) 2 (fun _ _ => rfl) ?_
                refine pr_gE (k2 := 170) (v := vl (t32 170 26)) hE34 rfl rfl rfl (by decide) rfl rfl rfl fun h44 => ?_
                have h44 : i64 (t32 170 26) := h44
                refine pr_l2 (a := y25) (b := t32 170 26) rfl rfl ?_
                show pr N2 K d tb_M155 263 [(27, vi y27), (25, vl y25), (23, vl y23), (21, vl y21), (19, vl y19), (17, vl y17), (15, vl y15), (13, vl y13), (11, vl y11), (9, vl y9), (7, vl y7), (6, vi y6), (5, vi y5), (4, vi y4), (3, vi y3), (2, vi y2), (0, .ref 170), (1, vi y1)] [vl (la y25 (t32 170 26)), vi y27] s34 _
                refine pr_n (pc2 := 264) (lv2 := [(27, vi y27), (25, vl y25), (23, vl y23), (21, vl y21), (19, vl y19), (17, vl y17), (15, vl y15), (13, vl y13), (11, vl y11), (9, vl y9), (7, vl y7), (6, vi y6), (5, vi y5), (4, vi y4), (3, vi y3), (2, vi y2), (0, .ref 170), (1, vi y1)]) (st2 := [vl 0, vl (la y25 (t32 170 26)), vi y27]) 1 (fun _ _ => rfl) ?_
                refine pr_lcmp (a := la y25 (t32 170 26)) (b := 0) rfl (i64_in _) (i64_n rfl) ?_
                by_cases h45 : la y25 (t32 170 26) = 0
                · refine mq_t h45 ?_
                  refine pr_if1t rfl rfl lc_i32 (lc_eq.mpr h45) ?_
                  refine pr_n (pc2 := 273) (lv2 := [(27, vi y27), (25, vl y25), (23, vl y23), (21, vl y21), (19, vl y19), (17, vl y17), (15, vl y15), (13, vl y13), (11, vl y11), (9, vl y9), (7, vl y7), (6, vi y6), (5, vi y5), (4, vi y4), (3, vi y3), (2, vi y2), (0, .ref 170), (1, vi y1)]) (st2 := [vi 0, vi y27]) 1 (fun _ _ => rfl) ?_
                  exact ((ih N2 hN2).2.2.1) s34 ((pt1 t32 20)) y27 y25 y23 y21 y19 y17 y15 y13 y11 y9 y7 y6 y5 y4 y3 y2 y1 0 y27 hE34 hy27 hy25 hy23 hy21 hy19 hy17 hy15 hy13 hy11 hy9 hy7 hy6 hy5 hy4 hy3 hy2 hy1 (i32_n rfl) hy27
                · refine mq_f h45 ?_
                  refine pr_if1f rfl rfl lc_i32 (fun e => h45 (lc_eq.mp e)) ?_
                  refine pr_n (pc2 := 273) (lv2 := [(27, vi y27), (25, vl y25), (23, vl y23), (21, vl y21), (19, vl y19), (17, vl y17), (15, vl y15), (13, vl y13), (11, vl y11), (9, vl y9), (7, vl y7), (6, vi y6), (5, vi y5), (4, vi y4), (3, vi y3), (2, vi y2), (0, .ref 170), (1, vi y1)]) (st2 := [vi 1, vi y27]) 2 (fun _ _ => rfl) ?_
                  exact ((ih N2 hN2).2.2.1) s34 ((pt1 t32 20)) y27 y25 y23 y21 y19 y17 y15 y13 y11 y9 y7 y6 y5 y4 y3 y2 y1 1 y27 hE34 hy27 hy25 hy23 hy21 hy19 hy17 hy15 hy13 hy11 hy9 hy7 hy6 hy5 hy4 hy3 hy2 hy1 (i32_n rfl) hy27
      · refine mq_f h33 ?_
        refine pr_if1f rfl rfl (i32_z hz32) h33 ?_
        refine pr_n (pc2 := 190) (lv2 := [(27, vi y27), (25, vl y25), (23, vl y23), (21, vl y21), (19, vl y19), (17, vl y17), (15, vl y15), (13, vl y13), (11, vl y11), (9, vl y9), (7, vl y7), (6, vi y6), (5, vi y5), (4, vi y4), (3, vi y3), (2, vi y2), (0, .ref 170), (1, vi y1)]) (st2 := [vi 0]) 1 (fun _ _ => rfl) ?_
        refine pr_end (fun _ _ => rfl) ?_
        exact .inl ⟨_, 0, _, rfl, ⟨rfl, (by decide)⟩, rfl, hE32⟩
  · refine mq_f h1 ?_
    refine pr_if2f rfl rfl hy5 (i32_n rfl) h1 ?_
    refine pr_n (pc2 := 142) (lv2 := [(27, vi y27), (25, vl y25), (23, vl y23), (21, vl y21), (19, vl y19), (17, vl y17), (15, vl y15), (13, vl y13), (11, vl y11), (9, vl y9), (7, vl y7), (6, vi y6), (5, vi y5), (4, vi y4), (3, vi y3), (2, vi y2), (0, .ref 170), (1, vi y1)]) (st2 := [.ref 170]) 1 (fun _ _ => rfl) ?_
    refine pr_s1 (args := []) (rest := []) rfl rfl rfl rfl (Nat.le_of_ble_eq_true rfl) rfl (h_131 s t  hE ) q_bad0 ?_
    rintro _ s46 ⟨rfl, hz46⟩ hE46
    show pr N2 K d tb_M155 145 [(27, vi y27), (25, vl y25), (23, vl y23), (21, vl y21), (19, vl y19), (17, vl y17), (15, vl y15), (13, vl y13), (11, vl y11), (9, vl y9), (7, vl y7), (6, vi y6), (5, vi y5), (4, vi y4), (3, vi y3), (2, vi y2), (0, .ref 170), (1, vi y1)] [vi 0] s46 _
    refine pr_end (fun _ _ => rfl) ?_
    exact .inl ⟨_, 0, _, rfl, ⟨rfl, (by decide)⟩, rfl, hE46⟩
set_option maxHeartbeats 20000000 in
set_option maxRecDepth 100000 in
theorem ru155_2 {N K d C : Nat} (h_123 : rT123 K d C) (h_127 : rT127 K d C) (h_131 : rT131 K d C) (h_136 : rT136 K d C) (h_138 : rT138 K d C) (h_140 : rT140 K d C) (h_141 : rT141 K d C) (h_142 : rT142 K d C) (ih : ∀ N2, N2 < N → rA155 N2 K d C) : rU155_2 N K d C := by
  intro s t y27 y25 y23 y21 y19 y17 y15 y13 y11 y9 y7 y6 y5 y4 y3 y2 y1 ys0 ys1 hE hy27 hy25 hy23 hy21 hy19 hy17 hy15 hy13 hy11 hy9 hy7 hy6 hy5 hy4 hy3 hy2 hy1 hys0 hys1
  have hC : C = 177 ∨ C = 186 := hE.1
  rw [rG_155_273]
  unfold rM155_273
  refine pr_i2x (a := ys1) (b := ys0) rfl rfl fun N2 hN2 => ?_
  show pr N2 K d tb_M155 274 [(27, vi y27), (25, vl y25), (23, vl y23), (21, vl y21), (19, vl y19), (17, vl y17), (15, vl y15), (13, vl y13), (11, vl y11), (9, vl y9), (7, vl y7), (6, vi y6), (5, vi y5), (4, vi y4), (3, vi y3), (2, vi y2), (0, .ref 170), (1, vi y1)] [vi (ior ys1 ys0)] s _
  refine pr_n (pc2 := 279) (lv2 := [(27, vi (ior ys1 ys0)), (25, vl y25), (23, vl y23), (21, vl y21), (19, vl y19), (17, vl y17), (15, vl y15), (13, vl y13), (11, vl y11), (9, vl y9), (7, vl y7), (6, vi y6), (5, vi y5), (4, vi y4), (3, vi y3), (2, vi y2), (0, .ref 170), (1, vi y1)]) (st2 := [.ref 170, vl y17]) 3 (fun _ _ => rfl) ?_
  refine pr_gE (k2 := 170) (v := vl (t 170 22)) hE rfl rfl rfl (by decide) rfl rfl rfl fun h1 => ?_
  have h1 : i64 (t 170 22) := h1
  refine pr_l2 (a := y17) (b := t 170 22) rfl rfl ?_
  show pr N2 K d tb_M155 283 [(27, vi (ior ys1 ys0)), (25, vl y25), (23, vl y23), (21, vl y21), (19, vl y19), (17, vl y17), (15, vl y15), (13, vl y13), (11, vl y11), (9, vl y9), (7, vl y7), (6, vi y6), (5, vi y5), (4, vi y4), (3, vi y3), (2, vi y2), (0, .ref 170), (1, vi y1)] [vl (lo y17 (t 170 22))] s _
  refine pr_n (pc2 := 288) (lv2 := [(17, vl (lo y17 (t 170 22))), (27, vi (ior ys1 ys0)), (25, vl y25), (23, vl y23), (21, vl y21), (19, vl y19), (15, vl y15), (13, vl y13), (11, vl y11), (9, vl y9), (7, vl y7), (6, vi y6), (5, vi y5), (4, vi y4), (3, vi y3), (2, vi y2), (0, .ref 170), (1, vi y1)]) (st2 := [.ref 170, vl y19]) 3 (fun _ _ => rfl) ?_
  refine pr_gE (k2 := 170) (v := vl (t 170 23)) hE rfl rfl rfl (by decide) rfl rfl rfl fun h2 => ?_
  have h2 : i64 (t 170 23) := h2
  refine pr_l2 (a := y19) (b := t 170 23) rfl rfl ?_
  show pr N2 K d tb_M155 292 [(17, vl (lo y17 (t 170 22))), (27, vi (ior ys1 ys0)), (25, vl y25), (23, vl y23), (21, vl y21), (19, vl y19), (15, vl y15), (13, vl y13), (11, vl y11), (9, vl y9), (7, vl y7), (6, vi y6), (5, vi y5), (4, vi y4), (3, vi y3), (2, vi y2), (0, .ref 170), (1, vi y1)] [vl (lo y19 (t 170 23))] s _
  refine pr_n (pc2 := 297) (lv2 := [(19, vl (lo y19 (t 170 23))), (17, vl (lo y17 (t 170 22))), (27, vi (ior ys1 ys0)), (25, vl y25), (23, vl y23), (21, vl y21), (15, vl y15), (13, vl y13), (11, vl y11), (9, vl y9), (7, vl y7), (6, vi y6), (5, vi y5), (4, vi y4), (3, vi y3), (2, vi y2), (0, .ref 170), (1, vi y1)]) (st2 := [.ref 170, vl y21]) 3 (fun _ _ => rfl) ?_
  refine pr_gE (k2 := 170) (v := vl (t 170 24)) hE rfl rfl rfl (by decide) rfl rfl rfl fun h3 => ?_
  have h3 : i64 (t 170 24) := h3
  refine pr_l2 (a := y21) (b := t 170 24) rfl rfl ?_
  show pr N2 K d tb_M155 301 [(19, vl (lo y19 (t 170 23))), (17, vl (lo y17 (t 170 22))), (27, vi (ior ys1 ys0)), (25, vl y25), (23, vl y23), (21, vl y21), (15, vl y15), (13, vl y13), (11, vl y11), (9, vl y9), (7, vl y7), (6, vi y6), (5, vi y5), (4, vi y4), (3, vi y3), (2, vi y2), (0, .ref 170), (1, vi y1)] [vl (lo y21 (t 170 24))] s _
  refine pr_n (pc2 := 306) (lv2 := [(21, vl (lo y21 (t 170 24))), (19, vl (lo y19 (t 170 23))), (17, vl (lo y17 (t 170 22))), (27, vi (ior ys1 ys0)), (25, vl y25), (23, vl y23), (15, vl y15), (13, vl y13), (11, vl y11), (9, vl y9), (7, vl y7), (6, vi y6), (5, vi y5), (4, vi y4), (3, vi y3), (2, vi y2), (0, .ref 170), (1, vi y1)]) (st2 := [.ref 170, vl y23]) 3 (fun _ _ => rfl) ?_
  refine pr_gE (k2 := 170) (v := vl (t 170 25)) hE rfl rfl rfl (by decide) rfl rfl rfl fun h4 => ?_
  have h4 : i64 (t 170 25) := h4
  refine pr_l2 (a := y23) (b := t 170 25) rfl rfl ?_
  show pr N2 K d tb_M155 310 [(21, vl (lo y21 (t 170 24))), (19, vl (lo y19 (t 170 23))), (17, vl (lo y17 (t 170 22))), (27, vi (ior ys1 ys0)), (25, vl y25), (23, vl y23), (15, vl y15), (13, vl y13), (11, vl y11), (9, vl y9), (7, vl y7), (6, vi y6), (5, vi y5), (4, vi y4), (3, vi y3), (2, vi y2), (0, .ref 170), (1, vi y1)] [vl (lo y23 (t 170 25))] s _
  refine pr_n (pc2 := 315) (lv2 := [(23, vl (lo y23 (t 170 25))), (21, vl (lo y21 (t 170 24))), (19, vl (lo y19 (t 170 23))), (17, vl (lo y17 (t 170 22))), (27, vi (ior ys1 ys0)), (25, vl y25), (15, vl y15), (13, vl y13), (11, vl y11), (9, vl y9), (7, vl y7), (6, vi y6), (5, vi y5), (4, vi y4), (3, vi y3), (2, vi y2), (0, .ref 170), (1, vi y1)]) (st2 := [.ref 170, vl y25]) 3 (fun _ _ => rfl) ?_
  refine pr_gE (k2 := 170) (v := vl (t 170 26)) hE rfl rfl rfl (by decide) rfl rfl rfl fun h5 => ?_
  have h5 : i64 (t 170 26) := h5
  refine pr_l2 (a := y25) (b := t 170 26) rfl rfl ?_
  show pr N2 K d tb_M155 319 [(23, vl (lo y23 (t 170 25))), (21, vl (lo y21 (t 170 24))), (19, vl (lo y19 (t 170 23))), (17, vl (lo y17 (t 170 22))), (27, vi (ior ys1 ys0)), (25, vl y25), (15, vl y15), (13, vl y13), (11, vl y11), (9, vl y9), (7, vl y7), (6, vi y6), (5, vi y5), (4, vi y4), (3, vi y3), (2, vi y2), (0, .ref 170), (1, vi y1)] [vl (lo y25 (t 170 26))] s _
  refine pr_n (pc2 := 321) (lv2 := [(25, vl (lo y25 (t 170 26))), (23, vl (lo y23 (t 170 25))), (21, vl (lo y21 (t 170 24))), (19, vl (lo y19 (t 170 23))), (17, vl (lo y17 (t 170 22))), (27, vi (ior ys1 ys0)), (15, vl y15), (13, vl y13), (11, vl y11), (9, vl y9), (7, vl y7), (6, vi y6), (5, vi y5), (4, vi y4), (3, vi y3), (2, vi y2), (0, .ref 170), (1, vi y1)]) (st2 := []) 1 (fun _ _ => rfl) ?_
  refine pr_incw (a := y5) rfl rfl ?_
  show pr N2 K d tb_M155 324 [(5, vi (ipl y5 1)), (25, vl (lo y25 (t 170 26))), (23, vl (lo y23 (t 170 25))), (21, vl (lo y21 (t 170 24))), (19, vl (lo y19 (t 170 23))), (17, vl (lo y17 (t 170 22))), (27, vi (ior ys1 ys0)), (15, vl y15), (13, vl y13), (11, vl y11), (9, vl y9), (7, vl y7), (6, vi y6), (4, vi y4), (3, vi y3), (2, vi y2), (0, .ref 170), (1, vi y1)] [] s _
  have h6 : i32 (ipl y5 1) := i32_in _
  refine pr_n (pc2 := 327) (lv2 := [(5, vi (ipl y5 1)), (25, vl (lo y25 (t 170 26))), (23, vl (lo y23 (t 170 25))), (21, vl (lo y21 (t 170 24))), (19, vl (lo y19 (t 170 23))), (17, vl (lo y17 (t 170 22))), (27, vi (ior ys1 ys0)), (15, vl y15), (13, vl y13), (11, vl y11), (9, vl y9), (7, vl y7), (6, vi y6), (4, vi y4), (3, vi y3), (2, vi y2), (0, .ref 170), (1, vi y1)]) (st2 := [vi 1, vi (ipl y5 1)]) 2 (fun _ _ => rfl) ?_
  by_cases h7 : ipl y5 1 ≠ 1
  · refine mq_t h7 ?_
    refine pr_if2t rfl rfl h6 (i32_n rfl) h7 ?_
    refine pr_n (pc2 := 349) (lv2 := [(5, vi (ipl y5 1)), (25, vl (lo y25 (t 170 26))), (23, vl (lo y23 (t 170 25))), (21, vl (lo y21 (t 170 24))), (19, vl (lo y19 (t 170 23))), (17, vl (lo y17 (t 170 22))), (27, vi (ior ys1 ys0)), (15, vl y15), (13, vl y13), (11, vl y11), (9, vl y9), (7, vl y7), (6, vi y6), (4, vi y4), (3, vi y3), (2, vi y2), (0, .ref 170), (1, vi y1)]) (st2 := [.ref 50, .ref 170]) 2 (fun _ _ => rfl) ?_
    refine pr_p1 (args := [.ref 50]) (rest := []) rfl rfl rfl rfl (Nat.le_of_ble_eq_true rfl) rfl (h_127 s t 50 hE isX_50) (fun z t3 => pu_127) ?_
    rintro _ z8 s8 ⟨rfl, hz8⟩ hX8 hE8
    show pr N2 K d tb_M155 352 [(5, vi (ipl y5 1)), (25, vl (lo y25 (t 170 26))), (23, vl (lo y23 (t 170 25))), (21, vl (lo y21 (t 170 24))), (19, vl (lo y19 (t 170 23))), (17, vl (lo y17 (t 170 22))), (27, vi (ior ys1 ys0)), (15, vl y15), (13, vl y13), (11, vl y11), (9, vl y9), (7, vl y7), (6, vi y6), (4, vi y4), (3, vi y3), (2, vi y2), (0, .ref 170), (1, vi y1)] [vi z8] s8 _
    by_cases h9 : z8 ≠ 0
    · refine mq_t h9 ?_
      refine pr_if1t rfl rfl (i32_z hz8) h9 ?_
      exact ((ih N2 hN2).2.2.2.1) s8 t (ipl y5 1) (lo y25 (t 170 26)) (lo y23 (t 170 25)) (lo y21 (t 170 24)) (lo y19 (t 170 23)) (lo y17 (t 170 22)) (ior ys1 ys0) y15 y13 y11 y9 y7 y6 y4 y3 y2 y1 hE8 h6 (i64_in _) (i64_in _) (i64_in _) (i64_in _) (i64_in _) (i32_in _) hy15 hy13 hy11 hy9 hy7 hy6 hy4 hy3 hy2 hy1
    · refine mq_f h9 ?_
      refine pr_if1f rfl rfl (i32_z hz8) h9 ?_
      refine pr_n (pc2 := 359) (lv2 := [(5, vi (ipl y5 1)), (25, vl (lo y25 (t 170 26))), (23, vl (lo y23 (t 170 25))), (21, vl (lo y21 (t 170 24))), (19, vl (lo y19 (t 170 23))), (17, vl (lo y17 (t 170 22))), (27, vi (ior ys1 ys0)), (15, vl y15), (13, vl y13), (11, vl y11), (9, vl y9), (7, vl y7), (6, vi y6), (4, vi y4), (3, vi y3), (2, vi y2), (0, .ref 170), (1, vi y1)]) (st2 := [.ref 32, .ref 170]) 2 (fun _ _ => rfl) ?_
      refine pr_m1 (args := [.ref 32]) (rest := []) rfl rfl rfl rfl (Nat.le_of_ble_eq_true rfl) rfl (h_136 s8 t 32 hE8 isX_32) ?_
      rintro _ z10 t10 s10 ⟨rfl, hz10⟩ hE10
      show pr N2 K d tb_M155 362 [(5, vi (ipl y5 1)), (25, vl (lo y25 (t 170 26))), (23, vl (lo y23 (t 170 25))), (21, vl (lo y21 (t 170 24))), (19, vl (lo y19 (t 170 23))), (17, vl (lo y17 (t 170 22))), (27, vi (ior ys1 ys0)), (15, vl y15), (13, vl y13), (11, vl y11), (9, vl y9), (7, vl y7), (6, vi y6), (4, vi y4), (3, vi y3), (2, vi y2), (0, .ref 170), (1, vi y1)] [vi z10] s10 _
      by_cases h11 : z10 ≠ 0
      · refine mq_t h11 ?_
        refine pr_if1t rfl rfl (i32_z hz10) h11 ?_
        refine pr_n (pc2 := 368) (lv2 := [(5, vi (ipl y5 1)), (25, vl (lo y25 (t 170 26))), (23, vl (lo y23 (t 170 25))), (21, vl (lo y21 (t 170 24))), (19, vl (lo y19 (t 170 23))), (17, vl (lo y17 (t 170 22))), (27, vi (ior ys1 ys0)), (15, vl y15), (13, vl y13), (11, vl y11), (9, vl y9), (7, vl y7), (6, vi y6), (4, vi y4), (3, vi y3), (2, vi y2), (0, .ref 170), (1, vi y1)]) (st2 := [.ref 170]) 1 (fun _ _ => rfl) ?_
        refine pr_get (v := .ref C) rfl rfl rfl (by decide) (rv_ref (show s10.1 170 19 = ((C : Nat) : Int) from hE10.2.2.1)) fun _ => ?_
        refine pr_get (v := .ref (C + 1)) rfl rfl (TG_C hC) (by decide) (rv_ref (hE10.2.1 C 0 (C + 1) (rc_C0 hC))) fun _ => ?_
        refine pr_n (pc2 := 377) (lv2 := [(5, vi (ipl y5 1)), (25, vl (lo y25 (t 170 26))), (23, vl (lo y23 (t 170 25))), (21, vl (lo y21 (t 170 24))), (19, vl (lo y19 (t 170 23))), (17, vl (lo y17 (t 170 22))), (27, vi (ior ys1 ys0)), (15, vl y15), (13, vl y13), (11, vl y11), (9, vl y9), (7, vl y7), (6, vi y6), (4, vi y4), (3, vi y3), (2, vi y2), (0, .ref 170), (1, vi y1)]) (st2 := [vi (ipl y5 1), vi y3, .ref (C + 1)]) 2 (fun _ _ => rfl) ?_
        refine pr_sE (k2 := 178) (a := y3) (z := ipl y5 1) hE10 rfl (show 96 ≤ C + 1 by omega) (TG_C1 hC) rfl hy3 (by decide) rfl (show i32 (ipl y5 1) from h6) (nD1 hC (by omega)) rfl rfl (fun e => absurd e.1 (show ¬ (C + 1 = 170) by omega)) (fun _ => trivial) fun h12 h13 s14 hE14 => ?_
        refine pr_n (pc2 := 379) (lv2 := [(5, vi (ipl y5 1)), (25, vl (lo y25 (t 170 26))), (23, vl (lo y23 (t 170 25))), (21, vl (lo y21 (t 170 24))), (19, vl (lo y19 (t 170 23))), (17, vl (lo y17 (t 170 22))), (27, vi (ior ys1 ys0)), (15, vl y15), (13, vl y13), (11, vl y11), (9, vl y9), (7, vl y7), (6, vi y6), (4, vi y4), (3, vi y3), (2, vi y2), (0, .ref 170), (1, vi y1)]) (st2 := [.ref 170]) 1 (fun _ _ => rfl) ?_
        refine pr_get (v := .ref C) rfl rfl rfl (by decide) (rv_ref (show s14.1 170 19 = ((C : Nat) : Int) from hE14.2.2.1)) fun _ => ?_
        refine pr_get (v := .ref (C + 1)) rfl rfl (TG_C hC) (by decide) (rv_ref (hE14.2.1 C 0 (C + 1) (rc_C0 hC))) fun _ => ?_
        refine pr_n (pc2 := 388) (lv2 := [(5, vi (ipl y5 1)), (25, vl (lo y25 (t 170 26))), (23, vl (lo y23 (t 170 25))), (21, vl (lo y21 (t 170 24))), (19, vl (lo y19 (t 170 23))), (17, vl (lo y17 (t 170 22))), (27, vi (ior ys1 ys0)), (15, vl y15), (13, vl y13), (11, vl y11), (9, vl y9), (7, vl y7), (6, vi y6), (4, vi y4), (3, vi y3), (2, vi y2), (0, .ref 170), (1, vi y1)]) (st2 := [.ref 170, vi y6, .ref (C + 1)]) 2 (fun _ _ => rfl) ?_
        refine pr_get (v := .ref C) rfl rfl rfl (by decide) (rv_ref (show s14.1 170 19 = ((C : Nat) : Int) from hE14.2.2.1)) fun _ => ?_
        refine pr_gE (k2 := 177) (v := vi (t10 177 1)) hE14 rfl rfl (TG_C hC) (by decide) rfl rfl rfl fun h15 => ?_
        have h15 : i32 (t10 177 1) := h15
        refine pr_sE (k2 := 178) (a := y6) (z := t10 177 1) hE14 rfl (show 96 ≤ C + 1 by omega) (TG_C1 hC) rfl hy6 (by decide) rfl (show i32 (t10 177 1) from h15) (nD1 hC (by omega)) rfl rfl (fun e => absurd e.1 (show ¬ (C + 1 = 170) by omega)) (fun _ => trivial) fun h16 h17 s18 hE18 => ?_
        refine pr_n (pc2 := 400) (lv2 := [(5, vi (ipl y5 1)), (25, vl (lo y25 (t 170 26))), (23, vl (lo y23 (t 170 25))), (21, vl (lo y21 (t 170 24))), (19, vl (lo y19 (t 170 23))), (17, vl (lo y17 (t 170 22))), (27, vi (ior ys1 ys0)), (15, vl y15), (13, vl y13), (11, vl y11), (9, vl y9), (7, vl y7), (6, vi y6), (4, vi y4), (3, vi y3), (2, vi y2), (0, .ref 170), (1, vi y1)]) (st2 := [vl (lo y17 (t 170 22)), vl y7, .ref 170]) 3 (fun _ _ => rfl) ?_
        refine pr_l2 (a := y7) (b := lo y17 (t 170 22)) rfl rfl ?_
        show pr N2 K d tb_M155 401 [(5, vi (ipl y5 1)), (25, vl (lo y25 (t 170 26))), (23, vl (lo y23 (t 170 25))), (21, vl (lo y21 (t 170 24))), (19, vl (lo y19 (t 170 23))), (17, vl (lo y17 (t 170 22))), (27, vi (ior ys1 ys0)), (15, vl y15), (13, vl y13), (11, vl y11), (9, vl y9), (7, vl y7), (6, vi y6), (4, vi y4), (3, vi y3), (2, vi y2), (0, .ref 170), (1, vi y1)] [vl (lo y7 (lo y17 (t 170 22))), .ref 170] s18 _
        refine pr_pE (k2 := 170) (z := lo y7 (lo y17 (t 170 22))) hE18 rfl rfl rfl rfl (by decide) rfl (by decide) rfl (i64_in _) (fit_l _) rfl rfl rfl (fun e => absurd e.2 (by decide)) (fun _ => trivial) fun s19 hE19 => ?_
        refine pr_n (pc2 := 409) (lv2 := [(5, vi (ipl y5 1)), (25, vl (lo y25 (t 170 26))), (23, vl (lo y23 (t 170 25))), (21, vl (lo y21 (t 170 24))), (19, vl (lo y19 (t 170 23))), (17, vl (lo y17 (t 170 22))), (27, vi (ior ys1 ys0)), (15, vl y15), (13, vl y13), (11, vl y11), (9, vl y9), (7, vl y7), (6, vi y6), (4, vi y4), (3, vi y3), (2, vi y2), (0, .ref 170), (1, vi y1)]) (st2 := [vl (lo y19 (t 170 23)), vl y9, .ref 170]) 3 (fun _ _ => rfl) ?_
        refine pr_l2 (a := y9) (b := lo y19 (t 170 23)) rfl rfl ?_
        show pr N2 K d tb_M155 410 [(5, vi (ipl y5 1)), (25, vl (lo y25 (t 170 26))), (23, vl (lo y23 (t 170 25))), (21, vl (lo y21 (t 170 24))), (19, vl (lo y19 (t 170 23))), (17, vl (lo y17 (t 170 22))), (27, vi (ior ys1 ys0)), (15, vl y15), (13, vl y13), (11, vl y11), (9, vl y9), (7, vl y7), (6, vi y6), (4, vi y4), (3, vi y3), (2, vi y2), (0, .ref 170), (1, vi y1)] [vl (lo y9 (lo y19 (t 170 23))), .ref 170] s19 _
        refine pr_pE (k2 := 170) (z := lo y9 (lo y19 (t 170 23))) hE19 rfl rfl rfl rfl (by decide) rfl (by decide) rfl (i64_in _) (fit_l _) rfl rfl rfl (fun e => absurd e.2 (by decide)) (fun _ => trivial) fun s20 hE20 => ?_
        refine pr_n (pc2 := 418) (lv2 := [(5, vi (ipl y5 1)), (25, vl (lo y25 (t 170 26))), (23, vl (lo y23 (t 170 25))), (21, vl (lo y21 (t 170 24))), (19, vl (lo y19 (t 170 23))), (17, vl (lo y17 (t 170 22))), (27, vi (ior ys1 ys0)), (15, vl y15), (13, vl y13), (11, vl y11), (9, vl y9), (7, vl y7), (6, vi y6), (4, vi y4), (3, vi y3), (2, vi y2), (0, .ref 170), (1, vi y1)]) (st2 := [vl (lo y21 (t 170 24)), vl y11, .ref 170]) 3 (fun _ _ => rfl) ?_
        refine pr_l2 (a := y11) (b := lo y21 (t 170 24)) rfl rfl ?_
        show pr N2 K d tb_M155 419 [(5, vi (ipl y5 1)), (25, vl (lo y25 (t 170 26))), (23, vl (lo y23 (t 170 25))), (21, vl (lo y21 (t 170 24))), (19, vl (lo y19 (t 170 23))), (17, vl (lo y17 (t 170 22))), (27, vi (ior ys1 ys0)), (15, vl y15), (13, vl y13), (11, vl y11), (9, vl y9), (7, vl y7), (6, vi y6), (4, vi y4), (3, vi y3), (2, vi y2), (0, .ref 170), (1, vi y1)] [vl (lo y11 (lo y21 (t 170 24))), .ref 170] s20 _
        refine pr_pE (k2 := 170) (z := lo y11 (lo y21 (t 170 24))) hE20 rfl rfl rfl rfl (by decide) rfl (by decide) rfl (i64_in _) (fit_l _) rfl rfl rfl (fun e => absurd e.2 (by decide)) (fun _ => trivial) fun s21 hE21 => ?_
        refine pr_n (pc2 := 427) (lv2 := [(5, vi (ipl y5 1)), (25, vl (lo y25 (t 170 26))), (23, vl (lo y23 (t 170 25))), (21, vl (lo y21 (t 170 24))), (19, vl (lo y19 (t 170 23))), (17, vl (lo y17 (t 170 22))), (27, vi (ior ys1 ys0)), (15, vl y15), (13, vl y13), (11, vl y11), (9, vl y9), (7, vl y7), (6, vi y6), (4, vi y4), (3, vi y3), (2, vi y2), (0, .ref 170), (1, vi y1)]) (st2 := [vl (lo y23 (t 170 25)), vl y13, .ref 170]) 3 (fun _ _ => rfl) ?_
        refine pr_l2 (a := y13) (b := lo y23 (t 170 25)) rfl rfl ?_
        show pr N2 K d tb_M155 428 [(5, vi (ipl y5 1)), (25, vl (lo y25 (t 170 26))), (23, vl (lo y23 (t 170 25))), (21, vl (lo y21 (t 170 24))), (19, vl (lo y19 (t 170 23))), (17, vl (lo y17 (t 170 22))), (27, vi (ior ys1 ys0)), (15, vl y15), (13, vl y13), (11, vl y11), (9, vl y9), (7, vl y7), (6, vi y6), (4, vi y4), (3, vi y3), (2, vi y2), (0, .ref 170), (1, vi y1)] [vl (lo y13 (lo y23 (t 170 25))), .ref 170] s21 _
        refine pr_pE (k2 := 170) (z := lo y13 (lo y23 (t 170 25))) hE21 rfl rfl rfl rfl (by decide) rfl (by decide) rfl (i64_in _) (fit_l _) rfl rfl rfl (fun e => absurd e.2 (by decide)) (fun _ => trivial) fun s22 hE22 => ?_
        refine pr_n (pc2 := 436) (lv2 := [(5, vi (ipl y5 1)), (25, vl (lo y25 (t 170 26))), (23, vl (lo y23 (t 170 25))), (21, vl (lo y21 (t 170 24))), (19, vl (lo y19 (t 170 23))), (17, vl (lo y17 (t 170 22))), (27, vi (ior ys1 ys0)), (15, vl y15), (13, vl y13), (11, vl y11), (9, vl y9), (7, vl y7), (6, vi y6), (4, vi y4), (3, vi y3), (2, vi y2), (0, .ref 170), (1, vi y1)]) (st2 := [vl (lo y25 (t 170 26)), vl y15, .ref 170]) 3 (fun _ _ => rfl) ?_
        refine pr_l2 (a := y15) (b := lo y25 (t 170 26)) rfl rfl ?_
        show pr N2 K d tb_M155 437 [(5, vi (ipl y5 1)), (25, vl (lo y25 (t 170 26))), (23, vl (lo y23 (t 170 25))), (21, vl (lo y21 (t 170 24))), (19, vl (lo y19 (t 170 23))), (17, vl (lo y17 (t 170 22))), (27, vi (ior ys1 ys0)), (15, vl y15), (13, vl y13), (11, vl y11), (9, vl y9), (7, vl y7), (6, vi y6), (4, vi y4), (3, vi y3), (2, vi y2), (0, .ref 170), (1, vi y1)] [vl (lo y15 (lo y25 (t 170 26))), .ref 170] s22 _
        refine pr_pE (k2 := 170) (z := lo y15 (lo y25 (t 170 26))) hE22 rfl rfl rfl rfl (by decide) rfl (by decide) rfl (i64_in _) (fit_l _) rfl rfl rfl (fun e => absurd e.2 (by decide)) (fun _ => trivial) fun s23 hE23 => ?_
        refine pr_n (pc2 := 442) (lv2 := [(5, vi (ipl y5 1)), (25, vl (lo y25 (t 170 26))), (23, vl (lo y23 (t 170 25))), (21, vl (lo y21 (t 170 24))), (19, vl (lo y19 (t 170 23))), (17, vl (lo y17 (t 170 22))), (27, vi (ior ys1 ys0)), (15, vl y15), (13, vl y13), (11, vl y11), (9, vl y9), (7, vl y7), (6, vi y6), (4, vi y4), (3, vi y3), (2, vi y2), (0, .ref 170), (1, vi y1)]) (st2 := [vi (ior ys1 ys0)]) 1 (fun _ _ => rfl) ?_
        by_cases h24 : ior ys1 ys0 = 0
        · refine mq_t h24 ?_
          refine pr_if1t rfl rfl (i32_in _) h24 ?_
          refine pr_n (pc2 := 466) (lv2 := [(5, vi (ipl y5 1)), (25, vl (lo y25 (t 170 26))), (23, vl (lo y23 (t 170 25))), (21, vl (lo y21 (t 170 24))), (19, vl (lo y19 (t 170 23))), (17, vl (lo y17 (t 170 22))), (27, vi (ior ys1 ys0)), (15, vl y15), (13, vl y13), (11, vl y11), (9, vl y9), (7, vl y7), (6, vi y6), (4, vi y4), (3, vi y3), (2, vi y2), (0, .ref 170), (1, vi y1)]) (st2 := [vi 1]) 1 (fun _ _ => rfl) ?_
          refine pr_end (fun _ _ => rfl) ?_
          exact .inl ⟨_, 1, _, rfl, ⟨rfl, (by decide)⟩, rfl, hE23⟩
        · refine mq_f h24 ?_
          refine pr_if1f rfl rfl (i32_in _) h24 ?_
          refine pr_n (pc2 := 446) (lv2 := [(5, vi (ipl y5 1)), (25, vl (lo y25 (t 170 26))), (23, vl (lo y23 (t 170 25))), (21, vl (lo y21 (t 170 24))), (19, vl (lo y19 (t 170 23))), (17, vl (lo y17 (t 170 22))), (27, vi (ior ys1 ys0)), (15, vl y15), (13, vl y13), (11, vl y11), (9, vl y9), (7, vl y7), (6, vi y6), (4, vi y4), (3, vi y3), (2, vi y2), (0, .ref 170), (1, vi y1)]) (st2 := [.ref 170]) 1 (fun _ _ => rfl) ?_
          refine pr_gE (k2 := 170) (v := vi (t10 170 21)) hE23 rfl rfl rfl (by decide) rfl rfl rfl fun h25 => ?_
          have h25 : i32 (t10 170 21) := h25
          by_cases h26 : t10 170 21 < 0
          · refine mq_t h26 ?_
            refine pr_if1t rfl rfl h25 h26 ?_
            refine pr_n (pc2 := 462) (lv2 := [(5, vi (ipl y5 1)), (25, vl (lo y25 (t 170 26))), (23, vl (lo y23 (t 170 25))), (21, vl (lo y21 (t 170 24))), (19, vl (lo y19 (t 170 23))), (17, vl (lo y17 (t 170 22))), (27, vi (ior ys1 ys0)), (15, vl y15), (13, vl y13), (11, vl y11), (9, vl y9), (7, vl y7), (6, vi y6), (4, vi y4), (3, vi y3), (2, vi y2), (0, .ref 170), (1, vi y1)]) (st2 := [vi y2, .ref 170]) 2 (fun _ _ => rfl) ?_
            refine pr_pE (k2 := 170) (z := y2) hE23 rfl rfl rfl rfl (by decide) rfl (by decide) rfl (show i32 (y2) from hy2) (hf_int' _) rfl rfl rfl (fun e => absurd e.2 (by decide)) (fun _ => trivial) fun s27 hE27 => ?_
            refine pr_n (pc2 := 466) (lv2 := [(5, vi (ipl y5 1)), (25, vl (lo y25 (t 170 26))), (23, vl (lo y23 (t 170 25))), (21, vl (lo y21 (t 170 24))), (19, vl (lo y19 (t 170 23))), (17, vl (lo y17 (t 170 22))), (27, vi (ior ys1 ys0)), (15, vl y15), (13, vl y13), (11, vl y11), (9, vl y9), (7, vl y7), (6, vi y6), (4, vi y4), (3, vi y3), (2, vi y2), (0, .ref 170), (1, vi y1)]) (st2 := [vi 1]) 1 (fun _ _ => rfl) ?_
            refine pr_end (fun _ _ => rfl) ?_
            exact .inl ⟨_, 1, _, rfl, ⟨rfl, (by decide)⟩, rfl, hE27⟩
          · refine mq_f h26 ?_
            refine pr_if1f rfl rfl h25 h26 ?_
            refine pr_n (pc2 := 454) (lv2 := [(5, vi (ipl y5 1)), (25, vl (lo y25 (t 170 26))), (23, vl (lo y23 (t 170 25))), (21, vl (lo y21 (t 170 24))), (19, vl (lo y19 (t 170 23))), (17, vl (lo y17 (t 170 22))), (27, vi (ior ys1 ys0)), (15, vl y15), (13, vl y13), (11, vl y11), (9, vl y9), (7, vl y7), (6, vi y6), (4, vi y4), (3, vi y3), (2, vi y2), (0, .ref 170), (1, vi y1)]) (st2 := [.ref 170, vi y2]) 2 (fun _ _ => rfl) ?_
            refine pr_gE (k2 := 170) (v := vi (t10 170 21)) hE23 rfl rfl rfl (by decide) rfl rfl rfl fun h28 => ?_
            have h28 : i32 (t10 170 21) := h28
            by_cases h29 : t10 170 21 ≤ y2
            · refine mq_t h29 ?_
              refine pr_if2t rfl rfl hy2 h28 h29 ?_
              refine pr_n (pc2 := 466) (lv2 := [(5, vi (ipl y5 1)), (25, vl (lo y25 (t 170 26))), (23, vl (lo y23 (t 170 25))), (21, vl (lo y21 (t 170 24))), (19, vl (lo y19 (t 170 23))), (17, vl (lo y17 (t 170 22))), (27, vi (ior ys1 ys0)), (15, vl y15), (13, vl y13), (11, vl y11), (9, vl y9), (7, vl y7), (6, vi y6), (4, vi y4), (3, vi y3), (2, vi y2), (0, .ref 170), (1, vi y1)]) (st2 := [vi 1]) 1 (fun _ _ => rfl) ?_
              refine pr_end (fun _ _ => rfl) ?_
              exact .inl ⟨_, 1, _, rfl, ⟨rfl, (by decide)⟩, rfl, hE23⟩
            · refine mq_f h29 ?_
              refine pr_if2f rfl rfl hy2 h28 h29 ?_
              refine pr_n (pc2 := 462) (lv2 := [(5, vi (ipl y5 1)), (25, vl (lo y25 (t 170 26))), (23, vl (lo y23 (t 170 25))), (21, vl (lo y21 (t 170 24))), (19, vl (lo y19 (t 170 23))), (17, vl (lo y17 (t 170 22))), (27, vi (ior ys1 ys0)), (15, vl y15), (13, vl y13), (11, vl y11), (9, vl y9), (7, vl y7), (6, vi y6), (4, vi y4), (3, vi y3), (2, vi y2), (0, .ref 170), (1, vi y1)]) (st2 := [vi y2, .ref 170]) 2 (fun _ _ => rfl) ?_
              refine pr_pE (k2 := 170) (z := y2) hE23 rfl rfl rfl rfl (by decide) rfl (by decide) rfl (show i32 (y2) from hy2) (hf_int' _) rfl rfl rfl (fun e => absurd e.2 (by decide)) (fun _ => trivial) fun s30 hE30 => ?_
              refine pr_n (pc2 := 466) (lv2 := [(5, vi (ipl y5 1)), (25, vl (lo y25 (t 170 26))), (23, vl (lo y23 (t 170 25))), (21, vl (lo y21 (t 170 24))), (19, vl (lo y19 (t 170 23))), (17, vl (lo y17 (t 170 22))), (27, vi (ior ys1 ys0)), (15, vl y15), (13, vl y13), (11, vl y11), (9, vl y9), (7, vl y7), (6, vi y6), (4, vi y4), (3, vi y3), (2, vi y2), (0, .ref 170), (1, vi y1)]) (st2 := [vi 1]) 1 (fun _ _ => rfl) ?_
              refine pr_end (fun _ _ => rfl) ?_
              exact .inl ⟨_, 1, _, rfl, ⟨rfl, (by decide)⟩, rfl, hE30⟩
      · refine mq_f h11 ?_
        refine pr_if1f rfl rfl (i32_z hz10) h11 ?_
        refine pr_n (pc2 := 366) (lv2 := [(5, vi (ipl y5 1)), (25, vl (lo y25 (t 170 26))), (23, vl (lo y23 (t 170 25))), (21, vl (lo y21 (t 170 24))), (19, vl (lo y19 (t 170 23))), (17, vl (lo y17 (t 170 22))), (27, vi (ior ys1 ys0)), (15, vl y15), (13, vl y13), (11, vl y11), (9, vl y9), (7, vl y7), (6, vi y6), (4, vi y4), (3, vi y3), (2, vi y2), (0, .ref 170), (1, vi y1)]) (st2 := [vi 0]) 1 (fun _ _ => rfl) ?_
        refine pr_end (fun _ _ => rfl) ?_
        exact .inl ⟨_, 0, _, rfl, ⟨rfl, (by decide)⟩, rfl, hE10⟩
  · refine mq_f h7 ?_
    refine pr_if2f rfl rfl h6 (i32_n rfl) h7 ?_
    refine pr_n (pc2 := 334) (lv2 := [(5, vi (ipl y5 1)), (25, vl (lo y25 (t 170 26))), (23, vl (lo y23 (t 170 25))), (21, vl (lo y21 (t 170 24))), (19, vl (lo y19 (t 170 23))), (17, vl (lo y17 (t 170 22))), (27, vi (ior ys1 ys0)), (15, vl y15), (13, vl y13), (11, vl y11), (9, vl y9), (7, vl y7), (6, vi y6), (4, vi y4), (3, vi y3), (2, vi y2), (0, .ref 170), (1, vi y1)]) (st2 := [.ref 50, .ref 170]) 2 (fun _ _ => rfl) ?_
    refine pr_p1 (args := [.ref 50]) (rest := []) rfl rfl rfl rfl (Nat.le_of_ble_eq_true rfl) rfl (h_127 s t 50 hE isX_50) (fun z t3 => pu_127) ?_
    rintro _ z31 s31 ⟨rfl, hz31⟩ hX31 hE31
    show pr N2 K d tb_M155 337 [(5, vi (ipl y5 1)), (25, vl (lo y25 (t 170 26))), (23, vl (lo y23 (t 170 25))), (21, vl (lo y21 (t 170 24))), (19, vl (lo y19 (t 170 23))), (17, vl (lo y17 (t 170 22))), (27, vi (ior ys1 ys0)), (15, vl y15), (13, vl y13), (11, vl y11), (9, vl y9), (7, vl y7), (6, vi y6), (4, vi y4), (3, vi y3), (2, vi y2), (0, .ref 170), (1, vi y1)] [vi z31] s31 _
    by_cases h32 : z31 ≠ 0
    · refine mq_t h32 ?_
      refine pr_if1t rfl rfl (i32_z hz31) h32 ?_
      refine pr_n (pc2 := 349) (lv2 := [(5, vi (ipl y5 1)), (25, vl (lo y25 (t 170 26))), (23, vl (lo y23 (t 170 25))), (21, vl (lo y21 (t 170 24))), (19, vl (lo y19 (t 170 23))), (17, vl (lo y17 (t 170 22))), (27, vi (ior ys1 ys0)), (15, vl y15), (13, vl y13), (11, vl y11), (9, vl y9), (7, vl y7), (6, vi y6), (4, vi y4), (3, vi y3), (2, vi y2), (0, .ref 170), (1, vi y1)]) (st2 := [.ref 50, .ref 170]) 2 (fun _ _ => rfl) ?_
      refine pr_s1 (args := [.ref 50]) (rest := []) rfl rfl rfl rfl (Nat.le_of_ble_eq_true rfl) rfl (h_127 s31 t 50 hE31 isX_50) hX31 ?_
      rintro _ s33 ⟨rfl, hz33⟩ hE33
      show pr N2 K d tb_M155 352 [(5, vi (ipl y5 1)), (25, vl (lo y25 (t 170 26))), (23, vl (lo y23 (t 170 25))), (21, vl (lo y21 (t 170 24))), (19, vl (lo y19 (t 170 23))), (17, vl (lo y17 (t 170 22))), (27, vi (ior ys1 ys0)), (15, vl y15), (13, vl y13), (11, vl y11), (9, vl y9), (7, vl y7), (6, vi y6), (4, vi y4), (3, vi y3), (2, vi y2), (0, .ref 170), (1, vi y1)] [vi z31] s33 _
      refine pr_if1t rfl rfl (i32_z hz31) (show z31 ≠ 0 by omega) ?_
      show pr N2 K d tb_M155 134 [(5, vi (ipl y5 1)), (25, vl (lo y25 (t 170 26))), (23, vl (lo y23 (t 170 25))), (21, vl (lo y21 (t 170 24))), (19, vl (lo y19 (t 170 23))), (17, vl (lo y17 (t 170 22))), (27, vi (ior ys1 ys0)), (15, vl y15), (13, vl y13), (11, vl y11), (9, vl y9), (7, vl y7), (6, vi y6), (4, vi y4), (3, vi y3), (2, vi y2), (0, .ref 170), (1, vi y1)] [] s33 _
      exact ((ih N2 hN2).2.2.2.1) s33 t (ipl y5 1) (lo y25 (t 170 26)) (lo y23 (t 170 25)) (lo y21 (t 170 24)) (lo y19 (t 170 23)) (lo y17 (t 170 22)) (ior ys1 ys0) y15 y13 y11 y9 y7 y6 y4 y3 y2 y1 hE33 h6 (i64_in _) (i64_in _) (i64_in _) (i64_in _) (i64_in _) (i32_in _) hy15 hy13 hy11 hy9 hy7 hy6 hy4 hy3 hy2 hy1
    · refine mq_f h32 ?_
      refine pr_if1f rfl rfl (i32_z hz31) h32 ?_
      refine pr_n (pc2 := 341) (lv2 := [(5, vi (ipl y5 1)), (25, vl (lo y25 (t 170 26))), (23, vl (lo y23 (t 170 25))), (21, vl (lo y21 (t 170 24))), (19, vl (lo y19 (t 170 23))), (17, vl (lo y17 (t 170 22))), (27, vi (ior ys1 ys0)), (15, vl y15), (13, vl y13), (11, vl y11), (9, vl y9), (7, vl y7), (6, vi y6), (4, vi y4), (3, vi y3), (2, vi y2), (0, .ref 170), (1, vi y1)]) (st2 := [.ref 170]) 1 (fun _ _ => rfl) ?_
      refine pr_s1 (args := []) (rest := []) rfl rfl rfl rfl (Nat.le_of_ble_eq_true rfl) rfl (h_131 s31 t  hE31 ) q_bad0 ?_
      rintro _ s34 ⟨rfl, hz34⟩ hE34
      show pr N2 K d tb_M155 344 [(5, vi (ipl y5 1)), (25, vl (lo y25 (t 170 26))), (23, vl (lo y23 (t 170 25))), (21, vl (lo y21 (t 170 24))), (19, vl (lo y19 (t 170 23))), (17, vl (lo y17 (t 170 22))), (27, vi (ior ys1 ys0)), (15, vl y15), (13, vl y13), (11, vl y11), (9, vl y9), (7, vl y7), (6, vi y6), (4, vi y4), (3, vi y3), (2, vi y2), (0, .ref 170), (1, vi y1)] [vi 0] s34 _
      refine pr_end (fun _ _ => rfl) ?_
      exact .inl ⟨_, 0, _, rfl, ⟨rfl, (by decide)⟩, rfl, hE34⟩
set_option maxHeartbeats 20000000 in
set_option maxRecDepth 100000 in
theorem ru155_3 {N K d C : Nat} (h_123 : rT123 K d C) (h_127 : rT127 K d C) (h_131 : rT131 K d C) (h_136 : rT136 K d C) (h_138 : rT138 K d C) (h_140 : rT140 K d C) (h_141 : rT141 K d C) (h_142 : rT142 K d C) (ih : ∀ N2, N2 < N → rA155 N2 K d C) : rU155_3 N K d C := by
  intro s t y5 y25 y23 y21 y19 y17 y27 y15 y13 y11 y9 y7 y6 y4 y3 y2 y1 hE hy5 hy25 hy23 hy21 hy19 hy17 hy27 hy15 hy13 hy11 hy9 hy7 hy6 hy4 hy3 hy2 hy1
  have hC : C = 177 ∨ C = 186 := hE.1
  rw [rG_155_134]
  unfold rM155_134
  refine pr_lt (pc2 := 136) (lv2 := [(5, vi y5), (25, vl y25), (23, vl y23), (21, vl y21), (19, vl y19), (17, vl y17), (27, vi y27), (15, vl y15), (13, vl y13), (11, vl y11), (9, vl y9), (7, vl y7), (6, vi y6), (4, vi y4), (3, vi y3), (2, vi y2), (0, .ref 170), (1, vi y1)]) (st2 := [vi y5]) (fun _ _ => rfl) fun N2 hN2 => ?_
  refine pr_n (pc2 := 138) (lv2 := [(5, vi y5), (25, vl y25), (23, vl y23), (21, vl y21), (19, vl y19), (17, vl y17), (27, vi y27), (15, vl y15), (13, vl y13), (11, vl y11), (9, vl y9), (7, vl y7), (6, vi y6), (4, vi y4), (3, vi y3), (2, vi y2), (0, .ref 170), (1, vi y1)]) (st2 := [vi 6, vi y5]) 1 (fun _ _ => rfl) ?_
  by_cases h1 : y5 ≠ 6
  · refine mq_t h1 ?_
    refine pr_if2t rfl rfl hy5 (i32_n rfl) h1 ?_
    refine pr_n (pc2 := 148) (lv2 := [(5, vi y5), (25, vl y25), (23, vl y23), (21, vl y21), (19, vl y19), (17, vl y17), (27, vi y27), (15, vl y15), (13, vl y13), (11, vl y11), (9, vl y9), (7, vl y7), (6, vi y6), (4, vi y4), (3, vi y3), (2, vi y2), (0, .ref 170), (1, vi y1)]) (st2 := [vi y5]) 1 (fun _ _ => rfl) ?_
    by_cases h2 : y5 ≤ 0
    · refine mq_t h2 ?_
      refine pr_if1t rfl rfl hy5 h2 ?_
      refine pr_n (pc2 := 156) (lv2 := [(5, vi y5), (25, vl y25), (23, vl y23), (21, vl y21), (19, vl y19), (17, vl y17), (27, vi y27), (15, vl y15), (13, vl y13), (11, vl y11), (9, vl y9), (7, vl y7), (6, vi y6), (4, vi y4), (3, vi y3), (2, vi y2), (0, .ref 170), (1, vi y1)]) (st2 := [.ref 170]) 1 (fun _ _ => rfl) ?_
      refine pr_s1 (args := []) (rest := []) rfl rfl rfl rfl (Nat.le_of_ble_eq_true rfl) rfl (h_138 s t  hE ) q_rfg ?_
      rintro _ s3 ⟨rfl, _⟩ hE3
      show pr N2 K d tb_M155 159 [(5, vi y5), (25, vl y25), (23, vl y23), (21, vl y21), (19, vl y19), (17, vl y17), (27, vi y27), (15, vl y15), (13, vl y13), (11, vl y11), (9, vl y9), (7, vl y7), (6, vi y6), (4, vi y4), (3, vi y3), (2, vi y2), (0, .ref 170), (1, vi y1)] [] s3 _
      refine pr_n (pc2 := 160) (lv2 := [(5, vi y5), (25, vl y25), (23, vl y23), (21, vl y21), (19, vl y19), (17, vl y17), (27, vi y27), (15, vl y15), (13, vl y13), (11, vl y11), (9, vl y9), (7, vl y7), (6, vi y6), (4, vi y4), (3, vi y3), (2, vi y2), (0, .ref 170), (1, vi y1)]) (st2 := [.ref 170]) 1 (fun _ _ => rfl) ?_
      refine pr_get (v := .ref C) rfl rfl rfl (by decide) (rv_ref (show s3.1 170 19 = ((C : Nat) : Int) from hE3.2.2.1)) fun _ => ?_
      refine pr_get (v := .ref (C + 1)) rfl rfl (TG_C hC) (by decide) (rv_ref (hE3.2.1 C 0 (C + 1) (rc_C0 hC))) fun _ => ?_
      refine pr_n (pc2 := 170) (lv2 := [(5, vi y5), (25, vl y25), (23, vl y23), (21, vl y21), (19, vl y19), (17, vl y17), (27, vi y27), (15, vl y15), (13, vl y13), (11, vl y11), (9, vl y9), (7, vl y7), (6, vi y6), (4, vi y4), (3, vi y3), (2, vi y2), (0, .ref 170), (1, vi y1)]) (st2 := [vi y5, vi y4, .ref (C + 1)]) 2 (fun _ _ => rfl) ?_
      refine pr_i2 (a := y4) (b := y5) rfl rfl ?_
      show pr N2 K d tb_M155 171 [(5, vi y5), (25, vl y25), (23, vl y23), (21, vl y21), (19, vl y19), (17, vl y17), (27, vi y27), (15, vl y15), (13, vl y13), (11, vl y11), (9, vl y9), (7, vl y7), (6, vi y6), (4, vi y4), (3, vi y3), (2, vi y2), (0, .ref 170), (1, vi y1)] [vi (ipl y4 y5), .ref (C + 1)] s3 _
      have h4 : i32 (ipl y4 y5) := i32_in _
      refine pr_n (pc2 := 172) (lv2 := [(5, vi y5), (25, vl y25), (23, vl y23), (21, vl y21), (19, vl y19), (17, vl y17), (27, vi y27), (15, vl y15), (13, vl y13), (11, vl y11), (9, vl y9), (7, vl y7), (6, vi y6), (4, vi y4), (3, vi y3), (2, vi y2), (0, .ref 170), (1, vi y1)]) (st2 := [.ref 170, vi (ipl y4 y5), .ref (C + 1)]) 1 (fun _ _ => rfl) ?_
      refine pr_get (v := .ref C) rfl rfl rfl (by decide) (rv_ref (show s3.1 170 19 = ((C : Nat) : Int) from hE3.2.2.1)) fun _ => ?_
      refine pr_gE (k2 := 177) (v := vi ((rfg t) 177 1)) hE3 rfl rfl (TG_C hC) (by decide) rfl rfl rfl fun h5 => ?_
      have h5 : i32 ((rfg t) 177 1) := h5
      refine pr_sE (k2 := 178) (a := ipl y4 y5) (z := (rfg t) 177 1) hE3 rfl (show 96 ≤ C + 1 by omega) (TG_C1 hC) rfl h4 (by decide) rfl (show i32 ((rfg t) 177 1) from h5) (nD1 hC (by omega)) rfl rfl (fun e => absurd e.1 (show ¬ (C + 1 = 170) by omega)) (fun _ => trivial) fun h6 h7 s8 hE8 => ?_
      refine pr_n (pc2 := 182) (lv2 := [(5, vi y5), (25, vl y25), (23, vl y23), (21, vl y21), (19, vl y19), (17, vl y17), (27, vi y27), (15, vl y15), (13, vl y13), (11, vl y11), (9, vl y9), (7, vl y7), (6, vi y6), (4, vi y4), (3, vi y3), (2, vi y2), (0, .ref 170), (1, vi y1)]) (st2 := [vi 1, vi y1, .ref 170]) 3 (fun _ _ => rfl) ?_
      refine pr_i2 (a := y1) (b := 1) rfl rfl ?_
      show pr N2 K d tb_M155 183 [(5, vi y5), (25, vl y25), (23, vl y23), (21, vl y21), (19, vl y19), (17, vl y17), (27, vi y27), (15, vl y15), (13, vl y13), (11, vl y11), (9, vl y9), (7, vl y7), (6, vi y6), (4, vi y4), (3, vi y3), (2, vi y2), (0, .ref 170), (1, vi y1)] [vi (ipl y1 1), .ref 170] s8 _
      have h9 : i32 (ipl y1 1) := i32_in _
      refine pr_m1 (args := [vi (ipl y1 1)]) (rest := []) rfl rfl rfl rfl (Nat.le_of_ble_eq_true rfl) rfl (h_141 s8 (up2 ((rfg t)) 178 ((ipl y4 y5).toNat) ((rfg t) 177 1)) (ipl y1 1) hE8 h9) ?_
      rintro _ z10 t10 s10 ⟨rfl, hz10⟩ hE10
      show pr N2 K d tb_M155 186 [(5, vi y5), (25, vl y25), (23, vl y23), (21, vl y21), (19, vl y19), (17, vl y17), (27, vi y27), (15, vl y15), (13, vl y13), (11, vl y11), (9, vl y9), (7, vl y7), (6, vi y6), (4, vi y4), (3, vi y3), (2, vi y2), (0, .ref 170), (1, vi y1)] [vi z10] s10 _
      by_cases h11 : z10 ≠ 0
      · refine mq_t h11 ?_
        refine pr_if1t rfl rfl (i32_z hz10) h11 ?_
        refine pr_n (pc2 := 194) (lv2 := [(5, vi y5), (25, vl y25), (23, vl y23), (21, vl y21), (19, vl y19), (17, vl y17), (27, vi y27), (15, vl y15), (13, vl y13), (11, vl y11), (9, vl y9), (7, vl y7), (6, vi y6), (4, vi y4), (3, vi y3), (2, vi y2), (0, .ref 170), (1, vi y1)]) (st2 := [vi 20, .ref 170]) 2 (fun _ _ => rfl) ?_
        refine pr_s1 (args := [vi 20]) (rest := []) rfl rfl rfl rfl (Nat.le_of_ble_eq_true rfl) rfl (h_140 s10 t10 20 hE10 (i32_n rfl)) q_put1 ?_
        rintro _ s12 ⟨rfl, hz12⟩ hE12
        show pr N2 K d tb_M155 197 [(5, vi y5), (25, vl y25), (23, vl y23), (21, vl y21), (19, vl y19), (17, vl y17), (27, vi y27), (15, vl y15), (13, vl y13), (11, vl y11), (9, vl y9), (7, vl y7), (6, vi y6), (4, vi y4), (3, vi y3), (2, vi y2), (0, .ref 170), (1, vi y1)] [vi (ptz t10)] s12 _
        refine pr_n (pc2 := 203) (lv2 := [(5, vi y5), (25, vl y25), (23, vl y23), (21, vl y21), (19, vl y19), (17, vl y17), (27, vi y27), (15, vl y15), (13, vl y13), (11, vl y11), (9, vl y9), (7, vl y7), (6, vi y6), (4, vi y4), (3, vi y3), (2, vi y2), (0, .ref 170), (1, vi y1)]) (st2 := [.ref 170, vl y17, vi y27]) 4 (fun _ _ => rfl) ?_
        refine pr_gE (k2 := 170) (v := vl (t10 170 23)) hE12 rfl rfl rfl (by decide) rfl rfl rfl fun h13 => ?_
        have h13 : i64 (t10 170 23) := h13
        refine pr_n (pc2 := 207) (lv2 := [(5, vi y5), (25, vl y25), (23, vl y23), (21, vl y21), (19, vl y19), (17, vl y17), (27, vi y27), (15, vl y15), (13, vl y13), (11, vl y11), (9, vl y9), (7, vl y7), (6, vi y6), (4, vi y4), (3, vi y3), (2, vi y2), (0, .ref 170), (1, vi y1)]) (st2 := [.ref 170, vl (t10 170 23), vl y17, vi y27]) 1 (fun _ _ => rfl) ?_
        refine pr_gE (k2 := 170) (v := vl (t10 170 22)) hE12 rfl rfl rfl (by decide) rfl rfl rfl fun h14 => ?_
        have h14 : i64 (t10 170 22) := h14
        refine pr_l2 (a := t10 170 23) (b := t10 170 22) rfl rfl ?_
        show pr N2 K d tb_M155 211 [(5, vi y5), (25, vl y25), (23, vl y23), (21, vl y21), (19, vl y19), (17, vl y17), (27, vi y27), (15, vl y15), (13, vl y13), (11, vl y11), (9, vl y9), (7, vl y7), (6, vi y6), (4, vi y4), (3, vi y3), (2, vi y2), (0, .ref 170), (1, vi y1)] [vl (lo (t10 170 23) (t10 170 22)), vl y17, vi y27] s12 _
        refine pr_l2 (a := y17) (b := lo (t10 170 23) (t10 170 22)) rfl rfl ?_
        show pr N2 K d tb_M155 212 [(5, vi y5), (25, vl y25), (23, vl y23), (21, vl y21), (19, vl y19), (17, vl y17), (27, vi y27), (15, vl y15), (13, vl y13), (11, vl y11), (9, vl y9), (7, vl y7), (6, vi y6), (4, vi y4), (3, vi y3), (2, vi y2), (0, .ref 170), (1, vi y1)] [vl (la y17 (lo (t10 170 23) (t10 170 22))), vi y27] s12 _
        refine pr_n (pc2 := 213) (lv2 := [(5, vi y5), (25, vl y25), (23, vl y23), (21, vl y21), (19, vl y19), (17, vl y17), (27, vi y27), (15, vl y15), (13, vl y13), (11, vl y11), (9, vl y9), (7, vl y7), (6, vi y6), (4, vi y4), (3, vi y3), (2, vi y2), (0, .ref 170), (1, vi y1)]) (st2 := [vl 0, vl (la y17 (lo (t10 170 23) (t10 170 22))), vi y27]) 1 (fun _ _ => rfl) ?_
        refine pr_lcmp (a := la y17 (lo (t10 170 23) (t10 170 22))) (b := 0) rfl (i64_in _) (i64_n rfl) ?_
        by_cases h15 : la y17 (lo (t10 170 23) (t10 170 22)) ≠ 0
        · refine mq_t h15 ?_
          refine pr_if1t rfl rfl lc_i32 (lc_ne.mpr h15) ?_
          refine pr_n (pc2 := 273) (lv2 := [(5, vi y5), (25, vl y25), (23, vl y23), (21, vl y21), (19, vl y19), (17, vl y17), (27, vi y27), (15, vl y15), (13, vl y13), (11, vl y11), (9, vl y9), (7, vl y7), (6, vi y6), (4, vi y4), (3, vi y3), (2, vi y2), (0, .ref 170), (1, vi y1)]) (st2 := [vi 1, vi y27]) 2 (fun _ _ => rfl) ?_
          exact ((ih N2 hN2).2.2.2.2) s12 ((pt1 t10 20)) y5 y25 y23 y21 y19 y17 y27 y15 y13 y11 y9 y7 y6 y4 y3 y2 y1 1 y27 hE12 hy5 hy25 hy23 hy21 hy19 hy17 hy27 hy15 hy13 hy11 hy9 hy7 hy6 hy4 hy3 hy2 hy1 (i32_n rfl) hy27
        · refine mq_f h15 ?_
          refine pr_if1f rfl rfl lc_i32 (fun e => h15 (lc_ne.mp e)) ?_
          refine pr_n (pc2 := 218) (lv2 := [(5, vi y5), (25, vl y25), (23, vl y23), (21, vl y21), (19, vl y19), (17, vl y17), (27, vi y27), (15, vl y15), (13, vl y13), (11, vl y11), (9, vl y9), (7, vl y7), (6, vi y6), (4, vi y4), (3, vi y3), (2, vi y2), (0, .ref 170), (1, vi y1)]) (st2 := [.ref 170, vi y27]) 1 (fun _ _ => rfl) ?_
          refine pr_gE (k2 := 170) (v := vl (t10 170 22)) hE12 rfl rfl rfl (by decide) rfl rfl rfl fun h16 => ?_
          have h16 : i64 (t10 170 22) := h16
          refine pr_n (pc2 := 225) (lv2 := [(5, vi y5), (25, vl y25), (23, vl y23), (21, vl y21), (19, vl y19), (17, vl y17), (27, vi y27), (15, vl y15), (13, vl y13), (11, vl y11), (9, vl y9), (7, vl y7), (6, vi y6), (4, vi y4), (3, vi y3), (2, vi y2), (0, .ref 170), (1, vi y1)]) (st2 := [vl y17, vl y19, vl (t10 170 22), vi y27]) 2 (fun _ _ => rfl) ?_
          refine pr_l2 (a := y19) (b := y17) rfl rfl ?_
          show pr N2 K d tb_M155 226 [(5, vi y5), (25, vl y25), (23, vl y23), (21, vl y21), (19, vl y19), (17, vl y17), (27, vi y27), (15, vl y15), (13, vl y13), (11, vl y11), (9, vl y9), (7, vl y7), (6, vi y6), (4, vi y4), (3, vi y3), (2, vi y2), (0, .ref 170), (1, vi y1)] [vl (lo y19 y17), vl (t10 170 22), vi y27] s12 _
          refine pr_l2 (a := t10 170 22) (b := lo y19 y17) rfl rfl ?_
          show pr N2 K d tb_M155 227 [(5, vi y5), (25, vl y25), (23, vl y23), (21, vl y21), (19, vl y19), (17, vl y17), (27, vi y27), (15, vl y15), (13, vl y13), (11, vl y11), (9, vl y9), (7, vl y7), (6, vi y6), (4, vi y4), (3, vi y3), (2, vi y2), (0, .ref 170), (1, vi y1)] [vl (la (t10 170 22) (lo y19 y17)), vi y27] s12 _
          refine pr_n (pc2 := 228) (lv2 := [(5, vi y5), (25, vl y25), (23, vl y23), (21, vl y21), (19, vl y19), (17, vl y17), (27, vi y27), (15, vl y15), (13, vl y13), (11, vl y11), (9, vl y9), (7, vl y7), (6, vi y6), (4, vi y4), (3, vi y3), (2, vi y2), (0, .ref 170), (1, vi y1)]) (st2 := [vl 0, vl (la (t10 170 22) (lo y19 y17)), vi y27]) 1 (fun _ _ => rfl) ?_
          refine pr_lcmp (a := la (t10 170 22) (lo y19 y17)) (b := 0) rfl (i64_in _) (i64_n rfl) ?_
          by_cases h17 : la (t10 170 22) (lo y19 y17) ≠ 0
          · refine mq_t h17 ?_
            refine pr_if1t rfl rfl lc_i32 (lc_ne.mpr h17) ?_
            refine pr_n (pc2 := 273) (lv2 := [(5, vi y5), (25, vl y25), (23, vl y23), (21, vl y21), (19, vl y19), (17, vl y17), (27, vi y27), (15, vl y15), (13, vl y13), (11, vl y11), (9, vl y9), (7, vl y7), (6, vi y6), (4, vi y4), (3, vi y3), (2, vi y2), (0, .ref 170), (1, vi y1)]) (st2 := [vi 1, vi y27]) 2 (fun _ _ => rfl) ?_
            exact ((ih N2 hN2).2.2.2.2) s12 ((pt1 t10 20)) y5 y25 y23 y21 y19 y17 y27 y15 y13 y11 y9 y7 y6 y4 y3 y2 y1 1 y27 hE12 hy5 hy25 hy23 hy21 hy19 hy17 hy27 hy15 hy13 hy11 hy9 hy7 hy6 hy4 hy3 hy2 hy1 (i32_n rfl) hy27
          · refine mq_f h17 ?_
            refine pr_if1f rfl rfl lc_i32 (fun e => h17 (lc_ne.mp e)) ?_
            refine pr_n (pc2 := 235) (lv2 := [(5, vi y5), (25, vl y25), (23, vl y23), (21, vl y21), (19, vl y19), (17, vl y17), (27, vi y27), (15, vl y15), (13, vl y13), (11, vl y11), (9, vl y9), (7, vl y7), (6, vi y6), (4, vi y4), (3, vi y3), (2, vi y2), (0, .ref 170), (1, vi y1)]) (st2 := [.ref 170, vl y21, vi y27]) 2 (fun _ _ => rfl) ?_
            refine pr_gE (k2 := 170) (v := vl (t10 170 24)) hE12 rfl rfl rfl (by decide) rfl rfl rfl fun h18 => ?_
            have h18 : i64 (t10 170 24) := h18
            refine pr_l2 (a := y21) (b := t10 170 24) rfl rfl ?_
            show pr N2 K d tb_M155 239 [(5, vi y5), (25, vl y25), (23, vl y23), (21, vl y21), (19, vl y19), (17, vl y17), (27, vi y27), (15, vl y15), (13, vl y13), (11, vl y11), (9, vl y9), (7, vl y7), (6, vi y6), (4, vi y4), (3, vi y3), (2, vi y2), (0, .ref 170), (1, vi y1)] [vl (la y21 (t10 170 24)), vi y27] s12 _
            refine pr_n (pc2 := 240) (lv2 := [(5, vi y5), (25, vl y25), (23, vl y23), (21, vl y21), (19, vl y19), (17, vl y17), (27, vi y27), (15, vl y15), (13, vl y13), (11, vl y11), (9, vl y9), (7, vl y7), (6, vi y6), (4, vi y4), (3, vi y3), (2, vi y2), (0, .ref 170), (1, vi y1)]) (st2 := [vl 0, vl (la y21 (t10 170 24)), vi y27]) 1 (fun _ _ => rfl) ?_
            refine pr_lcmp (a := la y21 (t10 170 24)) (b := 0) rfl (i64_in _) (i64_n rfl) ?_
            by_cases h19 : la y21 (t10 170 24) ≠ 0
            · refine mq_t h19 ?_
              refine pr_if1t rfl rfl lc_i32 (lc_ne.mpr h19) ?_
              refine pr_n (pc2 := 273) (lv2 := [(5, vi y5), (25, vl y25), (23, vl y23), (21, vl y21), (19, vl y19), (17, vl y17), (27, vi y27), (15, vl y15), (13, vl y13), (11, vl y11), (9, vl y9), (7, vl y7), (6, vi y6), (4, vi y4), (3, vi y3), (2, vi y2), (0, .ref 170), (1, vi y1)]) (st2 := [vi 1, vi y27]) 2 (fun _ _ => rfl) ?_
              exact ((ih N2 hN2).2.2.2.2) s12 ((pt1 t10 20)) y5 y25 y23 y21 y19 y17 y27 y15 y13 y11 y9 y7 y6 y4 y3 y2 y1 1 y27 hE12 hy5 hy25 hy23 hy21 hy19 hy17 hy27 hy15 hy13 hy11 hy9 hy7 hy6 hy4 hy3 hy2 hy1 (i32_n rfl) hy27
            · refine mq_f h19 ?_
              refine pr_if1f rfl rfl lc_i32 (fun e => h19 (lc_ne.mp e)) ?_
              refine pr_n (pc2 := 247) (lv2 := [(5, vi y5), (25, vl y25), (23, vl y23), (21, vl y21), (19, vl y19), (17, vl y17), (27, vi y27), (15, vl y15), (13, vl y13), (11, vl y11), (9, vl y9), (7, vl y7), (6, vi y6), (4, vi y4), (3, vi y3), (2, vi y2), (0, .ref 170), (1, vi y1)]) (st2 := [.ref 170, vl y23, vi y27]) 2 (fun _ _ => rfl) ?_
              refine pr_gE (k2 := 170) (v := vl (t10 170 25)) hE12 rfl rfl rfl (by decide) rfl rfl rfl fun h20 => ?_
              have h20 : i64 (t10 170 25) := h20
              refine pr_l2 (a := y23) (b := t10 170 25) rfl rfl ?_
              show pr N2 K d tb_M155 251 [(5, vi y5), (25, vl y25), (23, vl y23), (21, vl y21), (19, vl y19), (17, vl y17), (27, vi y27), (15, vl y15), (13, vl y13), (11, vl y11), (9, vl y9), (7, vl y7), (6, vi y6), (4, vi y4), (3, vi y3), (2, vi y2), (0, .ref 170), (1, vi y1)] [vl (la y23 (t10 170 25)), vi y27] s12 _
              refine pr_n (pc2 := 252) (lv2 := [(5, vi y5), (25, vl y25), (23, vl y23), (21, vl y21), (19, vl y19), (17, vl y17), (27, vi y27), (15, vl y15), (13, vl y13), (11, vl y11), (9, vl y9), (7, vl y7), (6, vi y6), (4, vi y4), (3, vi y3), (2, vi y2), (0, .ref 170), (1, vi y1)]) (st2 := [vl 0, vl (la y23 (t10 170 25)), vi y27]) 1 (fun _ _ => rfl) ?_
              refine pr_lcmp (a := la y23 (t10 170 25)) (b := 0) rfl (i64_in _) (i64_n rfl) ?_
              by_cases h21 : la y23 (t10 170 25) ≠ 0
              · refine mq_t h21 ?_
                refine pr_if1t rfl rfl lc_i32 (lc_ne.mpr h21) ?_
                refine pr_n (pc2 := 273) (lv2 := [(5, vi y5), (25, vl y25), (23, vl y23), (21, vl y21), (19, vl y19), (17, vl y17), (27, vi y27), (15, vl y15), (13, vl y13), (11, vl y11), (9, vl y9), (7, vl y7), (6, vi y6), (4, vi y4), (3, vi y3), (2, vi y2), (0, .ref 170), (1, vi y1)]) (st2 := [vi 1, vi y27]) 2 (fun _ _ => rfl) ?_
                exact ((ih N2 hN2).2.2.2.2) s12 ((pt1 t10 20)) y5 y25 y23 y21 y19 y17 y27 y15 y13 y11 y9 y7 y6 y4 y3 y2 y1 1 y27 hE12 hy5 hy25 hy23 hy21 hy19 hy17 hy27 hy15 hy13 hy11 hy9 hy7 hy6 hy4 hy3 hy2 hy1 (i32_n rfl) hy27
              · refine mq_f h21 ?_
                refine pr_if1f rfl rfl lc_i32 (fun e => h21 (lc_ne.mp e)) ?_
                refine pr_n (pc2 := 259) (lv2 := [(5, vi y5), (25, vl y25), (23, vl y23), (21, vl y21), (19, vl y19), (17, vl y17), (27, vi y27), (15, vl y15), (13, vl y13), (11, vl y11), (9, vl y9), (7, vl y7), (6, vi y6), (4, vi y4), (3, vi y3), (2, vi y2), (0, .ref 170), (1, vi y1)]) (st2 := [.ref 170, vl y25, vi y27]) 2 (fun _ _ => rfl) ?_
                refine pr_gE (k2 := 170) (v := vl (t10 170 26)) hE12 rfl rfl rfl (by decide) rfl rfl rfl fun h22 => ?_
                have h22 : i64 (t10 170 26) := h22
                refine pr_l2 (a := y25) (b := t10 170 26) rfl rfl ?_
                show pr N2 K d tb_M155 263 [(5, vi y5), (25, vl y25), (23, vl y23), (21, vl y21), (19, vl y19), (17, vl y17), (27, vi y27), (15, vl y15), (13, vl y13), (11, vl y11), (9, vl y9), (7, vl y7), (6, vi y6), (4, vi y4), (3, vi y3), (2, vi y2), (0, .ref 170), (1, vi y1)] [vl (la y25 (t10 170 26)), vi y27] s12 _
                refine pr_n (pc2 := 264) (lv2 := [(5, vi y5), (25, vl y25), (23, vl y23), (21, vl y21), (19, vl y19), (17, vl y17), (27, vi y27), (15, vl y15), (13, vl y13), (11, vl y11), (9, vl y9), (7, vl y7), (6, vi y6), (4, vi y4), (3, vi y3), (2, vi y2), (0, .ref 170), (1, vi y1)]) (st2 := [vl 0, vl (la y25 (t10 170 26)), vi y27]) 1 (fun _ _ => rfl) ?_
                refine pr_lcmp (a := la y25 (t10 170 26)) (b := 0) rfl (i64_in _) (i64_n rfl) ?_
                by_cases h23 : la y25 (t10 170 26) = 0
                · refine mq_t h23 ?_
                  refine pr_if1t rfl rfl lc_i32 (lc_eq.mpr h23) ?_
                  refine pr_n (pc2 := 273) (lv2 := [(5, vi y5), (25, vl y25), (23, vl y23), (21, vl y21), (19, vl y19), (17, vl y17), (27, vi y27), (15, vl y15), (13, vl y13), (11, vl y11), (9, vl y9), (7, vl y7), (6, vi y6), (4, vi y4), (3, vi y3), (2, vi y2), (0, .ref 170), (1, vi y1)]) (st2 := [vi 0, vi y27]) 1 (fun _ _ => rfl) ?_
                  exact ((ih N2 hN2).2.2.2.2) s12 ((pt1 t10 20)) y5 y25 y23 y21 y19 y17 y27 y15 y13 y11 y9 y7 y6 y4 y3 y2 y1 0 y27 hE12 hy5 hy25 hy23 hy21 hy19 hy17 hy27 hy15 hy13 hy11 hy9 hy7 hy6 hy4 hy3 hy2 hy1 (i32_n rfl) hy27
                · refine mq_f h23 ?_
                  refine pr_if1f rfl rfl lc_i32 (fun e => h23 (lc_eq.mp e)) ?_
                  refine pr_n (pc2 := 273) (lv2 := [(5, vi y5), (25, vl y25), (23, vl y23), (21, vl y21), (19, vl y19), (17, vl y17), (27, vi y27), (15, vl y15), (13, vl y13), (11, vl y11), (9, vl y9), (7, vl y7), (6, vi y6), (4, vi y4), (3, vi y3), (2, vi y2), (0, .ref 170), (1, vi y1)]) (st2 := [vi 1, vi y27]) 2 (fun _ _ => rfl) ?_
                  exact ((ih N2 hN2).2.2.2.2) s12 ((pt1 t10 20)) y5 y25 y23 y21 y19 y17 y27 y15 y13 y11 y9 y7 y6 y4 y3 y2 y1 1 y27 hE12 hy5 hy25 hy23 hy21 hy19 hy17 hy27 hy15 hy13 hy11 hy9 hy7 hy6 hy4 hy3 hy2 hy1 (i32_n rfl) hy27
      · refine mq_f h11 ?_
        refine pr_if1f rfl rfl (i32_z hz10) h11 ?_
        refine pr_n (pc2 := 190) (lv2 := [(5, vi y5), (25, vl y25), (23, vl y23), (21, vl y21), (19, vl y19), (17, vl y17), (27, vi y27), (15, vl y15), (13, vl y13), (11, vl y11), (9, vl y9), (7, vl y7), (6, vi y6), (4, vi y4), (3, vi y3), (2, vi y2), (0, .ref 170), (1, vi y1)]) (st2 := [vi 0]) 1 (fun _ _ => rfl) ?_
        refine pr_end (fun _ _ => rfl) ?_
        exact .inl ⟨_, 0, _, rfl, ⟨rfl, (by decide)⟩, rfl, hE10⟩
    · refine mq_f h2 ?_
      refine pr_if1f rfl rfl hy5 h2 ?_
      refine pr_n (pc2 := 152) (lv2 := [(5, vi y5), (25, vl y25), (23, vl y23), (21, vl y21), (19, vl y19), (17, vl y17), (27, vi y27), (15, vl y15), (13, vl y13), (11, vl y11), (9, vl y9), (7, vl y7), (6, vi y6), (4, vi y4), (3, vi y3), (2, vi y2), (0, .ref 170), (1, vi y1)]) (st2 := [.ref 170]) 1 (fun _ _ => rfl) ?_
      refine pr_m1 (args := []) (rest := []) rfl rfl rfl rfl (Nat.le_of_ble_eq_true rfl) rfl (h_123 s t  hE ) ?_
      rintro _ _ t24 s24 ⟨rfl, rfl⟩ hE24
      show pr N2 K d tb_M155 155 [(5, vi y5), (25, vl y25), (23, vl y23), (21, vl y21), (19, vl y19), (17, vl y17), (27, vi y27), (15, vl y15), (13, vl y13), (11, vl y11), (9, vl y9), (7, vl y7), (6, vi y6), (4, vi y4), (3, vi y3), (2, vi y2), (0, .ref 170), (1, vi y1)] [] s24 _
      refine pr_n (pc2 := 156) (lv2 := [(5, vi y5), (25, vl y25), (23, vl y23), (21, vl y21), (19, vl y19), (17, vl y17), (27, vi y27), (15, vl y15), (13, vl y13), (11, vl y11), (9, vl y9), (7, vl y7), (6, vi y6), (4, vi y4), (3, vi y3), (2, vi y2), (0, .ref 170), (1, vi y1)]) (st2 := [.ref 170]) 1 (fun _ _ => rfl) ?_
      refine pr_s1 (args := []) (rest := []) rfl rfl rfl rfl (Nat.le_of_ble_eq_true rfl) rfl (h_138 s24 t24  hE24 ) q_rfg ?_
      rintro _ s25 ⟨rfl, _⟩ hE25
      show pr N2 K d tb_M155 159 [(5, vi y5), (25, vl y25), (23, vl y23), (21, vl y21), (19, vl y19), (17, vl y17), (27, vi y27), (15, vl y15), (13, vl y13), (11, vl y11), (9, vl y9), (7, vl y7), (6, vi y6), (4, vi y4), (3, vi y3), (2, vi y2), (0, .ref 170), (1, vi y1)] [] s25 _
      refine pr_n (pc2 := 160) (lv2 := [(5, vi y5), (25, vl y25), (23, vl y23), (21, vl y21), (19, vl y19), (17, vl y17), (27, vi y27), (15, vl y15), (13, vl y13), (11, vl y11), (9, vl y9), (7, vl y7), (6, vi y6), (4, vi y4), (3, vi y3), (2, vi y2), (0, .ref 170), (1, vi y1)]) (st2 := [.ref 170]) 1 (fun _ _ => rfl) ?_
      refine pr_get (v := .ref C) rfl rfl rfl (by decide) (rv_ref (show s25.1 170 19 = ((C : Nat) : Int) from hE25.2.2.1)) fun _ => ?_
      refine pr_get (v := .ref (C + 1)) rfl rfl (TG_C hC) (by decide) (rv_ref (hE25.2.1 C 0 (C + 1) (rc_C0 hC))) fun _ => ?_
      refine pr_n (pc2 := 170) (lv2 := [(5, vi y5), (25, vl y25), (23, vl y23), (21, vl y21), (19, vl y19), (17, vl y17), (27, vi y27), (15, vl y15), (13, vl y13), (11, vl y11), (9, vl y9), (7, vl y7), (6, vi y6), (4, vi y4), (3, vi y3), (2, vi y2), (0, .ref 170), (1, vi y1)]) (st2 := [vi y5, vi y4, .ref (C + 1)]) 2 (fun _ _ => rfl) ?_
      refine pr_i2 (a := y4) (b := y5) rfl rfl ?_
      show pr N2 K d tb_M155 171 [(5, vi y5), (25, vl y25), (23, vl y23), (21, vl y21), (19, vl y19), (17, vl y17), (27, vi y27), (15, vl y15), (13, vl y13), (11, vl y11), (9, vl y9), (7, vl y7), (6, vi y6), (4, vi y4), (3, vi y3), (2, vi y2), (0, .ref 170), (1, vi y1)] [vi (ipl y4 y5), .ref (C + 1)] s25 _
      have h26 : i32 (ipl y4 y5) := i32_in _
      refine pr_n (pc2 := 172) (lv2 := [(5, vi y5), (25, vl y25), (23, vl y23), (21, vl y21), (19, vl y19), (17, vl y17), (27, vi y27), (15, vl y15), (13, vl y13), (11, vl y11), (9, vl y9), (7, vl y7), (6, vi y6), (4, vi y4), (3, vi y3), (2, vi y2), (0, .ref 170), (1, vi y1)]) (st2 := [.ref 170, vi (ipl y4 y5), .ref (C + 1)]) 1 (fun _ _ => rfl) ?_
      refine pr_get (v := .ref C) rfl rfl rfl (by decide) (rv_ref (show s25.1 170 19 = ((C : Nat) : Int) from hE25.2.2.1)) fun _ => ?_
      refine pr_gE (k2 := 177) (v := vi ((rfg t24) 177 1)) hE25 rfl rfl (TG_C hC) (by decide) rfl rfl rfl fun h27 => ?_
      have h27 : i32 ((rfg t24) 177 1) := h27
      refine pr_sE (k2 := 178) (a := ipl y4 y5) (z := (rfg t24) 177 1) hE25 rfl (show 96 ≤ C + 1 by omega) (TG_C1 hC) rfl h26 (by decide) rfl (show i32 ((rfg t24) 177 1) from h27) (nD1 hC (by omega)) rfl rfl (fun e => absurd e.1 (show ¬ (C + 1 = 170) by omega)) (fun _ => trivial) fun h28 h29 s30 hE30 => ?_
      refine pr_n (pc2 := 182) (lv2 := [(5, vi y5), (25, vl y25), (23, vl y23), (21, vl y21), (19, vl y19), (17, vl y17), (27, vi y27), (15, vl y15), (13, vl y13), (11, vl y11), (9, vl y9), (7, vl y7), (6, vi y6), (4, vi y4), (3, vi y3), (2, vi y2), (0, .ref 170), (1, vi y1)]) (st2 := [vi 1, vi y1, .ref 170]) 3 (fun _ _ => rfl) ?_
      refine pr_i2 (a := y1) (b := 1) rfl rfl ?_
      show pr N2 K d tb_M155 183 [(5, vi y5), (25, vl y25), (23, vl y23), (21, vl y21), (19, vl y19), (17, vl y17), (27, vi y27), (15, vl y15), (13, vl y13), (11, vl y11), (9, vl y9), (7, vl y7), (6, vi y6), (4, vi y4), (3, vi y3), (2, vi y2), (0, .ref 170), (1, vi y1)] [vi (ipl y1 1), .ref 170] s30 _
      have h31 : i32 (ipl y1 1) := i32_in _
      refine pr_m1 (args := [vi (ipl y1 1)]) (rest := []) rfl rfl rfl rfl (Nat.le_of_ble_eq_true rfl) rfl (h_141 s30 (up2 ((rfg t24)) 178 ((ipl y4 y5).toNat) ((rfg t24) 177 1)) (ipl y1 1) hE30 h31) ?_
      rintro _ z32 t32 s32 ⟨rfl, hz32⟩ hE32
      show pr N2 K d tb_M155 186 [(5, vi y5), (25, vl y25), (23, vl y23), (21, vl y21), (19, vl y19), (17, vl y17), (27, vi y27), (15, vl y15), (13, vl y13), (11, vl y11), (9, vl y9), (7, vl y7), (6, vi y6), (4, vi y4), (3, vi y3), (2, vi y2), (0, .ref 170), (1, vi y1)] [vi z32] s32 _
      by_cases h33 : z32 ≠ 0
      · refine mq_t h33 ?_
        refine pr_if1t rfl rfl (i32_z hz32) h33 ?_
        refine pr_n (pc2 := 194) (lv2 := [(5, vi y5), (25, vl y25), (23, vl y23), (21, vl y21), (19, vl y19), (17, vl y17), (27, vi y27), (15, vl y15), (13, vl y13), (11, vl y11), (9, vl y9), (7, vl y7), (6, vi y6), (4, vi y4), (3, vi y3), (2, vi y2), (0, .ref 170), (1, vi y1)]) (st2 := [vi 20, .ref 170]) 2 (fun _ _ => rfl) ?_
        refine pr_s1 (args := [vi 20]) (rest := []) rfl rfl rfl rfl (Nat.le_of_ble_eq_true rfl) rfl (h_140 s32 t32 20 hE32 (i32_n rfl)) q_put1 ?_
        rintro _ s34 ⟨rfl, hz34⟩ hE34
        show pr N2 K d tb_M155 197 [(5, vi y5), (25, vl y25), (23, vl y23), (21, vl y21), (19, vl y19), (17, vl y17), (27, vi y27), (15, vl y15), (13, vl y13), (11, vl y11), (9, vl y9), (7, vl y7), (6, vi y6), (4, vi y4), (3, vi y3), (2, vi y2), (0, .ref 170), (1, vi y1)] [vi (ptz t32)] s34 _
        refine pr_n (pc2 := 203) (lv2 := [(5, vi y5), (25, vl y25), (23, vl y23), (21, vl y21), (19, vl y19), (17, vl y17), (27, vi y27), (15, vl y15), (13, vl y13), (11, vl y11), (9, vl y9), (7, vl y7), (6, vi y6), (4, vi y4), (3, vi y3), (2, vi y2), (0, .ref 170), (1, vi y1)]) (st2 := [.ref 170, vl y17, vi y27]) 4 (fun _ _ => rfl) ?_
        refine pr_gE (k2 := 170) (v := vl (t32 170 23)) hE34 rfl rfl rfl (by decide) rfl rfl rfl fun h35 => ?_
        have h35 : i64 (t32 170 23) := h35
        refine pr_n (pc2 := 207) (lv2 := [(5, vi y5), (25, vl y25), (23, vl y23), (21, vl y21), (19, vl y19), (17, vl y17), (27, vi y27), (15, vl y15), (13, vl y13), (11, vl y11), (9, vl y9), (7, vl y7), (6, vi y6), (4, vi y4), (3, vi y3), (2, vi y2), (0, .ref 170), (1, vi y1)]) (st2 := [.ref 170, vl (t32 170 23), vl y17, vi y27]) 1 (fun _ _ => rfl) ?_
        refine pr_gE (k2 := 170) (v := vl (t32 170 22)) hE34 rfl rfl rfl (by decide) rfl rfl rfl fun h36 => ?_
        have h36 : i64 (t32 170 22) := h36
        refine pr_l2 (a := t32 170 23) (b := t32 170 22) rfl rfl ?_
        show pr N2 K d tb_M155 211 [(5, vi y5), (25, vl y25), (23, vl y23), (21, vl y21), (19, vl y19), (17, vl y17), (27, vi y27), (15, vl y15), (13, vl y13), (11, vl y11), (9, vl y9), (7, vl y7), (6, vi y6), (4, vi y4), (3, vi y3), (2, vi y2), (0, .ref 170), (1, vi y1)] [vl (lo (t32 170 23) (t32 170 22)), vl y17, vi y27] s34 _
        refine pr_l2 (a := y17) (b := lo (t32 170 23) (t32 170 22)) rfl rfl ?_
        show pr N2 K d tb_M155 212 [(5, vi y5), (25, vl y25), (23, vl y23), (21, vl y21), (19, vl y19), (17, vl y17), (27, vi y27), (15, vl y15), (13, vl y13), (11, vl y11), (9, vl y9), (7, vl y7), (6, vi y6), (4, vi y4), (3, vi y3), (2, vi y2), (0, .ref 170), (1, vi y1)] [vl (la y17 (lo (t32 170 23) (t32 170 22))), vi y27] s34 _
        refine pr_n (pc2 := 213) (lv2 := [(5, vi y5), (25, vl y25), (23, vl y23), (21, vl y21), (19, vl y19), (17, vl y17), (27, vi y27), (15, vl y15), (13, vl y13), (11, vl y11), (9, vl y9), (7, vl y7), (6, vi y6), (4, vi y4), (3, vi y3), (2, vi y2), (0, .ref 170), (1, vi y1)]) (st2 := [vl 0, vl (la y17 (lo (t32 170 23) (t32 170 22))), vi y27]) 1 (fun _ _ => rfl) ?_
        refine pr_lcmp (a := la y17 (lo (t32 170 23) (t32 170 22))) (b := 0) rfl (i64_in _) (i64_n rfl) ?_
        by_cases h37 : la y17 (lo (t32 170 23) (t32 170 22)) ≠ 0
        · refine mq_t h37 ?_
          refine pr_if1t rfl rfl lc_i32 (lc_ne.mpr h37) ?_
          refine pr_n (pc2 := 273) (lv2 := [(5, vi y5), (25, vl y25), (23, vl y23), (21, vl y21), (19, vl y19), (17, vl y17), (27, vi y27), (15, vl y15), (13, vl y13), (11, vl y11), (9, vl y9), (7, vl y7), (6, vi y6), (4, vi y4), (3, vi y3), (2, vi y2), (0, .ref 170), (1, vi y1)]) (st2 := [vi 1, vi y27]) 2 (fun _ _ => rfl) ?_
          exact ((ih N2 hN2).2.2.2.2) s34 ((pt1 t32 20)) y5 y25 y23 y21 y19 y17 y27 y15 y13 y11 y9 y7 y6 y4 y3 y2 y1 1 y27 hE34 hy5 hy25 hy23 hy21 hy19 hy17 hy27 hy15 hy13 hy11 hy9 hy7 hy6 hy4 hy3 hy2 hy1 (i32_n rfl) hy27
        · refine mq_f h37 ?_
          refine pr_if1f rfl rfl lc_i32 (fun e => h37 (lc_ne.mp e)) ?_
          refine pr_n (pc2 := 218) (lv2 := [(5, vi y5), (25, vl y25), (23, vl y23), (21, vl y21), (19, vl y19), (17, vl y17), (27, vi y27), (15, vl y15), (13, vl y13), (11, vl y11), (9, vl y9), (7, vl y7), (6, vi y6), (4, vi y4), (3, vi y3), (2, vi y2), (0, .ref 170), (1, vi y1)]) (st2 := [.ref 170, vi y27]) 1 (fun _ _ => rfl) ?_
          refine pr_gE (k2 := 170) (v := vl (t32 170 22)) hE34 rfl rfl rfl (by decide) rfl rfl rfl fun h38 => ?_
          have h38 : i64 (t32 170 22) := h38
          refine pr_n (pc2 := 225) (lv2 := [(5, vi y5), (25, vl y25), (23, vl y23), (21, vl y21), (19, vl y19), (17, vl y17), (27, vi y27), (15, vl y15), (13, vl y13), (11, vl y11), (9, vl y9), (7, vl y7), (6, vi y6), (4, vi y4), (3, vi y3), (2, vi y2), (0, .ref 170), (1, vi y1)]) (st2 := [vl y17, vl y19, vl (t32 170 22), vi y27]) 2 (fun _ _ => rfl) ?_
          refine pr_l2 (a := y19) (b := y17) rfl rfl ?_
          show pr N2 K d tb_M155 226 [(5, vi y5), (25, vl y25), (23, vl y23), (21, vl y21), (19, vl y19), (17, vl y17), (27, vi y27), (15, vl y15), (13, vl y13), (11, vl y11), (9, vl y9), (7, vl y7), (6, vi y6), (4, vi y4), (3, vi y3), (2, vi y2), (0, .ref 170), (1, vi y1)] [vl (lo y19 y17), vl (t32 170 22), vi y27] s34 _
          refine pr_l2 (a := t32 170 22) (b := lo y19 y17) rfl rfl ?_
          show pr N2 K d tb_M155 227 [(5, vi y5), (25, vl y25), (23, vl y23), (21, vl y21), (19, vl y19), (17, vl y17), (27, vi y27), (15, vl y15), (13, vl y13), (11, vl y11), (9, vl y9), (7, vl y7), (6, vi y6), (4, vi y4), (3, vi y3), (2, vi y2), (0, .ref 170), (1, vi y1)] [vl (la (t32 170 22) (lo y19 y17)), vi y27] s34 _
          refine pr_n (pc2 := 228) (lv2 := [(5, vi y5), (25, vl y25), (23, vl y23), (21, vl y21), (19, vl y19), (17, vl y17), (27, vi y27), (15, vl y15), (13, vl y13), (11, vl y11), (9, vl y9), (7, vl y7), (6, vi y6), (4, vi y4), (3, vi y3), (2, vi y2), (0, .ref 170), (1, vi y1)]) (st2 := [vl 0, vl (la (t32 170 22) (lo y19 y17)), vi y27]) 1 (fun _ _ => rfl) ?_
          refine pr_lcmp (a := la (t32 170 22) (lo y19 y17)) (b := 0) rfl (i64_in _) (i64_n rfl) ?_
          by_cases h39 : la (t32 170 22) (lo y19 y17) ≠ 0
          · refine mq_t h39 ?_
            refine pr_if1t rfl rfl lc_i32 (lc_ne.mpr h39) ?_
            refine pr_n (pc2 := 273) (lv2 := [(5, vi y5), (25, vl y25), (23, vl y23), (21, vl y21), (19, vl y19), (17, vl y17), (27, vi y27), (15, vl y15), (13, vl y13), (11, vl y11), (9, vl y9), (7, vl y7), (6, vi y6), (4, vi y4), (3, vi y3), (2, vi y2), (0, .ref 170), (1, vi y1)]) (st2 := [vi 1, vi y27]) 2 (fun _ _ => rfl) ?_
            exact ((ih N2 hN2).2.2.2.2) s34 ((pt1 t32 20)) y5 y25 y23 y21 y19 y17 y27 y15 y13 y11 y9 y7 y6 y4 y3 y2 y1 1 y27 hE34 hy5 hy25 hy23 hy21 hy19 hy17 hy27 hy15 hy13 hy11 hy9 hy7 hy6 hy4 hy3 hy2 hy1 (i32_n rfl) hy27
          · refine mq_f h39 ?_
            refine pr_if1f rfl rfl lc_i32 (fun e => h39 (lc_ne.mp e)) ?_
            refine pr_n (pc2 := 235) (lv2 := [(5, vi y5), (25, vl y25), (23, vl y23), (21, vl y21), (19, vl y19), (17, vl y17), (27, vi y27), (15, vl y15), (13, vl y13), (11, vl y11), (9, vl y9), (7, vl y7), (6, vi y6), (4, vi y4), (3, vi y3), (2, vi y2), (0, .ref 170), (1, vi y1)]) (st2 := [.ref 170, vl y21, vi y27]) 2 (fun _ _ => rfl) ?_
            refine pr_gE (k2 := 170) (v := vl (t32 170 24)) hE34 rfl rfl rfl (by decide) rfl rfl rfl fun h40 => ?_
            have h40 : i64 (t32 170 24) := h40
            refine pr_l2 (a := y21) (b := t32 170 24) rfl rfl ?_
            show pr N2 K d tb_M155 239 [(5, vi y5), (25, vl y25), (23, vl y23), (21, vl y21), (19, vl y19), (17, vl y17), (27, vi y27), (15, vl y15), (13, vl y13), (11, vl y11), (9, vl y9), (7, vl y7), (6, vi y6), (4, vi y4), (3, vi y3), (2, vi y2), (0, .ref 170), (1, vi y1)] [vl (la y21 (t32 170 24)), vi y27] s34 _
            refine pr_n (pc2 := 240) (lv2 := [(5, vi y5), (25, vl y25), (23, vl y23), (21, vl y21), (19, vl y19), (17, vl y17), (27, vi y27), (15, vl y15), (13, vl y13), (11, vl y11), (9, vl y9), (7, vl y7), (6, vi y6), (4, vi y4), (3, vi y3), (2, vi y2), (0, .ref 170), (1, vi y1)]) (st2 := [vl 0, vl (la y21 (t32 170 24)), vi y27]) 1 (fun _ _ => rfl) ?_
            refine pr_lcmp (a := la y21 (t32 170 24)) (b := 0) rfl (i64_in _) (i64_n rfl) ?_
            by_cases h41 : la y21 (t32 170 24) ≠ 0
            · refine mq_t h41 ?_
              refine pr_if1t rfl rfl lc_i32 (lc_ne.mpr h41) ?_
              refine pr_n (pc2 := 273) (lv2 := [(5, vi y5), (25, vl y25), (23, vl y23), (21, vl y21), (19, vl y19), (17, vl y17), (27, vi y27), (15, vl y15), (13, vl y13), (11, vl y11), (9, vl y9), (7, vl y7), (6, vi y6), (4, vi y4), (3, vi y3), (2, vi y2), (0, .ref 170), (1, vi y1)]) (st2 := [vi 1, vi y27]) 2 (fun _ _ => rfl) ?_
              exact ((ih N2 hN2).2.2.2.2) s34 ((pt1 t32 20)) y5 y25 y23 y21 y19 y17 y27 y15 y13 y11 y9 y7 y6 y4 y3 y2 y1 1 y27 hE34 hy5 hy25 hy23 hy21 hy19 hy17 hy27 hy15 hy13 hy11 hy9 hy7 hy6 hy4 hy3 hy2 hy1 (i32_n rfl) hy27
            · refine mq_f h41 ?_
              refine pr_if1f rfl rfl lc_i32 (fun e => h41 (lc_ne.mp e)) ?_
              refine pr_n (pc2 := 247) (lv2 := [(5, vi y5), (25, vl y25), (23, vl y23), (21, vl y21), (19, vl y19), (17, vl y17), (27, vi y27), (15, vl y15), (13, vl y13), (11, vl y11), (9, vl y9), (7, vl y7), (6, vi y6), (4, vi y4), (3, vi y3), (2, vi y2), (0, .ref 170), (1, vi y1)]) (st2 := [.ref 170, vl y23, vi y27]) 2 (fun _ _ => rfl) ?_
              refine pr_gE (k2 := 170) (v := vl (t32 170 25)) hE34 rfl rfl rfl (by decide) rfl rfl rfl fun h42 => ?_
              have h42 : i64 (t32 170 25) := h42
              refine pr_l2 (a := y23) (b := t32 170 25) rfl rfl ?_
              show pr N2 K d tb_M155 251 [(5, vi y5), (25, vl y25), (23, vl y23), (21, vl y21), (19, vl y19), (17, vl y17), (27, vi y27), (15, vl y15), (13, vl y13), (11, vl y11), (9, vl y9), (7, vl y7), (6, vi y6), (4, vi y4), (3, vi y3), (2, vi y2), (0, .ref 170), (1, vi y1)] [vl (la y23 (t32 170 25)), vi y27] s34 _
              refine pr_n (pc2 := 252) (lv2 := [(5, vi y5), (25, vl y25), (23, vl y23), (21, vl y21), (19, vl y19), (17, vl y17), (27, vi y27), (15, vl y15), (13, vl y13), (11, vl y11), (9, vl y9), (7, vl y7), (6, vi y6), (4, vi y4), (3, vi y3), (2, vi y2), (0, .ref 170), (1, vi y1)]) (st2 := [vl 0, vl (la y23 (t32 170 25)), vi y27]) 1 (fun _ _ => rfl) ?_
              refine pr_lcmp (a := la y23 (t32 170 25)) (b := 0) rfl (i64_in _) (i64_n rfl) ?_
              by_cases h43 : la y23 (t32 170 25) ≠ 0
              · refine mq_t h43 ?_
                refine pr_if1t rfl rfl lc_i32 (lc_ne.mpr h43) ?_
                refine pr_n (pc2 := 273) (lv2 := [(5, vi y5), (25, vl y25), (23, vl y23), (21, vl y21), (19, vl y19), (17, vl y17), (27, vi y27), (15, vl y15), (13, vl y13), (11, vl y11), (9, vl y9), (7, vl y7), (6, vi y6), (4, vi y4), (3, vi y3), (2, vi y2), (0, .ref 170), (1, vi y1)]) (st2 := [vi 1, vi y27]) 2 (fun _ _ => rfl) ?_
                exact ((ih N2 hN2).2.2.2.2) s34 ((pt1 t32 20)) y5 y25 y23 y21 y19 y17 y27 y15 y13 y11 y9 y7 y6 y4 y3 y2 y1 1 y27 hE34 hy5 hy25 hy23 hy21 hy19 hy17 hy27 hy15 hy13 hy11 hy9 hy7 hy6 hy4 hy3 hy2 hy1 (i32_n rfl) hy27
              · refine mq_f h43 ?_
                refine pr_if1f rfl rfl lc_i32 (fun e => h43 (lc_ne.mp e)) ?_
                refine pr_n (pc2 := 259) (lv2 := [(5, vi y5), (25, vl y25), (23, vl y23), (21, vl y21), (19, vl y19), (17, vl y17), (27, vi y27), (15, vl y15), (13, vl y13), (11, vl y11), (9, vl y9), (7, vl y7), (6, vi y6), (4, vi y4), (3, vi y3), (2, vi y2), (0, .ref 170), (1, vi y1)]) (st2 := [.ref 170, vl y25, vi y27]) 2 (fun _ _ => rfl) ?_
                refine pr_gE (k2 := 170) (v := vl (t32 170 26)) hE34 rfl rfl rfl (by decide) rfl rfl rfl fun h44 => ?_
                have h44 : i64 (t32 170 26) := h44
                refine pr_l2 (a := y25) (b := t32 170 26) rfl rfl ?_
                show pr N2 K d tb_M155 263 [(5, vi y5), (25, vl y25), (23, vl y23), (21, vl y21), (19, vl y19), (17, vl y17), (27, vi y27), (15, vl y15), (13, vl y13), (11, vl y11), (9, vl y9), (7, vl y7), (6, vi y6), (4, vi y4), (3, vi y3), (2, vi y2), (0, .ref 170), (1, vi y1)] [vl (la y25 (t32 170 26)), vi y27] s34 _
                refine pr_n (pc2 := 264) (lv2 := [(5, vi y5), (25, vl y25), (23, vl y23), (21, vl y21), (19, vl y19), (17, vl y17), (27, vi y27), (15, vl y15), (13, vl y13), (11, vl y11), (9, vl y9), (7, vl y7), (6, vi y6), (4, vi y4), (3, vi y3), (2, vi y2), (0, .ref 170), (1, vi y1)]) (st2 := [vl 0, vl (la y25 (t32 170 26)), vi y27]) 1 (fun _ _ => rfl) ?_
                refine pr_lcmp (a := la y25 (t32 170 26)) (b := 0) rfl (i64_in _) (i64_n rfl) ?_
                by_cases h45 : la y25 (t32 170 26) = 0
                · refine mq_t h45 ?_
                  refine pr_if1t rfl rfl lc_i32 (lc_eq.mpr h45) ?_
                  refine pr_n (pc2 := 273) (lv2 := [(5, vi y5), (25, vl y25), (23, vl y23), (21, vl y21), (19, vl y19), (17, vl y17), (27, vi y27), (15, vl y15), (13, vl y13), (11, vl y11), (9, vl y9), (7, vl y7), (6, vi y6), (4, vi y4), (3, vi y3), (2, vi y2), (0, .ref 170), (1, vi y1)]) (st2 := [vi 0, vi y27]) 1 (fun _ _ => rfl) ?_
                  exact ((ih N2 hN2).2.2.2.2) s34 ((pt1 t32 20)) y5 y25 y23 y21 y19 y17 y27 y15 y13 y11 y9 y7 y6 y4 y3 y2 y1 0 y27 hE34 hy5 hy25 hy23 hy21 hy19 hy17 hy27 hy15 hy13 hy11 hy9 hy7 hy6 hy4 hy3 hy2 hy1 (i32_n rfl) hy27
                · refine mq_f h45 ?_
                  refine pr_if1f rfl rfl lc_i32 (fun e => h45 (lc_eq.mp e)) ?_
                  refine pr_n (pc2 := 273) (lv2 := [(5, vi y5), (25, vl y25), (23, vl y23), (21, vl y21), (19, vl y19), (17, vl y17), (27, vi y27), (15, vl y15), (13, vl y13), (11, vl y11), (9, vl y9), (7, vl y7), (6, vi y6), (4, vi y4), (3, vi y3), (2, vi y2), (0, .ref 170), (1, vi y1)]) (st2 := [vi 1, vi y27]) 2 (fun _ _ => rfl) ?_
                  exact ((ih N2 hN2).2.2.2.2) s34 ((pt1 t32 20)) y5 y25 y23 y21 y19 y17 y27 y15 y13 y11 y9 y7 y6 y4 y3 y2 y1 1 y27 hE34 hy5 hy25 hy23 hy21 hy19 hy17 hy27 hy15 hy13 hy11 hy9 hy7 hy6 hy4 hy3 hy2 hy1 (i32_n rfl) hy27
      · refine mq_f h33 ?_
        refine pr_if1f rfl rfl (i32_z hz32) h33 ?_
        refine pr_n (pc2 := 190) (lv2 := [(5, vi y5), (25, vl y25), (23, vl y23), (21, vl y21), (19, vl y19), (17, vl y17), (27, vi y27), (15, vl y15), (13, vl y13), (11, vl y11), (9, vl y9), (7, vl y7), (6, vi y6), (4, vi y4), (3, vi y3), (2, vi y2), (0, .ref 170), (1, vi y1)]) (st2 := [vi 0]) 1 (fun _ _ => rfl) ?_
        refine pr_end (fun _ _ => rfl) ?_
        exact .inl ⟨_, 0, _, rfl, ⟨rfl, (by decide)⟩, rfl, hE32⟩
  · refine mq_f h1 ?_
    refine pr_if2f rfl rfl hy5 (i32_n rfl) h1 ?_
    refine pr_n (pc2 := 142) (lv2 := [(5, vi y5), (25, vl y25), (23, vl y23), (21, vl y21), (19, vl y19), (17, vl y17), (27, vi y27), (15, vl y15), (13, vl y13), (11, vl y11), (9, vl y9), (7, vl y7), (6, vi y6), (4, vi y4), (3, vi y3), (2, vi y2), (0, .ref 170), (1, vi y1)]) (st2 := [.ref 170]) 1 (fun _ _ => rfl) ?_
    refine pr_s1 (args := []) (rest := []) rfl rfl rfl rfl (Nat.le_of_ble_eq_true rfl) rfl (h_131 s t  hE ) q_bad0 ?_
    rintro _ s46 ⟨rfl, hz46⟩ hE46
    show pr N2 K d tb_M155 145 [(5, vi y5), (25, vl y25), (23, vl y23), (21, vl y21), (19, vl y19), (17, vl y17), (27, vi y27), (15, vl y15), (13, vl y13), (11, vl y11), (9, vl y9), (7, vl y7), (6, vi y6), (4, vi y4), (3, vi y3), (2, vi y2), (0, .ref 170), (1, vi y1)] [vi 0] s46 _
    refine pr_end (fun _ _ => rfl) ?_
    exact .inl ⟨_, 0, _, rfl, ⟨rfl, (by decide)⟩, rfl, hE46⟩
set_option maxHeartbeats 20000000 in
set_option maxRecDepth 100000 in
theorem ru155_4 {N K d C : Nat} (h_123 : rT123 K d C) (h_127 : rT127 K d C) (h_131 : rT131 K d C) (h_136 : rT136 K d C) (h_138 : rT138 K d C) (h_140 : rT140 K d C) (h_141 : rT141 K d C) (h_142 : rT142 K d C) (ih : ∀ N2, N2 < N → rA155 N2 K d C) : rU155_4 N K d C := by
  intro s t y5 y25 y23 y21 y19 y17 y27 y15 y13 y11 y9 y7 y6 y4 y3 y2 y1 ys0 ys1 hE hy5 hy25 hy23 hy21 hy19 hy17 hy27 hy15 hy13 hy11 hy9 hy7 hy6 hy4 hy3 hy2 hy1 hys0 hys1
  have hC : C = 177 ∨ C = 186 := hE.1
  rw [rG_155_273]
  unfold rM155_273
  refine pr_i2x (a := ys1) (b := ys0) rfl rfl fun N2 hN2 => ?_
  show pr N2 K d tb_M155 274 [(5, vi y5), (25, vl y25), (23, vl y23), (21, vl y21), (19, vl y19), (17, vl y17), (27, vi y27), (15, vl y15), (13, vl y13), (11, vl y11), (9, vl y9), (7, vl y7), (6, vi y6), (4, vi y4), (3, vi y3), (2, vi y2), (0, .ref 170), (1, vi y1)] [vi (ior ys1 ys0)] s _
  refine pr_n (pc2 := 279) (lv2 := [(27, vi (ior ys1 ys0)), (5, vi y5), (25, vl y25), (23, vl y23), (21, vl y21), (19, vl y19), (17, vl y17), (15, vl y15), (13, vl y13), (11, vl y11), (9, vl y9), (7, vl y7), (6, vi y6), (4, vi y4), (3, vi y3), (2, vi y2), (0, .ref 170), (1, vi y1)]) (st2 := [.ref 170, vl y17]) 3 (fun _ _ => rfl) ?_
  refine pr_gE (k2 := 170) (v := vl (t 170 22)) hE rfl rfl rfl (by decide) rfl rfl rfl fun h1 => ?_
  have h1 : i64 (t 170 22) := h1
  refine pr_l2 (a := y17) (b := t 170 22) rfl rfl ?_
  show pr N2 K d tb_M155 283 [(27, vi (ior ys1 ys0)), (5, vi y5), (25, vl y25), (23, vl y23), (21, vl y21), (19, vl y19), (17, vl y17), (15, vl y15), (13, vl y13), (11, vl y11), (9, vl y9), (7, vl y7), (6, vi y6), (4, vi y4), (3, vi y3), (2, vi y2), (0, .ref 170), (1, vi y1)] [vl (lo y17 (t 170 22))] s _
  refine pr_n (pc2 := 288) (lv2 := [(17, vl (lo y17 (t 170 22))), (27, vi (ior ys1 ys0)), (5, vi y5), (25, vl y25), (23, vl y23), (21, vl y21), (19, vl y19), (15, vl y15), (13, vl y13), (11, vl y11), (9, vl y9), (7, vl y7), (6, vi y6), (4, vi y4), (3, vi y3), (2, vi y2), (0, .ref 170), (1, vi y1)]) (st2 := [.ref 170, vl y19]) 3 (fun _ _ => rfl) ?_
  refine pr_gE (k2 := 170) (v := vl (t 170 23)) hE rfl rfl rfl (by decide) rfl rfl rfl fun h2 => ?_
  have h2 : i64 (t 170 23) := h2
  refine pr_l2 (a := y19) (b := t 170 23) rfl rfl ?_
  show pr N2 K d tb_M155 292 [(17, vl (lo y17 (t 170 22))), (27, vi (ior ys1 ys0)), (5, vi y5), (25, vl y25), (23, vl y23), (21, vl y21), (19, vl y19), (15, vl y15), (13, vl y13), (11, vl y11), (9, vl y9), (7, vl y7), (6, vi y6), (4, vi y4), (3, vi y3), (2, vi y2), (0, .ref 170), (1, vi y1)] [vl (lo y19 (t 170 23))] s _
  refine pr_n (pc2 := 297) (lv2 := [(19, vl (lo y19 (t 170 23))), (17, vl (lo y17 (t 170 22))), (27, vi (ior ys1 ys0)), (5, vi y5), (25, vl y25), (23, vl y23), (21, vl y21), (15, vl y15), (13, vl y13), (11, vl y11), (9, vl y9), (7, vl y7), (6, vi y6), (4, vi y4), (3, vi y3), (2, vi y2), (0, .ref 170), (1, vi y1)]) (st2 := [.ref 170, vl y21]) 3 (fun _ _ => rfl) ?_
  refine pr_gE (k2 := 170) (v := vl (t 170 24)) hE rfl rfl rfl (by decide) rfl rfl rfl fun h3 => ?_
  have h3 : i64 (t 170 24) := h3
  refine pr_l2 (a := y21) (b := t 170 24) rfl rfl ?_
  show pr N2 K d tb_M155 301 [(19, vl (lo y19 (t 170 23))), (17, vl (lo y17 (t 170 22))), (27, vi (ior ys1 ys0)), (5, vi y5), (25, vl y25), (23, vl y23), (21, vl y21), (15, vl y15), (13, vl y13), (11, vl y11), (9, vl y9), (7, vl y7), (6, vi y6), (4, vi y4), (3, vi y3), (2, vi y2), (0, .ref 170), (1, vi y1)] [vl (lo y21 (t 170 24))] s _
  refine pr_n (pc2 := 306) (lv2 := [(21, vl (lo y21 (t 170 24))), (19, vl (lo y19 (t 170 23))), (17, vl (lo y17 (t 170 22))), (27, vi (ior ys1 ys0)), (5, vi y5), (25, vl y25), (23, vl y23), (15, vl y15), (13, vl y13), (11, vl y11), (9, vl y9), (7, vl y7), (6, vi y6), (4, vi y4), (3, vi y3), (2, vi y2), (0, .ref 170), (1, vi y1)]) (st2 := [.ref 170, vl y23]) 3 (fun _ _ => rfl) ?_
  refine pr_gE (k2 := 170) (v := vl (t 170 25)) hE rfl rfl rfl (by decide) rfl rfl rfl fun h4 => ?_
  have h4 : i64 (t 170 25) := h4
  refine pr_l2 (a := y23) (b := t 170 25) rfl rfl ?_
  show pr N2 K d tb_M155 310 [(21, vl (lo y21 (t 170 24))), (19, vl (lo y19 (t 170 23))), (17, vl (lo y17 (t 170 22))), (27, vi (ior ys1 ys0)), (5, vi y5), (25, vl y25), (23, vl y23), (15, vl y15), (13, vl y13), (11, vl y11), (9, vl y9), (7, vl y7), (6, vi y6), (4, vi y4), (3, vi y3), (2, vi y2), (0, .ref 170), (1, vi y1)] [vl (lo y23 (t 170 25))] s _
  refine pr_n (pc2 := 315) (lv2 := [(23, vl (lo y23 (t 170 25))), (21, vl (lo y21 (t 170 24))), (19, vl (lo y19 (t 170 23))), (17, vl (lo y17 (t 170 22))), (27, vi (ior ys1 ys0)), (5, vi y5), (25, vl y25), (15, vl y15), (13, vl y13), (11, vl y11), (9, vl y9), (7, vl y7), (6, vi y6), (4, vi y4), (3, vi y3), (2, vi y2), (0, .ref 170), (1, vi y1)]) (st2 := [.ref 170, vl y25]) 3 (fun _ _ => rfl) ?_
  refine pr_gE (k2 := 170) (v := vl (t 170 26)) hE rfl rfl rfl (by decide) rfl rfl rfl fun h5 => ?_
  have h5 : i64 (t 170 26) := h5
  refine pr_l2 (a := y25) (b := t 170 26) rfl rfl ?_
  show pr N2 K d tb_M155 319 [(23, vl (lo y23 (t 170 25))), (21, vl (lo y21 (t 170 24))), (19, vl (lo y19 (t 170 23))), (17, vl (lo y17 (t 170 22))), (27, vi (ior ys1 ys0)), (5, vi y5), (25, vl y25), (15, vl y15), (13, vl y13), (11, vl y11), (9, vl y9), (7, vl y7), (6, vi y6), (4, vi y4), (3, vi y3), (2, vi y2), (0, .ref 170), (1, vi y1)] [vl (lo y25 (t 170 26))] s _
  refine pr_n (pc2 := 321) (lv2 := [(25, vl (lo y25 (t 170 26))), (23, vl (lo y23 (t 170 25))), (21, vl (lo y21 (t 170 24))), (19, vl (lo y19 (t 170 23))), (17, vl (lo y17 (t 170 22))), (27, vi (ior ys1 ys0)), (5, vi y5), (15, vl y15), (13, vl y13), (11, vl y11), (9, vl y9), (7, vl y7), (6, vi y6), (4, vi y4), (3, vi y3), (2, vi y2), (0, .ref 170), (1, vi y1)]) (st2 := []) 1 (fun _ _ => rfl) ?_
  refine pr_incw (a := y5) rfl rfl ?_
  show pr N2 K d tb_M155 324 [(5, vi (ipl y5 1)), (25, vl (lo y25 (t 170 26))), (23, vl (lo y23 (t 170 25))), (21, vl (lo y21 (t 170 24))), (19, vl (lo y19 (t 170 23))), (17, vl (lo y17 (t 170 22))), (27, vi (ior ys1 ys0)), (15, vl y15), (13, vl y13), (11, vl y11), (9, vl y9), (7, vl y7), (6, vi y6), (4, vi y4), (3, vi y3), (2, vi y2), (0, .ref 170), (1, vi y1)] [] s _
  have h6 : i32 (ipl y5 1) := i32_in _
  refine pr_n (pc2 := 327) (lv2 := [(5, vi (ipl y5 1)), (25, vl (lo y25 (t 170 26))), (23, vl (lo y23 (t 170 25))), (21, vl (lo y21 (t 170 24))), (19, vl (lo y19 (t 170 23))), (17, vl (lo y17 (t 170 22))), (27, vi (ior ys1 ys0)), (15, vl y15), (13, vl y13), (11, vl y11), (9, vl y9), (7, vl y7), (6, vi y6), (4, vi y4), (3, vi y3), (2, vi y2), (0, .ref 170), (1, vi y1)]) (st2 := [vi 1, vi (ipl y5 1)]) 2 (fun _ _ => rfl) ?_
  by_cases h7 : ipl y5 1 ≠ 1
  · refine mq_t h7 ?_
    refine pr_if2t rfl rfl h6 (i32_n rfl) h7 ?_
    refine pr_n (pc2 := 349) (lv2 := [(5, vi (ipl y5 1)), (25, vl (lo y25 (t 170 26))), (23, vl (lo y23 (t 170 25))), (21, vl (lo y21 (t 170 24))), (19, vl (lo y19 (t 170 23))), (17, vl (lo y17 (t 170 22))), (27, vi (ior ys1 ys0)), (15, vl y15), (13, vl y13), (11, vl y11), (9, vl y9), (7, vl y7), (6, vi y6), (4, vi y4), (3, vi y3), (2, vi y2), (0, .ref 170), (1, vi y1)]) (st2 := [.ref 50, .ref 170]) 2 (fun _ _ => rfl) ?_
    refine pr_p1 (args := [.ref 50]) (rest := []) rfl rfl rfl rfl (Nat.le_of_ble_eq_true rfl) rfl (h_127 s t 50 hE isX_50) (fun z t3 => pu_127) ?_
    rintro _ z8 s8 ⟨rfl, hz8⟩ hX8 hE8
    show pr N2 K d tb_M155 352 [(5, vi (ipl y5 1)), (25, vl (lo y25 (t 170 26))), (23, vl (lo y23 (t 170 25))), (21, vl (lo y21 (t 170 24))), (19, vl (lo y19 (t 170 23))), (17, vl (lo y17 (t 170 22))), (27, vi (ior ys1 ys0)), (15, vl y15), (13, vl y13), (11, vl y11), (9, vl y9), (7, vl y7), (6, vi y6), (4, vi y4), (3, vi y3), (2, vi y2), (0, .ref 170), (1, vi y1)] [vi z8] s8 _
    by_cases h9 : z8 ≠ 0
    · refine mq_t h9 ?_
      refine pr_if1t rfl rfl (i32_z hz8) h9 ?_
      exact ((ih N2 hN2).2.2.2.1) s8 t (ipl y5 1) (lo y25 (t 170 26)) (lo y23 (t 170 25)) (lo y21 (t 170 24)) (lo y19 (t 170 23)) (lo y17 (t 170 22)) (ior ys1 ys0) y15 y13 y11 y9 y7 y6 y4 y3 y2 y1 hE8 h6 (i64_in _) (i64_in _) (i64_in _) (i64_in _) (i64_in _) (i32_in _) hy15 hy13 hy11 hy9 hy7 hy6 hy4 hy3 hy2 hy1
    · refine mq_f h9 ?_
      refine pr_if1f rfl rfl (i32_z hz8) h9 ?_
      refine pr_n (pc2 := 359) (lv2 := [(5, vi (ipl y5 1)), (25, vl (lo y25 (t 170 26))), (23, vl (lo y23 (t 170 25))), (21, vl (lo y21 (t 170 24))), (19, vl (lo y19 (t 170 23))), (17, vl (lo y17 (t 170 22))), (27, vi (ior ys1 ys0)), (15, vl y15), (13, vl y13), (11, vl y11), (9, vl y9), (7, vl y7), (6, vi y6), (4, vi y4), (3, vi y3), (2, vi y2), (0, .ref 170), (1, vi y1)]) (st2 := [.ref 32, .ref 170]) 2 (fun _ _ => rfl) ?_
      refine pr_m1 (args := [.ref 32]) (rest := []) rfl rfl rfl rfl (Nat.le_of_ble_eq_true rfl) rfl (h_136 s8 t 32 hE8 isX_32) ?_
      rintro _ z10 t10 s10 ⟨rfl, hz10⟩ hE10
      show pr N2 K d tb_M155 362 [(5, vi (ipl y5 1)), (25, vl (lo y25 (t 170 26))), (23, vl (lo y23 (t 170 25))), (21, vl (lo y21 (t 170 24))), (19, vl (lo y19 (t 170 23))), (17, vl (lo y17 (t 170 22))), (27, vi (ior ys1 ys0)), (15, vl y15), (13, vl y13), (11, vl y11), (9, vl y9), (7, vl y7), (6, vi y6), (4, vi y4), (3, vi y3), (2, vi y2), (0, .ref 170), (1, vi y1)] [vi z10] s10 _
      by_cases h11 : z10 ≠ 0
      · refine mq_t h11 ?_
        refine pr_if1t rfl rfl (i32_z hz10) h11 ?_
        refine pr_n (pc2 := 368) (lv2 := [(5, vi (ipl y5 1)), (25, vl (lo y25 (t 170 26))), (23, vl (lo y23 (t 170 25))), (21, vl (lo y21 (t 170 24))), (19, vl (lo y19 (t 170 23))), (17, vl (lo y17 (t 170 22))), (27, vi (ior ys1 ys0)), (15, vl y15), (13, vl y13), (11, vl y11), (9, vl y9), (7, vl y7), (6, vi y6), (4, vi y4), (3, vi y3), (2, vi y2), (0, .ref 170), (1, vi y1)]) (st2 := [.ref 170]) 1 (fun _ _ => rfl) ?_
        refine pr_get (v := .ref C) rfl rfl rfl (by decide) (rv_ref (show s10.1 170 19 = ((C : Nat) : Int) from hE10.2.2.1)) fun _ => ?_
        refine pr_get (v := .ref (C + 1)) rfl rfl (TG_C hC) (by decide) (rv_ref (hE10.2.1 C 0 (C + 1) (rc_C0 hC))) fun _ => ?_
        refine pr_n (pc2 := 377) (lv2 := [(5, vi (ipl y5 1)), (25, vl (lo y25 (t 170 26))), (23, vl (lo y23 (t 170 25))), (21, vl (lo y21 (t 170 24))), (19, vl (lo y19 (t 170 23))), (17, vl (lo y17 (t 170 22))), (27, vi (ior ys1 ys0)), (15, vl y15), (13, vl y13), (11, vl y11), (9, vl y9), (7, vl y7), (6, vi y6), (4, vi y4), (3, vi y3), (2, vi y2), (0, .ref 170), (1, vi y1)]) (st2 := [vi (ipl y5 1), vi y3, .ref (C + 1)]) 2 (fun _ _ => rfl) ?_
        refine pr_sE (k2 := 178) (a := y3) (z := ipl y5 1) hE10 rfl (show 96 ≤ C + 1 by omega) (TG_C1 hC) rfl hy3 (by decide) rfl (show i32 (ipl y5 1) from h6) (nD1 hC (by omega)) rfl rfl (fun e => absurd e.1 (show ¬ (C + 1 = 170) by omega)) (fun _ => trivial) fun h12 h13 s14 hE14 => ?_
        refine pr_n (pc2 := 379) (lv2 := [(5, vi (ipl y5 1)), (25, vl (lo y25 (t 170 26))), (23, vl (lo y23 (t 170 25))), (21, vl (lo y21 (t 170 24))), (19, vl (lo y19 (t 170 23))), (17, vl (lo y17 (t 170 22))), (27, vi (ior ys1 ys0)), (15, vl y15), (13, vl y13), (11, vl y11), (9, vl y9), (7, vl y7), (6, vi y6), (4, vi y4), (3, vi y3), (2, vi y2), (0, .ref 170), (1, vi y1)]) (st2 := [.ref 170]) 1 (fun _ _ => rfl) ?_
        refine pr_get (v := .ref C) rfl rfl rfl (by decide) (rv_ref (show s14.1 170 19 = ((C : Nat) : Int) from hE14.2.2.1)) fun _ => ?_
        refine pr_get (v := .ref (C + 1)) rfl rfl (TG_C hC) (by decide) (rv_ref (hE14.2.1 C 0 (C + 1) (rc_C0 hC))) fun _ => ?_
        refine pr_n (pc2 := 388) (lv2 := [(5, vi (ipl y5 1)), (25, vl (lo y25 (t 170 26))), (23, vl (lo y23 (t 170 25))), (21, vl (lo y21 (t 170 24))), (19, vl (lo y19 (t 170 23))), (17, vl (lo y17 (t 170 22))), (27, vi (ior ys1 ys0)), (15, vl y15), (13, vl y13), (11, vl y11), (9, vl y9), (7, vl y7), (6, vi y6), (4, vi y4), (3, vi y3), (2, vi y2), (0, .ref 170), (1, vi y1)]) (st2 := [.ref 170, vi y6, .ref (C + 1)]) 2 (fun _ _ => rfl) ?_
        refine pr_get (v := .ref C) rfl rfl rfl (by decide) (rv_ref (show s14.1 170 19 = ((C : Nat) : Int) from hE14.2.2.1)) fun _ => ?_
        refine pr_gE (k2 := 177) (v := vi (t10 177 1)) hE14 rfl rfl (TG_C hC) (by decide) rfl rfl rfl fun h15 => ?_
        have h15 : i32 (t10 177 1) := h15
        refine pr_sE (k2 := 178) (a := y6) (z := t10 177 1) hE14 rfl (show 96 ≤ C + 1 by omega) (TG_C1 hC) rfl hy6 (by decide) rfl (show i32 (t10 177 1) from h15) (nD1 hC (by omega)) rfl rfl (fun e => absurd e.1 (show ¬ (C + 1 = 170) by omega)) (fun _ => trivial) fun h16 h17 s18 hE18 => ?_
        refine pr_n (pc2 := 400) (lv2 := [(5, vi (ipl y5 1)), (25, vl (lo y25 (t 170 26))), (23, vl (lo y23 (t 170 25))), (21, vl (lo y21 (t 170 24))), (19, vl (lo y19 (t 170 23))), (17, vl (lo y17 (t 170 22))), (27, vi (ior ys1 ys0)), (15, vl y15), (13, vl y13), (11, vl y11), (9, vl y9), (7, vl y7), (6, vi y6), (4, vi y4), (3, vi y3), (2, vi y2), (0, .ref 170), (1, vi y1)]) (st2 := [vl (lo y17 (t 170 22)), vl y7, .ref 170]) 3 (fun _ _ => rfl) ?_
        refine pr_l2 (a := y7) (b := lo y17 (t 170 22)) rfl rfl ?_
        show pr N2 K d tb_M155 401 [(5, vi (ipl y5 1)), (25, vl (lo y25 (t 170 26))), (23, vl (lo y23 (t 170 25))), (21, vl (lo y21 (t 170 24))), (19, vl (lo y19 (t 170 23))), (17, vl (lo y17 (t 170 22))), (27, vi (ior ys1 ys0)), (15, vl y15), (13, vl y13), (11, vl y11), (9, vl y9), (7, vl y7), (6, vi y6), (4, vi y4), (3, vi y3), (2, vi y2), (0, .ref 170), (1, vi y1)] [vl (lo y7 (lo y17 (t 170 22))), .ref 170] s18 _
        refine pr_pE (k2 := 170) (z := lo y7 (lo y17 (t 170 22))) hE18 rfl rfl rfl rfl (by decide) rfl (by decide) rfl (i64_in _) (fit_l _) rfl rfl rfl (fun e => absurd e.2 (by decide)) (fun _ => trivial) fun s19 hE19 => ?_
        refine pr_n (pc2 := 409) (lv2 := [(5, vi (ipl y5 1)), (25, vl (lo y25 (t 170 26))), (23, vl (lo y23 (t 170 25))), (21, vl (lo y21 (t 170 24))), (19, vl (lo y19 (t 170 23))), (17, vl (lo y17 (t 170 22))), (27, vi (ior ys1 ys0)), (15, vl y15), (13, vl y13), (11, vl y11), (9, vl y9), (7, vl y7), (6, vi y6), (4, vi y4), (3, vi y3), (2, vi y2), (0, .ref 170), (1, vi y1)]) (st2 := [vl (lo y19 (t 170 23)), vl y9, .ref 170]) 3 (fun _ _ => rfl) ?_
        refine pr_l2 (a := y9) (b := lo y19 (t 170 23)) rfl rfl ?_
        show pr N2 K d tb_M155 410 [(5, vi (ipl y5 1)), (25, vl (lo y25 (t 170 26))), (23, vl (lo y23 (t 170 25))), (21, vl (lo y21 (t 170 24))), (19, vl (lo y19 (t 170 23))), (17, vl (lo y17 (t 170 22))), (27, vi (ior ys1 ys0)), (15, vl y15), (13, vl y13), (11, vl y11), (9, vl y9), (7, vl y7), (6, vi y6), (4, vi y4), (3, vi y3), (2, vi y2), (0, .ref 170), (1, vi y1)] [vl (lo y9 (lo y19 (t 170 23))), .ref 170] s19 _
        refine pr_pE (k2 := 170) (z := lo y9 (lo y19 (t 170 23))) hE19 rfl rfl rfl rfl (by decide) rfl (by decide) rfl (i64_in _) (fit_l _) rfl rfl rfl (fun e => absurd e.2 (by decide)) (fun _ => trivial) fun s20 hE20 => ?_
        refine pr_n (pc2 := 418) (lv2 := [(5, vi (ipl y5 1)), (25, vl (lo y25 (t 170 26))), (23, vl (lo y23 (t 170 25))), (21, vl (lo y21 (t 170 24))), (19, vl (lo y19 (t 170 23))), (17, vl (lo y17 (t 170 22))), (27, vi (ior ys1 ys0)), (15, vl y15), (13, vl y13), (11, vl y11), (9, vl y9), (7, vl y7), (6, vi y6), (4, vi y4), (3, vi y3), (2, vi y2), (0, .ref 170), (1, vi y1)]) (st2 := [vl (lo y21 (t 170 24)), vl y11, .ref 170]) 3 (fun _ _ => rfl) ?_
        refine pr_l2 (a := y11) (b := lo y21 (t 170 24)) rfl rfl ?_
        show pr N2 K d tb_M155 419 [(5, vi (ipl y5 1)), (25, vl (lo y25 (t 170 26))), (23, vl (lo y23 (t 170 25))), (21, vl (lo y21 (t 170 24))), (19, vl (lo y19 (t 170 23))), (17, vl (lo y17 (t 170 22))), (27, vi (ior ys1 ys0)), (15, vl y15), (13, vl y13), (11, vl y11), (9, vl y9), (7, vl y7), (6, vi y6), (4, vi y4), (3, vi y3), (2, vi y2), (0, .ref 170), (1, vi y1)] [vl (lo y11 (lo y21 (t 170 24))), .ref 170] s20 _
        refine pr_pE (k2 := 170) (z := lo y11 (lo y21 (t 170 24))) hE20 rfl rfl rfl rfl (by decide) rfl (by decide) rfl (i64_in _) (fit_l _) rfl rfl rfl (fun e => absurd e.2 (by decide)) (fun _ => trivial) fun s21 hE21 => ?_
        refine pr_n (pc2 := 427) (lv2 := [(5, vi (ipl y5 1)), (25, vl (lo y25 (t 170 26))), (23, vl (lo y23 (t 170 25))), (21, vl (lo y21 (t 170 24))), (19, vl (lo y19 (t 170 23))), (17, vl (lo y17 (t 170 22))), (27, vi (ior ys1 ys0)), (15, vl y15), (13, vl y13), (11, vl y11), (9, vl y9), (7, vl y7), (6, vi y6), (4, vi y4), (3, vi y3), (2, vi y2), (0, .ref 170), (1, vi y1)]) (st2 := [vl (lo y23 (t 170 25)), vl y13, .ref 170]) 3 (fun _ _ => rfl) ?_
        refine pr_l2 (a := y13) (b := lo y23 (t 170 25)) rfl rfl ?_
        show pr N2 K d tb_M155 428 [(5, vi (ipl y5 1)), (25, vl (lo y25 (t 170 26))), (23, vl (lo y23 (t 170 25))), (21, vl (lo y21 (t 170 24))), (19, vl (lo y19 (t 170 23))), (17, vl (lo y17 (t 170 22))), (27, vi (ior ys1 ys0)), (15, vl y15), (13, vl y13), (11, vl y11), (9, vl y9), (7, vl y7), (6, vi y6), (4, vi y4), (3, vi y3), (2, vi y2), (0, .ref 170), (1, vi y1)] [vl (lo y13 (lo y23 (t 170 25))), .ref 170] s21 _
        refine pr_pE (k2 := 170) (z := lo y13 (lo y23 (t 170 25))) hE21 rfl rfl rfl rfl (by decide) rfl (by decide) rfl (i64_in _) (fit_l _) rfl rfl rfl (fun e => absurd e.2 (by decide)) (fun _ => trivial) fun s22 hE22 => ?_
        refine pr_n (pc2 := 436) (lv2 := [(5, vi (ipl y5 1)), (25, vl (lo y25 (t 170 26))), (23, vl (lo y23 (t 170 25))), (21, vl (lo y21 (t 170 24))), (19, vl (lo y19 (t 170 23))), (17, vl (lo y17 (t 170 22))), (27, vi (ior ys1 ys0)), (15, vl y15), (13, vl y13), (11, vl y11), (9, vl y9), (7, vl y7), (6, vi y6), (4, vi y4), (3, vi y3), (2, vi y2), (0, .ref 170), (1, vi y1)]) (st2 := [vl (lo y25 (t 170 26)), vl y15, .ref 170]) 3 (fun _ _ => rfl) ?_
        refine pr_l2 (a := y15) (b := lo y25 (t 170 26)) rfl rfl ?_
        show pr N2 K d tb_M155 437 [(5, vi (ipl y5 1)), (25, vl (lo y25 (t 170 26))), (23, vl (lo y23 (t 170 25))), (21, vl (lo y21 (t 170 24))), (19, vl (lo y19 (t 170 23))), (17, vl (lo y17 (t 170 22))), (27, vi (ior ys1 ys0)), (15, vl y15), (13, vl y13), (11, vl y11), (9, vl y9), (7, vl y7), (6, vi y6), (4, vi y4), (3, vi y3), (2, vi y2), (0, .ref 170), (1, vi y1)] [vl (lo y15 (lo y25 (t 170 26))), .ref 170] s22 _
        refine pr_pE (k2 := 170) (z := lo y15 (lo y25 (t 170 26))) hE22 rfl rfl rfl rfl (by decide) rfl (by decide) rfl (i64_in _) (fit_l _) rfl rfl rfl (fun e => absurd e.2 (by decide)) (fun _ => trivial) fun s23 hE23 => ?_
        refine pr_n (pc2 := 442) (lv2 := [(5, vi (ipl y5 1)), (25, vl (lo y25 (t 170 26))), (23, vl (lo y23 (t 170 25))), (21, vl (lo y21 (t 170 24))), (19, vl (lo y19 (t 170 23))), (17, vl (lo y17 (t 170 22))), (27, vi (ior ys1 ys0)), (15, vl y15), (13, vl y13), (11, vl y11), (9, vl y9), (7, vl y7), (6, vi y6), (4, vi y4), (3, vi y3), (2, vi y2), (0, .ref 170), (1, vi y1)]) (st2 := [vi (ior ys1 ys0)]) 1 (fun _ _ => rfl) ?_
        by_cases h24 : ior ys1 ys0 = 0
        · refine mq_t h24 ?_
          refine pr_if1t rfl rfl (i32_in _) h24 ?_
          refine pr_n (pc2 := 466) (lv2 := [(5, vi (ipl y5 1)), (25, vl (lo y25 (t 170 26))), (23, vl (lo y23 (t 170 25))), (21, vl (lo y21 (t 170 24))), (19, vl (lo y19 (t 170 23))), (17, vl (lo y17 (t 170 22))), (27, vi (ior ys1 ys0)), (15, vl y15), (13, vl y13), (11, vl y11), (9, vl y9), (7, vl y7), (6, vi y6), (4, vi y4), (3, vi y3), (2, vi y2), (0, .ref 170), (1, vi y1)]) (st2 := [vi 1]) 1 (fun _ _ => rfl) ?_
          refine pr_end (fun _ _ => rfl) ?_
          exact .inl ⟨_, 1, _, rfl, ⟨rfl, (by decide)⟩, rfl, hE23⟩
        · refine mq_f h24 ?_
          refine pr_if1f rfl rfl (i32_in _) h24 ?_
          refine pr_n (pc2 := 446) (lv2 := [(5, vi (ipl y5 1)), (25, vl (lo y25 (t 170 26))), (23, vl (lo y23 (t 170 25))), (21, vl (lo y21 (t 170 24))), (19, vl (lo y19 (t 170 23))), (17, vl (lo y17 (t 170 22))), (27, vi (ior ys1 ys0)), (15, vl y15), (13, vl y13), (11, vl y11), (9, vl y9), (7, vl y7), (6, vi y6), (4, vi y4), (3, vi y3), (2, vi y2), (0, .ref 170), (1, vi y1)]) (st2 := [.ref 170]) 1 (fun _ _ => rfl) ?_
          refine pr_gE (k2 := 170) (v := vi (t10 170 21)) hE23 rfl rfl rfl (by decide) rfl rfl rfl fun h25 => ?_
          have h25 : i32 (t10 170 21) := h25
          by_cases h26 : t10 170 21 < 0
          · refine mq_t h26 ?_
            refine pr_if1t rfl rfl h25 h26 ?_
            refine pr_n (pc2 := 462) (lv2 := [(5, vi (ipl y5 1)), (25, vl (lo y25 (t 170 26))), (23, vl (lo y23 (t 170 25))), (21, vl (lo y21 (t 170 24))), (19, vl (lo y19 (t 170 23))), (17, vl (lo y17 (t 170 22))), (27, vi (ior ys1 ys0)), (15, vl y15), (13, vl y13), (11, vl y11), (9, vl y9), (7, vl y7), (6, vi y6), (4, vi y4), (3, vi y3), (2, vi y2), (0, .ref 170), (1, vi y1)]) (st2 := [vi y2, .ref 170]) 2 (fun _ _ => rfl) ?_
            refine pr_pE (k2 := 170) (z := y2) hE23 rfl rfl rfl rfl (by decide) rfl (by decide) rfl (show i32 (y2) from hy2) (hf_int' _) rfl rfl rfl (fun e => absurd e.2 (by decide)) (fun _ => trivial) fun s27 hE27 => ?_
            refine pr_n (pc2 := 466) (lv2 := [(5, vi (ipl y5 1)), (25, vl (lo y25 (t 170 26))), (23, vl (lo y23 (t 170 25))), (21, vl (lo y21 (t 170 24))), (19, vl (lo y19 (t 170 23))), (17, vl (lo y17 (t 170 22))), (27, vi (ior ys1 ys0)), (15, vl y15), (13, vl y13), (11, vl y11), (9, vl y9), (7, vl y7), (6, vi y6), (4, vi y4), (3, vi y3), (2, vi y2), (0, .ref 170), (1, vi y1)]) (st2 := [vi 1]) 1 (fun _ _ => rfl) ?_
            refine pr_end (fun _ _ => rfl) ?_
            exact .inl ⟨_, 1, _, rfl, ⟨rfl, (by decide)⟩, rfl, hE27⟩
          · refine mq_f h26 ?_
            refine pr_if1f rfl rfl h25 h26 ?_
            refine pr_n (pc2 := 454) (lv2 := [(5, vi (ipl y5 1)), (25, vl (lo y25 (t 170 26))), (23, vl (lo y23 (t 170 25))), (21, vl (lo y21 (t 170 24))), (19, vl (lo y19 (t 170 23))), (17, vl (lo y17 (t 170 22))), (27, vi (ior ys1 ys0)), (15, vl y15), (13, vl y13), (11, vl y11), (9, vl y9), (7, vl y7), (6, vi y6), (4, vi y4), (3, vi y3), (2, vi y2), (0, .ref 170), (1, vi y1)]) (st2 := [.ref 170, vi y2]) 2 (fun _ _ => rfl) ?_
            refine pr_gE (k2 := 170) (v := vi (t10 170 21)) hE23 rfl rfl rfl (by decide) rfl rfl rfl fun h28 => ?_
            have h28 : i32 (t10 170 21) := h28
            by_cases h29 : t10 170 21 ≤ y2
            · refine mq_t h29 ?_
              refine pr_if2t rfl rfl hy2 h28 h29 ?_
              refine pr_n (pc2 := 466) (lv2 := [(5, vi (ipl y5 1)), (25, vl (lo y25 (t 170 26))), (23, vl (lo y23 (t 170 25))), (21, vl (lo y21 (t 170 24))), (19, vl (lo y19 (t 170 23))), (17, vl (lo y17 (t 170 22))), (27, vi (ior ys1 ys0)), (15, vl y15), (13, vl y13), (11, vl y11), (9, vl y9), (7, vl y7), (6, vi y6), (4, vi y4), (3, vi y3), (2, vi y2), (0, .ref 170), (1, vi y1)]) (st2 := [vi 1]) 1 (fun _ _ => rfl) ?_
              refine pr_end (fun _ _ => rfl) ?_
              exact .inl ⟨_, 1, _, rfl, ⟨rfl, (by decide)⟩, rfl, hE23⟩
            · refine mq_f h29 ?_
              refine pr_if2f rfl rfl hy2 h28 h29 ?_
              refine pr_n (pc2 := 462) (lv2 := [(5, vi (ipl y5 1)), (25, vl (lo y25 (t 170 26))), (23, vl (lo y23 (t 170 25))), (21, vl (lo y21 (t 170 24))), (19, vl (lo y19 (t 170 23))), (17, vl (lo y17 (t 170 22))), (27, vi (ior ys1 ys0)), (15, vl y15), (13, vl y13), (11, vl y11), (9, vl y9), (7, vl y7), (6, vi y6), (4, vi y4), (3, vi y3), (2, vi y2), (0, .ref 170), (1, vi y1)]) (st2 := [vi y2, .ref 170]) 2 (fun _ _ => rfl) ?_
              refine pr_pE (k2 := 170) (z := y2) hE23 rfl rfl rfl rfl (by decide) rfl (by decide) rfl (show i32 (y2) from hy2) (hf_int' _) rfl rfl rfl (fun e => absurd e.2 (by decide)) (fun _ => trivial) fun s30 hE30 => ?_
              refine pr_n (pc2 := 466) (lv2 := [(5, vi (ipl y5 1)), (25, vl (lo y25 (t 170 26))), (23, vl (lo y23 (t 170 25))), (21, vl (lo y21 (t 170 24))), (19, vl (lo y19 (t 170 23))), (17, vl (lo y17 (t 170 22))), (27, vi (ior ys1 ys0)), (15, vl y15), (13, vl y13), (11, vl y11), (9, vl y9), (7, vl y7), (6, vi y6), (4, vi y4), (3, vi y3), (2, vi y2), (0, .ref 170), (1, vi y1)]) (st2 := [vi 1]) 1 (fun _ _ => rfl) ?_
              refine pr_end (fun _ _ => rfl) ?_
              exact .inl ⟨_, 1, _, rfl, ⟨rfl, (by decide)⟩, rfl, hE30⟩
      · refine mq_f h11 ?_
        refine pr_if1f rfl rfl (i32_z hz10) h11 ?_
        refine pr_n (pc2 := 366) (lv2 := [(5, vi (ipl y5 1)), (25, vl (lo y25 (t 170 26))), (23, vl (lo y23 (t 170 25))), (21, vl (lo y21 (t 170 24))), (19, vl (lo y19 (t 170 23))), (17, vl (lo y17 (t 170 22))), (27, vi (ior ys1 ys0)), (15, vl y15), (13, vl y13), (11, vl y11), (9, vl y9), (7, vl y7), (6, vi y6), (4, vi y4), (3, vi y3), (2, vi y2), (0, .ref 170), (1, vi y1)]) (st2 := [vi 0]) 1 (fun _ _ => rfl) ?_
        refine pr_end (fun _ _ => rfl) ?_
        exact .inl ⟨_, 0, _, rfl, ⟨rfl, (by decide)⟩, rfl, hE10⟩
  · refine mq_f h7 ?_
    refine pr_if2f rfl rfl h6 (i32_n rfl) h7 ?_
    refine pr_n (pc2 := 334) (lv2 := [(5, vi (ipl y5 1)), (25, vl (lo y25 (t 170 26))), (23, vl (lo y23 (t 170 25))), (21, vl (lo y21 (t 170 24))), (19, vl (lo y19 (t 170 23))), (17, vl (lo y17 (t 170 22))), (27, vi (ior ys1 ys0)), (15, vl y15), (13, vl y13), (11, vl y11), (9, vl y9), (7, vl y7), (6, vi y6), (4, vi y4), (3, vi y3), (2, vi y2), (0, .ref 170), (1, vi y1)]) (st2 := [.ref 50, .ref 170]) 2 (fun _ _ => rfl) ?_
    refine pr_p1 (args := [.ref 50]) (rest := []) rfl rfl rfl rfl (Nat.le_of_ble_eq_true rfl) rfl (h_127 s t 50 hE isX_50) (fun z t3 => pu_127) ?_
    rintro _ z31 s31 ⟨rfl, hz31⟩ hX31 hE31
    show pr N2 K d tb_M155 337 [(5, vi (ipl y5 1)), (25, vl (lo y25 (t 170 26))), (23, vl (lo y23 (t 170 25))), (21, vl (lo y21 (t 170 24))), (19, vl (lo y19 (t 170 23))), (17, vl (lo y17 (t 170 22))), (27, vi (ior ys1 ys0)), (15, vl y15), (13, vl y13), (11, vl y11), (9, vl y9), (7, vl y7), (6, vi y6), (4, vi y4), (3, vi y3), (2, vi y2), (0, .ref 170), (1, vi y1)] [vi z31] s31 _
    by_cases h32 : z31 ≠ 0
    · refine mq_t h32 ?_
      refine pr_if1t rfl rfl (i32_z hz31) h32 ?_
      refine pr_n (pc2 := 349) (lv2 := [(5, vi (ipl y5 1)), (25, vl (lo y25 (t 170 26))), (23, vl (lo y23 (t 170 25))), (21, vl (lo y21 (t 170 24))), (19, vl (lo y19 (t 170 23))), (17, vl (lo y17 (t 170 22))), (27, vi (ior ys1 ys0)), (15, vl y15), (13, vl y13), (11, vl y11), (9, vl y9), (7, vl y7), (6, vi y6), (4, vi y4), (3, vi y3), (2, vi y2), (0, .ref 170), (1, vi y1)]) (st2 := [.ref 50, .ref 170]) 2 (fun _ _ => rfl) ?_
      refine pr_s1 (args := [.ref 50]) (rest := []) rfl rfl rfl rfl (Nat.le_of_ble_eq_true rfl) rfl (h_127 s31 t 50 hE31 isX_50) hX31 ?_
      rintro _ s33 ⟨rfl, hz33⟩ hE33
      show pr N2 K d tb_M155 352 [(5, vi (ipl y5 1)), (25, vl (lo y25 (t 170 26))), (23, vl (lo y23 (t 170 25))), (21, vl (lo y21 (t 170 24))), (19, vl (lo y19 (t 170 23))), (17, vl (lo y17 (t 170 22))), (27, vi (ior ys1 ys0)), (15, vl y15), (13, vl y13), (11, vl y11), (9, vl y9), (7, vl y7), (6, vi y6), (4, vi y4), (3, vi y3), (2, vi y2), (0, .ref 170), (1, vi y1)] [vi z31] s33 _
      refine pr_if1t rfl rfl (i32_z hz31) (show z31 ≠ 0 by omega) ?_
      show pr N2 K d tb_M155 134 [(5, vi (ipl y5 1)), (25, vl (lo y25 (t 170 26))), (23, vl (lo y23 (t 170 25))), (21, vl (lo y21 (t 170 24))), (19, vl (lo y19 (t 170 23))), (17, vl (lo y17 (t 170 22))), (27, vi (ior ys1 ys0)), (15, vl y15), (13, vl y13), (11, vl y11), (9, vl y9), (7, vl y7), (6, vi y6), (4, vi y4), (3, vi y3), (2, vi y2), (0, .ref 170), (1, vi y1)] [] s33 _
      exact ((ih N2 hN2).2.2.2.1) s33 t (ipl y5 1) (lo y25 (t 170 26)) (lo y23 (t 170 25)) (lo y21 (t 170 24)) (lo y19 (t 170 23)) (lo y17 (t 170 22)) (ior ys1 ys0) y15 y13 y11 y9 y7 y6 y4 y3 y2 y1 hE33 h6 (i64_in _) (i64_in _) (i64_in _) (i64_in _) (i64_in _) (i32_in _) hy15 hy13 hy11 hy9 hy7 hy6 hy4 hy3 hy2 hy1
    · refine mq_f h32 ?_
      refine pr_if1f rfl rfl (i32_z hz31) h32 ?_
      refine pr_n (pc2 := 341) (lv2 := [(5, vi (ipl y5 1)), (25, vl (lo y25 (t 170 26))), (23, vl (lo y23 (t 170 25))), (21, vl (lo y21 (t 170 24))), (19, vl (lo y19 (t 170 23))), (17, vl (lo y17 (t 170 22))), (27, vi (ior ys1 ys0)), (15, vl y15), (13, vl y13), (11, vl y11), (9, vl y9), (7, vl y7), (6, vi y6), (4, vi y4), (3, vi y3), (2, vi y2), (0, .ref 170), (1, vi y1)]) (st2 := [.ref 170]) 1 (fun _ _ => rfl) ?_
      refine pr_s1 (args := []) (rest := []) rfl rfl rfl rfl (Nat.le_of_ble_eq_true rfl) rfl (h_131 s31 t  hE31 ) q_bad0 ?_
      rintro _ s34 ⟨rfl, hz34⟩ hE34
      show pr N2 K d tb_M155 344 [(5, vi (ipl y5 1)), (25, vl (lo y25 (t 170 26))), (23, vl (lo y23 (t 170 25))), (21, vl (lo y21 (t 170 24))), (19, vl (lo y19 (t 170 23))), (17, vl (lo y17 (t 170 22))), (27, vi (ior ys1 ys0)), (15, vl y15), (13, vl y13), (11, vl y11), (9, vl y9), (7, vl y7), (6, vi y6), (4, vi y4), (3, vi y3), (2, vi y2), (0, .ref 170), (1, vi y1)] [vi 0] s34 _
      refine pr_end (fun _ _ => rfl) ?_
      exact .inl ⟨_, 0, _, rfl, ⟨rfl, (by decide)⟩, rfl, hE34⟩
theorem ra155 {K d C : Nat} (h_123 : rT123 K d C) (h_127 : rT127 K d C) (h_131 : rT131 K d C) (h_136 : rT136 K d C) (h_138 : rT138 K d C) (h_140 : rT140 K d C) (h_141 : rT141 K d C) (h_142 : rT142 K d C) : ∀ N, rA155 N K d C := by
  intro N
  induction N using Nat.strongRecOn with | ind N ih => ?_
  exact ⟨ru155_0 h_123 h_127 h_131 h_136 h_138 h_140 h_141 h_142 ih, ru155_1 h_123 h_127 h_131 h_136 h_138 h_140 h_141 h_142 ih, ru155_2 h_123 h_127 h_131 h_136 h_138 h_140 h_141 h_142 ih, ru155_3 h_123 h_127 h_131 h_136 h_138 h_140 h_141 h_142 ih, ru155_4 h_123 h_127 h_131 h_136 h_138 h_140 h_141 h_142 ih⟩
set_option maxHeartbeats 20000000 in
set_option maxRecDepth 100000 in
theorem rm155 {K d C : Nat} (h_123 : rT123 K d C) (h_127 : rT127 K d C) (h_131 : rT131 K d C) (h_136 : rT136 K d C) (h_138 : rT138 K d C) (h_140 : rT140 K d C) (h_141 : rT141 K d C) (h_142 : rT142 K d C) : rT155 K (d + 1) C := by
  intro s t x1 hE hx1
  have hC : C = 177 ∨ C = 186 := hE.1
  refine pcr_of (M := tb_M155) rfl ?_
  show pr K K d tb_M155 0 [(0, .ref 170), (1, vi x1)] [] s _
  rw [rG_155]
  unfold rM155
  refine pr_n (pc2 := 1) (lv2 := [(0, .ref 170), (1, vi x1)]) (st2 := [.ref 170]) 1 (fun _ _ => rfl) ?_
  refine pr_s1 (args := []) (rest := []) rfl rfl rfl rfl (Nat.le_of_ble_eq_true rfl) rfl (h_142 s t  hE ) q_prt ?_
  rintro _ s1 ⟨rfl, _⟩ hE1
  show pr K K d tb_M155 4 [(0, .ref 170), (1, vi x1)] [] s1 _
  refine pr_n (pc2 := 5) (lv2 := [(0, .ref 170), (1, vi x1)]) (st2 := [.ref 170]) 1 (fun _ _ => rfl) ?_
  refine pr_gE (k2 := 170) (v := vi (t 170 5)) hE1 rfl rfl rfl (by decide) rfl rfl rfl fun h2 => ?_
  have h2 : i32 (t 170 5) := h2
  refine pr_n (pc2 := 10) (lv2 := [(2, vi (t 170 5)), (0, .ref 170), (1, vi x1)]) (st2 := [.ref 170]) 2 (fun _ _ => rfl) ?_
  refine pr_m1 (args := []) (rest := []) rfl rfl rfl rfl (Nat.le_of_ble_eq_true rfl) rfl (h_123 s1 ((prt t))  hE1 ) ?_
  rintro _ _ t3 s3 ⟨rfl, rfl⟩ hE3
  show pr K K d tb_M155 13 [(2, vi (t 170 5)), (0, .ref 170), (1, vi x1)] [] s3 _
  refine pr_n (pc2 := 17) (lv2 := [(2, vi (t 170 5)), (0, .ref 170), (1, vi x1)]) (st2 := [.ref 28, .ref 170]) 2 (fun _ _ => rfl) ?_
  refine pr_m1 (args := [.ref 28]) (rest := []) rfl rfl rfl rfl (Nat.le_of_ble_eq_true rfl) rfl (h_136 s3 t3 28 hE3 isX_28) ?_
  rintro _ z4 t4 s4 ⟨rfl, hz4⟩ hE4
  show pr K K d tb_M155 20 [(2, vi (t 170 5)), (0, .ref 170), (1, vi x1)] [vi z4] s4 _
  by_cases h5 : z4 ≠ 0
  · refine mq_t h5 ?_
    refine pr_if1t rfl rfl (i32_z hz4) h5 ?_
    refine pr_n (pc2 := 28) (lv2 := [(2, vi (t 170 5)), (0, .ref 170), (1, vi x1)]) (st2 := [vi 19, .ref 170]) 2 (fun _ _ => rfl) ?_
    refine pr_s1 (args := [vi 19]) (rest := []) rfl rfl rfl rfl (Nat.le_of_ble_eq_true rfl) rfl (h_140 s4 t4 19 hE4 (i32_n rfl)) q_put1 ?_
    rintro _ s6 ⟨rfl, hz6⟩ hE6
    show pr K K d tb_M155 31 [(2, vi (t 170 5)), (0, .ref 170), (1, vi x1)] [vi (ptz t4)] s6 _
    refine pr_n (pc2 := 34) (lv2 := [(2, vi (t 170 5)), (0, .ref 170), (1, vi x1)]) (st2 := [vi 0, .ref 170]) 3 (fun _ _ => rfl) ?_
    refine pr_s1 (args := [vi 0]) (rest := []) rfl rfl rfl rfl (Nat.le_of_ble_eq_true rfl) rfl (h_140 s6 ((pt1 t4 19)) 0 hE6 (i32_n rfl)) q_put1 ?_
    rintro _ s7 ⟨rfl, hz7⟩ hE7
    show pr K K d tb_M155 37 [(2, vi (t 170 5)), (0, .ref 170), (1, vi x1)] [vi (ptz ((pt1 t4 19)))] s7 _
    refine pr_n (pc2 := 39) (lv2 := [(3, vi (ptz ((pt1 t4 19)))), (2, vi (t 170 5)), (0, .ref 170), (1, vi x1)]) (st2 := [.ref 170]) 2 (fun _ _ => rfl) ?_
    refine pr_get (v := .ref C) rfl rfl rfl (by decide) (rv_ref (show s7.1 170 19 = ((C : Nat) : Int) from hE7.2.2.1)) fun _ => ?_
    refine pr_gE (k2 := 177) (v := vi ((pt1 ((pt1 t4 19)) 0) 177 1)) hE7 rfl rfl (TG_C hC) (by decide) rfl rfl rfl fun h8 => ?_
    have h8 : i32 ((pt1 ((pt1 t4 19)) 0) 177 1) := h8
    refine pr_n (pc2 := 53) (lv2 := [(6, vi 0), (5, vi 0), (4, vi ((pt1 ((pt1 t4 19)) 0) 177 1)), (3, vi (ptz ((pt1 t4 19)))), (2, vi (t 170 5)), (0, .ref 170), (1, vi x1)]) (st2 := []) 5 (fun _ _ => rfl) ?_
    exact ((ra155 h_123 h_127 h_131 h_136 h_138 h_140 h_141 h_142 K).1) s7 ((pt1 ((pt1 t4 19)) 0)) 0 0 ((pt1 ((pt1 t4 19)) 0) 177 1) (ptz ((pt1 t4 19))) (t 170 5) x1 hE7 (i32_n rfl) (i32_n rfl) h8 hz7 h2 hx1
  · refine mq_f h5 ?_
    refine pr_if1f rfl rfl (i32_z hz4) h5 ?_
    refine pr_n (pc2 := 24) (lv2 := [(2, vi (t 170 5)), (0, .ref 170), (1, vi x1)]) (st2 := [vi 0]) 1 (fun _ _ => rfl) ?_
    refine pr_end (fun _ _ => rfl) ?_
    exact .inl ⟨_, 0, _, rfl, ⟨rfl, (by decide)⟩, rfl, hE4⟩
set_option maxHeartbeats 20000000 in
set_option maxRecDepth 100000 in
theorem ru156_0 {N K d C : Nat} (h_123 : rT123 K d C) (h_127 : rT127 K d C) (h_131 : rT131 K d C) (h_134 : rT134 K d C) (h_136 : rT136 K d C) (h_142 : rT142 K d C) (h_144 : rT144 K d C) (h_147 : rT147 K d C) (h_148 : rT148 K d C) (h_150 : rT150 K d C) (h_157 : rT157 K d C) (h_158 : rT158 K d C) (ih : ∀ N2, N2 < N → rA156 N2 K d C) : rU156_0 N K d C := by
  intro s t y5 y4 y3 y2 y1 ys0 hE hy5 hy4 hy3 hy2 hy1 hys0
  have hC : C = 177 ∨ C = 186 := hE.1
  rw [rG_156_164]
  unfold rM156_164
  refine pr_lt (pc2 := 166) (lv2 := [(6, vi ys0), (5, vi y5), (4, vi y4), (3, vi y3), (2, vi y2), (0, .ref 170), (1, vi y1)]) (st2 := []) (fun _ _ => rfl) fun N2 hN2 => ?_
  refine pr_n (pc2 := 168) (lv2 := [(6, vi ys0), (5, vi y5), (4, vi y4), (3, vi y3), (2, vi y2), (0, .ref 170), (1, vi y1)]) (st2 := [vi ys0]) 1 (fun _ _ => rfl) ?_
  by_cases h1 : ys0 ≠ 0
  · refine mq_t h1 ?_
    refine pr_if1t rfl rfl hys0 h1 ?_
    refine pr_n (pc2 := 228) (lv2 := [(6, vi ys0), (5, vi y5), (4, vi y4), (3, vi y3), (2, vi y2), (0, .ref 170), (1, vi y1)]) (st2 := [vi 5, vi y4]) 2 (fun _ _ => rfl) ?_
    by_cases h2 : y4 ≠ 5
    · refine mq_t h2 ?_
      refine pr_if2t rfl rfl hy4 (i32_n rfl) h2 ?_
      refine pr_n (pc2 := 245) (lv2 := [(6, vi ys0), (5, vi y5), (4, vi y4), (3, vi y3), (2, vi y2), (0, .ref 170), (1, vi y1)]) (st2 := [vi 1, vi y4]) 2 (fun _ _ => rfl) ?_
      by_cases h3 : 1 < y4
      · refine mq_t h3 ?_
        refine pr_if2t rfl rfl hy4 (i32_n rfl) h3 ?_
        refine pr_n (pc2 := 303) (lv2 := [(6, vi ys0), (5, vi y5), (4, vi y4), (3, vi y3), (2, vi y2), (0, .ref 170), (1, vi y1)]) (st2 := [.ref 170]) 1 (fun _ _ => rfl) ?_
        refine pr_s1 (args := []) (rest := []) rfl rfl rfl rfl (Nat.le_of_ble_eq_true rfl) rfl (h_142 s t  hE ) q_prt ?_
        rintro _ s4 ⟨rfl, _⟩ hE4
        show pr N2 K d tb_M156 306 [(6, vi ys0), (5, vi y5), (4, vi y4), (3, vi y3), (2, vi y2), (0, .ref 170), (1, vi y1)] [] s4 _
        refine pr_n (pc2 := 307) (lv2 := [(6, vi ys0), (5, vi y5), (4, vi y4), (3, vi y3), (2, vi y2), (0, .ref 170), (1, vi y1)]) (st2 := [.ref 170]) 1 (fun _ _ => rfl) ?_
        refine pr_m1 (args := []) (rest := []) rfl rfl rfl rfl (Nat.le_of_ble_eq_true rfl) rfl (h_123 s4 ((prt t))  hE4 ) ?_
        rintro _ _ t5 s5 ⟨rfl, rfl⟩ hE5
        show pr N2 K d tb_M156 310 [(6, vi ys0), (5, vi y5), (4, vi y4), (3, vi y3), (2, vi y2), (0, .ref 170), (1, vi y1)] [] s5 _
        refine pr_n (pc2 := 314) (lv2 := [(6, vi ys0), (5, vi y5), (4, vi y4), (3, vi y3), (2, vi y2), (0, .ref 170), (1, vi y1)]) (st2 := [.ref 42, .ref 170]) 2 (fun _ _ => rfl) ?_
        refine pr_p1 (args := [.ref 42]) (rest := []) rfl rfl rfl rfl (Nat.le_of_ble_eq_true rfl) rfl (h_127 s5 t5 42 hE5 isX_42) (fun z t3 => pu_127) ?_
        rintro _ z6 s6 ⟨rfl, hz6⟩ hX6 hE6
        show pr N2 K d tb_M156 317 [(6, vi ys0), (5, vi y5), (4, vi y4), (3, vi y3), (2, vi y2), (0, .ref 170), (1, vi y1)] [vi z6] s6 _
        by_cases h7 : z6 = 0
        · refine mq_t h7 ?_
          refine pr_if1t rfl rfl (i32_z hz6) h7 ?_
          refine pr_n (pc2 := 391) (lv2 := [(6, vi ys0), (5, vi y5), (4, vi y4), (3, vi y3), (2, vi y2), (0, .ref 170), (1, vi y1)]) (st2 := [.ref 170]) 1 (fun _ _ => rfl) ?_
          refine pr_m1 (args := []) (rest := []) rfl rfl rfl rfl (Nat.le_of_ble_eq_true rfl) rfl (h_123 s6 t5  hE6 ) ?_
          rintro _ _ t8 s8 ⟨rfl, rfl⟩ hE8
          show pr N2 K d tb_M156 394 [(6, vi ys0), (5, vi y5), (4, vi y4), (3, vi y3), (2, vi y2), (0, .ref 170), (1, vi y1)] [] s8 _
          refine pr_n (pc2 := 395) (lv2 := [(6, vi ys0), (5, vi y5), (4, vi y4), (3, vi y3), (2, vi y2), (0, .ref 170), (1, vi y1)]) (st2 := [.ref 170]) 1 (fun _ _ => rfl) ?_
          refine pr_gE (k2 := 170) (v := vi (t8 170 4)) hE8 rfl rfl rfl (by decide) rfl rfl rfl fun h9 => ?_
          have h9 : i32 (t8 170 4) := h9
          refine pr_n (pc2 := 399) (lv2 := [(6, vi ys0), (5, vi y5), (4, vi y4), (3, vi y3), (2, vi y2), (0, .ref 170), (1, vi y1)]) (st2 := [vi 1, vi (t8 170 4)]) 1 (fun _ _ => rfl) ?_
          by_cases h10 : t8 170 4 ≠ 1
          · refine mq_t h10 ?_
            refine pr_if2t rfl rfl h9 (i32_n rfl) h10 ?_
            refine pr_n (pc2 := 413) (lv2 := [(7, vi ((-1))), (6, vi ys0), (5, vi y5), (4, vi y4), (3, vi y3), (2, vi y2), (0, .ref 170), (1, vi y1)]) (st2 := [.ref 170]) 3 (fun _ _ => rfl) ?_
            refine pr_gE (k2 := 170) (v := vi (t8 170 5)) hE8 rfl rfl rfl (by decide) rfl rfl rfl fun h11 => ?_
            have h11 : i32 (t8 170 5) := h11
            refine pr_n (pc2 := 420) (lv2 := [(8, vi (t8 170 5)), (7, vi ((-1))), (6, vi ys0), (5, vi y5), (4, vi y4), (3, vi y3), (2, vi y2), (0, .ref 170), (1, vi y1)]) (st2 := [vi ((-1))]) 2 (fun _ _ => rfl) ?_
            refine pr_n (pc2 := 424) (lv2 := [(8, vi (t8 170 5)), (7, vi ((-1))), (6, vi ys0), (5, vi y5), (4, vi y4), (3, vi y3), (2, vi y2), (0, .ref 170), (1, vi y1)]) (st2 := [.ref 170]) 2 (fun _ _ => rfl) ?_
            refine pr_s1 (args := []) (rest := []) rfl rfl rfl rfl (Nat.le_of_ble_eq_true rfl) rfl (h_131 s8 t8  hE8 ) q_bad0 ?_
            rintro _ s12 ⟨rfl, hz12⟩ hE12
            show pr N2 K d tb_M156 427 [(8, vi (t8 170 5)), (7, vi ((-1))), (6, vi ys0), (5, vi y5), (4, vi y4), (3, vi y3), (2, vi y2), (0, .ref 170), (1, vi y1)] [vi 0] s12 _
            refine pr_end (fun _ _ => rfl) ?_
            exact .inl ⟨_, 0, _, rfl, ⟨rfl, (by decide)⟩, rfl, hE12⟩
          · refine mq_f h10 ?_
            refine pr_if2f rfl rfl h9 (i32_n rfl) h10 ?_
            refine pr_n (pc2 := 403) (lv2 := [(6, vi ys0), (5, vi y5), (4, vi y4), (3, vi y3), (2, vi y2), (0, .ref 170), (1, vi y1)]) (st2 := [.ref 170]) 1 (fun _ _ => rfl) ?_
            refine pr_p1 (args := []) (rest := []) rfl rfl rfl rfl (Nat.le_of_ble_eq_true rfl) rfl (h_134 s8 t8  hE8 ) (fun z t3 => pu_134) ?_
            rintro _ z13 s13 ⟨rfl, hz13⟩ hX13 hE13
            show pr N2 K d tb_M156 406 [(6, vi ys0), (5, vi y5), (4, vi y4), (3, vi y3), (2, vi y2), (0, .ref 170), (1, vi y1)] [vi z13] s13 _
            refine pr_n (pc2 := 413) (lv2 := [(7, vi z13), (6, vi ys0), (5, vi y5), (4, vi y4), (3, vi y3), (2, vi y2), (0, .ref 170), (1, vi y1)]) (st2 := [.ref 170]) 3 (fun _ _ => rfl) ?_
            refine pr_gE (k2 := 170) (v := vi (t8 170 5)) hE13 rfl rfl rfl (by decide) rfl rfl rfl fun h14 => ?_
            have h14 : i32 (t8 170 5) := h14
            refine pr_n (pc2 := 420) (lv2 := [(8, vi (t8 170 5)), (7, vi z13), (6, vi ys0), (5, vi y5), (4, vi y4), (3, vi y3), (2, vi y2), (0, .ref 170), (1, vi y1)]) (st2 := [vi z13]) 2 (fun _ _ => rfl) ?_
            by_cases h15 : 0 ≤ z13
            · refine mq_t h15 ?_
              refine pr_if1t rfl rfl hz13 h15 ?_
              refine pr_n (pc2 := 429) (lv2 := [(8, vi (t8 170 5)), (7, vi z13), (6, vi ys0), (5, vi y5), (4, vi y4), (3, vi y3), (2, vi y2), (0, .ref 170), (1, vi y1)]) (st2 := [.ref 170]) 1 (fun _ _ => rfl) ?_
              refine pr_get (v := .ref 174) rfl rfl rfl (by decide) (rv_ref (hE13.2.1 170 11 174 rfl)) fun _ => ?_
              refine pr_n (pc2 := 434) (lv2 := [(8, vi (t8 170 5)), (7, vi z13), (6, vi ys0), (5, vi y5), (4, vi y4), (3, vi y3), (2, vi y2), (0, .ref 170), (1, vi y1)]) (st2 := [vi z13, .ref 174]) 1 (fun _ _ => rfl) ?_
              refine pr_aE (k2 := 174) (a := z13) (v := vi (t8 174 z13.toNat)) hE13 rfl rfl rfl hz13 (by decide) rfl rfl rfl fun h17 h18 h16 => ?_
              have h16 : i32 (t8 174 z13.toNat) := h16
              refine pr_n (pc2 := 438) (lv2 := [(8, vi (t8 170 5)), (7, vi z13), (6, vi ys0), (5, vi y5), (4, vi y4), (3, vi y3), (2, vi y2), (0, .ref 170), (1, vi y1)]) (st2 := [vi 91, .ref 170, vi (t8 174 z13.toNat)]) 2 (fun _ _ => rfl) ?_
              refine pr_p1 (args := [vi 91]) (rest := [vi (t8 174 z13.toNat)]) rfl rfl rfl rfl (Nat.le_of_ble_eq_true rfl) rfl (h_148 s13 t8 91 hE13 (i32_n rfl)) (fun z t3 => pu_148) ?_
              rintro _ z19 s19 ⟨rfl, hz19⟩ hX19 hE19
              show pr N2 K d tb_M156 441 [(8, vi (t8 170 5)), (7, vi z13), (6, vi ys0), (5, vi y5), (4, vi y4), (3, vi y3), (2, vi y2), (0, .ref 170), (1, vi y1)] [vi z19, vi (t8 174 z13.toNat)] s19 _
              by_cases h20 : z19 = 0
              · refine mq_t h20 ?_
                refine pr_if1t rfl rfl (i32_z hz19) h20 ?_
                refine pr_n (pc2 := 449) (lv2 := [(8, vi (t8 170 5)), (7, vi z13), (6, vi ys0), (5, vi y5), (4, vi y4), (3, vi y3), (2, vi y2), (0, .ref 170), (1, vi y1)]) (st2 := [vi 0, vi (t8 174 z13.toNat)]) 1 (fun _ _ => rfl) ?_
                by_cases h21 : t8 174 z13.toNat = 0
                · refine mq_t h21 ?_
                  refine pr_if2t rfl rfl h16 (i32_n rfl) h21 ?_
                  refine pr_n (pc2 := 463) (lv2 := [(8, vi (t8 170 5)), (7, vi z13), (6, vi ys0), (5, vi y5), (4, vi y4), (3, vi y3), (2, vi y2), (0, .ref 170), (1, vi y1)]) (st2 := [vi y1, vi (t8 170 5), vi z13, .ref 170]) 4 (fun _ _ => rfl) ?_
                  refine pr_m1 (args := [vi z13, vi (t8 170 5), vi y1]) (rest := []) rfl rfl rfl rfl (Nat.le_of_ble_eq_true rfl) rfl (h_157 s19 t8 z13 (t8 170 5) y1 hE19 hz13 h14 hy1) ?_
                  rintro _ z22 t22 s22 ⟨rfl, hz22⟩ hE22
                  show pr N2 K d tb_M156 466 [(8, vi (t8 170 5)), (7, vi z13), (6, vi ys0), (5, vi y5), (4, vi y4), (3, vi y3), (2, vi y2), (0, .ref 170), (1, vi y1)] [vi z22] s22 _
                  by_cases h23 : z22 ≠ 0
                  · refine mq_t h23 ?_
                    refine pr_if1t rfl rfl (i32_z hz22) h23 ?_
                    refine pr_n (pc2 := 475) (lv2 := [(8, vi (t8 170 5)), (7, vi z13), (6, vi ys0), (5, vi y5), (4, vi y4), (3, vi y3), (2, vi y2), (0, .ref 170), (1, vi y1)]) (st2 := [vi 2, vi y4, .ref 170]) 3 (fun _ _ => rfl) ?_
                    by_cases h24 : y4 ≠ 2
                    · refine mq_t h24 ?_
                      refine pr_if2t rfl rfl hy4 (i32_n rfl) h24 ?_
                      refine pr_n (pc2 := 487) (lv2 := [(8, vi (t8 170 5)), (7, vi z13), (6, vi ys0), (5, vi y5), (4, vi y4), (3, vi y3), (2, vi y2), (0, .ref 170), (1, vi y1)]) (st2 := [vi y5, vi 16, .ref 170]) 2 (fun _ _ => rfl) ?_
                      refine pr_s1 (args := [vi 16, vi y5]) (rest := []) rfl rfl rfl rfl (Nat.le_of_ble_eq_true rfl) rfl (h_147 s22 t22 16 y5 hE22 (i32_n rfl) hy5) q_pt2 ?_
                      rintro _ s25 ⟨rfl, _⟩ hE25
                      show pr N2 K d tb_M156 490 [(8, vi (t8 170 5)), (7, vi z13), (6, vi ys0), (5, vi y5), (4, vi y4), (3, vi y3), (2, vi y2), (0, .ref 170), (1, vi y1)] [] s25 _
                      refine pr_n (pc2 := 492) (lv2 := [(8, vi (t8 170 5)), (7, vi z13), (6, vi ys0), (5, vi y5), (4, vi y4), (3, vi y3), (2, vi y2), (0, .ref 170), (1, vi y1)]) (st2 := [.ref 170, .ref 170]) 2 (fun _ _ => rfl) ?_
                      refine pr_gE (k2 := 170) (v := vl (t22 170 25)) hE25 rfl rfl rfl (by decide) rfl rfl rfl fun h26 => ?_
                      have h26 : i64 (t22 170 25) := h26
                      refine pr_n (pc2 := 499) (lv2 := [(8, vi (t8 170 5)), (7, vi z13), (6, vi ys0), (5, vi y5), (4, vi y4), (3, vi y3), (2, vi y2), (0, .ref 170), (1, vi y1)]) (st2 := [vi 2, vi y4, vl 1, vl (t22 170 25), .ref 170]) 3 (fun _ _ => rfl) ?_
                      refine pr_if2t rfl rfl hy4 (i32_n rfl) (show y4 ≠ 2 by omega) ?_
                      show pr N2 K d tb_M156 507 [(8, vi (t8 170 5)), (7, vi z13), (6, vi ys0), (5, vi y5), (4, vi y4), (3, vi y3), (2, vi y2), (0, .ref 170), (1, vi y1)] [vl 1, vl (t22 170 25), .ref 170] s25 _
                      refine pr_n (pc2 := 511) (lv2 := [(8, vi (t8 170 5)), (7, vi z13), (6, vi ys0), (5, vi y5), (4, vi y4), (3, vi y3), (2, vi y2), (0, .ref 170), (1, vi y1)]) (st2 := [vi y5, vi 8, vl 1, vl (t22 170 25), .ref 170]) 2 (fun _ _ => rfl) ?_
                      refine pr_i2 (a := 8) (b := y5) rfl rfl ?_
                      show pr N2 K d tb_M156 512 [(8, vi (t8 170 5)), (7, vi z13), (6, vi ys0), (5, vi y5), (4, vi y4), (3, vi y3), (2, vi y2), (0, .ref 170), (1, vi y1)] [vi (ipl 8 y5), vl 1, vl (t22 170 25), .ref 170] s25 _
                      have h27 : i32 (ipl 8 y5) := i32_in _
                      refine pr_lshl (a := 1) (b := ipl 8 y5) rfl ?_
                      refine pr_l2 (a := t22 170 25) (b := lsl 1 (ipl 8 y5)) rfl rfl ?_
                      show pr N2 K d tb_M156 514 [(8, vi (t8 170 5)), (7, vi z13), (6, vi ys0), (5, vi y5), (4, vi y4), (3, vi y3), (2, vi y2), (0, .ref 170), (1, vi y1)] [vl (lo (t22 170 25) (lsl 1 (ipl 8 y5))), .ref 170] s25 _
                      refine pr_pE (k2 := 170) (z := lo (t22 170 25) (lsl 1 (ipl 8 y5))) hE25 rfl rfl rfl rfl (by decide) rfl (by decide) rfl (i64_in _) (fit_l _) rfl rfl rfl (fun e => absurd e.2 (by decide)) (fun _ => trivial) fun s28 hE28 => ?_
                      refine pr_n (pc2 := 519) (lv2 := [(8, vi (t8 170 5)), (7, vi z13), (6, vi ys0), (5, vi y5), (4, vi y4), (3, vi y3), (2, vi y2), (0, .ref 170), (1, vi y1)]) (st2 := [.ref 170, .ref 170]) 2 (fun _ _ => rfl) ?_
                      refine pr_get (v := .ref 174) rfl rfl rfl (by decide) (rv_ref (hE28.2.1 170 11 174 rfl)) fun _ => ?_
                      refine pr_n (pc2 := 524) (lv2 := [(8, vi (t8 170 5)), (7, vi z13), (6, vi ys0), (5, vi y5), (4, vi y4), (3, vi y3), (2, vi y2), (0, .ref 170), (1, vi y1)]) (st2 := [vi z13, .ref 174, .ref 170]) 1 (fun _ _ => rfl) ?_
                      refine pr_aE (k2 := 174) (a := z13) (v := vi (t22 174 z13.toNat)) hE28 rfl rfl rfl hz13 (by decide) rfl rfl rfl fun h30 h31 h29 => ?_
                      have h29 : i32 (t22 174 z13.toNat) := h29
                      refine pr_n (pc2 := 526) (lv2 := [(8, vi (t8 170 5)), (7, vi z13), (6, vi ys0), (5, vi y5), (4, vi y4), (3, vi y3), (2, vi y2), (0, .ref 170), (1, vi y1)]) (st2 := [.ref 170, vi (t22 174 z13.toNat), .ref 170]) 1 (fun _ _ => rfl) ?_
                      refine pr_get (v := .ref 175) rfl rfl rfl (by decide) (rv_ref (hE28.2.1 170 12 175 rfl)) fun _ => ?_
                      refine pr_n (pc2 := 531) (lv2 := [(8, vi (t8 170 5)), (7, vi z13), (6, vi ys0), (5, vi y5), (4, vi y4), (3, vi y3), (2, vi y2), (0, .ref 170), (1, vi y1)]) (st2 := [vi z13, .ref 175, vi (t22 174 z13.toNat), .ref 170]) 1 (fun _ _ => rfl) ?_
                      refine pr_aE (k2 := 175) (a := z13) (v := vi (t22 175 z13.toNat)) hE28 rfl rfl rfl hz13 (by decide) rfl rfl rfl fun h33 h34 h32 => ?_
                      have h32 : i32 (t22 175 z13.toNat) := h32
                      refine pr_s1 (args := [vi (t22 174 z13.toNat), vi (t22 175 z13.toNat)]) (rest := []) rfl rfl rfl rfl (Nat.le_of_ble_eq_true rfl) rfl (h_158 s28 (up2 ((pt2 t22 16 y5)) 170 25 (lo (t22 170 25) (lsl 1 (ipl 8 y5)))) (t22 174 z13.toNat) (t22 175 z13.toNat) hE28 h29 h32) q_sto ?_
                      rintro _ s35 ⟨rfl, _⟩ hE35
                      show pr N2 K d tb_M156 535 [(8, vi (t8 170 5)), (7, vi z13), (6, vi ys0), (5, vi y5), (4, vi y4), (3, vi y3), (2, vi y2), (0, .ref 170), (1, vi y1)] [] s35 _
                      refine pr_n (pc2 := 538) (lv2 := [(8, vi (t8 170 5)), (7, vi z13), (6, vi ys0), (5, vi y5), (4, vi y4), (3, vi y3), (2, vi y2), (0, .ref 170), (1, vi y1)]) (st2 := [.ref 30, .ref 170]) 2 (fun _ _ => rfl) ?_
                      refine pr_m1 (args := [.ref 30]) (rest := []) rfl rfl rfl rfl (Nat.le_of_ble_eq_true rfl) rfl (h_136 s35 ((sto (up2 ((pt2 t22 16 y5)) 170 25 (lo (t22 170 25) (lsl 1 (ipl 8 y5)))) (t22 174 z13.toNat) (t22 175 z13.toNat))) 30 hE35 isX_30) ?_
                      rintro _ z36 t36 s36 ⟨rfl, hz36⟩ hE36
                      show pr N2 K d tb_M156 541 [(8, vi (t8 170 5)), (7, vi z13), (6, vi ys0), (5, vi y5), (4, vi y4), (3, vi y3), (2, vi y2), (0, .ref 170), (1, vi y1)] [vi z36] s36 _
                      refine pr_retz rfl rfl hz36 ?_
                      exact .inl ⟨_, z36, _, rfl, ⟨rfl, hz36⟩, rfl, hE36⟩
                    · refine mq_f h24 ?_
                      refine pr_if2f rfl rfl hy4 (i32_n rfl) h24 ?_
                      refine pr_n (pc2 := 487) (lv2 := [(8, vi (t8 170 5)), (7, vi z13), (6, vi ys0), (5, vi y5), (4, vi y4), (3, vi y3), (2, vi y2), (0, .ref 170), (1, vi y1)]) (st2 := [vi y5, vi 14, .ref 170]) 3 (fun _ _ => rfl) ?_
                      refine pr_s1 (args := [vi 14, vi y5]) (rest := []) rfl rfl rfl rfl (Nat.le_of_ble_eq_true rfl) rfl (h_147 s22 t22 14 y5 hE22 (i32_n rfl) hy5) q_pt2 ?_
                      rintro _ s37 ⟨rfl, _⟩ hE37
                      show pr N2 K d tb_M156 490 [(8, vi (t8 170 5)), (7, vi z13), (6, vi ys0), (5, vi y5), (4, vi y4), (3, vi y3), (2, vi y2), (0, .ref 170), (1, vi y1)] [] s37 _
                      refine pr_n (pc2 := 492) (lv2 := [(8, vi (t8 170 5)), (7, vi z13), (6, vi ys0), (5, vi y5), (4, vi y4), (3, vi y3), (2, vi y2), (0, .ref 170), (1, vi y1)]) (st2 := [.ref 170, .ref 170]) 2 (fun _ _ => rfl) ?_
                      refine pr_gE (k2 := 170) (v := vl (t22 170 25)) hE37 rfl rfl rfl (by decide) rfl rfl rfl fun h38 => ?_
                      have h38 : i64 (t22 170 25) := h38
                      refine pr_n (pc2 := 499) (lv2 := [(8, vi (t8 170 5)), (7, vi z13), (6, vi ys0), (5, vi y5), (4, vi y4), (3, vi y3), (2, vi y2), (0, .ref 170), (1, vi y1)]) (st2 := [vi 2, vi y4, vl 1, vl (t22 170 25), .ref 170]) 3 (fun _ _ => rfl) ?_
                      refine pr_if2f rfl rfl hy4 (i32_n rfl) (show ¬ (y4 ≠ 2) by omega) ?_
                      show pr N2 K d tb_M156 502 [(8, vi (t8 170 5)), (7, vi z13), (6, vi ys0), (5, vi y5), (4, vi y4), (3, vi y3), (2, vi y2), (0, .ref 170), (1, vi y1)] [vl 1, vl (t22 170 25), .ref 170] s37 _
                      refine pr_n (pc2 := 512) (lv2 := [(8, vi (t8 170 5)), (7, vi z13), (6, vi ys0), (5, vi y5), (4, vi y4), (3, vi y3), (2, vi y2), (0, .ref 170), (1, vi y1)]) (st2 := [vi y5, vl 1, vl (t22 170 25), .ref 170]) 2 (fun _ _ => rfl) ?_
                      refine pr_lshl (a := 1) (b := y5) rfl ?_
                      refine pr_l2 (a := t22 170 25) (b := lsl 1 y5) rfl rfl ?_
                      show pr N2 K d tb_M156 514 [(8, vi (t8 170 5)), (7, vi z13), (6, vi ys0), (5, vi y5), (4, vi y4), (3, vi y3), (2, vi y2), (0, .ref 170), (1, vi y1)] [vl (lo (t22 170 25) (lsl 1 y5)), .ref 170] s37 _
                      refine pr_pE (k2 := 170) (z := lo (t22 170 25) (lsl 1 y5)) hE37 rfl rfl rfl rfl (by decide) rfl (by decide) rfl (i64_in _) (fit_l _) rfl rfl rfl (fun e => absurd e.2 (by decide)) (fun _ => trivial) fun s39 hE39 => ?_
                      refine pr_n (pc2 := 519) (lv2 := [(8, vi (t8 170 5)), (7, vi z13), (6, vi ys0), (5, vi y5), (4, vi y4), (3, vi y3), (2, vi y2), (0, .ref 170), (1, vi y1)]) (st2 := [.ref 170, .ref 170]) 2 (fun _ _ => rfl) ?_
                      refine pr_get (v := .ref 174) rfl rfl rfl (by decide) (rv_ref (hE39.2.1 170 11 174 rfl)) fun _ => ?_
                      refine pr_n (pc2 := 524) (lv2 := [(8, vi (t8 170 5)), (7, vi z13), (6, vi ys0), (5, vi y5), (4, vi y4), (3, vi y3), (2, vi y2), (0, .ref 170), (1, vi y1)]) (st2 := [vi z13, .ref 174, .ref 170]) 1 (fun _ _ => rfl) ?_
                      refine pr_aE (k2 := 174) (a := z13) (v := vi (t22 174 z13.toNat)) hE39 rfl rfl rfl hz13 (by decide) rfl rfl rfl fun h41 h42 h40 => ?_
                      have h40 : i32 (t22 174 z13.toNat) := h40
                      refine pr_n (pc2 := 526) (lv2 := [(8, vi (t8 170 5)), (7, vi z13), (6, vi ys0), (5, vi y5), (4, vi y4), (3, vi y3), (2, vi y2), (0, .ref 170), (1, vi y1)]) (st2 := [.ref 170, vi (t22 174 z13.toNat), .ref 170]) 1 (fun _ _ => rfl) ?_
                      refine pr_get (v := .ref 175) rfl rfl rfl (by decide) (rv_ref (hE39.2.1 170 12 175 rfl)) fun _ => ?_
                      refine pr_n (pc2 := 531) (lv2 := [(8, vi (t8 170 5)), (7, vi z13), (6, vi ys0), (5, vi y5), (4, vi y4), (3, vi y3), (2, vi y2), (0, .ref 170), (1, vi y1)]) (st2 := [vi z13, .ref 175, vi (t22 174 z13.toNat), .ref 170]) 1 (fun _ _ => rfl) ?_
                      refine pr_aE (k2 := 175) (a := z13) (v := vi (t22 175 z13.toNat)) hE39 rfl rfl rfl hz13 (by decide) rfl rfl rfl fun h44 h45 h43 => ?_
                      have h43 : i32 (t22 175 z13.toNat) := h43
                      refine pr_s1 (args := [vi (t22 174 z13.toNat), vi (t22 175 z13.toNat)]) (rest := []) rfl rfl rfl rfl (Nat.le_of_ble_eq_true rfl) rfl (h_158 s39 (up2 ((pt2 t22 14 y5)) 170 25 (lo (t22 170 25) (lsl 1 y5))) (t22 174 z13.toNat) (t22 175 z13.toNat) hE39 h40 h43) q_sto ?_
                      rintro _ s46 ⟨rfl, _⟩ hE46
                      show pr N2 K d tb_M156 535 [(8, vi (t8 170 5)), (7, vi z13), (6, vi ys0), (5, vi y5), (4, vi y4), (3, vi y3), (2, vi y2), (0, .ref 170), (1, vi y1)] [] s46 _
                      refine pr_n (pc2 := 538) (lv2 := [(8, vi (t8 170 5)), (7, vi z13), (6, vi ys0), (5, vi y5), (4, vi y4), (3, vi y3), (2, vi y2), (0, .ref 170), (1, vi y1)]) (st2 := [.ref 30, .ref 170]) 2 (fun _ _ => rfl) ?_
                      refine pr_m1 (args := [.ref 30]) (rest := []) rfl rfl rfl rfl (Nat.le_of_ble_eq_true rfl) rfl (h_136 s46 ((sto (up2 ((pt2 t22 14 y5)) 170 25 (lo (t22 170 25) (lsl 1 y5))) (t22 174 z13.toNat) (t22 175 z13.toNat))) 30 hE46 isX_30) ?_
                      rintro _ z47 t47 s47 ⟨rfl, hz47⟩ hE47
                      show pr N2 K d tb_M156 541 [(8, vi (t8 170 5)), (7, vi z13), (6, vi ys0), (5, vi y5), (4, vi y4), (3, vi y3), (2, vi y2), (0, .ref 170), (1, vi y1)] [vi z47] s47 _
                      refine pr_retz rfl rfl hz47 ?_
                      exact .inl ⟨_, z47, _, rfl, ⟨rfl, hz47⟩, rfl, hE47⟩
                  · refine mq_f h23 ?_
                    refine pr_if1f rfl rfl (i32_z hz22) h23 ?_
                    refine pr_n (pc2 := 470) (lv2 := [(8, vi (t8 170 5)), (7, vi z13), (6, vi ys0), (5, vi y5), (4, vi y4), (3, vi y3), (2, vi y2), (0, .ref 170), (1, vi y1)]) (st2 := [vi 0]) 1 (fun _ _ => rfl) ?_
                    refine pr_end (fun _ _ => rfl) ?_
                    exact .inl ⟨_, 0, _, rfl, ⟨rfl, (by decide)⟩, rfl, hE22⟩
                · refine mq_f h21 ?_
                  refine pr_if2f rfl rfl h16 (i32_n rfl) h21 ?_
                  refine pr_n (pc2 := 453) (lv2 := [(8, vi (t8 170 5)), (7, vi z13), (6, vi ys0), (5, vi y5), (4, vi y4), (3, vi y3), (2, vi y2), (0, .ref 170), (1, vi y1)]) (st2 := [.ref 170]) 1 (fun _ _ => rfl) ?_
                  refine pr_s1 (args := []) (rest := []) rfl rfl rfl rfl (Nat.le_of_ble_eq_true rfl) rfl (h_131 s19 t8  hE19 ) q_bad0 ?_
                  rintro _ s48 ⟨rfl, hz48⟩ hE48
                  show pr N2 K d tb_M156 456 [(8, vi (t8 170 5)), (7, vi z13), (6, vi ys0), (5, vi y5), (4, vi y4), (3, vi y3), (2, vi y2), (0, .ref 170), (1, vi y1)] [vi 0] s48 _
                  refine pr_end (fun _ _ => rfl) ?_
                  exact .inl ⟨_, 0, _, rfl, ⟨rfl, (by decide)⟩, rfl, hE48⟩
              · refine mq_f h20 ?_
                refine pr_if1f rfl rfl (i32_z hz19) h20 ?_
                refine pr_n (pc2 := 449) (lv2 := [(8, vi (t8 170 5)), (7, vi z13), (6, vi ys0), (5, vi y5), (4, vi y4), (3, vi y3), (2, vi y2), (0, .ref 170), (1, vi y1)]) (st2 := [vi 1, vi (t8 174 z13.toNat)]) 2 (fun _ _ => rfl) ?_
                by_cases h49 : t8 174 z13.toNat = 1
                · refine mq_t h49 ?_
                  refine pr_if2t rfl rfl h16 (i32_n rfl) h49 ?_
                  refine pr_n (pc2 := 463) (lv2 := [(8, vi (t8 170 5)), (7, vi z13), (6, vi ys0), (5, vi y5), (4, vi y4), (3, vi y3), (2, vi y2), (0, .ref 170), (1, vi y1)]) (st2 := [vi y1, vi (t8 170 5), vi z13, .ref 170]) 4 (fun _ _ => rfl) ?_
                  refine pr_m1 (args := [vi z13, vi (t8 170 5), vi y1]) (rest := []) rfl rfl rfl rfl (Nat.le_of_ble_eq_true rfl) rfl (h_157 s19 t8 z13 (t8 170 5) y1 hE19 hz13 h14 hy1) ?_
                  rintro _ z50 t50 s50 ⟨rfl, hz50⟩ hE50
                  show pr N2 K d tb_M156 466 [(8, vi (t8 170 5)), (7, vi z13), (6, vi ys0), (5, vi y5), (4, vi y4), (3, vi y3), (2, vi y2), (0, .ref 170), (1, vi y1)] [vi z50] s50 _
                  by_cases h51 : z50 ≠ 0
                  · refine mq_t h51 ?_
                    refine pr_if1t rfl rfl (i32_z hz50) h51 ?_
                    refine pr_n (pc2 := 475) (lv2 := [(8, vi (t8 170 5)), (7, vi z13), (6, vi ys0), (5, vi y5), (4, vi y4), (3, vi y3), (2, vi y2), (0, .ref 170), (1, vi y1)]) (st2 := [vi 2, vi y4, .ref 170]) 3 (fun _ _ => rfl) ?_
                    by_cases h52 : y4 ≠ 2
                    · refine mq_t h52 ?_
                      refine pr_if2t rfl rfl hy4 (i32_n rfl) h52 ?_
                      refine pr_n (pc2 := 487) (lv2 := [(8, vi (t8 170 5)), (7, vi z13), (6, vi ys0), (5, vi y5), (4, vi y4), (3, vi y3), (2, vi y2), (0, .ref 170), (1, vi y1)]) (st2 := [vi y5, vi 16, .ref 170]) 2 (fun _ _ => rfl) ?_
                      refine pr_s1 (args := [vi 16, vi y5]) (rest := []) rfl rfl rfl rfl (Nat.le_of_ble_eq_true rfl) rfl (h_147 s50 t50 16 y5 hE50 (i32_n rfl) hy5) q_pt2 ?_
                      rintro _ s53 ⟨rfl, _⟩ hE53
                      show pr N2 K d tb_M156 490 [(8, vi (t8 170 5)), (7, vi z13), (6, vi ys0), (5, vi y5), (4, vi y4), (3, vi y3), (2, vi y2), (0, .ref 170), (1, vi y1)] [] s53 _
                      refine pr_n (pc2 := 492) (lv2 := [(8, vi (t8 170 5)), (7, vi z13), (6, vi ys0), (5, vi y5), (4, vi y4), (3, vi y3), (2, vi y2), (0, .ref 170), (1, vi y1)]) (st2 := [.ref 170, .ref 170]) 2 (fun _ _ => rfl) ?_
                      refine pr_gE (k2 := 170) (v := vl (t50 170 25)) hE53 rfl rfl rfl (by decide) rfl rfl rfl fun h54 => ?_
                      have h54 : i64 (t50 170 25) := h54
                      refine pr_n (pc2 := 499) (lv2 := [(8, vi (t8 170 5)), (7, vi z13), (6, vi ys0), (5, vi y5), (4, vi y4), (3, vi y3), (2, vi y2), (0, .ref 170), (1, vi y1)]) (st2 := [vi 2, vi y4, vl 1, vl (t50 170 25), .ref 170]) 3 (fun _ _ => rfl) ?_
                      refine pr_if2t rfl rfl hy4 (i32_n rfl) (show y4 ≠ 2 by omega) ?_
                      show pr N2 K d tb_M156 507 [(8, vi (t8 170 5)), (7, vi z13), (6, vi ys0), (5, vi y5), (4, vi y4), (3, vi y3), (2, vi y2), (0, .ref 170), (1, vi y1)] [vl 1, vl (t50 170 25), .ref 170] s53 _
                      refine pr_n (pc2 := 511) (lv2 := [(8, vi (t8 170 5)), (7, vi z13), (6, vi ys0), (5, vi y5), (4, vi y4), (3, vi y3), (2, vi y2), (0, .ref 170), (1, vi y1)]) (st2 := [vi y5, vi 8, vl 1, vl (t50 170 25), .ref 170]) 2 (fun _ _ => rfl) ?_
                      refine pr_i2 (a := 8) (b := y5) rfl rfl ?_
                      show pr N2 K d tb_M156 512 [(8, vi (t8 170 5)), (7, vi z13), (6, vi ys0), (5, vi y5), (4, vi y4), (3, vi y3), (2, vi y2), (0, .ref 170), (1, vi y1)] [vi (ipl 8 y5), vl 1, vl (t50 170 25), .ref 170] s53 _
                      have h55 : i32 (ipl 8 y5) := i32_in _
                      refine pr_lshl (a := 1) (b := ipl 8 y5) rfl ?_
                      refine pr_l2 (a := t50 170 25) (b := lsl 1 (ipl 8 y5)) rfl rfl ?_
                      show pr N2 K d tb_M156 514 [(8, vi (t8 170 5)), (7, vi z13), (6, vi ys0), (5, vi y5), (4, vi y4), (3, vi y3), (2, vi y2), (0, .ref 170), (1, vi y1)] [vl (lo (t50 170 25) (lsl 1 (ipl 8 y5))), .ref 170] s53 _
                      refine pr_pE (k2 := 170) (z := lo (t50 170 25) (lsl 1 (ipl 8 y5))) hE53 rfl rfl rfl rfl (by decide) rfl (by decide) rfl (i64_in _) (fit_l _) rfl rfl rfl (fun e => absurd e.2 (by decide)) (fun _ => trivial) fun s56 hE56 => ?_
                      refine pr_n (pc2 := 519) (lv2 := [(8, vi (t8 170 5)), (7, vi z13), (6, vi ys0), (5, vi y5), (4, vi y4), (3, vi y3), (2, vi y2), (0, .ref 170), (1, vi y1)]) (st2 := [.ref 170, .ref 170]) 2 (fun _ _ => rfl) ?_
                      refine pr_get (v := .ref 174) rfl rfl rfl (by decide) (rv_ref (hE56.2.1 170 11 174 rfl)) fun _ => ?_
                      refine pr_n (pc2 := 524) (lv2 := [(8, vi (t8 170 5)), (7, vi z13), (6, vi ys0), (5, vi y5), (4, vi y4), (3, vi y3), (2, vi y2), (0, .ref 170), (1, vi y1)]) (st2 := [vi z13, .ref 174, .ref 170]) 1 (fun _ _ => rfl) ?_
                      refine pr_aE (k2 := 174) (a := z13) (v := vi (t50 174 z13.toNat)) hE56 rfl rfl rfl hz13 (by decide) rfl rfl rfl fun h58 h59 h57 => ?_
                      have h57 : i32 (t50 174 z13.toNat) := h57
                      refine pr_n (pc2 := 526) (lv2 := [(8, vi (t8 170 5)), (7, vi z13), (6, vi ys0), (5, vi y5), (4, vi y4), (3, vi y3), (2, vi y2), (0, .ref 170), (1, vi y1)]) (st2 := [.ref 170, vi (t50 174 z13.toNat), .ref 170]) 1 (fun _ _ => rfl) ?_
                      refine pr_get (v := .ref 175) rfl rfl rfl (by decide) (rv_ref (hE56.2.1 170 12 175 rfl)) fun _ => ?_
                      refine pr_n (pc2 := 531) (lv2 := [(8, vi (t8 170 5)), (7, vi z13), (6, vi ys0), (5, vi y5), (4, vi y4), (3, vi y3), (2, vi y2), (0, .ref 170), (1, vi y1)]) (st2 := [vi z13, .ref 175, vi (t50 174 z13.toNat), .ref 170]) 1 (fun _ _ => rfl) ?_
                      refine pr_aE (k2 := 175) (a := z13) (v := vi (t50 175 z13.toNat)) hE56 rfl rfl rfl hz13 (by decide) rfl rfl rfl fun h61 h62 h60 => ?_
                      have h60 : i32 (t50 175 z13.toNat) := h60
                      refine pr_s1 (args := [vi (t50 174 z13.toNat), vi (t50 175 z13.toNat)]) (rest := []) rfl rfl rfl rfl (Nat.le_of_ble_eq_true rfl) rfl (h_158 s56 (up2 ((pt2 t50 16 y5)) 170 25 (lo (t50 170 25) (lsl 1 (ipl 8 y5)))) (t50 174 z13.toNat) (t50 175 z13.toNat) hE56 h57 h60) q_sto ?_
                      rintro _ s63 ⟨rfl, _⟩ hE63
                      show pr N2 K d tb_M156 535 [(8, vi (t8 170 5)), (7, vi z13), (6, vi ys0), (5, vi y5), (4, vi y4), (3, vi y3), (2, vi y2), (0, .ref 170), (1, vi y1)] [] s63 _
                      refine pr_n (pc2 := 538) (lv2 := [(8, vi (t8 170 5)), (7, vi z13), (6, vi ys0), (5, vi y5), (4, vi y4), (3, vi y3), (2, vi y2), (0, .ref 170), (1, vi y1)]) (st2 := [.ref 30, .ref 170]) 2 (fun _ _ => rfl) ?_
                      refine pr_m1 (args := [.ref 30]) (rest := []) rfl rfl rfl rfl (Nat.le_of_ble_eq_true rfl) rfl (h_136 s63 ((sto (up2 ((pt2 t50 16 y5)) 170 25 (lo (t50 170 25) (lsl 1 (ipl 8 y5)))) (t50 174 z13.toNat) (t50 175 z13.toNat))) 30 hE63 isX_30) ?_
                      rintro _ z64 t64 s64 ⟨rfl, hz64⟩ hE64
                      show pr N2 K d tb_M156 541 [(8, vi (t8 170 5)), (7, vi z13), (6, vi ys0), (5, vi y5), (4, vi y4), (3, vi y3), (2, vi y2), (0, .ref 170), (1, vi y1)] [vi z64] s64 _
                      refine pr_retz rfl rfl hz64 ?_
                      exact .inl ⟨_, z64, _, rfl, ⟨rfl, hz64⟩, rfl, hE64⟩
                    · refine mq_f h52 ?_
                      refine pr_if2f rfl rfl hy4 (i32_n rfl) h52 ?_
                      refine pr_n (pc2 := 487) (lv2 := [(8, vi (t8 170 5)), (7, vi z13), (6, vi ys0), (5, vi y5), (4, vi y4), (3, vi y3), (2, vi y2), (0, .ref 170), (1, vi y1)]) (st2 := [vi y5, vi 14, .ref 170]) 3 (fun _ _ => rfl) ?_
                      refine pr_s1 (args := [vi 14, vi y5]) (rest := []) rfl rfl rfl rfl (Nat.le_of_ble_eq_true rfl) rfl (h_147 s50 t50 14 y5 hE50 (i32_n rfl) hy5) q_pt2 ?_
                      rintro _ s65 ⟨rfl, _⟩ hE65
                      show pr N2 K d tb_M156 490 [(8, vi (t8 170 5)), (7, vi z13), (6, vi ys0), (5, vi y5), (4, vi y4), (3, vi y3), (2, vi y2), (0, .ref 170), (1, vi y1)] [] s65 _
                      refine pr_n (pc2 := 492) (lv2 := [(8, vi (t8 170 5)), (7, vi z13), (6, vi ys0), (5, vi y5), (4, vi y4), (3, vi y3), (2, vi y2), (0, .ref 170), (1, vi y1)]) (st2 := [.ref 170, .ref 170]) 2 (fun _ _ => rfl) ?_
                      refine pr_gE (k2 := 170) (v := vl (t50 170 25)) hE65 rfl rfl rfl (by decide) rfl rfl rfl fun h66 => ?_
                      have h66 : i64 (t50 170 25) := h66
                      refine pr_n (pc2 := 499) (lv2 := [(8, vi (t8 170 5)), (7, vi z13), (6, vi ys0), (5, vi y5), (4, vi y4), (3, vi y3), (2, vi y2), (0, .ref 170), (1, vi y1)]) (st2 := [vi 2, vi y4, vl 1, vl (t50 170 25), .ref 170]) 3 (fun _ _ => rfl) ?_
                      refine pr_if2f rfl rfl hy4 (i32_n rfl) (show ¬ (y4 ≠ 2) by omega) ?_
                      show pr N2 K d tb_M156 502 [(8, vi (t8 170 5)), (7, vi z13), (6, vi ys0), (5, vi y5), (4, vi y4), (3, vi y3), (2, vi y2), (0, .ref 170), (1, vi y1)] [vl 1, vl (t50 170 25), .ref 170] s65 _
                      refine pr_n (pc2 := 512) (lv2 := [(8, vi (t8 170 5)), (7, vi z13), (6, vi ys0), (5, vi y5), (4, vi y4), (3, vi y3), (2, vi y2), (0, .ref 170), (1, vi y1)]) (st2 := [vi y5, vl 1, vl (t50 170 25), .ref 170]) 2 (fun _ _ => rfl) ?_
                      refine pr_lshl (a := 1) (b := y5) rfl ?_
                      refine pr_l2 (a := t50 170 25) (b := lsl 1 y5) rfl rfl ?_
                      show pr N2 K d tb_M156 514 [(8, vi (t8 170 5)), (7, vi z13), (6, vi ys0), (5, vi y5), (4, vi y4), (3, vi y3), (2, vi y2), (0, .ref 170), (1, vi y1)] [vl (lo (t50 170 25) (lsl 1 y5)), .ref 170] s65 _
                      refine pr_pE (k2 := 170) (z := lo (t50 170 25) (lsl 1 y5)) hE65 rfl rfl rfl rfl (by decide) rfl (by decide) rfl (i64_in _) (fit_l _) rfl rfl rfl (fun e => absurd e.2 (by decide)) (fun _ => trivial) fun s67 hE67 => ?_
                      refine pr_n (pc2 := 519) (lv2 := [(8, vi (t8 170 5)), (7, vi z13), (6, vi ys0), (5, vi y5), (4, vi y4), (3, vi y3), (2, vi y2), (0, .ref 170), (1, vi y1)]) (st2 := [.ref 170, .ref 170]) 2 (fun _ _ => rfl) ?_
                      refine pr_get (v := .ref 174) rfl rfl rfl (by decide) (rv_ref (hE67.2.1 170 11 174 rfl)) fun _ => ?_
                      refine pr_n (pc2 := 524) (lv2 := [(8, vi (t8 170 5)), (7, vi z13), (6, vi ys0), (5, vi y5), (4, vi y4), (3, vi y3), (2, vi y2), (0, .ref 170), (1, vi y1)]) (st2 := [vi z13, .ref 174, .ref 170]) 1 (fun _ _ => rfl) ?_
                      refine pr_aE (k2 := 174) (a := z13) (v := vi (t50 174 z13.toNat)) hE67 rfl rfl rfl hz13 (by decide) rfl rfl rfl fun h69 h70 h68 => ?_
                      have h68 : i32 (t50 174 z13.toNat) := h68
                      refine pr_n (pc2 := 526) (lv2 := [(8, vi (t8 170 5)), (7, vi z13), (6, vi ys0), (5, vi y5), (4, vi y4), (3, vi y3), (2, vi y2), (0, .ref 170), (1, vi y1)]) (st2 := [.ref 170, vi (t50 174 z13.toNat), .ref 170]) 1 (fun _ _ => rfl) ?_
                      refine pr_get (v := .ref 175) rfl rfl rfl (by decide) (rv_ref (hE67.2.1 170 12 175 rfl)) fun _ => ?_
                      refine pr_n (pc2 := 531) (lv2 := [(8, vi (t8 170 5)), (7, vi z13), (6, vi ys0), (5, vi y5), (4, vi y4), (3, vi y3), (2, vi y2), (0, .ref 170), (1, vi y1)]) (st2 := [vi z13, .ref 175, vi (t50 174 z13.toNat), .ref 170]) 1 (fun _ _ => rfl) ?_
                      refine pr_aE (k2 := 175) (a := z13) (v := vi (t50 175 z13.toNat)) hE67 rfl rfl rfl hz13 (by decide) rfl rfl rfl fun h72 h73 h71 => ?_
                      have h71 : i32 (t50 175 z13.toNat) := h71
                      refine pr_s1 (args := [vi (t50 174 z13.toNat), vi (t50 175 z13.toNat)]) (rest := []) rfl rfl rfl rfl (Nat.le_of_ble_eq_true rfl) rfl (h_158 s67 (up2 ((pt2 t50 14 y5)) 170 25 (lo (t50 170 25) (lsl 1 y5))) (t50 174 z13.toNat) (t50 175 z13.toNat) hE67 h68 h71) q_sto ?_
                      rintro _ s74 ⟨rfl, _⟩ hE74
                      show pr N2 K d tb_M156 535 [(8, vi (t8 170 5)), (7, vi z13), (6, vi ys0), (5, vi y5), (4, vi y4), (3, vi y3), (2, vi y2), (0, .ref 170), (1, vi y1)] [] s74 _
                      refine pr_n (pc2 := 538) (lv2 := [(8, vi (t8 170 5)), (7, vi z13), (6, vi ys0), (5, vi y5), (4, vi y4), (3, vi y3), (2, vi y2), (0, .ref 170), (1, vi y1)]) (st2 := [.ref 30, .ref 170]) 2 (fun _ _ => rfl) ?_
                      refine pr_m1 (args := [.ref 30]) (rest := []) rfl rfl rfl rfl (Nat.le_of_ble_eq_true rfl) rfl (h_136 s74 ((sto (up2 ((pt2 t50 14 y5)) 170 25 (lo (t50 170 25) (lsl 1 y5))) (t50 174 z13.toNat) (t50 175 z13.toNat))) 30 hE74 isX_30) ?_
                      rintro _ z75 t75 s75 ⟨rfl, hz75⟩ hE75
                      show pr N2 K d tb_M156 541 [(8, vi (t8 170 5)), (7, vi z13), (6, vi ys0), (5, vi y5), (4, vi y4), (3, vi y3), (2, vi y2), (0, .ref 170), (1, vi y1)] [vi z75] s75 _
                      refine pr_retz rfl rfl hz75 ?_
                      exact .inl ⟨_, z75, _, rfl, ⟨rfl, hz75⟩, rfl, hE75⟩
                  · refine mq_f h51 ?_
                    refine pr_if1f rfl rfl (i32_z hz50) h51 ?_
                    refine pr_n (pc2 := 470) (lv2 := [(8, vi (t8 170 5)), (7, vi z13), (6, vi ys0), (5, vi y5), (4, vi y4), (3, vi y3), (2, vi y2), (0, .ref 170), (1, vi y1)]) (st2 := [vi 0]) 1 (fun _ _ => rfl) ?_
                    refine pr_end (fun _ _ => rfl) ?_
                    exact .inl ⟨_, 0, _, rfl, ⟨rfl, (by decide)⟩, rfl, hE50⟩
                · refine mq_f h49 ?_
                  refine pr_if2f rfl rfl h16 (i32_n rfl) h49 ?_
                  refine pr_n (pc2 := 453) (lv2 := [(8, vi (t8 170 5)), (7, vi z13), (6, vi ys0), (5, vi y5), (4, vi y4), (3, vi y3), (2, vi y2), (0, .ref 170), (1, vi y1)]) (st2 := [.ref 170]) 1 (fun _ _ => rfl) ?_
                  refine pr_s1 (args := []) (rest := []) rfl rfl rfl rfl (Nat.le_of_ble_eq_true rfl) rfl (h_131 s19 t8  hE19 ) q_bad0 ?_
                  rintro _ s76 ⟨rfl, hz76⟩ hE76
                  show pr N2 K d tb_M156 456 [(8, vi (t8 170 5)), (7, vi z13), (6, vi ys0), (5, vi y5), (4, vi y4), (3, vi y3), (2, vi y2), (0, .ref 170), (1, vi y1)] [vi 0] s76 _
                  refine pr_end (fun _ _ => rfl) ?_
                  exact .inl ⟨_, 0, _, rfl, ⟨rfl, (by decide)⟩, rfl, hE76⟩
            · refine mq_f h15 ?_
              refine pr_if1f rfl rfl hz13 h15 ?_
              refine pr_n (pc2 := 424) (lv2 := [(8, vi (t8 170 5)), (7, vi z13), (6, vi ys0), (5, vi y5), (4, vi y4), (3, vi y3), (2, vi y2), (0, .ref 170), (1, vi y1)]) (st2 := [.ref 170]) 1 (fun _ _ => rfl) ?_
              refine pr_s1 (args := []) (rest := []) rfl rfl rfl rfl (Nat.le_of_ble_eq_true rfl) rfl (h_131 s13 t8  hE13 ) q_bad0 ?_
              rintro _ s77 ⟨rfl, hz77⟩ hE77
              show pr N2 K d tb_M156 427 [(8, vi (t8 170 5)), (7, vi z13), (6, vi ys0), (5, vi y5), (4, vi y4), (3, vi y3), (2, vi y2), (0, .ref 170), (1, vi y1)] [vi 0] s77 _
              refine pr_end (fun _ _ => rfl) ?_
              exact .inl ⟨_, 0, _, rfl, ⟨rfl, (by decide)⟩, rfl, hE77⟩
        · refine mq_f h7 ?_
          refine pr_if1f rfl rfl (i32_z hz6) h7 ?_
          refine pr_n (pc2 := 321) (lv2 := [(6, vi ys0), (5, vi y5), (4, vi y4), (3, vi y3), (2, vi y2), (0, .ref 170), (1, vi y1)]) (st2 := [.ref 170]) 1 (fun _ _ => rfl) ?_
          refine pr_m1 (args := []) (rest := []) rfl rfl rfl rfl (Nat.le_of_ble_eq_true rfl) rfl (h_123 s6 t5  hE6 ) ?_
          rintro _ _ t78 s78 ⟨rfl, rfl⟩ hE78
          show pr N2 K d tb_M156 324 [(6, vi ys0), (5, vi y5), (4, vi y4), (3, vi y3), (2, vi y2), (0, .ref 170), (1, vi y1)] [] s78 _
          refine pr_n (pc2 := 328) (lv2 := [(6, vi ys0), (5, vi y5), (4, vi y4), (3, vi y3), (2, vi y2), (0, .ref 170), (1, vi y1)]) (st2 := [vi 1, vi y1, vi 0, .ref 170]) 4 (fun _ _ => rfl) ?_
          refine pr_i2 (a := y1) (b := 1) rfl rfl ?_
          show pr N2 K d tb_M156 329 [(6, vi ys0), (5, vi y5), (4, vi y4), (3, vi y3), (2, vi y2), (0, .ref 170), (1, vi y1)] [vi (ipl y1 1), vi 0, .ref 170] s78 _
          have h79 : i32 (ipl y1 1) := i32_in _
          refine pr_m1 (args := [vi 0, vi (ipl y1 1)]) (rest := []) rfl rfl rfl rfl (Nat.le_of_ble_eq_true rfl) rfl (h_144 s78 t78 0 (ipl y1 1) hE78 (i32_n rfl) h79) ?_
          rintro _ z80 t80 s80 ⟨rfl, hz80⟩ hE80
          show pr N2 K d tb_M156 332 [(6, vi ys0), (5, vi y5), (4, vi y4), (3, vi y3), (2, vi y2), (0, .ref 170), (1, vi y1)] [vi z80] s80 _
          by_cases h81 : z80 ≠ 0
          · refine mq_t h81 ?_
            refine pr_if1t rfl rfl (i32_z hz80) h81 ?_
            refine pr_n (pc2 := 341) (lv2 := [(6, vi ys0), (5, vi y5), (4, vi y4), (3, vi y3), (2, vi y2), (0, .ref 170), (1, vi y1)]) (st2 := [vi 2, vi y4, .ref 170]) 3 (fun _ _ => rfl) ?_
            by_cases h82 : y4 ≠ 2
            · refine mq_t h82 ?_
              refine pr_if2t rfl rfl hy4 (i32_n rfl) h82 ?_
              refine pr_n (pc2 := 353) (lv2 := [(6, vi ys0), (5, vi y5), (4, vi y4), (3, vi y3), (2, vi y2), (0, .ref 170), (1, vi y1)]) (st2 := [vi y5, vi 15, .ref 170]) 2 (fun _ _ => rfl) ?_
              refine pr_s1 (args := [vi 15, vi y5]) (rest := []) rfl rfl rfl rfl (Nat.le_of_ble_eq_true rfl) rfl (h_147 s80 t80 15 y5 hE80 (i32_n rfl) hy5) q_pt2 ?_
              rintro _ s83 ⟨rfl, _⟩ hE83
              show pr N2 K d tb_M156 356 [(6, vi ys0), (5, vi y5), (4, vi y4), (3, vi y3), (2, vi y2), (0, .ref 170), (1, vi y1)] [] s83 _
              refine pr_n (pc2 := 358) (lv2 := [(6, vi ys0), (5, vi y5), (4, vi y4), (3, vi y3), (2, vi y2), (0, .ref 170), (1, vi y1)]) (st2 := [.ref 170, .ref 170]) 2 (fun _ _ => rfl) ?_
              refine pr_gE (k2 := 170) (v := vl (t80 170 24)) hE83 rfl rfl rfl (by decide) rfl rfl rfl fun h84 => ?_
              have h84 : i64 (t80 170 24) := h84
              refine pr_n (pc2 := 365) (lv2 := [(6, vi ys0), (5, vi y5), (4, vi y4), (3, vi y3), (2, vi y2), (0, .ref 170), (1, vi y1)]) (st2 := [vi 2, vi y4, vl 1, vl (t80 170 24), .ref 170]) 3 (fun _ _ => rfl) ?_
              refine pr_if2t rfl rfl hy4 (i32_n rfl) (show y4 ≠ 2 by omega) ?_
              show pr N2 K d tb_M156 373 [(6, vi ys0), (5, vi y5), (4, vi y4), (3, vi y3), (2, vi y2), (0, .ref 170), (1, vi y1)] [vl 1, vl (t80 170 24), .ref 170] s83 _
              refine pr_n (pc2 := 377) (lv2 := [(6, vi ys0), (5, vi y5), (4, vi y4), (3, vi y3), (2, vi y2), (0, .ref 170), (1, vi y1)]) (st2 := [vi y5, vi 8, vl 1, vl (t80 170 24), .ref 170]) 2 (fun _ _ => rfl) ?_
              refine pr_i2 (a := 8) (b := y5) rfl rfl ?_
              show pr N2 K d tb_M156 378 [(6, vi ys0), (5, vi y5), (4, vi y4), (3, vi y3), (2, vi y2), (0, .ref 170), (1, vi y1)] [vi (ipl 8 y5), vl 1, vl (t80 170 24), .ref 170] s83 _
              have h85 : i32 (ipl 8 y5) := i32_in _
              refine pr_lshl (a := 1) (b := ipl 8 y5) rfl ?_
              refine pr_l2 (a := t80 170 24) (b := lsl 1 (ipl 8 y5)) rfl rfl ?_
              show pr N2 K d tb_M156 380 [(6, vi ys0), (5, vi y5), (4, vi y4), (3, vi y3), (2, vi y2), (0, .ref 170), (1, vi y1)] [vl (lo (t80 170 24) (lsl 1 (ipl 8 y5))), .ref 170] s83 _
              refine pr_pE (k2 := 170) (z := lo (t80 170 24) (lsl 1 (ipl 8 y5))) hE83 rfl rfl rfl rfl (by decide) rfl (by decide) rfl (i64_in _) (fit_l _) rfl rfl rfl (fun e => absurd e.2 (by decide)) (fun _ => trivial) fun s86 hE86 => ?_
              refine pr_n (pc2 := 386) (lv2 := [(6, vi ys0), (5, vi y5), (4, vi y4), (3, vi y3), (2, vi y2), (0, .ref 170), (1, vi y1)]) (st2 := [.ref 30, .ref 170]) 2 (fun _ _ => rfl) ?_
              refine pr_m1 (args := [.ref 30]) (rest := []) rfl rfl rfl rfl (Nat.le_of_ble_eq_true rfl) rfl (h_136 s86 (up2 ((pt2 t80 15 y5)) 170 24 (lo (t80 170 24) (lsl 1 (ipl 8 y5)))) 30 hE86 isX_30) ?_
              rintro _ z87 t87 s87 ⟨rfl, hz87⟩ hE87
              show pr N2 K d tb_M156 389 [(6, vi ys0), (5, vi y5), (4, vi y4), (3, vi y3), (2, vi y2), (0, .ref 170), (1, vi y1)] [vi z87] s87 _
              refine pr_retz rfl rfl hz87 ?_
              exact .inl ⟨_, z87, _, rfl, ⟨rfl, hz87⟩, rfl, hE87⟩
            · refine mq_f h82 ?_
              refine pr_if2f rfl rfl hy4 (i32_n rfl) h82 ?_
              refine pr_n (pc2 := 353) (lv2 := [(6, vi ys0), (5, vi y5), (4, vi y4), (3, vi y3), (2, vi y2), (0, .ref 170), (1, vi y1)]) (st2 := [vi y5, vi 13, .ref 170]) 3 (fun _ _ => rfl) ?_
              refine pr_s1 (args := [vi 13, vi y5]) (rest := []) rfl rfl rfl rfl (Nat.le_of_ble_eq_true rfl) rfl (h_147 s80 t80 13 y5 hE80 (i32_n rfl) hy5) q_pt2 ?_
              rintro _ s88 ⟨rfl, _⟩ hE88
              show pr N2 K d tb_M156 356 [(6, vi ys0), (5, vi y5), (4, vi y4), (3, vi y3), (2, vi y2), (0, .ref 170), (1, vi y1)] [] s88 _
              refine pr_n (pc2 := 358) (lv2 := [(6, vi ys0), (5, vi y5), (4, vi y4), (3, vi y3), (2, vi y2), (0, .ref 170), (1, vi y1)]) (st2 := [.ref 170, .ref 170]) 2 (fun _ _ => rfl) ?_
              refine pr_gE (k2 := 170) (v := vl (t80 170 24)) hE88 rfl rfl rfl (by decide) rfl rfl rfl fun h89 => ?_
              have h89 : i64 (t80 170 24) := h89
              refine pr_n (pc2 := 365) (lv2 := [(6, vi ys0), (5, vi y5), (4, vi y4), (3, vi y3), (2, vi y2), (0, .ref 170), (1, vi y1)]) (st2 := [vi 2, vi y4, vl 1, vl (t80 170 24), .ref 170]) 3 (fun _ _ => rfl) ?_
              refine pr_if2f rfl rfl hy4 (i32_n rfl) (show ¬ (y4 ≠ 2) by omega) ?_
              show pr N2 K d tb_M156 368 [(6, vi ys0), (5, vi y5), (4, vi y4), (3, vi y3), (2, vi y2), (0, .ref 170), (1, vi y1)] [vl 1, vl (t80 170 24), .ref 170] s88 _
              refine pr_n (pc2 := 378) (lv2 := [(6, vi ys0), (5, vi y5), (4, vi y4), (3, vi y3), (2, vi y2), (0, .ref 170), (1, vi y1)]) (st2 := [vi y5, vl 1, vl (t80 170 24), .ref 170]) 2 (fun _ _ => rfl) ?_
              refine pr_lshl (a := 1) (b := y5) rfl ?_
              refine pr_l2 (a := t80 170 24) (b := lsl 1 y5) rfl rfl ?_
              show pr N2 K d tb_M156 380 [(6, vi ys0), (5, vi y5), (4, vi y4), (3, vi y3), (2, vi y2), (0, .ref 170), (1, vi y1)] [vl (lo (t80 170 24) (lsl 1 y5)), .ref 170] s88 _
              refine pr_pE (k2 := 170) (z := lo (t80 170 24) (lsl 1 y5)) hE88 rfl rfl rfl rfl (by decide) rfl (by decide) rfl (i64_in _) (fit_l _) rfl rfl rfl (fun e => absurd e.2 (by decide)) (fun _ => trivial) fun s90 hE90 => ?_
              refine pr_n (pc2 := 386) (lv2 := [(6, vi ys0), (5, vi y5), (4, vi y4), (3, vi y3), (2, vi y2), (0, .ref 170), (1, vi y1)]) (st2 := [.ref 30, .ref 170]) 2 (fun _ _ => rfl) ?_
              refine pr_m1 (args := [.ref 30]) (rest := []) rfl rfl rfl rfl (Nat.le_of_ble_eq_true rfl) rfl (h_136 s90 (up2 ((pt2 t80 13 y5)) 170 24 (lo (t80 170 24) (lsl 1 y5))) 30 hE90 isX_30) ?_
              rintro _ z91 t91 s91 ⟨rfl, hz91⟩ hE91
              show pr N2 K d tb_M156 389 [(6, vi ys0), (5, vi y5), (4, vi y4), (3, vi y3), (2, vi y2), (0, .ref 170), (1, vi y1)] [vi z91] s91 _
              refine pr_retz rfl rfl hz91 ?_
              exact .inl ⟨_, z91, _, rfl, ⟨rfl, hz91⟩, rfl, hE91⟩
          · refine mq_f h81 ?_
            refine pr_if1f rfl rfl (i32_z hz80) h81 ?_
            refine pr_n (pc2 := 336) (lv2 := [(6, vi ys0), (5, vi y5), (4, vi y4), (3, vi y3), (2, vi y2), (0, .ref 170), (1, vi y1)]) (st2 := [vi 0]) 1 (fun _ _ => rfl) ?_
            refine pr_end (fun _ _ => rfl) ?_
            exact .inl ⟨_, 0, _, rfl, ⟨rfl, (by decide)⟩, rfl, hE80⟩
      · refine mq_f h3 ?_
        refine pr_if2f rfl rfl hy4 (i32_n rfl) h3 ?_
        refine pr_n (pc2 := 249) (lv2 := [(6, vi ys0), (5, vi y5), (4, vi y4), (3, vi y3), (2, vi y2), (0, .ref 170), (1, vi y1)]) (st2 := [.ref 170]) 1 (fun _ _ => rfl) ?_
        refine pr_s1 (args := []) (rest := []) rfl rfl rfl rfl (Nat.le_of_ble_eq_true rfl) rfl (h_142 s t  hE ) q_prt ?_
        rintro _ s92 ⟨rfl, _⟩ hE92
        show pr N2 K d tb_M156 252 [(6, vi ys0), (5, vi y5), (4, vi y4), (3, vi y3), (2, vi y2), (0, .ref 170), (1, vi y1)] [] s92 _
        refine pr_n (pc2 := 256) (lv2 := [(6, vi ys0), (5, vi y5), (4, vi y4), (3, vi y3), (2, vi y2), (0, .ref 170), (1, vi y1)]) (st2 := [vi y1, vi y3, vi y2, .ref 170]) 4 (fun _ _ => rfl) ?_
        refine pr_m1 (args := [vi y2, vi y3, vi y1]) (rest := []) rfl rfl rfl rfl (Nat.le_of_ble_eq_true rfl) rfl (h_157 s92 ((prt t)) y2 y3 y1 hE92 hy2 hy3 hy1) ?_
        rintro _ z93 t93 s93 ⟨rfl, hz93⟩ hE93
        show pr N2 K d tb_M156 259 [(6, vi ys0), (5, vi y5), (4, vi y4), (3, vi y3), (2, vi y2), (0, .ref 170), (1, vi y1)] [vi z93] s93 _
        by_cases h94 : z93 ≠ 0
        · refine mq_t h94 ?_
          refine pr_if1t rfl rfl (i32_z hz93) h94 ?_
          refine pr_n (pc2 := 268) (lv2 := [(6, vi ys0), (5, vi y5), (4, vi y4), (3, vi y3), (2, vi y2), (0, .ref 170), (1, vi y1)]) (st2 := [.ref 88, .ref 170]) 2 (fun _ _ => rfl) ?_
          refine pr_m1 (args := [.ref 88]) (rest := []) rfl rfl rfl rfl (Nat.le_of_ble_eq_true rfl) rfl (h_136 s93 t93 88 hE93 isX_88) ?_
          rintro _ z95 t95 s95 ⟨rfl, hz95⟩ hE95
          show pr N2 K d tb_M156 271 [(6, vi ys0), (5, vi y5), (4, vi y4), (3, vi y3), (2, vi y2), (0, .ref 170), (1, vi y1)] [vi z95] s95 _
          by_cases h96 : z95 = 0
          · refine mq_t h96 ?_
            refine pr_if1t rfl rfl (i32_z hz95) h96 ?_
            refine pr_n (pc2 := 286) (lv2 := [(6, vi ys0), (5, vi y5), (4, vi y4), (3, vi y3), (2, vi y2), (0, .ref 170), (1, vi y1)]) (st2 := [vi 0]) 1 (fun _ _ => rfl) ?_
            refine pr_end (fun _ _ => rfl) ?_
            exact .inl ⟨_, 0, _, rfl, ⟨rfl, (by decide)⟩, rfl, hE95⟩
          · refine mq_f h96 ?_
            refine pr_if1f rfl rfl (i32_z hz95) h96 ?_
            refine pr_n (pc2 := 278) (lv2 := [(6, vi ys0), (5, vi y5), (4, vi y4), (3, vi y3), (2, vi y2), (0, .ref 170), (1, vi y1)]) (st2 := [vi 1, vi y1, vi 0, .ref 170]) 4 (fun _ _ => rfl) ?_
            refine pr_i2 (a := y1) (b := 1) rfl rfl ?_
            show pr N2 K d tb_M156 279 [(6, vi ys0), (5, vi y5), (4, vi y4), (3, vi y3), (2, vi y2), (0, .ref 170), (1, vi y1)] [vi (ipl y1 1), vi 0, .ref 170] s95 _
            have h97 : i32 (ipl y1 1) := i32_in _
            refine pr_m1 (args := [vi 0, vi (ipl y1 1)]) (rest := []) rfl rfl rfl rfl (Nat.le_of_ble_eq_true rfl) rfl (h_144 s95 t95 0 (ipl y1 1) hE95 (i32_n rfl) h97) ?_
            rintro _ z98 t98 s98 ⟨rfl, hz98⟩ hE98
            show pr N2 K d tb_M156 282 [(6, vi ys0), (5, vi y5), (4, vi y4), (3, vi y3), (2, vi y2), (0, .ref 170), (1, vi y1)] [vi z98] s98 _
            by_cases h99 : z98 ≠ 0
            · refine mq_t h99 ?_
              refine pr_if1t rfl rfl (i32_z hz98) h99 ?_
              refine pr_n (pc2 := 292) (lv2 := [(6, vi ys0), (5, vi y5), (4, vi y4), (3, vi y3), (2, vi y2), (0, .ref 170), (1, vi y1)]) (st2 := [vi y5, vi y4, .ref 170]) 3 (fun _ _ => rfl) ?_
              refine pr_s1 (args := [vi y4, vi y5]) (rest := []) rfl rfl rfl rfl (Nat.le_of_ble_eq_true rfl) rfl (h_158 s98 t98 y4 y5 hE98 hy4 hy5) q_sto ?_
              rintro _ s100 ⟨rfl, _⟩ hE100
              show pr N2 K d tb_M156 295 [(6, vi ys0), (5, vi y5), (4, vi y4), (3, vi y3), (2, vi y2), (0, .ref 170), (1, vi y1)] [] s100 _
              refine pr_n (pc2 := 298) (lv2 := [(6, vi ys0), (5, vi y5), (4, vi y4), (3, vi y3), (2, vi y2), (0, .ref 170), (1, vi y1)]) (st2 := [.ref 30, .ref 170]) 2 (fun _ _ => rfl) ?_
              refine pr_m1 (args := [.ref 30]) (rest := []) rfl rfl rfl rfl (Nat.le_of_ble_eq_true rfl) rfl (h_136 s100 ((sto t98 y4 y5)) 30 hE100 isX_30) ?_
              rintro _ z101 t101 s101 ⟨rfl, hz101⟩ hE101
              show pr N2 K d tb_M156 301 [(6, vi ys0), (5, vi y5), (4, vi y4), (3, vi y3), (2, vi y2), (0, .ref 170), (1, vi y1)] [vi z101] s101 _
              refine pr_retz rfl rfl hz101 ?_
              exact .inl ⟨_, z101, _, rfl, ⟨rfl, hz101⟩, rfl, hE101⟩
            · refine mq_f h99 ?_
              refine pr_if1f rfl rfl (i32_z hz98) h99 ?_
              refine pr_n (pc2 := 286) (lv2 := [(6, vi ys0), (5, vi y5), (4, vi y4), (3, vi y3), (2, vi y2), (0, .ref 170), (1, vi y1)]) (st2 := [vi 0]) 1 (fun _ _ => rfl) ?_
              refine pr_end (fun _ _ => rfl) ?_
              exact .inl ⟨_, 0, _, rfl, ⟨rfl, (by decide)⟩, rfl, hE98⟩
        · refine mq_f h94 ?_
          refine pr_if1f rfl rfl (i32_z hz93) h94 ?_
          refine pr_n (pc2 := 263) (lv2 := [(6, vi ys0), (5, vi y5), (4, vi y4), (3, vi y3), (2, vi y2), (0, .ref 170), (1, vi y1)]) (st2 := [vi 0]) 1 (fun _ _ => rfl) ?_
          refine pr_end (fun _ _ => rfl) ?_
          exact .inl ⟨_, 0, _, rfl, ⟨rfl, (by decide)⟩, rfl, hE93⟩
    · refine mq_f h2 ?_
      refine pr_if2f rfl rfl hy4 (i32_n rfl) h2 ?_
      refine pr_n (pc2 := 236) (lv2 := [(6, vi ys0), (5, vi y5), (4, vi y4), (3, vi y3), (2, vi y2), (0, .ref 170), (1, vi y1)]) (st2 := [vi 1, vi y1, vi y3, vi y2, .ref 170]) 5 (fun _ _ => rfl) ?_
      refine pr_i2 (a := y1) (b := 1) rfl rfl ?_
      show pr N2 K d tb_M156 237 [(6, vi ys0), (5, vi y5), (4, vi y4), (3, vi y3), (2, vi y2), (0, .ref 170), (1, vi y1)] [vi (ipl y1 1), vi y3, vi y2, .ref 170] s _
      have h102 : i32 (ipl y1 1) := i32_in _
      refine pr_n (pc2 := 238) (lv2 := [(6, vi ys0), (5, vi y5), (4, vi y4), (3, vi y3), (2, vi y2), (0, .ref 170), (1, vi y1)]) (st2 := [vi 0, vi (ipl y1 1), vi y3, vi y2, .ref 170]) 1 (fun _ _ => rfl) ?_
      refine pr_m1 (args := [vi y2, vi y3, vi (ipl y1 1), vi 0]) (rest := []) rfl rfl rfl rfl (Nat.le_of_ble_eq_true rfl) rfl (h_150 s t y2 y3 (ipl y1 1) 0 hE hy2 hy3 h102 (by decide)) ?_
      rintro _ z103 t103 s103 ⟨rfl, hz103⟩ hE103
      show pr N2 K d tb_M156 241 [(6, vi ys0), (5, vi y5), (4, vi y4), (3, vi y3), (2, vi y2), (0, .ref 170), (1, vi y1)] [vi z103] s103 _
      refine pr_retz rfl rfl hz103 ?_
      exact .inl ⟨_, z103, _, rfl, ⟨rfl, hz103⟩, rfl, hE103⟩
  · refine mq_f h1 ?_
    refine pr_if1f rfl rfl hys0 h1 ?_
    refine pr_n (pc2 := 174) (lv2 := [(6, vi ys0), (5, vi y5), (4, vi y4), (3, vi y3), (2, vi y2), (0, .ref 170), (1, vi y1)]) (st2 := [vi 61, .ref 170]) 2 (fun _ _ => rfl) ?_
    refine pr_p1 (args := [vi 61]) (rest := []) rfl rfl rfl rfl (Nat.le_of_ble_eq_true rfl) rfl (h_148 s t 61 hE (i32_n rfl)) (fun z t3 => pu_148) ?_
    rintro _ z104 s104 ⟨rfl, hz104⟩ hX104 hE104
    show pr N2 K d tb_M156 177 [(6, vi ys0), (5, vi y5), (4, vi y4), (3, vi y3), (2, vi y2), (0, .ref 170), (1, vi y1)] [vi z104] s104 _
    by_cases h105 : z104 ≠ 0
    · refine mq_t h105 ?_
      refine pr_if1t rfl rfl (i32_z hz104) h105 ?_
      refine pr_n (pc2 := 221) (lv2 := [(6, vi ys0), (5, vi y5), (4, vi y4), (3, vi y3), (2, vi y2), (0, .ref 170), (1, vi y1)]) (st2 := [.ref 170]) 1 (fun _ _ => rfl) ?_
      refine pr_s1 (args := []) (rest := []) rfl rfl rfl rfl (Nat.le_of_ble_eq_true rfl) rfl (h_131 s104 t  hE104 ) q_bad0 ?_
      rintro _ s106 ⟨rfl, hz106⟩ hE106
      show pr N2 K d tb_M156 224 [(6, vi ys0), (5, vi y5), (4, vi y4), (3, vi y3), (2, vi y2), (0, .ref 170), (1, vi y1)] [vi 0] s106 _
      refine pr_end (fun _ _ => rfl) ?_
      exact .inl ⟨_, 0, _, rfl, ⟨rfl, (by decide)⟩, rfl, hE106⟩
    · refine mq_f h105 ?_
      refine pr_if1f rfl rfl (i32_z hz104) h105 ?_
      refine pr_n (pc2 := 183) (lv2 := [(6, vi ys0), (5, vi y5), (4, vi y4), (3, vi y3), (2, vi y2), (0, .ref 170), (1, vi y1)]) (st2 := [vi 91, .ref 170]) 2 (fun _ _ => rfl) ?_
      refine pr_p1 (args := [vi 91]) (rest := []) rfl rfl rfl rfl (Nat.le_of_ble_eq_true rfl) rfl (h_148 s104 t 91 hE104 (i32_n rfl)) (fun z t3 => pu_148) ?_
      rintro _ z107 s107 ⟨rfl, hz107⟩ hX107 hE107
      show pr N2 K d tb_M156 186 [(6, vi ys0), (5, vi y5), (4, vi y4), (3, vi y3), (2, vi y2), (0, .ref 170), (1, vi y1)] [vi z107] s107 _
      by_cases h108 : z107 ≠ 0
      · refine mq_t h108 ?_
        refine pr_if1t rfl rfl (i32_z hz107) h108 ?_
        refine pr_n (pc2 := 221) (lv2 := [(6, vi ys0), (5, vi y5), (4, vi y4), (3, vi y3), (2, vi y2), (0, .ref 170), (1, vi y1)]) (st2 := [.ref 170]) 1 (fun _ _ => rfl) ?_
        refine pr_s1 (args := []) (rest := []) rfl rfl rfl rfl (Nat.le_of_ble_eq_true rfl) rfl (h_131 s107 t  hE107 ) q_bad0 ?_
        rintro _ s109 ⟨rfl, hz109⟩ hE109
        show pr N2 K d tb_M156 224 [(6, vi ys0), (5, vi y5), (4, vi y4), (3, vi y3), (2, vi y2), (0, .ref 170), (1, vi y1)] [vi 0] s109 _
        refine pr_end (fun _ _ => rfl) ?_
        exact .inl ⟨_, 0, _, rfl, ⟨rfl, (by decide)⟩, rfl, hE109⟩
      · refine mq_f h108 ?_
        refine pr_if1f rfl rfl (i32_z hz107) h108 ?_
        refine pr_n (pc2 := 192) (lv2 := [(6, vi ys0), (5, vi y5), (4, vi y4), (3, vi y3), (2, vi y2), (0, .ref 170), (1, vi y1)]) (st2 := [vi 40, .ref 170]) 2 (fun _ _ => rfl) ?_
        refine pr_p1 (args := [vi 40]) (rest := []) rfl rfl rfl rfl (Nat.le_of_ble_eq_true rfl) rfl (h_148 s107 t 40 hE107 (i32_n rfl)) (fun z t3 => pu_148) ?_
        rintro _ z110 s110 ⟨rfl, hz110⟩ hX110 hE110
        show pr N2 K d tb_M156 195 [(6, vi ys0), (5, vi y5), (4, vi y4), (3, vi y3), (2, vi y2), (0, .ref 170), (1, vi y1)] [vi z110] s110 _
        by_cases h111 : z110 ≠ 0
        · refine mq_t h111 ?_
          refine pr_if1t rfl rfl (i32_z hz110) h111 ?_
          refine pr_n (pc2 := 221) (lv2 := [(6, vi ys0), (5, vi y5), (4, vi y4), (3, vi y3), (2, vi y2), (0, .ref 170), (1, vi y1)]) (st2 := [.ref 170]) 1 (fun _ _ => rfl) ?_
          refine pr_s1 (args := []) (rest := []) rfl rfl rfl rfl (Nat.le_of_ble_eq_true rfl) rfl (h_131 s110 t  hE110 ) q_bad0 ?_
          rintro _ s112 ⟨rfl, hz112⟩ hE112
          show pr N2 K d tb_M156 224 [(6, vi ys0), (5, vi y5), (4, vi y4), (3, vi y3), (2, vi y2), (0, .ref 170), (1, vi y1)] [vi 0] s112 _
          refine pr_end (fun _ _ => rfl) ?_
          exact .inl ⟨_, 0, _, rfl, ⟨rfl, (by decide)⟩, rfl, hE112⟩
        · refine mq_f h111 ?_
          refine pr_if1f rfl rfl (i32_z hz110) h111 ?_
          refine pr_n (pc2 := 201) (lv2 := [(6, vi ys0), (5, vi y5), (4, vi y4), (3, vi y3), (2, vi y2), (0, .ref 170), (1, vi y1)]) (st2 := [vi 33, .ref 170]) 2 (fun _ _ => rfl) ?_
          refine pr_p1 (args := [vi 33]) (rest := []) rfl rfl rfl rfl (Nat.le_of_ble_eq_true rfl) rfl (h_148 s110 t 33 hE110 (i32_n rfl)) (fun z t3 => pu_148) ?_
          rintro _ z113 s113 ⟨rfl, hz113⟩ hX113 hE113
          show pr N2 K d tb_M156 204 [(6, vi ys0), (5, vi y5), (4, vi y4), (3, vi y3), (2, vi y2), (0, .ref 170), (1, vi y1)] [vi z113] s113 _
          by_cases h114 : z113 ≠ 0
          · refine mq_t h114 ?_
            refine pr_if1t rfl rfl (i32_z hz113) h114 ?_
            refine pr_n (pc2 := 221) (lv2 := [(6, vi ys0), (5, vi y5), (4, vi y4), (3, vi y3), (2, vi y2), (0, .ref 170), (1, vi y1)]) (st2 := [.ref 170]) 1 (fun _ _ => rfl) ?_
            refine pr_s1 (args := []) (rest := []) rfl rfl rfl rfl (Nat.le_of_ble_eq_true rfl) rfl (h_131 s113 t  hE113 ) q_bad0 ?_
            rintro _ s115 ⟨rfl, hz115⟩ hE115
            show pr N2 K d tb_M156 224 [(6, vi ys0), (5, vi y5), (4, vi y4), (3, vi y3), (2, vi y2), (0, .ref 170), (1, vi y1)] [vi 0] s115 _
            refine pr_end (fun _ _ => rfl) ?_
            exact .inl ⟨_, 0, _, rfl, ⟨rfl, (by decide)⟩, rfl, hE115⟩
          · refine mq_f h114 ?_
            refine pr_if1f rfl rfl (i32_z hz113) h114 ?_
            refine pr_n (pc2 := 210) (lv2 := [(6, vi ys0), (5, vi y5), (4, vi y4), (3, vi y3), (2, vi y2), (0, .ref 170), (1, vi y1)]) (st2 := [vi 63, .ref 170]) 2 (fun _ _ => rfl) ?_
            refine pr_p1 (args := [vi 63]) (rest := []) rfl rfl rfl rfl (Nat.le_of_ble_eq_true rfl) rfl (h_148 s113 t 63 hE113 (i32_n rfl)) (fun z t3 => pu_148) ?_
            rintro _ z116 s116 ⟨rfl, hz116⟩ hX116 hE116
            show pr N2 K d tb_M156 213 [(6, vi ys0), (5, vi y5), (4, vi y4), (3, vi y3), (2, vi y2), (0, .ref 170), (1, vi y1)] [vi z116] s116 _
            by_cases h117 : z116 ≠ 0
            · refine mq_t h117 ?_
              refine pr_if1t rfl rfl (i32_z hz116) h117 ?_
              refine pr_n (pc2 := 221) (lv2 := [(6, vi ys0), (5, vi y5), (4, vi y4), (3, vi y3), (2, vi y2), (0, .ref 170), (1, vi y1)]) (st2 := [.ref 170]) 1 (fun _ _ => rfl) ?_
              refine pr_s1 (args := []) (rest := []) rfl rfl rfl rfl (Nat.le_of_ble_eq_true rfl) rfl (h_131 s116 t  hE116 ) q_bad0 ?_
              rintro _ s118 ⟨rfl, hz118⟩ hE118
              show pr N2 K d tb_M156 224 [(6, vi ys0), (5, vi y5), (4, vi y4), (3, vi y3), (2, vi y2), (0, .ref 170), (1, vi y1)] [vi 0] s118 _
              refine pr_end (fun _ _ => rfl) ?_
              exact .inl ⟨_, 0, _, rfl, ⟨rfl, (by decide)⟩, rfl, hE118⟩
            · refine mq_f h117 ?_
              refine pr_if1f rfl rfl (i32_z hz116) h117 ?_
              refine pr_n (pc2 := 217) (lv2 := [(6, vi ys0), (5, vi y5), (4, vi y4), (3, vi y3), (2, vi y2), (0, .ref 170), (1, vi y1)]) (st2 := [.ref 170]) 1 (fun _ _ => rfl) ?_
              refine pr_m1 (args := []) (rest := []) rfl rfl rfl rfl (Nat.le_of_ble_eq_true rfl) rfl (h_123 s116 t  hE116 ) ?_
              rintro _ _ t119 s119 ⟨rfl, rfl⟩ hE119
              show pr N2 K d tb_M156 220 [(6, vi ys0), (5, vi y5), (4, vi y4), (3, vi y3), (2, vi y2), (0, .ref 170), (1, vi y1)] [] s119 _
              refine pr_n (pc2 := 221) (lv2 := [(6, vi ys0), (5, vi y5), (4, vi y4), (3, vi y3), (2, vi y2), (0, .ref 170), (1, vi y1)]) (st2 := [.ref 170]) 1 (fun _ _ => rfl) ?_
              refine pr_s1 (args := []) (rest := []) rfl rfl rfl rfl (Nat.le_of_ble_eq_true rfl) rfl (h_131 s119 t119  hE119 ) q_bad0 ?_
              rintro _ s120 ⟨rfl, hz120⟩ hE120
              show pr N2 K d tb_M156 224 [(6, vi ys0), (5, vi y5), (4, vi y4), (3, vi y3), (2, vi y2), (0, .ref 170), (1, vi y1)] [vi 0] s120 _
              refine pr_end (fun _ _ => rfl) ?_
              exact .inl ⟨_, 0, _, rfl, ⟨rfl, (by decide)⟩, rfl, hE120⟩
theorem ra156 {K d C : Nat} (h_123 : rT123 K d C) (h_127 : rT127 K d C) (h_131 : rT131 K d C) (h_134 : rT134 K d C) (h_136 : rT136 K d C) (h_142 : rT142 K d C) (h_144 : rT144 K d C) (h_147 : rT147 K d C) (h_148 : rT148 K d C) (h_150 : rT150 K d C) (h_157 : rT157 K d C) (h_158 : rT158 K d C) : ∀ N, rA156 N K d C := by
  intro N
  induction N using Nat.strongRecOn with | ind N ih => ?_
  exact ru156_0 h_123 h_127 h_131 h_134 h_136 h_142 h_144 h_147 h_148 h_150 h_157 h_158 ih
set_option maxHeartbeats 20000000 in
set_option maxRecDepth 100000 in
theorem rm156 {K d C : Nat} (h_123 : rT123 K d C) (h_127 : rT127 K d C) (h_131 : rT131 K d C) (h_134 : rT134 K d C) (h_136 : rT136 K d C) (h_142 : rT142 K d C) (h_144 : rT144 K d C) (h_147 : rT147 K d C) (h_148 : rT148 K d C) (h_150 : rT150 K d C) (h_157 : rT157 K d C) (h_158 : rT158 K d C) : rT156 K (d + 1) C := by
  intro s t x1 hE hx1
  have hC : C = 177 ∨ C = 186 := hE.1
  refine pcr_of (M := tb_M156) rfl ?_
  show pr K K d tb_M156 0 [(0, .ref 170), (1, vi x1)] [] s _
  rw [rG_156]
  unfold rM156
  refine pr_n (pc2 := 1) (lv2 := [(0, .ref 170), (1, vi x1)]) (st2 := [.ref 170]) 1 (fun _ _ => rfl) ?_
  refine pr_p1 (args := []) (rest := []) rfl rfl rfl rfl (Nat.le_of_ble_eq_true rfl) rfl (h_134 s t  hE ) (fun z t3 => pu_134) ?_
  rintro _ z1 s1 ⟨rfl, hz1⟩ hX1 hE1
  show pr K K d tb_M156 4 [(0, .ref 170), (1, vi x1)] [vi z1] s1 _
  refine pr_n (pc2 := 6) (lv2 := [(2, vi z1), (0, .ref 170), (1, vi x1)]) (st2 := [.ref 170]) 2 (fun _ _ => rfl) ?_
  refine pr_gE (k2 := 170) (v := vi (t 170 5)) hE1 rfl rfl rfl (by decide) rfl rfl rfl fun h2 => ?_
  have h2 : i32 (t 170 5) := h2
  refine pr_n (pc2 := 11) (lv2 := [(3, vi (t 170 5)), (2, vi z1), (0, .ref 170), (1, vi x1)]) (st2 := [vi z1]) 2 (fun _ _ => rfl) ?_
  by_cases h3 : 0 ≤ z1
  · refine mq_t h3 ?_
    refine pr_if1t rfl rfl hz1 h3 ?_
    refine pr_n (pc2 := 20) (lv2 := [(3, vi (t 170 5)), (2, vi z1), (0, .ref 170), (1, vi x1)]) (st2 := [.ref 170]) 1 (fun _ _ => rfl) ?_
    refine pr_get (v := .ref 174) rfl rfl rfl (by decide) (rv_ref (hE1.2.1 170 11 174 rfl)) fun _ => ?_
    refine pr_n (pc2 := 24) (lv2 := [(3, vi (t 170 5)), (2, vi z1), (0, .ref 170), (1, vi x1)]) (st2 := [vi z1, .ref 174]) 1 (fun _ _ => rfl) ?_
    refine pr_aE (k2 := 174) (a := z1) (v := vi (t 174 z1.toNat)) hE1 rfl rfl rfl hz1 (by decide) rfl rfl rfl fun h5 h6 h4 => ?_
    have h4 : i32 (t 174 z1.toNat) := h4
    refine pr_n (pc2 := 28) (lv2 := [(4, vi (t 174 z1.toNat)), (3, vi (t 170 5)), (2, vi z1), (0, .ref 170), (1, vi x1)]) (st2 := [.ref 170]) 2 (fun _ _ => rfl) ?_
    refine pr_get (v := .ref 175) rfl rfl rfl (by decide) (rv_ref (hE1.2.1 170 12 175 rfl)) fun _ => ?_
    refine pr_n (pc2 := 32) (lv2 := [(4, vi (t 174 z1.toNat)), (3, vi (t 170 5)), (2, vi z1), (0, .ref 170), (1, vi x1)]) (st2 := [vi z1, .ref 175]) 1 (fun _ _ => rfl) ?_
    refine pr_aE (k2 := 175) (a := z1) (v := vi (t 175 z1.toNat)) hE1 rfl rfl rfl hz1 (by decide) rfl rfl rfl fun h8 h9 h7 => ?_
    have h7 : i32 (t 175 z1.toNat) := h7
    refine pr_n (pc2 := 37) (lv2 := [(5, vi (t 175 z1.toNat)), (4, vi (t 174 z1.toNat)), (3, vi (t 170 5)), (2, vi z1), (0, .ref 170), (1, vi x1)]) (st2 := [vi (t 174 z1.toNat)]) 2 (fun _ _ => rfl) ?_
    by_cases h10 : t 174 z1.toNat ≠ 0
    · refine mq_t h10 ?_
      refine pr_if1t rfl rfl h4 h10 ?_
      refine pr_n (pc2 := 52) (lv2 := [(5, vi (t 175 z1.toNat)), (4, vi (t 174 z1.toNat)), (3, vi (t 170 5)), (2, vi z1), (0, .ref 170), (1, vi x1)]) (st2 := [vi 1, vi (t 174 z1.toNat)]) 2 (fun _ _ => rfl) ?_
      by_cases h11 : t 174 z1.toNat ≠ 1
      · refine mq_t h11 ?_
        refine pr_if2t rfl rfl h4 (i32_n rfl) h11 ?_
        refine pr_n (pc2 := 67) (lv2 := [(5, vi (t 175 z1.toNat)), (4, vi (t 174 z1.toNat)), (3, vi (t 170 5)), (2, vi z1), (0, .ref 170), (1, vi x1)]) (st2 := [vi 5, vi (t 174 z1.toNat)]) 2 (fun _ _ => rfl) ?_
        by_cases h12 : t 174 z1.toNat ≠ 5
        · refine mq_t h12 ?_
          refine pr_if2t rfl rfl h4 (i32_n rfl) h12 ?_
          refine pr_n (pc2 := 104) (lv2 := [(5, vi (t 175 z1.toNat)), (4, vi (t 174 z1.toNat)), (3, vi (t 170 5)), (2, vi z1), (0, .ref 170), (1, vi x1)]) (st2 := [.ref 170]) 1 (fun _ _ => rfl) ?_
          refine pr_gE (k2 := 170) (v := vi (t 170 37)) hE1 rfl rfl rfl (by decide) rfl rfl rfl fun h13 => ?_
          have h13 : 0 ≤ t 170 37 ∧ t 170 37 ≤ 1 := h13
          by_cases h14 : t 170 37 ≠ 0
          · refine mq_t h14 ?_
            refine pr_if1t rfl rfl (i32_z h13) h14 ?_
            refine pr_n (pc2 := 132) (lv2 := [(5, vi (t 175 z1.toNat)), (4, vi (t 174 z1.toNat)), (3, vi (t 170 5)), (2, vi z1), (0, .ref 170), (1, vi x1)]) (st2 := [.ref 170]) 1 (fun _ _ => rfl) ?_
            refine pr_gE (k2 := 170) (v := vi (t 170 37)) hE1 rfl rfl rfl (by decide) rfl rfl rfl fun h15 => ?_
            have h15 : 0 ≤ t 170 37 ∧ t 170 37 ≤ 1 := h15
            refine pr_if1t rfl rfl (i32_z h15) (show t 170 37 ≠ 0 by omega) ?_
            show pr K K d tb_M156 163 [(5, vi (t 175 z1.toNat)), (4, vi (t 174 z1.toNat)), (3, vi (t 170 5)), (2, vi z1), (0, .ref 170), (1, vi x1)] [] s1 _
            refine pr_n (pc2 := 164) (lv2 := [(5, vi (t 175 z1.toNat)), (4, vi (t 174 z1.toNat)), (3, vi (t 170 5)), (2, vi z1), (0, .ref 170), (1, vi x1)]) (st2 := [vi 0]) 1 (fun _ _ => rfl) ?_
            exact ((ra156 h_123 h_127 h_131 h_134 h_136 h_142 h_144 h_147 h_148 h_150 h_157 h_158 K)) s1 t (t 175 z1.toNat) (t 174 z1.toNat) (t 170 5) z1 x1 0 hE1 h7 h4 h2 hz1 hx1 (i32_n rfl)
          · refine mq_f h14 ?_
            refine pr_if1f rfl rfl (i32_z h13) h14 ?_
            refine pr_n (pc2 := 113) (lv2 := [(5, vi (t 175 z1.toNat)), (4, vi (t 174 z1.toNat)), (3, vi (t 170 5)), (2, vi z1), (0, .ref 170), (1, vi x1)]) (st2 := [vi 2, vi (t 174 z1.toNat)]) 2 (fun _ _ => rfl) ?_
            by_cases h16 : t 174 z1.toNat = 2
            · refine mq_t h16 ?_
              refine pr_if2t rfl rfl h4 (i32_n rfl) h16 ?_
              refine pr_n (pc2 := 125) (lv2 := [(5, vi (t 175 z1.toNat)), (4, vi (t 174 z1.toNat)), (3, vi (t 170 5)), (2, vi z1), (0, .ref 170), (1, vi x1)]) (st2 := [vi 33, .ref 170]) 2 (fun _ _ => rfl) ?_
              refine pr_p1 (args := [vi 33]) (rest := []) rfl rfl rfl rfl (Nat.le_of_ble_eq_true rfl) rfl (h_148 s1 t 33 hE1 (i32_n rfl)) (fun z t3 => pu_148) ?_
              rintro _ z17 s17 ⟨rfl, hz17⟩ hX17 hE17
              show pr K K d tb_M156 128 [(5, vi (t 175 z1.toNat)), (4, vi (t 174 z1.toNat)), (3, vi (t 170 5)), (2, vi z1), (0, .ref 170), (1, vi x1)] [vi z17] s17 _
              by_cases h18 : z17 ≠ 0
              · refine mq_t h18 ?_
                refine pr_if1t rfl rfl (i32_z hz17) h18 ?_
                refine pr_n (pc2 := 164) (lv2 := [(5, vi (t 175 z1.toNat)), (4, vi (t 174 z1.toNat)), (3, vi (t 170 5)), (2, vi z1), (0, .ref 170), (1, vi x1)]) (st2 := [vi 1]) 2 (fun _ _ => rfl) ?_
                exact ((ra156 h_123 h_127 h_131 h_134 h_136 h_142 h_144 h_147 h_148 h_150 h_157 h_158 K)) s17 t (t 175 z1.toNat) (t 174 z1.toNat) (t 170 5) z1 x1 1 hE17 h7 h4 h2 hz1 hx1 (i32_n rfl)
              · refine mq_f h18 ?_
                refine pr_if1f rfl rfl (i32_z hz17) h18 ?_
                refine pr_n (pc2 := 132) (lv2 := [(5, vi (t 175 z1.toNat)), (4, vi (t 174 z1.toNat)), (3, vi (t 170 5)), (2, vi z1), (0, .ref 170), (1, vi x1)]) (st2 := [.ref 170]) 1 (fun _ _ => rfl) ?_
                refine pr_gE (k2 := 170) (v := vi (t 170 37)) hE17 rfl rfl rfl (by decide) rfl rfl rfl fun h19 => ?_
                have h19 : 0 ≤ t 170 37 ∧ t 170 37 ≤ 1 := h19
                refine pr_if1f rfl rfl (i32_z h19) (show ¬ (t 170 37 ≠ 0) by omega) ?_
                show pr K K d tb_M156 138 [(5, vi (t 175 z1.toNat)), (4, vi (t 174 z1.toNat)), (3, vi (t 170 5)), (2, vi z1), (0, .ref 170), (1, vi x1)] [] s17 _
                refine pr_n (pc2 := 141) (lv2 := [(5, vi (t 175 z1.toNat)), (4, vi (t 174 z1.toNat)), (3, vi (t 170 5)), (2, vi z1), (0, .ref 170), (1, vi x1)]) (st2 := [vi 2, vi (t 174 z1.toNat)]) 2 (fun _ _ => rfl) ?_
                refine pr_if2t rfl rfl h4 (i32_n rfl) (show t 174 z1.toNat = 2 by omega) ?_
                show pr K K d tb_M156 150 [(5, vi (t 175 z1.toNat)), (4, vi (t 174 z1.toNat)), (3, vi (t 170 5)), (2, vi z1), (0, .ref 170), (1, vi x1)] [] s17 _
                refine pr_n (pc2 := 153) (lv2 := [(5, vi (t 175 z1.toNat)), (4, vi (t 174 z1.toNat)), (3, vi (t 170 5)), (2, vi z1), (0, .ref 170), (1, vi x1)]) (st2 := [vi 63, .ref 170]) 2 (fun _ _ => rfl) ?_
                refine pr_p1 (args := [vi 63]) (rest := []) rfl rfl rfl rfl (Nat.le_of_ble_eq_true rfl) rfl (h_148 s17 t 63 hE17 (i32_n rfl)) (fun z t3 => pu_148) ?_
                rintro _ z20 s20 ⟨rfl, hz20⟩ hX20 hE20
                show pr K K d tb_M156 156 [(5, vi (t 175 z1.toNat)), (4, vi (t 174 z1.toNat)), (3, vi (t 170 5)), (2, vi z1), (0, .ref 170), (1, vi x1)] [vi z20] s20 _
                by_cases h21 : z20 = 0
                · refine mq_t h21 ?_
                  refine pr_if1t rfl rfl (i32_z hz20) h21 ?_
                  refine pr_n (pc2 := 164) (lv2 := [(5, vi (t 175 z1.toNat)), (4, vi (t 174 z1.toNat)), (3, vi (t 170 5)), (2, vi z1), (0, .ref 170), (1, vi x1)]) (st2 := [vi 0]) 1 (fun _ _ => rfl) ?_
                  exact ((ra156 h_123 h_127 h_131 h_134 h_136 h_142 h_144 h_147 h_148 h_150 h_157 h_158 K)) s20 t (t 175 z1.toNat) (t 174 z1.toNat) (t 170 5) z1 x1 0 hE20 h7 h4 h2 hz1 hx1 (i32_n rfl)
                · refine mq_f h21 ?_
                  refine pr_if1f rfl rfl (i32_z hz20) h21 ?_
                  refine pr_n (pc2 := 164) (lv2 := [(5, vi (t 175 z1.toNat)), (4, vi (t 174 z1.toNat)), (3, vi (t 170 5)), (2, vi z1), (0, .ref 170), (1, vi x1)]) (st2 := [vi 1]) 2 (fun _ _ => rfl) ?_
                  exact ((ra156 h_123 h_127 h_131 h_134 h_136 h_142 h_144 h_147 h_148 h_150 h_157 h_158 K)) s20 t (t 175 z1.toNat) (t 174 z1.toNat) (t 170 5) z1 x1 1 hE20 h7 h4 h2 hz1 hx1 (i32_n rfl)
            · refine mq_f h16 ?_
              refine pr_if2f rfl rfl h4 (i32_n rfl) h16 ?_
              refine pr_n (pc2 := 119) (lv2 := [(5, vi (t 175 z1.toNat)), (4, vi (t 174 z1.toNat)), (3, vi (t 170 5)), (2, vi z1), (0, .ref 170), (1, vi x1)]) (st2 := [vi 4, vi (t 174 z1.toNat)]) 2 (fun _ _ => rfl) ?_
              by_cases h22 : t 174 z1.toNat ≠ 4
              · refine mq_t h22 ?_
                refine pr_if2t rfl rfl h4 (i32_n rfl) h22 ?_
                refine pr_n (pc2 := 132) (lv2 := [(5, vi (t 175 z1.toNat)), (4, vi (t 174 z1.toNat)), (3, vi (t 170 5)), (2, vi z1), (0, .ref 170), (1, vi x1)]) (st2 := [.ref 170]) 1 (fun _ _ => rfl) ?_
                refine pr_gE (k2 := 170) (v := vi (t 170 37)) hE1 rfl rfl rfl (by decide) rfl rfl rfl fun h23 => ?_
                have h23 : 0 ≤ t 170 37 ∧ t 170 37 ≤ 1 := h23
                refine pr_if1f rfl rfl (i32_z h23) (show ¬ (t 170 37 ≠ 0) by omega) ?_
                show pr K K d tb_M156 138 [(5, vi (t 175 z1.toNat)), (4, vi (t 174 z1.toNat)), (3, vi (t 170 5)), (2, vi z1), (0, .ref 170), (1, vi x1)] [] s1 _
                refine pr_n (pc2 := 141) (lv2 := [(5, vi (t 175 z1.toNat)), (4, vi (t 174 z1.toNat)), (3, vi (t 170 5)), (2, vi z1), (0, .ref 170), (1, vi x1)]) (st2 := [vi 2, vi (t 174 z1.toNat)]) 2 (fun _ _ => rfl) ?_
                refine pr_if2f rfl rfl h4 (i32_n rfl) (show ¬ (t 174 z1.toNat = 2) by omega) ?_
                show pr K K d tb_M156 144 [(5, vi (t 175 z1.toNat)), (4, vi (t 174 z1.toNat)), (3, vi (t 170 5)), (2, vi z1), (0, .ref 170), (1, vi x1)] [] s1 _
                refine pr_n (pc2 := 147) (lv2 := [(5, vi (t 175 z1.toNat)), (4, vi (t 174 z1.toNat)), (3, vi (t 170 5)), (2, vi z1), (0, .ref 170), (1, vi x1)]) (st2 := [vi 3, vi (t 174 z1.toNat)]) 2 (fun _ _ => rfl) ?_
                by_cases h24 : t 174 z1.toNat ≠ 3
                · refine mq_t h24 ?_
                  refine pr_if2t rfl rfl h4 (i32_n rfl) h24 ?_
                  refine pr_n (pc2 := 164) (lv2 := [(5, vi (t 175 z1.toNat)), (4, vi (t 174 z1.toNat)), (3, vi (t 170 5)), (2, vi z1), (0, .ref 170), (1, vi x1)]) (st2 := [vi 0]) 1 (fun _ _ => rfl) ?_
                  exact ((ra156 h_123 h_127 h_131 h_134 h_136 h_142 h_144 h_147 h_148 h_150 h_157 h_158 K)) s1 t (t 175 z1.toNat) (t 174 z1.toNat) (t 170 5) z1 x1 0 hE1 h7 h4 h2 hz1 hx1 (i32_n rfl)
                · refine mq_f h24 ?_
                  refine pr_if2f rfl rfl h4 (i32_n rfl) h24 ?_
                  refine pr_n (pc2 := 153) (lv2 := [(5, vi (t 175 z1.toNat)), (4, vi (t 174 z1.toNat)), (3, vi (t 170 5)), (2, vi z1), (0, .ref 170), (1, vi x1)]) (st2 := [vi 63, .ref 170]) 2 (fun _ _ => rfl) ?_
                  refine pr_p1 (args := [vi 63]) (rest := []) rfl rfl rfl rfl (Nat.le_of_ble_eq_true rfl) rfl (h_148 s1 t 63 hE1 (i32_n rfl)) (fun z t3 => pu_148) ?_
                  rintro _ z25 s25 ⟨rfl, hz25⟩ hX25 hE25
                  show pr K K d tb_M156 156 [(5, vi (t 175 z1.toNat)), (4, vi (t 174 z1.toNat)), (3, vi (t 170 5)), (2, vi z1), (0, .ref 170), (1, vi x1)] [vi z25] s25 _
                  by_cases h26 : z25 = 0
                  · refine mq_t h26 ?_
                    refine pr_if1t rfl rfl (i32_z hz25) h26 ?_
                    refine pr_n (pc2 := 164) (lv2 := [(5, vi (t 175 z1.toNat)), (4, vi (t 174 z1.toNat)), (3, vi (t 170 5)), (2, vi z1), (0, .ref 170), (1, vi x1)]) (st2 := [vi 0]) 1 (fun _ _ => rfl) ?_
                    exact ((ra156 h_123 h_127 h_131 h_134 h_136 h_142 h_144 h_147 h_148 h_150 h_157 h_158 K)) s25 t (t 175 z1.toNat) (t 174 z1.toNat) (t 170 5) z1 x1 0 hE25 h7 h4 h2 hz1 hx1 (i32_n rfl)
                  · refine mq_f h26 ?_
                    refine pr_if1f rfl rfl (i32_z hz25) h26 ?_
                    refine pr_n (pc2 := 164) (lv2 := [(5, vi (t 175 z1.toNat)), (4, vi (t 174 z1.toNat)), (3, vi (t 170 5)), (2, vi z1), (0, .ref 170), (1, vi x1)]) (st2 := [vi 1]) 2 (fun _ _ => rfl) ?_
                    exact ((ra156 h_123 h_127 h_131 h_134 h_136 h_142 h_144 h_147 h_148 h_150 h_157 h_158 K)) s25 t (t 175 z1.toNat) (t 174 z1.toNat) (t 170 5) z1 x1 1 hE25 h7 h4 h2 hz1 hx1 (i32_n rfl)
              · refine mq_f h22 ?_
                refine pr_if2f rfl rfl h4 (i32_n rfl) h22 ?_
                refine pr_n (pc2 := 125) (lv2 := [(5, vi (t 175 z1.toNat)), (4, vi (t 174 z1.toNat)), (3, vi (t 170 5)), (2, vi z1), (0, .ref 170), (1, vi x1)]) (st2 := [vi 33, .ref 170]) 2 (fun _ _ => rfl) ?_
                refine pr_p1 (args := [vi 33]) (rest := []) rfl rfl rfl rfl (Nat.le_of_ble_eq_true rfl) rfl (h_148 s1 t 33 hE1 (i32_n rfl)) (fun z t3 => pu_148) ?_
                rintro _ z27 s27 ⟨rfl, hz27⟩ hX27 hE27
                show pr K K d tb_M156 128 [(5, vi (t 175 z1.toNat)), (4, vi (t 174 z1.toNat)), (3, vi (t 170 5)), (2, vi z1), (0, .ref 170), (1, vi x1)] [vi z27] s27 _
                by_cases h28 : z27 ≠ 0
                · refine mq_t h28 ?_
                  refine pr_if1t rfl rfl (i32_z hz27) h28 ?_
                  refine pr_n (pc2 := 164) (lv2 := [(5, vi (t 175 z1.toNat)), (4, vi (t 174 z1.toNat)), (3, vi (t 170 5)), (2, vi z1), (0, .ref 170), (1, vi x1)]) (st2 := [vi 1]) 2 (fun _ _ => rfl) ?_
                  exact ((ra156 h_123 h_127 h_131 h_134 h_136 h_142 h_144 h_147 h_148 h_150 h_157 h_158 K)) s27 t (t 175 z1.toNat) (t 174 z1.toNat) (t 170 5) z1 x1 1 hE27 h7 h4 h2 hz1 hx1 (i32_n rfl)
                · refine mq_f h28 ?_
                  refine pr_if1f rfl rfl (i32_z hz27) h28 ?_
                  refine pr_n (pc2 := 132) (lv2 := [(5, vi (t 175 z1.toNat)), (4, vi (t 174 z1.toNat)), (3, vi (t 170 5)), (2, vi z1), (0, .ref 170), (1, vi x1)]) (st2 := [.ref 170]) 1 (fun _ _ => rfl) ?_
                  refine pr_gE (k2 := 170) (v := vi (t 170 37)) hE27 rfl rfl rfl (by decide) rfl rfl rfl fun h29 => ?_
                  have h29 : 0 ≤ t 170 37 ∧ t 170 37 ≤ 1 := h29
                  refine pr_if1f rfl rfl (i32_z h29) (show ¬ (t 170 37 ≠ 0) by omega) ?_
                  show pr K K d tb_M156 138 [(5, vi (t 175 z1.toNat)), (4, vi (t 174 z1.toNat)), (3, vi (t 170 5)), (2, vi z1), (0, .ref 170), (1, vi x1)] [] s27 _
                  refine pr_n (pc2 := 141) (lv2 := [(5, vi (t 175 z1.toNat)), (4, vi (t 174 z1.toNat)), (3, vi (t 170 5)), (2, vi z1), (0, .ref 170), (1, vi x1)]) (st2 := [vi 2, vi (t 174 z1.toNat)]) 2 (fun _ _ => rfl) ?_
                  refine pr_if2f rfl rfl h4 (i32_n rfl) (show ¬ (t 174 z1.toNat = 2) by omega) ?_
                  show pr K K d tb_M156 144 [(5, vi (t 175 z1.toNat)), (4, vi (t 174 z1.toNat)), (3, vi (t 170 5)), (2, vi z1), (0, .ref 170), (1, vi x1)] [] s27 _
                  refine pr_n (pc2 := 147) (lv2 := [(5, vi (t 175 z1.toNat)), (4, vi (t 174 z1.toNat)), (3, vi (t 170 5)), (2, vi z1), (0, .ref 170), (1, vi x1)]) (st2 := [vi 3, vi (t 174 z1.toNat)]) 2 (fun _ _ => rfl) ?_
                  by_cases h30 : t 174 z1.toNat ≠ 3
                  · refine mq_t h30 ?_
                    refine pr_if2t rfl rfl h4 (i32_n rfl) h30 ?_
                    refine pr_n (pc2 := 164) (lv2 := [(5, vi (t 175 z1.toNat)), (4, vi (t 174 z1.toNat)), (3, vi (t 170 5)), (2, vi z1), (0, .ref 170), (1, vi x1)]) (st2 := [vi 0]) 1 (fun _ _ => rfl) ?_
                    exact ((ra156 h_123 h_127 h_131 h_134 h_136 h_142 h_144 h_147 h_148 h_150 h_157 h_158 K)) s27 t (t 175 z1.toNat) (t 174 z1.toNat) (t 170 5) z1 x1 0 hE27 h7 h4 h2 hz1 hx1 (i32_n rfl)
                  · refine mq_f h30 ?_
                    refine pr_if2f rfl rfl h4 (i32_n rfl) h30 ?_
                    refine pr_n (pc2 := 153) (lv2 := [(5, vi (t 175 z1.toNat)), (4, vi (t 174 z1.toNat)), (3, vi (t 170 5)), (2, vi z1), (0, .ref 170), (1, vi x1)]) (st2 := [vi 63, .ref 170]) 2 (fun _ _ => rfl) ?_
                    refine pr_p1 (args := [vi 63]) (rest := []) rfl rfl rfl rfl (Nat.le_of_ble_eq_true rfl) rfl (h_148 s27 t 63 hE27 (i32_n rfl)) (fun z t3 => pu_148) ?_
                    rintro _ z31 s31 ⟨rfl, hz31⟩ hX31 hE31
                    show pr K K d tb_M156 156 [(5, vi (t 175 z1.toNat)), (4, vi (t 174 z1.toNat)), (3, vi (t 170 5)), (2, vi z1), (0, .ref 170), (1, vi x1)] [vi z31] s31 _
                    by_cases h32 : z31 = 0
                    · refine mq_t h32 ?_
                      refine pr_if1t rfl rfl (i32_z hz31) h32 ?_
                      refine pr_n (pc2 := 164) (lv2 := [(5, vi (t 175 z1.toNat)), (4, vi (t 174 z1.toNat)), (3, vi (t 170 5)), (2, vi z1), (0, .ref 170), (1, vi x1)]) (st2 := [vi 0]) 1 (fun _ _ => rfl) ?_
                      exact ((ra156 h_123 h_127 h_131 h_134 h_136 h_142 h_144 h_147 h_148 h_150 h_157 h_158 K)) s31 t (t 175 z1.toNat) (t 174 z1.toNat) (t 170 5) z1 x1 0 hE31 h7 h4 h2 hz1 hx1 (i32_n rfl)
                    · refine mq_f h32 ?_
                      refine pr_if1f rfl rfl (i32_z hz31) h32 ?_
                      refine pr_n (pc2 := 164) (lv2 := [(5, vi (t 175 z1.toNat)), (4, vi (t 174 z1.toNat)), (3, vi (t 170 5)), (2, vi z1), (0, .ref 170), (1, vi x1)]) (st2 := [vi 1]) 2 (fun _ _ => rfl) ?_
                      exact ((ra156 h_123 h_127 h_131 h_134 h_136 h_142 h_144 h_147 h_148 h_150 h_157 h_158 K)) s31 t (t 175 z1.toNat) (t 174 z1.toNat) (t 170 5) z1 x1 1 hE31 h7 h4 h2 hz1 hx1 (i32_n rfl)
        · refine mq_f h12 ?_
          refine pr_if2f rfl rfl h4 (i32_n rfl) h12 ?_
          refine pr_n (pc2 := 73) (lv2 := [(5, vi (t 175 z1.toNat)), (4, vi (t 174 z1.toNat)), (3, vi (t 170 5)), (2, vi z1), (0, .ref 170), (1, vi x1)]) (st2 := [vi 40, .ref 170]) 2 (fun _ _ => rfl) ?_
          refine pr_p1 (args := [vi 40]) (rest := []) rfl rfl rfl rfl (Nat.le_of_ble_eq_true rfl) rfl (h_148 s1 t 40 hE1 (i32_n rfl)) (fun z t3 => pu_148) ?_
          rintro _ z33 s33 ⟨rfl, hz33⟩ hX33 hE33
          show pr K K d tb_M156 76 [(5, vi (t 175 z1.toNat)), (4, vi (t 174 z1.toNat)), (3, vi (t 170 5)), (2, vi z1), (0, .ref 170), (1, vi x1)] [vi z33] s33 _
          by_cases h34 : z33 = 0
          · refine mq_t h34 ?_
            refine pr_if1t rfl rfl (i32_z hz33) h34 ?_
            refine pr_n (pc2 := 164) (lv2 := [(5, vi (t 175 z1.toNat)), (4, vi (t 174 z1.toNat)), (3, vi (t 170 5)), (2, vi z1), (0, .ref 170), (1, vi x1)]) (st2 := [vi 0]) 2 (fun _ _ => rfl) ?_
            exact ((ra156 h_123 h_127 h_131 h_134 h_136 h_142 h_144 h_147 h_148 h_150 h_157 h_158 K)) s33 t (t 175 z1.toNat) (t 174 z1.toNat) (t 170 5) z1 x1 0 hE33 h7 h4 h2 hz1 hx1 (i32_n rfl)
          · refine mq_f h34 ?_
            refine pr_if1f rfl rfl (i32_z hz33) h34 ?_
            refine pr_n (pc2 := 80) (lv2 := [(5, vi (t 175 z1.toNat)), (4, vi (t 174 z1.toNat)), (3, vi (t 170 5)), (2, vi z1), (0, .ref 170), (1, vi x1)]) (st2 := [.ref 170]) 1 (fun _ _ => rfl) ?_
            refine pr_gE (k2 := 170) (v := vi (t 170 37)) hE33 rfl rfl rfl (by decide) rfl rfl rfl fun h35 => ?_
            have h35 : 0 ≤ t 170 37 ∧ t 170 37 ≤ 1 := h35
            by_cases h36 : t 170 37 ≠ 0
            · refine mq_t h36 ?_
              refine pr_if1t rfl rfl (i32_z h35) h36 ?_
              refine pr_n (pc2 := 164) (lv2 := [(5, vi (t 175 z1.toNat)), (4, vi (t 174 z1.toNat)), (3, vi (t 170 5)), (2, vi z1), (0, .ref 170), (1, vi x1)]) (st2 := [vi 0]) 2 (fun _ _ => rfl) ?_
              exact ((ra156 h_123 h_127 h_131 h_134 h_136 h_142 h_144 h_147 h_148 h_150 h_157 h_158 K)) s33 t (t 175 z1.toNat) (t 174 z1.toNat) (t 170 5) z1 x1 0 hE33 h7 h4 h2 hz1 hx1 (i32_n rfl)
            · refine mq_f h36 ?_
              refine pr_if1f rfl rfl (i32_z h35) h36 ?_
              refine pr_n (pc2 := 89) (lv2 := [(5, vi (t 175 z1.toNat)), (4, vi (t 174 z1.toNat)), (3, vi (t 170 5)), (2, vi z1), (0, .ref 170), (1, vi x1)]) (st2 := [.ref 170, vi (t 175 z1.toNat)]) 2 (fun _ _ => rfl) ?_
              refine pr_gE (k2 := 170) (v := vi (t 170 35)) hE33 rfl rfl rfl (by decide) rfl rfl rfl fun h37 => ?_
              have h37 : i32 (t 170 35) := h37
              by_cases h38 : t 175 z1.toNat = t 170 35
              · refine mq_t h38 ?_
                refine pr_if2t rfl rfl h7 h37 h38 ?_
                refine pr_n (pc2 := 164) (lv2 := [(5, vi (t 175 z1.toNat)), (4, vi (t 174 z1.toNat)), (3, vi (t 170 5)), (2, vi z1), (0, .ref 170), (1, vi x1)]) (st2 := [vi 0]) 2 (fun _ _ => rfl) ?_
                exact ((ra156 h_123 h_127 h_131 h_134 h_136 h_142 h_144 h_147 h_148 h_150 h_157 h_158 K)) s33 t (t 175 z1.toNat) (t 174 z1.toNat) (t 170 5) z1 x1 0 hE33 h7 h4 h2 hz1 hx1 (i32_n rfl)
              · refine mq_f h38 ?_
                refine pr_if2f rfl rfl h7 h37 h38 ?_
                refine pr_n (pc2 := 164) (lv2 := [(5, vi (t 175 z1.toNat)), (4, vi (t 174 z1.toNat)), (3, vi (t 170 5)), (2, vi z1), (0, .ref 170), (1, vi x1)]) (st2 := [vi 1]) 2 (fun _ _ => rfl) ?_
                exact ((ra156 h_123 h_127 h_131 h_134 h_136 h_142 h_144 h_147 h_148 h_150 h_157 h_158 K)) s33 t (t 175 z1.toNat) (t 174 z1.toNat) (t 170 5) z1 x1 1 hE33 h7 h4 h2 hz1 hx1 (i32_n rfl)
      · refine mq_f h11 ?_
        refine pr_if2f rfl rfl h4 (i32_n rfl) h11 ?_
        refine pr_n (pc2 := 58) (lv2 := [(5, vi (t 175 z1.toNat)), (4, vi (t 174 z1.toNat)), (3, vi (t 170 5)), (2, vi z1), (0, .ref 170), (1, vi x1)]) (st2 := [vi 91, .ref 170]) 2 (fun _ _ => rfl) ?_
        refine pr_p1 (args := [vi 91]) (rest := []) rfl rfl rfl rfl (Nat.le_of_ble_eq_true rfl) rfl (h_148 s1 t 91 hE1 (i32_n rfl)) (fun z t3 => pu_148) ?_
        rintro _ z39 s39 ⟨rfl, hz39⟩ hX39 hE39
        show pr K K d tb_M156 61 [(5, vi (t 175 z1.toNat)), (4, vi (t 174 z1.toNat)), (3, vi (t 170 5)), (2, vi z1), (0, .ref 170), (1, vi x1)] [vi z39] s39 _
        refine pr_n (pc2 := 164) (lv2 := [(5, vi (t 175 z1.toNat)), (4, vi (t 174 z1.toNat)), (3, vi (t 170 5)), (2, vi z1), (0, .ref 170), (1, vi x1)]) (st2 := [vi z39]) 1 (fun _ _ => rfl) ?_
        exact ((ra156 h_123 h_127 h_131 h_134 h_136 h_142 h_144 h_147 h_148 h_150 h_157 h_158 K)) s39 t (t 175 z1.toNat) (t 174 z1.toNat) (t 170 5) z1 x1 z39 hE39 h7 h4 h2 hz1 hx1 (i32_z hz39)
    · refine mq_f h10 ?_
      refine pr_if1f rfl rfl h4 h10 ?_
      refine pr_n (pc2 := 43) (lv2 := [(5, vi (t 175 z1.toNat)), (4, vi (t 174 z1.toNat)), (3, vi (t 170 5)), (2, vi z1), (0, .ref 170), (1, vi x1)]) (st2 := [vi 61, .ref 170]) 2 (fun _ _ => rfl) ?_
      refine pr_p1 (args := [vi 61]) (rest := []) rfl rfl rfl rfl (Nat.le_of_ble_eq_true rfl) rfl (h_148 s1 t 61 hE1 (i32_n rfl)) (fun z t3 => pu_148) ?_
      rintro _ z40 s40 ⟨rfl, hz40⟩ hX40 hE40
      show pr K K d tb_M156 46 [(5, vi (t 175 z1.toNat)), (4, vi (t 174 z1.toNat)), (3, vi (t 170 5)), (2, vi z1), (0, .ref 170), (1, vi x1)] [vi z40] s40 _
      refine pr_n (pc2 := 164) (lv2 := [(5, vi (t 175 z1.toNat)), (4, vi (t 174 z1.toNat)), (3, vi (t 170 5)), (2, vi z1), (0, .ref 170), (1, vi x1)]) (st2 := [vi z40]) 1 (fun _ _ => rfl) ?_
      exact ((ra156 h_123 h_127 h_131 h_134 h_136 h_142 h_144 h_147 h_148 h_150 h_157 h_158 K)) s40 t (t 175 z1.toNat) (t 174 z1.toNat) (t 170 5) z1 x1 z40 hE40 h7 h4 h2 hz1 hx1 (i32_z hz40)
  · refine mq_f h3 ?_
    refine pr_if1f rfl rfl hz1 h3 ?_
    refine pr_n (pc2 := 15) (lv2 := [(3, vi (t 170 5)), (2, vi z1), (0, .ref 170), (1, vi x1)]) (st2 := [.ref 170]) 1 (fun _ _ => rfl) ?_
    refine pr_s1 (args := []) (rest := []) rfl rfl rfl rfl (Nat.le_of_ble_eq_true rfl) rfl (h_131 s1 t  hE1 ) q_bad0 ?_
    rintro _ s41 ⟨rfl, hz41⟩ hE41
    show pr K K d tb_M156 18 [(3, vi (t 170 5)), (2, vi z1), (0, .ref 170), (1, vi x1)] [vi 0] s41 _
    refine pr_end (fun _ _ => rfl) ?_
    exact .inl ⟨_, 0, _, rfl, ⟨rfl, (by decide)⟩, rfl, hE41⟩
set_option maxHeartbeats 20000000 in
set_option maxRecDepth 100000 in
theorem ru159_0 {N K d C : Nat} (h_123 : rT123 K d C) (h_127 : rT127 K d C) (h_136 : rT136 K d C) (h_137 : rT137 K d C) (h_141 : rT141 K d C) (h_144 : rT144 K d C) (ih : ∀ N2, N2 < N → rA159 N2 K d C) : rU159_0 N K d C := by
  intro s t  hE 
  have hC : C = 177 ∨ C = 186 := hE.1
  rw [rG_159_12]
  unfold rM159_12
  refine pr_lt (pc2 := 13) (lv2 := [(0, .ref 170)]) (st2 := [.ref 170]) (fun _ _ => rfl) fun N2 hN2 => ?_
  refine pr_n (pc2 := 15) (lv2 := [(0, .ref 170)]) (st2 := [.ref 8, .ref 170]) 1 (fun _ _ => rfl) ?_
  refine pr_p1 (args := [.ref 8]) (rest := []) rfl rfl rfl rfl (Nat.le_of_ble_eq_true rfl) rfl (h_127 s t 8 hE isX_8) (fun z t3 => pu_127) ?_
  rintro _ z1 s1 ⟨rfl, hz1⟩ hX1 hE1
  show pr N2 K d tb_M159 18 [(0, .ref 170)] [vi z1] s1 _
  by_cases h2 : z1 = 0
  · refine mq_t h2 ?_
    refine pr_if1t rfl rfl (i32_z hz1) h2 ?_
    exact ((ih N2 hN2).2) s1 t  hE1 
  · refine mq_f h2 ?_
    refine pr_if1f rfl rfl (i32_z hz1) h2 ?_
    refine pr_n (pc2 := 22) (lv2 := [(0, .ref 170)]) (st2 := [.ref 170]) 1 (fun _ _ => rfl) ?_
    refine pr_m1 (args := []) (rest := []) rfl rfl rfl rfl (Nat.le_of_ble_eq_true rfl) rfl (h_123 s1 t  hE1 ) ?_
    rintro _ _ t3 s3 ⟨rfl, rfl⟩ hE3
    show pr N2 K d tb_M159 25 [(0, .ref 170)] [] s3 _
    refine pr_n (pc2 := 27) (lv2 := [(0, .ref 170)]) (st2 := [vi 0, .ref 170]) 2 (fun _ _ => rfl) ?_
    refine pr_m1 (args := [vi 0]) (rest := []) rfl rfl rfl rfl (Nat.le_of_ble_eq_true rfl) rfl (h_137 s3 t3 0 hE3 (i32_n rfl)) ?_
    rintro _ z4 t4 s4 ⟨rfl, hz4⟩ hE4
    show pr N2 K d tb_M159 30 [(0, .ref 170)] [vi z4] s4 _
    by_cases h5 : z4 = 0
    · refine mq_t h5 ?_
      refine pr_if1t rfl rfl (i32_z hz4) h5 ?_
      refine pr_n (pc2 := 43) (lv2 := [(0, .ref 170)]) (st2 := [vi 0]) 1 (fun _ _ => rfl) ?_
      refine pr_end (fun _ _ => rfl) ?_
      exact .inl ⟨_, 0, _, rfl, ⟨rfl, (by decide)⟩, rfl, hE4⟩
    · refine mq_f h5 ?_
      refine pr_if1f rfl rfl (i32_z hz4) h5 ?_
      refine pr_n (pc2 := 36) (lv2 := [(0, .ref 170)]) (st2 := [.ref 30, .ref 170]) 2 (fun _ _ => rfl) ?_
      refine pr_m1 (args := [.ref 30]) (rest := []) rfl rfl rfl rfl (Nat.le_of_ble_eq_true rfl) rfl (h_136 s4 t4 30 hE4 isX_30) ?_
      rintro _ z6 t6 s6 ⟨rfl, hz6⟩ hE6
      show pr N2 K d tb_M159 39 [(0, .ref 170)] [vi z6] s6 _
      by_cases h7 : z6 ≠ 0
      · refine mq_t h7 ?_
        refine pr_if1t rfl rfl (i32_z hz6) h7 ?_
        exact ((ih N2 hN2).1) s6 t6  hE6 
      · refine mq_f h7 ?_
        refine pr_if1f rfl rfl (i32_z hz6) h7 ?_
        refine pr_n (pc2 := 43) (lv2 := [(0, .ref 170)]) (st2 := [vi 0]) 1 (fun _ _ => rfl) ?_
        refine pr_end (fun _ _ => rfl) ?_
        exact .inl ⟨_, 0, _, rfl, ⟨rfl, (by decide)⟩, rfl, hE6⟩
set_option maxHeartbeats 20000000 in
set_option maxRecDepth 100000 in
theorem ru159_1 {N K d C : Nat} (h_123 : rT123 K d C) (h_127 : rT127 K d C) (h_136 : rT136 K d C) (h_137 : rT137 K d C) (h_141 : rT141 K d C) (h_144 : rT144 K d C) (ih : ∀ N2, N2 < N → rA159 N2 K d C) : rU159_1 N K d C := by
  intro s t  hE 
  have hC : C = 177 ∨ C = 186 := hE.1
  rw [rG_159_44]
  unfold rM159_44
  refine pr_lt (pc2 := 45) (lv2 := [(0, .ref 170)]) (st2 := [.ref 170]) (fun _ _ => rfl) fun N2 hN2 => ?_
  refine pr_n (pc2 := 48) (lv2 := [(0, .ref 170)]) (st2 := [.ref 90, .ref 170]) 1 (fun _ _ => rfl) ?_
  refine pr_p1 (args := [.ref 90]) (rest := []) rfl rfl rfl rfl (Nat.le_of_ble_eq_true rfl) rfl (h_127 s t 90 hE isX_90) (fun z t3 => pu_127) ?_
  rintro _ z1 s1 ⟨rfl, hz1⟩ hX1 hE1
  show pr N2 K d tb_M159 51 [(0, .ref 170)] [vi z1] s1 _
  by_cases h2 : z1 ≠ 0
  · refine mq_t h2 ?_
    refine pr_if1t rfl rfl (i32_z hz1) h2 ?_
    refine pr_n (pc2 := 65) (lv2 := [(0, .ref 170)]) (st2 := [.ref 170]) 1 (fun _ _ => rfl) ?_
    refine pr_m1 (args := []) (rest := []) rfl rfl rfl rfl (Nat.le_of_ble_eq_true rfl) rfl (h_123 s1 t  hE1 ) ?_
    rintro _ _ t3 s3 ⟨rfl, rfl⟩ hE3
    show pr N2 K d tb_M159 68 [(0, .ref 170)] [] s3 _
    refine pr_n (pc2 := 71) (lv2 := [(0, .ref 170)]) (st2 := [vi 0, vi 0, .ref 170]) 3 (fun _ _ => rfl) ?_
    refine pr_m1 (args := [vi 0, vi 0]) (rest := []) rfl rfl rfl rfl (Nat.le_of_ble_eq_true rfl) rfl (h_144 s3 t3 0 0 hE3 (i32_n rfl) (i32_n rfl)) ?_
    rintro _ z4 t4 s4 ⟨rfl, hz4⟩ hE4
    show pr N2 K d tb_M159 74 [(0, .ref 170)] [vi z4] s4 _
    by_cases h5 : z4 = 0
    · refine mq_t h5 ?_
      refine pr_if1t rfl rfl (i32_z hz4) h5 ?_
      refine pr_n (pc2 := 101) (lv2 := [(0, .ref 170)]) (st2 := [vi 0]) 1 (fun _ _ => rfl) ?_
      refine pr_end (fun _ _ => rfl) ?_
      exact .inl ⟨_, 0, _, rfl, ⟨rfl, (by decide)⟩, rfl, hE4⟩
    · refine mq_f h5 ?_
      refine pr_if1f rfl rfl (i32_z hz4) h5 ?_
      refine pr_n (pc2 := 80) (lv2 := [(0, .ref 170)]) (st2 := [.ref 30, .ref 170]) 2 (fun _ _ => rfl) ?_
      refine pr_m1 (args := [.ref 30]) (rest := []) rfl rfl rfl rfl (Nat.le_of_ble_eq_true rfl) rfl (h_136 s4 t4 30 hE4 isX_30) ?_
      rintro _ z6 t6 s6 ⟨rfl, hz6⟩ hE6
      show pr N2 K d tb_M159 83 [(0, .ref 170)] [vi z6] s6 _
      by_cases h7 : z6 = 0
      · refine mq_t h7 ?_
        refine pr_if1t rfl rfl (i32_z hz6) h7 ?_
        refine pr_n (pc2 := 101) (lv2 := [(0, .ref 170)]) (st2 := [vi 0]) 1 (fun _ _ => rfl) ?_
        refine pr_end (fun _ _ => rfl) ?_
        exact .inl ⟨_, 0, _, rfl, ⟨rfl, (by decide)⟩, rfl, hE6⟩
      · refine mq_f h7 ?_
        refine pr_if1f rfl rfl (i32_z hz6) h7 ?_
        refine pr_n (pc2 := 90) (lv2 := [(0, .ref 170)]) (st2 := [.ref 32, .ref 170]) 2 (fun _ _ => rfl) ?_
        refine pr_m1 (args := [.ref 32]) (rest := []) rfl rfl rfl rfl (Nat.le_of_ble_eq_true rfl) rfl (h_136 s6 t6 32 hE6 isX_32) ?_
        rintro _ z8 t8 s8 ⟨rfl, hz8⟩ hE8
        show pr N2 K d tb_M159 93 [(0, .ref 170)] [vi z8] s8 _
        by_cases h9 : z8 = 0
        · refine mq_t h9 ?_
          refine pr_if1t rfl rfl (i32_z hz8) h9 ?_
          refine pr_n (pc2 := 101) (lv2 := [(0, .ref 170)]) (st2 := [vi 0]) 1 (fun _ _ => rfl) ?_
          refine pr_end (fun _ _ => rfl) ?_
          exact .inl ⟨_, 0, _, rfl, ⟨rfl, (by decide)⟩, rfl, hE8⟩
        · refine mq_f h9 ?_
          refine pr_if1f rfl rfl (i32_z hz8) h9 ?_
          refine pr_n (pc2 := 101) (lv2 := [(0, .ref 170)]) (st2 := [vi 1]) 2 (fun _ _ => rfl) ?_
          refine pr_end (fun _ _ => rfl) ?_
          exact .inl ⟨_, 1, _, rfl, ⟨rfl, (by decide)⟩, rfl, hE8⟩
  · refine mq_f h2 ?_
    refine pr_if1f rfl rfl (i32_z hz1) h2 ?_
    refine pr_n (pc2 := 56) (lv2 := [(0, .ref 170)]) (st2 := [vi 0, .ref 170]) 2 (fun _ _ => rfl) ?_
    refine pr_m1 (args := [vi 0]) (rest := []) rfl rfl rfl rfl (Nat.le_of_ble_eq_true rfl) rfl (h_141 s1 t 0 hE1 (i32_n rfl)) ?_
    rintro _ z10 t10 s10 ⟨rfl, hz10⟩ hE10
    show pr N2 K d tb_M159 59 [(0, .ref 170)] [vi z10] s10 _
    by_cases h11 : z10 ≠ 0
    · refine mq_t h11 ?_
      refine pr_if1t rfl rfl (i32_z hz10) h11 ?_
      exact ((ih N2 hN2).2) s10 t10  hE10 
    · refine mq_f h11 ?_
      refine pr_if1f rfl rfl (i32_z hz10) h11 ?_
      refine pr_n (pc2 := 63) (lv2 := [(0, .ref 170)]) (st2 := [vi 0]) 1 (fun _ _ => rfl) ?_
      refine pr_end (fun _ _ => rfl) ?_
      exact .inl ⟨_, 0, _, rfl, ⟨rfl, (by decide)⟩, rfl, hE10⟩
theorem ra159 {K d C : Nat} (h_123 : rT123 K d C) (h_127 : rT127 K d C) (h_136 : rT136 K d C) (h_137 : rT137 K d C) (h_141 : rT141 K d C) (h_144 : rT144 K d C) : ∀ N, rA159 N K d C := by
  intro N
  induction N using Nat.strongRecOn with | ind N ih => ?_
  exact ⟨ru159_0 h_123 h_127 h_136 h_137 h_141 h_144 ih, ru159_1 h_123 h_127 h_136 h_137 h_141 h_144 ih⟩
set_option maxHeartbeats 20000000 in
set_option maxRecDepth 100000 in
theorem rm159 {K d C : Nat} (h_123 : rT123 K d C) (h_127 : rT127 K d C) (h_136 : rT136 K d C) (h_137 : rT137 K d C) (h_141 : rT141 K d C) (h_144 : rT144 K d C) : rT159 K (d + 1) C := by
  intro s t  hE 
  have hC : C = 177 ∨ C = 186 := hE.1
  refine pcr_of (M := tb_M159) rfl ?_
  show pr K K d tb_M159 0 [(0, .ref 170)] [] s _
  rw [rG_159]
  unfold rM159
  refine pr_n (pc2 := 4) (lv2 := [(0, .ref 170)]) (st2 := [.ref 28, .ref 170]) 2 (fun _ _ => rfl) ?_
  refine pr_m1 (args := [.ref 28]) (rest := []) rfl rfl rfl rfl (Nat.le_of_ble_eq_true rfl) rfl (h_136 s t 28 hE isX_28) ?_
  rintro _ z1 t1 s1 ⟨rfl, hz1⟩ hE1
  show pr K K d tb_M159 7 [(0, .ref 170)] [vi z1] s1 _
  by_cases h2 : z1 ≠ 0
  · refine mq_t h2 ?_
    refine pr_if1t rfl rfl (i32_z hz1) h2 ?_
    exact ((ra159 h_123 h_127 h_136 h_137 h_141 h_144 K).1) s1 t1  hE1 
  · refine mq_f h2 ?_
    refine pr_if1f rfl rfl (i32_z hz1) h2 ?_
    refine pr_n (pc2 := 11) (lv2 := [(0, .ref 170)]) (st2 := [vi 0]) 1 (fun _ _ => rfl) ?_
    refine pr_end (fun _ _ => rfl) ?_
    exact .inl ⟨_, 0, _, rfl, ⟨rfl, (by decide)⟩, rfl, hE1⟩
set_option maxHeartbeats 20000000 in
set_option maxRecDepth 100000 in
theorem rm128 {K d C : Nat} (h_76 : rT76 K d C) (h_120 : rT120 K d C) (h_123 : rT123 K d C) (h_127 : rT127 K d C) (h_129 : rT129 K d C) (h_130 : rT130 K d C) (h_131 : rT131 K d C) (h_133 : rT133 K d C) (h_136 : rT136 K d C) (h_137 : rT137 K d C) : rT128 K (d + 1) C := by
  intro s t  hE 
  have hC : C = 177 ∨ C = 186 := hE.1
  refine pcr_of (M := tb_M128) rfl ?_
  show pr K K d tb_M128 0 [(0, .ref 170)] [] s _
  rw [rG_128]
  unfold rM128
  refine pr_n (pc2 := 3) (lv2 := [(0, .ref 170)]) (st2 := [.ref 6, .ref 170]) 2 (fun _ _ => rfl) ?_
  refine pr_p1 (args := [.ref 6]) (rest := []) rfl rfl rfl rfl (Nat.le_of_ble_eq_true rfl) rfl (h_127 s t 6 hE isX_6) (fun z t3 => pu_127) ?_
  rintro _ z1 s1 ⟨rfl, hz1⟩ hX1 hE1
  show pr K K d tb_M128 6 [(0, .ref 170)] [vi z1] s1 _
  refine pr_n (pc2 := 10) (lv2 := [(1, vi z1), (0, .ref 170)]) (st2 := [.ref 10, .ref 170]) 3 (fun _ _ => rfl) ?_
  refine pr_p1 (args := [.ref 10]) (rest := []) rfl rfl rfl rfl (Nat.le_of_ble_eq_true rfl) rfl (h_127 s1 t 10 hE1 isX_10) (fun z t3 => pu_127) ?_
  rintro _ z2 s2 ⟨rfl, hz2⟩ hX2 hE2
  show pr K K d tb_M128 13 [(1, vi z1), (0, .ref 170)] [vi z2] s2 _
  refine pr_n (pc2 := 17) (lv2 := [(2, vi z2), (1, vi z1), (0, .ref 170)]) (st2 := [.ref 18, .ref 170]) 3 (fun _ _ => rfl) ?_
  refine pr_p1 (args := [.ref 18]) (rest := []) rfl rfl rfl rfl (Nat.le_of_ble_eq_true rfl) rfl (h_127 s2 t 18 hE2 isX_18) (fun z t3 => pu_127) ?_
  rintro _ z3 s3 ⟨rfl, hz3⟩ hX3 hE3
  show pr K K d tb_M128 20 [(2, vi z2), (1, vi z1), (0, .ref 170)] [vi z3] s3 _
  refine pr_n (pc2 := 22) (lv2 := [(3, vi z3), (2, vi z2), (1, vi z1), (0, .ref 170)]) (st2 := [vi z3]) 2 (fun _ _ => rfl) ?_
  by_cases h4 : z3 ≠ 0
  · refine mq_t h4 ?_
    refine pr_if1t rfl rfl (i32_z hz3) h4 ?_
    refine pr_n (pc2 := 36) (lv2 := [(3, vi z3), (2, vi z2), (1, vi z1), (0, .ref 170)]) (st2 := [vi z3, .ref 170]) 2 (fun _ _ => rfl) ?_
    refine pr_m1 (args := [vi z3]) (rest := []) rfl rfl rfl rfl (Nat.le_of_ble_eq_true rfl) rfl (h_129 s3 t z3 hE3 hz3) ?_
    rintro _ z5 t5 s5 ⟨rfl, hz5⟩ hE5
    show pr K K d tb_M128 39 [(3, vi z3), (2, vi z2), (1, vi z1), (0, .ref 170)] [vi z5] s5 _
    refine pr_retz rfl rfl hz5 ?_
    exact .inl ⟨_, z5, _, rfl, ⟨rfl, hz5⟩, rfl, hE5⟩
  · refine mq_f h4 ?_
    refine pr_if1f rfl rfl (i32_z hz3) h4 ?_
    refine pr_n (pc2 := 28) (lv2 := [(3, vi z3), (2, vi z2), (1, vi z1), (0, .ref 170)]) (st2 := [.ref 20, .ref 170]) 2 (fun _ _ => rfl) ?_
    refine pr_p1 (args := [.ref 20]) (rest := []) rfl rfl rfl rfl (Nat.le_of_ble_eq_true rfl) rfl (h_127 s3 t 20 hE3 isX_20) (fun z t3 => pu_127) ?_
    rintro _ z6 s6 ⟨rfl, hz6⟩ hX6 hE6
    show pr K K d tb_M128 31 [(3, vi z3), (2, vi z2), (1, vi z1), (0, .ref 170)] [vi z6] s6 _
    by_cases h7 : z6 = 0
    · refine mq_t h7 ?_
      refine pr_if1t rfl rfl (i32_z hz6) h7 ?_
      refine pr_n (pc2 := 43) (lv2 := [(3, vi z3), (2, vi z2), (1, vi z1), (0, .ref 170)]) (st2 := [.ref 8, .ref 170]) 2 (fun _ _ => rfl) ?_
      refine pr_p1 (args := [.ref 8]) (rest := []) rfl rfl rfl rfl (Nat.le_of_ble_eq_true rfl) rfl (h_127 s6 t 8 hE6 isX_8) (fun z t3 => pu_127) ?_
      rintro _ z8 s8 ⟨rfl, hz8⟩ hX8 hE8
      show pr K K d tb_M128 46 [(3, vi z3), (2, vi z2), (1, vi z1), (0, .ref 170)] [vi z8] s8 _
      by_cases h9 : z8 = 0
      · refine mq_t h9 ?_
        refine pr_if1t rfl rfl (i32_z hz8) h9 ?_
        refine pr_n (pc2 := 77) (lv2 := [(3, vi z3), (2, vi z2), (1, vi z1), (0, .ref 170)]) (st2 := [vi z1]) 1 (fun _ _ => rfl) ?_
        by_cases h10 : z1 = 0
        · refine mq_t h10 ?_
          refine pr_if1t rfl rfl (i32_z hz1) h10 ?_
          refine pr_n (pc2 := 165) (lv2 := [(3, vi z3), (2, vi z2), (1, vi z1), (0, .ref 170)]) (st2 := [vi z2]) 1 (fun _ _ => rfl) ?_
          by_cases h11 : z2 = 0
          · refine mq_t h11 ?_
            refine pr_if1t rfl rfl (i32_z hz2) h11 ?_
            refine pr_n (pc2 := 318) (lv2 := [(3, vi z3), (2, vi z2), (1, vi z1), (0, .ref 170)]) (st2 := [.ref 12, .ref 170]) 2 (fun _ _ => rfl) ?_
            refine pr_p1 (args := [.ref 12]) (rest := []) rfl rfl rfl rfl (Nat.le_of_ble_eq_true rfl) rfl (h_127 s8 t 12 hE8 isX_12) (fun z t3 => pu_127) ?_
            rintro _ z12 s12 ⟨rfl, hz12⟩ hX12 hE12
            show pr K K d tb_M128 321 [(3, vi z3), (2, vi z2), (1, vi z1), (0, .ref 170)] [vi z12] s12 _
            refine pr_n (pc2 := 326) (lv2 := [(4, vi z12), (3, vi z3), (2, vi z2), (1, vi z1), (0, .ref 170)]) (st2 := [.ref 14, .ref 170]) 3 (fun _ _ => rfl) ?_
            refine pr_p1 (args := [.ref 14]) (rest := []) rfl rfl rfl rfl (Nat.le_of_ble_eq_true rfl) rfl (h_127 s12 t 14 hE12 isX_14) (fun z t3 => pu_127) ?_
            rintro _ z13 s13 ⟨rfl, hz13⟩ hX13 hE13
            show pr K K d tb_M128 329 [(4, vi z12), (3, vi z3), (2, vi z2), (1, vi z1), (0, .ref 170)] [vi z13] s13 _
            refine pr_n (pc2 := 332) (lv2 := [(5, vi z13), (4, vi z12), (3, vi z3), (2, vi z2), (1, vi z1), (0, .ref 170)]) (st2 := [.ref 170]) 2 (fun _ _ => rfl) ?_
            refine pr_m1 (args := []) (rest := []) rfl rfl rfl rfl (Nat.le_of_ble_eq_true rfl) rfl (h_123 s13 t  hE13 ) ?_
            rintro _ _ t14 s14 ⟨rfl, rfl⟩ hE14
            show pr K K d tb_M128 335 [(5, vi z13), (4, vi z12), (3, vi z3), (2, vi z2), (1, vi z1), (0, .ref 170)] [] s14 _
            refine pr_n (pc2 := 337) (lv2 := [(5, vi z13), (4, vi z12), (3, vi z3), (2, vi z2), (1, vi z1), (0, .ref 170)]) (st2 := [vi z12]) 1 (fun _ _ => rfl) ?_
            by_cases h15 : z12 = 0
            · refine mq_t h15 ?_
              refine pr_if1t rfl rfl (i32_z hz12) h15 ?_
              refine pr_n (pc2 := 352) (lv2 := [(5, vi z13), (4, vi z12), (3, vi z3), (2, vi z2), (1, vi z1), (0, .ref 170)]) (st2 := [vi z13]) 1 (fun _ _ => rfl) ?_
              by_cases h16 : z13 = 0
              · refine mq_t h16 ?_
                refine pr_if1t rfl rfl (i32_z hz13) h16 ?_
                refine pr_n (pc2 := 366) (lv2 := [(5, vi z13), (4, vi z12), (3, vi z3), (2, vi z2), (1, vi z1), (0, .ref 170)]) (st2 := [.ref 170]) 1 (fun _ _ => rfl) ?_
                refine pr_get (v := .ref C) rfl rfl rfl (by decide) (rv_ref (show s14.1 170 19 = ((C : Nat) : Int) from hE14.2.2.1)) fun _ => ?_
                refine pr_gE (k2 := 177) (v := vi (t14 177 8)) hE14 rfl rfl (TG_C hC) (by decide) rfl rfl rfl fun h17 => ?_
                have h17 : i32 (t14 177 8) := h17
                refine pr_n (pc2 := 379) (lv2 := [(6, vi (t14 177 8)), (5, vi z13), (4, vi z12), (3, vi z3), (2, vi z2), (1, vi z1), (0, .ref 170)]) (st2 := [vi z12, vi (t14 177 8), .ref 170]) 4 (fun _ _ => rfl) ?_
                refine pr_if1t rfl rfl (i32_z hz12) (show z12 = 0 by omega) ?_
                show pr K K d tb_M128 387 [(6, vi (t14 177 8)), (5, vi z13), (4, vi z12), (3, vi z3), (2, vi z2), (1, vi z1), (0, .ref 170)] [vi (t14 177 8), .ref 170] s14 _
                refine pr_n (pc2 := 388) (lv2 := [(6, vi (t14 177 8)), (5, vi z13), (4, vi z12), (3, vi z3), (2, vi z2), (1, vi z1), (0, .ref 170)]) (st2 := [vi 4, vi (t14 177 8), .ref 170]) 1 (fun _ _ => rfl) ?_
                refine pr_p1 (args := [vi (t14 177 8), vi 4]) (rest := []) rfl rfl rfl rfl (Nat.le_of_ble_eq_true rfl) rfl (h_130 s14 t14 (t14 177 8) 4 hE14 h17 (i32_n rfl)) (fun z t3 => pu_130) ?_
                rintro _ z18 s18 ⟨rfl, hz18⟩ hX18 hE18
                show pr K K d tb_M128 391 [(6, vi (t14 177 8)), (5, vi z13), (4, vi z12), (3, vi z3), (2, vi z2), (1, vi z1), (0, .ref 170)] [vi z18] s18 _
                by_cases h19 : z18 = 0
                · refine mq_t h19 ?_
                  refine pr_if1t rfl rfl (i32_z hz18) h19 ?_
                  refine pr_n (pc2 := 423) (lv2 := [(6, vi (t14 177 8)), (5, vi z13), (4, vi z12), (3, vi z3), (2, vi z2), (1, vi z1), (0, .ref 170)]) (st2 := [vi 0]) 1 (fun _ _ => rfl) ?_
                  refine pr_end (fun _ _ => rfl) ?_
                  exact .inl ⟨_, 0, _, rfl, ⟨rfl, (by decide)⟩, rfl, hE18⟩
                · refine mq_f h19 ?_
                  refine pr_if1f rfl rfl (i32_z hz18) h19 ?_
                  refine pr_n (pc2 := 397) (lv2 := [(6, vi (t14 177 8)), (5, vi z13), (4, vi z12), (3, vi z3), (2, vi z2), (1, vi z1), (0, .ref 170)]) (st2 := [vi z12, .ref 170]) 2 (fun _ _ => rfl) ?_
                  refine pr_if1t rfl rfl (i32_z hz12) (show z12 = 0 by omega) ?_
                  show pr K K d tb_M128 404 [(6, vi (t14 177 8)), (5, vi z13), (4, vi z12), (3, vi z3), (2, vi z2), (1, vi z1), (0, .ref 170)] [.ref 170] s18 _
                  refine pr_n (pc2 := 406) (lv2 := [(6, vi (t14 177 8)), (5, vi z13), (4, vi z12), (3, vi z3), (2, vi z2), (1, vi z1), (0, .ref 170)]) (st2 := [vi z13, .ref 170]) 1 (fun _ _ => rfl) ?_
                  refine pr_if1t rfl rfl (i32_z hz13) (show z13 = 0 by omega) ?_
                  show pr K K d tb_M128 413 [(6, vi (t14 177 8)), (5, vi z13), (4, vi z12), (3, vi z3), (2, vi z2), (1, vi z1), (0, .ref 170)] [.ref 170] s18 _
                  refine pr_n (pc2 := 416) (lv2 := [(6, vi (t14 177 8)), (5, vi z13), (4, vi z12), (3, vi z3), (2, vi z2), (1, vi z1), (0, .ref 170)]) (st2 := [vi (t14 177 8), vi 4, .ref 170]) 2 (fun _ _ => rfl) ?_
                  refine pr_m1 (args := [vi 4, vi (t14 177 8)]) (rest := []) rfl rfl rfl rfl (Nat.le_of_ble_eq_true rfl) rfl (h_133 s18 t14 4 (t14 177 8) hE18 (i32_n rfl) h17) ?_
                  rintro _ z20 t20 s20 ⟨rfl, hz20⟩ hE20
                  show pr K K d tb_M128 419 [(6, vi (t14 177 8)), (5, vi z13), (4, vi z12), (3, vi z3), (2, vi z2), (1, vi z1), (0, .ref 170)] [vi z20] s20 _
                  by_cases h21 : z20 ≠ 0
                  · refine mq_t h21 ?_
                    refine pr_if1t rfl rfl (i32_z hz20) h21 ?_
                    refine pr_n (pc2 := 426) (lv2 := [(6, vi (t14 177 8)), (5, vi z13), (4, vi z12), (3, vi z3), (2, vi z2), (1, vi z1), (0, .ref 170)]) (st2 := [vi z12]) 1 (fun _ _ => rfl) ?_
                    refine pr_if1t rfl rfl (i32_z hz12) (show z12 = 0 by omega) ?_
                    show pr K K d tb_M128 445 [(6, vi (t14 177 8)), (5, vi z13), (4, vi z12), (3, vi z3), (2, vi z2), (1, vi z1), (0, .ref 170)] [] s20 _
                    refine pr_n (pc2 := 447) (lv2 := [(6, vi (t14 177 8)), (5, vi z13), (4, vi z12), (3, vi z3), (2, vi z2), (1, vi z1), (0, .ref 170)]) (st2 := [vi z13]) 1 (fun _ _ => rfl) ?_
                    refine pr_if1t rfl rfl (i32_z hz13) (show z13 = 0 by omega) ?_
                    show pr K K d tb_M128 466 [(6, vi (t14 177 8)), (5, vi z13), (4, vi z12), (3, vi z3), (2, vi z2), (1, vi z1), (0, .ref 170)] [] s20 _
                    refine pr_n (pc2 := 467) (lv2 := [(6, vi (t14 177 8)), (5, vi z13), (4, vi z12), (3, vi z3), (2, vi z2), (1, vi z1), (0, .ref 170)]) (st2 := [.ref 170]) 1 (fun _ _ => rfl) ?_
                    refine pr_get (v := .ref C) rfl rfl rfl (by decide) (rv_ref (show s20.1 170 19 = ((C : Nat) : Int) from hE20.2.2.1)) fun _ => ?_
                    refine pr_n (pc2 := 471) (lv2 := [(6, vi (t14 177 8)), (5, vi z13), (4, vi z12), (3, vi z3), (2, vi z2), (1, vi z1), (0, .ref 170)]) (st2 := [.ref C, .ref C]) 1 (fun _ _ => rfl) ?_
                    refine pr_gE (k2 := 177) (v := vi (t20 177 8)) hE20 rfl rfl (TG_C hC) (by decide) rfl rfl rfl fun h22 => ?_
                    have h22 : i32 (t20 177 8) := h22
                    refine pr_n (pc2 := 475) (lv2 := [(6, vi (t14 177 8)), (5, vi z13), (4, vi z12), (3, vi z3), (2, vi z2), (1, vi z1), (0, .ref 170)]) (st2 := [vi 1, vi (t20 177 8), .ref C]) 1 (fun _ _ => rfl) ?_
                    refine pr_i2 (a := t20 177 8) (b := 1) rfl rfl ?_
                    show pr K K d tb_M128 476 [(6, vi (t14 177 8)), (5, vi z13), (4, vi z12), (3, vi z3), (2, vi z2), (1, vi z1), (0, .ref 170)] [vi (ipl (t20 177 8) 1), .ref C] s20 _
                    have h23 : i32 (ipl (t20 177 8) 1) := i32_in _
                    refine pr_pE (k2 := 177) (z := ipl (t20 177 8) 1) hE20 rfl rfl rfl rfl (show 96 ≤ C by omega) (TG_C hC) (by decide) rfl (show i32 (ipl (t20 177 8) 1) from h23) (hf_int' _) (nD hC (by omega)) rfl rfl (fun e => absurd e.1 (show ¬ (C = 170) by omega)) (fun _ => trivial) fun s24 hE24 => ?_
                    refine pr_n (pc2 := 482) (lv2 := [(6, vi (t14 177 8)), (5, vi z13), (4, vi z12), (3, vi z3), (2, vi z2), (1, vi z1), (0, .ref 170)]) (st2 := [.ref 30, .ref 170]) 2 (fun _ _ => rfl) ?_
                    refine pr_m1 (args := [.ref 30]) (rest := []) rfl rfl rfl rfl (Nat.le_of_ble_eq_true rfl) rfl (h_136 s24 (up2 t20 177 8 (ipl (t20 177 8) 1)) 30 hE24 isX_30) ?_
                    rintro _ z25 t25 s25 ⟨rfl, hz25⟩ hE25
                    show pr K K d tb_M128 485 [(6, vi (t14 177 8)), (5, vi z13), (4, vi z12), (3, vi z3), (2, vi z2), (1, vi z1), (0, .ref 170)] [vi z25] s25 _
                    refine pr_retz rfl rfl hz25 ?_
                    exact .inl ⟨_, z25, _, rfl, ⟨rfl, hz25⟩, rfl, hE25⟩
                  · refine mq_f h21 ?_
                    refine pr_if1f rfl rfl (i32_z hz20) h21 ?_
                    refine pr_n (pc2 := 423) (lv2 := [(6, vi (t14 177 8)), (5, vi z13), (4, vi z12), (3, vi z3), (2, vi z2), (1, vi z1), (0, .ref 170)]) (st2 := [vi 0]) 1 (fun _ _ => rfl) ?_
                    refine pr_end (fun _ _ => rfl) ?_
                    exact .inl ⟨_, 0, _, rfl, ⟨rfl, (by decide)⟩, rfl, hE20⟩
              · refine mq_f h16 ?_
                refine pr_if1f rfl rfl (i32_z hz13) h16 ?_
                refine pr_n (pc2 := 356) (lv2 := [(5, vi z13), (4, vi z12), (3, vi z3), (2, vi z2), (1, vi z1), (0, .ref 170)]) (st2 := [.ref 170]) 1 (fun _ _ => rfl) ?_
                refine pr_get (v := .ref C) rfl rfl rfl (by decide) (rv_ref (show s14.1 170 19 = ((C : Nat) : Int) from hE14.2.2.1)) fun _ => ?_
                refine pr_gE (k2 := 177) (v := vi (t14 177 7)) hE14 rfl rfl (TG_C hC) (by decide) rfl rfl rfl fun h26 => ?_
                have h26 : i32 (t14 177 7) := h26
                refine pr_n (pc2 := 379) (lv2 := [(6, vi (t14 177 7)), (5, vi z13), (4, vi z12), (3, vi z3), (2, vi z2), (1, vi z1), (0, .ref 170)]) (st2 := [vi z12, vi (t14 177 7), .ref 170]) 5 (fun _ _ => rfl) ?_
                refine pr_if1t rfl rfl (i32_z hz12) (show z12 = 0 by omega) ?_
                show pr K K d tb_M128 387 [(6, vi (t14 177 7)), (5, vi z13), (4, vi z12), (3, vi z3), (2, vi z2), (1, vi z1), (0, .ref 170)] [vi (t14 177 7), .ref 170] s14 _
                refine pr_n (pc2 := 388) (lv2 := [(6, vi (t14 177 7)), (5, vi z13), (4, vi z12), (3, vi z3), (2, vi z2), (1, vi z1), (0, .ref 170)]) (st2 := [vi 4, vi (t14 177 7), .ref 170]) 1 (fun _ _ => rfl) ?_
                refine pr_p1 (args := [vi (t14 177 7), vi 4]) (rest := []) rfl rfl rfl rfl (Nat.le_of_ble_eq_true rfl) rfl (h_130 s14 t14 (t14 177 7) 4 hE14 h26 (i32_n rfl)) (fun z t3 => pu_130) ?_
                rintro _ z27 s27 ⟨rfl, hz27⟩ hX27 hE27
                show pr K K d tb_M128 391 [(6, vi (t14 177 7)), (5, vi z13), (4, vi z12), (3, vi z3), (2, vi z2), (1, vi z1), (0, .ref 170)] [vi z27] s27 _
                by_cases h28 : z27 = 0
                · refine mq_t h28 ?_
                  refine pr_if1t rfl rfl (i32_z hz27) h28 ?_
                  refine pr_n (pc2 := 423) (lv2 := [(6, vi (t14 177 7)), (5, vi z13), (4, vi z12), (3, vi z3), (2, vi z2), (1, vi z1), (0, .ref 170)]) (st2 := [vi 0]) 1 (fun _ _ => rfl) ?_
                  refine pr_end (fun _ _ => rfl) ?_
                  exact .inl ⟨_, 0, _, rfl, ⟨rfl, (by decide)⟩, rfl, hE27⟩
                · refine mq_f h28 ?_
                  refine pr_if1f rfl rfl (i32_z hz27) h28 ?_
                  refine pr_n (pc2 := 397) (lv2 := [(6, vi (t14 177 7)), (5, vi z13), (4, vi z12), (3, vi z3), (2, vi z2), (1, vi z1), (0, .ref 170)]) (st2 := [vi z12, .ref 170]) 2 (fun _ _ => rfl) ?_
                  refine pr_if1t rfl rfl (i32_z hz12) (show z12 = 0 by omega) ?_
                  show pr K K d tb_M128 404 [(6, vi (t14 177 7)), (5, vi z13), (4, vi z12), (3, vi z3), (2, vi z2), (1, vi z1), (0, .ref 170)] [.ref 170] s27 _
                  refine pr_n (pc2 := 406) (lv2 := [(6, vi (t14 177 7)), (5, vi z13), (4, vi z12), (3, vi z3), (2, vi z2), (1, vi z1), (0, .ref 170)]) (st2 := [vi z13, .ref 170]) 1 (fun _ _ => rfl) ?_
                  refine pr_if1f rfl rfl (i32_z hz13) (show ¬ (z13 = 0) by omega) ?_
                  show pr K K d tb_M128 409 [(6, vi (t14 177 7)), (5, vi z13), (4, vi z12), (3, vi z3), (2, vi z2), (1, vi z1), (0, .ref 170)] [.ref 170] s27 _
                  refine pr_n (pc2 := 416) (lv2 := [(6, vi (t14 177 7)), (5, vi z13), (4, vi z12), (3, vi z3), (2, vi z2), (1, vi z1), (0, .ref 170)]) (st2 := [vi (t14 177 7), vi 3, .ref 170]) 3 (fun _ _ => rfl) ?_
                  refine pr_m1 (args := [vi 3, vi (t14 177 7)]) (rest := []) rfl rfl rfl rfl (Nat.le_of_ble_eq_true rfl) rfl (h_133 s27 t14 3 (t14 177 7) hE27 (i32_n rfl) h26) ?_
                  rintro _ z29 t29 s29 ⟨rfl, hz29⟩ hE29
                  show pr K K d tb_M128 419 [(6, vi (t14 177 7)), (5, vi z13), (4, vi z12), (3, vi z3), (2, vi z2), (1, vi z1), (0, .ref 170)] [vi z29] s29 _
                  by_cases h30 : z29 ≠ 0
                  · refine mq_t h30 ?_
                    refine pr_if1t rfl rfl (i32_z hz29) h30 ?_
                    refine pr_n (pc2 := 426) (lv2 := [(6, vi (t14 177 7)), (5, vi z13), (4, vi z12), (3, vi z3), (2, vi z2), (1, vi z1), (0, .ref 170)]) (st2 := [vi z12]) 1 (fun _ _ => rfl) ?_
                    refine pr_if1t rfl rfl (i32_z hz12) (show z12 = 0 by omega) ?_
                    show pr K K d tb_M128 445 [(6, vi (t14 177 7)), (5, vi z13), (4, vi z12), (3, vi z3), (2, vi z2), (1, vi z1), (0, .ref 170)] [] s29 _
                    refine pr_n (pc2 := 447) (lv2 := [(6, vi (t14 177 7)), (5, vi z13), (4, vi z12), (3, vi z3), (2, vi z2), (1, vi z1), (0, .ref 170)]) (st2 := [vi z13]) 1 (fun _ _ => rfl) ?_
                    refine pr_if1f rfl rfl (i32_z hz13) (show ¬ (z13 = 0) by omega) ?_
                    show pr K K d tb_M128 450 [(6, vi (t14 177 7)), (5, vi z13), (4, vi z12), (3, vi z3), (2, vi z2), (1, vi z1), (0, .ref 170)] [] s29 _
                    refine pr_n (pc2 := 451) (lv2 := [(6, vi (t14 177 7)), (5, vi z13), (4, vi z12), (3, vi z3), (2, vi z2), (1, vi z1), (0, .ref 170)]) (st2 := [.ref 170]) 1 (fun _ _ => rfl) ?_
                    refine pr_get (v := .ref C) rfl rfl rfl (by decide) (rv_ref (show s29.1 170 19 = ((C : Nat) : Int) from hE29.2.2.1)) fun _ => ?_
                    refine pr_n (pc2 := 455) (lv2 := [(6, vi (t14 177 7)), (5, vi z13), (4, vi z12), (3, vi z3), (2, vi z2), (1, vi z1), (0, .ref 170)]) (st2 := [.ref C, .ref C]) 1 (fun _ _ => rfl) ?_
                    refine pr_gE (k2 := 177) (v := vi (t29 177 7)) hE29 rfl rfl (TG_C hC) (by decide) rfl rfl rfl fun h31 => ?_
                    have h31 : i32 (t29 177 7) := h31
                    refine pr_n (pc2 := 459) (lv2 := [(6, vi (t14 177 7)), (5, vi z13), (4, vi z12), (3, vi z3), (2, vi z2), (1, vi z1), (0, .ref 170)]) (st2 := [vi 1, vi (t29 177 7), .ref C]) 1 (fun _ _ => rfl) ?_
                    refine pr_i2 (a := t29 177 7) (b := 1) rfl rfl ?_
                    show pr K K d tb_M128 460 [(6, vi (t14 177 7)), (5, vi z13), (4, vi z12), (3, vi z3), (2, vi z2), (1, vi z1), (0, .ref 170)] [vi (ipl (t29 177 7) 1), .ref C] s29 _
                    have h32 : i32 (ipl (t29 177 7) 1) := i32_in _
                    refine pr_pE (k2 := 177) (z := ipl (t29 177 7) 1) hE29 rfl rfl rfl rfl (show 96 ≤ C by omega) (TG_C hC) (by decide) rfl (show i32 (ipl (t29 177 7) 1) from h32) (hf_int' _) (nD hC (by omega)) rfl rfl (fun e => absurd e.1 (show ¬ (C = 170) by omega)) (fun _ => trivial) fun s33 hE33 => ?_
                    refine pr_n (pc2 := 482) (lv2 := [(6, vi (t14 177 7)), (5, vi z13), (4, vi z12), (3, vi z3), (2, vi z2), (1, vi z1), (0, .ref 170)]) (st2 := [.ref 30, .ref 170]) 3 (fun _ _ => rfl) ?_
                    refine pr_m1 (args := [.ref 30]) (rest := []) rfl rfl rfl rfl (Nat.le_of_ble_eq_true rfl) rfl (h_136 s33 (up2 t29 177 7 (ipl (t29 177 7) 1)) 30 hE33 isX_30) ?_
                    rintro _ z34 t34 s34 ⟨rfl, hz34⟩ hE34
                    show pr K K d tb_M128 485 [(6, vi (t14 177 7)), (5, vi z13), (4, vi z12), (3, vi z3), (2, vi z2), (1, vi z1), (0, .ref 170)] [vi z34] s34 _
                    refine pr_retz rfl rfl hz34 ?_
                    exact .inl ⟨_, z34, _, rfl, ⟨rfl, hz34⟩, rfl, hE34⟩
                  · refine mq_f h30 ?_
                    refine pr_if1f rfl rfl (i32_z hz29) h30 ?_
                    refine pr_n (pc2 := 423) (lv2 := [(6, vi (t14 177 7)), (5, vi z13), (4, vi z12), (3, vi z3), (2, vi z2), (1, vi z1), (0, .ref 170)]) (st2 := [vi 0]) 1 (fun _ _ => rfl) ?_
                    refine pr_end (fun _ _ => rfl) ?_
                    exact .inl ⟨_, 0, _, rfl, ⟨rfl, (by decide)⟩, rfl, hE29⟩
            · refine mq_f h15 ?_
              refine pr_if1f rfl rfl (i32_z hz12) h15 ?_
              refine pr_n (pc2 := 341) (lv2 := [(5, vi z13), (4, vi z12), (3, vi z3), (2, vi z2), (1, vi z1), (0, .ref 170)]) (st2 := [.ref 170]) 1 (fun _ _ => rfl) ?_
              refine pr_get (v := .ref C) rfl rfl rfl (by decide) (rv_ref (show s14.1 170 19 = ((C : Nat) : Int) from hE14.2.2.1)) fun _ => ?_
              refine pr_gE (k2 := 177) (v := vi (t14 177 6)) hE14 rfl rfl (TG_C hC) (by decide) rfl rfl rfl fun h35 => ?_
              have h35 : i32 (t14 177 6) := h35
              refine pr_n (pc2 := 379) (lv2 := [(6, vi (t14 177 6)), (5, vi z13), (4, vi z12), (3, vi z3), (2, vi z2), (1, vi z1), (0, .ref 170)]) (st2 := [vi z12, vi (t14 177 6), .ref 170]) 5 (fun _ _ => rfl) ?_
              refine pr_if1f rfl rfl (i32_z hz12) (show ¬ (z12 = 0) by omega) ?_
              show pr K K d tb_M128 382 [(6, vi (t14 177 6)), (5, vi z13), (4, vi z12), (3, vi z3), (2, vi z2), (1, vi z1), (0, .ref 170)] [vi (t14 177 6), .ref 170] s14 _
              refine pr_n (pc2 := 388) (lv2 := [(6, vi (t14 177 6)), (5, vi z13), (4, vi z12), (3, vi z3), (2, vi z2), (1, vi z1), (0, .ref 170)]) (st2 := [vi 8, vi (t14 177 6), .ref 170]) 2 (fun _ _ => rfl) ?_
              refine pr_p1 (args := [vi (t14 177 6), vi 8]) (rest := []) rfl rfl rfl rfl (Nat.le_of_ble_eq_true rfl) rfl (h_130 s14 t14 (t14 177 6) 8 hE14 h35 (i32_n rfl)) (fun z t3 => pu_130) ?_
              rintro _ z36 s36 ⟨rfl, hz36⟩ hX36 hE36
              show pr K K d tb_M128 391 [(6, vi (t14 177 6)), (5, vi z13), (4, vi z12), (3, vi z3), (2, vi z2), (1, vi z1), (0, .ref 170)] [vi z36] s36 _
              by_cases h37 : z36 = 0
              · refine mq_t h37 ?_
                refine pr_if1t rfl rfl (i32_z hz36) h37 ?_
                refine pr_n (pc2 := 423) (lv2 := [(6, vi (t14 177 6)), (5, vi z13), (4, vi z12), (3, vi z3), (2, vi z2), (1, vi z1), (0, .ref 170)]) (st2 := [vi 0]) 1 (fun _ _ => rfl) ?_
                refine pr_end (fun _ _ => rfl) ?_
                exact .inl ⟨_, 0, _, rfl, ⟨rfl, (by decide)⟩, rfl, hE36⟩
              · refine mq_f h37 ?_
                refine pr_if1f rfl rfl (i32_z hz36) h37 ?_
                refine pr_n (pc2 := 397) (lv2 := [(6, vi (t14 177 6)), (5, vi z13), (4, vi z12), (3, vi z3), (2, vi z2), (1, vi z1), (0, .ref 170)]) (st2 := [vi z12, .ref 170]) 2 (fun _ _ => rfl) ?_
                refine pr_if1f rfl rfl (i32_z hz12) (show ¬ (z12 = 0) by omega) ?_
                show pr K K d tb_M128 400 [(6, vi (t14 177 6)), (5, vi z13), (4, vi z12), (3, vi z3), (2, vi z2), (1, vi z1), (0, .ref 170)] [.ref 170] s36 _
                refine pr_n (pc2 := 416) (lv2 := [(6, vi (t14 177 6)), (5, vi z13), (4, vi z12), (3, vi z3), (2, vi z2), (1, vi z1), (0, .ref 170)]) (st2 := [vi (t14 177 6), vi 2, .ref 170]) 3 (fun _ _ => rfl) ?_
                refine pr_m1 (args := [vi 2, vi (t14 177 6)]) (rest := []) rfl rfl rfl rfl (Nat.le_of_ble_eq_true rfl) rfl (h_133 s36 t14 2 (t14 177 6) hE36 (i32_n rfl) h35) ?_
                rintro _ z38 t38 s38 ⟨rfl, hz38⟩ hE38
                show pr K K d tb_M128 419 [(6, vi (t14 177 6)), (5, vi z13), (4, vi z12), (3, vi z3), (2, vi z2), (1, vi z1), (0, .ref 170)] [vi z38] s38 _
                by_cases h39 : z38 ≠ 0
                · refine mq_t h39 ?_
                  refine pr_if1t rfl rfl (i32_z hz38) h39 ?_
                  refine pr_n (pc2 := 426) (lv2 := [(6, vi (t14 177 6)), (5, vi z13), (4, vi z12), (3, vi z3), (2, vi z2), (1, vi z1), (0, .ref 170)]) (st2 := [vi z12]) 1 (fun _ _ => rfl) ?_
                  refine pr_if1f rfl rfl (i32_z hz12) (show ¬ (z12 = 0) by omega) ?_
                  show pr K K d tb_M128 429 [(6, vi (t14 177 6)), (5, vi z13), (4, vi z12), (3, vi z3), (2, vi z2), (1, vi z1), (0, .ref 170)] [] s38 _
                  refine pr_n (pc2 := 430) (lv2 := [(6, vi (t14 177 6)), (5, vi z13), (4, vi z12), (3, vi z3), (2, vi z2), (1, vi z1), (0, .ref 170)]) (st2 := [.ref 170]) 1 (fun _ _ => rfl) ?_
                  refine pr_get (v := .ref C) rfl rfl rfl (by decide) (rv_ref (show s38.1 170 19 = ((C : Nat) : Int) from hE38.2.2.1)) fun _ => ?_
                  refine pr_n (pc2 := 434) (lv2 := [(6, vi (t14 177 6)), (5, vi z13), (4, vi z12), (3, vi z3), (2, vi z2), (1, vi z1), (0, .ref 170)]) (st2 := [.ref C, .ref C]) 1 (fun _ _ => rfl) ?_
                  refine pr_gE (k2 := 177) (v := vi (t38 177 6)) hE38 rfl rfl (TG_C hC) (by decide) rfl rfl rfl fun h40 => ?_
                  have h40 : i32 (t38 177 6) := h40
                  refine pr_n (pc2 := 438) (lv2 := [(6, vi (t14 177 6)), (5, vi z13), (4, vi z12), (3, vi z3), (2, vi z2), (1, vi z1), (0, .ref 170)]) (st2 := [vi 1, vi (t38 177 6), .ref C]) 1 (fun _ _ => rfl) ?_
                  refine pr_i2 (a := t38 177 6) (b := 1) rfl rfl ?_
                  show pr K K d tb_M128 439 [(6, vi (t14 177 6)), (5, vi z13), (4, vi z12), (3, vi z3), (2, vi z2), (1, vi z1), (0, .ref 170)] [vi (ipl (t38 177 6) 1), .ref C] s38 _
                  have h41 : i32 (ipl (t38 177 6) 1) := i32_in _
                  refine pr_pE (k2 := 177) (z := ipl (t38 177 6) 1) hE38 rfl rfl rfl rfl (show 96 ≤ C by omega) (TG_C hC) (by decide) rfl (show i32 (ipl (t38 177 6) 1) from h41) (hf_int' _) (nD hC (by omega)) rfl rfl (fun e => absurd e.1 (show ¬ (C = 170) by omega)) (fun _ => trivial) fun s42 hE42 => ?_
                  refine pr_n (pc2 := 482) (lv2 := [(6, vi (t14 177 6)), (5, vi z13), (4, vi z12), (3, vi z3), (2, vi z2), (1, vi z1), (0, .ref 170)]) (st2 := [.ref 30, .ref 170]) 3 (fun _ _ => rfl) ?_
                  refine pr_m1 (args := [.ref 30]) (rest := []) rfl rfl rfl rfl (Nat.le_of_ble_eq_true rfl) rfl (h_136 s42 (up2 t38 177 6 (ipl (t38 177 6) 1)) 30 hE42 isX_30) ?_
                  rintro _ z43 t43 s43 ⟨rfl, hz43⟩ hE43
                  show pr K K d tb_M128 485 [(6, vi (t14 177 6)), (5, vi z13), (4, vi z12), (3, vi z3), (2, vi z2), (1, vi z1), (0, .ref 170)] [vi z43] s43 _
                  refine pr_retz rfl rfl hz43 ?_
                  exact .inl ⟨_, z43, _, rfl, ⟨rfl, hz43⟩, rfl, hE43⟩
                · refine mq_f h39 ?_
                  refine pr_if1f rfl rfl (i32_z hz38) h39 ?_
                  refine pr_n (pc2 := 423) (lv2 := [(6, vi (t14 177 6)), (5, vi z13), (4, vi z12), (3, vi z3), (2, vi z2), (1, vi z1), (0, .ref 170)]) (st2 := [vi 0]) 1 (fun _ _ => rfl) ?_
                  refine pr_end (fun _ _ => rfl) ?_
                  exact .inl ⟨_, 0, _, rfl, ⟨rfl, (by decide)⟩, rfl, hE38⟩
          · refine mq_f h11 ?_
            refine pr_if1f rfl rfl (i32_z hz2) h11 ?_
            refine pr_n (pc2 := 169) (lv2 := [(3, vi z3), (2, vi z2), (1, vi z1), (0, .ref 170)]) (st2 := [.ref 170]) 1 (fun _ _ => rfl) ?_
            refine pr_m1 (args := []) (rest := []) rfl rfl rfl rfl (Nat.le_of_ble_eq_true rfl) rfl (h_123 s8 t  hE8 ) ?_
            rintro _ _ t44 s44 ⟨rfl, rfl⟩ hE44
            show pr K K d tb_M128 172 [(3, vi z3), (2, vi z2), (1, vi z1), (0, .ref 170)] [] s44 _
            refine pr_n (pc2 := 174) (lv2 := [(3, vi z3), (2, vi z2), (1, vi z1), (0, .ref 170)]) (st2 := [.ref 170, .ref 170]) 2 (fun _ _ => rfl) ?_
            refine pr_get (v := .ref C) rfl rfl rfl (by decide) (rv_ref (show s44.1 170 19 = ((C : Nat) : Int) from hE44.2.2.1)) fun _ => ?_
            refine pr_gE (k2 := 177) (v := vi (t44 177 5)) hE44 rfl rfl (TG_C hC) (by decide) rfl rfl rfl fun h45 => ?_
            have h45 : i32 (t44 177 5) := h45
            refine pr_n (pc2 := 182) (lv2 := [(3, vi z3), (2, vi z2), (1, vi z1), (0, .ref 170)]) (st2 := [vi 6, vi (t44 177 5), .ref 170]) 1 (fun _ _ => rfl) ?_
            refine pr_p1 (args := [vi (t44 177 5), vi 6]) (rest := []) rfl rfl rfl rfl (Nat.le_of_ble_eq_true rfl) rfl (h_130 s44 t44 (t44 177 5) 6 hE44 h45 (i32_n rfl)) (fun z t3 => pu_130) ?_
            rintro _ z46 s46 ⟨rfl, hz46⟩ hX46 hE46
            show pr K K d tb_M128 185 [(3, vi z3), (2, vi z2), (1, vi z1), (0, .ref 170)] [vi z46] s46 _
            by_cases h47 : z46 = 0
            · refine mq_t h47 ?_
              refine pr_if1t rfl rfl (i32_z hz46) h47 ?_
              refine pr_n (pc2 := 214) (lv2 := [(3, vi z3), (2, vi z2), (1, vi z1), (0, .ref 170)]) (st2 := [vi 0]) 1 (fun _ _ => rfl) ?_
              refine pr_end (fun _ _ => rfl) ?_
              exact .inl ⟨_, 0, _, rfl, ⟨rfl, (by decide)⟩, rfl, hE46⟩
            · refine mq_f h47 ?_
              refine pr_if1f rfl rfl (i32_z hz46) h47 ?_
              refine pr_n (pc2 := 191) (lv2 := [(3, vi z3), (2, vi z2), (1, vi z1), (0, .ref 170)]) (st2 := [.ref 170, vi 1, .ref 170]) 3 (fun _ _ => rfl) ?_
              refine pr_get (v := .ref C) rfl rfl rfl (by decide) (rv_ref (show s46.1 170 19 = ((C : Nat) : Int) from hE46.2.2.1)) fun _ => ?_
              refine pr_gE (k2 := 177) (v := vi (t44 177 5)) hE46 rfl rfl (TG_C hC) (by decide) rfl rfl rfl fun h48 => ?_
              have h48 : i32 (t44 177 5) := h48
              refine pr_m1 (args := [vi 1, vi (t44 177 5)]) (rest := []) rfl rfl rfl rfl (Nat.le_of_ble_eq_true rfl) rfl (h_133 s46 t44 1 (t44 177 5) hE46 (i32_n rfl) h48) ?_
              rintro _ z49 t49 s49 ⟨rfl, hz49⟩ hE49
              show pr K K d tb_M128 200 [(3, vi z3), (2, vi z2), (1, vi z1), (0, .ref 170)] [vi z49] s49 _
              by_cases h50 : z49 = 0
              · refine mq_t h50 ?_
                refine pr_if1t rfl rfl (i32_z hz49) h50 ?_
                refine pr_n (pc2 := 214) (lv2 := [(3, vi z3), (2, vi z2), (1, vi z1), (0, .ref 170)]) (st2 := [vi 0]) 1 (fun _ _ => rfl) ?_
                refine pr_end (fun _ _ => rfl) ?_
                exact .inl ⟨_, 0, _, rfl, ⟨rfl, (by decide)⟩, rfl, hE49⟩
              · refine mq_f h50 ?_
                refine pr_if1f rfl rfl (i32_z hz49) h50 ?_
                refine pr_n (pc2 := 207) (lv2 := [(3, vi z3), (2, vi z2), (1, vi z1), (0, .ref 170)]) (st2 := [.ref 94, .ref 170]) 2 (fun _ _ => rfl) ?_
                refine pr_m1 (args := [.ref 94]) (rest := []) rfl rfl rfl rfl (Nat.le_of_ble_eq_true rfl) rfl (h_136 s49 t49 94 hE49 isX_94) ?_
                rintro _ z51 t51 s51 ⟨rfl, hz51⟩ hE51
                show pr K K d tb_M128 210 [(3, vi z3), (2, vi z2), (1, vi z1), (0, .ref 170)] [vi z51] s51 _
                by_cases h52 : z51 ≠ 0
                · refine mq_t h52 ?_
                  refine pr_if1t rfl rfl (i32_z hz51) h52 ?_
                  refine pr_n (pc2 := 216) (lv2 := [(3, vi z3), (2, vi z2), (1, vi z1), (0, .ref 170)]) (st2 := [.ref 170]) 1 (fun _ _ => rfl) ?_
                  refine pr_gE (k2 := 170) (v := vi (t51 170 4)) hE51 rfl rfl rfl (by decide) rfl rfl rfl fun h53 => ?_
                  have h53 : i32 (t51 170 4) := h53
                  refine pr_n (pc2 := 220) (lv2 := [(3, vi z3), (2, vi z2), (1, vi z1), (0, .ref 170)]) (st2 := [vi 3, vi (t51 170 4)]) 1 (fun _ _ => rfl) ?_
                  by_cases h54 : t51 170 4 ≠ 3
                  · refine mq_t h54 ?_
                    refine pr_if2t rfl rfl h53 (i32_n rfl) h54 ?_
                    refine pr_n (pc2 := 250) (lv2 := [(3, vi z3), (2, vi z2), (1, vi z1), (0, .ref 170)]) (st2 := [.ref 170]) 1 (fun _ _ => rfl) ?_
                    refine pr_s1 (args := []) (rest := []) rfl rfl rfl rfl (Nat.le_of_ble_eq_true rfl) rfl (h_131 s51 t51  hE51 ) q_bad0 ?_
                    rintro _ s55 ⟨rfl, hz55⟩ hE55
                    show pr K K d tb_M128 253 [(3, vi z3), (2, vi z2), (1, vi z1), (0, .ref 170)] [vi 0] s55 _
                    refine pr_end (fun _ _ => rfl) ?_
                    exact .inl ⟨_, 0, _, rfl, ⟨rfl, (by decide)⟩, rfl, hE55⟩
                  · refine mq_f h54 ?_
                    refine pr_if2f rfl rfl h53 (i32_n rfl) h54 ?_
                    refine pr_n (pc2 := 224) (lv2 := [(3, vi z3), (2, vi z2), (1, vi z1), (0, .ref 170)]) (st2 := [.ref 170]) 1 (fun _ _ => rfl) ?_
                    refine pr_gE (k2 := 170) (v := vi (t51 170 7)) hE51 rfl rfl rfl (by decide) rfl rfl rfl fun h56 => ?_
                    have h56 : i32 (t51 170 7) := h56
                    refine pr_i2l (a := t51 170 7) rfl h56 ?_
                    have h57 : i64 (t51 170 7) := i64_32 h56
                    refine pr_n (pc2 := 232) (lv2 := [(3, vi z3), (2, vi z2), (1, vi z1), (0, .ref 170)]) (st2 := [vl 64, vl 1, vl (t51 170 7)]) 2 (fun _ _ => rfl) ?_
                    refine pr_s0 (args := [vl (t51 170 7), vl 1, vl 64]) (rest := []) rfl rfl rfl (Nat.le_of_ble_eq_true rfl) rfl (h_120 s51 t51 (t51 170 7) 1 64 hE51 h57 (i64_n rfl) (i64_n rfl)) q_inz ?_
                    rintro _ s58 ⟨rfl, hz58⟩ hE58
                    show pr K K d tb_M128 235 [(3, vi z3), (2, vi z2), (1, vi z1), (0, .ref 170)] [vi (inz (t51 170 7) 1 64)] s58 _
                    by_cases h59 : inz (t51 170 7) 1 64 = 0
                    · refine mq_t h59 ?_
                      refine pr_if1t rfl rfl (i32_z hz58) h59 ?_
                      refine pr_n (pc2 := 250) (lv2 := [(3, vi z3), (2, vi z2), (1, vi z1), (0, .ref 170)]) (st2 := [.ref 170]) 1 (fun _ _ => rfl) ?_
                      refine pr_s1 (args := []) (rest := []) rfl rfl rfl rfl (Nat.le_of_ble_eq_true rfl) rfl (h_131 s58 t51  hE58 ) q_bad0 ?_
                      rintro _ s60 ⟨rfl, hz60⟩ hE60
                      show pr K K d tb_M128 253 [(3, vi z3), (2, vi z2), (1, vi z1), (0, .ref 170)] [vi 0] s60 _
                      refine pr_end (fun _ _ => rfl) ?_
                      exact .inl ⟨_, 0, _, rfl, ⟨rfl, (by decide)⟩, rfl, hE60⟩
                    · refine mq_f h59 ?_
                      refine pr_if1f rfl rfl (i32_z hz58) h59 ?_
                      refine pr_n (pc2 := 239) (lv2 := [(3, vi z3), (2, vi z2), (1, vi z1), (0, .ref 170)]) (st2 := [.ref 170]) 1 (fun _ _ => rfl) ?_
                      refine pr_gE (k2 := 170) (v := vi (t51 170 7)) hE58 rfl rfl rfl (by decide) rfl rfl rfl fun h61 => ?_
                      have h61 : i32 (t51 170 7) := h61
                      refine pr_m0 (args := [vi (t51 170 7)]) (rest := []) rfl rfl rfl (Nat.le_of_ble_eq_true rfl) rfl (h_76 s58 t51 (t51 170 7) hE58 h61) ?_
                      rintro _ z62 t62 s62 ⟨rfl, hz62⟩ hE62
                      show pr K K d tb_M128 245 [(3, vi z3), (2, vi z2), (1, vi z1), (0, .ref 170)] [vi z62] s62 _
                      refine pr_n (pc2 := 246) (lv2 := [(3, vi z3), (2, vi z2), (1, vi z1), (0, .ref 170)]) (st2 := [vi 1, vi z62]) 1 (fun _ _ => rfl) ?_
                      by_cases h63 : z62 = 1
                      · refine mq_t h63 ?_
                        refine pr_if2t rfl rfl hz62 (i32_n rfl) h63 ?_
                        refine pr_n (pc2 := 255) (lv2 := [(3, vi z3), (2, vi z2), (1, vi z1), (0, .ref 170)]) (st2 := [.ref 170]) 1 (fun _ _ => rfl) ?_
                        refine pr_get (v := .ref C) rfl rfl rfl (by decide) (rv_ref (show s62.1 170 19 = ((C : Nat) : Int) from hE62.2.2.1)) fun _ => ?_
                        refine pr_get (v := .ref (C + 3)) rfl rfl (TG_C hC) (by decide) (rv_ref (hE62.2.1 C 12 (C + 3) (rc_C12 hC))) fun _ => ?_
                        refine pr_n (pc2 := 262) (lv2 := [(3, vi z3), (2, vi z2), (1, vi z1), (0, .ref 170)]) (st2 := [.ref 170, .ref (C + 3)]) 1 (fun _ _ => rfl) ?_
                        refine pr_get (v := .ref C) rfl rfl rfl (by decide) (rv_ref (show s62.1 170 19 = ((C : Nat) : Int) from hE62.2.2.1)) fun _ => ?_
                        refine pr_gE (k2 := 177) (v := vi (t62 177 5)) hE62 rfl rfl (TG_C hC) (by decide) rfl rfl rfl fun h64 => ?_
                        have h64 : i32 (t62 177 5) := h64
                        refine pr_n (pc2 := 269) (lv2 := [(3, vi z3), (2, vi z2), (1, vi z1), (0, .ref 170)]) (st2 := [.ref 170, vi (t62 177 5), .ref (C + 3)]) 1 (fun _ _ => rfl) ?_
                        refine pr_gE (k2 := 170) (v := vi (t62 170 7)) hE62 rfl rfl rfl (by decide) rfl rfl rfl fun h65 => ?_
                        have h65 : i32 (t62 170 7) := h65
                        refine pr_sE (k2 := 180) (a := t62 177 5) (z := t62 170 7) hE62 rfl (show 96 ≤ C + 3 by omega) (TG_C3 hC) rfl h64 (by decide) rfl (show i32 (t62 170 7) from h65) (nD1 hC (by omega)) rfl rfl (fun e => absurd e.1 (show ¬ (C + 3 = 170) by omega)) (fun _ => trivial) fun h66 h67 s68 hE68 => ?_
                        refine pr_n (pc2 := 274) (lv2 := [(3, vi z3), (2, vi z2), (1, vi z1), (0, .ref 170)]) (st2 := [.ref 170]) 1 (fun _ _ => rfl) ?_
                        refine pr_get (v := .ref C) rfl rfl rfl (by decide) (rv_ref (show s68.1 170 19 = ((C : Nat) : Int) from hE68.2.2.1)) fun _ => ?_
                        refine pr_n (pc2 := 278) (lv2 := [(3, vi z3), (2, vi z2), (1, vi z1), (0, .ref 170)]) (st2 := [.ref C, .ref C]) 1 (fun _ _ => rfl) ?_
                        refine pr_gE (k2 := 177) (v := vi (t62 177 5)) hE68 rfl rfl (TG_C hC) (by decide) rfl rfl rfl fun h69 => ?_
                        have h69 : i32 (t62 177 5) := h69
                        refine pr_n (pc2 := 282) (lv2 := [(3, vi z3), (2, vi z2), (1, vi z1), (0, .ref 170)]) (st2 := [vi 1, vi (t62 177 5), .ref C]) 1 (fun _ _ => rfl) ?_
                        refine pr_i2 (a := t62 177 5) (b := 1) rfl rfl ?_
                        show pr K K d tb_M128 283 [(3, vi z3), (2, vi z2), (1, vi z1), (0, .ref 170)] [vi (ipl (t62 177 5) 1), .ref C] s68 _
                        have h70 : i32 (ipl (t62 177 5) 1) := i32_in _
                        refine pr_pE (k2 := 177) (z := ipl (t62 177 5) 1) hE68 rfl rfl rfl rfl (show 96 ≤ C by omega) (TG_C hC) (by decide) rfl (show i32 (ipl (t62 177 5) 1) from h70) (hf_int' _) (nD hC (by omega)) rfl rfl (fun e => absurd e.1 (show ¬ (C = 170) by omega)) (fun _ => trivial) fun s71 hE71 => ?_
                        refine pr_n (pc2 := 287) (lv2 := [(3, vi z3), (2, vi z2), (1, vi z1), (0, .ref 170)]) (st2 := [.ref 170]) 1 (fun _ _ => rfl) ?_
                        refine pr_m1 (args := []) (rest := []) rfl rfl rfl rfl (Nat.le_of_ble_eq_true rfl) rfl (h_123 s71 (up2 (up2 t62 180 ((t62 177 5).toNat) (t62 170 7)) 177 5 (ipl (t62 177 5) 1))  hE71 ) ?_
                        rintro _ _ t72 s72 ⟨rfl, rfl⟩ hE72
                        show pr K K d tb_M128 290 [(3, vi z3), (2, vi z2), (1, vi z1), (0, .ref 170)] [] s72 _
                        refine pr_n (pc2 := 294) (lv2 := [(3, vi z3), (2, vi z2), (1, vi z1), (0, .ref 170)]) (st2 := [.ref 44, .ref 170]) 2 (fun _ _ => rfl) ?_
                        refine pr_m1 (args := [.ref 44]) (rest := []) rfl rfl rfl rfl (Nat.le_of_ble_eq_true rfl) rfl (h_136 s72 t72 44 hE72 isX_44) ?_
                        rintro _ z73 t73 s73 ⟨rfl, hz73⟩ hE73
                        show pr K K d tb_M128 297 [(3, vi z3), (2, vi z2), (1, vi z1), (0, .ref 170)] [vi z73] s73 _
                        by_cases h74 : z73 = 0
                        · refine mq_t h74 ?_
                          refine pr_if1t rfl rfl (i32_z hz73) h74 ?_
                          refine pr_n (pc2 := 314) (lv2 := [(3, vi z3), (2, vi z2), (1, vi z1), (0, .ref 170)]) (st2 := [vi 0]) 1 (fun _ _ => rfl) ?_
                          refine pr_end (fun _ _ => rfl) ?_
                          exact .inl ⟨_, 0, _, rfl, ⟨rfl, (by decide)⟩, rfl, hE73⟩
                        · refine mq_f h74 ?_
                          refine pr_if1f rfl rfl (i32_z hz73) h74 ?_
                          refine pr_n (pc2 := 303) (lv2 := [(3, vi z3), (2, vi z2), (1, vi z1), (0, .ref 170)]) (st2 := [.ref 30, .ref 170]) 2 (fun _ _ => rfl) ?_
                          refine pr_m1 (args := [.ref 30]) (rest := []) rfl rfl rfl rfl (Nat.le_of_ble_eq_true rfl) rfl (h_136 s73 t73 30 hE73 isX_30) ?_
                          rintro _ z75 t75 s75 ⟨rfl, hz75⟩ hE75
                          show pr K K d tb_M128 306 [(3, vi z3), (2, vi z2), (1, vi z1), (0, .ref 170)] [vi z75] s75 _
                          by_cases h76 : z75 = 0
                          · refine mq_t h76 ?_
                            refine pr_if1t rfl rfl (i32_z hz75) h76 ?_
                            refine pr_n (pc2 := 314) (lv2 := [(3, vi z3), (2, vi z2), (1, vi z1), (0, .ref 170)]) (st2 := [vi 0]) 1 (fun _ _ => rfl) ?_
                            refine pr_end (fun _ _ => rfl) ?_
                            exact .inl ⟨_, 0, _, rfl, ⟨rfl, (by decide)⟩, rfl, hE75⟩
                          · refine mq_f h76 ?_
                            refine pr_if1f rfl rfl (i32_z hz75) h76 ?_
                            refine pr_n (pc2 := 314) (lv2 := [(3, vi z3), (2, vi z2), (1, vi z1), (0, .ref 170)]) (st2 := [vi 1]) 2 (fun _ _ => rfl) ?_
                            refine pr_end (fun _ _ => rfl) ?_
                            exact .inl ⟨_, 1, _, rfl, ⟨rfl, (by decide)⟩, rfl, hE75⟩
                      · refine mq_f h63 ?_
                        refine pr_if2f rfl rfl hz62 (i32_n rfl) h63 ?_
                        refine pr_n (pc2 := 250) (lv2 := [(3, vi z3), (2, vi z2), (1, vi z1), (0, .ref 170)]) (st2 := [.ref 170]) 1 (fun _ _ => rfl) ?_
                        refine pr_s1 (args := []) (rest := []) rfl rfl rfl rfl (Nat.le_of_ble_eq_true rfl) rfl (h_131 s62 t62  hE62 ) q_bad0 ?_
                        rintro _ s77 ⟨rfl, hz77⟩ hE77
                        show pr K K d tb_M128 253 [(3, vi z3), (2, vi z2), (1, vi z1), (0, .ref 170)] [vi 0] s77 _
                        refine pr_end (fun _ _ => rfl) ?_
                        exact .inl ⟨_, 0, _, rfl, ⟨rfl, (by decide)⟩, rfl, hE77⟩
                · refine mq_f h52 ?_
                  refine pr_if1f rfl rfl (i32_z hz51) h52 ?_
                  refine pr_n (pc2 := 214) (lv2 := [(3, vi z3), (2, vi z2), (1, vi z1), (0, .ref 170)]) (st2 := [vi 0]) 1 (fun _ _ => rfl) ?_
                  refine pr_end (fun _ _ => rfl) ?_
                  exact .inl ⟨_, 0, _, rfl, ⟨rfl, (by decide)⟩, rfl, hE51⟩
        · refine mq_f h10 ?_
          refine pr_if1f rfl rfl (i32_z hz1) h10 ?_
          refine pr_n (pc2 := 81) (lv2 := [(3, vi z3), (2, vi z2), (1, vi z1), (0, .ref 170)]) (st2 := [.ref 170]) 1 (fun _ _ => rfl) ?_
          refine pr_m1 (args := []) (rest := []) rfl rfl rfl rfl (Nat.le_of_ble_eq_true rfl) rfl (h_123 s8 t  hE8 ) ?_
          rintro _ _ t78 s78 ⟨rfl, rfl⟩ hE78
          show pr K K d tb_M128 84 [(3, vi z3), (2, vi z2), (1, vi z1), (0, .ref 170)] [] s78 _
          refine pr_n (pc2 := 87) (lv2 := [(3, vi z3), (2, vi z2), (1, vi z1), (0, .ref 170)]) (st2 := [vi 16, .ref 170]) 2 (fun _ _ => rfl) ?_
          refine pr_m1 (args := [vi 16]) (rest := []) rfl rfl rfl rfl (Nat.le_of_ble_eq_true rfl) rfl (h_137 s78 t78 16 hE78 (i32_n rfl)) ?_
          rintro _ z79 t79 s79 ⟨rfl, hz79⟩ hE79
          show pr K K d tb_M128 90 [(3, vi z3), (2, vi z2), (1, vi z1), (0, .ref 170)] [vi z79] s79 _
          by_cases h80 : z79 = 0
          · refine mq_t h80 ?_
            refine pr_if1t rfl rfl (i32_z hz79) h80 ?_
            refine pr_n (pc2 := 103) (lv2 := [(3, vi z3), (2, vi z2), (1, vi z1), (0, .ref 170)]) (st2 := [vi 0]) 1 (fun _ _ => rfl) ?_
            refine pr_end (fun _ _ => rfl) ?_
            exact .inl ⟨_, 0, _, rfl, ⟨rfl, (by decide)⟩, rfl, hE79⟩
          · refine mq_f h80 ?_
            refine pr_if1f rfl rfl (i32_z hz79) h80 ?_
            refine pr_n (pc2 := 96) (lv2 := [(3, vi z3), (2, vi z2), (1, vi z1), (0, .ref 170)]) (st2 := [.ref 92, .ref 170]) 2 (fun _ _ => rfl) ?_
            refine pr_m1 (args := [.ref 92]) (rest := []) rfl rfl rfl rfl (Nat.le_of_ble_eq_true rfl) rfl (h_136 s79 t79 92 hE79 isX_92) ?_
            rintro _ z81 t81 s81 ⟨rfl, hz81⟩ hE81
            show pr K K d tb_M128 99 [(3, vi z3), (2, vi z2), (1, vi z1), (0, .ref 170)] [vi z81] s81 _
            by_cases h82 : z81 ≠ 0
            · refine mq_t h82 ?_
              refine pr_if1t rfl rfl (i32_z hz81) h82 ?_
              refine pr_n (pc2 := 105) (lv2 := [(3, vi z3), (2, vi z2), (1, vi z1), (0, .ref 170)]) (st2 := [.ref 170]) 1 (fun _ _ => rfl) ?_
              refine pr_gE (k2 := 170) (v := vi (t81 170 4)) hE81 rfl rfl rfl (by decide) rfl rfl rfl fun h83 => ?_
              have h83 : i32 (t81 170 4) := h83
              refine pr_n (pc2 := 109) (lv2 := [(3, vi z3), (2, vi z2), (1, vi z1), (0, .ref 170)]) (st2 := [vi 3, vi (t81 170 4)]) 1 (fun _ _ => rfl) ?_
              by_cases h84 : t81 170 4 ≠ 3
              · refine mq_t h84 ?_
                refine pr_if2t rfl rfl h83 (i32_n rfl) h84 ?_
                refine pr_n (pc2 := 128) (lv2 := [(3, vi z3), (2, vi z2), (1, vi z1), (0, .ref 170)]) (st2 := [.ref 170]) 1 (fun _ _ => rfl) ?_
                refine pr_s1 (args := []) (rest := []) rfl rfl rfl rfl (Nat.le_of_ble_eq_true rfl) rfl (h_131 s81 t81  hE81 ) q_bad0 ?_
                rintro _ s85 ⟨rfl, hz85⟩ hE85
                show pr K K d tb_M128 131 [(3, vi z3), (2, vi z2), (1, vi z1), (0, .ref 170)] [vi 0] s85 _
                refine pr_end (fun _ _ => rfl) ?_
                exact .inl ⟨_, 0, _, rfl, ⟨rfl, (by decide)⟩, rfl, hE85⟩
              · refine mq_f h84 ?_
                refine pr_if2f rfl rfl h83 (i32_n rfl) h84 ?_
                refine pr_n (pc2 := 113) (lv2 := [(3, vi z3), (2, vi z2), (1, vi z1), (0, .ref 170)]) (st2 := [.ref 170]) 1 (fun _ _ => rfl) ?_
                refine pr_gE (k2 := 170) (v := vi (t81 170 7)) hE81 rfl rfl rfl (by decide) rfl rfl rfl fun h86 => ?_
                have h86 : i32 (t81 170 7) := h86
                refine pr_i2l (a := t81 170 7) rfl h86 ?_
                have h87 : i64 (t81 170 7) := i64_32 h86
                refine pr_n (pc2 := 121) (lv2 := [(3, vi z3), (2, vi z2), (1, vi z1), (0, .ref 170)]) (st2 := [vl 16, vl 1, vl (t81 170 7)]) 2 (fun _ _ => rfl) ?_
                refine pr_s0 (args := [vl (t81 170 7), vl 1, vl 16]) (rest := []) rfl rfl rfl (Nat.le_of_ble_eq_true rfl) rfl (h_120 s81 t81 (t81 170 7) 1 16 hE81 h87 (i64_n rfl) (i64_n rfl)) q_inz ?_
                rintro _ s88 ⟨rfl, hz88⟩ hE88
                show pr K K d tb_M128 124 [(3, vi z3), (2, vi z2), (1, vi z1), (0, .ref 170)] [vi (inz (t81 170 7) 1 16)] s88 _
                by_cases h89 : inz (t81 170 7) 1 16 ≠ 0
                · refine mq_t h89 ?_
                  refine pr_if1t rfl rfl (i32_z hz88) h89 ?_
                  refine pr_n (pc2 := 133) (lv2 := [(3, vi z3), (2, vi z2), (1, vi z1), (0, .ref 170)]) (st2 := [.ref 170]) 1 (fun _ _ => rfl) ?_
                  refine pr_get (v := .ref C) rfl rfl rfl (by decide) (rv_ref (show s88.1 170 19 = ((C : Nat) : Int) from hE88.2.2.1)) fun _ => ?_
                  refine pr_get (v := .ref (C + 2)) rfl rfl (TG_C hC) (by decide) (rv_ref (hE88.2.1 C 11 (C + 2) (rc_C11 hC))) fun _ => ?_
                  refine pr_n (pc2 := 140) (lv2 := [(3, vi z3), (2, vi z2), (1, vi z1), (0, .ref 170)]) (st2 := [.ref 170, .ref (C + 2)]) 1 (fun _ _ => rfl) ?_
                  refine pr_get (v := .ref C) rfl rfl rfl (by decide) (rv_ref (show s88.1 170 19 = ((C : Nat) : Int) from hE88.2.2.1)) fun _ => ?_
                  refine pr_gE (k2 := 177) (v := vi (t81 177 4)) hE88 rfl rfl (TG_C hC) (by decide) rfl rfl rfl fun h90 => ?_
                  have h90 : i32 (t81 177 4) := h90
                  refine pr_n (pc2 := 147) (lv2 := [(3, vi z3), (2, vi z2), (1, vi z1), (0, .ref 170)]) (st2 := [vi 1, vi (t81 177 4), .ref (C + 2)]) 1 (fun _ _ => rfl) ?_
                  refine pr_i2 (a := t81 177 4) (b := 1) rfl rfl ?_
                  show pr K K d tb_M128 148 [(3, vi z3), (2, vi z2), (1, vi z1), (0, .ref 170)] [vi (imi (t81 177 4) 1), .ref (C + 2)] s88 _
                  have h91 : i32 (imi (t81 177 4) 1) := i32_in _
                  refine pr_n (pc2 := 149) (lv2 := [(3, vi z3), (2, vi z2), (1, vi z1), (0, .ref 170)]) (st2 := [.ref 170, vi (imi (t81 177 4) 1), .ref (C + 2)]) 1 (fun _ _ => rfl) ?_
                  refine pr_gE (k2 := 170) (v := vi (t81 170 7)) hE88 rfl rfl rfl (by decide) rfl rfl rfl fun h92 => ?_
                  have h92 : i32 (t81 170 7) := h92
                  refine pr_sE (k2 := 179) (a := imi (t81 177 4) 1) (z := t81 170 7) hE88 rfl (show 96 ≤ C + 2 by omega) (TG_C2 hC) rfl h91 (by decide) rfl (show i32 (t81 170 7) from h92) (nD1 hC (by omega)) rfl rfl (fun e => absurd e.1 (show ¬ (C + 2 = 170) by omega)) (fun _ => trivial) fun h93 h94 s95 hE95 => ?_
                  refine pr_n (pc2 := 154) (lv2 := [(3, vi z3), (2, vi z2), (1, vi z1), (0, .ref 170)]) (st2 := [.ref 170]) 1 (fun _ _ => rfl) ?_
                  refine pr_m1 (args := []) (rest := []) rfl rfl rfl rfl (Nat.le_of_ble_eq_true rfl) rfl (h_123 s95 (up2 t81 179 ((imi (t81 177 4) 1).toNat) (t81 170 7))  hE95 ) ?_
                  rintro _ _ t96 s96 ⟨rfl, rfl⟩ hE96
                  show pr K K d tb_M128 157 [(3, vi z3), (2, vi z2), (1, vi z1), (0, .ref 170)] [] s96 _
                  refine pr_n (pc2 := 160) (lv2 := [(3, vi z3), (2, vi z2), (1, vi z1), (0, .ref 170)]) (st2 := [.ref 30, .ref 170]) 2 (fun _ _ => rfl) ?_
                  refine pr_m1 (args := [.ref 30]) (rest := []) rfl rfl rfl rfl (Nat.le_of_ble_eq_true rfl) rfl (h_136 s96 t96 30 hE96 isX_30) ?_
                  rintro _ z97 t97 s97 ⟨rfl, hz97⟩ hE97
                  show pr K K d tb_M128 163 [(3, vi z3), (2, vi z2), (1, vi z1), (0, .ref 170)] [vi z97] s97 _
                  refine pr_retz rfl rfl hz97 ?_
                  exact .inl ⟨_, z97, _, rfl, ⟨rfl, hz97⟩, rfl, hE97⟩
                · refine mq_f h89 ?_
                  refine pr_if1f rfl rfl (i32_z hz88) h89 ?_
                  refine pr_n (pc2 := 128) (lv2 := [(3, vi z3), (2, vi z2), (1, vi z1), (0, .ref 170)]) (st2 := [.ref 170]) 1 (fun _ _ => rfl) ?_
                  refine pr_s1 (args := []) (rest := []) rfl rfl rfl rfl (Nat.le_of_ble_eq_true rfl) rfl (h_131 s88 t81  hE88 ) q_bad0 ?_
                  rintro _ s98 ⟨rfl, hz98⟩ hE98
                  show pr K K d tb_M128 131 [(3, vi z3), (2, vi z2), (1, vi z1), (0, .ref 170)] [vi 0] s98 _
                  refine pr_end (fun _ _ => rfl) ?_
                  exact .inl ⟨_, 0, _, rfl, ⟨rfl, (by decide)⟩, rfl, hE98⟩
            · refine mq_f h82 ?_
              refine pr_if1f rfl rfl (i32_z hz81) h82 ?_
              refine pr_n (pc2 := 103) (lv2 := [(3, vi z3), (2, vi z2), (1, vi z1), (0, .ref 170)]) (st2 := [vi 0]) 1 (fun _ _ => rfl) ?_
              refine pr_end (fun _ _ => rfl) ?_
              exact .inl ⟨_, 0, _, rfl, ⟨rfl, (by decide)⟩, rfl, hE81⟩
      · refine mq_f h9 ?_
        refine pr_if1f rfl rfl (i32_z hz8) h9 ?_
        refine pr_n (pc2 := 50) (lv2 := [(3, vi z3), (2, vi z2), (1, vi z1), (0, .ref 170)]) (st2 := [.ref 170]) 1 (fun _ _ => rfl) ?_
        refine pr_m1 (args := []) (rest := []) rfl rfl rfl rfl (Nat.le_of_ble_eq_true rfl) rfl (h_123 s8 t  hE8 ) ?_
        rintro _ _ t99 s99 ⟨rfl, rfl⟩ hE99
        show pr K K d tb_M128 53 [(3, vi z3), (2, vi z2), (1, vi z1), (0, .ref 170)] [] s99 _
        refine pr_n (pc2 := 55) (lv2 := [(3, vi z3), (2, vi z2), (1, vi z1), (0, .ref 170)]) (st2 := [vi 0, .ref 170]) 2 (fun _ _ => rfl) ?_
        refine pr_m1 (args := [vi 0]) (rest := []) rfl rfl rfl rfl (Nat.le_of_ble_eq_true rfl) rfl (h_137 s99 t99 0 hE99 (i32_n rfl)) ?_
        rintro _ z100 t100 s100 ⟨rfl, hz100⟩ hE100
        show pr K K d tb_M128 58 [(3, vi z3), (2, vi z2), (1, vi z1), (0, .ref 170)] [vi z100] s100 _
        by_cases h101 : z100 = 0
        · refine mq_t h101 ?_
          refine pr_if1t rfl rfl (i32_z hz100) h101 ?_
          refine pr_n (pc2 := 75) (lv2 := [(3, vi z3), (2, vi z2), (1, vi z1), (0, .ref 170)]) (st2 := [vi 0]) 1 (fun _ _ => rfl) ?_
          refine pr_end (fun _ _ => rfl) ?_
          exact .inl ⟨_, 0, _, rfl, ⟨rfl, (by decide)⟩, rfl, hE100⟩
        · refine mq_f h101 ?_
          refine pr_if1f rfl rfl (i32_z hz100) h101 ?_
          refine pr_n (pc2 := 64) (lv2 := [(3, vi z3), (2, vi z2), (1, vi z1), (0, .ref 170)]) (st2 := [.ref 30, .ref 170]) 2 (fun _ _ => rfl) ?_
          refine pr_m1 (args := [.ref 30]) (rest := []) rfl rfl rfl rfl (Nat.le_of_ble_eq_true rfl) rfl (h_136 s100 t100 30 hE100 isX_30) ?_
          rintro _ z102 t102 s102 ⟨rfl, hz102⟩ hE102
          show pr K K d tb_M128 67 [(3, vi z3), (2, vi z2), (1, vi z1), (0, .ref 170)] [vi z102] s102 _
          by_cases h103 : z102 = 0
          · refine mq_t h103 ?_
            refine pr_if1t rfl rfl (i32_z hz102) h103 ?_
            refine pr_n (pc2 := 75) (lv2 := [(3, vi z3), (2, vi z2), (1, vi z1), (0, .ref 170)]) (st2 := [vi 0]) 1 (fun _ _ => rfl) ?_
            refine pr_end (fun _ _ => rfl) ?_
            exact .inl ⟨_, 0, _, rfl, ⟨rfl, (by decide)⟩, rfl, hE102⟩
          · refine mq_f h103 ?_
            refine pr_if1f rfl rfl (i32_z hz102) h103 ?_
            refine pr_n (pc2 := 75) (lv2 := [(3, vi z3), (2, vi z2), (1, vi z1), (0, .ref 170)]) (st2 := [vi 1]) 2 (fun _ _ => rfl) ?_
            refine pr_end (fun _ _ => rfl) ?_
            exact .inl ⟨_, 1, _, rfl, ⟨rfl, (by decide)⟩, rfl, hE102⟩
    · refine mq_f h7 ?_
      refine pr_if1f rfl rfl (i32_z hz6) h7 ?_
      refine pr_n (pc2 := 36) (lv2 := [(3, vi z3), (2, vi z2), (1, vi z1), (0, .ref 170)]) (st2 := [vi z3, .ref 170]) 2 (fun _ _ => rfl) ?_
      refine pr_m1 (args := [vi z3]) (rest := []) rfl rfl rfl rfl (Nat.le_of_ble_eq_true rfl) rfl (h_129 s6 t z3 hE6 hz3) ?_
      rintro _ z104 t104 s104 ⟨rfl, hz104⟩ hE104
      show pr K K d tb_M128 39 [(3, vi z3), (2, vi z2), (1, vi z1), (0, .ref 170)] [vi z104] s104 _
      refine pr_retz rfl rfl hz104 ?_
      exact .inl ⟨_, z104, _, rfl, ⟨rfl, hz104⟩, rfl, hE104⟩
set_option maxHeartbeats 20000000 in
set_option maxRecDepth 100000 in
theorem ru122_0 {N K d C : Nat} (h_123 : rT123 K d C) (h_127 : rT127 K d C) (h_128 : rT128 K d C) (h_131 : rT131 K d C) (h_132 : rT132 K d C) (h_135 : rT135 K d C) (h_138 : rT138 K d C) (h_139 : rT139 K d C) (h_140 : rT140 K d C) (ih : ∀ N2, N2 < N → rA122 N2 K d C) : rU122_0 N K d C := by
  intro s t  hE 
  have hC : C = 177 ∨ C = 186 := hE.1
  rw [rG_122_142]
  unfold rM122_142
  refine pr_lt (pc2 := 143) (lv2 := [(0, .ref 170)]) (st2 := [.ref 170]) (fun _ _ => rfl) fun N2 hN2 => ?_
  refine pr_n (pc2 := 145) (lv2 := [(0, .ref 170)]) (st2 := [.ref 6, .ref 170]) 1 (fun _ _ => rfl) ?_
  refine pr_p1 (args := [.ref 6]) (rest := []) rfl rfl rfl rfl (Nat.le_of_ble_eq_true rfl) rfl (h_127 s t 6 hE isX_6) (fun z t3 => pu_127) ?_
  rintro _ z1 s1 ⟨rfl, hz1⟩ hX1 hE1
  show pr N2 K d tb_M122 148 [(0, .ref 170)] [vi z1] s1 _
  by_cases h2 : z1 ≠ 0
  · refine mq_t h2 ?_
    refine pr_if1t rfl rfl (i32_z hz1) h2 ?_
    refine pr_n (pc2 := 215) (lv2 := [(0, .ref 170)]) (st2 := [.ref 170]) 1 (fun _ _ => rfl) ?_
    refine pr_m1 (args := []) (rest := []) rfl rfl rfl rfl (Nat.le_of_ble_eq_true rfl) rfl (h_128 s1 t  hE1 ) ?_
    rintro _ z3 t3 s3 ⟨rfl, hz3⟩ hE3
    show pr N2 K d tb_M122 218 [(0, .ref 170)] [vi z3] s3 _
    by_cases h4 : z3 ≠ 0
    · refine mq_t h4 ?_
      refine pr_if1t rfl rfl (i32_z hz3) h4 ?_
      exact ((ih N2 hN2).1) s3 t3  hE3 
    · refine mq_f h4 ?_
      refine pr_if1f rfl rfl (i32_z hz3) h4 ?_
      refine pr_n (pc2 := 222) (lv2 := [(0, .ref 170)]) (st2 := [vi 0]) 1 (fun _ _ => rfl) ?_
      refine pr_end (fun _ _ => rfl) ?_
      exact .inl ⟨_, 0, _, rfl, ⟨rfl, (by decide)⟩, rfl, hE3⟩
  · refine mq_f h2 ?_
    refine pr_if1f rfl rfl (i32_z hz1) h2 ?_
    refine pr_n (pc2 := 154) (lv2 := [(0, .ref 170)]) (st2 := [.ref 8, .ref 170]) 2 (fun _ _ => rfl) ?_
    refine pr_p1 (args := [.ref 8]) (rest := []) rfl rfl rfl rfl (Nat.le_of_ble_eq_true rfl) rfl (h_127 s1 t 8 hE1 isX_8) (fun z t3 => pu_127) ?_
    rintro _ z5 s5 ⟨rfl, hz5⟩ hX5 hE5
    show pr N2 K d tb_M122 157 [(0, .ref 170)] [vi z5] s5 _
    by_cases h6 : z5 ≠ 0
    · refine mq_t h6 ?_
      refine pr_if1t rfl rfl (i32_z hz5) h6 ?_
      refine pr_n (pc2 := 215) (lv2 := [(0, .ref 170)]) (st2 := [.ref 170]) 1 (fun _ _ => rfl) ?_
      refine pr_m1 (args := []) (rest := []) rfl rfl rfl rfl (Nat.le_of_ble_eq_true rfl) rfl (h_128 s5 t  hE5 ) ?_
      rintro _ z7 t7 s7 ⟨rfl, hz7⟩ hE7
      show pr N2 K d tb_M122 218 [(0, .ref 170)] [vi z7] s7 _
      by_cases h8 : z7 ≠ 0
      · refine mq_t h8 ?_
        refine pr_if1t rfl rfl (i32_z hz7) h8 ?_
        exact ((ih N2 hN2).1) s7 t7  hE7 
      · refine mq_f h8 ?_
        refine pr_if1f rfl rfl (i32_z hz7) h8 ?_
        refine pr_n (pc2 := 222) (lv2 := [(0, .ref 170)]) (st2 := [vi 0]) 1 (fun _ _ => rfl) ?_
        refine pr_end (fun _ _ => rfl) ?_
        exact .inl ⟨_, 0, _, rfl, ⟨rfl, (by decide)⟩, rfl, hE7⟩
    · refine mq_f h6 ?_
      refine pr_if1f rfl rfl (i32_z hz5) h6 ?_
      refine pr_n (pc2 := 163) (lv2 := [(0, .ref 170)]) (st2 := [.ref 10, .ref 170]) 2 (fun _ _ => rfl) ?_
      refine pr_p1 (args := [.ref 10]) (rest := []) rfl rfl rfl rfl (Nat.le_of_ble_eq_true rfl) rfl (h_127 s5 t 10 hE5 isX_10) (fun z t3 => pu_127) ?_
      rintro _ z9 s9 ⟨rfl, hz9⟩ hX9 hE9
      show pr N2 K d tb_M122 166 [(0, .ref 170)] [vi z9] s9 _
      by_cases h10 : z9 ≠ 0
      · refine mq_t h10 ?_
        refine pr_if1t rfl rfl (i32_z hz9) h10 ?_
        refine pr_n (pc2 := 215) (lv2 := [(0, .ref 170)]) (st2 := [.ref 170]) 1 (fun _ _ => rfl) ?_
        refine pr_m1 (args := []) (rest := []) rfl rfl rfl rfl (Nat.le_of_ble_eq_true rfl) rfl (h_128 s9 t  hE9 ) ?_
        rintro _ z11 t11 s11 ⟨rfl, hz11⟩ hE11
        show pr N2 K d tb_M122 218 [(0, .ref 170)] [vi z11] s11 _
        by_cases h12 : z11 ≠ 0
        · refine mq_t h12 ?_
          refine pr_if1t rfl rfl (i32_z hz11) h12 ?_
          exact ((ih N2 hN2).1) s11 t11  hE11 
        · refine mq_f h12 ?_
          refine pr_if1f rfl rfl (i32_z hz11) h12 ?_
          refine pr_n (pc2 := 222) (lv2 := [(0, .ref 170)]) (st2 := [vi 0]) 1 (fun _ _ => rfl) ?_
          refine pr_end (fun _ _ => rfl) ?_
          exact .inl ⟨_, 0, _, rfl, ⟨rfl, (by decide)⟩, rfl, hE11⟩
      · refine mq_f h10 ?_
        refine pr_if1f rfl rfl (i32_z hz9) h10 ?_
        refine pr_n (pc2 := 172) (lv2 := [(0, .ref 170)]) (st2 := [.ref 12, .ref 170]) 2 (fun _ _ => rfl) ?_
        refine pr_p1 (args := [.ref 12]) (rest := []) rfl rfl rfl rfl (Nat.le_of_ble_eq_true rfl) rfl (h_127 s9 t 12 hE9 isX_12) (fun z t3 => pu_127) ?_
        rintro _ z13 s13 ⟨rfl, hz13⟩ hX13 hE13
        show pr N2 K d tb_M122 175 [(0, .ref 170)] [vi z13] s13 _
        by_cases h14 : z13 ≠ 0
        · refine mq_t h14 ?_
          refine pr_if1t rfl rfl (i32_z hz13) h14 ?_
          refine pr_n (pc2 := 215) (lv2 := [(0, .ref 170)]) (st2 := [.ref 170]) 1 (fun _ _ => rfl) ?_
          refine pr_m1 (args := []) (rest := []) rfl rfl rfl rfl (Nat.le_of_ble_eq_true rfl) rfl (h_128 s13 t  hE13 ) ?_
          rintro _ z15 t15 s15 ⟨rfl, hz15⟩ hE15
          show pr N2 K d tb_M122 218 [(0, .ref 170)] [vi z15] s15 _
          by_cases h16 : z15 ≠ 0
          · refine mq_t h16 ?_
            refine pr_if1t rfl rfl (i32_z hz15) h16 ?_
            exact ((ih N2 hN2).1) s15 t15  hE15 
          · refine mq_f h16 ?_
            refine pr_if1f rfl rfl (i32_z hz15) h16 ?_
            refine pr_n (pc2 := 222) (lv2 := [(0, .ref 170)]) (st2 := [vi 0]) 1 (fun _ _ => rfl) ?_
            refine pr_end (fun _ _ => rfl) ?_
            exact .inl ⟨_, 0, _, rfl, ⟨rfl, (by decide)⟩, rfl, hE15⟩
        · refine mq_f h14 ?_
          refine pr_if1f rfl rfl (i32_z hz13) h14 ?_
          refine pr_n (pc2 := 181) (lv2 := [(0, .ref 170)]) (st2 := [.ref 14, .ref 170]) 2 (fun _ _ => rfl) ?_
          refine pr_p1 (args := [.ref 14]) (rest := []) rfl rfl rfl rfl (Nat.le_of_ble_eq_true rfl) rfl (h_127 s13 t 14 hE13 isX_14) (fun z t3 => pu_127) ?_
          rintro _ z17 s17 ⟨rfl, hz17⟩ hX17 hE17
          show pr N2 K d tb_M122 184 [(0, .ref 170)] [vi z17] s17 _
          by_cases h18 : z17 ≠ 0
          · refine mq_t h18 ?_
            refine pr_if1t rfl rfl (i32_z hz17) h18 ?_
            refine pr_n (pc2 := 215) (lv2 := [(0, .ref 170)]) (st2 := [.ref 170]) 1 (fun _ _ => rfl) ?_
            refine pr_m1 (args := []) (rest := []) rfl rfl rfl rfl (Nat.le_of_ble_eq_true rfl) rfl (h_128 s17 t  hE17 ) ?_
            rintro _ z19 t19 s19 ⟨rfl, hz19⟩ hE19
            show pr N2 K d tb_M122 218 [(0, .ref 170)] [vi z19] s19 _
            by_cases h20 : z19 ≠ 0
            · refine mq_t h20 ?_
              refine pr_if1t rfl rfl (i32_z hz19) h20 ?_
              exact ((ih N2 hN2).1) s19 t19  hE19 
            · refine mq_f h20 ?_
              refine pr_if1f rfl rfl (i32_z hz19) h20 ?_
              refine pr_n (pc2 := 222) (lv2 := [(0, .ref 170)]) (st2 := [vi 0]) 1 (fun _ _ => rfl) ?_
              refine pr_end (fun _ _ => rfl) ?_
              exact .inl ⟨_, 0, _, rfl, ⟨rfl, (by decide)⟩, rfl, hE19⟩
          · refine mq_f h18 ?_
            refine pr_if1f rfl rfl (i32_z hz17) h18 ?_
            refine pr_n (pc2 := 190) (lv2 := [(0, .ref 170)]) (st2 := [.ref 16, .ref 170]) 2 (fun _ _ => rfl) ?_
            refine pr_p1 (args := [.ref 16]) (rest := []) rfl rfl rfl rfl (Nat.le_of_ble_eq_true rfl) rfl (h_127 s17 t 16 hE17 isX_16) (fun z t3 => pu_127) ?_
            rintro _ z21 s21 ⟨rfl, hz21⟩ hX21 hE21
            show pr N2 K d tb_M122 193 [(0, .ref 170)] [vi z21] s21 _
            by_cases h22 : z21 ≠ 0
            · refine mq_t h22 ?_
              refine pr_if1t rfl rfl (i32_z hz21) h22 ?_
              refine pr_n (pc2 := 215) (lv2 := [(0, .ref 170)]) (st2 := [.ref 170]) 1 (fun _ _ => rfl) ?_
              refine pr_m1 (args := []) (rest := []) rfl rfl rfl rfl (Nat.le_of_ble_eq_true rfl) rfl (h_128 s21 t  hE21 ) ?_
              rintro _ z23 t23 s23 ⟨rfl, hz23⟩ hE23
              show pr N2 K d tb_M122 218 [(0, .ref 170)] [vi z23] s23 _
              by_cases h24 : z23 ≠ 0
              · refine mq_t h24 ?_
                refine pr_if1t rfl rfl (i32_z hz23) h24 ?_
                exact ((ih N2 hN2).1) s23 t23  hE23 
              · refine mq_f h24 ?_
                refine pr_if1f rfl rfl (i32_z hz23) h24 ?_
                refine pr_n (pc2 := 222) (lv2 := [(0, .ref 170)]) (st2 := [vi 0]) 1 (fun _ _ => rfl) ?_
                refine pr_end (fun _ _ => rfl) ?_
                exact .inl ⟨_, 0, _, rfl, ⟨rfl, (by decide)⟩, rfl, hE23⟩
            · refine mq_f h22 ?_
              refine pr_if1f rfl rfl (i32_z hz21) h22 ?_
              refine pr_n (pc2 := 199) (lv2 := [(0, .ref 170)]) (st2 := [.ref 18, .ref 170]) 2 (fun _ _ => rfl) ?_
              refine pr_p1 (args := [.ref 18]) (rest := []) rfl rfl rfl rfl (Nat.le_of_ble_eq_true rfl) rfl (h_127 s21 t 18 hE21 isX_18) (fun z t3 => pu_127) ?_
              rintro _ z25 s25 ⟨rfl, hz25⟩ hX25 hE25
              show pr N2 K d tb_M122 202 [(0, .ref 170)] [vi z25] s25 _
              by_cases h26 : z25 ≠ 0
              · refine mq_t h26 ?_
                refine pr_if1t rfl rfl (i32_z hz25) h26 ?_
                refine pr_n (pc2 := 215) (lv2 := [(0, .ref 170)]) (st2 := [.ref 170]) 1 (fun _ _ => rfl) ?_
                refine pr_m1 (args := []) (rest := []) rfl rfl rfl rfl (Nat.le_of_ble_eq_true rfl) rfl (h_128 s25 t  hE25 ) ?_
                rintro _ z27 t27 s27 ⟨rfl, hz27⟩ hE27
                show pr N2 K d tb_M122 218 [(0, .ref 170)] [vi z27] s27 _
                by_cases h28 : z27 ≠ 0
                · refine mq_t h28 ?_
                  refine pr_if1t rfl rfl (i32_z hz27) h28 ?_
                  exact ((ih N2 hN2).1) s27 t27  hE27 
                · refine mq_f h28 ?_
                  refine pr_if1f rfl rfl (i32_z hz27) h28 ?_
                  refine pr_n (pc2 := 222) (lv2 := [(0, .ref 170)]) (st2 := [vi 0]) 1 (fun _ _ => rfl) ?_
                  refine pr_end (fun _ _ => rfl) ?_
                  exact .inl ⟨_, 0, _, rfl, ⟨rfl, (by decide)⟩, rfl, hE27⟩
              · refine mq_f h26 ?_
                refine pr_if1f rfl rfl (i32_z hz25) h26 ?_
                refine pr_n (pc2 := 208) (lv2 := [(0, .ref 170)]) (st2 := [.ref 20, .ref 170]) 2 (fun _ _ => rfl) ?_
                refine pr_p1 (args := [.ref 20]) (rest := []) rfl rfl rfl rfl (Nat.le_of_ble_eq_true rfl) rfl (h_127 s25 t 20 hE25 isX_20) (fun z t3 => pu_127) ?_
                rintro _ z29 s29 ⟨rfl, hz29⟩ hX29 hE29
                show pr N2 K d tb_M122 211 [(0, .ref 170)] [vi z29] s29 _
                by_cases h30 : z29 = 0
                · refine mq_t h30 ?_
                  refine pr_if1t rfl rfl (i32_z hz29) h30 ?_
                  refine pr_n (pc2 := 224) (lv2 := [(0, .ref 170)]) (st2 := [.ref 170]) 1 (fun _ _ => rfl) ?_
                  refine pr_get (v := .ref C) rfl rfl rfl (by decide) (rv_ref (show s29.1 170 19 = ((C : Nat) : Int) from hE29.2.2.1)) fun _ => ?_
                  refine pr_n (pc2 := 228) (lv2 := [(0, .ref 170)]) (st2 := [vi 0, .ref C]) 1 (fun _ _ => rfl) ?_
                  refine pr_pE (k2 := 177) (z := 0) hE29 rfl rfl rfl rfl (show 96 ≤ C by omega) (TG_C hC) (by decide) rfl (show i32 (0) from (i32_n rfl)) (hf_int' _) (nD hC (by omega)) rfl rfl (fun e => absurd e.1 (show ¬ (C = 170) by omega)) (fun _ => trivial) fun s31 hE31 => ?_
                  refine pr_n (pc2 := 233) (lv2 := [(1, vi 0), (0, .ref 170)]) (st2 := []) 2 (fun _ _ => rfl) ?_
                  exact ((ih N2 hN2).2) s31 (up2 t 177 18 0) 0 hE31 (i32_n rfl)
                · refine mq_f h30 ?_
                  refine pr_if1f rfl rfl (i32_z hz29) h30 ?_
                  refine pr_n (pc2 := 215) (lv2 := [(0, .ref 170)]) (st2 := [.ref 170]) 1 (fun _ _ => rfl) ?_
                  refine pr_m1 (args := []) (rest := []) rfl rfl rfl rfl (Nat.le_of_ble_eq_true rfl) rfl (h_128 s29 t  hE29 ) ?_
                  rintro _ z32 t32 s32 ⟨rfl, hz32⟩ hE32
                  show pr N2 K d tb_M122 218 [(0, .ref 170)] [vi z32] s32 _
                  by_cases h33 : z32 ≠ 0
                  · refine mq_t h33 ?_
                    refine pr_if1t rfl rfl (i32_z hz32) h33 ?_
                    exact ((ih N2 hN2).1) s32 t32  hE32 
                  · refine mq_f h33 ?_
                    refine pr_if1f rfl rfl (i32_z hz32) h33 ?_
                    refine pr_n (pc2 := 222) (lv2 := [(0, .ref 170)]) (st2 := [vi 0]) 1 (fun _ _ => rfl) ?_
                    refine pr_end (fun _ _ => rfl) ?_
                    exact .inl ⟨_, 0, _, rfl, ⟨rfl, (by decide)⟩, rfl, hE32⟩
set_option maxHeartbeats 20000000 in
set_option maxRecDepth 100000 in
theorem ru122_1 {N K d C : Nat} (h_123 : rT123 K d C) (h_127 : rT127 K d C) (h_128 : rT128 K d C) (h_131 : rT131 K d C) (h_132 : rT132 K d C) (h_135 : rT135 K d C) (h_138 : rT138 K d C) (h_139 : rT139 K d C) (h_140 : rT140 K d C) (ih : ∀ N2, N2 < N → rA122 N2 K d C) : rU122_1 N K d C := by
  intro s t y1 hE hy1
  have hC : C = 177 ∨ C = 186 := hE.1
  rw [rG_122_233]
  unfold rM122_233
  refine pr_lt (pc2 := 234) (lv2 := [(1, vi y1), (0, .ref 170)]) (st2 := [vi y1]) (fun _ _ => rfl) fun N2 hN2 => ?_
  refine pr_n (pc2 := 235) (lv2 := [(1, vi y1), (0, .ref 170)]) (st2 := [.ref 170, vi y1]) 1 (fun _ _ => rfl) ?_
  refine pr_gE (k2 := 170) (v := vi (t 170 14)) hE rfl rfl rfl (by decide) rfl rfl rfl fun h1 => ?_
  have h1 : i32 (t 170 14) := h1
  by_cases h2 : t 170 14 ≤ y1
  · refine mq_t h2 ?_
    refine pr_if2t rfl rfl hy1 h1 h2 ?_
    refine pr_n (pc2 := 358) (lv2 := [(1, vi y1), (0, .ref 170)]) (st2 := [.ref 170]) 1 (fun _ _ => rfl) ?_
    refine pr_get (v := .ref 171) rfl rfl rfl (by decide) (rv_ref (hE.2.1 170 0 171 rfl)) fun _ => ?_
    refine pr_n (pc2 := 363) (lv2 := [(1, vi y1), (0, .ref 170)]) (st2 := [.ref 170, vi 0, .ref 171]) 2 (fun _ _ => rfl) ?_
    refine pr_get (v := .ref C) rfl rfl rfl (by decide) (rv_ref (show s.1 170 19 = ((C : Nat) : Int) from hE.2.2.1)) fun _ => ?_
    refine pr_get (v := .ref (C + 4)) rfl rfl (TG_C hC) (by decide) (rv_ref (hE.2.1 C 13 (C + 4) (rc_C13 hC))) fun _ => ?_
    refine pr_n (pc2 := 371) (lv2 := [(1, vi y1), (0, .ref 170)]) (st2 := [.ref 170, vi 0, .ref (C + 4), vi 0, .ref 171]) 2 (fun _ _ => rfl) ?_
    refine pr_gE (k2 := 170) (v := vi (t 170 2)) hE rfl rfl rfl (by decide) rfl rfl rfl fun h3 => ?_
    have h3 : i32 (t 170 2) := h3
    refine pr_copy2 (k2 := 181) (kf := 171) hE rfl rfl rfl (TG_C4 hC) (by decide) (show 96 ≤ C + 4 by omega) h3 (by decide) (fun j => (nD1 hC (by omega))) rfl rfl (okk_n rfl) (fun _ => rfl) (show C + 4 ≠ 170 by omega) trivial fun s4 hE4 => ?_
    refine pr_n (pc2 := 378) (lv2 := [(1, vi y1), (0, .ref 170)]) (st2 := [.ref 170]) 1 (fun _ _ => rfl) ?_
    refine pr_get (v := .ref C) rfl rfl rfl (by decide) (rv_ref (show s4.1 170 19 = ((C : Nat) : Int) from hE4.2.2.1)) fun _ => ?_
    refine pr_n (pc2 := 382) (lv2 := [(1, vi y1), (0, .ref 170)]) (st2 := [.ref 170, .ref C]) 1 (fun _ _ => rfl) ?_
    refine pr_get (v := .ref C) rfl rfl rfl (by decide) (rv_ref (show s4.1 170 19 = ((C : Nat) : Int) from hE4.2.2.1)) fun _ => ?_
    refine pr_gE (k2 := 177) (v := vi (t 177 1)) hE4 rfl rfl (TG_C hC) (by decide) rfl rfl rfl fun h5 => ?_
    have h5 : i32 (t 177 1) := h5
    refine pr_pE (k2 := 177) (z := t 177 1) hE4 rfl rfl rfl rfl (show 96 ≤ C by omega) (TG_C hC) (by decide) rfl (show i32 (t 177 1) from h5) (hf_int' _) (nD hC (by omega)) rfl rfl (fun e => absurd e.1 (show ¬ (C = 170) by omega)) (fun _ => trivial) fun s6 hE6 => ?_
    refine pr_n (pc2 := 392) (lv2 := [(1, vi y1), (0, .ref 170)]) (st2 := [.ref 170]) 1 (fun _ _ => rfl) ?_
    refine pr_s1 (args := []) (rest := []) rfl rfl rfl rfl (Nat.le_of_ble_eq_true rfl) rfl (h_138 s6 (up2 ((cpt t 181 171 (t 170 2))) 177 2 (t 177 1))  hE6 ) q_rfg ?_
    rintro _ s7 ⟨rfl, _⟩ hE7
    show pr N2 K d tb_M122 395 [(1, vi y1), (0, .ref 170)] [] s7 _
    refine pr_n (pc2 := 396) (lv2 := [(1, vi y1), (0, .ref 170)]) (st2 := [.ref 170]) 1 (fun _ _ => rfl) ?_
    refine pr_s1 (args := []) (rest := []) rfl rfl rfl rfl (Nat.le_of_ble_eq_true rfl) rfl (h_135 s7 ((rfg (up2 ((cpt t 181 171 (t 170 2))) 177 2 (t 177 1))))  hE7 ) q_rop ?_
    rintro _ s8 ⟨rfl, _⟩ hE8
    show pr N2 K d tb_M122 399 [(1, vi y1), (0, .ref 170)] [] s8 _
    refine pr_n (pc2 := 401) (lv2 := [(1, vi y1), (0, .ref 170)]) (st2 := [vi 0, .ref 170]) 2 (fun _ _ => rfl) ?_
    refine pr_m1 (args := [vi 0]) (rest := []) rfl rfl rfl rfl (Nat.le_of_ble_eq_true rfl) rfl (h_139 s8 ((rop ((rfg (up2 ((cpt t 181 171 (t 170 2))) 177 2 (t 177 1)))))) 0 hE8 (i32_n rfl)) ?_
    rintro _ z9 t9 s9 ⟨rfl, hz9⟩ hE9
    show pr N2 K d tb_M122 404 [(1, vi y1), (0, .ref 170)] [vi z9] s9 _
    by_cases h10 : z9 ≠ 0
    · refine mq_t h10 ?_
      refine pr_if1t rfl rfl (i32_z hz9) h10 ?_
      refine pr_n (pc2 := 412) (lv2 := [(1, vi y1), (0, .ref 170)]) (st2 := [vi 21, .ref 170]) 2 (fun _ _ => rfl) ?_
      refine pr_s1 (args := [vi 21]) (rest := []) rfl rfl rfl rfl (Nat.le_of_ble_eq_true rfl) rfl (h_140 s9 t9 21 hE9 (i32_n rfl)) q_put1 ?_
      rintro _ s11 ⟨rfl, hz11⟩ hE11
      show pr N2 K d tb_M122 415 [(1, vi y1), (0, .ref 170)] [vi (ptz t9)] s11 _
      refine pr_n (pc2 := 417) (lv2 := [(1, vi y1), (0, .ref 170)]) (st2 := [.ref 170]) 2 (fun _ _ => rfl) ?_
      refine pr_gE (k2 := 170) (v := vi (t9 170 4)) hE11 rfl rfl rfl (by decide) rfl rfl rfl fun h12 => ?_
      have h12 : i32 (t9 170 4) := h12
      by_cases h13 : t9 170 4 = 0
      · refine mq_t h13 ?_
        refine pr_if1t rfl rfl h12 h13 ?_
        refine pr_n (pc2 := 429) (lv2 := [(1, vi y1), (0, .ref 170)]) (st2 := [.ref 170]) 1 (fun _ _ => rfl) ?_
        refine pr_gE (k2 := 170) (v := vi (t9 170 21)) hE11 rfl rfl rfl (by decide) rfl rfl rfl fun h14 => ?_
        have h14 : i32 (t9 170 21) := h14
        by_cases h15 : t9 170 21 < 0
        · refine mq_t h15 ?_
          refine pr_if1t rfl rfl h14 h15 ?_
          refine pr_n (pc2 := 451) (lv2 := [(1, vi y1), (0, .ref 170)]) (st2 := [vi 1]) 2 (fun _ _ => rfl) ?_
          refine pr_end (fun _ _ => rfl) ?_
          exact .inl ⟨_, 1, _, rfl, ⟨rfl, (by decide)⟩, rfl, hE11⟩
        · refine mq_f h15 ?_
          refine pr_if1f rfl rfl h14 h15 ?_
          refine pr_n (pc2 := 437) (lv2 := [(1, vi y1), (0, .ref 170)]) (st2 := [.ref 170, .ref 170]) 2 (fun _ _ => rfl) ?_
          refine pr_gE (k2 := 170) (v := vi (t9 170 21)) hE11 rfl rfl rfl (by decide) rfl rfl rfl fun h16 => ?_
          have h16 : i32 (t9 170 21) := h16
          refine pr_s1 (args := [vi (t9 170 21)]) (rest := []) rfl rfl rfl rfl (Nat.le_of_ble_eq_true rfl) rfl (h_132 s11 ((pt1 t9 21)) (t9 170 21) hE11 h16) q_bad1 ?_
          rintro _ s17 ⟨rfl, hz17⟩ hE17
          show pr N2 K d tb_M122 443 [(1, vi y1), (0, .ref 170)] [vi 0] s17 _
          refine pr_n (pc2 := 451) (lv2 := [(1, vi y1), (0, .ref 170)]) (st2 := [vi 0]) 2 (fun _ _ => rfl) ?_
          refine pr_end (fun _ _ => rfl) ?_
          exact .inl ⟨_, 0, _, rfl, ⟨rfl, (by decide)⟩, rfl, hE17⟩
      · refine mq_f h13 ?_
        refine pr_if1f rfl rfl h12 h13 ?_
        refine pr_n (pc2 := 424) (lv2 := [(1, vi y1), (0, .ref 170)]) (st2 := [.ref 170]) 1 (fun _ _ => rfl) ?_
        refine pr_s1 (args := []) (rest := []) rfl rfl rfl rfl (Nat.le_of_ble_eq_true rfl) rfl (h_131 s11 ((pt1 t9 21))  hE11 ) q_bad0 ?_
        rintro _ s18 ⟨rfl, hz18⟩ hE18
        show pr N2 K d tb_M122 427 [(1, vi y1), (0, .ref 170)] [vi 0] s18 _
        refine pr_end (fun _ _ => rfl) ?_
        exact .inl ⟨_, 0, _, rfl, ⟨rfl, (by decide)⟩, rfl, hE18⟩
    · refine mq_f h10 ?_
      refine pr_if1f rfl rfl (i32_z hz9) h10 ?_
      refine pr_n (pc2 := 408) (lv2 := [(1, vi y1), (0, .ref 170)]) (st2 := [vi 0]) 1 (fun _ _ => rfl) ?_
      refine pr_end (fun _ _ => rfl) ?_
      exact .inl ⟨_, 0, _, rfl, ⟨rfl, (by decide)⟩, rfl, hE9⟩
  · refine mq_f h2 ?_
    refine pr_if2f rfl rfl hy1 h1 h2 ?_
    refine pr_n (pc2 := 242) (lv2 := [(1, vi y1), (0, .ref 170)]) (st2 := [.ref 170]) 1 (fun _ _ => rfl) ?_
    refine pr_get (v := .ref 174) rfl rfl rfl (by decide) (rv_ref (hE.2.1 170 11 174 rfl)) fun _ => ?_
    refine pr_n (pc2 := 246) (lv2 := [(1, vi y1), (0, .ref 170)]) (st2 := [vi y1, .ref 174]) 1 (fun _ _ => rfl) ?_
    refine pr_aE (k2 := 174) (a := y1) (v := vi (t 174 y1.toNat)) hE rfl rfl rfl hy1 (by decide) rfl rfl rfl fun h20 h21 h19 => ?_
    have h19 : i32 (t 174 y1.toNat) := h19
    refine pr_n (pc2 := 248) (lv2 := [(1, vi y1), (0, .ref 170)]) (st2 := [vi 1, vi (t 174 y1.toNat)]) 1 (fun _ _ => rfl) ?_
    by_cases h22 : t 174 y1.toNat ≤ 1
    · refine mq_t h22 ?_
      refine pr_if2t rfl rfl h19 (i32_n rfl) h22 ?_
      refine pr_n (pc2 := 255) (lv2 := [(1, vi y1), (0, .ref 170)]) (st2 := [.ref 170]) 1 (fun _ _ => rfl) ?_
      refine pr_get (v := .ref C) rfl rfl rfl (by decide) (rv_ref (show s.1 170 19 = ((C : Nat) : Int) from hE.2.2.1)) fun _ => ?_
      refine pr_get (v := .ref (C + 5)) rfl rfl (TG_C hC) (by decide) (rv_ref (hE.2.1 C 14 (C + 5) (rc_C14 hC))) fun _ => ?_
      refine pr_n (pc2 := 262) (lv2 := [(1, vi y1), (0, .ref 170)]) (st2 := [.ref 170, .ref (C + 5)]) 1 (fun _ _ => rfl) ?_
      refine pr_get (v := .ref C) rfl rfl rfl (by decide) (rv_ref (show s.1 170 19 = ((C : Nat) : Int) from hE.2.2.1)) fun _ => ?_
      refine pr_gE (k2 := 177) (v := vi (t 177 18)) hE rfl rfl (TG_C hC) (by decide) rfl rfl rfl fun h23 => ?_
      have h23 : i32 (t 177 18) := h23
      refine pr_n (pc2 := 269) (lv2 := [(1, vi y1), (0, .ref 170)]) (st2 := [.ref 170, vi (t 177 18), .ref (C + 5)]) 1 (fun _ _ => rfl) ?_
      refine pr_get (v := .ref 172) rfl rfl rfl (by decide) (rv_ref (hE.2.1 170 9 172 rfl)) fun _ => ?_
      refine pr_n (pc2 := 273) (lv2 := [(1, vi y1), (0, .ref 170)]) (st2 := [vi y1, .ref 172, vi (t 177 18), .ref (C + 5)]) 1 (fun _ _ => rfl) ?_
      refine pr_aE (k2 := 172) (a := y1) (v := vi (t 172 y1.toNat)) hE rfl rfl rfl hy1 (by decide) rfl rfl rfl fun h25 h26 h24 => ?_
      have h24 : i32 (t 172 y1.toNat) := h24
      refine pr_sE (k2 := 182) (a := t 177 18) (z := t 172 y1.toNat) hE rfl (show 96 ≤ C + 5 by omega) (TG_C5 hC) rfl h23 (by decide) rfl (show i32 (t 172 y1.toNat) from h24) (nD1 hC (by omega)) rfl rfl (fun e => absurd e.1 (show ¬ (C + 5 = 170) by omega)) (fun _ => trivial) fun h27 h28 s29 hE29 => ?_
      refine pr_n (pc2 := 276) (lv2 := [(1, vi y1), (0, .ref 170)]) (st2 := [.ref 170]) 1 (fun _ _ => rfl) ?_
      refine pr_get (v := .ref C) rfl rfl rfl (by decide) (rv_ref (show s29.1 170 19 = ((C : Nat) : Int) from hE29.2.2.1)) fun _ => ?_
      refine pr_get (v := .ref (C + 6)) rfl rfl (TG_C hC) (by decide) (rv_ref (hE29.2.1 C 15 (C + 6) (rc_C15 hC))) fun _ => ?_
      refine pr_n (pc2 := 283) (lv2 := [(1, vi y1), (0, .ref 170)]) (st2 := [.ref 170, .ref (C + 6)]) 1 (fun _ _ => rfl) ?_
      refine pr_get (v := .ref C) rfl rfl rfl (by decide) (rv_ref (show s29.1 170 19 = ((C : Nat) : Int) from hE29.2.2.1)) fun _ => ?_
      refine pr_gE (k2 := 177) (v := vi (t 177 18)) hE29 rfl rfl (TG_C hC) (by decide) rfl rfl rfl fun h30 => ?_
      have h30 : i32 (t 177 18) := h30
      refine pr_n (pc2 := 290) (lv2 := [(1, vi y1), (0, .ref 170)]) (st2 := [.ref 170, vi (t 177 18), .ref (C + 6)]) 1 (fun _ _ => rfl) ?_
      refine pr_get (v := .ref 173) rfl rfl rfl (by decide) (rv_ref (hE29.2.1 170 10 173 rfl)) fun _ => ?_
      refine pr_n (pc2 := 294) (lv2 := [(1, vi y1), (0, .ref 170)]) (st2 := [vi y1, .ref 173, vi (t 177 18), .ref (C + 6)]) 1 (fun _ _ => rfl) ?_
      refine pr_aE (k2 := 173) (a := y1) (v := vi (t 173 y1.toNat)) hE29 rfl rfl rfl hy1 (by decide) rfl rfl rfl fun h32 h33 h31 => ?_
      have h31 : i32 (t 173 y1.toNat) := h31
      refine pr_sE (k2 := 183) (a := t 177 18) (z := t 173 y1.toNat) hE29 rfl (show 96 ≤ C + 6 by omega) (TG_C6 hC) rfl h30 (by decide) rfl (show i32 (t 173 y1.toNat) from h31) (nD1 hC (by omega)) rfl rfl (fun e => absurd e.1 (show ¬ (C + 6 = 170) by omega)) (fun _ => trivial) fun h34 h35 s36 hE36 => ?_
      refine pr_n (pc2 := 297) (lv2 := [(1, vi y1), (0, .ref 170)]) (st2 := [.ref 170]) 1 (fun _ _ => rfl) ?_
      refine pr_get (v := .ref C) rfl rfl rfl (by decide) (rv_ref (show s36.1 170 19 = ((C : Nat) : Int) from hE36.2.2.1)) fun _ => ?_
      refine pr_get (v := .ref (C + 7)) rfl rfl (TG_C hC) (by decide) (rv_ref (hE36.2.1 C 16 (C + 7) (rc_C16 hC))) fun _ => ?_
      refine pr_n (pc2 := 304) (lv2 := [(1, vi y1), (0, .ref 170)]) (st2 := [.ref 170, .ref (C + 7)]) 1 (fun _ _ => rfl) ?_
      refine pr_get (v := .ref C) rfl rfl rfl (by decide) (rv_ref (show s36.1 170 19 = ((C : Nat) : Int) from hE36.2.2.1)) fun _ => ?_
      refine pr_gE (k2 := 177) (v := vi (t 177 18)) hE36 rfl rfl (TG_C hC) (by decide) rfl rfl rfl fun h37 => ?_
      have h37 : i32 (t 177 18) := h37
      refine pr_n (pc2 := 311) (lv2 := [(1, vi y1), (0, .ref 170)]) (st2 := [.ref 170, vi (t 177 18), .ref (C + 7)]) 1 (fun _ _ => rfl) ?_
      refine pr_get (v := .ref 174) rfl rfl rfl (by decide) (rv_ref (hE36.2.1 170 11 174 rfl)) fun _ => ?_
      refine pr_n (pc2 := 315) (lv2 := [(1, vi y1), (0, .ref 170)]) (st2 := [vi y1, .ref 174, vi (t 177 18), .ref (C + 7)]) 1 (fun _ _ => rfl) ?_
      refine pr_aE (k2 := 174) (a := y1) (v := vi (t 174 y1.toNat)) hE36 rfl rfl rfl hy1 (by decide) rfl rfl rfl fun h39 h40 h38 => ?_
      have h38 : i32 (t 174 y1.toNat) := h38
      refine pr_sE (k2 := 184) (a := t 177 18) (z := t 174 y1.toNat) hE36 rfl (show 96 ≤ C + 7 by omega) (TG_C7 hC) rfl h37 (by decide) rfl (show i32 (t 174 y1.toNat) from h38) (nD1 hC (by omega)) rfl rfl (fun e => absurd e.1 (show ¬ (C + 7 = 170) by omega)) (fun _ => trivial) fun h41 h42 s43 hE43 => ?_
      refine pr_n (pc2 := 318) (lv2 := [(1, vi y1), (0, .ref 170)]) (st2 := [.ref 170]) 1 (fun _ _ => rfl) ?_
      refine pr_get (v := .ref C) rfl rfl rfl (by decide) (rv_ref (show s43.1 170 19 = ((C : Nat) : Int) from hE43.2.2.1)) fun _ => ?_
      refine pr_get (v := .ref (C + 8)) rfl rfl (TG_C hC) (by decide) (rv_ref (hE43.2.1 C 17 (C + 8) (rc_C17 hC))) fun _ => ?_
      refine pr_n (pc2 := 325) (lv2 := [(1, vi y1), (0, .ref 170)]) (st2 := [.ref 170, .ref (C + 8)]) 1 (fun _ _ => rfl) ?_
      refine pr_get (v := .ref C) rfl rfl rfl (by decide) (rv_ref (show s43.1 170 19 = ((C : Nat) : Int) from hE43.2.2.1)) fun _ => ?_
      refine pr_gE (k2 := 177) (v := vi (t 177 18)) hE43 rfl rfl (TG_C hC) (by decide) rfl rfl rfl fun h44 => ?_
      have h44 : i32 (t 177 18) := h44
      refine pr_n (pc2 := 332) (lv2 := [(1, vi y1), (0, .ref 170)]) (st2 := [.ref 170, vi (t 177 18), .ref (C + 8)]) 1 (fun _ _ => rfl) ?_
      refine pr_get (v := .ref 175) rfl rfl rfl (by decide) (rv_ref (hE43.2.1 170 12 175 rfl)) fun _ => ?_
      refine pr_n (pc2 := 336) (lv2 := [(1, vi y1), (0, .ref 170)]) (st2 := [vi y1, .ref 175, vi (t 177 18), .ref (C + 8)]) 1 (fun _ _ => rfl) ?_
      refine pr_aE (k2 := 175) (a := y1) (v := vi (t 175 y1.toNat)) hE43 rfl rfl rfl hy1 (by decide) rfl rfl rfl fun h46 h47 h45 => ?_
      have h45 : i32 (t 175 y1.toNat) := h45
      refine pr_sE (k2 := 185) (a := t 177 18) (z := t 175 y1.toNat) hE43 rfl (show 96 ≤ C + 8 by omega) (TG_C8 hC) rfl h44 (by decide) rfl (show i32 (t 175 y1.toNat) from h45) (nD1 hC (by omega)) rfl rfl (fun e => absurd e.1 (show ¬ (C + 8 = 170) by omega)) (fun _ => trivial) fun h48 h49 s50 hE50 => ?_
      refine pr_n (pc2 := 339) (lv2 := [(1, vi y1), (0, .ref 170)]) (st2 := [.ref 170]) 1 (fun _ _ => rfl) ?_
      refine pr_get (v := .ref C) rfl rfl rfl (by decide) (rv_ref (show s50.1 170 19 = ((C : Nat) : Int) from hE50.2.2.1)) fun _ => ?_
      refine pr_n (pc2 := 343) (lv2 := [(1, vi y1), (0, .ref 170)]) (st2 := [.ref C, .ref C]) 1 (fun _ _ => rfl) ?_
      refine pr_gE (k2 := 177) (v := vi (t 177 18)) hE50 rfl rfl (TG_C hC) (by decide) rfl rfl rfl fun h51 => ?_
      have h51 : i32 (t 177 18) := h51
      refine pr_n (pc2 := 347) (lv2 := [(1, vi y1), (0, .ref 170)]) (st2 := [vi 1, vi (t 177 18), .ref C]) 1 (fun _ _ => rfl) ?_
      refine pr_i2 (a := t 177 18) (b := 1) rfl rfl ?_
      show pr N2 K d tb_M122 348 [(1, vi y1), (0, .ref 170)] [vi (ipl (t 177 18) 1), .ref C] s50 _
      have h52 : i32 (ipl (t 177 18) 1) := i32_in _
      refine pr_pE (k2 := 177) (z := ipl (t 177 18) 1) hE50 rfl rfl rfl rfl (show 96 ≤ C by omega) (TG_C hC) (by decide) rfl (show i32 (ipl (t 177 18) 1) from h52) (hf_int' _) (nD hC (by omega)) rfl rfl (fun e => absurd e.1 (show ¬ (C = 170) by omega)) (fun _ => trivial) fun s53 hE53 => ?_
      refine pr_inc (a := y1) rfl rfl ?_
      have h54 : i32 (y1 + 1) := by unfold i32 at *; omega
      show pr N2 K d tb_M122 354 [(1, vi (y1 + 1)), (0, .ref 170)] [] s53 _
      refine pr_n (pc2 := 233) (lv2 := [(1, vi (y1 + 1)), (0, .ref 170)]) (st2 := []) 1 (fun _ _ => rfl) ?_
      exact ((ih N2 hN2).2) s53 (up2 (up2 (up2 (up2 (up2 t 182 ((t 177 18).toNat) (t 172 y1.toNat)) 183 ((t 177 18).toNat) (t 173 y1.toNat)) 184 ((t 177 18).toNat) (t 174 y1.toNat)) 185 ((t 177 18).toNat) (t 175 y1.toNat)) 177 18 (ipl (t 177 18) 1)) (y1 + 1) hE53 h54
    · refine mq_f h22 ?_
      refine pr_if2f rfl rfl h19 (i32_n rfl) h22 ?_
      refine pr_n (pc2 := 351) (lv2 := [(1, vi y1), (0, .ref 170)]) (st2 := []) 1 (fun _ _ => rfl) ?_
      refine pr_inc (a := y1) rfl rfl ?_
      have h55 : i32 (y1 + 1) := by unfold i32 at *; omega
      show pr N2 K d tb_M122 354 [(1, vi (y1 + 1)), (0, .ref 170)] [] s _
      refine pr_n (pc2 := 233) (lv2 := [(1, vi (y1 + 1)), (0, .ref 170)]) (st2 := []) 1 (fun _ _ => rfl) ?_
      exact ((ih N2 hN2).2) s t (y1 + 1) hE h55
theorem ra122 {K d C : Nat} (h_123 : rT123 K d C) (h_127 : rT127 K d C) (h_128 : rT128 K d C) (h_131 : rT131 K d C) (h_132 : rT132 K d C) (h_135 : rT135 K d C) (h_138 : rT138 K d C) (h_139 : rT139 K d C) (h_140 : rT140 K d C) : ∀ N, rA122 N K d C := by
  intro N
  induction N using Nat.strongRecOn with | ind N ih => ?_
  exact ⟨ru122_0 h_123 h_127 h_128 h_131 h_132 h_135 h_138 h_139 h_140 ih, ru122_1 h_123 h_127 h_128 h_131 h_132 h_135 h_138 h_139 h_140 ih⟩
set_option maxHeartbeats 20000000 in
set_option maxRecDepth 100000 in
theorem rm122 {K d C : Nat} (h_123 : rT123 K d C) (h_127 : rT127 K d C) (h_128 : rT128 K d C) (h_131 : rT131 K d C) (h_132 : rT132 K d C) (h_135 : rT135 K d C) (h_138 : rT138 K d C) (h_139 : rT139 K d C) (h_140 : rT140 K d C) : rT122 K (d + 1) C := by
  intro s0 t hE hsp
  have hC : C = 177 ∨ C = 186 := hE.1
  refine pcr_of (M := tb_M122) rfl ?_
  refine pr_n (pc2 := 2) (lv2 := [(0, .ref 170)]) (st2 := [.ref 170, .ref 170]) 2 (fun _ _ => rfl) ?_
  refine pr_get (v := .ref C) rfl rfl rfl (by decide) (rv_ref hsp) fun _ => ?_
  refine pr_put (z := (C : Int)) rfl rfl rfl rfl (by decide) rfl (by decide) (rv_ref rfl) (show -1 ≤ (C : Int) by omega) (hf_ref _ _) ?_
  obtain ⟨s, hs⟩ : ∃ s9 : rS, s9 = (up2 s0.1 170 19 (C : Int), s0.2) := ⟨_, rfl⟩
  rw [← hs] at hE ⊢
  clear hs hsp
  show pr K K d tb_M122 8 [(0, .ref 170)] [] s _
  rw [rG_122]
  unfold rM122
  refine pr_n (pc2 := 9) (lv2 := [(0, .ref 170)]) (st2 := [.ref 170]) 1 (fun _ _ => rfl) ?_
  refine pr_get (v := .ref C) rfl rfl rfl (by decide) (rv_ref (show s.1 170 19 = ((C : Nat) : Int) from hE.2.2.1)) fun _ => ?_
  refine pr_n (pc2 := 13) (lv2 := [(0, .ref 170)]) (st2 := [vi 0, .ref C]) 1 (fun _ _ => rfl) ?_
  refine pr_pE (k2 := 177) (z := 0) hE rfl rfl rfl rfl (show 96 ≤ C by omega) (TG_C hC) (by decide) rfl (show i32 (0) from (i32_n rfl)) (hf_int' _) (nD hC (by omega)) rfl rfl (fun e => absurd e.1 (show ¬ (C = 170) by omega)) (fun _ => trivial) fun s1 hE1 => ?_
  refine pr_n (pc2 := 17) (lv2 := [(0, .ref 170)]) (st2 := [.ref 170]) 1 (fun _ _ => rfl) ?_
  refine pr_get (v := .ref C) rfl rfl rfl (by decide) (rv_ref (show s1.1 170 19 = ((C : Nat) : Int) from hE1.2.2.1)) fun _ => ?_
  refine pr_n (pc2 := 21) (lv2 := [(0, .ref 170)]) (st2 := [vi 0, .ref C]) 1 (fun _ _ => rfl) ?_
  refine pr_pE (k2 := 177) (z := 0) hE1 rfl rfl rfl rfl (show 96 ≤ C by omega) (TG_C hC) (by decide) rfl (show i32 (0) from (i32_n rfl)) (hf_int' _) (nD hC (by omega)) rfl rfl (fun e => absurd e.1 (show ¬ (C = 170) by omega)) (fun _ => trivial) fun s2 hE2 => ?_
  refine pr_n (pc2 := 25) (lv2 := [(0, .ref 170)]) (st2 := [.ref 170]) 1 (fun _ _ => rfl) ?_
  refine pr_get (v := .ref C) rfl rfl rfl (by decide) (rv_ref (show s2.1 170 19 = ((C : Nat) : Int) from hE2.2.2.1)) fun _ => ?_
  refine pr_n (pc2 := 29) (lv2 := [(0, .ref 170)]) (st2 := [vi 0, .ref C]) 1 (fun _ _ => rfl) ?_
  refine pr_pE (k2 := 177) (z := 0) hE2 rfl rfl rfl rfl (show 96 ≤ C by omega) (TG_C hC) (by decide) rfl (show i32 (0) from (i32_n rfl)) (hf_int' _) (nD hC (by omega)) rfl rfl (fun e => absurd e.1 (show ¬ (C = 170) by omega)) (fun _ => trivial) fun s3 hE3 => ?_
  refine pr_n (pc2 := 33) (lv2 := [(0, .ref 170)]) (st2 := [.ref 170]) 1 (fun _ _ => rfl) ?_
  refine pr_get (v := .ref C) rfl rfl rfl (by decide) (rv_ref (show s3.1 170 19 = ((C : Nat) : Int) from hE3.2.2.1)) fun _ => ?_
  refine pr_n (pc2 := 37) (lv2 := [(0, .ref 170)]) (st2 := [vi 0, .ref C]) 1 (fun _ _ => rfl) ?_
  refine pr_pE (k2 := 177) (z := 0) hE3 rfl rfl rfl rfl (show 96 ≤ C by omega) (TG_C hC) (by decide) rfl (show i32 (0) from (i32_n rfl)) (hf_int' _) (nD hC (by omega)) rfl rfl (fun e => absurd e.1 (show ¬ (C = 170) by omega)) (fun _ => trivial) fun s4 hE4 => ?_
  refine pr_n (pc2 := 41) (lv2 := [(0, .ref 170)]) (st2 := [.ref 170]) 1 (fun _ _ => rfl) ?_
  refine pr_get (v := .ref C) rfl rfl rfl (by decide) (rv_ref (show s4.1 170 19 = ((C : Nat) : Int) from hE4.2.2.1)) fun _ => ?_
  refine pr_n (pc2 := 45) (lv2 := [(0, .ref 170)]) (st2 := [vi 0, .ref C]) 1 (fun _ _ => rfl) ?_
  refine pr_pE (k2 := 177) (z := 0) hE4 rfl rfl rfl rfl (show 96 ≤ C by omega) (TG_C hC) (by decide) rfl (show i32 (0) from (i32_n rfl)) (hf_int' _) (nD hC (by omega)) rfl rfl (fun e => absurd e.1 (show ¬ (C = 170) by omega)) (fun _ => trivial) fun s5 hE5 => ?_
  refine pr_n (pc2 := 49) (lv2 := [(0, .ref 170)]) (st2 := [.ref 170]) 1 (fun _ _ => rfl) ?_
  refine pr_get (v := .ref C) rfl rfl rfl (by decide) (rv_ref (show s5.1 170 19 = ((C : Nat) : Int) from hE5.2.2.1)) fun _ => ?_
  refine pr_n (pc2 := 53) (lv2 := [(0, .ref 170)]) (st2 := [vi 0, .ref C]) 1 (fun _ _ => rfl) ?_
  refine pr_pE (k2 := 177) (z := 0) hE5 rfl rfl rfl rfl (show 96 ≤ C by omega) (TG_C hC) (by decide) rfl (show i32 (0) from (i32_n rfl)) (hf_int' _) (nD hC (by omega)) rfl rfl (fun e => absurd e.1 (show ¬ (C = 170) by omega)) (fun _ => trivial) fun s6 hE6 => ?_
  refine pr_n (pc2 := 57) (lv2 := [(0, .ref 170)]) (st2 := [.ref 170]) 1 (fun _ _ => rfl) ?_
  refine pr_get (v := .ref C) rfl rfl rfl (by decide) (rv_ref (show s6.1 170 19 = ((C : Nat) : Int) from hE6.2.2.1)) fun _ => ?_
  refine pr_n (pc2 := 61) (lv2 := [(0, .ref 170)]) (st2 := [vi 0, .ref C]) 1 (fun _ _ => rfl) ?_
  refine pr_pE (k2 := 177) (z := 0) hE6 rfl rfl rfl rfl (show 96 ≤ C by omega) (TG_C hC) (by decide) rfl (show i32 (0) from (i32_n rfl)) (hf_int' _) (nD hC (by omega)) rfl rfl (fun e => absurd e.1 (show ¬ (C = 170) by omega)) (fun _ => trivial) fun s7 hE7 => ?_
  refine pr_n (pc2 := 65) (lv2 := [(0, .ref 170)]) (st2 := [.ref 170]) 1 (fun _ _ => rfl) ?_
  refine pr_get (v := .ref C) rfl rfl rfl (by decide) (rv_ref (show s7.1 170 19 = ((C : Nat) : Int) from hE7.2.2.1)) fun _ => ?_
  refine pr_n (pc2 := 69) (lv2 := [(0, .ref 170)]) (st2 := [vi 0, .ref C]) 1 (fun _ _ => rfl) ?_
  refine pr_pE (k2 := 177) (z := 0) hE7 rfl rfl rfl rfl (show 96 ≤ C by omega) (TG_C hC) (by decide) rfl (show i32 (0) from (i32_n rfl)) (hf_int' _) (nD hC (by omega)) rfl rfl (fun e => absurd e.1 (show ¬ (C = 170) by omega)) (fun _ => trivial) fun s8 hE8 => ?_
  refine pr_n (pc2 := 73) (lv2 := [(0, .ref 170)]) (st2 := [.ref 170]) 1 (fun _ _ => rfl) ?_
  refine pr_get (v := .ref C) rfl rfl rfl (by decide) (rv_ref (show s8.1 170 19 = ((C : Nat) : Int) from hE8.2.2.1)) fun _ => ?_
  refine pr_n (pc2 := 77) (lv2 := [(0, .ref 170)]) (st2 := [vi 0, .ref C]) 1 (fun _ _ => rfl) ?_
  refine pr_pE (k2 := 177) (z := 0) hE8 rfl rfl rfl rfl (show 96 ≤ C by omega) (TG_C hC) (by decide) rfl (show i32 (0) from (i32_n rfl)) (hf_int' _) (nD hC (by omega)) rfl rfl (fun e => absurd e.1 (show ¬ (C = 170) by omega)) (fun _ => trivial) fun s9 hE9 => ?_
  refine pr_n (pc2 := 82) (lv2 := [(0, .ref 170)]) (st2 := [.ref 170, .ref 170]) 2 (fun _ _ => rfl) ?_
  refine pr_gE (k2 := 170) (v := vi (t 170 1)) hE9 rfl rfl rfl (by decide) rfl rfl rfl fun h10 => ?_
  have h10 : i32 (t 170 1) := h10
  refine pr_pE (k2 := 170) (z := t 170 1) hE9 rfl rfl rfl rfl (by decide) rfl (by decide) rfl (show i32 (t 170 1) from h10) (hf_int' _) rfl rfl rfl (fun e => absurd e.2 (by decide)) (fun _ => trivial) fun s11 hE11 => ?_
  refine pr_n (pc2 := 90) (lv2 := [(0, .ref 170)]) (st2 := [vi 0, .ref 170]) 2 (fun _ _ => rfl) ?_
  refine pr_pE (k2 := 170) (z := 0) hE11 rfl rfl rfl rfl (by decide) rfl (by decide) rfl (show i32 (0) from (i32_n rfl)) (hf_int' _) rfl rfl rfl (fun e => absurd e.2 (by decide)) (fun _ => trivial) fun s12 hE12 => ?_
  refine pr_n (pc2 := 95) (lv2 := [(0, .ref 170)]) (st2 := [vi 0, .ref 170]) 2 (fun _ _ => rfl) ?_
  refine pr_pE (k2 := 170) (z := 0) hE12 rfl rfl rfl rfl (by decide) rfl (by decide) rfl (show i32 (0) from (i32_n rfl)) (hf_int' _) rfl rfl rfl (fun e => absurd e.2 (by decide)) (fun _ => trivial) fun s13 hE13 => ?_
  refine pr_n (pc2 := 100) (lv2 := [(0, .ref 170)]) (st2 := [vi ((-1)), .ref 170]) 2 (fun _ _ => rfl) ?_
  refine pr_pN (k2 := 170) (z := (-1)) hE13 rfl rfl rfl rfl (by decide) rfl (by decide) rfl (show i32 ((-1)) from (i32_n rfl)) (hf_int' _) rfl rfl (okk_n rfl) rfl (fun e => absurd e.2 (by decide)) fun s14 hE14 => ?_
  refine pr_n (pc2 := 105) (lv2 := [(0, .ref 170)]) (st2 := [vi ((-1)), .ref 170]) 2 (fun _ _ => rfl) ?_
  refine pr_pE (k2 := 170) (z := (-1)) hE14 rfl rfl rfl rfl (by decide) rfl (by decide) rfl (show i32 ((-1)) from (i32_n rfl)) (hf_int' _) rfl rfl rfl (fun e => absurd e.2 (by decide)) (fun _ => trivial) fun s15 hE15 => ?_
  refine pr_n (pc2 := 110) (lv2 := [(0, .ref 170)]) (st2 := [vi 0, .ref 170]) 2 (fun _ _ => rfl) ?_
  refine pr_pE (k2 := 170) (z := 0) hE15 rfl rfl rfl rfl (by decide) rfl (by decide) rfl (show i32 (0) from (i32_n rfl)) (hf_int' _) rfl rfl rfl (fun e => absurd e.2 (by decide)) (fun _ => trivial) fun s16 hE16 => ?_
  refine pr_n (pc2 := 115) (lv2 := [(0, .ref 170)]) (st2 := [vi 0, .ref 170]) 2 (fun _ _ => rfl) ?_
  refine pr_pE (k2 := 170) (z := 0) hE16 rfl rfl rfl rfl (by decide) rfl (by decide) rfl (show i32 (0) from (i32_n rfl)) (hf_int' _) rfl rfl rfl (fun e => absurd e.2 (by decide)) (fun _ => trivial) fun s17 hE17 => ?_
  refine pr_n (pc2 := 120) (lv2 := [(0, .ref 170)]) (st2 := [vi 1, .ref 170]) 2 (fun _ _ => rfl) ?_
  refine pr_pE (k2 := 170) (z := 1) hE17 rfl rfl rfl rfl (by decide) rfl (by decide) rfl (show i32 (1) from (i32_n rfl)) (hf_int' _) rfl rfl rfl (fun e => absurd e.2 (by decide)) (fun _ => trivial) fun s18 hE18 => ?_
  refine pr_n (pc2 := 125) (lv2 := [(0, .ref 170)]) (st2 := [vi ((-1)), .ref 170]) 2 (fun _ _ => rfl) ?_
  refine pr_pE (k2 := 170) (z := (-1)) hE18 rfl rfl rfl rfl (by decide) rfl (by decide) rfl (show i32 ((-1)) from (i32_n rfl)) (hf_int' _) rfl rfl rfl (fun e => absurd e.2 (by decide)) (fun _ => trivial) fun s19 hE19 => ?_
  refine pr_n (pc2 := 130) (lv2 := [(0, .ref 170)]) (st2 := [vi 0, .ref 170]) 2 (fun _ _ => rfl) ?_
  refine pr_pE (k2 := 170) (z := 0) hE19 rfl rfl rfl rfl (by decide) rfl (by decide) rfl (show 0 ≤ 0 ∧ 0 ≤ 1 from (by decide)) (fit_i (.inr (.inl rfl)) (show 0 ≤ 0 ∧ 0 ≤ 1 from (by decide))) rfl rfl rfl (fun e => absurd e.2 (by decide)) (fun _ => trivial) fun s20 hE20 => ?_
  refine pr_n (pc2 := 135) (lv2 := [(0, .ref 170)]) (st2 := [vi 0, .ref 170]) 2 (fun _ _ => rfl) ?_
  refine pr_pE (k2 := 170) (z := 0) hE20 rfl rfl rfl rfl (by decide) rfl (by decide) rfl (show i32 (0) from (i32_n rfl)) (hf_int' _) rfl rfl rfl (fun e => absurd e.2 (by decide)) (fun _ => trivial) fun s21 hE21 => ?_
  refine pr_n (pc2 := 139) (lv2 := [(0, .ref 170)]) (st2 := [.ref 170]) 1 (fun _ _ => rfl) ?_
  refine pr_m1 (args := []) (rest := []) rfl rfl rfl rfl (Nat.le_of_ble_eq_true rfl) rfl (h_123 s21 (up2 (up2 (up2 (up2 (up2 (up2 (up2 (up2 (up2 (up2 (up2 (up2 (up2 (up2 (up2 (up2 (up2 (up2 (up2 t 177 1 0) 177 3 0) 177 4 0) 177 5 0) 177 6 0) 177 7 0) 177 8 0) 177 9 0) 177 10 0) 170 2 (t 170 1)) 170 1 0) 170 3 0) 170 21 ((-1))) 170 14 0) 170 15 0) 170 16 1) 170 35 ((-1))) 170 37 0) 170 36 0)  hE21 ) ?_
  rintro _ _ t22 s22 ⟨rfl, rfl⟩ hE22
  show pr K K d tb_M122 142 [(0, .ref 170)] [] s22 _
  exact ((ra122 h_123 h_127 h_128 h_131 h_132 h_135 h_138 h_139 h_140 K).1) s22 t22  hE22 
