/-! The methods are as their models. -/
set_option maxHeartbeats 20000000 in
set_option maxRecDepth 100000 in
theorem cm26 {K d C : Nat} : cT26 K (d + 1) C := by
  intro s t x1 hE hx1
  have hC : C = 99 ∨ C = 115 := hE.1
  refine pcr_of (M := tb_M26) rfl ?_
  show pr K K d tb_M26 0 [(0, .ref 97), (1, vi x1)] [] s _
  rw [cG_26]
  unfold cM26
  refine pr_n (pc2 := 1) (lv2 := [(0, .ref 97), (1, vi x1)]) (st2 := [vi x1]) 1 (fun _ _ => rfl) ?_
  by_cases h1 : x1 < 0
  · refine mq_t h1 ?_
    refine pr_if1t rfl rfl hx1 h1 ?_
    refine pr_n (pc2 := 26) (lv2 := [(0, .ref 97), (1, vi x1)]) (st2 := [vi ((-1))]) 1 (fun _ _ => rfl) ?_
    refine pr_end (fun _ _ => rfl) ?_
    exact .inl ⟨_, (-1), _, rfl, ⟨rfl, (i32_n rfl)⟩, rfl, hE⟩
  · refine mq_f h1 ?_
    refine pr_if1f rfl rfl hx1 h1 ?_
    refine pr_n (pc2 := 6) (lv2 := [(0, .ref 97), (1, vi x1)]) (st2 := [.ref 97, vi x1]) 2 (fun _ _ => rfl) ?_
    refine pr_gE (k2 := 97) (v := vi (t 97 1)) hE rfl rfl rfl (by decide) rfl rfl rfl fun h2 => ?_
    have h2 : i32 (t 97 1) := h2
    by_cases h3 : t 97 1 ≤ x1
    · refine mq_t h3 ?_
      refine pr_if2t rfl rfl hx1 h2 h3 ?_
      refine pr_n (pc2 := 26) (lv2 := [(0, .ref 97), (1, vi x1)]) (st2 := [vi ((-1))]) 1 (fun _ _ => rfl) ?_
      refine pr_end (fun _ _ => rfl) ?_
      exact .inl ⟨_, (-1), _, rfl, ⟨rfl, (i32_n rfl)⟩, rfl, hE⟩
    · refine mq_f h3 ?_
      refine pr_if2f rfl rfl hx1 h2 h3 ?_
      refine pr_n (pc2 := 13) (lv2 := [(0, .ref 97), (1, vi x1)]) (st2 := [.ref 97]) 1 (fun _ _ => rfl) ?_
      refine pr_get (v := .ref 98) rfl rfl rfl (by decide) (rv_ref (hE.2.1 97 0 98 rfl)) fun _ => ?_
      refine pr_n (pc2 := 17) (lv2 := [(0, .ref 97), (1, vi x1)]) (st2 := [vi x1, .ref 98]) 1 (fun _ _ => rfl) ?_
      refine pr_aE (k2 := 98) (a := x1) (v := vi (t 98 x1.toNat)) hE rfl rfl rfl hx1 (by decide) rfl rfl rfl fun h5 h6 h4 => ?_
      have h4 : -128 ≤ t 98 x1.toNat ∧ t 98 x1.toNat ≤ 127 := h4
      refine pr_n (pc2 := 21) (lv2 := [(0, .ref 97), (1, vi x1)]) (st2 := [vi 255, vi (t 98 x1.toNat)]) 1 (fun _ _ => rfl) ?_
      refine pr_i2 (a := t 98 x1.toNat) (b := 255) rfl rfl ?_
      show pr K K d tb_M26 22 [(0, .ref 97), (1, vi x1)] [vi (ian (t 98 x1.toNat) 255)] s _
      have h7 : i32 (ian (t 98 x1.toNat) 255) := i32_in _
      refine pr_n (pc2 := 26) (lv2 := [(0, .ref 97), (1, vi x1)]) (st2 := [vi (ian (t 98 x1.toNat) 255)]) 1 (fun _ _ => rfl) ?_
      refine pr_reti rfl rfl ?_
      exact .inl ⟨_, ian (t 98 x1.toNat) 255, _, rfl, ⟨rfl, h7⟩, rfl, hE⟩
set_option maxHeartbeats 20000000 in
set_option maxRecDepth 100000 in
theorem cm27 {K d C : Nat} : cT27 K (d + 1) C := by
  intro s t x0 hE hx0
  have hC : C = 99 ∨ C = 115 := hE.1
  refine pcr_of (M := tb_M27) rfl ?_
  show pr K K d tb_M27 0 [(0, vi x0)] [] s _
  rw [cG_27]
  unfold cM27
  refine pr_n (pc2 := 3) (lv2 := [(0, vi x0)]) (st2 := [vi 97, vi x0]) 2 (fun _ _ => rfl) ?_
  by_cases h1 : x0 < 97
  · refine mq_t h1 ?_
    refine pr_if2t rfl rfl hx0 (i32_n rfl) h1 ?_
    refine pr_n (pc2 := 17) (lv2 := [(0, vi x0)]) (st2 := [vi 0]) 1 (fun _ _ => rfl) ?_
    refine pr_end (fun _ _ => rfl) ?_
    exact .inl ⟨_, 0, _, rfl, ⟨rfl, (by decide)⟩, rfl, hE⟩
  · refine mq_f h1 ?_
    refine pr_if2f rfl rfl hx0 (i32_n rfl) h1 ?_
    refine pr_n (pc2 := 9) (lv2 := [(0, vi x0)]) (st2 := [vi 122, vi x0]) 2 (fun _ _ => rfl) ?_
    by_cases h2 : 122 < x0
    · refine mq_t h2 ?_
      refine pr_if2t rfl rfl hx0 (i32_n rfl) h2 ?_
      refine pr_n (pc2 := 17) (lv2 := [(0, vi x0)]) (st2 := [vi 0]) 1 (fun _ _ => rfl) ?_
      refine pr_end (fun _ _ => rfl) ?_
      exact .inl ⟨_, 0, _, rfl, ⟨rfl, (by decide)⟩, rfl, hE⟩
    · refine mq_f h2 ?_
      refine pr_if2f rfl rfl hx0 (i32_n rfl) h2 ?_
      refine pr_n (pc2 := 17) (lv2 := [(0, vi x0)]) (st2 := [vi 1]) 2 (fun _ _ => rfl) ?_
      refine pr_end (fun _ _ => rfl) ?_
      exact .inl ⟨_, 1, _, rfl, ⟨rfl, (by decide)⟩, rfl, hE⟩
set_option maxHeartbeats 20000000 in
set_option maxRecDepth 100000 in
theorem cm30 {K d C : Nat} : cT30 K (d + 1) C := by
  intro s t x0 hE hx0
  have hC : C = 99 ∨ C = 115 := hE.1
  refine pcr_of (M := tb_M30) rfl ?_
  show pr K K d tb_M30 0 [(0, vi x0)] [] s _
  rw [cG_30]
  unfold cM30
  refine pr_n (pc2 := 3) (lv2 := [(0, vi x0)]) (st2 := [vi 48, vi x0]) 2 (fun _ _ => rfl) ?_
  by_cases h1 : x0 < 48
  · refine mq_t h1 ?_
    refine pr_if2t rfl rfl hx0 (i32_n rfl) h1 ?_
    refine pr_n (pc2 := 17) (lv2 := [(0, vi x0)]) (st2 := [vi 0]) 1 (fun _ _ => rfl) ?_
    refine pr_end (fun _ _ => rfl) ?_
    exact .inl ⟨_, 0, _, rfl, ⟨rfl, (by decide)⟩, rfl, hE⟩
  · refine mq_f h1 ?_
    refine pr_if2f rfl rfl hx0 (i32_n rfl) h1 ?_
    refine pr_n (pc2 := 9) (lv2 := [(0, vi x0)]) (st2 := [vi 57, vi x0]) 2 (fun _ _ => rfl) ?_
    by_cases h2 : 57 < x0
    · refine mq_t h2 ?_
      refine pr_if2t rfl rfl hx0 (i32_n rfl) h2 ?_
      refine pr_n (pc2 := 17) (lv2 := [(0, vi x0)]) (st2 := [vi 0]) 1 (fun _ _ => rfl) ?_
      refine pr_end (fun _ _ => rfl) ?_
      exact .inl ⟨_, 0, _, rfl, ⟨rfl, (by decide)⟩, rfl, hE⟩
    · refine mq_f h2 ?_
      refine pr_if2f rfl rfl hx0 (i32_n rfl) h2 ?_
      refine pr_n (pc2 := 17) (lv2 := [(0, vi x0)]) (st2 := [vi 1]) 2 (fun _ _ => rfl) ?_
      refine pr_end (fun _ _ => rfl) ?_
      exact .inl ⟨_, 1, _, rfl, ⟨rfl, (by decide)⟩, rfl, hE⟩
set_option maxHeartbeats 20000000 in
set_option maxRecDepth 100000 in
theorem cm29 {K d C : Nat} (h_27 : cT27 K d C) (h_30 : cT30 K d C) : cT29 K (d + 1) C := by
  intro s t x0 hE hx0
  have hC : C = 99 ∨ C = 115 := hE.1
  refine pcr_of (M := tb_M29) rfl ?_
  show pr K K d tb_M29 0 [(0, vi x0)] [] s _
  rw [cG_29]
  unfold cM29
  refine pr_n (pc2 := 1) (lv2 := [(0, vi x0)]) (st2 := [vi x0]) 1 (fun _ _ => rfl) ?_
  refine pr_s0 (args := [vi x0]) (rest := []) rfl rfl rfl (Nat.le_of_ble_eq_true rfl) rfl (h_27 s t x0 hE hx0) s_ltz ?_
  rintro _ s1 ⟨rfl, hz1⟩ hE1
  show pr K K d tb_M29 4 [(0, vi x0)] [vi (ltz x0)] s1 _
  by_cases h2 : ltz x0 ≠ 0
  · refine mq_t h2 ?_
    refine pr_if1t rfl rfl (i32_z hz1) h2 ?_
    refine pr_n (pc2 := 19) (lv2 := [(0, vi x0)]) (st2 := [vi 1]) 2 (fun _ _ => rfl) ?_
    refine pr_end (fun _ _ => rfl) ?_
    exact .inl ⟨_, 1, _, rfl, ⟨rfl, (by decide)⟩, rfl, hE1⟩
  · refine mq_f h2 ?_
    refine pr_if1f rfl rfl (i32_z hz1) h2 ?_
    refine pr_n (pc2 := 8) (lv2 := [(0, vi x0)]) (st2 := [vi x0]) 1 (fun _ _ => rfl) ?_
    refine pr_s0 (args := [vi x0]) (rest := []) rfl rfl rfl (Nat.le_of_ble_eq_true rfl) rfl (h_30 s1 t x0 hE1 hx0) s_dgz ?_
    rintro _ s3 ⟨rfl, hz3⟩ hE3
    show pr K K d tb_M29 11 [(0, vi x0)] [vi (dgz x0)] s3 _
    by_cases h4 : dgz x0 = 0
    · refine mq_t h4 ?_
      refine pr_if1t rfl rfl (i32_z hz3) h4 ?_
      refine pr_n (pc2 := 19) (lv2 := [(0, vi x0)]) (st2 := [vi 0]) 1 (fun _ _ => rfl) ?_
      refine pr_end (fun _ _ => rfl) ?_
      exact .inl ⟨_, 0, _, rfl, ⟨rfl, (by decide)⟩, rfl, hE3⟩
    · refine mq_f h4 ?_
      refine pr_if1f rfl rfl (i32_z hz3) h4 ?_
      refine pr_n (pc2 := 19) (lv2 := [(0, vi x0)]) (st2 := [vi 1]) 2 (fun _ _ => rfl) ?_
      refine pr_end (fun _ _ => rfl) ?_
      exact .inl ⟨_, 1, _, rfl, ⟨rfl, (by decide)⟩, rfl, hE3⟩
set_option maxHeartbeats 20000000 in
set_option maxRecDepth 100000 in
theorem cm34 {K d C : Nat} : cT34 K (d + 1) C := by
  intro s t  hE 
  have hC : C = 99 ∨ C = 115 := hE.1
  refine pcr_of (M := tb_M34) rfl ?_
  show pr K K d tb_M34 0 [(0, .ref 137)] [] s _
  rw [cG_34]
  unfold cM34
  refine pr_n (pc2 := 1) (lv2 := [(0, .ref 137)]) (st2 := [.ref 137]) 1 (fun _ _ => rfl) ?_
  refine pr_gE (k2 := 137) (v := vi (t 137 5)) hE rfl rfl rfl (by decide) rfl rfl rfl fun h1 => ?_
  have h1 : i32 (t 137 5) := h1
  by_cases h2 : t 137 5 < 0
  · refine mq_t h2 ?_
    refine pr_if1t rfl rfl h1 h2 ?_
    refine pr_n (pc2 := 30) (lv2 := [(0, .ref 137)]) (st2 := [vi 3]) 1 (fun _ _ => rfl) ?_
    refine pr_end (fun _ _ => rfl) ?_
    exact .inl ⟨_, 3, _, rfl, ⟨rfl, (i32_n rfl)⟩, rfl, hE⟩
  · refine mq_f h2 ?_
    refine pr_if1f rfl rfl h1 h2 ?_
    refine pr_n (pc2 := 8) (lv2 := [(0, .ref 137)]) (st2 := [.ref 137]) 1 (fun _ _ => rfl) ?_
    refine pr_gE (k2 := 137) (v := vi (t 137 5)) hE rfl rfl rfl (by decide) rfl rfl rfl fun h3 => ?_
    have h3 : i32 (t 137 5) := h3
    refine pr_n (pc2 := 14) (lv2 := [(0, .ref 137)]) (st2 := [vi 2000, vi (t 137 5)]) 1 (fun _ _ => rfl) ?_
    by_cases h4 : 2000 < t 137 5
    · refine mq_t h4 ?_
      refine pr_if2t rfl rfl h3 (i32_n rfl) h4 ?_
      refine pr_n (pc2 := 30) (lv2 := [(0, .ref 137)]) (st2 := [vi 3]) 1 (fun _ _ => rfl) ?_
      refine pr_end (fun _ _ => rfl) ?_
      exact .inl ⟨_, 3, _, rfl, ⟨rfl, (i32_n rfl)⟩, rfl, hE⟩
    · refine mq_f h4 ?_
      refine pr_if2f rfl rfl h3 (i32_n rfl) h4 ?_
      refine pr_n (pc2 := 18) (lv2 := [(0, .ref 137)]) (st2 := [.ref 137]) 1 (fun _ _ => rfl) ?_
      refine pr_get (v := .ref 139) rfl rfl rfl (by decide) (rv_ref (hE.2.1 137 2 139 rfl)) fun _ => ?_
      refine pr_n (pc2 := 22) (lv2 := [(0, .ref 137)]) (st2 := [.ref 137, .ref 139]) 1 (fun _ _ => rfl) ?_
      refine pr_gE (k2 := 137) (v := vi (t 137 5)) hE rfl rfl rfl (by decide) rfl rfl rfl fun h5 => ?_
      have h5 : i32 (t 137 5) := h5
      refine pr_aE (k2 := 139) (a := t 137 5) (v := vi (t 139 ((t 137 5).toNat))) hE rfl rfl rfl h5 (by decide) rfl rfl rfl fun h7 h8 h6 => ?_
      have h6 : i32 (t 139 ((t 137 5).toNat)) := h6
      refine pr_n (pc2 := 30) (lv2 := [(0, .ref 137)]) (st2 := [vi (t 139 ((t 137 5).toNat))]) 1 (fun _ _ => rfl) ?_
      refine pr_reti rfl rfl ?_
      exact .inl ⟨_, t 139 ((t 137 5).toNat), _, rfl, ⟨rfl, h6⟩, rfl, hE⟩
set_option maxHeartbeats 20000000 in
set_option maxRecDepth 100000 in
theorem cm40 {K d C : Nat} : cT40 K (d + 1) C := by
  intro s t  hE 
  have hC : C = 99 ∨ C = 115 := hE.1
  refine pcr_of (M := tb_M40) rfl ?_
  show pr K K d tb_M40 0 [(0, .ref 137)] [] s _
  rw [cG_40]
  unfold cM40
  refine pr_n (pc2 := 1) (lv2 := [(0, .ref 137)]) (st2 := [.ref 137]) 1 (fun _ _ => rfl) ?_
  refine pr_gE (k2 := 137) (v := vi (t 137 5)) hE rfl rfl rfl (by decide) rfl rfl rfl fun h1 => ?_
  have h1 : i32 (t 137 5) := h1
  by_cases h2 : t 137 5 < 0
  · refine mq_t h2 ?_
    refine pr_if1t rfl rfl h1 h2 ?_
    refine pr_n (pc2 := 30) (lv2 := [(0, .ref 137)]) (st2 := [vi 0]) 1 (fun _ _ => rfl) ?_
    refine pr_end (fun _ _ => rfl) ?_
    exact .inl ⟨_, 0, _, rfl, ⟨rfl, (by decide)⟩, rfl, hE⟩
  · refine mq_f h2 ?_
    refine pr_if1f rfl rfl h1 h2 ?_
    refine pr_n (pc2 := 8) (lv2 := [(0, .ref 137)]) (st2 := [.ref 137]) 1 (fun _ _ => rfl) ?_
    refine pr_gE (k2 := 137) (v := vi (t 137 5)) hE rfl rfl rfl (by decide) rfl rfl rfl fun h3 => ?_
    have h3 : i32 (t 137 5) := h3
    refine pr_n (pc2 := 14) (lv2 := [(0, .ref 137)]) (st2 := [vi 2000, vi (t 137 5)]) 1 (fun _ _ => rfl) ?_
    by_cases h4 : 2000 < t 137 5
    · refine mq_t h4 ?_
      refine pr_if2t rfl rfl h3 (i32_n rfl) h4 ?_
      refine pr_n (pc2 := 30) (lv2 := [(0, .ref 137)]) (st2 := [vi 0]) 1 (fun _ _ => rfl) ?_
      refine pr_end (fun _ _ => rfl) ?_
      exact .inl ⟨_, 0, _, rfl, ⟨rfl, (by decide)⟩, rfl, hE⟩
    · refine mq_f h4 ?_
      refine pr_if2f rfl rfl h3 (i32_n rfl) h4 ?_
      refine pr_n (pc2 := 18) (lv2 := [(0, .ref 137)]) (st2 := [.ref 137]) 1 (fun _ _ => rfl) ?_
      refine pr_get (v := .ref 140) rfl rfl rfl (by decide) (rv_ref (hE.2.1 137 3 140 rfl)) fun _ => ?_
      refine pr_n (pc2 := 22) (lv2 := [(0, .ref 137)]) (st2 := [.ref 137, .ref 140]) 1 (fun _ _ => rfl) ?_
      refine pr_gE (k2 := 137) (v := vi (t 137 5)) hE rfl rfl rfl (by decide) rfl rfl rfl fun h5 => ?_
      have h5 : i32 (t 137 5) := h5
      refine pr_aE (k2 := 140) (a := t 137 5) (v := vi (t 140 ((t 137 5).toNat))) hE rfl rfl rfl h5 (by decide) rfl rfl rfl fun h7 h8 h6 => ?_
      have h6 : i32 (t 140 ((t 137 5).toNat)) := h6
      refine pr_n (pc2 := 30) (lv2 := [(0, .ref 137)]) (st2 := [vi (t 140 ((t 137 5).toNat))]) 1 (fun _ _ => rfl) ?_
      refine pr_reti rfl rfl ?_
      exact .inl ⟨_, t 140 ((t 137 5).toNat), _, rfl, ⟨rfl, ⟨hE.2.2.2.2 _, (h6).2⟩⟩, rfl, hE⟩
set_option maxHeartbeats 20000000 in
set_option maxRecDepth 100000 in
theorem cm38 {K d C : Nat} : cT38 K (d + 1) C := by
  intro s t  hE 
  have hC : C = 99 ∨ C = 115 := hE.1
  refine pcr_of (M := tb_M38) rfl ?_
  show pr K K d tb_M38 0 [(0, .ref 137)] [] s _
  rw [cG_38]
  unfold cM38
  refine pr_n (pc2 := 1) (lv2 := [(0, .ref 137)]) (st2 := [.ref 137]) 1 (fun _ _ => rfl) ?_
  refine pr_gE (k2 := 137) (v := vi (t 137 5)) hE rfl rfl rfl (by decide) rfl rfl rfl fun h1 => ?_
  have h1 : i32 (t 137 5) := h1
  by_cases h2 : t 137 5 < 0
  · refine mq_t h2 ?_
    refine pr_if1t rfl rfl h1 h2 ?_
    refine pr_n (pc2 := 30) (lv2 := [(0, .ref 137)]) (st2 := [vl 0]) 1 (fun _ _ => rfl) ?_
    refine pr_end (fun _ _ => rfl) ?_
    exact .inl ⟨_, 0, _, rfl, ⟨rfl, (i64_n rfl)⟩, rfl, hE⟩
  · refine mq_f h2 ?_
    refine pr_if1f rfl rfl h1 h2 ?_
    refine pr_n (pc2 := 8) (lv2 := [(0, .ref 137)]) (st2 := [.ref 137]) 1 (fun _ _ => rfl) ?_
    refine pr_gE (k2 := 137) (v := vi (t 137 5)) hE rfl rfl rfl (by decide) rfl rfl rfl fun h3 => ?_
    have h3 : i32 (t 137 5) := h3
    refine pr_n (pc2 := 14) (lv2 := [(0, .ref 137)]) (st2 := [vi 2000, vi (t 137 5)]) 1 (fun _ _ => rfl) ?_
    by_cases h4 : 2000 < t 137 5
    · refine mq_t h4 ?_
      refine pr_if2t rfl rfl h3 (i32_n rfl) h4 ?_
      refine pr_n (pc2 := 30) (lv2 := [(0, .ref 137)]) (st2 := [vl 0]) 1 (fun _ _ => rfl) ?_
      refine pr_end (fun _ _ => rfl) ?_
      exact .inl ⟨_, 0, _, rfl, ⟨rfl, (i64_n rfl)⟩, rfl, hE⟩
    · refine mq_f h4 ?_
      refine pr_if2f rfl rfl h3 (i32_n rfl) h4 ?_
      refine pr_n (pc2 := 18) (lv2 := [(0, .ref 137)]) (st2 := [.ref 137]) 1 (fun _ _ => rfl) ?_
      refine pr_get (v := .ref 141) rfl rfl rfl (by decide) (rv_ref (hE.2.1 137 4 141 rfl)) fun _ => ?_
      refine pr_n (pc2 := 22) (lv2 := [(0, .ref 137)]) (st2 := [.ref 137, .ref 141]) 1 (fun _ _ => rfl) ?_
      refine pr_gE (k2 := 137) (v := vi (t 137 5)) hE rfl rfl rfl (by decide) rfl rfl rfl fun h5 => ?_
      have h5 : i32 (t 137 5) := h5
      refine pr_aE (k2 := 141) (a := t 137 5) (v := vl (t 141 ((t 137 5).toNat))) hE rfl rfl rfl h5 (by decide) rfl rfl rfl fun h7 h8 h6 => ?_
      have h6 : i64 (t 141 ((t 137 5).toNat)) := h6
      refine pr_n (pc2 := 30) (lv2 := [(0, .ref 137)]) (st2 := [vl (t 141 ((t 137 5).toNat))]) 1 (fun _ _ => rfl) ?_
      refine pr_end (fun _ _ => rfl) ?_
      exact .inl ⟨_, t 141 ((t 137 5).toNat), _, rfl, ⟨rfl, h6⟩, rfl, hE⟩
set_option maxHeartbeats 20000000 in
set_option maxRecDepth 100000 in
theorem cm35 {K d C : Nat} : cT35 K (d + 1) C := by
  intro s t  hE 
  have hC : C = 99 ∨ C = 115 := hE.1
  refine pcr_of (M := tb_M35) rfl ?_
  show pr K K d tb_M35 0 [(0, .ref 137)] [] s _
  rw [cG_35]
  unfold cM35
  refine pr_n (pc2 := 1) (lv2 := [(0, .ref 137)]) (st2 := [.ref 137]) 1 (fun _ _ => rfl) ?_
  refine pr_gE (k2 := 137) (v := vi (t 137 5)) hE rfl rfl rfl (by decide) rfl rfl rfl fun h1 => ?_
  have h1 : i32 (t 137 5) := h1
  by_cases h2 : t 137 5 < 0
  · refine mq_t h2 ?_
    refine pr_if1t rfl rfl h1 h2 ?_
    refine pr_end (fun _ _ => rfl) ?_
    exact .inl ⟨_, 0, _, rfl, ⟨rfl, rfl⟩, rfl, hE⟩
  · refine mq_f h2 ?_
    refine pr_if1f rfl rfl h1 h2 ?_
    refine pr_n (pc2 := 8) (lv2 := [(0, .ref 137)]) (st2 := [.ref 137]) 1 (fun _ _ => rfl) ?_
    refine pr_gE (k2 := 137) (v := vi (t 137 5)) hE rfl rfl rfl (by decide) rfl rfl rfl fun h3 => ?_
    have h3 : i32 (t 137 5) := h3
    refine pr_n (pc2 := 14) (lv2 := [(0, .ref 137)]) (st2 := [vi 2000, vi (t 137 5)]) 1 (fun _ _ => rfl) ?_
    by_cases h4 : 2000 ≤ t 137 5
    · refine mq_t h4 ?_
      refine pr_if2t rfl rfl h3 (i32_n rfl) h4 ?_
      refine pr_end (fun _ _ => rfl) ?_
      exact .inl ⟨_, 0, _, rfl, ⟨rfl, rfl⟩, rfl, hE⟩
    · refine mq_f h4 ?_
      refine pr_if2f rfl rfl h3 (i32_n rfl) h4 ?_
      refine pr_n (pc2 := 18) (lv2 := [(0, .ref 137)]) (st2 := [.ref 137]) 1 (fun _ _ => rfl) ?_
      refine pr_get (v := .ref 139) rfl rfl rfl (by decide) (rv_ref (hE.2.1 137 2 139 rfl)) fun _ => ?_
      refine pr_n (pc2 := 22) (lv2 := [(0, .ref 137)]) (st2 := [.ref 137, .ref 139]) 1 (fun _ _ => rfl) ?_
      refine pr_gE (k2 := 137) (v := vi (t 137 5)) hE rfl rfl rfl (by decide) rfl rfl rfl fun h5 => ?_
      have h5 : i32 (t 137 5) := h5
      refine pr_aE (k2 := 139) (a := t 137 5) (v := vi (t 139 ((t 137 5).toNat))) hE rfl rfl rfl h5 (by decide) rfl rfl rfl fun h7 h8 h6 => ?_
      have h6 : i32 (t 139 ((t 137 5).toNat)) := h6
      refine pr_n (pc2 := 27) (lv2 := [(0, .ref 137)]) (st2 := [vi 3, vi (t 139 ((t 137 5).toNat))]) 1 (fun _ _ => rfl) ?_
      by_cases h9 : t 139 ((t 137 5).toNat) = 3
      · refine mq_t h9 ?_
        refine pr_if2t rfl rfl h6 (i32_n rfl) h9 ?_
        refine pr_end (fun _ _ => rfl) ?_
        exact .inl ⟨_, 0, _, rfl, ⟨rfl, rfl⟩, rfl, hE⟩
      · refine mq_f h9 ?_
        refine pr_if2f rfl rfl h6 (i32_n rfl) h9 ?_
        refine pr_n (pc2 := 31) (lv2 := [(0, .ref 137)]) (st2 := [.ref 137]) 1 (fun _ _ => rfl) ?_
        refine pr_get (v := .ref 139) rfl rfl rfl (by decide) (rv_ref (hE.2.1 137 2 139 rfl)) fun _ => ?_
        refine pr_n (pc2 := 35) (lv2 := [(0, .ref 137)]) (st2 := [.ref 137, .ref 139]) 1 (fun _ _ => rfl) ?_
        refine pr_gE (k2 := 137) (v := vi (t 137 5)) hE rfl rfl rfl (by decide) rfl rfl rfl fun h10 => ?_
        have h10 : i32 (t 137 5) := h10
        refine pr_aE (k2 := 139) (a := t 137 5) (v := vi (t 139 ((t 137 5).toNat))) hE rfl rfl rfl h10 (by decide) rfl rfl rfl fun h12 h13 h11 => ?_
        have h11 : i32 (t 139 ((t 137 5).toNat)) := h11
        refine pr_n (pc2 := 40) (lv2 := [(0, .ref 137)]) (st2 := [vi 4, vi (t 139 ((t 137 5).toNat))]) 1 (fun _ _ => rfl) ?_
        by_cases h14 : t 139 ((t 137 5).toNat) = 4
        · refine mq_t h14 ?_
          refine pr_if2t rfl rfl h11 (i32_n rfl) h14 ?_
          refine pr_end (fun _ _ => rfl) ?_
          exact .inl ⟨_, 0, _, rfl, ⟨rfl, rfl⟩, rfl, hE⟩
        · refine mq_f h14 ?_
          refine pr_if2f rfl rfl h11 (i32_n rfl) h14 ?_
          refine pr_n (pc2 := 45) (lv2 := [(0, .ref 137)]) (st2 := [.ref 137, .ref 137]) 2 (fun _ _ => rfl) ?_
          refine pr_gE (k2 := 137) (v := vi (t 137 5)) hE rfl rfl rfl (by decide) rfl rfl rfl fun h15 => ?_
          have h15 : i32 (t 137 5) := h15
          refine pr_n (pc2 := 49) (lv2 := [(0, .ref 137)]) (st2 := [vi 1, vi (t 137 5), .ref 137]) 1 (fun _ _ => rfl) ?_
          refine pr_add (a := t 137 5) (b := 1) rfl ?_
          have h16 : i32 (t 137 5 + 1) := by unfold i32 at *; omega
          show pr K K d tb_M35 50 [(0, .ref 137)] [vi (t 137 5 + 1), .ref 137] s _
          refine pr_pE (k2 := 137) (z := t 137 5 + 1) hE rfl rfl rfl rfl (by decide) rfl (by decide) rfl (show i32 (t 137 5 + 1) from h16) (hf_int' _) rfl rfl rfl (fun e => absurd e.1 (by decide)) (iv_c (by decide)) fun s17 hE17 => ?_
          refine pr_end (fun _ _ => rfl) ?_
          exact .inl ⟨_, 0, _, rfl, ⟨rfl, rfl⟩, rfl, hE17⟩
set_option maxHeartbeats 20000000 in
set_option maxRecDepth 100000 in
theorem cm33 {K d C : Nat} : cT33 K (d + 1) C := by
  intro s t x0 hE hx0
  have hC : C = 99 ∨ C = 115 := hE.1
  refine pcr_of (M := tb_M33) rfl ?_
  show pr K K d tb_M33 0 [(0, vi x0)] [] s _
  rw [cG_33]
  unfold cM33
  refine pr_n (pc2 := 1) (lv2 := [(0, vi x0)]) (st2 := [vi x0]) 1 (fun _ _ => rfl) ?_
  by_cases h1 : x0 = 33
  · refine mq_t h1 ?_
    refine pr_tsw rfl hx0 (by rw [h1]; rfl) rfl ?_
    refine pr_n (pc2 := 393) (lv2 := [(0, vi x0)]) (st2 := [vi 1]) 1 (fun _ _ => rfl) ?_
    refine pr_end (fun _ _ => rfl) ?_
    exact .inl ⟨_, 1, _, rfl, ⟨rfl, (by decide)⟩, rfl, hE⟩
  · refine mq_f h1 ?_
    by_cases h2 : x0 = 34
    · refine mq_t h2 ?_
      refine pr_tsw rfl hx0 (by rw [h2]; rfl) rfl ?_
      refine pr_n (pc2 := 395) (lv2 := [(0, vi x0)]) (st2 := [vi 0]) 1 (fun _ _ => rfl) ?_
      refine pr_end (fun _ _ => rfl) ?_
      exact .inl ⟨_, 0, _, rfl, ⟨rfl, (by decide)⟩, rfl, hE⟩
    · refine mq_f h2 ?_
      by_cases h3 : x0 = 35
      · refine mq_t h3 ?_
        refine pr_tsw rfl hx0 (by rw [h3]; rfl) rfl ?_
        refine pr_n (pc2 := 395) (lv2 := [(0, vi x0)]) (st2 := [vi 0]) 1 (fun _ _ => rfl) ?_
        refine pr_end (fun _ _ => rfl) ?_
        exact .inl ⟨_, 0, _, rfl, ⟨rfl, (by decide)⟩, rfl, hE⟩
      · refine mq_f h3 ?_
        by_cases h4 : x0 = 36
        · refine mq_t h4 ?_
          refine pr_tsw rfl hx0 (by rw [h4]; rfl) rfl ?_
          refine pr_n (pc2 := 395) (lv2 := [(0, vi x0)]) (st2 := [vi 0]) 1 (fun _ _ => rfl) ?_
          refine pr_end (fun _ _ => rfl) ?_
          exact .inl ⟨_, 0, _, rfl, ⟨rfl, (by decide)⟩, rfl, hE⟩
        · refine mq_f h4 ?_
          by_cases h5 : x0 = 37
          · refine mq_t h5 ?_
            refine pr_tsw rfl hx0 (by rw [h5]; rfl) rfl ?_
            refine pr_n (pc2 := 393) (lv2 := [(0, vi x0)]) (st2 := [vi 1]) 1 (fun _ _ => rfl) ?_
            refine pr_end (fun _ _ => rfl) ?_
            exact .inl ⟨_, 1, _, rfl, ⟨rfl, (by decide)⟩, rfl, hE⟩
          · refine mq_f h5 ?_
            by_cases h6 : x0 = 38
            · refine mq_t h6 ?_
              refine pr_tsw rfl hx0 (by rw [h6]; rfl) rfl ?_
              refine pr_n (pc2 := 393) (lv2 := [(0, vi x0)]) (st2 := [vi 1]) 1 (fun _ _ => rfl) ?_
              refine pr_end (fun _ _ => rfl) ?_
              exact .inl ⟨_, 1, _, rfl, ⟨rfl, (by decide)⟩, rfl, hE⟩
            · refine mq_f h6 ?_
              by_cases h7 : x0 = 39
              · refine mq_t h7 ?_
                refine pr_tsw rfl hx0 (by rw [h7]; rfl) rfl ?_
                refine pr_n (pc2 := 395) (lv2 := [(0, vi x0)]) (st2 := [vi 0]) 1 (fun _ _ => rfl) ?_
                refine pr_end (fun _ _ => rfl) ?_
                exact .inl ⟨_, 0, _, rfl, ⟨rfl, (by decide)⟩, rfl, hE⟩
              · refine mq_f h7 ?_
                by_cases h8 : x0 = 40
                · refine mq_t h8 ?_
                  refine pr_tsw rfl hx0 (by rw [h8]; rfl) rfl ?_
                  refine pr_n (pc2 := 393) (lv2 := [(0, vi x0)]) (st2 := [vi 1]) 1 (fun _ _ => rfl) ?_
                  refine pr_end (fun _ _ => rfl) ?_
                  exact .inl ⟨_, 1, _, rfl, ⟨rfl, (by decide)⟩, rfl, hE⟩
                · refine mq_f h8 ?_
                  by_cases h9 : x0 = 41
                  · refine mq_t h9 ?_
                    refine pr_tsw rfl hx0 (by rw [h9]; rfl) rfl ?_
                    refine pr_n (pc2 := 393) (lv2 := [(0, vi x0)]) (st2 := [vi 1]) 1 (fun _ _ => rfl) ?_
                    refine pr_end (fun _ _ => rfl) ?_
                    exact .inl ⟨_, 1, _, rfl, ⟨rfl, (by decide)⟩, rfl, hE⟩
                  · refine mq_f h9 ?_
                    by_cases h10 : x0 = 42
                    · refine mq_t h10 ?_
                      refine pr_tsw rfl hx0 (by rw [h10]; rfl) rfl ?_
                      refine pr_n (pc2 := 393) (lv2 := [(0, vi x0)]) (st2 := [vi 1]) 1 (fun _ _ => rfl) ?_
                      refine pr_end (fun _ _ => rfl) ?_
                      exact .inl ⟨_, 1, _, rfl, ⟨rfl, (by decide)⟩, rfl, hE⟩
                    · refine mq_f h10 ?_
                      by_cases h11 : x0 = 43
                      · refine mq_t h11 ?_
                        refine pr_tsw rfl hx0 (by rw [h11]; rfl) rfl ?_
                        refine pr_n (pc2 := 393) (lv2 := [(0, vi x0)]) (st2 := [vi 1]) 1 (fun _ _ => rfl) ?_
                        refine pr_end (fun _ _ => rfl) ?_
                        exact .inl ⟨_, 1, _, rfl, ⟨rfl, (by decide)⟩, rfl, hE⟩
                      · refine mq_f h11 ?_
                        by_cases h12 : x0 = 44
                        · refine mq_t h12 ?_
                          refine pr_tsw rfl hx0 (by rw [h12]; rfl) rfl ?_
                          refine pr_n (pc2 := 393) (lv2 := [(0, vi x0)]) (st2 := [vi 1]) 1 (fun _ _ => rfl) ?_
                          refine pr_end (fun _ _ => rfl) ?_
                          exact .inl ⟨_, 1, _, rfl, ⟨rfl, (by decide)⟩, rfl, hE⟩
                        · refine mq_f h12 ?_
                          by_cases h13 : x0 = 45
                          · refine mq_t h13 ?_
                            refine pr_tsw rfl hx0 (by rw [h13]; rfl) rfl ?_
                            refine pr_n (pc2 := 393) (lv2 := [(0, vi x0)]) (st2 := [vi 1]) 1 (fun _ _ => rfl) ?_
                            refine pr_end (fun _ _ => rfl) ?_
                            exact .inl ⟨_, 1, _, rfl, ⟨rfl, (by decide)⟩, rfl, hE⟩
                          · refine mq_f h13 ?_
                            by_cases h14 : x0 = 46
                            · refine mq_t h14 ?_
                              refine pr_tsw rfl hx0 (by rw [h14]; rfl) rfl ?_
                              refine pr_n (pc2 := 395) (lv2 := [(0, vi x0)]) (st2 := [vi 0]) 1 (fun _ _ => rfl) ?_
                              refine pr_end (fun _ _ => rfl) ?_
                              exact .inl ⟨_, 0, _, rfl, ⟨rfl, (by decide)⟩, rfl, hE⟩
                            · refine mq_f h14 ?_
                              by_cases h15 : x0 = 47
                              · refine mq_t h15 ?_
                                refine pr_tsw rfl hx0 (by rw [h15]; rfl) rfl ?_
                                refine pr_n (pc2 := 393) (lv2 := [(0, vi x0)]) (st2 := [vi 1]) 1 (fun _ _ => rfl) ?_
                                refine pr_end (fun _ _ => rfl) ?_
                                exact .inl ⟨_, 1, _, rfl, ⟨rfl, (by decide)⟩, rfl, hE⟩
                              · refine mq_f h15 ?_
                                by_cases h16 : x0 = 48
                                · refine mq_t h16 ?_
                                  refine pr_tsw rfl hx0 (by rw [h16]; rfl) rfl ?_
                                  refine pr_n (pc2 := 395) (lv2 := [(0, vi x0)]) (st2 := [vi 0]) 1 (fun _ _ => rfl) ?_
                                  refine pr_end (fun _ _ => rfl) ?_
                                  exact .inl ⟨_, 0, _, rfl, ⟨rfl, (by decide)⟩, rfl, hE⟩
                                · refine mq_f h16 ?_
                                  by_cases h17 : x0 = 49
                                  · refine mq_t h17 ?_
                                    refine pr_tsw rfl hx0 (by rw [h17]; rfl) rfl ?_
                                    refine pr_n (pc2 := 395) (lv2 := [(0, vi x0)]) (st2 := [vi 0]) 1 (fun _ _ => rfl) ?_
                                    refine pr_end (fun _ _ => rfl) ?_
                                    exact .inl ⟨_, 0, _, rfl, ⟨rfl, (by decide)⟩, rfl, hE⟩
                                  · refine mq_f h17 ?_
                                    by_cases h18 : x0 = 50
                                    · refine mq_t h18 ?_
                                      refine pr_tsw rfl hx0 (by rw [h18]; rfl) rfl ?_
                                      refine pr_n (pc2 := 395) (lv2 := [(0, vi x0)]) (st2 := [vi 0]) 1 (fun _ _ => rfl) ?_
                                      refine pr_end (fun _ _ => rfl) ?_
                                      exact .inl ⟨_, 0, _, rfl, ⟨rfl, (by decide)⟩, rfl, hE⟩
                                    · refine mq_f h18 ?_
                                      by_cases h19 : x0 = 51
                                      · refine mq_t h19 ?_
                                        refine pr_tsw rfl hx0 (by rw [h19]; rfl) rfl ?_
                                        refine pr_n (pc2 := 395) (lv2 := [(0, vi x0)]) (st2 := [vi 0]) 1 (fun _ _ => rfl) ?_
                                        refine pr_end (fun _ _ => rfl) ?_
                                        exact .inl ⟨_, 0, _, rfl, ⟨rfl, (by decide)⟩, rfl, hE⟩
                                      · refine mq_f h19 ?_
                                        by_cases h20 : x0 = 52
                                        · refine mq_t h20 ?_
                                          refine pr_tsw rfl hx0 (by rw [h20]; rfl) rfl ?_
                                          refine pr_n (pc2 := 395) (lv2 := [(0, vi x0)]) (st2 := [vi 0]) 1 (fun _ _ => rfl) ?_
                                          refine pr_end (fun _ _ => rfl) ?_
                                          exact .inl ⟨_, 0, _, rfl, ⟨rfl, (by decide)⟩, rfl, hE⟩
                                        · refine mq_f h20 ?_
                                          by_cases h21 : x0 = 53
                                          · refine mq_t h21 ?_
                                            refine pr_tsw rfl hx0 (by rw [h21]; rfl) rfl ?_
                                            refine pr_n (pc2 := 395) (lv2 := [(0, vi x0)]) (st2 := [vi 0]) 1 (fun _ _ => rfl) ?_
                                            refine pr_end (fun _ _ => rfl) ?_
                                            exact .inl ⟨_, 0, _, rfl, ⟨rfl, (by decide)⟩, rfl, hE⟩
                                          · refine mq_f h21 ?_
                                            by_cases h22 : x0 = 54
                                            · refine mq_t h22 ?_
                                              refine pr_tsw rfl hx0 (by rw [h22]; rfl) rfl ?_
                                              refine pr_n (pc2 := 395) (lv2 := [(0, vi x0)]) (st2 := [vi 0]) 1 (fun _ _ => rfl) ?_
                                              refine pr_end (fun _ _ => rfl) ?_
                                              exact .inl ⟨_, 0, _, rfl, ⟨rfl, (by decide)⟩, rfl, hE⟩
                                            · refine mq_f h22 ?_
                                              by_cases h23 : x0 = 55
                                              · refine mq_t h23 ?_
                                                refine pr_tsw rfl hx0 (by rw [h23]; rfl) rfl ?_
                                                refine pr_n (pc2 := 395) (lv2 := [(0, vi x0)]) (st2 := [vi 0]) 1 (fun _ _ => rfl) ?_
                                                refine pr_end (fun _ _ => rfl) ?_
                                                exact .inl ⟨_, 0, _, rfl, ⟨rfl, (by decide)⟩, rfl, hE⟩
                                              · refine mq_f h23 ?_
                                                by_cases h24 : x0 = 56
                                                · refine mq_t h24 ?_
                                                  refine pr_tsw rfl hx0 (by rw [h24]; rfl) rfl ?_
                                                  refine pr_n (pc2 := 395) (lv2 := [(0, vi x0)]) (st2 := [vi 0]) 1 (fun _ _ => rfl) ?_
                                                  refine pr_end (fun _ _ => rfl) ?_
                                                  exact .inl ⟨_, 0, _, rfl, ⟨rfl, (by decide)⟩, rfl, hE⟩
                                                · refine mq_f h24 ?_
                                                  by_cases h25 : x0 = 57
                                                  · refine mq_t h25 ?_
                                                    refine pr_tsw rfl hx0 (by rw [h25]; rfl) rfl ?_
                                                    refine pr_n (pc2 := 395) (lv2 := [(0, vi x0)]) (st2 := [vi 0]) 1 (fun _ _ => rfl) ?_
                                                    refine pr_end (fun _ _ => rfl) ?_
                                                    exact .inl ⟨_, 0, _, rfl, ⟨rfl, (by decide)⟩, rfl, hE⟩
                                                  · refine mq_f h25 ?_
                                                    by_cases h26 : x0 = 58
                                                    · refine mq_t h26 ?_
                                                      refine pr_tsw rfl hx0 (by rw [h26]; rfl) rfl ?_
                                                      refine pr_n (pc2 := 393) (lv2 := [(0, vi x0)]) (st2 := [vi 1]) 1 (fun _ _ => rfl) ?_
                                                      refine pr_end (fun _ _ => rfl) ?_
                                                      exact .inl ⟨_, 1, _, rfl, ⟨rfl, (by decide)⟩, rfl, hE⟩
                                                    · refine mq_f h26 ?_
                                                      by_cases h27 : x0 = 59
                                                      · refine mq_t h27 ?_
                                                        refine pr_tsw rfl hx0 (by rw [h27]; rfl) rfl ?_
                                                        refine pr_n (pc2 := 393) (lv2 := [(0, vi x0)]) (st2 := [vi 1]) 1 (fun _ _ => rfl) ?_
                                                        refine pr_end (fun _ _ => rfl) ?_
                                                        exact .inl ⟨_, 1, _, rfl, ⟨rfl, (by decide)⟩, rfl, hE⟩
                                                      · refine mq_f h27 ?_
                                                        by_cases h28 : x0 = 60
                                                        · refine mq_t h28 ?_
                                                          refine pr_tsw rfl hx0 (by rw [h28]; rfl) rfl ?_
                                                          refine pr_n (pc2 := 393) (lv2 := [(0, vi x0)]) (st2 := [vi 1]) 1 (fun _ _ => rfl) ?_
                                                          refine pr_end (fun _ _ => rfl) ?_
                                                          exact .inl ⟨_, 1, _, rfl, ⟨rfl, (by decide)⟩, rfl, hE⟩
                                                        · refine mq_f h28 ?_
                                                          by_cases h29 : x0 = 61
                                                          · refine mq_t h29 ?_
                                                            refine pr_tsw rfl hx0 (by rw [h29]; rfl) rfl ?_
                                                            refine pr_n (pc2 := 393) (lv2 := [(0, vi x0)]) (st2 := [vi 1]) 1 (fun _ _ => rfl) ?_
                                                            refine pr_end (fun _ _ => rfl) ?_
                                                            exact .inl ⟨_, 1, _, rfl, ⟨rfl, (by decide)⟩, rfl, hE⟩
                                                          · refine mq_f h29 ?_
                                                            by_cases h30 : x0 = 62
                                                            · refine mq_t h30 ?_
                                                              refine pr_tsw rfl hx0 (by rw [h30]; rfl) rfl ?_
                                                              refine pr_n (pc2 := 393) (lv2 := [(0, vi x0)]) (st2 := [vi 1]) 1 (fun _ _ => rfl) ?_
                                                              refine pr_end (fun _ _ => rfl) ?_
                                                              exact .inl ⟨_, 1, _, rfl, ⟨rfl, (by decide)⟩, rfl, hE⟩
                                                            · refine mq_f h30 ?_
                                                              by_cases h31 : x0 = 63
                                                              · refine mq_t h31 ?_
                                                                refine pr_tsw rfl hx0 (by rw [h31]; rfl) rfl ?_
                                                                refine pr_n (pc2 := 393) (lv2 := [(0, vi x0)]) (st2 := [vi 1]) 1 (fun _ _ => rfl) ?_
                                                                refine pr_end (fun _ _ => rfl) ?_
                                                                exact .inl ⟨_, 1, _, rfl, ⟨rfl, (by decide)⟩, rfl, hE⟩
                                                              · refine mq_f h31 ?_
                                                                by_cases h32 : x0 = 64
                                                                · refine mq_t h32 ?_
                                                                  refine pr_tsw rfl hx0 (by rw [h32]; rfl) rfl ?_
                                                                  refine pr_n (pc2 := 395) (lv2 := [(0, vi x0)]) (st2 := [vi 0]) 1 (fun _ _ => rfl) ?_
                                                                  refine pr_end (fun _ _ => rfl) ?_
                                                                  exact .inl ⟨_, 0, _, rfl, ⟨rfl, (by decide)⟩, rfl, hE⟩
                                                                · refine mq_f h32 ?_
                                                                  by_cases h33 : x0 = 65
                                                                  · refine mq_t h33 ?_
                                                                    refine pr_tsw rfl hx0 (by rw [h33]; rfl) rfl ?_
                                                                    refine pr_n (pc2 := 395) (lv2 := [(0, vi x0)]) (st2 := [vi 0]) 1 (fun _ _ => rfl) ?_
                                                                    refine pr_end (fun _ _ => rfl) ?_
                                                                    exact .inl ⟨_, 0, _, rfl, ⟨rfl, (by decide)⟩, rfl, hE⟩
                                                                  · refine mq_f h33 ?_
                                                                    by_cases h34 : x0 = 66
                                                                    · refine mq_t h34 ?_
                                                                      refine pr_tsw rfl hx0 (by rw [h34]; rfl) rfl ?_
                                                                      refine pr_n (pc2 := 395) (lv2 := [(0, vi x0)]) (st2 := [vi 0]) 1 (fun _ _ => rfl) ?_
                                                                      refine pr_end (fun _ _ => rfl) ?_
                                                                      exact .inl ⟨_, 0, _, rfl, ⟨rfl, (by decide)⟩, rfl, hE⟩
                                                                    · refine mq_f h34 ?_
                                                                      by_cases h35 : x0 = 67
                                                                      · refine mq_t h35 ?_
                                                                        refine pr_tsw rfl hx0 (by rw [h35]; rfl) rfl ?_
                                                                        refine pr_n (pc2 := 395) (lv2 := [(0, vi x0)]) (st2 := [vi 0]) 1 (fun _ _ => rfl) ?_
                                                                        refine pr_end (fun _ _ => rfl) ?_
                                                                        exact .inl ⟨_, 0, _, rfl, ⟨rfl, (by decide)⟩, rfl, hE⟩
                                                                      · refine mq_f h35 ?_
                                                                        by_cases h36 : x0 = 68
                                                                        · refine mq_t h36 ?_
                                                                          refine pr_tsw rfl hx0 (by rw [h36]; rfl) rfl ?_
                                                                          refine pr_n (pc2 := 395) (lv2 := [(0, vi x0)]) (st2 := [vi 0]) 1 (fun _ _ => rfl) ?_
                                                                          refine pr_end (fun _ _ => rfl) ?_
                                                                          exact .inl ⟨_, 0, _, rfl, ⟨rfl, (by decide)⟩, rfl, hE⟩
                                                                        · refine mq_f h36 ?_
                                                                          by_cases h37 : x0 = 69
                                                                          · refine mq_t h37 ?_
                                                                            refine pr_tsw rfl hx0 (by rw [h37]; rfl) rfl ?_
                                                                            refine pr_n (pc2 := 395) (lv2 := [(0, vi x0)]) (st2 := [vi 0]) 1 (fun _ _ => rfl) ?_
                                                                            refine pr_end (fun _ _ => rfl) ?_
                                                                            exact .inl ⟨_, 0, _, rfl, ⟨rfl, (by decide)⟩, rfl, hE⟩
                                                                          · refine mq_f h37 ?_
                                                                            by_cases h38 : x0 = 70
                                                                            · refine mq_t h38 ?_
                                                                              refine pr_tsw rfl hx0 (by rw [h38]; rfl) rfl ?_
                                                                              refine pr_n (pc2 := 395) (lv2 := [(0, vi x0)]) (st2 := [vi 0]) 1 (fun _ _ => rfl) ?_
                                                                              refine pr_end (fun _ _ => rfl) ?_
                                                                              exact .inl ⟨_, 0, _, rfl, ⟨rfl, (by decide)⟩, rfl, hE⟩
                                                                            · refine mq_f h38 ?_
                                                                              by_cases h39 : x0 = 71
                                                                              · refine mq_t h39 ?_
                                                                                refine pr_tsw rfl hx0 (by rw [h39]; rfl) rfl ?_
                                                                                refine pr_n (pc2 := 395) (lv2 := [(0, vi x0)]) (st2 := [vi 0]) 1 (fun _ _ => rfl) ?_
                                                                                refine pr_end (fun _ _ => rfl) ?_
                                                                                exact .inl ⟨_, 0, _, rfl, ⟨rfl, (by decide)⟩, rfl, hE⟩
                                                                              · refine mq_f h39 ?_
                                                                                by_cases h40 : x0 = 72
                                                                                · refine mq_t h40 ?_
                                                                                  refine pr_tsw rfl hx0 (by rw [h40]; rfl) rfl ?_
                                                                                  refine pr_n (pc2 := 395) (lv2 := [(0, vi x0)]) (st2 := [vi 0]) 1 (fun _ _ => rfl) ?_
                                                                                  refine pr_end (fun _ _ => rfl) ?_
                                                                                  exact .inl ⟨_, 0, _, rfl, ⟨rfl, (by decide)⟩, rfl, hE⟩
                                                                                · refine mq_f h40 ?_
                                                                                  by_cases h41 : x0 = 73
                                                                                  · refine mq_t h41 ?_
                                                                                    refine pr_tsw rfl hx0 (by rw [h41]; rfl) rfl ?_
                                                                                    refine pr_n (pc2 := 395) (lv2 := [(0, vi x0)]) (st2 := [vi 0]) 1 (fun _ _ => rfl) ?_
                                                                                    refine pr_end (fun _ _ => rfl) ?_
                                                                                    exact .inl ⟨_, 0, _, rfl, ⟨rfl, (by decide)⟩, rfl, hE⟩
                                                                                  · refine mq_f h41 ?_
                                                                                    by_cases h42 : x0 = 74
                                                                                    · refine mq_t h42 ?_
                                                                                      refine pr_tsw rfl hx0 (by rw [h42]; rfl) rfl ?_
                                                                                      refine pr_n (pc2 := 395) (lv2 := [(0, vi x0)]) (st2 := [vi 0]) 1 (fun _ _ => rfl) ?_
                                                                                      refine pr_end (fun _ _ => rfl) ?_
                                                                                      exact .inl ⟨_, 0, _, rfl, ⟨rfl, (by decide)⟩, rfl, hE⟩
                                                                                    · refine mq_f h42 ?_
                                                                                      by_cases h43 : x0 = 75
                                                                                      · refine mq_t h43 ?_
                                                                                        refine pr_tsw rfl hx0 (by rw [h43]; rfl) rfl ?_
                                                                                        refine pr_n (pc2 := 395) (lv2 := [(0, vi x0)]) (st2 := [vi 0]) 1 (fun _ _ => rfl) ?_
                                                                                        refine pr_end (fun _ _ => rfl) ?_
                                                                                        exact .inl ⟨_, 0, _, rfl, ⟨rfl, (by decide)⟩, rfl, hE⟩
                                                                                      · refine mq_f h43 ?_
                                                                                        by_cases h44 : x0 = 76
                                                                                        · refine mq_t h44 ?_
                                                                                          refine pr_tsw rfl hx0 (by rw [h44]; rfl) rfl ?_
                                                                                          refine pr_n (pc2 := 395) (lv2 := [(0, vi x0)]) (st2 := [vi 0]) 1 (fun _ _ => rfl) ?_
                                                                                          refine pr_end (fun _ _ => rfl) ?_
                                                                                          exact .inl ⟨_, 0, _, rfl, ⟨rfl, (by decide)⟩, rfl, hE⟩
                                                                                        · refine mq_f h44 ?_
                                                                                          by_cases h45 : x0 = 77
                                                                                          · refine mq_t h45 ?_
                                                                                            refine pr_tsw rfl hx0 (by rw [h45]; rfl) rfl ?_
                                                                                            refine pr_n (pc2 := 395) (lv2 := [(0, vi x0)]) (st2 := [vi 0]) 1 (fun _ _ => rfl) ?_
                                                                                            refine pr_end (fun _ _ => rfl) ?_
                                                                                            exact .inl ⟨_, 0, _, rfl, ⟨rfl, (by decide)⟩, rfl, hE⟩
                                                                                          · refine mq_f h45 ?_
                                                                                            by_cases h46 : x0 = 78
                                                                                            · refine mq_t h46 ?_
                                                                                              refine pr_tsw rfl hx0 (by rw [h46]; rfl) rfl ?_
                                                                                              refine pr_n (pc2 := 395) (lv2 := [(0, vi x0)]) (st2 := [vi 0]) 1 (fun _ _ => rfl) ?_
                                                                                              refine pr_end (fun _ _ => rfl) ?_
                                                                                              exact .inl ⟨_, 0, _, rfl, ⟨rfl, (by decide)⟩, rfl, hE⟩
                                                                                            · refine mq_f h46 ?_
                                                                                              by_cases h47 : x0 = 79
                                                                                              · refine mq_t h47 ?_
                                                                                                refine pr_tsw rfl hx0 (by rw [h47]; rfl) rfl ?_
                                                                                                refine pr_n (pc2 := 395) (lv2 := [(0, vi x0)]) (st2 := [vi 0]) 1 (fun _ _ => rfl) ?_
                                                                                                refine pr_end (fun _ _ => rfl) ?_
                                                                                                exact .inl ⟨_, 0, _, rfl, ⟨rfl, (by decide)⟩, rfl, hE⟩
                                                                                              · refine mq_f h47 ?_
                                                                                                by_cases h48 : x0 = 80
                                                                                                · refine mq_t h48 ?_
                                                                                                  refine pr_tsw rfl hx0 (by rw [h48]; rfl) rfl ?_
                                                                                                  refine pr_n (pc2 := 395) (lv2 := [(0, vi x0)]) (st2 := [vi 0]) 1 (fun _ _ => rfl) ?_
                                                                                                  refine pr_end (fun _ _ => rfl) ?_
                                                                                                  exact .inl ⟨_, 0, _, rfl, ⟨rfl, (by decide)⟩, rfl, hE⟩
                                                                                                · refine mq_f h48 ?_
                                                                                                  by_cases h49 : x0 = 81
                                                                                                  · refine mq_t h49 ?_
                                                                                                    refine pr_tsw rfl hx0 (by rw [h49]; rfl) rfl ?_
                                                                                                    refine pr_n (pc2 := 395) (lv2 := [(0, vi x0)]) (st2 := [vi 0]) 1 (fun _ _ => rfl) ?_
                                                                                                    refine pr_end (fun _ _ => rfl) ?_
                                                                                                    exact .inl ⟨_, 0, _, rfl, ⟨rfl, (by decide)⟩, rfl, hE⟩
                                                                                                  · refine mq_f h49 ?_
                                                                                                    by_cases h50 : x0 = 82
                                                                                                    · refine mq_t h50 ?_
                                                                                                      refine pr_tsw rfl hx0 (by rw [h50]; rfl) rfl ?_
                                                                                                      refine pr_n (pc2 := 395) (lv2 := [(0, vi x0)]) (st2 := [vi 0]) 1 (fun _ _ => rfl) ?_
                                                                                                      refine pr_end (fun _ _ => rfl) ?_
                                                                                                      exact .inl ⟨_, 0, _, rfl, ⟨rfl, (by decide)⟩, rfl, hE⟩
                                                                                                    · refine mq_f h50 ?_
                                                                                                      by_cases h51 : x0 = 83
                                                                                                      · refine mq_t h51 ?_
                                                                                                        refine pr_tsw rfl hx0 (by rw [h51]; rfl) rfl ?_
                                                                                                        refine pr_n (pc2 := 395) (lv2 := [(0, vi x0)]) (st2 := [vi 0]) 1 (fun _ _ => rfl) ?_
                                                                                                        refine pr_end (fun _ _ => rfl) ?_
                                                                                                        exact .inl ⟨_, 0, _, rfl, ⟨rfl, (by decide)⟩, rfl, hE⟩
                                                                                                      · refine mq_f h51 ?_
                                                                                                        by_cases h52 : x0 = 84
                                                                                                        · refine mq_t h52 ?_
                                                                                                          refine pr_tsw rfl hx0 (by rw [h52]; rfl) rfl ?_
                                                                                                          refine pr_n (pc2 := 395) (lv2 := [(0, vi x0)]) (st2 := [vi 0]) 1 (fun _ _ => rfl) ?_
                                                                                                          refine pr_end (fun _ _ => rfl) ?_
                                                                                                          exact .inl ⟨_, 0, _, rfl, ⟨rfl, (by decide)⟩, rfl, hE⟩
                                                                                                        · refine mq_f h52 ?_
                                                                                                          by_cases h53 : x0 = 85
                                                                                                          · refine mq_t h53 ?_
                                                                                                            refine pr_tsw rfl hx0 (by rw [h53]; rfl) rfl ?_
                                                                                                            refine pr_n (pc2 := 395) (lv2 := [(0, vi x0)]) (st2 := [vi 0]) 1 (fun _ _ => rfl) ?_
                                                                                                            refine pr_end (fun _ _ => rfl) ?_
                                                                                                            exact .inl ⟨_, 0, _, rfl, ⟨rfl, (by decide)⟩, rfl, hE⟩
                                                                                                          · refine mq_f h53 ?_
                                                                                                            by_cases h54 : x0 = 86
                                                                                                            · refine mq_t h54 ?_
                                                                                                              refine pr_tsw rfl hx0 (by rw [h54]; rfl) rfl ?_
                                                                                                              refine pr_n (pc2 := 395) (lv2 := [(0, vi x0)]) (st2 := [vi 0]) 1 (fun _ _ => rfl) ?_
                                                                                                              refine pr_end (fun _ _ => rfl) ?_
                                                                                                              exact .inl ⟨_, 0, _, rfl, ⟨rfl, (by decide)⟩, rfl, hE⟩
                                                                                                            · refine mq_f h54 ?_
                                                                                                              by_cases h55 : x0 = 87
                                                                                                              · refine mq_t h55 ?_
                                                                                                                refine pr_tsw rfl hx0 (by rw [h55]; rfl) rfl ?_
                                                                                                                refine pr_n (pc2 := 395) (lv2 := [(0, vi x0)]) (st2 := [vi 0]) 1 (fun _ _ => rfl) ?_
                                                                                                                refine pr_end (fun _ _ => rfl) ?_
                                                                                                                exact .inl ⟨_, 0, _, rfl, ⟨rfl, (by decide)⟩, rfl, hE⟩
                                                                                                              · refine mq_f h55 ?_
                                                                                                                by_cases h56 : x0 = 88
                                                                                                                · refine mq_t h56 ?_
                                                                                                                  refine pr_tsw rfl hx0 (by rw [h56]; rfl) rfl ?_
                                                                                                                  refine pr_n (pc2 := 395) (lv2 := [(0, vi x0)]) (st2 := [vi 0]) 1 (fun _ _ => rfl) ?_
                                                                                                                  refine pr_end (fun _ _ => rfl) ?_
                                                                                                                  exact .inl ⟨_, 0, _, rfl, ⟨rfl, (by decide)⟩, rfl, hE⟩
                                                                                                                · refine mq_f h56 ?_
                                                                                                                  by_cases h57 : x0 = 89
                                                                                                                  · refine mq_t h57 ?_
                                                                                                                    refine pr_tsw rfl hx0 (by rw [h57]; rfl) rfl ?_
                                                                                                                    refine pr_n (pc2 := 395) (lv2 := [(0, vi x0)]) (st2 := [vi 0]) 1 (fun _ _ => rfl) ?_
                                                                                                                    refine pr_end (fun _ _ => rfl) ?_
                                                                                                                    exact .inl ⟨_, 0, _, rfl, ⟨rfl, (by decide)⟩, rfl, hE⟩
                                                                                                                  · refine mq_f h57 ?_
                                                                                                                    by_cases h58 : x0 = 90
                                                                                                                    · refine mq_t h58 ?_
                                                                                                                      refine pr_tsw rfl hx0 (by rw [h58]; rfl) rfl ?_
                                                                                                                      refine pr_n (pc2 := 395) (lv2 := [(0, vi x0)]) (st2 := [vi 0]) 1 (fun _ _ => rfl) ?_
                                                                                                                      refine pr_end (fun _ _ => rfl) ?_
                                                                                                                      exact .inl ⟨_, 0, _, rfl, ⟨rfl, (by decide)⟩, rfl, hE⟩
                                                                                                                    · refine mq_f h58 ?_
                                                                                                                      by_cases h59 : x0 = 91
                                                                                                                      · refine mq_t h59 ?_
                                                                                                                        refine pr_tsw rfl hx0 (by rw [h59]; rfl) rfl ?_
                                                                                                                        refine pr_n (pc2 := 393) (lv2 := [(0, vi x0)]) (st2 := [vi 1]) 1 (fun _ _ => rfl) ?_
                                                                                                                        refine pr_end (fun _ _ => rfl) ?_
                                                                                                                        exact .inl ⟨_, 1, _, rfl, ⟨rfl, (by decide)⟩, rfl, hE⟩
                                                                                                                      · refine mq_f h59 ?_
                                                                                                                        by_cases h60 : x0 = 92
                                                                                                                        · refine mq_t h60 ?_
                                                                                                                          refine pr_tsw rfl hx0 (by rw [h60]; rfl) rfl ?_
                                                                                                                          refine pr_n (pc2 := 395) (lv2 := [(0, vi x0)]) (st2 := [vi 0]) 1 (fun _ _ => rfl) ?_
                                                                                                                          refine pr_end (fun _ _ => rfl) ?_
                                                                                                                          exact .inl ⟨_, 0, _, rfl, ⟨rfl, (by decide)⟩, rfl, hE⟩
                                                                                                                        · refine mq_f h60 ?_
                                                                                                                          by_cases h61 : x0 = 93
                                                                                                                          · refine mq_t h61 ?_
                                                                                                                            refine pr_tsw rfl hx0 (by rw [h61]; rfl) rfl ?_
                                                                                                                            refine pr_n (pc2 := 393) (lv2 := [(0, vi x0)]) (st2 := [vi 1]) 1 (fun _ _ => rfl) ?_
                                                                                                                            refine pr_end (fun _ _ => rfl) ?_
                                                                                                                            exact .inl ⟨_, 1, _, rfl, ⟨rfl, (by decide)⟩, rfl, hE⟩
                                                                                                                          · refine mq_f h61 ?_
                                                                                                                            by_cases h62 : x0 = 94
                                                                                                                            · refine mq_t h62 ?_
                                                                                                                              refine pr_tsw rfl hx0 (by rw [h62]; rfl) rfl ?_
                                                                                                                              refine pr_n (pc2 := 393) (lv2 := [(0, vi x0)]) (st2 := [vi 1]) 1 (fun _ _ => rfl) ?_
                                                                                                                              refine pr_end (fun _ _ => rfl) ?_
                                                                                                                              exact .inl ⟨_, 1, _, rfl, ⟨rfl, (by decide)⟩, rfl, hE⟩
                                                                                                                            · refine mq_f h62 ?_
                                                                                                                              by_cases h63 : x0 = 95
                                                                                                                              · refine mq_t h63 ?_
                                                                                                                                refine pr_tsw rfl hx0 (by rw [h63]; rfl) rfl ?_
                                                                                                                                refine pr_n (pc2 := 395) (lv2 := [(0, vi x0)]) (st2 := [vi 0]) 1 (fun _ _ => rfl) ?_
                                                                                                                                refine pr_end (fun _ _ => rfl) ?_
                                                                                                                                exact .inl ⟨_, 0, _, rfl, ⟨rfl, (by decide)⟩, rfl, hE⟩
                                                                                                                              · refine mq_f h63 ?_
                                                                                                                                by_cases h64 : x0 = 96
                                                                                                                                · refine mq_t h64 ?_
                                                                                                                                  refine pr_tsw rfl hx0 (by rw [h64]; rfl) rfl ?_
                                                                                                                                  refine pr_n (pc2 := 395) (lv2 := [(0, vi x0)]) (st2 := [vi 0]) 1 (fun _ _ => rfl) ?_
                                                                                                                                  refine pr_end (fun _ _ => rfl) ?_
                                                                                                                                  exact .inl ⟨_, 0, _, rfl, ⟨rfl, (by decide)⟩, rfl, hE⟩
                                                                                                                                · refine mq_f h64 ?_
                                                                                                                                  by_cases h65 : x0 = 97
                                                                                                                                  · refine mq_t h65 ?_
                                                                                                                                    refine pr_tsw rfl hx0 (by rw [h65]; rfl) rfl ?_
                                                                                                                                    refine pr_n (pc2 := 395) (lv2 := [(0, vi x0)]) (st2 := [vi 0]) 1 (fun _ _ => rfl) ?_
                                                                                                                                    refine pr_end (fun _ _ => rfl) ?_
                                                                                                                                    exact .inl ⟨_, 0, _, rfl, ⟨rfl, (by decide)⟩, rfl, hE⟩
                                                                                                                                  · refine mq_f h65 ?_
                                                                                                                                    by_cases h66 : x0 = 98
                                                                                                                                    · refine mq_t h66 ?_
                                                                                                                                      refine pr_tsw rfl hx0 (by rw [h66]; rfl) rfl ?_
                                                                                                                                      refine pr_n (pc2 := 395) (lv2 := [(0, vi x0)]) (st2 := [vi 0]) 1 (fun _ _ => rfl) ?_
                                                                                                                                      refine pr_end (fun _ _ => rfl) ?_
                                                                                                                                      exact .inl ⟨_, 0, _, rfl, ⟨rfl, (by decide)⟩, rfl, hE⟩
                                                                                                                                    · refine mq_f h66 ?_
                                                                                                                                      by_cases h67 : x0 = 99
                                                                                                                                      · refine mq_t h67 ?_
                                                                                                                                        refine pr_tsw rfl hx0 (by rw [h67]; rfl) rfl ?_
                                                                                                                                        refine pr_n (pc2 := 395) (lv2 := [(0, vi x0)]) (st2 := [vi 0]) 1 (fun _ _ => rfl) ?_
                                                                                                                                        refine pr_end (fun _ _ => rfl) ?_
                                                                                                                                        exact .inl ⟨_, 0, _, rfl, ⟨rfl, (by decide)⟩, rfl, hE⟩
                                                                                                                                      · refine mq_f h67 ?_
                                                                                                                                        by_cases h68 : x0 = 100
                                                                                                                                        · refine mq_t h68 ?_
                                                                                                                                          refine pr_tsw rfl hx0 (by rw [h68]; rfl) rfl ?_
                                                                                                                                          refine pr_n (pc2 := 395) (lv2 := [(0, vi x0)]) (st2 := [vi 0]) 1 (fun _ _ => rfl) ?_
                                                                                                                                          refine pr_end (fun _ _ => rfl) ?_
                                                                                                                                          exact .inl ⟨_, 0, _, rfl, ⟨rfl, (by decide)⟩, rfl, hE⟩
                                                                                                                                        · refine mq_f h68 ?_
                                                                                                                                          by_cases h69 : x0 = 101
                                                                                                                                          · refine mq_t h69 ?_
                                                                                                                                            refine pr_tsw rfl hx0 (by rw [h69]; rfl) rfl ?_
                                                                                                                                            refine pr_n (pc2 := 395) (lv2 := [(0, vi x0)]) (st2 := [vi 0]) 1 (fun _ _ => rfl) ?_
                                                                                                                                            refine pr_end (fun _ _ => rfl) ?_
                                                                                                                                            exact .inl ⟨_, 0, _, rfl, ⟨rfl, (by decide)⟩, rfl, hE⟩
                                                                                                                                          · refine mq_f h69 ?_
                                                                                                                                            by_cases h70 : x0 = 102
                                                                                                                                            · refine mq_t h70 ?_
                                                                                                                                              refine pr_tsw rfl hx0 (by rw [h70]; rfl) rfl ?_
                                                                                                                                              refine pr_n (pc2 := 395) (lv2 := [(0, vi x0)]) (st2 := [vi 0]) 1 (fun _ _ => rfl) ?_
                                                                                                                                              refine pr_end (fun _ _ => rfl) ?_
                                                                                                                                              exact .inl ⟨_, 0, _, rfl, ⟨rfl, (by decide)⟩, rfl, hE⟩
                                                                                                                                            · refine mq_f h70 ?_
                                                                                                                                              by_cases h71 : x0 = 103
                                                                                                                                              · refine mq_t h71 ?_
                                                                                                                                                refine pr_tsw rfl hx0 (by rw [h71]; rfl) rfl ?_
                                                                                                                                                refine pr_n (pc2 := 395) (lv2 := [(0, vi x0)]) (st2 := [vi 0]) 1 (fun _ _ => rfl) ?_
                                                                                                                                                refine pr_end (fun _ _ => rfl) ?_
                                                                                                                                                exact .inl ⟨_, 0, _, rfl, ⟨rfl, (by decide)⟩, rfl, hE⟩
                                                                                                                                              · refine mq_f h71 ?_
                                                                                                                                                by_cases h72 : x0 = 104
                                                                                                                                                · refine mq_t h72 ?_
                                                                                                                                                  refine pr_tsw rfl hx0 (by rw [h72]; rfl) rfl ?_
                                                                                                                                                  refine pr_n (pc2 := 395) (lv2 := [(0, vi x0)]) (st2 := [vi 0]) 1 (fun _ _ => rfl) ?_
                                                                                                                                                  refine pr_end (fun _ _ => rfl) ?_
                                                                                                                                                  exact .inl ⟨_, 0, _, rfl, ⟨rfl, (by decide)⟩, rfl, hE⟩
                                                                                                                                                · refine mq_f h72 ?_
                                                                                                                                                  by_cases h73 : x0 = 105
                                                                                                                                                  · refine mq_t h73 ?_
                                                                                                                                                    refine pr_tsw rfl hx0 (by rw [h73]; rfl) rfl ?_
                                                                                                                                                    refine pr_n (pc2 := 395) (lv2 := [(0, vi x0)]) (st2 := [vi 0]) 1 (fun _ _ => rfl) ?_
                                                                                                                                                    refine pr_end (fun _ _ => rfl) ?_
                                                                                                                                                    exact .inl ⟨_, 0, _, rfl, ⟨rfl, (by decide)⟩, rfl, hE⟩
                                                                                                                                                  · refine mq_f h73 ?_
                                                                                                                                                    by_cases h74 : x0 = 106
                                                                                                                                                    · refine mq_t h74 ?_
                                                                                                                                                      refine pr_tsw rfl hx0 (by rw [h74]; rfl) rfl ?_
                                                                                                                                                      refine pr_n (pc2 := 395) (lv2 := [(0, vi x0)]) (st2 := [vi 0]) 1 (fun _ _ => rfl) ?_
                                                                                                                                                      refine pr_end (fun _ _ => rfl) ?_
                                                                                                                                                      exact .inl ⟨_, 0, _, rfl, ⟨rfl, (by decide)⟩, rfl, hE⟩
                                                                                                                                                    · refine mq_f h74 ?_
                                                                                                                                                      by_cases h75 : x0 = 107
                                                                                                                                                      · refine mq_t h75 ?_
                                                                                                                                                        refine pr_tsw rfl hx0 (by rw [h75]; rfl) rfl ?_
                                                                                                                                                        refine pr_n (pc2 := 395) (lv2 := [(0, vi x0)]) (st2 := [vi 0]) 1 (fun _ _ => rfl) ?_
                                                                                                                                                        refine pr_end (fun _ _ => rfl) ?_
                                                                                                                                                        exact .inl ⟨_, 0, _, rfl, ⟨rfl, (by decide)⟩, rfl, hE⟩
                                                                                                                                                      · refine mq_f h75 ?_
                                                                                                                                                        by_cases h76 : x0 = 108
                                                                                                                                                        · refine mq_t h76 ?_
                                                                                                                                                          refine pr_tsw rfl hx0 (by rw [h76]; rfl) rfl ?_
                                                                                                                                                          refine pr_n (pc2 := 395) (lv2 := [(0, vi x0)]) (st2 := [vi 0]) 1 (fun _ _ => rfl) ?_
                                                                                                                                                          refine pr_end (fun _ _ => rfl) ?_
                                                                                                                                                          exact .inl ⟨_, 0, _, rfl, ⟨rfl, (by decide)⟩, rfl, hE⟩
                                                                                                                                                        · refine mq_f h76 ?_
                                                                                                                                                          by_cases h77 : x0 = 109
                                                                                                                                                          · refine mq_t h77 ?_
                                                                                                                                                            refine pr_tsw rfl hx0 (by rw [h77]; rfl) rfl ?_
                                                                                                                                                            refine pr_n (pc2 := 395) (lv2 := [(0, vi x0)]) (st2 := [vi 0]) 1 (fun _ _ => rfl) ?_
                                                                                                                                                            refine pr_end (fun _ _ => rfl) ?_
                                                                                                                                                            exact .inl ⟨_, 0, _, rfl, ⟨rfl, (by decide)⟩, rfl, hE⟩
                                                                                                                                                          · refine mq_f h77 ?_
                                                                                                                                                            by_cases h78 : x0 = 110
                                                                                                                                                            · refine mq_t h78 ?_
                                                                                                                                                              refine pr_tsw rfl hx0 (by rw [h78]; rfl) rfl ?_
                                                                                                                                                              refine pr_n (pc2 := 395) (lv2 := [(0, vi x0)]) (st2 := [vi 0]) 1 (fun _ _ => rfl) ?_
                                                                                                                                                              refine pr_end (fun _ _ => rfl) ?_
                                                                                                                                                              exact .inl ⟨_, 0, _, rfl, ⟨rfl, (by decide)⟩, rfl, hE⟩
                                                                                                                                                            · refine mq_f h78 ?_
                                                                                                                                                              by_cases h79 : x0 = 111
                                                                                                                                                              · refine mq_t h79 ?_
                                                                                                                                                                refine pr_tsw rfl hx0 (by rw [h79]; rfl) rfl ?_
                                                                                                                                                                refine pr_n (pc2 := 395) (lv2 := [(0, vi x0)]) (st2 := [vi 0]) 1 (fun _ _ => rfl) ?_
                                                                                                                                                                refine pr_end (fun _ _ => rfl) ?_
                                                                                                                                                                exact .inl ⟨_, 0, _, rfl, ⟨rfl, (by decide)⟩, rfl, hE⟩
                                                                                                                                                              · refine mq_f h79 ?_
                                                                                                                                                                by_cases h80 : x0 = 112
                                                                                                                                                                · refine mq_t h80 ?_
                                                                                                                                                                  refine pr_tsw rfl hx0 (by rw [h80]; rfl) rfl ?_
                                                                                                                                                                  refine pr_n (pc2 := 395) (lv2 := [(0, vi x0)]) (st2 := [vi 0]) 1 (fun _ _ => rfl) ?_
                                                                                                                                                                  refine pr_end (fun _ _ => rfl) ?_
                                                                                                                                                                  exact .inl ⟨_, 0, _, rfl, ⟨rfl, (by decide)⟩, rfl, hE⟩
                                                                                                                                                                · refine mq_f h80 ?_
                                                                                                                                                                  by_cases h81 : x0 = 113
                                                                                                                                                                  · refine mq_t h81 ?_
                                                                                                                                                                    refine pr_tsw rfl hx0 (by rw [h81]; rfl) rfl ?_
                                                                                                                                                                    refine pr_n (pc2 := 395) (lv2 := [(0, vi x0)]) (st2 := [vi 0]) 1 (fun _ _ => rfl) ?_
                                                                                                                                                                    refine pr_end (fun _ _ => rfl) ?_
                                                                                                                                                                    exact .inl ⟨_, 0, _, rfl, ⟨rfl, (by decide)⟩, rfl, hE⟩
                                                                                                                                                                  · refine mq_f h81 ?_
                                                                                                                                                                    by_cases h82 : x0 = 114
                                                                                                                                                                    · refine mq_t h82 ?_
                                                                                                                                                                      refine pr_tsw rfl hx0 (by rw [h82]; rfl) rfl ?_
                                                                                                                                                                      refine pr_n (pc2 := 395) (lv2 := [(0, vi x0)]) (st2 := [vi 0]) 1 (fun _ _ => rfl) ?_
                                                                                                                                                                      refine pr_end (fun _ _ => rfl) ?_
                                                                                                                                                                      exact .inl ⟨_, 0, _, rfl, ⟨rfl, (by decide)⟩, rfl, hE⟩
                                                                                                                                                                    · refine mq_f h82 ?_
                                                                                                                                                                      by_cases h83 : x0 = 115
                                                                                                                                                                      · refine mq_t h83 ?_
                                                                                                                                                                        refine pr_tsw rfl hx0 (by rw [h83]; rfl) rfl ?_
                                                                                                                                                                        refine pr_n (pc2 := 395) (lv2 := [(0, vi x0)]) (st2 := [vi 0]) 1 (fun _ _ => rfl) ?_
                                                                                                                                                                        refine pr_end (fun _ _ => rfl) ?_
                                                                                                                                                                        exact .inl ⟨_, 0, _, rfl, ⟨rfl, (by decide)⟩, rfl, hE⟩
                                                                                                                                                                      · refine mq_f h83 ?_
                                                                                                                                                                        by_cases h84 : x0 = 116
                                                                                                                                                                        · refine mq_t h84 ?_
                                                                                                                                                                          refine pr_tsw rfl hx0 (by rw [h84]; rfl) rfl ?_
                                                                                                                                                                          refine pr_n (pc2 := 395) (lv2 := [(0, vi x0)]) (st2 := [vi 0]) 1 (fun _ _ => rfl) ?_
                                                                                                                                                                          refine pr_end (fun _ _ => rfl) ?_
                                                                                                                                                                          exact .inl ⟨_, 0, _, rfl, ⟨rfl, (by decide)⟩, rfl, hE⟩
                                                                                                                                                                        · refine mq_f h84 ?_
                                                                                                                                                                          by_cases h85 : x0 = 117
                                                                                                                                                                          · refine mq_t h85 ?_
                                                                                                                                                                            refine pr_tsw rfl hx0 (by rw [h85]; rfl) rfl ?_
                                                                                                                                                                            refine pr_n (pc2 := 395) (lv2 := [(0, vi x0)]) (st2 := [vi 0]) 1 (fun _ _ => rfl) ?_
                                                                                                                                                                            refine pr_end (fun _ _ => rfl) ?_
                                                                                                                                                                            exact .inl ⟨_, 0, _, rfl, ⟨rfl, (by decide)⟩, rfl, hE⟩
                                                                                                                                                                          · refine mq_f h85 ?_
                                                                                                                                                                            by_cases h86 : x0 = 118
                                                                                                                                                                            · refine mq_t h86 ?_
                                                                                                                                                                              refine pr_tsw rfl hx0 (by rw [h86]; rfl) rfl ?_
                                                                                                                                                                              refine pr_n (pc2 := 395) (lv2 := [(0, vi x0)]) (st2 := [vi 0]) 1 (fun _ _ => rfl) ?_
                                                                                                                                                                              refine pr_end (fun _ _ => rfl) ?_
                                                                                                                                                                              exact .inl ⟨_, 0, _, rfl, ⟨rfl, (by decide)⟩, rfl, hE⟩
                                                                                                                                                                            · refine mq_f h86 ?_
                                                                                                                                                                              by_cases h87 : x0 = 119
                                                                                                                                                                              · refine mq_t h87 ?_
                                                                                                                                                                                refine pr_tsw rfl hx0 (by rw [h87]; rfl) rfl ?_
                                                                                                                                                                                refine pr_n (pc2 := 395) (lv2 := [(0, vi x0)]) (st2 := [vi 0]) 1 (fun _ _ => rfl) ?_
                                                                                                                                                                                refine pr_end (fun _ _ => rfl) ?_
                                                                                                                                                                                exact .inl ⟨_, 0, _, rfl, ⟨rfl, (by decide)⟩, rfl, hE⟩
                                                                                                                                                                              · refine mq_f h87 ?_
                                                                                                                                                                                by_cases h88 : x0 = 120
                                                                                                                                                                                · refine mq_t h88 ?_
                                                                                                                                                                                  refine pr_tsw rfl hx0 (by rw [h88]; rfl) rfl ?_
                                                                                                                                                                                  refine pr_n (pc2 := 395) (lv2 := [(0, vi x0)]) (st2 := [vi 0]) 1 (fun _ _ => rfl) ?_
                                                                                                                                                                                  refine pr_end (fun _ _ => rfl) ?_
                                                                                                                                                                                  exact .inl ⟨_, 0, _, rfl, ⟨rfl, (by decide)⟩, rfl, hE⟩
                                                                                                                                                                                · refine mq_f h88 ?_
                                                                                                                                                                                  by_cases h89 : x0 = 121
                                                                                                                                                                                  · refine mq_t h89 ?_
                                                                                                                                                                                    refine pr_tsw rfl hx0 (by rw [h89]; rfl) rfl ?_
                                                                                                                                                                                    refine pr_n (pc2 := 395) (lv2 := [(0, vi x0)]) (st2 := [vi 0]) 1 (fun _ _ => rfl) ?_
                                                                                                                                                                                    refine pr_end (fun _ _ => rfl) ?_
                                                                                                                                                                                    exact .inl ⟨_, 0, _, rfl, ⟨rfl, (by decide)⟩, rfl, hE⟩
                                                                                                                                                                                  · refine mq_f h89 ?_
                                                                                                                                                                                    by_cases h90 : x0 = 122
                                                                                                                                                                                    · refine mq_t h90 ?_
                                                                                                                                                                                      refine pr_tsw rfl hx0 (by rw [h90]; rfl) rfl ?_
                                                                                                                                                                                      refine pr_n (pc2 := 395) (lv2 := [(0, vi x0)]) (st2 := [vi 0]) 1 (fun _ _ => rfl) ?_
                                                                                                                                                                                      refine pr_end (fun _ _ => rfl) ?_
                                                                                                                                                                                      exact .inl ⟨_, 0, _, rfl, ⟨rfl, (by decide)⟩, rfl, hE⟩
                                                                                                                                                                                    · refine mq_f h90 ?_
                                                                                                                                                                                      by_cases h91 : x0 = 123
                                                                                                                                                                                      · refine mq_t h91 ?_
                                                                                                                                                                                        refine pr_tsw rfl hx0 (by rw [h91]; rfl) rfl ?_
                                                                                                                                                                                        refine pr_n (pc2 := 393) (lv2 := [(0, vi x0)]) (st2 := [vi 1]) 1 (fun _ _ => rfl) ?_
                                                                                                                                                                                        refine pr_end (fun _ _ => rfl) ?_
                                                                                                                                                                                        exact .inl ⟨_, 1, _, rfl, ⟨rfl, (by decide)⟩, rfl, hE⟩
                                                                                                                                                                                      · refine mq_f h91 ?_
                                                                                                                                                                                        by_cases h92 : x0 = 124
                                                                                                                                                                                        · refine mq_t h92 ?_
                                                                                                                                                                                          refine pr_tsw rfl hx0 (by rw [h92]; rfl) rfl ?_
                                                                                                                                                                                          refine pr_n (pc2 := 393) (lv2 := [(0, vi x0)]) (st2 := [vi 1]) 1 (fun _ _ => rfl) ?_
                                                                                                                                                                                          refine pr_end (fun _ _ => rfl) ?_
                                                                                                                                                                                          exact .inl ⟨_, 1, _, rfl, ⟨rfl, (by decide)⟩, rfl, hE⟩
                                                                                                                                                                                        · refine mq_f h92 ?_
                                                                                                                                                                                          by_cases h93 : x0 = 125
                                                                                                                                                                                          · refine mq_t h93 ?_
                                                                                                                                                                                            refine pr_tsw rfl hx0 (by rw [h93]; rfl) rfl ?_
                                                                                                                                                                                            refine pr_n (pc2 := 393) (lv2 := [(0, vi x0)]) (st2 := [vi 1]) 1 (fun _ _ => rfl) ?_
                                                                                                                                                                                            refine pr_end (fun _ _ => rfl) ?_
                                                                                                                                                                                            exact .inl ⟨_, 1, _, rfl, ⟨rfl, (by decide)⟩, rfl, hE⟩
                                                                                                                                                                                          · refine mq_f h93 ?_
                                                                                                                                                                                            by_cases h94 : x0 = 126
                                                                                                                                                                                            · refine mq_t h94 ?_
                                                                                                                                                                                              refine pr_tsw rfl hx0 (by rw [h94]; rfl) rfl ?_
                                                                                                                                                                                              refine pr_n (pc2 := 393) (lv2 := [(0, vi x0)]) (st2 := [vi 1]) 1 (fun _ _ => rfl) ?_
                                                                                                                                                                                              refine pr_end (fun _ _ => rfl) ?_
                                                                                                                                                                                              exact .inl ⟨_, 1, _, rfl, ⟨rfl, (by decide)⟩, rfl, hE⟩
                                                                                                                                                                                            · refine mq_f h94 ?_
                                                                                                                                                                                              refine pr_tsw rfl hx0 (if_pos (by omega)) rfl ?_
                                                                                                                                                                                              refine pr_n (pc2 := 395) (lv2 := [(0, vi x0)]) (st2 := [vi 0]) 1 (fun _ _ => rfl) ?_
                                                                                                                                                                                              refine pr_end (fun _ _ => rfl) ?_
                                                                                                                                                                                              exact .inl ⟨_, 0, _, rfl, ⟨rfl, (by decide)⟩, rfl, hE⟩
set_option maxHeartbeats 20000000 in
set_option maxRecDepth 100000 in
theorem cu28_0 {N K d C : Nat} (h_26 : cT26 K d C) (h_29 : cT29 K d C) (ih : ∀ N2, N2 < N → cA28 N2 K d C) : cU28_0 N K d C := by
  intro s t y2 y1 hE hy2 hy1
  have hC : C = 99 ∨ C = 115 := hE.1
  rw [cG_28_7]
  unfold cM28_7
  refine pr_lt (pc2 := 8) (lv2 := [(2, vl y2), (1, vi y1), (0, .ref 137)]) (st2 := [.ref 137]) (fun _ _ => rfl) fun N2 hN2 => ?_
  refine pr_gE (k2 := 137) (v := vi (t 137 6)) hE rfl rfl rfl (by decide) rfl rfl rfl fun h1 => ?_
  have h1 : i32 (t 137 6) := h1
  refine pr_n (pc2 := 12) (lv2 := [(2, vl y2), (1, vi y1), (0, .ref 137)]) (st2 := [.ref 137, vi (t 137 6)]) 1 (fun _ _ => rfl) ?_
  refine pr_get (v := .ref 97) rfl rfl rfl (by decide) (rv_ref (hE.2.1 137 0 97 rfl)) fun _ => ?_
  refine pr_gE (k2 := 97) (v := vi (t 97 1)) hE rfl rfl rfl (by decide) rfl rfl rfl fun h2 => ?_
  have h2 : i32 (t 97 1) := h2
  by_cases h3 : t 97 1 ≤ t 137 6
  · refine mq_t h3 ?_
    refine pr_if2t rfl rfl h1 h2 h3 ?_
    refine pr_n (pc2 := 70) (lv2 := [(2, vl y2), (1, vi y1), (0, .ref 137)]) (st2 := [.ref 137]) 1 (fun _ _ => rfl) ?_
    refine pr_get (v := .ref 141) rfl rfl rfl (by decide) (rv_ref (hE.2.1 137 4 141 rfl)) fun _ => ?_
    refine pr_n (pc2 := 74) (lv2 := [(2, vl y2), (1, vi y1), (0, .ref 137)]) (st2 := [.ref 137, .ref 141]) 1 (fun _ _ => rfl) ?_
    refine pr_gE (k2 := 137) (v := vi (t 137 5)) hE rfl rfl rfl (by decide) rfl rfl rfl fun h4 => ?_
    have h4 : i32 (t 137 5) := h4
    refine pr_n (pc2 := 78) (lv2 := [(2, vl y2), (1, vi y1), (0, .ref 137)]) (st2 := [vl y2, vi (t 137 5), .ref 141]) 1 (fun _ _ => rfl) ?_
    refine pr_sE (k2 := 141) (a := t 137 5) (z := y2) hE rfl (by decide) rfl rfl h4 (by decide) rfl hy2 (n0 rfl (by omega) (by omega)) rfl rfl (fun e => absurd e.1 (by decide)) (fun _ => trivial) fun h5 h6 s7 hE7 => ?_
    refine pr_n (pc2 := 80) (lv2 := [(2, vl y2), (1, vi y1), (0, .ref 137)]) (st2 := [.ref 137]) 1 (fun _ _ => rfl) ?_
    refine pr_gE (k2 := 137) (v := vi (t 137 6)) hE7 rfl rfl rfl (by decide) rfl rfl rfl fun h8 => ?_
    have h8 : i32 (t 137 6) := h8
    refine pr_n (pc2 := 84) (lv2 := [(2, vl y2), (1, vi y1), (0, .ref 137)]) (st2 := [vi y1, vi (t 137 6)]) 1 (fun _ _ => rfl) ?_
    refine pr_i2 (a := t 137 6) (b := y1) rfl rfl ?_
    show pr N2 K d tb_M28 85 [(2, vl y2), (1, vi y1), (0, .ref 137)] [vi (imi (t 137 6) y1)] s7 _
    have h9 : i32 (imi (t 137 6) y1) := i32_in _
    refine pr_n (pc2 := 87) (lv2 := [(2, vl y2), (1, vi y1), (0, .ref 137)]) (st2 := [vi 8, vi (imi (t 137 6) y1)]) 1 (fun _ _ => rfl) ?_
    by_cases h10 : imi (t 137 6) y1 ≤ 8
    · refine mq_t h10 ?_
      refine pr_if2t rfl rfl h9 (i32_n rfl) h10 ?_
      refine pr_n (pc2 := 95) (lv2 := [(4, vi 0), (2, vl y2), (1, vi y1), (0, .ref 137)]) (st2 := []) 2 (fun _ _ => rfl) ?_
      exact ((ih N2 hN2).2) s7 (up2 t 141 ((t 137 5).toNat) y2) 0 y2 y1 hE7 (i32_n rfl) hy2 hy1
    · refine mq_f h10 ?_
      refine pr_if2f rfl rfl h9 (i32_n rfl) h10 ?_
      refine pr_n (pc2 := 91) (lv2 := [(2, vl y2), (1, vi y1), (0, .ref 137)]) (st2 := [vi 4]) 1 (fun _ _ => rfl) ?_
      refine pr_end (fun _ _ => rfl) ?_
      exact .inl ⟨_, 4, _, rfl, ⟨rfl, (i32_n rfl)⟩, rfl, hE7⟩
  · refine mq_f h3 ?_
    refine pr_if2f rfl rfl h1 h2 h3 ?_
    refine pr_n (pc2 := 22) (lv2 := [(2, vl y2), (1, vi y1), (0, .ref 137)]) (st2 := [.ref 137]) 1 (fun _ _ => rfl) ?_
    refine pr_get (v := .ref 97) rfl rfl rfl (by decide) (rv_ref (hE.2.1 137 0 97 rfl)) fun _ => ?_
    refine pr_n (pc2 := 26) (lv2 := [(2, vl y2), (1, vi y1), (0, .ref 137)]) (st2 := [.ref 137, .ref 97]) 1 (fun _ _ => rfl) ?_
    refine pr_gE (k2 := 137) (v := vi (t 137 6)) hE rfl rfl rfl (by decide) rfl rfl rfl fun h11 => ?_
    have h11 : i32 (t 137 6) := h11
    refine pr_s1 (args := [vi (t 137 6)]) (rest := []) rfl rfl rfl rfl (Nat.le_of_ble_eq_true rfl) rfl (h_26 s t (t 137 6) hE h11) s_atb ?_
    rintro _ s12 ⟨rfl, hz12⟩ hE12
    show pr N2 K d tb_M28 32 [(2, vl y2), (1, vi y1), (0, .ref 137)] [vi (atb t (t 137 6))] s12 _
    refine pr_s0 (args := [vi (atb t (t 137 6))]) (rest := []) rfl rfl rfl (Nat.le_of_ble_eq_true rfl) rfl (h_29 s12 t (atb t (t 137 6)) hE12 hz12) s_alz ?_
    rintro _ s13 ⟨rfl, hz13⟩ hE13
    show pr N2 K d tb_M28 35 [(2, vl y2), (1, vi y1), (0, .ref 137)] [vi (alz (atb t (t 137 6)))] s13 _
    by_cases h14 : alz (atb t (t 137 6)) = 0
    · refine mq_t h14 ?_
      refine pr_if1t rfl rfl (i32_z hz13) h14 ?_
      refine pr_n (pc2 := 70) (lv2 := [(2, vl y2), (1, vi y1), (0, .ref 137)]) (st2 := [.ref 137]) 1 (fun _ _ => rfl) ?_
      refine pr_get (v := .ref 141) rfl rfl rfl (by decide) (rv_ref (hE13.2.1 137 4 141 rfl)) fun _ => ?_
      refine pr_n (pc2 := 74) (lv2 := [(2, vl y2), (1, vi y1), (0, .ref 137)]) (st2 := [.ref 137, .ref 141]) 1 (fun _ _ => rfl) ?_
      refine pr_gE (k2 := 137) (v := vi (t 137 5)) hE13 rfl rfl rfl (by decide) rfl rfl rfl fun h15 => ?_
      have h15 : i32 (t 137 5) := h15
      refine pr_n (pc2 := 78) (lv2 := [(2, vl y2), (1, vi y1), (0, .ref 137)]) (st2 := [vl y2, vi (t 137 5), .ref 141]) 1 (fun _ _ => rfl) ?_
      refine pr_sE (k2 := 141) (a := t 137 5) (z := y2) hE13 rfl (by decide) rfl rfl h15 (by decide) rfl hy2 (n0 rfl (by omega) (by omega)) rfl rfl (fun e => absurd e.1 (by decide)) (fun _ => trivial) fun h16 h17 s18 hE18 => ?_
      refine pr_n (pc2 := 80) (lv2 := [(2, vl y2), (1, vi y1), (0, .ref 137)]) (st2 := [.ref 137]) 1 (fun _ _ => rfl) ?_
      refine pr_gE (k2 := 137) (v := vi (t 137 6)) hE18 rfl rfl rfl (by decide) rfl rfl rfl fun h19 => ?_
      have h19 : i32 (t 137 6) := h19
      refine pr_n (pc2 := 84) (lv2 := [(2, vl y2), (1, vi y1), (0, .ref 137)]) (st2 := [vi y1, vi (t 137 6)]) 1 (fun _ _ => rfl) ?_
      refine pr_i2 (a := t 137 6) (b := y1) rfl rfl ?_
      show pr N2 K d tb_M28 85 [(2, vl y2), (1, vi y1), (0, .ref 137)] [vi (imi (t 137 6) y1)] s18 _
      have h20 : i32 (imi (t 137 6) y1) := i32_in _
      refine pr_n (pc2 := 87) (lv2 := [(2, vl y2), (1, vi y1), (0, .ref 137)]) (st2 := [vi 8, vi (imi (t 137 6) y1)]) 1 (fun _ _ => rfl) ?_
      by_cases h21 : imi (t 137 6) y1 ≤ 8
      · refine mq_t h21 ?_
        refine pr_if2t rfl rfl h20 (i32_n rfl) h21 ?_
        refine pr_n (pc2 := 95) (lv2 := [(4, vi 0), (2, vl y2), (1, vi y1), (0, .ref 137)]) (st2 := []) 2 (fun _ _ => rfl) ?_
        exact ((ih N2 hN2).2) s18 (up2 t 141 ((t 137 5).toNat) y2) 0 y2 y1 hE18 (i32_n rfl) hy2 hy1
      · refine mq_f h21 ?_
        refine pr_if2f rfl rfl h20 (i32_n rfl) h21 ?_
        refine pr_n (pc2 := 91) (lv2 := [(2, vl y2), (1, vi y1), (0, .ref 137)]) (st2 := [vi 4]) 1 (fun _ _ => rfl) ?_
        refine pr_end (fun _ _ => rfl) ?_
        exact .inl ⟨_, 4, _, rfl, ⟨rfl, (i32_n rfl)⟩, rfl, hE18⟩
    · refine mq_f h14 ?_
      refine pr_if1f rfl rfl (i32_z hz13) h14 ?_
      refine pr_n (pc2 := 41) (lv2 := [(2, vl y2), (1, vi y1), (0, .ref 137)]) (st2 := [vi 8, vl y2]) 2 (fun _ _ => rfl) ?_
      refine pr_lshl (a := y2) (b := 8) rfl ?_
      refine pr_n (pc2 := 43) (lv2 := [(2, vl y2), (1, vi y1), (0, .ref 137)]) (st2 := [.ref 137, vl (lsl y2 8)]) 1 (fun _ _ => rfl) ?_
      refine pr_get (v := .ref 97) rfl rfl rfl (by decide) (rv_ref (hE13.2.1 137 0 97 rfl)) fun _ => ?_
      refine pr_n (pc2 := 47) (lv2 := [(2, vl y2), (1, vi y1), (0, .ref 137)]) (st2 := [.ref 137, .ref 97, vl (lsl y2 8)]) 1 (fun _ _ => rfl) ?_
      refine pr_gE (k2 := 137) (v := vi (t 137 6)) hE13 rfl rfl rfl (by decide) rfl rfl rfl fun h22 => ?_
      have h22 : i32 (t 137 6) := h22
      refine pr_s1 (args := [vi (t 137 6)]) (rest := [vl (lsl y2 8)]) rfl rfl rfl rfl (Nat.le_of_ble_eq_true rfl) rfl (h_26 s13 t (t 137 6) hE13 h22) s_atb ?_
      rintro _ s23 ⟨rfl, hz23⟩ hE23
      show pr N2 K d tb_M28 53 [(2, vl y2), (1, vi y1), (0, .ref 137)] [vi (atb t (t 137 6)), vl (lsl y2 8)] s23 _
      refine pr_i2l (a := atb t (t 137 6)) rfl hz23 ?_
      have h24 : i64 (atb t (t 137 6)) := i64_32 hz23
      refine pr_l2 (a := lsl y2 8) (b := atb t (t 137 6)) rfl rfl ?_
      show pr N2 K d tb_M28 55 [(2, vl y2), (1, vi y1), (0, .ref 137)] [vl (lo (lsl y2 8) (atb t (t 137 6)))] s23 _
      refine pr_n (pc2 := 58) (lv2 := [(2, vl (lo (lsl y2 8) (atb t (t 137 6)))), (1, vi y1), (0, .ref 137)]) (st2 := [.ref 137, .ref 137]) 3 (fun _ _ => rfl) ?_
      refine pr_gE (k2 := 137) (v := vi (t 137 6)) hE23 rfl rfl rfl (by decide) rfl rfl rfl fun h25 => ?_
      have h25 : i32 (t 137 6) := h25
      refine pr_n (pc2 := 62) (lv2 := [(2, vl (lo (lsl y2 8) (atb t (t 137 6)))), (1, vi y1), (0, .ref 137)]) (st2 := [vi 1, vi (t 137 6), .ref 137]) 1 (fun _ _ => rfl) ?_
      refine pr_i2 (a := t 137 6) (b := 1) rfl rfl ?_
      show pr N2 K d tb_M28 63 [(2, vl (lo (lsl y2 8) (atb t (t 137 6)))), (1, vi y1), (0, .ref 137)] [vi (ipl (t 137 6) 1), .ref 137] s23 _
      have h26 : i32 (ipl (t 137 6) 1) := i32_in _
      refine pr_pE (k2 := 137) (z := ipl (t 137 6) 1) hE23 rfl rfl rfl rfl (by decide) rfl (by decide) rfl (show i32 (ipl (t 137 6) 1) from h26) (hf_int' _) rfl rfl rfl (fun e => absurd e.1 (by decide)) (fun _ => trivial) fun s27 hE27 => ?_
      refine pr_n (pc2 := 7) (lv2 := [(2, vl (lo (lsl y2 8) (atb t (t 137 6)))), (1, vi y1), (0, .ref 137)]) (st2 := []) 1 (fun _ _ => rfl) ?_
      exact ((ih N2 hN2).1) s27 (up2 t 137 6 (ipl (t 137 6) 1)) (lo (lsl y2 8) (atb t (t 137 6))) y1 hE27 (i64_in _) hy1
set_option maxHeartbeats 20000000 in
set_option maxRecDepth 100000 in
theorem cu28_1 {N K d C : Nat} (h_26 : cT26 K d C) (h_29 : cT29 K d C) (ih : ∀ N2, N2 < N → cA28 N2 K d C) : cU28_1 N K d C := by
  intro s t y4 y2 y1 hE hy4 hy2 hy1
  have hC : C = 99 ∨ C = 115 := hE.1
  rw [cG_28_95]
  unfold cM28_95
  refine pr_lt (pc2 := 97) (lv2 := [(4, vi y4), (2, vl y2), (1, vi y1), (0, .ref 137)]) (st2 := [vi y4]) (fun _ _ => rfl) fun N2 hN2 => ?_
  refine pr_n (pc2 := 99) (lv2 := [(4, vi y4), (2, vl y2), (1, vi y1), (0, .ref 137)]) (st2 := [vi 15, vi y4]) 1 (fun _ _ => rfl) ?_
  by_cases h1 : 15 ≤ y4
  · refine mq_t h1 ?_
    refine pr_if2t rfl rfl hy4 (i32_n rfl) h1 ?_
    refine pr_n (pc2 := 128) (lv2 := [(4, vi y4), (2, vl y2), (1, vi y1), (0, .ref 137)]) (st2 := [vi 1]) 1 (fun _ _ => rfl) ?_
    refine pr_end (fun _ _ => rfl) ?_
    exact .inl ⟨_, 1, _, rfl, ⟨rfl, (i32_n rfl)⟩, rfl, hE⟩
  · refine mq_f h1 ?_
    refine pr_if2f rfl rfl hy4 (i32_n rfl) h1 ?_
    refine pr_n (pc2 := 103) (lv2 := [(4, vi y4), (2, vl y2), (1, vi y1), (0, .ref 137)]) (st2 := [.ref 137]) 1 (fun _ _ => rfl) ?_
    refine pr_get (v := .ref 138) rfl rfl rfl (by decide) (rv_ref (hE.2.1 137 1 138 rfl)) fun _ => ?_
    refine pr_n (pc2 := 108) (lv2 := [(4, vi y4), (2, vl y2), (1, vi y1), (0, .ref 137)]) (st2 := [vi y4, .ref 138]) 1 (fun _ _ => rfl) ?_
    refine pr_aE (k2 := 138) (a := y4) (v := vl (t 138 y4.toNat)) hE rfl rfl rfl hy4 (by decide) rfl rfl rfl fun h3 h4 h2 => ?_
    have h2 : i64 (t 138 y4.toNat) := h2
    refine pr_n (pc2 := 110) (lv2 := [(4, vi y4), (2, vl y2), (1, vi y1), (0, .ref 137)]) (st2 := [vl y2, vl (t 138 y4.toNat)]) 1 (fun _ _ => rfl) ?_
    refine pr_lcmp (a := t 138 y4.toNat) (b := y2) rfl h2 hy2 ?_
    by_cases h5 : t 138 y4.toNat ≠ y2
    · refine mq_t h5 ?_
      refine pr_if1t rfl rfl lc_i32 (lc_ne.mpr h5) ?_
      refine pr_inc (a := y4) rfl rfl ?_
      have h6 : i32 (y4 + 1) := by unfold i32 at *; omega
      show pr N2 K d tb_M28 124 [(4, vi (y4 + 1)), (2, vl y2), (1, vi y1), (0, .ref 137)] [] s _
      refine pr_n (pc2 := 95) (lv2 := [(4, vi (y4 + 1)), (2, vl y2), (1, vi y1), (0, .ref 137)]) (st2 := []) 1 (fun _ _ => rfl) ?_
      exact ((ih N2 hN2).2) s t (y4 + 1) y2 y1 hE h6 hy2 hy1
    · refine mq_f h5 ?_
      refine pr_if1f rfl rfl lc_i32 (fun e => h5 (lc_ne.mp e)) ?_
      refine pr_n (pc2 := 119) (lv2 := [(4, vi y4), (2, vl y2), (1, vi y1), (0, .ref 137)]) (st2 := [vi y4, vi 300]) 2 (fun _ _ => rfl) ?_
      refine pr_i2 (a := 300) (b := y4) rfl rfl ?_
      show pr N2 K d tb_M28 120 [(4, vi y4), (2, vl y2), (1, vi y1), (0, .ref 137)] [vi (ipl 300 y4)] s _
      have h7 : i32 (ipl 300 y4) := i32_in _
      refine pr_reti rfl rfl ?_
      exact .inl ⟨_, ipl 300 y4, _, rfl, ⟨rfl, h7⟩, rfl, hE⟩
theorem ca28 {K d C : Nat} (h_26 : cT26 K d C) (h_29 : cT29 K d C) : ∀ N, cA28 N K d C := by
  intro N
  induction N using Nat.strongRecOn with | ind N ih => ?_
  exact ⟨cu28_0 h_26 h_29 ih, cu28_1 h_26 h_29 ih⟩
set_option maxHeartbeats 20000000 in
set_option maxRecDepth 100000 in
theorem cm28 {K d C : Nat} (h_26 : cT26 K d C) (h_29 : cT29 K d C) : cT28 K (d + 1) C := by
  intro s t  hE 
  have hC : C = 99 ∨ C = 115 := hE.1
  refine pcr_of (M := tb_M28) rfl ?_
  show pr K K d tb_M28 0 [(0, .ref 137)] [] s _
  rw [cG_28]
  unfold cM28
  refine pr_n (pc2 := 1) (lv2 := [(0, .ref 137)]) (st2 := [.ref 137]) 1 (fun _ _ => rfl) ?_
  refine pr_gE (k2 := 137) (v := vi (t 137 6)) hE rfl rfl rfl (by decide) rfl rfl rfl fun h1 => ?_
  have h1 : i32 (t 137 6) := h1
  refine pr_n (pc2 := 7) (lv2 := [(2, vl 0), (1, vi (t 137 6)), (0, .ref 137)]) (st2 := []) 3 (fun _ _ => rfl) ?_
  exact ((ca28 h_26 h_29 K).1) s t 0 (t 137 6) hE (i64_n rfl) h1
set_option maxHeartbeats 20000000 in
set_option maxRecDepth 100000 in
theorem cu31_0 {N K d C : Nat} (h_26 : cT26 K d C) (h_30 : cT30 K d C) (ih : ∀ N2, N2 < N → cA31 N2 K d C) : cU31_0 N K d C := by
  intro s t y1 hE hy1
  have hC : C = 99 ∨ C = 115 := hE.1
  rw [cG_31_2]
  unfold cM31_2
  refine pr_lt (pc2 := 3) (lv2 := [(1, vl y1), (0, .ref 137)]) (st2 := [.ref 137]) (fun _ _ => rfl) fun N2 hN2 => ?_
  refine pr_gE (k2 := 137) (v := vi (t 137 6)) hE rfl rfl rfl (by decide) rfl rfl rfl fun h1 => ?_
  have h1 : i32 (t 137 6) := h1
  refine pr_n (pc2 := 7) (lv2 := [(1, vl y1), (0, .ref 137)]) (st2 := [.ref 137, vi (t 137 6)]) 1 (fun _ _ => rfl) ?_
  refine pr_get (v := .ref 97) rfl rfl rfl (by decide) (rv_ref (hE.2.1 137 0 97 rfl)) fun _ => ?_
  refine pr_gE (k2 := 97) (v := vi (t 97 1)) hE rfl rfl rfl (by decide) rfl rfl rfl fun h2 => ?_
  have h2 : i32 (t 97 1) := h2
  by_cases h3 : t 97 1 ≤ t 137 6
  · refine mq_t h3 ?_
    refine pr_if2t rfl rfl h1 h2 h3 ?_
    refine pr_n (pc2 := 76) (lv2 := [(1, vl y1), (0, .ref 137)]) (st2 := [.ref 137]) 1 (fun _ _ => rfl) ?_
    refine pr_get (v := .ref 141) rfl rfl rfl (by decide) (rv_ref (hE.2.1 137 4 141 rfl)) fun _ => ?_
    refine pr_n (pc2 := 80) (lv2 := [(1, vl y1), (0, .ref 137)]) (st2 := [.ref 137, .ref 141]) 1 (fun _ _ => rfl) ?_
    refine pr_gE (k2 := 137) (v := vi (t 137 5)) hE rfl rfl rfl (by decide) rfl rfl rfl fun h4 => ?_
    have h4 : i32 (t 137 5) := h4
    refine pr_n (pc2 := 84) (lv2 := [(1, vl y1), (0, .ref 137)]) (st2 := [vl y1, vi (t 137 5), .ref 141]) 1 (fun _ _ => rfl) ?_
    refine pr_sE (k2 := 141) (a := t 137 5) (z := y1) hE rfl (by decide) rfl rfl h4 (by decide) rfl hy1 (n0 rfl (by omega) (by omega)) rfl rfl (fun e => absurd e.1 (by decide)) (fun _ => trivial) fun h5 h6 s7 hE7 => ?_
    refine pr_n (pc2 := 89) (lv2 := [(1, vl y1), (0, .ref 137)]) (st2 := [vl 65535, vl y1]) 2 (fun _ _ => rfl) ?_
    refine pr_lcmp (a := y1) (b := 65535) rfl hy1 (i64_n rfl) ?_
    by_cases h8 : y1 ≤ 65535
    · refine mq_t h8 ?_
      refine pr_if1t rfl rfl lc_i32 (lc_le.mpr h8) ?_
      refine pr_n (pc2 := 98) (lv2 := [(1, vl y1), (0, .ref 137)]) (st2 := [vi 2]) 1 (fun _ _ => rfl) ?_
      refine pr_end (fun _ _ => rfl) ?_
      exact .inl ⟨_, 2, _, rfl, ⟨rfl, (i32_n rfl)⟩, rfl, hE7⟩
    · refine mq_f h8 ?_
      refine pr_if1f rfl rfl lc_i32 (fun e => h8 (lc_le.mp e)) ?_
      refine pr_n (pc2 := 98) (lv2 := [(1, vl y1), (0, .ref 137)]) (st2 := [vi 4]) 2 (fun _ _ => rfl) ?_
      refine pr_end (fun _ _ => rfl) ?_
      exact .inl ⟨_, 4, _, rfl, ⟨rfl, (i32_n rfl)⟩, rfl, hE7⟩
  · refine mq_f h3 ?_
    refine pr_if2f rfl rfl h1 h2 h3 ?_
    refine pr_n (pc2 := 17) (lv2 := [(1, vl y1), (0, .ref 137)]) (st2 := [.ref 137]) 1 (fun _ _ => rfl) ?_
    refine pr_get (v := .ref 97) rfl rfl rfl (by decide) (rv_ref (hE.2.1 137 0 97 rfl)) fun _ => ?_
    refine pr_n (pc2 := 21) (lv2 := [(1, vl y1), (0, .ref 137)]) (st2 := [.ref 137, .ref 97]) 1 (fun _ _ => rfl) ?_
    refine pr_gE (k2 := 137) (v := vi (t 137 6)) hE rfl rfl rfl (by decide) rfl rfl rfl fun h9 => ?_
    have h9 : i32 (t 137 6) := h9
    refine pr_s1 (args := [vi (t 137 6)]) (rest := []) rfl rfl rfl rfl (Nat.le_of_ble_eq_true rfl) rfl (h_26 s t (t 137 6) hE h9) s_atb ?_
    rintro _ s10 ⟨rfl, hz10⟩ hE10
    show pr N2 K d tb_M31 27 [(1, vl y1), (0, .ref 137)] [vi (atb t (t 137 6))] s10 _
    refine pr_s0 (args := [vi (atb t (t 137 6))]) (rest := []) rfl rfl rfl (Nat.le_of_ble_eq_true rfl) rfl (h_30 s10 t (atb t (t 137 6)) hE10 hz10) s_dgz ?_
    rintro _ s11 ⟨rfl, hz11⟩ hE11
    show pr N2 K d tb_M31 30 [(1, vl y1), (0, .ref 137)] [vi (dgz (atb t (t 137 6)))] s11 _
    by_cases h12 : dgz (atb t (t 137 6)) = 0
    · refine mq_t h12 ?_
      refine pr_if1t rfl rfl (i32_z hz11) h12 ?_
      refine pr_n (pc2 := 76) (lv2 := [(1, vl y1), (0, .ref 137)]) (st2 := [.ref 137]) 1 (fun _ _ => rfl) ?_
      refine pr_get (v := .ref 141) rfl rfl rfl (by decide) (rv_ref (hE11.2.1 137 4 141 rfl)) fun _ => ?_
      refine pr_n (pc2 := 80) (lv2 := [(1, vl y1), (0, .ref 137)]) (st2 := [.ref 137, .ref 141]) 1 (fun _ _ => rfl) ?_
      refine pr_gE (k2 := 137) (v := vi (t 137 5)) hE11 rfl rfl rfl (by decide) rfl rfl rfl fun h13 => ?_
      have h13 : i32 (t 137 5) := h13
      refine pr_n (pc2 := 84) (lv2 := [(1, vl y1), (0, .ref 137)]) (st2 := [vl y1, vi (t 137 5), .ref 141]) 1 (fun _ _ => rfl) ?_
      refine pr_sE (k2 := 141) (a := t 137 5) (z := y1) hE11 rfl (by decide) rfl rfl h13 (by decide) rfl hy1 (n0 rfl (by omega) (by omega)) rfl rfl (fun e => absurd e.1 (by decide)) (fun _ => trivial) fun h14 h15 s16 hE16 => ?_
      refine pr_n (pc2 := 89) (lv2 := [(1, vl y1), (0, .ref 137)]) (st2 := [vl 65535, vl y1]) 2 (fun _ _ => rfl) ?_
      refine pr_lcmp (a := y1) (b := 65535) rfl hy1 (i64_n rfl) ?_
      by_cases h17 : y1 ≤ 65535
      · refine mq_t h17 ?_
        refine pr_if1t rfl rfl lc_i32 (lc_le.mpr h17) ?_
        refine pr_n (pc2 := 98) (lv2 := [(1, vl y1), (0, .ref 137)]) (st2 := [vi 2]) 1 (fun _ _ => rfl) ?_
        refine pr_end (fun _ _ => rfl) ?_
        exact .inl ⟨_, 2, _, rfl, ⟨rfl, (i32_n rfl)⟩, rfl, hE16⟩
      · refine mq_f h17 ?_
        refine pr_if1f rfl rfl lc_i32 (fun e => h17 (lc_le.mp e)) ?_
        refine pr_n (pc2 := 98) (lv2 := [(1, vl y1), (0, .ref 137)]) (st2 := [vi 4]) 2 (fun _ _ => rfl) ?_
        refine pr_end (fun _ _ => rfl) ?_
        exact .inl ⟨_, 4, _, rfl, ⟨rfl, (i32_n rfl)⟩, rfl, hE16⟩
    · refine mq_f h12 ?_
      refine pr_if1f rfl rfl (i32_z hz11) h12 ?_
      refine pr_n (pc2 := 37) (lv2 := [(1, vl y1), (0, .ref 137)]) (st2 := [vl 10, vl y1]) 2 (fun _ _ => rfl) ?_
      refine pr_l2 (a := y1) (b := 10) rfl rfl ?_
      show pr N2 K d tb_M31 38 [(1, vl y1), (0, .ref 137)] [vl (lmu y1 10)] s11 _
      refine pr_n (pc2 := 39) (lv2 := [(1, vl y1), (0, .ref 137)]) (st2 := [.ref 137, vl (lmu y1 10)]) 1 (fun _ _ => rfl) ?_
      refine pr_get (v := .ref 97) rfl rfl rfl (by decide) (rv_ref (hE11.2.1 137 0 97 rfl)) fun _ => ?_
      refine pr_n (pc2 := 43) (lv2 := [(1, vl y1), (0, .ref 137)]) (st2 := [.ref 137, .ref 97, vl (lmu y1 10)]) 1 (fun _ _ => rfl) ?_
      refine pr_gE (k2 := 137) (v := vi (t 137 6)) hE11 rfl rfl rfl (by decide) rfl rfl rfl fun h18 => ?_
      have h18 : i32 (t 137 6) := h18
      refine pr_s1 (args := [vi (t 137 6)]) (rest := [vl (lmu y1 10)]) rfl rfl rfl rfl (Nat.le_of_ble_eq_true rfl) rfl (h_26 s11 t (t 137 6) hE11 h18) s_atb ?_
      rintro _ s19 ⟨rfl, hz19⟩ hE19
      show pr N2 K d tb_M31 49 [(1, vl y1), (0, .ref 137)] [vi (atb t (t 137 6)), vl (lmu y1 10)] s19 _
      refine pr_i2l (a := atb t (t 137 6)) rfl hz19 ?_
      have h20 : i64 (atb t (t 137 6)) := i64_32 hz19
      refine pr_l2 (a := lmu y1 10) (b := atb t (t 137 6)) rfl rfl ?_
      show pr N2 K d tb_M31 51 [(1, vl y1), (0, .ref 137)] [vl (lpl (lmu y1 10) (atb t (t 137 6)))] s19 _
      refine pr_n (pc2 := 54) (lv2 := [(1, vl y1), (0, .ref 137)]) (st2 := [vl 48, vl (lpl (lmu y1 10) (atb t (t 137 6)))]) 1 (fun _ _ => rfl) ?_
      refine pr_l2 (a := lpl (lmu y1 10) (atb t (t 137 6))) (b := 48) rfl rfl ?_
      show pr N2 K d tb_M31 55 [(1, vl y1), (0, .ref 137)] [vl (lmi (lpl (lmu y1 10) (atb t (t 137 6))) 48)] s19 _
      refine pr_n (pc2 := 58) (lv2 := [(1, vl y1), (0, .ref 137)]) (st2 := [vl 65536, vl (lmi (lpl (lmu y1 10) (atb t (t 137 6))) 48)]) 1 (fun _ _ => rfl) ?_
      refine pr_minl (a := lmi (lpl (lmu y1 10) (atb t (t 137 6))) 48) (b := 65536) rfl rfl (i64_in _) (i64_n rfl) (by decide) ?_
      refine pr_n (pc2 := 64) (lv2 := [(1, vl (mnx (lmi (lpl (lmu y1 10) (atb t (t 137 6))) 48) 65536)), (0, .ref 137)]) (st2 := [.ref 137, .ref 137]) 3 (fun _ _ => rfl) ?_
      refine pr_gE (k2 := 137) (v := vi (t 137 6)) hE19 rfl rfl rfl (by decide) rfl rfl rfl fun h21 => ?_
      have h21 : i32 (t 137 6) := h21
      refine pr_n (pc2 := 68) (lv2 := [(1, vl (mnx (lmi (lpl (lmu y1 10) (atb t (t 137 6))) 48) 65536)), (0, .ref 137)]) (st2 := [vi 1, vi (t 137 6), .ref 137]) 1 (fun _ _ => rfl) ?_
      refine pr_add (a := t 137 6) (b := 1) rfl ?_
      have h22 : i32 (t 137 6 + 1) := by unfold i32 at *; omega
      show pr N2 K d tb_M31 69 [(1, vl (mnx (lmi (lpl (lmu y1 10) (atb t (t 137 6))) 48) 65536)), (0, .ref 137)] [vi (t 137 6 + 1), .ref 137] s19 _
      refine pr_pE (k2 := 137) (z := t 137 6 + 1) hE19 rfl rfl rfl rfl (by decide) rfl (by decide) rfl (show i32 (t 137 6 + 1) from h22) (hf_int' _) rfl rfl rfl (fun e => absurd e.1 (by decide)) (fun _ => trivial) fun s23 hE23 => ?_
      refine pr_n (pc2 := 2) (lv2 := [(1, vl (mnx (lmi (lpl (lmu y1 10) (atb t (t 137 6))) 48) 65536)), (0, .ref 137)]) (st2 := []) 1 (fun _ _ => rfl) ?_
      exact ((ih N2 hN2)) s23 (up2 t 137 6 (t 137 6 + 1)) (mnx (lmi (lpl (lmu y1 10) (atb t (t 137 6))) 48) 65536) hE23 (mn_i64 (i64_in _) (i64_n rfl))
theorem ca31 {K d C : Nat} (h_26 : cT26 K d C) (h_30 : cT30 K d C) : ∀ N, cA31 N K d C := by
  intro N
  induction N using Nat.strongRecOn with | ind N ih => ?_
  exact cu31_0 h_26 h_30 ih
set_option maxHeartbeats 20000000 in
set_option maxRecDepth 100000 in
theorem cm31 {K d C : Nat} (h_26 : cT26 K d C) (h_30 : cT30 K d C) : cT31 K (d + 1) C := by
  intro s t  hE 
  have hC : C = 99 ∨ C = 115 := hE.1
  refine pcr_of (M := tb_M31) rfl ?_
  show pr K K d tb_M31 0 [(0, .ref 137)] [] s _
  rw [cG_31]
  unfold cM31
  refine pr_n (pc2 := 2) (lv2 := [(1, vl 0), (0, .ref 137)]) (st2 := []) 2 (fun _ _ => rfl) ?_
  exact ((ca31 h_26 h_30 K)) s t 0 hE (i64_n rfl)
set_option maxHeartbeats 20000000 in
set_option maxRecDepth 100000 in
theorem cm32 {K d C : Nat} (h_26 : cT26 K d C) (h_33 : cT33 K d C) : cT32 K (d + 1) C := by
  intro s t x1 hE hx1
  have hC : C = 99 ∨ C = 115 := hE.1
  refine pcr_of (M := tb_M32) rfl ?_
  show pr K K d tb_M32 0 [(0, .ref 137), (1, vi x1)] [] s _
  rw [cG_32]
  unfold cM32
  refine pr_n (pc2 := 1) (lv2 := [(0, .ref 137), (1, vi x1)]) (st2 := [.ref 137]) 1 (fun _ _ => rfl) ?_
  refine pr_get (v := .ref 97) rfl rfl rfl (by decide) (rv_ref (hE.2.1 137 0 97 rfl)) fun _ => ?_
  refine pr_n (pc2 := 5) (lv2 := [(0, .ref 137), (1, vi x1)]) (st2 := [.ref 137, .ref 97]) 1 (fun _ _ => rfl) ?_
  refine pr_gE (k2 := 137) (v := vi (t 137 6)) hE rfl rfl rfl (by decide) rfl rfl rfl fun h1 => ?_
  have h1 : i32 (t 137 6) := h1
  refine pr_n (pc2 := 9) (lv2 := [(0, .ref 137), (1, vi x1)]) (st2 := [vi 1, vi (t 137 6), .ref 97]) 1 (fun _ _ => rfl) ?_
  refine pr_i2 (a := t 137 6) (b := 1) rfl rfl ?_
  show pr K K d tb_M32 10 [(0, .ref 137), (1, vi x1)] [vi (ipl (t 137 6) 1), .ref 97] s _
  have h2 : i32 (ipl (t 137 6) 1) := i32_in _
  refine pr_s1 (args := [vi (ipl (t 137 6) 1)]) (rest := []) rfl rfl rfl rfl (Nat.le_of_ble_eq_true rfl) rfl (h_26 s t (ipl (t 137 6) 1) hE h2) s_atb ?_
  rintro _ s3 ⟨rfl, hz3⟩ hE3
  show pr K K d tb_M32 13 [(0, .ref 137), (1, vi x1)] [vi (atb t (ipl (t 137 6) 1))] s3 _
  refine pr_n (pc2 := 16) (lv2 := [(2, vi (atb t (ipl (t 137 6) 1))), (0, .ref 137), (1, vi x1)]) (st2 := [vi x1, vi (atb t (ipl (t 137 6) 1))]) 3 (fun _ _ => rfl) ?_
  by_cases h4 : atb t (ipl (t 137 6) 1) ≠ x1
  · refine mq_t h4 ?_
    refine pr_if2t rfl rfl hz3 hx1 h4 ?_
    refine pr_n (pc2 := 58) (lv2 := [(3, vi 0), (2, vi (atb t (ipl (t 137 6) 1))), (0, .ref 137), (1, vi x1)]) (st2 := [vi 61, vi (atb t (ipl (t 137 6) 1))]) 4 (fun _ _ => rfl) ?_
    by_cases h5 : atb t (ipl (t 137 6) 1) ≠ 61
    · refine mq_t h5 ?_
      refine pr_if2t rfl rfl hz3 (i32_n rfl) h5 ?_
      refine pr_n (pc2 := 87) (lv2 := [(4, vi 0), (3, vi 0), (2, vi (atb t (ipl (t 137 6) 1))), (0, .ref 137), (1, vi x1)]) (st2 := [vi 0]) 3 (fun _ _ => rfl) ?_
      refine pr_n (pc2 := 92) (lv2 := [(4, vi 0), (3, vi 0), (2, vi (atb t (ipl (t 137 6) 1))), (0, .ref 137), (1, vi x1)]) (st2 := [vi 0]) 2 (fun _ _ => rfl) ?_
      refine pr_n (pc2 := 114) (lv2 := [(4, vi 0), (3, vi 0), (2, vi (atb t (ipl (t 137 6) 1))), (0, .ref 137), (1, vi x1)]) (st2 := [.ref 137, .ref 137]) 3 (fun _ _ => rfl) ?_
      refine pr_gE (k2 := 137) (v := vi (t 137 6)) hE3 rfl rfl rfl (by decide) rfl rfl rfl fun h6 => ?_
      have h6 : i32 (t 137 6) := h6
      refine pr_n (pc2 := 118) (lv2 := [(4, vi 0), (3, vi 0), (2, vi (atb t (ipl (t 137 6) 1))), (0, .ref 137), (1, vi x1)]) (st2 := [vi 1, vi (t 137 6), .ref 137]) 1 (fun _ _ => rfl) ?_
      refine pr_i2 (a := t 137 6) (b := 1) rfl rfl ?_
      show pr K K d tb_M32 119 [(4, vi 0), (3, vi 0), (2, vi (atb t (ipl (t 137 6) 1))), (0, .ref 137), (1, vi x1)] [vi (ipl (t 137 6) 1), .ref 137] s3 _
      refine pr_pE (k2 := 137) (z := ipl (t 137 6) 1) hE3 rfl rfl rfl rfl (by decide) rfl (by decide) rfl (show i32 (ipl (t 137 6) 1) from h2) (hf_int' _) rfl rfl rfl (fun e => absurd e.1 (by decide)) (fun _ => trivial) fun s8 hE8 => ?_
      refine pr_n (pc2 := 123) (lv2 := [(4, vi 0), (3, vi 0), (2, vi (atb t (ipl (t 137 6) 1))), (0, .ref 137), (1, vi x1)]) (st2 := [vi x1]) 1 (fun _ _ => rfl) ?_
      refine pr_s0 (args := [vi x1]) (rest := []) rfl rfl rfl (Nat.le_of_ble_eq_true rfl) rfl (h_33 s8 (up2 t 137 6 (ipl (t 137 6) 1)) x1 hE8 hx1) s_sgz ?_
      rintro _ s9 ⟨rfl, hz9⟩ hE9
      show pr K K d tb_M32 126 [(4, vi 0), (3, vi 0), (2, vi (atb t (ipl (t 137 6) 1))), (0, .ref 137), (1, vi x1)] [vi (sgz x1)] s9 _
      by_cases h10 : sgz x1 = 0
      · refine mq_t h10 ?_
        refine pr_if1t rfl rfl (i32_z hz9) h10 ?_
        refine pr_n (pc2 := 134) (lv2 := [(4, vi 0), (3, vi 0), (2, vi (atb t (ipl (t 137 6) 1))), (0, .ref 137), (1, vi x1)]) (st2 := [vi 4]) 1 (fun _ _ => rfl) ?_
        refine pr_end (fun _ _ => rfl) ?_
        exact .inl ⟨_, 4, _, rfl, ⟨rfl, (i32_n rfl)⟩, rfl, hE9⟩
      · refine mq_f h10 ?_
        refine pr_if1f rfl rfl (i32_z hz9) h10 ?_
        refine pr_n (pc2 := 134) (lv2 := [(4, vi 0), (3, vi 0), (2, vi (atb t (ipl (t 137 6) 1))), (0, .ref 137), (1, vi x1)]) (st2 := [vi x1]) 2 (fun _ _ => rfl) ?_
        refine pr_reti rfl rfl ?_
        exact .inl ⟨_, x1, _, rfl, ⟨rfl, hx1⟩, rfl, hE9⟩
    · refine mq_f h5 ?_
      refine pr_if2f rfl rfl hz3 (i32_n rfl) h5 ?_
      refine pr_n (pc2 := 64) (lv2 := [(3, vi 0), (2, vi (atb t (ipl (t 137 6) 1))), (0, .ref 137), (1, vi x1)]) (st2 := [vi 33, vi x1]) 2 (fun _ _ => rfl) ?_
      by_cases h11 : x1 = 33
      · refine mq_t h11 ?_
        refine pr_if2t rfl rfl hx1 (i32_n rfl) h11 ?_
        refine pr_n (pc2 := 87) (lv2 := [(4, vi 1), (3, vi 0), (2, vi (atb t (ipl (t 137 6) 1))), (0, .ref 137), (1, vi x1)]) (st2 := [vi 0]) 4 (fun _ _ => rfl) ?_
        refine pr_n (pc2 := 92) (lv2 := [(4, vi 1), (3, vi 0), (2, vi (atb t (ipl (t 137 6) 1))), (0, .ref 137), (1, vi x1)]) (st2 := [vi 1]) 2 (fun _ _ => rfl) ?_
        refine pr_n (pc2 := 97) (lv2 := [(4, vi 1), (3, vi 0), (2, vi (atb t (ipl (t 137 6) 1))), (0, .ref 137), (1, vi x1)]) (st2 := [.ref 137, .ref 137]) 3 (fun _ _ => rfl) ?_
        refine pr_gE (k2 := 137) (v := vi (t 137 6)) hE3 rfl rfl rfl (by decide) rfl rfl rfl fun h12 => ?_
        have h12 : i32 (t 137 6) := h12
        refine pr_n (pc2 := 101) (lv2 := [(4, vi 1), (3, vi 0), (2, vi (atb t (ipl (t 137 6) 1))), (0, .ref 137), (1, vi x1)]) (st2 := [vi 2, vi (t 137 6), .ref 137]) 1 (fun _ _ => rfl) ?_
        refine pr_i2 (a := t 137 6) (b := 2) rfl rfl ?_
        show pr K K d tb_M32 102 [(4, vi 1), (3, vi 0), (2, vi (atb t (ipl (t 137 6) 1))), (0, .ref 137), (1, vi x1)] [vi (ipl (t 137 6) 2), .ref 137] s3 _
        have h13 : i32 (ipl (t 137 6) 2) := i32_in _
        refine pr_pE (k2 := 137) (z := ipl (t 137 6) 2) hE3 rfl rfl rfl rfl (by decide) rfl (by decide) rfl (show i32 (ipl (t 137 6) 2) from h13) (hf_int' _) rfl rfl rfl (fun e => absurd e.1 (by decide)) (fun _ => trivial) fun s14 hE14 => ?_
        refine pr_n (pc2 := 108) (lv2 := [(4, vi 1), (3, vi 0), (2, vi (atb t (ipl (t 137 6) 1))), (0, .ref 137), (1, vi x1)]) (st2 := [vi 8, vi x1]) 2 (fun _ _ => rfl) ?_
        refine pr_i2 (a := x1) (b := 8) rfl rfl ?_
        show pr K K d tb_M32 109 [(4, vi 1), (3, vi 0), (2, vi (atb t (ipl (t 137 6) 1))), (0, .ref 137), (1, vi x1)] [vi (isl x1 8)] s14 _
        have h15 : i32 (isl x1 8) := i32_in _
        refine pr_n (pc2 := 110) (lv2 := [(4, vi 1), (3, vi 0), (2, vi (atb t (ipl (t 137 6) 1))), (0, .ref 137), (1, vi x1)]) (st2 := [vi (atb t (ipl (t 137 6) 1)), vi (isl x1 8)]) 1 (fun _ _ => rfl) ?_
        refine pr_i2 (a := isl x1 8) (b := atb t (ipl (t 137 6) 1)) rfl rfl ?_
        show pr K K d tb_M32 111 [(4, vi 1), (3, vi 0), (2, vi (atb t (ipl (t 137 6) 1))), (0, .ref 137), (1, vi x1)] [vi (ior (isl x1 8) (atb t (ipl (t 137 6) 1)))] s14 _
        have h16 : i32 (ior (isl x1 8) (atb t (ipl (t 137 6) 1))) := i32_in _
        refine pr_reti rfl rfl ?_
        exact .inl ⟨_, ior (isl x1 8) (atb t (ipl (t 137 6) 1)), _, rfl, ⟨rfl, h16⟩, rfl, hE14⟩
      · refine mq_f h11 ?_
        refine pr_if2f rfl rfl hx1 (i32_n rfl) h11 ?_
        refine pr_n (pc2 := 70) (lv2 := [(3, vi 0), (2, vi (atb t (ipl (t 137 6) 1))), (0, .ref 137), (1, vi x1)]) (st2 := [vi 60, vi x1]) 2 (fun _ _ => rfl) ?_
        by_cases h17 : x1 = 60
        · refine mq_t h17 ?_
          refine pr_if2t rfl rfl hx1 (i32_n rfl) h17 ?_
          refine pr_n (pc2 := 87) (lv2 := [(4, vi 1), (3, vi 0), (2, vi (atb t (ipl (t 137 6) 1))), (0, .ref 137), (1, vi x1)]) (st2 := [vi 0]) 4 (fun _ _ => rfl) ?_
          refine pr_n (pc2 := 92) (lv2 := [(4, vi 1), (3, vi 0), (2, vi (atb t (ipl (t 137 6) 1))), (0, .ref 137), (1, vi x1)]) (st2 := [vi 1]) 2 (fun _ _ => rfl) ?_
          refine pr_n (pc2 := 97) (lv2 := [(4, vi 1), (3, vi 0), (2, vi (atb t (ipl (t 137 6) 1))), (0, .ref 137), (1, vi x1)]) (st2 := [.ref 137, .ref 137]) 3 (fun _ _ => rfl) ?_
          refine pr_gE (k2 := 137) (v := vi (t 137 6)) hE3 rfl rfl rfl (by decide) rfl rfl rfl fun h18 => ?_
          have h18 : i32 (t 137 6) := h18
          refine pr_n (pc2 := 101) (lv2 := [(4, vi 1), (3, vi 0), (2, vi (atb t (ipl (t 137 6) 1))), (0, .ref 137), (1, vi x1)]) (st2 := [vi 2, vi (t 137 6), .ref 137]) 1 (fun _ _ => rfl) ?_
          refine pr_i2 (a := t 137 6) (b := 2) rfl rfl ?_
          show pr K K d tb_M32 102 [(4, vi 1), (3, vi 0), (2, vi (atb t (ipl (t 137 6) 1))), (0, .ref 137), (1, vi x1)] [vi (ipl (t 137 6) 2), .ref 137] s3 _
          have h19 : i32 (ipl (t 137 6) 2) := i32_in _
          refine pr_pE (k2 := 137) (z := ipl (t 137 6) 2) hE3 rfl rfl rfl rfl (by decide) rfl (by decide) rfl (show i32 (ipl (t 137 6) 2) from h19) (hf_int' _) rfl rfl rfl (fun e => absurd e.1 (by decide)) (fun _ => trivial) fun s20 hE20 => ?_
          refine pr_n (pc2 := 108) (lv2 := [(4, vi 1), (3, vi 0), (2, vi (atb t (ipl (t 137 6) 1))), (0, .ref 137), (1, vi x1)]) (st2 := [vi 8, vi x1]) 2 (fun _ _ => rfl) ?_
          refine pr_i2 (a := x1) (b := 8) rfl rfl ?_
          show pr K K d tb_M32 109 [(4, vi 1), (3, vi 0), (2, vi (atb t (ipl (t 137 6) 1))), (0, .ref 137), (1, vi x1)] [vi (isl x1 8)] s20 _
          have h21 : i32 (isl x1 8) := i32_in _
          refine pr_n (pc2 := 110) (lv2 := [(4, vi 1), (3, vi 0), (2, vi (atb t (ipl (t 137 6) 1))), (0, .ref 137), (1, vi x1)]) (st2 := [vi (atb t (ipl (t 137 6) 1)), vi (isl x1 8)]) 1 (fun _ _ => rfl) ?_
          refine pr_i2 (a := isl x1 8) (b := atb t (ipl (t 137 6) 1)) rfl rfl ?_
          show pr K K d tb_M32 111 [(4, vi 1), (3, vi 0), (2, vi (atb t (ipl (t 137 6) 1))), (0, .ref 137), (1, vi x1)] [vi (ior (isl x1 8) (atb t (ipl (t 137 6) 1)))] s20 _
          have h22 : i32 (ior (isl x1 8) (atb t (ipl (t 137 6) 1))) := i32_in _
          refine pr_reti rfl rfl ?_
          exact .inl ⟨_, ior (isl x1 8) (atb t (ipl (t 137 6) 1)), _, rfl, ⟨rfl, h22⟩, rfl, hE20⟩
        · refine mq_f h17 ?_
          refine pr_if2f rfl rfl hx1 (i32_n rfl) h17 ?_
          refine pr_n (pc2 := 76) (lv2 := [(3, vi 0), (2, vi (atb t (ipl (t 137 6) 1))), (0, .ref 137), (1, vi x1)]) (st2 := [vi 62, vi x1]) 2 (fun _ _ => rfl) ?_
          by_cases h23 : x1 ≠ 62
          · refine mq_t h23 ?_
            refine pr_if2t rfl rfl hx1 (i32_n rfl) h23 ?_
            refine pr_n (pc2 := 87) (lv2 := [(4, vi 0), (3, vi 0), (2, vi (atb t (ipl (t 137 6) 1))), (0, .ref 137), (1, vi x1)]) (st2 := [vi 0]) 3 (fun _ _ => rfl) ?_
            refine pr_n (pc2 := 92) (lv2 := [(4, vi 0), (3, vi 0), (2, vi (atb t (ipl (t 137 6) 1))), (0, .ref 137), (1, vi x1)]) (st2 := [vi 0]) 2 (fun _ _ => rfl) ?_
            refine pr_n (pc2 := 114) (lv2 := [(4, vi 0), (3, vi 0), (2, vi (atb t (ipl (t 137 6) 1))), (0, .ref 137), (1, vi x1)]) (st2 := [.ref 137, .ref 137]) 3 (fun _ _ => rfl) ?_
            refine pr_gE (k2 := 137) (v := vi (t 137 6)) hE3 rfl rfl rfl (by decide) rfl rfl rfl fun h24 => ?_
            have h24 : i32 (t 137 6) := h24
            refine pr_n (pc2 := 118) (lv2 := [(4, vi 0), (3, vi 0), (2, vi (atb t (ipl (t 137 6) 1))), (0, .ref 137), (1, vi x1)]) (st2 := [vi 1, vi (t 137 6), .ref 137]) 1 (fun _ _ => rfl) ?_
            refine pr_i2 (a := t 137 6) (b := 1) rfl rfl ?_
            show pr K K d tb_M32 119 [(4, vi 0), (3, vi 0), (2, vi (atb t (ipl (t 137 6) 1))), (0, .ref 137), (1, vi x1)] [vi (ipl (t 137 6) 1), .ref 137] s3 _
            refine pr_pE (k2 := 137) (z := ipl (t 137 6) 1) hE3 rfl rfl rfl rfl (by decide) rfl (by decide) rfl (show i32 (ipl (t 137 6) 1) from h2) (hf_int' _) rfl rfl rfl (fun e => absurd e.1 (by decide)) (fun _ => trivial) fun s26 hE26 => ?_
            refine pr_n (pc2 := 123) (lv2 := [(4, vi 0), (3, vi 0), (2, vi (atb t (ipl (t 137 6) 1))), (0, .ref 137), (1, vi x1)]) (st2 := [vi x1]) 1 (fun _ _ => rfl) ?_
            refine pr_s0 (args := [vi x1]) (rest := []) rfl rfl rfl (Nat.le_of_ble_eq_true rfl) rfl (h_33 s26 (up2 t 137 6 (ipl (t 137 6) 1)) x1 hE26 hx1) s_sgz ?_
            rintro _ s27 ⟨rfl, hz27⟩ hE27
            show pr K K d tb_M32 126 [(4, vi 0), (3, vi 0), (2, vi (atb t (ipl (t 137 6) 1))), (0, .ref 137), (1, vi x1)] [vi (sgz x1)] s27 _
            by_cases h28 : sgz x1 = 0
            · refine mq_t h28 ?_
              refine pr_if1t rfl rfl (i32_z hz27) h28 ?_
              refine pr_n (pc2 := 134) (lv2 := [(4, vi 0), (3, vi 0), (2, vi (atb t (ipl (t 137 6) 1))), (0, .ref 137), (1, vi x1)]) (st2 := [vi 4]) 1 (fun _ _ => rfl) ?_
              refine pr_end (fun _ _ => rfl) ?_
              exact .inl ⟨_, 4, _, rfl, ⟨rfl, (i32_n rfl)⟩, rfl, hE27⟩
            · refine mq_f h28 ?_
              refine pr_if1f rfl rfl (i32_z hz27) h28 ?_
              refine pr_n (pc2 := 134) (lv2 := [(4, vi 0), (3, vi 0), (2, vi (atb t (ipl (t 137 6) 1))), (0, .ref 137), (1, vi x1)]) (st2 := [vi x1]) 2 (fun _ _ => rfl) ?_
              refine pr_reti rfl rfl ?_
              exact .inl ⟨_, x1, _, rfl, ⟨rfl, hx1⟩, rfl, hE27⟩
          · refine mq_f h23 ?_
            refine pr_if2f rfl rfl hx1 (i32_n rfl) h23 ?_
            refine pr_n (pc2 := 87) (lv2 := [(4, vi 1), (3, vi 0), (2, vi (atb t (ipl (t 137 6) 1))), (0, .ref 137), (1, vi x1)]) (st2 := [vi 0]) 4 (fun _ _ => rfl) ?_
            refine pr_n (pc2 := 92) (lv2 := [(4, vi 1), (3, vi 0), (2, vi (atb t (ipl (t 137 6) 1))), (0, .ref 137), (1, vi x1)]) (st2 := [vi 1]) 2 (fun _ _ => rfl) ?_
            refine pr_n (pc2 := 97) (lv2 := [(4, vi 1), (3, vi 0), (2, vi (atb t (ipl (t 137 6) 1))), (0, .ref 137), (1, vi x1)]) (st2 := [.ref 137, .ref 137]) 3 (fun _ _ => rfl) ?_
            refine pr_gE (k2 := 137) (v := vi (t 137 6)) hE3 rfl rfl rfl (by decide) rfl rfl rfl fun h29 => ?_
            have h29 : i32 (t 137 6) := h29
            refine pr_n (pc2 := 101) (lv2 := [(4, vi 1), (3, vi 0), (2, vi (atb t (ipl (t 137 6) 1))), (0, .ref 137), (1, vi x1)]) (st2 := [vi 2, vi (t 137 6), .ref 137]) 1 (fun _ _ => rfl) ?_
            refine pr_i2 (a := t 137 6) (b := 2) rfl rfl ?_
            show pr K K d tb_M32 102 [(4, vi 1), (3, vi 0), (2, vi (atb t (ipl (t 137 6) 1))), (0, .ref 137), (1, vi x1)] [vi (ipl (t 137 6) 2), .ref 137] s3 _
            have h30 : i32 (ipl (t 137 6) 2) := i32_in _
            refine pr_pE (k2 := 137) (z := ipl (t 137 6) 2) hE3 rfl rfl rfl rfl (by decide) rfl (by decide) rfl (show i32 (ipl (t 137 6) 2) from h30) (hf_int' _) rfl rfl rfl (fun e => absurd e.1 (by decide)) (fun _ => trivial) fun s31 hE31 => ?_
            refine pr_n (pc2 := 108) (lv2 := [(4, vi 1), (3, vi 0), (2, vi (atb t (ipl (t 137 6) 1))), (0, .ref 137), (1, vi x1)]) (st2 := [vi 8, vi x1]) 2 (fun _ _ => rfl) ?_
            refine pr_i2 (a := x1) (b := 8) rfl rfl ?_
            show pr K K d tb_M32 109 [(4, vi 1), (3, vi 0), (2, vi (atb t (ipl (t 137 6) 1))), (0, .ref 137), (1, vi x1)] [vi (isl x1 8)] s31 _
            have h32 : i32 (isl x1 8) := i32_in _
            refine pr_n (pc2 := 110) (lv2 := [(4, vi 1), (3, vi 0), (2, vi (atb t (ipl (t 137 6) 1))), (0, .ref 137), (1, vi x1)]) (st2 := [vi (atb t (ipl (t 137 6) 1)), vi (isl x1 8)]) 1 (fun _ _ => rfl) ?_
            refine pr_i2 (a := isl x1 8) (b := atb t (ipl (t 137 6) 1)) rfl rfl ?_
            show pr K K d tb_M32 111 [(4, vi 1), (3, vi 0), (2, vi (atb t (ipl (t 137 6) 1))), (0, .ref 137), (1, vi x1)] [vi (ior (isl x1 8) (atb t (ipl (t 137 6) 1)))] s31 _
            have h33 : i32 (ior (isl x1 8) (atb t (ipl (t 137 6) 1))) := i32_in _
            refine pr_reti rfl rfl ?_
            exact .inl ⟨_, ior (isl x1 8) (atb t (ipl (t 137 6) 1)), _, rfl, ⟨rfl, h33⟩, rfl, hE31⟩
  · refine mq_f h4 ?_
    refine pr_if2f rfl rfl hz3 hx1 h4 ?_
    refine pr_n (pc2 := 22) (lv2 := [(2, vi (atb t (ipl (t 137 6) 1))), (0, .ref 137), (1, vi x1)]) (st2 := [vi 38, vi x1]) 2 (fun _ _ => rfl) ?_
    by_cases h34 : x1 = 38
    · refine mq_t h34 ?_
      refine pr_if2t rfl rfl hx1 (i32_n rfl) h34 ?_
      refine pr_n (pc2 := 58) (lv2 := [(3, vi 1), (2, vi (atb t (ipl (t 137 6) 1))), (0, .ref 137), (1, vi x1)]) (st2 := [vi 61, vi (atb t (ipl (t 137 6) 1))]) 5 (fun _ _ => rfl) ?_
      by_cases h35 : atb t (ipl (t 137 6) 1) ≠ 61
      · refine pr_if2t rfl rfl hz3 (i32_n rfl) h35 ?_
        refine pr_n (pc2 := 87) (lv2 := [(4, vi 0), (3, vi 1), (2, vi (atb t (ipl (t 137 6) 1))), (0, .ref 137), (1, vi x1)]) (st2 := [vi 1]) 3 (fun _ _ => rfl) ?_
        refine pr_n (pc2 := 97) (lv2 := [(4, vi 0), (3, vi 1), (2, vi (atb t (ipl (t 137 6) 1))), (0, .ref 137), (1, vi x1)]) (st2 := [.ref 137, .ref 137]) 3 (fun _ _ => rfl) ?_
        refine pr_gE (k2 := 137) (v := vi (t 137 6)) hE3 rfl rfl rfl (by decide) rfl rfl rfl fun h36 => ?_
        have h36 : i32 (t 137 6) := h36
        refine pr_n (pc2 := 101) (lv2 := [(4, vi 0), (3, vi 1), (2, vi (atb t (ipl (t 137 6) 1))), (0, .ref 137), (1, vi x1)]) (st2 := [vi 2, vi (t 137 6), .ref 137]) 1 (fun _ _ => rfl) ?_
        refine pr_i2 (a := t 137 6) (b := 2) rfl rfl ?_
        show pr K K d tb_M32 102 [(4, vi 0), (3, vi 1), (2, vi (atb t (ipl (t 137 6) 1))), (0, .ref 137), (1, vi x1)] [vi (ipl (t 137 6) 2), .ref 137] s3 _
        have h37 : i32 (ipl (t 137 6) 2) := i32_in _
        refine pr_pE (k2 := 137) (z := ipl (t 137 6) 2) hE3 rfl rfl rfl rfl (by decide) rfl (by decide) rfl (show i32 (ipl (t 137 6) 2) from h37) (hf_int' _) rfl rfl rfl (fun e => absurd e.1 (by decide)) (fun _ => trivial) fun s38 hE38 => ?_
        refine pr_n (pc2 := 108) (lv2 := [(4, vi 0), (3, vi 1), (2, vi (atb t (ipl (t 137 6) 1))), (0, .ref 137), (1, vi x1)]) (st2 := [vi 8, vi x1]) 2 (fun _ _ => rfl) ?_
        refine pr_i2 (a := x1) (b := 8) rfl rfl ?_
        show pr K K d tb_M32 109 [(4, vi 0), (3, vi 1), (2, vi (atb t (ipl (t 137 6) 1))), (0, .ref 137), (1, vi x1)] [vi (isl x1 8)] s38 _
        have h39 : i32 (isl x1 8) := i32_in _
        refine pr_n (pc2 := 110) (lv2 := [(4, vi 0), (3, vi 1), (2, vi (atb t (ipl (t 137 6) 1))), (0, .ref 137), (1, vi x1)]) (st2 := [vi (atb t (ipl (t 137 6) 1)), vi (isl x1 8)]) 1 (fun _ _ => rfl) ?_
        refine pr_i2 (a := isl x1 8) (b := atb t (ipl (t 137 6) 1)) rfl rfl ?_
        show pr K K d tb_M32 111 [(4, vi 0), (3, vi 1), (2, vi (atb t (ipl (t 137 6) 1))), (0, .ref 137), (1, vi x1)] [vi (ior (isl x1 8) (atb t (ipl (t 137 6) 1)))] s38 _
        have h40 : i32 (ior (isl x1 8) (atb t (ipl (t 137 6) 1))) := i32_in _
        refine pr_reti rfl rfl ?_
        exact .inl ⟨_, ior (isl x1 8) (atb t (ipl (t 137 6) 1)), _, rfl, ⟨rfl, h40⟩, rfl, hE38⟩
      · refine pr_if2f rfl rfl hz3 (i32_n rfl) h35 ?_
        refine pr_n (pc2 := 64) (lv2 := [(3, vi 1), (2, vi (atb t (ipl (t 137 6) 1))), (0, .ref 137), (1, vi x1)]) (st2 := [vi 33, vi x1]) 2 (fun _ _ => rfl) ?_
        by_cases h41 : x1 = 33
        · refine pr_if2t rfl rfl hx1 (i32_n rfl) h41 ?_
          refine pr_n (pc2 := 87) (lv2 := [(4, vi 1), (3, vi 1), (2, vi (atb t (ipl (t 137 6) 1))), (0, .ref 137), (1, vi x1)]) (st2 := [vi 1]) 4 (fun _ _ => rfl) ?_
          refine pr_n (pc2 := 97) (lv2 := [(4, vi 1), (3, vi 1), (2, vi (atb t (ipl (t 137 6) 1))), (0, .ref 137), (1, vi x1)]) (st2 := [.ref 137, .ref 137]) 3 (fun _ _ => rfl) ?_
          refine pr_gE (k2 := 137) (v := vi (t 137 6)) hE3 rfl rfl rfl (by decide) rfl rfl rfl fun h42 => ?_
          have h42 : i32 (t 137 6) := h42
          refine pr_n (pc2 := 101) (lv2 := [(4, vi 1), (3, vi 1), (2, vi (atb t (ipl (t 137 6) 1))), (0, .ref 137), (1, vi x1)]) (st2 := [vi 2, vi (t 137 6), .ref 137]) 1 (fun _ _ => rfl) ?_
          refine pr_i2 (a := t 137 6) (b := 2) rfl rfl ?_
          show pr K K d tb_M32 102 [(4, vi 1), (3, vi 1), (2, vi (atb t (ipl (t 137 6) 1))), (0, .ref 137), (1, vi x1)] [vi (ipl (t 137 6) 2), .ref 137] s3 _
          have h43 : i32 (ipl (t 137 6) 2) := i32_in _
          refine pr_pE (k2 := 137) (z := ipl (t 137 6) 2) hE3 rfl rfl rfl rfl (by decide) rfl (by decide) rfl (show i32 (ipl (t 137 6) 2) from h43) (hf_int' _) rfl rfl rfl (fun e => absurd e.1 (by decide)) (fun _ => trivial) fun s44 hE44 => ?_
          refine pr_n (pc2 := 108) (lv2 := [(4, vi 1), (3, vi 1), (2, vi (atb t (ipl (t 137 6) 1))), (0, .ref 137), (1, vi x1)]) (st2 := [vi 8, vi x1]) 2 (fun _ _ => rfl) ?_
          refine pr_i2 (a := x1) (b := 8) rfl rfl ?_
          show pr K K d tb_M32 109 [(4, vi 1), (3, vi 1), (2, vi (atb t (ipl (t 137 6) 1))), (0, .ref 137), (1, vi x1)] [vi (isl x1 8)] s44 _
          have h45 : i32 (isl x1 8) := i32_in _
          refine pr_n (pc2 := 110) (lv2 := [(4, vi 1), (3, vi 1), (2, vi (atb t (ipl (t 137 6) 1))), (0, .ref 137), (1, vi x1)]) (st2 := [vi (atb t (ipl (t 137 6) 1)), vi (isl x1 8)]) 1 (fun _ _ => rfl) ?_
          refine pr_i2 (a := isl x1 8) (b := atb t (ipl (t 137 6) 1)) rfl rfl ?_
          show pr K K d tb_M32 111 [(4, vi 1), (3, vi 1), (2, vi (atb t (ipl (t 137 6) 1))), (0, .ref 137), (1, vi x1)] [vi (ior (isl x1 8) (atb t (ipl (t 137 6) 1)))] s44 _
          have h46 : i32 (ior (isl x1 8) (atb t (ipl (t 137 6) 1))) := i32_in _
          refine pr_reti rfl rfl ?_
          exact .inl ⟨_, ior (isl x1 8) (atb t (ipl (t 137 6) 1)), _, rfl, ⟨rfl, h46⟩, rfl, hE44⟩
        · refine pr_if2f rfl rfl hx1 (i32_n rfl) h41 ?_
          refine pr_n (pc2 := 70) (lv2 := [(3, vi 1), (2, vi (atb t (ipl (t 137 6) 1))), (0, .ref 137), (1, vi x1)]) (st2 := [vi 60, vi x1]) 2 (fun _ _ => rfl) ?_
          by_cases h47 : x1 = 60
          · refine pr_if2t rfl rfl hx1 (i32_n rfl) h47 ?_
            refine pr_n (pc2 := 87) (lv2 := [(4, vi 1), (3, vi 1), (2, vi (atb t (ipl (t 137 6) 1))), (0, .ref 137), (1, vi x1)]) (st2 := [vi 1]) 4 (fun _ _ => rfl) ?_
            refine pr_n (pc2 := 97) (lv2 := [(4, vi 1), (3, vi 1), (2, vi (atb t (ipl (t 137 6) 1))), (0, .ref 137), (1, vi x1)]) (st2 := [.ref 137, .ref 137]) 3 (fun _ _ => rfl) ?_
            refine pr_gE (k2 := 137) (v := vi (t 137 6)) hE3 rfl rfl rfl (by decide) rfl rfl rfl fun h48 => ?_
            have h48 : i32 (t 137 6) := h48
            refine pr_n (pc2 := 101) (lv2 := [(4, vi 1), (3, vi 1), (2, vi (atb t (ipl (t 137 6) 1))), (0, .ref 137), (1, vi x1)]) (st2 := [vi 2, vi (t 137 6), .ref 137]) 1 (fun _ _ => rfl) ?_
            refine pr_i2 (a := t 137 6) (b := 2) rfl rfl ?_
            show pr K K d tb_M32 102 [(4, vi 1), (3, vi 1), (2, vi (atb t (ipl (t 137 6) 1))), (0, .ref 137), (1, vi x1)] [vi (ipl (t 137 6) 2), .ref 137] s3 _
            have h49 : i32 (ipl (t 137 6) 2) := i32_in _
            refine pr_pE (k2 := 137) (z := ipl (t 137 6) 2) hE3 rfl rfl rfl rfl (by decide) rfl (by decide) rfl (show i32 (ipl (t 137 6) 2) from h49) (hf_int' _) rfl rfl rfl (fun e => absurd e.1 (by decide)) (fun _ => trivial) fun s50 hE50 => ?_
            refine pr_n (pc2 := 108) (lv2 := [(4, vi 1), (3, vi 1), (2, vi (atb t (ipl (t 137 6) 1))), (0, .ref 137), (1, vi x1)]) (st2 := [vi 8, vi x1]) 2 (fun _ _ => rfl) ?_
            refine pr_i2 (a := x1) (b := 8) rfl rfl ?_
            show pr K K d tb_M32 109 [(4, vi 1), (3, vi 1), (2, vi (atb t (ipl (t 137 6) 1))), (0, .ref 137), (1, vi x1)] [vi (isl x1 8)] s50 _
            have h51 : i32 (isl x1 8) := i32_in _
            refine pr_n (pc2 := 110) (lv2 := [(4, vi 1), (3, vi 1), (2, vi (atb t (ipl (t 137 6) 1))), (0, .ref 137), (1, vi x1)]) (st2 := [vi (atb t (ipl (t 137 6) 1)), vi (isl x1 8)]) 1 (fun _ _ => rfl) ?_
            refine pr_i2 (a := isl x1 8) (b := atb t (ipl (t 137 6) 1)) rfl rfl ?_
            show pr K K d tb_M32 111 [(4, vi 1), (3, vi 1), (2, vi (atb t (ipl (t 137 6) 1))), (0, .ref 137), (1, vi x1)] [vi (ior (isl x1 8) (atb t (ipl (t 137 6) 1)))] s50 _
            have h52 : i32 (ior (isl x1 8) (atb t (ipl (t 137 6) 1))) := i32_in _
            refine pr_reti rfl rfl ?_
            exact .inl ⟨_, ior (isl x1 8) (atb t (ipl (t 137 6) 1)), _, rfl, ⟨rfl, h52⟩, rfl, hE50⟩
          · refine pr_if2f rfl rfl hx1 (i32_n rfl) h47 ?_
            refine pr_n (pc2 := 76) (lv2 := [(3, vi 1), (2, vi (atb t (ipl (t 137 6) 1))), (0, .ref 137), (1, vi x1)]) (st2 := [vi 62, vi x1]) 2 (fun _ _ => rfl) ?_
            by_cases h53 : x1 ≠ 62
            · refine pr_if2t rfl rfl hx1 (i32_n rfl) h53 ?_
              refine pr_n (pc2 := 87) (lv2 := [(4, vi 0), (3, vi 1), (2, vi (atb t (ipl (t 137 6) 1))), (0, .ref 137), (1, vi x1)]) (st2 := [vi 1]) 3 (fun _ _ => rfl) ?_
              refine pr_n (pc2 := 97) (lv2 := [(4, vi 0), (3, vi 1), (2, vi (atb t (ipl (t 137 6) 1))), (0, .ref 137), (1, vi x1)]) (st2 := [.ref 137, .ref 137]) 3 (fun _ _ => rfl) ?_
              refine pr_gE (k2 := 137) (v := vi (t 137 6)) hE3 rfl rfl rfl (by decide) rfl rfl rfl fun h54 => ?_
              have h54 : i32 (t 137 6) := h54
              refine pr_n (pc2 := 101) (lv2 := [(4, vi 0), (3, vi 1), (2, vi (atb t (ipl (t 137 6) 1))), (0, .ref 137), (1, vi x1)]) (st2 := [vi 2, vi (t 137 6), .ref 137]) 1 (fun _ _ => rfl) ?_
              refine pr_i2 (a := t 137 6) (b := 2) rfl rfl ?_
              show pr K K d tb_M32 102 [(4, vi 0), (3, vi 1), (2, vi (atb t (ipl (t 137 6) 1))), (0, .ref 137), (1, vi x1)] [vi (ipl (t 137 6) 2), .ref 137] s3 _
              have h55 : i32 (ipl (t 137 6) 2) := i32_in _
              refine pr_pE (k2 := 137) (z := ipl (t 137 6) 2) hE3 rfl rfl rfl rfl (by decide) rfl (by decide) rfl (show i32 (ipl (t 137 6) 2) from h55) (hf_int' _) rfl rfl rfl (fun e => absurd e.1 (by decide)) (fun _ => trivial) fun s56 hE56 => ?_
              refine pr_n (pc2 := 108) (lv2 := [(4, vi 0), (3, vi 1), (2, vi (atb t (ipl (t 137 6) 1))), (0, .ref 137), (1, vi x1)]) (st2 := [vi 8, vi x1]) 2 (fun _ _ => rfl) ?_
              refine pr_i2 (a := x1) (b := 8) rfl rfl ?_
              show pr K K d tb_M32 109 [(4, vi 0), (3, vi 1), (2, vi (atb t (ipl (t 137 6) 1))), (0, .ref 137), (1, vi x1)] [vi (isl x1 8)] s56 _
              have h57 : i32 (isl x1 8) := i32_in _
              refine pr_n (pc2 := 110) (lv2 := [(4, vi 0), (3, vi 1), (2, vi (atb t (ipl (t 137 6) 1))), (0, .ref 137), (1, vi x1)]) (st2 := [vi (atb t (ipl (t 137 6) 1)), vi (isl x1 8)]) 1 (fun _ _ => rfl) ?_
              refine pr_i2 (a := isl x1 8) (b := atb t (ipl (t 137 6) 1)) rfl rfl ?_
              show pr K K d tb_M32 111 [(4, vi 0), (3, vi 1), (2, vi (atb t (ipl (t 137 6) 1))), (0, .ref 137), (1, vi x1)] [vi (ior (isl x1 8) (atb t (ipl (t 137 6) 1)))] s56 _
              have h58 : i32 (ior (isl x1 8) (atb t (ipl (t 137 6) 1))) := i32_in _
              refine pr_reti rfl rfl ?_
              exact .inl ⟨_, ior (isl x1 8) (atb t (ipl (t 137 6) 1)), _, rfl, ⟨rfl, h58⟩, rfl, hE56⟩
            · refine pr_if2f rfl rfl hx1 (i32_n rfl) h53 ?_
              refine pr_n (pc2 := 87) (lv2 := [(4, vi 1), (3, vi 1), (2, vi (atb t (ipl (t 137 6) 1))), (0, .ref 137), (1, vi x1)]) (st2 := [vi 1]) 4 (fun _ _ => rfl) ?_
              refine pr_n (pc2 := 97) (lv2 := [(4, vi 1), (3, vi 1), (2, vi (atb t (ipl (t 137 6) 1))), (0, .ref 137), (1, vi x1)]) (st2 := [.ref 137, .ref 137]) 3 (fun _ _ => rfl) ?_
              refine pr_gE (k2 := 137) (v := vi (t 137 6)) hE3 rfl rfl rfl (by decide) rfl rfl rfl fun h59 => ?_
              have h59 : i32 (t 137 6) := h59
              refine pr_n (pc2 := 101) (lv2 := [(4, vi 1), (3, vi 1), (2, vi (atb t (ipl (t 137 6) 1))), (0, .ref 137), (1, vi x1)]) (st2 := [vi 2, vi (t 137 6), .ref 137]) 1 (fun _ _ => rfl) ?_
              refine pr_i2 (a := t 137 6) (b := 2) rfl rfl ?_
              show pr K K d tb_M32 102 [(4, vi 1), (3, vi 1), (2, vi (atb t (ipl (t 137 6) 1))), (0, .ref 137), (1, vi x1)] [vi (ipl (t 137 6) 2), .ref 137] s3 _
              have h60 : i32 (ipl (t 137 6) 2) := i32_in _
              refine pr_pE (k2 := 137) (z := ipl (t 137 6) 2) hE3 rfl rfl rfl rfl (by decide) rfl (by decide) rfl (show i32 (ipl (t 137 6) 2) from h60) (hf_int' _) rfl rfl rfl (fun e => absurd e.1 (by decide)) (fun _ => trivial) fun s61 hE61 => ?_
              refine pr_n (pc2 := 108) (lv2 := [(4, vi 1), (3, vi 1), (2, vi (atb t (ipl (t 137 6) 1))), (0, .ref 137), (1, vi x1)]) (st2 := [vi 8, vi x1]) 2 (fun _ _ => rfl) ?_
              refine pr_i2 (a := x1) (b := 8) rfl rfl ?_
              show pr K K d tb_M32 109 [(4, vi 1), (3, vi 1), (2, vi (atb t (ipl (t 137 6) 1))), (0, .ref 137), (1, vi x1)] [vi (isl x1 8)] s61 _
              have h62 : i32 (isl x1 8) := i32_in _
              refine pr_n (pc2 := 110) (lv2 := [(4, vi 1), (3, vi 1), (2, vi (atb t (ipl (t 137 6) 1))), (0, .ref 137), (1, vi x1)]) (st2 := [vi (atb t (ipl (t 137 6) 1)), vi (isl x1 8)]) 1 (fun _ _ => rfl) ?_
              refine pr_i2 (a := isl x1 8) (b := atb t (ipl (t 137 6) 1)) rfl rfl ?_
              show pr K K d tb_M32 111 [(4, vi 1), (3, vi 1), (2, vi (atb t (ipl (t 137 6) 1))), (0, .ref 137), (1, vi x1)] [vi (ior (isl x1 8) (atb t (ipl (t 137 6) 1)))] s61 _
              have h63 : i32 (ior (isl x1 8) (atb t (ipl (t 137 6) 1))) := i32_in _
              refine pr_reti rfl rfl ?_
              exact .inl ⟨_, ior (isl x1 8) (atb t (ipl (t 137 6) 1)), _, rfl, ⟨rfl, h63⟩, rfl, hE61⟩
    · refine mq_f h34 ?_
      refine pr_if2f rfl rfl hx1 (i32_n rfl) h34 ?_
      refine pr_n (pc2 := 28) (lv2 := [(2, vi (atb t (ipl (t 137 6) 1))), (0, .ref 137), (1, vi x1)]) (st2 := [vi 124, vi x1]) 2 (fun _ _ => rfl) ?_
      by_cases h64 : x1 = 124
      · refine mq_t h64 ?_
        refine pr_if2t rfl rfl hx1 (i32_n rfl) h64 ?_
        refine pr_n (pc2 := 58) (lv2 := [(3, vi 1), (2, vi (atb t (ipl (t 137 6) 1))), (0, .ref 137), (1, vi x1)]) (st2 := [vi 61, vi (atb t (ipl (t 137 6) 1))]) 5 (fun _ _ => rfl) ?_
        by_cases h65 : atb t (ipl (t 137 6) 1) ≠ 61
        · refine pr_if2t rfl rfl hz3 (i32_n rfl) h65 ?_
          refine pr_n (pc2 := 87) (lv2 := [(4, vi 0), (3, vi 1), (2, vi (atb t (ipl (t 137 6) 1))), (0, .ref 137), (1, vi x1)]) (st2 := [vi 1]) 3 (fun _ _ => rfl) ?_
          refine pr_n (pc2 := 97) (lv2 := [(4, vi 0), (3, vi 1), (2, vi (atb t (ipl (t 137 6) 1))), (0, .ref 137), (1, vi x1)]) (st2 := [.ref 137, .ref 137]) 3 (fun _ _ => rfl) ?_
          refine pr_gE (k2 := 137) (v := vi (t 137 6)) hE3 rfl rfl rfl (by decide) rfl rfl rfl fun h66 => ?_
          have h66 : i32 (t 137 6) := h66
          refine pr_n (pc2 := 101) (lv2 := [(4, vi 0), (3, vi 1), (2, vi (atb t (ipl (t 137 6) 1))), (0, .ref 137), (1, vi x1)]) (st2 := [vi 2, vi (t 137 6), .ref 137]) 1 (fun _ _ => rfl) ?_
          refine pr_i2 (a := t 137 6) (b := 2) rfl rfl ?_
          show pr K K d tb_M32 102 [(4, vi 0), (3, vi 1), (2, vi (atb t (ipl (t 137 6) 1))), (0, .ref 137), (1, vi x1)] [vi (ipl (t 137 6) 2), .ref 137] s3 _
          have h67 : i32 (ipl (t 137 6) 2) := i32_in _
          refine pr_pE (k2 := 137) (z := ipl (t 137 6) 2) hE3 rfl rfl rfl rfl (by decide) rfl (by decide) rfl (show i32 (ipl (t 137 6) 2) from h67) (hf_int' _) rfl rfl rfl (fun e => absurd e.1 (by decide)) (fun _ => trivial) fun s68 hE68 => ?_
          refine pr_n (pc2 := 108) (lv2 := [(4, vi 0), (3, vi 1), (2, vi (atb t (ipl (t 137 6) 1))), (0, .ref 137), (1, vi x1)]) (st2 := [vi 8, vi x1]) 2 (fun _ _ => rfl) ?_
          refine pr_i2 (a := x1) (b := 8) rfl rfl ?_
          show pr K K d tb_M32 109 [(4, vi 0), (3, vi 1), (2, vi (atb t (ipl (t 137 6) 1))), (0, .ref 137), (1, vi x1)] [vi (isl x1 8)] s68 _
          have h69 : i32 (isl x1 8) := i32_in _
          refine pr_n (pc2 := 110) (lv2 := [(4, vi 0), (3, vi 1), (2, vi (atb t (ipl (t 137 6) 1))), (0, .ref 137), (1, vi x1)]) (st2 := [vi (atb t (ipl (t 137 6) 1)), vi (isl x1 8)]) 1 (fun _ _ => rfl) ?_
          refine pr_i2 (a := isl x1 8) (b := atb t (ipl (t 137 6) 1)) rfl rfl ?_
          show pr K K d tb_M32 111 [(4, vi 0), (3, vi 1), (2, vi (atb t (ipl (t 137 6) 1))), (0, .ref 137), (1, vi x1)] [vi (ior (isl x1 8) (atb t (ipl (t 137 6) 1)))] s68 _
          have h70 : i32 (ior (isl x1 8) (atb t (ipl (t 137 6) 1))) := i32_in _
          refine pr_reti rfl rfl ?_
          exact .inl ⟨_, ior (isl x1 8) (atb t (ipl (t 137 6) 1)), _, rfl, ⟨rfl, h70⟩, rfl, hE68⟩
        · refine pr_if2f rfl rfl hz3 (i32_n rfl) h65 ?_
          refine pr_n (pc2 := 64) (lv2 := [(3, vi 1), (2, vi (atb t (ipl (t 137 6) 1))), (0, .ref 137), (1, vi x1)]) (st2 := [vi 33, vi x1]) 2 (fun _ _ => rfl) ?_
          by_cases h71 : x1 = 33
          · refine pr_if2t rfl rfl hx1 (i32_n rfl) h71 ?_
            refine pr_n (pc2 := 87) (lv2 := [(4, vi 1), (3, vi 1), (2, vi (atb t (ipl (t 137 6) 1))), (0, .ref 137), (1, vi x1)]) (st2 := [vi 1]) 4 (fun _ _ => rfl) ?_
            refine pr_n (pc2 := 97) (lv2 := [(4, vi 1), (3, vi 1), (2, vi (atb t (ipl (t 137 6) 1))), (0, .ref 137), (1, vi x1)]) (st2 := [.ref 137, .ref 137]) 3 (fun _ _ => rfl) ?_
            refine pr_gE (k2 := 137) (v := vi (t 137 6)) hE3 rfl rfl rfl (by decide) rfl rfl rfl fun h72 => ?_
            have h72 : i32 (t 137 6) := h72
            refine pr_n (pc2 := 101) (lv2 := [(4, vi 1), (3, vi 1), (2, vi (atb t (ipl (t 137 6) 1))), (0, .ref 137), (1, vi x1)]) (st2 := [vi 2, vi (t 137 6), .ref 137]) 1 (fun _ _ => rfl) ?_
            refine pr_i2 (a := t 137 6) (b := 2) rfl rfl ?_
            show pr K K d tb_M32 102 [(4, vi 1), (3, vi 1), (2, vi (atb t (ipl (t 137 6) 1))), (0, .ref 137), (1, vi x1)] [vi (ipl (t 137 6) 2), .ref 137] s3 _
            have h73 : i32 (ipl (t 137 6) 2) := i32_in _
            refine pr_pE (k2 := 137) (z := ipl (t 137 6) 2) hE3 rfl rfl rfl rfl (by decide) rfl (by decide) rfl (show i32 (ipl (t 137 6) 2) from h73) (hf_int' _) rfl rfl rfl (fun e => absurd e.1 (by decide)) (fun _ => trivial) fun s74 hE74 => ?_
            refine pr_n (pc2 := 108) (lv2 := [(4, vi 1), (3, vi 1), (2, vi (atb t (ipl (t 137 6) 1))), (0, .ref 137), (1, vi x1)]) (st2 := [vi 8, vi x1]) 2 (fun _ _ => rfl) ?_
            refine pr_i2 (a := x1) (b := 8) rfl rfl ?_
            show pr K K d tb_M32 109 [(4, vi 1), (3, vi 1), (2, vi (atb t (ipl (t 137 6) 1))), (0, .ref 137), (1, vi x1)] [vi (isl x1 8)] s74 _
            have h75 : i32 (isl x1 8) := i32_in _
            refine pr_n (pc2 := 110) (lv2 := [(4, vi 1), (3, vi 1), (2, vi (atb t (ipl (t 137 6) 1))), (0, .ref 137), (1, vi x1)]) (st2 := [vi (atb t (ipl (t 137 6) 1)), vi (isl x1 8)]) 1 (fun _ _ => rfl) ?_
            refine pr_i2 (a := isl x1 8) (b := atb t (ipl (t 137 6) 1)) rfl rfl ?_
            show pr K K d tb_M32 111 [(4, vi 1), (3, vi 1), (2, vi (atb t (ipl (t 137 6) 1))), (0, .ref 137), (1, vi x1)] [vi (ior (isl x1 8) (atb t (ipl (t 137 6) 1)))] s74 _
            have h76 : i32 (ior (isl x1 8) (atb t (ipl (t 137 6) 1))) := i32_in _
            refine pr_reti rfl rfl ?_
            exact .inl ⟨_, ior (isl x1 8) (atb t (ipl (t 137 6) 1)), _, rfl, ⟨rfl, h76⟩, rfl, hE74⟩
          · refine pr_if2f rfl rfl hx1 (i32_n rfl) h71 ?_
            refine pr_n (pc2 := 70) (lv2 := [(3, vi 1), (2, vi (atb t (ipl (t 137 6) 1))), (0, .ref 137), (1, vi x1)]) (st2 := [vi 60, vi x1]) 2 (fun _ _ => rfl) ?_
            by_cases h77 : x1 = 60
            · refine pr_if2t rfl rfl hx1 (i32_n rfl) h77 ?_
              refine pr_n (pc2 := 87) (lv2 := [(4, vi 1), (3, vi 1), (2, vi (atb t (ipl (t 137 6) 1))), (0, .ref 137), (1, vi x1)]) (st2 := [vi 1]) 4 (fun _ _ => rfl) ?_
              refine pr_n (pc2 := 97) (lv2 := [(4, vi 1), (3, vi 1), (2, vi (atb t (ipl (t 137 6) 1))), (0, .ref 137), (1, vi x1)]) (st2 := [.ref 137, .ref 137]) 3 (fun _ _ => rfl) ?_
              refine pr_gE (k2 := 137) (v := vi (t 137 6)) hE3 rfl rfl rfl (by decide) rfl rfl rfl fun h78 => ?_
              have h78 : i32 (t 137 6) := h78
              refine pr_n (pc2 := 101) (lv2 := [(4, vi 1), (3, vi 1), (2, vi (atb t (ipl (t 137 6) 1))), (0, .ref 137), (1, vi x1)]) (st2 := [vi 2, vi (t 137 6), .ref 137]) 1 (fun _ _ => rfl) ?_
              refine pr_i2 (a := t 137 6) (b := 2) rfl rfl ?_
              show pr K K d tb_M32 102 [(4, vi 1), (3, vi 1), (2, vi (atb t (ipl (t 137 6) 1))), (0, .ref 137), (1, vi x1)] [vi (ipl (t 137 6) 2), .ref 137] s3 _
              have h79 : i32 (ipl (t 137 6) 2) := i32_in _
              refine pr_pE (k2 := 137) (z := ipl (t 137 6) 2) hE3 rfl rfl rfl rfl (by decide) rfl (by decide) rfl (show i32 (ipl (t 137 6) 2) from h79) (hf_int' _) rfl rfl rfl (fun e => absurd e.1 (by decide)) (fun _ => trivial) fun s80 hE80 => ?_
              refine pr_n (pc2 := 108) (lv2 := [(4, vi 1), (3, vi 1), (2, vi (atb t (ipl (t 137 6) 1))), (0, .ref 137), (1, vi x1)]) (st2 := [vi 8, vi x1]) 2 (fun _ _ => rfl) ?_
              refine pr_i2 (a := x1) (b := 8) rfl rfl ?_
              show pr K K d tb_M32 109 [(4, vi 1), (3, vi 1), (2, vi (atb t (ipl (t 137 6) 1))), (0, .ref 137), (1, vi x1)] [vi (isl x1 8)] s80 _
              have h81 : i32 (isl x1 8) := i32_in _
              refine pr_n (pc2 := 110) (lv2 := [(4, vi 1), (3, vi 1), (2, vi (atb t (ipl (t 137 6) 1))), (0, .ref 137), (1, vi x1)]) (st2 := [vi (atb t (ipl (t 137 6) 1)), vi (isl x1 8)]) 1 (fun _ _ => rfl) ?_
              refine pr_i2 (a := isl x1 8) (b := atb t (ipl (t 137 6) 1)) rfl rfl ?_
              show pr K K d tb_M32 111 [(4, vi 1), (3, vi 1), (2, vi (atb t (ipl (t 137 6) 1))), (0, .ref 137), (1, vi x1)] [vi (ior (isl x1 8) (atb t (ipl (t 137 6) 1)))] s80 _
              have h82 : i32 (ior (isl x1 8) (atb t (ipl (t 137 6) 1))) := i32_in _
              refine pr_reti rfl rfl ?_
              exact .inl ⟨_, ior (isl x1 8) (atb t (ipl (t 137 6) 1)), _, rfl, ⟨rfl, h82⟩, rfl, hE80⟩
            · refine pr_if2f rfl rfl hx1 (i32_n rfl) h77 ?_
              refine pr_n (pc2 := 76) (lv2 := [(3, vi 1), (2, vi (atb t (ipl (t 137 6) 1))), (0, .ref 137), (1, vi x1)]) (st2 := [vi 62, vi x1]) 2 (fun _ _ => rfl) ?_
              by_cases h83 : x1 ≠ 62
              · refine pr_if2t rfl rfl hx1 (i32_n rfl) h83 ?_
                refine pr_n (pc2 := 87) (lv2 := [(4, vi 0), (3, vi 1), (2, vi (atb t (ipl (t 137 6) 1))), (0, .ref 137), (1, vi x1)]) (st2 := [vi 1]) 3 (fun _ _ => rfl) ?_
                refine pr_n (pc2 := 97) (lv2 := [(4, vi 0), (3, vi 1), (2, vi (atb t (ipl (t 137 6) 1))), (0, .ref 137), (1, vi x1)]) (st2 := [.ref 137, .ref 137]) 3 (fun _ _ => rfl) ?_
                refine pr_gE (k2 := 137) (v := vi (t 137 6)) hE3 rfl rfl rfl (by decide) rfl rfl rfl fun h84 => ?_
                have h84 : i32 (t 137 6) := h84
                refine pr_n (pc2 := 101) (lv2 := [(4, vi 0), (3, vi 1), (2, vi (atb t (ipl (t 137 6) 1))), (0, .ref 137), (1, vi x1)]) (st2 := [vi 2, vi (t 137 6), .ref 137]) 1 (fun _ _ => rfl) ?_
                refine pr_i2 (a := t 137 6) (b := 2) rfl rfl ?_
                show pr K K d tb_M32 102 [(4, vi 0), (3, vi 1), (2, vi (atb t (ipl (t 137 6) 1))), (0, .ref 137), (1, vi x1)] [vi (ipl (t 137 6) 2), .ref 137] s3 _
                have h85 : i32 (ipl (t 137 6) 2) := i32_in _
                refine pr_pE (k2 := 137) (z := ipl (t 137 6) 2) hE3 rfl rfl rfl rfl (by decide) rfl (by decide) rfl (show i32 (ipl (t 137 6) 2) from h85) (hf_int' _) rfl rfl rfl (fun e => absurd e.1 (by decide)) (fun _ => trivial) fun s86 hE86 => ?_
                refine pr_n (pc2 := 108) (lv2 := [(4, vi 0), (3, vi 1), (2, vi (atb t (ipl (t 137 6) 1))), (0, .ref 137), (1, vi x1)]) (st2 := [vi 8, vi x1]) 2 (fun _ _ => rfl) ?_
                refine pr_i2 (a := x1) (b := 8) rfl rfl ?_
                show pr K K d tb_M32 109 [(4, vi 0), (3, vi 1), (2, vi (atb t (ipl (t 137 6) 1))), (0, .ref 137), (1, vi x1)] [vi (isl x1 8)] s86 _
                have h87 : i32 (isl x1 8) := i32_in _
                refine pr_n (pc2 := 110) (lv2 := [(4, vi 0), (3, vi 1), (2, vi (atb t (ipl (t 137 6) 1))), (0, .ref 137), (1, vi x1)]) (st2 := [vi (atb t (ipl (t 137 6) 1)), vi (isl x1 8)]) 1 (fun _ _ => rfl) ?_
                refine pr_i2 (a := isl x1 8) (b := atb t (ipl (t 137 6) 1)) rfl rfl ?_
                show pr K K d tb_M32 111 [(4, vi 0), (3, vi 1), (2, vi (atb t (ipl (t 137 6) 1))), (0, .ref 137), (1, vi x1)] [vi (ior (isl x1 8) (atb t (ipl (t 137 6) 1)))] s86 _
                have h88 : i32 (ior (isl x1 8) (atb t (ipl (t 137 6) 1))) := i32_in _
                refine pr_reti rfl rfl ?_
                exact .inl ⟨_, ior (isl x1 8) (atb t (ipl (t 137 6) 1)), _, rfl, ⟨rfl, h88⟩, rfl, hE86⟩
              · refine pr_if2f rfl rfl hx1 (i32_n rfl) h83 ?_
                refine pr_n (pc2 := 87) (lv2 := [(4, vi 1), (3, vi 1), (2, vi (atb t (ipl (t 137 6) 1))), (0, .ref 137), (1, vi x1)]) (st2 := [vi 1]) 4 (fun _ _ => rfl) ?_
                refine pr_n (pc2 := 97) (lv2 := [(4, vi 1), (3, vi 1), (2, vi (atb t (ipl (t 137 6) 1))), (0, .ref 137), (1, vi x1)]) (st2 := [.ref 137, .ref 137]) 3 (fun _ _ => rfl) ?_
                refine pr_gE (k2 := 137) (v := vi (t 137 6)) hE3 rfl rfl rfl (by decide) rfl rfl rfl fun h89 => ?_
                have h89 : i32 (t 137 6) := h89
                refine pr_n (pc2 := 101) (lv2 := [(4, vi 1), (3, vi 1), (2, vi (atb t (ipl (t 137 6) 1))), (0, .ref 137), (1, vi x1)]) (st2 := [vi 2, vi (t 137 6), .ref 137]) 1 (fun _ _ => rfl) ?_
                refine pr_i2 (a := t 137 6) (b := 2) rfl rfl ?_
                show pr K K d tb_M32 102 [(4, vi 1), (3, vi 1), (2, vi (atb t (ipl (t 137 6) 1))), (0, .ref 137), (1, vi x1)] [vi (ipl (t 137 6) 2), .ref 137] s3 _
                have h90 : i32 (ipl (t 137 6) 2) := i32_in _
                refine pr_pE (k2 := 137) (z := ipl (t 137 6) 2) hE3 rfl rfl rfl rfl (by decide) rfl (by decide) rfl (show i32 (ipl (t 137 6) 2) from h90) (hf_int' _) rfl rfl rfl (fun e => absurd e.1 (by decide)) (fun _ => trivial) fun s91 hE91 => ?_
                refine pr_n (pc2 := 108) (lv2 := [(4, vi 1), (3, vi 1), (2, vi (atb t (ipl (t 137 6) 1))), (0, .ref 137), (1, vi x1)]) (st2 := [vi 8, vi x1]) 2 (fun _ _ => rfl) ?_
                refine pr_i2 (a := x1) (b := 8) rfl rfl ?_
                show pr K K d tb_M32 109 [(4, vi 1), (3, vi 1), (2, vi (atb t (ipl (t 137 6) 1))), (0, .ref 137), (1, vi x1)] [vi (isl x1 8)] s91 _
                have h92 : i32 (isl x1 8) := i32_in _
                refine pr_n (pc2 := 110) (lv2 := [(4, vi 1), (3, vi 1), (2, vi (atb t (ipl (t 137 6) 1))), (0, .ref 137), (1, vi x1)]) (st2 := [vi (atb t (ipl (t 137 6) 1)), vi (isl x1 8)]) 1 (fun _ _ => rfl) ?_
                refine pr_i2 (a := isl x1 8) (b := atb t (ipl (t 137 6) 1)) rfl rfl ?_
                show pr K K d tb_M32 111 [(4, vi 1), (3, vi 1), (2, vi (atb t (ipl (t 137 6) 1))), (0, .ref 137), (1, vi x1)] [vi (ior (isl x1 8) (atb t (ipl (t 137 6) 1)))] s91 _
                have h93 : i32 (ior (isl x1 8) (atb t (ipl (t 137 6) 1))) := i32_in _
                refine pr_reti rfl rfl ?_
                exact .inl ⟨_, ior (isl x1 8) (atb t (ipl (t 137 6) 1)), _, rfl, ⟨rfl, h93⟩, rfl, hE91⟩
      · refine mq_f h64 ?_
        refine pr_if2f rfl rfl hx1 (i32_n rfl) h64 ?_
        refine pr_n (pc2 := 34) (lv2 := [(2, vi (atb t (ipl (t 137 6) 1))), (0, .ref 137), (1, vi x1)]) (st2 := [vi 61, vi x1]) 2 (fun _ _ => rfl) ?_
        by_cases h94 : x1 = 61
        · refine mq_t h94 ?_
          refine pr_if2t rfl rfl hx1 (i32_n rfl) h94 ?_
          refine pr_n (pc2 := 58) (lv2 := [(3, vi 1), (2, vi (atb t (ipl (t 137 6) 1))), (0, .ref 137), (1, vi x1)]) (st2 := [vi 61, vi (atb t (ipl (t 137 6) 1))]) 5 (fun _ _ => rfl) ?_
          by_cases h95 : atb t (ipl (t 137 6) 1) ≠ 61
          · refine pr_if2t rfl rfl hz3 (i32_n rfl) h95 ?_
            refine pr_n (pc2 := 87) (lv2 := [(4, vi 0), (3, vi 1), (2, vi (atb t (ipl (t 137 6) 1))), (0, .ref 137), (1, vi x1)]) (st2 := [vi 1]) 3 (fun _ _ => rfl) ?_
            refine pr_n (pc2 := 97) (lv2 := [(4, vi 0), (3, vi 1), (2, vi (atb t (ipl (t 137 6) 1))), (0, .ref 137), (1, vi x1)]) (st2 := [.ref 137, .ref 137]) 3 (fun _ _ => rfl) ?_
            refine pr_gE (k2 := 137) (v := vi (t 137 6)) hE3 rfl rfl rfl (by decide) rfl rfl rfl fun h96 => ?_
            have h96 : i32 (t 137 6) := h96
            refine pr_n (pc2 := 101) (lv2 := [(4, vi 0), (3, vi 1), (2, vi (atb t (ipl (t 137 6) 1))), (0, .ref 137), (1, vi x1)]) (st2 := [vi 2, vi (t 137 6), .ref 137]) 1 (fun _ _ => rfl) ?_
            refine pr_i2 (a := t 137 6) (b := 2) rfl rfl ?_
            show pr K K d tb_M32 102 [(4, vi 0), (3, vi 1), (2, vi (atb t (ipl (t 137 6) 1))), (0, .ref 137), (1, vi x1)] [vi (ipl (t 137 6) 2), .ref 137] s3 _
            have h97 : i32 (ipl (t 137 6) 2) := i32_in _
            refine pr_pE (k2 := 137) (z := ipl (t 137 6) 2) hE3 rfl rfl rfl rfl (by decide) rfl (by decide) rfl (show i32 (ipl (t 137 6) 2) from h97) (hf_int' _) rfl rfl rfl (fun e => absurd e.1 (by decide)) (fun _ => trivial) fun s98 hE98 => ?_
            refine pr_n (pc2 := 108) (lv2 := [(4, vi 0), (3, vi 1), (2, vi (atb t (ipl (t 137 6) 1))), (0, .ref 137), (1, vi x1)]) (st2 := [vi 8, vi x1]) 2 (fun _ _ => rfl) ?_
            refine pr_i2 (a := x1) (b := 8) rfl rfl ?_
            show pr K K d tb_M32 109 [(4, vi 0), (3, vi 1), (2, vi (atb t (ipl (t 137 6) 1))), (0, .ref 137), (1, vi x1)] [vi (isl x1 8)] s98 _
            have h99 : i32 (isl x1 8) := i32_in _
            refine pr_n (pc2 := 110) (lv2 := [(4, vi 0), (3, vi 1), (2, vi (atb t (ipl (t 137 6) 1))), (0, .ref 137), (1, vi x1)]) (st2 := [vi (atb t (ipl (t 137 6) 1)), vi (isl x1 8)]) 1 (fun _ _ => rfl) ?_
            refine pr_i2 (a := isl x1 8) (b := atb t (ipl (t 137 6) 1)) rfl rfl ?_
            show pr K K d tb_M32 111 [(4, vi 0), (3, vi 1), (2, vi (atb t (ipl (t 137 6) 1))), (0, .ref 137), (1, vi x1)] [vi (ior (isl x1 8) (atb t (ipl (t 137 6) 1)))] s98 _
            have h100 : i32 (ior (isl x1 8) (atb t (ipl (t 137 6) 1))) := i32_in _
            refine pr_reti rfl rfl ?_
            exact .inl ⟨_, ior (isl x1 8) (atb t (ipl (t 137 6) 1)), _, rfl, ⟨rfl, h100⟩, rfl, hE98⟩
          · refine pr_if2f rfl rfl hz3 (i32_n rfl) h95 ?_
            refine pr_n (pc2 := 64) (lv2 := [(3, vi 1), (2, vi (atb t (ipl (t 137 6) 1))), (0, .ref 137), (1, vi x1)]) (st2 := [vi 33, vi x1]) 2 (fun _ _ => rfl) ?_
            by_cases h101 : x1 = 33
            · refine pr_if2t rfl rfl hx1 (i32_n rfl) h101 ?_
              refine pr_n (pc2 := 87) (lv2 := [(4, vi 1), (3, vi 1), (2, vi (atb t (ipl (t 137 6) 1))), (0, .ref 137), (1, vi x1)]) (st2 := [vi 1]) 4 (fun _ _ => rfl) ?_
              refine pr_n (pc2 := 97) (lv2 := [(4, vi 1), (3, vi 1), (2, vi (atb t (ipl (t 137 6) 1))), (0, .ref 137), (1, vi x1)]) (st2 := [.ref 137, .ref 137]) 3 (fun _ _ => rfl) ?_
              refine pr_gE (k2 := 137) (v := vi (t 137 6)) hE3 rfl rfl rfl (by decide) rfl rfl rfl fun h102 => ?_
              have h102 : i32 (t 137 6) := h102
              refine pr_n (pc2 := 101) (lv2 := [(4, vi 1), (3, vi 1), (2, vi (atb t (ipl (t 137 6) 1))), (0, .ref 137), (1, vi x1)]) (st2 := [vi 2, vi (t 137 6), .ref 137]) 1 (fun _ _ => rfl) ?_
              refine pr_i2 (a := t 137 6) (b := 2) rfl rfl ?_
              show pr K K d tb_M32 102 [(4, vi 1), (3, vi 1), (2, vi (atb t (ipl (t 137 6) 1))), (0, .ref 137), (1, vi x1)] [vi (ipl (t 137 6) 2), .ref 137] s3 _
              have h103 : i32 (ipl (t 137 6) 2) := i32_in _
              refine pr_pE (k2 := 137) (z := ipl (t 137 6) 2) hE3 rfl rfl rfl rfl (by decide) rfl (by decide) rfl (show i32 (ipl (t 137 6) 2) from h103) (hf_int' _) rfl rfl rfl (fun e => absurd e.1 (by decide)) (fun _ => trivial) fun s104 hE104 => ?_
              refine pr_n (pc2 := 108) (lv2 := [(4, vi 1), (3, vi 1), (2, vi (atb t (ipl (t 137 6) 1))), (0, .ref 137), (1, vi x1)]) (st2 := [vi 8, vi x1]) 2 (fun _ _ => rfl) ?_
              refine pr_i2 (a := x1) (b := 8) rfl rfl ?_
              show pr K K d tb_M32 109 [(4, vi 1), (3, vi 1), (2, vi (atb t (ipl (t 137 6) 1))), (0, .ref 137), (1, vi x1)] [vi (isl x1 8)] s104 _
              have h105 : i32 (isl x1 8) := i32_in _
              refine pr_n (pc2 := 110) (lv2 := [(4, vi 1), (3, vi 1), (2, vi (atb t (ipl (t 137 6) 1))), (0, .ref 137), (1, vi x1)]) (st2 := [vi (atb t (ipl (t 137 6) 1)), vi (isl x1 8)]) 1 (fun _ _ => rfl) ?_
              refine pr_i2 (a := isl x1 8) (b := atb t (ipl (t 137 6) 1)) rfl rfl ?_
              show pr K K d tb_M32 111 [(4, vi 1), (3, vi 1), (2, vi (atb t (ipl (t 137 6) 1))), (0, .ref 137), (1, vi x1)] [vi (ior (isl x1 8) (atb t (ipl (t 137 6) 1)))] s104 _
              have h106 : i32 (ior (isl x1 8) (atb t (ipl (t 137 6) 1))) := i32_in _
              refine pr_reti rfl rfl ?_
              exact .inl ⟨_, ior (isl x1 8) (atb t (ipl (t 137 6) 1)), _, rfl, ⟨rfl, h106⟩, rfl, hE104⟩
            · refine pr_if2f rfl rfl hx1 (i32_n rfl) h101 ?_
              refine pr_n (pc2 := 70) (lv2 := [(3, vi 1), (2, vi (atb t (ipl (t 137 6) 1))), (0, .ref 137), (1, vi x1)]) (st2 := [vi 60, vi x1]) 2 (fun _ _ => rfl) ?_
              by_cases h107 : x1 = 60
              · refine pr_if2t rfl rfl hx1 (i32_n rfl) h107 ?_
                refine pr_n (pc2 := 87) (lv2 := [(4, vi 1), (3, vi 1), (2, vi (atb t (ipl (t 137 6) 1))), (0, .ref 137), (1, vi x1)]) (st2 := [vi 1]) 4 (fun _ _ => rfl) ?_
                refine pr_n (pc2 := 97) (lv2 := [(4, vi 1), (3, vi 1), (2, vi (atb t (ipl (t 137 6) 1))), (0, .ref 137), (1, vi x1)]) (st2 := [.ref 137, .ref 137]) 3 (fun _ _ => rfl) ?_
                refine pr_gE (k2 := 137) (v := vi (t 137 6)) hE3 rfl rfl rfl (by decide) rfl rfl rfl fun h108 => ?_
                have h108 : i32 (t 137 6) := h108
                refine pr_n (pc2 := 101) (lv2 := [(4, vi 1), (3, vi 1), (2, vi (atb t (ipl (t 137 6) 1))), (0, .ref 137), (1, vi x1)]) (st2 := [vi 2, vi (t 137 6), .ref 137]) 1 (fun _ _ => rfl) ?_
                refine pr_i2 (a := t 137 6) (b := 2) rfl rfl ?_
                show pr K K d tb_M32 102 [(4, vi 1), (3, vi 1), (2, vi (atb t (ipl (t 137 6) 1))), (0, .ref 137), (1, vi x1)] [vi (ipl (t 137 6) 2), .ref 137] s3 _
                have h109 : i32 (ipl (t 137 6) 2) := i32_in _
                refine pr_pE (k2 := 137) (z := ipl (t 137 6) 2) hE3 rfl rfl rfl rfl (by decide) rfl (by decide) rfl (show i32 (ipl (t 137 6) 2) from h109) (hf_int' _) rfl rfl rfl (fun e => absurd e.1 (by decide)) (fun _ => trivial) fun s110 hE110 => ?_
                refine pr_n (pc2 := 108) (lv2 := [(4, vi 1), (3, vi 1), (2, vi (atb t (ipl (t 137 6) 1))), (0, .ref 137), (1, vi x1)]) (st2 := [vi 8, vi x1]) 2 (fun _ _ => rfl) ?_
                refine pr_i2 (a := x1) (b := 8) rfl rfl ?_
                show pr K K d tb_M32 109 [(4, vi 1), (3, vi 1), (2, vi (atb t (ipl (t 137 6) 1))), (0, .ref 137), (1, vi x1)] [vi (isl x1 8)] s110 _
                have h111 : i32 (isl x1 8) := i32_in _
                refine pr_n (pc2 := 110) (lv2 := [(4, vi 1), (3, vi 1), (2, vi (atb t (ipl (t 137 6) 1))), (0, .ref 137), (1, vi x1)]) (st2 := [vi (atb t (ipl (t 137 6) 1)), vi (isl x1 8)]) 1 (fun _ _ => rfl) ?_
                refine pr_i2 (a := isl x1 8) (b := atb t (ipl (t 137 6) 1)) rfl rfl ?_
                show pr K K d tb_M32 111 [(4, vi 1), (3, vi 1), (2, vi (atb t (ipl (t 137 6) 1))), (0, .ref 137), (1, vi x1)] [vi (ior (isl x1 8) (atb t (ipl (t 137 6) 1)))] s110 _
                have h112 : i32 (ior (isl x1 8) (atb t (ipl (t 137 6) 1))) := i32_in _
                refine pr_reti rfl rfl ?_
                exact .inl ⟨_, ior (isl x1 8) (atb t (ipl (t 137 6) 1)), _, rfl, ⟨rfl, h112⟩, rfl, hE110⟩
              · refine pr_if2f rfl rfl hx1 (i32_n rfl) h107 ?_
                refine pr_n (pc2 := 76) (lv2 := [(3, vi 1), (2, vi (atb t (ipl (t 137 6) 1))), (0, .ref 137), (1, vi x1)]) (st2 := [vi 62, vi x1]) 2 (fun _ _ => rfl) ?_
                by_cases h113 : x1 ≠ 62
                · refine pr_if2t rfl rfl hx1 (i32_n rfl) h113 ?_
                  refine pr_n (pc2 := 87) (lv2 := [(4, vi 0), (3, vi 1), (2, vi (atb t (ipl (t 137 6) 1))), (0, .ref 137), (1, vi x1)]) (st2 := [vi 1]) 3 (fun _ _ => rfl) ?_
                  refine pr_n (pc2 := 97) (lv2 := [(4, vi 0), (3, vi 1), (2, vi (atb t (ipl (t 137 6) 1))), (0, .ref 137), (1, vi x1)]) (st2 := [.ref 137, .ref 137]) 3 (fun _ _ => rfl) ?_
                  refine pr_gE (k2 := 137) (v := vi (t 137 6)) hE3 rfl rfl rfl (by decide) rfl rfl rfl fun h114 => ?_
                  have h114 : i32 (t 137 6) := h114
                  refine pr_n (pc2 := 101) (lv2 := [(4, vi 0), (3, vi 1), (2, vi (atb t (ipl (t 137 6) 1))), (0, .ref 137), (1, vi x1)]) (st2 := [vi 2, vi (t 137 6), .ref 137]) 1 (fun _ _ => rfl) ?_
                  refine pr_i2 (a := t 137 6) (b := 2) rfl rfl ?_
                  show pr K K d tb_M32 102 [(4, vi 0), (3, vi 1), (2, vi (atb t (ipl (t 137 6) 1))), (0, .ref 137), (1, vi x1)] [vi (ipl (t 137 6) 2), .ref 137] s3 _
                  have h115 : i32 (ipl (t 137 6) 2) := i32_in _
                  refine pr_pE (k2 := 137) (z := ipl (t 137 6) 2) hE3 rfl rfl rfl rfl (by decide) rfl (by decide) rfl (show i32 (ipl (t 137 6) 2) from h115) (hf_int' _) rfl rfl rfl (fun e => absurd e.1 (by decide)) (fun _ => trivial) fun s116 hE116 => ?_
                  refine pr_n (pc2 := 108) (lv2 := [(4, vi 0), (3, vi 1), (2, vi (atb t (ipl (t 137 6) 1))), (0, .ref 137), (1, vi x1)]) (st2 := [vi 8, vi x1]) 2 (fun _ _ => rfl) ?_
                  refine pr_i2 (a := x1) (b := 8) rfl rfl ?_
                  show pr K K d tb_M32 109 [(4, vi 0), (3, vi 1), (2, vi (atb t (ipl (t 137 6) 1))), (0, .ref 137), (1, vi x1)] [vi (isl x1 8)] s116 _
                  have h117 : i32 (isl x1 8) := i32_in _
                  refine pr_n (pc2 := 110) (lv2 := [(4, vi 0), (3, vi 1), (2, vi (atb t (ipl (t 137 6) 1))), (0, .ref 137), (1, vi x1)]) (st2 := [vi (atb t (ipl (t 137 6) 1)), vi (isl x1 8)]) 1 (fun _ _ => rfl) ?_
                  refine pr_i2 (a := isl x1 8) (b := atb t (ipl (t 137 6) 1)) rfl rfl ?_
                  show pr K K d tb_M32 111 [(4, vi 0), (3, vi 1), (2, vi (atb t (ipl (t 137 6) 1))), (0, .ref 137), (1, vi x1)] [vi (ior (isl x1 8) (atb t (ipl (t 137 6) 1)))] s116 _
                  have h118 : i32 (ior (isl x1 8) (atb t (ipl (t 137 6) 1))) := i32_in _
                  refine pr_reti rfl rfl ?_
                  exact .inl ⟨_, ior (isl x1 8) (atb t (ipl (t 137 6) 1)), _, rfl, ⟨rfl, h118⟩, rfl, hE116⟩
                · refine pr_if2f rfl rfl hx1 (i32_n rfl) h113 ?_
                  refine pr_n (pc2 := 87) (lv2 := [(4, vi 1), (3, vi 1), (2, vi (atb t (ipl (t 137 6) 1))), (0, .ref 137), (1, vi x1)]) (st2 := [vi 1]) 4 (fun _ _ => rfl) ?_
                  refine pr_n (pc2 := 97) (lv2 := [(4, vi 1), (3, vi 1), (2, vi (atb t (ipl (t 137 6) 1))), (0, .ref 137), (1, vi x1)]) (st2 := [.ref 137, .ref 137]) 3 (fun _ _ => rfl) ?_
                  refine pr_gE (k2 := 137) (v := vi (t 137 6)) hE3 rfl rfl rfl (by decide) rfl rfl rfl fun h119 => ?_
                  have h119 : i32 (t 137 6) := h119
                  refine pr_n (pc2 := 101) (lv2 := [(4, vi 1), (3, vi 1), (2, vi (atb t (ipl (t 137 6) 1))), (0, .ref 137), (1, vi x1)]) (st2 := [vi 2, vi (t 137 6), .ref 137]) 1 (fun _ _ => rfl) ?_
                  refine pr_i2 (a := t 137 6) (b := 2) rfl rfl ?_
                  show pr K K d tb_M32 102 [(4, vi 1), (3, vi 1), (2, vi (atb t (ipl (t 137 6) 1))), (0, .ref 137), (1, vi x1)] [vi (ipl (t 137 6) 2), .ref 137] s3 _
                  have h120 : i32 (ipl (t 137 6) 2) := i32_in _
                  refine pr_pE (k2 := 137) (z := ipl (t 137 6) 2) hE3 rfl rfl rfl rfl (by decide) rfl (by decide) rfl (show i32 (ipl (t 137 6) 2) from h120) (hf_int' _) rfl rfl rfl (fun e => absurd e.1 (by decide)) (fun _ => trivial) fun s121 hE121 => ?_
                  refine pr_n (pc2 := 108) (lv2 := [(4, vi 1), (3, vi 1), (2, vi (atb t (ipl (t 137 6) 1))), (0, .ref 137), (1, vi x1)]) (st2 := [vi 8, vi x1]) 2 (fun _ _ => rfl) ?_
                  refine pr_i2 (a := x1) (b := 8) rfl rfl ?_
                  show pr K K d tb_M32 109 [(4, vi 1), (3, vi 1), (2, vi (atb t (ipl (t 137 6) 1))), (0, .ref 137), (1, vi x1)] [vi (isl x1 8)] s121 _
                  have h122 : i32 (isl x1 8) := i32_in _
                  refine pr_n (pc2 := 110) (lv2 := [(4, vi 1), (3, vi 1), (2, vi (atb t (ipl (t 137 6) 1))), (0, .ref 137), (1, vi x1)]) (st2 := [vi (atb t (ipl (t 137 6) 1)), vi (isl x1 8)]) 1 (fun _ _ => rfl) ?_
                  refine pr_i2 (a := isl x1 8) (b := atb t (ipl (t 137 6) 1)) rfl rfl ?_
                  show pr K K d tb_M32 111 [(4, vi 1), (3, vi 1), (2, vi (atb t (ipl (t 137 6) 1))), (0, .ref 137), (1, vi x1)] [vi (ior (isl x1 8) (atb t (ipl (t 137 6) 1)))] s121 _
                  have h123 : i32 (ior (isl x1 8) (atb t (ipl (t 137 6) 1))) := i32_in _
                  refine pr_reti rfl rfl ?_
                  exact .inl ⟨_, ior (isl x1 8) (atb t (ipl (t 137 6) 1)), _, rfl, ⟨rfl, h123⟩, rfl, hE121⟩
        · refine mq_f h94 ?_
          refine pr_if2f rfl rfl hx1 (i32_n rfl) h94 ?_
          refine pr_n (pc2 := 40) (lv2 := [(2, vi (atb t (ipl (t 137 6) 1))), (0, .ref 137), (1, vi x1)]) (st2 := [vi 60, vi x1]) 2 (fun _ _ => rfl) ?_
          by_cases h124 : x1 = 60
          · refine mq_t h124 ?_
            refine pr_if2t rfl rfl hx1 (i32_n rfl) h124 ?_
            refine pr_n (pc2 := 58) (lv2 := [(3, vi 1), (2, vi (atb t (ipl (t 137 6) 1))), (0, .ref 137), (1, vi x1)]) (st2 := [vi 61, vi (atb t (ipl (t 137 6) 1))]) 5 (fun _ _ => rfl) ?_
            by_cases h125 : atb t (ipl (t 137 6) 1) ≠ 61
            · refine pr_if2t rfl rfl hz3 (i32_n rfl) h125 ?_
              refine pr_n (pc2 := 87) (lv2 := [(4, vi 0), (3, vi 1), (2, vi (atb t (ipl (t 137 6) 1))), (0, .ref 137), (1, vi x1)]) (st2 := [vi 1]) 3 (fun _ _ => rfl) ?_
              refine pr_n (pc2 := 97) (lv2 := [(4, vi 0), (3, vi 1), (2, vi (atb t (ipl (t 137 6) 1))), (0, .ref 137), (1, vi x1)]) (st2 := [.ref 137, .ref 137]) 3 (fun _ _ => rfl) ?_
              refine pr_gE (k2 := 137) (v := vi (t 137 6)) hE3 rfl rfl rfl (by decide) rfl rfl rfl fun h126 => ?_
              have h126 : i32 (t 137 6) := h126
              refine pr_n (pc2 := 101) (lv2 := [(4, vi 0), (3, vi 1), (2, vi (atb t (ipl (t 137 6) 1))), (0, .ref 137), (1, vi x1)]) (st2 := [vi 2, vi (t 137 6), .ref 137]) 1 (fun _ _ => rfl) ?_
              refine pr_i2 (a := t 137 6) (b := 2) rfl rfl ?_
              show pr K K d tb_M32 102 [(4, vi 0), (3, vi 1), (2, vi (atb t (ipl (t 137 6) 1))), (0, .ref 137), (1, vi x1)] [vi (ipl (t 137 6) 2), .ref 137] s3 _
              have h127 : i32 (ipl (t 137 6) 2) := i32_in _
              refine pr_pE (k2 := 137) (z := ipl (t 137 6) 2) hE3 rfl rfl rfl rfl (by decide) rfl (by decide) rfl (show i32 (ipl (t 137 6) 2) from h127) (hf_int' _) rfl rfl rfl (fun e => absurd e.1 (by decide)) (fun _ => trivial) fun s128 hE128 => ?_
              refine pr_n (pc2 := 108) (lv2 := [(4, vi 0), (3, vi 1), (2, vi (atb t (ipl (t 137 6) 1))), (0, .ref 137), (1, vi x1)]) (st2 := [vi 8, vi x1]) 2 (fun _ _ => rfl) ?_
              refine pr_i2 (a := x1) (b := 8) rfl rfl ?_
              show pr K K d tb_M32 109 [(4, vi 0), (3, vi 1), (2, vi (atb t (ipl (t 137 6) 1))), (0, .ref 137), (1, vi x1)] [vi (isl x1 8)] s128 _
              have h129 : i32 (isl x1 8) := i32_in _
              refine pr_n (pc2 := 110) (lv2 := [(4, vi 0), (3, vi 1), (2, vi (atb t (ipl (t 137 6) 1))), (0, .ref 137), (1, vi x1)]) (st2 := [vi (atb t (ipl (t 137 6) 1)), vi (isl x1 8)]) 1 (fun _ _ => rfl) ?_
              refine pr_i2 (a := isl x1 8) (b := atb t (ipl (t 137 6) 1)) rfl rfl ?_
              show pr K K d tb_M32 111 [(4, vi 0), (3, vi 1), (2, vi (atb t (ipl (t 137 6) 1))), (0, .ref 137), (1, vi x1)] [vi (ior (isl x1 8) (atb t (ipl (t 137 6) 1)))] s128 _
              have h130 : i32 (ior (isl x1 8) (atb t (ipl (t 137 6) 1))) := i32_in _
              refine pr_reti rfl rfl ?_
              exact .inl ⟨_, ior (isl x1 8) (atb t (ipl (t 137 6) 1)), _, rfl, ⟨rfl, h130⟩, rfl, hE128⟩
            · refine pr_if2f rfl rfl hz3 (i32_n rfl) h125 ?_
              refine pr_n (pc2 := 64) (lv2 := [(3, vi 1), (2, vi (atb t (ipl (t 137 6) 1))), (0, .ref 137), (1, vi x1)]) (st2 := [vi 33, vi x1]) 2 (fun _ _ => rfl) ?_
              by_cases h131 : x1 = 33
              · refine pr_if2t rfl rfl hx1 (i32_n rfl) h131 ?_
                refine pr_n (pc2 := 87) (lv2 := [(4, vi 1), (3, vi 1), (2, vi (atb t (ipl (t 137 6) 1))), (0, .ref 137), (1, vi x1)]) (st2 := [vi 1]) 4 (fun _ _ => rfl) ?_
                refine pr_n (pc2 := 97) (lv2 := [(4, vi 1), (3, vi 1), (2, vi (atb t (ipl (t 137 6) 1))), (0, .ref 137), (1, vi x1)]) (st2 := [.ref 137, .ref 137]) 3 (fun _ _ => rfl) ?_
                refine pr_gE (k2 := 137) (v := vi (t 137 6)) hE3 rfl rfl rfl (by decide) rfl rfl rfl fun h132 => ?_
                have h132 : i32 (t 137 6) := h132
                refine pr_n (pc2 := 101) (lv2 := [(4, vi 1), (3, vi 1), (2, vi (atb t (ipl (t 137 6) 1))), (0, .ref 137), (1, vi x1)]) (st2 := [vi 2, vi (t 137 6), .ref 137]) 1 (fun _ _ => rfl) ?_
                refine pr_i2 (a := t 137 6) (b := 2) rfl rfl ?_
                show pr K K d tb_M32 102 [(4, vi 1), (3, vi 1), (2, vi (atb t (ipl (t 137 6) 1))), (0, .ref 137), (1, vi x1)] [vi (ipl (t 137 6) 2), .ref 137] s3 _
                have h133 : i32 (ipl (t 137 6) 2) := i32_in _
                refine pr_pE (k2 := 137) (z := ipl (t 137 6) 2) hE3 rfl rfl rfl rfl (by decide) rfl (by decide) rfl (show i32 (ipl (t 137 6) 2) from h133) (hf_int' _) rfl rfl rfl (fun e => absurd e.1 (by decide)) (fun _ => trivial) fun s134 hE134 => ?_
                refine pr_n (pc2 := 108) (lv2 := [(4, vi 1), (3, vi 1), (2, vi (atb t (ipl (t 137 6) 1))), (0, .ref 137), (1, vi x1)]) (st2 := [vi 8, vi x1]) 2 (fun _ _ => rfl) ?_
                refine pr_i2 (a := x1) (b := 8) rfl rfl ?_
                show pr K K d tb_M32 109 [(4, vi 1), (3, vi 1), (2, vi (atb t (ipl (t 137 6) 1))), (0, .ref 137), (1, vi x1)] [vi (isl x1 8)] s134 _
                have h135 : i32 (isl x1 8) := i32_in _
                refine pr_n (pc2 := 110) (lv2 := [(4, vi 1), (3, vi 1), (2, vi (atb t (ipl (t 137 6) 1))), (0, .ref 137), (1, vi x1)]) (st2 := [vi (atb t (ipl (t 137 6) 1)), vi (isl x1 8)]) 1 (fun _ _ => rfl) ?_
                refine pr_i2 (a := isl x1 8) (b := atb t (ipl (t 137 6) 1)) rfl rfl ?_
                show pr K K d tb_M32 111 [(4, vi 1), (3, vi 1), (2, vi (atb t (ipl (t 137 6) 1))), (0, .ref 137), (1, vi x1)] [vi (ior (isl x1 8) (atb t (ipl (t 137 6) 1)))] s134 _
                have h136 : i32 (ior (isl x1 8) (atb t (ipl (t 137 6) 1))) := i32_in _
                refine pr_reti rfl rfl ?_
                exact .inl ⟨_, ior (isl x1 8) (atb t (ipl (t 137 6) 1)), _, rfl, ⟨rfl, h136⟩, rfl, hE134⟩
              · refine pr_if2f rfl rfl hx1 (i32_n rfl) h131 ?_
                refine pr_n (pc2 := 70) (lv2 := [(3, vi 1), (2, vi (atb t (ipl (t 137 6) 1))), (0, .ref 137), (1, vi x1)]) (st2 := [vi 60, vi x1]) 2 (fun _ _ => rfl) ?_
                refine pr_if2t rfl rfl hx1 (i32_n rfl) (show x1 = 60 by omega) ?_
                show pr K K d tb_M32 79 [(3, vi 1), (2, vi (atb t (ipl (t 137 6) 1))), (0, .ref 137), (1, vi x1)] [] s3 _
                refine pr_n (pc2 := 87) (lv2 := [(4, vi 1), (3, vi 1), (2, vi (atb t (ipl (t 137 6) 1))), (0, .ref 137), (1, vi x1)]) (st2 := [vi 1]) 4 (fun _ _ => rfl) ?_
                refine pr_n (pc2 := 97) (lv2 := [(4, vi 1), (3, vi 1), (2, vi (atb t (ipl (t 137 6) 1))), (0, .ref 137), (1, vi x1)]) (st2 := [.ref 137, .ref 137]) 3 (fun _ _ => rfl) ?_
                refine pr_gE (k2 := 137) (v := vi (t 137 6)) hE3 rfl rfl rfl (by decide) rfl rfl rfl fun h137 => ?_
                have h137 : i32 (t 137 6) := h137
                refine pr_n (pc2 := 101) (lv2 := [(4, vi 1), (3, vi 1), (2, vi (atb t (ipl (t 137 6) 1))), (0, .ref 137), (1, vi x1)]) (st2 := [vi 2, vi (t 137 6), .ref 137]) 1 (fun _ _ => rfl) ?_
                refine pr_i2 (a := t 137 6) (b := 2) rfl rfl ?_
                show pr K K d tb_M32 102 [(4, vi 1), (3, vi 1), (2, vi (atb t (ipl (t 137 6) 1))), (0, .ref 137), (1, vi x1)] [vi (ipl (t 137 6) 2), .ref 137] s3 _
                have h138 : i32 (ipl (t 137 6) 2) := i32_in _
                refine pr_pE (k2 := 137) (z := ipl (t 137 6) 2) hE3 rfl rfl rfl rfl (by decide) rfl (by decide) rfl (show i32 (ipl (t 137 6) 2) from h138) (hf_int' _) rfl rfl rfl (fun e => absurd e.1 (by decide)) (fun _ => trivial) fun s139 hE139 => ?_
                refine pr_n (pc2 := 108) (lv2 := [(4, vi 1), (3, vi 1), (2, vi (atb t (ipl (t 137 6) 1))), (0, .ref 137), (1, vi x1)]) (st2 := [vi 8, vi x1]) 2 (fun _ _ => rfl) ?_
                refine pr_i2 (a := x1) (b := 8) rfl rfl ?_
                show pr K K d tb_M32 109 [(4, vi 1), (3, vi 1), (2, vi (atb t (ipl (t 137 6) 1))), (0, .ref 137), (1, vi x1)] [vi (isl x1 8)] s139 _
                have h140 : i32 (isl x1 8) := i32_in _
                refine pr_n (pc2 := 110) (lv2 := [(4, vi 1), (3, vi 1), (2, vi (atb t (ipl (t 137 6) 1))), (0, .ref 137), (1, vi x1)]) (st2 := [vi (atb t (ipl (t 137 6) 1)), vi (isl x1 8)]) 1 (fun _ _ => rfl) ?_
                refine pr_i2 (a := isl x1 8) (b := atb t (ipl (t 137 6) 1)) rfl rfl ?_
                show pr K K d tb_M32 111 [(4, vi 1), (3, vi 1), (2, vi (atb t (ipl (t 137 6) 1))), (0, .ref 137), (1, vi x1)] [vi (ior (isl x1 8) (atb t (ipl (t 137 6) 1)))] s139 _
                have h141 : i32 (ior (isl x1 8) (atb t (ipl (t 137 6) 1))) := i32_in _
                refine pr_reti rfl rfl ?_
                exact .inl ⟨_, ior (isl x1 8) (atb t (ipl (t 137 6) 1)), _, rfl, ⟨rfl, h141⟩, rfl, hE139⟩
          · refine mq_f h124 ?_
            refine pr_if2f rfl rfl hx1 (i32_n rfl) h124 ?_
            refine pr_n (pc2 := 46) (lv2 := [(2, vi (atb t (ipl (t 137 6) 1))), (0, .ref 137), (1, vi x1)]) (st2 := [vi 62, vi x1]) 2 (fun _ _ => rfl) ?_
            by_cases h142 : x1 ≠ 62
            · refine mq_t h142 ?_
              refine pr_if2t rfl rfl hx1 (i32_n rfl) h142 ?_
              refine pr_n (pc2 := 58) (lv2 := [(3, vi 0), (2, vi (atb t (ipl (t 137 6) 1))), (0, .ref 137), (1, vi x1)]) (st2 := [vi 61, vi (atb t (ipl (t 137 6) 1))]) 4 (fun _ _ => rfl) ?_
              by_cases h143 : atb t (ipl (t 137 6) 1) ≠ 61
              · refine mq_t h143 ?_
                refine pr_if2t rfl rfl hz3 (i32_n rfl) h143 ?_
                refine pr_n (pc2 := 87) (lv2 := [(4, vi 0), (3, vi 0), (2, vi (atb t (ipl (t 137 6) 1))), (0, .ref 137), (1, vi x1)]) (st2 := [vi 0]) 3 (fun _ _ => rfl) ?_
                refine pr_n (pc2 := 92) (lv2 := [(4, vi 0), (3, vi 0), (2, vi (atb t (ipl (t 137 6) 1))), (0, .ref 137), (1, vi x1)]) (st2 := [vi 0]) 2 (fun _ _ => rfl) ?_
                refine pr_n (pc2 := 114) (lv2 := [(4, vi 0), (3, vi 0), (2, vi (atb t (ipl (t 137 6) 1))), (0, .ref 137), (1, vi x1)]) (st2 := [.ref 137, .ref 137]) 3 (fun _ _ => rfl) ?_
                refine pr_gE (k2 := 137) (v := vi (t 137 6)) hE3 rfl rfl rfl (by decide) rfl rfl rfl fun h144 => ?_
                have h144 : i32 (t 137 6) := h144
                refine pr_n (pc2 := 118) (lv2 := [(4, vi 0), (3, vi 0), (2, vi (atb t (ipl (t 137 6) 1))), (0, .ref 137), (1, vi x1)]) (st2 := [vi 1, vi (t 137 6), .ref 137]) 1 (fun _ _ => rfl) ?_
                refine pr_i2 (a := t 137 6) (b := 1) rfl rfl ?_
                show pr K K d tb_M32 119 [(4, vi 0), (3, vi 0), (2, vi (atb t (ipl (t 137 6) 1))), (0, .ref 137), (1, vi x1)] [vi (ipl (t 137 6) 1), .ref 137] s3 _
                refine pr_pE (k2 := 137) (z := ipl (t 137 6) 1) hE3 rfl rfl rfl rfl (by decide) rfl (by decide) rfl (show i32 (ipl (t 137 6) 1) from h2) (hf_int' _) rfl rfl rfl (fun e => absurd e.1 (by decide)) (fun _ => trivial) fun s146 hE146 => ?_
                refine pr_n (pc2 := 123) (lv2 := [(4, vi 0), (3, vi 0), (2, vi (atb t (ipl (t 137 6) 1))), (0, .ref 137), (1, vi x1)]) (st2 := [vi x1]) 1 (fun _ _ => rfl) ?_
                refine pr_s0 (args := [vi x1]) (rest := []) rfl rfl rfl (Nat.le_of_ble_eq_true rfl) rfl (h_33 s146 (up2 t 137 6 (ipl (t 137 6) 1)) x1 hE146 hx1) s_sgz ?_
                rintro _ s147 ⟨rfl, hz147⟩ hE147
                show pr K K d tb_M32 126 [(4, vi 0), (3, vi 0), (2, vi (atb t (ipl (t 137 6) 1))), (0, .ref 137), (1, vi x1)] [vi (sgz x1)] s147 _
                by_cases h148 : sgz x1 = 0
                · refine mq_t h148 ?_
                  refine pr_if1t rfl rfl (i32_z hz147) h148 ?_
                  refine pr_n (pc2 := 134) (lv2 := [(4, vi 0), (3, vi 0), (2, vi (atb t (ipl (t 137 6) 1))), (0, .ref 137), (1, vi x1)]) (st2 := [vi 4]) 1 (fun _ _ => rfl) ?_
                  refine pr_end (fun _ _ => rfl) ?_
                  exact .inl ⟨_, 4, _, rfl, ⟨rfl, (i32_n rfl)⟩, rfl, hE147⟩
                · refine mq_f h148 ?_
                  refine pr_if1f rfl rfl (i32_z hz147) h148 ?_
                  refine pr_n (pc2 := 134) (lv2 := [(4, vi 0), (3, vi 0), (2, vi (atb t (ipl (t 137 6) 1))), (0, .ref 137), (1, vi x1)]) (st2 := [vi x1]) 2 (fun _ _ => rfl) ?_
                  refine pr_reti rfl rfl ?_
                  exact .inl ⟨_, x1, _, rfl, ⟨rfl, hx1⟩, rfl, hE147⟩
              · refine mq_f h143 ?_
                refine pr_if2f rfl rfl hz3 (i32_n rfl) h143 ?_
                refine pr_n (pc2 := 64) (lv2 := [(3, vi 0), (2, vi (atb t (ipl (t 137 6) 1))), (0, .ref 137), (1, vi x1)]) (st2 := [vi 33, vi x1]) 2 (fun _ _ => rfl) ?_
                by_cases h149 : x1 = 33
                · refine mq_t h149 ?_
                  refine pr_if2t rfl rfl hx1 (i32_n rfl) h149 ?_
                  refine pr_n (pc2 := 87) (lv2 := [(4, vi 1), (3, vi 0), (2, vi (atb t (ipl (t 137 6) 1))), (0, .ref 137), (1, vi x1)]) (st2 := [vi 0]) 4 (fun _ _ => rfl) ?_
                  refine pr_n (pc2 := 92) (lv2 := [(4, vi 1), (3, vi 0), (2, vi (atb t (ipl (t 137 6) 1))), (0, .ref 137), (1, vi x1)]) (st2 := [vi 1]) 2 (fun _ _ => rfl) ?_
                  refine pr_n (pc2 := 97) (lv2 := [(4, vi 1), (3, vi 0), (2, vi (atb t (ipl (t 137 6) 1))), (0, .ref 137), (1, vi x1)]) (st2 := [.ref 137, .ref 137]) 3 (fun _ _ => rfl) ?_
                  refine pr_gE (k2 := 137) (v := vi (t 137 6)) hE3 rfl rfl rfl (by decide) rfl rfl rfl fun h150 => ?_
                  have h150 : i32 (t 137 6) := h150
                  refine pr_n (pc2 := 101) (lv2 := [(4, vi 1), (3, vi 0), (2, vi (atb t (ipl (t 137 6) 1))), (0, .ref 137), (1, vi x1)]) (st2 := [vi 2, vi (t 137 6), .ref 137]) 1 (fun _ _ => rfl) ?_
                  refine pr_i2 (a := t 137 6) (b := 2) rfl rfl ?_
                  show pr K K d tb_M32 102 [(4, vi 1), (3, vi 0), (2, vi (atb t (ipl (t 137 6) 1))), (0, .ref 137), (1, vi x1)] [vi (ipl (t 137 6) 2), .ref 137] s3 _
                  have h151 : i32 (ipl (t 137 6) 2) := i32_in _
                  refine pr_pE (k2 := 137) (z := ipl (t 137 6) 2) hE3 rfl rfl rfl rfl (by decide) rfl (by decide) rfl (show i32 (ipl (t 137 6) 2) from h151) (hf_int' _) rfl rfl rfl (fun e => absurd e.1 (by decide)) (fun _ => trivial) fun s152 hE152 => ?_
                  refine pr_n (pc2 := 108) (lv2 := [(4, vi 1), (3, vi 0), (2, vi (atb t (ipl (t 137 6) 1))), (0, .ref 137), (1, vi x1)]) (st2 := [vi 8, vi x1]) 2 (fun _ _ => rfl) ?_
                  refine pr_i2 (a := x1) (b := 8) rfl rfl ?_
                  show pr K K d tb_M32 109 [(4, vi 1), (3, vi 0), (2, vi (atb t (ipl (t 137 6) 1))), (0, .ref 137), (1, vi x1)] [vi (isl x1 8)] s152 _
                  have h153 : i32 (isl x1 8) := i32_in _
                  refine pr_n (pc2 := 110) (lv2 := [(4, vi 1), (3, vi 0), (2, vi (atb t (ipl (t 137 6) 1))), (0, .ref 137), (1, vi x1)]) (st2 := [vi (atb t (ipl (t 137 6) 1)), vi (isl x1 8)]) 1 (fun _ _ => rfl) ?_
                  refine pr_i2 (a := isl x1 8) (b := atb t (ipl (t 137 6) 1)) rfl rfl ?_
                  show pr K K d tb_M32 111 [(4, vi 1), (3, vi 0), (2, vi (atb t (ipl (t 137 6) 1))), (0, .ref 137), (1, vi x1)] [vi (ior (isl x1 8) (atb t (ipl (t 137 6) 1)))] s152 _
                  have h154 : i32 (ior (isl x1 8) (atb t (ipl (t 137 6) 1))) := i32_in _
                  refine pr_reti rfl rfl ?_
                  exact .inl ⟨_, ior (isl x1 8) (atb t (ipl (t 137 6) 1)), _, rfl, ⟨rfl, h154⟩, rfl, hE152⟩
                · refine mq_f h149 ?_
                  refine pr_if2f rfl rfl hx1 (i32_n rfl) h149 ?_
                  refine pr_n (pc2 := 70) (lv2 := [(3, vi 0), (2, vi (atb t (ipl (t 137 6) 1))), (0, .ref 137), (1, vi x1)]) (st2 := [vi 60, vi x1]) 2 (fun _ _ => rfl) ?_
                  refine pr_if2f rfl rfl hx1 (i32_n rfl) (show ¬ (x1 = 60) by omega) ?_
                  show pr K K d tb_M32 73 [(3, vi 0), (2, vi (atb t (ipl (t 137 6) 1))), (0, .ref 137), (1, vi x1)] [] s3 _
                  refine pr_n (pc2 := 76) (lv2 := [(3, vi 0), (2, vi (atb t (ipl (t 137 6) 1))), (0, .ref 137), (1, vi x1)]) (st2 := [vi 62, vi x1]) 2 (fun _ _ => rfl) ?_
                  refine pr_if2t rfl rfl hx1 (i32_n rfl) (show x1 ≠ 62 by omega) ?_
                  show pr K K d tb_M32 83 [(3, vi 0), (2, vi (atb t (ipl (t 137 6) 1))), (0, .ref 137), (1, vi x1)] [] s3 _
                  refine pr_n (pc2 := 87) (lv2 := [(4, vi 0), (3, vi 0), (2, vi (atb t (ipl (t 137 6) 1))), (0, .ref 137), (1, vi x1)]) (st2 := [vi 0]) 3 (fun _ _ => rfl) ?_
                  refine pr_n (pc2 := 92) (lv2 := [(4, vi 0), (3, vi 0), (2, vi (atb t (ipl (t 137 6) 1))), (0, .ref 137), (1, vi x1)]) (st2 := [vi 0]) 2 (fun _ _ => rfl) ?_
                  refine pr_n (pc2 := 114) (lv2 := [(4, vi 0), (3, vi 0), (2, vi (atb t (ipl (t 137 6) 1))), (0, .ref 137), (1, vi x1)]) (st2 := [.ref 137, .ref 137]) 3 (fun _ _ => rfl) ?_
                  refine pr_gE (k2 := 137) (v := vi (t 137 6)) hE3 rfl rfl rfl (by decide) rfl rfl rfl fun h155 => ?_
                  have h155 : i32 (t 137 6) := h155
                  refine pr_n (pc2 := 118) (lv2 := [(4, vi 0), (3, vi 0), (2, vi (atb t (ipl (t 137 6) 1))), (0, .ref 137), (1, vi x1)]) (st2 := [vi 1, vi (t 137 6), .ref 137]) 1 (fun _ _ => rfl) ?_
                  refine pr_i2 (a := t 137 6) (b := 1) rfl rfl ?_
                  show pr K K d tb_M32 119 [(4, vi 0), (3, vi 0), (2, vi (atb t (ipl (t 137 6) 1))), (0, .ref 137), (1, vi x1)] [vi (ipl (t 137 6) 1), .ref 137] s3 _
                  refine pr_pE (k2 := 137) (z := ipl (t 137 6) 1) hE3 rfl rfl rfl rfl (by decide) rfl (by decide) rfl (show i32 (ipl (t 137 6) 1) from h2) (hf_int' _) rfl rfl rfl (fun e => absurd e.1 (by decide)) (fun _ => trivial) fun s157 hE157 => ?_
                  refine pr_n (pc2 := 123) (lv2 := [(4, vi 0), (3, vi 0), (2, vi (atb t (ipl (t 137 6) 1))), (0, .ref 137), (1, vi x1)]) (st2 := [vi x1]) 1 (fun _ _ => rfl) ?_
                  refine pr_s0 (args := [vi x1]) (rest := []) rfl rfl rfl (Nat.le_of_ble_eq_true rfl) rfl (h_33 s157 (up2 t 137 6 (ipl (t 137 6) 1)) x1 hE157 hx1) s_sgz ?_
                  rintro _ s158 ⟨rfl, hz158⟩ hE158
                  show pr K K d tb_M32 126 [(4, vi 0), (3, vi 0), (2, vi (atb t (ipl (t 137 6) 1))), (0, .ref 137), (1, vi x1)] [vi (sgz x1)] s158 _
                  by_cases h159 : sgz x1 = 0
                  · refine mq_t h159 ?_
                    refine pr_if1t rfl rfl (i32_z hz158) h159 ?_
                    refine pr_n (pc2 := 134) (lv2 := [(4, vi 0), (3, vi 0), (2, vi (atb t (ipl (t 137 6) 1))), (0, .ref 137), (1, vi x1)]) (st2 := [vi 4]) 1 (fun _ _ => rfl) ?_
                    refine pr_end (fun _ _ => rfl) ?_
                    exact .inl ⟨_, 4, _, rfl, ⟨rfl, (i32_n rfl)⟩, rfl, hE158⟩
                  · refine mq_f h159 ?_
                    refine pr_if1f rfl rfl (i32_z hz158) h159 ?_
                    refine pr_n (pc2 := 134) (lv2 := [(4, vi 0), (3, vi 0), (2, vi (atb t (ipl (t 137 6) 1))), (0, .ref 137), (1, vi x1)]) (st2 := [vi x1]) 2 (fun _ _ => rfl) ?_
                    refine pr_reti rfl rfl ?_
                    exact .inl ⟨_, x1, _, rfl, ⟨rfl, hx1⟩, rfl, hE158⟩
            · refine mq_f h142 ?_
              refine pr_if2f rfl rfl hx1 (i32_n rfl) h142 ?_
              refine pr_n (pc2 := 58) (lv2 := [(3, vi 1), (2, vi (atb t (ipl (t 137 6) 1))), (0, .ref 137), (1, vi x1)]) (st2 := [vi 61, vi (atb t (ipl (t 137 6) 1))]) 5 (fun _ _ => rfl) ?_
              by_cases h160 : atb t (ipl (t 137 6) 1) ≠ 61
              · refine pr_if2t rfl rfl hz3 (i32_n rfl) h160 ?_
                refine pr_n (pc2 := 87) (lv2 := [(4, vi 0), (3, vi 1), (2, vi (atb t (ipl (t 137 6) 1))), (0, .ref 137), (1, vi x1)]) (st2 := [vi 1]) 3 (fun _ _ => rfl) ?_
                refine pr_n (pc2 := 97) (lv2 := [(4, vi 0), (3, vi 1), (2, vi (atb t (ipl (t 137 6) 1))), (0, .ref 137), (1, vi x1)]) (st2 := [.ref 137, .ref 137]) 3 (fun _ _ => rfl) ?_
                refine pr_gE (k2 := 137) (v := vi (t 137 6)) hE3 rfl rfl rfl (by decide) rfl rfl rfl fun h161 => ?_
                have h161 : i32 (t 137 6) := h161
                refine pr_n (pc2 := 101) (lv2 := [(4, vi 0), (3, vi 1), (2, vi (atb t (ipl (t 137 6) 1))), (0, .ref 137), (1, vi x1)]) (st2 := [vi 2, vi (t 137 6), .ref 137]) 1 (fun _ _ => rfl) ?_
                refine pr_i2 (a := t 137 6) (b := 2) rfl rfl ?_
                show pr K K d tb_M32 102 [(4, vi 0), (3, vi 1), (2, vi (atb t (ipl (t 137 6) 1))), (0, .ref 137), (1, vi x1)] [vi (ipl (t 137 6) 2), .ref 137] s3 _
                have h162 : i32 (ipl (t 137 6) 2) := i32_in _
                refine pr_pE (k2 := 137) (z := ipl (t 137 6) 2) hE3 rfl rfl rfl rfl (by decide) rfl (by decide) rfl (show i32 (ipl (t 137 6) 2) from h162) (hf_int' _) rfl rfl rfl (fun e => absurd e.1 (by decide)) (fun _ => trivial) fun s163 hE163 => ?_
                refine pr_n (pc2 := 108) (lv2 := [(4, vi 0), (3, vi 1), (2, vi (atb t (ipl (t 137 6) 1))), (0, .ref 137), (1, vi x1)]) (st2 := [vi 8, vi x1]) 2 (fun _ _ => rfl) ?_
                refine pr_i2 (a := x1) (b := 8) rfl rfl ?_
                show pr K K d tb_M32 109 [(4, vi 0), (3, vi 1), (2, vi (atb t (ipl (t 137 6) 1))), (0, .ref 137), (1, vi x1)] [vi (isl x1 8)] s163 _
                have h164 : i32 (isl x1 8) := i32_in _
                refine pr_n (pc2 := 110) (lv2 := [(4, vi 0), (3, vi 1), (2, vi (atb t (ipl (t 137 6) 1))), (0, .ref 137), (1, vi x1)]) (st2 := [vi (atb t (ipl (t 137 6) 1)), vi (isl x1 8)]) 1 (fun _ _ => rfl) ?_
                refine pr_i2 (a := isl x1 8) (b := atb t (ipl (t 137 6) 1)) rfl rfl ?_
                show pr K K d tb_M32 111 [(4, vi 0), (3, vi 1), (2, vi (atb t (ipl (t 137 6) 1))), (0, .ref 137), (1, vi x1)] [vi (ior (isl x1 8) (atb t (ipl (t 137 6) 1)))] s163 _
                have h165 : i32 (ior (isl x1 8) (atb t (ipl (t 137 6) 1))) := i32_in _
                refine pr_reti rfl rfl ?_
                exact .inl ⟨_, ior (isl x1 8) (atb t (ipl (t 137 6) 1)), _, rfl, ⟨rfl, h165⟩, rfl, hE163⟩
              · refine pr_if2f rfl rfl hz3 (i32_n rfl) h160 ?_
                refine pr_n (pc2 := 64) (lv2 := [(3, vi 1), (2, vi (atb t (ipl (t 137 6) 1))), (0, .ref 137), (1, vi x1)]) (st2 := [vi 33, vi x1]) 2 (fun _ _ => rfl) ?_
                by_cases h166 : x1 = 33
                · refine pr_if2t rfl rfl hx1 (i32_n rfl) h166 ?_
                  refine pr_n (pc2 := 87) (lv2 := [(4, vi 1), (3, vi 1), (2, vi (atb t (ipl (t 137 6) 1))), (0, .ref 137), (1, vi x1)]) (st2 := [vi 1]) 4 (fun _ _ => rfl) ?_
                  refine pr_n (pc2 := 97) (lv2 := [(4, vi 1), (3, vi 1), (2, vi (atb t (ipl (t 137 6) 1))), (0, .ref 137), (1, vi x1)]) (st2 := [.ref 137, .ref 137]) 3 (fun _ _ => rfl) ?_
                  refine pr_gE (k2 := 137) (v := vi (t 137 6)) hE3 rfl rfl rfl (by decide) rfl rfl rfl fun h167 => ?_
                  have h167 : i32 (t 137 6) := h167
                  refine pr_n (pc2 := 101) (lv2 := [(4, vi 1), (3, vi 1), (2, vi (atb t (ipl (t 137 6) 1))), (0, .ref 137), (1, vi x1)]) (st2 := [vi 2, vi (t 137 6), .ref 137]) 1 (fun _ _ => rfl) ?_
                  refine pr_i2 (a := t 137 6) (b := 2) rfl rfl ?_
                  show pr K K d tb_M32 102 [(4, vi 1), (3, vi 1), (2, vi (atb t (ipl (t 137 6) 1))), (0, .ref 137), (1, vi x1)] [vi (ipl (t 137 6) 2), .ref 137] s3 _
                  have h168 : i32 (ipl (t 137 6) 2) := i32_in _
                  refine pr_pE (k2 := 137) (z := ipl (t 137 6) 2) hE3 rfl rfl rfl rfl (by decide) rfl (by decide) rfl (show i32 (ipl (t 137 6) 2) from h168) (hf_int' _) rfl rfl rfl (fun e => absurd e.1 (by decide)) (fun _ => trivial) fun s169 hE169 => ?_
                  refine pr_n (pc2 := 108) (lv2 := [(4, vi 1), (3, vi 1), (2, vi (atb t (ipl (t 137 6) 1))), (0, .ref 137), (1, vi x1)]) (st2 := [vi 8, vi x1]) 2 (fun _ _ => rfl) ?_
                  refine pr_i2 (a := x1) (b := 8) rfl rfl ?_
                  show pr K K d tb_M32 109 [(4, vi 1), (3, vi 1), (2, vi (atb t (ipl (t 137 6) 1))), (0, .ref 137), (1, vi x1)] [vi (isl x1 8)] s169 _
                  have h170 : i32 (isl x1 8) := i32_in _
                  refine pr_n (pc2 := 110) (lv2 := [(4, vi 1), (3, vi 1), (2, vi (atb t (ipl (t 137 6) 1))), (0, .ref 137), (1, vi x1)]) (st2 := [vi (atb t (ipl (t 137 6) 1)), vi (isl x1 8)]) 1 (fun _ _ => rfl) ?_
                  refine pr_i2 (a := isl x1 8) (b := atb t (ipl (t 137 6) 1)) rfl rfl ?_
                  show pr K K d tb_M32 111 [(4, vi 1), (3, vi 1), (2, vi (atb t (ipl (t 137 6) 1))), (0, .ref 137), (1, vi x1)] [vi (ior (isl x1 8) (atb t (ipl (t 137 6) 1)))] s169 _
                  have h171 : i32 (ior (isl x1 8) (atb t (ipl (t 137 6) 1))) := i32_in _
                  refine pr_reti rfl rfl ?_
                  exact .inl ⟨_, ior (isl x1 8) (atb t (ipl (t 137 6) 1)), _, rfl, ⟨rfl, h171⟩, rfl, hE169⟩
                · refine pr_if2f rfl rfl hx1 (i32_n rfl) h166 ?_
                  refine pr_n (pc2 := 70) (lv2 := [(3, vi 1), (2, vi (atb t (ipl (t 137 6) 1))), (0, .ref 137), (1, vi x1)]) (st2 := [vi 60, vi x1]) 2 (fun _ _ => rfl) ?_
                  refine pr_if2f rfl rfl hx1 (i32_n rfl) (show ¬ (x1 = 60) by omega) ?_
                  show pr K K d tb_M32 73 [(3, vi 1), (2, vi (atb t (ipl (t 137 6) 1))), (0, .ref 137), (1, vi x1)] [] s3 _
                  refine pr_n (pc2 := 76) (lv2 := [(3, vi 1), (2, vi (atb t (ipl (t 137 6) 1))), (0, .ref 137), (1, vi x1)]) (st2 := [vi 62, vi x1]) 2 (fun _ _ => rfl) ?_
                  refine pr_if2f rfl rfl hx1 (i32_n rfl) (show ¬ (x1 ≠ 62) by omega) ?_
                  show pr K K d tb_M32 79 [(3, vi 1), (2, vi (atb t (ipl (t 137 6) 1))), (0, .ref 137), (1, vi x1)] [] s3 _
                  refine pr_n (pc2 := 87) (lv2 := [(4, vi 1), (3, vi 1), (2, vi (atb t (ipl (t 137 6) 1))), (0, .ref 137), (1, vi x1)]) (st2 := [vi 1]) 4 (fun _ _ => rfl) ?_
                  refine pr_n (pc2 := 97) (lv2 := [(4, vi 1), (3, vi 1), (2, vi (atb t (ipl (t 137 6) 1))), (0, .ref 137), (1, vi x1)]) (st2 := [.ref 137, .ref 137]) 3 (fun _ _ => rfl) ?_
                  refine pr_gE (k2 := 137) (v := vi (t 137 6)) hE3 rfl rfl rfl (by decide) rfl rfl rfl fun h172 => ?_
                  have h172 : i32 (t 137 6) := h172
                  refine pr_n (pc2 := 101) (lv2 := [(4, vi 1), (3, vi 1), (2, vi (atb t (ipl (t 137 6) 1))), (0, .ref 137), (1, vi x1)]) (st2 := [vi 2, vi (t 137 6), .ref 137]) 1 (fun _ _ => rfl) ?_
                  refine pr_i2 (a := t 137 6) (b := 2) rfl rfl ?_
                  show pr K K d tb_M32 102 [(4, vi 1), (3, vi 1), (2, vi (atb t (ipl (t 137 6) 1))), (0, .ref 137), (1, vi x1)] [vi (ipl (t 137 6) 2), .ref 137] s3 _
                  have h173 : i32 (ipl (t 137 6) 2) := i32_in _
                  refine pr_pE (k2 := 137) (z := ipl (t 137 6) 2) hE3 rfl rfl rfl rfl (by decide) rfl (by decide) rfl (show i32 (ipl (t 137 6) 2) from h173) (hf_int' _) rfl rfl rfl (fun e => absurd e.1 (by decide)) (fun _ => trivial) fun s174 hE174 => ?_
                  refine pr_n (pc2 := 108) (lv2 := [(4, vi 1), (3, vi 1), (2, vi (atb t (ipl (t 137 6) 1))), (0, .ref 137), (1, vi x1)]) (st2 := [vi 8, vi x1]) 2 (fun _ _ => rfl) ?_
                  refine pr_i2 (a := x1) (b := 8) rfl rfl ?_
                  show pr K K d tb_M32 109 [(4, vi 1), (3, vi 1), (2, vi (atb t (ipl (t 137 6) 1))), (0, .ref 137), (1, vi x1)] [vi (isl x1 8)] s174 _
                  have h175 : i32 (isl x1 8) := i32_in _
                  refine pr_n (pc2 := 110) (lv2 := [(4, vi 1), (3, vi 1), (2, vi (atb t (ipl (t 137 6) 1))), (0, .ref 137), (1, vi x1)]) (st2 := [vi (atb t (ipl (t 137 6) 1)), vi (isl x1 8)]) 1 (fun _ _ => rfl) ?_
                  refine pr_i2 (a := isl x1 8) (b := atb t (ipl (t 137 6) 1)) rfl rfl ?_
                  show pr K K d tb_M32 111 [(4, vi 1), (3, vi 1), (2, vi (atb t (ipl (t 137 6) 1))), (0, .ref 137), (1, vi x1)] [vi (ior (isl x1 8) (atb t (ipl (t 137 6) 1)))] s174 _
                  have h176 : i32 (ior (isl x1 8) (atb t (ipl (t 137 6) 1))) := i32_in _
                  refine pr_reti rfl rfl ?_
                  exact .inl ⟨_, ior (isl x1 8) (atb t (ipl (t 137 6) 1)), _, rfl, ⟨rfl, h176⟩, rfl, hE174⟩
set_option maxHeartbeats 20000000 in
set_option maxRecDepth 100000 in
theorem cu25_0 {N K d C : Nat} (h_26 : cT26 K d C) (h_27 : cT27 K d C) (h_28 : cT28 K d C) (h_30 : cT30 K d C) (h_31 : cT31 K d C) (h_32 : cT32 K d C) (ih : ∀ N2, N2 < N → cA25 N2 K d C) : cU25_0 N K d C := by
  intro s t  hE 
  have hC : C = 99 ∨ C = 115 := hE.1
  rw [cG_25_99999]
  unfold cM25_99999
  refine pr_lt (pc2 := 1) (lv2 := [(0, .ref 137)]) (st2 := [.ref 137]) (fun _ _ => rfl) fun N2 hN2 => ?_
  refine pr_gE (k2 := 137) (v := vi (t 137 6)) hE rfl rfl rfl (by decide) rfl rfl rfl fun h1 => ?_
  have h1 : i32 (t 137 6) := h1
  refine pr_n (pc2 := 5) (lv2 := [(0, .ref 137)]) (st2 := [.ref 137, vi (t 137 6)]) 1 (fun _ _ => rfl) ?_
  refine pr_get (v := .ref 97) rfl rfl rfl (by decide) (rv_ref (hE.2.1 137 0 97 rfl)) fun _ => ?_
  refine pr_gE (k2 := 97) (v := vi (t 97 1)) hE rfl rfl rfl (by decide) rfl rfl rfl fun h2 => ?_
  have h2 : i32 (t 97 1) := h2
  by_cases h3 : t 97 1 ≤ t 137 6
  · refine mq_t h3 ?_
    refine pr_if2t rfl rfl h1 h2 h3 ?_
    refine pr_n (pc2 := 60) (lv2 := [(0, .ref 137)]) (st2 := [.ref 137]) 1 (fun _ _ => rfl) ?_
    refine pr_get (v := .ref 140) rfl rfl rfl (by decide) (rv_ref (hE.2.1 137 3 140 rfl)) fun _ => ?_
    refine pr_n (pc2 := 64) (lv2 := [(0, .ref 137)]) (st2 := [.ref 137, .ref 140]) 1 (fun _ _ => rfl) ?_
    refine pr_gE (k2 := 137) (v := vi (t 137 5)) hE rfl rfl rfl (by decide) rfl rfl rfl fun h4 => ?_
    have h4 : i32 (t 137 5) := h4
    refine pr_n (pc2 := 68) (lv2 := [(0, .ref 137)]) (st2 := [.ref 137, vi (t 137 5), .ref 140]) 1 (fun _ _ => rfl) ?_
    refine pr_gE (k2 := 137) (v := vi (t 137 6)) hE rfl rfl rfl (by decide) rfl rfl rfl fun h5 => ?_
    have h5 : i32 (t 137 6) := h5
    refine pr_sE (k2 := 140) (a := t 137 5) (z := t 137 6) hE rfl (by decide) rfl rfl h4 (by decide) rfl (show i32 (t 137 6) from h5) (n0 rfl (by omega) (by omega)) rfl rfl (fun e => absurd e.1 (by decide)) (fun _ => trivial) fun h6 h7 s8 hE8 => ?_
    refine pr_n (pc2 := 73) (lv2 := [(0, .ref 137)]) (st2 := [.ref 137]) 1 (fun _ _ => rfl) ?_
    refine pr_get (v := .ref 97) rfl rfl rfl (by decide) (rv_ref (hE8.2.1 137 0 97 rfl)) fun _ => ?_
    refine pr_n (pc2 := 77) (lv2 := [(0, .ref 137)]) (st2 := [.ref 137, .ref 97]) 1 (fun _ _ => rfl) ?_
    refine pr_gE (k2 := 137) (v := vi (t 137 6)) hE8 rfl rfl rfl (by decide) rfl rfl rfl fun h9 => ?_
    have h9 : i32 (t 137 6) := h9
    refine pr_s1 (args := [vi (t 137 6)]) (rest := []) rfl rfl rfl rfl (Nat.le_of_ble_eq_true rfl) rfl (h_26 s8 (up2 t 140 ((t 137 5).toNat) (t 137 6)) (t 137 6) hE8 h9) s_atb ?_
    rintro _ s10 ⟨rfl, hz10⟩ hE10
    show pr N2 K d tb_M25 83 [(0, .ref 137)] [vi (atb (up2 t 140 ((t 137 5).toNat) (t 137 6)) (t 137 6))] s10 _
    refine pr_n (pc2 := 85) (lv2 := [(1, vi (atb (up2 t 140 ((t 137 5).toNat) (t 137 6)) (t 137 6))), (0, .ref 137)]) (st2 := [vi (atb (up2 t 140 ((t 137 5).toNat) (t 137 6)) (t 137 6))]) 2 (fun _ _ => rfl) ?_
    by_cases h11 : 0 ≤ atb (up2 t 140 ((t 137 5).toNat) (t 137 6)) (t 137 6)
    · refine mq_t h11 ?_
      refine pr_if1t rfl rfl hz10 h11 ?_
      refine pr_n (pc2 := 91) (lv2 := [(1, vi (atb (up2 t 140 ((t 137 5).toNat) (t 137 6)) (t 137 6))), (0, .ref 137)]) (st2 := [vi (atb (up2 t 140 ((t 137 5).toNat) (t 137 6)) (t 137 6))]) 1 (fun _ _ => rfl) ?_
      refine pr_s0 (args := [vi (atb (up2 t 140 ((t 137 5).toNat) (t 137 6)) (t 137 6))]) (rest := []) rfl rfl rfl (Nat.le_of_ble_eq_true rfl) rfl (h_27 s10 (up2 t 140 ((t 137 5).toNat) (t 137 6)) (atb (up2 t 140 ((t 137 5).toNat) (t 137 6)) (t 137 6)) hE10 hz10) s_ltz ?_
      rintro _ s12 ⟨rfl, hz12⟩ hE12
      show pr N2 K d tb_M25 94 [(1, vi (atb (up2 t 140 ((t 137 5).toNat) (t 137 6)) (t 137 6))), (0, .ref 137)] [vi (ltz (atb (up2 t 140 ((t 137 5).toNat) (t 137 6)) (t 137 6)))] s12 _
      by_cases h13 : ltz (atb (up2 t 140 ((t 137 5).toNat) (t 137 6)) (t 137 6)) = 0
      · refine mq_t h13 ?_
        refine pr_if1t rfl rfl (i32_z hz12) h13 ?_
        refine pr_n (pc2 := 103) (lv2 := [(1, vi (atb (up2 t 140 ((t 137 5).toNat) (t 137 6)) (t 137 6))), (0, .ref 137)]) (st2 := [vi (atb (up2 t 140 ((t 137 5).toNat) (t 137 6)) (t 137 6))]) 1 (fun _ _ => rfl) ?_
        refine pr_s0 (args := [vi (atb (up2 t 140 ((t 137 5).toNat) (t 137 6)) (t 137 6))]) (rest := []) rfl rfl rfl (Nat.le_of_ble_eq_true rfl) rfl (h_30 s12 (up2 t 140 ((t 137 5).toNat) (t 137 6)) (atb (up2 t 140 ((t 137 5).toNat) (t 137 6)) (t 137 6)) hE12 hz10) s_dgz ?_
        rintro _ s14 ⟨rfl, hz14⟩ hE14
        show pr N2 K d tb_M25 106 [(1, vi (atb (up2 t 140 ((t 137 5).toNat) (t 137 6)) (t 137 6))), (0, .ref 137)] [vi (dgz (atb (up2 t 140 ((t 137 5).toNat) (t 137 6)) (t 137 6)))] s14 _
        by_cases h15 : dgz (atb (up2 t 140 ((t 137 5).toNat) (t 137 6)) (t 137 6)) = 0
        · refine mq_t h15 ?_
          refine pr_if1t rfl rfl (i32_z hz14) h15 ?_
          refine pr_n (pc2 := 118) (lv2 := [(1, vi (atb (up2 t 140 ((t 137 5).toNat) (t 137 6)) (t 137 6))), (0, .ref 137)]) (st2 := [vi (atb (up2 t 140 ((t 137 5).toNat) (t 137 6)) (t 137 6)), .ref 137]) 2 (fun _ _ => rfl) ?_
          refine pr_m1 (args := [vi (atb (up2 t 140 ((t 137 5).toNat) (t 137 6)) (t 137 6))]) (rest := []) rfl rfl rfl rfl (Nat.le_of_ble_eq_true rfl) rfl (h_32 s14 (up2 t 140 ((t 137 5).toNat) (t 137 6)) (atb (up2 t 140 ((t 137 5).toNat) (t 137 6)) (t 137 6)) hE14 hz10) ?_
          rintro _ z16 t16 s16 ⟨rfl, hz16⟩ hE16
          show pr N2 K d tb_M25 121 [(1, vi (atb (up2 t 140 ((t 137 5).toNat) (t 137 6)) (t 137 6))), (0, .ref 137)] [vi z16] s16 _
          refine pr_reti rfl rfl ?_
          exact .inl ⟨_, z16, _, rfl, ⟨rfl, hz16⟩, rfl, hE16⟩
        · refine mq_f h15 ?_
          refine pr_if1f rfl rfl (i32_z hz14) h15 ?_
          refine pr_n (pc2 := 110) (lv2 := [(1, vi (atb (up2 t 140 ((t 137 5).toNat) (t 137 6)) (t 137 6))), (0, .ref 137)]) (st2 := [.ref 137]) 1 (fun _ _ => rfl) ?_
          refine pr_m1 (args := []) (rest := []) rfl rfl rfl rfl (Nat.le_of_ble_eq_true rfl) rfl (h_31 s14 (up2 t 140 ((t 137 5).toNat) (t 137 6))  hE14 ) ?_
          rintro _ z17 t17 s17 ⟨rfl, hz17⟩ hE17
          show pr N2 K d tb_M25 113 [(1, vi (atb (up2 t 140 ((t 137 5).toNat) (t 137 6)) (t 137 6))), (0, .ref 137)] [vi z17] s17 _
          refine pr_n (pc2 := 121) (lv2 := [(1, vi (atb (up2 t 140 ((t 137 5).toNat) (t 137 6)) (t 137 6))), (0, .ref 137)]) (st2 := [vi z17]) 1 (fun _ _ => rfl) ?_
          refine pr_reti rfl rfl ?_
          exact .inl ⟨_, z17, _, rfl, ⟨rfl, hz17⟩, rfl, hE17⟩
      · refine mq_f h13 ?_
        refine pr_if1f rfl rfl (i32_z hz12) h13 ?_
        refine pr_n (pc2 := 98) (lv2 := [(1, vi (atb (up2 t 140 ((t 137 5).toNat) (t 137 6)) (t 137 6))), (0, .ref 137)]) (st2 := [.ref 137]) 1 (fun _ _ => rfl) ?_
        refine pr_m1 (args := []) (rest := []) rfl rfl rfl rfl (Nat.le_of_ble_eq_true rfl) rfl (h_28 s12 (up2 t 140 ((t 137 5).toNat) (t 137 6))  hE12 ) ?_
        rintro _ z18 t18 s18 ⟨rfl, hz18⟩ hE18
        show pr N2 K d tb_M25 101 [(1, vi (atb (up2 t 140 ((t 137 5).toNat) (t 137 6)) (t 137 6))), (0, .ref 137)] [vi z18] s18 _
        refine pr_reti rfl rfl ?_
        exact .inl ⟨_, z18, _, rfl, ⟨rfl, hz18⟩, rfl, hE18⟩
    · refine mq_f h11 ?_
      refine pr_if1f rfl rfl hz10 h11 ?_
      refine pr_n (pc2 := 89) (lv2 := [(1, vi (atb (up2 t 140 ((t 137 5).toNat) (t 137 6)) (t 137 6))), (0, .ref 137)]) (st2 := [vi 3]) 1 (fun _ _ => rfl) ?_
      refine pr_end (fun _ _ => rfl) ?_
      exact .inl ⟨_, 3, _, rfl, ⟨rfl, (i32_n rfl)⟩, rfl, hE10⟩
  · refine mq_f h3 ?_
    refine pr_if2f rfl rfl h1 h2 h3 ?_
    refine pr_n (pc2 := 15) (lv2 := [(0, .ref 137)]) (st2 := [.ref 137]) 1 (fun _ _ => rfl) ?_
    refine pr_get (v := .ref 97) rfl rfl rfl (by decide) (rv_ref (hE.2.1 137 0 97 rfl)) fun _ => ?_
    refine pr_n (pc2 := 19) (lv2 := [(0, .ref 137)]) (st2 := [.ref 137, .ref 97]) 1 (fun _ _ => rfl) ?_
    refine pr_gE (k2 := 137) (v := vi (t 137 6)) hE rfl rfl rfl (by decide) rfl rfl rfl fun h19 => ?_
    have h19 : i32 (t 137 6) := h19
    refine pr_s1 (args := [vi (t 137 6)]) (rest := []) rfl rfl rfl rfl (Nat.le_of_ble_eq_true rfl) rfl (h_26 s t (t 137 6) hE h19) s_atb ?_
    rintro _ s20 ⟨rfl, hz20⟩ hE20
    show pr N2 K d tb_M25 25 [(0, .ref 137)] [vi (atb t (t 137 6))] s20 _
    refine pr_n (pc2 := 27) (lv2 := [(0, .ref 137)]) (st2 := [vi 32, vi (atb t (t 137 6))]) 1 (fun _ _ => rfl) ?_
    by_cases h21 : atb t (t 137 6) = 32
    · refine mq_t h21 ?_
      refine pr_if2t rfl rfl hz20 (i32_n rfl) h21 ?_
      refine pr_n (pc2 := 48) (lv2 := [(0, .ref 137)]) (st2 := [.ref 137, .ref 137]) 2 (fun _ _ => rfl) ?_
      refine pr_gE (k2 := 137) (v := vi (t 137 6)) hE20 rfl rfl rfl (by decide) rfl rfl rfl fun h22 => ?_
      have h22 : i32 (t 137 6) := h22
      refine pr_n (pc2 := 52) (lv2 := [(0, .ref 137)]) (st2 := [vi 1, vi (t 137 6), .ref 137]) 1 (fun _ _ => rfl) ?_
      refine pr_add (a := t 137 6) (b := 1) rfl ?_
      have h23 : i32 (t 137 6 + 1) := by unfold i32 at *; omega
      show pr N2 K d tb_M25 53 [(0, .ref 137)] [vi (t 137 6 + 1), .ref 137] s20 _
      refine pr_pE (k2 := 137) (z := t 137 6 + 1) hE20 rfl rfl rfl rfl (by decide) rfl (by decide) rfl (show i32 (t 137 6 + 1) from h23) (hf_int' _) rfl rfl rfl (fun e => absurd e.1 (by decide)) (fun _ => trivial) fun s24 hE24 => ?_
      refine pr_n (pc2 := 0) (lv2 := [(0, .ref 137)]) (st2 := []) 1 (fun _ _ => rfl) ?_
      exact ((ih N2 hN2)) s24 (up2 t 137 6 (t 137 6 + 1))  hE24 
    · refine mq_f h21 ?_
      refine pr_if2f rfl rfl hz20 (i32_n rfl) h21 ?_
      refine pr_n (pc2 := 31) (lv2 := [(0, .ref 137)]) (st2 := [.ref 137]) 1 (fun _ _ => rfl) ?_
      refine pr_get (v := .ref 97) rfl rfl rfl (by decide) (rv_ref (hE20.2.1 137 0 97 rfl)) fun _ => ?_
      refine pr_n (pc2 := 35) (lv2 := [(0, .ref 137)]) (st2 := [.ref 137, .ref 97]) 1 (fun _ _ => rfl) ?_
      refine pr_gE (k2 := 137) (v := vi (t 137 6)) hE20 rfl rfl rfl (by decide) rfl rfl rfl fun h25 => ?_
      have h25 : i32 (t 137 6) := h25
      refine pr_s1 (args := [vi (t 137 6)]) (rest := []) rfl rfl rfl rfl (Nat.le_of_ble_eq_true rfl) rfl (h_26 s20 t (t 137 6) hE20 h25) s_atb ?_
      rintro _ s26 ⟨rfl, hz26⟩ hE26
      show pr N2 K d tb_M25 41 [(0, .ref 137)] [vi (atb t (t 137 6))] s26 _
      refine pr_n (pc2 := 43) (lv2 := [(0, .ref 137)]) (st2 := [vi 10, vi (atb t (t 137 6))]) 1 (fun _ _ => rfl) ?_
      by_cases h27 : atb t (t 137 6) ≠ 10
      · refine mq_t h27 ?_
        refine pr_if2t rfl rfl hz26 (i32_n rfl) h27 ?_
        refine pr_n (pc2 := 60) (lv2 := [(0, .ref 137)]) (st2 := [.ref 137]) 1 (fun _ _ => rfl) ?_
        refine pr_get (v := .ref 140) rfl rfl rfl (by decide) (rv_ref (hE26.2.1 137 3 140 rfl)) fun _ => ?_
        refine pr_n (pc2 := 64) (lv2 := [(0, .ref 137)]) (st2 := [.ref 137, .ref 140]) 1 (fun _ _ => rfl) ?_
        refine pr_gE (k2 := 137) (v := vi (t 137 5)) hE26 rfl rfl rfl (by decide) rfl rfl rfl fun h28 => ?_
        have h28 : i32 (t 137 5) := h28
        refine pr_n (pc2 := 68) (lv2 := [(0, .ref 137)]) (st2 := [.ref 137, vi (t 137 5), .ref 140]) 1 (fun _ _ => rfl) ?_
        refine pr_gE (k2 := 137) (v := vi (t 137 6)) hE26 rfl rfl rfl (by decide) rfl rfl rfl fun h29 => ?_
        have h29 : i32 (t 137 6) := h29
        refine pr_sE (k2 := 140) (a := t 137 5) (z := t 137 6) hE26 rfl (by decide) rfl rfl h28 (by decide) rfl (show i32 (t 137 6) from h29) (n0 rfl (by omega) (by omega)) rfl rfl (fun e => absurd e.1 (by decide)) (fun _ => trivial) fun h30 h31 s32 hE32 => ?_
        refine pr_n (pc2 := 73) (lv2 := [(0, .ref 137)]) (st2 := [.ref 137]) 1 (fun _ _ => rfl) ?_
        refine pr_get (v := .ref 97) rfl rfl rfl (by decide) (rv_ref (hE32.2.1 137 0 97 rfl)) fun _ => ?_
        refine pr_n (pc2 := 77) (lv2 := [(0, .ref 137)]) (st2 := [.ref 137, .ref 97]) 1 (fun _ _ => rfl) ?_
        refine pr_gE (k2 := 137) (v := vi (t 137 6)) hE32 rfl rfl rfl (by decide) rfl rfl rfl fun h33 => ?_
        have h33 : i32 (t 137 6) := h33
        refine pr_s1 (args := [vi (t 137 6)]) (rest := []) rfl rfl rfl rfl (Nat.le_of_ble_eq_true rfl) rfl (h_26 s32 (up2 t 140 ((t 137 5).toNat) (t 137 6)) (t 137 6) hE32 h33) s_atb ?_
        rintro _ s34 ⟨rfl, hz34⟩ hE34
        show pr N2 K d tb_M25 83 [(0, .ref 137)] [vi (atb (up2 t 140 ((t 137 5).toNat) (t 137 6)) (t 137 6))] s34 _
        refine pr_n (pc2 := 85) (lv2 := [(1, vi (atb (up2 t 140 ((t 137 5).toNat) (t 137 6)) (t 137 6))), (0, .ref 137)]) (st2 := [vi (atb (up2 t 140 ((t 137 5).toNat) (t 137 6)) (t 137 6))]) 2 (fun _ _ => rfl) ?_
        by_cases h35 : 0 ≤ atb (up2 t 140 ((t 137 5).toNat) (t 137 6)) (t 137 6)
        · refine mq_t h35 ?_
          refine pr_if1t rfl rfl hz34 h35 ?_
          refine pr_n (pc2 := 91) (lv2 := [(1, vi (atb (up2 t 140 ((t 137 5).toNat) (t 137 6)) (t 137 6))), (0, .ref 137)]) (st2 := [vi (atb (up2 t 140 ((t 137 5).toNat) (t 137 6)) (t 137 6))]) 1 (fun _ _ => rfl) ?_
          refine pr_s0 (args := [vi (atb (up2 t 140 ((t 137 5).toNat) (t 137 6)) (t 137 6))]) (rest := []) rfl rfl rfl (Nat.le_of_ble_eq_true rfl) rfl (h_27 s34 (up2 t 140 ((t 137 5).toNat) (t 137 6)) (atb (up2 t 140 ((t 137 5).toNat) (t 137 6)) (t 137 6)) hE34 hz34) s_ltz ?_
          rintro _ s36 ⟨rfl, hz36⟩ hE36
          show pr N2 K d tb_M25 94 [(1, vi (atb (up2 t 140 ((t 137 5).toNat) (t 137 6)) (t 137 6))), (0, .ref 137)] [vi (ltz (atb (up2 t 140 ((t 137 5).toNat) (t 137 6)) (t 137 6)))] s36 _
          by_cases h37 : ltz (atb (up2 t 140 ((t 137 5).toNat) (t 137 6)) (t 137 6)) = 0
          · refine mq_t h37 ?_
            refine pr_if1t rfl rfl (i32_z hz36) h37 ?_
            refine pr_n (pc2 := 103) (lv2 := [(1, vi (atb (up2 t 140 ((t 137 5).toNat) (t 137 6)) (t 137 6))), (0, .ref 137)]) (st2 := [vi (atb (up2 t 140 ((t 137 5).toNat) (t 137 6)) (t 137 6))]) 1 (fun _ _ => rfl) ?_
            refine pr_s0 (args := [vi (atb (up2 t 140 ((t 137 5).toNat) (t 137 6)) (t 137 6))]) (rest := []) rfl rfl rfl (Nat.le_of_ble_eq_true rfl) rfl (h_30 s36 (up2 t 140 ((t 137 5).toNat) (t 137 6)) (atb (up2 t 140 ((t 137 5).toNat) (t 137 6)) (t 137 6)) hE36 hz34) s_dgz ?_
            rintro _ s38 ⟨rfl, hz38⟩ hE38
            show pr N2 K d tb_M25 106 [(1, vi (atb (up2 t 140 ((t 137 5).toNat) (t 137 6)) (t 137 6))), (0, .ref 137)] [vi (dgz (atb (up2 t 140 ((t 137 5).toNat) (t 137 6)) (t 137 6)))] s38 _
            by_cases h39 : dgz (atb (up2 t 140 ((t 137 5).toNat) (t 137 6)) (t 137 6)) = 0
            · refine mq_t h39 ?_
              refine pr_if1t rfl rfl (i32_z hz38) h39 ?_
              refine pr_n (pc2 := 118) (lv2 := [(1, vi (atb (up2 t 140 ((t 137 5).toNat) (t 137 6)) (t 137 6))), (0, .ref 137)]) (st2 := [vi (atb (up2 t 140 ((t 137 5).toNat) (t 137 6)) (t 137 6)), .ref 137]) 2 (fun _ _ => rfl) ?_
              refine pr_m1 (args := [vi (atb (up2 t 140 ((t 137 5).toNat) (t 137 6)) (t 137 6))]) (rest := []) rfl rfl rfl rfl (Nat.le_of_ble_eq_true rfl) rfl (h_32 s38 (up2 t 140 ((t 137 5).toNat) (t 137 6)) (atb (up2 t 140 ((t 137 5).toNat) (t 137 6)) (t 137 6)) hE38 hz34) ?_
              rintro _ z40 t40 s40 ⟨rfl, hz40⟩ hE40
              show pr N2 K d tb_M25 121 [(1, vi (atb (up2 t 140 ((t 137 5).toNat) (t 137 6)) (t 137 6))), (0, .ref 137)] [vi z40] s40 _
              refine pr_reti rfl rfl ?_
              exact .inl ⟨_, z40, _, rfl, ⟨rfl, hz40⟩, rfl, hE40⟩
            · refine mq_f h39 ?_
              refine pr_if1f rfl rfl (i32_z hz38) h39 ?_
              refine pr_n (pc2 := 110) (lv2 := [(1, vi (atb (up2 t 140 ((t 137 5).toNat) (t 137 6)) (t 137 6))), (0, .ref 137)]) (st2 := [.ref 137]) 1 (fun _ _ => rfl) ?_
              refine pr_m1 (args := []) (rest := []) rfl rfl rfl rfl (Nat.le_of_ble_eq_true rfl) rfl (h_31 s38 (up2 t 140 ((t 137 5).toNat) (t 137 6))  hE38 ) ?_
              rintro _ z41 t41 s41 ⟨rfl, hz41⟩ hE41
              show pr N2 K d tb_M25 113 [(1, vi (atb (up2 t 140 ((t 137 5).toNat) (t 137 6)) (t 137 6))), (0, .ref 137)] [vi z41] s41 _
              refine pr_n (pc2 := 121) (lv2 := [(1, vi (atb (up2 t 140 ((t 137 5).toNat) (t 137 6)) (t 137 6))), (0, .ref 137)]) (st2 := [vi z41]) 1 (fun _ _ => rfl) ?_
              refine pr_reti rfl rfl ?_
              exact .inl ⟨_, z41, _, rfl, ⟨rfl, hz41⟩, rfl, hE41⟩
          · refine mq_f h37 ?_
            refine pr_if1f rfl rfl (i32_z hz36) h37 ?_
            refine pr_n (pc2 := 98) (lv2 := [(1, vi (atb (up2 t 140 ((t 137 5).toNat) (t 137 6)) (t 137 6))), (0, .ref 137)]) (st2 := [.ref 137]) 1 (fun _ _ => rfl) ?_
            refine pr_m1 (args := []) (rest := []) rfl rfl rfl rfl (Nat.le_of_ble_eq_true rfl) rfl (h_28 s36 (up2 t 140 ((t 137 5).toNat) (t 137 6))  hE36 ) ?_
            rintro _ z42 t42 s42 ⟨rfl, hz42⟩ hE42
            show pr N2 K d tb_M25 101 [(1, vi (atb (up2 t 140 ((t 137 5).toNat) (t 137 6)) (t 137 6))), (0, .ref 137)] [vi z42] s42 _
            refine pr_reti rfl rfl ?_
            exact .inl ⟨_, z42, _, rfl, ⟨rfl, hz42⟩, rfl, hE42⟩
        · refine mq_f h35 ?_
          refine pr_if1f rfl rfl hz34 h35 ?_
          refine pr_n (pc2 := 89) (lv2 := [(1, vi (atb (up2 t 140 ((t 137 5).toNat) (t 137 6)) (t 137 6))), (0, .ref 137)]) (st2 := [vi 3]) 1 (fun _ _ => rfl) ?_
          refine pr_end (fun _ _ => rfl) ?_
          exact .inl ⟨_, 3, _, rfl, ⟨rfl, (i32_n rfl)⟩, rfl, hE34⟩
      · refine mq_f h27 ?_
        refine pr_if2f rfl rfl hz26 (i32_n rfl) h27 ?_
        refine pr_n (pc2 := 48) (lv2 := [(0, .ref 137)]) (st2 := [.ref 137, .ref 137]) 2 (fun _ _ => rfl) ?_
        refine pr_gE (k2 := 137) (v := vi (t 137 6)) hE26 rfl rfl rfl (by decide) rfl rfl rfl fun h43 => ?_
        have h43 : i32 (t 137 6) := h43
        refine pr_n (pc2 := 52) (lv2 := [(0, .ref 137)]) (st2 := [vi 1, vi (t 137 6), .ref 137]) 1 (fun _ _ => rfl) ?_
        refine pr_add (a := t 137 6) (b := 1) rfl ?_
        have h44 : i32 (t 137 6 + 1) := by unfold i32 at *; omega
        show pr N2 K d tb_M25 53 [(0, .ref 137)] [vi (t 137 6 + 1), .ref 137] s26 _
        refine pr_pE (k2 := 137) (z := t 137 6 + 1) hE26 rfl rfl rfl rfl (by decide) rfl (by decide) rfl (show i32 (t 137 6 + 1) from h44) (hf_int' _) rfl rfl rfl (fun e => absurd e.1 (by decide)) (fun _ => trivial) fun s45 hE45 => ?_
        refine pr_n (pc2 := 0) (lv2 := [(0, .ref 137)]) (st2 := []) 1 (fun _ _ => rfl) ?_
        exact ((ih N2 hN2)) s45 (up2 t 137 6 (t 137 6 + 1))  hE45 
theorem ca25 {K d C : Nat} (h_26 : cT26 K d C) (h_27 : cT27 K d C) (h_28 : cT28 K d C) (h_30 : cT30 K d C) (h_31 : cT31 K d C) (h_32 : cT32 K d C) : ∀ N, cA25 N K d C := by
  intro N
  induction N using Nat.strongRecOn with | ind N ih => ?_
  exact cu25_0 h_26 h_27 h_28 h_30 h_31 h_32 ih
set_option maxHeartbeats 20000000 in
set_option maxRecDepth 100000 in
theorem cm25 {K d C : Nat} (h_26 : cT26 K d C) (h_27 : cT27 K d C) (h_28 : cT28 K d C) (h_30 : cT30 K d C) (h_31 : cT31 K d C) (h_32 : cT32 K d C) : cT25 K (d + 1) C := by
  intro s t  hE 
  have hC : C = 99 ∨ C = 115 := hE.1
  refine pcr_of (M := tb_M25) rfl ?_
  show pr K K d tb_M25 0 [(0, .ref 137)] [] s _
  rw [cG_25]
  unfold cM25
  exact ((ca25 h_26 h_27 h_28 h_30 h_31 h_32 K)) s t  hE 
set_option maxHeartbeats 20000000 in
set_option maxRecDepth 100000 in
theorem cu24_0 {N K d C : Nat} (h_25 : cT25 K d C) (ih : ∀ N2, N2 < N → cA24 N2 K d C) : cU24_0 N K d C := by
  intro s t y1 hE hy1
  have hC : C = 99 ∨ C = 115 := hE.1
  rw [cG_24_12]
  unfold cM24_12
  refine pr_lt (pc2 := 13) (lv2 := [(1, vi y1), (0, .ref 137)]) (st2 := [.ref 137]) (fun _ _ => rfl) fun N2 hN2 => ?_
  refine pr_gE (k2 := 137) (v := vi (t 137 5)) hE rfl rfl rfl (by decide) rfl rfl rfl fun h1 => ?_
  have h1 : i32 (t 137 5) := h1
  refine pr_n (pc2 := 19) (lv2 := [(1, vi y1), (0, .ref 137)]) (st2 := [vi 2000, vi (t 137 5)]) 1 (fun _ _ => rfl) ?_
  by_cases h2 : 2000 < t 137 5
  · refine mq_t h2 ?_
    refine pr_if2t rfl rfl h1 (i32_n rfl) h2 ?_
    refine pr_n (pc2 := 62) (lv2 := [(1, vi y1), (0, .ref 137)]) (st2 := [vi 0, .ref 137]) 2 (fun _ _ => rfl) ?_
    refine pr_pE (k2 := 137) (z := 0) hE rfl rfl rfl rfl (by decide) rfl (by decide) rfl (show i32 (0) from (i32_n rfl)) (hf_int' _) rfl rfl rfl (fun e => absurd e.1 (by decide)) (fun _ => trivial) fun s3 hE3 => ?_
    refine pr_end (fun _ _ => rfl) ?_
    exact .inl ⟨_, 0, _, rfl, ⟨rfl, rfl⟩, rfl, hE3⟩
  · refine mq_f h2 ?_
    refine pr_if2f rfl rfl h1 (i32_n rfl) h2 ?_
    refine pr_n (pc2 := 24) (lv2 := [(1, vi y1), (0, .ref 137)]) (st2 := [vi 3, vi y1]) 2 (fun _ _ => rfl) ?_
    by_cases h4 : y1 = 3
    · refine mq_t h4 ?_
      refine pr_if2t rfl rfl hy1 (i32_n rfl) h4 ?_
      refine pr_n (pc2 := 62) (lv2 := [(1, vi y1), (0, .ref 137)]) (st2 := [vi 0, .ref 137]) 2 (fun _ _ => rfl) ?_
      refine pr_pE (k2 := 137) (z := 0) hE rfl rfl rfl rfl (by decide) rfl (by decide) rfl (show i32 (0) from (i32_n rfl)) (hf_int' _) rfl rfl rfl (fun e => absurd e.1 (by decide)) (fun _ => trivial) fun s5 hE5 => ?_
      refine pr_end (fun _ _ => rfl) ?_
      exact .inl ⟨_, 0, _, rfl, ⟨rfl, rfl⟩, rfl, hE5⟩
    · refine mq_f h4 ?_
      refine pr_if2f rfl rfl hy1 (i32_n rfl) h4 ?_
      refine pr_n (pc2 := 29) (lv2 := [(1, vi y1), (0, .ref 137)]) (st2 := [vi 4, vi y1]) 2 (fun _ _ => rfl) ?_
      by_cases h6 : y1 = 4
      · refine mq_t h6 ?_
        refine pr_if2t rfl rfl hy1 (i32_n rfl) h6 ?_
        refine pr_n (pc2 := 62) (lv2 := [(1, vi y1), (0, .ref 137)]) (st2 := [vi 0, .ref 137]) 2 (fun _ _ => rfl) ?_
        refine pr_pE (k2 := 137) (z := 0) hE rfl rfl rfl rfl (by decide) rfl (by decide) rfl (show i32 (0) from (i32_n rfl)) (hf_int' _) rfl rfl rfl (fun e => absurd e.1 (by decide)) (fun _ => trivial) fun s7 hE7 => ?_
        refine pr_end (fun _ _ => rfl) ?_
        exact .inl ⟨_, 0, _, rfl, ⟨rfl, rfl⟩, rfl, hE7⟩
      · refine mq_f h6 ?_
        refine pr_if2f rfl rfl hy1 (i32_n rfl) h6 ?_
        refine pr_n (pc2 := 33) (lv2 := [(1, vi y1), (0, .ref 137)]) (st2 := [.ref 137]) 1 (fun _ _ => rfl) ?_
        refine pr_m1 (args := []) (rest := []) rfl rfl rfl rfl (Nat.le_of_ble_eq_true rfl) rfl (h_25 s t  hE ) ?_
        rintro _ z8 t8 s8 ⟨rfl, hz8⟩ hE8
        show pr N2 K d tb_M24 36 [(1, vi y1), (0, .ref 137)] [vi z8] s8 _
        refine pr_n (pc2 := 38) (lv2 := [(1, vi z8), (0, .ref 137)]) (st2 := [.ref 137]) 2 (fun _ _ => rfl) ?_
        refine pr_get (v := .ref 139) rfl rfl rfl (by decide) (rv_ref (hE8.2.1 137 2 139 rfl)) fun _ => ?_
        refine pr_n (pc2 := 42) (lv2 := [(1, vi z8), (0, .ref 137)]) (st2 := [.ref 137, .ref 139]) 1 (fun _ _ => rfl) ?_
        refine pr_gE (k2 := 137) (v := vi (t8 137 5)) hE8 rfl rfl rfl (by decide) rfl rfl rfl fun h9 => ?_
        have h9 : i32 (t8 137 5) := h9
        refine pr_n (pc2 := 46) (lv2 := [(1, vi z8), (0, .ref 137)]) (st2 := [vi z8, vi (t8 137 5), .ref 139]) 1 (fun _ _ => rfl) ?_
        refine pr_sE (k2 := 139) (a := t8 137 5) (z := z8) hE8 rfl (by decide) rfl rfl h9 (by decide) rfl (show i32 (z8) from hz8) (n0 rfl (by omega) (by omega)) rfl rfl (fun e => absurd e.1 (by decide)) (fun _ => trivial) fun h10 h11 s12 hE12 => ?_
        refine pr_n (pc2 := 49) (lv2 := [(1, vi z8), (0, .ref 137)]) (st2 := [.ref 137, .ref 137]) 2 (fun _ _ => rfl) ?_
        refine pr_gE (k2 := 137) (v := vi (t8 137 5)) hE12 rfl rfl rfl (by decide) rfl rfl rfl fun h13 => ?_
        have h13 : i32 (t8 137 5) := h13
        refine pr_n (pc2 := 53) (lv2 := [(1, vi z8), (0, .ref 137)]) (st2 := [vi 1, vi (t8 137 5), .ref 137]) 1 (fun _ _ => rfl) ?_
        refine pr_add (a := t8 137 5) (b := 1) rfl ?_
        have h14 : i32 (t8 137 5 + 1) := by unfold i32 at *; omega
        show pr N2 K d tb_M24 54 [(1, vi z8), (0, .ref 137)] [vi (t8 137 5 + 1), .ref 137] s12 _
        refine pr_pE (k2 := 137) (z := t8 137 5 + 1) hE12 rfl rfl rfl rfl (by decide) rfl (by decide) rfl (show i32 (t8 137 5 + 1) from h14) (hf_int' _) rfl rfl rfl (fun e => absurd e.1 (by decide)) (fun _ => trivial) fun s15 hE15 => ?_
        refine pr_n (pc2 := 12) (lv2 := [(1, vi z8), (0, .ref 137)]) (st2 := []) 1 (fun _ _ => rfl) ?_
        exact ((ih N2 hN2)) s15 (up2 (up2 t8 139 ((t8 137 5).toNat) z8) 137 5 (t8 137 5 + 1)) z8 hE15 hz8
theorem ca24 {K d C : Nat} (h_25 : cT25 K d C) : ∀ N, cA24 N K d C := by
  intro N
  induction N using Nat.strongRecOn with | ind N ih => ?_
  exact cu24_0 h_25 ih
set_option maxHeartbeats 20000000 in
set_option maxRecDepth 100000 in
theorem cm24 {K d C : Nat} (h_25 : cT25 K d C) : cT24 K (d + 1) C := by
  intro s t  hE 
  have hC : C = 99 ∨ C = 115 := hE.1
  refine pcr_of (M := tb_M24) rfl ?_
  show pr K K d tb_M24 0 [(0, .ref 137)] [] s _
  rw [cG_24]
  unfold cM24
  refine pr_n (pc2 := 2) (lv2 := [(0, .ref 137)]) (st2 := [vi 0, .ref 137]) 2 (fun _ _ => rfl) ?_
  refine pr_pE (k2 := 137) (z := 0) hE rfl rfl rfl rfl (by decide) rfl (by decide) rfl (show i32 (0) from (i32_n rfl)) (hf_int' _) rfl rfl rfl (fun e => absurd e.1 (by decide)) (fun _ => trivial) fun s1 hE1 => ?_
  refine pr_n (pc2 := 9) (lv2 := [(1, vi 1), (0, .ref 137)]) (st2 := [vi 0, .ref 137]) 4 (fun _ _ => rfl) ?_
  refine pr_pE (k2 := 137) (z := 0) hE1 rfl rfl rfl rfl (by decide) rfl (by decide) rfl (show i32 (0) from (i32_n rfl)) (hf_int' _) rfl rfl rfl (fun e => absurd e.1 (by decide)) (fun _ => trivial) fun s2 hE2 => ?_
  exact ((ca24 h_25 K)) s2 (up2 (up2 t 137 6 0) 137 5 0) 1 hE2 (i32_n rfl)
set_option maxHeartbeats 20000000 in
set_option maxRecDepth 100000 in
theorem cu39_0 {N K d C : Nat} (ih : ∀ N2, N2 < N → cA39 N2 K d C) : cU39_0 N K d C := by
  intro s t y5 y4 y1 y3 hE hy5 hy4 hy1 hy3
  have hC : C = 99 ∨ C = 115 := hE.1
  rw [cG_39_10]
  unfold cM39_10
  refine pr_lt (pc2 := 12) (lv2 := [(5, vi y5), (4, vi y4), (0, .ref (C + 6)), (1, vl y1), (3, vi y3)]) (st2 := [vi y5]) (fun _ _ => rfl) fun N2 hN2 => ?_
  refine pr_n (pc2 := 13) (lv2 := [(5, vi y5), (4, vi y4), (0, .ref (C + 6)), (1, vl y1), (3, vi y3)]) (st2 := [.ref (C + 6), vi y5]) 1 (fun _ _ => rfl) ?_
  refine pr_gE (k2 := 105) (v := vi (t 105 3)) hE rfl rfl (TK6 hC) (by decide) rfl rfl rfl fun h1 => ?_
  have h1 : i32 (t 105 3) := h1
  by_cases h2 : t 105 3 ≤ y5
  · refine mq_t h2 ?_
    refine pr_if2t rfl rfl hy5 h1 h2 ?_
    refine pr_n (pc2 := 43) (lv2 := [(5, vi y5), (4, vi y4), (0, .ref (C + 6)), (1, vl y1), (3, vi y3)]) (st2 := [vi y4]) 1 (fun _ _ => rfl) ?_
    refine pr_reti rfl rfl ?_
    exact .inl ⟨_, y4, _, rfl, ⟨rfl, hy4⟩, rfl, hE⟩
  · refine mq_f h2 ?_
    refine pr_if2f rfl rfl hy5 h1 h2 ?_
    refine pr_n (pc2 := 20) (lv2 := [(5, vi y5), (4, vi y4), (0, .ref (C + 6)), (1, vl y1), (3, vi y3)]) (st2 := [.ref (C + 6)]) 1 (fun _ _ => rfl) ?_
    refine pr_get (v := .ref (C + 7)) rfl rfl (TK6 hC) (by decide) (rv_ref (hE.2.1 (C + 6) 0 (C + 7) (rK6 hC (by omega)))) fun _ => ?_
    refine pr_n (pc2 := 25) (lv2 := [(5, vi y5), (4, vi y4), (0, .ref (C + 6)), (1, vl y1), (3, vi y3)]) (st2 := [vi y5, .ref (C + 7)]) 1 (fun _ _ => rfl) ?_
    refine pr_aE (k2 := 106) (a := y5) (v := vl (t 106 y5.toNat)) hE rfl (TK7 hC) rfl hy5 (by decide) rfl rfl rfl fun h4 h5 h3 => ?_
    have h3 : i64 (t 106 y5.toNat) := h3
    refine pr_n (pc2 := 27) (lv2 := [(5, vi y5), (4, vi y4), (0, .ref (C + 6)), (1, vl y1), (3, vi y3)]) (st2 := [vl y1, vl (t 106 y5.toNat)]) 1 (fun _ _ => rfl) ?_
    refine pr_lcmp (a := t 106 y5.toNat) (b := y1) rfl h3 hy1 ?_
    by_cases h6 : t 106 y5.toNat ≠ y1
    · refine mq_t h6 ?_
      refine pr_if1t rfl rfl lc_i32 (lc_ne.mpr h6) ?_
      refine pr_inc (a := y5) rfl rfl ?_
      have h7 : i32 (y5 + 1) := by unfold i32 at *; omega
      show pr N2 K d tb_M39 38 [(5, vi (y5 + 1)), (4, vi y4), (0, .ref (C + 6)), (1, vl y1), (3, vi y3)] [] s _
      refine pr_n (pc2 := 10) (lv2 := [(5, vi (y5 + 1)), (4, vi y4), (0, .ref (C + 6)), (1, vl y1), (3, vi y3)]) (st2 := []) 1 (fun _ _ => rfl) ?_
      exact ((ih N2 hN2)) s t (y5 + 1) y4 y1 y3 hE h7 hy4 hy1 hy3
    · refine mq_f h6 ?_
      refine pr_if1f rfl rfl lc_i32 (fun e => h6 (lc_ne.mp e)) ?_
      refine pr_n (pc2 := 35) (lv2 := [(4, vi y5), (5, vi y5), (0, .ref (C + 6)), (1, vl y1), (3, vi y3)]) (st2 := []) 2 (fun _ _ => rfl) ?_
      refine pr_inc (a := y5) rfl rfl ?_
      have h8 : i32 (y5 + 1) := by unfold i32 at *; omega
      show pr N2 K d tb_M39 38 [(5, vi (y5 + 1)), (4, vi y5), (0, .ref (C + 6)), (1, vl y1), (3, vi y3)] [] s _
      refine pr_n (pc2 := 10) (lv2 := [(5, vi (y5 + 1)), (4, vi y5), (0, .ref (C + 6)), (1, vl y1), (3, vi y3)]) (st2 := []) 1 (fun _ _ => rfl) ?_
      exact ((ih N2 hN2)) s t (y5 + 1) y5 y1 y3 hE h8 hy5 hy1 hy3
theorem ca39 {K d C : Nat} : ∀ N, cA39 N K d C := by
  intro N
  induction N using Nat.strongRecOn with | ind N ih => ?_
  exact cu39_0 ih
set_option maxHeartbeats 20000000 in
set_option maxRecDepth 100000 in
theorem cm39 {K d C : Nat} : cT39 K (d + 1) C := by
  intro s t x1 x3 hE hx1 hx3
  have hC : C = 99 ∨ C = 115 := hE.1
  refine pcr_of (M := tb_M39) rfl ?_
  show pr K K d tb_M39 0 [(0, .ref (C + 6)), (1, vl x1), (3, vi x3)] [] s _
  rw [cG_39]
  unfold cM39
  refine pr_n (pc2 := 5) (lv2 := [(4, vi ((-1))), (0, .ref (C + 6)), (1, vl x1), (3, vi x3)]) (st2 := [vi 0, vi x3]) 4 (fun _ _ => rfl) ?_
  refine pr_max (a := x3) (b := 0) rfl rfl hx3 (i32_n rfl) (by decide) ?_
  refine pr_n (pc2 := 10) (lv2 := [(5, vi (mxx x3 0)), (4, vi ((-1))), (0, .ref (C + 6)), (1, vl x1), (3, vi x3)]) (st2 := []) 1 (fun _ _ => rfl) ?_
  exact ((ca39 K)) s t (mxx x3 0) ((-1)) x1 x3 hE (mx_i32 hx3 (i32_n rfl)) (i32_n rfl) hx1 hx3
set_option maxHeartbeats 20000000 in
set_option maxRecDepth 100000 in
theorem cm42 {K d C : Nat} : cT42 K (d + 1) C := by
  intro s t x1 x3 x4 hE hx1 hx3 hx4
  have hC : C = 99 ∨ C = 115 := hE.1
  refine pcr_of (M := tb_M42) rfl ?_
  show pr K K d tb_M42 0 [(0, .ref (C + 6)), (1, vl x1), (3, vi x3), (4, vi x4)] [] s _
  rw [cG_42]
  unfold cM42
  refine pr_n (pc2 := 1) (lv2 := [(0, .ref (C + 6)), (1, vl x1), (3, vi x3), (4, vi x4)]) (st2 := [.ref (C + 6)]) 1 (fun _ _ => rfl) ?_
  refine pr_gE (k2 := 105) (v := vi (t 105 3)) hE rfl rfl (TK6 hC) (by decide) rfl rfl rfl fun h1 => ?_
  have h1 : i32 (t 105 3) := h1
  refine pr_n (pc2 := 6) (lv2 := [(0, .ref (C + 6)), (1, vl x1), (3, vi x3), (4, vi x4)]) (st2 := [vi 58, vi (t 105 3)]) 1 (fun _ _ => rfl) ?_
  by_cases h2 : 58 ≤ t 105 3
  · refine mq_t h2 ?_
    refine pr_if2t rfl rfl h1 (i32_n rfl) h2 ?_
    refine pr_end (fun _ _ => rfl) ?_
    exact .inl ⟨_, 0, _, rfl, ⟨rfl, rfl⟩, rfl, hE⟩
  · refine mq_f h2 ?_
    refine pr_if2f rfl rfl h1 (i32_n rfl) h2 ?_
    refine pr_n (pc2 := 10) (lv2 := [(0, .ref (C + 6)), (1, vl x1), (3, vi x3), (4, vi x4)]) (st2 := [.ref (C + 6)]) 1 (fun _ _ => rfl) ?_
    refine pr_get (v := .ref (C + 7)) rfl rfl (TK6 hC) (by decide) (rv_ref (hE.2.1 (C + 6) 0 (C + 7) (rK6 hC (by omega)))) fun _ => ?_
    refine pr_n (pc2 := 14) (lv2 := [(0, .ref (C + 6)), (1, vl x1), (3, vi x3), (4, vi x4)]) (st2 := [.ref (C + 6), .ref (C + 7)]) 1 (fun _ _ => rfl) ?_
    refine pr_gE (k2 := 105) (v := vi (t 105 3)) hE rfl rfl (TK6 hC) (by decide) rfl rfl rfl fun h3 => ?_
    have h3 : i32 (t 105 3) := h3
    refine pr_n (pc2 := 18) (lv2 := [(0, .ref (C + 6)), (1, vl x1), (3, vi x3), (4, vi x4)]) (st2 := [vl x1, vi (t 105 3), .ref (C + 7)]) 1 (fun _ _ => rfl) ?_
    refine pr_sE (k2 := 106) (a := t 105 3) (z := x1) hE rfl (show 96 ≤ C + 7 by omega) (TK7 hC) rfl h3 (by decide) rfl hx1 (nK hC (by omega)) rfl rfl (fun e => absurd e.1 (show ¬ (C + 7 = 131) by omega)) (iv_c (by decide)) fun h4 h5 s6 hE6 => ?_
    refine pr_n (pc2 := 20) (lv2 := [(0, .ref (C + 6)), (1, vl x1), (3, vi x3), (4, vi x4)]) (st2 := [.ref (C + 6)]) 1 (fun _ _ => rfl) ?_
    refine pr_get (v := .ref (C + 8)) rfl rfl (TK6 hC) (by decide) (rv_ref (hE6.2.1 (C + 6) 1 (C + 8) (rK6 hC (by omega)))) fun _ => ?_
    refine pr_n (pc2 := 24) (lv2 := [(0, .ref (C + 6)), (1, vl x1), (3, vi x3), (4, vi x4)]) (st2 := [.ref (C + 6), .ref (C + 8)]) 1 (fun _ _ => rfl) ?_
    refine pr_gE (k2 := 105) (v := vi (t 105 3)) hE6 rfl rfl (TK6 hC) (by decide) rfl rfl rfl fun h7 => ?_
    have h7 : i32 (t 105 3) := h7
    refine pr_n (pc2 := 28) (lv2 := [(0, .ref (C + 6)), (1, vl x1), (3, vi x3), (4, vi x4)]) (st2 := [vi x3, vi (t 105 3), .ref (C + 8)]) 1 (fun _ _ => rfl) ?_
    refine pr_sE (k2 := 107) (a := t 105 3) (z := x3) hE6 rfl (show 96 ≤ C + 8 by omega) (TK8 hC) rfl h7 (by decide) rfl (show i32 (x3) from hx3) (nK hC (by omega)) rfl rfl (fun e => absurd e.1 (show ¬ (C + 8 = 131) by omega)) (iv_c (by decide)) fun h8 h9 s10 hE10 => ?_
    refine pr_n (pc2 := 30) (lv2 := [(0, .ref (C + 6)), (1, vl x1), (3, vi x3), (4, vi x4)]) (st2 := [.ref (C + 6)]) 1 (fun _ _ => rfl) ?_
    refine pr_get (v := .ref (C + 9)) rfl rfl (TK6 hC) (by decide) (rv_ref (hE10.2.1 (C + 6) 2 (C + 9) (rK6 hC (by omega)))) fun _ => ?_
    refine pr_n (pc2 := 34) (lv2 := [(0, .ref (C + 6)), (1, vl x1), (3, vi x3), (4, vi x4)]) (st2 := [.ref (C + 6), .ref (C + 9)]) 1 (fun _ _ => rfl) ?_
    refine pr_gE (k2 := 105) (v := vi (t 105 3)) hE10 rfl rfl (TK6 hC) (by decide) rfl rfl rfl fun h11 => ?_
    have h11 : i32 (t 105 3) := h11
    refine pr_n (pc2 := 39) (lv2 := [(0, .ref (C + 6)), (1, vl x1), (3, vi x3), (4, vi x4)]) (st2 := [vi x4, vi (t 105 3), .ref (C + 9)]) 1 (fun _ _ => rfl) ?_
    refine pr_sE (k2 := 108) (a := t 105 3) (z := x4) hE10 rfl (show 96 ≤ C + 9 by omega) (TK9 hC) rfl h11 (by decide) rfl (show i32 (x4) from hx4) (nK hC (by omega)) rfl rfl (fun e => absurd e.1 (show ¬ (C + 9 = 131) by omega)) (iv_c (by decide)) fun h12 h13 s14 hE14 => ?_
    refine pr_n (pc2 := 42) (lv2 := [(0, .ref (C + 6)), (1, vl x1), (3, vi x3), (4, vi x4)]) (st2 := [.ref (C + 6), .ref (C + 6)]) 2 (fun _ _ => rfl) ?_
    refine pr_gE (k2 := 105) (v := vi (t 105 3)) hE14 rfl rfl (TK6 hC) (by decide) rfl rfl rfl fun h15 => ?_
    have h15 : i32 (t 105 3) := h15
    refine pr_n (pc2 := 46) (lv2 := [(0, .ref (C + 6)), (1, vl x1), (3, vi x3), (4, vi x4)]) (st2 := [vi 1, vi (t 105 3), .ref (C + 6)]) 1 (fun _ _ => rfl) ?_
    refine pr_add (a := t 105 3) (b := 1) rfl ?_
    have h16 : i32 (t 105 3 + 1) := by unfold i32 at *; omega
    show pr K K d tb_M42 47 [(0, .ref (C + 6)), (1, vl x1), (3, vi x3), (4, vi x4)] [vi (t 105 3 + 1), .ref (C + 6)] s14 _
    refine pr_pE (k2 := 105) (z := t 105 3 + 1) hE14 rfl rfl rfl rfl (show 96 ≤ C + 6 by omega) (TK6 hC) (by decide) rfl (show i32 (t 105 3 + 1) from h16) (hf_int' _) (nK hC (by omega)) rfl rfl (fun e => absurd e.1 (show ¬ (C + 6 = 131) by omega)) (iv_c (by decide)) fun s17 hE17 => ?_
    refine pr_end (fun _ _ => rfl) ?_
    exact .inl ⟨_, 0, _, rfl, ⟨rfl, rfl⟩, rfl, hE17⟩
set_option maxHeartbeats 20000000 in
set_option maxRecDepth 100000 in
theorem cm22 {K d C : Nat} : cT22 K (d + 1) C := by
  intro s t x1 hE hx1
  have hC : C = 99 ∨ C = 115 := hE.1
  refine pcr_of (M := tb_M22) rfl ?_
  show pr K K d tb_M22 0 [(0, .ref (C + 6)), (1, vi x1)] [] s _
  rw [cG_22]
  unfold cM22
  refine pr_n (pc2 := 1) (lv2 := [(0, .ref (C + 6)), (1, vi x1)]) (st2 := [vi x1]) 1 (fun _ _ => rfl) ?_
  by_cases h1 : x1 < 0
  · refine mq_t h1 ?_
    refine pr_if1t rfl rfl hx1 h1 ?_
    refine pr_end (fun _ _ => rfl) ?_
    exact .inl ⟨_, 0, _, rfl, ⟨rfl, rfl⟩, rfl, hE⟩
  · refine mq_f h1 ?_
    refine pr_if1f rfl rfl hx1 h1 ?_
    refine pr_n (pc2 := 6) (lv2 := [(0, .ref (C + 6)), (1, vi x1)]) (st2 := [.ref (C + 6), vi x1]) 2 (fun _ _ => rfl) ?_
    refine pr_gE (k2 := 105) (v := vi (t 105 3)) hE rfl rfl (TK6 hC) (by decide) rfl rfl rfl fun h2 => ?_
    have h2 : i32 (t 105 3) := h2
    by_cases h3 : t 105 3 ≤ x1
    · refine mq_t h3 ?_
      refine pr_if2t rfl rfl hx1 h2 h3 ?_
      refine pr_end (fun _ _ => rfl) ?_
      exact .inl ⟨_, 0, _, rfl, ⟨rfl, rfl⟩, rfl, hE⟩
    · refine mq_f h3 ?_
      refine pr_if2f rfl rfl hx1 h2 h3 ?_
      refine pr_n (pc2 := 14) (lv2 := [(0, .ref (C + 6)), (1, vi x1)]) (st2 := [vi x1, .ref (C + 6)]) 2 (fun _ _ => rfl) ?_
      refine pr_pE (k2 := 105) (z := x1) hE rfl rfl rfl rfl (show 96 ≤ C + 6 by omega) (TK6 hC) (by decide) rfl (show i32 (x1) from hx1) (hf_int' _) (nK hC (by omega)) rfl rfl (fun e => absurd e.1 (show ¬ (C + 6 = 131) by omega)) (iv_c (by decide)) fun s4 hE4 => ?_
      refine pr_end (fun _ _ => rfl) ?_
      exact .inl ⟨_, 0, _, rfl, ⟨rfl, rfl⟩, rfl, hE4⟩
set_option maxHeartbeats 20000000 in
set_option maxRecDepth 100000 in
theorem cm62 {K d C : Nat} : cT62 K (d + 1) C := by
  intro s t x1 hE hx1
  have hC : C = 99 ∨ C = 115 := hE.1
  refine pcr_of (M := tb_M62) rfl ?_
  show pr K K d tb_M62 0 [(0, .ref (C + 6)), (1, vi x1)] [] s _
  rw [cG_62]
  unfold cM62
  refine pr_n (pc2 := 1) (lv2 := [(0, .ref (C + 6)), (1, vi x1)]) (st2 := [vi x1]) 1 (fun _ _ => rfl) ?_
  by_cases h1 : x1 < 0
  · refine mq_t h1 ?_
    refine pr_if1t rfl rfl hx1 h1 ?_
    refine pr_n (pc2 := 22) (lv2 := [(0, .ref (C + 6)), (1, vi x1)]) (st2 := [vi ((-1))]) 1 (fun _ _ => rfl) ?_
    refine pr_end (fun _ _ => rfl) ?_
    exact .inl ⟨_, (-1), _, rfl, ⟨rfl, (i32_n rfl)⟩, rfl, hE⟩
  · refine mq_f h1 ?_
    refine pr_if1f rfl rfl hx1 h1 ?_
    refine pr_n (pc2 := 6) (lv2 := [(0, .ref (C + 6)), (1, vi x1)]) (st2 := [.ref (C + 6), vi x1]) 2 (fun _ _ => rfl) ?_
    refine pr_gE (k2 := 105) (v := vi (t 105 3)) hE rfl rfl (TK6 hC) (by decide) rfl rfl rfl fun h2 => ?_
    have h2 : i32 (t 105 3) := h2
    by_cases h3 : t 105 3 ≤ x1
    · refine mq_t h3 ?_
      refine pr_if2t rfl rfl hx1 h2 h3 ?_
      refine pr_n (pc2 := 22) (lv2 := [(0, .ref (C + 6)), (1, vi x1)]) (st2 := [vi ((-1))]) 1 (fun _ _ => rfl) ?_
      refine pr_end (fun _ _ => rfl) ?_
      exact .inl ⟨_, (-1), _, rfl, ⟨rfl, (i32_n rfl)⟩, rfl, hE⟩
    · refine mq_f h3 ?_
      refine pr_if2f rfl rfl hx1 h2 h3 ?_
      refine pr_n (pc2 := 13) (lv2 := [(0, .ref (C + 6)), (1, vi x1)]) (st2 := [.ref (C + 6)]) 1 (fun _ _ => rfl) ?_
      refine pr_get (v := .ref (C + 8)) rfl rfl (TK6 hC) (by decide) (rv_ref (hE.2.1 (C + 6) 1 (C + 8) (rK6 hC (by omega)))) fun _ => ?_
      refine pr_n (pc2 := 17) (lv2 := [(0, .ref (C + 6)), (1, vi x1)]) (st2 := [vi x1, .ref (C + 8)]) 1 (fun _ _ => rfl) ?_
      refine pr_aE (k2 := 107) (a := x1) (v := vi (t 107 x1.toNat)) hE rfl (TK8 hC) rfl hx1 (by decide) rfl rfl rfl fun h5 h6 h4 => ?_
      have h4 : i32 (t 107 x1.toNat) := h4
      refine pr_n (pc2 := 22) (lv2 := [(0, .ref (C + 6)), (1, vi x1)]) (st2 := [vi (t 107 x1.toNat)]) 1 (fun _ _ => rfl) ?_
      refine pr_reti rfl rfl ?_
      exact .inl ⟨_, t 107 x1.toNat, _, rfl, ⟨rfl, h4⟩, rfl, hE⟩
set_option maxHeartbeats 20000000 in
set_option maxRecDepth 100000 in
theorem cm63 {K d C : Nat} : cT63 K (d + 1) C := by
  intro s t x1 hE hx1
  have hC : C = 99 ∨ C = 115 := hE.1
  refine pcr_of (M := tb_M63) rfl ?_
  show pr K K d tb_M63 0 [(0, .ref (C + 6)), (1, vi x1)] [] s _
  rw [cG_63]
  unfold cM63
  refine pr_n (pc2 := 1) (lv2 := [(0, .ref (C + 6)), (1, vi x1)]) (st2 := [vi x1]) 1 (fun _ _ => rfl) ?_
  by_cases h1 : x1 < 0
  · refine mq_t h1 ?_
    refine pr_if1t rfl rfl hx1 h1 ?_
    refine pr_n (pc2 := 22) (lv2 := [(0, .ref (C + 6)), (1, vi x1)]) (st2 := [vi ((-1))]) 1 (fun _ _ => rfl) ?_
    refine pr_end (fun _ _ => rfl) ?_
    exact .inl ⟨_, (-1), _, rfl, ⟨rfl, (i32_n rfl)⟩, rfl, hE⟩
  · refine mq_f h1 ?_
    refine pr_if1f rfl rfl hx1 h1 ?_
    refine pr_n (pc2 := 6) (lv2 := [(0, .ref (C + 6)), (1, vi x1)]) (st2 := [.ref (C + 6), vi x1]) 2 (fun _ _ => rfl) ?_
    refine pr_gE (k2 := 105) (v := vi (t 105 3)) hE rfl rfl (TK6 hC) (by decide) rfl rfl rfl fun h2 => ?_
    have h2 : i32 (t 105 3) := h2
    by_cases h3 : t 105 3 ≤ x1
    · refine mq_t h3 ?_
      refine pr_if2t rfl rfl hx1 h2 h3 ?_
      refine pr_n (pc2 := 22) (lv2 := [(0, .ref (C + 6)), (1, vi x1)]) (st2 := [vi ((-1))]) 1 (fun _ _ => rfl) ?_
      refine pr_end (fun _ _ => rfl) ?_
      exact .inl ⟨_, (-1), _, rfl, ⟨rfl, (i32_n rfl)⟩, rfl, hE⟩
    · refine mq_f h3 ?_
      refine pr_if2f rfl rfl hx1 h2 h3 ?_
      refine pr_n (pc2 := 13) (lv2 := [(0, .ref (C + 6)), (1, vi x1)]) (st2 := [.ref (C + 6)]) 1 (fun _ _ => rfl) ?_
      refine pr_get (v := .ref (C + 9)) rfl rfl (TK6 hC) (by decide) (rv_ref (hE.2.1 (C + 6) 2 (C + 9) (rK6 hC (by omega)))) fun _ => ?_
      refine pr_n (pc2 := 17) (lv2 := [(0, .ref (C + 6)), (1, vi x1)]) (st2 := [vi x1, .ref (C + 9)]) 1 (fun _ _ => rfl) ?_
      refine pr_aE (k2 := 108) (a := x1) (v := vi (t 108 x1.toNat)) hE rfl (TK9 hC) rfl hx1 (by decide) rfl rfl rfl fun h5 h6 h4 => ?_
      have h4 : i32 (t 108 x1.toNat) := h4
      refine pr_n (pc2 := 22) (lv2 := [(0, .ref (C + 6)), (1, vi x1)]) (st2 := [vi (t 108 x1.toNat)]) 1 (fun _ _ => rfl) ?_
      refine pr_reti rfl rfl ?_
      exact .inl ⟨_, t 108 x1.toNat, _, rfl, ⟨rfl, h4⟩, rfl, hE⟩
set_option maxHeartbeats 20000000 in
set_option maxRecDepth 100000 in
theorem cm21 {K d C : Nat} (h_22 : cT22 K d C) (h_23 : cT23 K d C) : cT21 K (d + 1) C := by
  intro s t  hE 
  have hC : C = 99 ∨ C = 115 := hE.1
  refine pcr_of (M := tb_M21) rfl ?_
  show pr K K d tb_M21 0 [(0, .ref C)] [] s _
  rw [cG_21]
  unfold cM21
  refine pr_n (pc2 := 1) (lv2 := [(0, .ref C)]) (st2 := [.ref C]) 1 (fun _ _ => rfl) ?_
  refine pr_get (v := .ref (C + 6)) rfl rfl (TK0 hC) (by decide) (rv_ref (hE.2.1 C 5 (C + 6) (rcK hC (by omega)))) fun _ => ?_
  refine pr_n (pc2 := 5) (lv2 := [(0, .ref C)]) (st2 := [vi 0, .ref (C + 6)]) 1 (fun _ _ => rfl) ?_
  refine pr_s1 (args := [vi 0]) (rest := []) rfl rfl rfl (TK6 hC) (Nat.le_of_ble_eq_true rfl) rfl (h_22 s t 0 hE (i32_n rfl)) s_ncu ?_
  rintro _ s1 ⟨rfl, _⟩ hE1
  show pr K K d tb_M21 8 [(0, .ref C)] [] s1 _
  refine pr_n (pc2 := 9) (lv2 := [(0, .ref C)]) (st2 := [.ref C]) 1 (fun _ _ => rfl) ?_
  refine pr_get (v := .ref (C + 10)) rfl rfl (TK0 hC) (by decide) (rv_ref (hE1.2.1 C 6 (C + 10) (rcK hC (by omega)))) fun _ => ?_
  refine pr_n (pc2 := 13) (lv2 := [(0, .ref C)]) (st2 := [vi 0, .ref (C + 10)]) 1 (fun _ _ => rfl) ?_
  refine pr_m0 (args := [.ref (C + 10), vi 0]) (rest := []) rfl rfl rfl (Nat.le_of_ble_eq_true rfl) rfl (h_23 s1 ((ncu t 0)) 0 hE1 (i32_n rfl)) ?_
  rintro _ _ t2 s2 ⟨rfl, rfl⟩ hE2
  show pr K K d tb_M21 16 [(0, .ref C)] [] s2 _
  refine pr_n (pc2 := 18) (lv2 := [(0, .ref C)]) (st2 := [vi 0, .ref C]) 2 (fun _ _ => rfl) ?_
  refine pr_pE (k2 := 99) (z := 0) hE2 rfl rfl rfl rfl (show 96 ≤ C by omega) (TK0 hC) (by decide) rfl (show i32 (0) from (i32_n rfl)) (hf_int' _) (nK (a := 0) hC (by omega)) rfl rfl (fun e => absurd e.1 (show ¬ (C = 131) by omega)) (iv_c (by decide)) fun s3 hE3 => ?_
  refine pr_n (pc2 := 23) (lv2 := [(0, .ref C)]) (st2 := [vi ((-1)), .ref C]) 2 (fun _ _ => rfl) ?_
  refine pr_pE (k2 := 99) (z := (-1)) hE3 rfl rfl rfl rfl (show 96 ≤ C by omega) (TK0 hC) (by decide) rfl (show i32 ((-1)) from (i32_n rfl)) (hf_int' _) (nK (a := 0) hC (by omega)) rfl rfl (fun e => absurd e.1 (show ¬ (C = 131) by omega)) (iv_c (by decide)) fun s4 hE4 => ?_
  refine pr_end (fun _ _ => rfl) ?_
  exact .inl ⟨_, 0, _, rfl, ⟨rfl, rfl⟩, rfl, hE4⟩
set_option maxHeartbeats 20000000 in
set_option maxRecDepth 100000 in
theorem cm67 {K d C : Nat} : cT67 K (d + 1) C := by
  intro s t x1 hE hx1
  have hC : C = 99 ∨ C = 115 := hE.1
  refine pcr_of (M := tb_M67) rfl ?_
  show pr K K d tb_M67 0 [(0, .ref C), (1, vi x1)] [] s _
  rw [cG_67]
  unfold cM67
  refine pr_n (pc2 := 1) (lv2 := [(0, .ref C), (1, vi x1)]) (st2 := [vi x1]) 1 (fun _ _ => rfl) ?_
  by_cases h1 : x1 < 0
  · refine mq_t h1 ?_
    refine pr_if1t rfl rfl hx1 h1 ?_
    refine pr_n (pc2 := 17) (lv2 := [(0, .ref C), (1, vi x1)]) (st2 := [vi 0]) 1 (fun _ _ => rfl) ?_
    refine pr_end (fun _ _ => rfl) ?_
    exact .inl ⟨_, 0, _, rfl, ⟨rfl, (by decide)⟩, rfl, hE⟩
  · refine mq_f h1 ?_
    refine pr_if1f rfl rfl hx1 h1 ?_
    refine pr_n (pc2 := 6) (lv2 := [(0, .ref C), (1, vi x1)]) (st2 := [.ref C, vi x1]) 2 (fun _ _ => rfl) ?_
    refine pr_gE (k2 := 99) (v := vi (t 99 12)) hE rfl rfl (TK0 hC) (by decide) rfl rfl rfl fun h2 => ?_
    have h2 : i32 (t 99 12) := h2
    by_cases h3 : t 99 12 ≤ x1
    · refine mq_t h3 ?_
      refine pr_if2t rfl rfl hx1 h2 h3 ?_
      refine pr_n (pc2 := 17) (lv2 := [(0, .ref C), (1, vi x1)]) (st2 := [vi 0]) 1 (fun _ _ => rfl) ?_
      refine pr_end (fun _ _ => rfl) ?_
      exact .inl ⟨_, 0, _, rfl, ⟨rfl, (by decide)⟩, rfl, hE⟩
    · refine mq_f h3 ?_
      refine pr_if2f rfl rfl hx1 h2 h3 ?_
      refine pr_n (pc2 := 17) (lv2 := [(0, .ref C), (1, vi x1)]) (st2 := [vi 1]) 2 (fun _ _ => rfl) ?_
      refine pr_end (fun _ _ => rfl) ?_
      exact .inl ⟨_, 1, _, rfl, ⟨rfl, (by decide)⟩, rfl, hE⟩
set_option maxHeartbeats 20000000 in
set_option maxRecDepth 100000 in
theorem cm54 {K d C : Nat} : cT54 K (d + 1) C := by
  intro s t x1 x2 x3 x4 hE hx1 hx2 hx3 hx4
  have hC : C = 99 ∨ C = 115 := hE.1
  refine pcr_of (M := tb_M54) rfl ?_
  show pr K K d tb_M54 0 [(0, .ref C), (1, vi x1), (2, vi x2), (3, vi x3), (4, vi x4)] [] s _
  rw [cG_54]
  unfold cM54
  refine pr_n (pc2 := 1) (lv2 := [(0, .ref C), (1, vi x1), (2, vi x2), (3, vi x3), (4, vi x4)]) (st2 := [.ref C]) 1 (fun _ _ => rfl) ?_
  refine pr_gE (k2 := 99) (v := vi (t 99 12)) hE rfl rfl (TK0 hC) (by decide) rfl rfl rfl fun h1 => ?_
  have h1 : i32 (t 99 12) := h1
  refine pr_n (pc2 := 7) (lv2 := [(0, .ref C), (1, vi x1), (2, vi x2), (3, vi x3), (4, vi x4)]) (st2 := [vi 2000, vi (t 99 12)]) 1 (fun _ _ => rfl) ?_
  by_cases h2 : t 99 12 < 2000
  · refine mq_t h2 ?_
    refine pr_if2t rfl rfl h1 (i32_n rfl) h2 ?_
    refine pr_n (pc2 := 13) (lv2 := [(0, .ref C), (1, vi x1), (2, vi x2), (3, vi x3), (4, vi x4)]) (st2 := [.ref C]) 1 (fun _ _ => rfl) ?_
    refine pr_get (v := .ref (C + 1)) rfl rfl (TK0 hC) (by decide) (rv_ref (hE.2.1 C 0 (C + 1) (rcK hC (by omega)))) fun _ => ?_
    refine pr_n (pc2 := 17) (lv2 := [(0, .ref C), (1, vi x1), (2, vi x2), (3, vi x3), (4, vi x4)]) (st2 := [.ref C, .ref (C + 1)]) 1 (fun _ _ => rfl) ?_
    refine pr_gE (k2 := 99) (v := vi (t 99 12)) hE rfl rfl (TK0 hC) (by decide) rfl rfl rfl fun h3 => ?_
    have h3 : i32 (t 99 12) := h3
    refine pr_n (pc2 := 21) (lv2 := [(0, .ref C), (1, vi x1), (2, vi x2), (3, vi x3), (4, vi x4)]) (st2 := [vi x1, vi (t 99 12), .ref (C + 1)]) 1 (fun _ _ => rfl) ?_
    refine pr_sE (k2 := 100) (a := t 99 12) (z := x1) hE rfl (show 96 ≤ C + 1 by omega) (TK1 hC) rfl h3 (by decide) rfl (show i32 (x1) from hx1) (nK hC (by omega)) rfl rfl (fun e => absurd e.1 (show ¬ (C + 1 = 131) by omega)) (iv_c (by decide)) fun h4 h5 s6 hE6 => ?_
    refine pr_n (pc2 := 23) (lv2 := [(0, .ref C), (1, vi x1), (2, vi x2), (3, vi x3), (4, vi x4)]) (st2 := [.ref C]) 1 (fun _ _ => rfl) ?_
    refine pr_get (v := .ref (C + 2)) rfl rfl (TK0 hC) (by decide) (rv_ref (hE6.2.1 C 1 (C + 2) (rcK hC (by omega)))) fun _ => ?_
    refine pr_n (pc2 := 27) (lv2 := [(0, .ref C), (1, vi x1), (2, vi x2), (3, vi x3), (4, vi x4)]) (st2 := [.ref C, .ref (C + 2)]) 1 (fun _ _ => rfl) ?_
    refine pr_gE (k2 := 99) (v := vi (t 99 12)) hE6 rfl rfl (TK0 hC) (by decide) rfl rfl rfl fun h7 => ?_
    have h7 : i32 (t 99 12) := h7
    refine pr_n (pc2 := 31) (lv2 := [(0, .ref C), (1, vi x1), (2, vi x2), (3, vi x3), (4, vi x4)]) (st2 := [vi x2, vi (t 99 12), .ref (C + 2)]) 1 (fun _ _ => rfl) ?_
    refine pr_sE (k2 := 101) (a := t 99 12) (z := x2) hE6 rfl (show 96 ≤ C + 2 by omega) (TK2 hC) rfl h7 (by decide) rfl (show i32 (x2) from hx2) (nK hC (by omega)) rfl rfl (fun e => absurd e.1 (show ¬ (C + 2 = 131) by omega)) (iv_c (by decide)) fun h8 h9 s10 hE10 => ?_
    refine pr_n (pc2 := 33) (lv2 := [(0, .ref C), (1, vi x1), (2, vi x2), (3, vi x3), (4, vi x4)]) (st2 := [.ref C]) 1 (fun _ _ => rfl) ?_
    refine pr_get (v := .ref (C + 3)) rfl rfl (TK0 hC) (by decide) (rv_ref (hE10.2.1 C 2 (C + 3) (rcK hC (by omega)))) fun _ => ?_
    refine pr_n (pc2 := 37) (lv2 := [(0, .ref C), (1, vi x1), (2, vi x2), (3, vi x3), (4, vi x4)]) (st2 := [.ref C, .ref (C + 3)]) 1 (fun _ _ => rfl) ?_
    refine pr_gE (k2 := 99) (v := vi (t 99 12)) hE10 rfl rfl (TK0 hC) (by decide) rfl rfl rfl fun h11 => ?_
    have h11 : i32 (t 99 12) := h11
    refine pr_n (pc2 := 41) (lv2 := [(0, .ref C), (1, vi x1), (2, vi x2), (3, vi x3), (4, vi x4)]) (st2 := [vi x3, vi (t 99 12), .ref (C + 3)]) 1 (fun _ _ => rfl) ?_
    refine pr_sE (k2 := 102) (a := t 99 12) (z := x3) hE10 rfl (show 96 ≤ C + 3 by omega) (TK3 hC) rfl h11 (by decide) rfl (show i32 (x3) from hx3) (nK hC (by omega)) rfl rfl (fun e => absurd e.1 (show ¬ (C + 3 = 131) by omega)) (iv_c (by decide)) fun h12 h13 s14 hE14 => ?_
    refine pr_n (pc2 := 43) (lv2 := [(0, .ref C), (1, vi x1), (2, vi x2), (3, vi x3), (4, vi x4)]) (st2 := [.ref C]) 1 (fun _ _ => rfl) ?_
    refine pr_get (v := .ref (C + 4)) rfl rfl (TK0 hC) (by decide) (rv_ref (hE14.2.1 C 3 (C + 4) (rcK hC (by omega)))) fun _ => ?_
    refine pr_n (pc2 := 47) (lv2 := [(0, .ref C), (1, vi x1), (2, vi x2), (3, vi x3), (4, vi x4)]) (st2 := [.ref C, .ref (C + 4)]) 1 (fun _ _ => rfl) ?_
    refine pr_gE (k2 := 99) (v := vi (t 99 12)) hE14 rfl rfl (TK0 hC) (by decide) rfl rfl rfl fun h15 => ?_
    have h15 : i32 (t 99 12) := h15
    refine pr_n (pc2 := 52) (lv2 := [(0, .ref C), (1, vi x1), (2, vi x2), (3, vi x3), (4, vi x4)]) (st2 := [vi x4, vi (t 99 12), .ref (C + 4)]) 1 (fun _ _ => rfl) ?_
    refine pr_sE (k2 := 103) (a := t 99 12) (z := x4) hE14 rfl (show 96 ≤ C + 4 by omega) (TK4 hC) rfl h15 (by decide) rfl (show i32 (x4) from hx4) (nK hC (by omega)) rfl rfl (fun e => absurd e.1 (show ¬ (C + 4 = 131) by omega)) (iv_c (by decide)) fun h16 h17 s18 hE18 => ?_
    refine pr_n (pc2 := 54) (lv2 := [(0, .ref C), (1, vi x1), (2, vi x2), (3, vi x3), (4, vi x4)]) (st2 := [.ref C]) 1 (fun _ _ => rfl) ?_
    refine pr_get (v := .ref (C + 5)) rfl rfl (TK0 hC) (by decide) (rv_ref (hE18.2.1 C 4 (C + 5) (rcK hC (by omega)))) fun _ => ?_
    refine pr_n (pc2 := 58) (lv2 := [(0, .ref C), (1, vi x1), (2, vi x2), (3, vi x3), (4, vi x4)]) (st2 := [.ref C, .ref (C + 5)]) 1 (fun _ _ => rfl) ?_
    refine pr_gE (k2 := 99) (v := vi (t 99 12)) hE18 rfl rfl (TK0 hC) (by decide) rfl rfl rfl fun h19 => ?_
    have h19 : i32 (t 99 12) := h19
    refine pr_n (pc2 := 62) (lv2 := [(0, .ref C), (1, vi x1), (2, vi x2), (3, vi x3), (4, vi x4)]) (st2 := [vi ((-1)), vi (t 99 12), .ref (C + 5)]) 1 (fun _ _ => rfl) ?_
    refine pr_sE (k2 := 104) (a := t 99 12) (z := (-1)) hE18 rfl (show 96 ≤ C + 5 by omega) (TK5 hC) rfl h19 (by decide) rfl (show i32 ((-1)) from (i32_n rfl)) (nK hC (by omega)) rfl rfl (fun e => absurd e.1 (show ¬ (C + 5 = 131) by omega)) (iv_c (by decide)) fun h20 h21 s22 hE22 => ?_
    refine pr_n (pc2 := 65) (lv2 := [(0, .ref C), (1, vi x1), (2, vi x2), (3, vi x3), (4, vi x4)]) (st2 := [.ref C, .ref C]) 2 (fun _ _ => rfl) ?_
    refine pr_gE (k2 := 99) (v := vi (t 99 12)) hE22 rfl rfl (TK0 hC) (by decide) rfl rfl rfl fun h23 => ?_
    have h23 : i32 (t 99 12) := h23
    refine pr_n (pc2 := 69) (lv2 := [(0, .ref C), (1, vi x1), (2, vi x2), (3, vi x3), (4, vi x4)]) (st2 := [vi 1, vi (t 99 12), .ref C]) 1 (fun _ _ => rfl) ?_
    refine pr_add (a := t 99 12) (b := 1) rfl ?_
    have h24 : i32 (t 99 12 + 1) := by unfold i32 at *; omega
    show pr K K d tb_M54 70 [(0, .ref C), (1, vi x1), (2, vi x2), (3, vi x3), (4, vi x4)] [vi (t 99 12 + 1), .ref C] s22 _
    refine pr_pE (k2 := 99) (z := t 99 12 + 1) hE22 rfl rfl rfl rfl (show 96 ≤ C by omega) (TK0 hC) (by decide) rfl (show i32 (t 99 12 + 1) from h24) (hf_int' _) (nK (a := 0) hC (by omega)) rfl rfl (fun e => absurd e.1 (show ¬ (C = 131) by omega)) (iv_c (by decide)) fun s25 hE25 => ?_
    refine pr_n (pc2 := 74) (lv2 := [(0, .ref C), (1, vi x1), (2, vi x2), (3, vi x3), (4, vi x4)]) (st2 := [.ref C]) 1 (fun _ _ => rfl) ?_
    refine pr_gE (k2 := 99) (v := vi (t 99 12 + 1)) hE25 rfl rfl (TK0 hC) (by decide) rfl rfl rfl fun h26 => ?_
    have h26 : i32 (t 99 12 + 1) := h26
    refine pr_n (pc2 := 78) (lv2 := [(0, .ref C), (1, vi x1), (2, vi x2), (3, vi x3), (4, vi x4)]) (st2 := [vi 1, vi (t 99 12 + 1)]) 1 (fun _ _ => rfl) ?_
    refine pr_sub (a := t 99 12 + 1) (b := 1) rfl ?_
    have h27 : i32 ((t 99 12 + 1) - 1) := by unfold i32 at *; omega
    show pr K K d tb_M54 79 [(0, .ref C), (1, vi x1), (2, vi x2), (3, vi x3), (4, vi x4)] [vi ((t 99 12 + 1) - 1)] s25 _
    refine pr_reti rfl rfl ?_
    exact .inl ⟨_, (t 99 12 + 1) - 1, _, rfl, ⟨rfl, h27⟩, rfl, hE25⟩
  · refine mq_f h2 ?_
    refine pr_if2f rfl rfl h1 (i32_n rfl) h2 ?_
    refine pr_n (pc2 := 11) (lv2 := [(0, .ref C), (1, vi x1), (2, vi x2), (3, vi x3), (4, vi x4)]) (st2 := [vi ((-1))]) 1 (fun _ _ => rfl) ?_
    refine pr_end (fun _ _ => rfl) ?_
    exact .inl ⟨_, (-1), _, rfl, ⟨rfl, (i32_n rfl)⟩, rfl, hE⟩
set_option maxHeartbeats 20000000 in
set_option maxRecDepth 100000 in
theorem cm66 {K d C : Nat} (h_67 : cT67 K d C) : cT66 K (d + 1) C := by
  intro s t x1 x2 hE hx1 hx2
  have hC : C = 99 ∨ C = 115 := hE.1
  refine pcr_of (M := tb_M66) rfl ?_
  show pr K K d tb_M66 0 [(0, .ref C), (1, vi x1), (2, vi x2)] [] s _
  rw [cG_66]
  unfold cM66
  refine pr_n (pc2 := 2) (lv2 := [(0, .ref C), (1, vi x1), (2, vi x2)]) (st2 := [vi x1, .ref C]) 2 (fun _ _ => rfl) ?_
  refine pr_s1 (args := [vi x1]) (rest := []) rfl rfl rfl (TK0 hC) (Nat.le_of_ble_eq_true rfl) rfl (h_67 s t x1 hE hx1) s_hsz ?_
  rintro _ s1 ⟨rfl, hz1⟩ hE1
  show pr K K d tb_M66 5 [(0, .ref C), (1, vi x1), (2, vi x2)] [vi (hsz t x1)] s1 _
  by_cases h2 : hsz t x1 = 0
  · refine mq_t h2 ?_
    refine pr_if1t rfl rfl (i32_z hz1) h2 ?_
    refine pr_end (fun _ _ => rfl) ?_
    exact .inl ⟨_, 0, _, rfl, ⟨rfl, rfl⟩, rfl, hE1⟩
  · refine mq_f h2 ?_
    refine pr_if1f rfl rfl (i32_z hz1) h2 ?_
    refine pr_n (pc2 := 9) (lv2 := [(0, .ref C), (1, vi x1), (2, vi x2)]) (st2 := [.ref C]) 1 (fun _ _ => rfl) ?_
    refine pr_get (v := .ref (C + 5)) rfl rfl (TK0 hC) (by decide) (rv_ref (hE1.2.1 C 4 (C + 5) (rcK hC (by omega)))) fun _ => ?_
    refine pr_n (pc2 := 14) (lv2 := [(0, .ref C), (1, vi x1), (2, vi x2)]) (st2 := [vi x2, vi x1, .ref (C + 5)]) 2 (fun _ _ => rfl) ?_
    refine pr_sE (k2 := 104) (a := x1) (z := x2) hE1 rfl (show 96 ≤ C + 5 by omega) (TK5 hC) rfl hx1 (by decide) rfl (show i32 (x2) from hx2) (nK hC (by omega)) rfl rfl (fun e => absurd e.1 (show ¬ (C + 5 = 131) by omega)) (iv_c (by decide)) fun h3 h4 s5 hE5 => ?_
    refine pr_end (fun _ _ => rfl) ?_
    exact .inl ⟨_, 0, _, rfl, ⟨rfl, rfl⟩, rfl, hE5⟩
set_option maxHeartbeats 20000000 in
set_option maxRecDepth 100000 in
theorem cm46 {K d C : Nat} : cT46 K (d + 1) C := by
  intro s t x1 x2 hE hx1 hx2
  have hC : C = 99 ∨ C = 115 := hE.1
  refine pcr_of (M := tb_M46) rfl ?_
  show pr K K d tb_M46 0 [(0, .ref C), (1, vi x1), (2, vi x2)] [] s _
  rw [cG_46]
  unfold cM46
  refine pr_n (pc2 := 1) (lv2 := [(0, .ref C), (1, vi x1), (2, vi x2)]) (st2 := [vi x1]) 1 (fun _ _ => rfl) ?_
  by_cases h1 : x1 < 0
  · refine mq_t h1 ?_
    refine pr_if1t rfl rfl hx1 h1 ?_
    refine pr_end (fun _ _ => rfl) ?_
    exact .inl ⟨_, 0, _, rfl, ⟨rfl, rfl⟩, rfl, hE⟩
  · refine mq_f h1 ?_
    refine pr_if1f rfl rfl hx1 h1 ?_
    refine pr_n (pc2 := 7) (lv2 := [(0, .ref C), (1, vi x1), (2, vi x2)]) (st2 := [vi 24, vi x1]) 2 (fun _ _ => rfl) ?_
    by_cases h2 : 24 ≤ x1
    · refine mq_t h2 ?_
      refine pr_if2t rfl rfl hx1 (i32_n rfl) h2 ?_
      refine pr_end (fun _ _ => rfl) ?_
      exact .inl ⟨_, 0, _, rfl, ⟨rfl, rfl⟩, rfl, hE⟩
    · refine mq_f h2 ?_
      refine pr_if2f rfl rfl hx1 (i32_n rfl) h2 ?_
      refine pr_n (pc2 := 11) (lv2 := [(0, .ref C), (1, vi x1), (2, vi x2)]) (st2 := [.ref C]) 1 (fun _ _ => rfl) ?_
      refine pr_get (v := .ref (C + 11)) rfl rfl (TK0 hC) (by decide) (rv_ref (hE.2.1 C 7 (C + 11) (rcK hC (by omega)))) fun _ => ?_
      refine pr_n (pc2 := 16) (lv2 := [(0, .ref C), (1, vi x1), (2, vi x2)]) (st2 := [vi x2, vi x1, .ref (C + 11)]) 2 (fun _ _ => rfl) ?_
      refine pr_sE (k2 := 110) (a := x1) (z := x2) hE rfl (show 96 ≤ C + 11 by omega) (TK11 hC) rfl hx1 (by decide) rfl (show i32 (x2) from hx2) (nK hC (by omega)) rfl rfl (fun e => absurd e.1 (show ¬ (C + 11 = 131) by omega)) (iv_c (by decide)) fun h3 h4 s5 hE5 => ?_
      refine pr_end (fun _ _ => rfl) ?_
      exact .inl ⟨_, 0, _, rfl, ⟨rfl, rfl⟩, rfl, hE5⟩
set_option maxHeartbeats 20000000 in
set_option maxRecDepth 100000 in
theorem cm77 {K d C : Nat} : cT77 K (d + 1) C := by
  intro s t x1 x2 hE hx1 hx2
  have hC : C = 99 ∨ C = 115 := hE.1
  refine pcr_of (M := tb_M77) rfl ?_
  show pr K K d tb_M77 0 [(0, .ref C), (1, vi x1), (2, vi x2)] [] s _
  rw [cG_77]
  unfold cM77
  refine pr_n (pc2 := 1) (lv2 := [(0, .ref C), (1, vi x1), (2, vi x2)]) (st2 := [vi x1]) 1 (fun _ _ => rfl) ?_
  by_cases h1 : x1 < 0
  · refine mq_t h1 ?_
    refine pr_if1t rfl rfl hx1 h1 ?_
    refine pr_end (fun _ _ => rfl) ?_
    exact .inl ⟨_, 0, _, rfl, ⟨rfl, rfl⟩, rfl, hE⟩
  · refine mq_f h1 ?_
    refine pr_if1f rfl rfl hx1 h1 ?_
    refine pr_n (pc2 := 7) (lv2 := [(0, .ref C), (1, vi x1), (2, vi x2)]) (st2 := [vi 6, vi x1]) 2 (fun _ _ => rfl) ?_
    by_cases h2 : 6 ≤ x1
    · refine mq_t h2 ?_
      refine pr_if2t rfl rfl hx1 (i32_n rfl) h2 ?_
      refine pr_end (fun _ _ => rfl) ?_
      exact .inl ⟨_, 0, _, rfl, ⟨rfl, rfl⟩, rfl, hE⟩
    · refine mq_f h2 ?_
      refine pr_if2f rfl rfl hx1 (i32_n rfl) h2 ?_
      refine pr_n (pc2 := 11) (lv2 := [(0, .ref C), (1, vi x1), (2, vi x2)]) (st2 := [.ref C]) 1 (fun _ _ => rfl) ?_
      refine pr_get (v := .ref (C + 12)) rfl rfl (TK0 hC) (by decide) (rv_ref (hE.2.1 C 8 (C + 12) (rcK hC (by omega)))) fun _ => ?_
      refine pr_n (pc2 := 16) (lv2 := [(0, .ref C), (1, vi x1), (2, vi x2)]) (st2 := [vi x2, vi x1, .ref (C + 12)]) 2 (fun _ _ => rfl) ?_
      refine pr_sE (k2 := 111) (a := x1) (z := x2) hE rfl (show 96 ≤ C + 12 by omega) (TK12 hC) rfl hx1 (by decide) rfl (show i32 (x2) from hx2) (nK hC (by omega)) rfl rfl (fun e => absurd e.1 (show ¬ (C + 12 = 131) by omega)) (iv_c (by decide)) fun h3 h4 s5 hE5 => ?_
      refine pr_end (fun _ _ => rfl) ?_
      exact .inl ⟨_, 0, _, rfl, ⟨rfl, rfl⟩, rfl, hE5⟩
set_option maxHeartbeats 20000000 in
set_option maxRecDepth 100000 in
theorem cm47 {K d C : Nat} : cT47 K (d + 1) C := by
  intro s t x1 x2 x3 hE hx1 hx2 hx3
  have hC : C = 99 ∨ C = 115 := hE.1
  refine pcr_of (M := tb_M47) rfl ?_
  show pr K K d tb_M47 0 [(0, .ref C), (1, vi x1), (2, vi x2), (3, vi x3)] [] s _
  rw [cG_47]
  unfold cM47
  refine pr_n (pc2 := 1) (lv2 := [(0, .ref C), (1, vi x1), (2, vi x2), (3, vi x3)]) (st2 := [vi x1]) 1 (fun _ _ => rfl) ?_
  by_cases h1 : x1 < 0
  · refine mq_t h1 ?_
    refine pr_if1t rfl rfl hx1 h1 ?_
    refine pr_end (fun _ _ => rfl) ?_
    exact .inl ⟨_, 0, _, rfl, ⟨rfl, rfl⟩, rfl, hE⟩
  · refine mq_f h1 ?_
    refine pr_if1f rfl rfl hx1 h1 ?_
    refine pr_n (pc2 := 7) (lv2 := [(0, .ref C), (1, vi x1), (2, vi x2), (3, vi x3)]) (st2 := [vi 12, vi x1]) 2 (fun _ _ => rfl) ?_
    by_cases h2 : 12 ≤ x1
    · refine mq_t h2 ?_
      refine pr_if2t rfl rfl hx1 (i32_n rfl) h2 ?_
      refine pr_end (fun _ _ => rfl) ?_
      exact .inl ⟨_, 0, _, rfl, ⟨rfl, rfl⟩, rfl, hE⟩
    · refine mq_f h2 ?_
      refine pr_if2f rfl rfl hx1 (i32_n rfl) h2 ?_
      refine pr_n (pc2 := 11) (lv2 := [(0, .ref C), (1, vi x1), (2, vi x2), (3, vi x3)]) (st2 := [.ref C]) 1 (fun _ _ => rfl) ?_
      refine pr_get (v := .ref (C + 14)) rfl rfl (TK0 hC) (by decide) (rv_ref (hE.2.1 C 10 (C + 14) (rcK hC (by omega)))) fun _ => ?_
      refine pr_n (pc2 := 16) (lv2 := [(0, .ref C), (1, vi x1), (2, vi x2), (3, vi x3)]) (st2 := [vi x2, vi x1, .ref (C + 14)]) 2 (fun _ _ => rfl) ?_
      refine pr_sE (k2 := 113) (a := x1) (z := x2) hE rfl (show 96 ≤ C + 14 by omega) (TK14 hC) rfl hx1 (by decide) rfl (show i32 (x2) from hx2) (nK hC (by omega)) rfl rfl (fun e => absurd e.1 (show ¬ (C + 14 = 131) by omega)) (iv_c (by decide)) fun h3 h4 s5 hE5 => ?_
      refine pr_n (pc2 := 18) (lv2 := [(0, .ref C), (1, vi x1), (2, vi x2), (3, vi x3)]) (st2 := [.ref C]) 1 (fun _ _ => rfl) ?_
      refine pr_get (v := .ref (C + 13)) rfl rfl (TK0 hC) (by decide) (rv_ref (hE5.2.1 C 9 (C + 13) (rcK hC (by omega)))) fun _ => ?_
      refine pr_n (pc2 := 23) (lv2 := [(0, .ref C), (1, vi x1), (2, vi x2), (3, vi x3)]) (st2 := [vi x3, vi x1, .ref (C + 13)]) 2 (fun _ _ => rfl) ?_
      refine pr_sE (k2 := 112) (a := x1) (z := x3) hE5 rfl (show 96 ≤ C + 13 by omega) (TK13 hC) rfl hx1 (by decide) rfl (show i32 (x3) from hx3) (nK hC (by omega)) rfl rfl (fun e => absurd e.1 (show ¬ (C + 13 = 131) by omega)) (iv_c (by decide)) fun h6 h7 s8 hE8 => ?_
      refine pr_end (fun _ _ => rfl) ?_
      exact .inl ⟨_, 0, _, rfl, ⟨rfl, rfl⟩, rfl, hE8⟩
set_option maxHeartbeats 20000000 in
set_option maxRecDepth 100000 in
theorem cm48 {K d C : Nat} : cT48 K (d + 1) C := by
  intro s t x1 hE hx1
  have hC : C = 99 ∨ C = 115 := hE.1
  refine pcr_of (M := tb_M48) rfl ?_
  show pr K K d tb_M48 0 [(0, .ref C), (1, vi x1)] [] s _
  rw [cG_48]
  unfold cM48
  refine pr_n (pc2 := 1) (lv2 := [(0, .ref C), (1, vi x1)]) (st2 := [vi x1]) 1 (fun _ _ => rfl) ?_
  by_cases h1 : x1 < 0
  · refine mq_t h1 ?_
    refine pr_if1t rfl rfl hx1 h1 ?_
    refine pr_n (pc2 := 20) (lv2 := [(0, .ref C), (1, vi x1)]) (st2 := [vi 0]) 1 (fun _ _ => rfl) ?_
    refine pr_end (fun _ _ => rfl) ?_
    exact .inl ⟨_, 0, _, rfl, ⟨rfl, (i32_n rfl)⟩, rfl, hE⟩
  · refine mq_f h1 ?_
    refine pr_if1f rfl rfl hx1 h1 ?_
    refine pr_n (pc2 := 7) (lv2 := [(0, .ref C), (1, vi x1)]) (st2 := [vi 12, vi x1]) 2 (fun _ _ => rfl) ?_
    by_cases h2 : 12 ≤ x1
    · refine mq_t h2 ?_
      refine pr_if2t rfl rfl hx1 (i32_n rfl) h2 ?_
      refine pr_n (pc2 := 20) (lv2 := [(0, .ref C), (1, vi x1)]) (st2 := [vi 0]) 1 (fun _ _ => rfl) ?_
      refine pr_end (fun _ _ => rfl) ?_
      exact .inl ⟨_, 0, _, rfl, ⟨rfl, (i32_n rfl)⟩, rfl, hE⟩
    · refine mq_f h2 ?_
      refine pr_if2f rfl rfl hx1 (i32_n rfl) h2 ?_
      refine pr_n (pc2 := 11) (lv2 := [(0, .ref C), (1, vi x1)]) (st2 := [.ref C]) 1 (fun _ _ => rfl) ?_
      refine pr_get (v := .ref (C + 13)) rfl rfl (TK0 hC) (by decide) (rv_ref (hE.2.1 C 9 (C + 13) (rcK hC (by omega)))) fun _ => ?_
      refine pr_n (pc2 := 15) (lv2 := [(0, .ref C), (1, vi x1)]) (st2 := [vi x1, .ref (C + 13)]) 1 (fun _ _ => rfl) ?_
      refine pr_aE (k2 := 112) (a := x1) (v := vi (t 112 x1.toNat)) hE rfl (TK13 hC) rfl hx1 (by decide) rfl rfl rfl fun h4 h5 h3 => ?_
      have h3 : i32 (t 112 x1.toNat) := h3
      refine pr_n (pc2 := 20) (lv2 := [(0, .ref C), (1, vi x1)]) (st2 := [vi (t 112 x1.toNat)]) 1 (fun _ _ => rfl) ?_
      refine pr_reti rfl rfl ?_
      exact .inl ⟨_, t 112 x1.toNat, _, rfl, ⟨rfl, h3⟩, rfl, hE⟩
set_option maxHeartbeats 20000000 in
set_option maxRecDepth 100000 in
theorem cu23_0 {N K d C : Nat} (ih : ∀ N2, N2 < N → cA23 N2 K d C) : cU23_0 N K d C := by
  intro s t y3 y2 y1 hE hy3 hy2 hy1
  have hC : C = 99 ∨ C = 115 := hE.1
  rw [cG_23_5]
  unfold cM23_5
  refine pr_lt (pc2 := 6) (lv2 := [(3, vi y3), (2, vi y2), (0, .ref (C + 10)), (1, vi y1)]) (st2 := [vi y2]) (fun _ _ => rfl) fun N2 hN2 => ?_
  refine pr_n (pc2 := 7) (lv2 := [(3, vi y3), (2, vi y2), (0, .ref (C + 10)), (1, vi y1)]) (st2 := [vi y3, vi y2]) 1 (fun _ _ => rfl) ?_
  by_cases h1 : y3 ≤ y2
  · refine mq_t h1 ?_
    refine pr_if2t rfl rfl hy2 hy3 h1 ?_
    refine pr_end (fun _ _ => rfl) ?_
    exact .inl ⟨_, 0, _, rfl, ⟨rfl, rfl⟩, rfl, hE⟩
  · refine mq_f h1 ?_
    refine pr_if2f rfl rfl hy2 hy3 h1 ?_
    refine pr_n (pc2 := 13) (lv2 := [(3, vi y3), (2, vi y2), (0, .ref (C + 10)), (1, vi y1)]) (st2 := [vi y1, vi y2, .ref (C + 10)]) 3 (fun _ _ => rfl) ?_
    refine pr_sE (k2 := 109) (a := y2) (z := y1) hE rfl (show 96 ≤ C + 10 by omega) (TK10 hC) rfl hy2 (by decide) rfl (show i32 (y1) from hy1) (nK hC (by omega)) rfl rfl (fun e => absurd e.1 (show ¬ (C + 10 = 131) by omega)) (iv_c (by decide)) fun h2 h3 s4 hE4 => ?_
    refine pr_inc (a := y2) rfl rfl ?_
    have h5 : i32 (y2 + 1) := by unfold i32 at *; omega
    show pr N2 K d tb_M23 17 [(2, vi (y2 + 1)), (3, vi y3), (0, .ref (C + 10)), (1, vi y1)] [] s4 _
    refine pr_n (pc2 := 5) (lv2 := [(2, vi (y2 + 1)), (3, vi y3), (0, .ref (C + 10)), (1, vi y1)]) (st2 := []) 1 (fun _ _ => rfl) ?_
    exact ((ih N2 hN2).2) s4 (up2 t 109 y2.toNat y1) (y2 + 1) y3 y1 hE4 h5 hy3 hy1
set_option maxHeartbeats 20000000 in
set_option maxRecDepth 100000 in
theorem cu23_1 {N K d C : Nat} (ih : ∀ N2, N2 < N → cA23 N2 K d C) : cU23_1 N K d C := by
  intro s t y2 y3 y1 hE hy2 hy3 hy1
  have hC : C = 99 ∨ C = 115 := hE.1
  rw [cG_23_5]
  unfold cM23_5
  refine pr_lt (pc2 := 6) (lv2 := [(2, vi y2), (3, vi y3), (0, .ref (C + 10)), (1, vi y1)]) (st2 := [vi y2]) (fun _ _ => rfl) fun N2 hN2 => ?_
  refine pr_n (pc2 := 7) (lv2 := [(2, vi y2), (3, vi y3), (0, .ref (C + 10)), (1, vi y1)]) (st2 := [vi y3, vi y2]) 1 (fun _ _ => rfl) ?_
  by_cases h1 : y3 ≤ y2
  · refine mq_t h1 ?_
    refine pr_if2t rfl rfl hy2 hy3 h1 ?_
    refine pr_end (fun _ _ => rfl) ?_
    exact .inl ⟨_, 0, _, rfl, ⟨rfl, rfl⟩, rfl, hE⟩
  · refine mq_f h1 ?_
    refine pr_if2f rfl rfl hy2 hy3 h1 ?_
    refine pr_n (pc2 := 13) (lv2 := [(2, vi y2), (3, vi y3), (0, .ref (C + 10)), (1, vi y1)]) (st2 := [vi y1, vi y2, .ref (C + 10)]) 3 (fun _ _ => rfl) ?_
    refine pr_sE (k2 := 109) (a := y2) (z := y1) hE rfl (show 96 ≤ C + 10 by omega) (TK10 hC) rfl hy2 (by decide) rfl (show i32 (y1) from hy1) (nK hC (by omega)) rfl rfl (fun e => absurd e.1 (show ¬ (C + 10 = 131) by omega)) (iv_c (by decide)) fun h2 h3 s4 hE4 => ?_
    refine pr_inc (a := y2) rfl rfl ?_
    have h5 : i32 (y2 + 1) := by unfold i32 at *; omega
    show pr N2 K d tb_M23 17 [(2, vi (y2 + 1)), (3, vi y3), (0, .ref (C + 10)), (1, vi y1)] [] s4 _
    refine pr_n (pc2 := 5) (lv2 := [(2, vi (y2 + 1)), (3, vi y3), (0, .ref (C + 10)), (1, vi y1)]) (st2 := []) 1 (fun _ _ => rfl) ?_
    exact ((ih N2 hN2).2) s4 (up2 t 109 y2.toNat y1) (y2 + 1) y3 y1 hE4 h5 hy3 hy1
theorem ca23 {K d C : Nat} : ∀ N, cA23 N K d C := by
  intro N
  induction N using Nat.strongRecOn with | ind N ih => ?_
  exact ⟨cu23_0 ih, cu23_1 ih⟩
set_option maxHeartbeats 20000000 in
set_option maxRecDepth 100000 in
theorem cm23 {K d C : Nat} : cT23 K (d + 1) C := by
  intro s t x1 hE hx1
  have hC : C = 99 ∨ C = 115 := hE.1
  refine pcr_of (M := tb_M23) rfl ?_
  show pr K K d tb_M23 0 [(0, .ref (C + 10)), (1, vi x1)] [] s _
  rw [cG_23]
  unfold cM23
  refine pr_n (pc2 := 3) (lv2 := [(2, vi 0), (0, .ref (C + 10)), (1, vi x1)]) (st2 := [.ref (C + 10)]) 3 (fun _ _ => rfl) ?_
  refine pr_alen (n := 6) rfl (TK10 hC) ?_
  show pr K K d tb_M23 4 [(2, vi 0), (0, .ref (C + 10)), (1, vi x1)] [vi 6] s _
  refine pr_n (pc2 := 5) (lv2 := [(3, vi 6), (2, vi 0), (0, .ref (C + 10)), (1, vi x1)]) (st2 := []) 1 (fun _ _ => rfl) ?_
  exact ((ca23 K).1) s t 6 0 x1 hE (i32_n rfl) (i32_n rfl) hx1
set_option maxHeartbeats 20000000 in
set_option maxRecDepth 100000 in
theorem cm76 {K d C : Nat} : cT76 K (d + 1) C := by
  intro s t x0 hE hx0
  have hC : C = 99 ∨ C = 115 := hE.1
  refine pcr_of (M := tb_M76) rfl ?_
  show pr K K d tb_M76 0 [(0, vi x0)] [] s _
  rw [cG_76]
  unfold cM76
  refine pr_n (pc2 := 3) (lv2 := [(0, vi x0)]) (st2 := [vi 1, vi x0, vi x0]) 3 (fun _ _ => rfl) ?_
  refine pr_i2 (a := x0) (b := 1) rfl rfl ?_
  show pr K K d tb_M76 4 [(0, vi x0)] [vi (iur x0 1), vi x0] s _
  have h1 : i32 (iur x0 1) := i32_in _
  refine pr_n (pc2 := 7) (lv2 := [(0, vi x0)]) (st2 := [vi 1431655765, vi (iur x0 1), vi x0]) 1 (fun _ _ => rfl) ?_
  refine pr_i2 (a := iur x0 1) (b := 1431655765) rfl rfl ?_
  show pr K K d tb_M76 8 [(0, vi x0)] [vi (ian (iur x0 1) 1431655765), vi x0] s _
  have h2 : i32 (ian (iur x0 1) 1431655765) := i32_in _
  refine pr_i2 (a := x0) (b := ian (iur x0 1) 1431655765) rfl rfl ?_
  show pr K K d tb_M76 9 [(0, vi x0)] [vi (imi x0 (ian (iur x0 1) 1431655765))] s _
  have h3 : i32 (imi x0 (ian (iur x0 1) 1431655765)) := i32_in _
  refine pr_n (pc2 := 14) (lv2 := [(0, vi (imi x0 (ian (iur x0 1) 1431655765)))]) (st2 := [vi 858993459, vi (imi x0 (ian (iur x0 1) 1431655765))]) 3 (fun _ _ => rfl) ?_
  refine pr_i2 (a := imi x0 (ian (iur x0 1) 1431655765)) (b := 858993459) rfl rfl ?_
  show pr K K d tb_M76 15 [(0, vi (imi x0 (ian (iur x0 1) 1431655765)))] [vi (ian (imi x0 (ian (iur x0 1) 1431655765)) 858993459)] s _
  have h4 : i32 (ian (imi x0 (ian (iur x0 1) 1431655765)) 858993459) := i32_in _
  refine pr_n (pc2 := 17) (lv2 := [(0, vi (imi x0 (ian (iur x0 1) 1431655765)))]) (st2 := [vi 2, vi (imi x0 (ian (iur x0 1) 1431655765)), vi (ian (imi x0 (ian (iur x0 1) 1431655765)) 858993459)]) 2 (fun _ _ => rfl) ?_
  refine pr_i2 (a := imi x0 (ian (iur x0 1) 1431655765)) (b := 2) rfl rfl ?_
  show pr K K d tb_M76 18 [(0, vi (imi x0 (ian (iur x0 1) 1431655765)))] [vi (iur (imi x0 (ian (iur x0 1) 1431655765)) 2), vi (ian (imi x0 (ian (iur x0 1) 1431655765)) 858993459)] s _
  have h5 : i32 (iur (imi x0 (ian (iur x0 1) 1431655765)) 2) := i32_in _
  refine pr_n (pc2 := 21) (lv2 := [(0, vi (imi x0 (ian (iur x0 1) 1431655765)))]) (st2 := [vi 858993459, vi (iur (imi x0 (ian (iur x0 1) 1431655765)) 2), vi (ian (imi x0 (ian (iur x0 1) 1431655765)) 858993459)]) 1 (fun _ _ => rfl) ?_
  refine pr_i2 (a := iur (imi x0 (ian (iur x0 1) 1431655765)) 2) (b := 858993459) rfl rfl ?_
  show pr K K d tb_M76 22 [(0, vi (imi x0 (ian (iur x0 1) 1431655765)))] [vi (ian (iur (imi x0 (ian (iur x0 1) 1431655765)) 2) 858993459), vi (ian (imi x0 (ian (iur x0 1) 1431655765)) 858993459)] s _
  have h6 : i32 (ian (iur (imi x0 (ian (iur x0 1) 1431655765)) 2) 858993459) := i32_in _
  refine pr_i2 (a := ian (imi x0 (ian (iur x0 1) 1431655765)) 858993459) (b := ian (iur (imi x0 (ian (iur x0 1) 1431655765)) 2) 858993459) rfl rfl ?_
  show pr K K d tb_M76 23 [(0, vi (imi x0 (ian (iur x0 1) 1431655765)))] [vi (ipl (ian (imi x0 (ian (iur x0 1) 1431655765)) 858993459) (ian (iur (imi x0 (ian (iur x0 1) 1431655765)) 2) 858993459))] s _
  have h7 : i32 (ipl (ian (imi x0 (ian (iur x0 1) 1431655765)) 858993459) (ian (iur (imi x0 (ian (iur x0 1) 1431655765)) 2) 858993459)) := i32_in _
  refine pr_n (pc2 := 27) (lv2 := [(0, vi (ipl (ian (imi x0 (ian (iur x0 1) 1431655765)) 858993459) (ian (iur (imi x0 (ian (iur x0 1) 1431655765)) 2) 858993459)))]) (st2 := [vi 4, vi (ipl (ian (imi x0 (ian (iur x0 1) 1431655765)) 858993459) (ian (iur (imi x0 (ian (iur x0 1) 1431655765)) 2) 858993459)), vi (ipl (ian (imi x0 (ian (iur x0 1) 1431655765)) 858993459) (ian (iur (imi x0 (ian (iur x0 1) 1431655765)) 2) 858993459))]) 4 (fun _ _ => rfl) ?_
  refine pr_i2 (a := ipl (ian (imi x0 (ian (iur x0 1) 1431655765)) 858993459) (ian (iur (imi x0 (ian (iur x0 1) 1431655765)) 2) 858993459)) (b := 4) rfl rfl ?_
  show pr K K d tb_M76 28 [(0, vi (ipl (ian (imi x0 (ian (iur x0 1) 1431655765)) 858993459) (ian (iur (imi x0 (ian (iur x0 1) 1431655765)) 2) 858993459)))] [vi (iur (ipl (ian (imi x0 (ian (iur x0 1) 1431655765)) 858993459) (ian (iur (imi x0 (ian (iur x0 1) 1431655765)) 2) 858993459)) 4), vi (ipl (ian (imi x0 (ian (iur x0 1) 1431655765)) 858993459) (ian (iur (imi x0 (ian (iur x0 1) 1431655765)) 2) 858993459))] s _
  have h8 : i32 (iur (ipl (ian (imi x0 (ian (iur x0 1) 1431655765)) 858993459) (ian (iur (imi x0 (ian (iur x0 1) 1431655765)) 2) 858993459)) 4) := i32_in _
  refine pr_i2 (a := ipl (ian (imi x0 (ian (iur x0 1) 1431655765)) 858993459) (ian (iur (imi x0 (ian (iur x0 1) 1431655765)) 2) 858993459)) (b := iur (ipl (ian (imi x0 (ian (iur x0 1) 1431655765)) 858993459) (ian (iur (imi x0 (ian (iur x0 1) 1431655765)) 2) 858993459)) 4) rfl rfl ?_
  show pr K K d tb_M76 29 [(0, vi (ipl (ian (imi x0 (ian (iur x0 1) 1431655765)) 858993459) (ian (iur (imi x0 (ian (iur x0 1) 1431655765)) 2) 858993459)))] [vi (ipl (ipl (ian (imi x0 (ian (iur x0 1) 1431655765)) 858993459) (ian (iur (imi x0 (ian (iur x0 1) 1431655765)) 2) 858993459)) (iur (ipl (ian (imi x0 (ian (iur x0 1) 1431655765)) 858993459) (ian (iur (imi x0 (ian (iur x0 1) 1431655765)) 2) 858993459)) 4))] s _
  have h9 : i32 (ipl (ipl (ian (imi x0 (ian (iur x0 1) 1431655765)) 858993459) (ian (iur (imi x0 (ian (iur x0 1) 1431655765)) 2) 858993459)) (iur (ipl (ian (imi x0 (ian (iur x0 1) 1431655765)) 858993459) (ian (iur (imi x0 (ian (iur x0 1) 1431655765)) 2) 858993459)) 4)) := i32_in _
  refine pr_n (pc2 := 32) (lv2 := [(0, vi (ipl (ian (imi x0 (ian (iur x0 1) 1431655765)) 858993459) (ian (iur (imi x0 (ian (iur x0 1) 1431655765)) 2) 858993459)))]) (st2 := [vi 252645135, vi (ipl (ipl (ian (imi x0 (ian (iur x0 1) 1431655765)) 858993459) (ian (iur (imi x0 (ian (iur x0 1) 1431655765)) 2) 858993459)) (iur (ipl (ian (imi x0 (ian (iur x0 1) 1431655765)) 858993459) (ian (iur (imi x0 (ian (iur x0 1) 1431655765)) 2) 858993459)) 4))]) 1 (fun _ _ => rfl) ?_
  refine pr_i2 (a := ipl (ipl (ian (imi x0 (ian (iur x0 1) 1431655765)) 858993459) (ian (iur (imi x0 (ian (iur x0 1) 1431655765)) 2) 858993459)) (iur (ipl (ian (imi x0 (ian (iur x0 1) 1431655765)) 858993459) (ian (iur (imi x0 (ian (iur x0 1) 1431655765)) 2) 858993459)) 4)) (b := 252645135) rfl rfl ?_
  show pr K K d tb_M76 33 [(0, vi (ipl (ian (imi x0 (ian (iur x0 1) 1431655765)) 858993459) (ian (iur (imi x0 (ian (iur x0 1) 1431655765)) 2) 858993459)))] [vi (ian (ipl (ipl (ian (imi x0 (ian (iur x0 1) 1431655765)) 858993459) (ian (iur (imi x0 (ian (iur x0 1) 1431655765)) 2) 858993459)) (iur (ipl (ian (imi x0 (ian (iur x0 1) 1431655765)) 858993459) (ian (iur (imi x0 (ian (iur x0 1) 1431655765)) 2) 858993459)) 4)) 252645135)] s _
  have h10 : i32 (ian (ipl (ipl (ian (imi x0 (ian (iur x0 1) 1431655765)) 858993459) (ian (iur (imi x0 (ian (iur x0 1) 1431655765)) 2) 858993459)) (iur (ipl (ian (imi x0 (ian (iur x0 1) 1431655765)) 858993459) (ian (iur (imi x0 (ian (iur x0 1) 1431655765)) 2) 858993459)) 4)) 252645135) := i32_in _
  refine pr_n (pc2 := 38) (lv2 := [(0, vi (ian (ipl (ipl (ian (imi x0 (ian (iur x0 1) 1431655765)) 858993459) (ian (iur (imi x0 (ian (iur x0 1) 1431655765)) 2) 858993459)) (iur (ipl (ian (imi x0 (ian (iur x0 1) 1431655765)) 858993459) (ian (iur (imi x0 (ian (iur x0 1) 1431655765)) 2) 858993459)) 4)) 252645135))]) (st2 := [vi 8, vi (ian (ipl (ipl (ian (imi x0 (ian (iur x0 1) 1431655765)) 858993459) (ian (iur (imi x0 (ian (iur x0 1) 1431655765)) 2) 858993459)) (iur (ipl (ian (imi x0 (ian (iur x0 1) 1431655765)) 858993459) (ian (iur (imi x0 (ian (iur x0 1) 1431655765)) 2) 858993459)) 4)) 252645135), vi (ian (ipl (ipl (ian (imi x0 (ian (iur x0 1) 1431655765)) 858993459) (ian (iur (imi x0 (ian (iur x0 1) 1431655765)) 2) 858993459)) (iur (ipl (ian (imi x0 (ian (iur x0 1) 1431655765)) 858993459) (ian (iur (imi x0 (ian (iur x0 1) 1431655765)) 2) 858993459)) 4)) 252645135)]) 4 (fun _ _ => rfl) ?_
  refine pr_i2 (a := ian (ipl (ipl (ian (imi x0 (ian (iur x0 1) 1431655765)) 858993459) (ian (iur (imi x0 (ian (iur x0 1) 1431655765)) 2) 858993459)) (iur (ipl (ian (imi x0 (ian (iur x0 1) 1431655765)) 858993459) (ian (iur (imi x0 (ian (iur x0 1) 1431655765)) 2) 858993459)) 4)) 252645135) (b := 8) rfl rfl ?_
  show pr K K d tb_M76 39 [(0, vi (ian (ipl (ipl (ian (imi x0 (ian (iur x0 1) 1431655765)) 858993459) (ian (iur (imi x0 (ian (iur x0 1) 1431655765)) 2) 858993459)) (iur (ipl (ian (imi x0 (ian (iur x0 1) 1431655765)) 858993459) (ian (iur (imi x0 (ian (iur x0 1) 1431655765)) 2) 858993459)) 4)) 252645135))] [vi (iur (ian (ipl (ipl (ian (imi x0 (ian (iur x0 1) 1431655765)) 858993459) (ian (iur (imi x0 (ian (iur x0 1) 1431655765)) 2) 858993459)) (iur (ipl (ian (imi x0 (ian (iur x0 1) 1431655765)) 858993459) (ian (iur (imi x0 (ian (iur x0 1) 1431655765)) 2) 858993459)) 4)) 252645135) 8), vi (ian (ipl (ipl (ian (imi x0 (ian (iur x0 1) 1431655765)) 858993459) (ian (iur (imi x0 (ian (iur x0 1) 1431655765)) 2) 858993459)) (iur (ipl (ian (imi x0 (ian (iur x0 1) 1431655765)) 858993459) (ian (iur (imi x0 (ian (iur x0 1) 1431655765)) 2) 858993459)) 4)) 252645135)] s _
  have h11 : i32 (iur (ian (ipl (ipl (ian (imi x0 (ian (iur x0 1) 1431655765)) 858993459) (ian (iur (imi x0 (ian (iur x0 1) 1431655765)) 2) 858993459)) (iur (ipl (ian (imi x0 (ian (iur x0 1) 1431655765)) 858993459) (ian (iur (imi x0 (ian (iur x0 1) 1431655765)) 2) 858993459)) 4)) 252645135) 8) := i32_in _
  refine pr_i2 (a := ian (ipl (ipl (ian (imi x0 (ian (iur x0 1) 1431655765)) 858993459) (ian (iur (imi x0 (ian (iur x0 1) 1431655765)) 2) 858993459)) (iur (ipl (ian (imi x0 (ian (iur x0 1) 1431655765)) 858993459) (ian (iur (imi x0 (ian (iur x0 1) 1431655765)) 2) 858993459)) 4)) 252645135) (b := iur (ian (ipl (ipl (ian (imi x0 (ian (iur x0 1) 1431655765)) 858993459) (ian (iur (imi x0 (ian (iur x0 1) 1431655765)) 2) 858993459)) (iur (ipl (ian (imi x0 (ian (iur x0 1) 1431655765)) 858993459) (ian (iur (imi x0 (ian (iur x0 1) 1431655765)) 2) 858993459)) 4)) 252645135) 8) rfl rfl ?_
  show pr K K d tb_M76 40 [(0, vi (ian (ipl (ipl (ian (imi x0 (ian (iur x0 1) 1431655765)) 858993459) (ian (iur (imi x0 (ian (iur x0 1) 1431655765)) 2) 858993459)) (iur (ipl (ian (imi x0 (ian (iur x0 1) 1431655765)) 858993459) (ian (iur (imi x0 (ian (iur x0 1) 1431655765)) 2) 858993459)) 4)) 252645135))] [vi (ipl (ian (ipl (ipl (ian (imi x0 (ian (iur x0 1) 1431655765)) 858993459) (ian (iur (imi x0 (ian (iur x0 1) 1431655765)) 2) 858993459)) (iur (ipl (ian (imi x0 (ian (iur x0 1) 1431655765)) 858993459) (ian (iur (imi x0 (ian (iur x0 1) 1431655765)) 2) 858993459)) 4)) 252645135) (iur (ian (ipl (ipl (ian (imi x0 (ian (iur x0 1) 1431655765)) 858993459) (ian (iur (imi x0 (ian (iur x0 1) 1431655765)) 2) 858993459)) (iur (ipl (ian (imi x0 (ian (iur x0 1) 1431655765)) 858993459) (ian (iur (imi x0 (ian (iur x0 1) 1431655765)) 2) 858993459)) 4)) 252645135) 8))] s _
  have h12 : i32 (ipl (ian (ipl (ipl (ian (imi x0 (ian (iur x0 1) 1431655765)) 858993459) (ian (iur (imi x0 (ian (iur x0 1) 1431655765)) 2) 858993459)) (iur (ipl (ian (imi x0 (ian (iur x0 1) 1431655765)) 858993459) (ian (iur (imi x0 (ian (iur x0 1) 1431655765)) 2) 858993459)) 4)) 252645135) (iur (ian (ipl (ipl (ian (imi x0 (ian (iur x0 1) 1431655765)) 858993459) (ian (iur (imi x0 (ian (iur x0 1) 1431655765)) 2) 858993459)) (iur (ipl (ian (imi x0 (ian (iur x0 1) 1431655765)) 858993459) (ian (iur (imi x0 (ian (iur x0 1) 1431655765)) 2) 858993459)) 4)) 252645135) 8)) := i32_in _
  refine pr_n (pc2 := 45) (lv2 := [(0, vi (ipl (ian (ipl (ipl (ian (imi x0 (ian (iur x0 1) 1431655765)) 858993459) (ian (iur (imi x0 (ian (iur x0 1) 1431655765)) 2) 858993459)) (iur (ipl (ian (imi x0 (ian (iur x0 1) 1431655765)) 858993459) (ian (iur (imi x0 (ian (iur x0 1) 1431655765)) 2) 858993459)) 4)) 252645135) (iur (ian (ipl (ipl (ian (imi x0 (ian (iur x0 1) 1431655765)) 858993459) (ian (iur (imi x0 (ian (iur x0 1) 1431655765)) 2) 858993459)) (iur (ipl (ian (imi x0 (ian (iur x0 1) 1431655765)) 858993459) (ian (iur (imi x0 (ian (iur x0 1) 1431655765)) 2) 858993459)) 4)) 252645135) 8)))]) (st2 := [vi 16, vi (ipl (ian (ipl (ipl (ian (imi x0 (ian (iur x0 1) 1431655765)) 858993459) (ian (iur (imi x0 (ian (iur x0 1) 1431655765)) 2) 858993459)) (iur (ipl (ian (imi x0 (ian (iur x0 1) 1431655765)) 858993459) (ian (iur (imi x0 (ian (iur x0 1) 1431655765)) 2) 858993459)) 4)) 252645135) (iur (ian (ipl (ipl (ian (imi x0 (ian (iur x0 1) 1431655765)) 858993459) (ian (iur (imi x0 (ian (iur x0 1) 1431655765)) 2) 858993459)) (iur (ipl (ian (imi x0 (ian (iur x0 1) 1431655765)) 858993459) (ian (iur (imi x0 (ian (iur x0 1) 1431655765)) 2) 858993459)) 4)) 252645135) 8)), vi (ipl (ian (ipl (ipl (ian (imi x0 (ian (iur x0 1) 1431655765)) 858993459) (ian (iur (imi x0 (ian (iur x0 1) 1431655765)) 2) 858993459)) (iur (ipl (ian (imi x0 (ian (iur x0 1) 1431655765)) 858993459) (ian (iur (imi x0 (ian (iur x0 1) 1431655765)) 2) 858993459)) 4)) 252645135) (iur (ian (ipl (ipl (ian (imi x0 (ian (iur x0 1) 1431655765)) 858993459) (ian (iur (imi x0 (ian (iur x0 1) 1431655765)) 2) 858993459)) (iur (ipl (ian (imi x0 (ian (iur x0 1) 1431655765)) 858993459) (ian (iur (imi x0 (ian (iur x0 1) 1431655765)) 2) 858993459)) 4)) 252645135) 8))]) 4 (fun _ _ => rfl) ?_
  refine pr_i2 (a := ipl (ian (ipl (ipl (ian (imi x0 (ian (iur x0 1) 1431655765)) 858993459) (ian (iur (imi x0 (ian (iur x0 1) 1431655765)) 2) 858993459)) (iur (ipl (ian (imi x0 (ian (iur x0 1) 1431655765)) 858993459) (ian (iur (imi x0 (ian (iur x0 1) 1431655765)) 2) 858993459)) 4)) 252645135) (iur (ian (ipl (ipl (ian (imi x0 (ian (iur x0 1) 1431655765)) 858993459) (ian (iur (imi x0 (ian (iur x0 1) 1431655765)) 2) 858993459)) (iur (ipl (ian (imi x0 (ian (iur x0 1) 1431655765)) 858993459) (ian (iur (imi x0 (ian (iur x0 1) 1431655765)) 2) 858993459)) 4)) 252645135) 8)) (b := 16) rfl rfl ?_
  show pr K K d tb_M76 46 [(0, vi (ipl (ian (ipl (ipl (ian (imi x0 (ian (iur x0 1) 1431655765)) 858993459) (ian (iur (imi x0 (ian (iur x0 1) 1431655765)) 2) 858993459)) (iur (ipl (ian (imi x0 (ian (iur x0 1) 1431655765)) 858993459) (ian (iur (imi x0 (ian (iur x0 1) 1431655765)) 2) 858993459)) 4)) 252645135) (iur (ian (ipl (ipl (ian (imi x0 (ian (iur x0 1) 1431655765)) 858993459) (ian (iur (imi x0 (ian (iur x0 1) 1431655765)) 2) 858993459)) (iur (ipl (ian (imi x0 (ian (iur x0 1) 1431655765)) 858993459) (ian (iur (imi x0 (ian (iur x0 1) 1431655765)) 2) 858993459)) 4)) 252645135) 8)))] [vi (iur (ipl (ian (ipl (ipl (ian (imi x0 (ian (iur x0 1) 1431655765)) 858993459) (ian (iur (imi x0 (ian (iur x0 1) 1431655765)) 2) 858993459)) (iur (ipl (ian (imi x0 (ian (iur x0 1) 1431655765)) 858993459) (ian (iur (imi x0 (ian (iur x0 1) 1431655765)) 2) 858993459)) 4)) 252645135) (iur (ian (ipl (ipl (ian (imi x0 (ian (iur x0 1) 1431655765)) 858993459) (ian (iur (imi x0 (ian (iur x0 1) 1431655765)) 2) 858993459)) (iur (ipl (ian (imi x0 (ian (iur x0 1) 1431655765)) 858993459) (ian (iur (imi x0 (ian (iur x0 1) 1431655765)) 2) 858993459)) 4)) 252645135) 8)) 16), vi (ipl (ian (ipl (ipl (ian (imi x0 (ian (iur x0 1) 1431655765)) 858993459) (ian (iur (imi x0 (ian (iur x0 1) 1431655765)) 2) 858993459)) (iur (ipl (ian (imi x0 (ian (iur x0 1) 1431655765)) 858993459) (ian (iur (imi x0 (ian (iur x0 1) 1431655765)) 2) 858993459)) 4)) 252645135) (iur (ian (ipl (ipl (ian (imi x0 (ian (iur x0 1) 1431655765)) 858993459) (ian (iur (imi x0 (ian (iur x0 1) 1431655765)) 2) 858993459)) (iur (ipl (ian (imi x0 (ian (iur x0 1) 1431655765)) 858993459) (ian (iur (imi x0 (ian (iur x0 1) 1431655765)) 2) 858993459)) 4)) 252645135) 8))] s _
  have h13 : i32 (iur (ipl (ian (ipl (ipl (ian (imi x0 (ian (iur x0 1) 1431655765)) 858993459) (ian (iur (imi x0 (ian (iur x0 1) 1431655765)) 2) 858993459)) (iur (ipl (ian (imi x0 (ian (iur x0 1) 1431655765)) 858993459) (ian (iur (imi x0 (ian (iur x0 1) 1431655765)) 2) 858993459)) 4)) 252645135) (iur (ian (ipl (ipl (ian (imi x0 (ian (iur x0 1) 1431655765)) 858993459) (ian (iur (imi x0 (ian (iur x0 1) 1431655765)) 2) 858993459)) (iur (ipl (ian (imi x0 (ian (iur x0 1) 1431655765)) 858993459) (ian (iur (imi x0 (ian (iur x0 1) 1431655765)) 2) 858993459)) 4)) 252645135) 8)) 16) := i32_in _
  refine pr_i2 (a := ipl (ian (ipl (ipl (ian (imi x0 (ian (iur x0 1) 1431655765)) 858993459) (ian (iur (imi x0 (ian (iur x0 1) 1431655765)) 2) 858993459)) (iur (ipl (ian (imi x0 (ian (iur x0 1) 1431655765)) 858993459) (ian (iur (imi x0 (ian (iur x0 1) 1431655765)) 2) 858993459)) 4)) 252645135) (iur (ian (ipl (ipl (ian (imi x0 (ian (iur x0 1) 1431655765)) 858993459) (ian (iur (imi x0 (ian (iur x0 1) 1431655765)) 2) 858993459)) (iur (ipl (ian (imi x0 (ian (iur x0 1) 1431655765)) 858993459) (ian (iur (imi x0 (ian (iur x0 1) 1431655765)) 2) 858993459)) 4)) 252645135) 8)) (b := iur (ipl (ian (ipl (ipl (ian (imi x0 (ian (iur x0 1) 1431655765)) 858993459) (ian (iur (imi x0 (ian (iur x0 1) 1431655765)) 2) 858993459)) (iur (ipl (ian (imi x0 (ian (iur x0 1) 1431655765)) 858993459) (ian (iur (imi x0 (ian (iur x0 1) 1431655765)) 2) 858993459)) 4)) 252645135) (iur (ian (ipl (ipl (ian (imi x0 (ian (iur x0 1) 1431655765)) 858993459) (ian (iur (imi x0 (ian (iur x0 1) 1431655765)) 2) 858993459)) (iur (ipl (ian (imi x0 (ian (iur x0 1) 1431655765)) 858993459) (ian (iur (imi x0 (ian (iur x0 1) 1431655765)) 2) 858993459)) 4)) 252645135) 8)) 16) rfl rfl ?_
  show pr K K d tb_M76 47 [(0, vi (ipl (ian (ipl (ipl (ian (imi x0 (ian (iur x0 1) 1431655765)) 858993459) (ian (iur (imi x0 (ian (iur x0 1) 1431655765)) 2) 858993459)) (iur (ipl (ian (imi x0 (ian (iur x0 1) 1431655765)) 858993459) (ian (iur (imi x0 (ian (iur x0 1) 1431655765)) 2) 858993459)) 4)) 252645135) (iur (ian (ipl (ipl (ian (imi x0 (ian (iur x0 1) 1431655765)) 858993459) (ian (iur (imi x0 (ian (iur x0 1) 1431655765)) 2) 858993459)) (iur (ipl (ian (imi x0 (ian (iur x0 1) 1431655765)) 858993459) (ian (iur (imi x0 (ian (iur x0 1) 1431655765)) 2) 858993459)) 4)) 252645135) 8)))] [vi (ipl (ipl (ian (ipl (ipl (ian (imi x0 (ian (iur x0 1) 1431655765)) 858993459) (ian (iur (imi x0 (ian (iur x0 1) 1431655765)) 2) 858993459)) (iur (ipl (ian (imi x0 (ian (iur x0 1) 1431655765)) 858993459) (ian (iur (imi x0 (ian (iur x0 1) 1431655765)) 2) 858993459)) 4)) 252645135) (iur (ian (ipl (ipl (ian (imi x0 (ian (iur x0 1) 1431655765)) 858993459) (ian (iur (imi x0 (ian (iur x0 1) 1431655765)) 2) 858993459)) (iur (ipl (ian (imi x0 (ian (iur x0 1) 1431655765)) 858993459) (ian (iur (imi x0 (ian (iur x0 1) 1431655765)) 2) 858993459)) 4)) 252645135) 8)) (iur (ipl (ian (ipl (ipl (ian (imi x0 (ian (iur x0 1) 1431655765)) 858993459) (ian (iur (imi x0 (ian (iur x0 1) 1431655765)) 2) 858993459)) (iur (ipl (ian (imi x0 (ian (iur x0 1) 1431655765)) 858993459) (ian (iur (imi x0 (ian (iur x0 1) 1431655765)) 2) 858993459)) 4)) 252645135) (iur (ian (ipl (ipl (ian (imi x0 (ian (iur x0 1) 1431655765)) 858993459) (ian (iur (imi x0 (ian (iur x0 1) 1431655765)) 2) 858993459)) (iur (ipl (ian (imi x0 (ian (iur x0 1) 1431655765)) 858993459) (ian (iur (imi x0 (ian (iur x0 1) 1431655765)) 2) 858993459)) 4)) 252645135) 8)) 16))] s _
  have h14 : i32 (ipl (ipl (ian (ipl (ipl (ian (imi x0 (ian (iur x0 1) 1431655765)) 858993459) (ian (iur (imi x0 (ian (iur x0 1) 1431655765)) 2) 858993459)) (iur (ipl (ian (imi x0 (ian (iur x0 1) 1431655765)) 858993459) (ian (iur (imi x0 (ian (iur x0 1) 1431655765)) 2) 858993459)) 4)) 252645135) (iur (ian (ipl (ipl (ian (imi x0 (ian (iur x0 1) 1431655765)) 858993459) (ian (iur (imi x0 (ian (iur x0 1) 1431655765)) 2) 858993459)) (iur (ipl (ian (imi x0 (ian (iur x0 1) 1431655765)) 858993459) (ian (iur (imi x0 (ian (iur x0 1) 1431655765)) 2) 858993459)) 4)) 252645135) 8)) (iur (ipl (ian (ipl (ipl (ian (imi x0 (ian (iur x0 1) 1431655765)) 858993459) (ian (iur (imi x0 (ian (iur x0 1) 1431655765)) 2) 858993459)) (iur (ipl (ian (imi x0 (ian (iur x0 1) 1431655765)) 858993459) (ian (iur (imi x0 (ian (iur x0 1) 1431655765)) 2) 858993459)) 4)) 252645135) (iur (ian (ipl (ipl (ian (imi x0 (ian (iur x0 1) 1431655765)) 858993459) (ian (iur (imi x0 (ian (iur x0 1) 1431655765)) 2) 858993459)) (iur (ipl (ian (imi x0 (ian (iur x0 1) 1431655765)) 858993459) (ian (iur (imi x0 (ian (iur x0 1) 1431655765)) 2) 858993459)) 4)) 252645135) 8)) 16)) := i32_in _
  refine pr_n (pc2 := 51) (lv2 := [(0, vi (ipl (ipl (ian (ipl (ipl (ian (imi x0 (ian (iur x0 1) 1431655765)) 858993459) (ian (iur (imi x0 (ian (iur x0 1) 1431655765)) 2) 858993459)) (iur (ipl (ian (imi x0 (ian (iur x0 1) 1431655765)) 858993459) (ian (iur (imi x0 (ian (iur x0 1) 1431655765)) 2) 858993459)) 4)) 252645135) (iur (ian (ipl (ipl (ian (imi x0 (ian (iur x0 1) 1431655765)) 858993459) (ian (iur (imi x0 (ian (iur x0 1) 1431655765)) 2) 858993459)) (iur (ipl (ian (imi x0 (ian (iur x0 1) 1431655765)) 858993459) (ian (iur (imi x0 (ian (iur x0 1) 1431655765)) 2) 858993459)) 4)) 252645135) 8)) (iur (ipl (ian (ipl (ipl (ian (imi x0 (ian (iur x0 1) 1431655765)) 858993459) (ian (iur (imi x0 (ian (iur x0 1) 1431655765)) 2) 858993459)) (iur (ipl (ian (imi x0 (ian (iur x0 1) 1431655765)) 858993459) (ian (iur (imi x0 (ian (iur x0 1) 1431655765)) 2) 858993459)) 4)) 252645135) (iur (ian (ipl (ipl (ian (imi x0 (ian (iur x0 1) 1431655765)) 858993459) (ian (iur (imi x0 (ian (iur x0 1) 1431655765)) 2) 858993459)) (iur (ipl (ian (imi x0 (ian (iur x0 1) 1431655765)) 858993459) (ian (iur (imi x0 (ian (iur x0 1) 1431655765)) 2) 858993459)) 4)) 252645135) 8)) 16)))]) (st2 := [vi 63, vi (ipl (ipl (ian (ipl (ipl (ian (imi x0 (ian (iur x0 1) 1431655765)) 858993459) (ian (iur (imi x0 (ian (iur x0 1) 1431655765)) 2) 858993459)) (iur (ipl (ian (imi x0 (ian (iur x0 1) 1431655765)) 858993459) (ian (iur (imi x0 (ian (iur x0 1) 1431655765)) 2) 858993459)) 4)) 252645135) (iur (ian (ipl (ipl (ian (imi x0 (ian (iur x0 1) 1431655765)) 858993459) (ian (iur (imi x0 (ian (iur x0 1) 1431655765)) 2) 858993459)) (iur (ipl (ian (imi x0 (ian (iur x0 1) 1431655765)) 858993459) (ian (iur (imi x0 (ian (iur x0 1) 1431655765)) 2) 858993459)) 4)) 252645135) 8)) (iur (ipl (ian (ipl (ipl (ian (imi x0 (ian (iur x0 1) 1431655765)) 858993459) (ian (iur (imi x0 (ian (iur x0 1) 1431655765)) 2) 858993459)) (iur (ipl (ian (imi x0 (ian (iur x0 1) 1431655765)) 858993459) (ian (iur (imi x0 (ian (iur x0 1) 1431655765)) 2) 858993459)) 4)) 252645135) (iur (ian (ipl (ipl (ian (imi x0 (ian (iur x0 1) 1431655765)) 858993459) (ian (iur (imi x0 (ian (iur x0 1) 1431655765)) 2) 858993459)) (iur (ipl (ian (imi x0 (ian (iur x0 1) 1431655765)) 858993459) (ian (iur (imi x0 (ian (iur x0 1) 1431655765)) 2) 858993459)) 4)) 252645135) 8)) 16))]) 3 (fun _ _ => rfl) ?_
  refine pr_i2 (a := ipl (ipl (ian (ipl (ipl (ian (imi x0 (ian (iur x0 1) 1431655765)) 858993459) (ian (iur (imi x0 (ian (iur x0 1) 1431655765)) 2) 858993459)) (iur (ipl (ian (imi x0 (ian (iur x0 1) 1431655765)) 858993459) (ian (iur (imi x0 (ian (iur x0 1) 1431655765)) 2) 858993459)) 4)) 252645135) (iur (ian (ipl (ipl (ian (imi x0 (ian (iur x0 1) 1431655765)) 858993459) (ian (iur (imi x0 (ian (iur x0 1) 1431655765)) 2) 858993459)) (iur (ipl (ian (imi x0 (ian (iur x0 1) 1431655765)) 858993459) (ian (iur (imi x0 (ian (iur x0 1) 1431655765)) 2) 858993459)) 4)) 252645135) 8)) (iur (ipl (ian (ipl (ipl (ian (imi x0 (ian (iur x0 1) 1431655765)) 858993459) (ian (iur (imi x0 (ian (iur x0 1) 1431655765)) 2) 858993459)) (iur (ipl (ian (imi x0 (ian (iur x0 1) 1431655765)) 858993459) (ian (iur (imi x0 (ian (iur x0 1) 1431655765)) 2) 858993459)) 4)) 252645135) (iur (ian (ipl (ipl (ian (imi x0 (ian (iur x0 1) 1431655765)) 858993459) (ian (iur (imi x0 (ian (iur x0 1) 1431655765)) 2) 858993459)) (iur (ipl (ian (imi x0 (ian (iur x0 1) 1431655765)) 858993459) (ian (iur (imi x0 (ian (iur x0 1) 1431655765)) 2) 858993459)) 4)) 252645135) 8)) 16)) (b := 63) rfl rfl ?_
  show pr K K d tb_M76 52 [(0, vi (ipl (ipl (ian (ipl (ipl (ian (imi x0 (ian (iur x0 1) 1431655765)) 858993459) (ian (iur (imi x0 (ian (iur x0 1) 1431655765)) 2) 858993459)) (iur (ipl (ian (imi x0 (ian (iur x0 1) 1431655765)) 858993459) (ian (iur (imi x0 (ian (iur x0 1) 1431655765)) 2) 858993459)) 4)) 252645135) (iur (ian (ipl (ipl (ian (imi x0 (ian (iur x0 1) 1431655765)) 858993459) (ian (iur (imi x0 (ian (iur x0 1) 1431655765)) 2) 858993459)) (iur (ipl (ian (imi x0 (ian (iur x0 1) 1431655765)) 858993459) (ian (iur (imi x0 (ian (iur x0 1) 1431655765)) 2) 858993459)) 4)) 252645135) 8)) (iur (ipl (ian (ipl (ipl (ian (imi x0 (ian (iur x0 1) 1431655765)) 858993459) (ian (iur (imi x0 (ian (iur x0 1) 1431655765)) 2) 858993459)) (iur (ipl (ian (imi x0 (ian (iur x0 1) 1431655765)) 858993459) (ian (iur (imi x0 (ian (iur x0 1) 1431655765)) 2) 858993459)) 4)) 252645135) (iur (ian (ipl (ipl (ian (imi x0 (ian (iur x0 1) 1431655765)) 858993459) (ian (iur (imi x0 (ian (iur x0 1) 1431655765)) 2) 858993459)) (iur (ipl (ian (imi x0 (ian (iur x0 1) 1431655765)) 858993459) (ian (iur (imi x0 (ian (iur x0 1) 1431655765)) 2) 858993459)) 4)) 252645135) 8)) 16)))] [vi (ian (ipl (ipl (ian (ipl (ipl (ian (imi x0 (ian (iur x0 1) 1431655765)) 858993459) (ian (iur (imi x0 (ian (iur x0 1) 1431655765)) 2) 858993459)) (iur (ipl (ian (imi x0 (ian (iur x0 1) 1431655765)) 858993459) (ian (iur (imi x0 (ian (iur x0 1) 1431655765)) 2) 858993459)) 4)) 252645135) (iur (ian (ipl (ipl (ian (imi x0 (ian (iur x0 1) 1431655765)) 858993459) (ian (iur (imi x0 (ian (iur x0 1) 1431655765)) 2) 858993459)) (iur (ipl (ian (imi x0 (ian (iur x0 1) 1431655765)) 858993459) (ian (iur (imi x0 (ian (iur x0 1) 1431655765)) 2) 858993459)) 4)) 252645135) 8)) (iur (ipl (ian (ipl (ipl (ian (imi x0 (ian (iur x0 1) 1431655765)) 858993459) (ian (iur (imi x0 (ian (iur x0 1) 1431655765)) 2) 858993459)) (iur (ipl (ian (imi x0 (ian (iur x0 1) 1431655765)) 858993459) (ian (iur (imi x0 (ian (iur x0 1) 1431655765)) 2) 858993459)) 4)) 252645135) (iur (ian (ipl (ipl (ian (imi x0 (ian (iur x0 1) 1431655765)) 858993459) (ian (iur (imi x0 (ian (iur x0 1) 1431655765)) 2) 858993459)) (iur (ipl (ian (imi x0 (ian (iur x0 1) 1431655765)) 858993459) (ian (iur (imi x0 (ian (iur x0 1) 1431655765)) 2) 858993459)) 4)) 252645135) 8)) 16)) 63)] s _
  have h15 : i32 (ian (ipl (ipl (ian (ipl (ipl (ian (imi x0 (ian (iur x0 1) 1431655765)) 858993459) (ian (iur (imi x0 (ian (iur x0 1) 1431655765)) 2) 858993459)) (iur (ipl (ian (imi x0 (ian (iur x0 1) 1431655765)) 858993459) (ian (iur (imi x0 (ian (iur x0 1) 1431655765)) 2) 858993459)) 4)) 252645135) (iur (ian (ipl (ipl (ian (imi x0 (ian (iur x0 1) 1431655765)) 858993459) (ian (iur (imi x0 (ian (iur x0 1) 1431655765)) 2) 858993459)) (iur (ipl (ian (imi x0 (ian (iur x0 1) 1431655765)) 858993459) (ian (iur (imi x0 (ian (iur x0 1) 1431655765)) 2) 858993459)) 4)) 252645135) 8)) (iur (ipl (ian (ipl (ipl (ian (imi x0 (ian (iur x0 1) 1431655765)) 858993459) (ian (iur (imi x0 (ian (iur x0 1) 1431655765)) 2) 858993459)) (iur (ipl (ian (imi x0 (ian (iur x0 1) 1431655765)) 858993459) (ian (iur (imi x0 (ian (iur x0 1) 1431655765)) 2) 858993459)) 4)) 252645135) (iur (ian (ipl (ipl (ian (imi x0 (ian (iur x0 1) 1431655765)) 858993459) (ian (iur (imi x0 (ian (iur x0 1) 1431655765)) 2) 858993459)) (iur (ipl (ian (imi x0 (ian (iur x0 1) 1431655765)) 858993459) (ian (iur (imi x0 (ian (iur x0 1) 1431655765)) 2) 858993459)) 4)) 252645135) 8)) 16)) 63) := i32_in _
  refine pr_reti rfl rfl ?_
  exact .inl ⟨_, ian (ipl (ipl (ian (ipl (ipl (ian (imi x0 (ian (iur x0 1) 1431655765)) 858993459) (ian (iur (imi x0 (ian (iur x0 1) 1431655765)) 2) 858993459)) (iur (ipl (ian (imi x0 (ian (iur x0 1) 1431655765)) 858993459) (ian (iur (imi x0 (ian (iur x0 1) 1431655765)) 2) 858993459)) 4)) 252645135) (iur (ian (ipl (ipl (ian (imi x0 (ian (iur x0 1) 1431655765)) 858993459) (ian (iur (imi x0 (ian (iur x0 1) 1431655765)) 2) 858993459)) (iur (ipl (ian (imi x0 (ian (iur x0 1) 1431655765)) 858993459) (ian (iur (imi x0 (ian (iur x0 1) 1431655765)) 2) 858993459)) 4)) 252645135) 8)) (iur (ipl (ian (ipl (ipl (ian (imi x0 (ian (iur x0 1) 1431655765)) 858993459) (ian (iur (imi x0 (ian (iur x0 1) 1431655765)) 2) 858993459)) (iur (ipl (ian (imi x0 (ian (iur x0 1) 1431655765)) 858993459) (ian (iur (imi x0 (ian (iur x0 1) 1431655765)) 2) 858993459)) 4)) 252645135) (iur (ian (ipl (ipl (ian (imi x0 (ian (iur x0 1) 1431655765)) 858993459) (ian (iur (imi x0 (ian (iur x0 1) 1431655765)) 2) 858993459)) (iur (ipl (ian (imi x0 (ian (iur x0 1) 1431655765)) 858993459) (ian (iur (imi x0 (ian (iur x0 1) 1431655765)) 2) 858993459)) 4)) 252645135) 8)) 16)) 63, _, rfl, ⟨rfl, h15⟩, rfl, hE⟩
