/-! The methods of Work are as their models. -/
set_option maxHeartbeats 20000000 in
set_option maxRecDepth 100000 in
theorem wm67 {K d C : Nat} : wT67 K (d + 1) C := by
  intro s t x1 hE hx1
  have hC : C = 99 ∨ C = 115 := hE.1
  refine pcr_of (M := tb_M67) rfl ?_
  show pr K K d tb_M67 0 [(0, .ref C), (1, vi x1)] [] s _
  rw [wG_67]
  unfold wM67
  refine pr_n (pc2 := 1) (lv2 := [(0, .ref C), (1, vi x1)]) (st2 := [vi x1]) 1 (fun _ _ => rfl) ?_
  by_cases h1 : x1 < 0
  · refine mq_t h1 ?_
    refine pr_if1t rfl rfl hx1 h1 ?_
    refine pr_n (pc2 := 17) (lv2 := [(0, .ref C), (1, vi x1)]) (st2 := [vi 0]) 1 (fun _ _ => rfl) ?_
    refine pr_end (fun _ _ => rfl) ?_
    exact .inl ⟨_, 0, _, rfl, ⟨rfl, (by decide)⟩, rfl, hE⟩
  · refine mq_f h1 ?_
    refine pr_if1f rfl rfl hx1 h1 ?_
    refine pr_n (pc2 := 6) (lv2 := [(0, .ref C), (1, vi x1)]) (st2 := [.ref C, vi x1]) 2 (fun _ _ => rfl) ?_
    refine pr_gE (k2 := 99) (v := vi (t 99 12)) hE rfl rfl (TK0 hC) (by decide) rfl rfl rfl fun h2 => ?_
    have h2 : i32 (t 99 12) := h2
    by_cases h3 : t 99 12 ≤ x1
    · refine mq_t h3 ?_
      refine pr_if2t rfl rfl hx1 h2 h3 ?_
      refine pr_n (pc2 := 17) (lv2 := [(0, .ref C), (1, vi x1)]) (st2 := [vi 0]) 1 (fun _ _ => rfl) ?_
      refine pr_end (fun _ _ => rfl) ?_
      exact .inl ⟨_, 0, _, rfl, ⟨rfl, (by decide)⟩, rfl, hE⟩
    · refine mq_f h3 ?_
      refine pr_if2f rfl rfl hx1 h2 h3 ?_
      refine pr_n (pc2 := 17) (lv2 := [(0, .ref C), (1, vi x1)]) (st2 := [vi 1]) 2 (fun _ _ => rfl) ?_
      refine pr_end (fun _ _ => rfl) ?_
      exact .inl ⟨_, 1, _, rfl, ⟨rfl, (by decide)⟩, rfl, hE⟩
set_option maxHeartbeats 20000000 in
set_option maxRecDepth 100000 in
theorem wm97 {K d C : Nat} (h_67 : wT67 K d C) : wT97 K (d + 1) C := by
  intro s t x1 hE hx1
  have hC : C = 99 ∨ C = 115 := hE.1
  refine pcr_of (M := tb_M97) rfl ?_
  show pr K K d tb_M97 0 [(0, .ref C), (1, vi x1)] [] s _
  rw [wG_97]
  unfold wM97
  refine pr_n (pc2 := 2) (lv2 := [(0, .ref C), (1, vi x1)]) (st2 := [vi x1, .ref C]) 2 (fun _ _ => rfl) ?_
  refine pr_s1 (args := [vi x1]) (rest := []) rfl rfl rfl (TK0 hC) (Nat.le_of_ble_eq_true rfl) rfl (h_67 s t x1 hE hx1) v_hsz ?_
  rintro _ s1 ⟨rfl, hz1⟩ hE1
  show pr K K d tb_M97 5 [(0, .ref C), (1, vi x1)] [vi (hsz t x1)] s1 _
  by_cases h2 : hsz t x1 = 0
  · refine mq_t h2 ?_
    refine pr_if1t rfl rfl (i32_z hz1) h2 ?_
    refine pr_n (pc2 := 18) (lv2 := [(0, .ref C), (1, vi x1)]) (st2 := [vi ((-1))]) 1 (fun _ _ => rfl) ?_
    refine pr_end (fun _ _ => rfl) ?_
    exact .inl ⟨_, (-1), _, rfl, ⟨rfl, (i32_n rfl)⟩, rfl, hE1⟩
  · refine mq_f h2 ?_
    refine pr_if1f rfl rfl (i32_z hz1) h2 ?_
    refine pr_n (pc2 := 9) (lv2 := [(0, .ref C), (1, vi x1)]) (st2 := [.ref C]) 1 (fun _ _ => rfl) ?_
    refine pr_get (v := .ref (C + 5)) rfl rfl (TK0 hC) (by decide) (rv_ref (hE1.2.1 C 4 (C + 5) (rcK hC (by omega)))) fun _ => ?_
    refine pr_n (pc2 := 13) (lv2 := [(0, .ref C), (1, vi x1)]) (st2 := [vi x1, .ref (C + 5)]) 1 (fun _ _ => rfl) ?_
    refine pr_aE (k2 := 104) (a := x1) (v := vi (t 104 x1.toNat)) hE1 rfl (TK5 hC) rfl hx1 (by decide) rfl rfl rfl fun h4 h5 h3 => ?_
    have h3 : i32 (t 104 x1.toNat) := h3
    refine pr_n (pc2 := 18) (lv2 := [(0, .ref C), (1, vi x1)]) (st2 := [vi (t 104 x1.toNat)]) 1 (fun _ _ => rfl) ?_
    refine pr_reti rfl rfl ?_
    exact .inl ⟨_, t 104 x1.toNat, _, rfl, ⟨rfl, h3⟩, rfl, hE1⟩
set_option maxHeartbeats 20000000 in
set_option maxRecDepth 100000 in
theorem wm99 {K d C : Nat} : wT99 K (d + 1) C := by
  intro s t x1 hE hx1
  have hC : C = 99 ∨ C = 115 := hE.1
  refine pcr_of (M := tb_M99) rfl ?_
  show pr K K d tb_M99 0 [(0, .ref C), (1, vi x1)] [] s _
  rw [wG_99]
  unfold wM99
  refine pr_n (pc2 := 1) (lv2 := [(0, .ref C), (1, vi x1)]) (st2 := [vi x1]) 1 (fun _ _ => rfl) ?_
  by_cases h1 : x1 < 0
  · refine mq_t h1 ?_
    refine pr_if1t rfl rfl hx1 h1 ?_
    refine pr_n (pc2 := 20) (lv2 := [(0, .ref C), (1, vi x1)]) (st2 := [vi 0]) 1 (fun _ _ => rfl) ?_
    refine pr_end (fun _ _ => rfl) ?_
    exact .inl ⟨_, 0, _, rfl, ⟨rfl, (i32_n rfl)⟩, rfl, hE⟩
  · refine mq_f h1 ?_
    refine pr_if1f rfl rfl hx1 h1 ?_
    refine pr_n (pc2 := 7) (lv2 := [(0, .ref C), (1, vi x1)]) (st2 := [vi 12, vi x1]) 2 (fun _ _ => rfl) ?_
    by_cases h2 : 12 ≤ x1
    · refine mq_t h2 ?_
      refine pr_if2t rfl rfl hx1 (i32_n rfl) h2 ?_
      refine pr_n (pc2 := 20) (lv2 := [(0, .ref C), (1, vi x1)]) (st2 := [vi 0]) 1 (fun _ _ => rfl) ?_
      refine pr_end (fun _ _ => rfl) ?_
      exact .inl ⟨_, 0, _, rfl, ⟨rfl, (i32_n rfl)⟩, rfl, hE⟩
    · refine mq_f h2 ?_
      refine pr_if2f rfl rfl hx1 (i32_n rfl) h2 ?_
      refine pr_n (pc2 := 11) (lv2 := [(0, .ref C), (1, vi x1)]) (st2 := [.ref C]) 1 (fun _ _ => rfl) ?_
      refine pr_get (v := .ref (C + 14)) rfl rfl (TK0 hC) (by decide) (rv_ref (hE.2.1 C 10 (C + 14) (rcK hC (by omega)))) fun _ => ?_
      refine pr_n (pc2 := 15) (lv2 := [(0, .ref C), (1, vi x1)]) (st2 := [vi x1, .ref (C + 14)]) 1 (fun _ _ => rfl) ?_
      refine pr_aE (k2 := 113) (a := x1) (v := vi (t 113 x1.toNat)) hE rfl (TK14 hC) rfl hx1 (by decide) rfl rfl rfl fun h4 h5 h3 => ?_
      have h3 : i32 (t 113 x1.toNat) := h3
      refine pr_n (pc2 := 20) (lv2 := [(0, .ref C), (1, vi x1)]) (st2 := [vi (t 113 x1.toNat)]) 1 (fun _ _ => rfl) ?_
      refine pr_reti rfl rfl ?_
      exact .inl ⟨_, t 113 x1.toNat, _, rfl, ⟨rfl, h3⟩, rfl, hE⟩
set_option maxHeartbeats 20000000 in
set_option maxRecDepth 100000 in
theorem wm101 {K d C : Nat} : wT101 K (d + 1) C := by
  intro s t x1 hE hx1
  have hC : C = 99 ∨ C = 115 := hE.1
  refine pcr_of (M := tb_M101) rfl ?_
  show pr K K d tb_M101 0 [(0, .ref C), (1, vi x1)] [] s _
  rw [wG_101]
  unfold wM101
  refine pr_n (pc2 := 1) (lv2 := [(0, .ref C), (1, vi x1)]) (st2 := [vi x1]) 1 (fun _ _ => rfl) ?_
  by_cases h1 : x1 < 0
  · refine mq_t h1 ?_
    refine pr_if1t rfl rfl hx1 h1 ?_
    refine pr_n (pc2 := 20) (lv2 := [(0, .ref C), (1, vi x1)]) (st2 := [vi ((-1))]) 1 (fun _ _ => rfl) ?_
    refine pr_end (fun _ _ => rfl) ?_
    exact .inl ⟨_, (-1), _, rfl, ⟨rfl, (i32_n rfl)⟩, rfl, hE⟩
  · refine mq_f h1 ?_
    refine pr_if1f rfl rfl hx1 h1 ?_
    refine pr_n (pc2 := 7) (lv2 := [(0, .ref C), (1, vi x1)]) (st2 := [vi 12, vi x1]) 2 (fun _ _ => rfl) ?_
    by_cases h2 : 12 ≤ x1
    · refine mq_t h2 ?_
      refine pr_if2t rfl rfl hx1 (i32_n rfl) h2 ?_
      refine pr_n (pc2 := 20) (lv2 := [(0, .ref C), (1, vi x1)]) (st2 := [vi ((-1))]) 1 (fun _ _ => rfl) ?_
      refine pr_end (fun _ _ => rfl) ?_
      exact .inl ⟨_, (-1), _, rfl, ⟨rfl, (i32_n rfl)⟩, rfl, hE⟩
    · refine mq_f h2 ?_
      refine pr_if2f rfl rfl hx1 (i32_n rfl) h2 ?_
      refine pr_n (pc2 := 11) (lv2 := [(0, .ref C), (1, vi x1)]) (st2 := [.ref C]) 1 (fun _ _ => rfl) ?_
      refine pr_get (v := .ref (C + 15)) rfl rfl (TK0 hC) (by decide) (rv_ref (hE.2.1 C 11 (C + 15) (rcK hC (by omega)))) fun _ => ?_
      refine pr_n (pc2 := 15) (lv2 := [(0, .ref C), (1, vi x1)]) (st2 := [vi x1, .ref (C + 15)]) 1 (fun _ _ => rfl) ?_
      refine pr_aE (k2 := 114) (a := x1) (v := vi (t 114 x1.toNat)) hE rfl (TK15 hC) rfl hx1 (by decide) rfl rfl rfl fun h4 h5 h3 => ?_
      have h3 : i32 (t 114 x1.toNat) := h3
      refine pr_n (pc2 := 20) (lv2 := [(0, .ref C), (1, vi x1)]) (st2 := [vi (t 114 x1.toNat)]) 1 (fun _ _ => rfl) ?_
      refine pr_reti rfl rfl ?_
      exact .inl ⟨_, t 114 x1.toNat, _, rfl, ⟨rfl, h3⟩, rfl, hE⟩
set_option maxHeartbeats 20000000 in
set_option maxRecDepth 100000 in
theorem wm94 {K d C : Nat} : wT94 K (d + 1) C := by
  intro s t x1 x2 hE hx1 hx2
  have hC : C = 99 ∨ C = 115 := hE.1
  refine pcr_of (M := tb_M94) rfl ?_
  show pr K K d tb_M94 0 [(0, .ref C), (1, vi x1), (2, vi x2)] [] s _
  rw [wG_94]
  unfold wM94
  refine pr_n (pc2 := 1) (lv2 := [(0, .ref C), (1, vi x1), (2, vi x2)]) (st2 := [vi x1]) 1 (fun _ _ => rfl) ?_
  by_cases h1 : x1 < 0
  · refine mq_t h1 ?_
    refine pr_if1t rfl rfl hx1 h1 ?_
    refine pr_n (pc2 := 33) (lv2 := [(0, .ref C), (1, vi x1), (2, vi x2)]) (st2 := [vi 0]) 1 (fun _ _ => rfl) ?_
    refine pr_end (fun _ _ => rfl) ?_
    exact .inl ⟨_, 0, _, rfl, ⟨rfl, (i32_n rfl)⟩, rfl, hE⟩
  · refine mq_f h1 ?_
    refine pr_if1f rfl rfl hx1 h1 ?_
    refine pr_n (pc2 := 7) (lv2 := [(0, .ref C), (1, vi x1), (2, vi x2)]) (st2 := [vi 6, vi x1]) 2 (fun _ _ => rfl) ?_
    by_cases h2 : 6 ≤ x1
    · refine mq_t h2 ?_
      refine pr_if2t rfl rfl hx1 (i32_n rfl) h2 ?_
      refine pr_n (pc2 := 33) (lv2 := [(0, .ref C), (1, vi x1), (2, vi x2)]) (st2 := [vi 0]) 1 (fun _ _ => rfl) ?_
      refine pr_end (fun _ _ => rfl) ?_
      exact .inl ⟨_, 0, _, rfl, ⟨rfl, (i32_n rfl)⟩, rfl, hE⟩
    · refine mq_f h2 ?_
      refine pr_if2f rfl rfl hx1 (i32_n rfl) h2 ?_
      refine pr_n (pc2 := 11) (lv2 := [(0, .ref C), (1, vi x1), (2, vi x2)]) (st2 := [.ref C]) 1 (fun _ _ => rfl) ?_
      refine pr_get (v := .ref (C + 12)) rfl rfl (TK0 hC) (by decide) (rv_ref (hE.2.1 C 8 (C + 12) (rcK hC (by omega)))) fun _ => ?_
      refine pr_n (pc2 := 15) (lv2 := [(0, .ref C), (1, vi x1), (2, vi x2)]) (st2 := [vi x1, .ref (C + 12)]) 1 (fun _ _ => rfl) ?_
      refine pr_aE (k2 := 111) (a := x1) (v := vi (t 111 x1.toNat)) hE rfl (TK12 hC) rfl hx1 (by decide) rfl rfl rfl fun h4 h5 h3 => ?_
      have h3 : i32 (t 111 x1.toNat) := h3
      by_cases h6 : t 111 x1.toNat ≤ 0
      · refine mq_t h6 ?_
        refine pr_if1t rfl rfl h3 h6 ?_
        refine pr_n (pc2 := 33) (lv2 := [(0, .ref C), (1, vi x1), (2, vi x2)]) (st2 := [vi 0]) 1 (fun _ _ => rfl) ?_
        refine pr_end (fun _ _ => rfl) ?_
        exact .inl ⟨_, 0, _, rfl, ⟨rfl, (i32_n rfl)⟩, rfl, hE⟩
      · refine mq_f h6 ?_
        refine pr_if1f rfl rfl h3 h6 ?_
        refine pr_n (pc2 := 21) (lv2 := [(0, .ref C), (1, vi x1), (2, vi x2)]) (st2 := [.ref C, vi x2]) 2 (fun _ _ => rfl) ?_
        refine pr_get (v := .ref (C + 12)) rfl rfl (TK0 hC) (by decide) (rv_ref (hE.2.1 C 8 (C + 12) (rcK hC (by omega)))) fun _ => ?_
        refine pr_n (pc2 := 25) (lv2 := [(0, .ref C), (1, vi x1), (2, vi x2)]) (st2 := [vi x1, .ref (C + 12), vi x2]) 1 (fun _ _ => rfl) ?_
        refine pr_aE (k2 := 111) (a := x1) (v := vi (t 111 x1.toNat)) hE rfl (TK12 hC) rfl hx1 (by decide) rfl rfl rfl fun h8 h9 h7 => ?_
        have h7 : i32 (t 111 x1.toNat) := h7
        refine pr_n (pc2 := 27) (lv2 := [(0, .ref C), (1, vi x1), (2, vi x2)]) (st2 := [vi 1, vi (t 111 x1.toNat), vi x2]) 1 (fun _ _ => rfl) ?_
        refine pr_i2 (a := t 111 x1.toNat) (b := 1) rfl rfl ?_
        show pr K K d tb_M94 28 [(0, .ref C), (1, vi x1), (2, vi x2)] [vi (imi (t 111 x1.toNat) 1), vi x2] s _
        have h10 : i32 (imi (t 111 x1.toNat) 1) := i32_in _
        refine pr_i2 (a := x2) (b := imi (t 111 x1.toNat) 1) rfl rfl ?_
        show pr K K d tb_M94 29 [(0, .ref C), (1, vi x1), (2, vi x2)] [vi (ian x2 (imi (t 111 x1.toNat) 1))] s _
        have h11 : i32 (ian x2 (imi (t 111 x1.toNat) 1)) := i32_in _
        refine pr_n (pc2 := 33) (lv2 := [(0, .ref C), (1, vi x1), (2, vi x2)]) (st2 := [vi (ian x2 (imi (t 111 x1.toNat) 1))]) 1 (fun _ _ => rfl) ?_
        refine pr_reti rfl rfl ?_
        exact .inl ⟨_, ian x2 (imi (t 111 x1.toNat) 1), _, rfl, ⟨rfl, h11⟩, rfl, hE⟩
set_option maxHeartbeats 20000000 in
set_option maxRecDepth 100000 in
theorem wm79 {K d C : Nat} : wT79 K (d + 1) C := by
  intro s t x0 hE hx0
  have hC : C = 99 ∨ C = 115 := hE.1
  refine pcr_of (M := tb_M79) rfl ?_
  show pr K K d tb_M79 0 [(0, .ref x0.toNat)] [] s _
  rw [wG_79]
  unfold wM79
  refine pr_n (pc2 := 2) (lv2 := [(0, .ref x0.toNat)]) (st2 := [vi 0, .ref x0.toNat]) 2 (fun _ _ => rfl) ?_
  refine pr_pE (k2 := x0.toNat) (z := 0) hE rfl rfl rfl rfl (show 96 ≤ x0.toNat by have := ge_q hx0; omega) (TGw_q hx0) (by decide) rfl (show i32 (0) from (i32_n rfl)) (hf_int' _) (nw_q hx0 (by decide)) (pv_q hx0) (rw_q hx0 (by decide)) (fun e => absurd e.1 (show ¬ (x0.toNat = 142) by have := ge_q hx0; omega)) (fun _ => trivial) fun s1 hE1 => ?_
  refine pr_n (pc2 := 7) (lv2 := [(0, .ref x0.toNat)]) (st2 := [vi 0, .ref x0.toNat]) 2 (fun _ _ => rfl) ?_
  refine pr_pE (k2 := x0.toNat) (z := 0) hE1 rfl rfl rfl rfl (show 96 ≤ x0.toNat by have := ge_q hx0; omega) (TGw_q hx0) (by decide) rfl (show i32 (0) from (i32_n rfl)) (hf_int' _) (nw_q hx0 (by decide)) (pv_q hx0) (rw_q hx0 (by decide)) (fun e => absurd e.1 (show ¬ (x0.toNat = 142) by have := ge_q hx0; omega)) (fun _ => trivial) fun s2 hE2 => ?_
  refine pr_end (fun _ _ => rfl) ?_
  exact .inl ⟨_, 0, _, rfl, ⟨rfl, rfl⟩, rfl, hE2⟩
set_option maxHeartbeats 20000000 in
set_option maxRecDepth 100000 in
theorem wm105 {K d C : Nat} : wT105 K (d + 1) C := by
  intro s t x0 x1 hE hx0 hx1
  have hC : C = 99 ∨ C = 115 := hE.1
  refine pcr_of (M := tb_M105) rfl ?_
  show pr K K d tb_M105 0 [(0, .ref x0.toNat), (1, vi x1)] [] s _
  rw [wG_105]
  unfold wM105
  refine pr_n (pc2 := 1) (lv2 := [(0, .ref x0.toNat), (1, vi x1)]) (st2 := [.ref x0.toNat]) 1 (fun _ _ => rfl) ?_
  refine pr_gE (k2 := x0.toNat) (v := vi (t x0.toNat 2)) hE rfl rfl (TGw_q hx0) (by decide) (pv_q hx0) (rw_q hx0 (by decide)) rfl fun h1 => ?_
  have h1 : i32 (t x0.toNat 2) := h1
  refine pr_n (pc2 := 6) (lv2 := [(0, .ref x0.toNat), (1, vi x1)]) (st2 := [vi 40, vi (t x0.toNat 2)]) 1 (fun _ _ => rfl) ?_
  by_cases h2 : t x0.toNat 2 < 40
  · refine mq_t h2 ?_
    refine pr_if2t rfl rfl h1 (i32_n rfl) h2 ?_
    refine pr_n (pc2 := 12) (lv2 := [(0, .ref x0.toNat), (1, vi x1)]) (st2 := [.ref x0.toNat]) 1 (fun _ _ => rfl) ?_
    refine pr_get (v := .ref (x0.toNat + 1)) rfl rfl (TGw_q hx0) (by decide) (rv_ref (hE.2.1 x0.toNat 0 (x0.toNat + 1) (rcw_q hx0))) fun _ => ?_
    refine pr_n (pc2 := 16) (lv2 := [(0, .ref x0.toNat), (1, vi x1)]) (st2 := [.ref x0.toNat, .ref (x0.toNat + 1)]) 1 (fun _ _ => rfl) ?_
    refine pr_gE (k2 := x0.toNat) (v := vi (t x0.toNat 1)) hE rfl rfl (TGw_q hx0) (by decide) (pv_q hx0) (rw_q hx0 (by decide)) rfl fun h3 => ?_
    have h3 : i32 (t x0.toNat 1) := h3
    refine pr_n (pc2 := 20) (lv2 := [(0, .ref x0.toNat), (1, vi x1)]) (st2 := [.ref x0.toNat, vi (t x0.toNat 1), .ref (x0.toNat + 1)]) 1 (fun _ _ => rfl) ?_
    refine pr_gE (k2 := x0.toNat) (v := vi (t x0.toNat 2)) hE rfl rfl (TGw_q hx0) (by decide) (pv_q hx0) (rw_q hx0 (by decide)) rfl fun h4 => ?_
    have h4 : i32 (t x0.toNat 2) := h4
    refine pr_i2 (a := t x0.toNat 1) (b := t x0.toNat 2) rfl rfl ?_
    show pr K K d tb_M105 24 [(0, .ref x0.toNat), (1, vi x1)] [vi (ipl (t x0.toNat 1) (t x0.toNat 2)), .ref (x0.toNat + 1)] s _
    have h5 : i32 (ipl (t x0.toNat 1) (t x0.toNat 2)) := i32_in _
    refine pr_n (pc2 := 26) (lv2 := [(0, .ref x0.toNat), (1, vi x1)]) (st2 := [vi 40, vi (ipl (t x0.toNat 1) (t x0.toNat 2)), .ref (x0.toNat + 1)]) 1 (fun _ _ => rfl) ?_
    refine pr_irem (a := ipl (t x0.toNat 1) (t x0.toNat 2)) (b := 40) rfl ?_
    show pr K K d tb_M105 27 [(0, .ref x0.toNat), (1, vi x1)] [vi (rmw (ipl (t x0.toNat 1) (t x0.toNat 2)) 40), .ref (x0.toNat + 1)] s _
    refine pr_n (pc2 := 28) (lv2 := [(0, .ref x0.toNat), (1, vi x1)]) (st2 := [vi x1, vi (rmw (ipl (t x0.toNat 1) (t x0.toNat 2)) 40), .ref (x0.toNat + 1)]) 1 (fun _ _ => rfl) ?_
    refine pr_sE (k2 := (x0.toNat + 1)) (a := rmw (ipl (t x0.toNat 1) (t x0.toNat 2)) 40) (z := x1) hE rfl (show 96 ≤ x0.toNat + 1 by have := ge_q hx0; omega) (TGw_q1 hx0) rfl (i32_in _) (by decide) rfl (show i32 (x1) from hx1) (nw_q1 hx0) (pv_q1 hx0) (rw_q1 hx0) (fun e => absurd e.1 (show ¬ (x0.toNat + 1 = 142) by have := ge_q hx0; omega)) (fun _ => trivial) fun h6 h7 s8 hE8 => ?_
    refine pr_n (pc2 := 31) (lv2 := [(0, .ref x0.toNat), (1, vi x1)]) (st2 := [.ref x0.toNat, .ref x0.toNat]) 2 (fun _ _ => rfl) ?_
    refine pr_gE (k2 := x0.toNat) (v := vi ((up2 t (x0.toNat + 1) ((rmw (ipl (t x0.toNat 1) (t x0.toNat 2)) 40).toNat) x1) x0.toNat 2)) hE8 rfl rfl (TGw_q hx0) (by decide) (pv_q hx0) (rw_q hx0 (by decide)) (by first | rfl | (rw [up_jn (by decide)]; rfl) | (rw [up_jn (by decide), up_jn (by decide)]; rfl)) fun h9 => ?_
    have h9 : i32 ((up2 t (x0.toNat + 1) ((rmw (ipl (t x0.toNat 1) (t x0.toNat 2)) 40).toNat) x1) x0.toNat 2) := h9
    refine pr_n (pc2 := 35) (lv2 := [(0, .ref x0.toNat), (1, vi x1)]) (st2 := [vi 1, vi ((up2 t (x0.toNat + 1) ((rmw (ipl (t x0.toNat 1) (t x0.toNat 2)) 40).toNat) x1) x0.toNat 2), .ref x0.toNat]) 1 (fun _ _ => rfl) ?_
    refine pr_i2 (a := (up2 t (x0.toNat + 1) ((rmw (ipl (t x0.toNat 1) (t x0.toNat 2)) 40).toNat) x1) x0.toNat 2) (b := 1) rfl rfl ?_
    show pr K K d tb_M105 36 [(0, .ref x0.toNat), (1, vi x1)] [vi (ipl ((up2 t (x0.toNat + 1) ((rmw (ipl (t x0.toNat 1) (t x0.toNat 2)) 40).toNat) x1) x0.toNat 2) 1), .ref x0.toNat] s8 _
    have h10 : i32 (ipl ((up2 t (x0.toNat + 1) ((rmw (ipl (t x0.toNat 1) (t x0.toNat 2)) 40).toNat) x1) x0.toNat 2) 1) := i32_in _
    refine pr_pE (k2 := x0.toNat) (z := ipl ((up2 t (x0.toNat + 1) ((rmw (ipl (t x0.toNat 1) (t x0.toNat 2)) 40).toNat) x1) x0.toNat 2) 1) hE8 rfl rfl rfl rfl (show 96 ≤ x0.toNat by have := ge_q hx0; omega) (TGw_q hx0) (by decide) rfl (show i32 (ipl ((up2 t (x0.toNat + 1) ((rmw (ipl (t x0.toNat 1) (t x0.toNat 2)) 40).toNat) x1) x0.toNat 2) 1) from h10) (hf_int' _) (nw_q hx0 (by decide)) (pv_q hx0) (rw_q hx0 (by decide)) (fun e => absurd e.1 (show ¬ (x0.toNat = 142) by have := ge_q hx0; omega)) (fun _ => trivial) fun s11 hE11 => ?_
    refine pr_n (pc2 := 40) (lv2 := [(0, .ref x0.toNat), (1, vi x1)]) (st2 := [vi 1]) 1 (fun _ _ => rfl) ?_
    refine pr_end (fun _ _ => rfl) ?_
    exact .inl ⟨_, 1, _, rfl, ⟨rfl, (by decide)⟩, rfl, hE11⟩
  · refine mq_f h2 ?_
    refine pr_if2f rfl rfl h1 (i32_n rfl) h2 ?_
    refine pr_n (pc2 := 10) (lv2 := [(0, .ref x0.toNat), (1, vi x1)]) (st2 := [vi 0]) 1 (fun _ _ => rfl) ?_
    refine pr_end (fun _ _ => rfl) ?_
    exact .inl ⟨_, 0, _, rfl, ⟨rfl, (by decide)⟩, rfl, hE⟩
set_option maxHeartbeats 20000000 in
set_option maxRecDepth 100000 in
theorem wm108 {K d C : Nat} : wT108 K (d + 1) C := by
  intro s t x0 hE hx0
  have hC : C = 99 ∨ C = 115 := hE.1
  refine pcr_of (M := tb_M108) rfl ?_
  show pr K K d tb_M108 0 [(0, .ref x0.toNat)] [] s _
  rw [wG_108]
  unfold wM108
  refine pr_n (pc2 := 1) (lv2 := [(0, .ref x0.toNat)]) (st2 := [.ref x0.toNat]) 1 (fun _ _ => rfl) ?_
  refine pr_gE (k2 := x0.toNat) (v := vi (t x0.toNat 2)) hE rfl rfl (TGw_q hx0) (by decide) (pv_q hx0) (rw_q hx0 (by decide)) rfl fun h1 => ?_
  have h1 : i32 (t x0.toNat 2) := h1
  by_cases h2 : 0 < t x0.toNat 2
  · refine mq_t h2 ?_
    refine pr_if1t rfl rfl h1 h2 ?_
    refine pr_n (pc2 := 10) (lv2 := [(0, .ref x0.toNat)]) (st2 := [.ref x0.toNat]) 1 (fun _ _ => rfl) ?_
    refine pr_get (v := .ref (x0.toNat + 1)) rfl rfl (TGw_q hx0) (by decide) (rv_ref (hE.2.1 x0.toNat 0 (x0.toNat + 1) (rcw_q hx0))) fun _ => ?_
    refine pr_n (pc2 := 14) (lv2 := [(0, .ref x0.toNat)]) (st2 := [.ref x0.toNat, .ref (x0.toNat + 1)]) 1 (fun _ _ => rfl) ?_
    refine pr_gE (k2 := x0.toNat) (v := vi (t x0.toNat 1)) hE rfl rfl (TGw_q hx0) (by decide) (pv_q hx0) (rw_q hx0 (by decide)) rfl fun h3 => ?_
    have h3 : i32 (t x0.toNat 1) := h3
    refine pr_aE (k2 := (x0.toNat + 1)) (a := t x0.toNat 1) (v := vi (t (x0.toNat + 1) ((t x0.toNat 1).toNat))) hE rfl (TGw_q1 hx0) rfl h3 (by decide) (pv_q1 hx0) (rw_q1 hx0) rfl fun h5 h6 h4 => ?_
    have h4 : i32 (t (x0.toNat + 1) ((t x0.toNat 1).toNat)) := h4
    refine pr_n (pc2 := 21) (lv2 := [(1, vi (t (x0.toNat + 1) ((t x0.toNat 1).toNat))), (0, .ref x0.toNat)]) (st2 := [.ref x0.toNat, .ref x0.toNat]) 3 (fun _ _ => rfl) ?_
    refine pr_gE (k2 := x0.toNat) (v := vi (t x0.toNat 1)) hE rfl rfl (TGw_q hx0) (by decide) (pv_q hx0) (rw_q hx0 (by decide)) rfl fun h7 => ?_
    have h7 : i32 (t x0.toNat 1) := h7
    refine pr_n (pc2 := 25) (lv2 := [(1, vi (t (x0.toNat + 1) ((t x0.toNat 1).toNat))), (0, .ref x0.toNat)]) (st2 := [vi 1, vi (t x0.toNat 1), .ref x0.toNat]) 1 (fun _ _ => rfl) ?_
    refine pr_i2 (a := t x0.toNat 1) (b := 1) rfl rfl ?_
    show pr K K d tb_M108 26 [(1, vi (t (x0.toNat + 1) ((t x0.toNat 1).toNat))), (0, .ref x0.toNat)] [vi (ipl (t x0.toNat 1) 1), .ref x0.toNat] s _
    have h8 : i32 (ipl (t x0.toNat 1) 1) := i32_in _
    refine pr_n (pc2 := 28) (lv2 := [(1, vi (t (x0.toNat + 1) ((t x0.toNat 1).toNat))), (0, .ref x0.toNat)]) (st2 := [vi 40, vi (ipl (t x0.toNat 1) 1), .ref x0.toNat]) 1 (fun _ _ => rfl) ?_
    refine pr_irem (a := ipl (t x0.toNat 1) 1) (b := 40) rfl ?_
    show pr K K d tb_M108 29 [(1, vi (t (x0.toNat + 1) ((t x0.toNat 1).toNat))), (0, .ref x0.toNat)] [vi (rmw (ipl (t x0.toNat 1) 1) 40), .ref x0.toNat] s _
    refine pr_pE (k2 := x0.toNat) (z := rmw (ipl (t x0.toNat 1) 1) 40) hE rfl rfl rfl rfl (show 96 ≤ x0.toNat by have := ge_q hx0; omega) (TGw_q hx0) (by decide) rfl (show i32 (rmw (ipl (t x0.toNat 1) 1) 40) from (i32_in _)) (hf_int' _) (nw_q hx0 (by decide)) (pv_q hx0) (rw_q hx0 (by decide)) (fun e => absurd e.1 (show ¬ (x0.toNat = 142) by have := ge_q hx0; omega)) (fun _ => trivial) fun s9 hE9 => ?_
    refine pr_n (pc2 := 34) (lv2 := [(1, vi (t (x0.toNat + 1) ((t x0.toNat 1).toNat))), (0, .ref x0.toNat)]) (st2 := [.ref x0.toNat, .ref x0.toNat]) 2 (fun _ _ => rfl) ?_
    refine pr_gE (k2 := x0.toNat) (v := vi (t x0.toNat 2)) hE9 rfl rfl (TGw_q hx0) (by decide) (pv_q hx0) (rw_q hx0 (by decide)) (by first | rfl | (rw [up_jn (by decide)]; rfl) | (rw [up_jn (by decide), up_jn (by decide)]; rfl)) fun h10 => ?_
    first | rw [up_jn (by decide), up_jn (by decide)] at h10 | rw [up_jn (by decide)] at h10 | skip
    have h10 : i32 (t x0.toNat 2) := h10
    refine pr_n (pc2 := 38) (lv2 := [(1, vi (t (x0.toNat + 1) ((t x0.toNat 1).toNat))), (0, .ref x0.toNat)]) (st2 := [vi 1, vi (t x0.toNat 2), .ref x0.toNat]) 1 (fun _ _ => rfl) ?_
    refine pr_i2 (a := t x0.toNat 2) (b := 1) rfl rfl ?_
    show pr K K d tb_M108 39 [(1, vi (t (x0.toNat + 1) ((t x0.toNat 1).toNat))), (0, .ref x0.toNat)] [vi (imi (t x0.toNat 2) 1), .ref x0.toNat] s9 _
    have h11 : i32 (imi (t x0.toNat 2) 1) := i32_in _
    refine pr_pE (k2 := x0.toNat) (z := imi (t x0.toNat 2) 1) hE9 rfl rfl rfl rfl (show 96 ≤ x0.toNat by have := ge_q hx0; omega) (TGw_q hx0) (by decide) rfl (show i32 (imi (t x0.toNat 2) 1) from h11) (hf_int' _) (nw_q hx0 (by decide)) (pv_q hx0) (rw_q hx0 (by decide)) (fun e => absurd e.1 (show ¬ (x0.toNat = 142) by have := ge_q hx0; omega)) (fun _ => trivial) fun s12 hE12 => ?_
    refine pr_n (pc2 := 43) (lv2 := [(1, vi (t (x0.toNat + 1) ((t x0.toNat 1).toNat))), (0, .ref x0.toNat)]) (st2 := [vi (t (x0.toNat + 1) ((t x0.toNat 1).toNat))]) 1 (fun _ _ => rfl) ?_
    refine pr_reti rfl rfl ?_
    exact .inl ⟨_, t (x0.toNat + 1) ((t x0.toNat 1).toNat), _, rfl, ⟨rfl, h4⟩, rfl, hE12⟩
  · refine mq_f h2 ?_
    refine pr_if1f rfl rfl h1 h2 ?_
    refine pr_n (pc2 := 8) (lv2 := [(0, .ref x0.toNat)]) (st2 := [vi 0]) 1 (fun _ _ => rfl) ?_
    refine pr_end (fun _ _ => rfl) ?_
    exact .inl ⟨_, 0, _, rfl, ⟨rfl, (i32_n rfl)⟩, rfl, hE⟩
set_option maxHeartbeats 20000000 in
set_option maxRecDepth 100000 in
theorem wm92 {K d C : Nat} : wT92 K (d + 1) C := by
  intro s t x0 hE hx0
  have hC : C = 99 ∨ C = 115 := hE.1
  refine pcr_of (M := tb_M92) rfl ?_
  show pr K K d tb_M92 0 [(0, vi x0)] [] s _
  rw [wG_92]
  unfold wM92
  refine pr_n (pc2 := 1) (lv2 := [(0, vi x0)]) (st2 := [vi x0]) 1 (fun _ _ => rfl) ?_
  by_cases h1 : x0 = 0
  · refine mq_t h1 ?_
    refine pr_if1t rfl rfl (i32_z hx0) h1 ?_
    refine pr_n (pc2 := 9) (lv2 := [(0, vi x0)]) (st2 := [vi 0]) 1 (fun _ _ => rfl) ?_
    refine pr_end (fun _ _ => rfl) ?_
    exact .inl ⟨_, 0, _, rfl, ⟨rfl, (i32_n rfl)⟩, rfl, hE⟩
  · refine mq_f h1 ?_
    refine pr_if1f rfl rfl (i32_z hx0) h1 ?_
    refine pr_n (pc2 := 9) (lv2 := [(0, vi x0)]) (st2 := [vi 1]) 2 (fun _ _ => rfl) ?_
    refine pr_end (fun _ _ => rfl) ?_
    exact .inl ⟨_, 1, _, rfl, ⟨rfl, (i32_n rfl)⟩, rfl, hE⟩
set_option maxHeartbeats 20000000 in
set_option maxRecDepth 100000 in
theorem wm95 {K d C : Nat} (h_92 : wT92 K d C) : wT95 K (d + 1) C := by
  intro s t x0 x1 hE hx0 hx1
  have hC : C = 99 ∨ C = 115 := hE.1
  refine pcr_of (M := tb_M95) rfl ?_
  show pr K K d tb_M95 0 [(0, vi x0), (1, vi x1)] [] s _
  rw [wG_95]
  unfold wM95
  refine pr_n (pc2 := 1) (lv2 := [(0, vi x0), (1, vi x1)]) (st2 := [vi x0]) 1 (fun _ _ => rfl) ?_
  by_cases h1 : x0 = 45
  · refine mq_t h1 ?_
    refine pr_lsw rfl (by decide) hx0 (by rw [h1]) rfl ?_
    refine pr_n (pc2 := 29) (lv2 := [(0, vi x0), (1, vi x1)]) (st2 := [vi x1]) 1 (fun _ _ => rfl) ?_
    refine pr_ineg (a := x1) rfl ?_
    show pr K K d tb_M95 30 [(0, vi x0), (1, vi x1)] [vi (ing x1)] s _
    refine pr_reti rfl rfl ?_
    exact .inl ⟨_, ing x1, _, rfl, ⟨rfl, (i32_in _)⟩, rfl, hE⟩
  · refine mq_f h1 ?_
    by_cases h2 : x0 = 126
    · refine mq_t h2 ?_
      refine pr_lsw rfl (by decide) hx0 (by rw [h2]) rfl ?_
      refine pr_n (pc2 := 33) (lv2 := [(0, vi x0), (1, vi x1)]) (st2 := [vi ((-1)), vi x1]) 2 (fun _ _ => rfl) ?_
      refine pr_i2 (a := x1) (b := (-1)) rfl rfl ?_
      show pr K K d tb_M95 34 [(0, vi x0), (1, vi x1)] [vi (ixo x1 ((-1)))] s _
      have h3 : i32 (ixo x1 ((-1))) := i32_in _
      refine pr_reti rfl rfl ?_
      exact .inl ⟨_, ixo x1 ((-1)), _, rfl, ⟨rfl, h3⟩, rfl, hE⟩
    · refine mq_f h2 ?_
      refine pr_lsw rfl (by decide) hx0 (ls_no _ ⟨by omega, by omega, trivial⟩) rfl ?_
      refine pr_n (pc2 := 36) (lv2 := [(0, vi x0), (1, vi x1)]) (st2 := [vi x1]) 1 (fun _ _ => rfl) ?_
      by_cases h4 : x1 ≠ 0
      · refine mq_t h4 ?_
        refine pr_if1t rfl rfl hx1 h4 ?_
        refine pr_n (pc2 := 44) (lv2 := [(0, vi x0), (1, vi x1)]) (st2 := [vi 0]) 1 (fun _ _ => rfl) ?_
        refine pr_s0 (args := [vi 0]) (rest := []) rfl rfl rfl (Nat.le_of_ble_eq_true rfl) rfl (h_92 s t 0 hE (by decide)) v_tr0 ?_
        rintro _ s5 ⟨rfl, hz5⟩ hE5
        show pr K K d tb_M95 47 [(0, vi x0), (1, vi x1)] [vi 0] s5 _
        refine pr_end (fun _ _ => rfl) ?_
        exact .inl ⟨_, 0, _, rfl, ⟨rfl, (i32_n rfl)⟩, rfl, hE5⟩
      · refine mq_f h4 ?_
        refine pr_if1f rfl rfl hx1 h4 ?_
        refine pr_n (pc2 := 44) (lv2 := [(0, vi x0), (1, vi x1)]) (st2 := [vi 1]) 2 (fun _ _ => rfl) ?_
        refine pr_s0 (args := [vi 1]) (rest := []) rfl rfl rfl (Nat.le_of_ble_eq_true rfl) rfl (h_92 s t 1 hE (by decide)) v_tr1 ?_
        rintro _ s6 ⟨rfl, hz6⟩ hE6
        show pr K K d tb_M95 47 [(0, vi x0), (1, vi x1)] [vi 1] s6 _
        refine pr_end (fun _ _ => rfl) ?_
        exact .inl ⟨_, 1, _, rfl, ⟨rfl, (i32_n rfl)⟩, rfl, hE6⟩
set_option maxHeartbeats 20000000 in
set_option maxRecDepth 100000 in
theorem wm91 {K d C : Nat} (h_92 : wT92 K d C) : wT91 K (d + 1) C := by
  intro s t x0 x1 x2 hE hx0 hx1 hx2
  have hC : C = 99 ∨ C = 115 := hE.1
  refine pcr_of (M := tb_M91) rfl ?_
  show pr K K d tb_M91 0 [(0, vi x0), (1, vi x1), (2, vi x2)] [] s _
  rw [wG_91]
  unfold wM91
  refine pr_n (pc2 := 1) (lv2 := [(0, vi x0), (1, vi x1), (2, vi x2)]) (st2 := [vi x0]) 1 (fun _ _ => rfl) ?_
  by_cases h1 : x0 = 38
  · refine mq_t h1 ?_
    refine pr_lsw rfl (by decide) hx0 (by rw [h1]) rfl ?_
    refine pr_n (pc2 := 192) (lv2 := [(0, vi x0), (1, vi x1), (2, vi x2)]) (st2 := [vi x2, vi x1]) 2 (fun _ _ => rfl) ?_
    refine pr_i2 (a := x1) (b := x2) rfl rfl ?_
    show pr K K d tb_M91 193 [(0, vi x0), (1, vi x1), (2, vi x2)] [vi (ian x1 x2)] s _
    have h2 : i32 (ian x1 x2) := i32_in _
    refine pr_reti rfl rfl ?_
    exact .inl ⟨_, ian x1 x2, _, rfl, ⟨rfl, h2⟩, rfl, hE⟩
  · refine mq_f h1 ?_
    by_cases h3 : x0 = 42
    · refine mq_t h3 ?_
      refine pr_lsw rfl (by decide) hx0 (by rw [h3]) rfl ?_
      refine pr_n (pc2 := 302) (lv2 := [(0, vi x0), (1, vi x1), (2, vi x2)]) (st2 := [vi x2, vi x1]) 2 (fun _ _ => rfl) ?_
      refine pr_i2 (a := x1) (b := x2) rfl rfl ?_
      show pr K K d tb_M91 303 [(0, vi x0), (1, vi x1), (2, vi x2)] [vi (imu x1 x2)] s _
      have h4 : i32 (imu x1 x2) := i32_in _
      refine pr_reti rfl rfl ?_
      exact .inl ⟨_, imu x1 x2, _, rfl, ⟨rfl, h4⟩, rfl, hE⟩
    · refine mq_f h3 ?_
      by_cases h5 : x0 = 43
      · refine mq_t h5 ?_
        refine pr_lsw rfl (by decide) hx0 (by rw [h5]) rfl ?_
        refine pr_n (pc2 := 294) (lv2 := [(0, vi x0), (1, vi x1), (2, vi x2)]) (st2 := [vi x2, vi x1]) 2 (fun _ _ => rfl) ?_
        refine pr_i2 (a := x1) (b := x2) rfl rfl ?_
        show pr K K d tb_M91 295 [(0, vi x0), (1, vi x1), (2, vi x2)] [vi (ipl x1 x2)] s _
        have h6 : i32 (ipl x1 x2) := i32_in _
        refine pr_reti rfl rfl ?_
        exact .inl ⟨_, ipl x1 x2, _, rfl, ⟨rfl, h6⟩, rfl, hE⟩
      · refine mq_f h5 ?_
        by_cases h7 : x0 = 45
        · refine mq_t h7 ?_
          refine pr_lsw rfl (by decide) hx0 (by rw [h7]) rfl ?_
          refine pr_n (pc2 := 298) (lv2 := [(0, vi x0), (1, vi x1), (2, vi x2)]) (st2 := [vi x2, vi x1]) 2 (fun _ _ => rfl) ?_
          refine pr_i2 (a := x1) (b := x2) rfl rfl ?_
          show pr K K d tb_M91 299 [(0, vi x0), (1, vi x1), (2, vi x2)] [vi (imi x1 x2)] s _
          have h8 : i32 (imi x1 x2) := i32_in _
          refine pr_reti rfl rfl ?_
          exact .inl ⟨_, imi x1 x2, _, rfl, ⟨rfl, h8⟩, rfl, hE⟩
        · refine mq_f h7 ?_
          by_cases h9 : x0 = 47
          · refine mq_t h9 ?_
            refine pr_lsw rfl (by decide) hx0 (by rw [h9]) rfl ?_
            refine pr_n (pc2 := 305) (lv2 := [(0, vi x0), (1, vi x1), (2, vi x2)]) (st2 := [vi x2]) 1 (fun _ _ => rfl) ?_
            by_cases h10 : x2 ≠ 0
            · refine mq_t h10 ?_
              refine pr_if1t rfl rfl hx2 h10 ?_
              refine pr_n (pc2 := 314) (lv2 := [(0, vi x0), (1, vi x1), (2, vi x2)]) (st2 := [vi x2, vi x1]) 2 (fun _ _ => rfl) ?_
              refine pr_idiv (a := x1) (b := x2) rfl ?_
              show pr K K d tb_M91 315 [(0, vi x0), (1, vi x1), (2, vi x2)] [vi (dv0 x1 x2)] s _
              refine pr_reti rfl rfl ?_
              exact .inl ⟨_, dv0 x1 x2, _, rfl, ⟨rfl, (i32_in _)⟩, rfl, hE⟩
            · refine mq_f h10 ?_
              refine pr_if1f rfl rfl hx2 h10 ?_
              refine pr_n (pc2 := 315) (lv2 := [(0, vi x0), (1, vi x1), (2, vi x2)]) (st2 := [vi 0]) 2 (fun _ _ => rfl) ?_
              refine pr_end (fun _ _ => rfl) ?_
              exact .inl ⟨_, 0, _, rfl, ⟨rfl, (i32_n rfl)⟩, rfl, hE⟩
          · refine mq_f h9 ?_
            by_cases h11 : x0 = 60
            · refine mq_t h11 ?_
              refine pr_lsw rfl (by decide) hx0 (by rw [h11]) rfl ?_
              refine pr_n (pc2 := 224) (lv2 := [(0, vi x0), (1, vi x1), (2, vi x2)]) (st2 := [vi x2, vi x1]) 2 (fun _ _ => rfl) ?_
              by_cases h12 : x2 ≤ x1
              · refine mq_t h12 ?_
                refine pr_if2t rfl rfl hx1 hx2 h12 ?_
                refine pr_n (pc2 := 232) (lv2 := [(0, vi x0), (1, vi x1), (2, vi x2)]) (st2 := [vi 0]) 1 (fun _ _ => rfl) ?_
                refine pr_s0 (args := [vi 0]) (rest := []) rfl rfl rfl (Nat.le_of_ble_eq_true rfl) rfl (h_92 s t 0 hE (by decide)) v_tr0 ?_
                rintro _ s13 ⟨rfl, hz13⟩ hE13
                show pr K K d tb_M91 235 [(0, vi x0), (1, vi x1), (2, vi x2)] [vi 0] s13 _
                refine pr_end (fun _ _ => rfl) ?_
                exact .inl ⟨_, 0, _, rfl, ⟨rfl, (i32_n rfl)⟩, rfl, hE13⟩
              · refine mq_f h12 ?_
                refine pr_if2f rfl rfl hx1 hx2 h12 ?_
                refine pr_n (pc2 := 232) (lv2 := [(0, vi x0), (1, vi x1), (2, vi x2)]) (st2 := [vi 1]) 2 (fun _ _ => rfl) ?_
                refine pr_s0 (args := [vi 1]) (rest := []) rfl rfl rfl (Nat.le_of_ble_eq_true rfl) rfl (h_92 s t 1 hE (by decide)) v_tr1 ?_
                rintro _ s14 ⟨rfl, hz14⟩ hE14
                show pr K K d tb_M91 235 [(0, vi x0), (1, vi x1), (2, vi x2)] [vi 1] s14 _
                refine pr_end (fun _ _ => rfl) ?_
                exact .inl ⟨_, 1, _, rfl, ⟨rfl, (i32_n rfl)⟩, rfl, hE14⟩
            · refine mq_f h11 ?_
              by_cases h15 : x0 = 62
              · refine mq_t h15 ?_
                refine pr_lsw rfl (by decide) hx0 (by rw [h15]) rfl ?_
                refine pr_n (pc2 := 252) (lv2 := [(0, vi x0), (1, vi x1), (2, vi x2)]) (st2 := [vi x2, vi x1]) 2 (fun _ _ => rfl) ?_
                by_cases h16 : x1 ≤ x2
                · refine mq_t h16 ?_
                  refine pr_if2t rfl rfl hx1 hx2 h16 ?_
                  refine pr_n (pc2 := 260) (lv2 := [(0, vi x0), (1, vi x1), (2, vi x2)]) (st2 := [vi 0]) 1 (fun _ _ => rfl) ?_
                  refine pr_s0 (args := [vi 0]) (rest := []) rfl rfl rfl (Nat.le_of_ble_eq_true rfl) rfl (h_92 s t 0 hE (by decide)) v_tr0 ?_
                  rintro _ s17 ⟨rfl, hz17⟩ hE17
                  show pr K K d tb_M91 263 [(0, vi x0), (1, vi x1), (2, vi x2)] [vi 0] s17 _
                  refine pr_end (fun _ _ => rfl) ?_
                  exact .inl ⟨_, 0, _, rfl, ⟨rfl, (i32_n rfl)⟩, rfl, hE17⟩
                · refine mq_f h16 ?_
                  refine pr_if2f rfl rfl hx1 hx2 h16 ?_
                  refine pr_n (pc2 := 260) (lv2 := [(0, vi x0), (1, vi x1), (2, vi x2)]) (st2 := [vi 1]) 2 (fun _ _ => rfl) ?_
                  refine pr_s0 (args := [vi 1]) (rest := []) rfl rfl rfl (Nat.le_of_ble_eq_true rfl) rfl (h_92 s t 1 hE (by decide)) v_tr1 ?_
                  rintro _ s18 ⟨rfl, hz18⟩ hE18
                  show pr K K d tb_M91 263 [(0, vi x0), (1, vi x1), (2, vi x2)] [vi 1] s18 _
                  refine pr_end (fun _ _ => rfl) ?_
                  exact .inl ⟨_, 1, _, rfl, ⟨rfl, (i32_n rfl)⟩, rfl, hE18⟩
              · refine mq_f h15 ?_
                by_cases h19 : x0 = 94
                · refine mq_t h19 ?_
                  refine pr_lsw rfl (by decide) hx0 (by rw [h19]) rfl ?_
                  refine pr_n (pc2 := 188) (lv2 := [(0, vi x0), (1, vi x1), (2, vi x2)]) (st2 := [vi x2, vi x1]) 2 (fun _ _ => rfl) ?_
                  refine pr_i2 (a := x1) (b := x2) rfl rfl ?_
                  show pr K K d tb_M91 189 [(0, vi x0), (1, vi x1), (2, vi x2)] [vi (ixo x1 x2)] s _
                  have h20 : i32 (ixo x1 x2) := i32_in _
                  refine pr_reti rfl rfl ?_
                  exact .inl ⟨_, ixo x1 x2, _, rfl, ⟨rfl, h20⟩, rfl, hE⟩
                · refine mq_f h19 ?_
                  by_cases h21 : x0 = 124
                  · refine mq_t h21 ?_
                    refine pr_lsw rfl (by decide) hx0 (by rw [h21]) rfl ?_
                    refine pr_n (pc2 := 184) (lv2 := [(0, vi x0), (1, vi x1), (2, vi x2)]) (st2 := [vi x2, vi x1]) 2 (fun _ _ => rfl) ?_
                    refine pr_i2 (a := x1) (b := x2) rfl rfl ?_
                    show pr K K d tb_M91 185 [(0, vi x0), (1, vi x1), (2, vi x2)] [vi (ior x1 x2)] s _
                    have h22 : i32 (ior x1 x2) := i32_in _
                    refine pr_reti rfl rfl ?_
                    exact .inl ⟨_, ior x1 x2, _, rfl, ⟨rfl, h22⟩, rfl, hE⟩
                  · refine mq_f h21 ?_
                    by_cases h23 : x0 = 8509
                    · refine mq_t h23 ?_
                      refine pr_lsw rfl (by decide) hx0 (by rw [h23]) rfl ?_
                      refine pr_n (pc2 := 210) (lv2 := [(0, vi x0), (1, vi x1), (2, vi x2)]) (st2 := [vi x2, vi x1]) 2 (fun _ _ => rfl) ?_
                      by_cases h24 : x1 = x2
                      · refine mq_t h24 ?_
                        refine pr_if2t rfl rfl hx1 hx2 h24 ?_
                        refine pr_n (pc2 := 218) (lv2 := [(0, vi x0), (1, vi x1), (2, vi x2)]) (st2 := [vi 0]) 1 (fun _ _ => rfl) ?_
                        refine pr_s0 (args := [vi 0]) (rest := []) rfl rfl rfl (Nat.le_of_ble_eq_true rfl) rfl (h_92 s t 0 hE (by decide)) v_tr0 ?_
                        rintro _ s25 ⟨rfl, hz25⟩ hE25
                        show pr K K d tb_M91 221 [(0, vi x0), (1, vi x1), (2, vi x2)] [vi 0] s25 _
                        refine pr_end (fun _ _ => rfl) ?_
                        exact .inl ⟨_, 0, _, rfl, ⟨rfl, (i32_n rfl)⟩, rfl, hE25⟩
                      · refine mq_f h24 ?_
                        refine pr_if2f rfl rfl hx1 hx2 h24 ?_
                        refine pr_n (pc2 := 218) (lv2 := [(0, vi x0), (1, vi x1), (2, vi x2)]) (st2 := [vi 1]) 2 (fun _ _ => rfl) ?_
                        refine pr_s0 (args := [vi 1]) (rest := []) rfl rfl rfl (Nat.le_of_ble_eq_true rfl) rfl (h_92 s t 1 hE (by decide)) v_tr1 ?_
                        rintro _ s26 ⟨rfl, hz26⟩ hE26
                        show pr K K d tb_M91 221 [(0, vi x0), (1, vi x1), (2, vi x2)] [vi 1] s26 _
                        refine pr_end (fun _ _ => rfl) ?_
                        exact .inl ⟨_, 1, _, rfl, ⟨rfl, (i32_n rfl)⟩, rfl, hE26⟩
                    · refine mq_f h23 ?_
                      by_cases h27 : x0 = 9766
                      · refine mq_t h27 ?_
                        refine pr_lsw rfl (by decide) hx0 (by rw [h27]) rfl ?_
                        refine pr_n (pc2 := 166) (lv2 := [(0, vi x0), (1, vi x1), (2, vi x2)]) (st2 := [vi x1]) 1 (fun _ _ => rfl) ?_
                        by_cases h28 : x1 = 0
                        · refine mq_t h28 ?_
                          refine pr_if1t rfl rfl hx1 h28 ?_
                          refine pr_n (pc2 := 178) (lv2 := [(0, vi x0), (1, vi x1), (2, vi x2)]) (st2 := [vi 0]) 1 (fun _ _ => rfl) ?_
                          refine pr_s0 (args := [vi 0]) (rest := []) rfl rfl rfl (Nat.le_of_ble_eq_true rfl) rfl (h_92 s t 0 hE (by decide)) v_tr0 ?_
                          rintro _ s29 ⟨rfl, hz29⟩ hE29
                          show pr K K d tb_M91 181 [(0, vi x0), (1, vi x1), (2, vi x2)] [vi 0] s29 _
                          refine pr_end (fun _ _ => rfl) ?_
                          exact .inl ⟨_, 0, _, rfl, ⟨rfl, (i32_n rfl)⟩, rfl, hE29⟩
                        · refine mq_f h28 ?_
                          refine pr_if1f rfl rfl hx1 h28 ?_
                          refine pr_n (pc2 := 170) (lv2 := [(0, vi x0), (1, vi x1), (2, vi x2)]) (st2 := [vi x2]) 1 (fun _ _ => rfl) ?_
                          by_cases h30 : x2 = 0
                          · refine mq_t h30 ?_
                            refine pr_if1t rfl rfl hx2 h30 ?_
                            refine pr_n (pc2 := 178) (lv2 := [(0, vi x0), (1, vi x1), (2, vi x2)]) (st2 := [vi 0]) 1 (fun _ _ => rfl) ?_
                            refine pr_s0 (args := [vi 0]) (rest := []) rfl rfl rfl (Nat.le_of_ble_eq_true rfl) rfl (h_92 s t 0 hE (by decide)) v_tr0 ?_
                            rintro _ s31 ⟨rfl, hz31⟩ hE31
                            show pr K K d tb_M91 181 [(0, vi x0), (1, vi x1), (2, vi x2)] [vi 0] s31 _
                            refine pr_end (fun _ _ => rfl) ?_
                            exact .inl ⟨_, 0, _, rfl, ⟨rfl, (i32_n rfl)⟩, rfl, hE31⟩
                          · refine mq_f h30 ?_
                            refine pr_if1f rfl rfl hx2 h30 ?_
                            refine pr_n (pc2 := 178) (lv2 := [(0, vi x0), (1, vi x1), (2, vi x2)]) (st2 := [vi 1]) 2 (fun _ _ => rfl) ?_
                            refine pr_s0 (args := [vi 1]) (rest := []) rfl rfl rfl (Nat.le_of_ble_eq_true rfl) rfl (h_92 s t 1 hE (by decide)) v_tr1 ?_
                            rintro _ s32 ⟨rfl, hz32⟩ hE32
                            show pr K K d tb_M91 181 [(0, vi x0), (1, vi x1), (2, vi x2)] [vi 1] s32 _
                            refine pr_end (fun _ _ => rfl) ?_
                            exact .inl ⟨_, 1, _, rfl, ⟨rfl, (i32_n rfl)⟩, rfl, hE32⟩
                      · refine mq_f h27 ?_
                        by_cases h33 : x0 = 15420
                        · refine mq_t h33 ?_
                          refine pr_lsw rfl (by decide) hx0 (by rw [h33]) rfl ?_
                          refine pr_n (pc2 := 282) (lv2 := [(0, vi x0), (1, vi x1), (2, vi x2)]) (st2 := [vi 31, vi x2, vi x1]) 3 (fun _ _ => rfl) ?_
                          refine pr_i2 (a := x2) (b := 31) rfl rfl ?_
                          show pr K K d tb_M91 283 [(0, vi x0), (1, vi x1), (2, vi x2)] [vi (ian x2 31), vi x1] s _
                          have h34 : i32 (ian x2 31) := i32_in _
                          refine pr_i2 (a := x1) (b := ian x2 31) rfl rfl ?_
                          show pr K K d tb_M91 284 [(0, vi x0), (1, vi x1), (2, vi x2)] [vi (isl x1 (ian x2 31))] s _
                          have h35 : i32 (isl x1 (ian x2 31)) := i32_in _
                          refine pr_reti rfl rfl ?_
                          exact .inl ⟨_, isl x1 (ian x2 31), _, rfl, ⟨rfl, h35⟩, rfl, hE⟩
                        · refine mq_f h33 ?_
                          by_cases h36 : x0 = 15421
                          · refine mq_t h36 ?_
                            refine pr_lsw rfl (by decide) hx0 (by rw [h36]) rfl ?_
                            refine pr_n (pc2 := 238) (lv2 := [(0, vi x0), (1, vi x1), (2, vi x2)]) (st2 := [vi x2, vi x1]) 2 (fun _ _ => rfl) ?_
                            by_cases h37 : x2 < x1
                            · refine mq_t h37 ?_
                              refine pr_if2t rfl rfl hx1 hx2 h37 ?_
                              refine pr_n (pc2 := 246) (lv2 := [(0, vi x0), (1, vi x1), (2, vi x2)]) (st2 := [vi 0]) 1 (fun _ _ => rfl) ?_
                              refine pr_s0 (args := [vi 0]) (rest := []) rfl rfl rfl (Nat.le_of_ble_eq_true rfl) rfl (h_92 s t 0 hE (by decide)) v_tr0 ?_
                              rintro _ s38 ⟨rfl, hz38⟩ hE38
                              show pr K K d tb_M91 249 [(0, vi x0), (1, vi x1), (2, vi x2)] [vi 0] s38 _
                              refine pr_end (fun _ _ => rfl) ?_
                              exact .inl ⟨_, 0, _, rfl, ⟨rfl, (i32_n rfl)⟩, rfl, hE38⟩
                            · refine mq_f h37 ?_
                              refine pr_if2f rfl rfl hx1 hx2 h37 ?_
                              refine pr_n (pc2 := 246) (lv2 := [(0, vi x0), (1, vi x1), (2, vi x2)]) (st2 := [vi 1]) 2 (fun _ _ => rfl) ?_
                              refine pr_s0 (args := [vi 1]) (rest := []) rfl rfl rfl (Nat.le_of_ble_eq_true rfl) rfl (h_92 s t 1 hE (by decide)) v_tr1 ?_
                              rintro _ s39 ⟨rfl, hz39⟩ hE39
                              show pr K K d tb_M91 249 [(0, vi x0), (1, vi x1), (2, vi x2)] [vi 1] s39 _
                              refine pr_end (fun _ _ => rfl) ?_
                              exact .inl ⟨_, 1, _, rfl, ⟨rfl, (i32_n rfl)⟩, rfl, hE39⟩
                          · refine mq_f h36 ?_
                            by_cases h40 : x0 = 15677
                            · refine mq_t h40 ?_
                              refine pr_lsw rfl (by decide) hx0 (by rw [h40]) rfl ?_
                              refine pr_n (pc2 := 196) (lv2 := [(0, vi x0), (1, vi x1), (2, vi x2)]) (st2 := [vi x2, vi x1]) 2 (fun _ _ => rfl) ?_
                              by_cases h41 : x1 ≠ x2
                              · refine mq_t h41 ?_
                                refine pr_if2t rfl rfl hx1 hx2 h41 ?_
                                refine pr_n (pc2 := 204) (lv2 := [(0, vi x0), (1, vi x1), (2, vi x2)]) (st2 := [vi 0]) 1 (fun _ _ => rfl) ?_
                                refine pr_s0 (args := [vi 0]) (rest := []) rfl rfl rfl (Nat.le_of_ble_eq_true rfl) rfl (h_92 s t 0 hE (by decide)) v_tr0 ?_
                                rintro _ s42 ⟨rfl, hz42⟩ hE42
                                show pr K K d tb_M91 207 [(0, vi x0), (1, vi x1), (2, vi x2)] [vi 0] s42 _
                                refine pr_end (fun _ _ => rfl) ?_
                                exact .inl ⟨_, 0, _, rfl, ⟨rfl, (i32_n rfl)⟩, rfl, hE42⟩
                              · refine mq_f h41 ?_
                                refine pr_if2f rfl rfl hx1 hx2 h41 ?_
                                refine pr_n (pc2 := 204) (lv2 := [(0, vi x0), (1, vi x1), (2, vi x2)]) (st2 := [vi 1]) 2 (fun _ _ => rfl) ?_
                                refine pr_s0 (args := [vi 1]) (rest := []) rfl rfl rfl (Nat.le_of_ble_eq_true rfl) rfl (h_92 s t 1 hE (by decide)) v_tr1 ?_
                                rintro _ s43 ⟨rfl, hz43⟩ hE43
                                show pr K K d tb_M91 207 [(0, vi x0), (1, vi x1), (2, vi x2)] [vi 1] s43 _
                                refine pr_end (fun _ _ => rfl) ?_
                                exact .inl ⟨_, 1, _, rfl, ⟨rfl, (i32_n rfl)⟩, rfl, hE43⟩
                            · refine mq_f h40 ?_
                              by_cases h44 : x0 = 15933
                              · refine mq_t h44 ?_
                                refine pr_lsw rfl (by decide) hx0 (by rw [h44]) rfl ?_
                                refine pr_n (pc2 := 266) (lv2 := [(0, vi x0), (1, vi x1), (2, vi x2)]) (st2 := [vi x2, vi x1]) 2 (fun _ _ => rfl) ?_
                                by_cases h45 : x1 < x2
                                · refine mq_t h45 ?_
                                  refine pr_if2t rfl rfl hx1 hx2 h45 ?_
                                  refine pr_n (pc2 := 274) (lv2 := [(0, vi x0), (1, vi x1), (2, vi x2)]) (st2 := [vi 0]) 1 (fun _ _ => rfl) ?_
                                  refine pr_s0 (args := [vi 0]) (rest := []) rfl rfl rfl (Nat.le_of_ble_eq_true rfl) rfl (h_92 s t 0 hE (by decide)) v_tr0 ?_
                                  rintro _ s46 ⟨rfl, hz46⟩ hE46
                                  show pr K K d tb_M91 277 [(0, vi x0), (1, vi x1), (2, vi x2)] [vi 0] s46 _
                                  refine pr_end (fun _ _ => rfl) ?_
                                  exact .inl ⟨_, 0, _, rfl, ⟨rfl, (i32_n rfl)⟩, rfl, hE46⟩
                                · refine mq_f h45 ?_
                                  refine pr_if2f rfl rfl hx1 hx2 h45 ?_
                                  refine pr_n (pc2 := 274) (lv2 := [(0, vi x0), (1, vi x1), (2, vi x2)]) (st2 := [vi 1]) 2 (fun _ _ => rfl) ?_
                                  refine pr_s0 (args := [vi 1]) (rest := []) rfl rfl rfl (Nat.le_of_ble_eq_true rfl) rfl (h_92 s t 1 hE (by decide)) v_tr1 ?_
                                  rintro _ s47 ⟨rfl, hz47⟩ hE47
                                  show pr K K d tb_M91 277 [(0, vi x0), (1, vi x1), (2, vi x2)] [vi 1] s47 _
                                  refine pr_end (fun _ _ => rfl) ?_
                                  exact .inl ⟨_, 1, _, rfl, ⟨rfl, (i32_n rfl)⟩, rfl, hE47⟩
                              · refine mq_f h44 ?_
                                by_cases h48 : x0 = 15934
                                · refine mq_t h48 ?_
                                  refine pr_lsw rfl (by decide) hx0 (by rw [h48]) rfl ?_
                                  refine pr_n (pc2 := 289) (lv2 := [(0, vi x0), (1, vi x1), (2, vi x2)]) (st2 := [vi 31, vi x2, vi x1]) 3 (fun _ _ => rfl) ?_
                                  refine pr_i2 (a := x2) (b := 31) rfl rfl ?_
                                  show pr K K d tb_M91 290 [(0, vi x0), (1, vi x1), (2, vi x2)] [vi (ian x2 31), vi x1] s _
                                  have h49 : i32 (ian x2 31) := i32_in _
                                  refine pr_i2 (a := x1) (b := ian x2 31) rfl rfl ?_
                                  show pr K K d tb_M91 291 [(0, vi x0), (1, vi x1), (2, vi x2)] [vi (isr x1 (ian x2 31))] s _
                                  have h50 : i32 (isr x1 (ian x2 31)) := i32_in _
                                  refine pr_reti rfl rfl ?_
                                  exact .inl ⟨_, isr x1 (ian x2 31), _, rfl, ⟨rfl, h50⟩, rfl, hE⟩
                                · refine mq_f h48 ?_
                                  by_cases h51 : x0 = 31868
                                  · refine mq_t h51 ?_
                                    refine pr_lsw rfl (by decide) hx0 (by rw [h51]) rfl ?_
                                    refine pr_n (pc2 := 149) (lv2 := [(0, vi x0), (1, vi x1), (2, vi x2)]) (st2 := [vi x1]) 1 (fun _ _ => rfl) ?_
                                    by_cases h52 : x1 ≠ 0
                                    · refine mq_t h52 ?_
                                      refine pr_if1t rfl rfl hx1 h52 ?_
                                      refine pr_n (pc2 := 161) (lv2 := [(0, vi x0), (1, vi x1), (2, vi x2)]) (st2 := [vi 1]) 2 (fun _ _ => rfl) ?_
                                      refine pr_s0 (args := [vi 1]) (rest := []) rfl rfl rfl (Nat.le_of_ble_eq_true rfl) rfl (h_92 s t 1 hE (by decide)) v_tr1 ?_
                                      rintro _ s53 ⟨rfl, hz53⟩ hE53
                                      show pr K K d tb_M91 164 [(0, vi x0), (1, vi x1), (2, vi x2)] [vi 1] s53 _
                                      refine pr_end (fun _ _ => rfl) ?_
                                      exact .inl ⟨_, 1, _, rfl, ⟨rfl, (i32_n rfl)⟩, rfl, hE53⟩
                                    · refine mq_f h52 ?_
                                      refine pr_if1f rfl rfl hx1 h52 ?_
                                      refine pr_n (pc2 := 153) (lv2 := [(0, vi x0), (1, vi x1), (2, vi x2)]) (st2 := [vi x2]) 1 (fun _ _ => rfl) ?_
                                      by_cases h54 : x2 = 0
                                      · refine mq_t h54 ?_
                                        refine pr_if1t rfl rfl hx2 h54 ?_
                                        refine pr_n (pc2 := 161) (lv2 := [(0, vi x0), (1, vi x1), (2, vi x2)]) (st2 := [vi 0]) 1 (fun _ _ => rfl) ?_
                                        refine pr_s0 (args := [vi 0]) (rest := []) rfl rfl rfl (Nat.le_of_ble_eq_true rfl) rfl (h_92 s t 0 hE (by decide)) v_tr0 ?_
                                        rintro _ s55 ⟨rfl, hz55⟩ hE55
                                        show pr K K d tb_M91 164 [(0, vi x0), (1, vi x1), (2, vi x2)] [vi 0] s55 _
                                        refine pr_end (fun _ _ => rfl) ?_
                                        exact .inl ⟨_, 0, _, rfl, ⟨rfl, (i32_n rfl)⟩, rfl, hE55⟩
                                      · refine mq_f h54 ?_
                                        refine pr_if1f rfl rfl hx2 h54 ?_
                                        refine pr_n (pc2 := 161) (lv2 := [(0, vi x0), (1, vi x1), (2, vi x2)]) (st2 := [vi 1]) 2 (fun _ _ => rfl) ?_
                                        refine pr_s0 (args := [vi 1]) (rest := []) rfl rfl rfl (Nat.le_of_ble_eq_true rfl) rfl (h_92 s t 1 hE (by decide)) v_tr1 ?_
                                        rintro _ s56 ⟨rfl, hz56⟩ hE56
                                        show pr K K d tb_M91 164 [(0, vi x0), (1, vi x1), (2, vi x2)] [vi 1] s56 _
                                        refine pr_end (fun _ _ => rfl) ?_
                                        exact .inl ⟨_, 1, _, rfl, ⟨rfl, (i32_n rfl)⟩, rfl, hE56⟩
                                  · refine mq_f h51 ?_
                                    refine pr_lsw rfl (by decide) hx0 (ls_no _ ⟨by omega, by omega, by omega, by omega, by omega, by omega, by omega, by omega, by omega, by omega, by omega, by omega, by omega, by omega, by omega, by omega, by omega, trivial⟩) rfl ?_
                                    refine pr_n (pc2 := 317) (lv2 := [(0, vi x0), (1, vi x1), (2, vi x2)]) (st2 := [vi x2]) 1 (fun _ _ => rfl) ?_
                                    by_cases h57 : x2 ≠ 0
                                    · refine mq_t h57 ?_
                                      refine pr_if1t rfl rfl hx2 h57 ?_
                                      refine pr_n (pc2 := 326) (lv2 := [(0, vi x0), (1, vi x1), (2, vi x2)]) (st2 := [vi x2, vi x1]) 2 (fun _ _ => rfl) ?_
                                      refine pr_irem (a := x1) (b := x2) rfl ?_
                                      show pr K K d tb_M91 327 [(0, vi x0), (1, vi x1), (2, vi x2)] [vi (rmw x1 x2)] s _
                                      refine pr_reti rfl rfl ?_
                                      exact .inl ⟨_, rmw x1 x2, _, rfl, ⟨rfl, (i32_in _)⟩, rfl, hE⟩
                                    · refine mq_f h57 ?_
                                      refine pr_if1f rfl rfl hx2 h57 ?_
                                      refine pr_n (pc2 := 327) (lv2 := [(0, vi x0), (1, vi x1), (2, vi x2)]) (st2 := [vi 0]) 2 (fun _ _ => rfl) ?_
                                      refine pr_end (fun _ _ => rfl) ?_
                                      exact .inl ⟨_, 0, _, rfl, ⟨rfl, (i32_n rfl)⟩, rfl, hE⟩
set_option maxHeartbeats 20000000 in
set_option maxRecDepth 100000 in
theorem wm84 {K d C : Nat} : wT84 K (d + 1) C := by
  intro s t x1 hE hx1
  have hC : C = 99 ∨ C = 115 := hE.1
  refine pcr_of (M := tb_M84) rfl ?_
  show pr K K d tb_M84 0 [(0, .ref 142), (1, vi x1)] [] s _
  rw [wG_84]
  unfold wM84
  refine pr_n (pc2 := 1) (lv2 := [(0, .ref 142), (1, vi x1)]) (st2 := [vi x1]) 1 (fun _ _ => rfl) ?_
  by_cases h1 : x1 < 0
  · refine mq_t h1 ?_
    refine pr_if1t rfl rfl hx1 h1 ?_
    refine pr_end (fun _ _ => rfl) ?_
    exact .inl ⟨_, 0, _, rfl, ⟨rfl, rfl⟩, rfl, hE⟩
  · refine mq_f h1 ?_
    refine pr_if1f rfl rfl hx1 h1 ?_
    refine pr_n (pc2 := 8) (lv2 := [(0, .ref 142), (1, vi x1)]) (st2 := [vi 2000, vi x1]) 2 (fun _ _ => rfl) ?_
    by_cases h2 : 2000 ≤ x1
    · refine mq_t h2 ?_
      refine pr_if2t rfl rfl hx1 (i32_n rfl) h2 ?_
      refine pr_end (fun _ _ => rfl) ?_
      exact .inl ⟨_, 0, _, rfl, ⟨rfl, rfl⟩, rfl, hE⟩
    · refine mq_f h2 ?_
      refine pr_if2f rfl rfl hx1 (i32_n rfl) h2 ?_
      refine pr_n (pc2 := 12) (lv2 := [(0, .ref 142), (1, vi x1)]) (st2 := [.ref 142]) 1 (fun _ _ => rfl) ?_
      refine pr_gE (k2 := 142) (v := vi (t 142 6)) hE rfl rfl rfl (by decide) rfl rfl rfl fun h3 => ?_
      have h3 : i32 (t 142 6) := h3
      by_cases h4 : t 142 6 < 0
      · refine mq_t h4 ?_
        refine pr_if1t rfl rfl h3 h4 ?_
        refine pr_end (fun _ _ => rfl) ?_
        exact .inl ⟨_, 0, _, rfl, ⟨rfl, rfl⟩, rfl, hE⟩
      · refine mq_f h4 ?_
        refine pr_if1f rfl rfl h3 h4 ?_
        refine pr_n (pc2 := 19) (lv2 := [(0, .ref 142), (1, vi x1)]) (st2 := [.ref 142]) 1 (fun _ _ => rfl) ?_
        refine pr_gE (k2 := 142) (v := vi (t 142 6)) hE rfl rfl rfl (by decide) rfl rfl rfl fun h5 => ?_
        have h5 : i32 (t 142 6) := h5
        refine pr_n (pc2 := 25) (lv2 := [(0, .ref 142), (1, vi x1)]) (st2 := [vi 2000, vi (t 142 6)]) 1 (fun _ _ => rfl) ?_
        by_cases h6 : 2000 ≤ t 142 6
        · refine mq_t h6 ?_
          refine pr_if2t rfl rfl h5 (i32_n rfl) h6 ?_
          refine pr_end (fun _ _ => rfl) ?_
          exact .inl ⟨_, 0, _, rfl, ⟨rfl, rfl⟩, rfl, hE⟩
        · refine mq_f h6 ?_
          refine pr_if2f rfl rfl h5 (i32_n rfl) h6 ?_
          refine pr_n (pc2 := 29) (lv2 := [(0, .ref 142), (1, vi x1)]) (st2 := [.ref 142]) 1 (fun _ _ => rfl) ?_
          refine pr_get (v := .ref 147) rfl rfl rfl (by decide) (rv_ref (hE.2.1 142 5 147 rfl)) fun _ => ?_
          refine pr_n (pc2 := 33) (lv2 := [(0, .ref 142), (1, vi x1)]) (st2 := [.ref 142, .ref 147]) 1 (fun _ _ => rfl) ?_
          refine pr_gE (k2 := 142) (v := vi (t 142 6)) hE rfl rfl rfl (by decide) rfl rfl rfl fun h7 => ?_
          have h7 : i32 (t 142 6) := h7
          refine pr_n (pc2 := 37) (lv2 := [(0, .ref 142), (1, vi x1)]) (st2 := [vi x1, vi (t 142 6), .ref 147]) 1 (fun _ _ => rfl) ?_
          refine pr_sE (k2 := 147) (a := t 142 6) (z := x1) hE rfl (by decide) rfl rfl h7 (by decide) rfl (show i32 (x1) from hx1) (n0 rfl (by omega) (by omega)) rfl rfl (fun e => absurd e.1 (by decide)) (fun _ => trivial) fun h8 h9 s10 hE10 => ?_
          refine pr_n (pc2 := 40) (lv2 := [(0, .ref 142), (1, vi x1)]) (st2 := [.ref 142, .ref 142]) 2 (fun _ _ => rfl) ?_
          refine pr_gE (k2 := 142) (v := vi (t 142 6)) hE10 rfl rfl rfl (by decide) rfl rfl rfl fun h11 => ?_
          have h11 : i32 (t 142 6) := h11
          refine pr_n (pc2 := 44) (lv2 := [(0, .ref 142), (1, vi x1)]) (st2 := [vi 1, vi (t 142 6), .ref 142]) 1 (fun _ _ => rfl) ?_
          refine pr_i2 (a := t 142 6) (b := 1) rfl rfl ?_
          show pr K K d tb_M84 45 [(0, .ref 142), (1, vi x1)] [vi (ipl (t 142 6) 1), .ref 142] s10 _
          have h12 : i32 (ipl (t 142 6) 1) := i32_in _
          refine pr_pE (k2 := 142) (z := ipl (t 142 6) 1) hE10 rfl rfl rfl rfl (by decide) rfl (by decide) rfl (show i32 (ipl (t 142 6) 1) from h12) (hf_int' _) rfl rfl rfl (fun e => absurd e.2 (by decide)) (fun _ => trivial) fun s13 hE13 => ?_
          refine pr_end (fun _ _ => rfl) ?_
          exact .inl ⟨_, 0, _, rfl, ⟨rfl, rfl⟩, rfl, hE13⟩
set_option maxHeartbeats 20000000 in
set_option maxRecDepth 100000 in
theorem wm83 {K d C : Nat} (h_67 : wT67 K d C) (h_84 : wT84 K d C) : wT83 K (d + 1) C := by
  intro s t x1 x2 hE hx1 hx2
  have hC : C = 99 ∨ C = 115 := hE.1
  refine pcr_of (M := tb_M83) rfl ?_
  show pr K K d tb_M83 0 [(0, .ref 142), (1, vi x1), (2, vi x2)] [] s _
  rw [wG_83]
  unfold wM83
  refine pr_n (pc2 := 1) (lv2 := [(0, .ref 142), (1, vi x1), (2, vi x2)]) (st2 := [.ref 142]) 1 (fun _ _ => rfl) ?_
  refine pr_get (v := .ref C) rfl rfl rfl (by decide) (rv_ref (show s.1 142 0 = ((C : Nat) : Int) from hE.2.2.1)) fun _ => ?_
  refine pr_n (pc2 := 5) (lv2 := [(0, .ref 142), (1, vi x1), (2, vi x2)]) (st2 := [vi x1, .ref C]) 1 (fun _ _ => rfl) ?_
  refine pr_s1 (args := [vi x1]) (rest := []) rfl rfl rfl (TK0 hC) (Nat.le_of_ble_eq_true rfl) rfl (h_67 s t x1 hE hx1) v_hsz ?_
  rintro _ s1 ⟨rfl, hz1⟩ hE1
  show pr K K d tb_M83 8 [(0, .ref 142), (1, vi x1), (2, vi x2)] [vi (hsz t x1)] s1 _
  by_cases h2 : hsz t x1 = 0
  · refine mq_t h2 ?_
    refine pr_if1t rfl rfl (i32_z hz1) h2 ?_
    refine pr_end (fun _ _ => rfl) ?_
    exact .inl ⟨_, 0, _, rfl, ⟨rfl, rfl⟩, rfl, hE1⟩
  · refine mq_f h2 ?_
    refine pr_if1f rfl rfl (i32_z hz1) h2 ?_
    refine pr_n (pc2 := 12) (lv2 := [(0, .ref 142), (1, vi x1), (2, vi x2)]) (st2 := [.ref 142]) 1 (fun _ _ => rfl) ?_
    refine pr_get (v := .ref 143) rfl rfl rfl (by decide) (rv_ref (hE1.2.1 142 1 143 rfl)) fun _ => ?_
    refine pr_n (pc2 := 17) (lv2 := [(0, .ref 142), (1, vi x1), (2, vi x2)]) (st2 := [vi x2, vi x1, .ref 143]) 2 (fun _ _ => rfl) ?_
    refine pr_sE (k2 := 143) (a := x1) (z := x2) hE1 rfl (by decide) rfl rfl hx1 (by decide) rfl (show i32 (x2) from hx2) (n0 rfl (by omega) (by omega)) rfl rfl (fun e => absurd e.1 (by decide)) (fun _ => trivial) fun h3 h4 s5 hE5 => ?_
    refine pr_n (pc2 := 19) (lv2 := [(0, .ref 142), (1, vi x1), (2, vi x2)]) (st2 := [.ref 142]) 1 (fun _ _ => rfl) ?_
    refine pr_get (v := .ref 144) rfl rfl rfl (by decide) (rv_ref (hE5.2.1 142 2 144 rfl)) fun _ => ?_
    refine pr_n (pc2 := 24) (lv2 := [(0, .ref 142), (1, vi x1), (2, vi x2)]) (st2 := [vi ((-1)), vi x1, .ref 144]) 2 (fun _ _ => rfl) ?_
    refine pr_sE (k2 := 144) (a := x1) (z := (-1)) hE5 rfl (by decide) rfl rfl hx1 (by decide) rfl (show i32 ((-1)) from (i32_n rfl)) (n0 rfl (by omega) (by omega)) rfl rfl (fun e => absurd e.1 (by decide)) (fun _ => trivial) fun h6 h7 s8 hE8 => ?_
    refine pr_n (pc2 := 27) (lv2 := [(0, .ref 142), (1, vi x1), (2, vi x2)]) (st2 := [vi x1, .ref 142]) 2 (fun _ _ => rfl) ?_
    refine pr_s1 (args := [vi x1]) (rest := []) rfl rfl rfl rfl (Nat.le_of_ble_eq_true rfl) rfl (h_84 s8 (up2 (up2 t 143 x1.toNat x2) 144 x1.toNat ((-1))) x1 hE8 hx1) v_psw ?_
    rintro _ s9 ⟨rfl, _⟩ hE9
    show pr K K d tb_M83 30 [(0, .ref 142), (1, vi x1), (2, vi x2)] [] s9 _
    refine pr_end (fun _ _ => rfl) ?_
    exact .inl ⟨_, 0, _, rfl, ⟨rfl, rfl⟩, rfl, hE9⟩
set_option maxHeartbeats 20000000 in
set_option maxRecDepth 100000 in
theorem wm88 {K d C : Nat} (h_67 : wT67 K d C) (h_84 : wT84 K d C) : wT88 K (d + 1) C := by
  intro s t x1 x2 hE hx1 hx2
  have hC : C = 99 ∨ C = 115 := hE.1
  refine pcr_of (M := tb_M88) rfl ?_
  show pr K K d tb_M88 0 [(0, .ref 142), (1, vi x1), (2, vi x2)] [] s _
  rw [wG_88]
  unfold wM88
  refine pr_n (pc2 := 1) (lv2 := [(0, .ref 142), (1, vi x1), (2, vi x2)]) (st2 := [.ref 142]) 1 (fun _ _ => rfl) ?_
  refine pr_get (v := .ref C) rfl rfl rfl (by decide) (rv_ref (show s.1 142 0 = ((C : Nat) : Int) from hE.2.2.1)) fun _ => ?_
  refine pr_n (pc2 := 5) (lv2 := [(0, .ref 142), (1, vi x1), (2, vi x2)]) (st2 := [vi x1, .ref C]) 1 (fun _ _ => rfl) ?_
  refine pr_s1 (args := [vi x1]) (rest := []) rfl rfl rfl (TK0 hC) (Nat.le_of_ble_eq_true rfl) rfl (h_67 s t x1 hE hx1) v_hsz ?_
  rintro _ s1 ⟨rfl, hz1⟩ hE1
  show pr K K d tb_M88 8 [(0, .ref 142), (1, vi x1), (2, vi x2)] [vi (hsz t x1)] s1 _
  by_cases h2 : hsz t x1 = 0
  · refine mq_t h2 ?_
    refine pr_if1t rfl rfl (i32_z hz1) h2 ?_
    refine pr_end (fun _ _ => rfl) ?_
    exact .inl ⟨_, 0, _, rfl, ⟨rfl, rfl⟩, rfl, hE1⟩
  · refine mq_f h2 ?_
    refine pr_if1f rfl rfl (i32_z hz1) h2 ?_
    refine pr_n (pc2 := 12) (lv2 := [(0, .ref 142), (1, vi x1), (2, vi x2)]) (st2 := [.ref 142]) 1 (fun _ _ => rfl) ?_
    refine pr_get (v := .ref 145) rfl rfl rfl (by decide) (rv_ref (hE1.2.1 142 3 145 rfl)) fun _ => ?_
    refine pr_n (pc2 := 17) (lv2 := [(0, .ref 142), (1, vi x1), (2, vi x2)]) (st2 := [vi x2, vi x1, .ref 145]) 2 (fun _ _ => rfl) ?_
    refine pr_sE (k2 := 145) (a := x1) (z := x2) hE1 rfl (by decide) rfl rfl hx1 (by decide) rfl (show i32 (x2) from hx2) (n0 rfl (by omega) (by omega)) rfl rfl (fun e => absurd e.1 (by decide)) (fun _ => trivial) fun h3 h4 s5 hE5 => ?_
    refine pr_n (pc2 := 20) (lv2 := [(0, .ref 142), (1, vi x1), (2, vi x2)]) (st2 := [.ref 142, .ref 142]) 2 (fun _ _ => rfl) ?_
    refine pr_gE (k2 := 142) (v := vi (t 142 13)) hE5 rfl rfl rfl (by decide) rfl rfl rfl fun h6 => ?_
    have h6 : 0 ≤ t 142 13 ∧ t 142 13 ≤ 1 := h6
    refine pr_n (pc2 := 24) (lv2 := [(0, .ref 142), (1, vi x1), (2, vi x2)]) (st2 := [.ref 142, vi (t 142 13), .ref 142]) 1 (fun _ _ => rfl) ?_
    refine pr_get (v := .ref 143) rfl rfl rfl (by decide) (rv_ref (hE5.2.1 142 1 143 rfl)) fun _ => ?_
    refine pr_n (pc2 := 28) (lv2 := [(0, .ref 142), (1, vi x1), (2, vi x2)]) (st2 := [vi x1, .ref 143, vi (t 142 13), .ref 142]) 1 (fun _ _ => rfl) ?_
    refine pr_aE (k2 := 143) (a := x1) (v := vi (t 143 x1.toNat)) hE5 rfl rfl rfl hx1 (by decide) rfl rfl rfl fun h8 h9 h7 => ?_
    have h7 : i32 (t 143 x1.toNat) := h7
    by_cases h10 : 0 ≤ t 143 x1.toNat
    · refine mq_t h10 ?_
      refine pr_if1t rfl rfl h7 h10 ?_
      refine pr_n (pc2 := 37) (lv2 := [(0, .ref 142), (1, vi x1), (2, vi x2)]) (st2 := [vi 0, vi (t 142 13), .ref 142]) 1 (fun _ _ => rfl) ?_
      refine pr_i2 (a := t 142 13) (b := 0) rfl rfl ?_
      show pr K K d tb_M88 38 [(0, .ref 142), (1, vi x1), (2, vi x2)] [vi (ior (t 142 13) 0), .ref 142] s5 _
      have h11 : i32 (ior (t 142 13) 0) := i32_in _
      refine pr_pE (k2 := 142) (z := ior (t 142 13) 0) hE5 rfl rfl rfl rfl (by decide) rfl (by decide) rfl (show 0 ≤ ior (t 142 13) 0 ∧ ior (t 142 13) 0 ≤ 1 from (ior_z h6 (by decide))) (fit_i (.inr (.inl rfl)) (show 0 ≤ ior (t 142 13) 0 ∧ ior (t 142 13) 0 ≤ 1 from (ior_z h6 (by decide)))) rfl rfl rfl (fun e => absurd e.2 (by decide)) (fun _ => trivial) fun s12 hE12 => ?_
      refine pr_n (pc2 := 43) (lv2 := [(0, .ref 142), (1, vi x1), (2, vi x2)]) (st2 := [.ref 142, .ref 142]) 2 (fun _ _ => rfl) ?_
      refine pr_get (v := .ref 143) rfl rfl rfl (by decide) (rv_ref (hE12.2.1 142 1 143 rfl)) fun _ => ?_
      refine pr_n (pc2 := 47) (lv2 := [(0, .ref 142), (1, vi x1), (2, vi x2)]) (st2 := [vi x1, .ref 143, .ref 142]) 1 (fun _ _ => rfl) ?_
      refine pr_aE (k2 := 143) (a := x1) (v := vi (t 143 x1.toNat)) hE12 rfl rfl rfl hx1 (by decide) rfl rfl rfl fun h14 h15 h13 => ?_
      have h13 : i32 (t 143 x1.toNat) := h13
      refine pr_s1 (args := [vi (t 143 x1.toNat)]) (rest := []) rfl rfl rfl rfl (Nat.le_of_ble_eq_true rfl) rfl (h_84 s12 (up2 (up2 t 145 x1.toNat x2) 142 13 (ior (t 142 13) 0)) (t 143 x1.toNat) hE12 h13) v_psw ?_
      rintro _ s16 ⟨rfl, _⟩ hE16
      show pr K K d tb_M88 51 [(0, .ref 142), (1, vi x1), (2, vi x2)] [] s16 _
      refine pr_end (fun _ _ => rfl) ?_
      exact .inl ⟨_, 0, _, rfl, ⟨rfl, rfl⟩, rfl, hE16⟩
    · refine mq_f h10 ?_
      refine pr_if1f rfl rfl h7 h10 ?_
      refine pr_n (pc2 := 37) (lv2 := [(0, .ref 142), (1, vi x1), (2, vi x2)]) (st2 := [vi 1, vi (t 142 13), .ref 142]) 2 (fun _ _ => rfl) ?_
      refine pr_i2 (a := t 142 13) (b := 1) rfl rfl ?_
      show pr K K d tb_M88 38 [(0, .ref 142), (1, vi x1), (2, vi x2)] [vi (ior (t 142 13) 1), .ref 142] s5 _
      have h17 : i32 (ior (t 142 13) 1) := i32_in _
      refine pr_pE (k2 := 142) (z := ior (t 142 13) 1) hE5 rfl rfl rfl rfl (by decide) rfl (by decide) rfl (show 0 ≤ ior (t 142 13) 1 ∧ ior (t 142 13) 1 ≤ 1 from (ior_z h6 (by decide))) (fit_i (.inr (.inl rfl)) (show 0 ≤ ior (t 142 13) 1 ∧ ior (t 142 13) 1 ≤ 1 from (ior_z h6 (by decide)))) rfl rfl rfl (fun e => absurd e.2 (by decide)) (fun _ => trivial) fun s18 hE18 => ?_
      refine pr_n (pc2 := 43) (lv2 := [(0, .ref 142), (1, vi x1), (2, vi x2)]) (st2 := [.ref 142, .ref 142]) 2 (fun _ _ => rfl) ?_
      refine pr_get (v := .ref 143) rfl rfl rfl (by decide) (rv_ref (hE18.2.1 142 1 143 rfl)) fun _ => ?_
      refine pr_n (pc2 := 47) (lv2 := [(0, .ref 142), (1, vi x1), (2, vi x2)]) (st2 := [vi x1, .ref 143, .ref 142]) 1 (fun _ _ => rfl) ?_
      refine pr_aE (k2 := 143) (a := x1) (v := vi (t 143 x1.toNat)) hE18 rfl rfl rfl hx1 (by decide) rfl rfl rfl fun h20 h21 h19 => ?_
      have h19 : i32 (t 143 x1.toNat) := h19
      refine pr_s1 (args := [vi (t 143 x1.toNat)]) (rest := []) rfl rfl rfl rfl (Nat.le_of_ble_eq_true rfl) rfl (h_84 s18 (up2 (up2 t 145 x1.toNat x2) 142 13 (ior (t 142 13) 1)) (t 143 x1.toNat) hE18 h19) v_psw ?_
      rintro _ s22 ⟨rfl, _⟩ hE22
      show pr K K d tb_M88 51 [(0, .ref 142), (1, vi x1), (2, vi x2)] [] s22 _
      refine pr_end (fun _ _ => rfl) ?_
      exact .inl ⟨_, 0, _, rfl, ⟨rfl, rfl⟩, rfl, hE22⟩
set_option maxHeartbeats 20000000 in
set_option maxRecDepth 100000 in
theorem wm102 {K d C : Nat} (h_83 : wT83 K d C) (h_88 : wT88 K d C) : wT102 K (d + 1) C := by
  intro s t x1 x2 x3 hE hx1 hx2 hx3
  have hC : C = 99 ∨ C = 115 := hE.1
  refine pcr_of (M := tb_M102) rfl ?_
  show pr K K d tb_M102 0 [(0, .ref 142), (1, vi x1), (2, vi x2), (3, vi x3)] [] s _
  rw [wG_102]
  unfold wM102
  refine pr_n (pc2 := 1) (lv2 := [(0, .ref 142), (1, vi x1), (2, vi x2), (3, vi x3)]) (st2 := [vi x1]) 1 (fun _ _ => rfl) ?_
  by_cases h1 : x1 < 0
  · refine mq_t h1 ?_
    refine pr_if1t rfl rfl hx1 h1 ?_
    refine pr_n (pc2 := 16) (lv2 := [(0, .ref 142), (1, vi x1), (2, vi x2), (3, vi x3)]) (st2 := [vi x3, vi x2, .ref 142]) 3 (fun _ _ => rfl) ?_
    refine pr_s1 (args := [vi x2, vi x3]) (rest := []) rfl rfl rfl rfl (Nat.le_of_ble_eq_true rfl) rfl (h_88 s t x2 x3 hE hx2 hx3) v_tlw ?_
    rintro _ s2 ⟨rfl, _⟩ hE2
    show pr K K d tb_M102 19 [(0, .ref 142), (1, vi x1), (2, vi x2), (3, vi x3)] [] s2 _
    refine pr_end (fun _ _ => rfl) ?_
    exact .inl ⟨_, 0, _, rfl, ⟨rfl, rfl⟩, rfl, hE2⟩
  · refine mq_f h1 ?_
    refine pr_if1f rfl rfl hx1 h1 ?_
    refine pr_n (pc2 := 7) (lv2 := [(0, .ref 142), (1, vi x1), (2, vi x2), (3, vi x3)]) (st2 := [vi x2, vi x1, .ref 142]) 3 (fun _ _ => rfl) ?_
    refine pr_s1 (args := [vi x1, vi x2]) (rest := []) rfl rfl rfl rfl (Nat.le_of_ble_eq_true rfl) rfl (h_83 s t x1 x2 hE hx1 hx2) v_akw ?_
    rintro _ s3 ⟨rfl, _⟩ hE3
    show pr K K d tb_M102 10 [(0, .ref 142), (1, vi x1), (2, vi x2), (3, vi x3)] [] s3 _
    refine pr_n (pc2 := 19) (lv2 := [(0, .ref 142), (1, vi x1), (2, vi x2), (3, vi x3)]) (st2 := []) 1 (fun _ _ => rfl) ?_
    refine pr_end (fun _ _ => rfl) ?_
    exact .inl ⟨_, 0, _, rfl, ⟨rfl, rfl⟩, rfl, hE3⟩
set_option maxHeartbeats 20000000 in
set_option maxRecDepth 100000 in
theorem wm90 {K d C : Nat} (h_67 : wT67 K d C) : wT90 K (d + 1) C := by
  intro s t x1 hE hx1
  have hC : C = 99 ∨ C = 115 := hE.1
  refine pcr_of (M := tb_M90) rfl ?_
  show pr K K d tb_M90 0 [(0, .ref 142), (1, vi x1)] [] s _
  rw [wG_90]
  unfold wM90
  refine pr_n (pc2 := 1) (lv2 := [(0, .ref 142), (1, vi x1)]) (st2 := [.ref 142]) 1 (fun _ _ => rfl) ?_
  refine pr_get (v := .ref C) rfl rfl rfl (by decide) (rv_ref (show s.1 142 0 = ((C : Nat) : Int) from hE.2.2.1)) fun _ => ?_
  refine pr_n (pc2 := 5) (lv2 := [(0, .ref 142), (1, vi x1)]) (st2 := [vi x1, .ref C]) 1 (fun _ _ => rfl) ?_
  refine pr_s1 (args := [vi x1]) (rest := []) rfl rfl rfl (TK0 hC) (Nat.le_of_ble_eq_true rfl) rfl (h_67 s t x1 hE hx1) v_hsz ?_
  rintro _ s1 ⟨rfl, hz1⟩ hE1
  show pr K K d tb_M90 8 [(0, .ref 142), (1, vi x1)] [vi (hsz t x1)] s1 _
  by_cases h2 : hsz t x1 = 0
  · refine mq_t h2 ?_
    refine pr_if1t rfl rfl (i32_z hz1) h2 ?_
    refine pr_n (pc2 := 21) (lv2 := [(0, .ref 142), (1, vi x1)]) (st2 := [vi 0]) 1 (fun _ _ => rfl) ?_
    refine pr_end (fun _ _ => rfl) ?_
    exact .inl ⟨_, 0, _, rfl, ⟨rfl, (i32_n rfl)⟩, rfl, hE1⟩
  · refine mq_f h2 ?_
    refine pr_if1f rfl rfl (i32_z hz1) h2 ?_
    refine pr_n (pc2 := 12) (lv2 := [(0, .ref 142), (1, vi x1)]) (st2 := [.ref 142]) 1 (fun _ _ => rfl) ?_
    refine pr_get (v := .ref 145) rfl rfl rfl (by decide) (rv_ref (hE1.2.1 142 3 145 rfl)) fun _ => ?_
    refine pr_n (pc2 := 16) (lv2 := [(0, .ref 142), (1, vi x1)]) (st2 := [vi x1, .ref 145]) 1 (fun _ _ => rfl) ?_
    refine pr_aE (k2 := 145) (a := x1) (v := vi (t 145 x1.toNat)) hE1 rfl rfl rfl hx1 (by decide) rfl rfl rfl fun h4 h5 h3 => ?_
    have h3 : i32 (t 145 x1.toNat) := h3
    refine pr_n (pc2 := 21) (lv2 := [(0, .ref 142), (1, vi x1)]) (st2 := [vi (t 145 x1.toNat)]) 1 (fun _ _ => rfl) ?_
    refine pr_reti rfl rfl ?_
    exact .inl ⟨_, t 145 x1.toNat, _, rfl, ⟨rfl, h3⟩, rfl, hE1⟩
set_option maxHeartbeats 20000000 in
set_option maxRecDepth 100000 in
theorem wm89 {K d C : Nat} : wT89 K (d + 1) C := by
  intro s t x1 hE hx1
  have hC : C = 99 ∨ C = 115 := hE.1
  refine pcr_of (M := tb_M89) rfl ?_
  show pr K K d tb_M89 0 [(0, .ref 142), (1, vi x1)] [] s _
  rw [wG_89]
  unfold wM89
  refine pr_n (pc2 := 1) (lv2 := [(0, .ref 142), (1, vi x1)]) (st2 := [vi x1]) 1 (fun _ _ => rfl) ?_
  by_cases h1 : x1 < 0
  · refine mq_t h1 ?_
    refine pr_if1t rfl rfl hx1 h1 ?_
    refine pr_n (pc2 := 20) (lv2 := [(0, .ref 142), (1, vi x1)]) (st2 := [vi 0]) 1 (fun _ _ => rfl) ?_
    refine pr_end (fun _ _ => rfl) ?_
    exact .inl ⟨_, 0, _, rfl, ⟨rfl, (i32_n rfl)⟩, rfl, hE⟩
  · refine mq_f h1 ?_
    refine pr_if1f rfl rfl hx1 h1 ?_
    refine pr_n (pc2 := 7) (lv2 := [(0, .ref 142), (1, vi x1)]) (st2 := [vi 24, vi x1]) 2 (fun _ _ => rfl) ?_
    by_cases h2 : 24 ≤ x1
    · refine mq_t h2 ?_
      refine pr_if2t rfl rfl hx1 (i32_n rfl) h2 ?_
      refine pr_n (pc2 := 20) (lv2 := [(0, .ref 142), (1, vi x1)]) (st2 := [vi 0]) 1 (fun _ _ => rfl) ?_
      refine pr_end (fun _ _ => rfl) ?_
      exact .inl ⟨_, 0, _, rfl, ⟨rfl, (i32_n rfl)⟩, rfl, hE⟩
    · refine mq_f h2 ?_
      refine pr_if2f rfl rfl hx1 (i32_n rfl) h2 ?_
      refine pr_n (pc2 := 11) (lv2 := [(0, .ref 142), (1, vi x1)]) (st2 := [.ref 142]) 1 (fun _ _ => rfl) ?_
      refine pr_get (v := .ref 148) rfl rfl rfl (by decide) (rv_ref (hE.2.1 142 7 148 rfl)) fun _ => ?_
      refine pr_n (pc2 := 15) (lv2 := [(0, .ref 142), (1, vi x1)]) (st2 := [vi x1, .ref 148]) 1 (fun _ _ => rfl) ?_
      refine pr_aE (k2 := 148) (a := x1) (v := vi (t 148 x1.toNat)) hE rfl rfl rfl hx1 (by decide) rfl rfl rfl fun h4 h5 h3 => ?_
      have h3 : i32 (t 148 x1.toNat) := h3
      refine pr_n (pc2 := 20) (lv2 := [(0, .ref 142), (1, vi x1)]) (st2 := [vi (t 148 x1.toNat)]) 1 (fun _ _ => rfl) ?_
      refine pr_reti rfl rfl ?_
      exact .inl ⟨_, t 148 x1.toNat, _, rfl, ⟨rfl, h3⟩, rfl, hE⟩
set_option maxHeartbeats 20000000 in
set_option maxRecDepth 100000 in
theorem wm93 {K d C : Nat} (h_94 : wT94 K d C) : wT93 K (d + 1) C := by
  intro s t x1 x2 hE hx1 hx2
  have hC : C = 99 ∨ C = 115 := hE.1
  refine pcr_of (M := tb_M93) rfl ?_
  show pr K K d tb_M93 0 [(0, .ref 142), (1, vi x1), (2, vi x2)] [] s _
  rw [wG_93]
  unfold wM93
  refine pr_n (pc2 := 1) (lv2 := [(0, .ref 142), (1, vi x1), (2, vi x2)]) (st2 := [vi x1]) 1 (fun _ _ => rfl) ?_
  by_cases h1 : x1 < 0
  · refine mq_t h1 ?_
    refine pr_if1t rfl rfl hx1 h1 ?_
    refine pr_n (pc2 := 11) (lv2 := [(0, .ref 142), (1, vi x1), (2, vi x2)]) (st2 := [vi 0]) 1 (fun _ _ => rfl) ?_
    refine pr_end (fun _ _ => rfl) ?_
    exact .inl ⟨_, 0, _, rfl, ⟨rfl, (i32_n rfl)⟩, rfl, hE⟩
  · refine mq_f h1 ?_
    refine pr_if1f rfl rfl hx1 h1 ?_
    refine pr_n (pc2 := 7) (lv2 := [(0, .ref 142), (1, vi x1), (2, vi x2)]) (st2 := [vi 6, vi x1]) 2 (fun _ _ => rfl) ?_
    by_cases h2 : x1 < 6
    · refine mq_t h2 ?_
      refine pr_if2t rfl rfl hx1 (i32_n rfl) h2 ?_
      refine pr_n (pc2 := 13) (lv2 := [(0, .ref 142), (1, vi x1), (2, vi x2)]) (st2 := [.ref 142]) 1 (fun _ _ => rfl) ?_
      refine pr_get (v := .ref 149) rfl rfl rfl (by decide) (rv_ref (hE.2.1 142 8 149 rfl)) fun _ => ?_
      refine pr_n (pc2 := 19) (lv2 := [(0, .ref 142), (1, vi x1), (2, vi x2)]) (st2 := [vi 64, vi x1, .ref 149]) 2 (fun _ _ => rfl) ?_
      refine pr_i2 (a := x1) (b := 64) rfl rfl ?_
      show pr K K d tb_M93 20 [(0, .ref 142), (1, vi x1), (2, vi x2)] [vi (imu x1 64), .ref 149] s _
      have h3 : i32 (imu x1 64) := i32_in _
      refine pr_n (pc2 := 21) (lv2 := [(0, .ref 142), (1, vi x1), (2, vi x2)]) (st2 := [.ref 142, vi (imu x1 64), .ref 149]) 1 (fun _ _ => rfl) ?_
      refine pr_get (v := .ref C) rfl rfl rfl (by decide) (rv_ref (show s.1 142 0 = ((C : Nat) : Int) from hE.2.2.1)) fun _ => ?_
      refine pr_n (pc2 := 26) (lv2 := [(0, .ref 142), (1, vi x1), (2, vi x2)]) (st2 := [vi x2, vi x1, .ref C, vi (imu x1 64), .ref 149]) 2 (fun _ _ => rfl) ?_
      refine pr_s1 (args := [vi x1, vi x2]) (rest := [vi (imu x1 64), .ref 149]) rfl rfl rfl (TK0 hC) (Nat.le_of_ble_eq_true rfl) rfl (h_94 s t x1 x2 hE hx1 hx2) v_plx ?_
      rintro _ s4 ⟨rfl, hz4⟩ hE4
      show pr K K d tb_M93 29 [(0, .ref 142), (1, vi x1), (2, vi x2)] [vi (plx t x1 x2), vi (imu x1 64), .ref 149] s4 _
      refine pr_i2 (a := imu x1 64) (b := plx t x1 x2) rfl rfl ?_
      show pr K K d tb_M93 30 [(0, .ref 142), (1, vi x1), (2, vi x2)] [vi (ipl (imu x1 64) (plx t x1 x2)), .ref 149] s4 _
      have h5 : i32 (ipl (imu x1 64) (plx t x1 x2)) := i32_in _
      refine pr_aE (k2 := 149) (a := ipl (imu x1 64) (plx t x1 x2)) (v := vi (t 149 ((ipl (imu x1 64) (plx t x1 x2)).toNat))) hE4 rfl rfl rfl h5 (by decide) rfl rfl rfl fun h7 h8 h6 => ?_
      have h6 : i32 (t 149 ((ipl (imu x1 64) (plx t x1 x2)).toNat)) := h6
      refine pr_reti rfl rfl ?_
      exact .inl ⟨_, t 149 ((ipl (imu x1 64) (plx t x1 x2)).toNat), _, rfl, ⟨rfl, h6⟩, rfl, hE4⟩
    · refine mq_f h2 ?_
      refine pr_if2f rfl rfl hx1 (i32_n rfl) h2 ?_
      refine pr_n (pc2 := 11) (lv2 := [(0, .ref 142), (1, vi x1), (2, vi x2)]) (st2 := [vi 0]) 1 (fun _ _ => rfl) ?_
      refine pr_end (fun _ _ => rfl) ?_
      exact .inl ⟨_, 0, _, rfl, ⟨rfl, (i32_n rfl)⟩, rfl, hE⟩
set_option maxHeartbeats 20000000 in
set_option maxRecDepth 100000 in
theorem wm100 {K d C : Nat} (h_94 : wT94 K d C) : wT100 K (d + 1) C := by
  intro s t x1 x2 x3 hE hx1 hx2 hx3
  have hC : C = 99 ∨ C = 115 := hE.1
  refine pcr_of (M := tb_M100) rfl ?_
  show pr K K d tb_M100 0 [(0, .ref 142), (1, vi x1), (2, vi x2), (3, vi x3)] [] s _
  rw [wG_100]
  unfold wM100
  refine pr_n (pc2 := 3) (lv2 := [(0, .ref 142), (1, vi x1), (2, vi x2), (3, vi x3)]) (st2 := [vi 24, vi x1]) 2 (fun _ _ => rfl) ?_
  refine pr_i2 (a := x1) (b := 24) rfl rfl ?_
  show pr K K d tb_M100 4 [(0, .ref 142), (1, vi x1), (2, vi x2), (3, vi x3)] [vi (imi x1 24)] s _
  have h1 : i32 (imi x1 24) := i32_in _
  refine pr_n (pc2 := 7) (lv2 := [(4, vi (imi x1 24)), (0, .ref 142), (1, vi x1), (2, vi x2), (3, vi x3)]) (st2 := [vi x1]) 2 (fun _ _ => rfl) ?_
  by_cases h2 : x1 < 0
  · refine mq_t h2 ?_
    refine pr_if1t rfl rfl hx1 h2 ?_
    refine pr_n (pc2 := 56) (lv2 := [(4, vi (imi x1 24)), (0, .ref 142), (1, vi x1), (2, vi x2), (3, vi x3)]) (st2 := [vi (imi x1 24)]) 1 (fun _ _ => rfl) ?_
    by_cases h3 : imi x1 24 < 0
    · refine mq_t h3 ?_
      refine pr_if1t rfl rfl h1 h3 ?_
      refine pr_end (fun _ _ => rfl) ?_
      exact .inl ⟨_, 0, _, rfl, ⟨rfl, rfl⟩, rfl, hE⟩
    · refine mq_f h3 ?_
      refine pr_if1f rfl rfl h1 h3 ?_
      refine pr_n (pc2 := 63) (lv2 := [(4, vi (imi x1 24)), (0, .ref 142), (1, vi x1), (2, vi x2), (3, vi x3)]) (st2 := [vi 6, vi (imi x1 24)]) 2 (fun _ _ => rfl) ?_
      by_cases h4 : 6 ≤ imi x1 24
      · refine mq_t h4 ?_
        refine pr_if2t rfl rfl h1 (i32_n rfl) h4 ?_
        refine pr_end (fun _ _ => rfl) ?_
        exact .inl ⟨_, 0, _, rfl, ⟨rfl, rfl⟩, rfl, hE⟩
      · refine mq_f h4 ?_
        refine pr_if2f rfl rfl h1 (i32_n rfl) h4 ?_
        refine pr_n (pc2 := 67) (lv2 := [(4, vi (imi x1 24)), (0, .ref 142), (1, vi x1), (2, vi x2), (3, vi x3)]) (st2 := [.ref 142]) 1 (fun _ _ => rfl) ?_
        refine pr_get (v := .ref 149) rfl rfl rfl (by decide) (rv_ref (hE.2.1 142 8 149 rfl)) fun _ => ?_
        refine pr_n (pc2 := 74) (lv2 := [(4, vi (imi x1 24)), (0, .ref 142), (1, vi x1), (2, vi x2), (3, vi x3)]) (st2 := [vi 64, vi (imi x1 24), .ref 149]) 2 (fun _ _ => rfl) ?_
        refine pr_i2 (a := imi x1 24) (b := 64) rfl rfl ?_
        show pr K K d tb_M100 75 [(4, vi (imi x1 24)), (0, .ref 142), (1, vi x1), (2, vi x2), (3, vi x3)] [vi (imu (imi x1 24) 64), .ref 149] s _
        have h5 : i32 (imu (imi x1 24) 64) := i32_in _
        refine pr_n (pc2 := 76) (lv2 := [(4, vi (imi x1 24)), (0, .ref 142), (1, vi x1), (2, vi x2), (3, vi x3)]) (st2 := [.ref 142, vi (imu (imi x1 24) 64), .ref 149]) 1 (fun _ _ => rfl) ?_
        refine pr_get (v := .ref C) rfl rfl rfl (by decide) (rv_ref (show s.1 142 0 = ((C : Nat) : Int) from hE.2.2.1)) fun _ => ?_
        refine pr_n (pc2 := 82) (lv2 := [(4, vi (imi x1 24)), (0, .ref 142), (1, vi x1), (2, vi x2), (3, vi x3)]) (st2 := [vi x2, vi (imi x1 24), .ref C, vi (imu (imi x1 24) 64), .ref 149]) 2 (fun _ _ => rfl) ?_
        refine pr_s1 (args := [vi (imi x1 24), vi x2]) (rest := [vi (imu (imi x1 24) 64), .ref 149]) rfl rfl rfl (TK0 hC) (Nat.le_of_ble_eq_true rfl) rfl (h_94 s t (imi x1 24) x2 hE h1 hx2) v_plx ?_
        rintro _ s6 ⟨rfl, hz6⟩ hE6
        show pr K K d tb_M100 85 [(4, vi (imi x1 24)), (0, .ref 142), (1, vi x1), (2, vi x2), (3, vi x3)] [vi (plx t (imi x1 24) x2), vi (imu (imi x1 24) 64), .ref 149] s6 _
        refine pr_i2 (a := imu (imi x1 24) 64) (b := plx t (imi x1 24) x2) rfl rfl ?_
        show pr K K d tb_M100 86 [(4, vi (imi x1 24)), (0, .ref 142), (1, vi x1), (2, vi x2), (3, vi x3)] [vi (ipl (imu (imi x1 24) 64) (plx t (imi x1 24) x2)), .ref 149] s6 _
        have h7 : i32 (ipl (imu (imi x1 24) 64) (plx t (imi x1 24) x2)) := i32_in _
        refine pr_n (pc2 := 87) (lv2 := [(4, vi (imi x1 24)), (0, .ref 142), (1, vi x1), (2, vi x2), (3, vi x3)]) (st2 := [vi x3, vi (ipl (imu (imi x1 24) 64) (plx t (imi x1 24) x2)), .ref 149]) 1 (fun _ _ => rfl) ?_
        refine pr_i2s (a := x3) rfl ?_
        show pr K K d tb_M100 88 [(4, vi (imi x1 24)), (0, .ref 142), (1, vi x1), (2, vi x2), (3, vi x3)] [vi (i2s x3), vi (ipl (imu (imi x1 24) 64) (plx t (imi x1 24) x2)), .ref 149] s6 _
        refine pr_sE (k2 := 149) (a := ipl (imu (imi x1 24) 64) (plx t (imi x1 24) x2)) (z := i2s x3) hE6 rfl (by decide) rfl rfl h7 (by decide) rfl (show i32 (i2s x3) from i2s_i32) (n0 rfl (by omega) (by omega)) rfl rfl (fun e => absurd e.1 (by decide)) (fun _ => trivial) fun h8 h9 s10 hE10 => ?_
        refine pr_end (fun _ _ => rfl) ?_
        exact .inl ⟨_, 0, _, rfl, ⟨rfl, rfl⟩, rfl, hE10⟩
  · refine mq_f h2 ?_
    refine pr_if1f rfl rfl hx1 h2 ?_
    refine pr_n (pc2 := 13) (lv2 := [(4, vi (imi x1 24)), (0, .ref 142), (1, vi x1), (2, vi x2), (3, vi x3)]) (st2 := [vi 24, vi x1]) 2 (fun _ _ => rfl) ?_
    by_cases h11 : 24 ≤ x1
    · refine mq_t h11 ?_
      refine pr_if2t rfl rfl hx1 (i32_n rfl) h11 ?_
      refine pr_n (pc2 := 56) (lv2 := [(4, vi (imi x1 24)), (0, .ref 142), (1, vi x1), (2, vi x2), (3, vi x3)]) (st2 := [vi (imi x1 24)]) 1 (fun _ _ => rfl) ?_
      by_cases h12 : imi x1 24 < 0
      · refine mq_t h12 ?_
        refine pr_if1t rfl rfl h1 h12 ?_
        refine pr_end (fun _ _ => rfl) ?_
        exact .inl ⟨_, 0, _, rfl, ⟨rfl, rfl⟩, rfl, hE⟩
      · refine mq_f h12 ?_
        refine pr_if1f rfl rfl h1 h12 ?_
        refine pr_n (pc2 := 63) (lv2 := [(4, vi (imi x1 24)), (0, .ref 142), (1, vi x1), (2, vi x2), (3, vi x3)]) (st2 := [vi 6, vi (imi x1 24)]) 2 (fun _ _ => rfl) ?_
        by_cases h13 : 6 ≤ imi x1 24
        · refine mq_t h13 ?_
          refine pr_if2t rfl rfl h1 (i32_n rfl) h13 ?_
          refine pr_end (fun _ _ => rfl) ?_
          exact .inl ⟨_, 0, _, rfl, ⟨rfl, rfl⟩, rfl, hE⟩
        · refine mq_f h13 ?_
          refine pr_if2f rfl rfl h1 (i32_n rfl) h13 ?_
          refine pr_n (pc2 := 67) (lv2 := [(4, vi (imi x1 24)), (0, .ref 142), (1, vi x1), (2, vi x2), (3, vi x3)]) (st2 := [.ref 142]) 1 (fun _ _ => rfl) ?_
          refine pr_get (v := .ref 149) rfl rfl rfl (by decide) (rv_ref (hE.2.1 142 8 149 rfl)) fun _ => ?_
          refine pr_n (pc2 := 74) (lv2 := [(4, vi (imi x1 24)), (0, .ref 142), (1, vi x1), (2, vi x2), (3, vi x3)]) (st2 := [vi 64, vi (imi x1 24), .ref 149]) 2 (fun _ _ => rfl) ?_
          refine pr_i2 (a := imi x1 24) (b := 64) rfl rfl ?_
          show pr K K d tb_M100 75 [(4, vi (imi x1 24)), (0, .ref 142), (1, vi x1), (2, vi x2), (3, vi x3)] [vi (imu (imi x1 24) 64), .ref 149] s _
          have h14 : i32 (imu (imi x1 24) 64) := i32_in _
          refine pr_n (pc2 := 76) (lv2 := [(4, vi (imi x1 24)), (0, .ref 142), (1, vi x1), (2, vi x2), (3, vi x3)]) (st2 := [.ref 142, vi (imu (imi x1 24) 64), .ref 149]) 1 (fun _ _ => rfl) ?_
          refine pr_get (v := .ref C) rfl rfl rfl (by decide) (rv_ref (show s.1 142 0 = ((C : Nat) : Int) from hE.2.2.1)) fun _ => ?_
          refine pr_n (pc2 := 82) (lv2 := [(4, vi (imi x1 24)), (0, .ref 142), (1, vi x1), (2, vi x2), (3, vi x3)]) (st2 := [vi x2, vi (imi x1 24), .ref C, vi (imu (imi x1 24) 64), .ref 149]) 2 (fun _ _ => rfl) ?_
          refine pr_s1 (args := [vi (imi x1 24), vi x2]) (rest := [vi (imu (imi x1 24) 64), .ref 149]) rfl rfl rfl (TK0 hC) (Nat.le_of_ble_eq_true rfl) rfl (h_94 s t (imi x1 24) x2 hE h1 hx2) v_plx ?_
          rintro _ s15 ⟨rfl, hz15⟩ hE15
          show pr K K d tb_M100 85 [(4, vi (imi x1 24)), (0, .ref 142), (1, vi x1), (2, vi x2), (3, vi x3)] [vi (plx t (imi x1 24) x2), vi (imu (imi x1 24) 64), .ref 149] s15 _
          refine pr_i2 (a := imu (imi x1 24) 64) (b := plx t (imi x1 24) x2) rfl rfl ?_
          show pr K K d tb_M100 86 [(4, vi (imi x1 24)), (0, .ref 142), (1, vi x1), (2, vi x2), (3, vi x3)] [vi (ipl (imu (imi x1 24) 64) (plx t (imi x1 24) x2)), .ref 149] s15 _
          have h16 : i32 (ipl (imu (imi x1 24) 64) (plx t (imi x1 24) x2)) := i32_in _
          refine pr_n (pc2 := 87) (lv2 := [(4, vi (imi x1 24)), (0, .ref 142), (1, vi x1), (2, vi x2), (3, vi x3)]) (st2 := [vi x3, vi (ipl (imu (imi x1 24) 64) (plx t (imi x1 24) x2)), .ref 149]) 1 (fun _ _ => rfl) ?_
          refine pr_i2s (a := x3) rfl ?_
          show pr K K d tb_M100 88 [(4, vi (imi x1 24)), (0, .ref 142), (1, vi x1), (2, vi x2), (3, vi x3)] [vi (i2s x3), vi (ipl (imu (imi x1 24) 64) (plx t (imi x1 24) x2)), .ref 149] s15 _
          refine pr_sE (k2 := 149) (a := ipl (imu (imi x1 24) 64) (plx t (imi x1 24) x2)) (z := i2s x3) hE15 rfl (by decide) rfl rfl h16 (by decide) rfl (show i32 (i2s x3) from i2s_i32) (n0 rfl (by omega) (by omega)) rfl rfl (fun e => absurd e.1 (by decide)) (fun _ => trivial) fun h17 h18 s19 hE19 => ?_
          refine pr_end (fun _ _ => rfl) ?_
          exact .inl ⟨_, 0, _, rfl, ⟨rfl, rfl⟩, rfl, hE19⟩
    · refine mq_f h11 ?_
      refine pr_if2f rfl rfl hx1 (i32_n rfl) h11 ?_
      refine pr_n (pc2 := 17) (lv2 := [(4, vi (imi x1 24)), (0, .ref 142), (1, vi x1), (2, vi x2), (3, vi x3)]) (st2 := [.ref 142]) 1 (fun _ _ => rfl) ?_
      refine pr_get (v := .ref C) rfl rfl rfl (by decide) (rv_ref (show s.1 142 0 = ((C : Nat) : Int) from hE.2.2.1)) fun _ => ?_
      refine pr_get (v := .ref (C + 11)) rfl rfl (TK0 hC) (by decide) (rv_ref (hE.2.1 C 7 (C + 11) (rcK hC (by omega)))) fun _ => ?_
      refine pr_n (pc2 := 24) (lv2 := [(4, vi (imi x1 24)), (0, .ref 142), (1, vi x1), (2, vi x2), (3, vi x3)]) (st2 := [vi x1, .ref (C + 11)]) 1 (fun _ _ => rfl) ?_
      refine pr_aE (k2 := 110) (a := x1) (v := vi (t 110 x1.toNat)) hE rfl (TK11 hC) rfl hx1 (by decide) rfl rfl rfl fun h21 h22 h20 => ?_
      have h20 : i32 (t 110 x1.toNat) := h20
      refine pr_n (pc2 := 28) (lv2 := [(5, vi (t 110 x1.toNat)), (4, vi (imi x1 24)), (0, .ref 142), (1, vi x1), (2, vi x2), (3, vi x3)]) (st2 := [.ref 142]) 2 (fun _ _ => rfl) ?_
      refine pr_get (v := .ref 148) rfl rfl rfl (by decide) (rv_ref (hE.2.1 142 7 148 rfl)) fun _ => ?_
      refine pr_n (pc2 := 34) (lv2 := [(5, vi (t 110 x1.toNat)), (4, vi (imi x1 24)), (0, .ref 142), (1, vi x1), (2, vi x2), (3, vi x3)]) (st2 := [vi (t 110 x1.toNat), vi x1, .ref 148]) 2 (fun _ _ => rfl) ?_
      by_cases h23 : t 110 x1.toNat ≠ 0
      · refine mq_t h23 ?_
        refine pr_if1t rfl rfl h20 h23 ?_
        refine pr_n (pc2 := 46) (lv2 := [(5, vi (t 110 x1.toNat)), (4, vi (imi x1 24)), (0, .ref 142), (1, vi x1), (2, vi x2), (3, vi x3)]) (st2 := [vi (t 110 x1.toNat), vi 1, vi x3, vi x1, .ref 148]) 3 (fun _ _ => rfl) ?_
        refine pr_i2 (a := 1) (b := t 110 x1.toNat) rfl rfl ?_
        show pr K K d tb_M100 47 [(5, vi (t 110 x1.toNat)), (4, vi (imi x1 24)), (0, .ref 142), (1, vi x1), (2, vi x2), (3, vi x3)] [vi (isl 1 (t 110 x1.toNat)), vi x3, vi x1, .ref 148] s _
        have h24 : i32 (isl 1 (t 110 x1.toNat)) := i32_in _
        refine pr_n (pc2 := 48) (lv2 := [(5, vi (t 110 x1.toNat)), (4, vi (imi x1 24)), (0, .ref 142), (1, vi x1), (2, vi x2), (3, vi x3)]) (st2 := [vi 1, vi (isl 1 (t 110 x1.toNat)), vi x3, vi x1, .ref 148]) 1 (fun _ _ => rfl) ?_
        refine pr_i2 (a := isl 1 (t 110 x1.toNat)) (b := 1) rfl rfl ?_
        show pr K K d tb_M100 49 [(5, vi (t 110 x1.toNat)), (4, vi (imi x1 24)), (0, .ref 142), (1, vi x1), (2, vi x2), (3, vi x3)] [vi (imi (isl 1 (t 110 x1.toNat)) 1), vi x3, vi x1, .ref 148] s _
        have h25 : i32 (imi (isl 1 (t 110 x1.toNat)) 1) := i32_in _
        refine pr_i2 (a := x3) (b := imi (isl 1 (t 110 x1.toNat)) 1) rfl rfl ?_
        show pr K K d tb_M100 50 [(5, vi (t 110 x1.toNat)), (4, vi (imi x1 24)), (0, .ref 142), (1, vi x1), (2, vi x2), (3, vi x3)] [vi (ian x3 (imi (isl 1 (t 110 x1.toNat)) 1)), vi x1, .ref 148] s _
        have h26 : i32 (ian x3 (imi (isl 1 (t 110 x1.toNat)) 1)) := i32_in _
        refine pr_sE (k2 := 148) (a := x1) (z := ian x3 (imi (isl 1 (t 110 x1.toNat)) 1)) hE rfl (by decide) rfl rfl hx1 (by decide) rfl (show i32 (ian x3 (imi (isl 1 (t 110 x1.toNat)) 1)) from h26) (n0 rfl (by omega) (by omega)) rfl rfl (fun e => absurd e.1 (by decide)) (fun _ => trivial) fun h27 h28 s29 hE29 => ?_
        refine pr_n (pc2 := 89) (lv2 := [(5, vi (t 110 x1.toNat)), (4, vi (imi x1 24)), (0, .ref 142), (1, vi x1), (2, vi x2), (3, vi x3)]) (st2 := []) 1 (fun _ _ => rfl) ?_
        refine pr_end (fun _ _ => rfl) ?_
        exact .inl ⟨_, 0, _, rfl, ⟨rfl, rfl⟩, rfl, hE29⟩
      · refine mq_f h23 ?_
        refine pr_if1f rfl rfl h20 h23 ?_
        refine pr_n (pc2 := 38) (lv2 := [(5, vi (t 110 x1.toNat)), (4, vi (imi x1 24)), (0, .ref 142), (1, vi x1), (2, vi x2), (3, vi x3)]) (st2 := [vi x3, vi x1, .ref 148]) 1 (fun _ _ => rfl) ?_
        refine pr_i2s (a := x3) rfl ?_
        show pr K K d tb_M100 39 [(5, vi (t 110 x1.toNat)), (4, vi (imi x1 24)), (0, .ref 142), (1, vi x1), (2, vi x2), (3, vi x3)] [vi (i2s x3), vi x1, .ref 148] s _
        refine pr_n (pc2 := 50) (lv2 := [(5, vi (t 110 x1.toNat)), (4, vi (imi x1 24)), (0, .ref 142), (1, vi x1), (2, vi x2), (3, vi x3)]) (st2 := [vi (i2s x3), vi x1, .ref 148]) 1 (fun _ _ => rfl) ?_
        refine pr_sE (k2 := 148) (a := x1) (z := i2s x3) hE rfl (by decide) rfl rfl hx1 (by decide) rfl (show i32 (i2s x3) from i2s_i32) (n0 rfl (by omega) (by omega)) rfl rfl (fun e => absurd e.1 (by decide)) (fun _ => trivial) fun h30 h31 s32 hE32 => ?_
        refine pr_n (pc2 := 89) (lv2 := [(5, vi (t 110 x1.toNat)), (4, vi (imi x1 24)), (0, .ref 142), (1, vi x1), (2, vi x2), (3, vi x3)]) (st2 := []) 1 (fun _ _ => rfl) ?_
        refine pr_end (fun _ _ => rfl) ?_
        exact .inl ⟨_, 0, _, rfl, ⟨rfl, rfl⟩, rfl, hE32⟩
set_option maxHeartbeats 20000000 in
set_option maxRecDepth 100000 in
theorem wu85_0 {N K d C : Nat} (h_84 : wT84 K d C) (ih : ∀ N2, N2 < N → wA85 N2 K d C) : wU85_0 N K d C := by
  intro s t y2 x1 hE hy2 hx1
  have hC : C = 99 ∨ C = 115 := hE.1
  rw [wG_85_3]
  unfold wM85_3
  refine pr_lt (pc2 := 4) (lv2 := [(2, vi y2), (0, .ref 142), (1, .ref x1.toNat)]) (st2 := [vi y2]) (fun _ _ => rfl) fun N2 hN2 => ?_
  refine pr_n (pc2 := 6) (lv2 := [(2, vi y2), (0, .ref 142), (1, .ref x1.toNat)]) (st2 := [vi 12, vi y2]) 1 (fun _ _ => rfl) ?_
  by_cases h1 : 12 ≤ y2
  · refine mq_t h1 ?_
    refine pr_if2t rfl rfl hy2 (i32_n rfl) h1 ?_
    refine pr_end (fun _ _ => rfl) ?_
    exact .inl ⟨_, 0, _, rfl, ⟨rfl, rfl⟩, rfl, hE⟩
  · refine mq_f h1 ?_
    refine pr_if2f rfl rfl hy2 (i32_n rfl) h1 ?_
    refine pr_n (pc2 := 11) (lv2 := [(2, vi y2), (0, .ref 142), (1, .ref x1.toNat)]) (st2 := [.ref x1.toNat, vi y2]) 2 (fun _ _ => rfl) ?_
    refine pr_alen (n := 12) rfl (TGw_w hx1) ?_
    show pr N2 K d tb_M85 12 [(2, vi y2), (0, .ref 142), (1, .ref x1.toNat)] [vi 12, vi y2] s _
    refine pr_if2f rfl rfl hy2 (i32_n rfl) (show ¬ (12 ≤ y2) by omega) ?_
    show pr N2 K d tb_M85 15 [(2, vi y2), (0, .ref 142), (1, .ref x1.toNat)] [] s _
    refine pr_n (pc2 := 17) (lv2 := [(2, vi y2), (0, .ref 142), (1, .ref x1.toNat)]) (st2 := [vi y2, .ref x1.toNat]) 2 (fun _ _ => rfl) ?_
    refine pr_aE (k2 := x1.toNat) (a := y2) (v := vi (t x1.toNat y2.toNat)) hE rfl (TGw_w hx1) rfl hy2 (by decide) (pv_w hx1) (rw_w hx1) rfl fun h3 h4 h2 => ?_
    have h2 : i32 (t x1.toNat y2.toNat) := h2
    refine pr_n (pc2 := 22) (lv2 := [(3, vi (t x1.toNat y2.toNat)), (2, vi y2), (0, .ref 142), (1, .ref x1.toNat)]) (st2 := [vi ((-1)), vi y2, .ref x1.toNat]) 4 (fun _ _ => rfl) ?_
    refine pr_sE (k2 := x1.toNat) (a := y2) (z := (-1)) hE rfl (show 96 ≤ x1.toNat by have := ge_w hx1; omega) (TGw_w hx1) rfl hy2 (by decide) rfl (show i32 ((-1)) from (i32_n rfl)) (nw_w hx1) (pv_w hx1) (rw_w hx1) (fun e => absurd e.1 (show ¬ (x1.toNat = 142) by have := ge_w hx1; omega)) (fun _ => trivial) fun h5 h6 s7 hE7 => ?_
    refine pr_n (pc2 := 25) (lv2 := [(3, vi (t x1.toNat y2.toNat)), (2, vi y2), (0, .ref 142), (1, .ref x1.toNat)]) (st2 := [vi (t x1.toNat y2.toNat), .ref 142]) 2 (fun _ _ => rfl) ?_
    refine pr_s1 (args := [vi (t x1.toNat y2.toNat)]) (rest := []) rfl rfl rfl rfl (Nat.le_of_ble_eq_true rfl) rfl (h_84 s7 (up2 t x1.toNat y2.toNat ((-1))) (t x1.toNat y2.toNat) hE7 h2) v_psw ?_
    rintro _ s8 ⟨rfl, _⟩ hE8
    show pr N2 K d tb_M85 28 [(3, vi (t x1.toNat y2.toNat)), (2, vi y2), (0, .ref 142), (1, .ref x1.toNat)] [] s8 _
    refine pr_inc (a := y2) rfl rfl ?_
    have h9 : i32 (y2 + 1) := by unfold i32 at *; omega
    show pr N2 K d tb_M85 31 [(2, vi (y2 + 1)), (3, vi (t x1.toNat y2.toNat)), (0, .ref 142), (1, .ref x1.toNat)] [] s8 _
    refine pr_n (pc2 := 3) (lv2 := [(2, vi (y2 + 1)), (3, vi (t x1.toNat y2.toNat)), (0, .ref 142), (1, .ref x1.toNat)]) (st2 := []) 1 (fun _ _ => rfl) ?_
    exact ((ih N2 hN2).2) s8 ((psw (up2 t x1.toNat y2.toNat ((-1))) (t x1.toNat y2.toNat))) (y2 + 1) (t x1.toNat y2.toNat) x1 hE8 h9 h2 hx1
set_option maxHeartbeats 20000000 in
set_option maxRecDepth 100000 in
theorem wu85_1 {N K d C : Nat} (h_84 : wT84 K d C) (ih : ∀ N2, N2 < N → wA85 N2 K d C) : wU85_1 N K d C := by
  intro s t y2 y3 x1 hE hy2 hy3 hx1
  have hC : C = 99 ∨ C = 115 := hE.1
  rw [wG_85_3]
  unfold wM85_3
  refine pr_lt (pc2 := 4) (lv2 := [(2, vi y2), (3, vi y3), (0, .ref 142), (1, .ref x1.toNat)]) (st2 := [vi y2]) (fun _ _ => rfl) fun N2 hN2 => ?_
  refine pr_n (pc2 := 6) (lv2 := [(2, vi y2), (3, vi y3), (0, .ref 142), (1, .ref x1.toNat)]) (st2 := [vi 12, vi y2]) 1 (fun _ _ => rfl) ?_
  by_cases h1 : 12 ≤ y2
  · refine mq_t h1 ?_
    refine pr_if2t rfl rfl hy2 (i32_n rfl) h1 ?_
    refine pr_end (fun _ _ => rfl) ?_
    exact .inl ⟨_, 0, _, rfl, ⟨rfl, rfl⟩, rfl, hE⟩
  · refine mq_f h1 ?_
    refine pr_if2f rfl rfl hy2 (i32_n rfl) h1 ?_
    refine pr_n (pc2 := 11) (lv2 := [(2, vi y2), (3, vi y3), (0, .ref 142), (1, .ref x1.toNat)]) (st2 := [.ref x1.toNat, vi y2]) 2 (fun _ _ => rfl) ?_
    refine pr_alen (n := 12) rfl (TGw_w hx1) ?_
    show pr N2 K d tb_M85 12 [(2, vi y2), (3, vi y3), (0, .ref 142), (1, .ref x1.toNat)] [vi 12, vi y2] s _
    refine pr_if2f rfl rfl hy2 (i32_n rfl) (show ¬ (12 ≤ y2) by omega) ?_
    show pr N2 K d tb_M85 15 [(2, vi y2), (3, vi y3), (0, .ref 142), (1, .ref x1.toNat)] [] s _
    refine pr_n (pc2 := 17) (lv2 := [(2, vi y2), (3, vi y3), (0, .ref 142), (1, .ref x1.toNat)]) (st2 := [vi y2, .ref x1.toNat]) 2 (fun _ _ => rfl) ?_
    refine pr_aE (k2 := x1.toNat) (a := y2) (v := vi (t x1.toNat y2.toNat)) hE rfl (TGw_w hx1) rfl hy2 (by decide) (pv_w hx1) (rw_w hx1) rfl fun h3 h4 h2 => ?_
    have h2 : i32 (t x1.toNat y2.toNat) := h2
    refine pr_n (pc2 := 22) (lv2 := [(3, vi (t x1.toNat y2.toNat)), (2, vi y2), (0, .ref 142), (1, .ref x1.toNat)]) (st2 := [vi ((-1)), vi y2, .ref x1.toNat]) 4 (fun _ _ => rfl) ?_
    refine pr_sE (k2 := x1.toNat) (a := y2) (z := (-1)) hE rfl (show 96 ≤ x1.toNat by have := ge_w hx1; omega) (TGw_w hx1) rfl hy2 (by decide) rfl (show i32 ((-1)) from (i32_n rfl)) (nw_w hx1) (pv_w hx1) (rw_w hx1) (fun e => absurd e.1 (show ¬ (x1.toNat = 142) by have := ge_w hx1; omega)) (fun _ => trivial) fun h5 h6 s7 hE7 => ?_
    refine pr_n (pc2 := 25) (lv2 := [(3, vi (t x1.toNat y2.toNat)), (2, vi y2), (0, .ref 142), (1, .ref x1.toNat)]) (st2 := [vi (t x1.toNat y2.toNat), .ref 142]) 2 (fun _ _ => rfl) ?_
    refine pr_s1 (args := [vi (t x1.toNat y2.toNat)]) (rest := []) rfl rfl rfl rfl (Nat.le_of_ble_eq_true rfl) rfl (h_84 s7 (up2 t x1.toNat y2.toNat ((-1))) (t x1.toNat y2.toNat) hE7 h2) v_psw ?_
    rintro _ s8 ⟨rfl, _⟩ hE8
    show pr N2 K d tb_M85 28 [(3, vi (t x1.toNat y2.toNat)), (2, vi y2), (0, .ref 142), (1, .ref x1.toNat)] [] s8 _
    refine pr_inc (a := y2) rfl rfl ?_
    have h9 : i32 (y2 + 1) := by unfold i32 at *; omega
    show pr N2 K d tb_M85 31 [(2, vi (y2 + 1)), (3, vi (t x1.toNat y2.toNat)), (0, .ref 142), (1, .ref x1.toNat)] [] s8 _
    refine pr_n (pc2 := 3) (lv2 := [(2, vi (y2 + 1)), (3, vi (t x1.toNat y2.toNat)), (0, .ref 142), (1, .ref x1.toNat)]) (st2 := []) 1 (fun _ _ => rfl) ?_
    exact ((ih N2 hN2).2) s8 ((psw (up2 t x1.toNat y2.toNat ((-1))) (t x1.toNat y2.toNat))) (y2 + 1) (t x1.toNat y2.toNat) x1 hE8 h9 h2 hx1
theorem wa85 {K d C : Nat} (h_84 : wT84 K d C) : ∀ N, wA85 N K d C := by
  intro N
  induction N using Nat.strongRecOn with | ind N ih => ?_
  exact ⟨wu85_0 h_84 ih, wu85_1 h_84 ih⟩
set_option maxHeartbeats 20000000 in
set_option maxRecDepth 100000 in
theorem wm85 {K d C : Nat} (h_84 : wT84 K d C) : wT85 K (d + 1) C := by
  intro s t x1 hE hx1
  have hC : C = 99 ∨ C = 115 := hE.1
  refine pcr_of (M := tb_M85) rfl ?_
  show pr K K d tb_M85 0 [(0, .ref 142), (1, .ref x1.toNat)] [] s _
  rw [wG_85]
  unfold wM85
  refine pr_n (pc2 := 3) (lv2 := [(2, vi 8), (0, .ref 142), (1, .ref x1.toNat)]) (st2 := []) 2 (fun _ _ => rfl) ?_
  exact ((wa85 h_84 K).1) s t 8 x1 hE (i32_n rfl) hx1
set_option maxHeartbeats 20000000 in
set_option maxRecDepth 100000 in
theorem wm106 {K d C : Nat} (h_67 : wT67 K d C) (h_88 : wT88 K d C) (h_90 : wT90 K d C) (h_100 : wT100 K d C) : wT106 K (d + 1) C := by
  intro s t x1 x2 x3 hE hx1 hx2 hx3
  have hC : C = 99 ∨ C = 115 := hE.1
  refine pcr_of (M := tb_M106) rfl ?_
  show pr K K d tb_M106 0 [(0, .ref 142), (1, vi x1), (2, vi x2), (3, vi x3)] [] s _
  rw [wG_106]
  unfold wM106
  refine pr_n (pc2 := 1) (lv2 := [(0, .ref 142), (1, vi x1), (2, vi x2), (3, vi x3)]) (st2 := [.ref 142]) 1 (fun _ _ => rfl) ?_
  refine pr_get (v := .ref C) rfl rfl rfl (by decide) (rv_ref (show s.1 142 0 = ((C : Nat) : Int) from hE.2.2.1)) fun _ => ?_
  refine pr_n (pc2 := 5) (lv2 := [(0, .ref 142), (1, vi x1), (2, vi x2), (3, vi x3)]) (st2 := [vi x2, .ref C]) 1 (fun _ _ => rfl) ?_
  refine pr_s1 (args := [vi x2]) (rest := []) rfl rfl rfl (TK0 hC) (Nat.le_of_ble_eq_true rfl) rfl (h_67 s t x2 hE hx2) v_hsz ?_
  rintro _ s1 ⟨rfl, hz1⟩ hE1
  show pr K K d tb_M106 8 [(0, .ref 142), (1, vi x1), (2, vi x2), (3, vi x3)] [vi (hsz t x2)] s1 _
  by_cases h2 : hsz t x2 = 0
  · refine mq_t h2 ?_
    refine pr_if1t rfl rfl (i32_z hz1) h2 ?_
    refine pr_end (fun _ _ => rfl) ?_
    exact .inl ⟨_, 0, _, rfl, ⟨rfl, rfl⟩, rfl, hE1⟩
  · refine mq_f h2 ?_
    refine pr_if1f rfl rfl (i32_z hz1) h2 ?_
    refine pr_n (pc2 := 13) (lv2 := [(0, .ref 142), (1, vi x1), (2, vi x2), (3, vi x3)]) (st2 := [.ref 142, .ref 142]) 2 (fun _ _ => rfl) ?_
    refine pr_get (v := .ref C) rfl rfl rfl (by decide) (rv_ref (show s1.1 142 0 = ((C : Nat) : Int) from hE1.2.2.1)) fun _ => ?_
    refine pr_get (v := .ref (C + 3)) rfl rfl (TK0 hC) (by decide) (rv_ref (hE1.2.1 C 2 (C + 3) (rcK hC (by omega)))) fun _ => ?_
    refine pr_n (pc2 := 20) (lv2 := [(0, .ref 142), (1, vi x1), (2, vi x2), (3, vi x3)]) (st2 := [vi x2, .ref (C + 3), .ref 142]) 1 (fun _ _ => rfl) ?_
    refine pr_aE (k2 := 102) (a := x2) (v := vi (t 102 x2.toNat)) hE1 rfl (TK3 hC) rfl hx2 (by decide) rfl rfl rfl fun h4 h5 h3 => ?_
    have h3 : i32 (t 102 x2.toNat) := h3
    refine pr_n (pc2 := 23) (lv2 := [(0, .ref 142), (1, vi x1), (2, vi x2), (3, vi x3)]) (st2 := [.ref 142, .ref 142, vi (t 102 x2.toNat), .ref 142]) 2 (fun _ _ => rfl) ?_
    refine pr_get (v := .ref C) rfl rfl rfl (by decide) (rv_ref (show s1.1 142 0 = ((C : Nat) : Int) from hE1.2.2.1)) fun _ => ?_
    refine pr_get (v := .ref (C + 4)) rfl rfl (TK0 hC) (by decide) (rv_ref (hE1.2.1 C 3 (C + 4) (rcK hC (by omega)))) fun _ => ?_
    refine pr_n (pc2 := 30) (lv2 := [(0, .ref 142), (1, vi x1), (2, vi x2), (3, vi x3)]) (st2 := [vi x2, .ref (C + 4), .ref 142, vi (t 102 x2.toNat), .ref 142]) 1 (fun _ _ => rfl) ?_
    refine pr_aE (k2 := 103) (a := x2) (v := vi (t 103 x2.toNat)) hE1 rfl (TK4 hC) rfl hx2 (by decide) rfl rfl rfl fun h7 h8 h6 => ?_
    have h6 : i32 (t 103 x2.toNat) := h6
    refine pr_s1 (args := [vi (t 103 x2.toNat)]) (rest := [vi (t 102 x2.toNat), .ref 142]) rfl rfl rfl rfl (Nat.le_of_ble_eq_true rfl) rfl (h_90 s1 t (t 103 x2.toNat) hE1 h6) v_vax ?_
    rintro _ s9 ⟨rfl, hz9⟩ hE9
    show pr K K d tb_M106 34 [(0, .ref 142), (1, vi x1), (2, vi x2), (3, vi x3)] [vi (vax t (t 103 x2.toNat)), vi (t 102 x2.toNat), .ref 142] s9 _
    refine pr_n (pc2 := 35) (lv2 := [(0, .ref 142), (1, vi x1), (2, vi x2), (3, vi x3)]) (st2 := [vi x3, vi (vax t (t 103 x2.toNat)), vi (t 102 x2.toNat), .ref 142]) 1 (fun _ _ => rfl) ?_
    refine pr_s1 (args := [vi (t 102 x2.toNat), vi (vax t (t 103 x2.toNat)), vi x3]) (rest := []) rfl rfl rfl rfl (Nat.le_of_ble_eq_true rfl) rfl (h_100 s9 t (t 102 x2.toNat) (vax t (t 103 x2.toNat)) x3 hE9 h3 hz9 hx3) v_asw ?_
    rintro _ s10 ⟨rfl, _⟩ hE10
    show pr K K d tb_M106 38 [(0, .ref 142), (1, vi x1), (2, vi x2), (3, vi x3)] [] s10 _
    refine pr_n (pc2 := 41) (lv2 := [(0, .ref 142), (1, vi x1), (2, vi x2), (3, vi x3)]) (st2 := [vi 0, vi x1, .ref 142]) 3 (fun _ _ => rfl) ?_
    refine pr_s1 (args := [vi x1, vi 0]) (rest := []) rfl rfl rfl rfl (Nat.le_of_ble_eq_true rfl) rfl (h_88 s10 ((asw t (t 102 x2.toNat) (vax t (t 103 x2.toNat)) x3)) x1 0 hE10 hx1 (i32_n rfl)) v_tlw ?_
    rintro _ s11 ⟨rfl, _⟩ hE11
    show pr K K d tb_M106 44 [(0, .ref 142), (1, vi x1), (2, vi x2), (3, vi x3)] [] s11 _
    refine pr_n (pc2 := 47) (lv2 := [(0, .ref 142), (1, vi x1), (2, vi x2), (3, vi x3)]) (st2 := [vi 0, vi x2, .ref 142]) 3 (fun _ _ => rfl) ?_
    refine pr_s1 (args := [vi x2, vi 0]) (rest := []) rfl rfl rfl rfl (Nat.le_of_ble_eq_true rfl) rfl (h_88 s11 ((tlw ((asw t (t 102 x2.toNat) (vax t (t 103 x2.toNat)) x3)) x1 0)) x2 0 hE11 hx2 (i32_n rfl)) v_tlw ?_
    rintro _ s12 ⟨rfl, _⟩ hE12
    show pr K K d tb_M106 50 [(0, .ref 142), (1, vi x1), (2, vi x2), (3, vi x3)] [] s12 _
    refine pr_end (fun _ _ => rfl) ?_
    exact .inl ⟨_, 0, _, rfl, ⟨rfl, rfl⟩, rfl, hE12⟩
set_option maxHeartbeats 20000000 in
set_option maxRecDepth 100000 in
theorem wm104 {K d C : Nat} (h_88 : wT88 K d C) (h_105 : wT105 K d C) (h_106 : wT106 K d C) : wT104 K (d + 1) C := by
  intro s t x1 x2 x3 hE hx1 hx2 hx3
  have hC : C = 99 ∨ C = 115 := hE.1
  refine pcr_of (M := tb_M104) rfl ?_
  show pr K K d tb_M104 0 [(0, .ref 142), (1, vi x1), (2, vi x2), (3, vi x3)] [] s _
  rw [wG_104]
  unfold wM104
  refine pr_n (pc2 := 1) (lv2 := [(0, .ref 142), (1, vi x1), (2, vi x2), (3, vi x3)]) (st2 := [vi x2]) 1 (fun _ _ => rfl) ?_
  by_cases h1 : x2 < 0
  · refine mq_t h1 ?_
    refine pr_if1t rfl rfl hx2 h1 ?_
    refine pr_end (fun _ _ => rfl) ?_
    exact .inl ⟨_, 0, _, rfl, ⟨rfl, rfl⟩, rfl, hE⟩
  · refine mq_f h1 ?_
    refine pr_if1f rfl rfl hx2 h1 ?_
    refine pr_n (pc2 := 7) (lv2 := [(0, .ref 142), (1, vi x1), (2, vi x2), (3, vi x3)]) (st2 := [vi 12, vi x2]) 2 (fun _ _ => rfl) ?_
    by_cases h2 : x2 < 12
    · refine mq_t h2 ?_
      refine pr_if2t rfl rfl hx2 (i32_n rfl) h2 ?_
      refine pr_n (pc2 := 14) (lv2 := [(0, .ref 142), (1, vi x1), (2, vi x2), (3, vi x3)]) (st2 := [vi 8, vi x2]) 2 (fun _ _ => rfl) ?_
      by_cases h3 : x2 < 8
      · refine mq_t h3 ?_
        refine pr_if2t rfl rfl hx2 (i32_n rfl) h3 ?_
        refine pr_n (pc2 := 54) (lv2 := [(0, .ref 142), (1, vi x1), (2, vi x2), (3, vi x3)]) (st2 := [.ref 142]) 1 (fun _ _ => rfl) ?_
        refine pr_get (v := .ref 153) rfl rfl rfl (by decide) (rv_ref (hE.2.1 142 12 153 rfl)) fun _ => ?_
        refine pr_n (pc2 := 58) (lv2 := [(0, .ref 142), (1, vi x1), (2, vi x2), (3, vi x3)]) (st2 := [vi x2, .ref 153]) 1 (fun _ _ => rfl) ?_
        refine pr_aE (k2 := 153) (a := x2) (v := vi (t 153 x2.toNat)) hE rfl rfl rfl hx2 (by decide) rfl rfl rfl fun h5 h6 h4 => ?_
        have h4 : i32 (t 153 x2.toNat) := h4
        by_cases h7 : t 153 x2.toNat < 0
        · refine mq_t h7 ?_
          refine pr_if1t rfl rfl h4 h7 ?_
          refine pr_n (pc2 := 85) (lv2 := [(0, .ref 142), (1, vi x1), (2, vi x2), (3, vi x3)]) (st2 := [.ref 142]) 1 (fun _ _ => rfl) ?_
          refine pr_get (v := .ref 152) rfl rfl rfl (by decide) (rv_ref (hE.2.1 142 11 152 rfl)) fun _ => ?_
          refine pr_n (pc2 := 90) (lv2 := [(0, .ref 142), (1, vi x1), (2, vi x2), (3, vi x3)]) (st2 := [vi x1, vi x2, .ref 152]) 2 (fun _ _ => rfl) ?_
          refine pr_sE (k2 := 152) (a := x2) (z := x1) hE rfl (by decide) rfl rfl hx2 (by decide) rfl (show i32 (x1) from hx1) (n0 rfl (by omega) (by omega)) rfl rfl (fun e => absurd e.1 (by decide)) (fun _ => trivial) fun h8 h9 s10 hE10 => ?_
          refine pr_end (fun _ _ => rfl) ?_
          exact .inl ⟨_, 0, _, rfl, ⟨rfl, rfl⟩, rfl, hE10⟩
        · refine mq_f h7 ?_
          refine pr_if1f rfl rfl h4 h7 ?_
          refine pr_n (pc2 := 65) (lv2 := [(0, .ref 142), (1, vi x1), (2, vi x2), (3, vi x3)]) (st2 := [.ref 142, vi x1, .ref 142]) 3 (fun _ _ => rfl) ?_
          refine pr_get (v := .ref 153) rfl rfl rfl (by decide) (rv_ref (hE.2.1 142 12 153 rfl)) fun _ => ?_
          refine pr_n (pc2 := 69) (lv2 := [(0, .ref 142), (1, vi x1), (2, vi x2), (3, vi x3)]) (st2 := [vi x2, .ref 153, vi x1, .ref 142]) 1 (fun _ _ => rfl) ?_
          refine pr_aE (k2 := 153) (a := x2) (v := vi (t 153 x2.toNat)) hE rfl rfl rfl hx2 (by decide) rfl rfl rfl fun h12 h13 h11 => ?_
          have h11 : i32 (t 153 x2.toNat) := h11
          refine pr_n (pc2 := 71) (lv2 := [(0, .ref 142), (1, vi x1), (2, vi x2), (3, vi x3)]) (st2 := [vi x3, vi (t 153 x2.toNat), vi x1, .ref 142]) 1 (fun _ _ => rfl) ?_
          refine pr_s1 (args := [vi x1, vi (t 153 x2.toNat), vi x3]) (rest := []) rfl rfl rfl rfl (Nat.le_of_ble_eq_true rfl) rfl (h_106 s t x1 (t 153 x2.toNat) x3 hE hx1 h11 hx3) v_how ?_
          rintro _ s14 ⟨rfl, _⟩ hE14
          show pr K K d tb_M104 74 [(0, .ref 142), (1, vi x1), (2, vi x2), (3, vi x3)] [] s14 _
          refine pr_n (pc2 := 75) (lv2 := [(0, .ref 142), (1, vi x1), (2, vi x2), (3, vi x3)]) (st2 := [.ref 142]) 1 (fun _ _ => rfl) ?_
          refine pr_get (v := .ref 153) rfl rfl rfl (by decide) (rv_ref (hE14.2.1 142 12 153 rfl)) fun _ => ?_
          refine pr_n (pc2 := 80) (lv2 := [(0, .ref 142), (1, vi x1), (2, vi x2), (3, vi x3)]) (st2 := [vi ((-1)), vi x2, .ref 153]) 2 (fun _ _ => rfl) ?_
          refine pr_sE (k2 := 153) (a := x2) (z := (-1)) hE14 rfl (by decide) rfl rfl hx2 (by decide) rfl (show i32 ((-1)) from (i32_n rfl)) (n0 rfl (by omega) (by omega)) rfl rfl (fun e => absurd e.1 (by decide)) (fun _ => trivial) fun h15 h16 s17 hE17 => ?_
          refine pr_n (pc2 := 91) (lv2 := [(0, .ref 142), (1, vi x1), (2, vi x2), (3, vi x3)]) (st2 := []) 1 (fun _ _ => rfl) ?_
          refine pr_end (fun _ _ => rfl) ?_
          exact .inl ⟨_, 0, _, rfl, ⟨rfl, rfl⟩, rfl, hE17⟩
      · refine mq_f h3 ?_
        refine pr_if2f rfl rfl hx2 (i32_n rfl) h3 ?_
        refine pr_n (pc2 := 18) (lv2 := [(0, .ref 142), (1, vi x1), (2, vi x2), (3, vi x3)]) (st2 := [.ref 142]) 1 (fun _ _ => rfl) ?_
        refine pr_get (v := .ref 151) rfl rfl rfl (by decide) (rv_ref (hE.2.1 142 10 151 rfl)) fun _ => ?_
        refine pr_n (pc2 := 24) (lv2 := [(0, .ref 142), (1, vi x1), (2, vi x2), (3, vi x3)]) (st2 := [vi 8, vi x2, .ref 151]) 2 (fun _ _ => rfl) ?_
        refine pr_sub (a := x2) (b := 8) rfl ?_
        have h18 : i32 (x2 - 8) := by unfold i32 at *; omega
        show pr K K d tb_M104 25 [(0, .ref 142), (1, vi x1), (2, vi x2), (3, vi x3)] [vi (x2 - 8), .ref 151] s _
        refine pr_row (a := x2 - 8) (v := 162 + 2 * (x2 - 8).toNat) rfl rfl rfl rfl h18 (by decide) (fun h1 h2 => hE.2.1 _ _ _ (rcw_o (by omega))) fun h19 h20 => ?_
        show pr K K d tb_M104 26 [(0, .ref 142), (1, vi x1), (2, vi x2), (3, vi x3)] [.ref (162 + 2 * (x2 - 8).toNat)] s _
        refine pr_n (pc2 := 27) (lv2 := [(0, .ref 142), (1, vi x1), (2, vi x2), (3, vi x3)]) (st2 := [vi x3, .ref (162 + 2 * (x2 - 8).toNat)]) 1 (fun _ _ => rfl) ?_
        refine pr_i2s (a := x3) rfl ?_
        show pr K K d tb_M104 28 [(0, .ref 142), (1, vi x1), (2, vi x2), (3, vi x3)] [vi (i2s x3), .ref (162 + 2 * (x2 - 8).toNat)] s _
        refine pr_s1 (args := [vi (i2s x3)]) (rest := []) rfl rfl rfl (TGw_q (isQwo (by omega))) (Nat.le_of_ble_eq_true rfl) rfl (h_105 s t ((162 + 2 * (x2 - 8).toNat : Nat) : Int) (i2s x3) hE (isQwo (by omega)) i2s_i32) v_qad ?_
        rintro _ s21 ⟨rfl, hz21⟩ hE21
        show pr K K d tb_M104 31 [(0, .ref 142), (1, vi x1), (2, vi x2), (3, vi x3)] [vi (qaz t (((162 + 2 * (x2 - 8).toNat : Nat) : Int)))] s21 _
        by_cases h22 : qaz t (((162 + 2 * (x2 - 8).toNat : Nat) : Int)) = 0
        · refine mq_t h22 ?_
          refine pr_if1t rfl rfl (i32_z hz21) h22 ?_
          refine pr_n (pc2 := 44) (lv2 := [(0, .ref 142), (1, vi x1), (2, vi x2), (3, vi x3)]) (st2 := [.ref 142]) 1 (fun _ _ => rfl) ?_
          refine pr_get (v := .ref 152) rfl rfl rfl (by decide) (rv_ref (hE21.2.1 142 11 152 rfl)) fun _ => ?_
          refine pr_n (pc2 := 49) (lv2 := [(0, .ref 142), (1, vi x1), (2, vi x2), (3, vi x3)]) (st2 := [vi x1, vi x2, .ref 152]) 2 (fun _ _ => rfl) ?_
          refine pr_sE (k2 := 152) (a := x2) (z := x1) hE21 rfl (by decide) rfl rfl hx2 (by decide) rfl (show i32 (x1) from hx1) (n0 rfl (by omega) (by omega)) rfl rfl (fun e => absurd e.1 (by decide)) (fun _ => trivial) fun h23 h24 s25 hE25 => ?_
          refine pr_n (pc2 := 91) (lv2 := [(0, .ref 142), (1, vi x1), (2, vi x2), (3, vi x3)]) (st2 := []) 1 (fun _ _ => rfl) ?_
          refine pr_end (fun _ _ => rfl) ?_
          exact .inl ⟨_, 0, _, rfl, ⟨rfl, rfl⟩, rfl, hE25⟩
        · refine mq_f h22 ?_
          refine pr_if1f rfl rfl (i32_z hz21) h22 ?_
          refine pr_n (pc2 := 37) (lv2 := [(0, .ref 142), (1, vi x1), (2, vi x2), (3, vi x3)]) (st2 := [vi 0, vi x1, .ref 142]) 3 (fun _ _ => rfl) ?_
          refine pr_s1 (args := [vi x1, vi 0]) (rest := []) rfl rfl rfl rfl (Nat.le_of_ble_eq_true rfl) rfl (h_88 s21 ((qad t (((162 + 2 * (x2 - 8).toNat : Nat) : Int)) (i2s x3))) x1 0 hE21 hx1 (i32_n rfl)) v_tlw ?_
          rintro _ s26 ⟨rfl, _⟩ hE26
          show pr K K d tb_M104 40 [(0, .ref 142), (1, vi x1), (2, vi x2), (3, vi x3)] [] s26 _
          refine pr_n (pc2 := 91) (lv2 := [(0, .ref 142), (1, vi x1), (2, vi x2), (3, vi x3)]) (st2 := []) 1 (fun _ _ => rfl) ?_
          refine pr_end (fun _ _ => rfl) ?_
          exact .inl ⟨_, 0, _, rfl, ⟨rfl, rfl⟩, rfl, hE26⟩
    · refine mq_f h2 ?_
      refine pr_if2f rfl rfl hx2 (i32_n rfl) h2 ?_
      refine pr_end (fun _ _ => rfl) ?_
      exact .inl ⟨_, 0, _, rfl, ⟨rfl, rfl⟩, rfl, hE⟩
set_option maxHeartbeats 20000000 in
set_option maxRecDepth 100000 in
theorem wm107 {K d C : Nat} (h_88 : wT88 K d C) (h_90 : wT90 K d C) (h_100 : wT100 K d C) (h_106 : wT106 K d C) (h_108 : wT108 K d C) : wT107 K (d + 1) C := by
  intro s t x1 x2 hE hx1 hx2
  have hC : C = 99 ∨ C = 115 := hE.1
  refine pcr_of (M := tb_M107) rfl ?_
  show pr K K d tb_M107 0 [(0, .ref 142), (1, vi x1), (2, vi x2)] [] s _
  rw [wG_107]
  unfold wM107
  refine pr_n (pc2 := 1) (lv2 := [(0, .ref 142), (1, vi x1), (2, vi x2)]) (st2 := [vi x2]) 1 (fun _ _ => rfl) ?_
  by_cases h1 : x2 < 0
  · refine mq_t h1 ?_
    refine pr_if1t rfl rfl hx2 h1 ?_
    refine pr_end (fun _ _ => rfl) ?_
    exact .inl ⟨_, 0, _, rfl, ⟨rfl, rfl⟩, rfl, hE⟩
  · refine mq_f h1 ?_
    refine pr_if1f rfl rfl hx2 h1 ?_
    refine pr_n (pc2 := 7) (lv2 := [(0, .ref 142), (1, vi x1), (2, vi x2)]) (st2 := [vi 12, vi x2]) 2 (fun _ _ => rfl) ?_
    by_cases h2 : x2 < 12
    · refine mq_t h2 ?_
      refine pr_if2t rfl rfl hx2 (i32_n rfl) h2 ?_
      refine pr_n (pc2 := 14) (lv2 := [(0, .ref 142), (1, vi x1), (2, vi x2)]) (st2 := [vi 8, vi x2]) 2 (fun _ _ => rfl) ?_
      by_cases h3 : x2 < 8
      · refine mq_t h3 ?_
        refine pr_if2t rfl rfl hx2 (i32_n rfl) h3 ?_
        refine pr_n (pc2 := 84) (lv2 := [(0, .ref 142), (1, vi x1), (2, vi x2)]) (st2 := [.ref 142]) 1 (fun _ _ => rfl) ?_
        refine pr_get (v := .ref 152) rfl rfl rfl (by decide) (rv_ref (hE.2.1 142 11 152 rfl)) fun _ => ?_
        refine pr_n (pc2 := 88) (lv2 := [(0, .ref 142), (1, vi x1), (2, vi x2)]) (st2 := [vi x2, .ref 152]) 1 (fun _ _ => rfl) ?_
        refine pr_aE (k2 := 152) (a := x2) (v := vi (t 152 x2.toNat)) hE rfl rfl rfl hx2 (by decide) rfl rfl rfl fun h5 h6 h4 => ?_
        have h4 : i32 (t 152 x2.toNat) := h4
        by_cases h7 : t 152 x2.toNat < 0
        · refine mq_t h7 ?_
          refine pr_if1t rfl rfl h4 h7 ?_
          refine pr_n (pc2 := 132) (lv2 := [(0, .ref 142), (1, vi x1), (2, vi x2)]) (st2 := [.ref 142]) 1 (fun _ _ => rfl) ?_
          refine pr_get (v := .ref 153) rfl rfl rfl (by decide) (rv_ref (hE.2.1 142 12 153 rfl)) fun _ => ?_
          refine pr_n (pc2 := 137) (lv2 := [(0, .ref 142), (1, vi x1), (2, vi x2)]) (st2 := [vi x1, vi x2, .ref 153]) 2 (fun _ _ => rfl) ?_
          refine pr_sE (k2 := 153) (a := x2) (z := x1) hE rfl (by decide) rfl rfl hx2 (by decide) rfl (show i32 (x1) from hx1) (n0 rfl (by omega) (by omega)) rfl rfl (fun e => absurd e.1 (by decide)) (fun _ => trivial) fun h8 h9 s10 hE10 => ?_
          refine pr_end (fun _ _ => rfl) ?_
          exact .inl ⟨_, 0, _, rfl, ⟨rfl, rfl⟩, rfl, hE10⟩
        · refine mq_f h7 ?_
          refine pr_if1f rfl rfl h4 h7 ?_
          refine pr_n (pc2 := 94) (lv2 := [(0, .ref 142), (1, vi x1), (2, vi x2)]) (st2 := [.ref 142, .ref 142]) 2 (fun _ _ => rfl) ?_
          refine pr_get (v := .ref 152) rfl rfl rfl (by decide) (rv_ref (hE.2.1 142 11 152 rfl)) fun _ => ?_
          refine pr_n (pc2 := 98) (lv2 := [(0, .ref 142), (1, vi x1), (2, vi x2)]) (st2 := [vi x2, .ref 152, .ref 142]) 1 (fun _ _ => rfl) ?_
          refine pr_aE (k2 := 152) (a := x2) (v := vi (t 152 x2.toNat)) hE rfl rfl rfl hx2 (by decide) rfl rfl rfl fun h12 h13 h11 => ?_
          have h11 : i32 (t 152 x2.toNat) := h11
          refine pr_n (pc2 := 102) (lv2 := [(0, .ref 142), (1, vi x1), (2, vi x2)]) (st2 := [.ref 142, .ref 142, vi x1, vi (t 152 x2.toNat), .ref 142]) 3 (fun _ _ => rfl) ?_
          refine pr_get (v := .ref C) rfl rfl rfl (by decide) (rv_ref (show s.1 142 0 = ((C : Nat) : Int) from hE.2.2.1)) fun _ => ?_
          refine pr_get (v := .ref (C + 3)) rfl rfl (TK0 hC) (by decide) (rv_ref (hE.2.1 C 2 (C + 3) (rcK hC (by omega)))) fun _ => ?_
          refine pr_n (pc2 := 109) (lv2 := [(0, .ref 142), (1, vi x1), (2, vi x2)]) (st2 := [.ref 142, .ref (C + 3), .ref 142, vi x1, vi (t 152 x2.toNat), .ref 142]) 1 (fun _ _ => rfl) ?_
          refine pr_get (v := .ref 152) rfl rfl rfl (by decide) (rv_ref (hE.2.1 142 11 152 rfl)) fun _ => ?_
          refine pr_n (pc2 := 113) (lv2 := [(0, .ref 142), (1, vi x1), (2, vi x2)]) (st2 := [vi x2, .ref 152, .ref (C + 3), .ref 142, vi x1, vi (t 152 x2.toNat), .ref 142]) 1 (fun _ _ => rfl) ?_
          refine pr_aE (k2 := 152) (a := x2) (v := vi (t 152 x2.toNat)) hE rfl rfl rfl hx2 (by decide) rfl rfl rfl fun h15 h16 h14 => ?_
          have h14 : i32 (t 152 x2.toNat) := h14
          refine pr_aE (k2 := 102) (a := t 152 x2.toNat) (v := vi (t 102 ((t 152 x2.toNat).toNat))) hE rfl (TK3 hC) rfl h14 (by decide) rfl rfl rfl fun h18 h19 h17 => ?_
          have h17 : i32 (t 102 ((t 152 x2.toNat).toNat)) := h17
          refine pr_s1 (args := [vi (t 102 ((t 152 x2.toNat).toNat))]) (rest := [vi x1, vi (t 152 x2.toNat), .ref 142]) rfl rfl rfl rfl (Nat.le_of_ble_eq_true rfl) rfl (h_90 s t (t 102 ((t 152 x2.toNat).toNat)) hE h17) v_vax ?_
          rintro _ s20 ⟨rfl, hz20⟩ hE20
          show pr K K d tb_M107 118 [(0, .ref 142), (1, vi x1), (2, vi x2)] [vi (vax t (t 102 ((t 152 x2.toNat).toNat))), vi x1, vi (t 152 x2.toNat), .ref 142] s20 _
          refine pr_s1 (args := [vi (t 152 x2.toNat), vi x1, vi (vax t (t 102 ((t 152 x2.toNat).toNat)))]) (rest := []) rfl rfl rfl rfl (Nat.le_of_ble_eq_true rfl) rfl (h_106 s20 t (t 152 x2.toNat) x1 (vax t (t 102 ((t 152 x2.toNat).toNat))) hE20 h14 hx1 hz20) v_how ?_
          rintro _ s21 ⟨rfl, _⟩ hE21
          show pr K K d tb_M107 121 [(0, .ref 142), (1, vi x1), (2, vi x2)] [] s21 _
          refine pr_n (pc2 := 122) (lv2 := [(0, .ref 142), (1, vi x1), (2, vi x2)]) (st2 := [.ref 142]) 1 (fun _ _ => rfl) ?_
          refine pr_get (v := .ref 152) rfl rfl rfl (by decide) (rv_ref (hE21.2.1 142 11 152 rfl)) fun _ => ?_
          refine pr_n (pc2 := 127) (lv2 := [(0, .ref 142), (1, vi x1), (2, vi x2)]) (st2 := [vi ((-1)), vi x2, .ref 152]) 2 (fun _ _ => rfl) ?_
          refine pr_sE (k2 := 152) (a := x2) (z := (-1)) hE21 rfl (by decide) rfl rfl hx2 (by decide) rfl (show i32 ((-1)) from (i32_n rfl)) (n0 rfl (by omega) (by omega)) rfl rfl (fun e => absurd e.1 (by decide)) (fun _ => trivial) fun h22 h23 s24 hE24 => ?_
          refine pr_n (pc2 := 138) (lv2 := [(0, .ref 142), (1, vi x1), (2, vi x2)]) (st2 := []) 1 (fun _ _ => rfl) ?_
          refine pr_end (fun _ _ => rfl) ?_
          exact .inl ⟨_, 0, _, rfl, ⟨rfl, rfl⟩, rfl, hE24⟩
      · refine mq_f h3 ?_
        refine pr_if2f rfl rfl hx2 (i32_n rfl) h3 ?_
        refine pr_n (pc2 := 18) (lv2 := [(0, .ref 142), (1, vi x1), (2, vi x2)]) (st2 := [.ref 142]) 1 (fun _ _ => rfl) ?_
        refine pr_get (v := .ref 150) rfl rfl rfl (by decide) (rv_ref (hE.2.1 142 9 150 rfl)) fun _ => ?_
        refine pr_n (pc2 := 24) (lv2 := [(0, .ref 142), (1, vi x1), (2, vi x2)]) (st2 := [vi 8, vi x2, .ref 150]) 2 (fun _ _ => rfl) ?_
        refine pr_sub (a := x2) (b := 8) rfl ?_
        have h25 : i32 (x2 - 8) := by unfold i32 at *; omega
        show pr K K d tb_M107 25 [(0, .ref 142), (1, vi x1), (2, vi x2)] [vi (x2 - 8), .ref 150] s _
        refine pr_row (a := x2 - 8) (v := 154 + 2 * (x2 - 8).toNat) rfl rfl rfl rfl h25 (by decide) (fun h1 h2 => hE.2.1 _ _ _ (rcw_i (by omega))) fun h26 h27 => ?_
        show pr K K d tb_M107 26 [(0, .ref 142), (1, vi x1), (2, vi x2)] [.ref (154 + 2 * (x2 - 8).toNat)] s _
        refine pr_n (pc2 := 28) (lv2 := [(3, .ref (154 + 2 * (x2 - 8).toNat)), (0, .ref 142), (1, vi x1), (2, vi x2)]) (st2 := [.ref (154 + 2 * (x2 - 8).toNat)]) 2 (fun _ _ => rfl) ?_
        refine pr_gE (k2 := (154 + 2 * (x2 - 8).toNat)) (v := vi (t (154 + 2 * (x2 - 8).toNat) 2)) hE rfl rfl (TGw_q (isQwi (by omega))) (by decide) (pv_q (isQwi (by omega))) (rw_q (isQwi (by omega)) (by decide)) rfl fun h28 => ?_
        have h28 : i32 (t (154 + 2 * (x2 - 8).toNat) 2) := h28
        by_cases h29 : t (154 + 2 * (x2 - 8).toNat) 2 ≤ 0
        · refine mq_t h29 ?_
          refine pr_if1t rfl rfl h28 h29 ?_
          refine pr_n (pc2 := 74) (lv2 := [(3, .ref (154 + 2 * (x2 - 8).toNat)), (0, .ref 142), (1, vi x1), (2, vi x2)]) (st2 := [.ref 142]) 1 (fun _ _ => rfl) ?_
          refine pr_get (v := .ref 153) rfl rfl rfl (by decide) (rv_ref (hE.2.1 142 12 153 rfl)) fun _ => ?_
          refine pr_n (pc2 := 79) (lv2 := [(3, .ref (154 + 2 * (x2 - 8).toNat)), (0, .ref 142), (1, vi x1), (2, vi x2)]) (st2 := [vi x1, vi x2, .ref 153]) 2 (fun _ _ => rfl) ?_
          refine pr_sE (k2 := 153) (a := x2) (z := x1) hE rfl (by decide) rfl rfl hx2 (by decide) rfl (show i32 (x1) from hx1) (n0 rfl (by omega) (by omega)) rfl rfl (fun e => absurd e.1 (by decide)) (fun _ => trivial) fun h30 h31 s32 hE32 => ?_
          refine pr_n (pc2 := 138) (lv2 := [(3, .ref (154 + 2 * (x2 - 8).toNat)), (0, .ref 142), (1, vi x1), (2, vi x2)]) (st2 := []) 1 (fun _ _ => rfl) ?_
          refine pr_end (fun _ _ => rfl) ?_
          exact .inl ⟨_, 0, _, rfl, ⟨rfl, rfl⟩, rfl, hE32⟩
        · refine mq_f h29 ?_
          refine pr_if1f rfl rfl h28 h29 ?_
          refine pr_n (pc2 := 36) (lv2 := [(3, .ref (154 + 2 * (x2 - 8).toNat)), (0, .ref 142), (1, vi x1), (2, vi x2)]) (st2 := [.ref 142, .ref 142]) 2 (fun _ _ => rfl) ?_
          refine pr_get (v := .ref C) rfl rfl rfl (by decide) (rv_ref (show s.1 142 0 = ((C : Nat) : Int) from hE.2.2.1)) fun _ => ?_
          refine pr_get (v := .ref (C + 3)) rfl rfl (TK0 hC) (by decide) (rv_ref (hE.2.1 C 2 (C + 3) (rcK hC (by omega)))) fun _ => ?_
          refine pr_n (pc2 := 43) (lv2 := [(3, .ref (154 + 2 * (x2 - 8).toNat)), (0, .ref 142), (1, vi x1), (2, vi x2)]) (st2 := [vi x1, .ref (C + 3), .ref 142]) 1 (fun _ _ => rfl) ?_
          refine pr_aE (k2 := 102) (a := x1) (v := vi (t 102 x1.toNat)) hE rfl (TK3 hC) rfl hx1 (by decide) rfl rfl rfl fun h34 h35 h33 => ?_
          have h33 : i32 (t 102 x1.toNat) := h33
          refine pr_n (pc2 := 46) (lv2 := [(3, .ref (154 + 2 * (x2 - 8).toNat)), (0, .ref 142), (1, vi x1), (2, vi x2)]) (st2 := [.ref 142, .ref 142, vi (t 102 x1.toNat), .ref 142]) 2 (fun _ _ => rfl) ?_
          refine pr_get (v := .ref C) rfl rfl rfl (by decide) (rv_ref (show s.1 142 0 = ((C : Nat) : Int) from hE.2.2.1)) fun _ => ?_
          refine pr_get (v := .ref (C + 4)) rfl rfl (TK0 hC) (by decide) (rv_ref (hE.2.1 C 3 (C + 4) (rcK hC (by omega)))) fun _ => ?_
          refine pr_n (pc2 := 53) (lv2 := [(3, .ref (154 + 2 * (x2 - 8).toNat)), (0, .ref 142), (1, vi x1), (2, vi x2)]) (st2 := [vi x1, .ref (C + 4), .ref 142, vi (t 102 x1.toNat), .ref 142]) 1 (fun _ _ => rfl) ?_
          refine pr_aE (k2 := 103) (a := x1) (v := vi (t 103 x1.toNat)) hE rfl (TK4 hC) rfl hx1 (by decide) rfl rfl rfl fun h37 h38 h36 => ?_
          have h36 : i32 (t 103 x1.toNat) := h36
          refine pr_s1 (args := [vi (t 103 x1.toNat)]) (rest := [vi (t 102 x1.toNat), .ref 142]) rfl rfl rfl rfl (Nat.le_of_ble_eq_true rfl) rfl (h_90 s t (t 103 x1.toNat) hE h36) v_vax ?_
          rintro _ s39 ⟨rfl, hz39⟩ hE39
          show pr K K d tb_M107 57 [(3, .ref (154 + 2 * (x2 - 8).toNat)), (0, .ref 142), (1, vi x1), (2, vi x2)] [vi (vax t (t 103 x1.toNat)), vi (t 102 x1.toNat), .ref 142] s39 _
          refine pr_n (pc2 := 58) (lv2 := [(3, .ref (154 + 2 * (x2 - 8).toNat)), (0, .ref 142), (1, vi x1), (2, vi x2)]) (st2 := [.ref (154 + 2 * (x2 - 8).toNat), vi (vax t (t 103 x1.toNat)), vi (t 102 x1.toNat), .ref 142]) 1 (fun _ _ => rfl) ?_
          refine pr_s1 (args := []) (rest := [vi (vax t (t 103 x1.toNat)), vi (t 102 x1.toNat), .ref 142]) rfl rfl rfl (TGw_q (isQwi (by omega))) (Nat.le_of_ble_eq_true rfl) rfl (h_108 s39 t ((154 + 2 * (x2 - 8).toNat : Nat) : Int) hE39 (isQwi (by omega))) v_qrm ?_
          rintro _ s40 ⟨rfl, hz40⟩ hE40
          show pr K K d tb_M107 61 [(3, .ref (154 + 2 * (x2 - 8).toNat)), (0, .ref 142), (1, vi x1), (2, vi x2)] [vi (qrz t (((154 + 2 * (x2 - 8).toNat : Nat) : Int))), vi (vax t (t 103 x1.toNat)), vi (t 102 x1.toNat), .ref 142] s40 _
          refine pr_s1 (args := [vi (t 102 x1.toNat), vi (vax t (t 103 x1.toNat)), vi (qrz t (((154 + 2 * (x2 - 8).toNat : Nat) : Int)))]) (rest := []) rfl rfl rfl rfl (Nat.le_of_ble_eq_true rfl) rfl (h_100 s40 ((qrm t (((154 + 2 * (x2 - 8).toNat : Nat) : Int)))) (t 102 x1.toNat) (vax t (t 103 x1.toNat)) (qrz t (((154 + 2 * (x2 - 8).toNat : Nat) : Int))) hE40 h33 hz39 hz40) v_asw ?_
          rintro _ s41 ⟨rfl, _⟩ hE41
          show pr K K d tb_M107 64 [(3, .ref (154 + 2 * (x2 - 8).toNat)), (0, .ref 142), (1, vi x1), (2, vi x2)] [] s41 _
          refine pr_n (pc2 := 67) (lv2 := [(3, .ref (154 + 2 * (x2 - 8).toNat)), (0, .ref 142), (1, vi x1), (2, vi x2)]) (st2 := [vi 0, vi x1, .ref 142]) 3 (fun _ _ => rfl) ?_
          refine pr_s1 (args := [vi x1, vi 0]) (rest := []) rfl rfl rfl rfl (Nat.le_of_ble_eq_true rfl) rfl (h_88 s41 ((asw ((qrm t (((154 + 2 * (x2 - 8).toNat : Nat) : Int)))) (t 102 x1.toNat) (vax t (t 103 x1.toNat)) (qrz t (((154 + 2 * (x2 - 8).toNat : Nat) : Int))))) x1 0 hE41 hx1 (i32_n rfl)) v_tlw ?_
          rintro _ s42 ⟨rfl, _⟩ hE42
          show pr K K d tb_M107 70 [(3, .ref (154 + 2 * (x2 - 8).toNat)), (0, .ref 142), (1, vi x1), (2, vi x2)] [] s42 _
          refine pr_n (pc2 := 138) (lv2 := [(3, .ref (154 + 2 * (x2 - 8).toNat)), (0, .ref 142), (1, vi x1), (2, vi x2)]) (st2 := []) 2 (fun _ _ => rfl) ?_
          refine pr_end (fun _ _ => rfl) ?_
          exact .inl ⟨_, 0, _, rfl, ⟨rfl, rfl⟩, rfl, hE42⟩
    · refine mq_f h2 ?_
      refine pr_if2f rfl rfl hx2 (i32_n rfl) h2 ?_
      refine pr_end (fun _ _ => rfl) ?_
      exact .inl ⟨_, 0, _, rfl, ⟨rfl, rfl⟩, rfl, hE⟩
set_option maxHeartbeats 20000000 in
set_option maxRecDepth 100000 in
theorem wm87 {K d C : Nat} (h_83 : wT83 K d C) (h_88 : wT88 K d C) (h_89 : wT89 K d C) (h_90 : wT90 K d C) (h_91 : wT91 K d C) (h_93 : wT93 K d C) (h_95 : wT95 K d C) : wT87 K (d + 1) C := by
  intro s t x1 x2 hE hx1 hx2
  have hC : C = 99 ∨ C = 115 := hE.1
  refine pcr_of (M := tb_M87) rfl ?_
  show pr K K d tb_M87 0 [(0, .ref 142), (1, vi x1), (2, vi x2)] [] s _
  rw [wG_87]
  unfold wM87
  refine pr_n (pc2 := 1) (lv2 := [(0, .ref 142), (1, vi x1), (2, vi x2)]) (st2 := [.ref 142]) 1 (fun _ _ => rfl) ?_
  refine pr_get (v := .ref C) rfl rfl rfl (by decide) (rv_ref (show s.1 142 0 = ((C : Nat) : Int) from hE.2.2.1)) fun _ => ?_
  refine pr_get (v := .ref (C + 2)) rfl rfl (TK0 hC) (by decide) (rv_ref (hE.2.1 C 1 (C + 2) (rcK hC (by omega)))) fun _ => ?_
  refine pr_n (pc2 := 8) (lv2 := [(0, .ref 142), (1, vi x1), (2, vi x2)]) (st2 := [vi x1, .ref (C + 2)]) 1 (fun _ _ => rfl) ?_
  refine pr_aE (k2 := 101) (a := x1) (v := vi (t 101 x1.toNat)) hE rfl (TK2 hC) rfl hx1 (by decide) rfl rfl rfl fun h2 h3 h1 => ?_
  have h1 : i32 (t 101 x1.toNat) := h1
  refine pr_n (pc2 := 11) (lv2 := [(3, vi (t 101 x1.toNat)), (0, .ref 142), (1, vi x1), (2, vi x2)]) (st2 := [.ref 142]) 2 (fun _ _ => rfl) ?_
  refine pr_get (v := .ref C) rfl rfl rfl (by decide) (rv_ref (show s.1 142 0 = ((C : Nat) : Int) from hE.2.2.1)) fun _ => ?_
  refine pr_get (v := .ref (C + 3)) rfl rfl (TK0 hC) (by decide) (rv_ref (hE.2.1 C 2 (C + 3) (rcK hC (by omega)))) fun _ => ?_
  refine pr_n (pc2 := 18) (lv2 := [(3, vi (t 101 x1.toNat)), (0, .ref 142), (1, vi x1), (2, vi x2)]) (st2 := [vi x1, .ref (C + 3)]) 1 (fun _ _ => rfl) ?_
  refine pr_aE (k2 := 102) (a := x1) (v := vi (t 102 x1.toNat)) hE rfl (TK3 hC) rfl hx1 (by decide) rfl rfl rfl fun h5 h6 h4 => ?_
  have h4 : i32 (t 102 x1.toNat) := h4
  refine pr_n (pc2 := 22) (lv2 := [(4, vi (t 102 x1.toNat)), (3, vi (t 101 x1.toNat)), (0, .ref 142), (1, vi x1), (2, vi x2)]) (st2 := [.ref 142]) 2 (fun _ _ => rfl) ?_
  refine pr_get (v := .ref C) rfl rfl rfl (by decide) (rv_ref (show s.1 142 0 = ((C : Nat) : Int) from hE.2.2.1)) fun _ => ?_
  refine pr_get (v := .ref (C + 4)) rfl rfl (TK0 hC) (by decide) (rv_ref (hE.2.1 C 3 (C + 4) (rcK hC (by omega)))) fun _ => ?_
  refine pr_n (pc2 := 29) (lv2 := [(4, vi (t 102 x1.toNat)), (3, vi (t 101 x1.toNat)), (0, .ref 142), (1, vi x1), (2, vi x2)]) (st2 := [vi x1, .ref (C + 4)]) 1 (fun _ _ => rfl) ?_
  refine pr_aE (k2 := 103) (a := x1) (v := vi (t 103 x1.toNat)) hE rfl (TK4 hC) rfl hx1 (by decide) rfl rfl rfl fun h8 h9 h7 => ?_
  have h7 : i32 (t 103 x1.toNat) := h7
  refine pr_n (pc2 := 33) (lv2 := [(5, vi (t 103 x1.toNat)), (4, vi (t 102 x1.toNat)), (3, vi (t 101 x1.toNat)), (0, .ref 142), (1, vi x1), (2, vi x2)]) (st2 := [.ref 142]) 2 (fun _ _ => rfl) ?_
  refine pr_get (v := .ref C) rfl rfl rfl (by decide) (rv_ref (show s.1 142 0 = ((C : Nat) : Int) from hE.2.2.1)) fun _ => ?_
  refine pr_get (v := .ref (C + 1)) rfl rfl (TK0 hC) (by decide) (rv_ref (hE.2.1 C 0 (C + 1) (rcK hC (by omega)))) fun _ => ?_
  refine pr_n (pc2 := 40) (lv2 := [(5, vi (t 103 x1.toNat)), (4, vi (t 102 x1.toNat)), (3, vi (t 101 x1.toNat)), (0, .ref 142), (1, vi x1), (2, vi x2)]) (st2 := [vi x1, .ref (C + 1)]) 1 (fun _ _ => rfl) ?_
  refine pr_aE (k2 := 100) (a := x1) (v := vi (t 100 x1.toNat)) hE rfl (TK1 hC) rfl hx1 (by decide) rfl rfl rfl fun h11 h12 h10 => ?_
  have h10 : i32 (t 100 x1.toNat) := h10
  by_cases h13 : t 100 x1.toNat = 2
  · refine mq_t h13 ?_
    refine pr_lsw rfl (by decide) h10 (by rw [h13]) rfl ?_
    refine pr_n (pc2 := 79) (lv2 := [(5, vi (t 103 x1.toNat)), (4, vi (t 102 x1.toNat)), (3, vi (t 101 x1.toNat)), (0, .ref 142), (1, vi x1), (2, vi x2)]) (st2 := [vi (t 101 x1.toNat), vi x1, .ref 142]) 3 (fun _ _ => rfl) ?_
    refine pr_s1 (args := [vi x1, vi (t 101 x1.toNat)]) (rest := []) rfl rfl rfl rfl (Nat.le_of_ble_eq_true rfl) rfl (h_88 s t x1 (t 101 x1.toNat) hE hx1 h1) v_tlw ?_
    rintro _ s14 ⟨rfl, _⟩ hE14
    show pr K K d tb_M87 82 [(5, vi (t 103 x1.toNat)), (4, vi (t 102 x1.toNat)), (3, vi (t 101 x1.toNat)), (0, .ref 142), (1, vi x1), (2, vi x2)] [] s14 _
    refine pr_n (pc2 := 204) (lv2 := [(5, vi (t 103 x1.toNat)), (4, vi (t 102 x1.toNat)), (3, vi (t 101 x1.toNat)), (0, .ref 142), (1, vi x1), (2, vi x2)]) (st2 := []) 1 (fun _ _ => rfl) ?_
    refine pr_end (fun _ _ => rfl) ?_
    exact .inl ⟨_, 0, _, rfl, ⟨rfl, rfl⟩, rfl, hE14⟩
  · refine mq_f h13 ?_
    by_cases h15 : t 100 x1.toNat = 400
    · refine mq_t h15 ?_
      refine pr_lsw rfl (by decide) h10 (by rw [h15]) rfl ?_
      refine pr_n (pc2 := 89) (lv2 := [(5, vi (t 103 x1.toNat)), (4, vi (t 102 x1.toNat)), (3, vi (t 101 x1.toNat)), (0, .ref 142), (1, vi x1), (2, vi x2)]) (st2 := [vi (t 101 x1.toNat), .ref 142, vi x1, .ref 142]) 4 (fun _ _ => rfl) ?_
      refine pr_s1 (args := [vi (t 101 x1.toNat)]) (rest := [vi x1, .ref 142]) rfl rfl rfl rfl (Nat.le_of_ble_eq_true rfl) rfl (h_89 s t (t 101 x1.toNat) hE h1) v_vrx ?_
      rintro _ s16 ⟨rfl, hz16⟩ hE16
      show pr K K d tb_M87 92 [(5, vi (t 103 x1.toNat)), (4, vi (t 102 x1.toNat)), (3, vi (t 101 x1.toNat)), (0, .ref 142), (1, vi x1), (2, vi x2)] [vi (vrx t (t 101 x1.toNat)), vi x1, .ref 142] s16 _
      refine pr_s1 (args := [vi x1, vi (vrx t (t 101 x1.toNat))]) (rest := []) rfl rfl rfl rfl (Nat.le_of_ble_eq_true rfl) rfl (h_88 s16 t x1 (vrx t (t 101 x1.toNat)) hE16 hx1 hz16) v_tlw ?_
      rintro _ s17 ⟨rfl, _⟩ hE17
      show pr K K d tb_M87 95 [(5, vi (t 103 x1.toNat)), (4, vi (t 102 x1.toNat)), (3, vi (t 101 x1.toNat)), (0, .ref 142), (1, vi x1), (2, vi x2)] [] s17 _
      refine pr_n (pc2 := 204) (lv2 := [(5, vi (t 103 x1.toNat)), (4, vi (t 102 x1.toNat)), (3, vi (t 101 x1.toNat)), (0, .ref 142), (1, vi x1), (2, vi x2)]) (st2 := []) 1 (fun _ _ => rfl) ?_
      refine pr_end (fun _ _ => rfl) ?_
      exact .inl ⟨_, 0, _, rfl, ⟨rfl, rfl⟩, rfl, hE17⟩
    · refine mq_f h15 ?_
      by_cases h18 : t 100 x1.toNat = 403
      · refine mq_t h18 ?_
        refine pr_lsw rfl (by decide) h10 (by rw [h18]) rfl ?_
        refine pr_n (pc2 := 100) (lv2 := [(5, vi (t 103 x1.toNat)), (4, vi (t 102 x1.toNat)), (3, vi (t 101 x1.toNat)), (0, .ref 142), (1, vi x1), (2, vi x2)]) (st2 := [vi 2, vi x2]) 2 (fun _ _ => rfl) ?_
        by_cases h19 : 2 ≤ x2
        · refine mq_t h19 ?_
          refine pr_if2t rfl rfl hx2 (i32_n rfl) h19 ?_
          refine pr_n (pc2 := 128) (lv2 := [(5, vi (t 103 x1.toNat)), (4, vi (t 102 x1.toNat)), (3, vi (t 101 x1.toNat)), (0, .ref 142), (1, vi x1), (2, vi x2)]) (st2 := [vi (t 102 x1.toNat), .ref 142, vi (t 101 x1.toNat), vi x1, .ref 142]) 5 (fun _ _ => rfl) ?_
          refine pr_s1 (args := [vi (t 102 x1.toNat)]) (rest := [vi (t 101 x1.toNat), vi x1, .ref 142]) rfl rfl rfl rfl (Nat.le_of_ble_eq_true rfl) rfl (h_90 s t (t 102 x1.toNat) hE h4) v_vax ?_
          rintro _ s20 ⟨rfl, hz20⟩ hE20
          show pr K K d tb_M87 131 [(5, vi (t 103 x1.toNat)), (4, vi (t 102 x1.toNat)), (3, vi (t 101 x1.toNat)), (0, .ref 142), (1, vi x1), (2, vi x2)] [vi (vax t (t 102 x1.toNat)), vi (t 101 x1.toNat), vi x1, .ref 142] s20 _
          refine pr_n (pc2 := 134) (lv2 := [(5, vi (t 103 x1.toNat)), (4, vi (t 102 x1.toNat)), (3, vi (t 101 x1.toNat)), (0, .ref 142), (1, vi x1), (2, vi x2)]) (st2 := [vi (t 103 x1.toNat), .ref 142, vi (vax t (t 102 x1.toNat)), vi (t 101 x1.toNat), vi x1, .ref 142]) 2 (fun _ _ => rfl) ?_
          refine pr_s1 (args := [vi (t 103 x1.toNat)]) (rest := [vi (vax t (t 102 x1.toNat)), vi (t 101 x1.toNat), vi x1, .ref 142]) rfl rfl rfl rfl (Nat.le_of_ble_eq_true rfl) rfl (h_90 s20 t (t 103 x1.toNat) hE20 h7) v_vax ?_
          rintro _ s21 ⟨rfl, hz21⟩ hE21
          show pr K K d tb_M87 137 [(5, vi (t 103 x1.toNat)), (4, vi (t 102 x1.toNat)), (3, vi (t 101 x1.toNat)), (0, .ref 142), (1, vi x1), (2, vi x2)] [vi (vax t (t 103 x1.toNat)), vi (vax t (t 102 x1.toNat)), vi (t 101 x1.toNat), vi x1, .ref 142] s21 _
          refine pr_s0 (args := [vi (t 101 x1.toNat), vi (vax t (t 102 x1.toNat)), vi (vax t (t 103 x1.toNat))]) (rest := [vi x1, .ref 142]) rfl rfl rfl (Nat.le_of_ble_eq_true rfl) rfl (h_91 s21 t (t 101 x1.toNat) (vax t (t 102 x1.toNat)) (vax t (t 103 x1.toNat)) hE21 h1 hz20 hz21) v_s2x ?_
          rintro _ s22 ⟨rfl, hz22⟩ hE22
          show pr K K d tb_M87 140 [(5, vi (t 103 x1.toNat)), (4, vi (t 102 x1.toNat)), (3, vi (t 101 x1.toNat)), (0, .ref 142), (1, vi x1), (2, vi x2)] [vi (s2x (t 101 x1.toNat) (vax t (t 102 x1.toNat)) (vax t (t 103 x1.toNat))), vi x1, .ref 142] s22 _
          refine pr_s1 (args := [vi x1, vi (s2x (t 101 x1.toNat) (vax t (t 102 x1.toNat)) (vax t (t 103 x1.toNat)))]) (rest := []) rfl rfl rfl rfl (Nat.le_of_ble_eq_true rfl) rfl (h_88 s22 t x1 (s2x (t 101 x1.toNat) (vax t (t 102 x1.toNat)) (vax t (t 103 x1.toNat))) hE22 hx1 hz22) v_tlw ?_
          rintro _ s23 ⟨rfl, _⟩ hE23
          show pr K K d tb_M87 143 [(5, vi (t 103 x1.toNat)), (4, vi (t 102 x1.toNat)), (3, vi (t 101 x1.toNat)), (0, .ref 142), (1, vi x1), (2, vi x2)] [] s23 _
          refine pr_n (pc2 := 204) (lv2 := [(5, vi (t 103 x1.toNat)), (4, vi (t 102 x1.toNat)), (3, vi (t 101 x1.toNat)), (0, .ref 142), (1, vi x1), (2, vi x2)]) (st2 := []) 1 (fun _ _ => rfl) ?_
          refine pr_end (fun _ _ => rfl) ?_
          exact .inl ⟨_, 0, _, rfl, ⟨rfl, rfl⟩, rfl, hE23⟩
        · refine mq_f h19 ?_
          refine pr_if2f rfl rfl hx2 (i32_n rfl) h19 ?_
          refine pr_n (pc2 := 105) (lv2 := [(5, vi (t 103 x1.toNat)), (4, vi (t 102 x1.toNat)), (3, vi (t 101 x1.toNat)), (0, .ref 142), (1, vi x1), (2, vi x2)]) (st2 := [vi x2, .ref 142]) 2 (fun _ _ => rfl) ?_
          by_cases h24 : x2 ≠ 0
          · refine mq_t h24 ?_
            refine pr_if1t rfl rfl hx2 h24 ?_
            refine pr_n (pc2 := 116) (lv2 := [(5, vi (t 103 x1.toNat)), (4, vi (t 102 x1.toNat)), (3, vi (t 101 x1.toNat)), (0, .ref 142), (1, vi x1), (2, vi x2)]) (st2 := [vi x1, vi (t 103 x1.toNat), .ref 142]) 2 (fun _ _ => rfl) ?_
            refine pr_s1 (args := [vi (t 103 x1.toNat), vi x1]) (rest := []) rfl rfl rfl rfl (Nat.le_of_ble_eq_true rfl) rfl (h_83 s t (t 103 x1.toNat) x1 hE h7 hx1) v_akw ?_
            rintro _ s25 ⟨rfl, _⟩ hE25
            show pr K K d tb_M87 119 [(5, vi (t 103 x1.toNat)), (4, vi (t 102 x1.toNat)), (3, vi (t 101 x1.toNat)), (0, .ref 142), (1, vi x1), (2, vi x2)] [] s25 _
            refine pr_n (pc2 := 204) (lv2 := [(5, vi (t 103 x1.toNat)), (4, vi (t 102 x1.toNat)), (3, vi (t 101 x1.toNat)), (0, .ref 142), (1, vi x1), (2, vi x2)]) (st2 := []) 1 (fun _ _ => rfl) ?_
            refine pr_end (fun _ _ => rfl) ?_
            exact .inl ⟨_, 0, _, rfl, ⟨rfl, rfl⟩, rfl, hE25⟩
          · refine mq_f h24 ?_
            refine pr_if1f rfl rfl hx2 h24 ?_
            refine pr_n (pc2 := 116) (lv2 := [(5, vi (t 103 x1.toNat)), (4, vi (t 102 x1.toNat)), (3, vi (t 101 x1.toNat)), (0, .ref 142), (1, vi x1), (2, vi x2)]) (st2 := [vi x1, vi (t 102 x1.toNat), .ref 142]) 3 (fun _ _ => rfl) ?_
            refine pr_s1 (args := [vi (t 102 x1.toNat), vi x1]) (rest := []) rfl rfl rfl rfl (Nat.le_of_ble_eq_true rfl) rfl (h_83 s t (t 102 x1.toNat) x1 hE h4 hx1) v_akw ?_
            rintro _ s26 ⟨rfl, _⟩ hE26
            show pr K K d tb_M87 119 [(5, vi (t 103 x1.toNat)), (4, vi (t 102 x1.toNat)), (3, vi (t 101 x1.toNat)), (0, .ref 142), (1, vi x1), (2, vi x2)] [] s26 _
            refine pr_n (pc2 := 204) (lv2 := [(5, vi (t 103 x1.toNat)), (4, vi (t 102 x1.toNat)), (3, vi (t 101 x1.toNat)), (0, .ref 142), (1, vi x1), (2, vi x2)]) (st2 := []) 1 (fun _ _ => rfl) ?_
            refine pr_end (fun _ _ => rfl) ?_
            exact .inl ⟨_, 0, _, rfl, ⟨rfl, rfl⟩, rfl, hE26⟩
      · refine mq_f h18 ?_
        refine pr_lsw rfl (by decide) h10 (ls_no _ ⟨by omega, by omega, by omega, trivial⟩) rfl ?_
        refine pr_n (pc2 := 147) (lv2 := [(5, vi (t 103 x1.toNat)), (4, vi (t 102 x1.toNat)), (3, vi (t 101 x1.toNat)), (0, .ref 142), (1, vi x1), (2, vi x2)]) (st2 := [vi x2]) 1 (fun _ _ => rfl) ?_
        by_cases h27 : x2 ≠ 0
        · refine mq_t h27 ?_
          refine pr_if1t rfl rfl hx2 h27 ?_
          refine pr_n (pc2 := 163) (lv2 := [(5, vi (t 103 x1.toNat)), (4, vi (t 102 x1.toNat)), (3, vi (t 101 x1.toNat)), (0, .ref 142), (1, vi x1), (2, vi x2)]) (st2 := [.ref 142, vi x1, .ref 142]) 3 (fun _ _ => rfl) ?_
          refine pr_get (v := .ref C) rfl rfl rfl (by decide) (rv_ref (show s.1 142 0 = ((C : Nat) : Int) from hE.2.2.1)) fun _ => ?_
          refine pr_get (v := .ref (C + 1)) rfl rfl (TK0 hC) (by decide) (rv_ref (hE.2.1 C 0 (C + 1) (rcK hC (by omega)))) fun _ => ?_
          refine pr_n (pc2 := 170) (lv2 := [(5, vi (t 103 x1.toNat)), (4, vi (t 102 x1.toNat)), (3, vi (t 101 x1.toNat)), (0, .ref 142), (1, vi x1), (2, vi x2)]) (st2 := [vi x1, .ref (C + 1), vi x1, .ref 142]) 1 (fun _ _ => rfl) ?_
          refine pr_aE (k2 := 100) (a := x1) (v := vi (t 100 x1.toNat)) hE rfl (TK1 hC) rfl hx1 (by decide) rfl rfl rfl fun h29 h30 h28 => ?_
          have h28 : i32 (t 100 x1.toNat) := h28
          refine pr_n (pc2 := 174) (lv2 := [(5, vi (t 103 x1.toNat)), (4, vi (t 102 x1.toNat)), (3, vi (t 101 x1.toNat)), (0, .ref 142), (1, vi x1), (2, vi x2)]) (st2 := [vi 401, vi (t 100 x1.toNat), vi x1, .ref 142]) 1 (fun _ _ => rfl) ?_
          by_cases h31 : t 100 x1.toNat ≠ 401
          · refine mq_t h31 ?_
            refine pr_if2t rfl rfl h28 (i32_n rfl) h31 ?_
            refine pr_n (pc2 := 195) (lv2 := [(5, vi (t 103 x1.toNat)), (4, vi (t 102 x1.toNat)), (3, vi (t 101 x1.toNat)), (0, .ref 142), (1, vi x1), (2, vi x2)]) (st2 := [vi (t 102 x1.toNat), .ref 142, vi (t 101 x1.toNat), vi x1, .ref 142]) 3 (fun _ _ => rfl) ?_
            refine pr_s1 (args := [vi (t 102 x1.toNat)]) (rest := [vi (t 101 x1.toNat), vi x1, .ref 142]) rfl rfl rfl rfl (Nat.le_of_ble_eq_true rfl) rfl (h_90 s t (t 102 x1.toNat) hE h4) v_vax ?_
            rintro _ s32 ⟨rfl, hz32⟩ hE32
            show pr K K d tb_M87 198 [(5, vi (t 103 x1.toNat)), (4, vi (t 102 x1.toNat)), (3, vi (t 101 x1.toNat)), (0, .ref 142), (1, vi x1), (2, vi x2)] [vi (vax t (t 102 x1.toNat)), vi (t 101 x1.toNat), vi x1, .ref 142] s32 _
            refine pr_s0 (args := [vi (t 101 x1.toNat), vi (vax t (t 102 x1.toNat))]) (rest := [vi x1, .ref 142]) rfl rfl rfl (Nat.le_of_ble_eq_true rfl) rfl (h_95 s32 t (t 101 x1.toNat) (vax t (t 102 x1.toNat)) hE32 h1 hz32) v_s1x ?_
            rintro _ s33 ⟨rfl, hz33⟩ hE33
            show pr K K d tb_M87 201 [(5, vi (t 103 x1.toNat)), (4, vi (t 102 x1.toNat)), (3, vi (t 101 x1.toNat)), (0, .ref 142), (1, vi x1), (2, vi x2)] [vi (s1x (t 101 x1.toNat) (vax t (t 102 x1.toNat))), vi x1, .ref 142] s33 _
            refine pr_s1 (args := [vi x1, vi (s1x (t 101 x1.toNat) (vax t (t 102 x1.toNat)))]) (rest := []) rfl rfl rfl rfl (Nat.le_of_ble_eq_true rfl) rfl (h_88 s33 t x1 (s1x (t 101 x1.toNat) (vax t (t 102 x1.toNat))) hE33 hx1 hz33) v_tlw ?_
            rintro _ s34 ⟨rfl, _⟩ hE34
            show pr K K d tb_M87 204 [(5, vi (t 103 x1.toNat)), (4, vi (t 102 x1.toNat)), (3, vi (t 101 x1.toNat)), (0, .ref 142), (1, vi x1), (2, vi x2)] [] s34 _
            refine pr_end (fun _ _ => rfl) ?_
            exact .inl ⟨_, 0, _, rfl, ⟨rfl, rfl⟩, rfl, hE34⟩
          · refine mq_f h31 ?_
            refine pr_if2f rfl rfl h28 (i32_n rfl) h31 ?_
            refine pr_n (pc2 := 182) (lv2 := [(5, vi (t 103 x1.toNat)), (4, vi (t 102 x1.toNat)), (3, vi (t 101 x1.toNat)), (0, .ref 142), (1, vi x1), (2, vi x2)]) (st2 := [vi (t 102 x1.toNat), .ref 142, vi (t 101 x1.toNat), .ref 142, vi x1, .ref 142]) 4 (fun _ _ => rfl) ?_
            refine pr_s1 (args := [vi (t 102 x1.toNat)]) (rest := [vi (t 101 x1.toNat), .ref 142, vi x1, .ref 142]) rfl rfl rfl rfl (Nat.le_of_ble_eq_true rfl) rfl (h_90 s t (t 102 x1.toNat) hE h4) v_vax ?_
            rintro _ s35 ⟨rfl, hz35⟩ hE35
            show pr K K d tb_M87 185 [(5, vi (t 103 x1.toNat)), (4, vi (t 102 x1.toNat)), (3, vi (t 101 x1.toNat)), (0, .ref 142), (1, vi x1), (2, vi x2)] [vi (vax t (t 102 x1.toNat)), vi (t 101 x1.toNat), .ref 142, vi x1, .ref 142] s35 _
            refine pr_s1 (args := [vi (t 101 x1.toNat), vi (vax t (t 102 x1.toNat))]) (rest := [vi x1, .ref 142]) rfl rfl rfl rfl (Nat.le_of_ble_eq_true rfl) rfl (h_93 s35 t (t 101 x1.toNat) (vax t (t 102 x1.toNat)) hE35 h1 hz35) v_itw ?_
            rintro _ s36 ⟨rfl, hz36⟩ hE36
            show pr K K d tb_M87 188 [(5, vi (t 103 x1.toNat)), (4, vi (t 102 x1.toNat)), (3, vi (t 101 x1.toNat)), (0, .ref 142), (1, vi x1), (2, vi x2)] [vi (itw t (t 101 x1.toNat) (vax t (t 102 x1.toNat))), vi x1, .ref 142] s36 _
            refine pr_n (pc2 := 201) (lv2 := [(5, vi (t 103 x1.toNat)), (4, vi (t 102 x1.toNat)), (3, vi (t 101 x1.toNat)), (0, .ref 142), (1, vi x1), (2, vi x2)]) (st2 := [vi (itw t (t 101 x1.toNat) (vax t (t 102 x1.toNat))), vi x1, .ref 142]) 1 (fun _ _ => rfl) ?_
            refine pr_s1 (args := [vi x1, vi (itw t (t 101 x1.toNat) (vax t (t 102 x1.toNat)))]) (rest := []) rfl rfl rfl rfl (Nat.le_of_ble_eq_true rfl) rfl (h_88 s36 t x1 (itw t (t 101 x1.toNat) (vax t (t 102 x1.toNat))) hE36 hx1 hz36) v_tlw ?_
            rintro _ s37 ⟨rfl, _⟩ hE37
            show pr K K d tb_M87 204 [(5, vi (t 103 x1.toNat)), (4, vi (t 102 x1.toNat)), (3, vi (t 101 x1.toNat)), (0, .ref 142), (1, vi x1), (2, vi x2)] [] s37 _
            refine pr_end (fun _ _ => rfl) ?_
            exact .inl ⟨_, 0, _, rfl, ⟨rfl, rfl⟩, rfl, hE37⟩
        · refine mq_f h27 ?_
          refine pr_if1f rfl rfl hx2 h27 ?_
          refine pr_n (pc2 := 154) (lv2 := [(5, vi (t 103 x1.toNat)), (4, vi (t 102 x1.toNat)), (3, vi (t 101 x1.toNat)), (0, .ref 142), (1, vi x1), (2, vi x2)]) (st2 := [vi x1, vi (t 102 x1.toNat), .ref 142]) 3 (fun _ _ => rfl) ?_
          refine pr_s1 (args := [vi (t 102 x1.toNat), vi x1]) (rest := []) rfl rfl rfl rfl (Nat.le_of_ble_eq_true rfl) rfl (h_83 s t (t 102 x1.toNat) x1 hE h4 hx1) v_akw ?_
          rintro _ s38 ⟨rfl, _⟩ hE38
          show pr K K d tb_M87 157 [(5, vi (t 103 x1.toNat)), (4, vi (t 102 x1.toNat)), (3, vi (t 101 x1.toNat)), (0, .ref 142), (1, vi x1), (2, vi x2)] [] s38 _
          refine pr_n (pc2 := 204) (lv2 := [(5, vi (t 103 x1.toNat)), (4, vi (t 102 x1.toNat)), (3, vi (t 101 x1.toNat)), (0, .ref 142), (1, vi x1), (2, vi x2)]) (st2 := []) 1 (fun _ _ => rfl) ?_
          refine pr_end (fun _ _ => rfl) ?_
          exact .inl ⟨_, 0, _, rfl, ⟨rfl, rfl⟩, rfl, hE38⟩
set_option maxHeartbeats 20000000 in
set_option maxRecDepth 100000 in
theorem wu98_0 {N K d C : Nat} (h_90 : wT90 K d C) (h_97 : wT97 K d C) (h_99 : wT99 K d C) (h_100 : wT100 K d C) (ih : ∀ N2, N2 < N → wA98 N2 K d C) : wU98_0 N K d C := by
  intro s t y5 y4 y1 y2 y3 hE hy5 hy4 hy1 hy2 hy3
  have hC : C = 99 ∨ C = 115 := hE.1
  rw [wG_98_6]
  unfold wM98_6
  refine pr_lt (pc2 := 8) (lv2 := [(5, vi y5), (4, vi y4), (0, .ref 142), (1, vi y1), (2, vi y2), (3, vi y3)]) (st2 := [vi y5]) (fun _ _ => rfl) fun N2 hN2 => ?_
  refine pr_n (pc2 := 9) (lv2 := [(5, vi y5), (4, vi y4), (0, .ref 142), (1, vi y1), (2, vi y2), (3, vi y3)]) (st2 := [vi y3, vi y5]) 1 (fun _ _ => rfl) ?_
  by_cases h1 : y3 ≤ y5
  · refine mq_t h1 ?_
    refine pr_if2t rfl rfl hy5 hy3 h1 ?_
    refine pr_end (fun _ _ => rfl) ?_
    exact .inl ⟨_, 0, _, rfl, ⟨rfl, rfl⟩, rfl, hE⟩
  · refine mq_f h1 ?_
    refine pr_if2f rfl rfl hy5 hy3 h1 ?_
    refine pr_n (pc2 := 14) (lv2 := [(5, vi y5), (4, vi y4), (0, .ref 142), (1, vi y1), (2, vi y2), (3, vi y3)]) (st2 := [.ref 142, .ref 142]) 2 (fun _ _ => rfl) ?_
    refine pr_get (v := .ref C) rfl rfl rfl (by decide) (rv_ref (show s.1 142 0 = ((C : Nat) : Int) from hE.2.2.1)) fun _ => ?_
    refine pr_n (pc2 := 18) (lv2 := [(5, vi y5), (4, vi y4), (0, .ref 142), (1, vi y1), (2, vi y2), (3, vi y3)]) (st2 := [vi y1, .ref C, .ref 142]) 1 (fun _ _ => rfl) ?_
    refine pr_s1 (args := [vi y1]) (rest := [.ref 142]) rfl rfl rfl (TK0 hC) (Nat.le_of_ble_eq_true rfl) rfl (h_99 s t y1 hE hy1) v_fpx ?_
    rintro _ s2 ⟨rfl, hz2⟩ hE2
    show pr N2 K d tb_M98 21 [(5, vi y5), (4, vi y4), (0, .ref 142), (1, vi y1), (2, vi y2), (3, vi y3)] [vi (fpx t y1), .ref 142] s2 _
    refine pr_n (pc2 := 23) (lv2 := [(5, vi y5), (4, vi y4), (0, .ref 142), (1, vi y1), (2, vi y2), (3, vi y3)]) (st2 := [vi y5, vi (fpx t y1), .ref 142]) 1 (fun _ _ => rfl) ?_
    refine pr_i2 (a := fpx t y1) (b := y5) rfl rfl ?_
    show pr N2 K d tb_M98 24 [(5, vi y5), (4, vi y4), (0, .ref 142), (1, vi y1), (2, vi y2), (3, vi y3)] [vi (ipl (fpx t y1) y5), .ref 142] s2 _
    have h3 : i32 (ipl (fpx t y1) y5) := i32_in _
    refine pr_n (pc2 := 28) (lv2 := [(5, vi y5), (4, vi y4), (0, .ref 142), (1, vi y1), (2, vi y2), (3, vi y3)]) (st2 := [vi y4, .ref 142, vi 0, vi (ipl (fpx t y1) y5), .ref 142]) 3 (fun _ _ => rfl) ?_
    refine pr_s1 (args := [vi y4]) (rest := [vi 0, vi (ipl (fpx t y1) y5), .ref 142]) rfl rfl rfl rfl (Nat.le_of_ble_eq_true rfl) rfl (h_90 s2 t y4 hE2 hy4) v_vax ?_
    rintro _ s4 ⟨rfl, hz4⟩ hE4
    show pr N2 K d tb_M98 31 [(5, vi y5), (4, vi y4), (0, .ref 142), (1, vi y1), (2, vi y2), (3, vi y3)] [vi (vax t y4), vi 0, vi (ipl (fpx t y1) y5), .ref 142] s4 _
    refine pr_s1 (args := [vi (ipl (fpx t y1) y5), vi 0, vi (vax t y4)]) (rest := []) rfl rfl rfl rfl (Nat.le_of_ble_eq_true rfl) rfl (h_100 s4 t (ipl (fpx t y1) y5) 0 (vax t y4) hE4 h3 (i32_n rfl) hz4) v_asw ?_
    rintro _ s5 ⟨rfl, _⟩ hE5
    show pr N2 K d tb_M98 34 [(5, vi y5), (4, vi y4), (0, .ref 142), (1, vi y1), (2, vi y2), (3, vi y3)] [] s5 _
    refine pr_n (pc2 := 35) (lv2 := [(5, vi y5), (4, vi y4), (0, .ref 142), (1, vi y1), (2, vi y2), (3, vi y3)]) (st2 := [.ref 142]) 1 (fun _ _ => rfl) ?_
    refine pr_get (v := .ref C) rfl rfl rfl (by decide) (rv_ref (show s5.1 142 0 = ((C : Nat) : Int) from hE5.2.2.1)) fun _ => ?_
    refine pr_n (pc2 := 40) (lv2 := [(5, vi y5), (4, vi y4), (0, .ref 142), (1, vi y1), (2, vi y2), (3, vi y3)]) (st2 := [vi y4, .ref C]) 1 (fun _ _ => rfl) ?_
    refine pr_s1 (args := [vi y4]) (rest := []) rfl rfl rfl (TK0 hC) (Nat.le_of_ble_eq_true rfl) rfl (h_97 s5 ((asw t (ipl (fpx t y1) y5) 0 (vax t y4))) y4 hE5 hy4) v_flx ?_
    rintro _ s6 ⟨rfl, hz6⟩ hE6
    show pr N2 K d tb_M98 43 [(5, vi y5), (4, vi y4), (0, .ref 142), (1, vi y1), (2, vi y2), (3, vi y3)] [vi (flx ((asw t (ipl (fpx t y1) y5) 0 (vax t y4))) y4)] s6 _
    refine pr_n (pc2 := 45) (lv2 := [(4, vi (flx ((asw t (ipl (fpx t y1) y5) 0 (vax t y4))) y4)), (5, vi y5), (0, .ref 142), (1, vi y1), (2, vi y2), (3, vi y3)]) (st2 := []) 1 (fun _ _ => rfl) ?_
    refine pr_inc (a := y5) rfl rfl ?_
    have h7 : i32 (y5 + 1) := by unfold i32 at *; omega
    show pr N2 K d tb_M98 48 [(5, vi (y5 + 1)), (4, vi (flx ((asw t (ipl (fpx t y1) y5) 0 (vax t y4))) y4)), (0, .ref 142), (1, vi y1), (2, vi y2), (3, vi y3)] [] s6 _
    refine pr_n (pc2 := 6) (lv2 := [(5, vi (y5 + 1)), (4, vi (flx ((asw t (ipl (fpx t y1) y5) 0 (vax t y4))) y4)), (0, .ref 142), (1, vi y1), (2, vi y2), (3, vi y3)]) (st2 := []) 1 (fun _ _ => rfl) ?_
    exact ((ih N2 hN2)) s6 ((asw t (ipl (fpx t y1) y5) 0 (vax t y4))) (y5 + 1) (flx ((asw t (ipl (fpx t y1) y5) 0 (vax t y4))) y4) y1 y2 y3 hE6 h7 hz6 hy1 hy2 hy3
theorem wa98 {K d C : Nat} (h_90 : wT90 K d C) (h_97 : wT97 K d C) (h_99 : wT99 K d C) (h_100 : wT100 K d C) : ∀ N, wA98 N K d C := by
  intro N
  induction N using Nat.strongRecOn with | ind N ih => ?_
  exact wu98_0 h_90 h_97 h_99 h_100 ih
set_option maxHeartbeats 20000000 in
set_option maxRecDepth 100000 in
theorem wm98 {K d C : Nat} (h_90 : wT90 K d C) (h_97 : wT97 K d C) (h_99 : wT99 K d C) (h_100 : wT100 K d C) : wT98 K (d + 1) C := by
  intro s t x1 x2 x3 hE hx1 hx2 hx3
  have hC : C = 99 ∨ C = 115 := hE.1
  refine pcr_of (M := tb_M98) rfl ?_
  show pr K K d tb_M98 0 [(0, .ref 142), (1, vi x1), (2, vi x2), (3, vi x3)] [] s _
  rw [wG_98]
  unfold wM98
  refine pr_n (pc2 := 6) (lv2 := [(5, vi 0), (4, vi x2), (0, .ref 142), (1, vi x1), (2, vi x2), (3, vi x3)]) (st2 := []) 4 (fun _ _ => rfl) ?_
  exact ((wa98 h_90 h_97 h_99 h_100 K)) s t 0 x2 x1 x2 x3 hE (i32_n rfl) hx2 hx1 hx2 hx3
set_option maxHeartbeats 20000000 in
set_option maxRecDepth 100000 in
theorem wm96 {K d C : Nat} (h_83 : wT83 K d C) (h_90 : wT90 K d C) (h_97 : wT97 K d C) (h_98 : wT98 K d C) (h_101 : wT101 K d C) (h_102 : wT102 K d C) : wT96 K (d + 1) C := by
  intro s t x1 x2 hE hx1 hx2
  have hC : C = 99 ∨ C = 115 := hE.1
  refine pcr_of (M := tb_M96) rfl ?_
  show pr K K d tb_M96 0 [(0, .ref 142), (1, vi x1), (2, vi x2)] [] s _
  rw [wG_96]
  unfold wM96
  refine pr_n (pc2 := 1) (lv2 := [(0, .ref 142), (1, vi x1), (2, vi x2)]) (st2 := [.ref 142]) 1 (fun _ _ => rfl) ?_
  refine pr_get (v := .ref C) rfl rfl rfl (by decide) (rv_ref (show s.1 142 0 = ((C : Nat) : Int) from hE.2.2.1)) fun _ => ?_
  refine pr_get (v := .ref (C + 2)) rfl rfl (TK0 hC) (by decide) (rv_ref (hE.2.1 C 1 (C + 2) (rcK hC (by omega)))) fun _ => ?_
  refine pr_n (pc2 := 8) (lv2 := [(0, .ref 142), (1, vi x1), (2, vi x2)]) (st2 := [vi x1, .ref (C + 2)]) 1 (fun _ _ => rfl) ?_
  refine pr_aE (k2 := 101) (a := x1) (v := vi (t 101 x1.toNat)) hE rfl (TK2 hC) rfl hx1 (by decide) rfl rfl rfl fun h2 h3 h1 => ?_
  have h1 : i32 (t 101 x1.toNat) := h1
  refine pr_n (pc2 := 11) (lv2 := [(3, vi (t 101 x1.toNat)), (0, .ref 142), (1, vi x1), (2, vi x2)]) (st2 := [.ref 142]) 2 (fun _ _ => rfl) ?_
  refine pr_get (v := .ref C) rfl rfl rfl (by decide) (rv_ref (show s.1 142 0 = ((C : Nat) : Int) from hE.2.2.1)) fun _ => ?_
  refine pr_get (v := .ref (C + 3)) rfl rfl (TK0 hC) (by decide) (rv_ref (hE.2.1 C 2 (C + 3) (rcK hC (by omega)))) fun _ => ?_
  refine pr_n (pc2 := 18) (lv2 := [(3, vi (t 101 x1.toNat)), (0, .ref 142), (1, vi x1), (2, vi x2)]) (st2 := [vi x1, .ref (C + 3)]) 1 (fun _ _ => rfl) ?_
  refine pr_aE (k2 := 102) (a := x1) (v := vi (t 102 x1.toNat)) hE rfl (TK3 hC) rfl hx1 (by decide) rfl rfl rfl fun h5 h6 h4 => ?_
  have h4 : i32 (t 102 x1.toNat) := h4
  refine pr_n (pc2 := 22) (lv2 := [(4, vi (t 102 x1.toNat)), (3, vi (t 101 x1.toNat)), (0, .ref 142), (1, vi x1), (2, vi x2)]) (st2 := [.ref 142]) 2 (fun _ _ => rfl) ?_
  refine pr_get (v := .ref C) rfl rfl rfl (by decide) (rv_ref (show s.1 142 0 = ((C : Nat) : Int) from hE.2.2.1)) fun _ => ?_
  refine pr_get (v := .ref (C + 4)) rfl rfl (TK0 hC) (by decide) (rv_ref (hE.2.1 C 3 (C + 4) (rcK hC (by omega)))) fun _ => ?_
  refine pr_n (pc2 := 29) (lv2 := [(4, vi (t 102 x1.toNat)), (3, vi (t 101 x1.toNat)), (0, .ref 142), (1, vi x1), (2, vi x2)]) (st2 := [vi x1, .ref (C + 4)]) 1 (fun _ _ => rfl) ?_
  refine pr_aE (k2 := 103) (a := x1) (v := vi (t 103 x1.toNat)) hE rfl (TK4 hC) rfl hx1 (by decide) rfl rfl rfl fun h8 h9 h7 => ?_
  have h7 : i32 (t 103 x1.toNat) := h7
  refine pr_n (pc2 := 35) (lv2 := [(5, vi (t 103 x1.toNat)), (4, vi (t 102 x1.toNat)), (3, vi (t 101 x1.toNat)), (0, .ref 142), (1, vi x1), (2, vi x2)]) (st2 := [vi (t 103 x1.toNat), vi x2]) 3 (fun _ _ => rfl) ?_
  by_cases h10 : t 103 x1.toNat ≤ x2
  · refine mq_t h10 ?_
    refine pr_if2t rfl rfl hx2 h7 h10 ?_
    refine pr_n (pc2 := 83) (lv2 := [(5, vi (t 103 x1.toNat)), (4, vi (t 102 x1.toNat)), (3, vi (t 101 x1.toNat)), (0, .ref 142), (1, vi x1), (2, vi x2)]) (st2 := [vi (t 103 x1.toNat), vi x2]) 2 (fun _ _ => rfl) ?_
    by_cases h11 : x2 ≠ t 103 x1.toNat
    · refine mq_t h11 ?_
      refine pr_if2t rfl rfl hx2 h7 h11 ?_
      refine pr_n (pc2 := 125) (lv2 := [(5, vi (t 103 x1.toNat)), (4, vi (t 102 x1.toNat)), (3, vi (t 101 x1.toNat)), (0, .ref 142), (1, vi x1), (2, vi x2)]) (st2 := [.ref 142, .ref 142]) 2 (fun _ _ => rfl) ?_
      refine pr_get (v := .ref 146) rfl rfl rfl (by decide) (rv_ref (hE.2.1 142 4 146 rfl)) fun _ => ?_
      refine pr_n (pc2 := 129) (lv2 := [(5, vi (t 103 x1.toNat)), (4, vi (t 102 x1.toNat)), (3, vi (t 101 x1.toNat)), (0, .ref 142), (1, vi x1), (2, vi x2)]) (st2 := [vi x1, .ref 146, .ref 142]) 1 (fun _ _ => rfl) ?_
      refine pr_aE (k2 := 146) (a := x1) (v := vi (t 146 x1.toNat)) hE rfl rfl rfl hx1 (by decide) rfl rfl rfl fun h13 h14 h12 => ?_
      have h12 : i32 (t 146 x1.toNat) := h12
      refine pr_s1 (args := [vi (t 146 x1.toNat)]) (rest := []) rfl rfl rfl rfl (Nat.le_of_ble_eq_true rfl) rfl (h_90 s t (t 146 x1.toNat) hE h12) v_vax ?_
      rintro _ s15 ⟨rfl, hz15⟩ hE15
      show pr K K d tb_M96 133 [(5, vi (t 103 x1.toNat)), (4, vi (t 102 x1.toNat)), (3, vi (t 101 x1.toNat)), (0, .ref 142), (1, vi x1), (2, vi x2)] [vi (vax t (t 146 x1.toNat))] s15 _
      refine pr_n (pc2 := 136) (lv2 := [(6, vi (vax t (t 146 x1.toNat))), (5, vi (t 103 x1.toNat)), (4, vi (t 102 x1.toNat)), (3, vi (t 101 x1.toNat)), (0, .ref 142), (1, vi x1), (2, vi x2)]) (st2 := [.ref 142]) 2 (fun _ _ => rfl) ?_
      refine pr_get (v := .ref 146) rfl rfl rfl (by decide) (rv_ref (hE15.2.1 142 4 146 rfl)) fun _ => ?_
      refine pr_n (pc2 := 141) (lv2 := [(6, vi (vax t (t 146 x1.toNat))), (5, vi (t 103 x1.toNat)), (4, vi (t 102 x1.toNat)), (3, vi (t 101 x1.toNat)), (0, .ref 142), (1, vi x1), (2, vi x2)]) (st2 := [.ref 142, vi x1, .ref 146]) 2 (fun _ _ => rfl) ?_
      refine pr_get (v := .ref C) rfl rfl rfl (by decide) (rv_ref (show s15.1 142 0 = ((C : Nat) : Int) from hE15.2.2.1)) fun _ => ?_
      refine pr_n (pc2 := 145) (lv2 := [(6, vi (vax t (t 146 x1.toNat))), (5, vi (t 103 x1.toNat)), (4, vi (t 102 x1.toNat)), (3, vi (t 101 x1.toNat)), (0, .ref 142), (1, vi x1), (2, vi x2)]) (st2 := [.ref 142, .ref C, vi x1, .ref 146]) 1 (fun _ _ => rfl) ?_
      refine pr_get (v := .ref 146) rfl rfl rfl (by decide) (rv_ref (hE15.2.1 142 4 146 rfl)) fun _ => ?_
      refine pr_n (pc2 := 149) (lv2 := [(6, vi (vax t (t 146 x1.toNat))), (5, vi (t 103 x1.toNat)), (4, vi (t 102 x1.toNat)), (3, vi (t 101 x1.toNat)), (0, .ref 142), (1, vi x1), (2, vi x2)]) (st2 := [vi x1, .ref 146, .ref C, vi x1, .ref 146]) 1 (fun _ _ => rfl) ?_
      refine pr_aE (k2 := 146) (a := x1) (v := vi (t 146 x1.toNat)) hE15 rfl rfl rfl hx1 (by decide) rfl rfl rfl fun h17 h18 h16 => ?_
      have h16 : i32 (t 146 x1.toNat) := h16
      refine pr_s1 (args := [vi (t 146 x1.toNat)]) (rest := [vi x1, .ref 146]) rfl rfl rfl (TK0 hC) (Nat.le_of_ble_eq_true rfl) rfl (h_97 s15 t (t 146 x1.toNat) hE15 h16) v_flx ?_
      rintro _ s19 ⟨rfl, hz19⟩ hE19
      show pr K K d tb_M96 153 [(6, vi (vax t (t 146 x1.toNat))), (5, vi (t 103 x1.toNat)), (4, vi (t 102 x1.toNat)), (3, vi (t 101 x1.toNat)), (0, .ref 142), (1, vi x1), (2, vi x2)] [vi (flx t (t 146 x1.toNat)), vi x1, .ref 146] s19 _
      refine pr_sE (k2 := 146) (a := x1) (z := flx t (t 146 x1.toNat)) hE19 rfl (by decide) rfl rfl hx1 (by decide) rfl (show i32 (flx t (t 146 x1.toNat)) from hz19) (n0 rfl (by omega) (by omega)) rfl rfl (fun e => absurd e.1 (by decide)) (fun _ => trivial) fun h20 h21 s22 hE22 => ?_
      refine pr_n (pc2 := 156) (lv2 := [(6, vi (vax t (t 146 x1.toNat))), (5, vi (t 103 x1.toNat)), (4, vi (t 102 x1.toNat)), (3, vi (t 101 x1.toNat)), (0, .ref 142), (1, vi x1), (2, vi x2)]) (st2 := [.ref 142, .ref 142]) 2 (fun _ _ => rfl) ?_
      refine pr_get (v := .ref 146) rfl rfl rfl (by decide) (rv_ref (hE22.2.1 142 4 146 rfl)) fun _ => ?_
      refine pr_n (pc2 := 160) (lv2 := [(6, vi (vax t (t 146 x1.toNat))), (5, vi (t 103 x1.toNat)), (4, vi (t 102 x1.toNat)), (3, vi (t 101 x1.toNat)), (0, .ref 142), (1, vi x1), (2, vi x2)]) (st2 := [vi x1, .ref 146, .ref 142]) 1 (fun _ _ => rfl) ?_
      refine pr_aE (k2 := 146) (a := x1) (v := vi (flx t (t 146 x1.toNat))) hE22 rfl rfl rfl hx1 (by decide) rfl rfl (by rw [up_self]; rfl) fun h24 h25 h23 => ?_
      rw [up_self] at h23
      have h23 : i32 (flx t (t 146 x1.toNat)) := h23
      refine pr_n (pc2 := 164) (lv2 := [(6, vi (vax t (t 146 x1.toNat))), (5, vi (t 103 x1.toNat)), (4, vi (t 102 x1.toNat)), (3, vi (t 101 x1.toNat)), (0, .ref 142), (1, vi x1), (2, vi x2)]) (st2 := [vi (vax t (t 146 x1.toNat)), vi x1, vi (flx t (t 146 x1.toNat)), .ref 142]) 2 (fun _ _ => rfl) ?_
      refine pr_s1 (args := [vi (flx t (t 146 x1.toNat)), vi x1, vi (vax t (t 146 x1.toNat))]) (rest := []) rfl rfl rfl rfl (Nat.le_of_ble_eq_true rfl) rfl (h_102 s22 (up2 t 146 x1.toNat (flx t (t 146 x1.toNat))) (flx t (t 146 x1.toNat)) x1 (vax t (t 146 x1.toNat)) hE22 h23 hx1 hz15) v_otw ?_
      rintro _ s26 ⟨rfl, _⟩ hE26
      show pr K K d tb_M96 167 [(6, vi (vax t (t 146 x1.toNat))), (5, vi (t 103 x1.toNat)), (4, vi (t 102 x1.toNat)), (3, vi (t 101 x1.toNat)), (0, .ref 142), (1, vi x1), (2, vi x2)] [] s26 _
      refine pr_end (fun _ _ => rfl) ?_
      exact .inl ⟨_, 0, _, rfl, ⟨rfl, rfl⟩, rfl, hE26⟩
    · refine mq_f h11 ?_
      refine pr_if2f rfl rfl hx2 h7 h11 ?_
      refine pr_n (pc2 := 92) (lv2 := [(5, vi (t 103 x1.toNat)), (4, vi (t 102 x1.toNat)), (3, vi (t 101 x1.toNat)), (0, .ref 142), (1, vi x1), (2, vi x2)]) (st2 := [vi (t 103 x1.toNat), vi (t 102 x1.toNat), vi (t 101 x1.toNat), .ref 142]) 4 (fun _ _ => rfl) ?_
      refine pr_m1 (args := [vi (t 101 x1.toNat), vi (t 102 x1.toNat), vi (t 103 x1.toNat)]) (rest := []) rfl rfl rfl rfl (Nat.le_of_ble_eq_true rfl) rfl (h_98 s t (t 101 x1.toNat) (t 102 x1.toNat) (t 103 x1.toNat) hE h1 h4 h7) ?_
      rintro _ _ t27 s27 ⟨rfl, rfl⟩ hE27
      show pr K K d tb_M96 95 [(5, vi (t 103 x1.toNat)), (4, vi (t 102 x1.toNat)), (3, vi (t 101 x1.toNat)), (0, .ref 142), (1, vi x1), (2, vi x2)] [] s27 _
      refine pr_n (pc2 := 96) (lv2 := [(5, vi (t 103 x1.toNat)), (4, vi (t 102 x1.toNat)), (3, vi (t 101 x1.toNat)), (0, .ref 142), (1, vi x1), (2, vi x2)]) (st2 := [.ref 142]) 1 (fun _ _ => rfl) ?_
      refine pr_get (v := .ref 146) rfl rfl rfl (by decide) (rv_ref (hE27.2.1 142 4 146 rfl)) fun _ => ?_
      refine pr_n (pc2 := 101) (lv2 := [(5, vi (t 103 x1.toNat)), (4, vi (t 102 x1.toNat)), (3, vi (t 101 x1.toNat)), (0, .ref 142), (1, vi x1), (2, vi x2)]) (st2 := [.ref 142, vi x1, .ref 146]) 2 (fun _ _ => rfl) ?_
      refine pr_get (v := .ref C) rfl rfl rfl (by decide) (rv_ref (show s27.1 142 0 = ((C : Nat) : Int) from hE27.2.2.1)) fun _ => ?_
      refine pr_n (pc2 := 105) (lv2 := [(5, vi (t 103 x1.toNat)), (4, vi (t 102 x1.toNat)), (3, vi (t 101 x1.toNat)), (0, .ref 142), (1, vi x1), (2, vi x2)]) (st2 := [vi (t 101 x1.toNat), .ref C, vi x1, .ref 146]) 1 (fun _ _ => rfl) ?_
      refine pr_s1 (args := [vi (t 101 x1.toNat)]) (rest := [vi x1, .ref 146]) rfl rfl rfl (TK0 hC) (Nat.le_of_ble_eq_true rfl) rfl (h_101 s27 t27 (t 101 x1.toNat) hE27 h1) v_bdx ?_
      rintro _ s28 ⟨rfl, hz28⟩ hE28
      show pr K K d tb_M96 108 [(5, vi (t 103 x1.toNat)), (4, vi (t 102 x1.toNat)), (3, vi (t 101 x1.toNat)), (0, .ref 142), (1, vi x1), (2, vi x2)] [vi (bdx t27 (t 101 x1.toNat)), vi x1, .ref 146] s28 _
      refine pr_sE (k2 := 146) (a := x1) (z := bdx t27 (t 101 x1.toNat)) hE28 rfl (by decide) rfl rfl hx1 (by decide) rfl (show i32 (bdx t27 (t 101 x1.toNat)) from hz28) (n0 rfl (by omega) (by omega)) rfl rfl (fun e => absurd e.1 (by decide)) (fun _ => trivial) fun h29 h30 s31 hE31 => ?_
      refine pr_n (pc2 := 111) (lv2 := [(5, vi (t 103 x1.toNat)), (4, vi (t 102 x1.toNat)), (3, vi (t 101 x1.toNat)), (0, .ref 142), (1, vi x1), (2, vi x2)]) (st2 := [.ref 142, .ref 142]) 2 (fun _ _ => rfl) ?_
      refine pr_get (v := .ref 146) rfl rfl rfl (by decide) (rv_ref (hE31.2.1 142 4 146 rfl)) fun _ => ?_
      refine pr_n (pc2 := 115) (lv2 := [(5, vi (t 103 x1.toNat)), (4, vi (t 102 x1.toNat)), (3, vi (t 101 x1.toNat)), (0, .ref 142), (1, vi x1), (2, vi x2)]) (st2 := [vi x1, .ref 146, .ref 142]) 1 (fun _ _ => rfl) ?_
      refine pr_aE (k2 := 146) (a := x1) (v := vi (bdx t27 (t 101 x1.toNat))) hE31 rfl rfl rfl hx1 (by decide) rfl rfl (by rw [up_self]; rfl) fun h33 h34 h32 => ?_
      rw [up_self] at h32
      have h32 : i32 (bdx t27 (t 101 x1.toNat)) := h32
      refine pr_n (pc2 := 117) (lv2 := [(5, vi (t 103 x1.toNat)), (4, vi (t 102 x1.toNat)), (3, vi (t 101 x1.toNat)), (0, .ref 142), (1, vi x1), (2, vi x2)]) (st2 := [vi x1, vi (bdx t27 (t 101 x1.toNat)), .ref 142]) 1 (fun _ _ => rfl) ?_
      refine pr_s1 (args := [vi (bdx t27 (t 101 x1.toNat)), vi x1]) (rest := []) rfl rfl rfl rfl (Nat.le_of_ble_eq_true rfl) rfl (h_83 s31 (up2 t27 146 x1.toNat (bdx t27 (t 101 x1.toNat))) (bdx t27 (t 101 x1.toNat)) x1 hE31 h32 hx1) v_akw ?_
      rintro _ s35 ⟨rfl, _⟩ hE35
      show pr K K d tb_M96 120 [(5, vi (t 103 x1.toNat)), (4, vi (t 102 x1.toNat)), (3, vi (t 101 x1.toNat)), (0, .ref 142), (1, vi x1), (2, vi x2)] [] s35 _
      refine pr_n (pc2 := 167) (lv2 := [(5, vi (t 103 x1.toNat)), (4, vi (t 102 x1.toNat)), (3, vi (t 101 x1.toNat)), (0, .ref 142), (1, vi x1), (2, vi x2)]) (st2 := []) 1 (fun _ _ => rfl) ?_
      refine pr_end (fun _ _ => rfl) ?_
      exact .inl ⟨_, 0, _, rfl, ⟨rfl, rfl⟩, rfl, hE35⟩
  · refine mq_f h10 ?_
    refine pr_if2f rfl rfl hx2 h7 h10 ?_
    refine pr_n (pc2 := 39) (lv2 := [(5, vi (t 103 x1.toNat)), (4, vi (t 102 x1.toNat)), (3, vi (t 101 x1.toNat)), (0, .ref 142), (1, vi x1), (2, vi x2)]) (st2 := [.ref 142]) 1 (fun _ _ => rfl) ?_
    refine pr_get (v := .ref 146) rfl rfl rfl (by decide) (rv_ref (hE.2.1 142 4 146 rfl)) fun _ => ?_
    refine pr_n (pc2 := 44) (lv2 := [(5, vi (t 103 x1.toNat)), (4, vi (t 102 x1.toNat)), (3, vi (t 101 x1.toNat)), (0, .ref 142), (1, vi x1), (2, vi x2)]) (st2 := [vi x2, vi x1, .ref 146]) 2 (fun _ _ => rfl) ?_
    by_cases h36 : x2 ≠ 0
    · refine mq_t h36 ?_
      refine pr_if1t rfl rfl hx2 h36 ?_
      refine pr_n (pc2 := 53) (lv2 := [(5, vi (t 103 x1.toNat)), (4, vi (t 102 x1.toNat)), (3, vi (t 101 x1.toNat)), (0, .ref 142), (1, vi x1), (2, vi x2)]) (st2 := [.ref 142, vi x1, .ref 146]) 1 (fun _ _ => rfl) ?_
      refine pr_get (v := .ref C) rfl rfl rfl (by decide) (rv_ref (show s.1 142 0 = ((C : Nat) : Int) from hE.2.2.1)) fun _ => ?_
      refine pr_n (pc2 := 57) (lv2 := [(5, vi (t 103 x1.toNat)), (4, vi (t 102 x1.toNat)), (3, vi (t 101 x1.toNat)), (0, .ref 142), (1, vi x1), (2, vi x2)]) (st2 := [.ref 142, .ref C, vi x1, .ref 146]) 1 (fun _ _ => rfl) ?_
      refine pr_get (v := .ref 146) rfl rfl rfl (by decide) (rv_ref (hE.2.1 142 4 146 rfl)) fun _ => ?_
      refine pr_n (pc2 := 61) (lv2 := [(5, vi (t 103 x1.toNat)), (4, vi (t 102 x1.toNat)), (3, vi (t 101 x1.toNat)), (0, .ref 142), (1, vi x1), (2, vi x2)]) (st2 := [vi x1, .ref 146, .ref C, vi x1, .ref 146]) 1 (fun _ _ => rfl) ?_
      refine pr_aE (k2 := 146) (a := x1) (v := vi (t 146 x1.toNat)) hE rfl rfl rfl hx1 (by decide) rfl rfl rfl fun h38 h39 h37 => ?_
      have h37 : i32 (t 146 x1.toNat) := h37
      refine pr_s1 (args := [vi (t 146 x1.toNat)]) (rest := [vi x1, .ref 146]) rfl rfl rfl (TK0 hC) (Nat.le_of_ble_eq_true rfl) rfl (h_97 s t (t 146 x1.toNat) hE h37) v_flx ?_
      rintro _ s40 ⟨rfl, hz40⟩ hE40
      show pr K K d tb_M96 65 [(5, vi (t 103 x1.toNat)), (4, vi (t 102 x1.toNat)), (3, vi (t 101 x1.toNat)), (0, .ref 142), (1, vi x1), (2, vi x2)] [vi (flx t (t 146 x1.toNat)), vi x1, .ref 146] s40 _
      refine pr_sE (k2 := 146) (a := x1) (z := flx t (t 146 x1.toNat)) hE40 rfl (by decide) rfl rfl hx1 (by decide) rfl (show i32 (flx t (t 146 x1.toNat)) from hz40) (n0 rfl (by omega) (by omega)) rfl rfl (fun e => absurd e.1 (by decide)) (fun _ => trivial) fun h41 h42 s43 hE43 => ?_
      refine pr_n (pc2 := 68) (lv2 := [(5, vi (t 103 x1.toNat)), (4, vi (t 102 x1.toNat)), (3, vi (t 101 x1.toNat)), (0, .ref 142), (1, vi x1), (2, vi x2)]) (st2 := [.ref 142, .ref 142]) 2 (fun _ _ => rfl) ?_
      refine pr_get (v := .ref 146) rfl rfl rfl (by decide) (rv_ref (hE43.2.1 142 4 146 rfl)) fun _ => ?_
      refine pr_n (pc2 := 72) (lv2 := [(5, vi (t 103 x1.toNat)), (4, vi (t 102 x1.toNat)), (3, vi (t 101 x1.toNat)), (0, .ref 142), (1, vi x1), (2, vi x2)]) (st2 := [vi x1, .ref 146, .ref 142]) 1 (fun _ _ => rfl) ?_
      refine pr_aE (k2 := 146) (a := x1) (v := vi (flx t (t 146 x1.toNat))) hE43 rfl rfl rfl hx1 (by decide) rfl rfl (by rw [up_self]; rfl) fun h45 h46 h44 => ?_
      rw [up_self] at h44
      have h44 : i32 (flx t (t 146 x1.toNat)) := h44
      refine pr_n (pc2 := 74) (lv2 := [(5, vi (t 103 x1.toNat)), (4, vi (t 102 x1.toNat)), (3, vi (t 101 x1.toNat)), (0, .ref 142), (1, vi x1), (2, vi x2)]) (st2 := [vi x1, vi (flx t (t 146 x1.toNat)), .ref 142]) 1 (fun _ _ => rfl) ?_
      refine pr_s1 (args := [vi (flx t (t 146 x1.toNat)), vi x1]) (rest := []) rfl rfl rfl rfl (Nat.le_of_ble_eq_true rfl) rfl (h_83 s43 (up2 t 146 x1.toNat (flx t (t 146 x1.toNat))) (flx t (t 146 x1.toNat)) x1 hE43 h44 hx1) v_akw ?_
      rintro _ s47 ⟨rfl, _⟩ hE47
      show pr K K d tb_M96 77 [(5, vi (t 103 x1.toNat)), (4, vi (t 102 x1.toNat)), (3, vi (t 101 x1.toNat)), (0, .ref 142), (1, vi x1), (2, vi x2)] [] s47 _
      refine pr_n (pc2 := 167) (lv2 := [(5, vi (t 103 x1.toNat)), (4, vi (t 102 x1.toNat)), (3, vi (t 101 x1.toNat)), (0, .ref 142), (1, vi x1), (2, vi x2)]) (st2 := []) 1 (fun _ _ => rfl) ?_
      refine pr_end (fun _ _ => rfl) ?_
      exact .inl ⟨_, 0, _, rfl, ⟨rfl, rfl⟩, rfl, hE47⟩
    · refine mq_f h36 ?_
      refine pr_if1f rfl rfl hx2 h36 ?_
      refine pr_n (pc2 := 65) (lv2 := [(5, vi (t 103 x1.toNat)), (4, vi (t 102 x1.toNat)), (3, vi (t 101 x1.toNat)), (0, .ref 142), (1, vi x1), (2, vi x2)]) (st2 := [vi (t 102 x1.toNat), vi x1, .ref 146]) 2 (fun _ _ => rfl) ?_
      refine pr_sE (k2 := 146) (a := x1) (z := t 102 x1.toNat) hE rfl (by decide) rfl rfl hx1 (by decide) rfl (show i32 (t 102 x1.toNat) from h4) (n0 rfl (by omega) (by omega)) rfl rfl (fun e => absurd e.1 (by decide)) (fun _ => trivial) fun h48 h49 s50 hE50 => ?_
      refine pr_n (pc2 := 68) (lv2 := [(5, vi (t 103 x1.toNat)), (4, vi (t 102 x1.toNat)), (3, vi (t 101 x1.toNat)), (0, .ref 142), (1, vi x1), (2, vi x2)]) (st2 := [.ref 142, .ref 142]) 2 (fun _ _ => rfl) ?_
      refine pr_get (v := .ref 146) rfl rfl rfl (by decide) (rv_ref (hE50.2.1 142 4 146 rfl)) fun _ => ?_
      refine pr_n (pc2 := 72) (lv2 := [(5, vi (t 103 x1.toNat)), (4, vi (t 102 x1.toNat)), (3, vi (t 101 x1.toNat)), (0, .ref 142), (1, vi x1), (2, vi x2)]) (st2 := [vi x1, .ref 146, .ref 142]) 1 (fun _ _ => rfl) ?_
      refine pr_aE (k2 := 146) (a := x1) (v := vi (t 102 x1.toNat)) hE50 rfl rfl rfl hx1 (by decide) rfl rfl (by rw [up_self]; rfl) fun h52 h53 h51 => ?_
      rw [up_self] at h51
      have h51 : i32 (t 102 x1.toNat) := h51
      refine pr_n (pc2 := 74) (lv2 := [(5, vi (t 103 x1.toNat)), (4, vi (t 102 x1.toNat)), (3, vi (t 101 x1.toNat)), (0, .ref 142), (1, vi x1), (2, vi x2)]) (st2 := [vi x1, vi (t 102 x1.toNat), .ref 142]) 1 (fun _ _ => rfl) ?_
      refine pr_s1 (args := [vi (t 102 x1.toNat), vi x1]) (rest := []) rfl rfl rfl rfl (Nat.le_of_ble_eq_true rfl) rfl (h_83 s50 (up2 t 146 x1.toNat (t 102 x1.toNat)) (t 102 x1.toNat) x1 hE50 h51 hx1) v_akw ?_
      rintro _ s54 ⟨rfl, _⟩ hE54
      show pr K K d tb_M96 77 [(5, vi (t 103 x1.toNat)), (4, vi (t 102 x1.toNat)), (3, vi (t 101 x1.toNat)), (0, .ref 142), (1, vi x1), (2, vi x2)] [] s54 _
      refine pr_n (pc2 := 167) (lv2 := [(5, vi (t 103 x1.toNat)), (4, vi (t 102 x1.toNat)), (3, vi (t 101 x1.toNat)), (0, .ref 142), (1, vi x1), (2, vi x2)]) (st2 := []) 1 (fun _ _ => rfl) ?_
      refine pr_end (fun _ _ => rfl) ?_
      exact .inl ⟨_, 0, _, rfl, ⟨rfl, rfl⟩, rfl, hE54⟩
set_option maxHeartbeats 20000000 in
set_option maxRecDepth 100000 in
theorem wm103 {K d C : Nat} (h_83 : wT83 K d C) (h_88 : wT88 K d C) (h_90 : wT90 K d C) (h_100 : wT100 K d C) (h_104 : wT104 K d C) (h_107 : wT107 K d C) : wT103 K (d + 1) C := by
  intro s t x1 x2 hE hx1 hx2
  have hC : C = 99 ∨ C = 115 := hE.1
  refine pcr_of (M := tb_M103) rfl ?_
  show pr K K d tb_M103 0 [(0, .ref 142), (1, vi x1), (2, vi x2)] [] s _
  rw [wG_103]
  unfold wM103
  refine pr_n (pc2 := 1) (lv2 := [(0, .ref 142), (1, vi x1), (2, vi x2)]) (st2 := [.ref 142]) 1 (fun _ _ => rfl) ?_
  refine pr_get (v := .ref C) rfl rfl rfl (by decide) (rv_ref (show s.1 142 0 = ((C : Nat) : Int) from hE.2.2.1)) fun _ => ?_
  refine pr_get (v := .ref (C + 2)) rfl rfl (TK0 hC) (by decide) (rv_ref (hE.2.1 C 1 (C + 2) (rcK hC (by omega)))) fun _ => ?_
  refine pr_n (pc2 := 8) (lv2 := [(0, .ref 142), (1, vi x1), (2, vi x2)]) (st2 := [vi x1, .ref (C + 2)]) 1 (fun _ _ => rfl) ?_
  refine pr_aE (k2 := 101) (a := x1) (v := vi (t 101 x1.toNat)) hE rfl (TK2 hC) rfl hx1 (by decide) rfl rfl rfl fun h2 h3 h1 => ?_
  have h1 : i32 (t 101 x1.toNat) := h1
  refine pr_n (pc2 := 11) (lv2 := [(3, vi (t 101 x1.toNat)), (0, .ref 142), (1, vi x1), (2, vi x2)]) (st2 := [.ref 142]) 2 (fun _ _ => rfl) ?_
  refine pr_get (v := .ref C) rfl rfl rfl (by decide) (rv_ref (show s.1 142 0 = ((C : Nat) : Int) from hE.2.2.1)) fun _ => ?_
  refine pr_get (v := .ref (C + 3)) rfl rfl (TK0 hC) (by decide) (rv_ref (hE.2.1 C 2 (C + 3) (rcK hC (by omega)))) fun _ => ?_
  refine pr_n (pc2 := 18) (lv2 := [(3, vi (t 101 x1.toNat)), (0, .ref 142), (1, vi x1), (2, vi x2)]) (st2 := [vi x1, .ref (C + 3)]) 1 (fun _ _ => rfl) ?_
  refine pr_aE (k2 := 102) (a := x1) (v := vi (t 102 x1.toNat)) hE rfl (TK3 hC) rfl hx1 (by decide) rfl rfl rfl fun h5 h6 h4 => ?_
  have h4 : i32 (t 102 x1.toNat) := h4
  refine pr_n (pc2 := 22) (lv2 := [(4, vi (t 102 x1.toNat)), (3, vi (t 101 x1.toNat)), (0, .ref 142), (1, vi x1), (2, vi x2)]) (st2 := [.ref 142]) 2 (fun _ _ => rfl) ?_
  refine pr_get (v := .ref C) rfl rfl rfl (by decide) (rv_ref (show s.1 142 0 = ((C : Nat) : Int) from hE.2.2.1)) fun _ => ?_
  refine pr_get (v := .ref (C + 4)) rfl rfl (TK0 hC) (by decide) (rv_ref (hE.2.1 C 3 (C + 4) (rcK hC (by omega)))) fun _ => ?_
  refine pr_n (pc2 := 29) (lv2 := [(4, vi (t 102 x1.toNat)), (3, vi (t 101 x1.toNat)), (0, .ref 142), (1, vi x1), (2, vi x2)]) (st2 := [vi x1, .ref (C + 4)]) 1 (fun _ _ => rfl) ?_
  refine pr_aE (k2 := 103) (a := x1) (v := vi (t 103 x1.toNat)) hE rfl (TK4 hC) rfl hx1 (by decide) rfl rfl rfl fun h8 h9 h7 => ?_
  have h7 : i32 (t 103 x1.toNat) := h7
  refine pr_n (pc2 := 33) (lv2 := [(5, vi (t 103 x1.toNat)), (4, vi (t 102 x1.toNat)), (3, vi (t 101 x1.toNat)), (0, .ref 142), (1, vi x1), (2, vi x2)]) (st2 := [.ref 142]) 2 (fun _ _ => rfl) ?_
  refine pr_get (v := .ref C) rfl rfl rfl (by decide) (rv_ref (show s.1 142 0 = ((C : Nat) : Int) from hE.2.2.1)) fun _ => ?_
  refine pr_get (v := .ref (C + 1)) rfl rfl (TK0 hC) (by decide) (rv_ref (hE.2.1 C 0 (C + 1) (rcK hC (by omega)))) fun _ => ?_
  refine pr_n (pc2 := 40) (lv2 := [(5, vi (t 103 x1.toNat)), (4, vi (t 102 x1.toNat)), (3, vi (t 101 x1.toNat)), (0, .ref 142), (1, vi x1), (2, vi x2)]) (st2 := [vi x1, .ref (C + 1)]) 1 (fun _ _ => rfl) ?_
  refine pr_aE (k2 := 100) (a := x1) (v := vi (t 100 x1.toNat)) hE rfl (TK1 hC) rfl hx1 (by decide) rfl rfl rfl fun h11 h12 h10 => ?_
  have h10 : i32 (t 100 x1.toNat) := h10
  refine pr_n (pc2 := 45) (lv2 := [(6, vi (t 100 x1.toNat)), (5, vi (t 103 x1.toNat)), (4, vi (t 102 x1.toNat)), (3, vi (t 101 x1.toNat)), (0, .ref 142), (1, vi x1), (2, vi x2)]) (st2 := [vi (t 103 x1.toNat)]) 2 (fun _ _ => rfl) ?_
  by_cases h13 : 0 ≤ t 103 x1.toNat
  · refine mq_t h13 ?_
    refine pr_if1t rfl rfl h7 h13 ?_
    refine pr_n (pc2 := 62) (lv2 := [(7, vi x2), (6, vi (t 100 x1.toNat)), (5, vi (t 103 x1.toNat)), (4, vi (t 102 x1.toNat)), (3, vi (t 101 x1.toNat)), (0, .ref 142), (1, vi x1), (2, vi x2)]) (st2 := [vi 406, vi (t 100 x1.toNat)]) 4 (fun _ _ => rfl) ?_
    by_cases h14 : t 100 x1.toNat ≠ 406
    · refine mq_t h14 ?_
      refine pr_if2t rfl rfl h10 (i32_n rfl) h14 ?_
      refine pr_n (pc2 := 84) (lv2 := [(7, vi x2), (6, vi (t 100 x1.toNat)), (5, vi (t 103 x1.toNat)), (4, vi (t 102 x1.toNat)), (3, vi (t 101 x1.toNat)), (0, .ref 142), (1, vi x1), (2, vi x2)]) (st2 := [vi 406, vi (t 100 x1.toNat)]) 2 (fun _ _ => rfl) ?_
      refine pr_if2t rfl rfl h10 (i32_n rfl) (show t 100 x1.toNat ≠ 406 by omega) ?_
      show pr K K d tb_M103 102 [(7, vi x2), (6, vi (t 100 x1.toNat)), (5, vi (t 103 x1.toNat)), (4, vi (t 102 x1.toNat)), (3, vi (t 101 x1.toNat)), (0, .ref 142), (1, vi x1), (2, vi x2)] [] s _
      refine pr_n (pc2 := 104) (lv2 := [(7, vi x2), (6, vi (t 100 x1.toNat)), (5, vi (t 103 x1.toNat)), (4, vi (t 102 x1.toNat)), (3, vi (t 101 x1.toNat)), (0, .ref 142), (1, vi x1), (2, vi x2)]) (st2 := [vi x2]) 1 (fun _ _ => rfl) ?_
      by_cases h15 : x2 ≠ 0
      · refine mq_t h15 ?_
        refine pr_if1t rfl rfl hx2 h15 ?_
        refine pr_n (pc2 := 122) (lv2 := [(7, vi x2), (6, vi (t 100 x1.toNat)), (5, vi (t 103 x1.toNat)), (4, vi (t 102 x1.toNat)), (3, vi (t 101 x1.toNat)), (0, .ref 142), (1, vi x1), (2, vi x2)]) (st2 := [vi 407, vi (t 100 x1.toNat)]) 2 (fun _ _ => rfl) ?_
        by_cases h16 : t 100 x1.toNat ≠ 407
        · refine mq_t h16 ?_
          refine pr_if2t rfl rfl h10 (i32_n rfl) h16 ?_
          refine pr_n (pc2 := 137) (lv2 := [(7, vi x2), (6, vi (t 100 x1.toNat)), (5, vi (t 103 x1.toNat)), (4, vi (t 102 x1.toNat)), (3, vi (t 101 x1.toNat)), (0, .ref 142), (1, vi x1), (2, vi x2)]) (st2 := [vi 1, vi x2]) 2 (fun _ _ => rfl) ?_
          by_cases h17 : x2 ≠ 1
          · refine mq_t h17 ?_
            refine pr_if2t rfl rfl hx2 (i32_n rfl) h17 ?_
            refine pr_n (pc2 := 155) (lv2 := [(7, vi x2), (6, vi (t 100 x1.toNat)), (5, vi (t 103 x1.toNat)), (4, vi (t 102 x1.toNat)), (3, vi (t 101 x1.toNat)), (0, .ref 142), (1, vi x1), (2, vi x2)]) (st2 := [vi (t 103 x1.toNat), .ref 142, vi (t 101 x1.toNat), .ref 142]) 4 (fun _ _ => rfl) ?_
            refine pr_s1 (args := [vi (t 103 x1.toNat)]) (rest := [vi (t 101 x1.toNat), .ref 142]) rfl rfl rfl rfl (Nat.le_of_ble_eq_true rfl) rfl (h_90 s t (t 103 x1.toNat) hE h7) v_vax ?_
            rintro _ s18 ⟨rfl, hz18⟩ hE18
            show pr K K d tb_M103 158 [(7, vi x2), (6, vi (t 100 x1.toNat)), (5, vi (t 103 x1.toNat)), (4, vi (t 102 x1.toNat)), (3, vi (t 101 x1.toNat)), (0, .ref 142), (1, vi x1), (2, vi x2)] [vi (vax t (t 103 x1.toNat)), vi (t 101 x1.toNat), .ref 142] s18 _
            refine pr_n (pc2 := 161) (lv2 := [(7, vi x2), (6, vi (t 100 x1.toNat)), (5, vi (t 103 x1.toNat)), (4, vi (t 102 x1.toNat)), (3, vi (t 101 x1.toNat)), (0, .ref 142), (1, vi x1), (2, vi x2)]) (st2 := [vi (t 102 x1.toNat), .ref 142, vi (vax t (t 103 x1.toNat)), vi (t 101 x1.toNat), .ref 142]) 2 (fun _ _ => rfl) ?_
            refine pr_s1 (args := [vi (t 102 x1.toNat)]) (rest := [vi (vax t (t 103 x1.toNat)), vi (t 101 x1.toNat), .ref 142]) rfl rfl rfl rfl (Nat.le_of_ble_eq_true rfl) rfl (h_90 s18 t (t 102 x1.toNat) hE18 h4) v_vax ?_
            rintro _ s19 ⟨rfl, hz19⟩ hE19
            show pr K K d tb_M103 164 [(7, vi x2), (6, vi (t 100 x1.toNat)), (5, vi (t 103 x1.toNat)), (4, vi (t 102 x1.toNat)), (3, vi (t 101 x1.toNat)), (0, .ref 142), (1, vi x1), (2, vi x2)] [vi (vax t (t 102 x1.toNat)), vi (vax t (t 103 x1.toNat)), vi (t 101 x1.toNat), .ref 142] s19 _
            refine pr_s1 (args := [vi (t 101 x1.toNat), vi (vax t (t 103 x1.toNat)), vi (vax t (t 102 x1.toNat))]) (rest := []) rfl rfl rfl rfl (Nat.le_of_ble_eq_true rfl) rfl (h_100 s19 t (t 101 x1.toNat) (vax t (t 103 x1.toNat)) (vax t (t 102 x1.toNat)) hE19 h1 hz18 hz19) v_asw ?_
            rintro _ s20 ⟨rfl, _⟩ hE20
            show pr K K d tb_M103 167 [(7, vi x2), (6, vi (t 100 x1.toNat)), (5, vi (t 103 x1.toNat)), (4, vi (t 102 x1.toNat)), (3, vi (t 101 x1.toNat)), (0, .ref 142), (1, vi x1), (2, vi x2)] [] s20 _
            refine pr_n (pc2 := 170) (lv2 := [(7, vi x2), (6, vi (t 100 x1.toNat)), (5, vi (t 103 x1.toNat)), (4, vi (t 102 x1.toNat)), (3, vi (t 101 x1.toNat)), (0, .ref 142), (1, vi x1), (2, vi x2)]) (st2 := [vi 0, vi x1, .ref 142]) 3 (fun _ _ => rfl) ?_
            refine pr_s1 (args := [vi x1, vi 0]) (rest := []) rfl rfl rfl rfl (Nat.le_of_ble_eq_true rfl) rfl (h_88 s20 ((asw t (t 101 x1.toNat) (vax t (t 103 x1.toNat)) (vax t (t 102 x1.toNat)))) x1 0 hE20 hx1 (i32_n rfl)) v_tlw ?_
            rintro _ s21 ⟨rfl, _⟩ hE21
            show pr K K d tb_M103 173 [(7, vi x2), (6, vi (t 100 x1.toNat)), (5, vi (t 103 x1.toNat)), (4, vi (t 102 x1.toNat)), (3, vi (t 101 x1.toNat)), (0, .ref 142), (1, vi x1), (2, vi x2)] [] s21 _
            refine pr_end (fun _ _ => rfl) ?_
            exact .inl ⟨_, 0, _, rfl, ⟨rfl, rfl⟩, rfl, hE21⟩
          · refine mq_f h17 ?_
            refine pr_if2f rfl rfl hx2 (i32_n rfl) h17 ?_
            refine pr_n (pc2 := 144) (lv2 := [(7, vi x2), (6, vi (t 100 x1.toNat)), (5, vi (t 103 x1.toNat)), (4, vi (t 102 x1.toNat)), (3, vi (t 101 x1.toNat)), (0, .ref 142), (1, vi x1), (2, vi x2)]) (st2 := [vi x1, vi (t 102 x1.toNat), .ref 142]) 3 (fun _ _ => rfl) ?_
            refine pr_s1 (args := [vi (t 102 x1.toNat), vi x1]) (rest := []) rfl rfl rfl rfl (Nat.le_of_ble_eq_true rfl) rfl (h_83 s t (t 102 x1.toNat) x1 hE h4 hx1) v_akw ?_
            rintro _ s22 ⟨rfl, _⟩ hE22
            show pr K K d tb_M103 147 [(7, vi x2), (6, vi (t 100 x1.toNat)), (5, vi (t 103 x1.toNat)), (4, vi (t 102 x1.toNat)), (3, vi (t 101 x1.toNat)), (0, .ref 142), (1, vi x1), (2, vi x2)] [] s22 _
            refine pr_n (pc2 := 173) (lv2 := [(7, vi x2), (6, vi (t 100 x1.toNat)), (5, vi (t 103 x1.toNat)), (4, vi (t 102 x1.toNat)), (3, vi (t 101 x1.toNat)), (0, .ref 142), (1, vi x1), (2, vi x2)]) (st2 := []) 1 (fun _ _ => rfl) ?_
            refine pr_end (fun _ _ => rfl) ?_
            exact .inl ⟨_, 0, _, rfl, ⟨rfl, rfl⟩, rfl, hE22⟩
        · refine mq_f h16 ?_
          refine pr_if2f rfl rfl h10 (i32_n rfl) h16 ?_
          refine pr_n (pc2 := 128) (lv2 := [(7, vi x2), (6, vi (t 100 x1.toNat)), (5, vi (t 103 x1.toNat)), (4, vi (t 102 x1.toNat)), (3, vi (t 101 x1.toNat)), (0, .ref 142), (1, vi x1), (2, vi x2)]) (st2 := [vi (t 101 x1.toNat), vi x1, .ref 142]) 3 (fun _ _ => rfl) ?_
          refine pr_m1 (args := [vi x1, vi (t 101 x1.toNat)]) (rest := []) rfl rfl rfl rfl (Nat.le_of_ble_eq_true rfl) rfl (h_107 s t x1 (t 101 x1.toNat) hE hx1 h1) ?_
          rintro _ _ t23 s23 ⟨rfl, rfl⟩ hE23
          show pr K K d tb_M103 131 [(7, vi x2), (6, vi (t 100 x1.toNat)), (5, vi (t 103 x1.toNat)), (4, vi (t 102 x1.toNat)), (3, vi (t 101 x1.toNat)), (0, .ref 142), (1, vi x1), (2, vi x2)] [] s23 _
          refine pr_n (pc2 := 173) (lv2 := [(7, vi x2), (6, vi (t 100 x1.toNat)), (5, vi (t 103 x1.toNat)), (4, vi (t 102 x1.toNat)), (3, vi (t 101 x1.toNat)), (0, .ref 142), (1, vi x1), (2, vi x2)]) (st2 := []) 1 (fun _ _ => rfl) ?_
          refine pr_end (fun _ _ => rfl) ?_
          exact .inl ⟨_, 0, _, rfl, ⟨rfl, rfl⟩, rfl, hE23⟩
      · refine mq_f h15 ?_
        refine pr_if1f rfl rfl hx2 h15 ?_
        refine pr_n (pc2 := 111) (lv2 := [(7, vi x2), (6, vi (t 100 x1.toNat)), (5, vi (t 103 x1.toNat)), (4, vi (t 102 x1.toNat)), (3, vi (t 101 x1.toNat)), (0, .ref 142), (1, vi x1), (2, vi x2)]) (st2 := [vi x1, vi (t 103 x1.toNat), .ref 142]) 3 (fun _ _ => rfl) ?_
        refine pr_s1 (args := [vi (t 103 x1.toNat), vi x1]) (rest := []) rfl rfl rfl rfl (Nat.le_of_ble_eq_true rfl) rfl (h_83 s t (t 103 x1.toNat) x1 hE h7 hx1) v_akw ?_
        rintro _ s24 ⟨rfl, _⟩ hE24
        show pr K K d tb_M103 114 [(7, vi x2), (6, vi (t 100 x1.toNat)), (5, vi (t 103 x1.toNat)), (4, vi (t 102 x1.toNat)), (3, vi (t 101 x1.toNat)), (0, .ref 142), (1, vi x1), (2, vi x2)] [] s24 _
        refine pr_n (pc2 := 173) (lv2 := [(7, vi x2), (6, vi (t 100 x1.toNat)), (5, vi (t 103 x1.toNat)), (4, vi (t 102 x1.toNat)), (3, vi (t 101 x1.toNat)), (0, .ref 142), (1, vi x1), (2, vi x2)]) (st2 := []) 1 (fun _ _ => rfl) ?_
        refine pr_end (fun _ _ => rfl) ?_
        exact .inl ⟨_, 0, _, rfl, ⟨rfl, rfl⟩, rfl, hE24⟩
    · refine mq_f h14 ?_
      refine pr_if2f rfl rfl h10 (i32_n rfl) h14 ?_
      refine pr_n (pc2 := 66) (lv2 := [(7, vi x2), (6, vi (t 100 x1.toNat)), (5, vi (t 103 x1.toNat)), (4, vi (t 102 x1.toNat)), (3, vi (t 101 x1.toNat)), (0, .ref 142), (1, vi x1), (2, vi x2)]) (st2 := [vi x2]) 1 (fun _ _ => rfl) ?_
      by_cases h25 : x2 ≠ 0
      · refine mq_t h25 ?_
        refine pr_if1t rfl rfl hx2 h25 ?_
        refine pr_n (pc2 := 84) (lv2 := [(7, vi x2), (6, vi (t 100 x1.toNat)), (5, vi (t 103 x1.toNat)), (4, vi (t 102 x1.toNat)), (3, vi (t 101 x1.toNat)), (0, .ref 142), (1, vi x1), (2, vi x2)]) (st2 := [vi 406, vi (t 100 x1.toNat)]) 2 (fun _ _ => rfl) ?_
        refine pr_if2f rfl rfl h10 (i32_n rfl) (show ¬ (t 100 x1.toNat ≠ 406) by omega) ?_
        show pr K K d tb_M103 87 [(7, vi x2), (6, vi (t 100 x1.toNat)), (5, vi (t 103 x1.toNat)), (4, vi (t 102 x1.toNat)), (3, vi (t 101 x1.toNat)), (0, .ref 142), (1, vi x1), (2, vi x2)] [] s _
        refine pr_n (pc2 := 93) (lv2 := [(7, vi x2), (6, vi (t 100 x1.toNat)), (5, vi (t 103 x1.toNat)), (4, vi (t 102 x1.toNat)), (3, vi (t 101 x1.toNat)), (0, .ref 142), (1, vi x1), (2, vi x2)]) (st2 := [vi (t 102 x1.toNat), .ref 142, vi (t 101 x1.toNat), vi x1, .ref 142]) 5 (fun _ _ => rfl) ?_
        refine pr_s1 (args := [vi (t 102 x1.toNat)]) (rest := [vi (t 101 x1.toNat), vi x1, .ref 142]) rfl rfl rfl rfl (Nat.le_of_ble_eq_true rfl) rfl (h_90 s t (t 102 x1.toNat) hE h4) v_vax ?_
        rintro _ s26 ⟨rfl, hz26⟩ hE26
        show pr K K d tb_M103 96 [(7, vi x2), (6, vi (t 100 x1.toNat)), (5, vi (t 103 x1.toNat)), (4, vi (t 102 x1.toNat)), (3, vi (t 101 x1.toNat)), (0, .ref 142), (1, vi x1), (2, vi x2)] [vi (vax t (t 102 x1.toNat)), vi (t 101 x1.toNat), vi x1, .ref 142] s26 _
        refine pr_m1 (args := [vi x1, vi (t 101 x1.toNat), vi (vax t (t 102 x1.toNat))]) (rest := []) rfl rfl rfl rfl (Nat.le_of_ble_eq_true rfl) rfl (h_104 s26 t x1 (t 101 x1.toNat) (vax t (t 102 x1.toNat)) hE26 hx1 h1 hz26) ?_
        rintro _ _ t27 s27 ⟨rfl, rfl⟩ hE27
        show pr K K d tb_M103 99 [(7, vi x2), (6, vi (t 100 x1.toNat)), (5, vi (t 103 x1.toNat)), (4, vi (t 102 x1.toNat)), (3, vi (t 101 x1.toNat)), (0, .ref 142), (1, vi x1), (2, vi x2)] [] s27 _
        refine pr_n (pc2 := 173) (lv2 := [(7, vi x2), (6, vi (t 100 x1.toNat)), (5, vi (t 103 x1.toNat)), (4, vi (t 102 x1.toNat)), (3, vi (t 101 x1.toNat)), (0, .ref 142), (1, vi x1), (2, vi x2)]) (st2 := []) 1 (fun _ _ => rfl) ?_
        refine pr_end (fun _ _ => rfl) ?_
        exact .inl ⟨_, 0, _, rfl, ⟨rfl, rfl⟩, rfl, hE27⟩
      · refine mq_f h25 ?_
        refine pr_if1f rfl rfl hx2 h25 ?_
        refine pr_n (pc2 := 73) (lv2 := [(7, vi x2), (6, vi (t 100 x1.toNat)), (5, vi (t 103 x1.toNat)), (4, vi (t 102 x1.toNat)), (3, vi (t 101 x1.toNat)), (0, .ref 142), (1, vi x1), (2, vi x2)]) (st2 := [vi x1, vi (t 102 x1.toNat), .ref 142]) 3 (fun _ _ => rfl) ?_
        refine pr_s1 (args := [vi (t 102 x1.toNat), vi x1]) (rest := []) rfl rfl rfl rfl (Nat.le_of_ble_eq_true rfl) rfl (h_83 s t (t 102 x1.toNat) x1 hE h4 hx1) v_akw ?_
        rintro _ s28 ⟨rfl, _⟩ hE28
        show pr K K d tb_M103 76 [(7, vi x2), (6, vi (t 100 x1.toNat)), (5, vi (t 103 x1.toNat)), (4, vi (t 102 x1.toNat)), (3, vi (t 101 x1.toNat)), (0, .ref 142), (1, vi x1), (2, vi x2)] [] s28 _
        refine pr_n (pc2 := 173) (lv2 := [(7, vi x2), (6, vi (t 100 x1.toNat)), (5, vi (t 103 x1.toNat)), (4, vi (t 102 x1.toNat)), (3, vi (t 101 x1.toNat)), (0, .ref 142), (1, vi x1), (2, vi x2)]) (st2 := []) 1 (fun _ _ => rfl) ?_
        refine pr_end (fun _ _ => rfl) ?_
        exact .inl ⟨_, 0, _, rfl, ⟨rfl, rfl⟩, rfl, hE28⟩
  · refine mq_f h13 ?_
    refine pr_if1f rfl rfl h7 h13 ?_
    refine pr_n (pc2 := 50) (lv2 := [(6, vi (t 100 x1.toNat)), (5, vi (t 103 x1.toNat)), (4, vi (t 102 x1.toNat)), (3, vi (t 101 x1.toNat)), (0, .ref 142), (1, vi x1), (2, vi x2)]) (st2 := [vi 1, vi x2]) 2 (fun _ _ => rfl) ?_
    refine pr_i2 (a := x2) (b := 1) rfl rfl ?_
    show pr K K d tb_M103 51 [(6, vi (t 100 x1.toNat)), (5, vi (t 103 x1.toNat)), (4, vi (t 102 x1.toNat)), (3, vi (t 101 x1.toNat)), (0, .ref 142), (1, vi x1), (2, vi x2)] [vi (ipl x2 1)] s _
    have h29 : i32 (ipl x2 1) := i32_in _
    refine pr_n (pc2 := 62) (lv2 := [(7, vi (ipl x2 1)), (6, vi (t 100 x1.toNat)), (5, vi (t 103 x1.toNat)), (4, vi (t 102 x1.toNat)), (3, vi (t 101 x1.toNat)), (0, .ref 142), (1, vi x1), (2, vi x2)]) (st2 := [vi 406, vi (t 100 x1.toNat)]) 4 (fun _ _ => rfl) ?_
    by_cases h30 : t 100 x1.toNat ≠ 406
    · refine mq_t h30 ?_
      refine pr_if2t rfl rfl h10 (i32_n rfl) h30 ?_
      refine pr_n (pc2 := 84) (lv2 := [(7, vi (ipl x2 1)), (6, vi (t 100 x1.toNat)), (5, vi (t 103 x1.toNat)), (4, vi (t 102 x1.toNat)), (3, vi (t 101 x1.toNat)), (0, .ref 142), (1, vi x1), (2, vi x2)]) (st2 := [vi 406, vi (t 100 x1.toNat)]) 2 (fun _ _ => rfl) ?_
      refine pr_if2t rfl rfl h10 (i32_n rfl) (show t 100 x1.toNat ≠ 406 by omega) ?_
      show pr K K d tb_M103 102 [(7, vi (ipl x2 1)), (6, vi (t 100 x1.toNat)), (5, vi (t 103 x1.toNat)), (4, vi (t 102 x1.toNat)), (3, vi (t 101 x1.toNat)), (0, .ref 142), (1, vi x1), (2, vi x2)] [] s _
      refine pr_n (pc2 := 104) (lv2 := [(7, vi (ipl x2 1)), (6, vi (t 100 x1.toNat)), (5, vi (t 103 x1.toNat)), (4, vi (t 102 x1.toNat)), (3, vi (t 101 x1.toNat)), (0, .ref 142), (1, vi x1), (2, vi x2)]) (st2 := [vi (ipl x2 1)]) 1 (fun _ _ => rfl) ?_
      by_cases h31 : ipl x2 1 ≠ 0
      · refine mq_t h31 ?_
        refine pr_if1t rfl rfl h29 h31 ?_
        refine pr_n (pc2 := 122) (lv2 := [(7, vi (ipl x2 1)), (6, vi (t 100 x1.toNat)), (5, vi (t 103 x1.toNat)), (4, vi (t 102 x1.toNat)), (3, vi (t 101 x1.toNat)), (0, .ref 142), (1, vi x1), (2, vi x2)]) (st2 := [vi 407, vi (t 100 x1.toNat)]) 2 (fun _ _ => rfl) ?_
        by_cases h32 : t 100 x1.toNat ≠ 407
        · refine mq_t h32 ?_
          refine pr_if2t rfl rfl h10 (i32_n rfl) h32 ?_
          refine pr_n (pc2 := 137) (lv2 := [(7, vi (ipl x2 1)), (6, vi (t 100 x1.toNat)), (5, vi (t 103 x1.toNat)), (4, vi (t 102 x1.toNat)), (3, vi (t 101 x1.toNat)), (0, .ref 142), (1, vi x1), (2, vi x2)]) (st2 := [vi 1, vi (ipl x2 1)]) 2 (fun _ _ => rfl) ?_
          by_cases h33 : ipl x2 1 ≠ 1
          · refine mq_t h33 ?_
            refine pr_if2t rfl rfl h29 (i32_n rfl) h33 ?_
            refine pr_n (pc2 := 155) (lv2 := [(7, vi (ipl x2 1)), (6, vi (t 100 x1.toNat)), (5, vi (t 103 x1.toNat)), (4, vi (t 102 x1.toNat)), (3, vi (t 101 x1.toNat)), (0, .ref 142), (1, vi x1), (2, vi x2)]) (st2 := [vi (t 103 x1.toNat), .ref 142, vi (t 101 x1.toNat), .ref 142]) 4 (fun _ _ => rfl) ?_
            refine pr_s1 (args := [vi (t 103 x1.toNat)]) (rest := [vi (t 101 x1.toNat), .ref 142]) rfl rfl rfl rfl (Nat.le_of_ble_eq_true rfl) rfl (h_90 s t (t 103 x1.toNat) hE h7) v_vax ?_
            rintro _ s34 ⟨rfl, hz34⟩ hE34
            show pr K K d tb_M103 158 [(7, vi (ipl x2 1)), (6, vi (t 100 x1.toNat)), (5, vi (t 103 x1.toNat)), (4, vi (t 102 x1.toNat)), (3, vi (t 101 x1.toNat)), (0, .ref 142), (1, vi x1), (2, vi x2)] [vi (vax t (t 103 x1.toNat)), vi (t 101 x1.toNat), .ref 142] s34 _
            refine pr_n (pc2 := 161) (lv2 := [(7, vi (ipl x2 1)), (6, vi (t 100 x1.toNat)), (5, vi (t 103 x1.toNat)), (4, vi (t 102 x1.toNat)), (3, vi (t 101 x1.toNat)), (0, .ref 142), (1, vi x1), (2, vi x2)]) (st2 := [vi (t 102 x1.toNat), .ref 142, vi (vax t (t 103 x1.toNat)), vi (t 101 x1.toNat), .ref 142]) 2 (fun _ _ => rfl) ?_
            refine pr_s1 (args := [vi (t 102 x1.toNat)]) (rest := [vi (vax t (t 103 x1.toNat)), vi (t 101 x1.toNat), .ref 142]) rfl rfl rfl rfl (Nat.le_of_ble_eq_true rfl) rfl (h_90 s34 t (t 102 x1.toNat) hE34 h4) v_vax ?_
            rintro _ s35 ⟨rfl, hz35⟩ hE35
            show pr K K d tb_M103 164 [(7, vi (ipl x2 1)), (6, vi (t 100 x1.toNat)), (5, vi (t 103 x1.toNat)), (4, vi (t 102 x1.toNat)), (3, vi (t 101 x1.toNat)), (0, .ref 142), (1, vi x1), (2, vi x2)] [vi (vax t (t 102 x1.toNat)), vi (vax t (t 103 x1.toNat)), vi (t 101 x1.toNat), .ref 142] s35 _
            refine pr_s1 (args := [vi (t 101 x1.toNat), vi (vax t (t 103 x1.toNat)), vi (vax t (t 102 x1.toNat))]) (rest := []) rfl rfl rfl rfl (Nat.le_of_ble_eq_true rfl) rfl (h_100 s35 t (t 101 x1.toNat) (vax t (t 103 x1.toNat)) (vax t (t 102 x1.toNat)) hE35 h1 hz34 hz35) v_asw ?_
            rintro _ s36 ⟨rfl, _⟩ hE36
            show pr K K d tb_M103 167 [(7, vi (ipl x2 1)), (6, vi (t 100 x1.toNat)), (5, vi (t 103 x1.toNat)), (4, vi (t 102 x1.toNat)), (3, vi (t 101 x1.toNat)), (0, .ref 142), (1, vi x1), (2, vi x2)] [] s36 _
            refine pr_n (pc2 := 170) (lv2 := [(7, vi (ipl x2 1)), (6, vi (t 100 x1.toNat)), (5, vi (t 103 x1.toNat)), (4, vi (t 102 x1.toNat)), (3, vi (t 101 x1.toNat)), (0, .ref 142), (1, vi x1), (2, vi x2)]) (st2 := [vi 0, vi x1, .ref 142]) 3 (fun _ _ => rfl) ?_
            refine pr_s1 (args := [vi x1, vi 0]) (rest := []) rfl rfl rfl rfl (Nat.le_of_ble_eq_true rfl) rfl (h_88 s36 ((asw t (t 101 x1.toNat) (vax t (t 103 x1.toNat)) (vax t (t 102 x1.toNat)))) x1 0 hE36 hx1 (i32_n rfl)) v_tlw ?_
            rintro _ s37 ⟨rfl, _⟩ hE37
            show pr K K d tb_M103 173 [(7, vi (ipl x2 1)), (6, vi (t 100 x1.toNat)), (5, vi (t 103 x1.toNat)), (4, vi (t 102 x1.toNat)), (3, vi (t 101 x1.toNat)), (0, .ref 142), (1, vi x1), (2, vi x2)] [] s37 _
            refine pr_end (fun _ _ => rfl) ?_
            exact .inl ⟨_, 0, _, rfl, ⟨rfl, rfl⟩, rfl, hE37⟩
          · refine mq_f h33 ?_
            refine pr_if2f rfl rfl h29 (i32_n rfl) h33 ?_
            refine pr_n (pc2 := 144) (lv2 := [(7, vi (ipl x2 1)), (6, vi (t 100 x1.toNat)), (5, vi (t 103 x1.toNat)), (4, vi (t 102 x1.toNat)), (3, vi (t 101 x1.toNat)), (0, .ref 142), (1, vi x1), (2, vi x2)]) (st2 := [vi x1, vi (t 102 x1.toNat), .ref 142]) 3 (fun _ _ => rfl) ?_
            refine pr_s1 (args := [vi (t 102 x1.toNat), vi x1]) (rest := []) rfl rfl rfl rfl (Nat.le_of_ble_eq_true rfl) rfl (h_83 s t (t 102 x1.toNat) x1 hE h4 hx1) v_akw ?_
            rintro _ s38 ⟨rfl, _⟩ hE38
            show pr K K d tb_M103 147 [(7, vi (ipl x2 1)), (6, vi (t 100 x1.toNat)), (5, vi (t 103 x1.toNat)), (4, vi (t 102 x1.toNat)), (3, vi (t 101 x1.toNat)), (0, .ref 142), (1, vi x1), (2, vi x2)] [] s38 _
            refine pr_n (pc2 := 173) (lv2 := [(7, vi (ipl x2 1)), (6, vi (t 100 x1.toNat)), (5, vi (t 103 x1.toNat)), (4, vi (t 102 x1.toNat)), (3, vi (t 101 x1.toNat)), (0, .ref 142), (1, vi x1), (2, vi x2)]) (st2 := []) 1 (fun _ _ => rfl) ?_
            refine pr_end (fun _ _ => rfl) ?_
            exact .inl ⟨_, 0, _, rfl, ⟨rfl, rfl⟩, rfl, hE38⟩
        · refine mq_f h32 ?_
          refine pr_if2f rfl rfl h10 (i32_n rfl) h32 ?_
          refine pr_n (pc2 := 128) (lv2 := [(7, vi (ipl x2 1)), (6, vi (t 100 x1.toNat)), (5, vi (t 103 x1.toNat)), (4, vi (t 102 x1.toNat)), (3, vi (t 101 x1.toNat)), (0, .ref 142), (1, vi x1), (2, vi x2)]) (st2 := [vi (t 101 x1.toNat), vi x1, .ref 142]) 3 (fun _ _ => rfl) ?_
          refine pr_m1 (args := [vi x1, vi (t 101 x1.toNat)]) (rest := []) rfl rfl rfl rfl (Nat.le_of_ble_eq_true rfl) rfl (h_107 s t x1 (t 101 x1.toNat) hE hx1 h1) ?_
          rintro _ _ t39 s39 ⟨rfl, rfl⟩ hE39
          show pr K K d tb_M103 131 [(7, vi (ipl x2 1)), (6, vi (t 100 x1.toNat)), (5, vi (t 103 x1.toNat)), (4, vi (t 102 x1.toNat)), (3, vi (t 101 x1.toNat)), (0, .ref 142), (1, vi x1), (2, vi x2)] [] s39 _
          refine pr_n (pc2 := 173) (lv2 := [(7, vi (ipl x2 1)), (6, vi (t 100 x1.toNat)), (5, vi (t 103 x1.toNat)), (4, vi (t 102 x1.toNat)), (3, vi (t 101 x1.toNat)), (0, .ref 142), (1, vi x1), (2, vi x2)]) (st2 := []) 1 (fun _ _ => rfl) ?_
          refine pr_end (fun _ _ => rfl) ?_
          exact .inl ⟨_, 0, _, rfl, ⟨rfl, rfl⟩, rfl, hE39⟩
      · refine mq_f h31 ?_
        refine pr_if1f rfl rfl h29 h31 ?_
        refine pr_n (pc2 := 111) (lv2 := [(7, vi (ipl x2 1)), (6, vi (t 100 x1.toNat)), (5, vi (t 103 x1.toNat)), (4, vi (t 102 x1.toNat)), (3, vi (t 101 x1.toNat)), (0, .ref 142), (1, vi x1), (2, vi x2)]) (st2 := [vi x1, vi (t 103 x1.toNat), .ref 142]) 3 (fun _ _ => rfl) ?_
        refine pr_s1 (args := [vi (t 103 x1.toNat), vi x1]) (rest := []) rfl rfl rfl rfl (Nat.le_of_ble_eq_true rfl) rfl (h_83 s t (t 103 x1.toNat) x1 hE h7 hx1) v_akw ?_
        rintro _ s40 ⟨rfl, _⟩ hE40
        show pr K K d tb_M103 114 [(7, vi (ipl x2 1)), (6, vi (t 100 x1.toNat)), (5, vi (t 103 x1.toNat)), (4, vi (t 102 x1.toNat)), (3, vi (t 101 x1.toNat)), (0, .ref 142), (1, vi x1), (2, vi x2)] [] s40 _
        refine pr_n (pc2 := 173) (lv2 := [(7, vi (ipl x2 1)), (6, vi (t 100 x1.toNat)), (5, vi (t 103 x1.toNat)), (4, vi (t 102 x1.toNat)), (3, vi (t 101 x1.toNat)), (0, .ref 142), (1, vi x1), (2, vi x2)]) (st2 := []) 1 (fun _ _ => rfl) ?_
        refine pr_end (fun _ _ => rfl) ?_
        exact .inl ⟨_, 0, _, rfl, ⟨rfl, rfl⟩, rfl, hE40⟩
    · refine mq_f h30 ?_
      refine pr_if2f rfl rfl h10 (i32_n rfl) h30 ?_
      refine pr_n (pc2 := 66) (lv2 := [(7, vi (ipl x2 1)), (6, vi (t 100 x1.toNat)), (5, vi (t 103 x1.toNat)), (4, vi (t 102 x1.toNat)), (3, vi (t 101 x1.toNat)), (0, .ref 142), (1, vi x1), (2, vi x2)]) (st2 := [vi x2]) 1 (fun _ _ => rfl) ?_
      by_cases h41 : x2 ≠ 0
      · refine mq_t h41 ?_
        refine pr_if1t rfl rfl hx2 h41 ?_
        refine pr_n (pc2 := 84) (lv2 := [(7, vi (ipl x2 1)), (6, vi (t 100 x1.toNat)), (5, vi (t 103 x1.toNat)), (4, vi (t 102 x1.toNat)), (3, vi (t 101 x1.toNat)), (0, .ref 142), (1, vi x1), (2, vi x2)]) (st2 := [vi 406, vi (t 100 x1.toNat)]) 2 (fun _ _ => rfl) ?_
        refine pr_if2f rfl rfl h10 (i32_n rfl) (show ¬ (t 100 x1.toNat ≠ 406) by omega) ?_
        show pr K K d tb_M103 87 [(7, vi (ipl x2 1)), (6, vi (t 100 x1.toNat)), (5, vi (t 103 x1.toNat)), (4, vi (t 102 x1.toNat)), (3, vi (t 101 x1.toNat)), (0, .ref 142), (1, vi x1), (2, vi x2)] [] s _
        refine pr_n (pc2 := 93) (lv2 := [(7, vi (ipl x2 1)), (6, vi (t 100 x1.toNat)), (5, vi (t 103 x1.toNat)), (4, vi (t 102 x1.toNat)), (3, vi (t 101 x1.toNat)), (0, .ref 142), (1, vi x1), (2, vi x2)]) (st2 := [vi (t 102 x1.toNat), .ref 142, vi (t 101 x1.toNat), vi x1, .ref 142]) 5 (fun _ _ => rfl) ?_
        refine pr_s1 (args := [vi (t 102 x1.toNat)]) (rest := [vi (t 101 x1.toNat), vi x1, .ref 142]) rfl rfl rfl rfl (Nat.le_of_ble_eq_true rfl) rfl (h_90 s t (t 102 x1.toNat) hE h4) v_vax ?_
        rintro _ s42 ⟨rfl, hz42⟩ hE42
        show pr K K d tb_M103 96 [(7, vi (ipl x2 1)), (6, vi (t 100 x1.toNat)), (5, vi (t 103 x1.toNat)), (4, vi (t 102 x1.toNat)), (3, vi (t 101 x1.toNat)), (0, .ref 142), (1, vi x1), (2, vi x2)] [vi (vax t (t 102 x1.toNat)), vi (t 101 x1.toNat), vi x1, .ref 142] s42 _
        refine pr_m1 (args := [vi x1, vi (t 101 x1.toNat), vi (vax t (t 102 x1.toNat))]) (rest := []) rfl rfl rfl rfl (Nat.le_of_ble_eq_true rfl) rfl (h_104 s42 t x1 (t 101 x1.toNat) (vax t (t 102 x1.toNat)) hE42 hx1 h1 hz42) ?_
        rintro _ _ t43 s43 ⟨rfl, rfl⟩ hE43
        show pr K K d tb_M103 99 [(7, vi (ipl x2 1)), (6, vi (t 100 x1.toNat)), (5, vi (t 103 x1.toNat)), (4, vi (t 102 x1.toNat)), (3, vi (t 101 x1.toNat)), (0, .ref 142), (1, vi x1), (2, vi x2)] [] s43 _
        refine pr_n (pc2 := 173) (lv2 := [(7, vi (ipl x2 1)), (6, vi (t 100 x1.toNat)), (5, vi (t 103 x1.toNat)), (4, vi (t 102 x1.toNat)), (3, vi (t 101 x1.toNat)), (0, .ref 142), (1, vi x1), (2, vi x2)]) (st2 := []) 1 (fun _ _ => rfl) ?_
        refine pr_end (fun _ _ => rfl) ?_
        exact .inl ⟨_, 0, _, rfl, ⟨rfl, rfl⟩, rfl, hE43⟩
      · refine mq_f h41 ?_
        refine pr_if1f rfl rfl hx2 h41 ?_
        refine pr_n (pc2 := 73) (lv2 := [(7, vi (ipl x2 1)), (6, vi (t 100 x1.toNat)), (5, vi (t 103 x1.toNat)), (4, vi (t 102 x1.toNat)), (3, vi (t 101 x1.toNat)), (0, .ref 142), (1, vi x1), (2, vi x2)]) (st2 := [vi x1, vi (t 102 x1.toNat), .ref 142]) 3 (fun _ _ => rfl) ?_
        refine pr_s1 (args := [vi (t 102 x1.toNat), vi x1]) (rest := []) rfl rfl rfl rfl (Nat.le_of_ble_eq_true rfl) rfl (h_83 s t (t 102 x1.toNat) x1 hE h4 hx1) v_akw ?_
        rintro _ s44 ⟨rfl, _⟩ hE44
        show pr K K d tb_M103 76 [(7, vi (ipl x2 1)), (6, vi (t 100 x1.toNat)), (5, vi (t 103 x1.toNat)), (4, vi (t 102 x1.toNat)), (3, vi (t 101 x1.toNat)), (0, .ref 142), (1, vi x1), (2, vi x2)] [] s44 _
        refine pr_n (pc2 := 173) (lv2 := [(7, vi (ipl x2 1)), (6, vi (t 100 x1.toNat)), (5, vi (t 103 x1.toNat)), (4, vi (t 102 x1.toNat)), (3, vi (t 101 x1.toNat)), (0, .ref 142), (1, vi x1), (2, vi x2)]) (st2 := []) 1 (fun _ _ => rfl) ?_
        refine pr_end (fun _ _ => rfl) ?_
        exact .inl ⟨_, 0, _, rfl, ⟨rfl, rfl⟩, rfl, hE44⟩
set_option maxHeartbeats 20000000 in
set_option maxRecDepth 100000 in
theorem wu110_0 {N K d C : Nat} (h_83 : wT83 K d C) (h_88 : wT88 K d C) (h_97 : wT97 K d C) (ih : ∀ N2, N2 < N → wA110 N2 K d C) : wU110_0 N K d C := by
  intro s t y5 y4 y3 y1 y2 hE hy5 hy4 hy3 hy1 hy2
  have hC : C = 99 ∨ C = 115 := hE.1
  rw [wG_110_28]
  unfold wM110_28
  refine pr_lt (pc2 := 30) (lv2 := [(5, vi y5), (4, vi y4), (3, vi y3), (0, .ref 142), (1, vi y1), (2, vi y2)]) (st2 := [vi y5]) (fun _ _ => rfl) fun N2 hN2 => ?_
  refine pr_n (pc2 := 31) (lv2 := [(5, vi y5), (4, vi y4), (3, vi y3), (0, .ref 142), (1, vi y1), (2, vi y2)]) (st2 := [vi y3, vi y5]) 1 (fun _ _ => rfl) ?_
  by_cases h1 : y3 ≤ y5
  · refine mq_t h1 ?_
    refine pr_if2t rfl rfl hy5 hy3 h1 ?_
    refine pr_n (pc2 := 72) (lv2 := [(5, vi y5), (4, vi y4), (3, vi y3), (0, .ref 142), (1, vi y1), (2, vi y2)]) (st2 := []) 1 (fun _ _ => rfl) ?_
    refine pr_end (fun _ _ => rfl) ?_
    exact .inl ⟨_, 0, _, rfl, ⟨rfl, rfl⟩, rfl, hE⟩
  · refine mq_f h1 ?_
    refine pr_if2f rfl rfl hy5 hy3 h1 ?_
    refine pr_n (pc2 := 38) (lv2 := [(5, vi y5), (4, vi y4), (3, vi y3), (0, .ref 142), (1, vi y1), (2, vi y2)]) (st2 := [vi y1, vi y4, .ref 142]) 3 (fun _ _ => rfl) ?_
    refine pr_s1 (args := [vi y4, vi y1]) (rest := []) rfl rfl rfl rfl (Nat.le_of_ble_eq_true rfl) rfl (h_83 s t y4 y1 hE hy4 hy1) v_akw ?_
    rintro _ s2 ⟨rfl, _⟩ hE2
    show pr N2 K d tb_M110 41 [(5, vi y5), (4, vi y4), (3, vi y3), (0, .ref 142), (1, vi y1), (2, vi y2)] [] s2 _
    refine pr_n (pc2 := 42) (lv2 := [(5, vi y5), (4, vi y4), (3, vi y3), (0, .ref 142), (1, vi y1), (2, vi y2)]) (st2 := [.ref 142]) 1 (fun _ _ => rfl) ?_
    refine pr_get (v := .ref C) rfl rfl rfl (by decide) (rv_ref (show s2.1 142 0 = ((C : Nat) : Int) from hE2.2.2.1)) fun _ => ?_
    refine pr_n (pc2 := 47) (lv2 := [(5, vi y5), (4, vi y4), (3, vi y3), (0, .ref 142), (1, vi y1), (2, vi y2)]) (st2 := [vi y4, .ref C]) 1 (fun _ _ => rfl) ?_
    refine pr_s1 (args := [vi y4]) (rest := []) rfl rfl rfl (TK0 hC) (Nat.le_of_ble_eq_true rfl) rfl (h_97 s2 ((akw t y4 y1)) y4 hE2 hy4) v_flx ?_
    rintro _ s3 ⟨rfl, hz3⟩ hE3
    show pr N2 K d tb_M110 50 [(5, vi y5), (4, vi y4), (3, vi y3), (0, .ref 142), (1, vi y1), (2, vi y2)] [vi (flx ((akw t y4 y1)) y4)] s3 _
    refine pr_n (pc2 := 52) (lv2 := [(4, vi (flx ((akw t y4 y1)) y4)), (5, vi y5), (3, vi y3), (0, .ref 142), (1, vi y1), (2, vi y2)]) (st2 := []) 1 (fun _ _ => rfl) ?_
    refine pr_inc (a := y5) rfl rfl ?_
    have h4 : i32 (y5 + 1) := by unfold i32 at *; omega
    show pr N2 K d tb_M110 55 [(5, vi (y5 + 1)), (4, vi (flx ((akw t y4 y1)) y4)), (3, vi y3), (0, .ref 142), (1, vi y1), (2, vi y2)] [] s3 _
    refine pr_n (pc2 := 28) (lv2 := [(5, vi (y5 + 1)), (4, vi (flx ((akw t y4 y1)) y4)), (3, vi y3), (0, .ref 142), (1, vi y1), (2, vi y2)]) (st2 := []) 1 (fun _ _ => rfl) ?_
    exact ((ih N2 hN2)) s3 ((akw t y4 y1)) (y5 + 1) (flx ((akw t y4 y1)) y4) y3 y1 y2 hE3 h4 hz3 hy3 hy1 hy2
theorem wa110 {K d C : Nat} (h_83 : wT83 K d C) (h_88 : wT88 K d C) (h_97 : wT97 K d C) : ∀ N, wA110 N K d C := by
  intro N
  induction N using Nat.strongRecOn with | ind N ih => ?_
  exact wu110_0 h_83 h_88 h_97 ih
set_option maxHeartbeats 20000000 in
set_option maxRecDepth 100000 in
theorem wm110 {K d C : Nat} (h_83 : wT83 K d C) (h_88 : wT88 K d C) (h_97 : wT97 K d C) : wT110 K (d + 1) C := by
  intro s t x1 x2 hE hx1 hx2
  have hC : C = 99 ∨ C = 115 := hE.1
  refine pcr_of (M := tb_M110) rfl ?_
  show pr K K d tb_M110 0 [(0, .ref 142), (1, vi x1), (2, vi x2)] [] s _
  rw [wG_110]
  unfold wM110
  refine pr_n (pc2 := 1) (lv2 := [(0, .ref 142), (1, vi x1), (2, vi x2)]) (st2 := [.ref 142]) 1 (fun _ _ => rfl) ?_
  refine pr_get (v := .ref C) rfl rfl rfl (by decide) (rv_ref (show s.1 142 0 = ((C : Nat) : Int) from hE.2.2.1)) fun _ => ?_
  refine pr_get (v := .ref (C + 3)) rfl rfl (TK0 hC) (by decide) (rv_ref (hE.2.1 C 2 (C + 3) (rcK hC (by omega)))) fun _ => ?_
  refine pr_n (pc2 := 8) (lv2 := [(0, .ref 142), (1, vi x1), (2, vi x2)]) (st2 := [vi x1, .ref (C + 3)]) 1 (fun _ _ => rfl) ?_
  refine pr_aE (k2 := 102) (a := x1) (v := vi (t 102 x1.toNat)) hE rfl (TK3 hC) rfl hx1 (by decide) rfl rfl rfl fun h2 h3 h1 => ?_
  have h1 : i32 (t 102 x1.toNat) := h1
  refine pr_n (pc2 := 11) (lv2 := [(3, vi (t 102 x1.toNat)), (0, .ref 142), (1, vi x1), (2, vi x2)]) (st2 := [vi x2]) 2 (fun _ _ => rfl) ?_
  by_cases h4 : x2 ≠ 0
  · refine mq_t h4 ?_
    refine pr_if1t rfl rfl hx2 h4 ?_
    refine pr_n (pc2 := 63) (lv2 := [(3, vi (t 102 x1.toNat)), (0, .ref 142), (1, vi x1), (2, vi x2)]) (st2 := [vi (t 102 x1.toNat), vi x2]) 2 (fun _ _ => rfl) ?_
    by_cases h5 : x2 ≠ t 102 x1.toNat
    · refine mq_t h5 ?_
      refine pr_if2t rfl rfl hx2 h1 h5 ?_
      refine pr_end (fun _ _ => rfl) ?_
      exact .inl ⟨_, 0, _, rfl, ⟨rfl, rfl⟩, rfl, hE⟩
    · refine mq_f h5 ?_
      refine pr_if2f rfl rfl hx2 h1 h5 ?_
      refine pr_n (pc2 := 69) (lv2 := [(3, vi (t 102 x1.toNat)), (0, .ref 142), (1, vi x1), (2, vi x2)]) (st2 := [vi 0, vi x1, .ref 142]) 3 (fun _ _ => rfl) ?_
      refine pr_s1 (args := [vi x1, vi 0]) (rest := []) rfl rfl rfl rfl (Nat.le_of_ble_eq_true rfl) rfl (h_88 s t x1 0 hE hx1 (i32_n rfl)) v_tlw ?_
      rintro _ s6 ⟨rfl, _⟩ hE6
      show pr K K d tb_M110 72 [(3, vi (t 102 x1.toNat)), (0, .ref 142), (1, vi x1), (2, vi x2)] [] s6 _
      refine pr_end (fun _ _ => rfl) ?_
      exact .inl ⟨_, 0, _, rfl, ⟨rfl, rfl⟩, rfl, hE6⟩
  · refine mq_f h4 ?_
    refine pr_if1f rfl rfl hx2 h4 ?_
    refine pr_n (pc2 := 15) (lv2 := [(3, vi (t 102 x1.toNat)), (0, .ref 142), (1, vi x1), (2, vi x2)]) (st2 := [.ref 142]) 1 (fun _ _ => rfl) ?_
    refine pr_get (v := .ref C) rfl rfl rfl (by decide) (rv_ref (show s.1 142 0 = ((C : Nat) : Int) from hE.2.2.1)) fun _ => ?_
    refine pr_get (v := .ref (C + 2)) rfl rfl (TK0 hC) (by decide) (rv_ref (hE.2.1 C 1 (C + 2) (rcK hC (by omega)))) fun _ => ?_
    refine pr_n (pc2 := 22) (lv2 := [(3, vi (t 102 x1.toNat)), (0, .ref 142), (1, vi x1), (2, vi x2)]) (st2 := [vi x1, .ref (C + 2)]) 1 (fun _ _ => rfl) ?_
    refine pr_aE (k2 := 101) (a := x1) (v := vi (t 101 x1.toNat)) hE rfl (TK2 hC) rfl hx1 (by decide) rfl rfl rfl fun h8 h9 h7 => ?_
    have h7 : i32 (t 101 x1.toNat) := h7
    refine pr_n (pc2 := 28) (lv2 := [(5, vi 0), (4, vi (t 101 x1.toNat)), (3, vi (t 102 x1.toNat)), (0, .ref 142), (1, vi x1), (2, vi x2)]) (st2 := []) 3 (fun _ _ => rfl) ?_
    exact ((wa110 h_83 h_88 h_97 K)) s t 0 (t 101 x1.toNat) (t 102 x1.toNat) x1 x2 hE (i32_n rfl) h7 h1 hx1 hx2
set_option maxHeartbeats 20000000 in
set_option maxRecDepth 100000 in
theorem wm109 {K d C : Nat} (h_83 : wT83 K d C) (h_88 : wT88 K d C) (h_90 : wT90 K d C) (h_97 : wT97 K d C) (h_102 : wT102 K d C) (h_110 : wT110 K d C) : wT109 K (d + 1) C := by
  intro s t x1 x2 hE hx1 hx2
  have hC : C = 99 ∨ C = 115 := hE.1
  refine pcr_of (M := tb_M109) rfl ?_
  show pr K K d tb_M109 0 [(0, .ref 142), (1, vi x1), (2, vi x2)] [] s _
  rw [wG_109]
  unfold wM109
  refine pr_n (pc2 := 1) (lv2 := [(0, .ref 142), (1, vi x1), (2, vi x2)]) (st2 := [.ref 142]) 1 (fun _ _ => rfl) ?_
  refine pr_get (v := .ref C) rfl rfl rfl (by decide) (rv_ref (show s.1 142 0 = ((C : Nat) : Int) from hE.2.2.1)) fun _ => ?_
  refine pr_get (v := .ref (C + 2)) rfl rfl (TK0 hC) (by decide) (rv_ref (hE.2.1 C 1 (C + 2) (rcK hC (by omega)))) fun _ => ?_
  refine pr_n (pc2 := 8) (lv2 := [(0, .ref 142), (1, vi x1), (2, vi x2)]) (st2 := [vi x1, .ref (C + 2)]) 1 (fun _ _ => rfl) ?_
  refine pr_aE (k2 := 101) (a := x1) (v := vi (t 101 x1.toNat)) hE rfl (TK2 hC) rfl hx1 (by decide) rfl rfl rfl fun h2 h3 h1 => ?_
  have h1 : i32 (t 101 x1.toNat) := h1
  refine pr_n (pc2 := 11) (lv2 := [(3, vi (t 101 x1.toNat)), (0, .ref 142), (1, vi x1), (2, vi x2)]) (st2 := [.ref 142]) 2 (fun _ _ => rfl) ?_
  refine pr_get (v := .ref C) rfl rfl rfl (by decide) (rv_ref (show s.1 142 0 = ((C : Nat) : Int) from hE.2.2.1)) fun _ => ?_
  refine pr_get (v := .ref (C + 3)) rfl rfl (TK0 hC) (by decide) (rv_ref (hE.2.1 C 2 (C + 3) (rcK hC (by omega)))) fun _ => ?_
  refine pr_n (pc2 := 18) (lv2 := [(3, vi (t 101 x1.toNat)), (0, .ref 142), (1, vi x1), (2, vi x2)]) (st2 := [vi x1, .ref (C + 3)]) 1 (fun _ _ => rfl) ?_
  refine pr_aE (k2 := 102) (a := x1) (v := vi (t 102 x1.toNat)) hE rfl (TK3 hC) rfl hx1 (by decide) rfl rfl rfl fun h5 h6 h4 => ?_
  have h4 : i32 (t 102 x1.toNat) := h4
  refine pr_n (pc2 := 22) (lv2 := [(4, vi (t 102 x1.toNat)), (3, vi (t 101 x1.toNat)), (0, .ref 142), (1, vi x1), (2, vi x2)]) (st2 := [.ref 142]) 2 (fun _ _ => rfl) ?_
  refine pr_get (v := .ref C) rfl rfl rfl (by decide) (rv_ref (show s.1 142 0 = ((C : Nat) : Int) from hE.2.2.1)) fun _ => ?_
  refine pr_get (v := .ref (C + 1)) rfl rfl (TK0 hC) (by decide) (rv_ref (hE.2.1 C 0 (C + 1) (rcK hC (by omega)))) fun _ => ?_
  refine pr_n (pc2 := 29) (lv2 := [(4, vi (t 102 x1.toNat)), (3, vi (t 101 x1.toNat)), (0, .ref 142), (1, vi x1), (2, vi x2)]) (st2 := [vi x1, .ref (C + 1)]) 1 (fun _ _ => rfl) ?_
  refine pr_aE (k2 := 100) (a := x1) (v := vi (t 100 x1.toNat)) hE rfl (TK1 hC) rfl hx1 (by decide) rfl rfl rfl fun h8 h9 h7 => ?_
  have h7 : i32 (t 100 x1.toNat) := h7
  by_cases h10 : t 100 x1.toNat = 308
  · refine mq_t h10 ?_
    refine pr_lsw rfl (by decide) h7 (by rw [h10]) rfl ?_
    refine pr_n (pc2 := 81) (lv2 := [(4, vi (t 102 x1.toNat)), (3, vi (t 101 x1.toNat)), (0, .ref 142), (1, vi x1), (2, vi x2)]) (st2 := [vi x2]) 1 (fun _ _ => rfl) ?_
    by_cases h11 : x2 ≠ 0
    · refine mq_t h11 ?_
      refine pr_if1t rfl rfl hx2 h11 ?_
      refine pr_n (pc2 := 95) (lv2 := [(4, vi (t 102 x1.toNat)), (3, vi (t 101 x1.toNat)), (0, .ref 142), (1, vi x1), (2, vi x2)]) (st2 := [vi (t 101 x1.toNat), .ref 142]) 2 (fun _ _ => rfl) ?_
      refine pr_s1 (args := [vi (t 101 x1.toNat)]) (rest := []) rfl rfl rfl rfl (Nat.le_of_ble_eq_true rfl) rfl (h_90 s t (t 101 x1.toNat) hE h1) v_vax ?_
      rintro _ s12 ⟨rfl, hz12⟩ hE12
      show pr K K d tb_M109 98 [(4, vi (t 102 x1.toNat)), (3, vi (t 101 x1.toNat)), (0, .ref 142), (1, vi x1), (2, vi x2)] [vi (vax t (t 101 x1.toNat))] s12 _
      by_cases h13 : vax t (t 101 x1.toNat) = 0
      · refine mq_t h13 ?_
        refine pr_if1t rfl rfl hz12 h13 ?_
        refine pr_n (pc2 := 107) (lv2 := [(4, vi (t 102 x1.toNat)), (3, vi (t 101 x1.toNat)), (0, .ref 142), (1, vi x1), (2, vi x2)]) (st2 := [.ref 142]) 1 (fun _ _ => rfl) ?_
        refine pr_get (v := .ref C) rfl rfl rfl (by decide) (rv_ref (show s12.1 142 0 = ((C : Nat) : Int) from hE12.2.2.1)) fun _ => ?_
        refine pr_get (v := .ref (C + 4)) rfl rfl (TK0 hC) (by decide) (rv_ref (hE12.2.1 C 3 (C + 4) (rcK hC (by omega)))) fun _ => ?_
        refine pr_n (pc2 := 114) (lv2 := [(4, vi (t 102 x1.toNat)), (3, vi (t 101 x1.toNat)), (0, .ref 142), (1, vi x1), (2, vi x2)]) (st2 := [vi x1, .ref (C + 4)]) 1 (fun _ _ => rfl) ?_
        refine pr_aE (k2 := 103) (a := x1) (v := vi (t 103 x1.toNat)) hE12 rfl (TK4 hC) rfl hx1 (by decide) rfl rfl rfl fun h15 h16 h14 => ?_
        have h14 : i32 (t 103 x1.toNat) := h14
        refine pr_n (pc2 := 120) (lv2 := [(5, vi (t 103 x1.toNat)), (4, vi (t 102 x1.toNat)), (3, vi (t 101 x1.toNat)), (0, .ref 142), (1, vi x1), (2, vi x2)]) (st2 := [vi 1, vi x2, .ref 142]) 4 (fun _ _ => rfl) ?_
        by_cases h17 : x2 ≠ 1
        · refine mq_t h17 ?_
          refine pr_if2t rfl rfl hx2 (i32_n rfl) h17 ?_
          refine pr_n (pc2 := 131) (lv2 := [(5, vi (t 103 x1.toNat)), (4, vi (t 102 x1.toNat)), (3, vi (t 101 x1.toNat)), (0, .ref 142), (1, vi x1), (2, vi x2)]) (st2 := [vi 0, vi x1, vi ((-1)), .ref 142]) 3 (fun _ _ => rfl) ?_
          refine pr_s1 (args := [vi ((-1)), vi x1, vi 0]) (rest := []) rfl rfl rfl rfl (Nat.le_of_ble_eq_true rfl) rfl (h_102 s12 t ((-1)) x1 0 hE12 (i32_n rfl) hx1 (i32_n rfl)) v_otw ?_
          rintro _ s18 ⟨rfl, _⟩ hE18
          show pr K K d tb_M109 134 [(5, vi (t 103 x1.toNat)), (4, vi (t 102 x1.toNat)), (3, vi (t 101 x1.toNat)), (0, .ref 142), (1, vi x1), (2, vi x2)] [] s18 _
          refine pr_n (pc2 := 252) (lv2 := [(5, vi (t 103 x1.toNat)), (4, vi (t 102 x1.toNat)), (3, vi (t 101 x1.toNat)), (0, .ref 142), (1, vi x1), (2, vi x2)]) (st2 := []) 1 (fun _ _ => rfl) ?_
          refine pr_end (fun _ _ => rfl) ?_
          exact .inl ⟨_, 0, _, rfl, ⟨rfl, rfl⟩, rfl, hE18⟩
        · refine mq_f h17 ?_
          refine pr_if2f rfl rfl hx2 (i32_n rfl) h17 ?_
          refine pr_n (pc2 := 131) (lv2 := [(5, vi (t 103 x1.toNat)), (4, vi (t 102 x1.toNat)), (3, vi (t 101 x1.toNat)), (0, .ref 142), (1, vi x1), (2, vi x2)]) (st2 := [vi 0, vi x1, vi (t 103 x1.toNat), .ref 142]) 4 (fun _ _ => rfl) ?_
          refine pr_s1 (args := [vi (t 103 x1.toNat), vi x1, vi 0]) (rest := []) rfl rfl rfl rfl (Nat.le_of_ble_eq_true rfl) rfl (h_102 s12 t (t 103 x1.toNat) x1 0 hE12 h14 hx1 (i32_n rfl)) v_otw ?_
          rintro _ s19 ⟨rfl, _⟩ hE19
          show pr K K d tb_M109 134 [(5, vi (t 103 x1.toNat)), (4, vi (t 102 x1.toNat)), (3, vi (t 101 x1.toNat)), (0, .ref 142), (1, vi x1), (2, vi x2)] [] s19 _
          refine pr_n (pc2 := 252) (lv2 := [(5, vi (t 103 x1.toNat)), (4, vi (t 102 x1.toNat)), (3, vi (t 101 x1.toNat)), (0, .ref 142), (1, vi x1), (2, vi x2)]) (st2 := []) 1 (fun _ _ => rfl) ?_
          refine pr_end (fun _ _ => rfl) ?_
          exact .inl ⟨_, 0, _, rfl, ⟨rfl, rfl⟩, rfl, hE19⟩
      · refine mq_f h13 ?_
        refine pr_if1f rfl rfl hz12 h13 ?_
        refine pr_n (pc2 := 120) (lv2 := [(5, vi (t 102 x1.toNat)), (4, vi (t 102 x1.toNat)), (3, vi (t 101 x1.toNat)), (0, .ref 142), (1, vi x1), (2, vi x2)]) (st2 := [vi 1, vi x2, .ref 142]) 6 (fun _ _ => rfl) ?_
        by_cases h20 : x2 ≠ 1
        · refine mq_t h20 ?_
          refine pr_if2t rfl rfl hx2 (i32_n rfl) h20 ?_
          refine pr_n (pc2 := 131) (lv2 := [(5, vi (t 102 x1.toNat)), (4, vi (t 102 x1.toNat)), (3, vi (t 101 x1.toNat)), (0, .ref 142), (1, vi x1), (2, vi x2)]) (st2 := [vi 0, vi x1, vi ((-1)), .ref 142]) 3 (fun _ _ => rfl) ?_
          refine pr_s1 (args := [vi ((-1)), vi x1, vi 0]) (rest := []) rfl rfl rfl rfl (Nat.le_of_ble_eq_true rfl) rfl (h_102 s12 t ((-1)) x1 0 hE12 (i32_n rfl) hx1 (i32_n rfl)) v_otw ?_
          rintro _ s21 ⟨rfl, _⟩ hE21
          show pr K K d tb_M109 134 [(5, vi (t 102 x1.toNat)), (4, vi (t 102 x1.toNat)), (3, vi (t 101 x1.toNat)), (0, .ref 142), (1, vi x1), (2, vi x2)] [] s21 _
          refine pr_n (pc2 := 252) (lv2 := [(5, vi (t 102 x1.toNat)), (4, vi (t 102 x1.toNat)), (3, vi (t 101 x1.toNat)), (0, .ref 142), (1, vi x1), (2, vi x2)]) (st2 := []) 1 (fun _ _ => rfl) ?_
          refine pr_end (fun _ _ => rfl) ?_
          exact .inl ⟨_, 0, _, rfl, ⟨rfl, rfl⟩, rfl, hE21⟩
        · refine mq_f h20 ?_
          refine pr_if2f rfl rfl hx2 (i32_n rfl) h20 ?_
          refine pr_n (pc2 := 131) (lv2 := [(5, vi (t 102 x1.toNat)), (4, vi (t 102 x1.toNat)), (3, vi (t 101 x1.toNat)), (0, .ref 142), (1, vi x1), (2, vi x2)]) (st2 := [vi 0, vi x1, vi (t 102 x1.toNat), .ref 142]) 4 (fun _ _ => rfl) ?_
          refine pr_s1 (args := [vi (t 102 x1.toNat), vi x1, vi 0]) (rest := []) rfl rfl rfl rfl (Nat.le_of_ble_eq_true rfl) rfl (h_102 s12 t (t 102 x1.toNat) x1 0 hE12 h4 hx1 (i32_n rfl)) v_otw ?_
          rintro _ s22 ⟨rfl, _⟩ hE22
          show pr K K d tb_M109 134 [(5, vi (t 102 x1.toNat)), (4, vi (t 102 x1.toNat)), (3, vi (t 101 x1.toNat)), (0, .ref 142), (1, vi x1), (2, vi x2)] [] s22 _
          refine pr_n (pc2 := 252) (lv2 := [(5, vi (t 102 x1.toNat)), (4, vi (t 102 x1.toNat)), (3, vi (t 101 x1.toNat)), (0, .ref 142), (1, vi x1), (2, vi x2)]) (st2 := []) 1 (fun _ _ => rfl) ?_
          refine pr_end (fun _ _ => rfl) ?_
          exact .inl ⟨_, 0, _, rfl, ⟨rfl, rfl⟩, rfl, hE22⟩
    · refine mq_f h11 ?_
      refine pr_if1f rfl rfl hx2 h11 ?_
      refine pr_n (pc2 := 87) (lv2 := [(4, vi (t 102 x1.toNat)), (3, vi (t 101 x1.toNat)), (0, .ref 142), (1, vi x1), (2, vi x2)]) (st2 := [vi x1, vi (t 101 x1.toNat), .ref 142]) 3 (fun _ _ => rfl) ?_
      refine pr_s1 (args := [vi (t 101 x1.toNat), vi x1]) (rest := []) rfl rfl rfl rfl (Nat.le_of_ble_eq_true rfl) rfl (h_83 s t (t 101 x1.toNat) x1 hE h1 hx1) v_akw ?_
      rintro _ s23 ⟨rfl, _⟩ hE23
      show pr K K d tb_M109 90 [(4, vi (t 102 x1.toNat)), (3, vi (t 101 x1.toNat)), (0, .ref 142), (1, vi x1), (2, vi x2)] [] s23 _
      refine pr_n (pc2 := 252) (lv2 := [(4, vi (t 102 x1.toNat)), (3, vi (t 101 x1.toNat)), (0, .ref 142), (1, vi x1), (2, vi x2)]) (st2 := []) 1 (fun _ _ => rfl) ?_
      refine pr_end (fun _ _ => rfl) ?_
      exact .inl ⟨_, 0, _, rfl, ⟨rfl, rfl⟩, rfl, hE23⟩
  · refine mq_f h10 ?_
    by_cases h24 : t 100 x1.toNat = 310
    · refine mq_t h24 ?_
      refine pr_lsw rfl (by decide) h7 (by rw [h24]) rfl ?_
      refine pr_n (pc2 := 139) (lv2 := [(4, vi (t 102 x1.toNat)), (3, vi (t 101 x1.toNat)), (0, .ref 142), (1, vi x1), (2, vi x2)]) (st2 := [vi 2, vi x2]) 2 (fun _ _ => rfl) ?_
      refine pr_irem (a := x2) (b := 2) rfl ?_
      show pr K K d tb_M109 140 [(4, vi (t 102 x1.toNat)), (3, vi (t 101 x1.toNat)), (0, .ref 142), (1, vi x1), (2, vi x2)] [vi (rmw x2 2)] s _
      by_cases h25 : rmw x2 2 ≠ 0
      · refine mq_t h25 ?_
        refine pr_if1t rfl rfl (i32_in _) h25 ?_
        refine pr_n (pc2 := 155) (lv2 := [(4, vi (t 102 x1.toNat)), (3, vi (t 101 x1.toNat)), (0, .ref 142), (1, vi x1), (2, vi x2)]) (st2 := [vi (t 101 x1.toNat), .ref 142, .ref 142]) 3 (fun _ _ => rfl) ?_
        refine pr_s1 (args := [vi (t 101 x1.toNat)]) (rest := [.ref 142]) rfl rfl rfl rfl (Nat.le_of_ble_eq_true rfl) rfl (h_90 s t (t 101 x1.toNat) hE h1) v_vax ?_
        rintro _ s26 ⟨rfl, hz26⟩ hE26
        show pr K K d tb_M109 158 [(4, vi (t 102 x1.toNat)), (3, vi (t 101 x1.toNat)), (0, .ref 142), (1, vi x1), (2, vi x2)] [vi (vax t (t 101 x1.toNat)), .ref 142] s26 _
        by_cases h27 : vax t (t 101 x1.toNat) = 0
        · refine mq_t h27 ?_
          refine pr_if1t rfl rfl hz26 h27 ?_
          refine pr_n (pc2 := 169) (lv2 := [(4, vi (t 102 x1.toNat)), (3, vi (t 101 x1.toNat)), (0, .ref 142), (1, vi x1), (2, vi x2)]) (st2 := [vi 0, vi x1, vi ((-1)), .ref 142]) 3 (fun _ _ => rfl) ?_
          refine pr_s1 (args := [vi ((-1)), vi x1, vi 0]) (rest := []) rfl rfl rfl rfl (Nat.le_of_ble_eq_true rfl) rfl (h_102 s26 t ((-1)) x1 0 hE26 (i32_n rfl) hx1 (i32_n rfl)) v_otw ?_
          rintro _ s28 ⟨rfl, _⟩ hE28
          show pr K K d tb_M109 172 [(4, vi (t 102 x1.toNat)), (3, vi (t 101 x1.toNat)), (0, .ref 142), (1, vi x1), (2, vi x2)] [] s28 _
          refine pr_n (pc2 := 252) (lv2 := [(4, vi (t 102 x1.toNat)), (3, vi (t 101 x1.toNat)), (0, .ref 142), (1, vi x1), (2, vi x2)]) (st2 := []) 1 (fun _ _ => rfl) ?_
          refine pr_end (fun _ _ => rfl) ?_
          exact .inl ⟨_, 0, _, rfl, ⟨rfl, rfl⟩, rfl, hE28⟩
        · refine mq_f h27 ?_
          refine pr_if1f rfl rfl hz26 h27 ?_
          refine pr_n (pc2 := 169) (lv2 := [(4, vi (t 102 x1.toNat)), (3, vi (t 101 x1.toNat)), (0, .ref 142), (1, vi x1), (2, vi x2)]) (st2 := [vi 0, vi x1, vi (t 102 x1.toNat), .ref 142]) 4 (fun _ _ => rfl) ?_
          refine pr_s1 (args := [vi (t 102 x1.toNat), vi x1, vi 0]) (rest := []) rfl rfl rfl rfl (Nat.le_of_ble_eq_true rfl) rfl (h_102 s26 t (t 102 x1.toNat) x1 0 hE26 h4 hx1 (i32_n rfl)) v_otw ?_
          rintro _ s29 ⟨rfl, _⟩ hE29
          show pr K K d tb_M109 172 [(4, vi (t 102 x1.toNat)), (3, vi (t 101 x1.toNat)), (0, .ref 142), (1, vi x1), (2, vi x2)] [] s29 _
          refine pr_n (pc2 := 252) (lv2 := [(4, vi (t 102 x1.toNat)), (3, vi (t 101 x1.toNat)), (0, .ref 142), (1, vi x1), (2, vi x2)]) (st2 := []) 1 (fun _ _ => rfl) ?_
          refine pr_end (fun _ _ => rfl) ?_
          exact .inl ⟨_, 0, _, rfl, ⟨rfl, rfl⟩, rfl, hE29⟩
      · refine mq_f h25 ?_
        refine pr_if1f rfl rfl (i32_in _) h25 ?_
        refine pr_n (pc2 := 146) (lv2 := [(4, vi (t 102 x1.toNat)), (3, vi (t 101 x1.toNat)), (0, .ref 142), (1, vi x1), (2, vi x2)]) (st2 := [vi x1, vi (t 101 x1.toNat), .ref 142]) 3 (fun _ _ => rfl) ?_
        refine pr_s1 (args := [vi (t 101 x1.toNat), vi x1]) (rest := []) rfl rfl rfl rfl (Nat.le_of_ble_eq_true rfl) rfl (h_83 s t (t 101 x1.toNat) x1 hE h1 hx1) v_akw ?_
        rintro _ s30 ⟨rfl, _⟩ hE30
        show pr K K d tb_M109 149 [(4, vi (t 102 x1.toNat)), (3, vi (t 101 x1.toNat)), (0, .ref 142), (1, vi x1), (2, vi x2)] [] s30 _
        refine pr_n (pc2 := 252) (lv2 := [(4, vi (t 102 x1.toNat)), (3, vi (t 101 x1.toNat)), (0, .ref 142), (1, vi x1), (2, vi x2)]) (st2 := []) 1 (fun _ _ => rfl) ?_
        refine pr_end (fun _ _ => rfl) ?_
        exact .inl ⟨_, 0, _, rfl, ⟨rfl, rfl⟩, rfl, hE30⟩
    · refine mq_f h24 ?_
      by_cases h31 : t 100 x1.toNat = 311
      · refine mq_t h31 ?_
        refine pr_lsw rfl (by decide) h7 (by rw [h31]) rfl ?_
        refine pr_n (pc2 := 178) (lv2 := [(4, vi (t 102 x1.toNat)), (3, vi (t 101 x1.toNat)), (0, .ref 142), (1, vi x1), (2, vi x2)]) (st2 := [vi (t 101 x1.toNat), vi x2, .ref 142]) 3 (fun _ _ => rfl) ?_
        by_cases h32 : t 101 x1.toNat ≤ x2
        · refine mq_t h32 ?_
          refine pr_if2t rfl rfl hx2 h1 h32 ?_
          refine pr_n (pc2 := 189) (lv2 := [(4, vi (t 102 x1.toNat)), (3, vi (t 101 x1.toNat)), (0, .ref 142), (1, vi x1), (2, vi x2)]) (st2 := [vi 0, vi x1, vi ((-1)), .ref 142]) 3 (fun _ _ => rfl) ?_
          refine pr_s1 (args := [vi ((-1)), vi x1, vi 0]) (rest := []) rfl rfl rfl rfl (Nat.le_of_ble_eq_true rfl) rfl (h_102 s t ((-1)) x1 0 hE (i32_n rfl) hx1 (i32_n rfl)) v_otw ?_
          rintro _ s33 ⟨rfl, _⟩ hE33
          show pr K K d tb_M109 192 [(4, vi (t 102 x1.toNat)), (3, vi (t 101 x1.toNat)), (0, .ref 142), (1, vi x1), (2, vi x2)] [] s33 _
          refine pr_n (pc2 := 252) (lv2 := [(4, vi (t 102 x1.toNat)), (3, vi (t 101 x1.toNat)), (0, .ref 142), (1, vi x1), (2, vi x2)]) (st2 := []) 1 (fun _ _ => rfl) ?_
          refine pr_end (fun _ _ => rfl) ?_
          exact .inl ⟨_, 0, _, rfl, ⟨rfl, rfl⟩, rfl, hE33⟩
        · refine mq_f h32 ?_
          refine pr_if2f rfl rfl hx2 h1 h32 ?_
          refine pr_n (pc2 := 189) (lv2 := [(4, vi (t 102 x1.toNat)), (3, vi (t 101 x1.toNat)), (0, .ref 142), (1, vi x1), (2, vi x2)]) (st2 := [vi 0, vi x1, vi (t 102 x1.toNat), .ref 142]) 4 (fun _ _ => rfl) ?_
          refine pr_s1 (args := [vi (t 102 x1.toNat), vi x1, vi 0]) (rest := []) rfl rfl rfl rfl (Nat.le_of_ble_eq_true rfl) rfl (h_102 s t (t 102 x1.toNat) x1 0 hE h4 hx1 (i32_n rfl)) v_otw ?_
          rintro _ s34 ⟨rfl, _⟩ hE34
          show pr K K d tb_M109 192 [(4, vi (t 102 x1.toNat)), (3, vi (t 101 x1.toNat)), (0, .ref 142), (1, vi x1), (2, vi x2)] [] s34 _
          refine pr_n (pc2 := 252) (lv2 := [(4, vi (t 102 x1.toNat)), (3, vi (t 101 x1.toNat)), (0, .ref 142), (1, vi x1), (2, vi x2)]) (st2 := []) 1 (fun _ _ => rfl) ?_
          refine pr_end (fun _ _ => rfl) ?_
          exact .inl ⟨_, 0, _, rfl, ⟨rfl, rfl⟩, rfl, hE34⟩
      · refine mq_f h31 ?_
        by_cases h35 : t 100 x1.toNat = 312
        · refine mq_t h35 ?_
          refine pr_lsw rfl (by decide) h7 (by rw [h35]) rfl ?_
          refine pr_n (pc2 := 240) (lv2 := [(4, vi (t 102 x1.toNat)), (3, vi (t 101 x1.toNat)), (0, .ref 142), (1, vi x1), (2, vi x2)]) (st2 := [vi x2, vi x1, .ref 142]) 3 (fun _ _ => rfl) ?_
          refine pr_m1 (args := [vi x1, vi x2]) (rest := []) rfl rfl rfl rfl (Nat.le_of_ble_eq_true rfl) rfl (h_110 s t x1 x2 hE hx1 hx2) ?_
          rintro _ _ t36 s36 ⟨rfl, rfl⟩ hE36
          show pr K K d tb_M109 243 [(4, vi (t 102 x1.toNat)), (3, vi (t 101 x1.toNat)), (0, .ref 142), (1, vi x1), (2, vi x2)] [] s36 _
          refine pr_n (pc2 := 252) (lv2 := [(4, vi (t 102 x1.toNat)), (3, vi (t 101 x1.toNat)), (0, .ref 142), (1, vi x1), (2, vi x2)]) (st2 := []) 1 (fun _ _ => rfl) ?_
          refine pr_end (fun _ _ => rfl) ?_
          exact .inl ⟨_, 0, _, rfl, ⟨rfl, rfl⟩, rfl, hE36⟩
        · refine mq_f h35 ?_
          by_cases h37 : t 100 x1.toNat = 408
          · refine mq_t h37 ?_
            refine pr_lsw rfl (by decide) h7 (by rw [h37]) rfl ?_
            refine pr_n (pc2 := 196) (lv2 := [(4, vi (t 102 x1.toNat)), (3, vi (t 101 x1.toNat)), (0, .ref 142), (1, vi x1), (2, vi x2)]) (st2 := [.ref 142]) 1 (fun _ _ => rfl) ?_
            refine pr_get (v := .ref 146) rfl rfl rfl (by decide) (rv_ref (hE.2.1 142 4 146 rfl)) fun _ => ?_
            refine pr_n (pc2 := 201) (lv2 := [(4, vi (t 102 x1.toNat)), (3, vi (t 101 x1.toNat)), (0, .ref 142), (1, vi x1), (2, vi x2)]) (st2 := [vi x2, vi x1, .ref 146]) 2 (fun _ _ => rfl) ?_
            by_cases h38 : x2 ≠ 0
            · refine mq_t h38 ?_
              refine pr_if1t rfl rfl hx2 h38 ?_
              refine pr_n (pc2 := 209) (lv2 := [(4, vi (t 102 x1.toNat)), (3, vi (t 101 x1.toNat)), (0, .ref 142), (1, vi x1), (2, vi x2)]) (st2 := [.ref 142, vi x1, .ref 146]) 1 (fun _ _ => rfl) ?_
              refine pr_get (v := .ref C) rfl rfl rfl (by decide) (rv_ref (show s.1 142 0 = ((C : Nat) : Int) from hE.2.2.1)) fun _ => ?_
              refine pr_n (pc2 := 213) (lv2 := [(4, vi (t 102 x1.toNat)), (3, vi (t 101 x1.toNat)), (0, .ref 142), (1, vi x1), (2, vi x2)]) (st2 := [.ref 142, .ref C, vi x1, .ref 146]) 1 (fun _ _ => rfl) ?_
              refine pr_get (v := .ref 146) rfl rfl rfl (by decide) (rv_ref (hE.2.1 142 4 146 rfl)) fun _ => ?_
              refine pr_n (pc2 := 217) (lv2 := [(4, vi (t 102 x1.toNat)), (3, vi (t 101 x1.toNat)), (0, .ref 142), (1, vi x1), (2, vi x2)]) (st2 := [vi x1, .ref 146, .ref C, vi x1, .ref 146]) 1 (fun _ _ => rfl) ?_
              refine pr_aE (k2 := 146) (a := x1) (v := vi (t 146 x1.toNat)) hE rfl rfl rfl hx1 (by decide) rfl rfl rfl fun h40 h41 h39 => ?_
              have h39 : i32 (t 146 x1.toNat) := h39
              refine pr_s1 (args := [vi (t 146 x1.toNat)]) (rest := [vi x1, .ref 146]) rfl rfl rfl (TK0 hC) (Nat.le_of_ble_eq_true rfl) rfl (h_97 s t (t 146 x1.toNat) hE h39) v_flx ?_
              rintro _ s42 ⟨rfl, hz42⟩ hE42
              show pr K K d tb_M109 221 [(4, vi (t 102 x1.toNat)), (3, vi (t 101 x1.toNat)), (0, .ref 142), (1, vi x1), (2, vi x2)] [vi (flx t (t 146 x1.toNat)), vi x1, .ref 146] s42 _
              refine pr_sE (k2 := 146) (a := x1) (z := flx t (t 146 x1.toNat)) hE42 rfl (by decide) rfl rfl hx1 (by decide) rfl (show i32 (flx t (t 146 x1.toNat)) from hz42) (n0 rfl (by omega) (by omega)) rfl rfl (fun e => absurd e.1 (by decide)) (fun _ => trivial) fun h43 h44 s45 hE45 => ?_
              refine pr_n (pc2 := 224) (lv2 := [(4, vi (t 102 x1.toNat)), (3, vi (t 101 x1.toNat)), (0, .ref 142), (1, vi x1), (2, vi x2)]) (st2 := [.ref 142, .ref 142]) 2 (fun _ _ => rfl) ?_
              refine pr_get (v := .ref 146) rfl rfl rfl (by decide) (rv_ref (hE45.2.1 142 4 146 rfl)) fun _ => ?_
              refine pr_n (pc2 := 228) (lv2 := [(4, vi (t 102 x1.toNat)), (3, vi (t 101 x1.toNat)), (0, .ref 142), (1, vi x1), (2, vi x2)]) (st2 := [vi x1, .ref 146, .ref 142]) 1 (fun _ _ => rfl) ?_
              refine pr_aE (k2 := 146) (a := x1) (v := vi (flx t (t 146 x1.toNat))) hE45 rfl rfl rfl hx1 (by decide) rfl rfl (by rw [up_self]; rfl) fun h47 h48 h46 => ?_
              rw [up_self] at h46
              have h46 : i32 (flx t (t 146 x1.toNat)) := h46
              refine pr_n (pc2 := 231) (lv2 := [(4, vi (t 102 x1.toNat)), (3, vi (t 101 x1.toNat)), (0, .ref 142), (1, vi x1), (2, vi x2)]) (st2 := [vi 0, vi x1, vi (flx t (t 146 x1.toNat)), .ref 142]) 2 (fun _ _ => rfl) ?_
              refine pr_s1 (args := [vi (flx t (t 146 x1.toNat)), vi x1, vi 0]) (rest := []) rfl rfl rfl rfl (Nat.le_of_ble_eq_true rfl) rfl (h_102 s45 (up2 t 146 x1.toNat (flx t (t 146 x1.toNat))) (flx t (t 146 x1.toNat)) x1 0 hE45 h46 hx1 (i32_n rfl)) v_otw ?_
              rintro _ s49 ⟨rfl, _⟩ hE49
              show pr K K d tb_M109 234 [(4, vi (t 102 x1.toNat)), (3, vi (t 101 x1.toNat)), (0, .ref 142), (1, vi x1), (2, vi x2)] [] s49 _
              refine pr_n (pc2 := 252) (lv2 := [(4, vi (t 102 x1.toNat)), (3, vi (t 101 x1.toNat)), (0, .ref 142), (1, vi x1), (2, vi x2)]) (st2 := []) 1 (fun _ _ => rfl) ?_
              refine pr_end (fun _ _ => rfl) ?_
              exact .inl ⟨_, 0, _, rfl, ⟨rfl, rfl⟩, rfl, hE49⟩
            · refine mq_f h38 ?_
              refine pr_if1f rfl rfl hx2 h38 ?_
              refine pr_n (pc2 := 221) (lv2 := [(4, vi (t 102 x1.toNat)), (3, vi (t 101 x1.toNat)), (0, .ref 142), (1, vi x1), (2, vi x2)]) (st2 := [vi (t 101 x1.toNat), vi x1, .ref 146]) 2 (fun _ _ => rfl) ?_
              refine pr_sE (k2 := 146) (a := x1) (z := t 101 x1.toNat) hE rfl (by decide) rfl rfl hx1 (by decide) rfl (show i32 (t 101 x1.toNat) from h1) (n0 rfl (by omega) (by omega)) rfl rfl (fun e => absurd e.1 (by decide)) (fun _ => trivial) fun h50 h51 s52 hE52 => ?_
              refine pr_n (pc2 := 224) (lv2 := [(4, vi (t 102 x1.toNat)), (3, vi (t 101 x1.toNat)), (0, .ref 142), (1, vi x1), (2, vi x2)]) (st2 := [.ref 142, .ref 142]) 2 (fun _ _ => rfl) ?_
              refine pr_get (v := .ref 146) rfl rfl rfl (by decide) (rv_ref (hE52.2.1 142 4 146 rfl)) fun _ => ?_
              refine pr_n (pc2 := 228) (lv2 := [(4, vi (t 102 x1.toNat)), (3, vi (t 101 x1.toNat)), (0, .ref 142), (1, vi x1), (2, vi x2)]) (st2 := [vi x1, .ref 146, .ref 142]) 1 (fun _ _ => rfl) ?_
              refine pr_aE (k2 := 146) (a := x1) (v := vi (t 101 x1.toNat)) hE52 rfl rfl rfl hx1 (by decide) rfl rfl (by rw [up_self]; rfl) fun h54 h55 h53 => ?_
              rw [up_self] at h53
              have h53 : i32 (t 101 x1.toNat) := h53
              refine pr_n (pc2 := 231) (lv2 := [(4, vi (t 102 x1.toNat)), (3, vi (t 101 x1.toNat)), (0, .ref 142), (1, vi x1), (2, vi x2)]) (st2 := [vi 0, vi x1, vi (t 101 x1.toNat), .ref 142]) 2 (fun _ _ => rfl) ?_
              refine pr_s1 (args := [vi (t 101 x1.toNat), vi x1, vi 0]) (rest := []) rfl rfl rfl rfl (Nat.le_of_ble_eq_true rfl) rfl (h_102 s52 (up2 t 146 x1.toNat (t 101 x1.toNat)) (t 101 x1.toNat) x1 0 hE52 h53 hx1 (i32_n rfl)) v_otw ?_
              rintro _ s56 ⟨rfl, _⟩ hE56
              show pr K K d tb_M109 234 [(4, vi (t 102 x1.toNat)), (3, vi (t 101 x1.toNat)), (0, .ref 142), (1, vi x1), (2, vi x2)] [] s56 _
              refine pr_n (pc2 := 252) (lv2 := [(4, vi (t 102 x1.toNat)), (3, vi (t 101 x1.toNat)), (0, .ref 142), (1, vi x1), (2, vi x2)]) (st2 := []) 1 (fun _ _ => rfl) ?_
              refine pr_end (fun _ _ => rfl) ?_
              exact .inl ⟨_, 0, _, rfl, ⟨rfl, rfl⟩, rfl, hE56⟩
          · refine mq_f h37 ?_
            refine pr_lsw rfl (by decide) h7 (ls_no _ ⟨by omega, by omega, by omega, by omega, by omega, trivial⟩) rfl ?_
            refine pr_n (pc2 := 249) (lv2 := [(4, vi (t 102 x1.toNat)), (3, vi (t 101 x1.toNat)), (0, .ref 142), (1, vi x1), (2, vi x2)]) (st2 := [vi 0, vi x1, .ref 142]) 3 (fun _ _ => rfl) ?_
            refine pr_s1 (args := [vi x1, vi 0]) (rest := []) rfl rfl rfl rfl (Nat.le_of_ble_eq_true rfl) rfl (h_88 s t x1 0 hE hx1 (i32_n rfl)) v_tlw ?_
            rintro _ s57 ⟨rfl, _⟩ hE57
            show pr K K d tb_M109 252 [(4, vi (t 102 x1.toNat)), (3, vi (t 101 x1.toNat)), (0, .ref 142), (1, vi x1), (2, vi x2)] [] s57 _
            refine pr_end (fun _ _ => rfl) ?_
            exact .inl ⟨_, 0, _, rfl, ⟨rfl, rfl⟩, rfl, hE57⟩
set_option maxHeartbeats 20000000 in
set_option maxRecDepth 100000 in
theorem wm86 {K d C : Nat} (h_87 : wT87 K d C) (h_96 : wT96 K d C) (h_103 : wT103 K d C) (h_109 : wT109 K d C) : wT86 K (d + 1) C := by
  intro s t x1 hE hx1
  have hC : C = 99 ∨ C = 115 := hE.1
  refine pcr_of (M := tb_M86) rfl ?_
  show pr K K d tb_M86 0 [(0, .ref 142), (1, vi x1)] [] s _
  rw [wG_86]
  unfold wM86
  refine pr_n (pc2 := 1) (lv2 := [(0, .ref 142), (1, vi x1)]) (st2 := [.ref 142]) 1 (fun _ _ => rfl) ?_
  refine pr_get (v := .ref 144) rfl rfl rfl (by decide) (rv_ref (hE.2.1 142 2 144 rfl)) fun _ => ?_
  refine pr_n (pc2 := 5) (lv2 := [(0, .ref 142), (1, vi x1)]) (st2 := [vi x1, .ref 144]) 1 (fun _ _ => rfl) ?_
  refine pr_aE (k2 := 144) (a := x1) (v := vi (t 144 x1.toNat)) hE rfl rfl rfl hx1 (by decide) rfl rfl rfl fun h2 h3 h1 => ?_
  have h1 : i32 (t 144 x1.toNat) := h1
  refine pr_n (pc2 := 8) (lv2 := [(2, vi (t 144 x1.toNat)), (0, .ref 142), (1, vi x1)]) (st2 := [.ref 142]) 2 (fun _ _ => rfl) ?_
  refine pr_get (v := .ref 144) rfl rfl rfl (by decide) (rv_ref (hE.2.1 142 2 144 rfl)) fun _ => ?_
  refine pr_n (pc2 := 13) (lv2 := [(2, vi (t 144 x1.toNat)), (0, .ref 142), (1, vi x1)]) (st2 := [vi x1, .ref 144, vi x1, .ref 144]) 2 (fun _ _ => rfl) ?_
  refine pr_aE (k2 := 144) (a := x1) (v := vi (t 144 x1.toNat)) hE rfl rfl rfl hx1 (by decide) rfl rfl rfl fun h5 h6 h4 => ?_
  have h4 : i32 (t 144 x1.toNat) := h4
  refine pr_n (pc2 := 15) (lv2 := [(2, vi (t 144 x1.toNat)), (0, .ref 142), (1, vi x1)]) (st2 := [vi 1, vi (t 144 x1.toNat), vi x1, .ref 144]) 1 (fun _ _ => rfl) ?_
  refine pr_i2 (a := t 144 x1.toNat) (b := 1) rfl rfl ?_
  show pr K K d tb_M86 16 [(2, vi (t 144 x1.toNat)), (0, .ref 142), (1, vi x1)] [vi (ipl (t 144 x1.toNat) 1), vi x1, .ref 144] s _
  have h7 : i32 (ipl (t 144 x1.toNat) 1) := i32_in _
  refine pr_sE (k2 := 144) (a := x1) (z := ipl (t 144 x1.toNat) 1) hE rfl (by decide) rfl rfl hx1 (by decide) rfl (show i32 (ipl (t 144 x1.toNat) 1) from h7) (n0 rfl (by omega) (by omega)) rfl rfl (fun e => absurd e.1 (by decide)) (fun _ => trivial) fun h8 h9 s10 hE10 => ?_
  refine pr_n (pc2 := 18) (lv2 := [(2, vi (t 144 x1.toNat)), (0, .ref 142), (1, vi x1)]) (st2 := [.ref 142]) 1 (fun _ _ => rfl) ?_
  refine pr_get (v := .ref C) rfl rfl rfl (by decide) (rv_ref (show s10.1 142 0 = ((C : Nat) : Int) from hE10.2.2.1)) fun _ => ?_
  refine pr_get (v := .ref (C + 1)) rfl rfl (TK0 hC) (by decide) (rv_ref (hE10.2.1 C 0 (C + 1) (rcK hC (by omega)))) fun _ => ?_
  refine pr_n (pc2 := 25) (lv2 := [(2, vi (t 144 x1.toNat)), (0, .ref 142), (1, vi x1)]) (st2 := [vi x1, .ref (C + 1)]) 1 (fun _ _ => rfl) ?_
  refine pr_aE (k2 := 100) (a := x1) (v := vi (t 100 x1.toNat)) hE10 rfl (TK1 hC) rfl hx1 (by decide) rfl rfl rfl fun h12 h13 h11 => ?_
  have h11 : i32 (t 100 x1.toNat) := h11
  by_cases h14 : t 100 x1.toNat = 2
  · refine mq_t h14 ?_
    refine pr_lsw rfl (by decide) h11 (by rw [h14]) rfl ?_
    refine pr_n (pc2 := 111) (lv2 := [(2, vi (t 144 x1.toNat)), (0, .ref 142), (1, vi x1)]) (st2 := [vi (t 144 x1.toNat), vi x1, .ref 142]) 3 (fun _ _ => rfl) ?_
    refine pr_m1 (args := [vi x1, vi (t 144 x1.toNat)]) (rest := []) rfl rfl rfl rfl (Nat.le_of_ble_eq_true rfl) rfl (h_87 s10 (up2 t 144 x1.toNat (ipl (t 144 x1.toNat) 1)) x1 (t 144 x1.toNat) hE10 hx1 h4) ?_
    rintro _ _ t15 s15 ⟨rfl, rfl⟩ hE15
    show pr K K d tb_M86 114 [(2, vi (t 144 x1.toNat)), (0, .ref 142), (1, vi x1)] [] s15 _
    refine pr_n (pc2 := 141) (lv2 := [(2, vi (t 144 x1.toNat)), (0, .ref 142), (1, vi x1)]) (st2 := []) 1 (fun _ _ => rfl) ?_
    refine pr_end (fun _ _ => rfl) ?_
    exact .inl ⟨_, 0, _, rfl, ⟨rfl, rfl⟩, rfl, hE15⟩
  · refine mq_f h14 ?_
    by_cases h16 : t 100 x1.toNat = 400
    · refine mq_t h16 ?_
      refine pr_lsw rfl (by decide) h11 (by rw [h16]) rfl ?_
      refine pr_n (pc2 := 111) (lv2 := [(2, vi (t 144 x1.toNat)), (0, .ref 142), (1, vi x1)]) (st2 := [vi (t 144 x1.toNat), vi x1, .ref 142]) 3 (fun _ _ => rfl) ?_
      refine pr_m1 (args := [vi x1, vi (t 144 x1.toNat)]) (rest := []) rfl rfl rfl rfl (Nat.le_of_ble_eq_true rfl) rfl (h_87 s10 (up2 t 144 x1.toNat (ipl (t 144 x1.toNat) 1)) x1 (t 144 x1.toNat) hE10 hx1 h4) ?_
      rintro _ _ t17 s17 ⟨rfl, rfl⟩ hE17
      show pr K K d tb_M86 114 [(2, vi (t 144 x1.toNat)), (0, .ref 142), (1, vi x1)] [] s17 _
      refine pr_n (pc2 := 141) (lv2 := [(2, vi (t 144 x1.toNat)), (0, .ref 142), (1, vi x1)]) (st2 := []) 1 (fun _ _ => rfl) ?_
      refine pr_end (fun _ _ => rfl) ?_
      exact .inl ⟨_, 0, _, rfl, ⟨rfl, rfl⟩, rfl, hE17⟩
    · refine mq_f h16 ?_
      by_cases h18 : t 100 x1.toNat = 401
      · refine mq_t h18 ?_
        refine pr_lsw rfl (by decide) h11 (by rw [h18]) rfl ?_
        refine pr_n (pc2 := 111) (lv2 := [(2, vi (t 144 x1.toNat)), (0, .ref 142), (1, vi x1)]) (st2 := [vi (t 144 x1.toNat), vi x1, .ref 142]) 3 (fun _ _ => rfl) ?_
        refine pr_m1 (args := [vi x1, vi (t 144 x1.toNat)]) (rest := []) rfl rfl rfl rfl (Nat.le_of_ble_eq_true rfl) rfl (h_87 s10 (up2 t 144 x1.toNat (ipl (t 144 x1.toNat) 1)) x1 (t 144 x1.toNat) hE10 hx1 h4) ?_
        rintro _ _ t19 s19 ⟨rfl, rfl⟩ hE19
        show pr K K d tb_M86 114 [(2, vi (t 144 x1.toNat)), (0, .ref 142), (1, vi x1)] [] s19 _
        refine pr_n (pc2 := 141) (lv2 := [(2, vi (t 144 x1.toNat)), (0, .ref 142), (1, vi x1)]) (st2 := []) 1 (fun _ _ => rfl) ?_
        refine pr_end (fun _ _ => rfl) ?_
        exact .inl ⟨_, 0, _, rfl, ⟨rfl, rfl⟩, rfl, hE19⟩
      · refine mq_f h18 ?_
        by_cases h20 : t 100 x1.toNat = 402
        · refine mq_t h20 ?_
          refine pr_lsw rfl (by decide) h11 (by rw [h20]) rfl ?_
          refine pr_n (pc2 := 111) (lv2 := [(2, vi (t 144 x1.toNat)), (0, .ref 142), (1, vi x1)]) (st2 := [vi (t 144 x1.toNat), vi x1, .ref 142]) 3 (fun _ _ => rfl) ?_
          refine pr_m1 (args := [vi x1, vi (t 144 x1.toNat)]) (rest := []) rfl rfl rfl rfl (Nat.le_of_ble_eq_true rfl) rfl (h_87 s10 (up2 t 144 x1.toNat (ipl (t 144 x1.toNat) 1)) x1 (t 144 x1.toNat) hE10 hx1 h4) ?_
          rintro _ _ t21 s21 ⟨rfl, rfl⟩ hE21
          show pr K K d tb_M86 114 [(2, vi (t 144 x1.toNat)), (0, .ref 142), (1, vi x1)] [] s21 _
          refine pr_n (pc2 := 141) (lv2 := [(2, vi (t 144 x1.toNat)), (0, .ref 142), (1, vi x1)]) (st2 := []) 1 (fun _ _ => rfl) ?_
          refine pr_end (fun _ _ => rfl) ?_
          exact .inl ⟨_, 0, _, rfl, ⟨rfl, rfl⟩, rfl, hE21⟩
        · refine mq_f h20 ?_
          by_cases h22 : t 100 x1.toNat = 403
          · refine mq_t h22 ?_
            refine pr_lsw rfl (by decide) h11 (by rw [h22]) rfl ?_
            refine pr_n (pc2 := 111) (lv2 := [(2, vi (t 144 x1.toNat)), (0, .ref 142), (1, vi x1)]) (st2 := [vi (t 144 x1.toNat), vi x1, .ref 142]) 3 (fun _ _ => rfl) ?_
            refine pr_m1 (args := [vi x1, vi (t 144 x1.toNat)]) (rest := []) rfl rfl rfl rfl (Nat.le_of_ble_eq_true rfl) rfl (h_87 s10 (up2 t 144 x1.toNat (ipl (t 144 x1.toNat) 1)) x1 (t 144 x1.toNat) hE10 hx1 h4) ?_
            rintro _ _ t23 s23 ⟨rfl, rfl⟩ hE23
            show pr K K d tb_M86 114 [(2, vi (t 144 x1.toNat)), (0, .ref 142), (1, vi x1)] [] s23 _
            refine pr_n (pc2 := 141) (lv2 := [(2, vi (t 144 x1.toNat)), (0, .ref 142), (1, vi x1)]) (st2 := []) 1 (fun _ _ => rfl) ?_
            refine pr_end (fun _ _ => rfl) ?_
            exact .inl ⟨_, 0, _, rfl, ⟨rfl, rfl⟩, rfl, hE23⟩
          · refine mq_f h22 ?_
            by_cases h24 : t 100 x1.toNat = 404
            · refine mq_t h24 ?_
              refine pr_lsw rfl (by decide) h11 (by rw [h24]) rfl ?_
              refine pr_n (pc2 := 120) (lv2 := [(2, vi (t 144 x1.toNat)), (0, .ref 142), (1, vi x1)]) (st2 := [vi (t 144 x1.toNat), vi x1, .ref 142]) 3 (fun _ _ => rfl) ?_
              refine pr_m1 (args := [vi x1, vi (t 144 x1.toNat)]) (rest := []) rfl rfl rfl rfl (Nat.le_of_ble_eq_true rfl) rfl (h_96 s10 (up2 t 144 x1.toNat (ipl (t 144 x1.toNat) 1)) x1 (t 144 x1.toNat) hE10 hx1 h4) ?_
              rintro _ _ t25 s25 ⟨rfl, rfl⟩ hE25
              show pr K K d tb_M86 123 [(2, vi (t 144 x1.toNat)), (0, .ref 142), (1, vi x1)] [] s25 _
              refine pr_n (pc2 := 141) (lv2 := [(2, vi (t 144 x1.toNat)), (0, .ref 142), (1, vi x1)]) (st2 := []) 1 (fun _ _ => rfl) ?_
              refine pr_end (fun _ _ => rfl) ?_
              exact .inl ⟨_, 0, _, rfl, ⟨rfl, rfl⟩, rfl, hE25⟩
            · refine mq_f h24 ?_
              by_cases h26 : t 100 x1.toNat = 405
              · refine mq_t h26 ?_
                refine pr_lsw rfl (by decide) h11 (by rw [h26]) rfl ?_
                refine pr_n (pc2 := 129) (lv2 := [(2, vi (t 144 x1.toNat)), (0, .ref 142), (1, vi x1)]) (st2 := [vi (t 144 x1.toNat), vi x1, .ref 142]) 3 (fun _ _ => rfl) ?_
                refine pr_m1 (args := [vi x1, vi (t 144 x1.toNat)]) (rest := []) rfl rfl rfl rfl (Nat.le_of_ble_eq_true rfl) rfl (h_103 s10 (up2 t 144 x1.toNat (ipl (t 144 x1.toNat) 1)) x1 (t 144 x1.toNat) hE10 hx1 h4) ?_
                rintro _ _ t27 s27 ⟨rfl, rfl⟩ hE27
                show pr K K d tb_M86 132 [(2, vi (t 144 x1.toNat)), (0, .ref 142), (1, vi x1)] [] s27 _
                refine pr_n (pc2 := 141) (lv2 := [(2, vi (t 144 x1.toNat)), (0, .ref 142), (1, vi x1)]) (st2 := []) 1 (fun _ _ => rfl) ?_
                refine pr_end (fun _ _ => rfl) ?_
                exact .inl ⟨_, 0, _, rfl, ⟨rfl, rfl⟩, rfl, hE27⟩
              · refine mq_f h26 ?_
                by_cases h28 : t 100 x1.toNat = 406
                · refine mq_t h28 ?_
                  refine pr_lsw rfl (by decide) h11 (by rw [h28]) rfl ?_
                  refine pr_n (pc2 := 129) (lv2 := [(2, vi (t 144 x1.toNat)), (0, .ref 142), (1, vi x1)]) (st2 := [vi (t 144 x1.toNat), vi x1, .ref 142]) 3 (fun _ _ => rfl) ?_
                  refine pr_m1 (args := [vi x1, vi (t 144 x1.toNat)]) (rest := []) rfl rfl rfl rfl (Nat.le_of_ble_eq_true rfl) rfl (h_103 s10 (up2 t 144 x1.toNat (ipl (t 144 x1.toNat) 1)) x1 (t 144 x1.toNat) hE10 hx1 h4) ?_
                  rintro _ _ t29 s29 ⟨rfl, rfl⟩ hE29
                  show pr K K d tb_M86 132 [(2, vi (t 144 x1.toNat)), (0, .ref 142), (1, vi x1)] [] s29 _
                  refine pr_n (pc2 := 141) (lv2 := [(2, vi (t 144 x1.toNat)), (0, .ref 142), (1, vi x1)]) (st2 := []) 1 (fun _ _ => rfl) ?_
                  refine pr_end (fun _ _ => rfl) ?_
                  exact .inl ⟨_, 0, _, rfl, ⟨rfl, rfl⟩, rfl, hE29⟩
                · refine mq_f h28 ?_
                  by_cases h30 : t 100 x1.toNat = 407
                  · refine mq_t h30 ?_
                    refine pr_lsw rfl (by decide) h11 (by rw [h30]) rfl ?_
                    refine pr_n (pc2 := 129) (lv2 := [(2, vi (t 144 x1.toNat)), (0, .ref 142), (1, vi x1)]) (st2 := [vi (t 144 x1.toNat), vi x1, .ref 142]) 3 (fun _ _ => rfl) ?_
                    refine pr_m1 (args := [vi x1, vi (t 144 x1.toNat)]) (rest := []) rfl rfl rfl rfl (Nat.le_of_ble_eq_true rfl) rfl (h_103 s10 (up2 t 144 x1.toNat (ipl (t 144 x1.toNat) 1)) x1 (t 144 x1.toNat) hE10 hx1 h4) ?_
                    rintro _ _ t31 s31 ⟨rfl, rfl⟩ hE31
                    show pr K K d tb_M86 132 [(2, vi (t 144 x1.toNat)), (0, .ref 142), (1, vi x1)] [] s31 _
                    refine pr_n (pc2 := 141) (lv2 := [(2, vi (t 144 x1.toNat)), (0, .ref 142), (1, vi x1)]) (st2 := []) 1 (fun _ _ => rfl) ?_
                    refine pr_end (fun _ _ => rfl) ?_
                    exact .inl ⟨_, 0, _, rfl, ⟨rfl, rfl⟩, rfl, hE31⟩
                  · refine mq_f h30 ?_
                    refine pr_lsw rfl (by decide) h11 (ls_no _ ⟨by omega, by omega, by omega, by omega, by omega, by omega, by omega, by omega, by omega, trivial⟩) rfl ?_
                    refine pr_n (pc2 := 138) (lv2 := [(2, vi (t 144 x1.toNat)), (0, .ref 142), (1, vi x1)]) (st2 := [vi (t 144 x1.toNat), vi x1, .ref 142]) 3 (fun _ _ => rfl) ?_
                    refine pr_m1 (args := [vi x1, vi (t 144 x1.toNat)]) (rest := []) rfl rfl rfl rfl (Nat.le_of_ble_eq_true rfl) rfl (h_109 s10 (up2 t 144 x1.toNat (ipl (t 144 x1.toNat) 1)) x1 (t 144 x1.toNat) hE10 hx1 h4) ?_
                    rintro _ _ t32 s32 ⟨rfl, rfl⟩ hE32
                    show pr K K d tb_M86 141 [(2, vi (t 144 x1.toNat)), (0, .ref 142), (1, vi x1)] [] s32 _
                    refine pr_end (fun _ _ => rfl) ?_
                    exact .inl ⟨_, 0, _, rfl, ⟨rfl, rfl⟩, rfl, hE32⟩
set_option maxHeartbeats 20000000 in
set_option maxRecDepth 100000 in
theorem wu82_0 {N K d C : Nat} (h_83 : wT83 K d C) (h_85 : wT85 K d C) (h_86 : wT86 K d C) (ih : ∀ N2, N2 < N → wA82 N2 K d C) : wU82_0 N K d C := by
  intro s t y2 y1 hE hy2 hy1
  have hC : C = 99 ∨ C = 115 := hE.1
  rw [wG_82_45]
  unfold wM82_45
  refine pr_lt (pc2 := 46) (lv2 := [(2, vi y2), (0, .ref 142), (1, vi y1)]) (st2 := [vi y2]) (fun _ _ => rfl) fun N2 hN2 => ?_
  refine pr_n (pc2 := 48) (lv2 := [(2, vi y2), (0, .ref 142), (1, vi y1)]) (st2 := [vi 1000000, vi y2]) 1 (fun _ _ => rfl) ?_
  by_cases h1 : 1000000 ≤ y2
  · refine mq_t h1 ?_
    refine pr_if2t rfl rfl hy2 (i32_n rfl) h1 ?_
    refine pr_n (pc2 := 136) (lv2 := [(2, vi y2), (0, .ref 142), (1, vi y1)]) (st2 := [.ref 142, .ref 142]) 2 (fun _ _ => rfl) ?_
    refine pr_gE (k2 := 142) (v := vi (t 142 13)) hE rfl rfl rfl (by decide) rfl rfl rfl fun h2 => ?_
    have h2 : 0 ≤ t 142 13 ∧ t 142 13 ≤ 1 := h2
    by_cases h3 : t 142 13 = 0
    · refine mq_t h3 ?_
      refine pr_if1t rfl rfl (i32_z h2) h3 ?_
      refine pr_n (pc2 := 147) (lv2 := [(2, vi y2), (0, .ref 142), (1, vi y1)]) (st2 := [vi 2, .ref 142]) 1 (fun _ _ => rfl) ?_
      refine pr_pE (k2 := 142) (z := 2) hE rfl rfl rfl rfl (by decide) rfl (by decide) rfl (show i32 (2) from (i32_n rfl)) (hf_int' _) rfl rfl rfl (fun e => absurd e.2 (by decide)) (fun _ => trivial) fun s4 hE4 => ?_
      refine pr_end (fun _ _ => rfl) ?_
      exact .inl ⟨_, 0, _, rfl, ⟨rfl, rfl⟩, rfl, hE4⟩
    · refine mq_f h3 ?_
      refine pr_if1f rfl rfl (i32_z h2) h3 ?_
      refine pr_n (pc2 := 147) (lv2 := [(2, vi y2), (0, .ref 142), (1, vi y1)]) (st2 := [vi 1, .ref 142]) 2 (fun _ _ => rfl) ?_
      refine pr_pE (k2 := 142) (z := 1) hE rfl rfl rfl rfl (by decide) rfl (by decide) rfl (show i32 (1) from (i32_n rfl)) (hf_int' _) rfl rfl rfl (fun e => absurd e.2 (by decide)) (fun _ => trivial) fun s5 hE5 => ?_
      refine pr_end (fun _ _ => rfl) ?_
      exact .inl ⟨_, 0, _, rfl, ⟨rfl, rfl⟩, rfl, hE5⟩
  · refine mq_f h1 ?_
    refine pr_if2f rfl rfl hy2 (i32_n rfl) h1 ?_
    refine pr_n (pc2 := 52) (lv2 := [(2, vi y2), (0, .ref 142), (1, vi y1)]) (st2 := [.ref 142]) 1 (fun _ _ => rfl) ?_
    refine pr_gE (k2 := 142) (v := vi (t 142 6)) hE rfl rfl rfl (by decide) rfl rfl rfl fun h6 => ?_
    have h6 : i32 (t 142 6) := h6
    by_cases h7 : t 142 6 ≤ 0
    · refine mq_t h7 ?_
      refine pr_if1t rfl rfl h6 h7 ?_
      refine pr_n (pc2 := 136) (lv2 := [(2, vi y2), (0, .ref 142), (1, vi y1)]) (st2 := [.ref 142, .ref 142]) 2 (fun _ _ => rfl) ?_
      refine pr_gE (k2 := 142) (v := vi (t 142 13)) hE rfl rfl rfl (by decide) rfl rfl rfl fun h8 => ?_
      have h8 : 0 ≤ t 142 13 ∧ t 142 13 ≤ 1 := h8
      by_cases h9 : t 142 13 = 0
      · refine mq_t h9 ?_
        refine pr_if1t rfl rfl (i32_z h8) h9 ?_
        refine pr_n (pc2 := 147) (lv2 := [(2, vi y2), (0, .ref 142), (1, vi y1)]) (st2 := [vi 2, .ref 142]) 1 (fun _ _ => rfl) ?_
        refine pr_pE (k2 := 142) (z := 2) hE rfl rfl rfl rfl (by decide) rfl (by decide) rfl (show i32 (2) from (i32_n rfl)) (hf_int' _) rfl rfl rfl (fun e => absurd e.2 (by decide)) (fun _ => trivial) fun s10 hE10 => ?_
        refine pr_end (fun _ _ => rfl) ?_
        exact .inl ⟨_, 0, _, rfl, ⟨rfl, rfl⟩, rfl, hE10⟩
      · refine mq_f h9 ?_
        refine pr_if1f rfl rfl (i32_z h8) h9 ?_
        refine pr_n (pc2 := 147) (lv2 := [(2, vi y2), (0, .ref 142), (1, vi y1)]) (st2 := [vi 1, .ref 142]) 2 (fun _ _ => rfl) ?_
        refine pr_pE (k2 := 142) (z := 1) hE rfl rfl rfl rfl (by decide) rfl (by decide) rfl (show i32 (1) from (i32_n rfl)) (hf_int' _) rfl rfl rfl (fun e => absurd e.2 (by decide)) (fun _ => trivial) fun s11 hE11 => ?_
        refine pr_end (fun _ _ => rfl) ?_
        exact .inl ⟨_, 0, _, rfl, ⟨rfl, rfl⟩, rfl, hE11⟩
    · refine mq_f h7 ?_
      refine pr_if1f rfl rfl h6 h7 ?_
      refine pr_n (pc2 := 60) (lv2 := [(2, vi y2), (0, .ref 142), (1, vi y1)]) (st2 := [.ref 142, .ref 142]) 2 (fun _ _ => rfl) ?_
      refine pr_gE (k2 := 142) (v := vi (t 142 6)) hE rfl rfl rfl (by decide) rfl rfl rfl fun h12 => ?_
      have h12 : i32 (t 142 6) := h12
      refine pr_n (pc2 := 64) (lv2 := [(2, vi y2), (0, .ref 142), (1, vi y1)]) (st2 := [vi 1, vi (t 142 6), .ref 142]) 1 (fun _ _ => rfl) ?_
      refine pr_i2 (a := t 142 6) (b := 1) rfl rfl ?_
      show pr N2 K d tb_M82 65 [(2, vi y2), (0, .ref 142), (1, vi y1)] [vi (imi (t 142 6) 1), .ref 142] s _
      have h13 : i32 (imi (t 142 6) 1) := i32_in _
      refine pr_pE (k2 := 142) (z := imi (t 142 6) 1) hE rfl rfl rfl rfl (by decide) rfl (by decide) rfl (show i32 (imi (t 142 6) 1) from h13) (hf_int' _) rfl rfl rfl (fun e => absurd e.2 (by decide)) (fun _ => trivial) fun s14 hE14 => ?_
      refine pr_n (pc2 := 69) (lv2 := [(2, vi y2), (0, .ref 142), (1, vi y1)]) (st2 := [.ref 142]) 1 (fun _ _ => rfl) ?_
      refine pr_get (v := .ref 147) rfl rfl rfl (by decide) (rv_ref (hE14.2.1 142 5 147 rfl)) fun _ => ?_
      refine pr_n (pc2 := 73) (lv2 := [(2, vi y2), (0, .ref 142), (1, vi y1)]) (st2 := [.ref 142, .ref 147]) 1 (fun _ _ => rfl) ?_
      refine pr_gE (k2 := 142) (v := vi (imi (t 142 6) 1)) hE14 rfl rfl rfl (by decide) rfl rfl (by rw [up_self]; rfl) fun h15 => ?_
      rw [up_self] at h15
      have h15 : i32 (imi (t 142 6) 1) := h15
      refine pr_aE (k2 := 147) (a := imi (t 142 6) 1) (v := vi (t 147 ((imi (t 142 6) 1).toNat))) hE14 rfl rfl rfl h15 (by decide) rfl rfl rfl fun h17 h18 h16 => ?_
      have h16 : i32 (t 147 ((imi (t 142 6) 1).toNat)) := h16
      refine pr_n (pc2 := 79) (lv2 := [(3, vi (t 147 ((imi (t 142 6) 1).toNat))), (2, vi y2), (0, .ref 142), (1, vi y1)]) (st2 := [.ref 142]) 2 (fun _ _ => rfl) ?_
      refine pr_get (v := .ref 144) rfl rfl rfl (by decide) (rv_ref (hE14.2.1 142 2 144 rfl)) fun _ => ?_
      refine pr_n (pc2 := 83) (lv2 := [(3, vi (t 147 ((imi (t 142 6) 1).toNat))), (2, vi y2), (0, .ref 142), (1, vi y1)]) (st2 := [vi (t 147 ((imi (t 142 6) 1).toNat)), .ref 144]) 1 (fun _ _ => rfl) ?_
      refine pr_aE (k2 := 144) (a := t 147 ((imi (t 142 6) 1).toNat)) (v := vi (t 144 ((t 147 ((imi (t 142 6) 1).toNat)).toNat))) hE14 rfl rfl rfl h16 (by decide) rfl rfl rfl fun h20 h21 h19 => ?_
      have h19 : i32 (t 144 ((t 147 ((imi (t 142 6) 1).toNat)).toNat)) := h19
      by_cases h22 : 0 ≤ t 144 ((t 147 ((imi (t 142 6) 1).toNat)).toNat)
      · refine mq_t h22 ?_
        refine pr_if1t rfl rfl h19 h22 ?_
        refine pr_n (pc2 := 125) (lv2 := [(3, vi (t 147 ((imi (t 142 6) 1).toNat))), (2, vi y2), (0, .ref 142), (1, vi y1)]) (st2 := [vi (t 147 ((imi (t 142 6) 1).toNat)), .ref 142]) 2 (fun _ _ => rfl) ?_
        refine pr_m1 (args := [vi (t 147 ((imi (t 142 6) 1).toNat))]) (rest := []) rfl rfl rfl rfl (Nat.le_of_ble_eq_true rfl) rfl (h_86 s14 (up2 t 142 6 (imi (t 142 6) 1)) (t 147 ((imi (t 142 6) 1).toNat)) hE14 h16) ?_
        rintro _ _ t23 s23 ⟨rfl, rfl⟩ hE23
        show pr N2 K d tb_M82 128 [(3, vi (t 147 ((imi (t 142 6) 1).toNat))), (2, vi y2), (0, .ref 142), (1, vi y1)] [] s23 _
        refine pr_inc (a := y2) rfl rfl ?_
        have h24 : i32 (y2 + 1) := by unfold i32 at *; omega
        show pr N2 K d tb_M82 131 [(2, vi (y2 + 1)), (3, vi (t 147 ((imi (t 142 6) 1).toNat))), (0, .ref 142), (1, vi y1)] [] s23 _
        refine pr_n (pc2 := 45) (lv2 := [(2, vi (y2 + 1)), (3, vi (t 147 ((imi (t 142 6) 1).toNat))), (0, .ref 142), (1, vi y1)]) (st2 := []) 1 (fun _ _ => rfl) ?_
        exact ((ih N2 hN2).2) s23 t23 (y2 + 1) (t 147 ((imi (t 142 6) 1).toNat)) y1 hE23 h24 h16 hy1
      · refine mq_f h22 ?_
        refine pr_if1f rfl rfl h19 h22 ?_
        refine pr_n (pc2 := 88) (lv2 := [(3, vi (t 147 ((imi (t 142 6) 1).toNat))), (2, vi y2), (0, .ref 142), (1, vi y1)]) (st2 := [.ref 142]) 1 (fun _ _ => rfl) ?_
        refine pr_gE (k2 := 142) (v := vi (t 142 15)) hE14 rfl rfl rfl (by decide) rfl rfl rfl fun h25 => ?_
        have h25 : i32 (t 142 15) := h25
        refine pr_n (pc2 := 92) (lv2 := [(3, vi (t 147 ((imi (t 142 6) 1).toNat))), (2, vi y2), (0, .ref 142), (1, vi y1)]) (st2 := [vi y1, vi (t 142 15)]) 1 (fun _ _ => rfl) ?_
        by_cases h26 : t 142 15 ≠ y1
        · refine mq_t h26 ?_
          refine pr_if2t rfl rfl h25 hy1 h26 ?_
          refine pr_n (pc2 := 108) (lv2 := [(3, vi (t 147 ((imi (t 142 6) 1).toNat))), (2, vi y2), (0, .ref 142), (1, vi y1)]) (st2 := [.ref 142, .ref 142]) 2 (fun _ _ => rfl) ?_
          refine pr_gE (k2 := 142) (v := vi (t 142 15)) hE14 rfl rfl rfl (by decide) rfl rfl rfl fun h27 => ?_
          have h27 : i32 (t 142 15) := h27
          refine pr_n (pc2 := 112) (lv2 := [(3, vi (t 147 ((imi (t 142 6) 1).toNat))), (2, vi y2), (0, .ref 142), (1, vi y1)]) (st2 := [vi 1, vi (t 142 15), .ref 142]) 1 (fun _ _ => rfl) ?_
          refine pr_i2 (a := t 142 15) (b := 1) rfl rfl ?_
          show pr N2 K d tb_M82 113 [(3, vi (t 147 ((imi (t 142 6) 1).toNat))), (2, vi y2), (0, .ref 142), (1, vi y1)] [vi (ipl (t 142 15) 1), .ref 142] s14 _
          have h28 : i32 (ipl (t 142 15) 1) := i32_in _
          refine pr_pE (k2 := 142) (z := ipl (t 142 15) 1) hE14 rfl rfl rfl rfl (by decide) rfl (by decide) rfl (show i32 (ipl (t 142 15) 1) from h28) (hf_int' _) rfl rfl rfl (fun e => absurd e.2 (by decide)) (fun _ => trivial) fun s29 hE29 => ?_
          refine pr_n (pc2 := 117) (lv2 := [(3, vi (t 147 ((imi (t 142 6) 1).toNat))), (2, vi y2), (0, .ref 142), (1, vi y1)]) (st2 := [.ref 142]) 1 (fun _ _ => rfl) ?_
          refine pr_get (v := .ref 144) rfl rfl rfl (by decide) (rv_ref (hE29.2.1 142 2 144 rfl)) fun _ => ?_
          refine pr_n (pc2 := 122) (lv2 := [(3, vi (t 147 ((imi (t 142 6) 1).toNat))), (2, vi y2), (0, .ref 142), (1, vi y1)]) (st2 := [vi 0, vi (t 147 ((imi (t 142 6) 1).toNat)), .ref 144]) 2 (fun _ _ => rfl) ?_
          refine pr_sE (k2 := 144) (a := t 147 ((imi (t 142 6) 1).toNat)) (z := 0) hE29 rfl (by decide) rfl rfl h16 (by decide) rfl (show i32 (0) from (i32_n rfl)) (n0 rfl (by omega) (by omega)) rfl rfl (fun e => absurd e.1 (by decide)) (fun _ => trivial) fun h30 h31 s32 hE32 => ?_
          refine pr_n (pc2 := 125) (lv2 := [(3, vi (t 147 ((imi (t 142 6) 1).toNat))), (2, vi y2), (0, .ref 142), (1, vi y1)]) (st2 := [vi (t 147 ((imi (t 142 6) 1).toNat)), .ref 142]) 2 (fun _ _ => rfl) ?_
          refine pr_m1 (args := [vi (t 147 ((imi (t 142 6) 1).toNat))]) (rest := []) rfl rfl rfl rfl (Nat.le_of_ble_eq_true rfl) rfl (h_86 s32 (up2 (up2 (up2 t 142 6 (imi (t 142 6) 1)) 142 15 (ipl (t 142 15) 1)) 144 ((t 147 ((imi (t 142 6) 1).toNat)).toNat) 0) (t 147 ((imi (t 142 6) 1).toNat)) hE32 h16) ?_
          rintro _ _ t33 s33 ⟨rfl, rfl⟩ hE33
          show pr N2 K d tb_M82 128 [(3, vi (t 147 ((imi (t 142 6) 1).toNat))), (2, vi y2), (0, .ref 142), (1, vi y1)] [] s33 _
          refine pr_inc (a := y2) rfl rfl ?_
          have h34 : i32 (y2 + 1) := by unfold i32 at *; omega
          show pr N2 K d tb_M82 131 [(2, vi (y2 + 1)), (3, vi (t 147 ((imi (t 142 6) 1).toNat))), (0, .ref 142), (1, vi y1)] [] s33 _
          refine pr_n (pc2 := 45) (lv2 := [(2, vi (y2 + 1)), (3, vi (t 147 ((imi (t 142 6) 1).toNat))), (0, .ref 142), (1, vi y1)]) (st2 := []) 1 (fun _ _ => rfl) ?_
          exact ((ih N2 hN2).2) s33 t33 (y2 + 1) (t 147 ((imi (t 142 6) 1).toNat)) y1 hE33 h34 h16 hy1
        · refine mq_f h26 ?_
          refine pr_if2f rfl rfl h25 hy1 h26 ?_
          refine pr_n (pc2 := 97) (lv2 := [(3, vi (t 147 ((imi (t 142 6) 1).toNat))), (2, vi y2), (0, .ref 142), (1, vi y1)]) (st2 := [vi 3, .ref 142]) 2 (fun _ _ => rfl) ?_
          refine pr_pE (k2 := 142) (z := 3) hE14 rfl rfl rfl rfl (by decide) rfl (by decide) rfl (show i32 (3) from (i32_n rfl)) (hf_int' _) rfl rfl rfl (fun e => absurd e.2 (by decide)) (fun _ => trivial) fun s35 hE35 => ?_
          refine pr_n (pc2 := 102) (lv2 := [(3, vi (t 147 ((imi (t 142 6) 1).toNat))), (2, vi y2), (0, .ref 142), (1, vi y1)]) (st2 := [vi 0, .ref 142]) 2 (fun _ _ => rfl) ?_
          refine pr_pE (k2 := 142) (z := 0) hE35 rfl rfl rfl rfl (by decide) rfl (by decide) rfl (show i32 (0) from (i32_n rfl)) (hf_int' _) rfl rfl rfl (fun e => absurd e.2 (by decide)) (fun _ => trivial) fun s36 hE36 => ?_
          refine pr_end (fun _ _ => rfl) ?_
          exact .inl ⟨_, 0, _, rfl, ⟨rfl, rfl⟩, rfl, hE36⟩
set_option maxHeartbeats 20000000 in
set_option maxRecDepth 100000 in
theorem wu82_1 {N K d C : Nat} (h_83 : wT83 K d C) (h_85 : wT85 K d C) (h_86 : wT86 K d C) (ih : ∀ N2, N2 < N → wA82 N2 K d C) : wU82_1 N K d C := by
  intro s t y2 y3 y1 hE hy2 hy3 hy1
  have hC : C = 99 ∨ C = 115 := hE.1
  rw [wG_82_45]
  unfold wM82_45
  refine pr_lt (pc2 := 46) (lv2 := [(2, vi y2), (3, vi y3), (0, .ref 142), (1, vi y1)]) (st2 := [vi y2]) (fun _ _ => rfl) fun N2 hN2 => ?_
  refine pr_n (pc2 := 48) (lv2 := [(2, vi y2), (3, vi y3), (0, .ref 142), (1, vi y1)]) (st2 := [vi 1000000, vi y2]) 1 (fun _ _ => rfl) ?_
  by_cases h1 : 1000000 ≤ y2
  · refine mq_t h1 ?_
    refine pr_if2t rfl rfl hy2 (i32_n rfl) h1 ?_
    refine pr_n (pc2 := 136) (lv2 := [(2, vi y2), (3, vi y3), (0, .ref 142), (1, vi y1)]) (st2 := [.ref 142, .ref 142]) 2 (fun _ _ => rfl) ?_
    refine pr_gE (k2 := 142) (v := vi (t 142 13)) hE rfl rfl rfl (by decide) rfl rfl rfl fun h2 => ?_
    have h2 : 0 ≤ t 142 13 ∧ t 142 13 ≤ 1 := h2
    by_cases h3 : t 142 13 = 0
    · refine mq_t h3 ?_
      refine pr_if1t rfl rfl (i32_z h2) h3 ?_
      refine pr_n (pc2 := 147) (lv2 := [(2, vi y2), (3, vi y3), (0, .ref 142), (1, vi y1)]) (st2 := [vi 2, .ref 142]) 1 (fun _ _ => rfl) ?_
      refine pr_pE (k2 := 142) (z := 2) hE rfl rfl rfl rfl (by decide) rfl (by decide) rfl (show i32 (2) from (i32_n rfl)) (hf_int' _) rfl rfl rfl (fun e => absurd e.2 (by decide)) (fun _ => trivial) fun s4 hE4 => ?_
      refine pr_end (fun _ _ => rfl) ?_
      exact .inl ⟨_, 0, _, rfl, ⟨rfl, rfl⟩, rfl, hE4⟩
    · refine mq_f h3 ?_
      refine pr_if1f rfl rfl (i32_z h2) h3 ?_
      refine pr_n (pc2 := 147) (lv2 := [(2, vi y2), (3, vi y3), (0, .ref 142), (1, vi y1)]) (st2 := [vi 1, .ref 142]) 2 (fun _ _ => rfl) ?_
      refine pr_pE (k2 := 142) (z := 1) hE rfl rfl rfl rfl (by decide) rfl (by decide) rfl (show i32 (1) from (i32_n rfl)) (hf_int' _) rfl rfl rfl (fun e => absurd e.2 (by decide)) (fun _ => trivial) fun s5 hE5 => ?_
      refine pr_end (fun _ _ => rfl) ?_
      exact .inl ⟨_, 0, _, rfl, ⟨rfl, rfl⟩, rfl, hE5⟩
  · refine mq_f h1 ?_
    refine pr_if2f rfl rfl hy2 (i32_n rfl) h1 ?_
    refine pr_n (pc2 := 52) (lv2 := [(2, vi y2), (3, vi y3), (0, .ref 142), (1, vi y1)]) (st2 := [.ref 142]) 1 (fun _ _ => rfl) ?_
    refine pr_gE (k2 := 142) (v := vi (t 142 6)) hE rfl rfl rfl (by decide) rfl rfl rfl fun h6 => ?_
    have h6 : i32 (t 142 6) := h6
    by_cases h7 : t 142 6 ≤ 0
    · refine mq_t h7 ?_
      refine pr_if1t rfl rfl h6 h7 ?_
      refine pr_n (pc2 := 136) (lv2 := [(2, vi y2), (3, vi y3), (0, .ref 142), (1, vi y1)]) (st2 := [.ref 142, .ref 142]) 2 (fun _ _ => rfl) ?_
      refine pr_gE (k2 := 142) (v := vi (t 142 13)) hE rfl rfl rfl (by decide) rfl rfl rfl fun h8 => ?_
      have h8 : 0 ≤ t 142 13 ∧ t 142 13 ≤ 1 := h8
      by_cases h9 : t 142 13 = 0
      · refine mq_t h9 ?_
        refine pr_if1t rfl rfl (i32_z h8) h9 ?_
        refine pr_n (pc2 := 147) (lv2 := [(2, vi y2), (3, vi y3), (0, .ref 142), (1, vi y1)]) (st2 := [vi 2, .ref 142]) 1 (fun _ _ => rfl) ?_
        refine pr_pE (k2 := 142) (z := 2) hE rfl rfl rfl rfl (by decide) rfl (by decide) rfl (show i32 (2) from (i32_n rfl)) (hf_int' _) rfl rfl rfl (fun e => absurd e.2 (by decide)) (fun _ => trivial) fun s10 hE10 => ?_
        refine pr_end (fun _ _ => rfl) ?_
        exact .inl ⟨_, 0, _, rfl, ⟨rfl, rfl⟩, rfl, hE10⟩
      · refine mq_f h9 ?_
        refine pr_if1f rfl rfl (i32_z h8) h9 ?_
        refine pr_n (pc2 := 147) (lv2 := [(2, vi y2), (3, vi y3), (0, .ref 142), (1, vi y1)]) (st2 := [vi 1, .ref 142]) 2 (fun _ _ => rfl) ?_
        refine pr_pE (k2 := 142) (z := 1) hE rfl rfl rfl rfl (by decide) rfl (by decide) rfl (show i32 (1) from (i32_n rfl)) (hf_int' _) rfl rfl rfl (fun e => absurd e.2 (by decide)) (fun _ => trivial) fun s11 hE11 => ?_
        refine pr_end (fun _ _ => rfl) ?_
        exact .inl ⟨_, 0, _, rfl, ⟨rfl, rfl⟩, rfl, hE11⟩
    · refine mq_f h7 ?_
      refine pr_if1f rfl rfl h6 h7 ?_
      refine pr_n (pc2 := 60) (lv2 := [(2, vi y2), (3, vi y3), (0, .ref 142), (1, vi y1)]) (st2 := [.ref 142, .ref 142]) 2 (fun _ _ => rfl) ?_
      refine pr_gE (k2 := 142) (v := vi (t 142 6)) hE rfl rfl rfl (by decide) rfl rfl rfl fun h12 => ?_
      have h12 : i32 (t 142 6) := h12
      refine pr_n (pc2 := 64) (lv2 := [(2, vi y2), (3, vi y3), (0, .ref 142), (1, vi y1)]) (st2 := [vi 1, vi (t 142 6), .ref 142]) 1 (fun _ _ => rfl) ?_
      refine pr_i2 (a := t 142 6) (b := 1) rfl rfl ?_
      show pr N2 K d tb_M82 65 [(2, vi y2), (3, vi y3), (0, .ref 142), (1, vi y1)] [vi (imi (t 142 6) 1), .ref 142] s _
      have h13 : i32 (imi (t 142 6) 1) := i32_in _
      refine pr_pE (k2 := 142) (z := imi (t 142 6) 1) hE rfl rfl rfl rfl (by decide) rfl (by decide) rfl (show i32 (imi (t 142 6) 1) from h13) (hf_int' _) rfl rfl rfl (fun e => absurd e.2 (by decide)) (fun _ => trivial) fun s14 hE14 => ?_
      refine pr_n (pc2 := 69) (lv2 := [(2, vi y2), (3, vi y3), (0, .ref 142), (1, vi y1)]) (st2 := [.ref 142]) 1 (fun _ _ => rfl) ?_
      refine pr_get (v := .ref 147) rfl rfl rfl (by decide) (rv_ref (hE14.2.1 142 5 147 rfl)) fun _ => ?_
      refine pr_n (pc2 := 73) (lv2 := [(2, vi y2), (3, vi y3), (0, .ref 142), (1, vi y1)]) (st2 := [.ref 142, .ref 147]) 1 (fun _ _ => rfl) ?_
      refine pr_gE (k2 := 142) (v := vi (imi (t 142 6) 1)) hE14 rfl rfl rfl (by decide) rfl rfl (by rw [up_self]; rfl) fun h15 => ?_
      rw [up_self] at h15
      have h15 : i32 (imi (t 142 6) 1) := h15
      refine pr_aE (k2 := 147) (a := imi (t 142 6) 1) (v := vi (t 147 ((imi (t 142 6) 1).toNat))) hE14 rfl rfl rfl h15 (by decide) rfl rfl rfl fun h17 h18 h16 => ?_
      have h16 : i32 (t 147 ((imi (t 142 6) 1).toNat)) := h16
      refine pr_n (pc2 := 79) (lv2 := [(3, vi (t 147 ((imi (t 142 6) 1).toNat))), (2, vi y2), (0, .ref 142), (1, vi y1)]) (st2 := [.ref 142]) 2 (fun _ _ => rfl) ?_
      refine pr_get (v := .ref 144) rfl rfl rfl (by decide) (rv_ref (hE14.2.1 142 2 144 rfl)) fun _ => ?_
      refine pr_n (pc2 := 83) (lv2 := [(3, vi (t 147 ((imi (t 142 6) 1).toNat))), (2, vi y2), (0, .ref 142), (1, vi y1)]) (st2 := [vi (t 147 ((imi (t 142 6) 1).toNat)), .ref 144]) 1 (fun _ _ => rfl) ?_
      refine pr_aE (k2 := 144) (a := t 147 ((imi (t 142 6) 1).toNat)) (v := vi (t 144 ((t 147 ((imi (t 142 6) 1).toNat)).toNat))) hE14 rfl rfl rfl h16 (by decide) rfl rfl rfl fun h20 h21 h19 => ?_
      have h19 : i32 (t 144 ((t 147 ((imi (t 142 6) 1).toNat)).toNat)) := h19
      by_cases h22 : 0 ≤ t 144 ((t 147 ((imi (t 142 6) 1).toNat)).toNat)
      · refine mq_t h22 ?_
        refine pr_if1t rfl rfl h19 h22 ?_
        refine pr_n (pc2 := 125) (lv2 := [(3, vi (t 147 ((imi (t 142 6) 1).toNat))), (2, vi y2), (0, .ref 142), (1, vi y1)]) (st2 := [vi (t 147 ((imi (t 142 6) 1).toNat)), .ref 142]) 2 (fun _ _ => rfl) ?_
        refine pr_m1 (args := [vi (t 147 ((imi (t 142 6) 1).toNat))]) (rest := []) rfl rfl rfl rfl (Nat.le_of_ble_eq_true rfl) rfl (h_86 s14 (up2 t 142 6 (imi (t 142 6) 1)) (t 147 ((imi (t 142 6) 1).toNat)) hE14 h16) ?_
        rintro _ _ t23 s23 ⟨rfl, rfl⟩ hE23
        show pr N2 K d tb_M82 128 [(3, vi (t 147 ((imi (t 142 6) 1).toNat))), (2, vi y2), (0, .ref 142), (1, vi y1)] [] s23 _
        refine pr_inc (a := y2) rfl rfl ?_
        have h24 : i32 (y2 + 1) := by unfold i32 at *; omega
        show pr N2 K d tb_M82 131 [(2, vi (y2 + 1)), (3, vi (t 147 ((imi (t 142 6) 1).toNat))), (0, .ref 142), (1, vi y1)] [] s23 _
        refine pr_n (pc2 := 45) (lv2 := [(2, vi (y2 + 1)), (3, vi (t 147 ((imi (t 142 6) 1).toNat))), (0, .ref 142), (1, vi y1)]) (st2 := []) 1 (fun _ _ => rfl) ?_
        exact ((ih N2 hN2).2) s23 t23 (y2 + 1) (t 147 ((imi (t 142 6) 1).toNat)) y1 hE23 h24 h16 hy1
      · refine mq_f h22 ?_
        refine pr_if1f rfl rfl h19 h22 ?_
        refine pr_n (pc2 := 88) (lv2 := [(3, vi (t 147 ((imi (t 142 6) 1).toNat))), (2, vi y2), (0, .ref 142), (1, vi y1)]) (st2 := [.ref 142]) 1 (fun _ _ => rfl) ?_
        refine pr_gE (k2 := 142) (v := vi (t 142 15)) hE14 rfl rfl rfl (by decide) rfl rfl rfl fun h25 => ?_
        have h25 : i32 (t 142 15) := h25
        refine pr_n (pc2 := 92) (lv2 := [(3, vi (t 147 ((imi (t 142 6) 1).toNat))), (2, vi y2), (0, .ref 142), (1, vi y1)]) (st2 := [vi y1, vi (t 142 15)]) 1 (fun _ _ => rfl) ?_
        by_cases h26 : t 142 15 ≠ y1
        · refine mq_t h26 ?_
          refine pr_if2t rfl rfl h25 hy1 h26 ?_
          refine pr_n (pc2 := 108) (lv2 := [(3, vi (t 147 ((imi (t 142 6) 1).toNat))), (2, vi y2), (0, .ref 142), (1, vi y1)]) (st2 := [.ref 142, .ref 142]) 2 (fun _ _ => rfl) ?_
          refine pr_gE (k2 := 142) (v := vi (t 142 15)) hE14 rfl rfl rfl (by decide) rfl rfl rfl fun h27 => ?_
          have h27 : i32 (t 142 15) := h27
          refine pr_n (pc2 := 112) (lv2 := [(3, vi (t 147 ((imi (t 142 6) 1).toNat))), (2, vi y2), (0, .ref 142), (1, vi y1)]) (st2 := [vi 1, vi (t 142 15), .ref 142]) 1 (fun _ _ => rfl) ?_
          refine pr_i2 (a := t 142 15) (b := 1) rfl rfl ?_
          show pr N2 K d tb_M82 113 [(3, vi (t 147 ((imi (t 142 6) 1).toNat))), (2, vi y2), (0, .ref 142), (1, vi y1)] [vi (ipl (t 142 15) 1), .ref 142] s14 _
          have h28 : i32 (ipl (t 142 15) 1) := i32_in _
          refine pr_pE (k2 := 142) (z := ipl (t 142 15) 1) hE14 rfl rfl rfl rfl (by decide) rfl (by decide) rfl (show i32 (ipl (t 142 15) 1) from h28) (hf_int' _) rfl rfl rfl (fun e => absurd e.2 (by decide)) (fun _ => trivial) fun s29 hE29 => ?_
          refine pr_n (pc2 := 117) (lv2 := [(3, vi (t 147 ((imi (t 142 6) 1).toNat))), (2, vi y2), (0, .ref 142), (1, vi y1)]) (st2 := [.ref 142]) 1 (fun _ _ => rfl) ?_
          refine pr_get (v := .ref 144) rfl rfl rfl (by decide) (rv_ref (hE29.2.1 142 2 144 rfl)) fun _ => ?_
          refine pr_n (pc2 := 122) (lv2 := [(3, vi (t 147 ((imi (t 142 6) 1).toNat))), (2, vi y2), (0, .ref 142), (1, vi y1)]) (st2 := [vi 0, vi (t 147 ((imi (t 142 6) 1).toNat)), .ref 144]) 2 (fun _ _ => rfl) ?_
          refine pr_sE (k2 := 144) (a := t 147 ((imi (t 142 6) 1).toNat)) (z := 0) hE29 rfl (by decide) rfl rfl h16 (by decide) rfl (show i32 (0) from (i32_n rfl)) (n0 rfl (by omega) (by omega)) rfl rfl (fun e => absurd e.1 (by decide)) (fun _ => trivial) fun h30 h31 s32 hE32 => ?_
          refine pr_n (pc2 := 125) (lv2 := [(3, vi (t 147 ((imi (t 142 6) 1).toNat))), (2, vi y2), (0, .ref 142), (1, vi y1)]) (st2 := [vi (t 147 ((imi (t 142 6) 1).toNat)), .ref 142]) 2 (fun _ _ => rfl) ?_
          refine pr_m1 (args := [vi (t 147 ((imi (t 142 6) 1).toNat))]) (rest := []) rfl rfl rfl rfl (Nat.le_of_ble_eq_true rfl) rfl (h_86 s32 (up2 (up2 (up2 t 142 6 (imi (t 142 6) 1)) 142 15 (ipl (t 142 15) 1)) 144 ((t 147 ((imi (t 142 6) 1).toNat)).toNat) 0) (t 147 ((imi (t 142 6) 1).toNat)) hE32 h16) ?_
          rintro _ _ t33 s33 ⟨rfl, rfl⟩ hE33
          show pr N2 K d tb_M82 128 [(3, vi (t 147 ((imi (t 142 6) 1).toNat))), (2, vi y2), (0, .ref 142), (1, vi y1)] [] s33 _
          refine pr_inc (a := y2) rfl rfl ?_
          have h34 : i32 (y2 + 1) := by unfold i32 at *; omega
          show pr N2 K d tb_M82 131 [(2, vi (y2 + 1)), (3, vi (t 147 ((imi (t 142 6) 1).toNat))), (0, .ref 142), (1, vi y1)] [] s33 _
          refine pr_n (pc2 := 45) (lv2 := [(2, vi (y2 + 1)), (3, vi (t 147 ((imi (t 142 6) 1).toNat))), (0, .ref 142), (1, vi y1)]) (st2 := []) 1 (fun _ _ => rfl) ?_
          exact ((ih N2 hN2).2) s33 t33 (y2 + 1) (t 147 ((imi (t 142 6) 1).toNat)) y1 hE33 h34 h16 hy1
        · refine mq_f h26 ?_
          refine pr_if2f rfl rfl h25 hy1 h26 ?_
          refine pr_n (pc2 := 97) (lv2 := [(3, vi (t 147 ((imi (t 142 6) 1).toNat))), (2, vi y2), (0, .ref 142), (1, vi y1)]) (st2 := [vi 3, .ref 142]) 2 (fun _ _ => rfl) ?_
          refine pr_pE (k2 := 142) (z := 3) hE14 rfl rfl rfl rfl (by decide) rfl (by decide) rfl (show i32 (3) from (i32_n rfl)) (hf_int' _) rfl rfl rfl (fun e => absurd e.2 (by decide)) (fun _ => trivial) fun s35 hE35 => ?_
          refine pr_n (pc2 := 102) (lv2 := [(3, vi (t 147 ((imi (t 142 6) 1).toNat))), (2, vi y2), (0, .ref 142), (1, vi y1)]) (st2 := [vi 0, .ref 142]) 2 (fun _ _ => rfl) ?_
          refine pr_pE (k2 := 142) (z := 0) hE35 rfl rfl rfl rfl (by decide) rfl (by decide) rfl (show i32 (0) from (i32_n rfl)) (hf_int' _) rfl rfl rfl (fun e => absurd e.2 (by decide)) (fun _ => trivial) fun s36 hE36 => ?_
          refine pr_end (fun _ _ => rfl) ?_
          exact .inl ⟨_, 0, _, rfl, ⟨rfl, rfl⟩, rfl, hE36⟩
theorem wa82 {K d C : Nat} (h_83 : wT83 K d C) (h_85 : wT85 K d C) (h_86 : wT86 K d C) : ∀ N, wA82 N K d C := by
  intro N
  induction N using Nat.strongRecOn with | ind N ih => ?_
  exact ⟨wu82_0 h_83 h_85 h_86 ih, wu82_1 h_83 h_85 h_86 ih⟩
set_option maxHeartbeats 20000000 in
set_option maxRecDepth 100000 in
theorem wm82 {K d C : Nat} (h_83 : wT83 K d C) (h_85 : wT85 K d C) (h_86 : wT86 K d C) : wT82 K (d + 1) C := by
  intro s t x1 hE hx1
  have hC : C = 99 ∨ C = 115 := hE.1
  refine pcr_of (M := tb_M82) rfl ?_
  show pr K K d tb_M82 0 [(0, .ref 142), (1, vi x1)] [] s _
  rw [wG_82]
  unfold wM82
  refine pr_n (pc2 := 2) (lv2 := [(0, .ref 142), (1, vi x1)]) (st2 := [vi 0, .ref 142]) 2 (fun _ _ => rfl) ?_
  refine pr_pE (k2 := 142) (z := 0) hE rfl rfl rfl rfl (by decide) rfl (by decide) rfl (show i32 (0) from (i32_n rfl)) (hf_int' _) rfl rfl rfl (fun e => absurd e.2 (by decide)) (fun _ => trivial) fun s1 hE1 => ?_
  refine pr_n (pc2 := 6) (lv2 := [(0, .ref 142), (1, vi x1)]) (st2 := [.ref 142]) 1 (fun _ _ => rfl) ?_
  refine pr_gE (k2 := 142) (v := vi (t 142 14)) hE1 rfl rfl rfl (by decide) rfl rfl rfl fun h2 => ?_
  have h2 : i32 (t 142 14) := h2
  by_cases h3 : t 142 14 ≠ 0
  · refine mq_t h3 ?_
    refine pr_if1t rfl rfl h2 h3 ?_
    refine pr_n (pc2 := 29) (lv2 := [(0, .ref 142), (1, vi x1)]) (st2 := [.ref 142, .ref 142]) 2 (fun _ _ => rfl) ?_
    refine pr_get (v := .ref 152) rfl rfl rfl (by decide) (rv_ref (hE1.2.1 142 11 152 rfl)) fun _ => ?_
    refine pr_m1 (args := [.ref 152]) (rest := []) rfl rfl rfl rfl (Nat.le_of_ble_eq_true rfl) rfl (h_85 s1 (up2 t 142 15 0) 152 hE1 isW_152) ?_
    rintro _ _ t4 s4 ⟨rfl, rfl⟩ hE4
    show pr K K d tb_M82 35 [(0, .ref 142), (1, vi x1)] [] s4 _
    refine pr_n (pc2 := 37) (lv2 := [(0, .ref 142), (1, vi x1)]) (st2 := [.ref 142, .ref 142]) 2 (fun _ _ => rfl) ?_
    refine pr_get (v := .ref 153) rfl rfl rfl (by decide) (rv_ref (hE4.2.1 142 12 153 rfl)) fun _ => ?_
    refine pr_m1 (args := [.ref 153]) (rest := []) rfl rfl rfl rfl (Nat.le_of_ble_eq_true rfl) rfl (h_85 s4 t4 153 hE4 isW_153) ?_
    rintro _ _ t5 s5 ⟨rfl, rfl⟩ hE5
    show pr K K d tb_M82 43 [(0, .ref 142), (1, vi x1)] [] s5 _
    refine pr_n (pc2 := 45) (lv2 := [(2, vi 0), (0, .ref 142), (1, vi x1)]) (st2 := []) 2 (fun _ _ => rfl) ?_
    exact ((wa82 h_83 h_85 h_86 K).1) s5 t5 0 x1 hE5 (i32_n rfl) hx1
  · refine mq_f h3 ?_
    refine pr_if1f rfl rfl h2 h3 ?_
    refine pr_n (pc2 := 14) (lv2 := [(0, .ref 142), (1, vi x1)]) (st2 := [.ref 142, .ref 142]) 2 (fun _ _ => rfl) ?_
    refine pr_get (v := .ref C) rfl rfl rfl (by decide) (rv_ref (show s1.1 142 0 = ((C : Nat) : Int) from hE1.2.2.1)) fun _ => ?_
    refine pr_gE (k2 := 99) (v := vi (t 99 13)) hE1 rfl rfl (TK0 hC) (by decide) rfl rfl rfl fun h6 => ?_
    have h6 : i32 (t 99 13) := h6
    refine pr_n (pc2 := 21) (lv2 := [(0, .ref 142), (1, vi x1)]) (st2 := [vi ((-1)), vi (t 99 13), .ref 142]) 1 (fun _ _ => rfl) ?_
    refine pr_s1 (args := [vi (t 99 13), vi ((-1))]) (rest := []) rfl rfl rfl rfl (Nat.le_of_ble_eq_true rfl) rfl (h_83 s1 (up2 t 142 15 0) (t 99 13) ((-1)) hE1 h6 (i32_n rfl)) v_akw ?_
    rintro _ s7 ⟨rfl, _⟩ hE7
    show pr K K d tb_M82 24 [(0, .ref 142), (1, vi x1)] [] s7 _
    refine pr_n (pc2 := 45) (lv2 := [(2, vi 0), (0, .ref 142), (1, vi x1)]) (st2 := []) 3 (fun _ _ => rfl) ?_
    exact ((wa82 h_83 h_85 h_86 K).1) s7 ((akw (up2 t 142 15 0) (t 99 13) ((-1)))) 0 x1 hE7 (i32_n rfl) hx1
set_option maxHeartbeats 20000000 in
set_option maxRecDepth 100000 in
theorem wu78_0 {N K d C : Nat} (h_23 : wT23 K d C) (h_79 : wT79 K d C) (ih : ∀ N2, N2 < N → wA78 N2 K d C) : wU78_0 N K d C := by
  intro s t y2 hE hy2
  have hC : C = 99 ∨ C = 115 := hE.1
  rw [wG_78_39]
  unfold wM78_39
  refine pr_lt (pc2 := 40) (lv2 := [(2, vi y2), (0, .ref 142), (1, .ref C)]) (st2 := [vi y2]) (fun _ _ => rfl) fun N2 hN2 => ?_
  refine pr_n (pc2 := 41) (lv2 := [(2, vi y2), (0, .ref 142), (1, .ref C)]) (st2 := [vi 4, vi y2]) 1 (fun _ _ => rfl) ?_
  by_cases h1 : 4 ≤ y2
  · refine mq_t h1 ?_
    refine pr_if2t rfl rfl hy2 (i32_n rfl) h1 ?_
    refine pr_n (pc2 := 61) (lv2 := [(2, vi 0), (0, .ref 142), (1, .ref C)]) (st2 := []) 2 (fun _ _ => rfl) ?_
    exact ((ih N2 hN2).2) s t 0 hE (i32_n rfl)
  · refine mq_f h1 ?_
    refine pr_if2f rfl rfl hy2 (i32_n rfl) h1 ?_
    refine pr_n (pc2 := 45) (lv2 := [(2, vi y2), (0, .ref 142), (1, .ref C)]) (st2 := [.ref 142]) 1 (fun _ _ => rfl) ?_
    refine pr_get (v := .ref 150) rfl rfl rfl (by decide) (rv_ref (hE.2.1 142 9 150 rfl)) fun _ => ?_
    refine pr_n (pc2 := 49) (lv2 := [(2, vi y2), (0, .ref 142), (1, .ref C)]) (st2 := [vi y2, .ref 150]) 1 (fun _ _ => rfl) ?_
    refine pr_row (a := y2) (v := 154 + 2 * y2.toNat) rfl rfl rfl rfl hy2 (by decide) (fun h1 h2 => hE.2.1 _ _ _ (rcw_i (by omega))) fun h2 h3 => ?_
    show pr N2 K d tb_M78 50 [(2, vi y2), (0, .ref 142), (1, .ref C)] [.ref (154 + 2 * y2.toNat)] s _
    refine pr_s1 (args := []) (rest := []) rfl rfl rfl (TGw_q (isQwi (by omega))) (Nat.le_of_ble_eq_true rfl) rfl (h_79 s t ((154 + 2 * y2.toNat : Nat) : Int) hE (isQwi (by omega))) v_qcl ?_
    rintro _ s4 ⟨rfl, _⟩ hE4
    show pr N2 K d tb_M78 53 [(2, vi y2), (0, .ref 142), (1, .ref C)] [] s4 _
    refine pr_inc (a := y2) rfl rfl ?_
    have h5 : i32 (y2 + 1) := by unfold i32 at *; omega
    show pr N2 K d tb_M78 56 [(2, vi (y2 + 1)), (0, .ref 142), (1, .ref C)] [] s4 _
    refine pr_n (pc2 := 39) (lv2 := [(2, vi (y2 + 1)), (0, .ref 142), (1, .ref C)]) (st2 := []) 1 (fun _ _ => rfl) ?_
    exact ((ih N2 hN2).1) s4 ((qcl t (((154 + 2 * y2.toNat : Nat) : Int)))) (y2 + 1) hE4 h5
set_option maxHeartbeats 20000000 in
set_option maxRecDepth 100000 in
theorem wu78_1 {N K d C : Nat} (h_23 : wT23 K d C) (h_79 : wT79 K d C) (ih : ∀ N2, N2 < N → wA78 N2 K d C) : wU78_1 N K d C := by
  intro s t y2 hE hy2
  have hC : C = 99 ∨ C = 115 := hE.1
  rw [wG_78_61]
  unfold wM78_61
  refine pr_lt (pc2 := 62) (lv2 := [(2, vi y2), (0, .ref 142), (1, .ref C)]) (st2 := [vi y2]) (fun _ _ => rfl) fun N2 hN2 => ?_
  refine pr_n (pc2 := 63) (lv2 := [(2, vi y2), (0, .ref 142), (1, .ref C)]) (st2 := [vi 4, vi y2]) 1 (fun _ _ => rfl) ?_
  by_cases h1 : 4 ≤ y2
  · refine mq_t h1 ?_
    refine pr_if2t rfl rfl hy2 (i32_n rfl) h1 ?_
    refine pr_n (pc2 := 83) (lv2 := [(2, vi y2), (0, .ref 142), (1, .ref C)]) (st2 := [vi 0, .ref 142]) 2 (fun _ _ => rfl) ?_
    refine pr_pE (k2 := 142) (z := 0) hE rfl rfl rfl rfl (by decide) rfl (by decide) rfl (show i32 (0) from (i32_n rfl)) (hf_int' _) rfl rfl rfl (fun e => absurd e.2 (by decide)) (fun _ => trivial) fun s2 hE2 => ?_
    refine pr_n (pc2 := 88) (lv2 := [(2, vi y2), (0, .ref 142), (1, .ref C)]) (st2 := [vi 0, .ref 142]) 2 (fun _ _ => rfl) ?_
    refine pr_pE (k2 := 142) (z := 0) hE2 rfl rfl rfl rfl (by decide) rfl (by decide) rfl (show 0 ≤ 0 ∧ 0 ≤ 1 from (by decide)) (fit_i (.inr (.inl rfl)) (show 0 ≤ 0 ∧ 0 ≤ 1 from (by decide))) rfl rfl rfl (fun e => absurd e.2 (by decide)) (fun _ => trivial) fun s3 hE3 => ?_
    refine pr_n (pc2 := 93) (lv2 := [(2, vi y2), (0, .ref 142), (1, .ref C)]) (st2 := [vi 0, .ref 142]) 2 (fun _ _ => rfl) ?_
    refine pr_pE (k2 := 142) (z := 0) hE3 rfl rfl rfl rfl (by decide) rfl (by decide) rfl (show i32 (0) from (i32_n rfl)) (hf_int' _) rfl rfl rfl (fun e => absurd e.2 (by decide)) (fun _ => trivial) fun s4 hE4 => ?_
    refine pr_end (fun _ _ => rfl) ?_
    exact .inl ⟨_, 0, _, rfl, ⟨rfl, rfl⟩, rfl, hE4⟩
  · refine mq_f h1 ?_
    refine pr_if2f rfl rfl hy2 (i32_n rfl) h1 ?_
    refine pr_n (pc2 := 67) (lv2 := [(2, vi y2), (0, .ref 142), (1, .ref C)]) (st2 := [.ref 142]) 1 (fun _ _ => rfl) ?_
    refine pr_get (v := .ref 151) rfl rfl rfl (by decide) (rv_ref (hE.2.1 142 10 151 rfl)) fun _ => ?_
    refine pr_n (pc2 := 71) (lv2 := [(2, vi y2), (0, .ref 142), (1, .ref C)]) (st2 := [vi y2, .ref 151]) 1 (fun _ _ => rfl) ?_
    refine pr_row (a := y2) (v := 162 + 2 * y2.toNat) rfl rfl rfl rfl hy2 (by decide) (fun h1 h2 => hE.2.1 _ _ _ (rcw_o (by omega))) fun h5 h6 => ?_
    show pr N2 K d tb_M78 72 [(2, vi y2), (0, .ref 142), (1, .ref C)] [.ref (162 + 2 * y2.toNat)] s _
    refine pr_s1 (args := []) (rest := []) rfl rfl rfl (TGw_q (isQwo (by omega))) (Nat.le_of_ble_eq_true rfl) rfl (h_79 s t ((162 + 2 * y2.toNat : Nat) : Int) hE (isQwo (by omega))) v_qcl ?_
    rintro _ s7 ⟨rfl, _⟩ hE7
    show pr N2 K d tb_M78 75 [(2, vi y2), (0, .ref 142), (1, .ref C)] [] s7 _
    refine pr_inc (a := y2) rfl rfl ?_
    have h8 : i32 (y2 + 1) := by unfold i32 at *; omega
    show pr N2 K d tb_M78 78 [(2, vi (y2 + 1)), (0, .ref 142), (1, .ref C)] [] s7 _
    refine pr_n (pc2 := 61) (lv2 := [(2, vi (y2 + 1)), (0, .ref 142), (1, .ref C)]) (st2 := []) 1 (fun _ _ => rfl) ?_
    exact ((ih N2 hN2).2) s7 ((qcl t (((162 + 2 * y2.toNat : Nat) : Int)))) (y2 + 1) hE7 h8
theorem wa78 {K d C : Nat} (h_23 : wT23 K d C) (h_79 : wT79 K d C) : ∀ N, wA78 N K d C := by
  intro N
  induction N using Nat.strongRecOn with | ind N ih => ?_
  exact ⟨wu78_0 h_23 h_79 ih, wu78_1 h_23 h_79 ih⟩
set_option maxHeartbeats 20000000 in
set_option maxRecDepth 100000 in
theorem wm78 {K d C : Nat} (h_23 : wT23 K d C) (h_79 : wT79 K d C) : wT78 K (d + 1) C := by
  intro s0 t hE
  have hC : C = 99 ∨ C = 115 := hE.1
  refine pcr_of (M := tb_M78) rfl ?_
  refine pr_n (pc2 := 2) (lv2 := [(0, .ref 142), (1, .ref C)]) (st2 := [.ref C, .ref 142]) 2 (fun _ _ => rfl) ?_
  refine pr_put (z := (C : Int)) rfl rfl rfl rfl (by decide) rfl (by decide) (rv_ref rfl) (show -1 ≤ (C : Int) by omega) (hf_ref _ _) ?_
  obtain ⟨s, hs⟩ : ∃ s9 : rS, s9 = (up2 s0.1 142 0 (C : Int), s0.2) := ⟨_, rfl⟩
  rw [← hs] at hE ⊢
  clear hs
  show pr K K d tb_M78 5 [(0, .ref 142), (1, .ref C)] [] s _
  rw [wG_78]
  unfold wM78
  refine pr_n (pc2 := 6) (lv2 := [(0, .ref 142), (1, .ref C)]) (st2 := [.ref 142]) 1 (fun _ _ => rfl) ?_
  refine pr_get (v := .ref 148) rfl rfl rfl (by decide) (rv_ref (hE.2.1 142 7 148 rfl)) fun _ => ?_
  refine pr_n (pc2 := 10) (lv2 := [(0, .ref 142), (1, .ref C)]) (st2 := [vi 0, .ref 148]) 1 (fun _ _ => rfl) ?_
  refine pr_m0 (args := [.ref 148, vi 0]) (rest := []) rfl rfl rfl (Nat.le_of_ble_eq_true rfl) rfl (h_23 s t 148 0 hE isF_148 (i32_n rfl)) ?_
  rintro _ _ t1 s1 ⟨rfl, rfl⟩ hE1
  show pr K K d tb_M78 13 [(0, .ref 142), (1, .ref C)] [] s1 _
  refine pr_n (pc2 := 14) (lv2 := [(0, .ref 142), (1, .ref C)]) (st2 := [.ref 142]) 1 (fun _ _ => rfl) ?_
  refine pr_get (v := .ref 149) rfl rfl rfl (by decide) (rv_ref (hE1.2.1 142 8 149 rfl)) fun _ => ?_
  refine pr_n (pc2 := 18) (lv2 := [(0, .ref 142), (1, .ref C)]) (st2 := [vi 0, .ref 149]) 1 (fun _ _ => rfl) ?_
  refine pr_m0 (args := [.ref 149, vi 0]) (rest := []) rfl rfl rfl (Nat.le_of_ble_eq_true rfl) rfl (h_23 s1 t1 149 0 hE1 isF_149 (i32_n rfl)) ?_
  rintro _ _ t2 s2 ⟨rfl, rfl⟩ hE2
  show pr K K d tb_M78 21 [(0, .ref 142), (1, .ref C)] [] s2 _
  refine pr_n (pc2 := 22) (lv2 := [(0, .ref 142), (1, .ref C)]) (st2 := [.ref 142]) 1 (fun _ _ => rfl) ?_
  refine pr_get (v := .ref 152) rfl rfl rfl (by decide) (rv_ref (hE2.2.1 142 11 152 rfl)) fun _ => ?_
  refine pr_n (pc2 := 26) (lv2 := [(0, .ref 142), (1, .ref C)]) (st2 := [vi ((-1)), .ref 152]) 1 (fun _ _ => rfl) ?_
  refine pr_m0 (args := [.ref 152, vi ((-1))]) (rest := []) rfl rfl rfl (Nat.le_of_ble_eq_true rfl) rfl (h_23 s2 t2 152 ((-1)) hE2 isF_152 (i32_n rfl)) ?_
  rintro _ _ t3 s3 ⟨rfl, rfl⟩ hE3
  show pr K K d tb_M78 29 [(0, .ref 142), (1, .ref C)] [] s3 _
  refine pr_n (pc2 := 30) (lv2 := [(0, .ref 142), (1, .ref C)]) (st2 := [.ref 142]) 1 (fun _ _ => rfl) ?_
  refine pr_get (v := .ref 153) rfl rfl rfl (by decide) (rv_ref (hE3.2.1 142 12 153 rfl)) fun _ => ?_
  refine pr_n (pc2 := 34) (lv2 := [(0, .ref 142), (1, .ref C)]) (st2 := [vi ((-1)), .ref 153]) 1 (fun _ _ => rfl) ?_
  refine pr_m0 (args := [.ref 153, vi ((-1))]) (rest := []) rfl rfl rfl (Nat.le_of_ble_eq_true rfl) rfl (h_23 s3 t3 153 ((-1)) hE3 isF_153 (i32_n rfl)) ?_
  rintro _ _ t4 s4 ⟨rfl, rfl⟩ hE4
  show pr K K d tb_M78 37 [(0, .ref 142), (1, .ref C)] [] s4 _
  refine pr_n (pc2 := 39) (lv2 := [(2, vi 0), (0, .ref 142), (1, .ref C)]) (st2 := []) 2 (fun _ _ => rfl) ?_
  exact ((wa78 h_23 h_79 K).1) s4 t4 0 hE4 (i32_n rfl)
set_option maxHeartbeats 20000000 in
set_option maxRecDepth 100000 in
theorem wu23_0 {N K d C : Nat} (ih : ∀ N2, N2 < N → wA23 N2 K d C) : wU23_0 N K d C := by
  intro s t y3 y2 x0 y1 hE hy3 hy2 hx0 hy1
  have hC : C = 99 ∨ C = 115 := hE.1
  rw [wG_23_5]
  unfold wM23_5
  refine pr_lt (pc2 := 6) (lv2 := [(3, vi y3), (2, vi y2), (0, .ref x0.toNat), (1, vi y1)]) (st2 := [vi y2]) (fun _ _ => rfl) fun N2 hN2 => ?_
  refine pr_n (pc2 := 7) (lv2 := [(3, vi y3), (2, vi y2), (0, .ref x0.toNat), (1, vi y1)]) (st2 := [vi y3, vi y2]) 1 (fun _ _ => rfl) ?_
  by_cases h1 : y3 ≤ y2
  · refine mq_t h1 ?_
    refine pr_if2t rfl rfl hy2 hy3 h1 ?_
    refine pr_end (fun _ _ => rfl) ?_
    exact .inl ⟨_, 0, _, rfl, ⟨rfl, rfl⟩, rfl, hE⟩
  · refine mq_f h1 ?_
    refine pr_if2f rfl rfl hy2 hy3 h1 ?_
    refine pr_n (pc2 := 13) (lv2 := [(3, vi y3), (2, vi y2), (0, .ref x0.toNat), (1, vi y1)]) (st2 := [vi y1, vi y2, .ref x0.toNat]) 3 (fun _ _ => rfl) ?_
    refine pr_sE (k2 := x0.toNat) (a := y2) (z := y1) hE rfl (show 96 ≤ x0.toNat by have := ge_f hx0; omega) (TGw_f hx0) rfl hy2 (fln_b hx0) rfl (show i32 (y1) from hy1) (nw_f hx0) (pv_f hx0) (rw_f hx0) (fun e => absurd e.1 (show ¬ (x0.toNat = 142) by have := ge_f hx0; omega)) (fun _ => trivial) fun h2 h3 s4 hE4 => ?_
    refine pr_inc (a := y2) rfl rfl ?_
    have h5 : i32 (y2 + 1) := by unfold i32 at *; omega
    show pr N2 K d tb_M23 17 [(2, vi (y2 + 1)), (3, vi y3), (0, .ref x0.toNat), (1, vi y1)] [] s4 _
    refine pr_n (pc2 := 5) (lv2 := [(2, vi (y2 + 1)), (3, vi y3), (0, .ref x0.toNat), (1, vi y1)]) (st2 := []) 1 (fun _ _ => rfl) ?_
    exact ((ih N2 hN2).2) s4 (up2 t x0.toNat y2.toNat y1) (y2 + 1) y3 x0 y1 hE4 h5 hy3 hx0 hy1
set_option maxHeartbeats 20000000 in
set_option maxRecDepth 100000 in
theorem wu23_1 {N K d C : Nat} (ih : ∀ N2, N2 < N → wA23 N2 K d C) : wU23_1 N K d C := by
  intro s t y2 y3 x0 y1 hE hy2 hy3 hx0 hy1
  have hC : C = 99 ∨ C = 115 := hE.1
  rw [wG_23_5]
  unfold wM23_5
  refine pr_lt (pc2 := 6) (lv2 := [(2, vi y2), (3, vi y3), (0, .ref x0.toNat), (1, vi y1)]) (st2 := [vi y2]) (fun _ _ => rfl) fun N2 hN2 => ?_
  refine pr_n (pc2 := 7) (lv2 := [(2, vi y2), (3, vi y3), (0, .ref x0.toNat), (1, vi y1)]) (st2 := [vi y3, vi y2]) 1 (fun _ _ => rfl) ?_
  by_cases h1 : y3 ≤ y2
  · refine mq_t h1 ?_
    refine pr_if2t rfl rfl hy2 hy3 h1 ?_
    refine pr_end (fun _ _ => rfl) ?_
    exact .inl ⟨_, 0, _, rfl, ⟨rfl, rfl⟩, rfl, hE⟩
  · refine mq_f h1 ?_
    refine pr_if2f rfl rfl hy2 hy3 h1 ?_
    refine pr_n (pc2 := 13) (lv2 := [(2, vi y2), (3, vi y3), (0, .ref x0.toNat), (1, vi y1)]) (st2 := [vi y1, vi y2, .ref x0.toNat]) 3 (fun _ _ => rfl) ?_
    refine pr_sE (k2 := x0.toNat) (a := y2) (z := y1) hE rfl (show 96 ≤ x0.toNat by have := ge_f hx0; omega) (TGw_f hx0) rfl hy2 (fln_b hx0) rfl (show i32 (y1) from hy1) (nw_f hx0) (pv_f hx0) (rw_f hx0) (fun e => absurd e.1 (show ¬ (x0.toNat = 142) by have := ge_f hx0; omega)) (fun _ => trivial) fun h2 h3 s4 hE4 => ?_
    refine pr_inc (a := y2) rfl rfl ?_
    have h5 : i32 (y2 + 1) := by unfold i32 at *; omega
    show pr N2 K d tb_M23 17 [(2, vi (y2 + 1)), (3, vi y3), (0, .ref x0.toNat), (1, vi y1)] [] s4 _
    refine pr_n (pc2 := 5) (lv2 := [(2, vi (y2 + 1)), (3, vi y3), (0, .ref x0.toNat), (1, vi y1)]) (st2 := []) 1 (fun _ _ => rfl) ?_
    exact ((ih N2 hN2).2) s4 (up2 t x0.toNat y2.toNat y1) (y2 + 1) y3 x0 y1 hE4 h5 hy3 hx0 hy1
theorem wa23 {K d C : Nat} : ∀ N, wA23 N K d C := by
  intro N
  induction N using Nat.strongRecOn with | ind N ih => ?_
  exact ⟨wu23_0 ih, wu23_1 ih⟩
set_option maxHeartbeats 20000000 in
set_option maxRecDepth 100000 in
theorem wm23 {K d C : Nat} : wT23 K (d + 1) C := by
  intro s t x0 x1 hE hx0 hx1
  have hC : C = 99 ∨ C = 115 := hE.1
  refine pcr_of (M := tb_M23) rfl ?_
  show pr K K d tb_M23 0 [(0, .ref x0.toNat), (1, vi x1)] [] s _
  rw [wG_23]
  unfold wM23
  refine pr_n (pc2 := 3) (lv2 := [(2, vi 0), (0, .ref x0.toNat), (1, vi x1)]) (st2 := [.ref x0.toNat]) 3 (fun _ _ => rfl) ?_
  refine pr_alen (n := fln x0.toNat) rfl (TGw_f hx0) ?_
  show pr K K d tb_M23 4 [(2, vi 0), (0, .ref x0.toNat), (1, vi x1)] [vi (((fln x0.toNat : Nat) : Int))] s _
  refine pr_n (pc2 := 5) (lv2 := [(3, vi (((fln x0.toNat : Nat) : Int))), (2, vi 0), (0, .ref x0.toNat), (1, vi x1)]) (st2 := []) 1 (fun _ _ => rfl) ?_
  exact ((wa23 K).1) s t (((fln x0.toNat : Nat) : Int)) 0 x0 x1 hE (fln_i hx0) (i32_n rfl) hx0 hx1
set_option maxHeartbeats 20000000 in
set_option maxRecDepth 100000 in
theorem wm27 {K d C : Nat} : wT27 K (d + 1) C := by
  intro s t x0 hE hx0
  have hC : C = 99 ∨ C = 115 := hE.1
  refine pcr_of (M := tb_M27) rfl ?_
  show pr K K d tb_M27 0 [(0, vi x0)] [] s _
  rw [wG_27]
  unfold wM27
  refine pr_n (pc2 := 3) (lv2 := [(0, vi x0)]) (st2 := [vi 97, vi x0]) 2 (fun _ _ => rfl) ?_
  by_cases h1 : x0 < 97
  · refine mq_t h1 ?_
    refine pr_if2t rfl rfl hx0 (i32_n rfl) h1 ?_
    refine pr_n (pc2 := 17) (lv2 := [(0, vi x0)]) (st2 := [vi 0]) 1 (fun _ _ => rfl) ?_
    refine pr_end (fun _ _ => rfl) ?_
    exact .inl ⟨_, 0, _, rfl, ⟨rfl, (by decide)⟩, rfl, hE⟩
  · refine mq_f h1 ?_
    refine pr_if2f rfl rfl hx0 (i32_n rfl) h1 ?_
    refine pr_n (pc2 := 9) (lv2 := [(0, vi x0)]) (st2 := [vi 122, vi x0]) 2 (fun _ _ => rfl) ?_
    by_cases h2 : 122 < x0
    · refine mq_t h2 ?_
      refine pr_if2t rfl rfl hx0 (i32_n rfl) h2 ?_
      refine pr_n (pc2 := 17) (lv2 := [(0, vi x0)]) (st2 := [vi 0]) 1 (fun _ _ => rfl) ?_
      refine pr_end (fun _ _ => rfl) ?_
      exact .inl ⟨_, 0, _, rfl, ⟨rfl, (by decide)⟩, rfl, hE⟩
    · refine mq_f h2 ?_
      refine pr_if2f rfl rfl hx0 (i32_n rfl) h2 ?_
      refine pr_n (pc2 := 17) (lv2 := [(0, vi x0)]) (st2 := [vi 1]) 2 (fun _ _ => rfl) ?_
      refine pr_end (fun _ _ => rfl) ?_
      exact .inl ⟨_, 1, _, rfl, ⟨rfl, (by decide)⟩, rfl, hE⟩
set_option maxHeartbeats 20000000 in
set_option maxRecDepth 100000 in
theorem wm30 {K d C : Nat} : wT30 K (d + 1) C := by
  intro s t x0 hE hx0
  have hC : C = 99 ∨ C = 115 := hE.1
  refine pcr_of (M := tb_M30) rfl ?_
  show pr K K d tb_M30 0 [(0, vi x0)] [] s _
  rw [wG_30]
  unfold wM30
  refine pr_n (pc2 := 3) (lv2 := [(0, vi x0)]) (st2 := [vi 48, vi x0]) 2 (fun _ _ => rfl) ?_
  by_cases h1 : x0 < 48
  · refine mq_t h1 ?_
    refine pr_if2t rfl rfl hx0 (i32_n rfl) h1 ?_
    refine pr_n (pc2 := 17) (lv2 := [(0, vi x0)]) (st2 := [vi 0]) 1 (fun _ _ => rfl) ?_
    refine pr_end (fun _ _ => rfl) ?_
    exact .inl ⟨_, 0, _, rfl, ⟨rfl, (by decide)⟩, rfl, hE⟩
  · refine mq_f h1 ?_
    refine pr_if2f rfl rfl hx0 (i32_n rfl) h1 ?_
    refine pr_n (pc2 := 9) (lv2 := [(0, vi x0)]) (st2 := [vi 57, vi x0]) 2 (fun _ _ => rfl) ?_
    by_cases h2 : 57 < x0
    · refine mq_t h2 ?_
      refine pr_if2t rfl rfl hx0 (i32_n rfl) h2 ?_
      refine pr_n (pc2 := 17) (lv2 := [(0, vi x0)]) (st2 := [vi 0]) 1 (fun _ _ => rfl) ?_
      refine pr_end (fun _ _ => rfl) ?_
      exact .inl ⟨_, 0, _, rfl, ⟨rfl, (by decide)⟩, rfl, hE⟩
    · refine mq_f h2 ?_
      refine pr_if2f rfl rfl hx0 (i32_n rfl) h2 ?_
      refine pr_n (pc2 := 17) (lv2 := [(0, vi x0)]) (st2 := [vi 1]) 2 (fun _ _ => rfl) ?_
      refine pr_end (fun _ _ => rfl) ?_
      exact .inl ⟨_, 1, _, rfl, ⟨rfl, (by decide)⟩, rfl, hE⟩
set_option maxHeartbeats 20000000 in
set_option maxRecDepth 100000 in
theorem wm29 {K d C : Nat} (h_27 : wT27 K d C) (h_30 : wT30 K d C) : wT29 K (d + 1) C := by
  intro s t x0 hE hx0
  have hC : C = 99 ∨ C = 115 := hE.1
  refine pcr_of (M := tb_M29) rfl ?_
  show pr K K d tb_M29 0 [(0, vi x0)] [] s _
  rw [wG_29]
  unfold wM29
  refine pr_n (pc2 := 1) (lv2 := [(0, vi x0)]) (st2 := [vi x0]) 1 (fun _ _ => rfl) ?_
  refine pr_s0 (args := [vi x0]) (rest := []) rfl rfl rfl (Nat.le_of_ble_eq_true rfl) rfl (h_27 s t x0 hE hx0) v_ltz ?_
  rintro _ s1 ⟨rfl, hz1⟩ hE1
  show pr K K d tb_M29 4 [(0, vi x0)] [vi (ltz x0)] s1 _
  by_cases h2 : ltz x0 ≠ 0
  · refine mq_t h2 ?_
    refine pr_if1t rfl rfl (i32_z hz1) h2 ?_
    refine pr_n (pc2 := 19) (lv2 := [(0, vi x0)]) (st2 := [vi 1]) 2 (fun _ _ => rfl) ?_
    refine pr_end (fun _ _ => rfl) ?_
    exact .inl ⟨_, 1, _, rfl, ⟨rfl, (by decide)⟩, rfl, hE1⟩
  · refine mq_f h2 ?_
    refine pr_if1f rfl rfl (i32_z hz1) h2 ?_
    refine pr_n (pc2 := 8) (lv2 := [(0, vi x0)]) (st2 := [vi x0]) 1 (fun _ _ => rfl) ?_
    refine pr_s0 (args := [vi x0]) (rest := []) rfl rfl rfl (Nat.le_of_ble_eq_true rfl) rfl (h_30 s1 t x0 hE1 hx0) v_dgz ?_
    rintro _ s3 ⟨rfl, hz3⟩ hE3
    show pr K K d tb_M29 11 [(0, vi x0)] [vi (dgz x0)] s3 _
    by_cases h4 : dgz x0 = 0
    · refine mq_t h4 ?_
      refine pr_if1t rfl rfl (i32_z hz3) h4 ?_
      refine pr_n (pc2 := 19) (lv2 := [(0, vi x0)]) (st2 := [vi 0]) 1 (fun _ _ => rfl) ?_
      refine pr_end (fun _ _ => rfl) ?_
      exact .inl ⟨_, 0, _, rfl, ⟨rfl, (by decide)⟩, rfl, hE3⟩
    · refine mq_f h4 ?_
      refine pr_if1f rfl rfl (i32_z hz3) h4 ?_
      refine pr_n (pc2 := 19) (lv2 := [(0, vi x0)]) (st2 := [vi 1]) 2 (fun _ _ => rfl) ?_
      refine pr_end (fun _ _ => rfl) ?_
      exact .inl ⟨_, 1, _, rfl, ⟨rfl, (by decide)⟩, rfl, hE3⟩
set_option maxHeartbeats 20000000 in
set_option maxRecDepth 100000 in
theorem wm26 {K d C : Nat} : wT26 K (d + 1) C := by
  intro s t x1 hE hx1
  have hC : C = 99 ∨ C = 115 := hE.1
  refine pcr_of (M := tb_M26) rfl ?_
  show pr K K d tb_M26 0 [(0, .ref 97), (1, vi x1)] [] s _
  rw [wG_26]
  unfold wM26
  refine pr_n (pc2 := 1) (lv2 := [(0, .ref 97), (1, vi x1)]) (st2 := [vi x1]) 1 (fun _ _ => rfl) ?_
  by_cases h1 : x1 < 0
  · refine mq_t h1 ?_
    refine pr_if1t rfl rfl hx1 h1 ?_
    refine pr_n (pc2 := 26) (lv2 := [(0, .ref 97), (1, vi x1)]) (st2 := [vi ((-1))]) 1 (fun _ _ => rfl) ?_
    refine pr_end (fun _ _ => rfl) ?_
    exact .inl ⟨_, (-1), _, rfl, ⟨rfl, (i32_n rfl)⟩, rfl, hE⟩
  · refine mq_f h1 ?_
    refine pr_if1f rfl rfl hx1 h1 ?_
    refine pr_n (pc2 := 6) (lv2 := [(0, .ref 97), (1, vi x1)]) (st2 := [.ref 97, vi x1]) 2 (fun _ _ => rfl) ?_
    refine pr_gE (k2 := 97) (v := vi (t 97 1)) hE rfl rfl rfl (by decide) rfl rfl rfl fun h2 => ?_
    have h2 : i32 (t 97 1) := h2
    by_cases h3 : t 97 1 ≤ x1
    · refine mq_t h3 ?_
      refine pr_if2t rfl rfl hx1 h2 h3 ?_
      refine pr_n (pc2 := 26) (lv2 := [(0, .ref 97), (1, vi x1)]) (st2 := [vi ((-1))]) 1 (fun _ _ => rfl) ?_
      refine pr_end (fun _ _ => rfl) ?_
      exact .inl ⟨_, (-1), _, rfl, ⟨rfl, (i32_n rfl)⟩, rfl, hE⟩
    · refine mq_f h3 ?_
      refine pr_if2f rfl rfl hx1 h2 h3 ?_
      refine pr_n (pc2 := 13) (lv2 := [(0, .ref 97), (1, vi x1)]) (st2 := [.ref 97]) 1 (fun _ _ => rfl) ?_
      refine pr_get (v := .ref 98) rfl rfl rfl (by decide) (rv_ref (hE.2.1 97 0 98 rfl)) fun _ => ?_
      refine pr_n (pc2 := 17) (lv2 := [(0, .ref 97), (1, vi x1)]) (st2 := [vi x1, .ref 98]) 1 (fun _ _ => rfl) ?_
      refine pr_aE (k2 := 98) (a := x1) (v := vi (t 98 x1.toNat)) hE rfl rfl rfl hx1 (by decide) rfl rfl rfl fun h5 h6 h4 => ?_
      have h4 : -128 ≤ t 98 x1.toNat ∧ t 98 x1.toNat ≤ 127 := h4
      refine pr_n (pc2 := 21) (lv2 := [(0, .ref 97), (1, vi x1)]) (st2 := [vi 255, vi (t 98 x1.toNat)]) 1 (fun _ _ => rfl) ?_
      refine pr_i2 (a := t 98 x1.toNat) (b := 255) rfl rfl ?_
      show pr K K d tb_M26 22 [(0, .ref 97), (1, vi x1)] [vi (ian (t 98 x1.toNat) 255)] s _
      have h7 : i32 (ian (t 98 x1.toNat) 255) := i32_in _
      refine pr_n (pc2 := 26) (lv2 := [(0, .ref 97), (1, vi x1)]) (st2 := [vi (ian (t 98 x1.toNat) 255)]) 1 (fun _ _ => rfl) ?_
      refine pr_reti rfl rfl ?_
      exact .inl ⟨_, ian (t 98 x1.toNat) 255, _, rfl, ⟨rfl, h7⟩, rfl, hE⟩
set_option maxHeartbeats 20000000 in
set_option maxRecDepth 100000 in
theorem wu114_0 {N K d C : Nat} (h_26 : wT26 K d C) (h_29 : wT29 K d C) (ih : ∀ N2, N2 < N → wA114 N2 K d C) : wU114_0 N K d C := by
  intro s t y3 y1 hE hy3 hy1
  have hC : C = 99 ∨ C = 115 := hE.1
  rw [wG_114_4]
  unfold wM114_4
  refine pr_lt (pc2 := 5) (lv2 := [(3, vi y3), (1, vl y1), (0, .ref 97)]) (st2 := [vi y3]) (fun _ _ => rfl) fun N2 hN2 => ?_
  refine pr_n (pc2 := 6) (lv2 := [(3, vi y3), (1, vl y1), (0, .ref 97)]) (st2 := [.ref 97, vi y3]) 1 (fun _ _ => rfl) ?_
  refine pr_gE (k2 := 97) (v := vi (t 97 1)) hE rfl rfl rfl (by decide) rfl rfl rfl fun h1 => ?_
  have h1 : i32 (t 97 1) := h1
  by_cases h2 : t 97 1 ≤ y3
  · refine mq_t h2 ?_
    refine pr_if2t rfl rfl hy3 h1 h2 ?_
    refine pr_n (pc2 := 50) (lv2 := [(3, vi y3), (1, vl y1), (0, .ref 97)]) (st2 := [vl y1]) 1 (fun _ _ => rfl) ?_
    refine pr_end (fun _ _ => rfl) ?_
    exact .inl ⟨_, y1, _, rfl, ⟨rfl, hy1⟩, rfl, hE⟩
  · refine mq_f h2 ?_
    refine pr_if2f rfl rfl hy3 h1 h2 ?_
    refine pr_n (pc2 := 15) (lv2 := [(3, vi y3), (1, vl y1), (0, .ref 97)]) (st2 := [vi 8, vi y3]) 2 (fun _ _ => rfl) ?_
    by_cases h3 : y3 = 8
    · refine mq_t h3 ?_
      refine pr_if2t rfl rfl hy3 (i32_n rfl) h3 ?_
      refine pr_n (pc2 := 30) (lv2 := [(3, vi y3), (1, vl y1), (0, .ref 97)]) (st2 := [vl 0]) 1 (fun _ _ => rfl) ?_
      refine pr_end (fun _ _ => rfl) ?_
      exact .inl ⟨_, 0, _, rfl, ⟨rfl, (i64_n rfl)⟩, rfl, hE⟩
    · refine mq_f h3 ?_
      refine pr_if2f rfl rfl hy3 (i32_n rfl) h3 ?_
      refine pr_n (pc2 := 20) (lv2 := [(3, vi y3), (1, vl y1), (0, .ref 97)]) (st2 := [vi y3, .ref 97]) 2 (fun _ _ => rfl) ?_
      refine pr_s1 (args := [vi y3]) (rest := []) rfl rfl rfl rfl (Nat.le_of_ble_eq_true rfl) rfl (h_26 s t y3 hE hy3) v_atb ?_
      rintro _ s4 ⟨rfl, hz4⟩ hE4
      show pr N2 K d tb_M114 23 [(3, vi y3), (1, vl y1), (0, .ref 97)] [vi (atb t y3)] s4 _
      refine pr_s0 (args := [vi (atb t y3)]) (rest := []) rfl rfl rfl (Nat.le_of_ble_eq_true rfl) rfl (h_29 s4 t (atb t y3) hE4 hz4) v_alz ?_
      rintro _ s5 ⟨rfl, hz5⟩ hE5
      show pr N2 K d tb_M114 26 [(3, vi y3), (1, vl y1), (0, .ref 97)] [vi (alz (atb t y3))] s5 _
      by_cases h6 : alz (atb t y3) ≠ 0
      · refine mq_t h6 ?_
        refine pr_if1t rfl rfl (i32_z hz5) h6 ?_
        refine pr_n (pc2 := 34) (lv2 := [(3, vi y3), (1, vl y1), (0, .ref 97)]) (st2 := [vi 8, vl y1]) 2 (fun _ _ => rfl) ?_
        refine pr_lshl (a := y1) (b := 8) rfl ?_
        refine pr_n (pc2 := 37) (lv2 := [(3, vi y3), (1, vl y1), (0, .ref 97)]) (st2 := [vi y3, .ref 97, vl (lsl y1 8)]) 2 (fun _ _ => rfl) ?_
        refine pr_s1 (args := [vi y3]) (rest := [vl (lsl y1 8)]) rfl rfl rfl rfl (Nat.le_of_ble_eq_true rfl) rfl (h_26 s5 t y3 hE5 hy3) v_atb ?_
        rintro _ s7 ⟨rfl, hz7⟩ hE7
        show pr N2 K d tb_M114 40 [(3, vi y3), (1, vl y1), (0, .ref 97)] [vi (atb t y3), vl (lsl y1 8)] s7 _
        refine pr_i2l (a := atb t y3) rfl hz7 ?_
        have h8 : i64 (atb t y3) := i64_32 hz7
        refine pr_l2 (a := lsl y1 8) (b := atb t y3) rfl rfl ?_
        show pr N2 K d tb_M114 42 [(3, vi y3), (1, vl y1), (0, .ref 97)] [vl (lo (lsl y1 8) (atb t y3))] s7 _
        refine pr_n (pc2 := 43) (lv2 := [(1, vl (lo (lsl y1 8) (atb t y3))), (3, vi y3), (0, .ref 97)]) (st2 := []) 1 (fun _ _ => rfl) ?_
        refine pr_inc (a := y3) rfl rfl ?_
        have h9 : i32 (y3 + 1) := by unfold i32 at *; omega
        show pr N2 K d tb_M114 46 [(3, vi (y3 + 1)), (1, vl (lo (lsl y1 8) (atb t y3))), (0, .ref 97)] [] s7 _
        refine pr_n (pc2 := 4) (lv2 := [(3, vi (y3 + 1)), (1, vl (lo (lsl y1 8) (atb t y3))), (0, .ref 97)]) (st2 := []) 1 (fun _ _ => rfl) ?_
        exact ((ih N2 hN2)) s7 t (y3 + 1) (lo (lsl y1 8) (atb t y3)) hE7 h9 (i64_in _)
      · refine mq_f h6 ?_
        refine pr_if1f rfl rfl (i32_z hz5) h6 ?_
        refine pr_n (pc2 := 30) (lv2 := [(3, vi y3), (1, vl y1), (0, .ref 97)]) (st2 := [vl 0]) 1 (fun _ _ => rfl) ?_
        refine pr_end (fun _ _ => rfl) ?_
        exact .inl ⟨_, 0, _, rfl, ⟨rfl, (i64_n rfl)⟩, rfl, hE5⟩
theorem wa114 {K d C : Nat} (h_26 : wT26 K d C) (h_29 : wT29 K d C) : ∀ N, wA114 N K d C := by
  intro N
  induction N using Nat.strongRecOn with | ind N ih => ?_
  exact wu114_0 h_26 h_29 ih
set_option maxHeartbeats 20000000 in
set_option maxRecDepth 100000 in
theorem wm114 {K d C : Nat} (h_26 : wT26 K d C) (h_29 : wT29 K d C) : wT114 K (d + 1) C := by
  intro s t  hE 
  have hC : C = 99 ∨ C = 115 := hE.1
  refine pcr_of (M := tb_M114) rfl ?_
  show pr K K d tb_M114 0 [(0, .ref 97)] [] s _
  rw [wG_114]
  unfold wM114
  refine pr_n (pc2 := 4) (lv2 := [(3, vi 0), (1, vl 0), (0, .ref 97)]) (st2 := []) 4 (fun _ _ => rfl) ?_
  exact ((wa114 h_26 h_29 K)) s t 0 0 hE (i32_n rfl) (i64_n rfl)
set_option maxHeartbeats 20000000 in
set_option maxRecDepth 100000 in
theorem wu39_0 {N K d C : Nat} (ih : ∀ N2, N2 < N → wA39 N2 K d C) : wU39_0 N K d C := by
  intro s t y5 y4 y1 y3 hE hy5 hy4 hy1 hy3
  have hC : C = 99 ∨ C = 115 := hE.1
  rw [wG_39_10]
  unfold wM39_10
  refine pr_lt (pc2 := 12) (lv2 := [(5, vi y5), (4, vi y4), (0, .ref (C + 6)), (1, vl y1), (3, vi y3)]) (st2 := [vi y5]) (fun _ _ => rfl) fun N2 hN2 => ?_
  refine pr_n (pc2 := 13) (lv2 := [(5, vi y5), (4, vi y4), (0, .ref (C + 6)), (1, vl y1), (3, vi y3)]) (st2 := [.ref (C + 6), vi y5]) 1 (fun _ _ => rfl) ?_
  refine pr_gE (k2 := 105) (v := vi (t 105 3)) hE rfl rfl (TK6 hC) (by decide) rfl rfl rfl fun h1 => ?_
  have h1 : i32 (t 105 3) := h1
  by_cases h2 : t 105 3 ≤ y5
  · refine mq_t h2 ?_
    refine pr_if2t rfl rfl hy5 h1 h2 ?_
    refine pr_n (pc2 := 43) (lv2 := [(5, vi y5), (4, vi y4), (0, .ref (C + 6)), (1, vl y1), (3, vi y3)]) (st2 := [vi y4]) 1 (fun _ _ => rfl) ?_
    refine pr_reti rfl rfl ?_
    exact .inl ⟨_, y4, _, rfl, ⟨rfl, hy4⟩, rfl, hE⟩
  · refine mq_f h2 ?_
    refine pr_if2f rfl rfl hy5 h1 h2 ?_
    refine pr_n (pc2 := 20) (lv2 := [(5, vi y5), (4, vi y4), (0, .ref (C + 6)), (1, vl y1), (3, vi y3)]) (st2 := [.ref (C + 6)]) 1 (fun _ _ => rfl) ?_
    refine pr_get (v := .ref (C + 7)) rfl rfl (TK6 hC) (by decide) (rv_ref (hE.2.1 (C + 6) 0 (C + 7) (rK6 hC (by omega)))) fun _ => ?_
    refine pr_n (pc2 := 25) (lv2 := [(5, vi y5), (4, vi y4), (0, .ref (C + 6)), (1, vl y1), (3, vi y3)]) (st2 := [vi y5, .ref (C + 7)]) 1 (fun _ _ => rfl) ?_
    refine pr_aE (k2 := 106) (a := y5) (v := vl (t 106 y5.toNat)) hE rfl (TK7 hC) rfl hy5 (by decide) rfl rfl rfl fun h4 h5 h3 => ?_
    have h3 : i64 (t 106 y5.toNat) := h3
    refine pr_n (pc2 := 27) (lv2 := [(5, vi y5), (4, vi y4), (0, .ref (C + 6)), (1, vl y1), (3, vi y3)]) (st2 := [vl y1, vl (t 106 y5.toNat)]) 1 (fun _ _ => rfl) ?_
    refine pr_lcmp (a := t 106 y5.toNat) (b := y1) rfl h3 hy1 ?_
    by_cases h6 : t 106 y5.toNat ≠ y1
    · refine mq_t h6 ?_
      refine pr_if1t rfl rfl lc_i32 (lc_ne.mpr h6) ?_
      refine pr_inc (a := y5) rfl rfl ?_
      have h7 : i32 (y5 + 1) := by unfold i32 at *; omega
      show pr N2 K d tb_M39 38 [(5, vi (y5 + 1)), (4, vi y4), (0, .ref (C + 6)), (1, vl y1), (3, vi y3)] [] s _
      refine pr_n (pc2 := 10) (lv2 := [(5, vi (y5 + 1)), (4, vi y4), (0, .ref (C + 6)), (1, vl y1), (3, vi y3)]) (st2 := []) 1 (fun _ _ => rfl) ?_
      exact ((ih N2 hN2)) s t (y5 + 1) y4 y1 y3 hE h7 hy4 hy1 hy3
    · refine mq_f h6 ?_
      refine pr_if1f rfl rfl lc_i32 (fun e => h6 (lc_ne.mp e)) ?_
      refine pr_n (pc2 := 35) (lv2 := [(4, vi y5), (5, vi y5), (0, .ref (C + 6)), (1, vl y1), (3, vi y3)]) (st2 := []) 2 (fun _ _ => rfl) ?_
      refine pr_inc (a := y5) rfl rfl ?_
      have h8 : i32 (y5 + 1) := by unfold i32 at *; omega
      show pr N2 K d tb_M39 38 [(5, vi (y5 + 1)), (4, vi y5), (0, .ref (C + 6)), (1, vl y1), (3, vi y3)] [] s _
      refine pr_n (pc2 := 10) (lv2 := [(5, vi (y5 + 1)), (4, vi y5), (0, .ref (C + 6)), (1, vl y1), (3, vi y3)]) (st2 := []) 1 (fun _ _ => rfl) ?_
      exact ((ih N2 hN2)) s t (y5 + 1) y5 y1 y3 hE h8 hy5 hy1 hy3
theorem wa39 {K d C : Nat} : ∀ N, wA39 N K d C := by
  intro N
  induction N using Nat.strongRecOn with | ind N ih => ?_
  exact wu39_0 ih
set_option maxHeartbeats 20000000 in
set_option maxRecDepth 100000 in
theorem wm39 {K d C : Nat} : wT39 K (d + 1) C := by
  intro s t x1 x3 hE hx1 hx3
  have hC : C = 99 ∨ C = 115 := hE.1
  refine pcr_of (M := tb_M39) rfl ?_
  show pr K K d tb_M39 0 [(0, .ref (C + 6)), (1, vl x1), (3, vi x3)] [] s _
  rw [wG_39]
  unfold wM39
  refine pr_n (pc2 := 5) (lv2 := [(4, vi ((-1))), (0, .ref (C + 6)), (1, vl x1), (3, vi x3)]) (st2 := [vi 0, vi x3]) 4 (fun _ _ => rfl) ?_
  refine pr_max (a := x3) (b := 0) rfl rfl hx3 (i32_n rfl) (by decide) ?_
  refine pr_n (pc2 := 10) (lv2 := [(5, vi (mxx x3 0)), (4, vi ((-1))), (0, .ref (C + 6)), (1, vl x1), (3, vi x3)]) (st2 := []) 1 (fun _ _ => rfl) ?_
  exact ((wa39 K)) s t (mxx x3 0) ((-1)) x1 x3 hE (mx_i32 hx3 (i32_n rfl)) (i32_n rfl) hx1 hx3
set_option maxHeartbeats 20000000 in
set_option maxRecDepth 100000 in
theorem wm62 {K d C : Nat} : wT62 K (d + 1) C := by
  intro s t x1 hE hx1
  have hC : C = 99 ∨ C = 115 := hE.1
  refine pcr_of (M := tb_M62) rfl ?_
  show pr K K d tb_M62 0 [(0, .ref (C + 6)), (1, vi x1)] [] s _
  rw [wG_62]
  unfold wM62
  refine pr_n (pc2 := 1) (lv2 := [(0, .ref (C + 6)), (1, vi x1)]) (st2 := [vi x1]) 1 (fun _ _ => rfl) ?_
  by_cases h1 : x1 < 0
  · refine mq_t h1 ?_
    refine pr_if1t rfl rfl hx1 h1 ?_
    refine pr_n (pc2 := 22) (lv2 := [(0, .ref (C + 6)), (1, vi x1)]) (st2 := [vi ((-1))]) 1 (fun _ _ => rfl) ?_
    refine pr_end (fun _ _ => rfl) ?_
    exact .inl ⟨_, (-1), _, rfl, ⟨rfl, (i32_n rfl)⟩, rfl, hE⟩
  · refine mq_f h1 ?_
    refine pr_if1f rfl rfl hx1 h1 ?_
    refine pr_n (pc2 := 6) (lv2 := [(0, .ref (C + 6)), (1, vi x1)]) (st2 := [.ref (C + 6), vi x1]) 2 (fun _ _ => rfl) ?_
    refine pr_gE (k2 := 105) (v := vi (t 105 3)) hE rfl rfl (TK6 hC) (by decide) rfl rfl rfl fun h2 => ?_
    have h2 : i32 (t 105 3) := h2
    by_cases h3 : t 105 3 ≤ x1
    · refine mq_t h3 ?_
      refine pr_if2t rfl rfl hx1 h2 h3 ?_
      refine pr_n (pc2 := 22) (lv2 := [(0, .ref (C + 6)), (1, vi x1)]) (st2 := [vi ((-1))]) 1 (fun _ _ => rfl) ?_
      refine pr_end (fun _ _ => rfl) ?_
      exact .inl ⟨_, (-1), _, rfl, ⟨rfl, (i32_n rfl)⟩, rfl, hE⟩
    · refine mq_f h3 ?_
      refine pr_if2f rfl rfl hx1 h2 h3 ?_
      refine pr_n (pc2 := 13) (lv2 := [(0, .ref (C + 6)), (1, vi x1)]) (st2 := [.ref (C + 6)]) 1 (fun _ _ => rfl) ?_
      refine pr_get (v := .ref (C + 8)) rfl rfl (TK6 hC) (by decide) (rv_ref (hE.2.1 (C + 6) 1 (C + 8) (rK6 hC (by omega)))) fun _ => ?_
      refine pr_n (pc2 := 17) (lv2 := [(0, .ref (C + 6)), (1, vi x1)]) (st2 := [vi x1, .ref (C + 8)]) 1 (fun _ _ => rfl) ?_
      refine pr_aE (k2 := 107) (a := x1) (v := vi (t 107 x1.toNat)) hE rfl (TK8 hC) rfl hx1 (by decide) rfl rfl rfl fun h5 h6 h4 => ?_
      have h4 : i32 (t 107 x1.toNat) := h4
      refine pr_n (pc2 := 22) (lv2 := [(0, .ref (C + 6)), (1, vi x1)]) (st2 := [vi (t 107 x1.toNat)]) 1 (fun _ _ => rfl) ?_
      refine pr_reti rfl rfl ?_
      exact .inl ⟨_, t 107 x1.toNat, _, rfl, ⟨rfl, h4⟩, rfl, hE⟩
set_option maxHeartbeats 20000000 in
set_option maxRecDepth 100000 in
theorem wm63 {K d C : Nat} : wT63 K (d + 1) C := by
  intro s t x1 hE hx1
  have hC : C = 99 ∨ C = 115 := hE.1
  refine pcr_of (M := tb_M63) rfl ?_
  show pr K K d tb_M63 0 [(0, .ref (C + 6)), (1, vi x1)] [] s _
  rw [wG_63]
  unfold wM63
  refine pr_n (pc2 := 1) (lv2 := [(0, .ref (C + 6)), (1, vi x1)]) (st2 := [vi x1]) 1 (fun _ _ => rfl) ?_
  by_cases h1 : x1 < 0
  · refine mq_t h1 ?_
    refine pr_if1t rfl rfl hx1 h1 ?_
    refine pr_n (pc2 := 22) (lv2 := [(0, .ref (C + 6)), (1, vi x1)]) (st2 := [vi ((-1))]) 1 (fun _ _ => rfl) ?_
    refine pr_end (fun _ _ => rfl) ?_
    exact .inl ⟨_, (-1), _, rfl, ⟨rfl, (i32_n rfl)⟩, rfl, hE⟩
  · refine mq_f h1 ?_
    refine pr_if1f rfl rfl hx1 h1 ?_
    refine pr_n (pc2 := 6) (lv2 := [(0, .ref (C + 6)), (1, vi x1)]) (st2 := [.ref (C + 6), vi x1]) 2 (fun _ _ => rfl) ?_
    refine pr_gE (k2 := 105) (v := vi (t 105 3)) hE rfl rfl (TK6 hC) (by decide) rfl rfl rfl fun h2 => ?_
    have h2 : i32 (t 105 3) := h2
    by_cases h3 : t 105 3 ≤ x1
    · refine mq_t h3 ?_
      refine pr_if2t rfl rfl hx1 h2 h3 ?_
      refine pr_n (pc2 := 22) (lv2 := [(0, .ref (C + 6)), (1, vi x1)]) (st2 := [vi ((-1))]) 1 (fun _ _ => rfl) ?_
      refine pr_end (fun _ _ => rfl) ?_
      exact .inl ⟨_, (-1), _, rfl, ⟨rfl, (i32_n rfl)⟩, rfl, hE⟩
    · refine mq_f h3 ?_
      refine pr_if2f rfl rfl hx1 h2 h3 ?_
      refine pr_n (pc2 := 13) (lv2 := [(0, .ref (C + 6)), (1, vi x1)]) (st2 := [.ref (C + 6)]) 1 (fun _ _ => rfl) ?_
      refine pr_get (v := .ref (C + 9)) rfl rfl (TK6 hC) (by decide) (rv_ref (hE.2.1 (C + 6) 2 (C + 9) (rK6 hC (by omega)))) fun _ => ?_
      refine pr_n (pc2 := 17) (lv2 := [(0, .ref (C + 6)), (1, vi x1)]) (st2 := [vi x1, .ref (C + 9)]) 1 (fun _ _ => rfl) ?_
      refine pr_aE (k2 := 108) (a := x1) (v := vi (t 108 x1.toNat)) hE rfl (TK9 hC) rfl hx1 (by decide) rfl rfl rfl fun h5 h6 h4 => ?_
      have h4 : i32 (t 108 x1.toNat) := h4
      refine pr_n (pc2 := 22) (lv2 := [(0, .ref (C + 6)), (1, vi x1)]) (st2 := [vi (t 108 x1.toNat)]) 1 (fun _ _ => rfl) ?_
      refine pr_reti rfl rfl ?_
      exact .inl ⟨_, t 108 x1.toNat, _, rfl, ⟨rfl, h4⟩, rfl, hE⟩
set_option maxHeartbeats 20000000 in
set_option maxRecDepth 100000 in
theorem wm113 {K d C : Nat} (h_39 : wT39 K d C) (h_62 : wT62 K d C) (h_63 : wT63 K d C) (h_89 : wT89 K d C) (h_93 : wT93 K d C) (h_114 : wT114 K d C) : wT113 K (d + 1) C := by
  intro s t x1 hE h96 hx1
  have hC : C = 99 ∨ C = 115 := hE.1
  refine pcr_of (M := tb_M113) rfl ?_
  show pr K K d tb_M113 0 [(0, .ref 96), (1, vi x1)] [] s _
  rw [wG_113]
  unfold wM113
  refine pr_n (pc2 := 1) (lv2 := [(0, .ref 96), (1, vi x1)]) (st2 := [.ref 96]) 1 (fun _ _ => rfl) ?_
  refine pr_get (v := .ref 97) rfl rfl rfl (by decide) (rv_ref (hE.2.1 96 0 97 rfl)) fun _ => ?_
  refine pr_s1 (args := []) (rest := []) rfl rfl rfl rfl (Nat.le_of_ble_eq_true rfl) rfl (h_114 s t  hE ) v_wdz ?_
  rintro _ s1 ⟨rfl, hz1⟩ hE1
  show pr K K d tb_M113 7 [(0, .ref 96), (1, vi x1)] [vl (wdz t)] s1 _
  refine pr_n (pc2 := 9) (lv2 := [(2, vl (wdz t)), (0, .ref 96), (1, vi x1)]) (st2 := [.ref 96]) 2 (fun _ _ => rfl) ?_
  refine pr_get (v := .ref 97) rfl rfl rfl (by decide) (rv_ref (hE1.2.1 96 0 97 rfl)) fun _ => ?_
  refine pr_n (pc2 := 13) (lv2 := [(2, vl (wdz t)), (0, .ref 96), (1, vi x1)]) (st2 := [vi 0, .ref 97]) 1 (fun _ _ => rfl) ?_
  refine pr_pE (k2 := 97) (z := 0) hE1 rfl rfl rfl rfl (by decide) rfl (by decide) rfl (show i32 (0) from (i32_n rfl)) (hf_int' _) rfl rfl rfl (fun e => absurd e.1 (by decide)) (fun _ => trivial) fun s2 hE2 => ?_
  refine pr_n (pc2 := 17) (lv2 := [(2, vl (wdz t)), (0, .ref 96), (1, vi x1)]) (st2 := [.ref 96]) 1 (fun _ _ => rfl) ?_
  refine pr_gE (k2 := 96) (v := vi (t 96 3)) hE2 rfl rfl rfl (by decide) rfl rfl rfl fun h3 => ?_
  have h3 : 0 ≤ t 96 3 ∧ t 96 3 ≤ 1 := h3
  by_cases h4 : t 96 3 = 0
  · refine mq_t h4 ?_
    refine pr_if1t rfl rfl (i32_z h3) h4 ?_
    refine pr_n (pc2 := 37) (lv2 := [(2, vl (wdz t)), (0, .ref 96), (1, vi x1)]) (st2 := [vl 1099511627776]) 1 (fun _ _ => rfl) ?_
    refine pr_end (fun _ _ => rfl) ?_
    exact .inl ⟨_, 1099511627776, _, rfl, ⟨rfl, (i64_n rfl)⟩, rfl, hE2⟩
  · refine mq_f h4 ?_
    refine pr_if1f rfl rfl (i32_z h3) h4 ?_
    refine pr_n (pc2 := 24) (lv2 := [(2, vl (wdz t)), (0, .ref 96), (1, vi x1)]) (st2 := [.ref 96]) 1 (fun _ _ => rfl) ?_
    refine pr_get (v := .ref 142) rfl rfl rfl (by decide) (rv_ref (hE2.2.1 96 5 142 rfl)) fun _ => ?_
    refine pr_gE (k2 := 142) (v := vi (t 142 14)) hE2 rfl rfl rfl (by decide) rfl rfl rfl fun h5 => ?_
    have h5 : i32 (t 142 14) := h5
    refine pr_n (pc2 := 31) (lv2 := [(2, vl (wdz t)), (0, .ref 96), (1, vi x1)]) (st2 := [vi 3, vi (t 142 14)]) 1 (fun _ _ => rfl) ?_
    by_cases h6 : t 142 14 ≠ 3
    · refine mq_t h6 ?_
      refine pr_if2t rfl rfl h5 (i32_n rfl) h6 ?_
      refine pr_n (pc2 := 39) (lv2 := [(2, vl (wdz t)), (0, .ref 96), (1, vi x1)]) (st2 := [.ref 96]) 1 (fun _ _ => rfl) ?_
      refine pr_get (v := .ref C) rfl rfl rfl (by decide) (rv_ref (show s2.1 96 1 = ((C : Nat) : Int) from (EE_get hE2 (k := 96) (q := 96) rfl rfl).trans h96)) fun _ => ?_
      refine pr_get (v := .ref (C + 6)) rfl rfl (TK0 hC) (by decide) (rv_ref (hE2.2.1 C 5 (C + 6) (rcK hC (by omega)))) fun _ => ?_
      refine pr_n (pc2 := 51) (lv2 := [(4, .ref (C + 6)), (2, vl (wdz t)), (0, .ref 96), (1, vi x1)]) (st2 := [vi 0, vl (wdz t), .ref (C + 6)]) 4 (fun _ _ => rfl) ?_
      refine pr_s1 (args := [vl (wdz t), vi 0]) (rest := []) rfl rfl rfl (TK6 hC) (Nat.le_of_ble_eq_true rfl) rfl (h_39 s2 (up2 t 97 1 0) (wdz t) 0 hE2 hz1 (i32_n rfl)) v_fdn ?_
      rintro _ s7 ⟨rfl, hz7⟩ hE7
      show pr K K d tb_M113 54 [(4, .ref (C + 6)), (2, vl (wdz t)), (0, .ref 96), (1, vi x1)] [vi (fdn (up2 t 97 1 0) (wdz t) 0)] s7 _
      refine pr_n (pc2 := 60) (lv2 := [(5, vi (fdn (up2 t 97 1 0) (wdz t) 0)), (4, .ref (C + 6)), (2, vl (wdz t)), (0, .ref 96), (1, vi x1)]) (st2 := [vi (fdn (up2 t 97 1 0) (wdz t) 0), .ref (C + 6)]) 3 (fun _ _ => rfl) ?_
      refine pr_s1 (args := [vi (fdn (up2 t 97 1 0) (wdz t) 0)]) (rest := []) rfl rfl rfl (TK6 hC) (Nat.le_of_ble_eq_true rfl) rfl (h_62 s7 (up2 t 97 1 0) (fdn (up2 t 97 1 0) (wdz t) 0) hE7 hz7) v_nkd ?_
      rintro _ s8 ⟨rfl, hz8⟩ hE8
      show pr K K d tb_M113 63 [(5, vi (fdn (up2 t 97 1 0) (wdz t) 0)), (4, .ref (C + 6)), (2, vl (wdz t)), (0, .ref 96), (1, vi x1)] [vi (nkd (up2 t 97 1 0) (fdn (up2 t 97 1 0) (wdz t) 0))] s8 _
      by_cases h9 : nkd (up2 t 97 1 0) (fdn (up2 t 97 1 0) (wdz t) 0) ≠ 0
      · refine mq_t h9 ?_
        refine pr_if1t rfl rfl hz8 h9 ?_
        refine pr_n (pc2 := 86) (lv2 := [(5, vi (fdn (up2 t 97 1 0) (wdz t) 0)), (4, .ref (C + 6)), (2, vl (wdz t)), (0, .ref 96), (1, vi x1)]) (st2 := [vi (fdn (up2 t 97 1 0) (wdz t) 0), .ref (C + 6)]) 2 (fun _ _ => rfl) ?_
        refine pr_s1 (args := [vi (fdn (up2 t 97 1 0) (wdz t) 0)]) (rest := []) rfl rfl rfl (TK6 hC) (Nat.le_of_ble_eq_true rfl) rfl (h_62 s8 (up2 t 97 1 0) (fdn (up2 t 97 1 0) (wdz t) 0) hE8 hz7) v_nkd ?_
        rintro _ s10 ⟨rfl, hz10⟩ hE10
        show pr K K d tb_M113 89 [(5, vi (fdn (up2 t 97 1 0) (wdz t) 0)), (4, .ref (C + 6)), (2, vl (wdz t)), (0, .ref 96), (1, vi x1)] [vi (nkd (up2 t 97 1 0) (fdn (up2 t 97 1 0) (wdz t) 0))] s10 _
        refine pr_n (pc2 := 90) (lv2 := [(5, vi (fdn (up2 t 97 1 0) (wdz t) 0)), (4, .ref (C + 6)), (2, vl (wdz t)), (0, .ref 96), (1, vi x1)]) (st2 := [vi 1, vi (nkd (up2 t 97 1 0) (fdn (up2 t 97 1 0) (wdz t) 0))]) 1 (fun _ _ => rfl) ?_
        by_cases h11 : nkd (up2 t 97 1 0) (fdn (up2 t 97 1 0) (wdz t) 0) ≠ 1
        · refine mq_t h11 ?_
          refine pr_if2t rfl rfl hz10 (i32_n rfl) h11 ?_
          refine pr_n (pc2 := 115) (lv2 := [(5, vi (fdn (up2 t 97 1 0) (wdz t) 0)), (4, .ref (C + 6)), (2, vl (wdz t)), (0, .ref 96), (1, vi x1)]) (st2 := [vl 1099511627776]) 1 (fun _ _ => rfl) ?_
          refine pr_end (fun _ _ => rfl) ?_
          exact .inl ⟨_, 1099511627776, _, rfl, ⟨rfl, (i64_n rfl)⟩, rfl, hE10⟩
        · refine mq_f h11 ?_
          refine pr_if2f rfl rfl hz10 (i32_n rfl) h11 ?_
          refine pr_n (pc2 := 94) (lv2 := [(5, vi (fdn (up2 t 97 1 0) (wdz t) 0)), (4, .ref (C + 6)), (2, vl (wdz t)), (0, .ref 96), (1, vi x1)]) (st2 := [.ref 96]) 1 (fun _ _ => rfl) ?_
          refine pr_get (v := .ref 142) rfl rfl rfl (by decide) (rv_ref (hE10.2.1 96 5 142 rfl)) fun _ => ?_
          refine pr_n (pc2 := 101) (lv2 := [(5, vi (fdn (up2 t 97 1 0) (wdz t) 0)), (4, .ref (C + 6)), (2, vl (wdz t)), (0, .ref 96), (1, vi x1)]) (st2 := [vi (fdn (up2 t 97 1 0) (wdz t) 0), .ref (C + 6), .ref 142]) 2 (fun _ _ => rfl) ?_
          refine pr_s1 (args := [vi (fdn (up2 t 97 1 0) (wdz t) 0)]) (rest := [.ref 142]) rfl rfl rfl (TK6 hC) (Nat.le_of_ble_eq_true rfl) rfl (h_63 s10 (up2 t 97 1 0) (fdn (up2 t 97 1 0) (wdz t) 0) hE10 hz7) v_nnm ?_
          rintro _ s12 ⟨rfl, hz12⟩ hE12
          show pr K K d tb_M113 104 [(5, vi (fdn (up2 t 97 1 0) (wdz t) 0)), (4, .ref (C + 6)), (2, vl (wdz t)), (0, .ref 96), (1, vi x1)] [vi (nnm (up2 t 97 1 0) (fdn (up2 t 97 1 0) (wdz t) 0)), .ref 142] s12 _
          refine pr_n (pc2 := 105) (lv2 := [(5, vi (fdn (up2 t 97 1 0) (wdz t) 0)), (4, .ref (C + 6)), (2, vl (wdz t)), (0, .ref 96), (1, vi x1)]) (st2 := [vi x1, vi (nnm (up2 t 97 1 0) (fdn (up2 t 97 1 0) (wdz t) 0)), .ref 142]) 1 (fun _ _ => rfl) ?_
          refine pr_s1 (args := [vi (nnm (up2 t 97 1 0) (fdn (up2 t 97 1 0) (wdz t) 0)), vi x1]) (rest := []) rfl rfl rfl rfl (Nat.le_of_ble_eq_true rfl) rfl (h_93 s12 (up2 t 97 1 0) (nnm (up2 t 97 1 0) (fdn (up2 t 97 1 0) (wdz t) 0)) x1 hE12 hz12 hx1) v_itw ?_
          rintro _ s13 ⟨rfl, hz13⟩ hE13
          show pr K K d tb_M113 108 [(5, vi (fdn (up2 t 97 1 0) (wdz t) 0)), (4, .ref (C + 6)), (2, vl (wdz t)), (0, .ref 96), (1, vi x1)] [vi (itw (up2 t 97 1 0) (nnm (up2 t 97 1 0) (fdn (up2 t 97 1 0) (wdz t) 0)) x1)] s13 _
          refine pr_i2l (a := itw (up2 t 97 1 0) (nnm (up2 t 97 1 0) (fdn (up2 t 97 1 0) (wdz t) 0)) x1) rfl hz13 ?_
          have h14 : i64 (itw (up2 t 97 1 0) (nnm (up2 t 97 1 0) (fdn (up2 t 97 1 0) (wdz t) 0)) x1) := i64_32 hz13
          refine pr_n (pc2 := 115) (lv2 := [(5, vi (fdn (up2 t 97 1 0) (wdz t) 0)), (4, .ref (C + 6)), (2, vl (wdz t)), (0, .ref 96), (1, vi x1)]) (st2 := [vl (itw (up2 t 97 1 0) (nnm (up2 t 97 1 0) (fdn (up2 t 97 1 0) (wdz t) 0)) x1)]) 1 (fun _ _ => rfl) ?_
          refine pr_end (fun _ _ => rfl) ?_
          exact .inl ⟨_, itw (up2 t 97 1 0) (nnm (up2 t 97 1 0) (fdn (up2 t 97 1 0) (wdz t) 0)) x1, _, rfl, ⟨rfl, h14⟩, rfl, hE13⟩
      · refine mq_f h9 ?_
        refine pr_if1f rfl rfl hz8 h9 ?_
        refine pr_n (pc2 := 67) (lv2 := [(5, vi (fdn (up2 t 97 1 0) (wdz t) 0)), (4, .ref (C + 6)), (2, vl (wdz t)), (0, .ref 96), (1, vi x1)]) (st2 := [.ref 96]) 1 (fun _ _ => rfl) ?_
        refine pr_get (v := .ref 142) rfl rfl rfl (by decide) (rv_ref (hE8.2.1 96 5 142 rfl)) fun _ => ?_
        refine pr_n (pc2 := 74) (lv2 := [(5, vi (fdn (up2 t 97 1 0) (wdz t) 0)), (4, .ref (C + 6)), (2, vl (wdz t)), (0, .ref 96), (1, vi x1)]) (st2 := [vi (fdn (up2 t 97 1 0) (wdz t) 0), .ref (C + 6), .ref 142]) 2 (fun _ _ => rfl) ?_
        refine pr_s1 (args := [vi (fdn (up2 t 97 1 0) (wdz t) 0)]) (rest := [.ref 142]) rfl rfl rfl (TK6 hC) (Nat.le_of_ble_eq_true rfl) rfl (h_63 s8 (up2 t 97 1 0) (fdn (up2 t 97 1 0) (wdz t) 0) hE8 hz7) v_nnm ?_
        rintro _ s15 ⟨rfl, hz15⟩ hE15
        show pr K K d tb_M113 77 [(5, vi (fdn (up2 t 97 1 0) (wdz t) 0)), (4, .ref (C + 6)), (2, vl (wdz t)), (0, .ref 96), (1, vi x1)] [vi (nnm (up2 t 97 1 0) (fdn (up2 t 97 1 0) (wdz t) 0)), .ref 142] s15 _
        refine pr_s1 (args := [vi (nnm (up2 t 97 1 0) (fdn (up2 t 97 1 0) (wdz t) 0))]) (rest := []) rfl rfl rfl rfl (Nat.le_of_ble_eq_true rfl) rfl (h_89 s15 (up2 t 97 1 0) (nnm (up2 t 97 1 0) (fdn (up2 t 97 1 0) (wdz t) 0)) hE15 hz15) v_vrx ?_
        rintro _ s16 ⟨rfl, hz16⟩ hE16
        show pr K K d tb_M113 80 [(5, vi (fdn (up2 t 97 1 0) (wdz t) 0)), (4, .ref (C + 6)), (2, vl (wdz t)), (0, .ref 96), (1, vi x1)] [vi (vrx (up2 t 97 1 0) (nnm (up2 t 97 1 0) (fdn (up2 t 97 1 0) (wdz t) 0)))] s16 _
        refine pr_i2l (a := vrx (up2 t 97 1 0) (nnm (up2 t 97 1 0) (fdn (up2 t 97 1 0) (wdz t) 0))) rfl hz16 ?_
        have h17 : i64 (vrx (up2 t 97 1 0) (nnm (up2 t 97 1 0) (fdn (up2 t 97 1 0) (wdz t) 0))) := i64_32 hz16
        refine pr_end (fun _ _ => rfl) ?_
        exact .inl ⟨_, vrx (up2 t 97 1 0) (nnm (up2 t 97 1 0) (fdn (up2 t 97 1 0) (wdz t) 0)), _, rfl, ⟨rfl, h17⟩, rfl, hE16⟩
    · refine mq_f h6 ?_
      refine pr_if2f rfl rfl h5 (i32_n rfl) h6 ?_
      refine pr_n (pc2 := 37) (lv2 := [(2, vl (wdz t)), (0, .ref 96), (1, vi x1)]) (st2 := [vl 1099511627776]) 1 (fun _ _ => rfl) ?_
      refine pr_end (fun _ _ => rfl) ?_
      exact .inl ⟨_, 1099511627776, _, rfl, ⟨rfl, (i64_n rfl)⟩, rfl, hE2⟩
set_option maxHeartbeats 20000000 in
set_option maxRecDepth 100000 in
theorem wm80 {K d C : Nat} (h_78 : wT78 K d C) : wT80 K (d + 1) C := by
  intro s t  hE h96 
  have hC : C = 99 ∨ C = 115 := hE.1
  refine pcr_of (M := tb_M80) rfl ?_
  show pr K K d tb_M80 0 [(0, .ref 96)] [] s _
  rw [wG_80]
  unfold wM80
  refine pr_n (pc2 := 1) (lv2 := [(0, .ref 96)]) (st2 := [.ref 96]) 1 (fun _ _ => rfl) ?_
  refine pr_gE (k2 := 96) (v := vi (t 96 3)) hE rfl rfl rfl (by decide) rfl rfl rfl fun h1 => ?_
  have h1 : 0 ≤ t 96 3 ∧ t 96 3 ≤ 1 := h1
  by_cases h2 : t 96 3 ≠ 0
  · refine mq_t h2 ?_
    refine pr_if1t rfl rfl (i32_z h1) h2 ?_
    refine pr_n (pc2 := 11) (lv2 := [(0, .ref 96)]) (st2 := [.ref 96]) 1 (fun _ _ => rfl) ?_
    refine pr_get (v := .ref 142) rfl rfl rfl (by decide) (rv_ref (hE.2.1 96 5 142 rfl)) fun _ => ?_
    refine pr_n (pc2 := 15) (lv2 := [(0, .ref 96)]) (st2 := [.ref 96, .ref 142]) 1 (fun _ _ => rfl) ?_
    refine pr_get (v := .ref C) rfl rfl rfl (by decide) (rv_ref (show s.1 96 1 = ((C : Nat) : Int) from (EE_get hE (k := 96) (q := 96) rfl rfl).trans h96)) fun _ => ?_
    refine pr_m1 (args := [.ref C]) (rest := []) rfl rfl rfl rfl (Nat.le_of_ble_eq_true rfl) rfl (h_78 s t  (EE_142 hE) ) ?_
    rintro _ _ t3 s3 ⟨rfl, rfl⟩ hE3
    show pr K K d tb_M80 21 [(0, .ref 96)] [] s3 _
    refine pr_n (pc2 := 22) (lv2 := [(0, .ref 96)]) (st2 := [vi 0]) 1 (fun _ _ => rfl) ?_
    refine pr_end (fun _ _ => rfl) ?_
    exact .inl ⟨_, 0, _, rfl, ⟨rfl, (i32_n rfl)⟩, rfl, hE3⟩
  · refine mq_f h2 ?_
    refine pr_if1f rfl rfl (i32_z h1) h2 ?_
    refine pr_n (pc2 := 9) (lv2 := [(0, .ref 96)]) (st2 := [vi ((-2))]) 1 (fun _ _ => rfl) ?_
    refine pr_end (fun _ _ => rfl) ?_
    exact .inl ⟨_, (-2), _, rfl, ⟨rfl, (i32_n rfl)⟩, rfl, hE⟩
set_option maxHeartbeats 20000000 in
set_option maxRecDepth 100000 in
theorem wm81 {K d C : Nat} (h_82 : wT82 K d C) : wT81 K (d + 1) C := by
  intro s t x1 hE h96 hx1
  have hC : C = 99 ∨ C = 115 := hE.1
  refine pcr_of (M := tb_M81) rfl ?_
  show pr K K d tb_M81 0 [(0, .ref 96), (1, vi x1)] [] s _
  rw [wG_81]
  unfold wM81
  refine pr_n (pc2 := 1) (lv2 := [(0, .ref 96), (1, vi x1)]) (st2 := [.ref 96]) 1 (fun _ _ => rfl) ?_
  refine pr_gE (k2 := 96) (v := vi (t 96 3)) hE rfl rfl rfl (by decide) rfl rfl rfl fun h1 => ?_
  have h1 : 0 ≤ t 96 3 ∧ t 96 3 ≤ 1 := h1
  by_cases h2 : t 96 3 ≠ 0
  · refine mq_t h2 ?_
    refine pr_if1t rfl rfl (i32_z h1) h2 ?_
    refine pr_n (pc2 := 12) (lv2 := [(0, .ref 96), (1, vi x1)]) (st2 := [vi 1, vi x1]) 2 (fun _ _ => rfl) ?_
    by_cases h3 : x1 < 1
    · refine mq_t h3 ?_
      refine pr_if2t rfl rfl hx1 (i32_n rfl) h3 ?_
      refine pr_n (pc2 := 34) (lv2 := [(0, .ref 96), (1, vi x1)]) (st2 := [vi ((-1))]) 1 (fun _ _ => rfl) ?_
      refine pr_end (fun _ _ => rfl) ?_
      exact .inl ⟨_, (-1), _, rfl, ⟨rfl, (i32_n rfl)⟩, rfl, hE⟩
    · refine mq_f h3 ?_
      refine pr_if2f rfl rfl hx1 (i32_n rfl) h3 ?_
      refine pr_n (pc2 := 19) (lv2 := [(0, .ref 96), (1, vi x1)]) (st2 := [vi 20000, vi x1]) 2 (fun _ _ => rfl) ?_
      by_cases h4 : 20000 < x1
      · refine mq_t h4 ?_
        refine pr_if2t rfl rfl hx1 (i32_n rfl) h4 ?_
        refine pr_n (pc2 := 34) (lv2 := [(0, .ref 96), (1, vi x1)]) (st2 := [vi ((-1))]) 1 (fun _ _ => rfl) ?_
        refine pr_end (fun _ _ => rfl) ?_
        exact .inl ⟨_, (-1), _, rfl, ⟨rfl, (i32_n rfl)⟩, rfl, hE⟩
      · refine mq_f h4 ?_
        refine pr_if2f rfl rfl hx1 (i32_n rfl) h4 ?_
        refine pr_n (pc2 := 23) (lv2 := [(0, .ref 96), (1, vi x1)]) (st2 := [.ref 96]) 1 (fun _ _ => rfl) ?_
        refine pr_get (v := .ref 142) rfl rfl rfl (by decide) (rv_ref (hE.2.1 96 5 142 rfl)) fun _ => ?_
        refine pr_gE (k2 := 142) (v := vi (t 142 14)) hE rfl rfl rfl (by decide) rfl rfl rfl fun h5 => ?_
        have h5 : i32 (t 142 14) := h5
        refine pr_n (pc2 := 30) (lv2 := [(0, .ref 96), (1, vi x1)]) (st2 := [vi 3, vi (t 142 14)]) 1 (fun _ _ => rfl) ?_
        by_cases h6 : t 142 14 ≠ 3
        · refine mq_t h6 ?_
          refine pr_if2t rfl rfl h5 (i32_n rfl) h6 ?_
          refine pr_n (pc2 := 36) (lv2 := [(0, .ref 96), (1, vi x1)]) (st2 := [.ref 96]) 1 (fun _ _ => rfl) ?_
          refine pr_get (v := .ref 142) rfl rfl rfl (by decide) (rv_ref (hE.2.1 96 5 142 rfl)) fun _ => ?_
          refine pr_n (pc2 := 40) (lv2 := [(0, .ref 96), (1, vi x1)]) (st2 := [vi x1, .ref 142]) 1 (fun _ _ => rfl) ?_
          refine pr_m1 (args := [vi x1]) (rest := []) rfl rfl rfl rfl (Nat.le_of_ble_eq_true rfl) rfl (h_82 s t x1 hE hx1) ?_
          rintro _ _ t7 s7 ⟨rfl, rfl⟩ hE7
          show pr K K d tb_M81 43 [(0, .ref 96), (1, vi x1)] [] s7 _
          refine pr_n (pc2 := 44) (lv2 := [(0, .ref 96), (1, vi x1)]) (st2 := [.ref 96]) 1 (fun _ _ => rfl) ?_
          refine pr_get (v := .ref 142) rfl rfl rfl (by decide) (rv_ref (hE7.2.1 96 5 142 rfl)) fun _ => ?_
          refine pr_gE (k2 := 142) (v := vi (t7 142 14)) hE7 rfl rfl rfl (by decide) rfl rfl rfl fun h8 => ?_
          have h8 : i32 (t7 142 14) := h8
          refine pr_reti rfl rfl ?_
          exact .inl ⟨_, t7 142 14, _, rfl, ⟨rfl, h8⟩, rfl, hE7⟩
        · refine mq_f h6 ?_
          refine pr_if2f rfl rfl h5 (i32_n rfl) h6 ?_
          refine pr_n (pc2 := 34) (lv2 := [(0, .ref 96), (1, vi x1)]) (st2 := [vi ((-1))]) 1 (fun _ _ => rfl) ?_
          refine pr_end (fun _ _ => rfl) ?_
          exact .inl ⟨_, (-1), _, rfl, ⟨rfl, (i32_n rfl)⟩, rfl, hE⟩
  · refine mq_f h2 ?_
    refine pr_if1f rfl rfl (i32_z h1) h2 ?_
    refine pr_n (pc2 := 9) (lv2 := [(0, .ref 96), (1, vi x1)]) (st2 := [vi ((-2))]) 1 (fun _ _ => rfl) ?_
    refine pr_end (fun _ _ => rfl) ?_
    exact .inl ⟨_, (-2), _, rfl, ⟨rfl, (i32_n rfl)⟩, rfl, hE⟩
set_option maxHeartbeats 20000000 in
set_option maxRecDepth 100000 in
theorem wm111 {K d C : Nat} (h_105 : wT105 K d C) : wT111 K (d + 1) C := by
  intro s t x1 x2 hE h96 hx1 hx2
  have hC : C = 99 ∨ C = 115 := hE.1
  refine pcr_of (M := tb_M111) rfl ?_
  show pr K K d tb_M111 0 [(0, .ref 96), (1, vi x1), (2, vi x2)] [] s _
  rw [wG_111]
  unfold wM111
  refine pr_n (pc2 := 1) (lv2 := [(0, .ref 96), (1, vi x1), (2, vi x2)]) (st2 := [.ref 96]) 1 (fun _ _ => rfl) ?_
  refine pr_gE (k2 := 96) (v := vi (t 96 3)) hE rfl rfl rfl (by decide) rfl rfl rfl fun h1 => ?_
  have h1 : 0 ≤ t 96 3 ∧ t 96 3 ≤ 1 := h1
  by_cases h2 : t 96 3 = 0
  · refine mq_t h2 ?_
    refine pr_if1t rfl rfl (i32_z h1) h2 ?_
    refine pr_n (pc2 := 37) (lv2 := [(0, .ref 96), (1, vi x1), (2, vi x2)]) (st2 := [vi ((-2))]) 1 (fun _ _ => rfl) ?_
    refine pr_end (fun _ _ => rfl) ?_
    exact .inl ⟨_, (-2), _, rfl, ⟨rfl, (i32_n rfl)⟩, rfl, hE⟩
  · refine mq_f h2 ?_
    refine pr_if1f rfl rfl (i32_z h1) h2 ?_
    refine pr_n (pc2 := 8) (lv2 := [(0, .ref 96), (1, vi x1), (2, vi x2)]) (st2 := [.ref 96]) 1 (fun _ _ => rfl) ?_
    refine pr_get (v := .ref 142) rfl rfl rfl (by decide) (rv_ref (hE.2.1 96 5 142 rfl)) fun _ => ?_
    refine pr_gE (k2 := 142) (v := vi (t 142 14)) hE rfl rfl rfl (by decide) rfl rfl rfl fun h3 => ?_
    have h3 : i32 (t 142 14) := h3
    refine pr_n (pc2 := 15) (lv2 := [(0, .ref 96), (1, vi x1), (2, vi x2)]) (st2 := [vi 3, vi (t 142 14)]) 1 (fun _ _ => rfl) ?_
    by_cases h4 : t 142 14 = 3
    · refine mq_t h4 ?_
      refine pr_if2t rfl rfl h3 (i32_n rfl) h4 ?_
      refine pr_n (pc2 := 37) (lv2 := [(0, .ref 96), (1, vi x1), (2, vi x2)]) (st2 := [vi ((-2))]) 1 (fun _ _ => rfl) ?_
      refine pr_end (fun _ _ => rfl) ?_
      exact .inl ⟨_, (-2), _, rfl, ⟨rfl, (i32_n rfl)⟩, rfl, hE⟩
    · refine mq_f h4 ?_
      refine pr_if2f rfl rfl h3 (i32_n rfl) h4 ?_
      refine pr_n (pc2 := 19) (lv2 := [(0, .ref 96), (1, vi x1), (2, vi x2)]) (st2 := [vi x1]) 1 (fun _ _ => rfl) ?_
      by_cases h5 : x1 < 0
      · refine mq_t h5 ?_
        refine pr_if1t rfl rfl hx1 h5 ?_
        refine pr_n (pc2 := 37) (lv2 := [(0, .ref 96), (1, vi x1), (2, vi x2)]) (st2 := [vi ((-2))]) 1 (fun _ _ => rfl) ?_
        refine pr_end (fun _ _ => rfl) ?_
        exact .inl ⟨_, (-2), _, rfl, ⟨rfl, (i32_n rfl)⟩, rfl, hE⟩
      · refine mq_f h5 ?_
        refine pr_if1f rfl rfl hx1 h5 ?_
        refine pr_n (pc2 := 24) (lv2 := [(0, .ref 96), (1, vi x1), (2, vi x2)]) (st2 := [.ref 96, vi x1]) 2 (fun _ _ => rfl) ?_
        refine pr_get (v := .ref C) rfl rfl rfl (by decide) (rv_ref (show s.1 96 1 = ((C : Nat) : Int) from (EE_get hE (k := 96) (q := 96) rfl rfl).trans h96)) fun _ => ?_
        refine pr_get (v := .ref (C + 10)) rfl rfl (TK0 hC) (by decide) (rv_ref (hE.2.1 C 6 (C + 10) (rcK hC (by omega)))) fun _ => ?_
        refine pr_n (pc2 := 31) (lv2 := [(0, .ref 96), (1, vi x1), (2, vi x2)]) (st2 := [vi 3, .ref (C + 10), vi x1]) 1 (fun _ _ => rfl) ?_
        refine pr_aE (k2 := 109) (a := 3) (v := vi (t 109 3)) hE rfl (TK10 hC) rfl (i32_n rfl) (by decide) rfl rfl rfl fun h7 h8 h6 => ?_
        have h6 : i32 (t 109 3) := h6
        by_cases h9 : x1 < t 109 3
        · refine mq_t h9 ?_
          refine pr_if2t rfl rfl hx1 h6 h9 ?_
          refine pr_n (pc2 := 39) (lv2 := [(0, .ref 96), (1, vi x1), (2, vi x2)]) (st2 := [.ref 96]) 1 (fun _ _ => rfl) ?_
          refine pr_get (v := .ref 142) rfl rfl rfl (by decide) (rv_ref (hE.2.1 96 5 142 rfl)) fun _ => ?_
          refine pr_get (v := .ref 150) rfl rfl rfl (by decide) (rv_ref (hE.2.1 142 9 150 rfl)) fun _ => ?_
          refine pr_n (pc2 := 46) (lv2 := [(0, .ref 96), (1, vi x1), (2, vi x2)]) (st2 := [vi x1, .ref 150]) 1 (fun _ _ => rfl) ?_
          refine pr_row (a := x1) (v := 154 + 2 * x1.toNat) rfl rfl rfl rfl hx1 (by decide) (fun h1 h2 => hE.2.1 _ _ _ (rcw_i (by omega))) fun h10 h11 => ?_
          show pr K K d tb_M111 47 [(0, .ref 96), (1, vi x1), (2, vi x2)] [.ref (154 + 2 * x1.toNat)] s _
          refine pr_n (pc2 := 50) (lv2 := [(3, .ref (154 + 2 * x1.toNat)), (0, .ref 96), (1, vi x1), (2, vi x2)]) (st2 := [vi x2, .ref (154 + 2 * x1.toNat)]) 3 (fun _ _ => rfl) ?_
          refine pr_i2s (a := x2) rfl ?_
          show pr K K d tb_M111 51 [(3, .ref (154 + 2 * x1.toNat)), (0, .ref 96), (1, vi x1), (2, vi x2)] [vi (i2s x2), .ref (154 + 2 * x1.toNat)] s _
          refine pr_s1 (args := [vi (i2s x2)]) (rest := []) rfl rfl rfl (TGw_q (isQwi (by omega))) (Nat.le_of_ble_eq_true rfl) rfl (h_105 s t ((154 + 2 * x1.toNat : Nat) : Int) (i2s x2) hE (isQwi (by omega)) i2s_i32) v_qad ?_
          rintro _ s12 ⟨rfl, hz12⟩ hE12
          show pr K K d tb_M111 54 [(3, .ref (154 + 2 * x1.toNat)), (0, .ref 96), (1, vi x1), (2, vi x2)] [vi (qaz t (((154 + 2 * x1.toNat : Nat) : Int)))] s12 _
          by_cases h13 : qaz t (((154 + 2 * x1.toNat : Nat) : Int)) = 0
          · refine mq_t h13 ?_
            refine pr_if1t rfl rfl (i32_z hz12) h13 ?_
            refine pr_n (pc2 := 66) (lv2 := [(3, .ref (154 + 2 * x1.toNat)), (0, .ref 96), (1, vi x1), (2, vi x2)]) (st2 := [vi ((-3))]) 1 (fun _ _ => rfl) ?_
            refine pr_end (fun _ _ => rfl) ?_
            exact .inl ⟨_, (-3), _, rfl, ⟨rfl, (i32_n rfl)⟩, rfl, hE12⟩
          · refine mq_f h13 ?_
            refine pr_if1f rfl rfl (i32_z hz12) h13 ?_
            refine pr_n (pc2 := 58) (lv2 := [(3, .ref (154 + 2 * x1.toNat)), (0, .ref 96), (1, vi x1), (2, vi x2)]) (st2 := [.ref (154 + 2 * x1.toNat)]) 1 (fun _ _ => rfl) ?_
            refine pr_gE (k2 := (154 + 2 * x1.toNat)) (v := vi ((qad t (((154 + 2 * x1.toNat : Nat) : Int)) (i2s x2)) (154 + 2 * x1.toNat) 2)) hE12 rfl rfl (TGw_q (isQwi (by omega))) (by decide) (pv_q (isQwi (by omega))) (rw_q (isQwi (by omega)) (by decide)) rfl fun h14 => ?_
            have h14 : i32 ((qad t (((154 + 2 * x1.toNat : Nat) : Int)) (i2s x2)) (154 + 2 * x1.toNat) 2) := h14
            refine pr_n (pc2 := 66) (lv2 := [(3, .ref (154 + 2 * x1.toNat)), (0, .ref 96), (1, vi x1), (2, vi x2)]) (st2 := [vi ((qad t (((154 + 2 * x1.toNat : Nat) : Int)) (i2s x2)) (154 + 2 * x1.toNat) 2)]) 1 (fun _ _ => rfl) ?_
            refine pr_reti rfl rfl ?_
            exact .inl ⟨_, (qad t (((154 + 2 * x1.toNat : Nat) : Int)) (i2s x2)) (154 + 2 * x1.toNat) 2, _, rfl, ⟨rfl, h14⟩, rfl, hE12⟩
        · refine mq_f h9 ?_
          refine pr_if2f rfl rfl hx1 h6 h9 ?_
          refine pr_n (pc2 := 37) (lv2 := [(0, .ref 96), (1, vi x1), (2, vi x2)]) (st2 := [vi ((-2))]) 1 (fun _ _ => rfl) ?_
          refine pr_end (fun _ _ => rfl) ?_
          exact .inl ⟨_, (-2), _, rfl, ⟨rfl, (i32_n rfl)⟩, rfl, hE⟩
set_option maxHeartbeats 20000000 in
set_option maxRecDepth 100000 in
theorem wm112 {K d C : Nat} (h_108 : wT108 K d C) : wT112 K (d + 1) C := by
  intro s t x1 hE h96 hx1
  have hC : C = 99 ∨ C = 115 := hE.1
  refine pcr_of (M := tb_M112) rfl ?_
  show pr K K d tb_M112 0 [(0, .ref 96), (1, vi x1)] [] s _
  rw [wG_112]
  unfold wM112
  refine pr_n (pc2 := 1) (lv2 := [(0, .ref 96), (1, vi x1)]) (st2 := [.ref 96]) 1 (fun _ _ => rfl) ?_
  refine pr_gE (k2 := 96) (v := vi (t 96 3)) hE rfl rfl rfl (by decide) rfl rfl rfl fun h1 => ?_
  have h1 : 0 ≤ t 96 3 ∧ t 96 3 ≤ 1 := h1
  by_cases h2 : t 96 3 = 0
  · refine mq_t h2 ?_
    refine pr_if1t rfl rfl (i32_z h1) h2 ?_
    refine pr_n (pc2 := 38) (lv2 := [(0, .ref 96), (1, vi x1)]) (st2 := [vl 1099511627776]) 1 (fun _ _ => rfl) ?_
    refine pr_end (fun _ _ => rfl) ?_
    exact .inl ⟨_, 1099511627776, _, rfl, ⟨rfl, (i64_n rfl)⟩, rfl, hE⟩
  · refine mq_f h2 ?_
    refine pr_if1f rfl rfl (i32_z h1) h2 ?_
    refine pr_n (pc2 := 8) (lv2 := [(0, .ref 96), (1, vi x1)]) (st2 := [.ref 96]) 1 (fun _ _ => rfl) ?_
    refine pr_get (v := .ref 142) rfl rfl rfl (by decide) (rv_ref (hE.2.1 96 5 142 rfl)) fun _ => ?_
    refine pr_gE (k2 := 142) (v := vi (t 142 14)) hE rfl rfl rfl (by decide) rfl rfl rfl fun h3 => ?_
    have h3 : i32 (t 142 14) := h3
    refine pr_n (pc2 := 15) (lv2 := [(0, .ref 96), (1, vi x1)]) (st2 := [vi 3, vi (t 142 14)]) 1 (fun _ _ => rfl) ?_
    by_cases h4 : t 142 14 = 3
    · refine mq_t h4 ?_
      refine pr_if2t rfl rfl h3 (i32_n rfl) h4 ?_
      refine pr_n (pc2 := 38) (lv2 := [(0, .ref 96), (1, vi x1)]) (st2 := [vl 1099511627776]) 1 (fun _ _ => rfl) ?_
      refine pr_end (fun _ _ => rfl) ?_
      exact .inl ⟨_, 1099511627776, _, rfl, ⟨rfl, (i64_n rfl)⟩, rfl, hE⟩
    · refine mq_f h4 ?_
      refine pr_if2f rfl rfl h3 (i32_n rfl) h4 ?_
      refine pr_n (pc2 := 19) (lv2 := [(0, .ref 96), (1, vi x1)]) (st2 := [vi x1]) 1 (fun _ _ => rfl) ?_
      by_cases h5 : x1 < 0
      · refine mq_t h5 ?_
        refine pr_if1t rfl rfl hx1 h5 ?_
        refine pr_n (pc2 := 38) (lv2 := [(0, .ref 96), (1, vi x1)]) (st2 := [vl 1099511627776]) 1 (fun _ _ => rfl) ?_
        refine pr_end (fun _ _ => rfl) ?_
        exact .inl ⟨_, 1099511627776, _, rfl, ⟨rfl, (i64_n rfl)⟩, rfl, hE⟩
      · refine mq_f h5 ?_
        refine pr_if1f rfl rfl hx1 h5 ?_
        refine pr_n (pc2 := 24) (lv2 := [(0, .ref 96), (1, vi x1)]) (st2 := [.ref 96, vi x1]) 2 (fun _ _ => rfl) ?_
        refine pr_get (v := .ref C) rfl rfl rfl (by decide) (rv_ref (show s.1 96 1 = ((C : Nat) : Int) from (EE_get hE (k := 96) (q := 96) rfl rfl).trans h96)) fun _ => ?_
        refine pr_get (v := .ref (C + 10)) rfl rfl (TK0 hC) (by decide) (rv_ref (hE.2.1 C 6 (C + 10) (rcK hC (by omega)))) fun _ => ?_
        refine pr_n (pc2 := 31) (lv2 := [(0, .ref 96), (1, vi x1)]) (st2 := [vi 4, .ref (C + 10), vi x1]) 1 (fun _ _ => rfl) ?_
        refine pr_aE (k2 := 109) (a := 4) (v := vi (t 109 4)) hE rfl (TK10 hC) rfl (i32_n rfl) (by decide) rfl rfl rfl fun h7 h8 h6 => ?_
        have h6 : i32 (t 109 4) := h6
        by_cases h9 : x1 < t 109 4
        · refine mq_t h9 ?_
          refine pr_if2t rfl rfl hx1 h6 h9 ?_
          refine pr_n (pc2 := 40) (lv2 := [(0, .ref 96), (1, vi x1)]) (st2 := [.ref 96]) 1 (fun _ _ => rfl) ?_
          refine pr_get (v := .ref 142) rfl rfl rfl (by decide) (rv_ref (hE.2.1 96 5 142 rfl)) fun _ => ?_
          refine pr_get (v := .ref 151) rfl rfl rfl (by decide) (rv_ref (hE.2.1 142 10 151 rfl)) fun _ => ?_
          refine pr_n (pc2 := 47) (lv2 := [(0, .ref 96), (1, vi x1)]) (st2 := [vi x1, .ref 151]) 1 (fun _ _ => rfl) ?_
          refine pr_row (a := x1) (v := 162 + 2 * x1.toNat) rfl rfl rfl rfl hx1 (by decide) (fun h1 h2 => hE.2.1 _ _ _ (rcw_o (by omega))) fun h10 h11 => ?_
          show pr K K d tb_M112 48 [(0, .ref 96), (1, vi x1)] [.ref (162 + 2 * x1.toNat)] s _
          refine pr_n (pc2 := 50) (lv2 := [(2, .ref (162 + 2 * x1.toNat)), (0, .ref 96), (1, vi x1)]) (st2 := [.ref (162 + 2 * x1.toNat)]) 2 (fun _ _ => rfl) ?_
          refine pr_gE (k2 := (162 + 2 * x1.toNat)) (v := vi (t (162 + 2 * x1.toNat) 2)) hE rfl rfl (TGw_q (isQwo (by omega))) (by decide) (pv_q (isQwo (by omega))) (rw_q (isQwo (by omega)) (by decide)) rfl fun h12 => ?_
          have h12 : i32 (t (162 + 2 * x1.toNat) 2) := h12
          by_cases h13 : t (162 + 2 * x1.toNat) 2 ≤ 0
          · refine mq_t h13 ?_
            refine pr_if1t rfl rfl h12 h13 ?_
            refine pr_n (pc2 := 67) (lv2 := [(2, .ref (162 + 2 * x1.toNat)), (0, .ref 96), (1, vi x1)]) (st2 := [vl 1099511627776]) 1 (fun _ _ => rfl) ?_
            refine pr_end (fun _ _ => rfl) ?_
            exact .inl ⟨_, 1099511627776, _, rfl, ⟨rfl, (i64_n rfl)⟩, rfl, hE⟩
          · refine mq_f h13 ?_
            refine pr_if1f rfl rfl h12 h13 ?_
            refine pr_n (pc2 := 57) (lv2 := [(2, .ref (162 + 2 * x1.toNat)), (0, .ref 96), (1, vi x1)]) (st2 := [.ref (162 + 2 * x1.toNat)]) 1 (fun _ _ => rfl) ?_
            refine pr_s1 (args := []) (rest := []) rfl rfl rfl (TGw_q (isQwo (by omega))) (Nat.le_of_ble_eq_true rfl) rfl (h_108 s t ((162 + 2 * x1.toNat : Nat) : Int) hE (isQwo (by omega))) v_qrm ?_
            rintro _ s14 ⟨rfl, hz14⟩ hE14
            show pr K K d tb_M112 60 [(2, .ref (162 + 2 * x1.toNat)), (0, .ref 96), (1, vi x1)] [vi (qrz t (((162 + 2 * x1.toNat : Nat) : Int)))] s14 _
            refine pr_i2l (a := qrz t (((162 + 2 * x1.toNat : Nat) : Int))) rfl hz14 ?_
            have h15 : i64 (qrz t (((162 + 2 * x1.toNat : Nat) : Int))) := i64_32 hz14
            refine pr_n (pc2 := 67) (lv2 := [(2, .ref (162 + 2 * x1.toNat)), (0, .ref 96), (1, vi x1)]) (st2 := [vl (qrz t (((162 + 2 * x1.toNat : Nat) : Int)))]) 1 (fun _ _ => rfl) ?_
            refine pr_end (fun _ _ => rfl) ?_
            exact .inl ⟨_, qrz t (((162 + 2 * x1.toNat : Nat) : Int)), _, rfl, ⟨rfl, h15⟩, rfl, hE14⟩
        · refine mq_f h9 ?_
          refine pr_if2f rfl rfl hx1 h6 h9 ?_
          refine pr_n (pc2 := 38) (lv2 := [(0, .ref 96), (1, vi x1)]) (st2 := [vl 1099511627776]) 1 (fun _ _ => rfl) ?_
          refine pr_end (fun _ _ => rfl) ?_
          exact .inl ⟨_, 1099511627776, _, rfl, ⟨rfl, (i64_n rfl)⟩, rfl, hE⟩
set_option maxHeartbeats 20000000 in
set_option maxRecDepth 100000 in
theorem wm115 {K d C : Nat} : wT115 K (d + 1) C := by
  intro s t x1 hE h96 hx1
  have hC : C = 99 ∨ C = 115 := hE.1
  refine pcr_of (M := tb_M115) rfl ?_
  show pr K K d tb_M115 0 [(0, .ref 96), (1, vi x1)] [] s _
  rw [wG_115]
  unfold wM115
  refine pr_n (pc2 := 1) (lv2 := [(0, .ref 96), (1, vi x1)]) (st2 := [vi x1]) 1 (fun _ _ => rfl) ?_
  by_cases h1 : x1 < 0
  · refine mq_t h1 ?_
    refine pr_if1t rfl rfl hx1 h1 ?_
    refine pr_n (pc2 := 11) (lv2 := [(0, .ref 96), (1, vi x1)]) (st2 := [vi ((-1))]) 1 (fun _ _ => rfl) ?_
    refine pr_end (fun _ _ => rfl) ?_
    exact .inl ⟨_, (-1), _, rfl, ⟨rfl, (i32_n rfl)⟩, rfl, hE⟩
  · refine mq_f h1 ?_
    refine pr_if1f rfl rfl hx1 h1 ?_
    refine pr_n (pc2 := 7) (lv2 := [(0, .ref 96), (1, vi x1)]) (st2 := [vi 12, vi x1]) 2 (fun _ _ => rfl) ?_
    by_cases h2 : x1 ≤ 12
    · refine mq_t h2 ?_
      refine pr_if2t rfl rfl hx1 (i32_n rfl) h2 ?_
      refine pr_n (pc2 := 13) (lv2 := [(0, .ref 96), (1, vi x1)]) (st2 := [.ref 96]) 1 (fun _ _ => rfl) ?_
      refine pr_gE (k2 := 96) (v := vi (t 96 3)) hE rfl rfl rfl (by decide) rfl rfl rfl fun h3 => ?_
      have h3 : 0 ≤ t 96 3 ∧ t 96 3 ≤ 1 := h3
      by_cases h4 : t 96 3 ≠ 0
      · refine mq_t h4 ?_
        refine pr_if1t rfl rfl (i32_z h3) h4 ?_
        refine pr_n (pc2 := 22) (lv2 := [(0, .ref 96), (1, vi x1)]) (st2 := [vi x1]) 1 (fun _ _ => rfl) ?_
        by_cases h5 : x1 ≠ 0
        · refine mq_t h5 ?_
          refine pr_if1t rfl rfl hx1 h5 ?_
          refine pr_n (pc2 := 36) (lv2 := [(0, .ref 96), (1, vi x1)]) (st2 := [vi 6, vi x1]) 2 (fun _ _ => rfl) ?_
          by_cases h6 : 6 < x1
          · refine mq_t h6 ?_
            refine pr_if2t rfl rfl hx1 (i32_n rfl) h6 ?_
            refine pr_n (pc2 := 54) (lv2 := [(0, .ref 96), (1, vi x1)]) (st2 := [vi 7, vi x1]) 2 (fun _ _ => rfl) ?_
            by_cases h7 : x1 ≠ 7
            · refine mq_t h7 ?_
              refine pr_if2t rfl rfl hx1 (i32_n rfl) h7 ?_
              refine pr_n (pc2 := 68) (lv2 := [(0, .ref 96), (1, vi x1)]) (st2 := [vi 8, vi x1]) 2 (fun _ _ => rfl) ?_
              by_cases h8 : x1 ≠ 8
              · refine mq_t h8 ?_
                refine pr_if2t rfl rfl hx1 (i32_n rfl) h8 ?_
                refine pr_n (pc2 := 80) (lv2 := [(0, .ref 96), (1, vi x1)]) (st2 := [.ref 96]) 1 (fun _ _ => rfl) ?_
                refine pr_get (v := .ref 142) rfl rfl rfl (by decide) (rv_ref (hE.2.1 96 5 142 rfl)) fun _ => ?_
                refine pr_gE (k2 := 142) (v := vi (t 142 14)) hE rfl rfl rfl (by decide) rfl rfl rfl fun h9 => ?_
                have h9 : i32 (t 142 14) := h9
                refine pr_n (pc2 := 87) (lv2 := [(0, .ref 96), (1, vi x1)]) (st2 := [vi 3, vi (t 142 14)]) 1 (fun _ _ => rfl) ?_
                by_cases h10 : t 142 14 ≠ 3
                · refine mq_t h10 ?_
                  refine pr_if2t rfl rfl h9 (i32_n rfl) h10 ?_
                  refine pr_n (pc2 := 95) (lv2 := [(0, .ref 96), (1, vi x1)]) (st2 := [.ref 96]) 1 (fun _ _ => rfl) ?_
                  refine pr_get (v := .ref 142) rfl rfl rfl (by decide) (rv_ref (hE.2.1 96 5 142 rfl)) fun _ => ?_
                  refine pr_get (v := .ref 151) rfl rfl rfl (by decide) (rv_ref (hE.2.1 142 10 151 rfl)) fun _ => ?_
                  refine pr_n (pc2 := 104) (lv2 := [(0, .ref 96), (1, vi x1)]) (st2 := [vi 9, vi x1, .ref 151]) 2 (fun _ _ => rfl) ?_
                  refine pr_i2 (a := x1) (b := 9) rfl rfl ?_
                  show pr K K d tb_M115 105 [(0, .ref 96), (1, vi x1)] [vi (imi x1 9), .ref 151] s _
                  have h11 : i32 (imi x1 9) := i32_in _
                  refine pr_row (a := imi x1 9) (v := 162 + 2 * (imi x1 9).toNat) rfl rfl rfl rfl h11 (by decide) (fun h1 h2 => hE.2.1 _ _ _ (rcw_o (by omega))) fun h12 h13 => ?_
                  show pr K K d tb_M115 106 [(0, .ref 96), (1, vi x1)] [.ref (162 + 2 * (imi x1 9).toNat)] s _
                  refine pr_gE (k2 := (162 + 2 * (imi x1 9).toNat)) (v := vi (t (162 + 2 * (imi x1 9).toNat) 2)) hE rfl rfl (TGw_q (isQwo (by omega))) (by decide) (pv_q (isQwo (by omega))) (rw_q (isQwo (by omega)) (by decide)) rfl fun h14 => ?_
                  have h14 : i32 (t (162 + 2 * (imi x1 9).toNat) 2) := h14
                  refine pr_reti rfl rfl ?_
                  exact .inl ⟨_, t (162 + 2 * (imi x1 9).toNat) 2, _, rfl, ⟨rfl, h14⟩, rfl, hE⟩
                · refine mq_f h10 ?_
                  refine pr_if2f rfl rfl h9 (i32_n rfl) h10 ?_
                  refine pr_n (pc2 := 109) (lv2 := [(0, .ref 96), (1, vi x1)]) (st2 := [vi 0]) 2 (fun _ _ => rfl) ?_
                  refine pr_end (fun _ _ => rfl) ?_
                  exact .inl ⟨_, 0, _, rfl, ⟨rfl, (i32_n rfl)⟩, rfl, hE⟩
              · refine mq_f h8 ?_
                refine pr_if2f rfl rfl hx1 (i32_n rfl) h8 ?_
                refine pr_n (pc2 := 72) (lv2 := [(0, .ref 96), (1, vi x1)]) (st2 := [.ref 96]) 1 (fun _ _ => rfl) ?_
                refine pr_get (v := .ref 142) rfl rfl rfl (by decide) (rv_ref (hE.2.1 96 5 142 rfl)) fun _ => ?_
                refine pr_gE (k2 := 142) (v := vi (t 142 14)) hE rfl rfl rfl (by decide) rfl rfl rfl fun h15 => ?_
                have h15 : i32 (t 142 14) := h15
                refine pr_reti rfl rfl ?_
                exact .inl ⟨_, t 142 14, _, rfl, ⟨rfl, h15⟩, rfl, hE⟩
            · refine mq_f h7 ?_
              refine pr_if2f rfl rfl hx1 (i32_n rfl) h7 ?_
              refine pr_n (pc2 := 58) (lv2 := [(0, .ref 96), (1, vi x1)]) (st2 := [.ref 96]) 1 (fun _ _ => rfl) ?_
              refine pr_get (v := .ref 142) rfl rfl rfl (by decide) (rv_ref (hE.2.1 96 5 142 rfl)) fun _ => ?_
              refine pr_gE (k2 := 142) (v := vi (t 142 15)) hE rfl rfl rfl (by decide) rfl rfl rfl fun h16 => ?_
              have h16 : i32 (t 142 15) := h16
              refine pr_reti rfl rfl ?_
              exact .inl ⟨_, t 142 15, _, rfl, ⟨rfl, h16⟩, rfl, hE⟩
          · refine mq_f h6 ?_
            refine pr_if2f rfl rfl hx1 (i32_n rfl) h6 ?_
            refine pr_n (pc2 := 40) (lv2 := [(0, .ref 96), (1, vi x1)]) (st2 := [.ref 96]) 1 (fun _ _ => rfl) ?_
            refine pr_get (v := .ref C) rfl rfl rfl (by decide) (rv_ref (show s.1 96 1 = ((C : Nat) : Int) from (EE_get hE (k := 96) (q := 96) rfl rfl).trans h96)) fun _ => ?_
            refine pr_get (v := .ref (C + 10)) rfl rfl (TK0 hC) (by decide) (rv_ref (hE.2.1 C 6 (C + 10) (rcK hC (by omega)))) fun _ => ?_
            refine pr_n (pc2 := 48) (lv2 := [(0, .ref 96), (1, vi x1)]) (st2 := [vi 1, vi x1, .ref (C + 10)]) 2 (fun _ _ => rfl) ?_
            refine pr_i2 (a := x1) (b := 1) rfl rfl ?_
            show pr K K d tb_M115 49 [(0, .ref 96), (1, vi x1)] [vi (imi x1 1), .ref (C + 10)] s _
            have h17 : i32 (imi x1 1) := i32_in _
            refine pr_aE (k2 := 109) (a := imi x1 1) (v := vi (t 109 ((imi x1 1).toNat))) hE rfl (TK10 hC) rfl h17 (by decide) rfl rfl rfl fun h19 h20 h18 => ?_
            have h18 : i32 (t 109 ((imi x1 1).toNat)) := h18
            refine pr_reti rfl rfl ?_
            exact .inl ⟨_, t 109 ((imi x1 1).toNat), _, rfl, ⟨rfl, h18⟩, rfl, hE⟩
        · refine mq_f h5 ?_
          refine pr_if1f rfl rfl hx1 h5 ?_
          refine pr_n (pc2 := 26) (lv2 := [(0, .ref 96), (1, vi x1)]) (st2 := [.ref 96]) 1 (fun _ _ => rfl) ?_
          refine pr_get (v := .ref C) rfl rfl rfl (by decide) (rv_ref (show s.1 96 1 = ((C : Nat) : Int) from (EE_get hE (k := 96) (q := 96) rfl rfl).trans h96)) fun _ => ?_
          refine pr_gE (k2 := 99) (v := vi (t 99 12)) hE rfl rfl (TK0 hC) (by decide) rfl rfl rfl fun h21 => ?_
          have h21 : i32 (t 99 12) := h21
          refine pr_reti rfl rfl ?_
          exact .inl ⟨_, t 99 12, _, rfl, ⟨rfl, h21⟩, rfl, hE⟩
      · refine mq_f h4 ?_
        refine pr_if1f rfl rfl (i32_z h3) h4 ?_
        refine pr_n (pc2 := 20) (lv2 := [(0, .ref 96), (1, vi x1)]) (st2 := [vi 0]) 1 (fun _ _ => rfl) ?_
        refine pr_end (fun _ _ => rfl) ?_
        exact .inl ⟨_, 0, _, rfl, ⟨rfl, (i32_n rfl)⟩, rfl, hE⟩
    · refine mq_f h2 ?_
      refine pr_if2f rfl rfl hx1 (i32_n rfl) h2 ?_
      refine pr_n (pc2 := 11) (lv2 := [(0, .ref 96), (1, vi x1)]) (st2 := [vi ((-1))]) 1 (fun _ _ => rfl) ?_
      refine pr_end (fun _ _ => rfl) ?_
      exact .inl ⟨_, (-1), _, rfl, ⟨rfl, (i32_n rfl)⟩, rfl, hE⟩
set_option maxHeartbeats 20000000 in
set_option maxRecDepth 100000 in
theorem wm18 {K d C : Nat} : wT18 K (d + 1) C := by
  intro s t x1 hE h96 hx1
  have hC : C = 99 ∨ C = 115 := hE.1
  refine pcr_of (M := tb_M18) rfl ?_
  show pr K K d tb_M18 0 [(0, .ref 96), (1, vi x1)] [] s _
  rw [wG_18]
  unfold wM18
  refine pr_n (pc2 := 1) (lv2 := [(0, .ref 96), (1, vi x1)]) (st2 := [vi x1]) 1 (fun _ _ => rfl) ?_
  by_cases h1 : x1 < 0
  · refine mq_t h1 ?_
    refine pr_if1t rfl rfl hx1 h1 ?_
    refine pr_n (pc2 := 16) (lv2 := [(0, .ref 96), (1, vi x1)]) (st2 := [vi ((-1))]) 1 (fun _ _ => rfl) ?_
    refine pr_end (fun _ _ => rfl) ?_
    exact .inl ⟨_, (-1), _, rfl, ⟨rfl, (i32_n rfl)⟩, rfl, hE⟩
  · refine mq_f h1 ?_
    refine pr_if1f rfl rfl hx1 h1 ?_
    refine pr_n (pc2 := 6) (lv2 := [(0, .ref 96), (1, vi x1)]) (st2 := [.ref 96, vi x1]) 2 (fun _ _ => rfl) ?_
    refine pr_get (v := .ref 97) rfl rfl rfl (by decide) (rv_ref (hE.2.1 96 0 97 rfl)) fun _ => ?_
    refine pr_gE (k2 := 97) (v := vi (t 97 1)) hE rfl rfl rfl (by decide) rfl rfl rfl fun h2 => ?_
    have h2 : i32 (t 97 1) := h2
    by_cases h3 : x1 ≤ t 97 1
    · refine mq_t h3 ?_
      refine pr_if2t rfl rfl hx1 h2 h3 ?_
      refine pr_n (pc2 := 18) (lv2 := [(0, .ref 96), (1, vi x1)]) (st2 := [.ref 96]) 1 (fun _ _ => rfl) ?_
      refine pr_get (v := .ref 97) rfl rfl rfl (by decide) (rv_ref (hE.2.1 96 0 97 rfl)) fun _ => ?_
      refine pr_n (pc2 := 22) (lv2 := [(0, .ref 96), (1, vi x1)]) (st2 := [vi x1, .ref 97]) 1 (fun _ _ => rfl) ?_
      refine pr_pE (k2 := 97) (z := x1) hE rfl rfl rfl rfl (by decide) rfl (by decide) rfl (show i32 (x1) from hx1) (hf_int' _) rfl rfl rfl (fun e => absurd e.1 (by decide)) (fun _ => trivial) fun s4 hE4 => ?_
      refine pr_n (pc2 := 26) (lv2 := [(0, .ref 96), (1, vi x1)]) (st2 := [vi x1]) 1 (fun _ _ => rfl) ?_
      refine pr_reti rfl rfl ?_
      exact .inl ⟨_, x1, _, rfl, ⟨rfl, hx1⟩, rfl, hE4⟩
    · refine mq_f h3 ?_
      refine pr_if2f rfl rfl hx1 h2 h3 ?_
      refine pr_n (pc2 := 16) (lv2 := [(0, .ref 96), (1, vi x1)]) (st2 := [vi ((-1))]) 1 (fun _ _ => rfl) ?_
      refine pr_end (fun _ _ => rfl) ?_
      exact .inl ⟨_, (-1), _, rfl, ⟨rfl, (i32_n rfl)⟩, rfl, hE⟩
