/-! The reference's methods are as their models. -/
set_option maxHeartbeats 20000000 in
set_option maxRecDepth 100000 in
theorem em120 {K d C : Nat} : eT120 K (d + 1) C := by
  intro s t x0 x2 x4 hE hx0 hx2 hx4
  have hC : C = 177 ∨ C = 186 := hE.1
  refine pcr_of (M := tb_M120) rfl ?_
  show pr K K d tb_M120 0 [(0, vl x0), (2, vl x2), (4, vl x4)] [] s _
  rw [eG_120]
  unfold eM120
  refine pr_n (pc2 := 2) (lv2 := [(0, vl x0), (2, vl x2), (4, vl x4)]) (st2 := [vl x2, vl x0]) 2 (fun _ _ => rfl) ?_
  refine pr_lcmp (a := x0) (b := x2) rfl hx0 hx2 ?_
  by_cases h1 : x0 < x2
  · refine mq_t h1 ?_
    refine pr_if1t rfl rfl lc_i32 (lc_lt.mpr h1) ?_
    refine pr_n (pc2 := 18) (lv2 := [(0, vl x0), (2, vl x2), (4, vl x4)]) (st2 := [vi 0]) 1 (fun _ _ => rfl) ?_
    refine pr_end (fun _ _ => rfl) ?_
    exact .inl ⟨_, 0, _, rfl, ⟨rfl, (by decide)⟩, rfl, hE⟩
  · refine mq_f h1 ?_
    refine pr_if1f rfl rfl lc_i32 (fun e => h1 (lc_lt.mp e)) ?_
    refine pr_n (pc2 := 9) (lv2 := [(0, vl x0), (2, vl x2), (4, vl x4)]) (st2 := [vl x4, vl x0]) 2 (fun _ _ => rfl) ?_
    refine pr_lcmp (a := x0) (b := x4) rfl hx0 hx4 ?_
    by_cases h2 : x4 < x0
    · refine mq_t h2 ?_
      refine pr_if1t rfl rfl lc_i32 (lc_gt.mpr h2) ?_
      refine pr_n (pc2 := 18) (lv2 := [(0, vl x0), (2, vl x2), (4, vl x4)]) (st2 := [vi 0]) 1 (fun _ _ => rfl) ?_
      refine pr_end (fun _ _ => rfl) ?_
      exact .inl ⟨_, 0, _, rfl, ⟨rfl, (by decide)⟩, rfl, hE⟩
    · refine mq_f h2 ?_
      refine pr_if1f rfl rfl lc_i32 (fun e => h2 (lc_gt.mp e)) ?_
      refine pr_n (pc2 := 18) (lv2 := [(0, vl x0), (2, vl x2), (4, vl x4)]) (st2 := [vi 1]) 2 (fun _ _ => rfl) ?_
      refine pr_end (fun _ _ => rfl) ?_
      exact .inl ⟨_, 1, _, rfl, ⟨rfl, (by decide)⟩, rfl, hE⟩
set_option maxHeartbeats 20000000 in
set_option maxRecDepth 100000 in
theorem em166 {K d C : Nat} : eT166 K (d + 1) C := by
  intro s t x1 hE hx1
  have hC : C = 177 ∨ C = 186 := hE.1
  refine pcr_of (M := tb_M166) rfl ?_
  show pr K K d tb_M166 0 [(0, .ref 170), (1, vi x1)] [] s _
  rw [eG_166]
  unfold eM166
  refine pr_n (pc2 := 1) (lv2 := [(0, .ref 170), (1, vi x1)]) (st2 := [.ref 170]) 1 (fun _ _ => rfl) ?_
  refine pr_get (v := .ref 205) rfl rfl rfl (by decide) (rv_ref (hE.2.1 170 40 205 rfl)) fun _ => ?_
  refine pr_n (pc2 := 6) (lv2 := [(0, .ref 170), (1, vi x1)]) (st2 := [vi x1, .ref 205, vi x1, .ref 205]) 2 (fun _ _ => rfl) ?_
  refine pr_aE (k2 := 205) (a := x1) (v := vi (t 205 x1.toNat)) hE rfl rfl rfl hx1 (by decide) rfl rfl rfl fun h2 h3 h1 => ?_
  have h1 : i32 (t 205 x1.toNat) := h1
  refine pr_n (pc2 := 8) (lv2 := [(0, .ref 170), (1, vi x1)]) (st2 := [vi 1, vi (t 205 x1.toNat), vi x1, .ref 205]) 1 (fun _ _ => rfl) ?_
  refine pr_i2 (a := t 205 x1.toNat) (b := 1) rfl rfl ?_
  show pr K K d tb_M166 9 [(0, .ref 170), (1, vi x1)] [vi (ipl (t 205 x1.toNat) 1), vi x1, .ref 205] s _
  have h4 : i32 (ipl (t 205 x1.toNat) 1) := i32_in _
  refine pr_sE (k2 := 205) (a := x1) (z := ipl (t 205 x1.toNat) 1) hE rfl (by decide) rfl rfl hx1 (by decide) rfl (show i32 (ipl (t 205 x1.toNat) 1) from h4) (n0 rfl (by omega) (by omega)) rfl rfl (fun e => absurd e.1 (by decide)) (fun _ => trivial) fun h5 h6 s7 hE7 => ?_
  refine pr_n (pc2 := 11) (lv2 := [(0, .ref 170), (1, vi x1)]) (st2 := [.ref 170]) 1 (fun _ _ => rfl) ?_
  refine pr_get (v := .ref C) rfl rfl rfl (by decide) (rv_ref (show s7.1 170 17 = ((C : Nat) : Int) from hE7.2.2.1)) fun _ => ?_
  refine pr_get (v := .ref (C + 1)) rfl rfl (TG_C hC) (by decide) (rv_ref (hE7.2.1 C 0 (C + 1) (rc_C0 hC))) fun _ => ?_
  refine pr_n (pc2 := 18) (lv2 := [(0, .ref 170), (1, vi x1)]) (st2 := [.ref 170, .ref (C + 1)]) 1 (fun _ _ => rfl) ?_
  refine pr_get (v := .ref 205) rfl rfl rfl (by decide) (rv_ref (hE7.2.1 170 40 205 rfl)) fun _ => ?_
  refine pr_n (pc2 := 22) (lv2 := [(0, .ref 170), (1, vi x1)]) (st2 := [vi x1, .ref 205, .ref (C + 1)]) 1 (fun _ _ => rfl) ?_
  refine pr_aE (k2 := 205) (a := x1) (v := vi (ipl (t 205 x1.toNat) 1)) hE7 rfl rfl rfl hx1 (by decide) rfl rfl (by rw [up_self]; rfl) fun h9 h10 h8 => ?_
  rw [up_self] at h8
  have h8 : i32 (ipl (t 205 x1.toNat) 1) := h8
  refine pr_n (pc2 := 24) (lv2 := [(0, .ref 170), (1, vi x1)]) (st2 := [vi 1, vi (ipl (t 205 x1.toNat) 1), .ref (C + 1)]) 1 (fun _ _ => rfl) ?_
  refine pr_i2 (a := ipl (t 205 x1.toNat) 1) (b := 1) rfl rfl ?_
  show pr K K d tb_M166 25 [(0, .ref 170), (1, vi x1)] [vi (imi (ipl (t 205 x1.toNat) 1) 1), .ref (C + 1)] s7 _
  have h11 : i32 (imi (ipl (t 205 x1.toNat) 1) 1) := i32_in _
  refine pr_aE (k2 := 178) (a := imi (ipl (t 205 x1.toNat) 1) 1) (v := vi (t 178 ((imi (ipl (t 205 x1.toNat) 1) 1).toNat))) hE7 rfl (TG_C1 hC) rfl h11 (by decide) rfl rfl rfl fun h13 h14 h12 => ?_
  have h12 : i32 (t 178 ((imi (ipl (t 205 x1.toNat) 1) 1).toNat)) := h12
  refine pr_reti rfl rfl ?_
  exact .inl ⟨_, t 178 ((imi (ipl (t 205 x1.toNat) 1) 1).toNat), _, rfl, ⟨rfl, h12⟩, rfl, hE7⟩
set_option maxHeartbeats 20000000 in
set_option maxRecDepth 100000 in
theorem em164 {K d C : Nat} : eT164 K (d + 1) C := by
  intro s t x1 x2 hE hx1 hx2
  have hC : C = 177 ∨ C = 186 := hE.1
  refine pcr_of (M := tb_M164) rfl ?_
  show pr K K d tb_M164 0 [(0, .ref 170), (1, vi x1), (2, vi x2)] [] s _
  rw [eG_164]
  unfold eM164
  refine pr_n (pc2 := 1) (lv2 := [(0, .ref 170), (1, vi x1), (2, vi x2)]) (st2 := [.ref 170]) 1 (fun _ _ => rfl) ?_
  refine pr_get (v := .ref 219) rfl rfl rfl (by decide) (rv_ref (hE.2.1 170 48 219 rfl)) fun _ => ?_
  refine pr_n (pc2 := 5) (lv2 := [(0, .ref 170), (1, vi x1), (2, vi x2)]) (st2 := [vi x1, .ref 219]) 1 (fun _ _ => rfl) ?_
  refine pr_row (a := x1) (v := 220 + x1.toNat) rfl rfl rfl rfl hx1 (by decide) (fun h1 h2 => hE.2.1 _ _ _ (rc_st (by omega))) fun h1 h2 => ?_
  show pr K K d tb_M164 6 [(0, .ref 170), (1, vi x1), (2, vi x2)] [.ref (220 + x1.toNat)] s _
  refine pr_n (pc2 := 7) (lv2 := [(0, .ref 170), (1, vi x1), (2, vi x2)]) (st2 := [.ref 170, .ref (220 + x1.toNat)]) 1 (fun _ _ => rfl) ?_
  refine pr_get (v := .ref 208) rfl rfl rfl (by decide) (rv_ref (hE.2.1 170 43 208 rfl)) fun _ => ?_
  refine pr_n (pc2 := 11) (lv2 := [(0, .ref 170), (1, vi x1), (2, vi x2)]) (st2 := [vi x1, .ref 208, .ref (220 + x1.toNat)]) 1 (fun _ _ => rfl) ?_
  refine pr_aE (k2 := 208) (a := x1) (v := vi (t 208 x1.toNat)) hE rfl rfl rfl hx1 (by decide) rfl rfl rfl fun h4 h5 h3 => ?_
  have h3 : i32 (t 208 x1.toNat) := h3
  refine pr_n (pc2 := 13) (lv2 := [(0, .ref 170), (1, vi x1), (2, vi x2)]) (st2 := [vi x2, vi (t 208 x1.toNat), .ref (220 + x1.toNat)]) 1 (fun _ _ => rfl) ?_
  refine pr_sE (k2 := (220 + x1.toNat)) (a := t 208 x1.toNat) (z := x2) hE rfl (show 96 ≤ 220 + x1.toNat by omega) (TG_st (by omega)) rfl h3 (by decide) rfl (show i32 (x2) from hx2) (rc_hi (by omega) (by omega) (by omega)) (pe_hi (by omega)) (re_st (by omega)) (fun e => absurd e.1 (show ¬ (220 + x1.toNat = 170) by omega)) (fun _ => trivial) fun h6 h7 s8 hE8 => ?_
  refine pr_n (pc2 := 15) (lv2 := [(0, .ref 170), (1, vi x1), (2, vi x2)]) (st2 := [.ref 170]) 1 (fun _ _ => rfl) ?_
  refine pr_get (v := .ref 208) rfl rfl rfl (by decide) (rv_ref (hE8.2.1 170 43 208 rfl)) fun _ => ?_
  refine pr_n (pc2 := 20) (lv2 := [(0, .ref 170), (1, vi x1), (2, vi x2)]) (st2 := [vi x1, .ref 208, vi x1, .ref 208]) 2 (fun _ _ => rfl) ?_
  refine pr_aE (k2 := 208) (a := x1) (v := vi ((up2 t (220 + x1.toNat) ((t 208 x1.toNat).toNat) x2) 208 x1.toNat)) hE8 rfl rfl rfl hx1 (by decide) rfl rfl (by first | rfl | (rw [up_jn (by decide)]; rfl) | (rw [up_jn (by decide), up_jn (by decide)]; rfl)) fun h10 h11 h9 => ?_
  have h9 : i32 ((up2 t (220 + x1.toNat) ((t 208 x1.toNat).toNat) x2) 208 x1.toNat) := h9
  refine pr_n (pc2 := 22) (lv2 := [(0, .ref 170), (1, vi x1), (2, vi x2)]) (st2 := [vi 1, vi ((up2 t (220 + x1.toNat) ((t 208 x1.toNat).toNat) x2) 208 x1.toNat), vi x1, .ref 208]) 1 (fun _ _ => rfl) ?_
  refine pr_i2 (a := (up2 t (220 + x1.toNat) ((t 208 x1.toNat).toNat) x2) 208 x1.toNat) (b := 1) rfl rfl ?_
  show pr K K d tb_M164 23 [(0, .ref 170), (1, vi x1), (2, vi x2)] [vi (ipl ((up2 t (220 + x1.toNat) ((t 208 x1.toNat).toNat) x2) 208 x1.toNat) 1), vi x1, .ref 208] s8 _
  have h12 : i32 (ipl ((up2 t (220 + x1.toNat) ((t 208 x1.toNat).toNat) x2) 208 x1.toNat) 1) := i32_in _
  refine pr_sE (k2 := 208) (a := x1) (z := ipl ((up2 t (220 + x1.toNat) ((t 208 x1.toNat).toNat) x2) 208 x1.toNat) 1) hE8 rfl (by decide) rfl rfl hx1 (by decide) rfl (show i32 (ipl ((up2 t (220 + x1.toNat) ((t 208 x1.toNat).toNat) x2) 208 x1.toNat) 1) from h12) (n0 rfl (by omega) (by omega)) rfl rfl (fun e => absurd e.1 (by decide)) (fun _ => trivial) fun h13 h14 s15 hE15 => ?_
  refine pr_end (fun _ _ => rfl) ?_
  exact .inl ⟨_, 0, _, rfl, ⟨rfl, rfl⟩, rfl, hE15⟩
set_option maxHeartbeats 20000000 in
set_option maxRecDepth 100000 in
theorem em167 {K d C : Nat} : eT167 K (d + 1) C := by
  intro s t x1 hE hx1
  have hC : C = 177 ∨ C = 186 := hE.1
  refine pcr_of (M := tb_M167) rfl ?_
  show pr K K d tb_M167 0 [(0, .ref 170), (1, vi x1)] [] s _
  rw [eG_167]
  unfold eM167
  refine pr_n (pc2 := 1) (lv2 := [(0, .ref 170), (1, vi x1)]) (st2 := [.ref 170]) 1 (fun _ _ => rfl) ?_
  refine pr_get (v := .ref 208) rfl rfl rfl (by decide) (rv_ref (hE.2.1 170 43 208 rfl)) fun _ => ?_
  refine pr_n (pc2 := 6) (lv2 := [(0, .ref 170), (1, vi x1)]) (st2 := [vi x1, .ref 208, vi x1, .ref 208]) 2 (fun _ _ => rfl) ?_
  refine pr_aE (k2 := 208) (a := x1) (v := vi (t 208 x1.toNat)) hE rfl rfl rfl hx1 (by decide) rfl rfl rfl fun h2 h3 h1 => ?_
  have h1 : i32 (t 208 x1.toNat) := h1
  refine pr_n (pc2 := 8) (lv2 := [(0, .ref 170), (1, vi x1)]) (st2 := [vi 1, vi (t 208 x1.toNat), vi x1, .ref 208]) 1 (fun _ _ => rfl) ?_
  refine pr_i2 (a := t 208 x1.toNat) (b := 1) rfl rfl ?_
  show pr K K d tb_M167 9 [(0, .ref 170), (1, vi x1)] [vi (imi (t 208 x1.toNat) 1), vi x1, .ref 208] s _
  have h4 : i32 (imi (t 208 x1.toNat) 1) := i32_in _
  refine pr_sE (k2 := 208) (a := x1) (z := imi (t 208 x1.toNat) 1) hE rfl (by decide) rfl rfl hx1 (by decide) rfl (show i32 (imi (t 208 x1.toNat) 1) from h4) (n0 rfl (by omega) (by omega)) rfl rfl (fun e => absurd e.1 (by decide)) (fun _ => trivial) fun h5 h6 s7 hE7 => ?_
  refine pr_n (pc2 := 11) (lv2 := [(0, .ref 170), (1, vi x1)]) (st2 := [.ref 170]) 1 (fun _ _ => rfl) ?_
  refine pr_get (v := .ref 219) rfl rfl rfl (by decide) (rv_ref (hE7.2.1 170 48 219 rfl)) fun _ => ?_
  refine pr_n (pc2 := 15) (lv2 := [(0, .ref 170), (1, vi x1)]) (st2 := [vi x1, .ref 219]) 1 (fun _ _ => rfl) ?_
  refine pr_row (a := x1) (v := 220 + x1.toNat) rfl rfl rfl rfl hx1 (by decide) (fun h1 h2 => hE7.2.1 _ _ _ (rc_st (by omega))) fun h8 h9 => ?_
  show pr K K d tb_M167 16 [(0, .ref 170), (1, vi x1)] [.ref (220 + x1.toNat)] s7 _
  refine pr_n (pc2 := 17) (lv2 := [(0, .ref 170), (1, vi x1)]) (st2 := [.ref 170, .ref (220 + x1.toNat)]) 1 (fun _ _ => rfl) ?_
  refine pr_get (v := .ref 208) rfl rfl rfl (by decide) (rv_ref (hE7.2.1 170 43 208 rfl)) fun _ => ?_
  refine pr_n (pc2 := 21) (lv2 := [(0, .ref 170), (1, vi x1)]) (st2 := [vi x1, .ref 208, .ref (220 + x1.toNat)]) 1 (fun _ _ => rfl) ?_
  refine pr_aE (k2 := 208) (a := x1) (v := vi (imi (t 208 x1.toNat) 1)) hE7 rfl rfl rfl hx1 (by decide) rfl rfl (by rw [up_self]; rfl) fun h11 h12 h10 => ?_
  rw [up_self] at h10
  have h10 : i32 (imi (t 208 x1.toNat) 1) := h10
  refine pr_aE (k2 := (220 + x1.toNat)) (a := imi (t 208 x1.toNat) 1) (v := vi ((up2 t 208 x1.toNat (imi (t 208 x1.toNat) 1)) (220 + x1.toNat) ((imi (t 208 x1.toNat) 1).toNat))) hE7 rfl (TG_st (by omega)) rfl h10 (by decide) (pe_hi (by omega)) (re_st (by omega)) rfl fun h14 h15 h13 => ?_
  have h13 : i32 ((up2 t 208 x1.toNat (imi (t 208 x1.toNat) 1)) (220 + x1.toNat) ((imi (t 208 x1.toNat) 1).toNat)) := h13
  refine pr_reti rfl rfl ?_
  exact .inl ⟨_, (up2 t 208 x1.toNat (imi (t 208 x1.toNat) 1)) (220 + x1.toNat) ((imi (t 208 x1.toNat) 1).toNat), _, rfl, ⟨rfl, h13⟩, rfl, hE7⟩
set_option maxHeartbeats 20000000 in
set_option maxRecDepth 100000 in
theorem em171 {K d C : Nat} : eT171 K (d + 1) C := by
  intro s t x1 x2 x3 hE hx1 hx2 hx3
  have hC : C = 177 ∨ C = 186 := hE.1
  refine pcr_of (M := tb_M171) rfl ?_
  show pr K K d tb_M171 0 [(0, .ref 170), (1, vi x1), (2, vi x2), (3, vi x3)] [] s _
  rw [eG_171]
  unfold eM171
  refine pr_n (pc2 := 1) (lv2 := [(0, .ref 170), (1, vi x1), (2, vi x2), (3, vi x3)]) (st2 := [.ref 170]) 1 (fun _ _ => rfl) ?_
  refine pr_get (v := .ref 206) rfl rfl rfl (by decide) (rv_ref (hE.2.1 170 41 206 rfl)) fun _ => ?_
  refine pr_n (pc2 := 6) (lv2 := [(0, .ref 170), (1, vi x1), (2, vi x2), (3, vi x3)]) (st2 := [vi x2, vi x1, .ref 206]) 2 (fun _ _ => rfl) ?_
  refine pr_sE (k2 := 206) (a := x1) (z := x2) hE rfl (by decide) rfl rfl hx1 (by decide) rfl (show i32 (x2) from hx2) (n0 rfl (by omega) (by omega)) rfl rfl (fun e => absurd e.1 (by decide)) (fun _ => trivial) fun h1 h2 s3 hE3 => ?_
  refine pr_n (pc2 := 8) (lv2 := [(0, .ref 170), (1, vi x1), (2, vi x2), (3, vi x3)]) (st2 := [.ref 170]) 1 (fun _ _ => rfl) ?_
  refine pr_get (v := .ref 207) rfl rfl rfl (by decide) (rv_ref (hE3.2.1 170 42 207 rfl)) fun _ => ?_
  refine pr_n (pc2 := 13) (lv2 := [(0, .ref 170), (1, vi x1), (2, vi x2), (3, vi x3)]) (st2 := [vi x3, vi x1, .ref 207]) 2 (fun _ _ => rfl) ?_
  refine pr_sE (k2 := 207) (a := x1) (z := x3) hE3 rfl (by decide) rfl rfl hx1 (by decide) rfl (show i32 (x3) from hx3) (n0 rfl (by omega) (by omega)) rfl rfl (fun e => absurd e.1 (by decide)) (fun _ => trivial) fun h4 h5 s6 hE6 => ?_
  refine pr_end (fun _ _ => rfl) ?_
  exact .inl ⟨_, 0, _, rfl, ⟨rfl, rfl⟩, rfl, hE6⟩
set_option maxHeartbeats 20000000 in
set_option maxRecDepth 100000 in
theorem eu172_0 {N K d C : Nat} (ih : ∀ N2, N2 < N → eA172 N2 K d C) : eU172_0 N K d C := by
  intro s t y3 y2 y1 hE hy3 hy2 hy1
  have hC : C = 177 ∨ C = 186 := hE.1
  rw [eG_172_21]
  unfold eM172_21
  refine pr_lt (pc2 := 22) (lv2 := [(3, vi y3), (2, vi y2), (0, .ref 170), (1, vi y1)]) (st2 := [vi y3]) (fun _ _ => rfl) fun N2 hN2 => ?_
  refine pr_n (pc2 := 23) (lv2 := [(3, vi y3), (2, vi y2), (0, .ref 170), (1, vi y1)]) (st2 := [.ref 170, vi y3]) 1 (fun _ _ => rfl) ?_
  refine pr_get (v := .ref 1630) rfl rfl rfl (by decide) (rv_ref (hE.2.1 170 51 1630 rfl)) fun _ => ?_
  refine pr_n (pc2 := 27) (lv2 := [(3, vi y3), (2, vi y2), (0, .ref 170), (1, vi y1)]) (st2 := [vi y1, .ref 1630, vi y3]) 1 (fun _ _ => rfl) ?_
  refine pr_aE (k2 := 1630) (a := y1) (v := vi (t 1630 y1.toNat)) hE rfl rfl rfl hy1 (by decide) rfl rfl rfl fun h2 h3 h1 => ?_
  have h1 : i32 (t 1630 y1.toNat) := h1
  by_cases h4 : t 1630 y1.toNat ≤ y3
  · refine mq_t h4 ?_
    refine pr_if2t rfl rfl hy3 h1 h4 ?_
    refine pr_n (pc2 := 56) (lv2 := [(3, vi y3), (2, vi y2), (0, .ref 170), (1, vi y1)]) (st2 := [vi y2]) 1 (fun _ _ => rfl) ?_
    refine pr_reti rfl rfl ?_
    exact .inl ⟨_, y2, _, rfl, ⟨rfl, hy2⟩, rfl, hE⟩
  · refine mq_f h4 ?_
    refine pr_if2f rfl rfl hy3 h1 h4 ?_
    refine pr_n (pc2 := 32) (lv2 := [(3, vi y3), (2, vi y2), (0, .ref 170), (1, vi y1)]) (st2 := [.ref 170]) 1 (fun _ _ => rfl) ?_
    refine pr_get (v := .ref 1621) rfl rfl rfl (by decide) (rv_ref (hE.2.1 170 50 1621 rfl)) fun _ => ?_
    refine pr_n (pc2 := 36) (lv2 := [(3, vi y3), (2, vi y2), (0, .ref 170), (1, vi y1)]) (st2 := [vi y1, .ref 1621]) 1 (fun _ _ => rfl) ?_
    refine pr_row (a := y1) (v := 1622 + y1.toNat) rfl rfl rfl rfl hy1 (by decide) (fun h1 h2 => hE.2.1 _ _ _ (rc_in (by omega))) fun h5 h6 => ?_
    show pr N2 K d tb_M172 37 [(3, vi y3), (2, vi y2), (0, .ref 170), (1, vi y1)] [.ref (1622 + y1.toNat)] s _
    refine pr_n (pc2 := 39) (lv2 := [(3, vi y3), (2, vi y2), (0, .ref 170), (1, vi y1)]) (st2 := [.ref 170, vi y3, .ref (1622 + y1.toNat)]) 2 (fun _ _ => rfl) ?_
    refine pr_get (v := .ref 1621) rfl rfl rfl (by decide) (rv_ref (hE.2.1 170 50 1621 rfl)) fun _ => ?_
    refine pr_n (pc2 := 43) (lv2 := [(3, vi y3), (2, vi y2), (0, .ref 170), (1, vi y1)]) (st2 := [vi y1, .ref 1621, vi y3, .ref (1622 + y1.toNat)]) 1 (fun _ _ => rfl) ?_
    refine pr_row (a := y1) (v := 1622 + y1.toNat) rfl rfl rfl rfl hy1 (by decide) (fun h1 h2 => hE.2.1 _ _ _ (rc_in (by omega))) fun h7 h8 => ?_
    show pr N2 K d tb_M172 44 [(3, vi y3), (2, vi y2), (0, .ref 170), (1, vi y1)] [.ref (1622 + y1.toNat), vi y3, .ref (1622 + y1.toNat)] s _
    refine pr_n (pc2 := 46) (lv2 := [(3, vi y3), (2, vi y2), (0, .ref 170), (1, vi y1)]) (st2 := [vi 1, vi y3, .ref (1622 + y1.toNat), vi y3, .ref (1622 + y1.toNat)]) 2 (fun _ _ => rfl) ?_
    refine pr_i2 (a := y3) (b := 1) rfl rfl ?_
    show pr N2 K d tb_M172 47 [(3, vi y3), (2, vi y2), (0, .ref 170), (1, vi y1)] [vi (ipl y3 1), .ref (1622 + y1.toNat), vi y3, .ref (1622 + y1.toNat)] s _
    have h9 : i32 (ipl y3 1) := i32_in _
    refine pr_aE (k2 := (1622 + y1.toNat)) (a := ipl y3 1) (v := vi (t (1622 + y1.toNat) ((ipl y3 1).toNat))) hE rfl (TG_in (by omega)) rfl h9 (by decide) (pe_hi (by omega)) (re_in (by omega)) rfl fun h11 h12 h10 => ?_
    have h10 : i32 (t (1622 + y1.toNat) ((ipl y3 1).toNat)) := h10
    refine pr_sE (k2 := (1622 + y1.toNat)) (a := y3) (z := t (1622 + y1.toNat) ((ipl y3 1).toNat)) hE rfl (show 96 ≤ 1622 + y1.toNat by omega) (TG_in (by omega)) rfl hy3 (by decide) rfl (show i32 (t (1622 + y1.toNat) ((ipl y3 1).toNat)) from h10) (rc_hi (by omega) (by omega) (by omega)) (pe_hi (by omega)) (re_in (by omega)) (fun e => absurd e.1 (show ¬ (1622 + y1.toNat = 170) by omega)) (fun _ => trivial) fun h13 h14 s15 hE15 => ?_
    refine pr_inc (a := y3) rfl rfl ?_
    have h16 : i32 (y3 + 1) := by unfold i32 at *; omega
    show pr N2 K d tb_M172 52 [(3, vi (y3 + 1)), (2, vi y2), (0, .ref 170), (1, vi y1)] [] s15 _
    refine pr_n (pc2 := 21) (lv2 := [(3, vi (y3 + 1)), (2, vi y2), (0, .ref 170), (1, vi y1)]) (st2 := []) 1 (fun _ _ => rfl) ?_
    exact ((ih N2 hN2)) s15 (up2 t (1622 + y1.toNat) y3.toNat (t (1622 + y1.toNat) ((ipl y3 1).toNat))) (y3 + 1) y2 y1 hE15 h16 hy2 hy1
theorem ea172 {K d C : Nat} : ∀ N, eA172 N K d C := by
  intro N
  induction N using Nat.strongRecOn with | ind N ih => ?_
  exact eu172_0 ih
set_option maxHeartbeats 20000000 in
set_option maxRecDepth 100000 in
theorem em172 {K d C : Nat} : eT172 K (d + 1) C := by
  intro s t x1 hE hx1
  have hC : C = 177 ∨ C = 186 := hE.1
  refine pcr_of (M := tb_M172) rfl ?_
  show pr K K d tb_M172 0 [(0, .ref 170), (1, vi x1)] [] s _
  rw [eG_172]
  unfold eM172
  refine pr_n (pc2 := 1) (lv2 := [(0, .ref 170), (1, vi x1)]) (st2 := [.ref 170]) 1 (fun _ _ => rfl) ?_
  refine pr_get (v := .ref 1621) rfl rfl rfl (by decide) (rv_ref (hE.2.1 170 50 1621 rfl)) fun _ => ?_
  refine pr_n (pc2 := 5) (lv2 := [(0, .ref 170), (1, vi x1)]) (st2 := [vi x1, .ref 1621]) 1 (fun _ _ => rfl) ?_
  refine pr_row (a := x1) (v := 1622 + x1.toNat) rfl rfl rfl rfl hx1 (by decide) (fun h1 h2 => hE.2.1 _ _ _ (rc_in (by omega))) fun h1 h2 => ?_
  show pr K K d tb_M172 6 [(0, .ref 170), (1, vi x1)] [.ref (1622 + x1.toNat)] s _
  refine pr_n (pc2 := 7) (lv2 := [(0, .ref 170), (1, vi x1)]) (st2 := [vi 0, .ref (1622 + x1.toNat)]) 1 (fun _ _ => rfl) ?_
  refine pr_aE (k2 := (1622 + x1.toNat)) (a := 0) (v := vi (t (1622 + x1.toNat) 0)) hE rfl (TG_in (by omega)) rfl (i32_n rfl) (by decide) (pe_hi (by omega)) (re_in (by omega)) rfl fun h4 h5 h3 => ?_
  have h3 : i32 (t (1622 + x1.toNat) 0) := h3
  refine pr_n (pc2 := 10) (lv2 := [(2, vi (t (1622 + x1.toNat) 0)), (0, .ref 170), (1, vi x1)]) (st2 := [.ref 170]) 2 (fun _ _ => rfl) ?_
  refine pr_get (v := .ref 1630) rfl rfl rfl (by decide) (rv_ref (hE.2.1 170 51 1630 rfl)) fun _ => ?_
  refine pr_n (pc2 := 15) (lv2 := [(2, vi (t (1622 + x1.toNat) 0)), (0, .ref 170), (1, vi x1)]) (st2 := [vi x1, .ref 1630, vi x1, .ref 1630]) 2 (fun _ _ => rfl) ?_
  refine pr_aE (k2 := 1630) (a := x1) (v := vi (t 1630 x1.toNat)) hE rfl rfl rfl hx1 (by decide) rfl rfl rfl fun h7 h8 h6 => ?_
  have h6 : i32 (t 1630 x1.toNat) := h6
  refine pr_n (pc2 := 17) (lv2 := [(2, vi (t (1622 + x1.toNat) 0)), (0, .ref 170), (1, vi x1)]) (st2 := [vi 1, vi (t 1630 x1.toNat), vi x1, .ref 1630]) 1 (fun _ _ => rfl) ?_
  refine pr_i2 (a := t 1630 x1.toNat) (b := 1) rfl rfl ?_
  show pr K K d tb_M172 18 [(2, vi (t (1622 + x1.toNat) 0)), (0, .ref 170), (1, vi x1)] [vi (imi (t 1630 x1.toNat) 1), vi x1, .ref 1630] s _
  have h9 : i32 (imi (t 1630 x1.toNat) 1) := i32_in _
  refine pr_sE (k2 := 1630) (a := x1) (z := imi (t 1630 x1.toNat) 1) hE rfl (by decide) rfl rfl hx1 (by decide) rfl (show i32 (imi (t 1630 x1.toNat) 1) from h9) (rc_hi (by omega) (by omega) (by omega)) rfl rfl (fun e => absurd e.1 (by decide)) (fun _ => trivial) fun h10 h11 s12 hE12 => ?_
  refine pr_n (pc2 := 21) (lv2 := [(3, vi 0), (2, vi (t (1622 + x1.toNat) 0)), (0, .ref 170), (1, vi x1)]) (st2 := []) 2 (fun _ _ => rfl) ?_
  exact ((ea172 K)) s12 (up2 t 1630 x1.toNat (imi (t 1630 x1.toNat) 1)) 0 (t (1622 + x1.toNat) 0) x1 hE12 (i32_n rfl) h3 hx1
set_option maxHeartbeats 20000000 in
set_option maxRecDepth 100000 in
theorem em161 {K d C : Nat} : eT161 K (d + 1) C := by
  intro s t x1 x2 x3 hE hx1 hx2 hx3
  have hC : C = 177 ∨ C = 186 := hE.1
  refine pcr_of (M := tb_M161) rfl ?_
  show pr K K d tb_M161 0 [(0, .ref 170), (1, vi x1), (2, vi x2), (3, vi x3)] [] s _
  rw [eG_161]
  unfold eM161
  refine pr_n (pc2 := 1) (lv2 := [(0, .ref 170), (1, vi x1), (2, vi x2), (3, vi x3)]) (st2 := [.ref 170]) 1 (fun _ _ => rfl) ?_
  refine pr_get (v := .ref 205) rfl rfl rfl (by decide) (rv_ref (hE.2.1 170 40 205 rfl)) fun _ => ?_
  refine pr_n (pc2 := 6) (lv2 := [(0, .ref 170), (1, vi x1), (2, vi x2), (3, vi x3)]) (st2 := [vi x2, vi x1, .ref 205]) 2 (fun _ _ => rfl) ?_
  refine pr_sE (k2 := 205) (a := x1) (z := x2) hE rfl (by decide) rfl rfl hx1 (by decide) rfl (show i32 (x2) from hx2) (n0 rfl (by omega) (by omega)) rfl rfl (fun e => absurd e.1 (by decide)) (fun _ => trivial) fun h1 h2 s3 hE3 => ?_
  refine mq_t ⟨h1, h2⟩ ?_
  show pr K K d tb_M161 7 [(0, .ref 170), (1, vi x1), (2, vi x2), (3, vi x3)] [] s3 _
  refine pr_n (pc2 := 8) (lv2 := [(0, .ref 170), (1, vi x1), (2, vi x2), (3, vi x3)]) (st2 := [.ref 170]) 1 (fun _ _ => rfl) ?_
  refine pr_get (v := .ref 206) rfl rfl rfl (by decide) (rv_ref (hE3.2.1 170 41 206 rfl)) fun _ => ?_
  refine pr_n (pc2 := 13) (lv2 := [(0, .ref 170), (1, vi x1), (2, vi x2), (3, vi x3)]) (st2 := [vi 1, vi x1, .ref 206]) 2 (fun _ _ => rfl) ?_
  refine pr_sE (k2 := 206) (a := x1) (z := 1) hE3 rfl (by decide) rfl rfl hx1 (by decide) rfl (show i32 (1) from (i32_n rfl)) (n0 rfl (by omega) (by omega)) rfl rfl (fun e => absurd e.1 (by decide)) (fun _ => trivial) fun h4 h5 s6 hE6 => ?_
  refine pr_n (pc2 := 15) (lv2 := [(0, .ref 170), (1, vi x1), (2, vi x2), (3, vi x3)]) (st2 := [.ref 170]) 1 (fun _ _ => rfl) ?_
  refine pr_get (v := .ref 208) rfl rfl rfl (by decide) (rv_ref (hE6.2.1 170 43 208 rfl)) fun _ => ?_
  refine pr_n (pc2 := 20) (lv2 := [(0, .ref 170), (1, vi x1), (2, vi x2), (3, vi x3)]) (st2 := [vi 0, vi x1, .ref 208]) 2 (fun _ _ => rfl) ?_
  refine pr_sE (k2 := 208) (a := x1) (z := 0) hE6 rfl (by decide) rfl rfl hx1 (by decide) rfl (show i32 (0) from (i32_n rfl)) (n0 rfl (by omega) (by omega)) rfl rfl (fun e => absurd e.1 (by decide)) (fun _ => trivial) fun h7 h8 s9 hE9 => ?_
  refine pr_n (pc2 := 22) (lv2 := [(0, .ref 170), (1, vi x1), (2, vi x2), (3, vi x3)]) (st2 := [.ref 170]) 1 (fun _ _ => rfl) ?_
  refine pr_get (v := .ref 209) rfl rfl rfl (by decide) (rv_ref (hE9.2.1 170 44 209 rfl)) fun _ => ?_
  refine pr_n (pc2 := 27) (lv2 := [(0, .ref 170), (1, vi x1), (2, vi x2), (3, vi x3)]) (st2 := [vi 0, vi x1, .ref 209]) 2 (fun _ _ => rfl) ?_
  refine pr_sE (k2 := 209) (a := x1) (z := 0) hE9 rfl (by decide) rfl rfl hx1 (by decide) rfl (show i32 (0) from (i32_n rfl)) (n0 rfl (by omega) (by omega)) rfl rfl (fun e => absurd e.1 (by decide)) (fun _ => trivial) fun h10 h11 s12 hE12 => ?_
  refine pr_n (pc2 := 29) (lv2 := [(0, .ref 170), (1, vi x1), (2, vi x2), (3, vi x3)]) (st2 := [.ref 170]) 1 (fun _ _ => rfl) ?_
  refine pr_get (v := .ref 210) rfl rfl rfl (by decide) (rv_ref (hE12.2.1 170 45 210 rfl)) fun _ => ?_
  refine pr_n (pc2 := 34) (lv2 := [(0, .ref 170), (1, vi x1), (2, vi x2), (3, vi x3)]) (st2 := [vi x3, vi x1, .ref 210]) 2 (fun _ _ => rfl) ?_
  refine pr_sE (k2 := 210) (a := x1) (z := x3) hE12 rfl (by decide) rfl rfl hx1 (by decide) rfl (show i32 (x3) from hx3) (n0 rfl (by omega) (by omega)) rfl rfl (fun e => absurd e.1 (by decide)) (fun _ => trivial) fun h13 h14 s15 hE15 => ?_
  refine pr_n (pc2 := 36) (lv2 := [(0, .ref 170), (1, vi x1), (2, vi x2), (3, vi x3)]) (st2 := [.ref 170]) 1 (fun _ _ => rfl) ?_
  refine pr_get (v := .ref 211) rfl rfl rfl (by decide) (rv_ref (hE15.2.1 170 46 211 rfl)) fun _ => ?_
  refine pr_n (pc2 := 41) (lv2 := [(0, .ref 170), (1, vi x1), (2, vi x2), (3, vi x3)]) (st2 := [vi 0, vi x1, .ref 211]) 2 (fun _ _ => rfl) ?_
  refine pr_sE (k2 := 211) (a := x1) (z := 0) hE15 rfl (by decide) rfl rfl hx1 (by decide) rfl (show i32 (0) from (i32_n rfl)) (n0 rfl (by omega) (by omega)) rfl rfl (fun e => absurd e.1 (by decide)) (fun _ => trivial) fun h16 h17 s18 hE18 => ?_
  refine pr_end (fun _ _ => rfl) ?_
  exact .inl ⟨_, 0, _, rfl, ⟨rfl, rfl⟩, rfl, hE18⟩
set_option maxHeartbeats 20000000 in
set_option maxRecDepth 100000 in
theorem em168 {K d C : Nat} : eT168 K (d + 1) C := by
  intro s t x0 x1 x2 hE hx0 hx1 hx2
  have hC : C = 177 ∨ C = 186 := hE.1
  refine pcr_of (M := tb_M168) rfl ?_
  show pr K K d tb_M168 0 [(0, vi x0), (1, vi x1), (2, vi x2)] [] s _
  rw [eG_168]
  unfold eM168
  refine pr_n (pc2 := 1) (lv2 := [(0, vi x0), (1, vi x1), (2, vi x2)]) (st2 := [vi x0]) 1 (fun _ _ => rfl) ?_
  by_cases h1 : x0 = 37
  · refine mq_t h1 ?_
    refine pr_lsw rfl (by decide) hx0 (by rw [h1]) rfl ?_
    refine pr_n (pc2 := 173) (lv2 := [(0, vi x0), (1, vi x1), (2, vi x2)]) (st2 := [vi x2]) 1 (fun _ _ => rfl) ?_
    by_cases h2 : x2 ≠ 0
    · refine mq_t h2 ?_
      refine pr_if1t rfl rfl hx2 h2 ?_
      refine pr_n (pc2 := 182) (lv2 := [(0, vi x0), (1, vi x1), (2, vi x2)]) (st2 := [vi x2, vi x1]) 2 (fun _ _ => rfl) ?_
      refine pr_irem (a := x1) (b := x2) rfl ?_
      show pr K K d tb_M168 183 [(0, vi x0), (1, vi x1), (2, vi x2)] [vi (rmw x1 x2)] s _
      refine pr_reti rfl rfl ?_
      exact .inl ⟨_, rmw x1 x2, _, rfl, ⟨rfl, (i32_in _)⟩, rfl, hE⟩
    · refine mq_f h2 ?_
      refine pr_if1f rfl rfl hx2 h2 ?_
      refine pr_n (pc2 := 183) (lv2 := [(0, vi x0), (1, vi x1), (2, vi x2)]) (st2 := [vi 0]) 2 (fun _ _ => rfl) ?_
      refine pr_end (fun _ _ => rfl) ?_
      exact .inl ⟨_, 0, _, rfl, ⟨rfl, (i32_n rfl)⟩, rfl, hE⟩
  · refine mq_f h1 ?_
    by_cases h3 : x0 = 38
    · refine mq_t h3 ?_
      refine pr_lsw rfl (by decide) hx0 (by rw [h3]) rfl ?_
      refine pr_n (pc2 := 186) (lv2 := [(0, vi x0), (1, vi x1), (2, vi x2)]) (st2 := [vi x2, vi x1]) 2 (fun _ _ => rfl) ?_
      refine pr_i2 (a := x1) (b := x2) rfl rfl ?_
      show pr K K d tb_M168 187 [(0, vi x0), (1, vi x1), (2, vi x2)] [vi (ian x1 x2)] s _
      have h4 : i32 (ian x1 x2) := i32_in _
      refine pr_reti rfl rfl ?_
      exact .inl ⟨_, ian x1 x2, _, rfl, ⟨rfl, h4⟩, rfl, hE⟩
    · refine mq_f h3 ?_
      by_cases h5 : x0 = 42
      · refine mq_t h5 ?_
        refine pr_lsw rfl (by decide) hx0 (by rw [h5]) rfl ?_
        refine pr_n (pc2 := 158) (lv2 := [(0, vi x0), (1, vi x1), (2, vi x2)]) (st2 := [vi x2, vi x1]) 2 (fun _ _ => rfl) ?_
        refine pr_i2 (a := x1) (b := x2) rfl rfl ?_
        show pr K K d tb_M168 159 [(0, vi x0), (1, vi x1), (2, vi x2)] [vi (imu x1 x2)] s _
        have h6 : i32 (imu x1 x2) := i32_in _
        refine pr_reti rfl rfl ?_
        exact .inl ⟨_, imu x1 x2, _, rfl, ⟨rfl, h6⟩, rfl, hE⟩
      · refine mq_f h5 ?_
        by_cases h7 : x0 = 43
        · refine mq_t h7 ?_
          refine pr_lsw rfl (by decide) hx0 (by rw [h7]) rfl ?_
          refine pr_n (pc2 := 150) (lv2 := [(0, vi x0), (1, vi x1), (2, vi x2)]) (st2 := [vi x2, vi x1]) 2 (fun _ _ => rfl) ?_
          refine pr_i2 (a := x1) (b := x2) rfl rfl ?_
          show pr K K d tb_M168 151 [(0, vi x0), (1, vi x1), (2, vi x2)] [vi (ipl x1 x2)] s _
          have h8 : i32 (ipl x1 x2) := i32_in _
          refine pr_reti rfl rfl ?_
          exact .inl ⟨_, ipl x1 x2, _, rfl, ⟨rfl, h8⟩, rfl, hE⟩
        · refine mq_f h7 ?_
          by_cases h9 : x0 = 45
          · refine mq_t h9 ?_
            refine pr_lsw rfl (by decide) hx0 (by rw [h9]) rfl ?_
            refine pr_n (pc2 := 154) (lv2 := [(0, vi x0), (1, vi x1), (2, vi x2)]) (st2 := [vi x2, vi x1]) 2 (fun _ _ => rfl) ?_
            refine pr_i2 (a := x1) (b := x2) rfl rfl ?_
            show pr K K d tb_M168 155 [(0, vi x0), (1, vi x1), (2, vi x2)] [vi (imi x1 x2)] s _
            have h10 : i32 (imi x1 x2) := i32_in _
            refine pr_reti rfl rfl ?_
            exact .inl ⟨_, imi x1 x2, _, rfl, ⟨rfl, h10⟩, rfl, hE⟩
          · refine mq_f h9 ?_
            by_cases h11 : x0 = 47
            · refine mq_t h11 ?_
              refine pr_lsw rfl (by decide) hx0 (by rw [h11]) rfl ?_
              refine pr_n (pc2 := 161) (lv2 := [(0, vi x0), (1, vi x1), (2, vi x2)]) (st2 := [vi x2]) 1 (fun _ _ => rfl) ?_
              by_cases h12 : x2 ≠ 0
              · refine mq_t h12 ?_
                refine pr_if1t rfl rfl hx2 h12 ?_
                refine pr_n (pc2 := 170) (lv2 := [(0, vi x0), (1, vi x1), (2, vi x2)]) (st2 := [vi x2, vi x1]) 2 (fun _ _ => rfl) ?_
                refine pr_idiv (a := x1) (b := x2) rfl ?_
                show pr K K d tb_M168 171 [(0, vi x0), (1, vi x1), (2, vi x2)] [vi (dv0 x1 x2)] s _
                refine pr_reti rfl rfl ?_
                exact .inl ⟨_, dv0 x1 x2, _, rfl, ⟨rfl, (i32_in _)⟩, rfl, hE⟩
              · refine mq_f h12 ?_
                refine pr_if1f rfl rfl hx2 h12 ?_
                refine pr_n (pc2 := 171) (lv2 := [(0, vi x0), (1, vi x1), (2, vi x2)]) (st2 := [vi 0]) 2 (fun _ _ => rfl) ?_
                refine pr_end (fun _ _ => rfl) ?_
                exact .inl ⟨_, 0, _, rfl, ⟨rfl, (i32_n rfl)⟩, rfl, hE⟩
            · refine mq_f h11 ?_
              by_cases h13 : x0 = 60
              · refine mq_t h13 ?_
                refine pr_lsw rfl (by decide) hx0 (by rw [h13]) rfl ?_
                refine pr_n (pc2 := 268) (lv2 := [(0, vi x0), (1, vi x1), (2, vi x2)]) (st2 := [vi x2, vi x1]) 2 (fun _ _ => rfl) ?_
                by_cases h14 : x2 ≤ x1
                · refine mq_t h14 ?_
                  refine pr_if2t rfl rfl hx1 hx2 h14 ?_
                  refine pr_n (pc2 := 320) (lv2 := [(3, vi 0), (0, vi x0), (1, vi x1), (2, vi x2)]) (st2 := [vi 0]) 4 (fun _ _ => rfl) ?_
                  refine pr_n (pc2 := 328) (lv2 := [(3, vi 0), (0, vi x0), (1, vi x1), (2, vi x2)]) (st2 := [vi 0]) 2 (fun _ _ => rfl) ?_
                  refine pr_end (fun _ _ => rfl) ?_
                  exact .inl ⟨_, 0, _, rfl, ⟨rfl, (i32_n rfl)⟩, rfl, hE⟩
                · refine mq_f h14 ?_
                  refine pr_if2f rfl rfl hx1 hx2 h14 ?_
                  refine pr_n (pc2 := 320) (lv2 := [(3, vi 1), (0, vi x0), (1, vi x1), (2, vi x2)]) (st2 := [vi 1]) 5 (fun _ _ => rfl) ?_
                  refine pr_n (pc2 := 328) (lv2 := [(3, vi 1), (0, vi x0), (1, vi x1), (2, vi x2)]) (st2 := [vi 1]) 3 (fun _ _ => rfl) ?_
                  refine pr_end (fun _ _ => rfl) ?_
                  exact .inl ⟨_, 1, _, rfl, ⟨rfl, (i32_n rfl)⟩, rfl, hE⟩
              · refine mq_f h13 ?_
                by_cases h15 : x0 = 62
                · refine mq_t h15 ?_
                  refine pr_lsw rfl (by decide) hx0 (by rw [h15]) rfl ?_
                  refine pr_n (pc2 := 296) (lv2 := [(0, vi x0), (1, vi x1), (2, vi x2)]) (st2 := [vi x2, vi x1]) 2 (fun _ _ => rfl) ?_
                  by_cases h16 : x1 ≤ x2
                  · refine mq_t h16 ?_
                    refine pr_if2t rfl rfl hx1 hx2 h16 ?_
                    refine pr_n (pc2 := 320) (lv2 := [(3, vi 0), (0, vi x0), (1, vi x1), (2, vi x2)]) (st2 := [vi 0]) 4 (fun _ _ => rfl) ?_
                    refine pr_n (pc2 := 328) (lv2 := [(3, vi 0), (0, vi x0), (1, vi x1), (2, vi x2)]) (st2 := [vi 0]) 2 (fun _ _ => rfl) ?_
                    refine pr_end (fun _ _ => rfl) ?_
                    exact .inl ⟨_, 0, _, rfl, ⟨rfl, (i32_n rfl)⟩, rfl, hE⟩
                  · refine mq_f h16 ?_
                    refine pr_if2f rfl rfl hx1 hx2 h16 ?_
                    refine pr_n (pc2 := 320) (lv2 := [(3, vi 1), (0, vi x0), (1, vi x1), (2, vi x2)]) (st2 := [vi 1]) 5 (fun _ _ => rfl) ?_
                    refine pr_n (pc2 := 328) (lv2 := [(3, vi 1), (0, vi x0), (1, vi x1), (2, vi x2)]) (st2 := [vi 1]) 3 (fun _ _ => rfl) ?_
                    refine pr_end (fun _ _ => rfl) ?_
                    exact .inl ⟨_, 1, _, rfl, ⟨rfl, (i32_n rfl)⟩, rfl, hE⟩
                · refine mq_f h15 ?_
                  by_cases h17 : x0 = 94
                  · refine mq_t h17 ?_
                    refine pr_lsw rfl (by decide) hx0 (by rw [h17]) rfl ?_
                    refine pr_n (pc2 := 194) (lv2 := [(0, vi x0), (1, vi x1), (2, vi x2)]) (st2 := [vi x2, vi x1]) 2 (fun _ _ => rfl) ?_
                    refine pr_i2 (a := x1) (b := x2) rfl rfl ?_
                    show pr K K d tb_M168 195 [(0, vi x0), (1, vi x1), (2, vi x2)] [vi (ixo x1 x2)] s _
                    have h18 : i32 (ixo x1 x2) := i32_in _
                    refine pr_reti rfl rfl ?_
                    exact .inl ⟨_, ixo x1 x2, _, rfl, ⟨rfl, h18⟩, rfl, hE⟩
                  · refine mq_f h17 ?_
                    by_cases h19 : x0 = 124
                    · refine mq_t h19 ?_
                      refine pr_lsw rfl (by decide) hx0 (by rw [h19]) rfl ?_
                      refine pr_n (pc2 := 190) (lv2 := [(0, vi x0), (1, vi x1), (2, vi x2)]) (st2 := [vi x2, vi x1]) 2 (fun _ _ => rfl) ?_
                      refine pr_i2 (a := x1) (b := x2) rfl rfl ?_
                      show pr K K d tb_M168 191 [(0, vi x0), (1, vi x1), (2, vi x2)] [vi (ior x1 x2)] s _
                      have h20 : i32 (ior x1 x2) := i32_in _
                      refine pr_reti rfl rfl ?_
                      exact .inl ⟨_, ior x1 x2, _, rfl, ⟨rfl, h20⟩, rfl, hE⟩
                    · refine mq_f h19 ?_
                      by_cases h21 : x0 = 9766
                      · refine mq_t h21 ?_
                        refine pr_lsw rfl (by decide) hx0 (by rw [h21]) rfl ?_
                        refine pr_n (pc2 := 205) (lv2 := [(0, vi x0), (1, vi x1), (2, vi x2)]) (st2 := [vi x1]) 1 (fun _ _ => rfl) ?_
                        by_cases h22 : x1 = 0
                        · refine mq_t h22 ?_
                          refine pr_if1t rfl rfl hx1 h22 ?_
                          refine pr_n (pc2 := 320) (lv2 := [(3, vi 0), (0, vi x0), (1, vi x1), (2, vi x2)]) (st2 := [vi 0]) 4 (fun _ _ => rfl) ?_
                          refine pr_n (pc2 := 328) (lv2 := [(3, vi 0), (0, vi x0), (1, vi x1), (2, vi x2)]) (st2 := [vi 0]) 2 (fun _ _ => rfl) ?_
                          refine pr_end (fun _ _ => rfl) ?_
                          exact .inl ⟨_, 0, _, rfl, ⟨rfl, (i32_n rfl)⟩, rfl, hE⟩
                        · refine mq_f h22 ?_
                          refine pr_if1f rfl rfl hx1 h22 ?_
                          refine pr_n (pc2 := 209) (lv2 := [(0, vi x0), (1, vi x1), (2, vi x2)]) (st2 := [vi x2]) 1 (fun _ _ => rfl) ?_
                          by_cases h23 : x2 = 0
                          · refine mq_t h23 ?_
                            refine pr_if1t rfl rfl hx2 h23 ?_
                            refine pr_n (pc2 := 320) (lv2 := [(3, vi 0), (0, vi x0), (1, vi x1), (2, vi x2)]) (st2 := [vi 0]) 4 (fun _ _ => rfl) ?_
                            refine pr_n (pc2 := 328) (lv2 := [(3, vi 0), (0, vi x0), (1, vi x1), (2, vi x2)]) (st2 := [vi 0]) 2 (fun _ _ => rfl) ?_
                            refine pr_end (fun _ _ => rfl) ?_
                            exact .inl ⟨_, 0, _, rfl, ⟨rfl, (i32_n rfl)⟩, rfl, hE⟩
                          · refine mq_f h23 ?_
                            refine pr_if1f rfl rfl hx2 h23 ?_
                            refine pr_n (pc2 := 320) (lv2 := [(3, vi 1), (0, vi x0), (1, vi x1), (2, vi x2)]) (st2 := [vi 1]) 5 (fun _ _ => rfl) ?_
                            refine pr_n (pc2 := 328) (lv2 := [(3, vi 1), (0, vi x0), (1, vi x1), (2, vi x2)]) (st2 := [vi 1]) 3 (fun _ _ => rfl) ?_
                            refine pr_end (fun _ _ => rfl) ?_
                            exact .inl ⟨_, 1, _, rfl, ⟨rfl, (i32_n rfl)⟩, rfl, hE⟩
                      · refine mq_f h21 ?_
                        by_cases h24 : x0 = 15420
                        · refine mq_t h24 ?_
                          refine pr_lsw rfl (by decide) hx0 (by rw [h24]) rfl ?_
                          refine pr_n (pc2 := 198) (lv2 := [(0, vi x0), (1, vi x1), (2, vi x2)]) (st2 := [vi x2, vi x1]) 2 (fun _ _ => rfl) ?_
                          refine pr_i2 (a := x1) (b := x2) rfl rfl ?_
                          show pr K K d tb_M168 199 [(0, vi x0), (1, vi x1), (2, vi x2)] [vi (isl x1 x2)] s _
                          have h25 : i32 (isl x1 x2) := i32_in _
                          refine pr_reti rfl rfl ?_
                          exact .inl ⟨_, isl x1 x2, _, rfl, ⟨rfl, h25⟩, rfl, hE⟩
                        · refine mq_f h24 ?_
                          by_cases h26 : x0 = 15649
                          · refine mq_t h26 ?_
                            refine pr_lsw rfl (by decide) hx0 (by rw [h26]) rfl ?_
                            refine pr_n (pc2 := 254) (lv2 := [(0, vi x0), (1, vi x1), (2, vi x2)]) (st2 := [vi x2, vi x1]) 2 (fun _ _ => rfl) ?_
                            by_cases h27 : x1 = x2
                            · refine mq_t h27 ?_
                              refine pr_if2t rfl rfl hx1 hx2 h27 ?_
                              refine pr_n (pc2 := 320) (lv2 := [(3, vi 0), (0, vi x0), (1, vi x1), (2, vi x2)]) (st2 := [vi 0]) 4 (fun _ _ => rfl) ?_
                              refine pr_n (pc2 := 328) (lv2 := [(3, vi 0), (0, vi x0), (1, vi x1), (2, vi x2)]) (st2 := [vi 0]) 2 (fun _ _ => rfl) ?_
                              refine pr_end (fun _ _ => rfl) ?_
                              exact .inl ⟨_, 0, _, rfl, ⟨rfl, (i32_n rfl)⟩, rfl, hE⟩
                            · refine mq_f h27 ?_
                              refine pr_if2f rfl rfl hx1 hx2 h27 ?_
                              refine pr_n (pc2 := 320) (lv2 := [(3, vi 1), (0, vi x0), (1, vi x1), (2, vi x2)]) (st2 := [vi 1]) 5 (fun _ _ => rfl) ?_
                              refine pr_n (pc2 := 328) (lv2 := [(3, vi 1), (0, vi x0), (1, vi x1), (2, vi x2)]) (st2 := [vi 1]) 3 (fun _ _ => rfl) ?_
                              refine pr_end (fun _ _ => rfl) ?_
                              exact .inl ⟨_, 1, _, rfl, ⟨rfl, (i32_n rfl)⟩, rfl, hE⟩
                          · refine mq_f h26 ?_
                            by_cases h28 : x0 = 15676
                            · refine mq_t h28 ?_
                              refine pr_lsw rfl (by decide) hx0 (by rw [h28]) rfl ?_
                              refine pr_n (pc2 := 282) (lv2 := [(0, vi x0), (1, vi x1), (2, vi x2)]) (st2 := [vi x2, vi x1]) 2 (fun _ _ => rfl) ?_
                              by_cases h29 : x2 < x1
                              · refine mq_t h29 ?_
                                refine pr_if2t rfl rfl hx1 hx2 h29 ?_
                                refine pr_n (pc2 := 320) (lv2 := [(3, vi 0), (0, vi x0), (1, vi x1), (2, vi x2)]) (st2 := [vi 0]) 4 (fun _ _ => rfl) ?_
                                refine pr_n (pc2 := 328) (lv2 := [(3, vi 0), (0, vi x0), (1, vi x1), (2, vi x2)]) (st2 := [vi 0]) 2 (fun _ _ => rfl) ?_
                                refine pr_end (fun _ _ => rfl) ?_
                                exact .inl ⟨_, 0, _, rfl, ⟨rfl, (i32_n rfl)⟩, rfl, hE⟩
                              · refine mq_f h29 ?_
                                refine pr_if2f rfl rfl hx1 hx2 h29 ?_
                                refine pr_n (pc2 := 320) (lv2 := [(3, vi 1), (0, vi x0), (1, vi x1), (2, vi x2)]) (st2 := [vi 1]) 5 (fun _ _ => rfl) ?_
                                refine pr_n (pc2 := 328) (lv2 := [(3, vi 1), (0, vi x0), (1, vi x1), (2, vi x2)]) (st2 := [vi 1]) 3 (fun _ _ => rfl) ?_
                                refine pr_end (fun _ _ => rfl) ?_
                                exact .inl ⟨_, 1, _, rfl, ⟨rfl, (i32_n rfl)⟩, rfl, hE⟩
                            · refine mq_f h28 ?_
                              by_cases h30 : x0 = 15677
                              · refine mq_t h30 ?_
                                refine pr_lsw rfl (by decide) hx0 (by rw [h30]) rfl ?_
                                refine pr_n (pc2 := 240) (lv2 := [(0, vi x0), (1, vi x1), (2, vi x2)]) (st2 := [vi x2, vi x1]) 2 (fun _ _ => rfl) ?_
                                by_cases h31 : x1 ≠ x2
                                · refine mq_t h31 ?_
                                  refine pr_if2t rfl rfl hx1 hx2 h31 ?_
                                  refine pr_n (pc2 := 320) (lv2 := [(3, vi 0), (0, vi x0), (1, vi x1), (2, vi x2)]) (st2 := [vi 0]) 4 (fun _ _ => rfl) ?_
                                  refine pr_n (pc2 := 328) (lv2 := [(3, vi 0), (0, vi x0), (1, vi x1), (2, vi x2)]) (st2 := [vi 0]) 2 (fun _ _ => rfl) ?_
                                  refine pr_end (fun _ _ => rfl) ?_
                                  exact .inl ⟨_, 0, _, rfl, ⟨rfl, (i32_n rfl)⟩, rfl, hE⟩
                                · refine mq_f h31 ?_
                                  refine pr_if2f rfl rfl hx1 hx2 h31 ?_
                                  refine pr_n (pc2 := 320) (lv2 := [(3, vi 1), (0, vi x0), (1, vi x1), (2, vi x2)]) (st2 := [vi 1]) 5 (fun _ _ => rfl) ?_
                                  refine pr_n (pc2 := 328) (lv2 := [(3, vi 1), (0, vi x0), (1, vi x1), (2, vi x2)]) (st2 := [vi 1]) 3 (fun _ _ => rfl) ?_
                                  refine pr_end (fun _ _ => rfl) ?_
                                  exact .inl ⟨_, 1, _, rfl, ⟨rfl, (i32_n rfl)⟩, rfl, hE⟩
                              · refine mq_f h30 ?_
                                by_cases h32 : x0 = 15934
                                · refine mq_t h32 ?_
                                  refine pr_lsw rfl (by decide) hx0 (by rw [h32]) rfl ?_
                                  refine pr_n (pc2 := 202) (lv2 := [(0, vi x0), (1, vi x1), (2, vi x2)]) (st2 := [vi x2, vi x1]) 2 (fun _ _ => rfl) ?_
                                  refine pr_i2 (a := x1) (b := x2) rfl rfl ?_
                                  show pr K K d tb_M168 203 [(0, vi x0), (1, vi x1), (2, vi x2)] [vi (isr x1 x2)] s _
                                  have h33 : i32 (isr x1 x2) := i32_in _
                                  refine pr_reti rfl rfl ?_
                                  exact .inl ⟨_, isr x1 x2, _, rfl, ⟨rfl, h33⟩, rfl, hE⟩
                                · refine mq_f h32 ?_
                                  by_cases h34 : x0 = 31868
                                  · refine mq_t h34 ?_
                                    refine pr_lsw rfl (by decide) hx0 (by rw [h34]) rfl ?_
                                    refine pr_n (pc2 := 222) (lv2 := [(0, vi x0), (1, vi x1), (2, vi x2)]) (st2 := [vi x1]) 1 (fun _ _ => rfl) ?_
                                    by_cases h35 : x1 ≠ 0
                                    · refine mq_t h35 ?_
                                      refine pr_if1t rfl rfl hx1 h35 ?_
                                      refine pr_n (pc2 := 320) (lv2 := [(3, vi 1), (0, vi x0), (1, vi x1), (2, vi x2)]) (st2 := [vi 1]) 5 (fun _ _ => rfl) ?_
                                      refine pr_n (pc2 := 328) (lv2 := [(3, vi 1), (0, vi x0), (1, vi x1), (2, vi x2)]) (st2 := [vi 1]) 3 (fun _ _ => rfl) ?_
                                      refine pr_end (fun _ _ => rfl) ?_
                                      exact .inl ⟨_, 1, _, rfl, ⟨rfl, (i32_n rfl)⟩, rfl, hE⟩
                                    · refine mq_f h35 ?_
                                      refine pr_if1f rfl rfl hx1 h35 ?_
                                      refine pr_n (pc2 := 226) (lv2 := [(0, vi x0), (1, vi x1), (2, vi x2)]) (st2 := [vi x2]) 1 (fun _ _ => rfl) ?_
                                      by_cases h36 : x2 = 0
                                      · refine mq_t h36 ?_
                                        refine pr_if1t rfl rfl hx2 h36 ?_
                                        refine pr_n (pc2 := 320) (lv2 := [(3, vi 0), (0, vi x0), (1, vi x1), (2, vi x2)]) (st2 := [vi 0]) 4 (fun _ _ => rfl) ?_
                                        refine pr_n (pc2 := 328) (lv2 := [(3, vi 0), (0, vi x0), (1, vi x1), (2, vi x2)]) (st2 := [vi 0]) 2 (fun _ _ => rfl) ?_
                                        refine pr_end (fun _ _ => rfl) ?_
                                        exact .inl ⟨_, 0, _, rfl, ⟨rfl, (i32_n rfl)⟩, rfl, hE⟩
                                      · refine mq_f h36 ?_
                                        refine pr_if1f rfl rfl hx2 h36 ?_
                                        refine pr_n (pc2 := 320) (lv2 := [(3, vi 1), (0, vi x0), (1, vi x1), (2, vi x2)]) (st2 := [vi 1]) 5 (fun _ _ => rfl) ?_
                                        refine pr_n (pc2 := 328) (lv2 := [(3, vi 1), (0, vi x0), (1, vi x1), (2, vi x2)]) (st2 := [vi 1]) 3 (fun _ _ => rfl) ?_
                                        refine pr_end (fun _ _ => rfl) ?_
                                        exact .inl ⟨_, 1, _, rfl, ⟨rfl, (i32_n rfl)⟩, rfl, hE⟩
                                  · refine mq_f h34 ?_
                                    refine pr_lsw rfl (by decide) hx0 (ls_no _ ⟨by omega, by omega, by omega, by omega, by omega, by omega, by omega, by omega, by omega, by omega, by omega, by omega, by omega, by omega, by omega, by omega, by omega, trivial⟩) rfl ?_
                                    refine pr_n (pc2 := 310) (lv2 := [(0, vi x0), (1, vi x1), (2, vi x2)]) (st2 := [vi x2, vi x1]) 2 (fun _ _ => rfl) ?_
                                    by_cases h37 : x1 < x2
                                    · refine mq_t h37 ?_
                                      refine pr_if2t rfl rfl hx1 hx2 h37 ?_
                                      refine pr_n (pc2 := 320) (lv2 := [(3, vi 0), (0, vi x0), (1, vi x1), (2, vi x2)]) (st2 := [vi 0]) 3 (fun _ _ => rfl) ?_
                                      refine pr_n (pc2 := 328) (lv2 := [(3, vi 0), (0, vi x0), (1, vi x1), (2, vi x2)]) (st2 := [vi 0]) 2 (fun _ _ => rfl) ?_
                                      refine pr_end (fun _ _ => rfl) ?_
                                      exact .inl ⟨_, 0, _, rfl, ⟨rfl, (i32_n rfl)⟩, rfl, hE⟩
                                    · refine mq_f h37 ?_
                                      refine pr_if2f rfl rfl hx1 hx2 h37 ?_
                                      refine pr_n (pc2 := 320) (lv2 := [(3, vi 1), (0, vi x0), (1, vi x1), (2, vi x2)]) (st2 := [vi 1]) 4 (fun _ _ => rfl) ?_
                                      refine pr_n (pc2 := 328) (lv2 := [(3, vi 1), (0, vi x0), (1, vi x1), (2, vi x2)]) (st2 := [vi 1]) 3 (fun _ _ => rfl) ?_
                                      refine pr_end (fun _ _ => rfl) ?_
                                      exact .inl ⟨_, 1, _, rfl, ⟨rfl, (i32_n rfl)⟩, rfl, hE⟩
set_option maxHeartbeats 20000000 in
set_option maxRecDepth 100000 in
theorem em170 {K d C : Nat} (h_164 : eT164 K d C) (h_167 : eT167 K d C) (h_171 : eT171 K d C) (h_172 : eT172 K d C) : eT170 K (d + 1) C := by
  intro s t x1 x2 x3 x4 hE hx1 hx2 hx3 hx4
  have hC : C = 177 ∨ C = 186 := hE.1
  refine pcr_of (M := tb_M170) rfl ?_
  show pr K K d tb_M170 0 [(0, .ref 170), (1, vi x1), (2, vi x2), (3, vi x3), (4, vi x4)] [] s _
  rw [eG_170]
  unfold eM170
  refine pr_n (pc2 := 1) (lv2 := [(0, .ref 170), (1, vi x1), (2, vi x2), (3, vi x3), (4, vi x4)]) (st2 := [vi x2]) 1 (fun _ _ => rfl) ?_
  by_cases h1 : x2 = 13
  · refine mq_t h1 ?_
    refine pr_tsw rfl hx2 (by rw [h1]; rfl) rfl ?_
    refine pr_n (pc2 := 32) (lv2 := [(0, .ref 170), (1, vi x1), (2, vi x2), (3, vi x3), (4, vi x4)]) (st2 := [vi x3, vi 2, vi x1, .ref 170]) 4 (fun _ _ => rfl) ?_
    refine pr_s1 (args := [vi x1, vi 2, vi x3]) (rest := []) rfl rfl rfl rfl (Nat.le_of_ble_eq_true rfl) rfl (h_171 s t x1 2 x3 hE hx1 (i32_n rfl) hx3) e_wtE ?_
    rintro _ s2 ⟨rfl, _⟩ hE2
    show pr K K d tb_M170 35 [(0, .ref 170), (1, vi x1), (2, vi x2), (3, vi x3), (4, vi x4)] [] s2 _
    refine pr_end (fun _ _ => rfl) ?_
    exact .inl ⟨_, 0, _, rfl, ⟨rfl, rfl⟩, rfl, hE2⟩
  · refine mq_f h1 ?_
    by_cases h3 : x2 = 14
    · refine mq_t h3 ?_
      refine pr_tsw rfl hx2 (by rw [h3]; rfl) rfl ?_
      refine pr_n (pc2 := 40) (lv2 := [(0, .ref 170), (1, vi x1), (2, vi x2), (3, vi x3), (4, vi x4)]) (st2 := [vi x3, vi 3, vi x1, .ref 170]) 4 (fun _ _ => rfl) ?_
      refine pr_s1 (args := [vi x1, vi 3, vi x3]) (rest := []) rfl rfl rfl rfl (Nat.le_of_ble_eq_true rfl) rfl (h_171 s t x1 3 x3 hE hx1 (i32_n rfl) hx3) e_wtE ?_
      rintro _ s4 ⟨rfl, _⟩ hE4
      show pr K K d tb_M170 43 [(0, .ref 170), (1, vi x1), (2, vi x2), (3, vi x3), (4, vi x4)] [] s4 _
      refine pr_end (fun _ _ => rfl) ?_
      exact .inl ⟨_, 0, _, rfl, ⟨rfl, rfl⟩, rfl, hE4⟩
    · refine mq_f h3 ?_
      by_cases h5 : x2 = 15
      · refine mq_t h5 ?_
        refine pr_tsw rfl hx2 (by rw [h5]; rfl) rfl ?_
        refine pr_n (pc2 := 45) (lv2 := [(0, .ref 170), (1, vi x1), (2, vi x2), (3, vi x3), (4, vi x4)]) (st2 := [.ref 170]) 1 (fun _ _ => rfl) ?_
        refine pr_get (v := .ref 1630) rfl rfl rfl (by decide) (rv_ref (hE.2.1 170 51 1630 rfl)) fun _ => ?_
        refine pr_n (pc2 := 50) (lv2 := [(0, .ref 170), (1, vi x1), (2, vi x2), (3, vi x3), (4, vi x4)]) (st2 := [vi x3, vi 4, .ref 1630]) 2 (fun _ _ => rfl) ?_
        refine pr_i2 (a := 4) (b := x3) rfl rfl ?_
        show pr K K d tb_M170 51 [(0, .ref 170), (1, vi x1), (2, vi x2), (3, vi x3), (4, vi x4)] [vi (ipl 4 x3), .ref 1630] s _
        have h6 : i32 (ipl 4 x3) := i32_in _
        refine pr_aE (k2 := 1630) (a := ipl 4 x3) (v := vi (t 1630 ((ipl 4 x3).toNat))) hE rfl rfl rfl h6 (by decide) rfl rfl rfl fun h8 h9 h7 => ?_
        have h7 : i32 (t 1630 ((ipl 4 x3).toNat)) := h7
        refine pr_n (pc2 := 54) (lv2 := [(0, .ref 170), (1, vi x1), (2, vi x2), (3, vi x3), (4, vi x4)]) (st2 := [vi 40, vi (t 1630 ((ipl 4 x3).toNat))]) 1 (fun _ _ => rfl) ?_
        by_cases h10 : 40 ≤ t 1630 ((ipl 4 x3).toNat)
        · refine mq_t h10 ?_
          refine pr_if2t rfl rfl h7 (i32_n rfl) h10 ?_
          refine pr_n (pc2 := 96) (lv2 := [(0, .ref 170), (1, vi x1), (2, vi x2), (3, vi x3), (4, vi x4)]) (st2 := [.ref 170]) 1 (fun _ _ => rfl) ?_
          refine pr_get (v := .ref 205) rfl rfl rfl (by decide) (rv_ref (hE.2.1 170 40 205 rfl)) fun _ => ?_
          refine pr_n (pc2 := 102) (lv2 := [(0, .ref 170), (1, vi x1), (2, vi x2), (3, vi x3), (4, vi x4)]) (st2 := [vi x4, vi x1, .ref 205]) 2 (fun _ _ => rfl) ?_
          refine pr_sE (k2 := 205) (a := x1) (z := x4) hE rfl (by decide) rfl rfl hx1 (by decide) rfl (show i32 (x4) from hx4) (n0 rfl (by omega) (by omega)) rfl rfl (fun e => absurd e.1 (by decide)) (fun _ => trivial) fun h11 h12 s13 hE13 => ?_
          refine pr_n (pc2 := 107) (lv2 := [(0, .ref 170), (1, vi x1), (2, vi x2), (3, vi x3), (4, vi x4)]) (st2 := [vi x3, vi 4, vi x1, .ref 170]) 4 (fun _ _ => rfl) ?_
          refine pr_s1 (args := [vi x1, vi 4, vi x3]) (rest := []) rfl rfl rfl rfl (Nat.le_of_ble_eq_true rfl) rfl (h_171 s13 (up2 t 205 x1.toNat x4) x1 4 x3 hE13 hx1 (i32_n rfl) hx3) e_wtE ?_
          rintro _ s14 ⟨rfl, _⟩ hE14
          show pr K K d tb_M170 110 [(0, .ref 170), (1, vi x1), (2, vi x2), (3, vi x3), (4, vi x4)] [] s14 _
          refine pr_end (fun _ _ => rfl) ?_
          exact .inl ⟨_, 0, _, rfl, ⟨rfl, rfl⟩, rfl, hE14⟩
        · refine mq_f h10 ?_
          refine pr_if2f rfl rfl h7 (i32_n rfl) h10 ?_
          refine pr_n (pc2 := 58) (lv2 := [(0, .ref 170), (1, vi x1), (2, vi x2), (3, vi x3), (4, vi x4)]) (st2 := [.ref 170]) 1 (fun _ _ => rfl) ?_
          refine pr_get (v := .ref 1621) rfl rfl rfl (by decide) (rv_ref (hE.2.1 170 50 1621 rfl)) fun _ => ?_
          refine pr_n (pc2 := 63) (lv2 := [(0, .ref 170), (1, vi x1), (2, vi x2), (3, vi x3), (4, vi x4)]) (st2 := [vi x3, vi 4, .ref 1621]) 2 (fun _ _ => rfl) ?_
          refine pr_i2 (a := 4) (b := x3) rfl rfl ?_
          show pr K K d tb_M170 64 [(0, .ref 170), (1, vi x1), (2, vi x2), (3, vi x3), (4, vi x4)] [vi (ipl 4 x3), .ref 1621] s _
          refine pr_row (a := ipl 4 x3) (v := 1622 + ((ipl 4 x3).toNat)) rfl rfl rfl rfl h6 (by decide) (fun h1 h2 => hE.2.1 _ _ _ (rc_in (by omega))) fun h16 h17 => ?_
          show pr K K d tb_M170 65 [(0, .ref 170), (1, vi x1), (2, vi x2), (3, vi x3), (4, vi x4)] [.ref (1622 + ((ipl 4 x3).toNat))] s _
          refine pr_n (pc2 := 66) (lv2 := [(0, .ref 170), (1, vi x1), (2, vi x2), (3, vi x3), (4, vi x4)]) (st2 := [.ref 170, .ref (1622 + ((ipl 4 x3).toNat))]) 1 (fun _ _ => rfl) ?_
          refine pr_get (v := .ref 1630) rfl rfl rfl (by decide) (rv_ref (hE.2.1 170 51 1630 rfl)) fun _ => ?_
          refine pr_n (pc2 := 71) (lv2 := [(0, .ref 170), (1, vi x1), (2, vi x2), (3, vi x3), (4, vi x4)]) (st2 := [vi x3, vi 4, .ref 1630, .ref (1622 + ((ipl 4 x3).toNat))]) 2 (fun _ _ => rfl) ?_
          refine pr_i2 (a := 4) (b := x3) rfl rfl ?_
          show pr K K d tb_M170 72 [(0, .ref 170), (1, vi x1), (2, vi x2), (3, vi x3), (4, vi x4)] [vi (ipl 4 x3), .ref 1630, .ref (1622 + ((ipl 4 x3).toNat))] s _
          refine pr_aE (k2 := 1630) (a := ipl 4 x3) (v := vi (t 1630 ((ipl 4 x3).toNat))) hE rfl rfl rfl h6 (by decide) rfl rfl rfl fun h20 h21 h19 => ?_
          have h19 : i32 (t 1630 ((ipl 4 x3).toNat)) := h19
          refine pr_n (pc2 := 75) (lv2 := [(0, .ref 170), (1, vi x1), (2, vi x2), (3, vi x3), (4, vi x4)]) (st2 := [vi x1, .ref 170, vi (t 1630 ((ipl 4 x3).toNat)), .ref (1622 + ((ipl 4 x3).toNat))]) 2 (fun _ _ => rfl) ?_
          refine pr_s1 (args := [vi x1]) (rest := [vi (t 1630 ((ipl 4 x3).toNat)), .ref (1622 + ((ipl 4 x3).toNat))]) rfl rfl rfl rfl (Nat.le_of_ble_eq_true rfl) rfl (h_167 s t x1 hE hx1) e_pos ?_
          rintro _ s22 ⟨rfl, hz22⟩ hE22
          show pr K K d tb_M170 78 [(0, .ref 170), (1, vi x1), (2, vi x2), (3, vi x3), (4, vi x4)] [vi (poz t x1), vi (t 1630 ((ipl 4 x3).toNat)), .ref (1622 + ((ipl 4 x3).toNat))] s22 _
          refine pr_i2s (a := poz t x1) rfl ?_
          show pr K K d tb_M170 79 [(0, .ref 170), (1, vi x1), (2, vi x2), (3, vi x3), (4, vi x4)] [vi (i2s (poz t x1)), vi (t 1630 ((ipl 4 x3).toNat)), .ref (1622 + ((ipl 4 x3).toNat))] s22 _
          refine pr_sE (k2 := (1622 + ((ipl 4 x3).toNat))) (a := t 1630 ((ipl 4 x3).toNat)) (z := i2s (poz t x1)) hE22 rfl (show 96 ≤ 1622 + ((ipl 4 x3).toNat) by omega) (TG_in (by omega)) rfl h19 (by decide) rfl (show i32 (i2s (poz t x1)) from i2s_i32) (rc_hi (by omega) (by omega) (by omega)) (pe_hi (by omega)) (re_in (by omega)) (fun e => absurd e.1 (show ¬ (1622 + ((ipl 4 x3).toNat) = 170) by omega)) (fun _ => trivial) fun h23 h24 s25 hE25 => ?_
          refine pr_n (pc2 := 81) (lv2 := [(0, .ref 170), (1, vi x1), (2, vi x2), (3, vi x3), (4, vi x4)]) (st2 := [.ref 170]) 1 (fun _ _ => rfl) ?_
          refine pr_get (v := .ref 1630) rfl rfl rfl (by decide) (rv_ref (hE25.2.1 170 51 1630 rfl)) fun _ => ?_
          refine pr_n (pc2 := 86) (lv2 := [(0, .ref 170), (1, vi x1), (2, vi x2), (3, vi x3), (4, vi x4)]) (st2 := [vi x3, vi 4, .ref 1630]) 2 (fun _ _ => rfl) ?_
          refine pr_i2 (a := 4) (b := x3) rfl rfl ?_
          show pr K K d tb_M170 87 [(0, .ref 170), (1, vi x1), (2, vi x2), (3, vi x3), (4, vi x4)] [vi (ipl 4 x3), .ref 1630] s25 _
          refine pr_n (pc2 := 88) (lv2 := [(0, .ref 170), (1, vi x1), (2, vi x2), (3, vi x3), (4, vi x4)]) (st2 := [vi (ipl 4 x3), .ref 1630, vi (ipl 4 x3), .ref 1630]) 1 (fun _ _ => rfl) ?_
          refine pr_aE (k2 := 1630) (a := ipl 4 x3) (v := vi ((up2 ((pos t x1)) (1622 + ((ipl 4 x3).toNat)) ((t 1630 ((ipl 4 x3).toNat)).toNat) (i2s (poz t x1))) 1630 ((ipl 4 x3).toNat))) hE25 rfl rfl rfl h6 (by decide) rfl rfl (by first | rfl | (rw [up_jn (by decide)]; rfl) | (rw [up_jn (by decide), up_jn (by decide)]; rfl)) fun h28 h29 h27 => ?_
          have h27 : i32 ((up2 ((pos t x1)) (1622 + ((ipl 4 x3).toNat)) ((t 1630 ((ipl 4 x3).toNat)).toNat) (i2s (poz t x1))) 1630 ((ipl 4 x3).toNat)) := h27
          refine pr_n (pc2 := 90) (lv2 := [(0, .ref 170), (1, vi x1), (2, vi x2), (3, vi x3), (4, vi x4)]) (st2 := [vi 1, vi ((up2 ((pos t x1)) (1622 + ((ipl 4 x3).toNat)) ((t 1630 ((ipl 4 x3).toNat)).toNat) (i2s (poz t x1))) 1630 ((ipl 4 x3).toNat)), vi (ipl 4 x3), .ref 1630]) 1 (fun _ _ => rfl) ?_
          refine pr_i2 (a := (up2 ((pos t x1)) (1622 + ((ipl 4 x3).toNat)) ((t 1630 ((ipl 4 x3).toNat)).toNat) (i2s (poz t x1))) 1630 ((ipl 4 x3).toNat)) (b := 1) rfl rfl ?_
          show pr K K d tb_M170 91 [(0, .ref 170), (1, vi x1), (2, vi x2), (3, vi x3), (4, vi x4)] [vi (ipl ((up2 ((pos t x1)) (1622 + ((ipl 4 x3).toNat)) ((t 1630 ((ipl 4 x3).toNat)).toNat) (i2s (poz t x1))) 1630 ((ipl 4 x3).toNat)) 1), vi (ipl 4 x3), .ref 1630] s25 _
          have h30 : i32 (ipl ((up2 ((pos t x1)) (1622 + ((ipl 4 x3).toNat)) ((t 1630 ((ipl 4 x3).toNat)).toNat) (i2s (poz t x1))) 1630 ((ipl 4 x3).toNat)) 1) := i32_in _
          refine pr_sE (k2 := 1630) (a := ipl 4 x3) (z := ipl ((up2 ((pos t x1)) (1622 + ((ipl 4 x3).toNat)) ((t 1630 ((ipl 4 x3).toNat)).toNat) (i2s (poz t x1))) 1630 ((ipl 4 x3).toNat)) 1) hE25 rfl (by decide) rfl rfl h6 (by decide) rfl (show i32 (ipl ((up2 ((pos t x1)) (1622 + ((ipl 4 x3).toNat)) ((t 1630 ((ipl 4 x3).toNat)).toNat) (i2s (poz t x1))) 1630 ((ipl 4 x3).toNat)) 1) from h30) (rc_hi (by omega) (by omega) (by omega)) rfl rfl (fun e => absurd e.1 (by decide)) (fun _ => trivial) fun h31 h32 s33 hE33 => ?_
          refine pr_n (pc2 := 110) (lv2 := [(0, .ref 170), (1, vi x1), (2, vi x2), (3, vi x3), (4, vi x4)]) (st2 := []) 1 (fun _ _ => rfl) ?_
          refine pr_end (fun _ _ => rfl) ?_
          exact .inl ⟨_, 0, _, rfl, ⟨rfl, rfl⟩, rfl, hE33⟩
      · refine mq_f h5 ?_
        refine pr_tsw rfl hx2 (if_pos (by omega)) rfl ?_
        refine pr_n (pc2 := 112) (lv2 := [(0, .ref 170), (1, vi x1), (2, vi x2), (3, vi x3), (4, vi x4)]) (st2 := [.ref 170]) 1 (fun _ _ => rfl) ?_
        refine pr_get (v := .ref 1630) rfl rfl rfl (by decide) (rv_ref (hE.2.1 170 51 1630 rfl)) fun _ => ?_
        refine pr_n (pc2 := 116) (lv2 := [(0, .ref 170), (1, vi x1), (2, vi x2), (3, vi x3), (4, vi x4)]) (st2 := [vi x3, .ref 1630]) 1 (fun _ _ => rfl) ?_
        refine pr_aE (k2 := 1630) (a := x3) (v := vi (t 1630 x3.toNat)) hE rfl rfl rfl hx3 (by decide) rfl rfl rfl fun h35 h36 h34 => ?_
        have h34 : i32 (t 1630 x3.toNat) := h34
        by_cases h37 : t 1630 x3.toNat ≤ 0
        · refine mq_t h37 ?_
          refine pr_if1t rfl rfl h34 h37 ?_
          refine pr_n (pc2 := 134) (lv2 := [(0, .ref 170), (1, vi x1), (2, vi x2), (3, vi x3), (4, vi x4)]) (st2 := [.ref 170]) 1 (fun _ _ => rfl) ?_
          refine pr_get (v := .ref 205) rfl rfl rfl (by decide) (rv_ref (hE.2.1 170 40 205 rfl)) fun _ => ?_
          refine pr_n (pc2 := 140) (lv2 := [(0, .ref 170), (1, vi x1), (2, vi x2), (3, vi x3), (4, vi x4)]) (st2 := [vi x4, vi x1, .ref 205]) 2 (fun _ _ => rfl) ?_
          refine pr_sE (k2 := 205) (a := x1) (z := x4) hE rfl (by decide) rfl rfl hx1 (by decide) rfl (show i32 (x4) from hx4) (n0 rfl (by omega) (by omega)) rfl rfl (fun e => absurd e.1 (by decide)) (fun _ => trivial) fun h38 h39 s40 hE40 => ?_
          refine pr_n (pc2 := 145) (lv2 := [(0, .ref 170), (1, vi x1), (2, vi x2), (3, vi x3), (4, vi x4)]) (st2 := [vi x3, vi 5, vi x1, .ref 170]) 4 (fun _ _ => rfl) ?_
          refine pr_s1 (args := [vi x1, vi 5, vi x3]) (rest := []) rfl rfl rfl rfl (Nat.le_of_ble_eq_true rfl) rfl (h_171 s40 (up2 t 205 x1.toNat x4) x1 5 x3 hE40 hx1 (i32_n rfl) hx3) e_wtE ?_
          rintro _ s41 ⟨rfl, _⟩ hE41
          show pr K K d tb_M170 148 [(0, .ref 170), (1, vi x1), (2, vi x2), (3, vi x3), (4, vi x4)] [] s41 _
          refine pr_end (fun _ _ => rfl) ?_
          exact .inl ⟨_, 0, _, rfl, ⟨rfl, rfl⟩, rfl, hE41⟩
        · refine mq_f h37 ?_
          refine pr_if1f rfl rfl h34 h37 ?_
          refine pr_n (pc2 := 124) (lv2 := [(0, .ref 170), (1, vi x1), (2, vi x2), (3, vi x3), (4, vi x4)]) (st2 := [vi x3, .ref 170, vi x1, .ref 170]) 4 (fun _ _ => rfl) ?_
          refine pr_m1 (args := [vi x3]) (rest := [vi x1, .ref 170]) rfl rfl rfl rfl (Nat.le_of_ble_eq_true rfl) rfl (h_172 s t x3 hE hx3) ?_
          rintro _ z42 t42 s42 ⟨rfl, hz42⟩ hE42
          show pr K K d tb_M170 127 [(0, .ref 170), (1, vi x1), (2, vi x2), (3, vi x3), (4, vi x4)] [vi z42, vi x1, .ref 170] s42 _
          refine pr_s1 (args := [vi x1, vi z42]) (rest := []) rfl rfl rfl rfl (Nat.le_of_ble_eq_true rfl) rfl (h_164 s42 t42 x1 z42 hE42 hx1 hz42) e_phE ?_
          rintro _ s43 ⟨rfl, _⟩ hE43
          show pr K K d tb_M170 130 [(0, .ref 170), (1, vi x1), (2, vi x2), (3, vi x3), (4, vi x4)] [] s43 _
          refine pr_n (pc2 := 148) (lv2 := [(0, .ref 170), (1, vi x1), (2, vi x2), (3, vi x3), (4, vi x4)]) (st2 := []) 1 (fun _ _ => rfl) ?_
          refine pr_end (fun _ _ => rfl) ?_
          exact .inl ⟨_, 0, _, rfl, ⟨rfl, rfl⟩, rfl, hE43⟩
set_option maxHeartbeats 20000000 in
set_option maxRecDepth 100000 in
theorem eu169_0 {N K d C : Nat} (h_161 : eT161 K d C) (h_166 : eT166 K d C) (ih : ∀ N2, N2 < N → eA169 N2 K d C) : eU169_0 N K d C := by
  intro s t y4 y3 y2 y1 hE hy4 hy3 hy2 hy1
  have hC : C = 177 ∨ C = 186 := hE.1
  rw [eG_169_27]
  unfold eM169_27
  refine pr_lt (pc2 := 29) (lv2 := [(4, vi y4), (3, vi y3), (2, vi y2), (0, .ref 170), (1, vi y1)]) (st2 := [vi y4]) (fun _ _ => rfl) fun N2 hN2 => ?_
  refine pr_n (pc2 := 30) (lv2 := [(4, vi y4), (3, vi y3), (2, vi y2), (0, .ref 170), (1, vi y1)]) (st2 := [vi y2, vi y4]) 1 (fun _ _ => rfl) ?_
  by_cases h1 : y2 ≤ y4
  · refine mq_t h1 ?_
    refine pr_if2t rfl rfl hy4 hy2 h1 ?_
    refine pr_n (pc2 := 106) (lv2 := [(4, vi y4), (3, vi y3), (2, vi y2), (0, .ref 170), (1, vi y1)]) (st2 := [.ref 170]) 1 (fun _ _ => rfl) ?_
    refine pr_get (v := .ref 211) rfl rfl rfl (by decide) (rv_ref (hE.2.1 170 46 211 rfl)) fun _ => ?_
    refine pr_n (pc2 := 111) (lv2 := [(4, vi y4), (3, vi y3), (2, vi y2), (0, .ref 170), (1, vi y1)]) (st2 := [vi y2, vi y1, .ref 211]) 2 (fun _ _ => rfl) ?_
    refine pr_sE (k2 := 211) (a := y1) (z := y2) hE rfl (by decide) rfl rfl hy1 (by decide) rfl (show i32 (y2) from hy2) (n0 rfl (by omega) (by omega)) rfl rfl (fun e => absurd e.1 (by decide)) (fun _ => trivial) fun h2 h3 s4 hE4 => ?_
    refine pr_n (pc2 := 113) (lv2 := [(4, vi y4), (3, vi y3), (2, vi y2), (0, .ref 170), (1, vi y1)]) (st2 := [.ref 170]) 1 (fun _ _ => rfl) ?_
    refine pr_get (v := .ref 206) rfl rfl rfl (by decide) (rv_ref (hE4.2.1 170 41 206 rfl)) fun _ => ?_
    refine pr_n (pc2 := 119) (lv2 := [(4, vi y4), (3, vi y3), (2, vi y2), (0, .ref 170), (1, vi y1)]) (st2 := [vi 6, vi y1, .ref 206]) 2 (fun _ _ => rfl) ?_
    refine pr_sE (k2 := 206) (a := y1) (z := 6) hE4 rfl (by decide) rfl rfl hy1 (by decide) rfl (show i32 (6) from (i32_n rfl)) (n0 rfl (by omega) (by omega)) rfl rfl (fun e => absurd e.1 (by decide)) (fun _ => trivial) fun h5 h6 s7 hE7 => ?_
    refine pr_end (fun _ _ => rfl) ?_
    exact .inl ⟨_, 0, _, rfl, ⟨rfl, rfl⟩, rfl, hE7⟩
  · refine mq_f h1 ?_
    refine pr_if2f rfl rfl hy4 hy2 h1 ?_
    refine pr_n (pc2 := 36) (lv2 := [(5, vi 0), (4, vi y4), (3, vi y3), (2, vi y2), (0, .ref 170), (1, vi y1)]) (st2 := []) 2 (fun _ _ => rfl) ?_
    exact ((ih N2 hN2).2.1) s t 0 y4 y3 y2 y1 hE (i32_n rfl) hy4 hy3 hy2 hy1
set_option maxHeartbeats 20000000 in
set_option maxRecDepth 100000 in
theorem eu169_1 {N K d C : Nat} (h_161 : eT161 K d C) (h_166 : eT166 K d C) (ih : ∀ N2, N2 < N → eA169 N2 K d C) : eU169_1 N K d C := by
  intro s t y5 y4 y3 y2 y1 hE hy5 hy4 hy3 hy2 hy1
  have hC : C = 177 ∨ C = 186 := hE.1
  rw [eG_169_36]
  unfold eM169_36
  refine pr_lt (pc2 := 38) (lv2 := [(5, vi y5), (4, vi y4), (3, vi y3), (2, vi y2), (0, .ref 170), (1, vi y1)]) (st2 := [vi y5]) (fun _ _ => rfl) fun N2 hN2 => ?_
  refine pr_n (pc2 := 39) (lv2 := [(5, vi y5), (4, vi y4), (3, vi y3), (2, vi y2), (0, .ref 170), (1, vi y1)]) (st2 := [.ref 170, vi y5]) 1 (fun _ _ => rfl) ?_
  refine pr_gE (k2 := 170) (v := vi (t 170 55)) hE rfl rfl rfl (by decide) rfl rfl rfl fun h1 => ?_
  have h1 : i32 (t 170 55) := h1
  by_cases h2 : t 170 55 ≤ y5
  · refine mq_t h2 ?_
    refine pr_if2t rfl rfl hy5 h1 h2 ?_
    refine pr_n (pc2 := 64) (lv2 := [(5, vi y5), (4, vi y4), (3, vi y3), (2, vi y2), (0, .ref 170), (1, vi y1)]) (st2 := [.ref 170, vi y5]) 2 (fun _ _ => rfl) ?_
    refine pr_gE (k2 := 170) (v := vi (t 170 55)) hE rfl rfl rfl (by decide) rfl rfl rfl fun h3 => ?_
    have h3 : i32 (t 170 55) := h3
    by_cases h4 : y5 ≠ t 170 55
    · refine mq_t h4 ?_
      refine pr_if2t rfl rfl hy5 h3 h4 ?_
      refine pr_n (pc2 := 84) (lv2 := [(5, vi y5), (4, vi y4), (3, vi y3), (2, vi y2), (0, .ref 170), (1, vi y1)]) (st2 := [.ref 170, vi y5, .ref 170]) 3 (fun _ _ => rfl) ?_
      refine pr_get (v := .ref C) rfl rfl rfl (by decide) (rv_ref (show s.1 170 17 = ((C : Nat) : Int) from hE.2.2.1)) fun _ => ?_
      refine pr_get (v := .ref (C + 1)) rfl rfl (TG_C hC) (by decide) (rv_ref (hE.2.1 C 0 (C + 1) (rc_C0 hC))) fun _ => ?_
      refine pr_n (pc2 := 93) (lv2 := [(5, vi y5), (4, vi y4), (3, vi y3), (2, vi y2), (0, .ref 170), (1, vi y1)]) (st2 := [vi y4, vi y3, .ref (C + 1), vi y5, .ref 170]) 2 (fun _ _ => rfl) ?_
      refine pr_i2 (a := y3) (b := y4) rfl rfl ?_
      show pr N2 K d tb_M169 94 [(5, vi y5), (4, vi y4), (3, vi y3), (2, vi y2), (0, .ref 170), (1, vi y1)] [vi (ipl y3 y4), .ref (C + 1), vi y5, .ref 170] s _
      have h5 : i32 (ipl y3 y4) := i32_in _
      refine pr_aE (k2 := 178) (a := ipl y3 y4) (v := vi (t 178 ((ipl y3 y4).toNat))) hE rfl (TG_C1 hC) rfl h5 (by decide) rfl rfl rfl fun h7 h8 h6 => ?_
      have h6 : i32 (t 178 ((ipl y3 y4).toNat)) := h6
      refine pr_n (pc2 := 96) (lv2 := [(5, vi y5), (4, vi y4), (3, vi y3), (2, vi y2), (0, .ref 170), (1, vi y1)]) (st2 := [vi y1, vi (t 178 ((ipl y3 y4).toNat)), vi y5, .ref 170]) 1 (fun _ _ => rfl) ?_
      refine pr_m1 (args := [vi y5, vi (t 178 ((ipl y3 y4).toNat)), vi y1]) (rest := []) rfl rfl rfl rfl (Nat.le_of_ble_eq_true rfl) rfl (h_161 s t y5 (t 178 ((ipl y3 y4).toNat)) y1 hE hy5 h6 hy1) ?_
      rintro _ _ t9 s9 ⟨rfl, rfl⟩ hE9
      show pr N2 K d tb_M169 99 [(5, vi y5), (4, vi y4), (3, vi y3), (2, vi y2), (0, .ref 170), (1, vi y1)] [] s9 _
      refine pr_incw (a := y4) rfl rfl ?_
      show pr N2 K d tb_M169 102 [(4, vi (ipl y4 1)), (5, vi y5), (3, vi y3), (2, vi y2), (0, .ref 170), (1, vi y1)] [] s9 _
      have h10 : i32 (ipl y4 1) := i32_in _
      refine pr_n (pc2 := 27) (lv2 := [(4, vi (ipl y4 1)), (5, vi y5), (3, vi y3), (2, vi y2), (0, .ref 170), (1, vi y1)]) (st2 := []) 1 (fun _ _ => rfl) ?_
      exact ((ih N2 hN2).2.2) s9 t9 (ipl y4 1) y5 y3 y2 y1 hE9 h10 hy5 hy3 hy2 hy1
    · refine mq_f h4 ?_
      refine pr_if2f rfl rfl hy5 h3 h4 ?_
      refine pr_n (pc2 := 72) (lv2 := [(5, vi y5), (4, vi y4), (3, vi y3), (2, vi y2), (0, .ref 170), (1, vi y1)]) (st2 := [.ref 170, .ref 170]) 2 (fun _ _ => rfl) ?_
      refine pr_gE (k2 := 170) (v := vi (t 170 55)) hE rfl rfl rfl (by decide) rfl rfl rfl fun h11 => ?_
      have h11 : i32 (t 170 55) := h11
      refine pr_n (pc2 := 76) (lv2 := [(5, vi y5), (4, vi y4), (3, vi y3), (2, vi y2), (0, .ref 170), (1, vi y1)]) (st2 := [vi 1, vi (t 170 55), .ref 170]) 1 (fun _ _ => rfl) ?_
      refine pr_i2 (a := t 170 55) (b := 1) rfl rfl ?_
      show pr N2 K d tb_M169 77 [(5, vi y5), (4, vi y4), (3, vi y3), (2, vi y2), (0, .ref 170), (1, vi y1)] [vi (ipl (t 170 55) 1), .ref 170] s _
      have h12 : i32 (ipl (t 170 55) 1) := i32_in _
      refine pr_pE (k2 := 170) (z := ipl (t 170 55) 1) hE rfl rfl rfl rfl (by decide) rfl (by decide) rfl (show i32 (ipl (t 170 55) 1) from h12) (hf_int' _) rfl rfl rfl (fun e => absurd e.2 (by decide)) (fun _ => trivial) fun s13 hE13 => ?_
      refine pr_n (pc2 := 84) (lv2 := [(5, vi y5), (4, vi y4), (3, vi y3), (2, vi y2), (0, .ref 170), (1, vi y1)]) (st2 := [.ref 170, vi y5, .ref 170]) 3 (fun _ _ => rfl) ?_
      refine pr_get (v := .ref C) rfl rfl rfl (by decide) (rv_ref (show s13.1 170 17 = ((C : Nat) : Int) from hE13.2.2.1)) fun _ => ?_
      refine pr_get (v := .ref (C + 1)) rfl rfl (TG_C hC) (by decide) (rv_ref (hE13.2.1 C 0 (C + 1) (rc_C0 hC))) fun _ => ?_
      refine pr_n (pc2 := 93) (lv2 := [(5, vi y5), (4, vi y4), (3, vi y3), (2, vi y2), (0, .ref 170), (1, vi y1)]) (st2 := [vi y4, vi y3, .ref (C + 1), vi y5, .ref 170]) 2 (fun _ _ => rfl) ?_
      refine pr_i2 (a := y3) (b := y4) rfl rfl ?_
      show pr N2 K d tb_M169 94 [(5, vi y5), (4, vi y4), (3, vi y3), (2, vi y2), (0, .ref 170), (1, vi y1)] [vi (ipl y3 y4), .ref (C + 1), vi y5, .ref 170] s13 _
      have h14 : i32 (ipl y3 y4) := i32_in _
      refine pr_aE (k2 := 178) (a := ipl y3 y4) (v := vi (t 178 ((ipl y3 y4).toNat))) hE13 rfl (TG_C1 hC) rfl h14 (by decide) rfl rfl rfl fun h16 h17 h15 => ?_
      have h15 : i32 (t 178 ((ipl y3 y4).toNat)) := h15
      refine pr_n (pc2 := 96) (lv2 := [(5, vi y5), (4, vi y4), (3, vi y3), (2, vi y2), (0, .ref 170), (1, vi y1)]) (st2 := [vi y1, vi (t 178 ((ipl y3 y4).toNat)), vi y5, .ref 170]) 1 (fun _ _ => rfl) ?_
      refine pr_m1 (args := [vi y5, vi (t 178 ((ipl y3 y4).toNat)), vi y1]) (rest := []) rfl rfl rfl rfl (Nat.le_of_ble_eq_true rfl) rfl (h_161 s13 (up2 t 170 55 (ipl (t 170 55) 1)) y5 (t 178 ((ipl y3 y4).toNat)) y1 hE13 hy5 h15 hy1) ?_
      rintro _ _ t18 s18 ⟨rfl, rfl⟩ hE18
      show pr N2 K d tb_M169 99 [(5, vi y5), (4, vi y4), (3, vi y3), (2, vi y2), (0, .ref 170), (1, vi y1)] [] s18 _
      refine pr_incw (a := y4) rfl rfl ?_
      show pr N2 K d tb_M169 102 [(4, vi (ipl y4 1)), (5, vi y5), (3, vi y3), (2, vi y2), (0, .ref 170), (1, vi y1)] [] s18 _
      have h19 : i32 (ipl y4 1) := i32_in _
      refine pr_n (pc2 := 27) (lv2 := [(4, vi (ipl y4 1)), (5, vi y5), (3, vi y3), (2, vi y2), (0, .ref 170), (1, vi y1)]) (st2 := []) 1 (fun _ _ => rfl) ?_
      exact ((ih N2 hN2).2.2) s18 t18 (ipl y4 1) y5 y3 y2 y1 hE18 h19 hy5 hy3 hy2 hy1
  · refine mq_f h2 ?_
    refine pr_if2f rfl rfl hy5 h1 h2 ?_
    refine pr_n (pc2 := 46) (lv2 := [(5, vi y5), (4, vi y4), (3, vi y3), (2, vi y2), (0, .ref 170), (1, vi y1)]) (st2 := [.ref 170]) 1 (fun _ _ => rfl) ?_
    refine pr_get (v := .ref 206) rfl rfl rfl (by decide) (rv_ref (hE.2.1 170 41 206 rfl)) fun _ => ?_
    refine pr_n (pc2 := 51) (lv2 := [(5, vi y5), (4, vi y4), (3, vi y3), (2, vi y2), (0, .ref 170), (1, vi y1)]) (st2 := [vi y5, .ref 206]) 1 (fun _ _ => rfl) ?_
    refine pr_aE (k2 := 206) (a := y5) (v := vi (t 206 y5.toNat)) hE rfl rfl rfl hy5 (by decide) rfl rfl rfl fun h21 h22 h20 => ?_
    have h20 : i32 (t 206 y5.toNat) := h20
    by_cases h23 : t 206 y5.toNat = 0
    · refine mq_t h23 ?_
      refine pr_if1t rfl rfl h20 h23 ?_
      refine pr_n (pc2 := 64) (lv2 := [(5, vi y5), (4, vi y4), (3, vi y3), (2, vi y2), (0, .ref 170), (1, vi y1)]) (st2 := [.ref 170, vi y5]) 2 (fun _ _ => rfl) ?_
      refine pr_gE (k2 := 170) (v := vi (t 170 55)) hE rfl rfl rfl (by decide) rfl rfl rfl fun h24 => ?_
      have h24 : i32 (t 170 55) := h24
      by_cases h25 : y5 ≠ t 170 55
      · refine mq_t h25 ?_
        refine pr_if2t rfl rfl hy5 h24 h25 ?_
        refine pr_n (pc2 := 84) (lv2 := [(5, vi y5), (4, vi y4), (3, vi y3), (2, vi y2), (0, .ref 170), (1, vi y1)]) (st2 := [.ref 170, vi y5, .ref 170]) 3 (fun _ _ => rfl) ?_
        refine pr_get (v := .ref C) rfl rfl rfl (by decide) (rv_ref (show s.1 170 17 = ((C : Nat) : Int) from hE.2.2.1)) fun _ => ?_
        refine pr_get (v := .ref (C + 1)) rfl rfl (TG_C hC) (by decide) (rv_ref (hE.2.1 C 0 (C + 1) (rc_C0 hC))) fun _ => ?_
        refine pr_n (pc2 := 93) (lv2 := [(5, vi y5), (4, vi y4), (3, vi y3), (2, vi y2), (0, .ref 170), (1, vi y1)]) (st2 := [vi y4, vi y3, .ref (C + 1), vi y5, .ref 170]) 2 (fun _ _ => rfl) ?_
        refine pr_i2 (a := y3) (b := y4) rfl rfl ?_
        show pr N2 K d tb_M169 94 [(5, vi y5), (4, vi y4), (3, vi y3), (2, vi y2), (0, .ref 170), (1, vi y1)] [vi (ipl y3 y4), .ref (C + 1), vi y5, .ref 170] s _
        have h26 : i32 (ipl y3 y4) := i32_in _
        refine pr_aE (k2 := 178) (a := ipl y3 y4) (v := vi (t 178 ((ipl y3 y4).toNat))) hE rfl (TG_C1 hC) rfl h26 (by decide) rfl rfl rfl fun h28 h29 h27 => ?_
        have h27 : i32 (t 178 ((ipl y3 y4).toNat)) := h27
        refine pr_n (pc2 := 96) (lv2 := [(5, vi y5), (4, vi y4), (3, vi y3), (2, vi y2), (0, .ref 170), (1, vi y1)]) (st2 := [vi y1, vi (t 178 ((ipl y3 y4).toNat)), vi y5, .ref 170]) 1 (fun _ _ => rfl) ?_
        refine pr_m1 (args := [vi y5, vi (t 178 ((ipl y3 y4).toNat)), vi y1]) (rest := []) rfl rfl rfl rfl (Nat.le_of_ble_eq_true rfl) rfl (h_161 s t y5 (t 178 ((ipl y3 y4).toNat)) y1 hE hy5 h27 hy1) ?_
        rintro _ _ t30 s30 ⟨rfl, rfl⟩ hE30
        show pr N2 K d tb_M169 99 [(5, vi y5), (4, vi y4), (3, vi y3), (2, vi y2), (0, .ref 170), (1, vi y1)] [] s30 _
        refine pr_incw (a := y4) rfl rfl ?_
        show pr N2 K d tb_M169 102 [(4, vi (ipl y4 1)), (5, vi y5), (3, vi y3), (2, vi y2), (0, .ref 170), (1, vi y1)] [] s30 _
        have h31 : i32 (ipl y4 1) := i32_in _
        refine pr_n (pc2 := 27) (lv2 := [(4, vi (ipl y4 1)), (5, vi y5), (3, vi y3), (2, vi y2), (0, .ref 170), (1, vi y1)]) (st2 := []) 1 (fun _ _ => rfl) ?_
        exact ((ih N2 hN2).2.2) s30 t30 (ipl y4 1) y5 y3 y2 y1 hE30 h31 hy5 hy3 hy2 hy1
      · refine mq_f h25 ?_
        refine pr_if2f rfl rfl hy5 h24 h25 ?_
        refine pr_n (pc2 := 72) (lv2 := [(5, vi y5), (4, vi y4), (3, vi y3), (2, vi y2), (0, .ref 170), (1, vi y1)]) (st2 := [.ref 170, .ref 170]) 2 (fun _ _ => rfl) ?_
        refine pr_gE (k2 := 170) (v := vi (t 170 55)) hE rfl rfl rfl (by decide) rfl rfl rfl fun h32 => ?_
        have h32 : i32 (t 170 55) := h32
        refine pr_n (pc2 := 76) (lv2 := [(5, vi y5), (4, vi y4), (3, vi y3), (2, vi y2), (0, .ref 170), (1, vi y1)]) (st2 := [vi 1, vi (t 170 55), .ref 170]) 1 (fun _ _ => rfl) ?_
        refine pr_i2 (a := t 170 55) (b := 1) rfl rfl ?_
        show pr N2 K d tb_M169 77 [(5, vi y5), (4, vi y4), (3, vi y3), (2, vi y2), (0, .ref 170), (1, vi y1)] [vi (ipl (t 170 55) 1), .ref 170] s _
        have h33 : i32 (ipl (t 170 55) 1) := i32_in _
        refine pr_pE (k2 := 170) (z := ipl (t 170 55) 1) hE rfl rfl rfl rfl (by decide) rfl (by decide) rfl (show i32 (ipl (t 170 55) 1) from h33) (hf_int' _) rfl rfl rfl (fun e => absurd e.2 (by decide)) (fun _ => trivial) fun s34 hE34 => ?_
        refine pr_n (pc2 := 84) (lv2 := [(5, vi y5), (4, vi y4), (3, vi y3), (2, vi y2), (0, .ref 170), (1, vi y1)]) (st2 := [.ref 170, vi y5, .ref 170]) 3 (fun _ _ => rfl) ?_
        refine pr_get (v := .ref C) rfl rfl rfl (by decide) (rv_ref (show s34.1 170 17 = ((C : Nat) : Int) from hE34.2.2.1)) fun _ => ?_
        refine pr_get (v := .ref (C + 1)) rfl rfl (TG_C hC) (by decide) (rv_ref (hE34.2.1 C 0 (C + 1) (rc_C0 hC))) fun _ => ?_
        refine pr_n (pc2 := 93) (lv2 := [(5, vi y5), (4, vi y4), (3, vi y3), (2, vi y2), (0, .ref 170), (1, vi y1)]) (st2 := [vi y4, vi y3, .ref (C + 1), vi y5, .ref 170]) 2 (fun _ _ => rfl) ?_
        refine pr_i2 (a := y3) (b := y4) rfl rfl ?_
        show pr N2 K d tb_M169 94 [(5, vi y5), (4, vi y4), (3, vi y3), (2, vi y2), (0, .ref 170), (1, vi y1)] [vi (ipl y3 y4), .ref (C + 1), vi y5, .ref 170] s34 _
        have h35 : i32 (ipl y3 y4) := i32_in _
        refine pr_aE (k2 := 178) (a := ipl y3 y4) (v := vi (t 178 ((ipl y3 y4).toNat))) hE34 rfl (TG_C1 hC) rfl h35 (by decide) rfl rfl rfl fun h37 h38 h36 => ?_
        have h36 : i32 (t 178 ((ipl y3 y4).toNat)) := h36
        refine pr_n (pc2 := 96) (lv2 := [(5, vi y5), (4, vi y4), (3, vi y3), (2, vi y2), (0, .ref 170), (1, vi y1)]) (st2 := [vi y1, vi (t 178 ((ipl y3 y4).toNat)), vi y5, .ref 170]) 1 (fun _ _ => rfl) ?_
        refine pr_m1 (args := [vi y5, vi (t 178 ((ipl y3 y4).toNat)), vi y1]) (rest := []) rfl rfl rfl rfl (Nat.le_of_ble_eq_true rfl) rfl (h_161 s34 (up2 t 170 55 (ipl (t 170 55) 1)) y5 (t 178 ((ipl y3 y4).toNat)) y1 hE34 hy5 h36 hy1) ?_
        rintro _ _ t39 s39 ⟨rfl, rfl⟩ hE39
        show pr N2 K d tb_M169 99 [(5, vi y5), (4, vi y4), (3, vi y3), (2, vi y2), (0, .ref 170), (1, vi y1)] [] s39 _
        refine pr_incw (a := y4) rfl rfl ?_
        show pr N2 K d tb_M169 102 [(4, vi (ipl y4 1)), (5, vi y5), (3, vi y3), (2, vi y2), (0, .ref 170), (1, vi y1)] [] s39 _
        have h40 : i32 (ipl y4 1) := i32_in _
        refine pr_n (pc2 := 27) (lv2 := [(4, vi (ipl y4 1)), (5, vi y5), (3, vi y3), (2, vi y2), (0, .ref 170), (1, vi y1)]) (st2 := []) 1 (fun _ _ => rfl) ?_
        exact ((ih N2 hN2).2.2) s39 t39 (ipl y4 1) y5 y3 y2 y1 hE39 h40 hy5 hy3 hy2 hy1
    · refine mq_f h23 ?_
      refine pr_if1f rfl rfl h20 h23 ?_
      refine pr_inc (a := y5) rfl rfl ?_
      have h41 : i32 (y5 + 1) := by unfold i32 at *; omega
      show pr N2 K d tb_M169 58 [(5, vi (y5 + 1)), (4, vi y4), (3, vi y3), (2, vi y2), (0, .ref 170), (1, vi y1)] [] s _
      refine pr_n (pc2 := 36) (lv2 := [(5, vi (y5 + 1)), (4, vi y4), (3, vi y3), (2, vi y2), (0, .ref 170), (1, vi y1)]) (st2 := []) 1 (fun _ _ => rfl) ?_
      exact ((ih N2 hN2).2.1) s t (y5 + 1) y4 y3 y2 y1 hE h41 hy4 hy3 hy2 hy1
set_option maxHeartbeats 20000000 in
set_option maxRecDepth 100000 in
theorem eu169_2 {N K d C : Nat} (h_161 : eT161 K d C) (h_166 : eT166 K d C) (ih : ∀ N2, N2 < N → eA169 N2 K d C) : eU169_2 N K d C := by
  intro s t y4 y5 y3 y2 y1 hE hy4 hy5 hy3 hy2 hy1
  have hC : C = 177 ∨ C = 186 := hE.1
  rw [eG_169_27]
  unfold eM169_27
  refine pr_lt (pc2 := 29) (lv2 := [(4, vi y4), (5, vi y5), (3, vi y3), (2, vi y2), (0, .ref 170), (1, vi y1)]) (st2 := [vi y4]) (fun _ _ => rfl) fun N2 hN2 => ?_
  refine pr_n (pc2 := 30) (lv2 := [(4, vi y4), (5, vi y5), (3, vi y3), (2, vi y2), (0, .ref 170), (1, vi y1)]) (st2 := [vi y2, vi y4]) 1 (fun _ _ => rfl) ?_
  by_cases h1 : y2 ≤ y4
  · refine mq_t h1 ?_
    refine pr_if2t rfl rfl hy4 hy2 h1 ?_
    refine pr_n (pc2 := 106) (lv2 := [(4, vi y4), (5, vi y5), (3, vi y3), (2, vi y2), (0, .ref 170), (1, vi y1)]) (st2 := [.ref 170]) 1 (fun _ _ => rfl) ?_
    refine pr_get (v := .ref 211) rfl rfl rfl (by decide) (rv_ref (hE.2.1 170 46 211 rfl)) fun _ => ?_
    refine pr_n (pc2 := 111) (lv2 := [(4, vi y4), (5, vi y5), (3, vi y3), (2, vi y2), (0, .ref 170), (1, vi y1)]) (st2 := [vi y2, vi y1, .ref 211]) 2 (fun _ _ => rfl) ?_
    refine pr_sE (k2 := 211) (a := y1) (z := y2) hE rfl (by decide) rfl rfl hy1 (by decide) rfl (show i32 (y2) from hy2) (n0 rfl (by omega) (by omega)) rfl rfl (fun e => absurd e.1 (by decide)) (fun _ => trivial) fun h2 h3 s4 hE4 => ?_
    refine pr_n (pc2 := 113) (lv2 := [(4, vi y4), (5, vi y5), (3, vi y3), (2, vi y2), (0, .ref 170), (1, vi y1)]) (st2 := [.ref 170]) 1 (fun _ _ => rfl) ?_
    refine pr_get (v := .ref 206) rfl rfl rfl (by decide) (rv_ref (hE4.2.1 170 41 206 rfl)) fun _ => ?_
    refine pr_n (pc2 := 119) (lv2 := [(4, vi y4), (5, vi y5), (3, vi y3), (2, vi y2), (0, .ref 170), (1, vi y1)]) (st2 := [vi 6, vi y1, .ref 206]) 2 (fun _ _ => rfl) ?_
    refine pr_sE (k2 := 206) (a := y1) (z := 6) hE4 rfl (by decide) rfl rfl hy1 (by decide) rfl (show i32 (6) from (i32_n rfl)) (n0 rfl (by omega) (by omega)) rfl rfl (fun e => absurd e.1 (by decide)) (fun _ => trivial) fun h5 h6 s7 hE7 => ?_
    refine pr_end (fun _ _ => rfl) ?_
    exact .inl ⟨_, 0, _, rfl, ⟨rfl, rfl⟩, rfl, hE7⟩
  · refine mq_f h1 ?_
    refine pr_if2f rfl rfl hy4 hy2 h1 ?_
    refine pr_n (pc2 := 36) (lv2 := [(5, vi 0), (4, vi y4), (3, vi y3), (2, vi y2), (0, .ref 170), (1, vi y1)]) (st2 := []) 2 (fun _ _ => rfl) ?_
    exact ((ih N2 hN2).2.1) s t 0 y4 y3 y2 y1 hE (i32_n rfl) hy4 hy3 hy2 hy1
theorem ea169 {K d C : Nat} (h_161 : eT161 K d C) (h_166 : eT166 K d C) : ∀ N, eA169 N K d C := by
  intro N
  induction N using Nat.strongRecOn with | ind N ih => ?_
  exact ⟨eu169_0 h_161 h_166 ih, eu169_1 h_161 h_166 ih, eu169_2 h_161 h_166 ih⟩
set_option maxHeartbeats 20000000 in
set_option maxRecDepth 100000 in
theorem em169 {K d C : Nat} (h_161 : eT161 K d C) (h_166 : eT166 K d C) : eT169 K (d + 1) C := by
  intro s t x1 hE hx1
  have hC : C = 177 ∨ C = 186 := hE.1
  refine pcr_of (M := tb_M169) rfl ?_
  show pr K K d tb_M169 0 [(0, .ref 170), (1, vi x1)] [] s _
  rw [eG_169]
  unfold eM169
  refine pr_n (pc2 := 2) (lv2 := [(0, .ref 170), (1, vi x1)]) (st2 := [vi x1, .ref 170]) 2 (fun _ _ => rfl) ?_
  refine pr_s1 (args := [vi x1]) (rest := []) rfl rfl rfl rfl (Nat.le_of_ble_eq_true rfl) rfl (h_166 s t x1 hE hx1) e_rds ?_
  rintro _ s1 ⟨rfl, hz1⟩ hE1
  show pr K K d tb_M169 5 [(0, .ref 170), (1, vi x1)] [vi (rdz t x1)] s1 _
  refine pr_n (pc2 := 7) (lv2 := [(2, vi (rdz t x1)), (0, .ref 170), (1, vi x1)]) (st2 := [.ref 170]) 2 (fun _ _ => rfl) ?_
  refine pr_get (v := .ref 205) rfl rfl rfl (by decide) (rv_ref (hE1.2.1 170 40 205 rfl)) fun _ => ?_
  refine pr_n (pc2 := 11) (lv2 := [(2, vi (rdz t x1)), (0, .ref 170), (1, vi x1)]) (st2 := [vi x1, .ref 205]) 1 (fun _ _ => rfl) ?_
  refine pr_aE (k2 := 205) (a := x1) (v := vi ((rds t x1) 205 x1.toNat)) hE1 rfl rfl rfl hx1 (by decide) rfl rfl rfl fun h3 h4 h2 => ?_
  have h2 : i32 ((rds t x1) 205 x1.toNat) := h2
  refine pr_n (pc2 := 14) (lv2 := [(3, vi ((rds t x1) 205 x1.toNat)), (2, vi (rdz t x1)), (0, .ref 170), (1, vi x1)]) (st2 := [.ref 170]) 2 (fun _ _ => rfl) ?_
  refine pr_get (v := .ref 205) rfl rfl rfl (by decide) (rv_ref (hE1.2.1 170 40 205 rfl)) fun _ => ?_
  refine pr_n (pc2 := 19) (lv2 := [(3, vi ((rds t x1) 205 x1.toNat)), (2, vi (rdz t x1)), (0, .ref 170), (1, vi x1)]) (st2 := [vi x1, .ref 205, vi x1, .ref 205]) 2 (fun _ _ => rfl) ?_
  refine pr_aE (k2 := 205) (a := x1) (v := vi ((rds t x1) 205 x1.toNat)) hE1 rfl rfl rfl hx1 (by decide) rfl rfl rfl fun h6 h7 h5 => ?_
  have h5 : i32 ((rds t x1) 205 x1.toNat) := h5
  refine pr_n (pc2 := 22) (lv2 := [(3, vi ((rds t x1) 205 x1.toNat)), (2, vi (rdz t x1)), (0, .ref 170), (1, vi x1)]) (st2 := [vi 6, vi ((rds t x1) 205 x1.toNat), vi x1, .ref 205]) 1 (fun _ _ => rfl) ?_
  refine pr_i2 (a := (rds t x1) 205 x1.toNat) (b := 6) rfl rfl ?_
  show pr K K d tb_M169 23 [(3, vi ((rds t x1) 205 x1.toNat)), (2, vi (rdz t x1)), (0, .ref 170), (1, vi x1)] [vi (ipl ((rds t x1) 205 x1.toNat) 6), vi x1, .ref 205] s1 _
  have h8 : i32 (ipl ((rds t x1) 205 x1.toNat) 6) := i32_in _
  refine pr_sE (k2 := 205) (a := x1) (z := ipl ((rds t x1) 205 x1.toNat) 6) hE1 rfl (by decide) rfl rfl hx1 (by decide) rfl (show i32 (ipl ((rds t x1) 205 x1.toNat) 6) from h8) (n0 rfl (by omega) (by omega)) rfl rfl (fun e => absurd e.1 (by decide)) (fun _ => trivial) fun h9 h10 s11 hE11 => ?_
  refine pr_n (pc2 := 27) (lv2 := [(4, vi 0), (3, vi ((rds t x1) 205 x1.toNat)), (2, vi (rdz t x1)), (0, .ref 170), (1, vi x1)]) (st2 := []) 2 (fun _ _ => rfl) ?_
  exact ((ea169 h_161 h_166 K).1) s11 (up2 ((rds t x1)) 205 x1.toNat (ipl ((rds t x1) 205 x1.toNat) 6)) 0 ((rds t x1) 205 x1.toNat) (rdz t x1) x1 hE11 (i32_n rfl) h5 hz1 hx1
set_option maxHeartbeats 20000000 in
set_option maxRecDepth 100000 in
theorem eu163_0 {N K d C : Nat} (h_164 : eT164 K d C) (ih : ∀ N2, N2 < N → eA163 N2 K d C) : eU163_0 N K d C := by
  intro s t y2 y1 hE hy2 hy1
  have hC : C = 177 ∨ C = 186 := hE.1
  rw [eG_163_66]
  unfold eM163_66
  refine pr_lt (pc2 := 67) (lv2 := [(2, vi y2), (0, .ref 170), (1, vi y1)]) (st2 := [vi y2]) (fun _ _ => rfl) fun N2 hN2 => ?_
  refine pr_n (pc2 := 68) (lv2 := [(2, vi y2), (0, .ref 170), (1, vi y1)]) (st2 := [.ref 170, vi y2]) 1 (fun _ _ => rfl) ?_
  refine pr_gE (k2 := 170) (v := vi (t 170 55)) hE rfl rfl rfl (by decide) rfl rfl rfl fun h1 => ?_
  have h1 : i32 (t 170 55) := h1
  by_cases h2 : t 170 55 ≤ y2
  · refine mq_t h2 ?_
    refine pr_if2t rfl rfl hy2 h1 h2 ?_
    refine pr_n (pc2 := 182) (lv2 := [(2, vi y2), (0, .ref 170), (1, vi y1)]) (st2 := [vi 0]) 1 (fun _ _ => rfl) ?_
    refine pr_end (fun _ _ => rfl) ?_
    exact .inl ⟨_, 0, _, rfl, ⟨rfl, (by decide)⟩, rfl, hE⟩
  · refine mq_f h2 ?_
    refine pr_if2f rfl rfl hy2 h1 h2 ?_
    refine pr_n (pc2 := 75) (lv2 := [(2, vi y2), (0, .ref 170), (1, vi y1)]) (st2 := [.ref 170]) 1 (fun _ _ => rfl) ?_
    refine pr_get (v := .ref 206) rfl rfl rfl (by decide) (rv_ref (hE.2.1 170 41 206 rfl)) fun _ => ?_
    refine pr_n (pc2 := 79) (lv2 := [(2, vi y2), (0, .ref 170), (1, vi y1)]) (st2 := [vi y2, .ref 206]) 1 (fun _ _ => rfl) ?_
    refine pr_aE (k2 := 206) (a := y2) (v := vi (t 206 y2.toNat)) hE rfl rfl rfl hy2 (by decide) rfl rfl rfl fun h4 h5 h3 => ?_
    have h3 : i32 (t 206 y2.toNat) := h3
    refine mq_t ⟨h4, h5⟩ ?_
    show pr N2 K d tb_M163 80 [(2, vi y2), (0, .ref 170), (1, vi y1)] [vi (t 206 y2.toNat)] s _
    refine pr_n (pc2 := 82) (lv2 := [(2, vi y2), (0, .ref 170), (1, vi y1)]) (st2 := [.ref 170, vi 5, vi (t 206 y2.toNat)]) 2 (fun _ _ => rfl) ?_
    refine pr_get (v := .ref 206) rfl rfl rfl (by decide) (rv_ref (hE.2.1 170 41 206 rfl)) fun _ => ?_
    refine pr_n (pc2 := 86) (lv2 := [(2, vi y2), (0, .ref 170), (1, vi y1)]) (st2 := [vi y1, .ref 206, vi 5, vi (t 206 y2.toNat)]) 1 (fun _ _ => rfl) ?_
    refine pr_aE (k2 := 206) (a := y1) (v := vi (t 206 y1.toNat)) hE rfl rfl rfl hy1 (by decide) rfl rfl rfl fun h7 h8 h6 => ?_
    have h6 : i32 (t 206 y1.toNat) := h6
    refine pr_i2 (a := 5) (b := t 206 y1.toNat) rfl rfl ?_
    show pr N2 K d tb_M163 88 [(2, vi y2), (0, .ref 170), (1, vi y1)] [vi (imi 5 (t 206 y1.toNat)), vi (t 206 y2.toNat)] s _
    have h9 : i32 (imi 5 (t 206 y1.toNat)) := i32_in _
    by_cases h10 : t 206 y2.toNat ≠ imi 5 (t 206 y1.toNat)
    · refine mq_t h10 ?_
      refine pr_if2t rfl rfl h3 h9 h10 ?_
      refine pr_inc (a := y2) rfl rfl ?_
      have h11 : i32 (y2 + 1) := by unfold i32 at *; omega
      show pr N2 K d tb_M163 178 [(2, vi (y2 + 1)), (0, .ref 170), (1, vi y1)] [] s _
      refine pr_n (pc2 := 66) (lv2 := [(2, vi (y2 + 1)), (0, .ref 170), (1, vi y1)]) (st2 := []) 1 (fun _ _ => rfl) ?_
      exact ((ih N2 hN2)) s t (y2 + 1) y1 hE h11 hy1
    · refine mq_f h10 ?_
      refine pr_if2f rfl rfl h3 h9 h10 ?_
      refine pr_n (pc2 := 92) (lv2 := [(2, vi y2), (0, .ref 170), (1, vi y1)]) (st2 := [.ref 170]) 1 (fun _ _ => rfl) ?_
      refine pr_get (v := .ref 207) rfl rfl rfl (by decide) (rv_ref (hE.2.1 170 42 207 rfl)) fun _ => ?_
      refine pr_n (pc2 := 96) (lv2 := [(2, vi y2), (0, .ref 170), (1, vi y1)]) (st2 := [vi y2, .ref 207]) 1 (fun _ _ => rfl) ?_
      refine pr_aE (k2 := 207) (a := y2) (v := vi (t 207 y2.toNat)) hE rfl rfl rfl hy2 (by decide) rfl rfl rfl fun h13 h14 h12 => ?_
      have h12 : i32 (t 207 y2.toNat) := h12
      refine pr_n (pc2 := 98) (lv2 := [(2, vi y2), (0, .ref 170), (1, vi y1)]) (st2 := [.ref 170, vi (t 207 y2.toNat)]) 1 (fun _ _ => rfl) ?_
      refine pr_get (v := .ref 207) rfl rfl rfl (by decide) (rv_ref (hE.2.1 170 42 207 rfl)) fun _ => ?_
      refine pr_n (pc2 := 102) (lv2 := [(2, vi y2), (0, .ref 170), (1, vi y1)]) (st2 := [vi y1, .ref 207, vi (t 207 y2.toNat)]) 1 (fun _ _ => rfl) ?_
      refine pr_aE (k2 := 207) (a := y1) (v := vi (t 207 y1.toNat)) hE rfl rfl rfl hy1 (by decide) rfl rfl rfl fun h16 h17 h15 => ?_
      have h15 : i32 (t 207 y1.toNat) := h15
      by_cases h18 : t 207 y2.toNat ≠ t 207 y1.toNat
      · refine mq_t h18 ?_
        refine pr_if2t rfl rfl h12 h15 h18 ?_
        refine pr_inc (a := y2) rfl rfl ?_
        have h19 : i32 (y2 + 1) := by unfold i32 at *; omega
        show pr N2 K d tb_M163 178 [(2, vi (y2 + 1)), (0, .ref 170), (1, vi y1)] [] s _
        refine pr_n (pc2 := 66) (lv2 := [(2, vi (y2 + 1)), (0, .ref 170), (1, vi y1)]) (st2 := []) 1 (fun _ _ => rfl) ?_
        exact ((ih N2 hN2)) s t (y2 + 1) y1 hE h19 hy1
      · refine mq_f h18 ?_
        refine pr_if2f rfl rfl h12 h15 h18 ?_
        refine pr_n (pc2 := 108) (lv2 := [(2, vi y2), (0, .ref 170), (1, vi y1)]) (st2 := [vi y1, vi y2]) 2 (fun _ _ => rfl) ?_
        by_cases h20 : y2 ≠ y1
        · refine mq_t h20 ?_
          refine pr_if2t rfl rfl hy2 hy1 h20 ?_
          refine pr_n (pc2 := 115) (lv2 := [(2, vi y2), (0, .ref 170), (1, vi y1)]) (st2 := [.ref 170]) 1 (fun _ _ => rfl) ?_
          refine pr_get (v := .ref 206) rfl rfl rfl (by decide) (rv_ref (hE.2.1 170 41 206 rfl)) fun _ => ?_
          refine pr_n (pc2 := 119) (lv2 := [(2, vi y2), (0, .ref 170), (1, vi y1)]) (st2 := [vi y1, .ref 206]) 1 (fun _ _ => rfl) ?_
          refine pr_aE (k2 := 206) (a := y1) (v := vi (t 206 y1.toNat)) hE rfl rfl rfl hy1 (by decide) rfl rfl rfl fun h22 h23 h21 => ?_
          have h21 : i32 (t 206 y1.toNat) := h21
          refine pr_n (pc2 := 121) (lv2 := [(2, vi y2), (0, .ref 170), (1, vi y1)]) (st2 := [vi 2, vi (t 206 y1.toNat)]) 1 (fun _ _ => rfl) ?_
          by_cases h24 : t 206 y1.toNat ≠ 2
          · refine mq_t h24 ?_
            refine pr_if2t rfl rfl h21 (i32_n rfl) h24 ?_
            refine pr_n (pc2 := 132) (lv2 := [(3, vi y2), (2, vi y2), (0, .ref 170), (1, vi y1)]) (st2 := [vi y2, vi y1]) 4 (fun _ _ => rfl) ?_
            refine pr_i2 (a := y1) (b := y2) rfl rfl ?_
            show pr N2 K d tb_M163 133 [(3, vi y2), (2, vi y2), (0, .ref 170), (1, vi y1)] [vi (ipl y1 y2)] s _
            have h25 : i32 (ipl y1 y2) := i32_in _
            refine pr_n (pc2 := 134) (lv2 := [(3, vi y2), (2, vi y2), (0, .ref 170), (1, vi y1)]) (st2 := [vi y2, vi (ipl y1 y2)]) 1 (fun _ _ => rfl) ?_
            refine pr_i2 (a := ipl y1 y2) (b := y2) rfl rfl ?_
            show pr N2 K d tb_M163 135 [(3, vi y2), (2, vi y2), (0, .ref 170), (1, vi y1)] [vi (imi (ipl y1 y2) y2)] s _
            have h26 : i32 (imi (ipl y1 y2) y2) := i32_in _
            refine pr_n (pc2 := 138) (lv2 := [(4, vi (imi (ipl y1 y2) y2)), (3, vi y2), (2, vi y2), (0, .ref 170), (1, vi y1)]) (st2 := [.ref 170]) 2 (fun _ _ => rfl) ?_
            refine pr_get (v := .ref 208) rfl rfl rfl (by decide) (rv_ref (hE.2.1 170 43 208 rfl)) fun _ => ?_
            refine pr_n (pc2 := 143) (lv2 := [(4, vi (imi (ipl y1 y2) y2)), (3, vi y2), (2, vi y2), (0, .ref 170), (1, vi y1)]) (st2 := [vi y2, .ref 208, vi y2, .ref 208]) 2 (fun _ _ => rfl) ?_
            refine pr_aE (k2 := 208) (a := y2) (v := vi (t 208 y2.toNat)) hE rfl rfl rfl hy2 (by decide) rfl rfl rfl fun h28 h29 h27 => ?_
            have h27 : i32 (t 208 y2.toNat) := h27
            refine pr_n (pc2 := 145) (lv2 := [(4, vi (imi (ipl y1 y2) y2)), (3, vi y2), (2, vi y2), (0, .ref 170), (1, vi y1)]) (st2 := [vi 1, vi (t 208 y2.toNat), vi y2, .ref 208]) 1 (fun _ _ => rfl) ?_
            refine pr_i2 (a := t 208 y2.toNat) (b := 1) rfl rfl ?_
            show pr N2 K d tb_M163 146 [(4, vi (imi (ipl y1 y2) y2)), (3, vi y2), (2, vi y2), (0, .ref 170), (1, vi y1)] [vi (imi (t 208 y2.toNat) 1), vi y2, .ref 208] s _
            have h30 : i32 (imi (t 208 y2.toNat) 1) := i32_in _
            refine pr_sE (k2 := 208) (a := y2) (z := imi (t 208 y2.toNat) 1) hE rfl (by decide) rfl rfl hy2 (by decide) rfl (show i32 (imi (t 208 y2.toNat) 1) from h30) (n0 rfl (by omega) (by omega)) rfl rfl (fun e => absurd e.1 (by decide)) (fun _ => trivial) fun h31 h32 s33 hE33 => ?_
            refine pr_n (pc2 := 151) (lv2 := [(4, vi (imi (ipl y1 y2) y2)), (3, vi y2), (2, vi y2), (0, .ref 170), (1, vi y1)]) (st2 := [.ref 170, vi (imi (ipl y1 y2) y2), .ref 170]) 3 (fun _ _ => rfl) ?_
            refine pr_get (v := .ref 219) rfl rfl rfl (by decide) (rv_ref (hE33.2.1 170 48 219 rfl)) fun _ => ?_
            refine pr_n (pc2 := 155) (lv2 := [(4, vi (imi (ipl y1 y2) y2)), (3, vi y2), (2, vi y2), (0, .ref 170), (1, vi y1)]) (st2 := [vi y2, .ref 219, vi (imi (ipl y1 y2) y2), .ref 170]) 1 (fun _ _ => rfl) ?_
            refine pr_row (a := y2) (v := 220 + y2.toNat) rfl rfl rfl rfl hy2 (by decide) (fun h1 h2 => hE33.2.1 _ _ _ (rc_st (by omega))) fun h34 h35 => ?_
            show pr N2 K d tb_M163 156 [(4, vi (imi (ipl y1 y2) y2)), (3, vi y2), (2, vi y2), (0, .ref 170), (1, vi y1)] [.ref (220 + y2.toNat), vi (imi (ipl y1 y2) y2), .ref 170] s33 _
            refine pr_n (pc2 := 157) (lv2 := [(4, vi (imi (ipl y1 y2) y2)), (3, vi y2), (2, vi y2), (0, .ref 170), (1, vi y1)]) (st2 := [.ref 170, .ref (220 + y2.toNat), vi (imi (ipl y1 y2) y2), .ref 170]) 1 (fun _ _ => rfl) ?_
            refine pr_get (v := .ref 208) rfl rfl rfl (by decide) (rv_ref (hE33.2.1 170 43 208 rfl)) fun _ => ?_
            refine pr_n (pc2 := 161) (lv2 := [(4, vi (imi (ipl y1 y2) y2)), (3, vi y2), (2, vi y2), (0, .ref 170), (1, vi y1)]) (st2 := [vi y2, .ref 208, .ref (220 + y2.toNat), vi (imi (ipl y1 y2) y2), .ref 170]) 1 (fun _ _ => rfl) ?_
            refine pr_aE (k2 := 208) (a := y2) (v := vi (imi (t 208 y2.toNat) 1)) hE33 rfl rfl rfl hy2 (by decide) rfl rfl (by rw [up_self]; rfl) fun h37 h38 h36 => ?_
            rw [up_self] at h36
            have h36 : i32 (imi (t 208 y2.toNat) 1) := h36
            refine pr_aE (k2 := (220 + y2.toNat)) (a := imi (t 208 y2.toNat) 1) (v := vi ((up2 t 208 y2.toNat (imi (t 208 y2.toNat) 1)) (220 + y2.toNat) ((imi (t 208 y2.toNat) 1).toNat))) hE33 rfl (TG_st (by omega)) rfl h36 (by decide) (pe_hi (by omega)) (re_st (by omega)) rfl fun h40 h41 h39 => ?_
            have h39 : i32 ((up2 t 208 y2.toNat (imi (t 208 y2.toNat) 1)) (220 + y2.toNat) ((imi (t 208 y2.toNat) 1).toNat)) := h39
            refine pr_s1 (args := [vi (imi (ipl y1 y2) y2), vi ((up2 t 208 y2.toNat (imi (t 208 y2.toNat) 1)) (220 + y2.toNat) ((imi (t 208 y2.toNat) 1).toNat))]) (rest := []) rfl rfl rfl rfl (Nat.le_of_ble_eq_true rfl) rfl (h_164 s33 (up2 t 208 y2.toNat (imi (t 208 y2.toNat) 1)) (imi (ipl y1 y2) y2) ((up2 t 208 y2.toNat (imi (t 208 y2.toNat) 1)) (220 + y2.toNat) ((imi (t 208 y2.toNat) 1).toNat)) hE33 h26 h39) e_phE ?_
            rintro _ s42 ⟨rfl, _⟩ hE42
            show pr N2 K d tb_M163 166 [(4, vi (imi (ipl y1 y2) y2)), (3, vi y2), (2, vi y2), (0, .ref 170), (1, vi y1)] [] s42 _
            refine pr_n (pc2 := 167) (lv2 := [(4, vi (imi (ipl y1 y2) y2)), (3, vi y2), (2, vi y2), (0, .ref 170), (1, vi y1)]) (st2 := [.ref 170]) 1 (fun _ _ => rfl) ?_
            refine pr_get (v := .ref 206) rfl rfl rfl (by decide) (rv_ref (hE42.2.1 170 41 206 rfl)) fun _ => ?_
            refine pr_n (pc2 := 172) (lv2 := [(4, vi (imi (ipl y1 y2) y2)), (3, vi y2), (2, vi y2), (0, .ref 170), (1, vi y1)]) (st2 := [vi 1, vi y2, .ref 206]) 2 (fun _ _ => rfl) ?_
            refine pr_sE (k2 := 206) (a := y2) (z := 1) hE42 rfl (by decide) rfl rfl hy2 (by decide) rfl (show i32 (1) from (i32_n rfl)) (n0 rfl (by omega) (by omega)) rfl rfl (fun e => absurd e.1 (by decide)) (fun _ => trivial) fun h43 h44 s45 hE45 => ?_
            refine pr_n (pc2 := 174) (lv2 := [(4, vi (imi (ipl y1 y2) y2)), (3, vi y2), (2, vi y2), (0, .ref 170), (1, vi y1)]) (st2 := [vi 1]) 1 (fun _ _ => rfl) ?_
            refine pr_end (fun _ _ => rfl) ?_
            exact .inl ⟨_, 1, _, rfl, ⟨rfl, (by decide)⟩, rfl, hE45⟩
          · refine mq_f h24 ?_
            refine pr_if2f rfl rfl h21 (i32_n rfl) h24 ?_
            refine pr_n (pc2 := 132) (lv2 := [(3, vi y1), (2, vi y2), (0, .ref 170), (1, vi y1)]) (st2 := [vi y2, vi y1]) 5 (fun _ _ => rfl) ?_
            refine pr_i2 (a := y1) (b := y2) rfl rfl ?_
            show pr N2 K d tb_M163 133 [(3, vi y1), (2, vi y2), (0, .ref 170), (1, vi y1)] [vi (ipl y1 y2)] s _
            have h46 : i32 (ipl y1 y2) := i32_in _
            refine pr_n (pc2 := 134) (lv2 := [(3, vi y1), (2, vi y2), (0, .ref 170), (1, vi y1)]) (st2 := [vi y1, vi (ipl y1 y2)]) 1 (fun _ _ => rfl) ?_
            refine pr_i2 (a := ipl y1 y2) (b := y1) rfl rfl ?_
            show pr N2 K d tb_M163 135 [(3, vi y1), (2, vi y2), (0, .ref 170), (1, vi y1)] [vi (imi (ipl y1 y2) y1)] s _
            have h47 : i32 (imi (ipl y1 y2) y1) := i32_in _
            refine pr_n (pc2 := 138) (lv2 := [(4, vi (imi (ipl y1 y2) y1)), (3, vi y1), (2, vi y2), (0, .ref 170), (1, vi y1)]) (st2 := [.ref 170]) 2 (fun _ _ => rfl) ?_
            refine pr_get (v := .ref 208) rfl rfl rfl (by decide) (rv_ref (hE.2.1 170 43 208 rfl)) fun _ => ?_
            refine pr_n (pc2 := 143) (lv2 := [(4, vi (imi (ipl y1 y2) y1)), (3, vi y1), (2, vi y2), (0, .ref 170), (1, vi y1)]) (st2 := [vi y1, .ref 208, vi y1, .ref 208]) 2 (fun _ _ => rfl) ?_
            refine pr_aE (k2 := 208) (a := y1) (v := vi (t 208 y1.toNat)) hE rfl rfl rfl hy1 (by decide) rfl rfl rfl fun h49 h50 h48 => ?_
            have h48 : i32 (t 208 y1.toNat) := h48
            refine pr_n (pc2 := 145) (lv2 := [(4, vi (imi (ipl y1 y2) y1)), (3, vi y1), (2, vi y2), (0, .ref 170), (1, vi y1)]) (st2 := [vi 1, vi (t 208 y1.toNat), vi y1, .ref 208]) 1 (fun _ _ => rfl) ?_
            refine pr_i2 (a := t 208 y1.toNat) (b := 1) rfl rfl ?_
            show pr N2 K d tb_M163 146 [(4, vi (imi (ipl y1 y2) y1)), (3, vi y1), (2, vi y2), (0, .ref 170), (1, vi y1)] [vi (imi (t 208 y1.toNat) 1), vi y1, .ref 208] s _
            have h51 : i32 (imi (t 208 y1.toNat) 1) := i32_in _
            refine pr_sE (k2 := 208) (a := y1) (z := imi (t 208 y1.toNat) 1) hE rfl (by decide) rfl rfl hy1 (by decide) rfl (show i32 (imi (t 208 y1.toNat) 1) from h51) (n0 rfl (by omega) (by omega)) rfl rfl (fun e => absurd e.1 (by decide)) (fun _ => trivial) fun h52 h53 s54 hE54 => ?_
            refine pr_n (pc2 := 151) (lv2 := [(4, vi (imi (ipl y1 y2) y1)), (3, vi y1), (2, vi y2), (0, .ref 170), (1, vi y1)]) (st2 := [.ref 170, vi (imi (ipl y1 y2) y1), .ref 170]) 3 (fun _ _ => rfl) ?_
            refine pr_get (v := .ref 219) rfl rfl rfl (by decide) (rv_ref (hE54.2.1 170 48 219 rfl)) fun _ => ?_
            refine pr_n (pc2 := 155) (lv2 := [(4, vi (imi (ipl y1 y2) y1)), (3, vi y1), (2, vi y2), (0, .ref 170), (1, vi y1)]) (st2 := [vi y1, .ref 219, vi (imi (ipl y1 y2) y1), .ref 170]) 1 (fun _ _ => rfl) ?_
            refine pr_row (a := y1) (v := 220 + y1.toNat) rfl rfl rfl rfl hy1 (by decide) (fun h1 h2 => hE54.2.1 _ _ _ (rc_st (by omega))) fun h55 h56 => ?_
            show pr N2 K d tb_M163 156 [(4, vi (imi (ipl y1 y2) y1)), (3, vi y1), (2, vi y2), (0, .ref 170), (1, vi y1)] [.ref (220 + y1.toNat), vi (imi (ipl y1 y2) y1), .ref 170] s54 _
            refine pr_n (pc2 := 157) (lv2 := [(4, vi (imi (ipl y1 y2) y1)), (3, vi y1), (2, vi y2), (0, .ref 170), (1, vi y1)]) (st2 := [.ref 170, .ref (220 + y1.toNat), vi (imi (ipl y1 y2) y1), .ref 170]) 1 (fun _ _ => rfl) ?_
            refine pr_get (v := .ref 208) rfl rfl rfl (by decide) (rv_ref (hE54.2.1 170 43 208 rfl)) fun _ => ?_
            refine pr_n (pc2 := 161) (lv2 := [(4, vi (imi (ipl y1 y2) y1)), (3, vi y1), (2, vi y2), (0, .ref 170), (1, vi y1)]) (st2 := [vi y1, .ref 208, .ref (220 + y1.toNat), vi (imi (ipl y1 y2) y1), .ref 170]) 1 (fun _ _ => rfl) ?_
            refine pr_aE (k2 := 208) (a := y1) (v := vi (imi (t 208 y1.toNat) 1)) hE54 rfl rfl rfl hy1 (by decide) rfl rfl (by rw [up_self]; rfl) fun h58 h59 h57 => ?_
            rw [up_self] at h57
            have h57 : i32 (imi (t 208 y1.toNat) 1) := h57
            refine pr_aE (k2 := (220 + y1.toNat)) (a := imi (t 208 y1.toNat) 1) (v := vi ((up2 t 208 y1.toNat (imi (t 208 y1.toNat) 1)) (220 + y1.toNat) ((imi (t 208 y1.toNat) 1).toNat))) hE54 rfl (TG_st (by omega)) rfl h57 (by decide) (pe_hi (by omega)) (re_st (by omega)) rfl fun h61 h62 h60 => ?_
            have h60 : i32 ((up2 t 208 y1.toNat (imi (t 208 y1.toNat) 1)) (220 + y1.toNat) ((imi (t 208 y1.toNat) 1).toNat)) := h60
            refine pr_s1 (args := [vi (imi (ipl y1 y2) y1), vi ((up2 t 208 y1.toNat (imi (t 208 y1.toNat) 1)) (220 + y1.toNat) ((imi (t 208 y1.toNat) 1).toNat))]) (rest := []) rfl rfl rfl rfl (Nat.le_of_ble_eq_true rfl) rfl (h_164 s54 (up2 t 208 y1.toNat (imi (t 208 y1.toNat) 1)) (imi (ipl y1 y2) y1) ((up2 t 208 y1.toNat (imi (t 208 y1.toNat) 1)) (220 + y1.toNat) ((imi (t 208 y1.toNat) 1).toNat)) hE54 h47 h60) e_phE ?_
            rintro _ s63 ⟨rfl, _⟩ hE63
            show pr N2 K d tb_M163 166 [(4, vi (imi (ipl y1 y2) y1)), (3, vi y1), (2, vi y2), (0, .ref 170), (1, vi y1)] [] s63 _
            refine pr_n (pc2 := 167) (lv2 := [(4, vi (imi (ipl y1 y2) y1)), (3, vi y1), (2, vi y2), (0, .ref 170), (1, vi y1)]) (st2 := [.ref 170]) 1 (fun _ _ => rfl) ?_
            refine pr_get (v := .ref 206) rfl rfl rfl (by decide) (rv_ref (hE63.2.1 170 41 206 rfl)) fun _ => ?_
            refine pr_n (pc2 := 172) (lv2 := [(4, vi (imi (ipl y1 y2) y1)), (3, vi y1), (2, vi y2), (0, .ref 170), (1, vi y1)]) (st2 := [vi 1, vi y2, .ref 206]) 2 (fun _ _ => rfl) ?_
            refine pr_sE (k2 := 206) (a := y2) (z := 1) hE63 rfl (by decide) rfl rfl hy2 (by decide) rfl (show i32 (1) from (i32_n rfl)) (n0 rfl (by omega) (by omega)) rfl rfl (fun e => absurd e.1 (by decide)) (fun _ => trivial) fun h64 h65 s66 hE66 => ?_
            refine pr_n (pc2 := 174) (lv2 := [(4, vi (imi (ipl y1 y2) y1)), (3, vi y1), (2, vi y2), (0, .ref 170), (1, vi y1)]) (st2 := [vi 1]) 1 (fun _ _ => rfl) ?_
            refine pr_end (fun _ _ => rfl) ?_
            exact .inl ⟨_, 1, _, rfl, ⟨rfl, (by decide)⟩, rfl, hE66⟩
        · refine mq_f h20 ?_
          refine pr_if2f rfl rfl hy2 hy1 h20 ?_
          refine pr_n (pc2 := 175) (lv2 := [(2, vi y2), (0, .ref 170), (1, vi y1)]) (st2 := []) 1 (fun _ _ => rfl) ?_
          refine pr_inc (a := y2) rfl rfl ?_
          have h67 : i32 (y2 + 1) := by unfold i32 at *; omega
          show pr N2 K d tb_M163 178 [(2, vi (y2 + 1)), (0, .ref 170), (1, vi y1)] [] s _
          refine pr_n (pc2 := 66) (lv2 := [(2, vi (y2 + 1)), (0, .ref 170), (1, vi y1)]) (st2 := []) 1 (fun _ _ => rfl) ?_
          exact ((ih N2 hN2)) s t (y2 + 1) y1 hE h67 hy1
theorem ea163 {K d C : Nat} (h_164 : eT164 K d C) : ∀ N, eA163 N K d C := by
  intro N
  induction N using Nat.strongRecOn with | ind N ih => ?_
  exact eu163_0 h_164 ih
set_option maxHeartbeats 20000000 in
set_option maxRecDepth 100000 in
theorem em163 {K d C : Nat} (h_164 : eT164 K d C) : eT163 K (d + 1) C := by
  intro s t x1 hE hx1
  have hC : C = 177 ∨ C = 186 := hE.1
  refine pcr_of (M := tb_M163) rfl ?_
  show pr K K d tb_M163 0 [(0, .ref 170), (1, vi x1)] [] s _
  rw [eG_163]
  unfold eM163
  refine pr_n (pc2 := 1) (lv2 := [(0, .ref 170), (1, vi x1)]) (st2 := [.ref 170]) 1 (fun _ _ => rfl) ?_
  refine pr_get (v := .ref 206) rfl rfl rfl (by decide) (rv_ref (hE.2.1 170 41 206 rfl)) fun _ => ?_
  refine pr_n (pc2 := 5) (lv2 := [(0, .ref 170), (1, vi x1)]) (st2 := [vi x1, .ref 206]) 1 (fun _ _ => rfl) ?_
  refine pr_aE (k2 := 206) (a := x1) (v := vi (t 206 x1.toNat)) hE rfl rfl rfl hx1 (by decide) rfl rfl rfl fun h2 h3 h1 => ?_
  have h1 : i32 (t 206 x1.toNat) := h1
  refine mq_t ⟨h2, h3⟩ ?_
  show pr K K d tb_M163 6 [(0, .ref 170), (1, vi x1)] [vi (t 206 x1.toNat)] s _
  refine pr_n (pc2 := 7) (lv2 := [(0, .ref 170), (1, vi x1)]) (st2 := [vi 4, vi (t 206 x1.toNat)]) 1 (fun _ _ => rfl) ?_
  by_cases h4 : t 206 x1.toNat ≠ 4
  · refine mq_t h4 ?_
    refine pr_if2t rfl rfl h1 (i32_n rfl) h4 ?_
    refine pr_n (pc2 := 35) (lv2 := [(0, .ref 170), (1, vi x1)]) (st2 := [.ref 170]) 1 (fun _ _ => rfl) ?_
    refine pr_get (v := .ref 206) rfl rfl rfl (by decide) (rv_ref (hE.2.1 170 41 206 rfl)) fun _ => ?_
    refine pr_n (pc2 := 39) (lv2 := [(0, .ref 170), (1, vi x1)]) (st2 := [vi x1, .ref 206]) 1 (fun _ _ => rfl) ?_
    refine pr_aE (k2 := 206) (a := x1) (v := vi (t 206 x1.toNat)) hE rfl rfl rfl hx1 (by decide) rfl rfl rfl fun h6 h7 h5 => ?_
    have h5 : i32 (t 206 x1.toNat) := h5
    refine pr_n (pc2 := 41) (lv2 := [(0, .ref 170), (1, vi x1)]) (st2 := [vi 5, vi (t 206 x1.toNat)]) 1 (fun _ _ => rfl) ?_
    by_cases h8 : t 206 x1.toNat ≠ 5
    · refine mq_t h8 ?_
      refine pr_if2t rfl rfl h5 (i32_n rfl) h8 ?_
      refine pr_n (pc2 := 66) (lv2 := [(2, vi 0), (0, .ref 170), (1, vi x1)]) (st2 := []) 2 (fun _ _ => rfl) ?_
      exact ((ea163 h_164 K)) s t 0 x1 hE (i32_n rfl) hx1
    · refine mq_f h8 ?_
      refine pr_if2f rfl rfl h5 (i32_n rfl) h8 ?_
      refine pr_n (pc2 := 45) (lv2 := [(0, .ref 170), (1, vi x1)]) (st2 := [.ref 170]) 1 (fun _ _ => rfl) ?_
      refine pr_get (v := .ref 1630) rfl rfl rfl (by decide) (rv_ref (hE.2.1 170 51 1630 rfl)) fun _ => ?_
      refine pr_n (pc2 := 49) (lv2 := [(0, .ref 170), (1, vi x1)]) (st2 := [.ref 170, .ref 1630]) 1 (fun _ _ => rfl) ?_
      refine pr_get (v := .ref 207) rfl rfl rfl (by decide) (rv_ref (hE.2.1 170 42 207 rfl)) fun _ => ?_
      refine pr_n (pc2 := 53) (lv2 := [(0, .ref 170), (1, vi x1)]) (st2 := [vi x1, .ref 207, .ref 1630]) 1 (fun _ _ => rfl) ?_
      refine pr_aE (k2 := 207) (a := x1) (v := vi (t 207 x1.toNat)) hE rfl rfl rfl hx1 (by decide) rfl rfl rfl fun h10 h11 h9 => ?_
      have h9 : i32 (t 207 x1.toNat) := h9
      refine pr_aE (k2 := 1630) (a := t 207 x1.toNat) (v := vi (t 1630 ((t 207 x1.toNat).toNat))) hE rfl rfl rfl h9 (by decide) rfl rfl rfl fun h13 h14 h12 => ?_
      have h12 : i32 (t 1630 ((t 207 x1.toNat).toNat)) := h12
      by_cases h15 : t 1630 ((t 207 x1.toNat).toNat) ≤ 0
      · refine mq_t h15 ?_
        refine pr_if1t rfl rfl h12 h15 ?_
        refine pr_n (pc2 := 63) (lv2 := [(0, .ref 170), (1, vi x1)]) (st2 := [vi 0]) 1 (fun _ _ => rfl) ?_
        refine pr_end (fun _ _ => rfl) ?_
        exact .inl ⟨_, 0, _, rfl, ⟨rfl, (by decide)⟩, rfl, hE⟩
      · refine mq_f h15 ?_
        refine pr_if1f rfl rfl h12 h15 ?_
        refine pr_n (pc2 := 63) (lv2 := [(0, .ref 170), (1, vi x1)]) (st2 := [vi 1]) 2 (fun _ _ => rfl) ?_
        refine pr_end (fun _ _ => rfl) ?_
        exact .inl ⟨_, 1, _, rfl, ⟨rfl, (by decide)⟩, rfl, hE⟩
  · refine mq_f h4 ?_
    refine pr_if2f rfl rfl h1 (i32_n rfl) h4 ?_
    refine pr_n (pc2 := 11) (lv2 := [(0, .ref 170), (1, vi x1)]) (st2 := [.ref 170]) 1 (fun _ _ => rfl) ?_
    refine pr_get (v := .ref 1630) rfl rfl rfl (by decide) (rv_ref (hE.2.1 170 51 1630 rfl)) fun _ => ?_
    refine pr_n (pc2 := 16) (lv2 := [(0, .ref 170), (1, vi x1)]) (st2 := [.ref 170, vi 4, .ref 1630]) 2 (fun _ _ => rfl) ?_
    refine pr_get (v := .ref 207) rfl rfl rfl (by decide) (rv_ref (hE.2.1 170 42 207 rfl)) fun _ => ?_
    refine pr_n (pc2 := 20) (lv2 := [(0, .ref 170), (1, vi x1)]) (st2 := [vi x1, .ref 207, vi 4, .ref 1630]) 1 (fun _ _ => rfl) ?_
    refine pr_aE (k2 := 207) (a := x1) (v := vi (t 207 x1.toNat)) hE rfl rfl rfl hx1 (by decide) rfl rfl rfl fun h17 h18 h16 => ?_
    have h16 : i32 (t 207 x1.toNat) := h16
    refine pr_i2 (a := 4) (b := t 207 x1.toNat) rfl rfl ?_
    show pr K K d tb_M163 22 [(0, .ref 170), (1, vi x1)] [vi (ipl 4 (t 207 x1.toNat)), .ref 1630] s _
    have h19 : i32 (ipl 4 (t 207 x1.toNat)) := i32_in _
    refine pr_aE (k2 := 1630) (a := ipl 4 (t 207 x1.toNat)) (v := vi (t 1630 ((ipl 4 (t 207 x1.toNat)).toNat))) hE rfl rfl rfl h19 (by decide) rfl rfl rfl fun h21 h22 h20 => ?_
    have h20 : i32 (t 1630 ((ipl 4 (t 207 x1.toNat)).toNat)) := h20
    refine pr_n (pc2 := 25) (lv2 := [(0, .ref 170), (1, vi x1)]) (st2 := [vi 40, vi (t 1630 ((ipl 4 (t 207 x1.toNat)).toNat))]) 1 (fun _ _ => rfl) ?_
    by_cases h23 : 40 ≤ t 1630 ((ipl 4 (t 207 x1.toNat)).toNat)
    · refine mq_t h23 ?_
      refine pr_if2t rfl rfl h20 (i32_n rfl) h23 ?_
      refine pr_n (pc2 := 33) (lv2 := [(0, .ref 170), (1, vi x1)]) (st2 := [vi 0]) 1 (fun _ _ => rfl) ?_
      refine pr_end (fun _ _ => rfl) ?_
      exact .inl ⟨_, 0, _, rfl, ⟨rfl, (by decide)⟩, rfl, hE⟩
    · refine mq_f h23 ?_
      refine pr_if2f rfl rfl h20 (i32_n rfl) h23 ?_
      refine pr_n (pc2 := 33) (lv2 := [(0, .ref 170), (1, vi x1)]) (st2 := [vi 1]) 2 (fun _ _ => rfl) ?_
      refine pr_end (fun _ _ => rfl) ?_
      exact .inl ⟨_, 1, _, rfl, ⟨rfl, (by decide)⟩, rfl, hE⟩
set_option maxHeartbeats 20000000 in
set_option maxRecDepth 100000 in
theorem em165 {K d C : Nat} (h_164 : eT164 K d C) (h_166 : eT166 K d C) (h_167 : eT167 K d C) (h_168 : eT168 K d C) (h_169 : eT169 K d C) (h_170 : eT170 K d C) : eT165 K (d + 1) C := by
  intro s t x1 hE hx1
  have hC : C = 177 ∨ C = 186 := hE.1
  refine pcr_of (M := tb_M165) rfl ?_
  show pr K K d tb_M165 0 [(0, .ref 170), (1, vi x1)] [] s _
  rw [eG_165]
  unfold eM165
  refine pr_n (pc2 := 1) (lv2 := [(0, .ref 170), (1, vi x1)]) (st2 := [.ref 170]) 1 (fun _ _ => rfl) ?_
  refine pr_get (v := .ref 205) rfl rfl rfl (by decide) (rv_ref (hE.2.1 170 40 205 rfl)) fun _ => ?_
  refine pr_n (pc2 := 5) (lv2 := [(0, .ref 170), (1, vi x1)]) (st2 := [vi x1, .ref 205]) 1 (fun _ _ => rfl) ?_
  refine pr_aE (k2 := 205) (a := x1) (v := vi (t 205 x1.toNat)) hE rfl rfl rfl hx1 (by decide) rfl rfl rfl fun h2 h3 h1 => ?_
  have h1 : i32 (t 205 x1.toNat) := h1
  refine mq_t ⟨h2, h3⟩ ?_
  show pr K K d tb_M165 6 [(0, .ref 170), (1, vi x1)] [vi (t 205 x1.toNat)] s _
  refine pr_n (pc2 := 9) (lv2 := [(2, vi (t 205 x1.toNat)), (0, .ref 170), (1, vi x1)]) (st2 := [vi x1, .ref 170]) 3 (fun _ _ => rfl) ?_
  refine pr_s1 (args := [vi x1]) (rest := []) rfl rfl rfl rfl (Nat.le_of_ble_eq_true rfl) rfl (h_166 s t x1 hE hx1) e_rds ?_
  rintro _ s4 ⟨rfl, hz4⟩ hE4
  show pr K K d tb_M165 12 [(2, vi (t 205 x1.toNat)), (0, .ref 170), (1, vi x1)] [vi (rdz t x1)] s4 _
  refine pr_n (pc2 := 14) (lv2 := [(3, vi (rdz t x1)), (2, vi (t 205 x1.toNat)), (0, .ref 170), (1, vi x1)]) (st2 := [vi (rdz t x1)]) 2 (fun _ _ => rfl) ?_
  by_cases h5 : rdz t x1 = 0
  · refine mq_t h5 ?_
    refine pr_tsw rfl hz4 (by rw [h5]; rfl) rfl ?_
    refine pr_n (pc2 := 117) (lv2 := [(3, vi (rdz t x1)), (2, vi (t 205 x1.toNat)), (0, .ref 170), (1, vi x1)]) (st2 := [.ref 170]) 1 (fun _ _ => rfl) ?_
    refine pr_gE (k2 := 170) (v := vi ((rds t x1) 170 53)) hE4 rfl rfl rfl (by decide) rfl rfl rfl fun h6 => ?_
    have h6 : i32 ((rds t x1) 170 53) := h6
    refine pr_n (pc2 := 121) (lv2 := [(3, vi (rdz t x1)), (2, vi (t 205 x1.toNat)), (0, .ref 170), (1, vi x1)]) (st2 := [.ref 170, vi ((rds t x1) 170 53)]) 1 (fun _ _ => rfl) ?_
    refine pr_gE (k2 := 170) (v := vi ((rds t x1) 170 54)) hE4 rfl rfl rfl (by decide) rfl rfl rfl fun h7 => ?_
    have h7 : i32 ((rds t x1) 170 54) := h7
    by_cases h8 : (rds t x1) 170 53 ≠ (rds t x1) 170 54
    · refine mq_t h8 ?_
      refine pr_if2t rfl rfl h6 h7 h8 ?_
      refine pr_n (pc2 := 137) (lv2 := [(3, vi (rdz t x1)), (2, vi (t 205 x1.toNat)), (0, .ref 170), (1, vi x1)]) (st2 := [.ref 170, .ref 170]) 2 (fun _ _ => rfl) ?_
      refine pr_gE (k2 := 170) (v := vi ((rds t x1) 170 53)) hE4 rfl rfl rfl (by decide) rfl rfl rfl fun h9 => ?_
      have h9 : i32 ((rds t x1) 170 53) := h9
      refine pr_n (pc2 := 141) (lv2 := [(3, vi (rdz t x1)), (2, vi (t 205 x1.toNat)), (0, .ref 170), (1, vi x1)]) (st2 := [vi 1, vi ((rds t x1) 170 53), .ref 170]) 1 (fun _ _ => rfl) ?_
      refine pr_i2 (a := (rds t x1) 170 53) (b := 1) rfl rfl ?_
      show pr K K d tb_M165 142 [(3, vi (rdz t x1)), (2, vi (t 205 x1.toNat)), (0, .ref 170), (1, vi x1)] [vi (ipl ((rds t x1) 170 53) 1), .ref 170] s4 _
      have h10 : i32 (ipl ((rds t x1) 170 53) 1) := i32_in _
      refine pr_pE (k2 := 170) (z := ipl ((rds t x1) 170 53) 1) hE4 rfl rfl rfl rfl (by decide) rfl (by decide) rfl (show i32 (ipl ((rds t x1) 170 53) 1) from h10) (hf_int' _) rfl rfl rfl (fun e => absurd e.2 (by decide)) (fun _ => trivial) fun s11 hE11 => ?_
      refine pr_end (fun _ _ => rfl) ?_
      exact .inl ⟨_, 0, _, rfl, ⟨rfl, rfl⟩, rfl, hE11⟩
    · refine mq_f h8 ?_
      refine pr_if2f rfl rfl h6 h7 h8 ?_
      refine pr_n (pc2 := 129) (lv2 := [(3, vi (rdz t x1)), (2, vi (t 205 x1.toNat)), (0, .ref 170), (1, vi x1)]) (st2 := [vi 3, .ref 170]) 2 (fun _ _ => rfl) ?_
      refine pr_pE (k2 := 170) (z := 3) hE4 rfl rfl rfl rfl (by decide) rfl (by decide) rfl (show i32 (3) from (i32_n rfl)) (hf_int' _) rfl rfl rfl (fun e => absurd e.2 (by decide)) (fun _ => trivial) fun s12 hE12 => ?_
      refine pr_n (pc2 := 145) (lv2 := [(3, vi (rdz t x1)), (2, vi (t 205 x1.toNat)), (0, .ref 170), (1, vi x1)]) (st2 := []) 1 (fun _ _ => rfl) ?_
      refine pr_end (fun _ _ => rfl) ?_
      exact .inl ⟨_, 0, _, rfl, ⟨rfl, rfl⟩, rfl, hE12⟩
  · refine mq_f h5 ?_
    by_cases h13 : rdz t x1 = 1
    · refine mq_t h13 ?_
      refine pr_tsw rfl hz4 (by rw [h13]; rfl) rfl ?_
      refine pr_end (fun _ _ => rfl) ?_
      exact .inl ⟨_, 0, _, rfl, ⟨rfl, rfl⟩, rfl, hE4⟩
    · refine mq_f h13 ?_
      by_cases h14 : rdz t x1 = 2
      · refine mq_t h14 ?_
        refine pr_tsw rfl hz4 (by rw [h14]; rfl) rfl ?_
        refine pr_n (pc2 := 151) (lv2 := [(3, vi (rdz t x1)), (2, vi (t 205 x1.toNat)), (0, .ref 170), (1, vi x1)]) (st2 := [vi x1, .ref 170, vi x1, .ref 170]) 4 (fun _ _ => rfl) ?_
        refine pr_s1 (args := [vi x1]) (rest := [vi x1, .ref 170]) rfl rfl rfl rfl (Nat.le_of_ble_eq_true rfl) rfl (h_166 s4 ((rds t x1)) x1 hE4 hx1) e_rds ?_
        rintro _ s15 ⟨rfl, hz15⟩ hE15
        show pr K K d tb_M165 154 [(3, vi (rdz t x1)), (2, vi (t 205 x1.toNat)), (0, .ref 170), (1, vi x1)] [vi (rdz ((rds t x1)) x1), vi x1, .ref 170] s15 _
        refine pr_s1 (args := [vi x1, vi (rdz ((rds t x1)) x1)]) (rest := []) rfl rfl rfl rfl (Nat.le_of_ble_eq_true rfl) rfl (h_164 s15 ((rds ((rds t x1)) x1)) x1 (rdz ((rds t x1)) x1) hE15 hx1 hz15) e_phE ?_
        rintro _ s16 ⟨rfl, _⟩ hE16
        show pr K K d tb_M165 157 [(3, vi (rdz t x1)), (2, vi (t 205 x1.toNat)), (0, .ref 170), (1, vi x1)] [] s16 _
        refine pr_end (fun _ _ => rfl) ?_
        exact .inl ⟨_, 0, _, rfl, ⟨rfl, rfl⟩, rfl, hE16⟩
      · refine mq_f h14 ?_
        by_cases h17 : rdz t x1 = 3
        · refine mq_t h17 ?_
          refine pr_tsw rfl hz4 (by rw [h17]; rfl) rfl ?_
          refine pr_n (pc2 := 161) (lv2 := [(3, vi (rdz t x1)), (2, vi (t 205 x1.toNat)), (0, .ref 170), (1, vi x1)]) (st2 := [.ref 170, vi x1, .ref 170]) 3 (fun _ _ => rfl) ?_
          refine pr_get (v := .ref 203) rfl rfl rfl (by decide) (rv_ref (hE4.2.1 170 38 203 rfl)) fun _ => ?_
          refine pr_n (pc2 := 166) (lv2 := [(3, vi (rdz t x1)), (2, vi (t 205 x1.toNat)), (0, .ref 170), (1, vi x1)]) (st2 := [vi x1, .ref 170, .ref 203, vi x1, .ref 170]) 2 (fun _ _ => rfl) ?_
          refine pr_s1 (args := [vi x1]) (rest := [.ref 203, vi x1, .ref 170]) rfl rfl rfl rfl (Nat.le_of_ble_eq_true rfl) rfl (h_166 s4 ((rds t x1)) x1 hE4 hx1) e_rds ?_
          rintro _ s18 ⟨rfl, hz18⟩ hE18
          show pr K K d tb_M165 169 [(3, vi (rdz t x1)), (2, vi (t 205 x1.toNat)), (0, .ref 170), (1, vi x1)] [vi (rdz ((rds t x1)) x1), .ref 203, vi x1, .ref 170] s18 _
          refine pr_aE (k2 := 203) (a := rdz ((rds t x1)) x1) (v := vi ((rds ((rds t x1)) x1) 203 ((rdz ((rds t x1)) x1).toNat))) hE18 rfl rfl rfl hz18 (by decide) rfl rfl rfl fun h20 h21 h19 => ?_
          have h19 : i32 ((rds ((rds t x1)) x1) 203 ((rdz ((rds t x1)) x1).toNat)) := h19
          refine pr_s1 (args := [vi x1, vi ((rds ((rds t x1)) x1) 203 ((rdz ((rds t x1)) x1).toNat))]) (rest := []) rfl rfl rfl rfl (Nat.le_of_ble_eq_true rfl) rfl (h_164 s18 ((rds ((rds t x1)) x1)) x1 ((rds ((rds t x1)) x1) 203 ((rdz ((rds t x1)) x1).toNat)) hE18 hx1 h19) e_phE ?_
          rintro _ s22 ⟨rfl, _⟩ hE22
          show pr K K d tb_M165 173 [(3, vi (rdz t x1)), (2, vi (t 205 x1.toNat)), (0, .ref 170), (1, vi x1)] [] s22 _
          refine pr_end (fun _ _ => rfl) ?_
          exact .inl ⟨_, 0, _, rfl, ⟨rfl, rfl⟩, rfl, hE22⟩
        · refine mq_f h17 ?_
          by_cases h23 : rdz t x1 = 4
          · refine mq_t h23 ?_
            refine pr_tsw rfl hz4 (by rw [h23]; rfl) rfl ?_
            refine pr_n (pc2 := 176) (lv2 := [(3, vi (rdz t x1)), (2, vi (t 205 x1.toNat)), (0, .ref 170), (1, vi x1)]) (st2 := [vi x1, .ref 170]) 2 (fun _ _ => rfl) ?_
            refine pr_s1 (args := [vi x1]) (rest := []) rfl rfl rfl rfl (Nat.le_of_ble_eq_true rfl) rfl (h_166 s4 ((rds t x1)) x1 hE4 hx1) e_rds ?_
            rintro _ s24 ⟨rfl, hz24⟩ hE24
            show pr K K d tb_M165 179 [(3, vi (rdz t x1)), (2, vi (t 205 x1.toNat)), (0, .ref 170), (1, vi x1)] [vi (rdz ((rds t x1)) x1)] s24 _
            refine pr_n (pc2 := 184) (lv2 := [(4, vi (rdz ((rds t x1)) x1)), (3, vi (rdz t x1)), (2, vi (t 205 x1.toNat)), (0, .ref 170), (1, vi x1)]) (st2 := [.ref 170, vi x1, .ref 170]) 4 (fun _ _ => rfl) ?_
            refine pr_get (v := .ref 212) rfl rfl rfl (by decide) (rv_ref (hE24.2.1 170 47 212 rfl)) fun _ => ?_
            refine pr_n (pc2 := 189) (lv2 := [(4, vi (rdz ((rds t x1)) x1)), (3, vi (rdz t x1)), (2, vi (t 205 x1.toNat)), (0, .ref 170), (1, vi x1)]) (st2 := [vi (rdz ((rds t x1)) x1), .ref 212, vi x1, .ref 170]) 1 (fun _ _ => rfl) ?_
            refine pr_row (a := rdz ((rds t x1)) x1) (v := 213 + ((rdz ((rds t x1)) x1).toNat)) rfl rfl rfl rfl hz24 (by decide) (fun h1 h2 => hE24.2.1 _ _ _ (rc_it (by omega))) fun h25 h26 => ?_
            show pr K K d tb_M165 190 [(4, vi (rdz ((rds t x1)) x1)), (3, vi (rdz t x1)), (2, vi (t 205 x1.toNat)), (0, .ref 170), (1, vi x1)] [.ref (213 + ((rdz ((rds t x1)) x1).toNat)), vi x1, .ref 170] s24 _
            refine pr_n (pc2 := 192) (lv2 := [(4, vi (rdz ((rds t x1)) x1)), (3, vi (rdz t x1)), (2, vi (t 205 x1.toNat)), (0, .ref 170), (1, vi x1)]) (st2 := [vi x1, .ref 170, .ref (213 + ((rdz ((rds t x1)) x1).toNat)), vi x1, .ref 170]) 2 (fun _ _ => rfl) ?_
            refine pr_s1 (args := [vi x1]) (rest := [.ref (213 + ((rdz ((rds t x1)) x1).toNat)), vi x1, .ref 170]) rfl rfl rfl rfl (Nat.le_of_ble_eq_true rfl) rfl (h_167 s24 ((rds ((rds t x1)) x1)) x1 hE24 hx1) e_pos ?_
            rintro _ s27 ⟨rfl, hz27⟩ hE27
            show pr K K d tb_M165 195 [(4, vi (rdz ((rds t x1)) x1)), (3, vi (rdz t x1)), (2, vi (t 205 x1.toNat)), (0, .ref 170), (1, vi x1)] [vi (poz ((rds ((rds t x1)) x1)) x1), .ref (213 + ((rdz ((rds t x1)) x1).toNat)), vi x1, .ref 170] s27 _
            refine pr_n (pc2 := 196) (lv2 := [(4, vi (rdz ((rds t x1)) x1)), (3, vi (rdz t x1)), (2, vi (t 205 x1.toNat)), (0, .ref 170), (1, vi x1)]) (st2 := [.ref 170, vi (poz ((rds ((rds t x1)) x1)) x1), .ref (213 + ((rdz ((rds t x1)) x1).toNat)), vi x1, .ref 170]) 1 (fun _ _ => rfl) ?_
            refine pr_get (v := .ref C) rfl rfl rfl (by decide) (rv_ref (show s27.1 170 17 = ((C : Nat) : Int) from hE27.2.2.1)) fun _ => ?_
            refine pr_get (v := .ref (C + 3)) rfl rfl (TG_C hC) (by decide) (rv_ref (hE27.2.1 C 12 (C + 3) (rc_C12 hC))) fun _ => ?_
            refine pr_n (pc2 := 204) (lv2 := [(4, vi (rdz ((rds t x1)) x1)), (3, vi (rdz t x1)), (2, vi (t 205 x1.toNat)), (0, .ref 170), (1, vi x1)]) (st2 := [vi (rdz ((rds t x1)) x1), .ref (C + 3), vi (poz ((rds ((rds t x1)) x1)) x1), .ref (213 + ((rdz ((rds t x1)) x1).toNat)), vi x1, .ref 170]) 1 (fun _ _ => rfl) ?_
            refine pr_aE (k2 := 180) (a := rdz ((rds t x1)) x1) (v := vi ((pos ((rds ((rds t x1)) x1)) x1) 180 ((rdz ((rds t x1)) x1).toNat))) hE27 rfl (TG_C3 hC) rfl hz24 (by decide) rfl rfl rfl fun h29 h30 h28 => ?_
            have h28 : i32 ((pos ((rds ((rds t x1)) x1)) x1) 180 ((rdz ((rds t x1)) x1).toNat)) := h28
            refine pr_n (pc2 := 206) (lv2 := [(4, vi (rdz ((rds t x1)) x1)), (3, vi (rdz t x1)), (2, vi (t 205 x1.toNat)), (0, .ref 170), (1, vi x1)]) (st2 := [vi 1, vi ((pos ((rds ((rds t x1)) x1)) x1) 180 ((rdz ((rds t x1)) x1).toNat)), vi (poz ((rds ((rds t x1)) x1)) x1), .ref (213 + ((rdz ((rds t x1)) x1).toNat)), vi x1, .ref 170]) 1 (fun _ _ => rfl) ?_
            refine pr_i2 (a := (pos ((rds ((rds t x1)) x1)) x1) 180 ((rdz ((rds t x1)) x1).toNat)) (b := 1) rfl rfl ?_
            show pr K K d tb_M165 207 [(4, vi (rdz ((rds t x1)) x1)), (3, vi (rdz t x1)), (2, vi (t 205 x1.toNat)), (0, .ref 170), (1, vi x1)] [vi (imi ((pos ((rds ((rds t x1)) x1)) x1) 180 ((rdz ((rds t x1)) x1).toNat)) 1), vi (poz ((rds ((rds t x1)) x1)) x1), .ref (213 + ((rdz ((rds t x1)) x1).toNat)), vi x1, .ref 170] s27 _
            have h31 : i32 (imi ((pos ((rds ((rds t x1)) x1)) x1) 180 ((rdz ((rds t x1)) x1).toNat)) 1) := i32_in _
            refine pr_i2 (a := poz ((rds ((rds t x1)) x1)) x1) (b := imi ((pos ((rds ((rds t x1)) x1)) x1) 180 ((rdz ((rds t x1)) x1).toNat)) 1) rfl rfl ?_
            show pr K K d tb_M165 208 [(4, vi (rdz ((rds t x1)) x1)), (3, vi (rdz t x1)), (2, vi (t 205 x1.toNat)), (0, .ref 170), (1, vi x1)] [vi (ian (poz ((rds ((rds t x1)) x1)) x1) (imi ((pos ((rds ((rds t x1)) x1)) x1) 180 ((rdz ((rds t x1)) x1).toNat)) 1)), .ref (213 + ((rdz ((rds t x1)) x1).toNat)), vi x1, .ref 170] s27 _
            have h32 : i32 (ian (poz ((rds ((rds t x1)) x1)) x1) (imi ((pos ((rds ((rds t x1)) x1)) x1) 180 ((rdz ((rds t x1)) x1).toNat)) 1)) := i32_in _
            refine pr_aE (k2 := (213 + ((rdz ((rds t x1)) x1).toNat))) (a := ian (poz ((rds ((rds t x1)) x1)) x1) (imi ((pos ((rds ((rds t x1)) x1)) x1) 180 ((rdz ((rds t x1)) x1).toNat)) 1)) (v := vi ((pos ((rds ((rds t x1)) x1)) x1) (213 + ((rdz ((rds t x1)) x1).toNat)) ((ian (poz ((rds ((rds t x1)) x1)) x1) (imi ((pos ((rds ((rds t x1)) x1)) x1) 180 ((rdz ((rds t x1)) x1).toNat)) 1)).toNat))) hE27 rfl (TG_it (by omega)) rfl h32 (by decide) (pe_hi (by omega)) (re_it (by omega)) rfl fun h34 h35 h33 => ?_
            have h33 : i32 ((pos ((rds ((rds t x1)) x1)) x1) (213 + ((rdz ((rds t x1)) x1).toNat)) ((ian (poz ((rds ((rds t x1)) x1)) x1) (imi ((pos ((rds ((rds t x1)) x1)) x1) 180 ((rdz ((rds t x1)) x1).toNat)) 1)).toNat)) := h33
            refine pr_s1 (args := [vi x1, vi ((pos ((rds ((rds t x1)) x1)) x1) (213 + ((rdz ((rds t x1)) x1).toNat)) ((ian (poz ((rds ((rds t x1)) x1)) x1) (imi ((pos ((rds ((rds t x1)) x1)) x1) 180 ((rdz ((rds t x1)) x1).toNat)) 1)).toNat))]) (rest := []) rfl rfl rfl rfl (Nat.le_of_ble_eq_true rfl) rfl (h_164 s27 ((pos ((rds ((rds t x1)) x1)) x1)) x1 ((pos ((rds ((rds t x1)) x1)) x1) (213 + ((rdz ((rds t x1)) x1).toNat)) ((ian (poz ((rds ((rds t x1)) x1)) x1) (imi ((pos ((rds ((rds t x1)) x1)) x1) 180 ((rdz ((rds t x1)) x1).toNat)) 1)).toNat)) hE27 hx1 h33) e_phE ?_
            rintro _ s36 ⟨rfl, _⟩ hE36
            show pr K K d tb_M165 212 [(4, vi (rdz ((rds t x1)) x1)), (3, vi (rdz t x1)), (2, vi (t 205 x1.toNat)), (0, .ref 170), (1, vi x1)] [] s36 _
            refine pr_end (fun _ _ => rfl) ?_
            exact .inl ⟨_, 0, _, rfl, ⟨rfl, rfl⟩, rfl, hE36⟩
          · refine mq_f h23 ?_
            by_cases h37 : rdz t x1 = 5
            · refine mq_t h37 ?_
              refine pr_tsw rfl hz4 (by rw [h37]; rfl) rfl ?_
              refine pr_n (pc2 := 215) (lv2 := [(3, vi (rdz t x1)), (2, vi (t 205 x1.toNat)), (0, .ref 170), (1, vi x1)]) (st2 := [vi x1, .ref 170]) 2 (fun _ _ => rfl) ?_
              refine pr_s1 (args := [vi x1]) (rest := []) rfl rfl rfl rfl (Nat.le_of_ble_eq_true rfl) rfl (h_166 s4 ((rds t x1)) x1 hE4 hx1) e_rds ?_
              rintro _ s38 ⟨rfl, hz38⟩ hE38
              show pr K K d tb_M165 218 [(3, vi (rdz t x1)), (2, vi (t 205 x1.toNat)), (0, .ref 170), (1, vi x1)] [vi (rdz ((rds t x1)) x1)] s38 _
              refine pr_n (pc2 := 222) (lv2 := [(4, vi (rdz ((rds t x1)) x1)), (3, vi (rdz t x1)), (2, vi (t 205 x1.toNat)), (0, .ref 170), (1, vi x1)]) (st2 := [vi x1, .ref 170]) 3 (fun _ _ => rfl) ?_
              refine pr_s1 (args := [vi x1]) (rest := []) rfl rfl rfl rfl (Nat.le_of_ble_eq_true rfl) rfl (h_167 s38 ((rds ((rds t x1)) x1)) x1 hE38 hx1) e_pos ?_
              rintro _ s39 ⟨rfl, hz39⟩ hE39
              show pr K K d tb_M165 225 [(4, vi (rdz ((rds t x1)) x1)), (3, vi (rdz t x1)), (2, vi (t 205 x1.toNat)), (0, .ref 170), (1, vi x1)] [vi (poz ((rds ((rds t x1)) x1)) x1)] s39 _
              refine pr_n (pc2 := 228) (lv2 := [(5, vi (poz ((rds ((rds t x1)) x1)) x1)), (4, vi (rdz ((rds t x1)) x1)), (3, vi (rdz t x1)), (2, vi (t 205 x1.toNat)), (0, .ref 170), (1, vi x1)]) (st2 := [.ref 170]) 2 (fun _ _ => rfl) ?_
              refine pr_get (v := .ref 203) rfl rfl rfl (by decide) (rv_ref (hE39.2.1 170 38 203 rfl)) fun _ => ?_
              refine pr_n (pc2 := 234) (lv2 := [(5, vi (poz ((rds ((rds t x1)) x1)) x1)), (4, vi (rdz ((rds t x1)) x1)), (3, vi (rdz t x1)), (2, vi (t 205 x1.toNat)), (0, .ref 170), (1, vi x1)]) (st2 := [.ref 170, vi (rdz ((rds t x1)) x1), .ref 203]) 2 (fun _ _ => rfl) ?_
              refine pr_get (v := .ref C) rfl rfl rfl (by decide) (rv_ref (show s39.1 170 17 = ((C : Nat) : Int) from hE39.2.2.1)) fun _ => ?_
              refine pr_get (v := .ref (C + 2)) rfl rfl (TG_C hC) (by decide) (rv_ref (hE39.2.1 C 11 (C + 2) (rc_C11 hC))) fun _ => ?_
              refine pr_n (pc2 := 242) (lv2 := [(5, vi (poz ((rds ((rds t x1)) x1)) x1)), (4, vi (rdz ((rds t x1)) x1)), (3, vi (rdz t x1)), (2, vi (t 205 x1.toNat)), (0, .ref 170), (1, vi x1)]) (st2 := [vi (rdz ((rds t x1)) x1), .ref (C + 2), vi (rdz ((rds t x1)) x1), .ref 203]) 1 (fun _ _ => rfl) ?_
              refine pr_aE (k2 := 179) (a := rdz ((rds t x1)) x1) (v := vi ((pos ((rds ((rds t x1)) x1)) x1) 179 ((rdz ((rds t x1)) x1).toNat))) hE39 rfl (TG_C2 hC) rfl hz38 (by decide) rfl rfl rfl fun h41 h42 h40 => ?_
              have h40 : i32 ((pos ((rds ((rds t x1)) x1)) x1) 179 ((rdz ((rds t x1)) x1).toNat)) := h40
              by_cases h43 : (pos ((rds ((rds t x1)) x1)) x1) 179 ((rdz ((rds t x1)) x1).toNat) ≠ 0
              · refine mq_t h43 ?_
                refine pr_if1t rfl rfl h40 h43 ?_
                refine pr_n (pc2 := 256) (lv2 := [(5, vi (poz ((rds ((rds t x1)) x1)) x1)), (4, vi (rdz ((rds t x1)) x1)), (3, vi (rdz t x1)), (2, vi (t 205 x1.toNat)), (0, .ref 170), (1, vi x1)]) (st2 := [.ref 170, vi 1, vi (poz ((rds ((rds t x1)) x1)) x1), vi (rdz ((rds t x1)) x1), .ref 203]) 3 (fun _ _ => rfl) ?_
                refine pr_get (v := .ref C) rfl rfl rfl (by decide) (rv_ref (show s39.1 170 17 = ((C : Nat) : Int) from hE39.2.2.1)) fun _ => ?_
                refine pr_get (v := .ref (C + 2)) rfl rfl (TG_C hC) (by decide) (rv_ref (hE39.2.1 C 11 (C + 2) (rc_C11 hC))) fun _ => ?_
                refine pr_n (pc2 := 264) (lv2 := [(5, vi (poz ((rds ((rds t x1)) x1)) x1)), (4, vi (rdz ((rds t x1)) x1)), (3, vi (rdz t x1)), (2, vi (t 205 x1.toNat)), (0, .ref 170), (1, vi x1)]) (st2 := [vi (rdz ((rds t x1)) x1), .ref (C + 2), vi 1, vi (poz ((rds ((rds t x1)) x1)) x1), vi (rdz ((rds t x1)) x1), .ref 203]) 1 (fun _ _ => rfl) ?_
                refine pr_aE (k2 := 179) (a := rdz ((rds t x1)) x1) (v := vi ((pos ((rds ((rds t x1)) x1)) x1) 179 ((rdz ((rds t x1)) x1).toNat))) hE39 rfl (TG_C2 hC) rfl hz38 (by decide) rfl rfl rfl fun h45 h46 h44 => ?_
                have h44 : i32 ((pos ((rds ((rds t x1)) x1)) x1) 179 ((rdz ((rds t x1)) x1).toNat)) := h44
                refine pr_i2 (a := 1) (b := (pos ((rds ((rds t x1)) x1)) x1) 179 ((rdz ((rds t x1)) x1).toNat)) rfl rfl ?_
                show pr K K d tb_M165 266 [(5, vi (poz ((rds ((rds t x1)) x1)) x1)), (4, vi (rdz ((rds t x1)) x1)), (3, vi (rdz t x1)), (2, vi (t 205 x1.toNat)), (0, .ref 170), (1, vi x1)] [vi (isl 1 ((pos ((rds ((rds t x1)) x1)) x1) 179 ((rdz ((rds t x1)) x1).toNat))), vi (poz ((rds ((rds t x1)) x1)) x1), vi (rdz ((rds t x1)) x1), .ref 203] s39 _
                have h47 : i32 (isl 1 ((pos ((rds ((rds t x1)) x1)) x1) 179 ((rdz ((rds t x1)) x1).toNat))) := i32_in _
                refine pr_n (pc2 := 267) (lv2 := [(5, vi (poz ((rds ((rds t x1)) x1)) x1)), (4, vi (rdz ((rds t x1)) x1)), (3, vi (rdz t x1)), (2, vi (t 205 x1.toNat)), (0, .ref 170), (1, vi x1)]) (st2 := [vi 1, vi (isl 1 ((pos ((rds ((rds t x1)) x1)) x1) 179 ((rdz ((rds t x1)) x1).toNat))), vi (poz ((rds ((rds t x1)) x1)) x1), vi (rdz ((rds t x1)) x1), .ref 203]) 1 (fun _ _ => rfl) ?_
                refine pr_i2 (a := isl 1 ((pos ((rds ((rds t x1)) x1)) x1) 179 ((rdz ((rds t x1)) x1).toNat))) (b := 1) rfl rfl ?_
                show pr K K d tb_M165 268 [(5, vi (poz ((rds ((rds t x1)) x1)) x1)), (4, vi (rdz ((rds t x1)) x1)), (3, vi (rdz t x1)), (2, vi (t 205 x1.toNat)), (0, .ref 170), (1, vi x1)] [vi (imi (isl 1 ((pos ((rds ((rds t x1)) x1)) x1) 179 ((rdz ((rds t x1)) x1).toNat))) 1), vi (poz ((rds ((rds t x1)) x1)) x1), vi (rdz ((rds t x1)) x1), .ref 203] s39 _
                have h48 : i32 (imi (isl 1 ((pos ((rds ((rds t x1)) x1)) x1) 179 ((rdz ((rds t x1)) x1).toNat))) 1) := i32_in _
                refine pr_i2 (a := poz ((rds ((rds t x1)) x1)) x1) (b := imi (isl 1 ((pos ((rds ((rds t x1)) x1)) x1) 179 ((rdz ((rds t x1)) x1).toNat))) 1) rfl rfl ?_
                show pr K K d tb_M165 269 [(5, vi (poz ((rds ((rds t x1)) x1)) x1)), (4, vi (rdz ((rds t x1)) x1)), (3, vi (rdz t x1)), (2, vi (t 205 x1.toNat)), (0, .ref 170), (1, vi x1)] [vi (ian (poz ((rds ((rds t x1)) x1)) x1) (imi (isl 1 ((pos ((rds ((rds t x1)) x1)) x1) 179 ((rdz ((rds t x1)) x1).toNat))) 1)), vi (rdz ((rds t x1)) x1), .ref 203] s39 _
                have h49 : i32 (ian (poz ((rds ((rds t x1)) x1)) x1) (imi (isl 1 ((pos ((rds ((rds t x1)) x1)) x1) 179 ((rdz ((rds t x1)) x1).toNat))) 1)) := i32_in _
                refine pr_sE (k2 := 203) (a := rdz ((rds t x1)) x1) (z := ian (poz ((rds ((rds t x1)) x1)) x1) (imi (isl 1 ((pos ((rds ((rds t x1)) x1)) x1) 179 ((rdz ((rds t x1)) x1).toNat))) 1)) hE39 rfl (by decide) rfl rfl hz38 (by decide) rfl (show i32 (ian (poz ((rds ((rds t x1)) x1)) x1) (imi (isl 1 ((pos ((rds ((rds t x1)) x1)) x1) 179 ((rdz ((rds t x1)) x1).toNat))) 1)) from h49) (n0 rfl (by omega) (by omega)) rfl rfl (fun e => absurd e.1 (by decide)) (fun _ => trivial) fun h50 h51 s52 hE52 => ?_
                refine pr_end (fun _ _ => rfl) ?_
                exact .inl ⟨_, 0, _, rfl, ⟨rfl, rfl⟩, rfl, hE52⟩
              · refine mq_f h43 ?_
                refine pr_if1f rfl rfl h40 h43 ?_
                refine pr_n (pc2 := 248) (lv2 := [(5, vi (poz ((rds ((rds t x1)) x1)) x1)), (4, vi (rdz ((rds t x1)) x1)), (3, vi (rdz t x1)), (2, vi (t 205 x1.toNat)), (0, .ref 170), (1, vi x1)]) (st2 := [vi (poz ((rds ((rds t x1)) x1)) x1), vi (rdz ((rds t x1)) x1), .ref 203]) 1 (fun _ _ => rfl) ?_
                refine pr_i2s (a := poz ((rds ((rds t x1)) x1)) x1) rfl ?_
                show pr K K d tb_M165 249 [(5, vi (poz ((rds ((rds t x1)) x1)) x1)), (4, vi (rdz ((rds t x1)) x1)), (3, vi (rdz t x1)), (2, vi (t 205 x1.toNat)), (0, .ref 170), (1, vi x1)] [vi (i2s (poz ((rds ((rds t x1)) x1)) x1)), vi (rdz ((rds t x1)) x1), .ref 203] s39 _
                refine pr_n (pc2 := 269) (lv2 := [(5, vi (poz ((rds ((rds t x1)) x1)) x1)), (4, vi (rdz ((rds t x1)) x1)), (3, vi (rdz t x1)), (2, vi (t 205 x1.toNat)), (0, .ref 170), (1, vi x1)]) (st2 := [vi (i2s (poz ((rds ((rds t x1)) x1)) x1)), vi (rdz ((rds t x1)) x1), .ref 203]) 1 (fun _ _ => rfl) ?_
                refine pr_sE (k2 := 203) (a := rdz ((rds t x1)) x1) (z := i2s (poz ((rds ((rds t x1)) x1)) x1)) hE39 rfl (by decide) rfl rfl hz38 (by decide) rfl (show i32 (i2s (poz ((rds ((rds t x1)) x1)) x1)) from i2s_i32) (n0 rfl (by omega) (by omega)) rfl rfl (fun e => absurd e.1 (by decide)) (fun _ => trivial) fun h53 h54 s55 hE55 => ?_
                refine pr_end (fun _ _ => rfl) ?_
                exact .inl ⟨_, 0, _, rfl, ⟨rfl, rfl⟩, rfl, hE55⟩
            · refine mq_f h37 ?_
              by_cases h56 : rdz t x1 = 6
              · refine mq_t h56 ?_
                refine pr_tsw rfl hz4 (by rw [h56]; rfl) rfl ?_
                refine pr_n (pc2 := 273) (lv2 := [(3, vi (rdz t x1)), (2, vi (t 205 x1.toNat)), (0, .ref 170), (1, vi x1)]) (st2 := [vi x1, .ref 170]) 2 (fun _ _ => rfl) ?_
                refine pr_s1 (args := [vi x1]) (rest := []) rfl rfl rfl rfl (Nat.le_of_ble_eq_true rfl) rfl (h_166 s4 ((rds t x1)) x1 hE4 hx1) e_rds ?_
                rintro _ s57 ⟨rfl, hz57⟩ hE57
                show pr K K d tb_M165 276 [(3, vi (rdz t x1)), (2, vi (t 205 x1.toNat)), (0, .ref 170), (1, vi x1)] [vi (rdz ((rds t x1)) x1)] s57 _
                refine pr_n (pc2 := 280) (lv2 := [(4, vi (rdz ((rds t x1)) x1)), (3, vi (rdz t x1)), (2, vi (t 205 x1.toNat)), (0, .ref 170), (1, vi x1)]) (st2 := [vi x1, .ref 170]) 3 (fun _ _ => rfl) ?_
                refine pr_s1 (args := [vi x1]) (rest := []) rfl rfl rfl rfl (Nat.le_of_ble_eq_true rfl) rfl (h_167 s57 ((rds ((rds t x1)) x1)) x1 hE57 hx1) e_pos ?_
                rintro _ s58 ⟨rfl, hz58⟩ hE58
                show pr K K d tb_M165 283 [(4, vi (rdz ((rds t x1)) x1)), (3, vi (rdz t x1)), (2, vi (t 205 x1.toNat)), (0, .ref 170), (1, vi x1)] [vi (poz ((rds ((rds t x1)) x1)) x1)] s58 _
                refine pr_n (pc2 := 286) (lv2 := [(5, vi (poz ((rds ((rds t x1)) x1)) x1)), (4, vi (rdz ((rds t x1)) x1)), (3, vi (rdz t x1)), (2, vi (t 205 x1.toNat)), (0, .ref 170), (1, vi x1)]) (st2 := [.ref 170]) 2 (fun _ _ => rfl) ?_
                refine pr_get (v := .ref 212) rfl rfl rfl (by decide) (rv_ref (hE58.2.1 170 47 212 rfl)) fun _ => ?_
                refine pr_n (pc2 := 291) (lv2 := [(5, vi (poz ((rds ((rds t x1)) x1)) x1)), (4, vi (rdz ((rds t x1)) x1)), (3, vi (rdz t x1)), (2, vi (t 205 x1.toNat)), (0, .ref 170), (1, vi x1)]) (st2 := [vi (rdz ((rds t x1)) x1), .ref 212]) 1 (fun _ _ => rfl) ?_
                refine pr_row (a := rdz ((rds t x1)) x1) (v := 213 + ((rdz ((rds t x1)) x1).toNat)) rfl rfl rfl rfl hz57 (by decide) (fun h1 h2 => hE58.2.1 _ _ _ (rc_it (by omega))) fun h59 h60 => ?_
                show pr K K d tb_M165 292 [(5, vi (poz ((rds ((rds t x1)) x1)) x1)), (4, vi (rdz ((rds t x1)) x1)), (3, vi (rdz t x1)), (2, vi (t 205 x1.toNat)), (0, .ref 170), (1, vi x1)] [.ref (213 + ((rdz ((rds t x1)) x1).toNat))] s58 _
                refine pr_n (pc2 := 294) (lv2 := [(5, vi (poz ((rds ((rds t x1)) x1)) x1)), (4, vi (rdz ((rds t x1)) x1)), (3, vi (rdz t x1)), (2, vi (t 205 x1.toNat)), (0, .ref 170), (1, vi x1)]) (st2 := [vi x1, .ref 170, .ref (213 + ((rdz ((rds t x1)) x1).toNat))]) 2 (fun _ _ => rfl) ?_
                refine pr_s1 (args := [vi x1]) (rest := [.ref (213 + ((rdz ((rds t x1)) x1).toNat))]) rfl rfl rfl rfl (Nat.le_of_ble_eq_true rfl) rfl (h_167 s58 ((pos ((rds ((rds t x1)) x1)) x1)) x1 hE58 hx1) e_pos ?_
                rintro _ s61 ⟨rfl, hz61⟩ hE61
                show pr K K d tb_M165 297 [(5, vi (poz ((rds ((rds t x1)) x1)) x1)), (4, vi (rdz ((rds t x1)) x1)), (3, vi (rdz t x1)), (2, vi (t 205 x1.toNat)), (0, .ref 170), (1, vi x1)] [vi (poz ((pos ((rds ((rds t x1)) x1)) x1)) x1), .ref (213 + ((rdz ((rds t x1)) x1).toNat))] s61 _
                refine pr_n (pc2 := 298) (lv2 := [(5, vi (poz ((rds ((rds t x1)) x1)) x1)), (4, vi (rdz ((rds t x1)) x1)), (3, vi (rdz t x1)), (2, vi (t 205 x1.toNat)), (0, .ref 170), (1, vi x1)]) (st2 := [.ref 170, vi (poz ((pos ((rds ((rds t x1)) x1)) x1)) x1), .ref (213 + ((rdz ((rds t x1)) x1).toNat))]) 1 (fun _ _ => rfl) ?_
                refine pr_get (v := .ref C) rfl rfl rfl (by decide) (rv_ref (show s61.1 170 17 = ((C : Nat) : Int) from hE61.2.2.1)) fun _ => ?_
                refine pr_get (v := .ref (C + 3)) rfl rfl (TG_C hC) (by decide) (rv_ref (hE61.2.1 C 12 (C + 3) (rc_C12 hC))) fun _ => ?_
                refine pr_n (pc2 := 306) (lv2 := [(5, vi (poz ((rds ((rds t x1)) x1)) x1)), (4, vi (rdz ((rds t x1)) x1)), (3, vi (rdz t x1)), (2, vi (t 205 x1.toNat)), (0, .ref 170), (1, vi x1)]) (st2 := [vi (rdz ((rds t x1)) x1), .ref (C + 3), vi (poz ((pos ((rds ((rds t x1)) x1)) x1)) x1), .ref (213 + ((rdz ((rds t x1)) x1).toNat))]) 1 (fun _ _ => rfl) ?_
                refine pr_aE (k2 := 180) (a := rdz ((rds t x1)) x1) (v := vi ((pos ((pos ((rds ((rds t x1)) x1)) x1)) x1) 180 ((rdz ((rds t x1)) x1).toNat))) hE61 rfl (TG_C3 hC) rfl hz57 (by decide) rfl rfl rfl fun h63 h64 h62 => ?_
                have h62 : i32 ((pos ((pos ((rds ((rds t x1)) x1)) x1)) x1) 180 ((rdz ((rds t x1)) x1).toNat)) := h62
                refine pr_n (pc2 := 308) (lv2 := [(5, vi (poz ((rds ((rds t x1)) x1)) x1)), (4, vi (rdz ((rds t x1)) x1)), (3, vi (rdz t x1)), (2, vi (t 205 x1.toNat)), (0, .ref 170), (1, vi x1)]) (st2 := [vi 1, vi ((pos ((pos ((rds ((rds t x1)) x1)) x1)) x1) 180 ((rdz ((rds t x1)) x1).toNat)), vi (poz ((pos ((rds ((rds t x1)) x1)) x1)) x1), .ref (213 + ((rdz ((rds t x1)) x1).toNat))]) 1 (fun _ _ => rfl) ?_
                refine pr_i2 (a := (pos ((pos ((rds ((rds t x1)) x1)) x1)) x1) 180 ((rdz ((rds t x1)) x1).toNat)) (b := 1) rfl rfl ?_
                show pr K K d tb_M165 309 [(5, vi (poz ((rds ((rds t x1)) x1)) x1)), (4, vi (rdz ((rds t x1)) x1)), (3, vi (rdz t x1)), (2, vi (t 205 x1.toNat)), (0, .ref 170), (1, vi x1)] [vi (imi ((pos ((pos ((rds ((rds t x1)) x1)) x1)) x1) 180 ((rdz ((rds t x1)) x1).toNat)) 1), vi (poz ((pos ((rds ((rds t x1)) x1)) x1)) x1), .ref (213 + ((rdz ((rds t x1)) x1).toNat))] s61 _
                have h65 : i32 (imi ((pos ((pos ((rds ((rds t x1)) x1)) x1)) x1) 180 ((rdz ((rds t x1)) x1).toNat)) 1) := i32_in _
                refine pr_i2 (a := poz ((pos ((rds ((rds t x1)) x1)) x1)) x1) (b := imi ((pos ((pos ((rds ((rds t x1)) x1)) x1)) x1) 180 ((rdz ((rds t x1)) x1).toNat)) 1) rfl rfl ?_
                show pr K K d tb_M165 310 [(5, vi (poz ((rds ((rds t x1)) x1)) x1)), (4, vi (rdz ((rds t x1)) x1)), (3, vi (rdz t x1)), (2, vi (t 205 x1.toNat)), (0, .ref 170), (1, vi x1)] [vi (ian (poz ((pos ((rds ((rds t x1)) x1)) x1)) x1) (imi ((pos ((pos ((rds ((rds t x1)) x1)) x1)) x1) 180 ((rdz ((rds t x1)) x1).toNat)) 1)), .ref (213 + ((rdz ((rds t x1)) x1).toNat))] s61 _
                have h66 : i32 (ian (poz ((pos ((rds ((rds t x1)) x1)) x1)) x1) (imi ((pos ((pos ((rds ((rds t x1)) x1)) x1)) x1) 180 ((rdz ((rds t x1)) x1).toNat)) 1)) := i32_in _
                refine pr_n (pc2 := 312) (lv2 := [(5, vi (poz ((rds ((rds t x1)) x1)) x1)), (4, vi (rdz ((rds t x1)) x1)), (3, vi (rdz t x1)), (2, vi (t 205 x1.toNat)), (0, .ref 170), (1, vi x1)]) (st2 := [vi (poz ((rds ((rds t x1)) x1)) x1), vi (ian (poz ((pos ((rds ((rds t x1)) x1)) x1)) x1) (imi ((pos ((pos ((rds ((rds t x1)) x1)) x1)) x1) 180 ((rdz ((rds t x1)) x1).toNat)) 1)), .ref (213 + ((rdz ((rds t x1)) x1).toNat))]) 1 (fun _ _ => rfl) ?_
                refine pr_i2s (a := poz ((rds ((rds t x1)) x1)) x1) rfl ?_
                show pr K K d tb_M165 313 [(5, vi (poz ((rds ((rds t x1)) x1)) x1)), (4, vi (rdz ((rds t x1)) x1)), (3, vi (rdz t x1)), (2, vi (t 205 x1.toNat)), (0, .ref 170), (1, vi x1)] [vi (i2s (poz ((rds ((rds t x1)) x1)) x1)), vi (ian (poz ((pos ((rds ((rds t x1)) x1)) x1)) x1) (imi ((pos ((pos ((rds ((rds t x1)) x1)) x1)) x1) 180 ((rdz ((rds t x1)) x1).toNat)) 1)), .ref (213 + ((rdz ((rds t x1)) x1).toNat))] s61 _
                refine pr_sE (k2 := (213 + ((rdz ((rds t x1)) x1).toNat))) (a := ian (poz ((pos ((rds ((rds t x1)) x1)) x1)) x1) (imi ((pos ((pos ((rds ((rds t x1)) x1)) x1)) x1) 180 ((rdz ((rds t x1)) x1).toNat)) 1)) (z := i2s (poz ((rds ((rds t x1)) x1)) x1)) hE61 rfl (show 96 ≤ 213 + ((rdz ((rds t x1)) x1).toNat) by omega) (TG_it (by omega)) rfl h66 (by decide) rfl (show i32 (i2s (poz ((rds ((rds t x1)) x1)) x1)) from i2s_i32) (nx_it (by omega)) (pe_hi (by omega)) (re_it (by omega)) (fun e => absurd e.1 (show ¬ (213 + ((rdz ((rds t x1)) x1).toNat) = 170) by omega)) (fun _ => trivial) fun h67 h68 s69 hE69 => ?_
                refine pr_end (fun _ _ => rfl) ?_
                exact .inl ⟨_, 0, _, rfl, ⟨rfl, rfl⟩, rfl, hE69⟩
              · refine mq_f h56 ?_
                by_cases h70 : rdz t x1 = 7
                · refine mq_t h70 ?_
                  refine pr_tsw rfl hz4 (by rw [h70]; rfl) rfl ?_
                  refine pr_n (pc2 := 317) (lv2 := [(3, vi (rdz t x1)), (2, vi (t 205 x1.toNat)), (0, .ref 170), (1, vi x1)]) (st2 := [vi x1, .ref 170]) 2 (fun _ _ => rfl) ?_
                  refine pr_s1 (args := [vi x1]) (rest := []) rfl rfl rfl rfl (Nat.le_of_ble_eq_true rfl) rfl (h_166 s4 ((rds t x1)) x1 hE4 hx1) e_rds ?_
                  rintro _ s71 ⟨rfl, hz71⟩ hE71
                  show pr K K d tb_M165 320 [(3, vi (rdz t x1)), (2, vi (t 205 x1.toNat)), (0, .ref 170), (1, vi x1)] [vi (rdz ((rds t x1)) x1)] s71 _
                  refine pr_n (pc2 := 324) (lv2 := [(4, vi (rdz ((rds t x1)) x1)), (3, vi (rdz t x1)), (2, vi (t 205 x1.toNat)), (0, .ref 170), (1, vi x1)]) (st2 := [vi x1, .ref 170]) 3 (fun _ _ => rfl) ?_
                  refine pr_s1 (args := [vi x1]) (rest := []) rfl rfl rfl rfl (Nat.le_of_ble_eq_true rfl) rfl (h_167 s71 ((rds ((rds t x1)) x1)) x1 hE71 hx1) e_pos ?_
                  rintro _ s72 ⟨rfl, hz72⟩ hE72
                  show pr K K d tb_M165 327 [(4, vi (rdz ((rds t x1)) x1)), (3, vi (rdz t x1)), (2, vi (t 205 x1.toNat)), (0, .ref 170), (1, vi x1)] [vi (poz ((rds ((rds t x1)) x1)) x1)] s72 _
                  refine pr_n (pc2 := 335) (lv2 := [(5, vi (poz ((rds ((rds t x1)) x1)) x1)), (4, vi (rdz ((rds t x1)) x1)), (3, vi (rdz t x1)), (2, vi (t 205 x1.toNat)), (0, .ref 170), (1, vi x1)]) (st2 := [vi x1, .ref 170, vi (rdz ((rds t x1)) x1), vi x1, .ref 170]) 6 (fun _ _ => rfl) ?_
                  refine pr_s1 (args := [vi x1]) (rest := [vi (rdz ((rds t x1)) x1), vi x1, .ref 170]) rfl rfl rfl rfl (Nat.le_of_ble_eq_true rfl) rfl (h_167 s72 ((pos ((rds ((rds t x1)) x1)) x1)) x1 hE72 hx1) e_pos ?_
                  rintro _ s73 ⟨rfl, hz73⟩ hE73
                  show pr K K d tb_M165 338 [(5, vi (poz ((rds ((rds t x1)) x1)) x1)), (4, vi (rdz ((rds t x1)) x1)), (3, vi (rdz t x1)), (2, vi (t 205 x1.toNat)), (0, .ref 170), (1, vi x1)] [vi (poz ((pos ((rds ((rds t x1)) x1)) x1)) x1), vi (rdz ((rds t x1)) x1), vi x1, .ref 170] s73 _
                  refine pr_n (pc2 := 340) (lv2 := [(5, vi (poz ((rds ((rds t x1)) x1)) x1)), (4, vi (rdz ((rds t x1)) x1)), (3, vi (rdz t x1)), (2, vi (t 205 x1.toNat)), (0, .ref 170), (1, vi x1)]) (st2 := [vi (poz ((rds ((rds t x1)) x1)) x1), vi (poz ((pos ((rds ((rds t x1)) x1)) x1)) x1), vi (rdz ((rds t x1)) x1), vi x1, .ref 170]) 1 (fun _ _ => rfl) ?_
                  refine pr_s0 (args := [vi (rdz ((rds t x1)) x1), vi (poz ((pos ((rds ((rds t x1)) x1)) x1)) x1), vi (poz ((rds ((rds t x1)) x1)) x1)]) (rest := [vi x1, .ref 170]) rfl rfl rfl (Nat.le_of_ble_eq_true rfl) rfl (h_168 s73 ((pos ((pos ((rds ((rds t x1)) x1)) x1)) x1)) (rdz ((rds t x1)) x1) (poz ((pos ((rds ((rds t x1)) x1)) x1)) x1) (poz ((rds ((rds t x1)) x1)) x1) hE73 hz71 hz73 hz72) e_tgx ?_
                  rintro _ s74 ⟨rfl, hz74⟩ hE74
                  show pr K K d tb_M165 343 [(5, vi (poz ((rds ((rds t x1)) x1)) x1)), (4, vi (rdz ((rds t x1)) x1)), (3, vi (rdz t x1)), (2, vi (t 205 x1.toNat)), (0, .ref 170), (1, vi x1)] [vi (tgx (rdz ((rds t x1)) x1) (poz ((pos ((rds ((rds t x1)) x1)) x1)) x1) (poz ((rds ((rds t x1)) x1)) x1)), vi x1, .ref 170] s74 _
                  refine pr_s1 (args := [vi x1, vi (tgx (rdz ((rds t x1)) x1) (poz ((pos ((rds ((rds t x1)) x1)) x1)) x1) (poz ((rds ((rds t x1)) x1)) x1))]) (rest := []) rfl rfl rfl rfl (Nat.le_of_ble_eq_true rfl) rfl (h_164 s74 ((pos ((pos ((rds ((rds t x1)) x1)) x1)) x1)) x1 (tgx (rdz ((rds t x1)) x1) (poz ((pos ((rds ((rds t x1)) x1)) x1)) x1) (poz ((rds ((rds t x1)) x1)) x1)) hE74 hx1 hz74) e_phE ?_
                  rintro _ s75 ⟨rfl, _⟩ hE75
                  show pr K K d tb_M165 346 [(5, vi (poz ((rds ((rds t x1)) x1)) x1)), (4, vi (rdz ((rds t x1)) x1)), (3, vi (rdz t x1)), (2, vi (t 205 x1.toNat)), (0, .ref 170), (1, vi x1)] [] s75 _
                  refine pr_end (fun _ _ => rfl) ?_
                  exact .inl ⟨_, 0, _, rfl, ⟨rfl, rfl⟩, rfl, hE75⟩
                · refine mq_f h70 ?_
                  by_cases h76 : rdz t x1 = 8
                  · refine mq_t h76 ?_
                    refine pr_tsw rfl hz4 (by rw [h76]; rfl) rfl ?_
                    refine pr_n (pc2 := 349) (lv2 := [(3, vi (rdz t x1)), (2, vi (t 205 x1.toNat)), (0, .ref 170), (1, vi x1)]) (st2 := [vi x1, .ref 170]) 2 (fun _ _ => rfl) ?_
                    refine pr_s1 (args := [vi x1]) (rest := []) rfl rfl rfl rfl (Nat.le_of_ble_eq_true rfl) rfl (h_166 s4 ((rds t x1)) x1 hE4 hx1) e_rds ?_
                    rintro _ s77 ⟨rfl, hz77⟩ hE77
                    show pr K K d tb_M165 352 [(3, vi (rdz t x1)), (2, vi (t 205 x1.toNat)), (0, .ref 170), (1, vi x1)] [vi (rdz ((rds t x1)) x1)] s77 _
                    refine pr_n (pc2 := 356) (lv2 := [(4, vi (rdz ((rds t x1)) x1)), (3, vi (rdz t x1)), (2, vi (t 205 x1.toNat)), (0, .ref 170), (1, vi x1)]) (st2 := [vi x1, .ref 170]) 3 (fun _ _ => rfl) ?_
                    refine pr_s1 (args := [vi x1]) (rest := []) rfl rfl rfl rfl (Nat.le_of_ble_eq_true rfl) rfl (h_167 s77 ((rds ((rds t x1)) x1)) x1 hE77 hx1) e_pos ?_
                    rintro _ s78 ⟨rfl, hz78⟩ hE78
                    show pr K K d tb_M165 359 [(4, vi (rdz ((rds t x1)) x1)), (3, vi (rdz t x1)), (2, vi (t 205 x1.toNat)), (0, .ref 170), (1, vi x1)] [vi (poz ((rds ((rds t x1)) x1)) x1)] s78 _
                    refine pr_n (pc2 := 367) (lv2 := [(5, vi (poz ((rds ((rds t x1)) x1)) x1)), (4, vi (rdz ((rds t x1)) x1)), (3, vi (rdz t x1)), (2, vi (t 205 x1.toNat)), (0, .ref 170), (1, vi x1)]) (st2 := [vi 45, vi (rdz ((rds t x1)) x1), vi x1, .ref 170]) 5 (fun _ _ => rfl) ?_
                    by_cases h79 : rdz ((rds t x1)) x1 ≠ 45
                    · refine mq_t h79 ?_
                      refine pr_if2t rfl rfl hz77 (i32_n rfl) h79 ?_
                      refine pr_n (pc2 := 380) (lv2 := [(5, vi (poz ((rds ((rds t x1)) x1)) x1)), (4, vi (rdz ((rds t x1)) x1)), (3, vi (rdz t x1)), (2, vi (t 205 x1.toNat)), (0, .ref 170), (1, vi x1)]) (st2 := [vi 126, vi (rdz ((rds t x1)) x1), vi x1, .ref 170]) 2 (fun _ _ => rfl) ?_
                      by_cases h80 : rdz ((rds t x1)) x1 ≠ 126
                      · refine mq_t h80 ?_
                        refine pr_if2t rfl rfl hz77 (i32_n rfl) h80 ?_
                        refine pr_n (pc2 := 392) (lv2 := [(5, vi (poz ((rds ((rds t x1)) x1)) x1)), (4, vi (rdz ((rds t x1)) x1)), (3, vi (rdz t x1)), (2, vi (t 205 x1.toNat)), (0, .ref 170), (1, vi x1)]) (st2 := [vi (poz ((rds ((rds t x1)) x1)) x1), vi x1, .ref 170]) 1 (fun _ _ => rfl) ?_
                        by_cases h81 : poz ((rds ((rds t x1)) x1)) x1 ≠ 0
                        · refine mq_t h81 ?_
                          refine pr_if1t rfl rfl hz78 h81 ?_
                          refine pr_n (pc2 := 400) (lv2 := [(5, vi (poz ((rds ((rds t x1)) x1)) x1)), (4, vi (rdz ((rds t x1)) x1)), (3, vi (rdz t x1)), (2, vi (t 205 x1.toNat)), (0, .ref 170), (1, vi x1)]) (st2 := [vi 0, vi x1, .ref 170]) 1 (fun _ _ => rfl) ?_
                          refine pr_s1 (args := [vi x1, vi 0]) (rest := []) rfl rfl rfl rfl (Nat.le_of_ble_eq_true rfl) rfl (h_164 s78 ((pos ((rds ((rds t x1)) x1)) x1)) x1 0 hE78 hx1 (i32_n rfl)) e_phE ?_
                          rintro _ s82 ⟨rfl, _⟩ hE82
                          show pr K K d tb_M165 403 [(5, vi (poz ((rds ((rds t x1)) x1)) x1)), (4, vi (rdz ((rds t x1)) x1)), (3, vi (rdz t x1)), (2, vi (t 205 x1.toNat)), (0, .ref 170), (1, vi x1)] [] s82 _
                          refine pr_end (fun _ _ => rfl) ?_
                          exact .inl ⟨_, 0, _, rfl, ⟨rfl, rfl⟩, rfl, hE82⟩
                        · refine mq_f h81 ?_
                          refine pr_if1f rfl rfl hz78 h81 ?_
                          refine pr_n (pc2 := 400) (lv2 := [(5, vi (poz ((rds ((rds t x1)) x1)) x1)), (4, vi (rdz ((rds t x1)) x1)), (3, vi (rdz t x1)), (2, vi (t 205 x1.toNat)), (0, .ref 170), (1, vi x1)]) (st2 := [vi 1, vi x1, .ref 170]) 2 (fun _ _ => rfl) ?_
                          refine pr_s1 (args := [vi x1, vi 1]) (rest := []) rfl rfl rfl rfl (Nat.le_of_ble_eq_true rfl) rfl (h_164 s78 ((pos ((rds ((rds t x1)) x1)) x1)) x1 1 hE78 hx1 (i32_n rfl)) e_phE ?_
                          rintro _ s83 ⟨rfl, _⟩ hE83
                          show pr K K d tb_M165 403 [(5, vi (poz ((rds ((rds t x1)) x1)) x1)), (4, vi (rdz ((rds t x1)) x1)), (3, vi (rdz t x1)), (2, vi (t 205 x1.toNat)), (0, .ref 170), (1, vi x1)] [] s83 _
                          refine pr_end (fun _ _ => rfl) ?_
                          exact .inl ⟨_, 0, _, rfl, ⟨rfl, rfl⟩, rfl, hE83⟩
                      · refine mq_f h80 ?_
                        refine pr_if2f rfl rfl hz77 (i32_n rfl) h80 ?_
                        refine pr_n (pc2 := 386) (lv2 := [(5, vi (poz ((rds ((rds t x1)) x1)) x1)), (4, vi (rdz ((rds t x1)) x1)), (3, vi (rdz t x1)), (2, vi (t 205 x1.toNat)), (0, .ref 170), (1, vi x1)]) (st2 := [vi ((-1)), vi (poz ((rds ((rds t x1)) x1)) x1), vi x1, .ref 170]) 2 (fun _ _ => rfl) ?_
                        refine pr_i2 (a := poz ((rds ((rds t x1)) x1)) x1) (b := (-1)) rfl rfl ?_
                        show pr K K d tb_M165 387 [(5, vi (poz ((rds ((rds t x1)) x1)) x1)), (4, vi (rdz ((rds t x1)) x1)), (3, vi (rdz t x1)), (2, vi (t 205 x1.toNat)), (0, .ref 170), (1, vi x1)] [vi (ixo (poz ((rds ((rds t x1)) x1)) x1) ((-1))), vi x1, .ref 170] s78 _
                        have h84 : i32 (ixo (poz ((rds ((rds t x1)) x1)) x1) ((-1))) := i32_in _
                        refine pr_n (pc2 := 400) (lv2 := [(5, vi (poz ((rds ((rds t x1)) x1)) x1)), (4, vi (rdz ((rds t x1)) x1)), (3, vi (rdz t x1)), (2, vi (t 205 x1.toNat)), (0, .ref 170), (1, vi x1)]) (st2 := [vi (ixo (poz ((rds ((rds t x1)) x1)) x1) ((-1))), vi x1, .ref 170]) 1 (fun _ _ => rfl) ?_
                        refine pr_s1 (args := [vi x1, vi (ixo (poz ((rds ((rds t x1)) x1)) x1) ((-1)))]) (rest := []) rfl rfl rfl rfl (Nat.le_of_ble_eq_true rfl) rfl (h_164 s78 ((pos ((rds ((rds t x1)) x1)) x1)) x1 (ixo (poz ((rds ((rds t x1)) x1)) x1) ((-1))) hE78 hx1 h84) e_phE ?_
                        rintro _ s85 ⟨rfl, _⟩ hE85
                        show pr K K d tb_M165 403 [(5, vi (poz ((rds ((rds t x1)) x1)) x1)), (4, vi (rdz ((rds t x1)) x1)), (3, vi (rdz t x1)), (2, vi (t 205 x1.toNat)), (0, .ref 170), (1, vi x1)] [] s85 _
                        refine pr_end (fun _ _ => rfl) ?_
                        exact .inl ⟨_, 0, _, rfl, ⟨rfl, rfl⟩, rfl, hE85⟩
                    · refine mq_f h79 ?_
                      refine pr_if2f rfl rfl hz77 (i32_n rfl) h79 ?_
                      refine pr_n (pc2 := 372) (lv2 := [(5, vi (poz ((rds ((rds t x1)) x1)) x1)), (4, vi (rdz ((rds t x1)) x1)), (3, vi (rdz t x1)), (2, vi (t 205 x1.toNat)), (0, .ref 170), (1, vi x1)]) (st2 := [vi (poz ((rds ((rds t x1)) x1)) x1), vi x1, .ref 170]) 1 (fun _ _ => rfl) ?_
                      refine pr_ineg (a := poz ((rds ((rds t x1)) x1)) x1) rfl ?_
                      show pr K K d tb_M165 373 [(5, vi (poz ((rds ((rds t x1)) x1)) x1)), (4, vi (rdz ((rds t x1)) x1)), (3, vi (rdz t x1)), (2, vi (t 205 x1.toNat)), (0, .ref 170), (1, vi x1)] [vi (ing (poz ((rds ((rds t x1)) x1)) x1)), vi x1, .ref 170] s78 _
                      refine pr_n (pc2 := 400) (lv2 := [(5, vi (poz ((rds ((rds t x1)) x1)) x1)), (4, vi (rdz ((rds t x1)) x1)), (3, vi (rdz t x1)), (2, vi (t 205 x1.toNat)), (0, .ref 170), (1, vi x1)]) (st2 := [vi (ing (poz ((rds ((rds t x1)) x1)) x1)), vi x1, .ref 170]) 1 (fun _ _ => rfl) ?_
                      refine pr_s1 (args := [vi x1, vi (ing (poz ((rds ((rds t x1)) x1)) x1))]) (rest := []) rfl rfl rfl rfl (Nat.le_of_ble_eq_true rfl) rfl (h_164 s78 ((pos ((rds ((rds t x1)) x1)) x1)) x1 (ing (poz ((rds ((rds t x1)) x1)) x1)) hE78 hx1 (i32_in _)) e_phE ?_
                      rintro _ s86 ⟨rfl, _⟩ hE86
                      show pr K K d tb_M165 403 [(5, vi (poz ((rds ((rds t x1)) x1)) x1)), (4, vi (rdz ((rds t x1)) x1)), (3, vi (rdz t x1)), (2, vi (t 205 x1.toNat)), (0, .ref 170), (1, vi x1)] [] s86 _
                      refine pr_end (fun _ _ => rfl) ?_
                      exact .inl ⟨_, 0, _, rfl, ⟨rfl, rfl⟩, rfl, hE86⟩
                  · refine mq_f h76 ?_
                    by_cases h87 : rdz t x1 = 9
                    · refine mq_t h87 ?_
                      refine pr_tsw rfl hz4 (by rw [h87]; rfl) rfl ?_
                      refine pr_n (pc2 := 405) (lv2 := [(3, vi (rdz t x1)), (2, vi (t 205 x1.toNat)), (0, .ref 170), (1, vi x1)]) (st2 := [.ref 170]) 1 (fun _ _ => rfl) ?_
                      refine pr_get (v := .ref 205) rfl rfl rfl (by decide) (rv_ref (hE4.2.1 170 40 205 rfl)) fun _ => ?_
                      refine pr_n (pc2 := 410) (lv2 := [(3, vi (rdz t x1)), (2, vi (t 205 x1.toNat)), (0, .ref 170), (1, vi x1)]) (st2 := [.ref 170, vi x1, .ref 205]) 2 (fun _ _ => rfl) ?_
                      refine pr_get (v := .ref C) rfl rfl rfl (by decide) (rv_ref (show s4.1 170 17 = ((C : Nat) : Int) from hE4.2.2.1)) fun _ => ?_
                      refine pr_get (v := .ref (C + 1)) rfl rfl (TG_C hC) (by decide) (rv_ref (hE4.2.1 C 0 (C + 1) (rc_C0 hC))) fun _ => ?_
                      refine pr_n (pc2 := 417) (lv2 := [(3, vi (rdz t x1)), (2, vi (t 205 x1.toNat)), (0, .ref 170), (1, vi x1)]) (st2 := [.ref 170, .ref (C + 1), vi x1, .ref 205]) 1 (fun _ _ => rfl) ?_
                      refine pr_get (v := .ref 205) rfl rfl rfl (by decide) (rv_ref (hE4.2.1 170 40 205 rfl)) fun _ => ?_
                      refine pr_n (pc2 := 421) (lv2 := [(3, vi (rdz t x1)), (2, vi (t 205 x1.toNat)), (0, .ref 170), (1, vi x1)]) (st2 := [vi x1, .ref 205, .ref (C + 1), vi x1, .ref 205]) 1 (fun _ _ => rfl) ?_
                      refine pr_aE (k2 := 205) (a := x1) (v := vi ((rds t x1) 205 x1.toNat)) hE4 rfl rfl rfl hx1 (by decide) rfl rfl rfl fun h89 h90 h88 => ?_
                      have h88 : i32 ((rds t x1) 205 x1.toNat) := h88
                      refine pr_aE (k2 := 178) (a := (rds t x1) 205 x1.toNat) (v := vi ((rds t x1) 178 (((rds t x1) 205 x1.toNat).toNat))) hE4 rfl (TG_C1 hC) rfl h88 (by decide) rfl rfl rfl fun h92 h93 h91 => ?_
                      have h91 : i32 ((rds t x1) 178 (((rds t x1) 205 x1.toNat).toNat)) := h91
                      refine pr_sE (k2 := 205) (a := x1) (z := (rds t x1) 178 (((rds t x1) 205 x1.toNat).toNat)) hE4 rfl (by decide) rfl rfl hx1 (by decide) rfl (show i32 ((rds t x1) 178 (((rds t x1) 205 x1.toNat).toNat)) from h91) (n0 rfl (by omega) (by omega)) rfl rfl (fun e => absurd e.1 (by decide)) (fun _ => trivial) fun h94 h95 s96 hE96 => ?_
                      refine pr_end (fun _ _ => rfl) ?_
                      exact .inl ⟨_, 0, _, rfl, ⟨rfl, rfl⟩, rfl, hE96⟩
                    · refine mq_f h87 ?_
                      by_cases h97 : rdz t x1 = 10
                      · refine mq_t h97 ?_
                        refine pr_tsw rfl hz4 (by rw [h97]; rfl) rfl ?_
                        refine pr_n (pc2 := 427) (lv2 := [(3, vi (rdz t x1)), (2, vi (t 205 x1.toNat)), (0, .ref 170), (1, vi x1)]) (st2 := [vi x1, .ref 170]) 2 (fun _ _ => rfl) ?_
                        refine pr_s1 (args := [vi x1]) (rest := []) rfl rfl rfl rfl (Nat.le_of_ble_eq_true rfl) rfl (h_166 s4 ((rds t x1)) x1 hE4 hx1) e_rds ?_
                        rintro _ s98 ⟨rfl, hz98⟩ hE98
                        show pr K K d tb_M165 430 [(3, vi (rdz t x1)), (2, vi (t 205 x1.toNat)), (0, .ref 170), (1, vi x1)] [vi (rdz ((rds t x1)) x1)] s98 _
                        refine pr_n (pc2 := 434) (lv2 := [(4, vi (rdz ((rds t x1)) x1)), (3, vi (rdz t x1)), (2, vi (t 205 x1.toNat)), (0, .ref 170), (1, vi x1)]) (st2 := [vi x1, .ref 170]) 3 (fun _ _ => rfl) ?_
                        refine pr_s1 (args := [vi x1]) (rest := []) rfl rfl rfl rfl (Nat.le_of_ble_eq_true rfl) rfl (h_167 s98 ((rds ((rds t x1)) x1)) x1 hE98 hx1) e_pos ?_
                        rintro _ s99 ⟨rfl, hz99⟩ hE99
                        show pr K K d tb_M165 437 [(4, vi (rdz ((rds t x1)) x1)), (3, vi (rdz t x1)), (2, vi (t 205 x1.toNat)), (0, .ref 170), (1, vi x1)] [vi (poz ((rds ((rds t x1)) x1)) x1)] s99 _
                        by_cases h100 : poz ((rds ((rds t x1)) x1)) x1 ≠ 0
                        · refine mq_t h100 ?_
                          refine pr_if1t rfl rfl hz99 h100 ?_
                          refine pr_end (fun _ _ => rfl) ?_
                          exact .inl ⟨_, 0, _, rfl, ⟨rfl, rfl⟩, rfl, hE99⟩
                        · refine mq_f h100 ?_
                          refine pr_if1f rfl rfl hz99 h100 ?_
                          refine pr_n (pc2 := 441) (lv2 := [(4, vi (rdz ((rds t x1)) x1)), (3, vi (rdz t x1)), (2, vi (t 205 x1.toNat)), (0, .ref 170), (1, vi x1)]) (st2 := [.ref 170]) 1 (fun _ _ => rfl) ?_
                          refine pr_get (v := .ref 205) rfl rfl rfl (by decide) (rv_ref (hE99.2.1 170 40 205 rfl)) fun _ => ?_
                          refine pr_n (pc2 := 447) (lv2 := [(4, vi (rdz ((rds t x1)) x1)), (3, vi (rdz t x1)), (2, vi (t 205 x1.toNat)), (0, .ref 170), (1, vi x1)]) (st2 := [vi (rdz ((rds t x1)) x1), vi x1, .ref 205]) 2 (fun _ _ => rfl) ?_
                          refine pr_sE (k2 := 205) (a := x1) (z := rdz ((rds t x1)) x1) hE99 rfl (by decide) rfl rfl hx1 (by decide) rfl (show i32 (rdz ((rds t x1)) x1) from hz98) (n0 rfl (by omega) (by omega)) rfl rfl (fun e => absurd e.1 (by decide)) (fun _ => trivial) fun h101 h102 s103 hE103 => ?_
                          refine pr_end (fun _ _ => rfl) ?_
                          exact .inl ⟨_, 0, _, rfl, ⟨rfl, rfl⟩, rfl, hE103⟩
                      · refine mq_f h97 ?_
                        by_cases h104 : rdz t x1 = 11
                        · refine mq_t h104 ?_
                          refine pr_tsw rfl hz4 (by rw [h104]; rfl) rfl ?_
                          refine pr_n (pc2 := 451) (lv2 := [(3, vi (rdz t x1)), (2, vi (t 205 x1.toNat)), (0, .ref 170), (1, vi x1)]) (st2 := [vi x1, .ref 170]) 2 (fun _ _ => rfl) ?_
                          refine pr_s1 (args := [vi x1]) (rest := []) rfl rfl rfl rfl (Nat.le_of_ble_eq_true rfl) rfl (h_166 s4 ((rds t x1)) x1 hE4 hx1) e_rds ?_
                          rintro _ s105 ⟨rfl, hz105⟩ hE105
                          show pr K K d tb_M165 454 [(3, vi (rdz t x1)), (2, vi (t 205 x1.toNat)), (0, .ref 170), (1, vi x1)] [vi (rdz ((rds t x1)) x1)] s105 _
                          refine pr_n (pc2 := 457) (lv2 := [(4, vi (rdz ((rds t x1)) x1)), (3, vi (rdz t x1)), (2, vi (t 205 x1.toNat)), (0, .ref 170), (1, vi x1)]) (st2 := [.ref 170]) 2 (fun _ _ => rfl) ?_
                          refine pr_get (v := .ref 920) rfl rfl rfl (by decide) (rv_ref (hE105.2.1 170 49 920 rfl)) fun _ => ?_
                          refine pr_n (pc2 := 461) (lv2 := [(4, vi (rdz ((rds t x1)) x1)), (3, vi (rdz t x1)), (2, vi (t 205 x1.toNat)), (0, .ref 170), (1, vi x1)]) (st2 := [vi x1, .ref 920]) 1 (fun _ _ => rfl) ?_
                          refine pr_row (a := x1) (v := 921 + x1.toNat) rfl rfl rfl rfl hx1 (by decide) (fun h1 h2 => hE105.2.1 _ _ _ (rc_bk (by omega))) fun h106 h107 => ?_
                          show pr K K d tb_M165 462 [(4, vi (rdz ((rds t x1)) x1)), (3, vi (rdz t x1)), (2, vi (t 205 x1.toNat)), (0, .ref 170), (1, vi x1)] [.ref (921 + x1.toNat)] s105 _
                          refine pr_n (pc2 := 463) (lv2 := [(4, vi (rdz ((rds t x1)) x1)), (3, vi (rdz t x1)), (2, vi (t 205 x1.toNat)), (0, .ref 170), (1, vi x1)]) (st2 := [.ref 170, .ref (921 + x1.toNat)]) 1 (fun _ _ => rfl) ?_
                          refine pr_get (v := .ref 209) rfl rfl rfl (by decide) (rv_ref (hE105.2.1 170 44 209 rfl)) fun _ => ?_
                          refine pr_n (pc2 := 467) (lv2 := [(4, vi (rdz ((rds t x1)) x1)), (3, vi (rdz t x1)), (2, vi (t 205 x1.toNat)), (0, .ref 170), (1, vi x1)]) (st2 := [vi x1, .ref 209, .ref (921 + x1.toNat)]) 1 (fun _ _ => rfl) ?_
                          refine pr_aE (k2 := 209) (a := x1) (v := vi ((rds ((rds t x1)) x1) 209 x1.toNat)) hE105 rfl rfl rfl hx1 (by decide) rfl rfl rfl fun h109 h110 h108 => ?_
                          have h108 : i32 ((rds ((rds t x1)) x1) 209 x1.toNat) := h108
                          refine pr_n (pc2 := 469) (lv2 := [(4, vi (rdz ((rds t x1)) x1)), (3, vi (rdz t x1)), (2, vi (t 205 x1.toNat)), (0, .ref 170), (1, vi x1)]) (st2 := [.ref 170, vi ((rds ((rds t x1)) x1) 209 x1.toNat), .ref (921 + x1.toNat)]) 1 (fun _ _ => rfl) ?_
                          refine pr_get (v := .ref 205) rfl rfl rfl (by decide) (rv_ref (hE105.2.1 170 40 205 rfl)) fun _ => ?_
                          refine pr_n (pc2 := 473) (lv2 := [(4, vi (rdz ((rds t x1)) x1)), (3, vi (rdz t x1)), (2, vi (t 205 x1.toNat)), (0, .ref 170), (1, vi x1)]) (st2 := [vi x1, .ref 205, vi ((rds ((rds t x1)) x1) 209 x1.toNat), .ref (921 + x1.toNat)]) 1 (fun _ _ => rfl) ?_
                          refine pr_aE (k2 := 205) (a := x1) (v := vi ((rds ((rds t x1)) x1) 205 x1.toNat)) hE105 rfl rfl rfl hx1 (by decide) rfl rfl rfl fun h112 h113 h111 => ?_
                          have h111 : i32 ((rds ((rds t x1)) x1) 205 x1.toNat) := h111
                          refine pr_sE (k2 := (921 + x1.toNat)) (a := (rds ((rds t x1)) x1) 209 x1.toNat) (z := (rds ((rds t x1)) x1) 205 x1.toNat) hE105 rfl (show 96 ≤ 921 + x1.toNat by omega) (TG_bk (by omega)) rfl h108 (by decide) rfl (show i32 ((rds ((rds t x1)) x1) 205 x1.toNat) from h111) (rc_hi (by omega) (by omega) (by omega)) (pe_hi (by omega)) (re_bk (by omega)) (fun e => absurd e.1 (show ¬ (921 + x1.toNat = 170) by omega)) (fun _ => trivial) fun h114 h115 s116 hE116 => ?_
                          refine pr_n (pc2 := 476) (lv2 := [(4, vi (rdz ((rds t x1)) x1)), (3, vi (rdz t x1)), (2, vi (t 205 x1.toNat)), (0, .ref 170), (1, vi x1)]) (st2 := [.ref 170]) 1 (fun _ _ => rfl) ?_
                          refine pr_get (v := .ref 209) rfl rfl rfl (by decide) (rv_ref (hE116.2.1 170 44 209 rfl)) fun _ => ?_
                          refine pr_n (pc2 := 481) (lv2 := [(4, vi (rdz ((rds t x1)) x1)), (3, vi (rdz t x1)), (2, vi (t 205 x1.toNat)), (0, .ref 170), (1, vi x1)]) (st2 := [vi x1, .ref 209, vi x1, .ref 209]) 2 (fun _ _ => rfl) ?_
                          refine pr_aE (k2 := 209) (a := x1) (v := vi ((up2 ((rds ((rds t x1)) x1)) (921 + x1.toNat) (((rds ((rds t x1)) x1) 209 x1.toNat).toNat) ((rds ((rds t x1)) x1) 205 x1.toNat)) 209 x1.toNat)) hE116 rfl rfl rfl hx1 (by decide) rfl rfl (by first | rfl | (rw [up_jn (by decide)]; rfl) | (rw [up_jn (by decide), up_jn (by decide)]; rfl)) fun h118 h119 h117 => ?_
                          have h117 : i32 ((up2 ((rds ((rds t x1)) x1)) (921 + x1.toNat) (((rds ((rds t x1)) x1) 209 x1.toNat).toNat) ((rds ((rds t x1)) x1) 205 x1.toNat)) 209 x1.toNat) := h117
                          refine pr_n (pc2 := 483) (lv2 := [(4, vi (rdz ((rds t x1)) x1)), (3, vi (rdz t x1)), (2, vi (t 205 x1.toNat)), (0, .ref 170), (1, vi x1)]) (st2 := [vi 1, vi ((up2 ((rds ((rds t x1)) x1)) (921 + x1.toNat) (((rds ((rds t x1)) x1) 209 x1.toNat).toNat) ((rds ((rds t x1)) x1) 205 x1.toNat)) 209 x1.toNat), vi x1, .ref 209]) 1 (fun _ _ => rfl) ?_
                          refine pr_i2 (a := (up2 ((rds ((rds t x1)) x1)) (921 + x1.toNat) (((rds ((rds t x1)) x1) 209 x1.toNat).toNat) ((rds ((rds t x1)) x1) 205 x1.toNat)) 209 x1.toNat) (b := 1) rfl rfl ?_
                          show pr K K d tb_M165 484 [(4, vi (rdz ((rds t x1)) x1)), (3, vi (rdz t x1)), (2, vi (t 205 x1.toNat)), (0, .ref 170), (1, vi x1)] [vi (ipl ((up2 ((rds ((rds t x1)) x1)) (921 + x1.toNat) (((rds ((rds t x1)) x1) 209 x1.toNat).toNat) ((rds ((rds t x1)) x1) 205 x1.toNat)) 209 x1.toNat) 1), vi x1, .ref 209] s116 _
                          have h120 : i32 (ipl ((up2 ((rds ((rds t x1)) x1)) (921 + x1.toNat) (((rds ((rds t x1)) x1) 209 x1.toNat).toNat) ((rds ((rds t x1)) x1) 205 x1.toNat)) 209 x1.toNat) 1) := i32_in _
                          refine pr_sE (k2 := 209) (a := x1) (z := ipl ((up2 ((rds ((rds t x1)) x1)) (921 + x1.toNat) (((rds ((rds t x1)) x1) 209 x1.toNat).toNat) ((rds ((rds t x1)) x1) 205 x1.toNat)) 209 x1.toNat) 1) hE116 rfl (by decide) rfl rfl hx1 (by decide) rfl (show i32 (ipl ((up2 ((rds ((rds t x1)) x1)) (921 + x1.toNat) (((rds ((rds t x1)) x1) 209 x1.toNat).toNat) ((rds ((rds t x1)) x1) 205 x1.toNat)) 209 x1.toNat) 1) from h120) (n0 rfl (by omega) (by omega)) rfl rfl (fun e => absurd e.1 (by decide)) (fun _ => trivial) fun h121 h122 s123 hE123 => ?_
                          refine pr_n (pc2 := 486) (lv2 := [(4, vi (rdz ((rds t x1)) x1)), (3, vi (rdz t x1)), (2, vi (t 205 x1.toNat)), (0, .ref 170), (1, vi x1)]) (st2 := [.ref 170]) 1 (fun _ _ => rfl) ?_
                          refine pr_get (v := .ref 205) rfl rfl rfl (by decide) (rv_ref (hE123.2.1 170 40 205 rfl)) fun _ => ?_
                          refine pr_n (pc2 := 492) (lv2 := [(4, vi (rdz ((rds t x1)) x1)), (3, vi (rdz t x1)), (2, vi (t 205 x1.toNat)), (0, .ref 170), (1, vi x1)]) (st2 := [vi (rdz ((rds t x1)) x1), vi x1, .ref 205]) 2 (fun _ _ => rfl) ?_
                          refine pr_sE (k2 := 205) (a := x1) (z := rdz ((rds t x1)) x1) hE123 rfl (by decide) rfl rfl hx1 (by decide) rfl (show i32 (rdz ((rds t x1)) x1) from hz105) (n0 rfl (by omega) (by omega)) rfl rfl (fun e => absurd e.1 (by decide)) (fun _ => trivial) fun h124 h125 s126 hE126 => ?_
                          refine pr_end (fun _ _ => rfl) ?_
                          exact .inl ⟨_, 0, _, rfl, ⟨rfl, rfl⟩, rfl, hE126⟩
                        · refine mq_f h104 ?_
                          by_cases h127 : rdz t x1 = 12
                          · refine mq_t h127 ?_
                            refine pr_tsw rfl hz4 (by rw [h127]; rfl) rfl ?_
                            refine pr_n (pc2 := 495) (lv2 := [(3, vi (rdz t x1)), (2, vi (t 205 x1.toNat)), (0, .ref 170), (1, vi x1)]) (st2 := [.ref 170]) 1 (fun _ _ => rfl) ?_
                            refine pr_get (v := .ref 209) rfl rfl rfl (by decide) (rv_ref (hE4.2.1 170 44 209 rfl)) fun _ => ?_
                            refine pr_n (pc2 := 500) (lv2 := [(3, vi (rdz t x1)), (2, vi (t 205 x1.toNat)), (0, .ref 170), (1, vi x1)]) (st2 := [vi x1, .ref 209, vi x1, .ref 209]) 2 (fun _ _ => rfl) ?_
                            refine pr_aE (k2 := 209) (a := x1) (v := vi ((rds t x1) 209 x1.toNat)) hE4 rfl rfl rfl hx1 (by decide) rfl rfl rfl fun h129 h130 h128 => ?_
                            have h128 : i32 ((rds t x1) 209 x1.toNat) := h128
                            refine pr_n (pc2 := 502) (lv2 := [(3, vi (rdz t x1)), (2, vi (t 205 x1.toNat)), (0, .ref 170), (1, vi x1)]) (st2 := [vi 1, vi ((rds t x1) 209 x1.toNat), vi x1, .ref 209]) 1 (fun _ _ => rfl) ?_
                            refine pr_i2 (a := (rds t x1) 209 x1.toNat) (b := 1) rfl rfl ?_
                            show pr K K d tb_M165 503 [(3, vi (rdz t x1)), (2, vi (t 205 x1.toNat)), (0, .ref 170), (1, vi x1)] [vi (imi ((rds t x1) 209 x1.toNat) 1), vi x1, .ref 209] s4 _
                            have h131 : i32 (imi ((rds t x1) 209 x1.toNat) 1) := i32_in _
                            refine pr_sE (k2 := 209) (a := x1) (z := imi ((rds t x1) 209 x1.toNat) 1) hE4 rfl (by decide) rfl rfl hx1 (by decide) rfl (show i32 (imi ((rds t x1) 209 x1.toNat) 1) from h131) (n0 rfl (by omega) (by omega)) rfl rfl (fun e => absurd e.1 (by decide)) (fun _ => trivial) fun h132 h133 s134 hE134 => ?_
                            refine pr_n (pc2 := 505) (lv2 := [(3, vi (rdz t x1)), (2, vi (t 205 x1.toNat)), (0, .ref 170), (1, vi x1)]) (st2 := [.ref 170]) 1 (fun _ _ => rfl) ?_
                            refine pr_get (v := .ref 205) rfl rfl rfl (by decide) (rv_ref (hE134.2.1 170 40 205 rfl)) fun _ => ?_
                            refine pr_n (pc2 := 510) (lv2 := [(3, vi (rdz t x1)), (2, vi (t 205 x1.toNat)), (0, .ref 170), (1, vi x1)]) (st2 := [.ref 170, vi x1, .ref 205]) 2 (fun _ _ => rfl) ?_
                            refine pr_get (v := .ref 920) rfl rfl rfl (by decide) (rv_ref (hE134.2.1 170 49 920 rfl)) fun _ => ?_
                            refine pr_n (pc2 := 514) (lv2 := [(3, vi (rdz t x1)), (2, vi (t 205 x1.toNat)), (0, .ref 170), (1, vi x1)]) (st2 := [vi x1, .ref 920, vi x1, .ref 205]) 1 (fun _ _ => rfl) ?_
                            refine pr_row (a := x1) (v := 921 + x1.toNat) rfl rfl rfl rfl hx1 (by decide) (fun h1 h2 => hE134.2.1 _ _ _ (rc_bk (by omega))) fun h135 h136 => ?_
                            show pr K K d tb_M165 515 [(3, vi (rdz t x1)), (2, vi (t 205 x1.toNat)), (0, .ref 170), (1, vi x1)] [.ref (921 + x1.toNat), vi x1, .ref 205] s134 _
                            refine pr_n (pc2 := 516) (lv2 := [(3, vi (rdz t x1)), (2, vi (t 205 x1.toNat)), (0, .ref 170), (1, vi x1)]) (st2 := [.ref 170, .ref (921 + x1.toNat), vi x1, .ref 205]) 1 (fun _ _ => rfl) ?_
                            refine pr_get (v := .ref 209) rfl rfl rfl (by decide) (rv_ref (hE134.2.1 170 44 209 rfl)) fun _ => ?_
                            refine pr_n (pc2 := 520) (lv2 := [(3, vi (rdz t x1)), (2, vi (t 205 x1.toNat)), (0, .ref 170), (1, vi x1)]) (st2 := [vi x1, .ref 209, .ref (921 + x1.toNat), vi x1, .ref 205]) 1 (fun _ _ => rfl) ?_
                            refine pr_aE (k2 := 209) (a := x1) (v := vi (imi ((rds t x1) 209 x1.toNat) 1)) hE134 rfl rfl rfl hx1 (by decide) rfl rfl (by rw [up_self]; rfl) fun h138 h139 h137 => ?_
                            rw [up_self] at h137
                            have h137 : i32 (imi ((rds t x1) 209 x1.toNat) 1) := h137
                            refine pr_aE (k2 := (921 + x1.toNat)) (a := imi ((rds t x1) 209 x1.toNat) 1) (v := vi ((up2 ((rds t x1)) 209 x1.toNat (imi ((rds t x1) 209 x1.toNat) 1)) (921 + x1.toNat) ((imi ((rds t x1) 209 x1.toNat) 1).toNat))) hE134 rfl (TG_bk (by omega)) rfl h137 (by decide) (pe_hi (by omega)) (re_bk (by omega)) rfl fun h141 h142 h140 => ?_
                            have h140 : i32 ((up2 ((rds t x1)) 209 x1.toNat (imi ((rds t x1) 209 x1.toNat) 1)) (921 + x1.toNat) ((imi ((rds t x1) 209 x1.toNat) 1).toNat)) := h140
                            refine pr_sE (k2 := 205) (a := x1) (z := (up2 ((rds t x1)) 209 x1.toNat (imi ((rds t x1) 209 x1.toNat) 1)) (921 + x1.toNat) ((imi ((rds t x1) 209 x1.toNat) 1).toNat)) hE134 rfl (by decide) rfl rfl hx1 (by decide) rfl (show i32 ((up2 ((rds t x1)) 209 x1.toNat (imi ((rds t x1) 209 x1.toNat) 1)) (921 + x1.toNat) ((imi ((rds t x1) 209 x1.toNat) 1).toNat)) from h140) (n0 rfl (by omega) (by omega)) rfl rfl (fun e => absurd e.1 (by decide)) (fun _ => trivial) fun h143 h144 s145 hE145 => ?_
                            refine pr_end (fun _ _ => rfl) ?_
                            exact .inl ⟨_, 0, _, rfl, ⟨rfl, rfl⟩, rfl, hE145⟩
                          · refine mq_f h127 ?_
                            by_cases h146 : rdz t x1 = 13
                            · refine mq_t h146 ?_
                              refine pr_tsw rfl hz4 (by rw [h146]; rfl) rfl ?_
                              refine pr_n (pc2 := 657) (lv2 := [(3, vi (rdz t x1)), (2, vi (t 205 x1.toNat)), (0, .ref 170), (1, vi x1)]) (st2 := [vi x1, .ref 170, vi (rdz t x1), vi x1, .ref 170]) 5 (fun _ _ => rfl) ?_
                              refine pr_s1 (args := [vi x1]) (rest := [vi (rdz t x1), vi x1, .ref 170]) rfl rfl rfl rfl (Nat.le_of_ble_eq_true rfl) rfl (h_166 s4 ((rds t x1)) x1 hE4 hx1) e_rds ?_
                              rintro _ s147 ⟨rfl, hz147⟩ hE147
                              show pr K K d tb_M165 660 [(3, vi (rdz t x1)), (2, vi (t 205 x1.toNat)), (0, .ref 170), (1, vi x1)] [vi (rdz ((rds t x1)) x1), vi (rdz t x1), vi x1, .ref 170] s147 _
                              refine pr_n (pc2 := 661) (lv2 := [(3, vi (rdz t x1)), (2, vi (t 205 x1.toNat)), (0, .ref 170), (1, vi x1)]) (st2 := [vi (t 205 x1.toNat), vi (rdz ((rds t x1)) x1), vi (rdz t x1), vi x1, .ref 170]) 1 (fun _ _ => rfl) ?_
                              refine pr_m1 (args := [vi x1, vi (rdz t x1), vi (rdz ((rds t x1)) x1), vi (t 205 x1.toNat)]) (rest := []) rfl rfl rfl rfl (Nat.le_of_ble_eq_true rfl) rfl (h_170 s147 ((rds ((rds t x1)) x1)) x1 (rdz t x1) (rdz ((rds t x1)) x1) (t 205 x1.toNat) hE147 hx1 hz4 hz147 h1) ?_
                              rintro _ _ t148 s148 ⟨rfl, rfl⟩ hE148
                              show pr K K d tb_M165 664 [(3, vi (rdz t x1)), (2, vi (t 205 x1.toNat)), (0, .ref 170), (1, vi x1)] [] s148 _
                              refine pr_end (fun _ _ => rfl) ?_
                              exact .inl ⟨_, 0, _, rfl, ⟨rfl, rfl⟩, rfl, hE148⟩
                            · refine mq_f h146 ?_
                              by_cases h149 : rdz t x1 = 14
                              · refine mq_t h149 ?_
                                refine pr_tsw rfl hz4 (by rw [h149]; rfl) rfl ?_
                                refine pr_n (pc2 := 657) (lv2 := [(3, vi (rdz t x1)), (2, vi (t 205 x1.toNat)), (0, .ref 170), (1, vi x1)]) (st2 := [vi x1, .ref 170, vi (rdz t x1), vi x1, .ref 170]) 5 (fun _ _ => rfl) ?_
                                refine pr_s1 (args := [vi x1]) (rest := [vi (rdz t x1), vi x1, .ref 170]) rfl rfl rfl rfl (Nat.le_of_ble_eq_true rfl) rfl (h_166 s4 ((rds t x1)) x1 hE4 hx1) e_rds ?_
                                rintro _ s150 ⟨rfl, hz150⟩ hE150
                                show pr K K d tb_M165 660 [(3, vi (rdz t x1)), (2, vi (t 205 x1.toNat)), (0, .ref 170), (1, vi x1)] [vi (rdz ((rds t x1)) x1), vi (rdz t x1), vi x1, .ref 170] s150 _
                                refine pr_n (pc2 := 661) (lv2 := [(3, vi (rdz t x1)), (2, vi (t 205 x1.toNat)), (0, .ref 170), (1, vi x1)]) (st2 := [vi (t 205 x1.toNat), vi (rdz ((rds t x1)) x1), vi (rdz t x1), vi x1, .ref 170]) 1 (fun _ _ => rfl) ?_
                                refine pr_m1 (args := [vi x1, vi (rdz t x1), vi (rdz ((rds t x1)) x1), vi (t 205 x1.toNat)]) (rest := []) rfl rfl rfl rfl (Nat.le_of_ble_eq_true rfl) rfl (h_170 s150 ((rds ((rds t x1)) x1)) x1 (rdz t x1) (rdz ((rds t x1)) x1) (t 205 x1.toNat) hE150 hx1 hz4 hz150 h1) ?_
                                rintro _ _ t151 s151 ⟨rfl, rfl⟩ hE151
                                show pr K K d tb_M165 664 [(3, vi (rdz t x1)), (2, vi (t 205 x1.toNat)), (0, .ref 170), (1, vi x1)] [] s151 _
                                refine pr_end (fun _ _ => rfl) ?_
                                exact .inl ⟨_, 0, _, rfl, ⟨rfl, rfl⟩, rfl, hE151⟩
                              · refine mq_f h149 ?_
                                by_cases h152 : rdz t x1 = 15
                                · refine mq_t h152 ?_
                                  refine pr_tsw rfl hz4 (by rw [h152]; rfl) rfl ?_
                                  refine pr_n (pc2 := 657) (lv2 := [(3, vi (rdz t x1)), (2, vi (t 205 x1.toNat)), (0, .ref 170), (1, vi x1)]) (st2 := [vi x1, .ref 170, vi (rdz t x1), vi x1, .ref 170]) 5 (fun _ _ => rfl) ?_
                                  refine pr_s1 (args := [vi x1]) (rest := [vi (rdz t x1), vi x1, .ref 170]) rfl rfl rfl rfl (Nat.le_of_ble_eq_true rfl) rfl (h_166 s4 ((rds t x1)) x1 hE4 hx1) e_rds ?_
                                  rintro _ s153 ⟨rfl, hz153⟩ hE153
                                  show pr K K d tb_M165 660 [(3, vi (rdz t x1)), (2, vi (t 205 x1.toNat)), (0, .ref 170), (1, vi x1)] [vi (rdz ((rds t x1)) x1), vi (rdz t x1), vi x1, .ref 170] s153 _
                                  refine pr_n (pc2 := 661) (lv2 := [(3, vi (rdz t x1)), (2, vi (t 205 x1.toNat)), (0, .ref 170), (1, vi x1)]) (st2 := [vi (t 205 x1.toNat), vi (rdz ((rds t x1)) x1), vi (rdz t x1), vi x1, .ref 170]) 1 (fun _ _ => rfl) ?_
                                  refine pr_m1 (args := [vi x1, vi (rdz t x1), vi (rdz ((rds t x1)) x1), vi (t 205 x1.toNat)]) (rest := []) rfl rfl rfl rfl (Nat.le_of_ble_eq_true rfl) rfl (h_170 s153 ((rds ((rds t x1)) x1)) x1 (rdz t x1) (rdz ((rds t x1)) x1) (t 205 x1.toNat) hE153 hx1 hz4 hz153 h1) ?_
                                  rintro _ _ t154 s154 ⟨rfl, rfl⟩ hE154
                                  show pr K K d tb_M165 664 [(3, vi (rdz t x1)), (2, vi (t 205 x1.toNat)), (0, .ref 170), (1, vi x1)] [] s154 _
                                  refine pr_end (fun _ _ => rfl) ?_
                                  exact .inl ⟨_, 0, _, rfl, ⟨rfl, rfl⟩, rfl, hE154⟩
                                · refine mq_f h152 ?_
                                  by_cases h155 : rdz t x1 = 16
                                  · refine mq_t h155 ?_
                                    refine pr_tsw rfl hz4 (by rw [h155]; rfl) rfl ?_
                                    refine pr_n (pc2 := 657) (lv2 := [(3, vi (rdz t x1)), (2, vi (t 205 x1.toNat)), (0, .ref 170), (1, vi x1)]) (st2 := [vi x1, .ref 170, vi (rdz t x1), vi x1, .ref 170]) 5 (fun _ _ => rfl) ?_
                                    refine pr_s1 (args := [vi x1]) (rest := [vi (rdz t x1), vi x1, .ref 170]) rfl rfl rfl rfl (Nat.le_of_ble_eq_true rfl) rfl (h_166 s4 ((rds t x1)) x1 hE4 hx1) e_rds ?_
                                    rintro _ s156 ⟨rfl, hz156⟩ hE156
                                    show pr K K d tb_M165 660 [(3, vi (rdz t x1)), (2, vi (t 205 x1.toNat)), (0, .ref 170), (1, vi x1)] [vi (rdz ((rds t x1)) x1), vi (rdz t x1), vi x1, .ref 170] s156 _
                                    refine pr_n (pc2 := 661) (lv2 := [(3, vi (rdz t x1)), (2, vi (t 205 x1.toNat)), (0, .ref 170), (1, vi x1)]) (st2 := [vi (t 205 x1.toNat), vi (rdz ((rds t x1)) x1), vi (rdz t x1), vi x1, .ref 170]) 1 (fun _ _ => rfl) ?_
                                    refine pr_m1 (args := [vi x1, vi (rdz t x1), vi (rdz ((rds t x1)) x1), vi (t 205 x1.toNat)]) (rest := []) rfl rfl rfl rfl (Nat.le_of_ble_eq_true rfl) rfl (h_170 s156 ((rds ((rds t x1)) x1)) x1 (rdz t x1) (rdz ((rds t x1)) x1) (t 205 x1.toNat) hE156 hx1 hz4 hz156 h1) ?_
                                    rintro _ _ t157 s157 ⟨rfl, rfl⟩ hE157
                                    show pr K K d tb_M165 664 [(3, vi (rdz t x1)), (2, vi (t 205 x1.toNat)), (0, .ref 170), (1, vi x1)] [] s157 _
                                    refine pr_end (fun _ _ => rfl) ?_
                                    exact .inl ⟨_, 0, _, rfl, ⟨rfl, rfl⟩, rfl, hE157⟩
                                  · refine mq_f h155 ?_
                                    by_cases h158 : rdz t x1 = 17
                                    · refine mq_t h158 ?_
                                      refine pr_tsw rfl hz4 (by rw [h158]; rfl) rfl ?_
                                      refine pr_n (pc2 := 526) (lv2 := [(3, vi (rdz t x1)), (2, vi (t 205 x1.toNat)), (0, .ref 170), (1, vi x1)]) (st2 := [vi x1, .ref 170]) 2 (fun _ _ => rfl) ?_
                                      refine pr_s1 (args := [vi x1]) (rest := []) rfl rfl rfl rfl (Nat.le_of_ble_eq_true rfl) rfl (h_166 s4 ((rds t x1)) x1 hE4 hx1) e_rds ?_
                                      rintro _ s159 ⟨rfl, hz159⟩ hE159
                                      show pr K K d tb_M165 529 [(3, vi (rdz t x1)), (2, vi (t 205 x1.toNat)), (0, .ref 170), (1, vi x1)] [vi (rdz ((rds t x1)) x1)] s159 _
                                      refine pr_n (pc2 := 532) (lv2 := [(4, vi (rdz ((rds t x1)) x1)), (3, vi (rdz t x1)), (2, vi (t 205 x1.toNat)), (0, .ref 170), (1, vi x1)]) (st2 := [.ref 170]) 2 (fun _ _ => rfl) ?_
                                      refine pr_get (v := .ref 204) rfl rfl rfl (by decide) (rv_ref (hE159.2.1 170 39 204 rfl)) fun _ => ?_
                                      refine pr_n (pc2 := 539) (lv2 := [(4, vi (rdz ((rds t x1)) x1)), (3, vi (rdz t x1)), (2, vi (t 205 x1.toNat)), (0, .ref 170), (1, vi x1)]) (st2 := [vi x1, .ref 170, vi (rdz ((rds t x1)) x1), .ref 204]) 3 (fun _ _ => rfl) ?_
                                      refine pr_s1 (args := [vi x1]) (rest := [vi (rdz ((rds t x1)) x1), .ref 204]) rfl rfl rfl rfl (Nat.le_of_ble_eq_true rfl) rfl (h_166 s159 ((rds ((rds t x1)) x1)) x1 hE159 hx1) e_rds ?_
                                      rintro _ s160 ⟨rfl, hz160⟩ hE160
                                      show pr K K d tb_M165 542 [(4, vi (rdz ((rds t x1)) x1)), (3, vi (rdz t x1)), (2, vi (t 205 x1.toNat)), (0, .ref 170), (1, vi x1)] [vi (rdz ((rds ((rds t x1)) x1)) x1), vi (rdz ((rds t x1)) x1), .ref 204] s160 _
                                      refine pr_sE (k2 := 204) (a := rdz ((rds t x1)) x1) (z := rdz ((rds ((rds t x1)) x1)) x1) hE160 rfl (by decide) rfl rfl hz159 (by decide) rfl (show i32 (rdz ((rds ((rds t x1)) x1)) x1) from hz160) (n0 rfl (by omega) (by omega)) rfl rfl (fun e => absurd e.1 (by decide)) (fun _ => trivial) fun h161 h162 s163 hE163 => ?_
                                      refine pr_end (fun _ _ => rfl) ?_
                                      exact .inl ⟨_, 0, _, rfl, ⟨rfl, rfl⟩, rfl, hE163⟩
                                    · refine mq_f h158 ?_
                                      by_cases h164 : rdz t x1 = 18
                                      · refine mq_t h164 ?_
                                        refine pr_tsw rfl hz4 (by rw [h164]; rfl) rfl ?_
                                        refine pr_n (pc2 := 546) (lv2 := [(3, vi (rdz t x1)), (2, vi (t 205 x1.toNat)), (0, .ref 170), (1, vi x1)]) (st2 := [vi x1, .ref 170]) 2 (fun _ _ => rfl) ?_
                                        refine pr_s1 (args := [vi x1]) (rest := []) rfl rfl rfl rfl (Nat.le_of_ble_eq_true rfl) rfl (h_166 s4 ((rds t x1)) x1 hE4 hx1) e_rds ?_
                                        rintro _ s165 ⟨rfl, hz165⟩ hE165
                                        show pr K K d tb_M165 549 [(3, vi (rdz t x1)), (2, vi (t 205 x1.toNat)), (0, .ref 170), (1, vi x1)] [vi (rdz ((rds t x1)) x1)] s165 _
                                        refine pr_n (pc2 := 553) (lv2 := [(4, vi (rdz ((rds t x1)) x1)), (3, vi (rdz t x1)), (2, vi (t 205 x1.toNat)), (0, .ref 170), (1, vi x1)]) (st2 := [vi x1, .ref 170]) 3 (fun _ _ => rfl) ?_
                                        refine pr_s1 (args := [vi x1]) (rest := []) rfl rfl rfl rfl (Nat.le_of_ble_eq_true rfl) rfl (h_166 s165 ((rds ((rds t x1)) x1)) x1 hE165 hx1) e_rds ?_
                                        rintro _ s166 ⟨rfl, hz166⟩ hE166
                                        show pr K K d tb_M165 556 [(4, vi (rdz ((rds t x1)) x1)), (3, vi (rdz t x1)), (2, vi (t 205 x1.toNat)), (0, .ref 170), (1, vi x1)] [vi (rdz ((rds ((rds t x1)) x1)) x1)] s166 _
                                        refine pr_n (pc2 := 559) (lv2 := [(5, vi (rdz ((rds ((rds t x1)) x1)) x1)), (4, vi (rdz ((rds t x1)) x1)), (3, vi (rdz t x1)), (2, vi (t 205 x1.toNat)), (0, .ref 170), (1, vi x1)]) (st2 := [.ref 170]) 2 (fun _ _ => rfl) ?_
                                        refine pr_get (v := .ref 204) rfl rfl rfl (by decide) (rv_ref (hE166.2.1 170 39 204 rfl)) fun _ => ?_
                                        refine pr_n (pc2 := 565) (lv2 := [(5, vi (rdz ((rds ((rds t x1)) x1)) x1)), (4, vi (rdz ((rds t x1)) x1)), (3, vi (rdz t x1)), (2, vi (t 205 x1.toNat)), (0, .ref 170), (1, vi x1)]) (st2 := [vi (rdz ((rds t x1)) x1), .ref 204, vi (rdz ((rds t x1)) x1), .ref 204]) 2 (fun _ _ => rfl) ?_
                                        refine pr_aE (k2 := 204) (a := rdz ((rds t x1)) x1) (v := vi ((rds ((rds ((rds t x1)) x1)) x1) 204 ((rdz ((rds t x1)) x1).toNat))) hE166 rfl rfl rfl hz165 (by decide) rfl rfl rfl fun h168 h169 h167 => ?_
                                        have h167 : i32 ((rds ((rds ((rds t x1)) x1)) x1) 204 ((rdz ((rds t x1)) x1).toNat)) := h167
                                        refine pr_n (pc2 := 567) (lv2 := [(5, vi (rdz ((rds ((rds t x1)) x1)) x1)), (4, vi (rdz ((rds t x1)) x1)), (3, vi (rdz t x1)), (2, vi (t 205 x1.toNat)), (0, .ref 170), (1, vi x1)]) (st2 := [vi 1, vi ((rds ((rds ((rds t x1)) x1)) x1) 204 ((rdz ((rds t x1)) x1).toNat)), vi (rdz ((rds t x1)) x1), .ref 204]) 1 (fun _ _ => rfl) ?_
                                        refine pr_i2 (a := (rds ((rds ((rds t x1)) x1)) x1) 204 ((rdz ((rds t x1)) x1).toNat)) (b := 1) rfl rfl ?_
                                        show pr K K d tb_M165 568 [(5, vi (rdz ((rds ((rds t x1)) x1)) x1)), (4, vi (rdz ((rds t x1)) x1)), (3, vi (rdz t x1)), (2, vi (t 205 x1.toNat)), (0, .ref 170), (1, vi x1)] [vi (imi ((rds ((rds ((rds t x1)) x1)) x1) 204 ((rdz ((rds t x1)) x1).toNat)) 1), vi (rdz ((rds t x1)) x1), .ref 204] s166 _
                                        have h170 : i32 (imi ((rds ((rds ((rds t x1)) x1)) x1) 204 ((rdz ((rds t x1)) x1).toNat)) 1) := i32_in _
                                        refine pr_sE (k2 := 204) (a := rdz ((rds t x1)) x1) (z := imi ((rds ((rds ((rds t x1)) x1)) x1) 204 ((rdz ((rds t x1)) x1).toNat)) 1) hE166 rfl (by decide) rfl rfl hz165 (by decide) rfl (show i32 (imi ((rds ((rds ((rds t x1)) x1)) x1) 204 ((rdz ((rds t x1)) x1).toNat)) 1) from h170) (n0 rfl (by omega) (by omega)) rfl rfl (fun e => absurd e.1 (by decide)) (fun _ => trivial) fun h171 h172 s173 hE173 => ?_
                                        refine pr_n (pc2 := 570) (lv2 := [(5, vi (rdz ((rds ((rds t x1)) x1)) x1)), (4, vi (rdz ((rds t x1)) x1)), (3, vi (rdz t x1)), (2, vi (t 205 x1.toNat)), (0, .ref 170), (1, vi x1)]) (st2 := [.ref 170]) 1 (fun _ _ => rfl) ?_
                                        refine pr_get (v := .ref 204) rfl rfl rfl (by decide) (rv_ref (hE173.2.1 170 39 204 rfl)) fun _ => ?_
                                        refine pr_n (pc2 := 575) (lv2 := [(5, vi (rdz ((rds ((rds t x1)) x1)) x1)), (4, vi (rdz ((rds t x1)) x1)), (3, vi (rdz t x1)), (2, vi (t 205 x1.toNat)), (0, .ref 170), (1, vi x1)]) (st2 := [vi (rdz ((rds t x1)) x1), .ref 204]) 1 (fun _ _ => rfl) ?_
                                        refine pr_aE (k2 := 204) (a := rdz ((rds t x1)) x1) (v := vi (imi ((rds ((rds ((rds t x1)) x1)) x1) 204 ((rdz ((rds t x1)) x1).toNat)) 1)) hE173 rfl rfl rfl hz165 (by decide) rfl rfl (by rw [up_self]; rfl) fun h175 h176 h174 => ?_
                                        rw [up_self] at h174
                                        have h174 : i32 (imi ((rds ((rds ((rds t x1)) x1)) x1) 204 ((rdz ((rds t x1)) x1).toNat)) 1) := h174
                                        by_cases h177 : 0 ≤ imi ((rds ((rds ((rds t x1)) x1)) x1) 204 ((rdz ((rds t x1)) x1).toNat)) 1
                                        · refine mq_t h177 ?_
                                          refine pr_if1t rfl rfl h174 h177 ?_
                                          refine pr_end (fun _ _ => rfl) ?_
                                          exact .inl ⟨_, 0, _, rfl, ⟨rfl, rfl⟩, rfl, hE173⟩
                                        · refine mq_f h177 ?_
                                          refine pr_if1f rfl rfl h174 h177 ?_
                                          refine pr_n (pc2 := 580) (lv2 := [(5, vi (rdz ((rds ((rds t x1)) x1)) x1)), (4, vi (rdz ((rds t x1)) x1)), (3, vi (rdz t x1)), (2, vi (t 205 x1.toNat)), (0, .ref 170), (1, vi x1)]) (st2 := [.ref 170]) 1 (fun _ _ => rfl) ?_
                                          refine pr_get (v := .ref 205) rfl rfl rfl (by decide) (rv_ref (hE173.2.1 170 40 205 rfl)) fun _ => ?_
                                          refine pr_n (pc2 := 586) (lv2 := [(5, vi (rdz ((rds ((rds t x1)) x1)) x1)), (4, vi (rdz ((rds t x1)) x1)), (3, vi (rdz t x1)), (2, vi (t 205 x1.toNat)), (0, .ref 170), (1, vi x1)]) (st2 := [vi (rdz ((rds ((rds t x1)) x1)) x1), vi x1, .ref 205]) 2 (fun _ _ => rfl) ?_
                                          refine pr_sE (k2 := 205) (a := x1) (z := rdz ((rds ((rds t x1)) x1)) x1) hE173 rfl (by decide) rfl rfl hx1 (by decide) rfl (show i32 (rdz ((rds ((rds t x1)) x1)) x1) from hz166) (n0 rfl (by omega) (by omega)) rfl rfl (fun e => absurd e.1 (by decide)) (fun _ => trivial) fun h178 h179 s180 hE180 => ?_
                                          refine pr_end (fun _ _ => rfl) ?_
                                          exact .inl ⟨_, 0, _, rfl, ⟨rfl, rfl⟩, rfl, hE180⟩
                                      · refine mq_f h164 ?_
                                        by_cases h181 : rdz t x1 = 19
                                        · refine mq_t h181 ?_
                                          refine pr_tsw rfl hz4 (by rw [h181]; rfl) rfl ?_
                                          refine pr_n (pc2 := 590) (lv2 := [(3, vi (rdz t x1)), (2, vi (t 205 x1.toNat)), (0, .ref 170), (1, vi x1)]) (st2 := [vi x1, .ref 170]) 2 (fun _ _ => rfl) ?_
                                          refine pr_m1 (args := [vi x1]) (rest := []) rfl rfl rfl rfl (Nat.le_of_ble_eq_true rfl) rfl (h_169 s4 ((rds t x1)) x1 hE4 hx1) ?_
                                          rintro _ _ t182 s182 ⟨rfl, rfl⟩ hE182
                                          show pr K K d tb_M165 593 [(3, vi (rdz t x1)), (2, vi (t 205 x1.toNat)), (0, .ref 170), (1, vi x1)] [] s182 _
                                          refine pr_end (fun _ _ => rfl) ?_
                                          exact .inl ⟨_, 0, _, rfl, ⟨rfl, rfl⟩, rfl, hE182⟩
                                        · refine mq_f h181 ?_
                                          by_cases h183 : rdz t x1 = 20
                                          · refine mq_t h183 ?_
                                            refine pr_tsw rfl hz4 (by rw [h183]; rfl) rfl ?_
                                            refine pr_n (pc2 := 595) (lv2 := [(3, vi (rdz t x1)), (2, vi (t 205 x1.toNat)), (0, .ref 170), (1, vi x1)]) (st2 := [.ref 170]) 1 (fun _ _ => rfl) ?_
                                            refine pr_get (v := .ref 206) rfl rfl rfl (by decide) (rv_ref (hE4.2.1 170 41 206 rfl)) fun _ => ?_
                                            refine pr_n (pc2 := 600) (lv2 := [(3, vi (rdz t x1)), (2, vi (t 205 x1.toNat)), (0, .ref 170), (1, vi x1)]) (st2 := [vi 0, vi x1, .ref 206]) 2 (fun _ _ => rfl) ?_
                                            refine pr_sE (k2 := 206) (a := x1) (z := 0) hE4 rfl (by decide) rfl rfl hx1 (by decide) rfl (show i32 (0) from (i32_n rfl)) (n0 rfl (by omega) (by omega)) rfl rfl (fun e => absurd e.1 (by decide)) (fun _ => trivial) fun h184 h185 s186 hE186 => ?_
                                            refine pr_n (pc2 := 602) (lv2 := [(3, vi (rdz t x1)), (2, vi (t 205 x1.toNat)), (0, .ref 170), (1, vi x1)]) (st2 := [.ref 170]) 1 (fun _ _ => rfl) ?_
                                            refine pr_get (v := .ref 210) rfl rfl rfl (by decide) (rv_ref (hE186.2.1 170 45 210 rfl)) fun _ => ?_
                                            refine pr_n (pc2 := 606) (lv2 := [(3, vi (rdz t x1)), (2, vi (t 205 x1.toNat)), (0, .ref 170), (1, vi x1)]) (st2 := [vi x1, .ref 210]) 1 (fun _ _ => rfl) ?_
                                            refine pr_aE (k2 := 210) (a := x1) (v := vi ((rds t x1) 210 x1.toNat)) hE186 rfl rfl rfl hx1 (by decide) rfl rfl rfl fun h188 h189 h187 => ?_
                                            have h187 : i32 ((rds t x1) 210 x1.toNat) := h187
                                            refine pr_n (pc2 := 610) (lv2 := [(4, vi ((rds t x1) 210 x1.toNat)), (3, vi (rdz t x1)), (2, vi (t 205 x1.toNat)), (0, .ref 170), (1, vi x1)]) (st2 := [.ref 170]) 2 (fun _ _ => rfl) ?_
                                            refine pr_get (v := .ref 211) rfl rfl rfl (by decide) (rv_ref (hE186.2.1 170 46 211 rfl)) fun _ => ?_
                                            refine pr_n (pc2 := 616) (lv2 := [(4, vi ((rds t x1) 210 x1.toNat)), (3, vi (rdz t x1)), (2, vi (t 205 x1.toNat)), (0, .ref 170), (1, vi x1)]) (st2 := [vi ((rds t x1) 210 x1.toNat), .ref 211, vi ((rds t x1) 210 x1.toNat), .ref 211]) 2 (fun _ _ => rfl) ?_
                                            refine pr_aE (k2 := 211) (a := (rds t x1) 210 x1.toNat) (v := vi ((rds t x1) 211 (((rds t x1) 210 x1.toNat).toNat))) hE186 rfl rfl rfl h187 (by decide) rfl rfl rfl fun h191 h192 h190 => ?_
                                            have h190 : i32 ((rds t x1) 211 (((rds t x1) 210 x1.toNat).toNat)) := h190
                                            refine pr_n (pc2 := 618) (lv2 := [(4, vi ((rds t x1) 210 x1.toNat)), (3, vi (rdz t x1)), (2, vi (t 205 x1.toNat)), (0, .ref 170), (1, vi x1)]) (st2 := [vi 1, vi ((rds t x1) 211 (((rds t x1) 210 x1.toNat).toNat)), vi ((rds t x1) 210 x1.toNat), .ref 211]) 1 (fun _ _ => rfl) ?_
                                            refine pr_i2 (a := (rds t x1) 211 (((rds t x1) 210 x1.toNat).toNat)) (b := 1) rfl rfl ?_
                                            show pr K K d tb_M165 619 [(4, vi ((rds t x1) 210 x1.toNat)), (3, vi (rdz t x1)), (2, vi (t 205 x1.toNat)), (0, .ref 170), (1, vi x1)] [vi (imi ((rds t x1) 211 (((rds t x1) 210 x1.toNat).toNat)) 1), vi ((rds t x1) 210 x1.toNat), .ref 211] s186 _
                                            have h193 : i32 (imi ((rds t x1) 211 (((rds t x1) 210 x1.toNat).toNat)) 1) := i32_in _
                                            refine pr_sE (k2 := 211) (a := (rds t x1) 210 x1.toNat) (z := imi ((rds t x1) 211 (((rds t x1) 210 x1.toNat).toNat)) 1) hE186 rfl (by decide) rfl rfl h187 (by decide) rfl (show i32 (imi ((rds t x1) 211 (((rds t x1) 210 x1.toNat).toNat)) 1) from h193) (n0 rfl (by omega) (by omega)) rfl rfl (fun e => absurd e.1 (by decide)) (fun _ => trivial) fun h194 h195 s196 hE196 => ?_
                                            refine pr_n (pc2 := 621) (lv2 := [(4, vi ((rds t x1) 210 x1.toNat)), (3, vi (rdz t x1)), (2, vi (t 205 x1.toNat)), (0, .ref 170), (1, vi x1)]) (st2 := [.ref 170]) 1 (fun _ _ => rfl) ?_
                                            refine pr_get (v := .ref 211) rfl rfl rfl (by decide) (rv_ref (hE196.2.1 170 46 211 rfl)) fun _ => ?_
                                            refine pr_n (pc2 := 626) (lv2 := [(4, vi ((rds t x1) 210 x1.toNat)), (3, vi (rdz t x1)), (2, vi (t 205 x1.toNat)), (0, .ref 170), (1, vi x1)]) (st2 := [vi ((rds t x1) 210 x1.toNat), .ref 211]) 1 (fun _ _ => rfl) ?_
                                            refine pr_aE (k2 := 211) (a := (rds t x1) 210 x1.toNat) (v := vi (imi ((rds t x1) 211 (((rds t x1) 210 x1.toNat).toNat)) 1)) hE196 rfl rfl rfl h187 (by decide) rfl rfl (by rw [up_self]; rfl) fun h198 h199 h197 => ?_
                                            rw [up_self] at h197
                                            have h197 : i32 (imi ((rds t x1) 211 (((rds t x1) 210 x1.toNat).toNat)) 1) := h197
                                            by_cases h200 : imi ((rds t x1) 211 (((rds t x1) 210 x1.toNat).toNat)) 1 ≠ 0
                                            · refine mq_t h200 ?_
                                              refine pr_if1t rfl rfl h197 h200 ?_
                                              refine pr_end (fun _ _ => rfl) ?_
                                              exact .inl ⟨_, 0, _, rfl, ⟨rfl, rfl⟩, rfl, hE196⟩
                                            · refine mq_f h200 ?_
                                              refine pr_if1f rfl rfl h197 h200 ?_
                                              refine pr_n (pc2 := 631) (lv2 := [(4, vi ((rds t x1) 210 x1.toNat)), (3, vi (rdz t x1)), (2, vi (t 205 x1.toNat)), (0, .ref 170), (1, vi x1)]) (st2 := [.ref 170]) 1 (fun _ _ => rfl) ?_
                                              refine pr_get (v := .ref 206) rfl rfl rfl (by decide) (rv_ref (hE196.2.1 170 41 206 rfl)) fun _ => ?_
                                              refine pr_n (pc2 := 637) (lv2 := [(4, vi ((rds t x1) 210 x1.toNat)), (3, vi (rdz t x1)), (2, vi (t 205 x1.toNat)), (0, .ref 170), (1, vi x1)]) (st2 := [vi 1, vi ((rds t x1) 210 x1.toNat), .ref 206]) 2 (fun _ _ => rfl) ?_
                                              refine pr_sE (k2 := 206) (a := (rds t x1) 210 x1.toNat) (z := 1) hE196 rfl (by decide) rfl rfl h187 (by decide) rfl (show i32 (1) from (i32_n rfl)) (n0 rfl (by omega) (by omega)) rfl rfl (fun e => absurd e.1 (by decide)) (fun _ => trivial) fun h201 h202 s203 hE203 => ?_
                                              refine pr_end (fun _ _ => rfl) ?_
                                              exact .inl ⟨_, 0, _, rfl, ⟨rfl, rfl⟩, rfl, hE203⟩
                                          · refine mq_f h183 ?_
                                            by_cases h204 : rdz t x1 = 21
                                            · refine mq_t h204 ?_
                                              refine pr_tsw rfl hz4 (by rw [h204]; rfl) rfl ?_
                                              refine pr_n (pc2 := 640) (lv2 := [(3, vi (rdz t x1)), (2, vi (t 205 x1.toNat)), (0, .ref 170), (1, vi x1)]) (st2 := [.ref 170]) 1 (fun _ _ => rfl) ?_
                                              refine pr_get (v := .ref 206) rfl rfl rfl (by decide) (rv_ref (hE4.2.1 170 41 206 rfl)) fun _ => ?_
                                              refine pr_n (pc2 := 645) (lv2 := [(3, vi (rdz t x1)), (2, vi (t 205 x1.toNat)), (0, .ref 170), (1, vi x1)]) (st2 := [vi 0, vi x1, .ref 206]) 2 (fun _ _ => rfl) ?_
                                              refine pr_sE (k2 := 206) (a := x1) (z := 0) hE4 rfl (by decide) rfl rfl hx1 (by decide) rfl (show i32 (0) from (i32_n rfl)) (n0 rfl (by omega) (by omega)) rfl rfl (fun e => absurd e.1 (by decide)) (fun _ => trivial) fun h205 h206 s207 hE207 => ?_
                                              refine pr_n (pc2 := 648) (lv2 := [(3, vi (rdz t x1)), (2, vi (t 205 x1.toNat)), (0, .ref 170), (1, vi x1)]) (st2 := [vi 1, .ref 170]) 2 (fun _ _ => rfl) ?_
                                              refine pr_pE (k2 := 170) (z := 1) hE207 rfl rfl rfl rfl (by decide) rfl (by decide) rfl (show i32 (1) from (i32_n rfl)) (hf_int' _) rfl rfl rfl (fun e => absurd e.2 (by decide)) (fun _ => trivial) fun s208 hE208 => ?_
                                              refine pr_end (fun _ _ => rfl) ?_
                                              exact .inl ⟨_, 0, _, rfl, ⟨rfl, rfl⟩, rfl, hE208⟩
                                            · refine mq_f h204 ?_
                                              refine pr_tsw rfl hz4 (if_pos (by omega)) rfl ?_
                                              refine pr_n (pc2 := 657) (lv2 := [(3, vi (rdz t x1)), (2, vi (t 205 x1.toNat)), (0, .ref 170), (1, vi x1)]) (st2 := [vi x1, .ref 170, vi (rdz t x1), vi x1, .ref 170]) 5 (fun _ _ => rfl) ?_
                                              refine pr_s1 (args := [vi x1]) (rest := [vi (rdz t x1), vi x1, .ref 170]) rfl rfl rfl rfl (Nat.le_of_ble_eq_true rfl) rfl (h_166 s4 ((rds t x1)) x1 hE4 hx1) e_rds ?_
                                              rintro _ s209 ⟨rfl, hz209⟩ hE209
                                              show pr K K d tb_M165 660 [(3, vi (rdz t x1)), (2, vi (t 205 x1.toNat)), (0, .ref 170), (1, vi x1)] [vi (rdz ((rds t x1)) x1), vi (rdz t x1), vi x1, .ref 170] s209 _
                                              refine pr_n (pc2 := 661) (lv2 := [(3, vi (rdz t x1)), (2, vi (t 205 x1.toNat)), (0, .ref 170), (1, vi x1)]) (st2 := [vi (t 205 x1.toNat), vi (rdz ((rds t x1)) x1), vi (rdz t x1), vi x1, .ref 170]) 1 (fun _ _ => rfl) ?_
                                              refine pr_m1 (args := [vi x1, vi (rdz t x1), vi (rdz ((rds t x1)) x1), vi (t 205 x1.toNat)]) (rest := []) rfl rfl rfl rfl (Nat.le_of_ble_eq_true rfl) rfl (h_170 s209 ((rds ((rds t x1)) x1)) x1 (rdz t x1) (rdz ((rds t x1)) x1) (t 205 x1.toNat) hE209 hx1 hz4 hz209 h1) ?_
                                              rintro _ _ t210 s210 ⟨rfl, rfl⟩ hE210
                                              show pr K K d tb_M165 664 [(3, vi (rdz t x1)), (2, vi (t 205 x1.toNat)), (0, .ref 170), (1, vi x1)] [] s210 _
                                              refine pr_end (fun _ _ => rfl) ?_
                                              exact .inl ⟨_, 0, _, rfl, ⟨rfl, rfl⟩, rfl, hE210⟩
set_option maxHeartbeats 20000000 in
set_option maxRecDepth 100000 in
theorem eu162_0 {N K d C : Nat} (h_120 : eT120 K d C) (h_163 : eT163 K d C) (h_165 : eT165 K d C) (ih : ∀ N2, N2 < N → eA162 N2 K d C) : eU162_0 N K d C := by
  intro s t y2 y1 hE hy2 hy1
  have hC : C = 177 ∨ C = 186 := hE.1
  rw [eG_162_59]
  unfold eM162_59
  refine pr_lt (pc2 := 60) (lv2 := [(2, vi y2), (0, .ref 170), (1, vi y1)]) (st2 := [vi y2]) (fun _ _ => rfl) fun N2 hN2 => ?_
  by_cases h1 : y2 = 0
  · refine mq_t h1 ?_
    refine pr_if1t rfl rfl hy2 h1 ?_
    refine pr_n (pc2 := 177) (lv2 := [(2, vi y2), (0, .ref 170), (1, vi y1)]) (st2 := [.ref 170]) 1 (fun _ _ => rfl) ?_
    refine pr_gE (k2 := 170) (v := vi (t 170 52)) hE rfl rfl rfl (by decide) rfl rfl rfl fun h2 => ?_
    have h2 : i32 (t 170 52) := h2
    refine pr_n (pc2 := 181) (lv2 := [(2, vi y2), (0, .ref 170), (1, vi y1)]) (st2 := [vi 3, vi (t 170 52)]) 1 (fun _ _ => rfl) ?_
    by_cases h3 : t 170 52 ≠ 3
    · refine mq_t h3 ?_
      refine pr_if2t rfl rfl h2 (i32_n rfl) h3 ?_
      refine pr_n (pc2 := 190) (lv2 := [(2, vi y2), (0, .ref 170), (1, vi y1)]) (st2 := [.ref 170]) 1 (fun _ _ => rfl) ?_
      refine pr_gE (k2 := 170) (v := vi (t 170 52)) hE rfl rfl rfl (by decide) rfl rfl rfl fun h4 => ?_
      have h4 : i32 (t 170 52) := h4
      refine pr_reti rfl rfl ?_
      exact .inl ⟨_, t 170 52, _, rfl, ⟨rfl, h4⟩, rfl, hE⟩
    · refine mq_f h3 ?_
      refine pr_if2f rfl rfl h2 (i32_n rfl) h3 ?_
      refine pr_n (pc2 := 186) (lv2 := [(2, vi y2), (0, .ref 170), (1, vi y1)]) (st2 := [vi 0, .ref 170]) 2 (fun _ _ => rfl) ?_
      refine pr_pE (k2 := 170) (z := 0) hE rfl rfl rfl rfl (by decide) rfl (by decide) rfl (show i32 (0) from (i32_n rfl)) (hf_int' _) rfl rfl rfl (fun e => absurd e.2 (by decide)) (fun _ => trivial) fun s5 hE5 => ?_
      refine pr_n (pc2 := 190) (lv2 := [(2, vi y2), (0, .ref 170), (1, vi y1)]) (st2 := [.ref 170]) 1 (fun _ _ => rfl) ?_
      refine pr_gE (k2 := 170) (v := vi (t 170 52)) hE5 rfl rfl rfl (by decide) rfl rfl rfl fun h6 => ?_
      have h6 : i32 (t 170 52) := h6
      refine pr_reti rfl rfl ?_
      exact .inl ⟨_, t 170 52, _, rfl, ⟨rfl, h6⟩, rfl, hE5⟩
  · refine mq_f h1 ?_
    refine pr_if1f rfl rfl hy2 h1 ?_
    refine pr_n (pc2 := 64) (lv2 := [(2, vi y2), (0, .ref 170), (1, vi y1)]) (st2 := [.ref 170]) 1 (fun _ _ => rfl) ?_
    refine pr_gE (k2 := 170) (v := vi (t 170 52)) hE rfl rfl rfl (by decide) rfl rfl rfl fun h7 => ?_
    have h7 : i32 (t 170 52) := h7
    refine pr_n (pc2 := 68) (lv2 := [(2, vi y2), (0, .ref 170), (1, vi y1)]) (st2 := [vi 2, vi (t 170 52)]) 1 (fun _ _ => rfl) ?_
    by_cases h8 : t 170 52 ≠ 2
    · refine mq_t h8 ?_
      refine pr_if2t rfl rfl h7 (i32_n rfl) h8 ?_
      refine pr_n (pc2 := 177) (lv2 := [(2, vi y2), (0, .ref 170), (1, vi y1)]) (st2 := [.ref 170]) 1 (fun _ _ => rfl) ?_
      refine pr_gE (k2 := 170) (v := vi (t 170 52)) hE rfl rfl rfl (by decide) rfl rfl rfl fun h9 => ?_
      have h9 : i32 (t 170 52) := h9
      refine pr_n (pc2 := 181) (lv2 := [(2, vi y2), (0, .ref 170), (1, vi y1)]) (st2 := [vi 3, vi (t 170 52)]) 1 (fun _ _ => rfl) ?_
      by_cases h10 : t 170 52 ≠ 3
      · refine mq_t h10 ?_
        refine pr_if2t rfl rfl h9 (i32_n rfl) h10 ?_
        refine pr_n (pc2 := 190) (lv2 := [(2, vi y2), (0, .ref 170), (1, vi y1)]) (st2 := [.ref 170]) 1 (fun _ _ => rfl) ?_
        refine pr_gE (k2 := 170) (v := vi (t 170 52)) hE rfl rfl rfl (by decide) rfl rfl rfl fun h11 => ?_
        have h11 : i32 (t 170 52) := h11
        refine pr_reti rfl rfl ?_
        exact .inl ⟨_, t 170 52, _, rfl, ⟨rfl, h11⟩, rfl, hE⟩
      · refine mq_f h10 ?_
        refine pr_if2f rfl rfl h9 (i32_n rfl) h10 ?_
        refine pr_n (pc2 := 186) (lv2 := [(2, vi y2), (0, .ref 170), (1, vi y1)]) (st2 := [vi 0, .ref 170]) 2 (fun _ _ => rfl) ?_
        refine pr_pE (k2 := 170) (z := 0) hE rfl rfl rfl rfl (by decide) rfl (by decide) rfl (show i32 (0) from (i32_n rfl)) (hf_int' _) rfl rfl rfl (fun e => absurd e.2 (by decide)) (fun _ => trivial) fun s12 hE12 => ?_
        refine pr_n (pc2 := 190) (lv2 := [(2, vi y2), (0, .ref 170), (1, vi y1)]) (st2 := [.ref 170]) 1 (fun _ _ => rfl) ?_
        refine pr_gE (k2 := 170) (v := vi (t 170 52)) hE12 rfl rfl rfl (by decide) rfl rfl rfl fun h13 => ?_
        have h13 : i32 (t 170 52) := h13
        refine pr_reti rfl rfl ?_
        exact .inl ⟨_, t 170 52, _, rfl, ⟨rfl, h13⟩, rfl, hE12⟩
    · refine mq_f h8 ?_
      refine pr_if2f rfl rfl h7 (i32_n rfl) h8 ?_
      refine pr_n (pc2 := 75) (lv2 := [(3, vi 0), (2, vi 0), (0, .ref 170), (1, vi y1)]) (st2 := []) 4 (fun _ _ => rfl) ?_
      exact ((ih N2 hN2).2.1) s t 0 0 y1 hE (i32_n rfl) (i32_n rfl) hy1
set_option maxHeartbeats 20000000 in
set_option maxRecDepth 100000 in
theorem eu162_1 {N K d C : Nat} (h_120 : eT120 K d C) (h_163 : eT163 K d C) (h_165 : eT165 K d C) (ih : ∀ N2, N2 < N → eA162 N2 K d C) : eU162_1 N K d C := by
  intro s t y3 y2 y1 hE hy3 hy2 hy1
  have hC : C = 177 ∨ C = 186 := hE.1
  rw [eG_162_75]
  unfold eM162_75
  refine pr_lt (pc2 := 76) (lv2 := [(3, vi y3), (2, vi y2), (0, .ref 170), (1, vi y1)]) (st2 := [vi y3]) (fun _ _ => rfl) fun N2 hN2 => ?_
  refine pr_n (pc2 := 77) (lv2 := [(3, vi y3), (2, vi y2), (0, .ref 170), (1, vi y1)]) (st2 := [.ref 170, vi y3]) 1 (fun _ _ => rfl) ?_
  refine pr_gE (k2 := 170) (v := vi (t 170 55)) hE rfl rfl rfl (by decide) rfl rfl rfl fun h1 => ?_
  have h1 : i32 (t 170 55) := h1
  by_cases h2 : t 170 55 ≤ y3
  · refine mq_t h2 ?_
    refine pr_if2t rfl rfl hy3 h1 h2 ?_
    refine pr_n (pc2 := 59) (lv2 := [(3, vi y3), (2, vi y2), (0, .ref 170), (1, vi y1)]) (st2 := []) 1 (fun _ _ => rfl) ?_
    exact ((ih N2 hN2).2.2.1) s t y3 y2 y1 hE hy3 hy2 hy1
  · refine mq_f h2 ?_
    refine pr_if2f rfl rfl hy3 h1 h2 ?_
    refine pr_n (pc2 := 84) (lv2 := [(3, vi y3), (2, vi y2), (0, .ref 170), (1, vi y1)]) (st2 := [.ref 170]) 1 (fun _ _ => rfl) ?_
    refine pr_gE (k2 := 170) (v := vi (t 170 52)) hE rfl rfl rfl (by decide) rfl rfl rfl fun h3 => ?_
    have h3 : i32 (t 170 52) := h3
    refine pr_n (pc2 := 88) (lv2 := [(3, vi y3), (2, vi y2), (0, .ref 170), (1, vi y1)]) (st2 := [vi 2, vi (t 170 52)]) 1 (fun _ _ => rfl) ?_
    by_cases h4 : t 170 52 ≠ 2
    · refine mq_t h4 ?_
      refine pr_if2t rfl rfl h3 (i32_n rfl) h4 ?_
      refine pr_n (pc2 := 59) (lv2 := [(3, vi y3), (2, vi y2), (0, .ref 170), (1, vi y1)]) (st2 := []) 1 (fun _ _ => rfl) ?_
      exact ((ih N2 hN2).2.2.1) s t y3 y2 y1 hE hy3 hy2 hy1
    · refine mq_f h4 ?_
      refine pr_if2f rfl rfl h3 (i32_n rfl) h4 ?_
      refine pr_n (pc2 := 92) (lv2 := [(3, vi y3), (2, vi y2), (0, .ref 170), (1, vi y1)]) (st2 := [.ref 170]) 1 (fun _ _ => rfl) ?_
      refine pr_get (v := .ref 206) rfl rfl rfl (by decide) (rv_ref (hE.2.1 170 41 206 rfl)) fun _ => ?_
      refine pr_n (pc2 := 96) (lv2 := [(3, vi y3), (2, vi y2), (0, .ref 170), (1, vi y1)]) (st2 := [vi y3, .ref 206]) 1 (fun _ _ => rfl) ?_
      refine pr_aE (k2 := 206) (a := y3) (v := vi (t 206 y3.toNat)) hE rfl rfl rfl hy3 (by decide) rfl rfl rfl fun h6 h7 h5 => ?_
      have h5 : i32 (t 206 y3.toNat) := h5
      by_cases h8 : t 206 y3.toNat = 0
      · refine mq_t h8 ?_
        refine pr_if1t rfl rfl h5 h8 ?_
        refine pr_inc (a := y3) rfl rfl ?_
        have h9 : i32 (y3 + 1) := by unfold i32 at *; omega
        show pr N2 K d tb_M162 170 [(3, vi (y3 + 1)), (2, vi y2), (0, .ref 170), (1, vi y1)] [] s _
        refine pr_n (pc2 := 75) (lv2 := [(3, vi (y3 + 1)), (2, vi y2), (0, .ref 170), (1, vi y1)]) (st2 := []) 1 (fun _ _ => rfl) ?_
        exact ((ih N2 hN2).2.1) s t (y3 + 1) y2 y1 hE h9 hy2 hy1
      · refine mq_f h8 ?_
        refine pr_if1f rfl rfl h5 h8 ?_
        refine pr_n (pc2 := 101) (lv2 := [(3, vi y3), (2, vi y2), (0, .ref 170), (1, vi y1)]) (st2 := [.ref 170]) 1 (fun _ _ => rfl) ?_
        refine pr_get (v := .ref 206) rfl rfl rfl (by decide) (rv_ref (hE.2.1 170 41 206 rfl)) fun _ => ?_
        refine pr_n (pc2 := 105) (lv2 := [(3, vi y3), (2, vi y2), (0, .ref 170), (1, vi y1)]) (st2 := [vi y3, .ref 206]) 1 (fun _ _ => rfl) ?_
        refine pr_aE (k2 := 206) (a := y3) (v := vi (t 206 y3.toNat)) hE rfl rfl rfl hy3 (by decide) rfl rfl rfl fun h11 h12 h10 => ?_
        have h10 : i32 (t 206 y3.toNat) := h10
        refine pr_n (pc2 := 108) (lv2 := [(3, vi y3), (2, vi y2), (0, .ref 170), (1, vi y1)]) (st2 := [vi 6, vi (t 206 y3.toNat)]) 1 (fun _ _ => rfl) ?_
        by_cases h13 : t 206 y3.toNat = 6
        · refine mq_t h13 ?_
          refine pr_if2t rfl rfl h10 (i32_n rfl) h13 ?_
          refine pr_inc (a := y3) rfl rfl ?_
          have h14 : i32 (y3 + 1) := by unfold i32 at *; omega
          show pr N2 K d tb_M162 170 [(3, vi (y3 + 1)), (2, vi y2), (0, .ref 170), (1, vi y1)] [] s _
          refine pr_n (pc2 := 75) (lv2 := [(3, vi (y3 + 1)), (2, vi y2), (0, .ref 170), (1, vi y1)]) (st2 := []) 1 (fun _ _ => rfl) ?_
          exact ((ih N2 hN2).2.1) s t (y3 + 1) y2 y1 hE h14 hy2 hy1
        · refine mq_f h13 ?_
          refine pr_if2f rfl rfl h10 (i32_n rfl) h13 ?_
          refine pr_n (pc2 := 112) (lv2 := [(3, vi y3), (2, vi y2), (0, .ref 170), (1, vi y1)]) (st2 := [.ref 170]) 1 (fun _ _ => rfl) ?_
          refine pr_get (v := .ref 206) rfl rfl rfl (by decide) (rv_ref (hE.2.1 170 41 206 rfl)) fun _ => ?_
          refine pr_n (pc2 := 116) (lv2 := [(3, vi y3), (2, vi y2), (0, .ref 170), (1, vi y1)]) (st2 := [vi y3, .ref 206]) 1 (fun _ _ => rfl) ?_
          refine pr_aE (k2 := 206) (a := y3) (v := vi (t 206 y3.toNat)) hE rfl rfl rfl hy3 (by decide) rfl rfl rfl fun h16 h17 h15 => ?_
          have h15 : i32 (t 206 y3.toNat) := h15
          refine pr_n (pc2 := 118) (lv2 := [(3, vi y3), (2, vi y2), (0, .ref 170), (1, vi y1)]) (st2 := [vi 1, vi (t 206 y3.toNat)]) 1 (fun _ _ => rfl) ?_
          by_cases h18 : t 206 y3.toNat = 1
          · refine mq_t h18 ?_
            refine pr_if2t rfl rfl h15 (i32_n rfl) h18 ?_
            refine pr_n (pc2 := 135) (lv2 := [(2, vi 1), (3, vi y3), (0, .ref 170), (1, vi y1)]) (st2 := [.ref 170]) 3 (fun _ _ => rfl) ?_
            refine pr_get (v := .ref 206) rfl rfl rfl (by decide) (rv_ref (hE.2.1 170 41 206 rfl)) fun _ => ?_
            refine pr_n (pc2 := 140) (lv2 := [(2, vi 1), (3, vi y3), (0, .ref 170), (1, vi y1)]) (st2 := [vi 1, vi y3, .ref 206]) 2 (fun _ _ => rfl) ?_
            refine pr_sE (k2 := 206) (a := y3) (z := 1) hE rfl (by decide) rfl rfl hy3 (by decide) rfl (show i32 (1) from (i32_n rfl)) (n0 rfl (by omega) (by omega)) rfl rfl (fun e => absurd e.1 (by decide)) (fun _ => trivial) fun h19 h20 s21 hE21 => ?_
            exact ((ih N2 hN2).2.2.2) s21 (up2 t 206 y3.toNat 1) 1 y3 y1 hE21 (i32_n rfl) hy3 hy1
          · refine mq_f h18 ?_
            refine pr_if2f rfl rfl h15 (i32_n rfl) h18 ?_
            refine pr_n (pc2 := 123) (lv2 := [(3, vi y3), (2, vi y2), (0, .ref 170), (1, vi y1)]) (st2 := [vi y3, .ref 170]) 2 (fun _ _ => rfl) ?_
            refine pr_m1 (args := [vi y3]) (rest := []) rfl rfl rfl rfl (Nat.le_of_ble_eq_true rfl) rfl (h_163 s t y3 hE hy3) ?_
            rintro _ z22 t22 s22 ⟨rfl, hz22⟩ hE22
            show pr N2 K d tb_M162 126 [(3, vi y3), (2, vi y2), (0, .ref 170), (1, vi y1)] [vi z22] s22 _
            by_cases h23 : z22 ≠ 0
            · refine mq_t h23 ?_
              refine pr_if1t rfl rfl (i32_z hz22) h23 ?_
              refine pr_n (pc2 := 135) (lv2 := [(2, vi 1), (3, vi y3), (0, .ref 170), (1, vi y1)]) (st2 := [.ref 170]) 3 (fun _ _ => rfl) ?_
              refine pr_get (v := .ref 206) rfl rfl rfl (by decide) (rv_ref (hE22.2.1 170 41 206 rfl)) fun _ => ?_
              refine pr_n (pc2 := 140) (lv2 := [(2, vi 1), (3, vi y3), (0, .ref 170), (1, vi y1)]) (st2 := [vi 1, vi y3, .ref 206]) 2 (fun _ _ => rfl) ?_
              refine pr_sE (k2 := 206) (a := y3) (z := 1) hE22 rfl (by decide) rfl rfl hy3 (by decide) rfl (show i32 (1) from (i32_n rfl)) (n0 rfl (by omega) (by omega)) rfl rfl (fun e => absurd e.1 (by decide)) (fun _ => trivial) fun h24 h25 s26 hE26 => ?_
              exact ((ih N2 hN2).2.2.2) s26 (up2 t22 206 y3.toNat 1) 1 y3 y1 hE26 (i32_n rfl) hy3 hy1
            · refine mq_f h23 ?_
              refine pr_if1f rfl rfl (i32_z hz22) h23 ?_
              refine pr_n (pc2 := 167) (lv2 := [(3, vi y3), (2, vi y2), (0, .ref 170), (1, vi y1)]) (st2 := []) 1 (fun _ _ => rfl) ?_
              refine pr_inc (a := y3) rfl rfl ?_
              have h27 : i32 (y3 + 1) := by unfold i32 at *; omega
              show pr N2 K d tb_M162 170 [(3, vi (y3 + 1)), (2, vi y2), (0, .ref 170), (1, vi y1)] [] s22 _
              refine pr_n (pc2 := 75) (lv2 := [(3, vi (y3 + 1)), (2, vi y2), (0, .ref 170), (1, vi y1)]) (st2 := []) 1 (fun _ _ => rfl) ?_
              exact ((ih N2 hN2).2.1) s22 t22 (y3 + 1) y2 y1 hE22 h27 hy2 hy1
set_option maxHeartbeats 20000000 in
set_option maxRecDepth 100000 in
theorem eu162_2 {N K d C : Nat} (h_120 : eT120 K d C) (h_163 : eT163 K d C) (h_165 : eT165 K d C) (ih : ∀ N2, N2 < N → eA162 N2 K d C) : eU162_2 N K d C := by
  intro s t y3 y2 y1 hE hy3 hy2 hy1
  have hC : C = 177 ∨ C = 186 := hE.1
  rw [eG_162_59]
  unfold eM162_59
  refine pr_lt (pc2 := 60) (lv2 := [(3, vi y3), (2, vi y2), (0, .ref 170), (1, vi y1)]) (st2 := [vi y2]) (fun _ _ => rfl) fun N2 hN2 => ?_
  by_cases h1 : y2 = 0
  · refine mq_t h1 ?_
    refine pr_if1t rfl rfl hy2 h1 ?_
    refine pr_n (pc2 := 177) (lv2 := [(3, vi y3), (2, vi y2), (0, .ref 170), (1, vi y1)]) (st2 := [.ref 170]) 1 (fun _ _ => rfl) ?_
    refine pr_gE (k2 := 170) (v := vi (t 170 52)) hE rfl rfl rfl (by decide) rfl rfl rfl fun h2 => ?_
    have h2 : i32 (t 170 52) := h2
    refine pr_n (pc2 := 181) (lv2 := [(3, vi y3), (2, vi y2), (0, .ref 170), (1, vi y1)]) (st2 := [vi 3, vi (t 170 52)]) 1 (fun _ _ => rfl) ?_
    by_cases h3 : t 170 52 ≠ 3
    · refine mq_t h3 ?_
      refine pr_if2t rfl rfl h2 (i32_n rfl) h3 ?_
      refine pr_n (pc2 := 190) (lv2 := [(3, vi y3), (2, vi y2), (0, .ref 170), (1, vi y1)]) (st2 := [.ref 170]) 1 (fun _ _ => rfl) ?_
      refine pr_gE (k2 := 170) (v := vi (t 170 52)) hE rfl rfl rfl (by decide) rfl rfl rfl fun h4 => ?_
      have h4 : i32 (t 170 52) := h4
      refine pr_reti rfl rfl ?_
      exact .inl ⟨_, t 170 52, _, rfl, ⟨rfl, h4⟩, rfl, hE⟩
    · refine mq_f h3 ?_
      refine pr_if2f rfl rfl h2 (i32_n rfl) h3 ?_
      refine pr_n (pc2 := 186) (lv2 := [(3, vi y3), (2, vi y2), (0, .ref 170), (1, vi y1)]) (st2 := [vi 0, .ref 170]) 2 (fun _ _ => rfl) ?_
      refine pr_pE (k2 := 170) (z := 0) hE rfl rfl rfl rfl (by decide) rfl (by decide) rfl (show i32 (0) from (i32_n rfl)) (hf_int' _) rfl rfl rfl (fun e => absurd e.2 (by decide)) (fun _ => trivial) fun s5 hE5 => ?_
      refine pr_n (pc2 := 190) (lv2 := [(3, vi y3), (2, vi y2), (0, .ref 170), (1, vi y1)]) (st2 := [.ref 170]) 1 (fun _ _ => rfl) ?_
      refine pr_gE (k2 := 170) (v := vi (t 170 52)) hE5 rfl rfl rfl (by decide) rfl rfl rfl fun h6 => ?_
      have h6 : i32 (t 170 52) := h6
      refine pr_reti rfl rfl ?_
      exact .inl ⟨_, t 170 52, _, rfl, ⟨rfl, h6⟩, rfl, hE5⟩
  · refine mq_f h1 ?_
    refine pr_if1f rfl rfl hy2 h1 ?_
    refine pr_n (pc2 := 64) (lv2 := [(3, vi y3), (2, vi y2), (0, .ref 170), (1, vi y1)]) (st2 := [.ref 170]) 1 (fun _ _ => rfl) ?_
    refine pr_gE (k2 := 170) (v := vi (t 170 52)) hE rfl rfl rfl (by decide) rfl rfl rfl fun h7 => ?_
    have h7 : i32 (t 170 52) := h7
    refine pr_n (pc2 := 68) (lv2 := [(3, vi y3), (2, vi y2), (0, .ref 170), (1, vi y1)]) (st2 := [vi 2, vi (t 170 52)]) 1 (fun _ _ => rfl) ?_
    by_cases h8 : t 170 52 ≠ 2
    · refine mq_t h8 ?_
      refine pr_if2t rfl rfl h7 (i32_n rfl) h8 ?_
      refine pr_n (pc2 := 177) (lv2 := [(3, vi y3), (2, vi y2), (0, .ref 170), (1, vi y1)]) (st2 := [.ref 170]) 1 (fun _ _ => rfl) ?_
      refine pr_gE (k2 := 170) (v := vi (t 170 52)) hE rfl rfl rfl (by decide) rfl rfl rfl fun h9 => ?_
      have h9 : i32 (t 170 52) := h9
      refine pr_n (pc2 := 181) (lv2 := [(3, vi y3), (2, vi y2), (0, .ref 170), (1, vi y1)]) (st2 := [vi 3, vi (t 170 52)]) 1 (fun _ _ => rfl) ?_
      by_cases h10 : t 170 52 ≠ 3
      · refine mq_t h10 ?_
        refine pr_if2t rfl rfl h9 (i32_n rfl) h10 ?_
        refine pr_n (pc2 := 190) (lv2 := [(3, vi y3), (2, vi y2), (0, .ref 170), (1, vi y1)]) (st2 := [.ref 170]) 1 (fun _ _ => rfl) ?_
        refine pr_gE (k2 := 170) (v := vi (t 170 52)) hE rfl rfl rfl (by decide) rfl rfl rfl fun h11 => ?_
        have h11 : i32 (t 170 52) := h11
        refine pr_reti rfl rfl ?_
        exact .inl ⟨_, t 170 52, _, rfl, ⟨rfl, h11⟩, rfl, hE⟩
      · refine mq_f h10 ?_
        refine pr_if2f rfl rfl h9 (i32_n rfl) h10 ?_
        refine pr_n (pc2 := 186) (lv2 := [(3, vi y3), (2, vi y2), (0, .ref 170), (1, vi y1)]) (st2 := [vi 0, .ref 170]) 2 (fun _ _ => rfl) ?_
        refine pr_pE (k2 := 170) (z := 0) hE rfl rfl rfl rfl (by decide) rfl (by decide) rfl (show i32 (0) from (i32_n rfl)) (hf_int' _) rfl rfl rfl (fun e => absurd e.2 (by decide)) (fun _ => trivial) fun s12 hE12 => ?_
        refine pr_n (pc2 := 190) (lv2 := [(3, vi y3), (2, vi y2), (0, .ref 170), (1, vi y1)]) (st2 := [.ref 170]) 1 (fun _ _ => rfl) ?_
        refine pr_gE (k2 := 170) (v := vi (t 170 52)) hE12 rfl rfl rfl (by decide) rfl rfl rfl fun h13 => ?_
        have h13 : i32 (t 170 52) := h13
        refine pr_reti rfl rfl ?_
        exact .inl ⟨_, t 170 52, _, rfl, ⟨rfl, h13⟩, rfl, hE12⟩
    · refine mq_f h8 ?_
      refine pr_if2f rfl rfl h7 (i32_n rfl) h8 ?_
      refine pr_n (pc2 := 75) (lv2 := [(3, vi 0), (2, vi 0), (0, .ref 170), (1, vi y1)]) (st2 := []) 4 (fun _ _ => rfl) ?_
      exact ((ih N2 hN2).2.1) s t 0 0 y1 hE (i32_n rfl) (i32_n rfl) hy1
set_option maxHeartbeats 20000000 in
set_option maxRecDepth 100000 in
theorem eu162_3 {N K d C : Nat} (h_120 : eT120 K d C) (h_163 : eT163 K d C) (h_165 : eT165 K d C) (ih : ∀ N2, N2 < N → eA162 N2 K d C) : eU162_3 N K d C := by
  intro s t y2 y3 y1 hE hy2 hy3 hy1
  have hC : C = 177 ∨ C = 186 := hE.1
  rw [eG_162_141]
  unfold eM162_141
  refine pr_lt (pc2 := 142) (lv2 := [(2, vi y2), (3, vi y3), (0, .ref 170), (1, vi y1)]) (st2 := [.ref 170]) (fun _ _ => rfl) fun N2 hN2 => ?_
  refine pr_get (v := .ref 206) rfl rfl rfl (by decide) (rv_ref (hE.2.1 170 41 206 rfl)) fun _ => ?_
  refine pr_n (pc2 := 146) (lv2 := [(2, vi y2), (3, vi y3), (0, .ref 170), (1, vi y1)]) (st2 := [vi y3, .ref 206]) 1 (fun _ _ => rfl) ?_
  refine pr_aE (k2 := 206) (a := y3) (v := vi (t 206 y3.toNat)) hE rfl rfl rfl hy3 (by decide) rfl rfl rfl fun h2 h3 h1 => ?_
  have h1 : i32 (t 206 y3.toNat) := h1
  refine pr_n (pc2 := 148) (lv2 := [(2, vi y2), (3, vi y3), (0, .ref 170), (1, vi y1)]) (st2 := [vi 1, vi (t 206 y3.toNat)]) 1 (fun _ _ => rfl) ?_
  by_cases h4 : t 206 y3.toNat ≠ 1
  · refine mq_t h4 ?_
    refine pr_if2t rfl rfl h1 (i32_n rfl) h4 ?_
    refine pr_inc (a := y3) rfl rfl ?_
    have h5 : i32 (y3 + 1) := by unfold i32 at *; omega
    show pr N2 K d tb_M162 170 [(3, vi (y3 + 1)), (2, vi y2), (0, .ref 170), (1, vi y1)] [] s _
    refine pr_n (pc2 := 75) (lv2 := [(3, vi (y3 + 1)), (2, vi y2), (0, .ref 170), (1, vi y1)]) (st2 := []) 1 (fun _ _ => rfl) ?_
    exact ((ih N2 hN2).2.1) s t (y3 + 1) y2 y1 hE h5 hy2 hy1
  · refine mq_f h4 ?_
    refine pr_if2f rfl rfl h1 (i32_n rfl) h4 ?_
    refine pr_n (pc2 := 152) (lv2 := [(2, vi y2), (3, vi y3), (0, .ref 170), (1, vi y1)]) (st2 := [.ref 170]) 1 (fun _ _ => rfl) ?_
    refine pr_gE (k2 := 170) (v := vi (t 170 52)) hE rfl rfl rfl (by decide) rfl rfl rfl fun h6 => ?_
    have h6 : i32 (t 170 52) := h6
    refine pr_n (pc2 := 156) (lv2 := [(2, vi y2), (3, vi y3), (0, .ref 170), (1, vi y1)]) (st2 := [vi 2, vi (t 170 52)]) 1 (fun _ _ => rfl) ?_
    by_cases h7 : t 170 52 ≠ 2
    · refine mq_t h7 ?_
      refine pr_if2t rfl rfl h6 (i32_n rfl) h7 ?_
      refine pr_inc (a := y3) rfl rfl ?_
      have h8 : i32 (y3 + 1) := by unfold i32 at *; omega
      show pr N2 K d tb_M162 170 [(3, vi (y3 + 1)), (2, vi y2), (0, .ref 170), (1, vi y1)] [] s _
      refine pr_n (pc2 := 75) (lv2 := [(3, vi (y3 + 1)), (2, vi y2), (0, .ref 170), (1, vi y1)]) (st2 := []) 1 (fun _ _ => rfl) ?_
      exact ((ih N2 hN2).2.1) s t (y3 + 1) y2 y1 hE h8 hy2 hy1
    · refine mq_f h7 ?_
      refine pr_if2f rfl rfl h6 (i32_n rfl) h7 ?_
      refine pr_n (pc2 := 161) (lv2 := [(2, vi y2), (3, vi y3), (0, .ref 170), (1, vi y1)]) (st2 := [vi y3, .ref 170]) 2 (fun _ _ => rfl) ?_
      refine pr_m1 (args := [vi y3]) (rest := []) rfl rfl rfl rfl (Nat.le_of_ble_eq_true rfl) rfl (h_165 s t y3 hE hy3) ?_
      rintro _ _ t9 s9 ⟨rfl, rfl⟩ hE9
      show pr N2 K d tb_M162 164 [(2, vi y2), (3, vi y3), (0, .ref 170), (1, vi y1)] [] s9 _
      refine pr_n (pc2 := 141) (lv2 := [(2, vi y2), (3, vi y3), (0, .ref 170), (1, vi y1)]) (st2 := []) 1 (fun _ _ => rfl) ?_
      exact ((ih N2 hN2).2.2.2) s9 t9 y2 y3 y1 hE9 hy2 hy3 hy1
theorem ea162 {K d C : Nat} (h_120 : eT120 K d C) (h_163 : eT163 K d C) (h_165 : eT165 K d C) : ∀ N, eA162 N K d C := by
  intro N
  induction N using Nat.strongRecOn with | ind N ih => ?_
  exact ⟨eu162_0 h_120 h_163 h_165 ih, eu162_1 h_120 h_163 h_165 ih, eu162_2 h_120 h_163 h_165 ih, eu162_3 h_120 h_163 h_165 ih⟩
set_option maxHeartbeats 20000000 in
set_option maxRecDepth 100000 in
theorem em162 {K d C : Nat} (h_120 : eT120 K d C) (h_163 : eT163 K d C) (h_165 : eT165 K d C) : eT162 K (d + 1) C := by
  intro s t x1 hE hx1
  have hC : C = 177 ∨ C = 186 := hE.1
  refine pcr_of (M := tb_M162) rfl ?_
  show pr K K d tb_M162 0 [(0, .ref 170), (1, vi x1)] [] s _
  rw [eG_162]
  unfold eM162
  refine pr_n (pc2 := 1) (lv2 := [(0, .ref 170), (1, vi x1)]) (st2 := [.ref 170]) 1 (fun _ _ => rfl) ?_
  refine pr_gE (k2 := 170) (v := vi (t 170 20)) hE rfl rfl rfl (by decide) rfl rfl rfl fun h1 => ?_
  have h1 : 0 ≤ t 170 20 ∧ t 170 20 ≤ 1 := h1
  by_cases h2 : t 170 20 ≠ 0
  · refine mq_t h2 ?_
    refine pr_if1t rfl rfl (i32_z h1) h2 ?_
    refine pr_n (pc2 := 11) (lv2 := [(0, .ref 170), (1, vi x1)]) (st2 := [vi x1]) 1 (fun _ _ => rfl) ?_
    refine pr_i2l (a := x1) rfl hx1 ?_
    have h3 : i64 (x1) := i64_32 hx1
    refine pr_n (pc2 := 16) (lv2 := [(0, .ref 170), (1, vi x1)]) (st2 := [vl 20000, vl 1, vl x1]) 2 (fun _ _ => rfl) ?_
    refine pr_s0 (args := [vl x1, vl 1, vl 20000]) (rest := []) rfl rfl rfl (Nat.le_of_ble_eq_true rfl) rfl (h_120 s t x1 1 20000 hE h3 (i64_n rfl) (i64_n rfl)) e_inz ?_
    rintro _ s4 ⟨rfl, hz4⟩ hE4
    show pr K K d tb_M162 19 [(0, .ref 170), (1, vi x1)] [vi (inz x1 1 20000)] s4 _
    by_cases h5 : inz x1 1 20000 = 0
    · refine mq_t h5 ?_
      refine pr_if1t rfl rfl (i32_z hz4) h5 ?_
      refine pr_n (pc2 := 31) (lv2 := [(0, .ref 170), (1, vi x1)]) (st2 := [vi ((-1))]) 1 (fun _ _ => rfl) ?_
      refine pr_end (fun _ _ => rfl) ?_
      exact .inl ⟨_, (-1), _, rfl, ⟨rfl, (i32_n rfl)⟩, rfl, hE4⟩
    · refine mq_f h5 ?_
      refine pr_if1f rfl rfl (i32_z hz4) h5 ?_
      refine pr_n (pc2 := 23) (lv2 := [(0, .ref 170), (1, vi x1)]) (st2 := [.ref 170]) 1 (fun _ _ => rfl) ?_
      refine pr_gE (k2 := 170) (v := vi (t 170 52)) hE4 rfl rfl rfl (by decide) rfl rfl rfl fun h6 => ?_
      have h6 : i32 (t 170 52) := h6
      refine pr_n (pc2 := 27) (lv2 := [(0, .ref 170), (1, vi x1)]) (st2 := [vi 3, vi (t 170 52)]) 1 (fun _ _ => rfl) ?_
      by_cases h7 : t 170 52 ≠ 3
      · refine mq_t h7 ?_
        refine pr_if2t rfl rfl h6 (i32_n rfl) h7 ?_
        refine pr_n (pc2 := 34) (lv2 := [(0, .ref 170), (1, vi x1)]) (st2 := [vi 0, .ref 170]) 2 (fun _ _ => rfl) ?_
        refine pr_pE (k2 := 170) (z := 0) hE4 rfl rfl rfl rfl (by decide) rfl (by decide) rfl (show i32 (0) from (i32_n rfl)) (hf_int' _) rfl rfl rfl (fun e => absurd e.2 (by decide)) (fun _ => trivial) fun s8 hE8 => ?_
        refine pr_n (pc2 := 38) (lv2 := [(0, .ref 170), (1, vi x1)]) (st2 := [.ref 170]) 1 (fun _ _ => rfl) ?_
        refine pr_gE (k2 := 170) (v := vi (t 170 52)) hE8 rfl rfl rfl (by decide) rfl rfl rfl fun h9 => ?_
        have h9 : i32 (t 170 52) := h9
        refine pr_n (pc2 := 42) (lv2 := [(0, .ref 170), (1, vi x1)]) (st2 := [vi 1, vi (t 170 52)]) 1 (fun _ _ => rfl) ?_
        by_cases h10 : t 170 52 ≠ 1
        · refine mq_t h10 ?_
          refine pr_if2t rfl rfl h9 (i32_n rfl) h10 ?_
          refine pr_n (pc2 := 49) (lv2 := [(0, .ref 170), (1, vi x1)]) (st2 := [vi x1, .ref 170]) 2 (fun _ _ => rfl) ?_
          refine pr_pE (k2 := 170) (z := x1) hE8 rfl rfl rfl rfl (by decide) rfl (by decide) rfl (show i32 (x1) from hx1) (hf_int' _) rfl rfl rfl (fun e => absurd e.2 (by decide)) (fun _ => trivial) fun s11 hE11 => ?_
          refine pr_n (pc2 := 54) (lv2 := [(0, .ref 170), (1, vi x1)]) (st2 := [vi 2, .ref 170]) 2 (fun _ _ => rfl) ?_
          refine pr_pE (k2 := 170) (z := 2) hE11 rfl rfl rfl rfl (by decide) rfl (by decide) rfl (show i32 (2) from (i32_n rfl)) (hf_int' _) rfl rfl rfl (fun e => absurd e.2 (by decide)) (fun _ => trivial) fun s12 hE12 => ?_
          refine pr_n (pc2 := 59) (lv2 := [(2, vi 1), (0, .ref 170), (1, vi x1)]) (st2 := []) 2 (fun _ _ => rfl) ?_
          exact ((ea162 h_120 h_163 h_165 K).1) s12 (up2 (up2 (up2 t 170 53 0) 170 54 x1) 170 52 2) 1 x1 hE12 (i32_n rfl) hx1
        · refine mq_f h10 ?_
          refine pr_if2f rfl rfl h9 (i32_n rfl) h10 ?_
          refine pr_n (pc2 := 46) (lv2 := [(0, .ref 170), (1, vi x1)]) (st2 := [vi 1]) 1 (fun _ _ => rfl) ?_
          refine pr_end (fun _ _ => rfl) ?_
          exact .inl ⟨_, 1, _, rfl, ⟨rfl, (i32_n rfl)⟩, rfl, hE8⟩
      · refine mq_f h7 ?_
        refine pr_if2f rfl rfl h6 (i32_n rfl) h7 ?_
        refine pr_n (pc2 := 31) (lv2 := [(0, .ref 170), (1, vi x1)]) (st2 := [vi ((-1))]) 1 (fun _ _ => rfl) ?_
        refine pr_end (fun _ _ => rfl) ?_
        exact .inl ⟨_, (-1), _, rfl, ⟨rfl, (i32_n rfl)⟩, rfl, hE4⟩
  · refine mq_f h2 ?_
    refine pr_if1f rfl rfl (i32_z h1) h2 ?_
    refine pr_n (pc2 := 9) (lv2 := [(0, .ref 170), (1, vi x1)]) (st2 := [vi ((-2))]) 1 (fun _ _ => rfl) ?_
    refine pr_end (fun _ _ => rfl) ?_
    exact .inl ⟨_, (-2), _, rfl, ⟨rfl, (i32_n rfl)⟩, rfl, hE⟩
set_option maxHeartbeats 20000000 in
set_option maxRecDepth 100000 in
theorem em173 {K d C : Nat} (h_120 : eT120 K d C) : eT173 K (d + 1) C := by
  intro s t x1 x2 hE hx1 hx2
  have hC : C = 177 ∨ C = 186 := hE.1
  refine pcr_of (M := tb_M173) rfl ?_
  show pr K K d tb_M173 0 [(0, .ref 170), (1, vi x1), (2, vi x2)] [] s _
  rw [eG_173]
  unfold eM173
  refine pr_n (pc2 := 1) (lv2 := [(0, .ref 170), (1, vi x1), (2, vi x2)]) (st2 := [.ref 170]) 1 (fun _ _ => rfl) ?_
  refine pr_gE (k2 := 170) (v := vi (t 170 20)) hE rfl rfl rfl (by decide) rfl rfl rfl fun h1 => ?_
  have h1 : 0 ≤ t 170 20 ∧ t 170 20 ≤ 1 := h1
  by_cases h2 : t 170 20 = 0
  · refine mq_t h2 ?_
    refine pr_if1t rfl rfl (i32_z h1) h2 ?_
    refine pr_n (pc2 := 36) (lv2 := [(0, .ref 170), (1, vi x1), (2, vi x2)]) (st2 := [vi ((-2))]) 1 (fun _ _ => rfl) ?_
    refine pr_end (fun _ _ => rfl) ?_
    exact .inl ⟨_, (-2), _, rfl, ⟨rfl, (i32_n rfl)⟩, rfl, hE⟩
  · refine mq_f h2 ?_
    refine pr_if1f rfl rfl (i32_z h1) h2 ?_
    refine pr_n (pc2 := 8) (lv2 := [(0, .ref 170), (1, vi x1), (2, vi x2)]) (st2 := [.ref 170]) 1 (fun _ _ => rfl) ?_
    refine pr_gE (k2 := 170) (v := vi (t 170 52)) hE rfl rfl rfl (by decide) rfl rfl rfl fun h3 => ?_
    have h3 : i32 (t 170 52) := h3
    refine pr_n (pc2 := 12) (lv2 := [(0, .ref 170), (1, vi x1), (2, vi x2)]) (st2 := [vi 3, vi (t 170 52)]) 1 (fun _ _ => rfl) ?_
    by_cases h4 : t 170 52 = 3
    · refine mq_t h4 ?_
      refine pr_if2t rfl rfl h3 (i32_n rfl) h4 ?_
      refine pr_n (pc2 := 36) (lv2 := [(0, .ref 170), (1, vi x1), (2, vi x2)]) (st2 := [vi ((-2))]) 1 (fun _ _ => rfl) ?_
      refine pr_end (fun _ _ => rfl) ?_
      exact .inl ⟨_, (-2), _, rfl, ⟨rfl, (i32_n rfl)⟩, rfl, hE⟩
    · refine mq_f h4 ?_
      refine pr_if2f rfl rfl h3 (i32_n rfl) h4 ?_
      refine pr_n (pc2 := 16) (lv2 := [(0, .ref 170), (1, vi x1), (2, vi x2)]) (st2 := [vi x1]) 1 (fun _ _ => rfl) ?_
      refine pr_i2l (a := x1) rfl hx1 ?_
      have h5 : i64 (x1) := i64_32 hx1
      refine pr_n (pc2 := 19) (lv2 := [(0, .ref 170), (1, vi x1), (2, vi x2)]) (st2 := [.ref 170, vl 0, vl x1]) 2 (fun _ _ => rfl) ?_
      refine pr_get (v := .ref C) rfl rfl rfl (by decide) (rv_ref (show s.1 170 17 = ((C : Nat) : Int) from hE.2.2.1)) fun _ => ?_
      refine pr_gE (k2 := 177) (v := vi (t 177 7)) hE rfl rfl (TG_C hC) (by decide) rfl rfl rfl fun h6 => ?_
      have h6 : i32 (t 177 7) := h6
      refine pr_n (pc2 := 26) (lv2 := [(0, .ref 170), (1, vi x1), (2, vi x2)]) (st2 := [vi 1, vi (t 177 7), vl 0, vl x1]) 1 (fun _ _ => rfl) ?_
      refine pr_i2 (a := t 177 7) (b := 1) rfl rfl ?_
      show pr K K d tb_M173 27 [(0, .ref 170), (1, vi x1), (2, vi x2)] [vi (imi (t 177 7) 1), vl 0, vl x1] s _
      have h7 : i32 (imi (t 177 7) 1) := i32_in _
      refine pr_i2l (a := imi (t 177 7) 1) rfl h7 ?_
      have h8 : i64 (imi (t 177 7) 1) := i64_32 h7
      refine pr_s0 (args := [vl x1, vl 0, vl (imi (t 177 7) 1)]) (rest := []) rfl rfl rfl (Nat.le_of_ble_eq_true rfl) rfl (h_120 s t x1 0 (imi (t 177 7) 1) hE h5 (i64_n rfl) h8) e_inz ?_
      rintro _ s9 ⟨rfl, hz9⟩ hE9
      show pr K K d tb_M173 31 [(0, .ref 170), (1, vi x1), (2, vi x2)] [vi (inz x1 0 (imi (t 177 7) 1))] s9 _
      by_cases h10 : inz x1 0 (imi (t 177 7) 1) ≠ 0
      · refine mq_t h10 ?_
        refine pr_if1t rfl rfl (i32_z hz9) h10 ?_
        refine pr_n (pc2 := 38) (lv2 := [(0, .ref 170), (1, vi x1), (2, vi x2)]) (st2 := [.ref 170]) 1 (fun _ _ => rfl) ?_
        refine pr_get (v := .ref 1630) rfl rfl rfl (by decide) (rv_ref (hE9.2.1 170 51 1630 rfl)) fun _ => ?_
        refine pr_n (pc2 := 42) (lv2 := [(0, .ref 170), (1, vi x1), (2, vi x2)]) (st2 := [vi x1, .ref 1630]) 1 (fun _ _ => rfl) ?_
        refine pr_aE (k2 := 1630) (a := x1) (v := vi (t 1630 x1.toNat)) hE9 rfl rfl rfl hx1 (by decide) rfl rfl rfl fun h12 h13 h11 => ?_
        have h11 : i32 (t 1630 x1.toNat) := h11
        refine pr_n (pc2 := 45) (lv2 := [(0, .ref 170), (1, vi x1), (2, vi x2)]) (st2 := [vi 40, vi (t 1630 x1.toNat)]) 1 (fun _ _ => rfl) ?_
        by_cases h14 : t 1630 x1.toNat ≠ 40
        · refine mq_t h14 ?_
          refine pr_if2t rfl rfl h11 (i32_n rfl) h14 ?_
          refine pr_n (pc2 := 52) (lv2 := [(0, .ref 170), (1, vi x1), (2, vi x2)]) (st2 := [.ref 170]) 1 (fun _ _ => rfl) ?_
          refine pr_get (v := .ref 1621) rfl rfl rfl (by decide) (rv_ref (hE9.2.1 170 50 1621 rfl)) fun _ => ?_
          refine pr_n (pc2 := 56) (lv2 := [(0, .ref 170), (1, vi x1), (2, vi x2)]) (st2 := [vi x1, .ref 1621]) 1 (fun _ _ => rfl) ?_
          refine pr_row (a := x1) (v := 1622 + x1.toNat) rfl rfl rfl rfl hx1 (by decide) (fun h1 h2 => hE9.2.1 _ _ _ (rc_in (by omega))) fun h15 h16 => ?_
          show pr K K d tb_M173 57 [(0, .ref 170), (1, vi x1), (2, vi x2)] [.ref (1622 + x1.toNat)] s9 _
          refine pr_n (pc2 := 58) (lv2 := [(0, .ref 170), (1, vi x1), (2, vi x2)]) (st2 := [.ref 170, .ref (1622 + x1.toNat)]) 1 (fun _ _ => rfl) ?_
          refine pr_get (v := .ref 1630) rfl rfl rfl (by decide) (rv_ref (hE9.2.1 170 51 1630 rfl)) fun _ => ?_
          refine pr_n (pc2 := 62) (lv2 := [(0, .ref 170), (1, vi x1), (2, vi x2)]) (st2 := [vi x1, .ref 1630, .ref (1622 + x1.toNat)]) 1 (fun _ _ => rfl) ?_
          refine pr_aE (k2 := 1630) (a := x1) (v := vi (t 1630 x1.toNat)) hE9 rfl rfl rfl hx1 (by decide) rfl rfl rfl fun h18 h19 h17 => ?_
          have h17 : i32 (t 1630 x1.toNat) := h17
          refine pr_n (pc2 := 64) (lv2 := [(0, .ref 170), (1, vi x1), (2, vi x2)]) (st2 := [vi x2, vi (t 1630 x1.toNat), .ref (1622 + x1.toNat)]) 1 (fun _ _ => rfl) ?_
          refine pr_i2s (a := x2) rfl ?_
          show pr K K d tb_M173 65 [(0, .ref 170), (1, vi x1), (2, vi x2)] [vi (i2s x2), vi (t 1630 x1.toNat), .ref (1622 + x1.toNat)] s9 _
          refine pr_sE (k2 := (1622 + x1.toNat)) (a := t 1630 x1.toNat) (z := i2s x2) hE9 rfl (show 96 ≤ 1622 + x1.toNat by omega) (TG_in (by omega)) rfl h17 (by decide) rfl (show i32 (i2s x2) from i2s_i32) (rc_hi (by omega) (by omega) (by omega)) (pe_hi (by omega)) (re_in (by omega)) (fun e => absurd e.1 (show ¬ (1622 + x1.toNat = 170) by omega)) (fun _ => trivial) fun h20 h21 s22 hE22 => ?_
          refine pr_n (pc2 := 67) (lv2 := [(0, .ref 170), (1, vi x1), (2, vi x2)]) (st2 := [.ref 170]) 1 (fun _ _ => rfl) ?_
          refine pr_get (v := .ref 1630) rfl rfl rfl (by decide) (rv_ref (hE22.2.1 170 51 1630 rfl)) fun _ => ?_
          refine pr_n (pc2 := 72) (lv2 := [(0, .ref 170), (1, vi x1), (2, vi x2)]) (st2 := [vi x1, .ref 1630, vi x1, .ref 1630]) 2 (fun _ _ => rfl) ?_
          refine pr_aE (k2 := 1630) (a := x1) (v := vi ((up2 t (1622 + x1.toNat) ((t 1630 x1.toNat).toNat) (i2s x2)) 1630 x1.toNat)) hE22 rfl rfl rfl hx1 (by decide) rfl rfl (by first | rfl | (rw [up_jn (by decide)]; rfl) | (rw [up_jn (by decide), up_jn (by decide)]; rfl)) fun h24 h25 h23 => ?_
          have h23 : i32 ((up2 t (1622 + x1.toNat) ((t 1630 x1.toNat).toNat) (i2s x2)) 1630 x1.toNat) := h23
          refine pr_n (pc2 := 74) (lv2 := [(0, .ref 170), (1, vi x1), (2, vi x2)]) (st2 := [vi 1, vi ((up2 t (1622 + x1.toNat) ((t 1630 x1.toNat).toNat) (i2s x2)) 1630 x1.toNat), vi x1, .ref 1630]) 1 (fun _ _ => rfl) ?_
          refine pr_i2 (a := (up2 t (1622 + x1.toNat) ((t 1630 x1.toNat).toNat) (i2s x2)) 1630 x1.toNat) (b := 1) rfl rfl ?_
          show pr K K d tb_M173 75 [(0, .ref 170), (1, vi x1), (2, vi x2)] [vi (ipl ((up2 t (1622 + x1.toNat) ((t 1630 x1.toNat).toNat) (i2s x2)) 1630 x1.toNat) 1), vi x1, .ref 1630] s22 _
          have h26 : i32 (ipl ((up2 t (1622 + x1.toNat) ((t 1630 x1.toNat).toNat) (i2s x2)) 1630 x1.toNat) 1) := i32_in _
          refine pr_sE (k2 := 1630) (a := x1) (z := ipl ((up2 t (1622 + x1.toNat) ((t 1630 x1.toNat).toNat) (i2s x2)) 1630 x1.toNat) 1) hE22 rfl (by decide) rfl rfl hx1 (by decide) rfl (show i32 (ipl ((up2 t (1622 + x1.toNat) ((t 1630 x1.toNat).toNat) (i2s x2)) 1630 x1.toNat) 1) from h26) (rc_hi (by omega) (by omega) (by omega)) rfl rfl (fun e => absurd e.1 (by decide)) (fun _ => trivial) fun h27 h28 s29 hE29 => ?_
          refine pr_n (pc2 := 77) (lv2 := [(0, .ref 170), (1, vi x1), (2, vi x2)]) (st2 := [.ref 170]) 1 (fun _ _ => rfl) ?_
          refine pr_get (v := .ref 1630) rfl rfl rfl (by decide) (rv_ref (hE29.2.1 170 51 1630 rfl)) fun _ => ?_
          refine pr_n (pc2 := 81) (lv2 := [(0, .ref 170), (1, vi x1), (2, vi x2)]) (st2 := [vi x1, .ref 1630]) 1 (fun _ _ => rfl) ?_
          refine pr_aE (k2 := 1630) (a := x1) (v := vi (ipl ((up2 t (1622 + x1.toNat) ((t 1630 x1.toNat).toNat) (i2s x2)) 1630 x1.toNat) 1)) hE29 rfl rfl rfl hx1 (by decide) rfl rfl (by rw [up_self]; rfl) fun h31 h32 h30 => ?_
          rw [up_self] at h30
          have h30 : i32 (ipl ((up2 t (1622 + x1.toNat) ((t 1630 x1.toNat).toNat) (i2s x2)) 1630 x1.toNat) 1) := h30
          refine pr_reti rfl rfl ?_
          exact .inl ⟨_, ipl ((up2 t (1622 + x1.toNat) ((t 1630 x1.toNat).toNat) (i2s x2)) 1630 x1.toNat) 1, _, rfl, ⟨rfl, h30⟩, rfl, hE29⟩
        · refine mq_f h14 ?_
          refine pr_if2f rfl rfl h11 (i32_n rfl) h14 ?_
          refine pr_n (pc2 := 50) (lv2 := [(0, .ref 170), (1, vi x1), (2, vi x2)]) (st2 := [vi ((-3))]) 1 (fun _ _ => rfl) ?_
          refine pr_end (fun _ _ => rfl) ?_
          exact .inl ⟨_, (-3), _, rfl, ⟨rfl, (i32_n rfl)⟩, rfl, hE9⟩
      · refine mq_f h10 ?_
        refine pr_if1f rfl rfl (i32_z hz9) h10 ?_
        refine pr_n (pc2 := 36) (lv2 := [(0, .ref 170), (1, vi x1), (2, vi x2)]) (st2 := [vi ((-2))]) 1 (fun _ _ => rfl) ?_
        refine pr_end (fun _ _ => rfl) ?_
        exact .inl ⟨_, (-2), _, rfl, ⟨rfl, (i32_n rfl)⟩, rfl, hE9⟩
set_option maxHeartbeats 20000000 in
set_option maxRecDepth 100000 in
theorem em174 {K d C : Nat} (h_120 : eT120 K d C) (h_172 : eT172 K d C) : eT174 K (d + 1) C := by
  intro s t x1 hE hx1
  have hC : C = 177 ∨ C = 186 := hE.1
  refine pcr_of (M := tb_M174) rfl ?_
  show pr K K d tb_M174 0 [(0, .ref 170), (1, vi x1)] [] s _
  rw [eG_174]
  unfold eM174
  refine pr_n (pc2 := 1) (lv2 := [(0, .ref 170), (1, vi x1)]) (st2 := [.ref 170]) 1 (fun _ _ => rfl) ?_
  refine pr_gE (k2 := 170) (v := vi (t 170 20)) hE rfl rfl rfl (by decide) rfl rfl rfl fun h1 => ?_
  have h1 : 0 ≤ t 170 20 ∧ t 170 20 ≤ 1 := h1
  by_cases h2 : t 170 20 = 0
  · refine mq_t h2 ?_
    refine pr_if1t rfl rfl (i32_z h1) h2 ?_
    refine pr_n (pc2 := 48) (lv2 := [(0, .ref 170), (1, vi x1)]) (st2 := [vl 1099511627776]) 1 (fun _ _ => rfl) ?_
    refine pr_end (fun _ _ => rfl) ?_
    exact .inl ⟨_, 1099511627776, _, rfl, ⟨rfl, (i64_n rfl)⟩, rfl, hE⟩
  · refine mq_f h2 ?_
    refine pr_if1f rfl rfl (i32_z h1) h2 ?_
    refine pr_n (pc2 := 8) (lv2 := [(0, .ref 170), (1, vi x1)]) (st2 := [.ref 170]) 1 (fun _ _ => rfl) ?_
    refine pr_gE (k2 := 170) (v := vi (t 170 52)) hE rfl rfl rfl (by decide) rfl rfl rfl fun h3 => ?_
    have h3 : i32 (t 170 52) := h3
    refine pr_n (pc2 := 12) (lv2 := [(0, .ref 170), (1, vi x1)]) (st2 := [vi 3, vi (t 170 52)]) 1 (fun _ _ => rfl) ?_
    by_cases h4 : t 170 52 = 3
    · refine mq_t h4 ?_
      refine pr_if2t rfl rfl h3 (i32_n rfl) h4 ?_
      refine pr_n (pc2 := 48) (lv2 := [(0, .ref 170), (1, vi x1)]) (st2 := [vl 1099511627776]) 1 (fun _ _ => rfl) ?_
      refine pr_end (fun _ _ => rfl) ?_
      exact .inl ⟨_, 1099511627776, _, rfl, ⟨rfl, (i64_n rfl)⟩, rfl, hE⟩
    · refine mq_f h4 ?_
      refine pr_if2f rfl rfl h3 (i32_n rfl) h4 ?_
      refine pr_n (pc2 := 16) (lv2 := [(0, .ref 170), (1, vi x1)]) (st2 := [vi x1]) 1 (fun _ _ => rfl) ?_
      refine pr_i2l (a := x1) rfl hx1 ?_
      have h5 : i64 (x1) := i64_32 hx1
      refine pr_n (pc2 := 19) (lv2 := [(0, .ref 170), (1, vi x1)]) (st2 := [.ref 170, vl 0, vl x1]) 2 (fun _ _ => rfl) ?_
      refine pr_get (v := .ref C) rfl rfl rfl (by decide) (rv_ref (show s.1 170 17 = ((C : Nat) : Int) from hE.2.2.1)) fun _ => ?_
      refine pr_gE (k2 := 177) (v := vi (t 177 8)) hE rfl rfl (TG_C hC) (by decide) rfl rfl rfl fun h6 => ?_
      have h6 : i32 (t 177 8) := h6
      refine pr_n (pc2 := 26) (lv2 := [(0, .ref 170), (1, vi x1)]) (st2 := [vi 1, vi (t 177 8), vl 0, vl x1]) 1 (fun _ _ => rfl) ?_
      refine pr_i2 (a := t 177 8) (b := 1) rfl rfl ?_
      show pr K K d tb_M174 27 [(0, .ref 170), (1, vi x1)] [vi (imi (t 177 8) 1), vl 0, vl x1] s _
      have h7 : i32 (imi (t 177 8) 1) := i32_in _
      refine pr_i2l (a := imi (t 177 8) 1) rfl h7 ?_
      have h8 : i64 (imi (t 177 8) 1) := i64_32 h7
      refine pr_s0 (args := [vl x1, vl 0, vl (imi (t 177 8) 1)]) (rest := []) rfl rfl rfl (Nat.le_of_ble_eq_true rfl) rfl (h_120 s t x1 0 (imi (t 177 8) 1) hE h5 (i64_n rfl) h8) e_inz ?_
      rintro _ s9 ⟨rfl, hz9⟩ hE9
      show pr K K d tb_M174 31 [(0, .ref 170), (1, vi x1)] [vi (inz x1 0 (imi (t 177 8) 1))] s9 _
      by_cases h10 : inz x1 0 (imi (t 177 8) 1) = 0
      · refine mq_t h10 ?_
        refine pr_if1t rfl rfl (i32_z hz9) h10 ?_
        refine pr_n (pc2 := 48) (lv2 := [(0, .ref 170), (1, vi x1)]) (st2 := [vl 1099511627776]) 1 (fun _ _ => rfl) ?_
        refine pr_end (fun _ _ => rfl) ?_
        exact .inl ⟨_, 1099511627776, _, rfl, ⟨rfl, (i64_n rfl)⟩, rfl, hE9⟩
      · refine mq_f h10 ?_
        refine pr_if1f rfl rfl (i32_z hz9) h10 ?_
        refine pr_n (pc2 := 35) (lv2 := [(0, .ref 170), (1, vi x1)]) (st2 := [.ref 170]) 1 (fun _ _ => rfl) ?_
        refine pr_get (v := .ref 1630) rfl rfl rfl (by decide) (rv_ref (hE9.2.1 170 51 1630 rfl)) fun _ => ?_
        refine pr_n (pc2 := 40) (lv2 := [(0, .ref 170), (1, vi x1)]) (st2 := [vi x1, vi 4, .ref 1630]) 2 (fun _ _ => rfl) ?_
        refine pr_i2 (a := 4) (b := x1) rfl rfl ?_
        show pr K K d tb_M174 41 [(0, .ref 170), (1, vi x1)] [vi (ipl 4 x1), .ref 1630] s9 _
        have h11 : i32 (ipl 4 x1) := i32_in _
        refine pr_aE (k2 := 1630) (a := ipl 4 x1) (v := vi (t 1630 ((ipl 4 x1).toNat))) hE9 rfl rfl rfl h11 (by decide) rfl rfl rfl fun h13 h14 h12 => ?_
        have h12 : i32 (t 1630 ((ipl 4 x1).toNat)) := h12
        by_cases h15 : t 1630 ((ipl 4 x1).toNat) ≠ 0
        · refine mq_t h15 ?_
          refine pr_if1t rfl rfl h12 h15 ?_
          refine pr_n (pc2 := 52) (lv2 := [(0, .ref 170), (1, vi x1)]) (st2 := [vi x1, vi 4, .ref 170]) 3 (fun _ _ => rfl) ?_
          refine pr_i2 (a := 4) (b := x1) rfl rfl ?_
          show pr K K d tb_M174 53 [(0, .ref 170), (1, vi x1)] [vi (ipl 4 x1), .ref 170] s9 _
          refine pr_m1 (args := [vi (ipl 4 x1)]) (rest := []) rfl rfl rfl rfl (Nat.le_of_ble_eq_true rfl) rfl (h_172 s9 t (ipl 4 x1) hE9 h11) ?_
          rintro _ z17 t17 s17 ⟨rfl, hz17⟩ hE17
          show pr K K d tb_M174 56 [(0, .ref 170), (1, vi x1)] [vi z17] s17 _
          refine pr_i2l (a := z17) rfl hz17 ?_
          have h18 : i64 (z17) := i64_32 hz17
          refine pr_end (fun _ _ => rfl) ?_
          exact .inl ⟨_, z17, _, rfl, ⟨rfl, h18⟩, rfl, hE17⟩
        · refine mq_f h15 ?_
          refine pr_if1f rfl rfl h12 h15 ?_
          refine pr_n (pc2 := 48) (lv2 := [(0, .ref 170), (1, vi x1)]) (st2 := [vl 1099511627776]) 1 (fun _ _ => rfl) ?_
          refine pr_end (fun _ _ => rfl) ?_
          exact .inl ⟨_, 1099511627776, _, rfl, ⟨rfl, (i64_n rfl)⟩, rfl, hE9⟩
set_option maxHeartbeats 20000000 in
set_option maxRecDepth 100000 in
theorem em176 {K d C : Nat} (h_120 : eT120 K d C) : eT176 K (d + 1) C := by
  intro s t x1 hE hx1
  have hC : C = 177 ∨ C = 186 := hE.1
  refine pcr_of (M := tb_M176) rfl ?_
  show pr K K d tb_M176 0 [(0, .ref 170), (1, vi x1)] [] s _
  rw [eG_176]
  unfold eM176
  refine pr_n (pc2 := 1) (lv2 := [(0, .ref 170), (1, vi x1)]) (st2 := [vi x1]) 1 (fun _ _ => rfl) ?_
  refine pr_i2l (a := x1) rfl hx1 ?_
  have h1 : i64 (x1) := i64_32 hx1
  refine pr_n (pc2 := 6) (lv2 := [(0, .ref 170), (1, vi x1)]) (st2 := [vl 12, vl 0, vl x1]) 2 (fun _ _ => rfl) ?_
  refine pr_s0 (args := [vl x1, vl 0, vl 12]) (rest := []) rfl rfl rfl (Nat.le_of_ble_eq_true rfl) rfl (h_120 s t x1 0 12 hE h1 (i64_n rfl) (i64_n rfl)) e_inz ?_
  rintro _ s2 ⟨rfl, hz2⟩ hE2
  show pr K K d tb_M176 9 [(0, .ref 170), (1, vi x1)] [vi (inz x1 0 12)] s2 _
  by_cases h3 : inz x1 0 12 ≠ 0
  · refine mq_t h3 ?_
    refine pr_if1t rfl rfl (i32_z hz2) h3 ?_
    refine pr_n (pc2 := 15) (lv2 := [(0, .ref 170), (1, vi x1)]) (st2 := [.ref 170]) 1 (fun _ _ => rfl) ?_
    refine pr_gE (k2 := 170) (v := vi (t 170 20)) hE2 rfl rfl rfl (by decide) rfl rfl rfl fun h4 => ?_
    have h4 : 0 ≤ t 170 20 ∧ t 170 20 ≤ 1 := h4
    by_cases h5 : t 170 20 ≠ 0
    · refine mq_t h5 ?_
      refine pr_if1t rfl rfl (i32_z h4) h5 ?_
      refine pr_n (pc2 := 24) (lv2 := [(0, .ref 170), (1, vi x1)]) (st2 := [vi x1]) 1 (fun _ _ => rfl) ?_
      by_cases h6 : x1 = 0
      · refine mq_t h6 ?_
        refine pr_tsw rfl hx1 (by rw [h6]; rfl) rfl ?_
        refine pr_n (pc2 := 77) (lv2 := [(0, .ref 170), (1, vi x1)]) (st2 := [.ref 170]) 1 (fun _ _ => rfl) ?_
        refine pr_get (v := .ref C) rfl rfl rfl (by decide) (rv_ref (show s2.1 170 17 = ((C : Nat) : Int) from hE2.2.2.1)) fun _ => ?_
        refine pr_gE (k2 := 177) (v := vi (t 177 3)) hE2 rfl rfl (TG_C hC) (by decide) rfl rfl rfl fun h7 => ?_
        have h7 : i32 (t 177 3) := h7
        refine pr_reti rfl rfl ?_
        exact .inl ⟨_, t 177 3, _, rfl, ⟨rfl, h7⟩, rfl, hE2⟩
      · refine mq_f h6 ?_
        by_cases h8 : x1 = 1
        · refine mq_t h8 ?_
          refine pr_tsw rfl hx1 (by rw [h8]; rfl) rfl ?_
          refine pr_n (pc2 := 85) (lv2 := [(0, .ref 170), (1, vi x1)]) (st2 := [.ref 170]) 1 (fun _ _ => rfl) ?_
          refine pr_get (v := .ref C) rfl rfl rfl (by decide) (rv_ref (show s2.1 170 17 = ((C : Nat) : Int) from hE2.2.2.1)) fun _ => ?_
          refine pr_gE (k2 := 177) (v := vi (t 177 4)) hE2 rfl rfl (TG_C hC) (by decide) rfl rfl rfl fun h9 => ?_
          have h9 : i32 (t 177 4) := h9
          refine pr_reti rfl rfl ?_
          exact .inl ⟨_, t 177 4, _, rfl, ⟨rfl, h9⟩, rfl, hE2⟩
        · refine mq_f h8 ?_
          by_cases h10 : x1 = 2
          · refine mq_t h10 ?_
            refine pr_tsw rfl hx1 (by rw [h10]; rfl) rfl ?_
            refine pr_n (pc2 := 93) (lv2 := [(0, .ref 170), (1, vi x1)]) (st2 := [.ref 170]) 1 (fun _ _ => rfl) ?_
            refine pr_get (v := .ref C) rfl rfl rfl (by decide) (rv_ref (show s2.1 170 17 = ((C : Nat) : Int) from hE2.2.2.1)) fun _ => ?_
            refine pr_gE (k2 := 177) (v := vi (t 177 5)) hE2 rfl rfl (TG_C hC) (by decide) rfl rfl rfl fun h11 => ?_
            have h11 : i32 (t 177 5) := h11
            refine pr_reti rfl rfl ?_
            exact .inl ⟨_, t 177 5, _, rfl, ⟨rfl, h11⟩, rfl, hE2⟩
          · refine mq_f h10 ?_
            by_cases h12 : x1 = 3
            · refine mq_t h12 ?_
              refine pr_tsw rfl hx1 (by rw [h12]; rfl) rfl ?_
              refine pr_n (pc2 := 101) (lv2 := [(0, .ref 170), (1, vi x1)]) (st2 := [.ref 170]) 1 (fun _ _ => rfl) ?_
              refine pr_get (v := .ref C) rfl rfl rfl (by decide) (rv_ref (show s2.1 170 17 = ((C : Nat) : Int) from hE2.2.2.1)) fun _ => ?_
              refine pr_gE (k2 := 177) (v := vi (t 177 6)) hE2 rfl rfl (TG_C hC) (by decide) rfl rfl rfl fun h13 => ?_
              have h13 : i32 (t 177 6) := h13
              refine pr_reti rfl rfl ?_
              exact .inl ⟨_, t 177 6, _, rfl, ⟨rfl, h13⟩, rfl, hE2⟩
            · refine mq_f h12 ?_
              by_cases h14 : x1 = 4
              · refine mq_t h14 ?_
                refine pr_tsw rfl hx1 (by rw [h14]; rfl) rfl ?_
                refine pr_n (pc2 := 109) (lv2 := [(0, .ref 170), (1, vi x1)]) (st2 := [.ref 170]) 1 (fun _ _ => rfl) ?_
                refine pr_get (v := .ref C) rfl rfl rfl (by decide) (rv_ref (show s2.1 170 17 = ((C : Nat) : Int) from hE2.2.2.1)) fun _ => ?_
                refine pr_gE (k2 := 177) (v := vi (t 177 7)) hE2 rfl rfl (TG_C hC) (by decide) rfl rfl rfl fun h15 => ?_
                have h15 : i32 (t 177 7) := h15
                refine pr_reti rfl rfl ?_
                exact .inl ⟨_, t 177 7, _, rfl, ⟨rfl, h15⟩, rfl, hE2⟩
              · refine mq_f h14 ?_
                by_cases h16 : x1 = 5
                · refine mq_t h16 ?_
                  refine pr_tsw rfl hx1 (by rw [h16]; rfl) rfl ?_
                  refine pr_n (pc2 := 117) (lv2 := [(0, .ref 170), (1, vi x1)]) (st2 := [.ref 170]) 1 (fun _ _ => rfl) ?_
                  refine pr_get (v := .ref C) rfl rfl rfl (by decide) (rv_ref (show s2.1 170 17 = ((C : Nat) : Int) from hE2.2.2.1)) fun _ => ?_
                  refine pr_gE (k2 := 177) (v := vi (t 177 8)) hE2 rfl rfl (TG_C hC) (by decide) rfl rfl rfl fun h17 => ?_
                  have h17 : i32 (t 177 8) := h17
                  refine pr_reti rfl rfl ?_
                  exact .inl ⟨_, t 177 8, _, rfl, ⟨rfl, h17⟩, rfl, hE2⟩
                · refine mq_f h16 ?_
                  by_cases h18 : x1 = 6
                  · refine mq_t h18 ?_
                    refine pr_tsw rfl hx1 (by rw [h18]; rfl) rfl ?_
                    refine pr_n (pc2 := 125) (lv2 := [(0, .ref 170), (1, vi x1)]) (st2 := [.ref 170]) 1 (fun _ _ => rfl) ?_
                    refine pr_get (v := .ref C) rfl rfl rfl (by decide) (rv_ref (show s2.1 170 17 = ((C : Nat) : Int) from hE2.2.2.1)) fun _ => ?_
                    refine pr_gE (k2 := 177) (v := vi (t 177 9)) hE2 rfl rfl (TG_C hC) (by decide) rfl rfl rfl fun h19 => ?_
                    have h19 : i32 (t 177 9) := h19
                    refine pr_reti rfl rfl ?_
                    exact .inl ⟨_, t 177 9, _, rfl, ⟨rfl, h19⟩, rfl, hE2⟩
                  · refine mq_f h18 ?_
                    by_cases h20 : x1 = 7
                    · refine mq_t h20 ?_
                      refine pr_tsw rfl hx1 (by rw [h20]; rfl) rfl ?_
                      refine pr_n (pc2 := 133) (lv2 := [(0, .ref 170), (1, vi x1)]) (st2 := [.ref 170]) 1 (fun _ _ => rfl) ?_
                      refine pr_gE (k2 := 170) (v := vi (t 170 53)) hE2 rfl rfl rfl (by decide) rfl rfl rfl fun h21 => ?_
                      have h21 : i32 (t 170 53) := h21
                      refine pr_reti rfl rfl ?_
                      exact .inl ⟨_, t 170 53, _, rfl, ⟨rfl, h21⟩, rfl, hE2⟩
                    · refine mq_f h20 ?_
                      by_cases h22 : x1 = 8
                      · refine mq_t h22 ?_
                        refine pr_tsw rfl hx1 (by rw [h22]; rfl) rfl ?_
                        refine pr_n (pc2 := 138) (lv2 := [(0, .ref 170), (1, vi x1)]) (st2 := [.ref 170]) 1 (fun _ _ => rfl) ?_
                        refine pr_gE (k2 := 170) (v := vi (t 170 52)) hE2 rfl rfl rfl (by decide) rfl rfl rfl fun h23 => ?_
                        have h23 : i32 (t 170 52) := h23
                        refine pr_reti rfl rfl ?_
                        exact .inl ⟨_, t 170 52, _, rfl, ⟨rfl, h23⟩, rfl, hE2⟩
                      · refine mq_f h22 ?_
                        refine pr_tsw rfl hx1 (if_pos (by omega)) rfl ?_
                        refine pr_n (pc2 := 143) (lv2 := [(0, .ref 170), (1, vi x1)]) (st2 := [.ref 170]) 1 (fun _ _ => rfl) ?_
                        refine pr_gE (k2 := 170) (v := vi (t 170 52)) hE2 rfl rfl rfl (by decide) rfl rfl rfl fun h24 => ?_
                        have h24 : i32 (t 170 52) := h24
                        refine pr_n (pc2 := 147) (lv2 := [(0, .ref 170), (1, vi x1)]) (st2 := [vi 3, vi (t 170 52)]) 1 (fun _ _ => rfl) ?_
                        by_cases h25 : t 170 52 ≠ 3
                        · refine mq_t h25 ?_
                          refine pr_if2t rfl rfl h24 (i32_n rfl) h25 ?_
                          refine pr_n (pc2 := 155) (lv2 := [(0, .ref 170), (1, vi x1)]) (st2 := [.ref 170]) 1 (fun _ _ => rfl) ?_
                          refine pr_get (v := .ref 1630) rfl rfl rfl (by decide) (rv_ref (hE2.2.1 170 51 1630 rfl)) fun _ => ?_
                          refine pr_n (pc2 := 160) (lv2 := [(0, .ref 170), (1, vi x1)]) (st2 := [vi x1, vi 4, .ref 1630]) 2 (fun _ _ => rfl) ?_
                          refine pr_i2 (a := 4) (b := x1) rfl rfl ?_
                          show pr K K d tb_M176 161 [(0, .ref 170), (1, vi x1)] [vi (ipl 4 x1), .ref 1630] s2 _
                          have h26 : i32 (ipl 4 x1) := i32_in _
                          refine pr_n (pc2 := 163) (lv2 := [(0, .ref 170), (1, vi x1)]) (st2 := [vi 9, vi (ipl 4 x1), .ref 1630]) 1 (fun _ _ => rfl) ?_
                          refine pr_i2 (a := ipl 4 x1) (b := 9) rfl rfl ?_
                          show pr K K d tb_M176 164 [(0, .ref 170), (1, vi x1)] [vi (imi (ipl 4 x1) 9), .ref 1630] s2 _
                          have h27 : i32 (imi (ipl 4 x1) 9) := i32_in _
                          refine pr_aE (k2 := 1630) (a := imi (ipl 4 x1) 9) (v := vi (t 1630 ((imi (ipl 4 x1) 9).toNat))) hE2 rfl rfl rfl h27 (by decide) rfl rfl rfl fun h29 h30 h28 => ?_
                          have h28 : i32 (t 1630 ((imi (ipl 4 x1) 9).toNat)) := h28
                          refine pr_reti rfl rfl ?_
                          exact .inl ⟨_, t 1630 ((imi (ipl 4 x1) 9).toNat), _, rfl, ⟨rfl, h28⟩, rfl, hE2⟩
                        · refine mq_f h25 ?_
                          refine pr_if2f rfl rfl h24 (i32_n rfl) h25 ?_
                          refine pr_n (pc2 := 165) (lv2 := [(0, .ref 170), (1, vi x1)]) (st2 := [vi 0]) 2 (fun _ _ => rfl) ?_
                          refine pr_end (fun _ _ => rfl) ?_
                          exact .inl ⟨_, 0, _, rfl, ⟨rfl, (i32_n rfl)⟩, rfl, hE2⟩
    · refine mq_f h5 ?_
      refine pr_if1f rfl rfl (i32_z h4) h5 ?_
      refine pr_n (pc2 := 22) (lv2 := [(0, .ref 170), (1, vi x1)]) (st2 := [vi 0]) 1 (fun _ _ => rfl) ?_
      refine pr_end (fun _ _ => rfl) ?_
      exact .inl ⟨_, 0, _, rfl, ⟨rfl, (i32_n rfl)⟩, rfl, hE2⟩
  · refine mq_f h3 ?_
    refine pr_if1f rfl rfl (i32_z hz2) h3 ?_
    refine pr_n (pc2 := 13) (lv2 := [(0, .ref 170), (1, vi x1)]) (st2 := [vi ((-1))]) 1 (fun _ _ => rfl) ?_
    refine pr_end (fun _ _ => rfl) ?_
    exact .inl ⟨_, (-1), _, rfl, ⟨rfl, (i32_n rfl)⟩, rfl, hE2⟩
set_option maxHeartbeats 20000000 in
set_option maxRecDepth 100000 in
theorem em119 {K d C : Nat} (h_120 : eT120 K d C) : eT119 K (d + 1) C := by
  intro s t x1 hE hx1
  have hC : C = 177 ∨ C = 186 := hE.1
  refine pcr_of (M := tb_M119) rfl ?_
  show pr K K d tb_M119 0 [(0, .ref 170), (1, vi x1)] [] s _
  rw [eG_119]
  unfold eM119
  refine pr_n (pc2 := 1) (lv2 := [(0, .ref 170), (1, vi x1)]) (st2 := [vi x1]) 1 (fun _ _ => rfl) ?_
  refine pr_i2l (a := x1) rfl hx1 ?_
  have h1 : i64 (x1) := i64_32 hx1
  refine pr_n (pc2 := 4) (lv2 := [(0, .ref 170), (1, vi x1)]) (st2 := [.ref 170, vl 0, vl x1]) 2 (fun _ _ => rfl) ?_
  refine pr_gE (k2 := 170) (v := vi (t 170 1)) hE rfl rfl rfl (by decide) rfl rfl rfl fun h2 => ?_
  have h2 : i32 (t 170 1) := h2
  refine pr_i2l (a := t 170 1) rfl h2 ?_
  have h3 : i64 (t 170 1) := i64_32 h2
  refine pr_s0 (args := [vl x1, vl 0, vl (t 170 1)]) (rest := []) rfl rfl rfl (Nat.le_of_ble_eq_true rfl) rfl (h_120 s t x1 0 (t 170 1) hE h1 (i64_n rfl) h3) e_inz ?_
  rintro _ s4 ⟨rfl, hz4⟩ hE4
  show pr K K d tb_M119 11 [(0, .ref 170), (1, vi x1)] [vi (inz x1 0 (t 170 1))] s4 _
  by_cases h5 : inz x1 0 (t 170 1) ≠ 0
  · refine mq_t h5 ?_
    refine pr_if1t rfl rfl (i32_z hz4) h5 ?_
    refine pr_n (pc2 := 18) (lv2 := [(0, .ref 170), (1, vi x1)]) (st2 := [vi x1, .ref 170]) 2 (fun _ _ => rfl) ?_
    refine pr_pE (k2 := 170) (z := x1) hE4 rfl rfl rfl rfl (by decide) rfl (by decide) rfl (show i32 (x1) from hx1) (hf_int' _) rfl rfl rfl (fun e => absurd e.2 (by decide)) (fun _ => trivial) fun s6 hE6 => ?_
    refine pr_n (pc2 := 22) (lv2 := [(0, .ref 170), (1, vi x1)]) (st2 := [vi x1]) 1 (fun _ _ => rfl) ?_
    refine pr_reti rfl rfl ?_
    exact .inl ⟨_, x1, _, rfl, ⟨rfl, hx1⟩, rfl, hE6⟩
  · refine mq_f h5 ?_
    refine pr_if1f rfl rfl (i32_z hz4) h5 ?_
    refine pr_n (pc2 := 15) (lv2 := [(0, .ref 170), (1, vi x1)]) (st2 := [vi ((-1))]) 1 (fun _ _ => rfl) ?_
    refine pr_end (fun _ _ => rfl) ?_
    exact .inl ⟨_, (-1), _, rfl, ⟨rfl, (i32_n rfl)⟩, rfl, hE4⟩
set_option maxHeartbeats 20000000 in
set_option maxRecDepth 100000 in
theorem eu175_0 {N K d C : Nat} (ih : ∀ N2, N2 < N → eA175 N2 K d C) : eU175_0 N K d C := by
  intro s t y3 y2 y1 hE hy3 hy2 hy1
  have hC : C = 177 ∨ C = 186 := hE.1
  rw [eG_175_31]
  unfold eM175_31
  refine pr_lt (pc2 := 32) (lv2 := [(3, vi y3), (2, vi y2), (0, .ref 170), (1, vi y1)]) (st2 := [vi y3]) (fun _ _ => rfl) fun N2 hN2 => ?_
  refine pr_n (pc2 := 33) (lv2 := [(3, vi y3), (2, vi y2), (0, .ref 170), (1, vi y1)]) (st2 := [.ref 170, vi y3]) 1 (fun _ _ => rfl) ?_
  refine pr_get (v := .ref C) rfl rfl rfl (by decide) (rv_ref (show s.1 170 17 = ((C : Nat) : Int) from hE.2.2.1)) fun _ => ?_
  refine pr_gE (k2 := 177) (v := vi (t 177 18)) hE rfl rfl (TG_C hC) (by decide) rfl rfl rfl fun h1 => ?_
  have h1 : i32 (t 177 18) := h1
  by_cases h2 : t 177 18 ≤ y3
  · refine mq_t h2 ?_
    refine pr_if2t rfl rfl hy3 h1 h2 ?_
    refine pr_n (pc2 := 201) (lv2 := [(3, vi y3), (2, vi y2), (0, .ref 170), (1, vi y1)]) (st2 := [vl 1099511627776]) 1 (fun _ _ => rfl) ?_
    refine pr_end (fun _ _ => rfl) ?_
    exact .inl ⟨_, 1099511627776, _, rfl, ⟨rfl, (i64_n rfl)⟩, rfl, hE⟩
  · refine mq_f h2 ?_
    refine pr_if2f rfl rfl hy3 h1 h2 ?_
    refine pr_n (pc2 := 43) (lv2 := [(3, vi y3), (2, vi y2), (0, .ref 170), (1, vi y1)]) (st2 := [.ref 170]) 1 (fun _ _ => rfl) ?_
    refine pr_get (v := .ref C) rfl rfl rfl (by decide) (rv_ref (show s.1 170 17 = ((C : Nat) : Int) from hE.2.2.1)) fun _ => ?_
    refine pr_get (v := .ref (C + 6)) rfl rfl (TG_C hC) (by decide) (rv_ref (hE.2.1 C 15 (C + 6) (rc_C15 hC))) fun _ => ?_
    refine pr_n (pc2 := 50) (lv2 := [(3, vi y3), (2, vi y2), (0, .ref 170), (1, vi y1)]) (st2 := [vi y3, .ref (C + 6)]) 1 (fun _ _ => rfl) ?_
    refine pr_aE (k2 := 183) (a := y3) (v := vi (t 183 y3.toNat)) hE rfl (TG_C6 hC) rfl hy3 (by decide) rfl rfl rfl fun h4 h5 h3 => ?_
    have h3 : i32 (t 183 y3.toNat) := h3
    refine pr_n (pc2 := 52) (lv2 := [(3, vi y3), (2, vi y2), (0, .ref 170), (1, vi y1)]) (st2 := [.ref 170, vi (t 183 y3.toNat)]) 1 (fun _ _ => rfl) ?_
    refine pr_get (v := .ref C) rfl rfl rfl (by decide) (rv_ref (show s.1 170 17 = ((C : Nat) : Int) from hE.2.2.1)) fun _ => ?_
    refine pr_get (v := .ref (C + 5)) rfl rfl (TG_C hC) (by decide) (rv_ref (hE.2.1 C 14 (C + 5) (rc_C14 hC))) fun _ => ?_
    refine pr_n (pc2 := 59) (lv2 := [(3, vi y3), (2, vi y2), (0, .ref 170), (1, vi y1)]) (st2 := [vi y3, .ref (C + 5), vi (t 183 y3.toNat)]) 1 (fun _ _ => rfl) ?_
    refine pr_aE (k2 := 182) (a := y3) (v := vi (t 182 y3.toNat)) hE rfl (TG_C5 hC) rfl hy3 (by decide) rfl rfl rfl fun h7 h8 h6 => ?_
    have h6 : i32 (t 182 y3.toNat) := h6
    refine pr_i2 (a := t 183 y3.toNat) (b := t 182 y3.toNat) rfl rfl ?_
    show pr N2 K d tb_M175 61 [(3, vi y3), (2, vi y2), (0, .ref 170), (1, vi y1)] [vi (imi (t 183 y3.toNat) (t 182 y3.toNat))] s _
    have h9 : i32 (imi (t 183 y3.toNat) (t 182 y3.toNat)) := i32_in _
    refine pr_n (pc2 := 62) (lv2 := [(3, vi y3), (2, vi y2), (0, .ref 170), (1, vi y1)]) (st2 := [vi y2, vi (imi (t 183 y3.toNat) (t 182 y3.toNat))]) 1 (fun _ _ => rfl) ?_
    by_cases h10 : imi (t 183 y3.toNat) (t 182 y3.toNat) ≠ y2
    · refine mq_t h10 ?_
      refine pr_if2t rfl rfl h9 hy2 h10 ?_
      refine pr_n (pc2 := 75) (lv2 := [(5, vi 0), (4, vi 0), (3, vi y3), (2, vi y2), (0, .ref 170), (1, vi y1)]) (st2 := []) 4 (fun _ _ => rfl) ?_
      exact ((ih N2 hN2).2.1) s t 0 0 y3 y2 y1 hE (i32_n rfl) (i32_n rfl) hy3 hy2 hy1
    · refine mq_f h10 ?_
      refine pr_if2f rfl rfl h9 hy2 h10 ?_
      refine pr_n (pc2 := 75) (lv2 := [(5, vi 0), (4, vi 1), (3, vi y3), (2, vi y2), (0, .ref 170), (1, vi y1)]) (st2 := []) 5 (fun _ _ => rfl) ?_
      exact ((ih N2 hN2).2.1) s t 0 1 y3 y2 y1 hE (i32_n rfl) (i32_n rfl) hy3 hy2 hy1
set_option maxHeartbeats 20000000 in
set_option maxRecDepth 100000 in
theorem eu175_1 {N K d C : Nat} (ih : ∀ N2, N2 < N → eA175 N2 K d C) : eU175_1 N K d C := by
  intro s t y5 y4 y3 y2 y1 hE hy5 hy4 hy3 hy2 hy1
  have hC : C = 177 ∨ C = 186 := hE.1
  rw [eG_175_75]
  unfold eM175_75
  refine pr_lt (pc2 := 77) (lv2 := [(5, vi y5), (4, vi y4), (3, vi y3), (2, vi y2), (0, .ref 170), (1, vi y1)]) (st2 := [vi y5]) (fun _ _ => rfl) fun N2 hN2 => ?_
  refine pr_n (pc2 := 78) (lv2 := [(5, vi y5), (4, vi y4), (3, vi y3), (2, vi y2), (0, .ref 170), (1, vi y1)]) (st2 := [vi y2, vi y5]) 1 (fun _ _ => rfl) ?_
  by_cases h1 : y2 ≤ y5
  · refine mq_t h1 ?_
    refine pr_if2t rfl rfl hy5 hy2 h1 ?_
    refine pr_n (pc2 := 130) (lv2 := [(5, vi y5), (4, vi y4), (3, vi y3), (2, vi y2), (0, .ref 170), (1, vi y1)]) (st2 := [.ref 170]) 1 (fun _ _ => rfl) ?_
    refine pr_get (v := .ref C) rfl rfl rfl (by decide) (rv_ref (show s.1 170 17 = ((C : Nat) : Int) from hE.2.2.1)) fun _ => ?_
    refine pr_get (v := .ref (C + 8)) rfl rfl (TG_C hC) (by decide) (rv_ref (hE.2.1 C 17 (C + 8) (rc_C17 hC))) fun _ => ?_
    refine pr_n (pc2 := 137) (lv2 := [(5, vi y5), (4, vi y4), (3, vi y3), (2, vi y2), (0, .ref 170), (1, vi y1)]) (st2 := [vi y3, .ref (C + 8)]) 1 (fun _ _ => rfl) ?_
    refine pr_aE (k2 := 185) (a := y3) (v := vi (t 185 y3.toNat)) hE rfl (TG_C8 hC) rfl hy3 (by decide) rfl rfl rfl fun h3 h4 h2 => ?_
    have h2 : i32 (t 185 y3.toNat) := h2
    refine pr_n (pc2 := 142) (lv2 := [(5, vi (t 185 y3.toNat)), (4, vi y4), (3, vi y3), (2, vi y2), (0, .ref 170), (1, vi y1)]) (st2 := [vi y4]) 2 (fun _ _ => rfl) ?_
    by_cases h5 : y4 = 0
    · refine mq_t h5 ?_
      refine pr_if1t rfl rfl hy4 h5 ?_
      refine pr_inc (a := y3) rfl rfl ?_
      have h6 : i32 (y3 + 1) := by unfold i32 at *; omega
      show pr N2 K d tb_M175 195 [(3, vi (y3 + 1)), (5, vi (t 185 y3.toNat)), (4, vi y4), (2, vi y2), (0, .ref 170), (1, vi y1)] [] s _
      refine pr_n (pc2 := 31) (lv2 := [(3, vi (y3 + 1)), (5, vi (t 185 y3.toNat)), (4, vi y4), (2, vi y2), (0, .ref 170), (1, vi y1)]) (st2 := []) 1 (fun _ _ => rfl) ?_
      exact ((ih N2 hN2).2.2) s t (y3 + 1) (t 185 y3.toNat) y4 y2 y1 hE h6 h2 hy4 hy2 hy1
    · refine mq_f h5 ?_
      refine pr_if1f rfl rfl hy4 h5 ?_
      refine pr_n (pc2 := 146) (lv2 := [(5, vi (t 185 y3.toNat)), (4, vi y4), (3, vi y3), (2, vi y2), (0, .ref 170), (1, vi y1)]) (st2 := [.ref 170]) 1 (fun _ _ => rfl) ?_
      refine pr_get (v := .ref C) rfl rfl rfl (by decide) (rv_ref (show s.1 170 17 = ((C : Nat) : Int) from hE.2.2.1)) fun _ => ?_
      refine pr_get (v := .ref (C + 7)) rfl rfl (TG_C hC) (by decide) (rv_ref (hE.2.1 C 16 (C + 7) (rc_C16 hC))) fun _ => ?_
      refine pr_n (pc2 := 153) (lv2 := [(5, vi (t 185 y3.toNat)), (4, vi y4), (3, vi y3), (2, vi y2), (0, .ref 170), (1, vi y1)]) (st2 := [vi y3, .ref (C + 7)]) 1 (fun _ _ => rfl) ?_
      refine pr_aE (k2 := 184) (a := y3) (v := vi (t 184 y3.toNat)) hE rfl (TG_C7 hC) rfl hy3 (by decide) rfl rfl rfl fun h8 h9 h7 => ?_
      have h7 : i32 (t 184 y3.toNat) := h7
      by_cases h10 : t 184 y3.toNat ≠ 0
      · refine mq_t h10 ?_
        refine pr_if1t rfl rfl h7 h10 ?_
        refine pr_n (pc2 := 169) (lv2 := [(5, vi (t 185 y3.toNat)), (4, vi y4), (3, vi y3), (2, vi y2), (0, .ref 170), (1, vi y1)]) (st2 := [.ref 170]) 1 (fun _ _ => rfl) ?_
        refine pr_get (v := .ref 212) rfl rfl rfl (by decide) (rv_ref (hE.2.1 170 47 212 rfl)) fun _ => ?_
        refine pr_n (pc2 := 174) (lv2 := [(5, vi (t 185 y3.toNat)), (4, vi y4), (3, vi y3), (2, vi y2), (0, .ref 170), (1, vi y1)]) (st2 := [vi (t 185 y3.toNat), .ref 212]) 1 (fun _ _ => rfl) ?_
        refine pr_row (a := t 185 y3.toNat) (v := 213 + ((t 185 y3.toNat).toNat)) rfl rfl rfl rfl h2 (by decide) (fun h1 h2 => hE.2.1 _ _ _ (rc_it (by omega))) fun h11 h12 => ?_
        show pr N2 K d tb_M175 175 [(5, vi (t 185 y3.toNat)), (4, vi y4), (3, vi y3), (2, vi y2), (0, .ref 170), (1, vi y1)] [.ref (213 + ((t 185 y3.toNat).toNat))] s _
        refine pr_n (pc2 := 177) (lv2 := [(5, vi (t 185 y3.toNat)), (4, vi y4), (3, vi y3), (2, vi y2), (0, .ref 170), (1, vi y1)]) (st2 := [.ref 170, vi y1, .ref (213 + ((t 185 y3.toNat).toNat))]) 2 (fun _ _ => rfl) ?_
        refine pr_get (v := .ref C) rfl rfl rfl (by decide) (rv_ref (show s.1 170 17 = ((C : Nat) : Int) from hE.2.2.1)) fun _ => ?_
        refine pr_get (v := .ref (C + 3)) rfl rfl (TG_C hC) (by decide) (rv_ref (hE.2.1 C 12 (C + 3) (rc_C12 hC))) fun _ => ?_
        refine pr_n (pc2 := 185) (lv2 := [(5, vi (t 185 y3.toNat)), (4, vi y4), (3, vi y3), (2, vi y2), (0, .ref 170), (1, vi y1)]) (st2 := [vi (t 185 y3.toNat), .ref (C + 3), vi y1, .ref (213 + ((t 185 y3.toNat).toNat))]) 1 (fun _ _ => rfl) ?_
        refine pr_aE (k2 := 180) (a := t 185 y3.toNat) (v := vi (t 180 ((t 185 y3.toNat).toNat))) hE rfl (TG_C3 hC) rfl h2 (by decide) rfl rfl rfl fun h14 h15 h13 => ?_
        have h13 : i32 (t 180 ((t 185 y3.toNat).toNat)) := h13
        refine pr_n (pc2 := 187) (lv2 := [(5, vi (t 185 y3.toNat)), (4, vi y4), (3, vi y3), (2, vi y2), (0, .ref 170), (1, vi y1)]) (st2 := [vi 1, vi (t 180 ((t 185 y3.toNat).toNat)), vi y1, .ref (213 + ((t 185 y3.toNat).toNat))]) 1 (fun _ _ => rfl) ?_
        refine pr_i2 (a := t 180 ((t 185 y3.toNat).toNat)) (b := 1) rfl rfl ?_
        show pr N2 K d tb_M175 188 [(5, vi (t 185 y3.toNat)), (4, vi y4), (3, vi y3), (2, vi y2), (0, .ref 170), (1, vi y1)] [vi (imi (t 180 ((t 185 y3.toNat).toNat)) 1), vi y1, .ref (213 + ((t 185 y3.toNat).toNat))] s _
        have h16 : i32 (imi (t 180 ((t 185 y3.toNat).toNat)) 1) := i32_in _
        refine pr_i2 (a := y1) (b := imi (t 180 ((t 185 y3.toNat).toNat)) 1) rfl rfl ?_
        show pr N2 K d tb_M175 189 [(5, vi (t 185 y3.toNat)), (4, vi y4), (3, vi y3), (2, vi y2), (0, .ref 170), (1, vi y1)] [vi (ian y1 (imi (t 180 ((t 185 y3.toNat).toNat)) 1)), .ref (213 + ((t 185 y3.toNat).toNat))] s _
        have h17 : i32 (ian y1 (imi (t 180 ((t 185 y3.toNat).toNat)) 1)) := i32_in _
        refine pr_aE (k2 := (213 + ((t 185 y3.toNat).toNat))) (a := ian y1 (imi (t 180 ((t 185 y3.toNat).toNat)) 1)) (v := vi (t (213 + ((t 185 y3.toNat).toNat)) ((ian y1 (imi (t 180 ((t 185 y3.toNat).toNat)) 1)).toNat))) hE rfl (TG_it (by omega)) rfl h17 (by decide) (pe_hi (by omega)) (re_it (by omega)) rfl fun h19 h20 h18 => ?_
        have h18 : i32 (t (213 + ((t 185 y3.toNat).toNat)) ((ian y1 (imi (t 180 ((t 185 y3.toNat).toNat)) 1)).toNat)) := h18
        refine pr_i2l (a := t (213 + ((t 185 y3.toNat).toNat)) ((ian y1 (imi (t 180 ((t 185 y3.toNat).toNat)) 1)).toNat)) rfl h18 ?_
        have h21 : i64 (t (213 + ((t 185 y3.toNat).toNat)) ((ian y1 (imi (t 180 ((t 185 y3.toNat).toNat)) 1)).toNat)) := i64_32 h18
        refine pr_end (fun _ _ => rfl) ?_
        exact .inl ⟨_, t (213 + ((t 185 y3.toNat).toNat)) ((ian y1 (imi (t 180 ((t 185 y3.toNat).toNat)) 1)).toNat), _, rfl, ⟨rfl, h21⟩, rfl, hE⟩
      · refine mq_f h10 ?_
        refine pr_if1f rfl rfl h7 h10 ?_
        refine pr_n (pc2 := 158) (lv2 := [(5, vi (t 185 y3.toNat)), (4, vi y4), (3, vi y3), (2, vi y2), (0, .ref 170), (1, vi y1)]) (st2 := [.ref 170]) 1 (fun _ _ => rfl) ?_
        refine pr_get (v := .ref 203) rfl rfl rfl (by decide) (rv_ref (hE.2.1 170 38 203 rfl)) fun _ => ?_
        refine pr_n (pc2 := 163) (lv2 := [(5, vi (t 185 y3.toNat)), (4, vi y4), (3, vi y3), (2, vi y2), (0, .ref 170), (1, vi y1)]) (st2 := [vi (t 185 y3.toNat), .ref 203]) 1 (fun _ _ => rfl) ?_
        refine pr_aE (k2 := 203) (a := t 185 y3.toNat) (v := vi (t 203 ((t 185 y3.toNat).toNat))) hE rfl rfl rfl h2 (by decide) rfl rfl rfl fun h23 h24 h22 => ?_
        have h22 : i32 (t 203 ((t 185 y3.toNat).toNat)) := h22
        refine pr_i2l (a := t 203 ((t 185 y3.toNat).toNat)) rfl h22 ?_
        have h25 : i64 (t 203 ((t 185 y3.toNat).toNat)) := i64_32 h22
        refine pr_n (pc2 := 191) (lv2 := [(5, vi (t 185 y3.toNat)), (4, vi y4), (3, vi y3), (2, vi y2), (0, .ref 170), (1, vi y1)]) (st2 := [vl (t 203 ((t 185 y3.toNat).toNat))]) 1 (fun _ _ => rfl) ?_
        refine pr_end (fun _ _ => rfl) ?_
        exact .inl ⟨_, t 203 ((t 185 y3.toNat).toNat), _, rfl, ⟨rfl, h25⟩, rfl, hE⟩
  · refine mq_f h1 ?_
    refine pr_if2f rfl rfl hy5 hy2 h1 ?_
    refine pr_n (pc2 := 83) (lv2 := [(5, vi y5), (4, vi y4), (3, vi y3), (2, vi y2), (0, .ref 170), (1, vi y1)]) (st2 := [vi y4]) 1 (fun _ _ => rfl) ?_
    by_cases h26 : y4 = 0
    · refine mq_t h26 ?_
      refine pr_if1t rfl rfl hy4 h26 ?_
      refine pr_n (pc2 := 130) (lv2 := [(5, vi y5), (4, vi y4), (3, vi y3), (2, vi y2), (0, .ref 170), (1, vi y1)]) (st2 := [.ref 170]) 1 (fun _ _ => rfl) ?_
      refine pr_get (v := .ref C) rfl rfl rfl (by decide) (rv_ref (show s.1 170 17 = ((C : Nat) : Int) from hE.2.2.1)) fun _ => ?_
      refine pr_get (v := .ref (C + 8)) rfl rfl (TG_C hC) (by decide) (rv_ref (hE.2.1 C 17 (C + 8) (rc_C17 hC))) fun _ => ?_
      refine pr_n (pc2 := 137) (lv2 := [(5, vi y5), (4, vi y4), (3, vi y3), (2, vi y2), (0, .ref 170), (1, vi y1)]) (st2 := [vi y3, .ref (C + 8)]) 1 (fun _ _ => rfl) ?_
      refine pr_aE (k2 := 185) (a := y3) (v := vi (t 185 y3.toNat)) hE rfl (TG_C8 hC) rfl hy3 (by decide) rfl rfl rfl fun h28 h29 h27 => ?_
      have h27 : i32 (t 185 y3.toNat) := h27
      refine pr_n (pc2 := 142) (lv2 := [(5, vi (t 185 y3.toNat)), (4, vi y4), (3, vi y3), (2, vi y2), (0, .ref 170), (1, vi y1)]) (st2 := [vi y4]) 2 (fun _ _ => rfl) ?_
      refine pr_if1t rfl rfl hy4 (show y4 = 0 by omega) ?_
      show pr N2 K d tb_M175 192 [(5, vi (t 185 y3.toNat)), (4, vi y4), (3, vi y3), (2, vi y2), (0, .ref 170), (1, vi y1)] [] s _
      refine pr_inc (a := y3) rfl rfl ?_
      have h30 : i32 (y3 + 1) := by unfold i32 at *; omega
      show pr N2 K d tb_M175 195 [(3, vi (y3 + 1)), (5, vi (t 185 y3.toNat)), (4, vi y4), (2, vi y2), (0, .ref 170), (1, vi y1)] [] s _
      refine pr_n (pc2 := 31) (lv2 := [(3, vi (y3 + 1)), (5, vi (t 185 y3.toNat)), (4, vi y4), (2, vi y2), (0, .ref 170), (1, vi y1)]) (st2 := []) 1 (fun _ _ => rfl) ?_
      exact ((ih N2 hN2).2.2) s t (y3 + 1) (t 185 y3.toNat) y4 y2 y1 hE h30 h27 hy4 hy2 hy1
    · refine mq_f h26 ?_
      refine pr_if1f rfl rfl hy4 h26 ?_
      refine pr_n (pc2 := 87) (lv2 := [(5, vi y5), (4, vi y4), (3, vi y3), (2, vi y2), (0, .ref 170), (1, vi y1)]) (st2 := [.ref 170]) 1 (fun _ _ => rfl) ?_
      refine pr_get (v := .ref C) rfl rfl rfl (by decide) (rv_ref (show s.1 170 17 = ((C : Nat) : Int) from hE.2.2.1)) fun _ => ?_
      refine pr_get (v := .ref (C + 4)) rfl rfl (TG_C hC) (by decide) (rv_ref (hE.2.1 C 13 (C + 4) (rc_C13 hC))) fun _ => ?_
      refine pr_n (pc2 := 94) (lv2 := [(5, vi y5), (4, vi y4), (3, vi y3), (2, vi y2), (0, .ref 170), (1, vi y1)]) (st2 := [.ref 170, .ref (C + 4)]) 1 (fun _ _ => rfl) ?_
      refine pr_get (v := .ref C) rfl rfl rfl (by decide) (rv_ref (show s.1 170 17 = ((C : Nat) : Int) from hE.2.2.1)) fun _ => ?_
      refine pr_get (v := .ref (C + 5)) rfl rfl (TG_C hC) (by decide) (rv_ref (hE.2.1 C 14 (C + 5) (rc_C14 hC))) fun _ => ?_
      refine pr_n (pc2 := 101) (lv2 := [(5, vi y5), (4, vi y4), (3, vi y3), (2, vi y2), (0, .ref 170), (1, vi y1)]) (st2 := [vi y3, .ref (C + 5), .ref (C + 4)]) 1 (fun _ _ => rfl) ?_
      refine pr_aE (k2 := 182) (a := y3) (v := vi (t 182 y3.toNat)) hE rfl (TG_C5 hC) rfl hy3 (by decide) rfl rfl rfl fun h32 h33 h31 => ?_
      have h31 : i32 (t 182 y3.toNat) := h31
      refine pr_n (pc2 := 104) (lv2 := [(5, vi y5), (4, vi y4), (3, vi y3), (2, vi y2), (0, .ref 170), (1, vi y1)]) (st2 := [vi y5, vi (t 182 y3.toNat), .ref (C + 4)]) 1 (fun _ _ => rfl) ?_
      refine pr_i2 (a := t 182 y3.toNat) (b := y5) rfl rfl ?_
      show pr N2 K d tb_M175 105 [(5, vi y5), (4, vi y4), (3, vi y3), (2, vi y2), (0, .ref 170), (1, vi y1)] [vi (ipl (t 182 y3.toNat) y5), .ref (C + 4)] s _
      have h34 : i32 (ipl (t 182 y3.toNat) y5) := i32_in _
      refine pr_aE (k2 := 181) (a := ipl (t 182 y3.toNat) y5) (v := vi (t 181 ((ipl (t 182 y3.toNat) y5).toNat))) hE rfl (TG_C4 hC) rfl h34 (by decide) rfl rfl rfl fun h36 h37 h35 => ?_
      have h35 : -128 ≤ t 181 ((ipl (t 182 y3.toNat) y5).toNat) ∧ t 181 ((ipl (t 182 y3.toNat) y5).toNat) ≤ 127 := h35
      refine pr_n (pc2 := 107) (lv2 := [(5, vi y5), (4, vi y4), (3, vi y3), (2, vi y2), (0, .ref 170), (1, vi y1)]) (st2 := [.ref 170, vi (t 181 ((ipl (t 182 y3.toNat) y5).toNat))]) 1 (fun _ _ => rfl) ?_
      refine pr_get (v := .ref 171) rfl rfl rfl (by decide) (rv_ref (hE.2.1 170 0 171 rfl)) fun _ => ?_
      refine pr_n (pc2 := 112) (lv2 := [(5, vi y5), (4, vi y4), (3, vi y3), (2, vi y2), (0, .ref 170), (1, vi y1)]) (st2 := [vi y5, .ref 171, vi (t 181 ((ipl (t 182 y3.toNat) y5).toNat))]) 1 (fun _ _ => rfl) ?_
      refine pr_aE (k2 := 171) (a := y5) (v := vi (t 171 y5.toNat)) hE rfl rfl rfl hy5 (by decide) rfl rfl rfl fun h39 h40 h38 => ?_
      have h38 : -128 ≤ t 171 y5.toNat ∧ t 171 y5.toNat ≤ 127 := h38
      by_cases h41 : t 181 ((ipl (t 182 y3.toNat) y5).toNat) ≠ t 171 y5.toNat
      · refine mq_t h41 ?_
        refine pr_if2t rfl rfl (i32_b h35) (i32_b h38) h41 ?_
        refine pr_n (pc2 := 123) (lv2 := [(4, vi 0), (5, vi y5), (3, vi y3), (2, vi y2), (0, .ref 170), (1, vi y1)]) (st2 := []) 2 (fun _ _ => rfl) ?_
        refine pr_inc (a := y5) rfl rfl ?_
        have h42 : i32 (y5 + 1) := by unfold i32 at *; omega
        show pr N2 K d tb_M175 126 [(5, vi (y5 + 1)), (4, vi 0), (3, vi y3), (2, vi y2), (0, .ref 170), (1, vi y1)] [] s _
        refine pr_n (pc2 := 75) (lv2 := [(5, vi (y5 + 1)), (4, vi 0), (3, vi y3), (2, vi y2), (0, .ref 170), (1, vi y1)]) (st2 := []) 1 (fun _ _ => rfl) ?_
        exact ((ih N2 hN2).2.1) s t (y5 + 1) 0 y3 y2 y1 hE h42 (i32_n rfl) hy3 hy2 hy1
      · refine mq_f h41 ?_
        refine pr_if2f rfl rfl (i32_b h35) (i32_b h38) h41 ?_
        refine pr_n (pc2 := 123) (lv2 := [(4, vi 1), (5, vi y5), (3, vi y3), (2, vi y2), (0, .ref 170), (1, vi y1)]) (st2 := []) 3 (fun _ _ => rfl) ?_
        refine pr_inc (a := y5) rfl rfl ?_
        have h43 : i32 (y5 + 1) := by unfold i32 at *; omega
        show pr N2 K d tb_M175 126 [(5, vi (y5 + 1)), (4, vi 1), (3, vi y3), (2, vi y2), (0, .ref 170), (1, vi y1)] [] s _
        refine pr_n (pc2 := 75) (lv2 := [(5, vi (y5 + 1)), (4, vi 1), (3, vi y3), (2, vi y2), (0, .ref 170), (1, vi y1)]) (st2 := []) 1 (fun _ _ => rfl) ?_
        exact ((ih N2 hN2).2.1) s t (y5 + 1) 1 y3 y2 y1 hE h43 (i32_n rfl) hy3 hy2 hy1
set_option maxHeartbeats 20000000 in
set_option maxRecDepth 100000 in
theorem eu175_2 {N K d C : Nat} (ih : ∀ N2, N2 < N → eA175 N2 K d C) : eU175_2 N K d C := by
  intro s t y3 y5 y4 y2 y1 hE hy3 hy5 hy4 hy2 hy1
  have hC : C = 177 ∨ C = 186 := hE.1
  rw [eG_175_31]
  unfold eM175_31
  refine pr_lt (pc2 := 32) (lv2 := [(3, vi y3), (5, vi y5), (4, vi y4), (2, vi y2), (0, .ref 170), (1, vi y1)]) (st2 := [vi y3]) (fun _ _ => rfl) fun N2 hN2 => ?_
  refine pr_n (pc2 := 33) (lv2 := [(3, vi y3), (5, vi y5), (4, vi y4), (2, vi y2), (0, .ref 170), (1, vi y1)]) (st2 := [.ref 170, vi y3]) 1 (fun _ _ => rfl) ?_
  refine pr_get (v := .ref C) rfl rfl rfl (by decide) (rv_ref (show s.1 170 17 = ((C : Nat) : Int) from hE.2.2.1)) fun _ => ?_
  refine pr_gE (k2 := 177) (v := vi (t 177 18)) hE rfl rfl (TG_C hC) (by decide) rfl rfl rfl fun h1 => ?_
  have h1 : i32 (t 177 18) := h1
  by_cases h2 : t 177 18 ≤ y3
  · refine mq_t h2 ?_
    refine pr_if2t rfl rfl hy3 h1 h2 ?_
    refine pr_n (pc2 := 201) (lv2 := [(3, vi y3), (5, vi y5), (4, vi y4), (2, vi y2), (0, .ref 170), (1, vi y1)]) (st2 := [vl 1099511627776]) 1 (fun _ _ => rfl) ?_
    refine pr_end (fun _ _ => rfl) ?_
    exact .inl ⟨_, 1099511627776, _, rfl, ⟨rfl, (i64_n rfl)⟩, rfl, hE⟩
  · refine mq_f h2 ?_
    refine pr_if2f rfl rfl hy3 h1 h2 ?_
    refine pr_n (pc2 := 43) (lv2 := [(3, vi y3), (5, vi y5), (4, vi y4), (2, vi y2), (0, .ref 170), (1, vi y1)]) (st2 := [.ref 170]) 1 (fun _ _ => rfl) ?_
    refine pr_get (v := .ref C) rfl rfl rfl (by decide) (rv_ref (show s.1 170 17 = ((C : Nat) : Int) from hE.2.2.1)) fun _ => ?_
    refine pr_get (v := .ref (C + 6)) rfl rfl (TG_C hC) (by decide) (rv_ref (hE.2.1 C 15 (C + 6) (rc_C15 hC))) fun _ => ?_
    refine pr_n (pc2 := 50) (lv2 := [(3, vi y3), (5, vi y5), (4, vi y4), (2, vi y2), (0, .ref 170), (1, vi y1)]) (st2 := [vi y3, .ref (C + 6)]) 1 (fun _ _ => rfl) ?_
    refine pr_aE (k2 := 183) (a := y3) (v := vi (t 183 y3.toNat)) hE rfl (TG_C6 hC) rfl hy3 (by decide) rfl rfl rfl fun h4 h5 h3 => ?_
    have h3 : i32 (t 183 y3.toNat) := h3
    refine pr_n (pc2 := 52) (lv2 := [(3, vi y3), (5, vi y5), (4, vi y4), (2, vi y2), (0, .ref 170), (1, vi y1)]) (st2 := [.ref 170, vi (t 183 y3.toNat)]) 1 (fun _ _ => rfl) ?_
    refine pr_get (v := .ref C) rfl rfl rfl (by decide) (rv_ref (show s.1 170 17 = ((C : Nat) : Int) from hE.2.2.1)) fun _ => ?_
    refine pr_get (v := .ref (C + 5)) rfl rfl (TG_C hC) (by decide) (rv_ref (hE.2.1 C 14 (C + 5) (rc_C14 hC))) fun _ => ?_
    refine pr_n (pc2 := 59) (lv2 := [(3, vi y3), (5, vi y5), (4, vi y4), (2, vi y2), (0, .ref 170), (1, vi y1)]) (st2 := [vi y3, .ref (C + 5), vi (t 183 y3.toNat)]) 1 (fun _ _ => rfl) ?_
    refine pr_aE (k2 := 182) (a := y3) (v := vi (t 182 y3.toNat)) hE rfl (TG_C5 hC) rfl hy3 (by decide) rfl rfl rfl fun h7 h8 h6 => ?_
    have h6 : i32 (t 182 y3.toNat) := h6
    refine pr_i2 (a := t 183 y3.toNat) (b := t 182 y3.toNat) rfl rfl ?_
    show pr N2 K d tb_M175 61 [(3, vi y3), (5, vi y5), (4, vi y4), (2, vi y2), (0, .ref 170), (1, vi y1)] [vi (imi (t 183 y3.toNat) (t 182 y3.toNat))] s _
    have h9 : i32 (imi (t 183 y3.toNat) (t 182 y3.toNat)) := i32_in _
    refine pr_n (pc2 := 62) (lv2 := [(3, vi y3), (5, vi y5), (4, vi y4), (2, vi y2), (0, .ref 170), (1, vi y1)]) (st2 := [vi y2, vi (imi (t 183 y3.toNat) (t 182 y3.toNat))]) 1 (fun _ _ => rfl) ?_
    by_cases h10 : imi (t 183 y3.toNat) (t 182 y3.toNat) ≠ y2
    · refine mq_t h10 ?_
      refine pr_if2t rfl rfl h9 hy2 h10 ?_
      refine pr_n (pc2 := 75) (lv2 := [(5, vi 0), (4, vi 0), (3, vi y3), (2, vi y2), (0, .ref 170), (1, vi y1)]) (st2 := []) 4 (fun _ _ => rfl) ?_
      exact ((ih N2 hN2).2.1) s t 0 0 y3 y2 y1 hE (i32_n rfl) (i32_n rfl) hy3 hy2 hy1
    · refine mq_f h10 ?_
      refine pr_if2f rfl rfl h9 hy2 h10 ?_
      refine pr_n (pc2 := 75) (lv2 := [(5, vi 0), (4, vi 1), (3, vi y3), (2, vi y2), (0, .ref 170), (1, vi y1)]) (st2 := []) 5 (fun _ _ => rfl) ?_
      exact ((ih N2 hN2).2.1) s t 0 1 y3 y2 y1 hE (i32_n rfl) (i32_n rfl) hy3 hy2 hy1
theorem ea175 {K d C : Nat} : ∀ N, eA175 N K d C := by
  intro N
  induction N using Nat.strongRecOn with | ind N ih => ?_
  exact ⟨eu175_0 ih, eu175_1 ih, eu175_2 ih⟩
set_option maxHeartbeats 20000000 in
set_option maxRecDepth 100000 in
theorem em175 {K d C : Nat} : eT175 K (d + 1) C := by
  intro s t x1 hE hx1
  have hC : C = 177 ∨ C = 186 := hE.1
  refine pcr_of (M := tb_M175) rfl ?_
  show pr K K d tb_M175 0 [(0, .ref 170), (1, vi x1)] [] s _
  rw [eG_175]
  unfold eM175
  refine pr_n (pc2 := 1) (lv2 := [(0, .ref 170), (1, vi x1)]) (st2 := [.ref 170]) 1 (fun _ _ => rfl) ?_
  refine pr_gE (k2 := 170) (v := vi (t 170 1)) hE rfl rfl rfl (by decide) rfl rfl rfl fun h1 => ?_
  have h1 : i32 (t 170 1) := h1
  refine pr_n (pc2 := 7) (lv2 := [(2, vi (t 170 1)), (0, .ref 170), (1, vi x1)]) (st2 := [vi 0, .ref 170]) 3 (fun _ _ => rfl) ?_
  refine pr_pE (k2 := 170) (z := 0) hE rfl rfl rfl rfl (by decide) rfl (by decide) rfl (show i32 (0) from (i32_n rfl)) (hf_int' _) rfl rfl rfl (fun e => absurd e.2 (by decide)) (fun _ => trivial) fun s2 hE2 => ?_
  refine pr_n (pc2 := 11) (lv2 := [(2, vi (t 170 1)), (0, .ref 170), (1, vi x1)]) (st2 := [.ref 170]) 1 (fun _ _ => rfl) ?_
  refine pr_gE (k2 := 170) (v := vi (t 170 20)) hE2 rfl rfl rfl (by decide) rfl rfl rfl fun h3 => ?_
  have h3 : 0 ≤ t 170 20 ∧ t 170 20 ≤ 1 := h3
  by_cases h4 : t 170 20 = 0
  · refine mq_t h4 ?_
    refine pr_if1t rfl rfl (i32_z h3) h4 ?_
    refine pr_n (pc2 := 28) (lv2 := [(2, vi (t 170 1)), (0, .ref 170), (1, vi x1)]) (st2 := [vl 1099511627776]) 1 (fun _ _ => rfl) ?_
    refine pr_end (fun _ _ => rfl) ?_
    exact .inl ⟨_, 1099511627776, _, rfl, ⟨rfl, (i64_n rfl)⟩, rfl, hE2⟩
  · refine mq_f h4 ?_
    refine pr_if1f rfl rfl (i32_z h3) h4 ?_
    refine pr_n (pc2 := 18) (lv2 := [(2, vi (t 170 1)), (0, .ref 170), (1, vi x1)]) (st2 := [.ref 170]) 1 (fun _ _ => rfl) ?_
    refine pr_gE (k2 := 170) (v := vi (t 170 52)) hE2 rfl rfl rfl (by decide) rfl rfl rfl fun h5 => ?_
    have h5 : i32 (t 170 52) := h5
    refine pr_n (pc2 := 22) (lv2 := [(2, vi (t 170 1)), (0, .ref 170), (1, vi x1)]) (st2 := [vi 3, vi (t 170 52)]) 1 (fun _ _ => rfl) ?_
    by_cases h6 : t 170 52 ≠ 3
    · refine mq_t h6 ?_
      refine pr_if2t rfl rfl h5 (i32_n rfl) h6 ?_
      refine pr_n (pc2 := 31) (lv2 := [(3, vi 0), (2, vi (t 170 1)), (0, .ref 170), (1, vi x1)]) (st2 := []) 2 (fun _ _ => rfl) ?_
      exact ((ea175 K).1) s2 (up2 t 170 1 0) 0 (t 170 1) x1 hE2 (i32_n rfl) h1 hx1
    · refine mq_f h6 ?_
      refine pr_if2f rfl rfl h5 (i32_n rfl) h6 ?_
      refine pr_n (pc2 := 28) (lv2 := [(2, vi (t 170 1)), (0, .ref 170), (1, vi x1)]) (st2 := [vl 1099511627776]) 1 (fun _ _ => rfl) ?_
      refine pr_end (fun _ _ => rfl) ?_
      exact .inl ⟨_, 1099511627776, _, rfl, ⟨rfl, (i64_n rfl)⟩, rfl, hE2⟩
