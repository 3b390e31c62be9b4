/-! The methods are as their models. -/
set_option maxHeartbeats 20000000 in
set_option maxRecDepth 100000 in
theorem ru129_0 {N K d C : Nat} (h_123 : rT123 K d C) (h_127 : rT127 K d C) (h_130 : rT130 K d C) (h_131 : rT131 K d C) (h_133 : rT133 K d C) (h_135 : rT135 K d C) (h_136 : rT136 K d C) (h_137 : rT137 K d C) (h_138 : rT138 K d C) (h_139 : rT139 K d C) (h_140 : rT140 K d C) (h_159 : rT159 K d C) (ih : ∀ N2, N2 < N → rA129 N2 K d C) : rU129_0 N K d C := by
  intro s t y4 y3 y2 y1 hE hy4 hy3 hy2 hy1
  have hC : C = 177 ∨ C = 186 := hE.1
  rw [rG_129_131]
  unfold rM129_131
  refine pr_lt (pc2 := 132) (lv2 := [(4, vi y4), (3, vi y3), (2, vi y2), (0, .ref 170), (1, vi y1)]) (st2 := [.ref 170]) (fun _ _ => rfl) fun N2 hN2 => ?_
  refine pr_get (v := .ref 201) rfl rfl rfl (by decide) (rv_ref (hE.2.1 170 33 201 rfl)) fun _ => ?_
  refine pr_n (pc2 := 136) (lv2 := [(4, vi y4), (3, vi y3), (2, vi y2), (0, .ref 170), (1, vi y1)]) (st2 := [vi y2, .ref 201]) 1 (fun _ _ => rfl) ?_
  refine pr_aE (k2 := 201) (a := y2) (v := vi (t 201 y2.toNat)) hE rfl rfl rfl hy2 (by decide) rfl rfl rfl fun h2 h3 h1 => ?_
  have h1 : i32 (t 201 y2.toNat) := h1
  by_cases h4 : t 201 y2.toNat ≠ 0
  · refine mq_t h4 ?_
    refine pr_if1t rfl rfl h1 h4 ?_
    refine pr_n (pc2 := 157) (lv2 := [(4, vi y4), (3, vi y3), (2, vi y2), (0, .ref 170), (1, vi y1)]) (st2 := [.ref 26, .ref 170]) 2 (fun _ _ => rfl) ?_
    refine pr_p1 (args := [.ref 26]) (rest := []) rfl rfl rfl rfl (Nat.le_of_ble_eq_true rfl) rfl (h_127 s t 26 hE isX_26) (fun z t3 => pu_127) ?_
    rintro _ z5 s5 ⟨rfl, hz5⟩ hX5 hE5
    show pr N2 K d tb_M129 160 [(4, vi y4), (3, vi y3), (2, vi y2), (0, .ref 170), (1, vi y1)] [vi z5] s5 _
    by_cases h6 : z5 = 0
    · refine mq_t h6 ?_
      refine pr_if1t rfl rfl (i32_z hz5) h6 ?_
      refine pr_n (pc2 := 218) (lv2 := [(4, vi y4), (3, vi y3), (2, vi y2), (0, .ref 170), (1, vi y1)]) (st2 := [.ref 24, .ref 170]) 2 (fun _ _ => rfl) ?_
      refine pr_m1 (args := [.ref 24]) (rest := []) rfl rfl rfl rfl (Nat.le_of_ble_eq_true rfl) rfl (h_136 s5 t 24 hE5 isX_24) ?_
      rintro _ z7 t7 s7 ⟨rfl, hz7⟩ hE7
      show pr N2 K d tb_M129 221 [(4, vi y4), (3, vi y3), (2, vi y2), (0, .ref 170), (1, vi y1)] [vi z7] s7 _
      by_cases h8 : z7 ≠ 0
      · refine mq_t h8 ?_
        refine pr_if1t rfl rfl (i32_z hz7) h8 ?_
        refine pr_n (pc2 := 227) (lv2 := [(4, vi y4), (3, vi y3), (2, vi y2), (0, .ref 170), (1, vi y1)]) (st2 := [.ref 170]) 1 (fun _ _ => rfl) ?_
        refine pr_s1 (args := []) (rest := []) rfl rfl rfl rfl (Nat.le_of_ble_eq_true rfl) rfl (h_138 s7 t7  hE7 ) q_rfg ?_
        rintro _ s9 ⟨rfl, _⟩ hE9
        show pr N2 K d tb_M129 230 [(4, vi y4), (3, vi y3), (2, vi y2), (0, .ref 170), (1, vi y1)] [] s9 _
        refine pr_n (pc2 := 231) (lv2 := [(4, vi y4), (3, vi y3), (2, vi y2), (0, .ref 170), (1, vi y1)]) (st2 := [.ref 170]) 1 (fun _ _ => rfl) ?_
        refine pr_get (v := .ref 200) rfl rfl rfl (by decide) (rv_ref (hE9.2.1 170 32 200 rfl)) fun _ => ?_
        refine pr_n (pc2 := 236) (lv2 := [(4, vi y4), (3, vi y3), (2, vi y2), (0, .ref 170), (1, vi y1)]) (st2 := [.ref 170, vi y2, .ref 200]) 2 (fun _ _ => rfl) ?_
        refine pr_get (v := .ref C) rfl rfl rfl (by decide) (rv_ref (show s9.1 170 19 = ((C : Nat) : Int) from hE9.2.2.1)) fun _ => ?_
        refine pr_gE (k2 := 177) (v := vi ((rfg t7) 177 1)) hE9 rfl rfl (TG_C hC) (by decide) rfl rfl rfl fun h10 => ?_
        have h10 : i32 ((rfg t7) 177 1) := h10
        refine pr_sE (k2 := 200) (a := y2) (z := (rfg t7) 177 1) hE9 rfl (by decide) rfl rfl hy2 (by decide) rfl (show i32 ((rfg t7) 177 1) from h10) (n0 rfl (by omega) (by omega)) rfl rfl (fun e => absurd e.1 (by decide)) (fun _ => trivial) fun h11 h12 s13 hE13 => ?_
        refine pr_n (pc2 := 244) (lv2 := [(4, vi y4), (3, vi y3), (2, vi y2), (0, .ref 170), (1, vi y1)]) (st2 := [vi y1]) 1 (fun _ _ => rfl) ?_
        by_cases h14 : y1 = 0
        · refine mq_t h14 ?_
          refine pr_if1t rfl rfl hy1 h14 ?_
          refine pr_n (pc2 := 259) (lv2 := [(4, vi y4), (3, vi y3), (2, vi y2), (0, .ref 170), (1, vi y1)]) (st2 := [.ref 170]) 1 (fun _ _ => rfl) ?_
          refine pr_m1 (args := []) (rest := []) rfl rfl rfl rfl (Nat.le_of_ble_eq_true rfl) rfl (h_159 s13 (up2 ((rfg t7)) 200 y2.toNat ((rfg t7) 177 1))  hE13 ) ?_
          rintro _ z15 t15 s15 ⟨rfl, hz15⟩ hE15
          show pr N2 K d tb_M129 262 [(4, vi y4), (3, vi y3), (2, vi y2), (0, .ref 170), (1, vi y1)] [vi z15] s15 _
          by_cases h16 : z15 ≠ 0
          · refine mq_t h16 ?_
            refine pr_if1t rfl rfl (i32_z hz15) h16 ?_
            refine pr_n (pc2 := 270) (lv2 := [(4, vi y4), (3, vi y3), (2, vi y2), (0, .ref 170), (1, vi y1)]) (st2 := [vi 12, .ref 170]) 2 (fun _ _ => rfl) ?_
            refine pr_s1 (args := [vi 12]) (rest := []) rfl rfl rfl rfl (Nat.le_of_ble_eq_true rfl) rfl (h_140 s15 t15 12 hE15 (i32_n rfl)) q_put1 ?_
            rintro _ s17 ⟨rfl, hz17⟩ hE17
            show pr N2 K d tb_M129 273 [(4, vi y4), (3, vi y3), (2, vi y2), (0, .ref 170), (1, vi y1)] [vi (ptz t15)] s17 _
            refine pr_n (pc2 := 277) (lv2 := [(5, vi 0), (4, vi y4), (3, vi y3), (2, vi y2), (0, .ref 170), (1, vi y1)]) (st2 := []) 3 (fun _ _ => rfl) ?_
            exact ((ih N2 hN2).2) s17 ((pt1 t15 12)) 0 y4 y3 y2 y1 hE17 (i32_n rfl) hy4 hy3 hy2 hy1
          · refine mq_f h16 ?_
            refine pr_if1f rfl rfl (i32_z hz15) h16 ?_
            refine pr_n (pc2 := 266) (lv2 := [(4, vi y4), (3, vi y3), (2, vi y2), (0, .ref 170), (1, vi y1)]) (st2 := [vi 0]) 1 (fun _ _ => rfl) ?_
            refine pr_end (fun _ _ => rfl) ?_
            exact .inl ⟨_, 0, _, rfl, ⟨rfl, (by decide)⟩, rfl, hE15⟩
        · refine mq_f h14 ?_
          refine pr_if1f rfl rfl hy1 h14 ?_
          refine pr_n (pc2 := 249) (lv2 := [(4, vi y4), (3, vi y3), (2, vi y2), (0, .ref 170), (1, vi y1)]) (st2 := [vi 0, .ref 170]) 2 (fun _ _ => rfl) ?_
          refine pr_m1 (args := [vi 0]) (rest := []) rfl rfl rfl rfl (Nat.le_of_ble_eq_true rfl) rfl (h_139 s13 (up2 ((rfg t7)) 200 y2.toNat ((rfg t7) 177 1)) 0 hE13 (i32_n rfl)) ?_
          rintro _ z18 t18 s18 ⟨rfl, hz18⟩ hE18
          show pr N2 K d tb_M129 252 [(4, vi y4), (3, vi y3), (2, vi y2), (0, .ref 170), (1, vi y1)] [vi z18] s18 _
          by_cases h19 : z18 = 0
          · refine mq_t h19 ?_
            refine pr_if1t rfl rfl (i32_z hz18) h19 ?_
            refine pr_n (pc2 := 266) (lv2 := [(4, vi y4), (3, vi y3), (2, vi y2), (0, .ref 170), (1, vi y1)]) (st2 := [vi 0]) 1 (fun _ _ => rfl) ?_
            refine pr_end (fun _ _ => rfl) ?_
            exact .inl ⟨_, 0, _, rfl, ⟨rfl, (by decide)⟩, rfl, hE18⟩
          · refine mq_f h19 ?_
            refine pr_if1f rfl rfl (i32_z hz18) h19 ?_
            refine pr_n (pc2 := 270) (lv2 := [(4, vi y4), (3, vi y3), (2, vi y2), (0, .ref 170), (1, vi y1)]) (st2 := [vi 12, .ref 170]) 3 (fun _ _ => rfl) ?_
            refine pr_s1 (args := [vi 12]) (rest := []) rfl rfl rfl rfl (Nat.le_of_ble_eq_true rfl) rfl (h_140 s18 t18 12 hE18 (i32_n rfl)) q_put1 ?_
            rintro _ s20 ⟨rfl, hz20⟩ hE20
            show pr N2 K d tb_M129 273 [(4, vi y4), (3, vi y3), (2, vi y2), (0, .ref 170), (1, vi y1)] [vi (ptz t18)] s20 _
            refine pr_n (pc2 := 277) (lv2 := [(5, vi 0), (4, vi y4), (3, vi y3), (2, vi y2), (0, .ref 170), (1, vi y1)]) (st2 := []) 3 (fun _ _ => rfl) ?_
            exact ((ih N2 hN2).2) s20 ((pt1 t18 12)) 0 y4 y3 y2 y1 hE20 (i32_n rfl) hy4 hy3 hy2 hy1
      · refine mq_f h8 ?_
        refine pr_if1f rfl rfl (i32_z hz7) h8 ?_
        refine pr_n (pc2 := 225) (lv2 := [(4, vi y4), (3, vi y3), (2, vi y2), (0, .ref 170), (1, vi y1)]) (st2 := [vi 0]) 1 (fun _ _ => rfl) ?_
        refine pr_end (fun _ _ => rfl) ?_
        exact .inl ⟨_, 0, _, rfl, ⟨rfl, (by decide)⟩, rfl, hE7⟩
    · refine mq_f h6 ?_
      refine pr_if1f rfl rfl (i32_z hz5) h6 ?_
      refine pr_n (pc2 := 164) (lv2 := [(4, vi y4), (3, vi y3), (2, vi y2), (0, .ref 170), (1, vi y1)]) (st2 := [.ref 170]) 1 (fun _ _ => rfl) ?_
      refine pr_get (v := .ref 201) rfl rfl rfl (by decide) (rv_ref (hE5.2.1 170 33 201 rfl)) fun _ => ?_
      refine pr_n (pc2 := 168) (lv2 := [(4, vi y4), (3, vi y3), (2, vi y2), (0, .ref 170), (1, vi y1)]) (st2 := [vi y2, .ref 201]) 1 (fun _ _ => rfl) ?_
      refine pr_aE (k2 := 201) (a := y2) (v := vi (t 201 y2.toNat)) hE5 rfl rfl rfl hy2 (by decide) rfl rfl rfl fun h22 h23 h21 => ?_
      have h21 : i32 (t 201 y2.toNat) := h21
      by_cases h24 : t 201 y2.toNat ≤ 0
      · refine mq_t h24 ?_
        refine pr_if1t rfl rfl h21 h24 ?_
        refine pr_n (pc2 := 177) (lv2 := [(4, vi y4), (3, vi y3), (2, vi y2), (0, .ref 170), (1, vi y1)]) (st2 := [.ref 170]) 1 (fun _ _ => rfl) ?_
        refine pr_get (v := .ref 201) rfl rfl rfl (by decide) (rv_ref (hE5.2.1 170 33 201 rfl)) fun _ => ?_
        refine pr_n (pc2 := 181) (lv2 := [(4, vi y4), (3, vi y3), (2, vi y2), (0, .ref 170), (1, vi y1)]) (st2 := [vi y2, .ref 201]) 1 (fun _ _ => rfl) ?_
        refine pr_aE (k2 := 201) (a := y2) (v := vi (t 201 y2.toNat)) hE5 rfl rfl rfl hy2 (by decide) rfl rfl rfl fun h26 h27 h25 => ?_
        have h25 : i32 (t 201 y2.toNat) := h25
        refine pr_n (pc2 := 183) (lv2 := [(4, vi y4), (3, vi y3), (2, vi y2), (0, .ref 170), (1, vi y1)]) (st2 := [vi 4, vi (t 201 y2.toNat)]) 1 (fun _ _ => rfl) ?_
        by_cases h28 : t 201 y2.toNat ≠ 4
        · refine mq_t h28 ?_
          refine pr_if2t rfl rfl h25 (i32_n rfl) h28 ?_
          refine pr_n (pc2 := 193) (lv2 := [(4, vi y4), (3, vi y3), (2, vi y2), (0, .ref 170), (1, vi y1)]) (st2 := [vi 0, .ref 170]) 2 (fun _ _ => rfl) ?_
          refine pr_m1 (args := [vi 0]) (rest := []) rfl rfl rfl rfl (Nat.le_of_ble_eq_true rfl) rfl (h_137 s5 t 0 hE5 (i32_n rfl)) ?_
          rintro _ z29 t29 s29 ⟨rfl, hz29⟩ hE29
          show pr N2 K d tb_M129 196 [(4, vi y4), (3, vi y3), (2, vi y2), (0, .ref 170), (1, vi y1)] [vi z29] s29 _
          by_cases h30 : z29 ≠ 0
          · refine mq_t h30 ?_
            refine pr_if1t rfl rfl (i32_z hz29) h30 ?_
            refine pr_n (pc2 := 202) (lv2 := [(4, vi y4), (3, vi y3), (2, vi y2), (0, .ref 170), (1, vi y1)]) (st2 := [.ref 170]) 1 (fun _ _ => rfl) ?_
            refine pr_get (v := .ref 201) rfl rfl rfl (by decide) (rv_ref (hE29.2.1 170 33 201 rfl)) fun _ => ?_
            refine pr_n (pc2 := 207) (lv2 := [(4, vi y4), (3, vi y3), (2, vi y2), (0, .ref 170), (1, vi y1)]) (st2 := [vi y2, .ref 201, vi y2, .ref 201]) 2 (fun _ _ => rfl) ?_
            refine pr_aE (k2 := 201) (a := y2) (v := vi (t29 201 y2.toNat)) hE29 rfl rfl rfl hy2 (by decide) rfl rfl rfl fun h32 h33 h31 => ?_
            have h31 : i32 (t29 201 y2.toNat) := h31
            refine pr_n (pc2 := 209) (lv2 := [(4, vi y4), (3, vi y3), (2, vi y2), (0, .ref 170), (1, vi y1)]) (st2 := [vi 1, vi (t29 201 y2.toNat), vi y2, .ref 201]) 1 (fun _ _ => rfl) ?_
            refine pr_i2 (a := t29 201 y2.toNat) (b := 1) rfl rfl ?_
            show pr N2 K d tb_M129 210 [(4, vi y4), (3, vi y3), (2, vi y2), (0, .ref 170), (1, vi y1)] [vi (ipl (t29 201 y2.toNat) 1), vi y2, .ref 201] s29 _
            have h34 : i32 (ipl (t29 201 y2.toNat) 1) := i32_in _
            refine pr_sE (k2 := 201) (a := y2) (z := ipl (t29 201 y2.toNat) 1) hE29 rfl (by decide) rfl rfl hy2 (by decide) rfl (show i32 (ipl (t29 201 y2.toNat) 1) from h34) (n0 rfl (by omega) (by omega)) rfl rfl (fun e => absurd e.1 (by decide)) (fun _ => trivial) fun h35 h36 s37 hE37 => ?_
            refine pr_n (pc2 := 131) (lv2 := [(4, vi y4), (3, vi y3), (2, vi y2), (0, .ref 170), (1, vi y1)]) (st2 := []) 1 (fun _ _ => rfl) ?_
            exact ((ih N2 hN2).1) s37 (up2 t29 201 y2.toNat (ipl (t29 201 y2.toNat) 1)) y4 y3 y2 y1 hE37 hy4 hy3 hy2 hy1
          · refine mq_f h30 ?_
            refine pr_if1f rfl rfl (i32_z hz29) h30 ?_
            refine pr_n (pc2 := 200) (lv2 := [(4, vi y4), (3, vi y3), (2, vi y2), (0, .ref 170), (1, vi y1)]) (st2 := [vi 0]) 1 (fun _ _ => rfl) ?_
            refine pr_end (fun _ _ => rfl) ?_
            exact .inl ⟨_, 0, _, rfl, ⟨rfl, (by decide)⟩, rfl, hE29⟩
        · refine mq_f h28 ?_
          refine pr_if2f rfl rfl h25 (i32_n rfl) h28 ?_
          refine pr_n (pc2 := 187) (lv2 := [(4, vi y4), (3, vi y3), (2, vi y2), (0, .ref 170), (1, vi y1)]) (st2 := [.ref 170]) 1 (fun _ _ => rfl) ?_
          refine pr_s1 (args := []) (rest := []) rfl rfl rfl rfl (Nat.le_of_ble_eq_true rfl) rfl (h_131 s5 t  hE5 ) q_bad0 ?_
          rintro _ s38 ⟨rfl, hz38⟩ hE38
          show pr N2 K d tb_M129 190 [(4, vi y4), (3, vi y3), (2, vi y2), (0, .ref 170), (1, vi y1)] [vi 0] s38 _
          refine pr_end (fun _ _ => rfl) ?_
          exact .inl ⟨_, 0, _, rfl, ⟨rfl, (by decide)⟩, rfl, hE38⟩
      · refine mq_f h24 ?_
        refine pr_if1f rfl rfl h21 h24 ?_
        refine pr_n (pc2 := 173) (lv2 := [(4, vi y4), (3, vi y3), (2, vi y2), (0, .ref 170), (1, vi y1)]) (st2 := [.ref 170]) 1 (fun _ _ => rfl) ?_
        refine pr_m1 (args := []) (rest := []) rfl rfl rfl rfl (Nat.le_of_ble_eq_true rfl) rfl (h_123 s5 t  hE5 ) ?_
        rintro _ _ t39 s39 ⟨rfl, rfl⟩ hE39
        show pr N2 K d tb_M129 176 [(4, vi y4), (3, vi y3), (2, vi y2), (0, .ref 170), (1, vi y1)] [] s39 _
        refine pr_n (pc2 := 177) (lv2 := [(4, vi y4), (3, vi y3), (2, vi y2), (0, .ref 170), (1, vi y1)]) (st2 := [.ref 170]) 1 (fun _ _ => rfl) ?_
        refine pr_get (v := .ref 201) rfl rfl rfl (by decide) (rv_ref (hE39.2.1 170 33 201 rfl)) fun _ => ?_
        refine pr_n (pc2 := 181) (lv2 := [(4, vi y4), (3, vi y3), (2, vi y2), (0, .ref 170), (1, vi y1)]) (st2 := [vi y2, .ref 201]) 1 (fun _ _ => rfl) ?_
        refine pr_aE (k2 := 201) (a := y2) (v := vi (t39 201 y2.toNat)) hE39 rfl rfl rfl hy2 (by decide) rfl rfl rfl fun h41 h42 h40 => ?_
        have h40 : i32 (t39 201 y2.toNat) := h40
        refine pr_n (pc2 := 183) (lv2 := [(4, vi y4), (3, vi y3), (2, vi y2), (0, .ref 170), (1, vi y1)]) (st2 := [vi 4, vi (t39 201 y2.toNat)]) 1 (fun _ _ => rfl) ?_
        by_cases h43 : t39 201 y2.toNat ≠ 4
        · refine mq_t h43 ?_
          refine pr_if2t rfl rfl h40 (i32_n rfl) h43 ?_
          refine pr_n (pc2 := 193) (lv2 := [(4, vi y4), (3, vi y3), (2, vi y2), (0, .ref 170), (1, vi y1)]) (st2 := [vi 0, .ref 170]) 2 (fun _ _ => rfl) ?_
          refine pr_m1 (args := [vi 0]) (rest := []) rfl rfl rfl rfl (Nat.le_of_ble_eq_true rfl) rfl (h_137 s39 t39 0 hE39 (i32_n rfl)) ?_
          rintro _ z44 t44 s44 ⟨rfl, hz44⟩ hE44
          show pr N2 K d tb_M129 196 [(4, vi y4), (3, vi y3), (2, vi y2), (0, .ref 170), (1, vi y1)] [vi z44] s44 _
          by_cases h45 : z44 ≠ 0
          · refine mq_t h45 ?_
            refine pr_if1t rfl rfl (i32_z hz44) h45 ?_
            refine pr_n (pc2 := 202) (lv2 := [(4, vi y4), (3, vi y3), (2, vi y2), (0, .ref 170), (1, vi y1)]) (st2 := [.ref 170]) 1 (fun _ _ => rfl) ?_
            refine pr_get (v := .ref 201) rfl rfl rfl (by decide) (rv_ref (hE44.2.1 170 33 201 rfl)) fun _ => ?_
            refine pr_n (pc2 := 207) (lv2 := [(4, vi y4), (3, vi y3), (2, vi y2), (0, .ref 170), (1, vi y1)]) (st2 := [vi y2, .ref 201, vi y2, .ref 201]) 2 (fun _ _ => rfl) ?_
            refine pr_aE (k2 := 201) (a := y2) (v := vi (t44 201 y2.toNat)) hE44 rfl rfl rfl hy2 (by decide) rfl rfl rfl fun h47 h48 h46 => ?_
            have h46 : i32 (t44 201 y2.toNat) := h46
            refine pr_n (pc2 := 209) (lv2 := [(4, vi y4), (3, vi y3), (2, vi y2), (0, .ref 170), (1, vi y1)]) (st2 := [vi 1, vi (t44 201 y2.toNat), vi y2, .ref 201]) 1 (fun _ _ => rfl) ?_
            refine pr_i2 (a := t44 201 y2.toNat) (b := 1) rfl rfl ?_
            show pr N2 K d tb_M129 210 [(4, vi y4), (3, vi y3), (2, vi y2), (0, .ref 170), (1, vi y1)] [vi (ipl (t44 201 y2.toNat) 1), vi y2, .ref 201] s44 _
            have h49 : i32 (ipl (t44 201 y2.toNat) 1) := i32_in _
            refine pr_sE (k2 := 201) (a := y2) (z := ipl (t44 201 y2.toNat) 1) hE44 rfl (by decide) rfl rfl hy2 (by decide) rfl (show i32 (ipl (t44 201 y2.toNat) 1) from h49) (n0 rfl (by omega) (by omega)) rfl rfl (fun e => absurd e.1 (by decide)) (fun _ => trivial) fun h50 h51 s52 hE52 => ?_
            refine pr_n (pc2 := 131) (lv2 := [(4, vi y4), (3, vi y3), (2, vi y2), (0, .ref 170), (1, vi y1)]) (st2 := []) 1 (fun _ _ => rfl) ?_
            exact ((ih N2 hN2).1) s52 (up2 t44 201 y2.toNat (ipl (t44 201 y2.toNat) 1)) y4 y3 y2 y1 hE52 hy4 hy3 hy2 hy1
          · refine mq_f h45 ?_
            refine pr_if1f rfl rfl (i32_z hz44) h45 ?_
            refine pr_n (pc2 := 200) (lv2 := [(4, vi y4), (3, vi y3), (2, vi y2), (0, .ref 170), (1, vi y1)]) (st2 := [vi 0]) 1 (fun _ _ => rfl) ?_
            refine pr_end (fun _ _ => rfl) ?_
            exact .inl ⟨_, 0, _, rfl, ⟨rfl, (by decide)⟩, rfl, hE44⟩
        · refine mq_f h43 ?_
          refine pr_if2f rfl rfl h40 (i32_n rfl) h43 ?_
          refine pr_n (pc2 := 187) (lv2 := [(4, vi y4), (3, vi y3), (2, vi y2), (0, .ref 170), (1, vi y1)]) (st2 := [.ref 170]) 1 (fun _ _ => rfl) ?_
          refine pr_s1 (args := []) (rest := []) rfl rfl rfl rfl (Nat.le_of_ble_eq_true rfl) rfl (h_131 s39 t39  hE39 ) q_bad0 ?_
          rintro _ s53 ⟨rfl, hz53⟩ hE53
          show pr N2 K d tb_M129 190 [(4, vi y4), (3, vi y3), (2, vi y2), (0, .ref 170), (1, vi y1)] [vi 0] s53 _
          refine pr_end (fun _ _ => rfl) ?_
          exact .inl ⟨_, 0, _, rfl, ⟨rfl, (by decide)⟩, rfl, hE53⟩
  · refine mq_f h4 ?_
    refine pr_if1f rfl rfl h1 h4 ?_
    refine pr_n (pc2 := 144) (lv2 := [(4, vi y4), (3, vi y3), (2, vi y2), (0, .ref 170), (1, vi y1)]) (st2 := [.ref 24, .ref 170]) 2 (fun _ _ => rfl) ?_
    refine pr_p1 (args := [.ref 24]) (rest := []) rfl rfl rfl rfl (Nat.le_of_ble_eq_true rfl) rfl (h_127 s t 24 hE isX_24) (fun z t3 => pu_127) ?_
    rintro _ z54 s54 ⟨rfl, hz54⟩ hX54 hE54
    show pr N2 K d tb_M129 147 [(4, vi y4), (3, vi y3), (2, vi y2), (0, .ref 170), (1, vi y1)] [vi z54] s54 _
    by_cases h55 : z54 ≠ 0
    · refine mq_t h55 ?_
      refine pr_if1t rfl rfl (i32_z hz54) h55 ?_
      refine pr_n (pc2 := 218) (lv2 := [(4, vi y4), (3, vi y3), (2, vi y2), (0, .ref 170), (1, vi y1)]) (st2 := [.ref 24, .ref 170]) 2 (fun _ _ => rfl) ?_
      refine pr_m1 (args := [.ref 24]) (rest := []) rfl rfl rfl rfl (Nat.le_of_ble_eq_true rfl) rfl (h_136 s54 t 24 hE54 isX_24) ?_
      rintro _ z56 t56 s56 ⟨rfl, hz56⟩ hE56
      show pr N2 K d tb_M129 221 [(4, vi y4), (3, vi y3), (2, vi y2), (0, .ref 170), (1, vi y1)] [vi z56] s56 _
      by_cases h57 : z56 ≠ 0
      · refine mq_t h57 ?_
        refine pr_if1t rfl rfl (i32_z hz56) h57 ?_
        refine pr_n (pc2 := 227) (lv2 := [(4, vi y4), (3, vi y3), (2, vi y2), (0, .ref 170), (1, vi y1)]) (st2 := [.ref 170]) 1 (fun _ _ => rfl) ?_
        refine pr_s1 (args := []) (rest := []) rfl rfl rfl rfl (Nat.le_of_ble_eq_true rfl) rfl (h_138 s56 t56  hE56 ) q_rfg ?_
        rintro _ s58 ⟨rfl, _⟩ hE58
        show pr N2 K d tb_M129 230 [(4, vi y4), (3, vi y3), (2, vi y2), (0, .ref 170), (1, vi y1)] [] s58 _
        refine pr_n (pc2 := 231) (lv2 := [(4, vi y4), (3, vi y3), (2, vi y2), (0, .ref 170), (1, vi y1)]) (st2 := [.ref 170]) 1 (fun _ _ => rfl) ?_
        refine pr_get (v := .ref 200) rfl rfl rfl (by decide) (rv_ref (hE58.2.1 170 32 200 rfl)) fun _ => ?_
        refine pr_n (pc2 := 236) (lv2 := [(4, vi y4), (3, vi y3), (2, vi y2), (0, .ref 170), (1, vi y1)]) (st2 := [.ref 170, vi y2, .ref 200]) 2 (fun _ _ => rfl) ?_
        refine pr_get (v := .ref C) rfl rfl rfl (by decide) (rv_ref (show s58.1 170 19 = ((C : Nat) : Int) from hE58.2.2.1)) fun _ => ?_
        refine pr_gE (k2 := 177) (v := vi ((rfg t56) 177 1)) hE58 rfl rfl (TG_C hC) (by decide) rfl rfl rfl fun h59 => ?_
        have h59 : i32 ((rfg t56) 177 1) := h59
        refine pr_sE (k2 := 200) (a := y2) (z := (rfg t56) 177 1) hE58 rfl (by decide) rfl rfl hy2 (by decide) rfl (show i32 ((rfg t56) 177 1) from h59) (n0 rfl (by omega) (by omega)) rfl rfl (fun e => absurd e.1 (by decide)) (fun _ => trivial) fun h60 h61 s62 hE62 => ?_
        refine pr_n (pc2 := 244) (lv2 := [(4, vi y4), (3, vi y3), (2, vi y2), (0, .ref 170), (1, vi y1)]) (st2 := [vi y1]) 1 (fun _ _ => rfl) ?_
        by_cases h63 : y1 = 0
        · refine mq_t h63 ?_
          refine pr_if1t rfl rfl hy1 h63 ?_
          refine pr_n (pc2 := 259) (lv2 := [(4, vi y4), (3, vi y3), (2, vi y2), (0, .ref 170), (1, vi y1)]) (st2 := [.ref 170]) 1 (fun _ _ => rfl) ?_
          refine pr_m1 (args := []) (rest := []) rfl rfl rfl rfl (Nat.le_of_ble_eq_true rfl) rfl (h_159 s62 (up2 ((rfg t56)) 200 y2.toNat ((rfg t56) 177 1))  hE62 ) ?_
          rintro _ z64 t64 s64 ⟨rfl, hz64⟩ hE64
          show pr N2 K d tb_M129 262 [(4, vi y4), (3, vi y3), (2, vi y2), (0, .ref 170), (1, vi y1)] [vi z64] s64 _
          by_cases h65 : z64 ≠ 0
          · refine mq_t h65 ?_
            refine pr_if1t rfl rfl (i32_z hz64) h65 ?_
            refine pr_n (pc2 := 270) (lv2 := [(4, vi y4), (3, vi y3), (2, vi y2), (0, .ref 170), (1, vi y1)]) (st2 := [vi 12, .ref 170]) 2 (fun _ _ => rfl) ?_
            refine pr_s1 (args := [vi 12]) (rest := []) rfl rfl rfl rfl (Nat.le_of_ble_eq_true rfl) rfl (h_140 s64 t64 12 hE64 (i32_n rfl)) q_put1 ?_
            rintro _ s66 ⟨rfl, hz66⟩ hE66
            show pr N2 K d tb_M129 273 [(4, vi y4), (3, vi y3), (2, vi y2), (0, .ref 170), (1, vi y1)] [vi (ptz t64)] s66 _
            refine pr_n (pc2 := 277) (lv2 := [(5, vi 0), (4, vi y4), (3, vi y3), (2, vi y2), (0, .ref 170), (1, vi y1)]) (st2 := []) 3 (fun _ _ => rfl) ?_
            exact ((ih N2 hN2).2) s66 ((pt1 t64 12)) 0 y4 y3 y2 y1 hE66 (i32_n rfl) hy4 hy3 hy2 hy1
          · refine mq_f h65 ?_
            refine pr_if1f rfl rfl (i32_z hz64) h65 ?_
            refine pr_n (pc2 := 266) (lv2 := [(4, vi y4), (3, vi y3), (2, vi y2), (0, .ref 170), (1, vi y1)]) (st2 := [vi 0]) 1 (fun _ _ => rfl) ?_
            refine pr_end (fun _ _ => rfl) ?_
            exact .inl ⟨_, 0, _, rfl, ⟨rfl, (by decide)⟩, rfl, hE64⟩
        · refine mq_f h63 ?_
          refine pr_if1f rfl rfl hy1 h63 ?_
          refine pr_n (pc2 := 249) (lv2 := [(4, vi y4), (3, vi y3), (2, vi y2), (0, .ref 170), (1, vi y1)]) (st2 := [vi 0, .ref 170]) 2 (fun _ _ => rfl) ?_
          refine pr_m1 (args := [vi 0]) (rest := []) rfl rfl rfl rfl (Nat.le_of_ble_eq_true rfl) rfl (h_139 s62 (up2 ((rfg t56)) 200 y2.toNat ((rfg t56) 177 1)) 0 hE62 (i32_n rfl)) ?_
          rintro _ z67 t67 s67 ⟨rfl, hz67⟩ hE67
          show pr N2 K d tb_M129 252 [(4, vi y4), (3, vi y3), (2, vi y2), (0, .ref 170), (1, vi y1)] [vi z67] s67 _
          by_cases h68 : z67 = 0
          · refine mq_t h68 ?_
            refine pr_if1t rfl rfl (i32_z hz67) h68 ?_
            refine pr_n (pc2 := 266) (lv2 := [(4, vi y4), (3, vi y3), (2, vi y2), (0, .ref 170), (1, vi y1)]) (st2 := [vi 0]) 1 (fun _ _ => rfl) ?_
            refine pr_end (fun _ _ => rfl) ?_
            exact .inl ⟨_, 0, _, rfl, ⟨rfl, (by decide)⟩, rfl, hE67⟩
          · refine mq_f h68 ?_
            refine pr_if1f rfl rfl (i32_z hz67) h68 ?_
            refine pr_n (pc2 := 270) (lv2 := [(4, vi y4), (3, vi y3), (2, vi y2), (0, .ref 170), (1, vi y1)]) (st2 := [vi 12, .ref 170]) 3 (fun _ _ => rfl) ?_
            refine pr_s1 (args := [vi 12]) (rest := []) rfl rfl rfl rfl (Nat.le_of_ble_eq_true rfl) rfl (h_140 s67 t67 12 hE67 (i32_n rfl)) q_put1 ?_
            rintro _ s69 ⟨rfl, hz69⟩ hE69
            show pr N2 K d tb_M129 273 [(4, vi y4), (3, vi y3), (2, vi y2), (0, .ref 170), (1, vi y1)] [vi (ptz t67)] s69 _
            refine pr_n (pc2 := 277) (lv2 := [(5, vi 0), (4, vi y4), (3, vi y3), (2, vi y2), (0, .ref 170), (1, vi y1)]) (st2 := []) 3 (fun _ _ => rfl) ?_
            exact ((ih N2 hN2).2) s69 ((pt1 t67 12)) 0 y4 y3 y2 y1 hE69 (i32_n rfl) hy4 hy3 hy2 hy1
      · refine mq_f h57 ?_
        refine pr_if1f rfl rfl (i32_z hz56) h57 ?_
        refine pr_n (pc2 := 225) (lv2 := [(4, vi y4), (3, vi y3), (2, vi y2), (0, .ref 170), (1, vi y1)]) (st2 := [vi 0]) 1 (fun _ _ => rfl) ?_
        refine pr_end (fun _ _ => rfl) ?_
        exact .inl ⟨_, 0, _, rfl, ⟨rfl, (by decide)⟩, rfl, hE56⟩
    · refine mq_f h55 ?_
      refine pr_if1f rfl rfl (i32_z hz54) h55 ?_
      refine pr_n (pc2 := 164) (lv2 := [(4, vi y4), (3, vi y3), (2, vi y2), (0, .ref 170), (1, vi y1)]) (st2 := [.ref 170]) 2 (fun _ _ => rfl) ?_
      refine pr_get (v := .ref 201) rfl rfl rfl (by decide) (rv_ref (hE54.2.1 170 33 201 rfl)) fun _ => ?_
      refine pr_n (pc2 := 168) (lv2 := [(4, vi y4), (3, vi y3), (2, vi y2), (0, .ref 170), (1, vi y1)]) (st2 := [vi y2, .ref 201]) 1 (fun _ _ => rfl) ?_
      refine pr_aE (k2 := 201) (a := y2) (v := vi (t 201 y2.toNat)) hE54 rfl rfl rfl hy2 (by decide) rfl rfl rfl fun h71 h72 h70 => ?_
      have h70 : i32 (t 201 y2.toNat) := h70
      by_cases h73 : t 201 y2.toNat ≤ 0
      · refine mq_t h73 ?_
        refine pr_if1t rfl rfl h70 h73 ?_
        refine pr_n (pc2 := 177) (lv2 := [(4, vi y4), (3, vi y3), (2, vi y2), (0, .ref 170), (1, vi y1)]) (st2 := [.ref 170]) 1 (fun _ _ => rfl) ?_
        refine pr_get (v := .ref 201) rfl rfl rfl (by decide) (rv_ref (hE54.2.1 170 33 201 rfl)) fun _ => ?_
        refine pr_n (pc2 := 181) (lv2 := [(4, vi y4), (3, vi y3), (2, vi y2), (0, .ref 170), (1, vi y1)]) (st2 := [vi y2, .ref 201]) 1 (fun _ _ => rfl) ?_
        refine pr_aE (k2 := 201) (a := y2) (v := vi (t 201 y2.toNat)) hE54 rfl rfl rfl hy2 (by decide) rfl rfl rfl fun h75 h76 h74 => ?_
        have h74 : i32 (t 201 y2.toNat) := h74
        refine pr_n (pc2 := 183) (lv2 := [(4, vi y4), (3, vi y3), (2, vi y2), (0, .ref 170), (1, vi y1)]) (st2 := [vi 4, vi (t 201 y2.toNat)]) 1 (fun _ _ => rfl) ?_
        by_cases h77 : t 201 y2.toNat ≠ 4
        · refine mq_t h77 ?_
          refine pr_if2t rfl rfl h74 (i32_n rfl) h77 ?_
          refine pr_n (pc2 := 193) (lv2 := [(4, vi y4), (3, vi y3), (2, vi y2), (0, .ref 170), (1, vi y1)]) (st2 := [vi 0, .ref 170]) 2 (fun _ _ => rfl) ?_
          refine pr_m1 (args := [vi 0]) (rest := []) rfl rfl rfl rfl (Nat.le_of_ble_eq_true rfl) rfl (h_137 s54 t 0 hE54 (i32_n rfl)) ?_
          rintro _ z78 t78 s78 ⟨rfl, hz78⟩ hE78
          show pr N2 K d tb_M129 196 [(4, vi y4), (3, vi y3), (2, vi y2), (0, .ref 170), (1, vi y1)] [vi z78] s78 _
          by_cases h79 : z78 ≠ 0
          · refine mq_t h79 ?_
            refine pr_if1t rfl rfl (i32_z hz78) h79 ?_
            refine pr_n (pc2 := 202) (lv2 := [(4, vi y4), (3, vi y3), (2, vi y2), (0, .ref 170), (1, vi y1)]) (st2 := [.ref 170]) 1 (fun _ _ => rfl) ?_
            refine pr_get (v := .ref 201) rfl rfl rfl (by decide) (rv_ref (hE78.2.1 170 33 201 rfl)) fun _ => ?_
            refine pr_n (pc2 := 207) (lv2 := [(4, vi y4), (3, vi y3), (2, vi y2), (0, .ref 170), (1, vi y1)]) (st2 := [vi y2, .ref 201, vi y2, .ref 201]) 2 (fun _ _ => rfl) ?_
            refine pr_aE (k2 := 201) (a := y2) (v := vi (t78 201 y2.toNat)) hE78 rfl rfl rfl hy2 (by decide) rfl rfl rfl fun h81 h82 h80 => ?_
            have h80 : i32 (t78 201 y2.toNat) := h80
            refine pr_n (pc2 := 209) (lv2 := [(4, vi y4), (3, vi y3), (2, vi y2), (0, .ref 170), (1, vi y1)]) (st2 := [vi 1, vi (t78 201 y2.toNat), vi y2, .ref 201]) 1 (fun _ _ => rfl) ?_
            refine pr_i2 (a := t78 201 y2.toNat) (b := 1) rfl rfl ?_
            show pr N2 K d tb_M129 210 [(4, vi y4), (3, vi y3), (2, vi y2), (0, .ref 170), (1, vi y1)] [vi (ipl (t78 201 y2.toNat) 1), vi y2, .ref 201] s78 _
            have h83 : i32 (ipl (t78 201 y2.toNat) 1) := i32_in _
            refine pr_sE (k2 := 201) (a := y2) (z := ipl (t78 201 y2.toNat) 1) hE78 rfl (by decide) rfl rfl hy2 (by decide) rfl (show i32 (ipl (t78 201 y2.toNat) 1) from h83) (n0 rfl (by omega) (by omega)) rfl rfl (fun e => absurd e.1 (by decide)) (fun _ => trivial) fun h84 h85 s86 hE86 => ?_
            refine pr_n (pc2 := 131) (lv2 := [(4, vi y4), (3, vi y3), (2, vi y2), (0, .ref 170), (1, vi y1)]) (st2 := []) 1 (fun _ _ => rfl) ?_
            exact ((ih N2 hN2).1) s86 (up2 t78 201 y2.toNat (ipl (t78 201 y2.toNat) 1)) y4 y3 y2 y1 hE86 hy4 hy3 hy2 hy1
          · refine mq_f h79 ?_
            refine pr_if1f rfl rfl (i32_z hz78) h79 ?_
            refine pr_n (pc2 := 200) (lv2 := [(4, vi y4), (3, vi y3), (2, vi y2), (0, .ref 170), (1, vi y1)]) (st2 := [vi 0]) 1 (fun _ _ => rfl) ?_
            refine pr_end (fun _ _ => rfl) ?_
            exact .inl ⟨_, 0, _, rfl, ⟨rfl, (by decide)⟩, rfl, hE78⟩
        · refine mq_f h77 ?_
          refine pr_if2f rfl rfl h74 (i32_n rfl) h77 ?_
          refine pr_n (pc2 := 187) (lv2 := [(4, vi y4), (3, vi y3), (2, vi y2), (0, .ref 170), (1, vi y1)]) (st2 := [.ref 170]) 1 (fun _ _ => rfl) ?_
          refine pr_s1 (args := []) (rest := []) rfl rfl rfl rfl (Nat.le_of_ble_eq_true rfl) rfl (h_131 s54 t  hE54 ) q_bad0 ?_
          rintro _ s87 ⟨rfl, hz87⟩ hE87
          show pr N2 K d tb_M129 190 [(4, vi y4), (3, vi y3), (2, vi y2), (0, .ref 170), (1, vi y1)] [vi 0] s87 _
          refine pr_end (fun _ _ => rfl) ?_
          exact .inl ⟨_, 0, _, rfl, ⟨rfl, (by decide)⟩, rfl, hE87⟩
      · refine mq_f h73 ?_
        refine pr_if1f rfl rfl h70 h73 ?_
        refine pr_n (pc2 := 173) (lv2 := [(4, vi y4), (3, vi y3), (2, vi y2), (0, .ref 170), (1, vi y1)]) (st2 := [.ref 170]) 1 (fun _ _ => rfl) ?_
        refine pr_m1 (args := []) (rest := []) rfl rfl rfl rfl (Nat.le_of_ble_eq_true rfl) rfl (h_123 s54 t  hE54 ) ?_
        rintro _ _ t88 s88 ⟨rfl, rfl⟩ hE88
        show pr N2 K d tb_M129 176 [(4, vi y4), (3, vi y3), (2, vi y2), (0, .ref 170), (1, vi y1)] [] s88 _
        refine pr_n (pc2 := 177) (lv2 := [(4, vi y4), (3, vi y3), (2, vi y2), (0, .ref 170), (1, vi y1)]) (st2 := [.ref 170]) 1 (fun _ _ => rfl) ?_
        refine pr_get (v := .ref 201) rfl rfl rfl (by decide) (rv_ref (hE88.2.1 170 33 201 rfl)) fun _ => ?_
        refine pr_n (pc2 := 181) (lv2 := [(4, vi y4), (3, vi y3), (2, vi y2), (0, .ref 170), (1, vi y1)]) (st2 := [vi y2, .ref 201]) 1 (fun _ _ => rfl) ?_
        refine pr_aE (k2 := 201) (a := y2) (v := vi (t88 201 y2.toNat)) hE88 rfl rfl rfl hy2 (by decide) rfl rfl rfl fun h90 h91 h89 => ?_
        have h89 : i32 (t88 201 y2.toNat) := h89
        refine pr_n (pc2 := 183) (lv2 := [(4, vi y4), (3, vi y3), (2, vi y2), (0, .ref 170), (1, vi y1)]) (st2 := [vi 4, vi (t88 201 y2.toNat)]) 1 (fun _ _ => rfl) ?_
        by_cases h92 : t88 201 y2.toNat ≠ 4
        · refine mq_t h92 ?_
          refine pr_if2t rfl rfl h89 (i32_n rfl) h92 ?_
          refine pr_n (pc2 := 193) (lv2 := [(4, vi y4), (3, vi y3), (2, vi y2), (0, .ref 170), (1, vi y1)]) (st2 := [vi 0, .ref 170]) 2 (fun _ _ => rfl) ?_
          refine pr_m1 (args := [vi 0]) (rest := []) rfl rfl rfl rfl (Nat.le_of_ble_eq_true rfl) rfl (h_137 s88 t88 0 hE88 (i32_n rfl)) ?_
          rintro _ z93 t93 s93 ⟨rfl, hz93⟩ hE93
          show pr N2 K d tb_M129 196 [(4, vi y4), (3, vi y3), (2, vi y2), (0, .ref 170), (1, vi y1)] [vi z93] s93 _
          by_cases h94 : z93 ≠ 0
          · refine mq_t h94 ?_
            refine pr_if1t rfl rfl (i32_z hz93) h94 ?_
            refine pr_n (pc2 := 202) (lv2 := [(4, vi y4), (3, vi y3), (2, vi y2), (0, .ref 170), (1, vi y1)]) (st2 := [.ref 170]) 1 (fun _ _ => rfl) ?_
            refine pr_get (v := .ref 201) rfl rfl rfl (by decide) (rv_ref (hE93.2.1 170 33 201 rfl)) fun _ => ?_
            refine pr_n (pc2 := 207) (lv2 := [(4, vi y4), (3, vi y3), (2, vi y2), (0, .ref 170), (1, vi y1)]) (st2 := [vi y2, .ref 201, vi y2, .ref 201]) 2 (fun _ _ => rfl) ?_
            refine pr_aE (k2 := 201) (a := y2) (v := vi (t93 201 y2.toNat)) hE93 rfl rfl rfl hy2 (by decide) rfl rfl rfl fun h96 h97 h95 => ?_
            have h95 : i32 (t93 201 y2.toNat) := h95
            refine pr_n (pc2 := 209) (lv2 := [(4, vi y4), (3, vi y3), (2, vi y2), (0, .ref 170), (1, vi y1)]) (st2 := [vi 1, vi (t93 201 y2.toNat), vi y2, .ref 201]) 1 (fun _ _ => rfl) ?_
            refine pr_i2 (a := t93 201 y2.toNat) (b := 1) rfl rfl ?_
            show pr N2 K d tb_M129 210 [(4, vi y4), (3, vi y3), (2, vi y2), (0, .ref 170), (1, vi y1)] [vi (ipl (t93 201 y2.toNat) 1), vi y2, .ref 201] s93 _
            have h98 : i32 (ipl (t93 201 y2.toNat) 1) := i32_in _
            refine pr_sE (k2 := 201) (a := y2) (z := ipl (t93 201 y2.toNat) 1) hE93 rfl (by decide) rfl rfl hy2 (by decide) rfl (show i32 (ipl (t93 201 y2.toNat) 1) from h98) (n0 rfl (by omega) (by omega)) rfl rfl (fun e => absurd e.1 (by decide)) (fun _ => trivial) fun h99 h100 s101 hE101 => ?_
            refine pr_n (pc2 := 131) (lv2 := [(4, vi y4), (3, vi y3), (2, vi y2), (0, .ref 170), (1, vi y1)]) (st2 := []) 1 (fun _ _ => rfl) ?_
            exact ((ih N2 hN2).1) s101 (up2 t93 201 y2.toNat (ipl (t93 201 y2.toNat) 1)) y4 y3 y2 y1 hE101 hy4 hy3 hy2 hy1
          · refine mq_f h94 ?_
            refine pr_if1f rfl rfl (i32_z hz93) h94 ?_
            refine pr_n (pc2 := 200) (lv2 := [(4, vi y4), (3, vi y3), (2, vi y2), (0, .ref 170), (1, vi y1)]) (st2 := [vi 0]) 1 (fun _ _ => rfl) ?_
            refine pr_end (fun _ _ => rfl) ?_
            exact .inl ⟨_, 0, _, rfl, ⟨rfl, (by decide)⟩, rfl, hE93⟩
        · refine mq_f h92 ?_
          refine pr_if2f rfl rfl h89 (i32_n rfl) h92 ?_
          refine pr_n (pc2 := 187) (lv2 := [(4, vi y4), (3, vi y3), (2, vi y2), (0, .ref 170), (1, vi y1)]) (st2 := [.ref 170]) 1 (fun _ _ => rfl) ?_
          refine pr_s1 (args := []) (rest := []) rfl rfl rfl rfl (Nat.le_of_ble_eq_true rfl) rfl (h_131 s88 t88  hE88 ) q_bad0 ?_
          rintro _ s102 ⟨rfl, hz102⟩ hE102
          show pr N2 K d tb_M129 190 [(4, vi y4), (3, vi y3), (2, vi y2), (0, .ref 170), (1, vi y1)] [vi 0] s102 _
          refine pr_end (fun _ _ => rfl) ?_
          exact .inl ⟨_, 0, _, rfl, ⟨rfl, (by decide)⟩, rfl, hE102⟩
set_option maxHeartbeats 20000000 in
set_option maxRecDepth 100000 in
theorem ru129_1 {N K d C : Nat} (h_123 : rT123 K d C) (h_127 : rT127 K d C) (h_130 : rT130 K d C) (h_131 : rT131 K d C) (h_133 : rT133 K d C) (h_135 : rT135 K d C) (h_136 : rT136 K d C) (h_137 : rT137 K d C) (h_138 : rT138 K d C) (h_139 : rT139 K d C) (h_140 : rT140 K d C) (h_159 : rT159 K d C) (ih : ∀ N2, N2 < N → rA129 N2 K d C) : rU129_1 N K d C := by
  intro s t y5 y4 y3 y2 y1 hE hy5 hy4 hy3 hy2 hy1
  have hC : C = 177 ∨ C = 186 := hE.1
  rw [rG_129_277]
  unfold rM129_277
  refine pr_lt (pc2 := 279) (lv2 := [(5, vi y5), (4, vi y4), (3, vi y3), (2, vi y2), (0, .ref 170), (1, vi y1)]) (st2 := [vi y5]) (fun _ _ => rfl) fun N2 hN2 => ?_
  refine pr_n (pc2 := 280) (lv2 := [(5, vi y5), (4, vi y4), (3, vi y3), (2, vi y2), (0, .ref 170), (1, vi y1)]) (st2 := [.ref 170, vi y5]) 1 (fun _ _ => rfl) ?_
  refine pr_get (v := .ref 201) rfl rfl rfl (by decide) (rv_ref (hE.2.1 170 33 201 rfl)) fun _ => ?_
  refine pr_n (pc2 := 284) (lv2 := [(5, vi y5), (4, vi y4), (3, vi y3), (2, vi y2), (0, .ref 170), (1, vi y1)]) (st2 := [vi y2, .ref 201, vi y5]) 1 (fun _ _ => rfl) ?_
  refine pr_aE (k2 := 201) (a := y2) (v := vi (t 201 y2.toNat)) hE rfl rfl rfl hy2 (by decide) rfl rfl rfl fun h2 h3 h1 => ?_
  have h1 : i32 (t 201 y2.toNat) := h1
  by_cases h4 : t 201 y2.toNat ≤ y5
  · refine mq_t h4 ?_
    refine pr_if2t rfl rfl hy5 h1 h4 ?_
    refine pr_n (pc2 := 315) (lv2 := [(5, vi y5), (4, vi y4), (3, vi y3), (2, vi y2), (0, .ref 170), (1, vi y1)]) (st2 := [.ref 170]) 1 (fun _ _ => rfl) ?_
    refine pr_get (v := .ref 195) rfl rfl rfl (by decide) (rv_ref (hE.2.1 170 27 195 rfl)) fun _ => ?_
    refine pr_n (pc2 := 320) (lv2 := [(5, vi y5), (4, vi y4), (3, vi y3), (2, vi y2), (0, .ref 170), (1, vi y1)]) (st2 := [.ref 170, vi y2, .ref 195]) 2 (fun _ _ => rfl) ?_
    refine pr_gE (k2 := 170) (v := vl (t 170 22)) hE rfl rfl rfl (by decide) rfl rfl rfl fun h5 => ?_
    have h5 : i64 (t 170 22) := h5
    refine pr_sE (k2 := 195) (a := y2) (z := t 170 22) hE rfl (by decide) rfl rfl hy2 (by decide) rfl h5 (n0 rfl (by omega) (by omega)) rfl rfl (fun e => absurd e.1 (by decide)) (fun _ => trivial) fun h6 h7 s8 hE8 => ?_
    refine pr_n (pc2 := 325) (lv2 := [(5, vi y5), (4, vi y4), (3, vi y3), (2, vi y2), (0, .ref 170), (1, vi y1)]) (st2 := [.ref 170]) 1 (fun _ _ => rfl) ?_
    refine pr_get (v := .ref 196) rfl rfl rfl (by decide) (rv_ref (hE8.2.1 170 28 196 rfl)) fun _ => ?_
    refine pr_n (pc2 := 330) (lv2 := [(5, vi y5), (4, vi y4), (3, vi y3), (2, vi y2), (0, .ref 170), (1, vi y1)]) (st2 := [.ref 170, vi y2, .ref 196]) 2 (fun _ _ => rfl) ?_
    refine pr_gE (k2 := 170) (v := vl (t 170 23)) hE8 rfl rfl rfl (by decide) rfl rfl rfl fun h9 => ?_
    have h9 : i64 (t 170 23) := h9
    refine pr_sE (k2 := 196) (a := y2) (z := t 170 23) hE8 rfl (by decide) rfl rfl hy2 (by decide) rfl h9 (n0 rfl (by omega) (by omega)) rfl rfl (fun e => absurd e.1 (by decide)) (fun _ => trivial) fun h10 h11 s12 hE12 => ?_
    refine pr_n (pc2 := 335) (lv2 := [(5, vi y5), (4, vi y4), (3, vi y3), (2, vi y2), (0, .ref 170), (1, vi y1)]) (st2 := [.ref 170]) 1 (fun _ _ => rfl) ?_
    refine pr_get (v := .ref 197) rfl rfl rfl (by decide) (rv_ref (hE12.2.1 170 29 197 rfl)) fun _ => ?_
    refine pr_n (pc2 := 340) (lv2 := [(5, vi y5), (4, vi y4), (3, vi y3), (2, vi y2), (0, .ref 170), (1, vi y1)]) (st2 := [.ref 170, vi y2, .ref 197]) 2 (fun _ _ => rfl) ?_
    refine pr_gE (k2 := 170) (v := vl (t 170 24)) hE12 rfl rfl rfl (by decide) rfl rfl rfl fun h13 => ?_
    have h13 : i64 (t 170 24) := h13
    refine pr_sE (k2 := 197) (a := y2) (z := t 170 24) hE12 rfl (by decide) rfl rfl hy2 (by decide) rfl h13 (n0 rfl (by omega) (by omega)) rfl rfl (fun e => absurd e.1 (by decide)) (fun _ => trivial) fun h14 h15 s16 hE16 => ?_
    refine pr_n (pc2 := 345) (lv2 := [(5, vi y5), (4, vi y4), (3, vi y3), (2, vi y2), (0, .ref 170), (1, vi y1)]) (st2 := [.ref 170]) 1 (fun _ _ => rfl) ?_
    refine pr_get (v := .ref 198) rfl rfl rfl (by decide) (rv_ref (hE16.2.1 170 30 198 rfl)) fun _ => ?_
    refine pr_n (pc2 := 350) (lv2 := [(5, vi y5), (4, vi y4), (3, vi y3), (2, vi y2), (0, .ref 170), (1, vi y1)]) (st2 := [.ref 170, vi y2, .ref 198]) 2 (fun _ _ => rfl) ?_
    refine pr_gE (k2 := 170) (v := vl (t 170 25)) hE16 rfl rfl rfl (by decide) rfl rfl rfl fun h17 => ?_
    have h17 : i64 (t 170 25) := h17
    refine pr_sE (k2 := 198) (a := y2) (z := t 170 25) hE16 rfl (by decide) rfl rfl hy2 (by decide) rfl h17 (n0 rfl (by omega) (by omega)) rfl rfl (fun e => absurd e.1 (by decide)) (fun _ => trivial) fun h18 h19 s20 hE20 => ?_
    refine pr_n (pc2 := 355) (lv2 := [(5, vi y5), (4, vi y4), (3, vi y3), (2, vi y2), (0, .ref 170), (1, vi y1)]) (st2 := [.ref 170]) 1 (fun _ _ => rfl) ?_
    refine pr_get (v := .ref 199) rfl rfl rfl (by decide) (rv_ref (hE20.2.1 170 31 199 rfl)) fun _ => ?_
    refine pr_n (pc2 := 360) (lv2 := [(5, vi y5), (4, vi y4), (3, vi y3), (2, vi y2), (0, .ref 170), (1, vi y1)]) (st2 := [.ref 170, vi y2, .ref 199]) 2 (fun _ _ => rfl) ?_
    refine pr_gE (k2 := 170) (v := vl (t 170 26)) hE20 rfl rfl rfl (by decide) rfl rfl rfl fun h21 => ?_
    have h21 : i64 (t 170 26) := h21
    refine pr_n (pc2 := 365) (lv2 := [(5, vi y5), (4, vi y4), (3, vi y3), (2, vi y2), (0, .ref 170), (1, vi y1)]) (st2 := [vi y2, vl 1, vl (t 170 26), vi y2, .ref 199]) 2 (fun _ _ => rfl) ?_
    refine pr_lshl (a := 1) (b := y2) rfl ?_
    refine pr_l2 (a := t 170 26) (b := lsl 1 y2) rfl rfl ?_
    show pr N2 K d tb_M129 367 [(5, vi y5), (4, vi y4), (3, vi y3), (2, vi y2), (0, .ref 170), (1, vi y1)] [vl (lo (t 170 26) (lsl 1 y2)), vi y2, .ref 199] s20 _
    refine pr_sE (k2 := 199) (a := y2) (z := lo (t 170 26) (lsl 1 y2)) hE20 rfl (by decide) rfl rfl hy2 (by decide) rfl (i64_in _) (n0 rfl (by omega) (by omega)) rfl rfl (fun e => absurd e.1 (by decide)) (fun _ => trivial) fun h22 h23 s24 hE24 => ?_
    refine pr_n (pc2 := 371) (lv2 := [(5, vi y5), (4, vi y4), (3, vi y3), (2, vi y2), (0, .ref 170), (1, vi y1)]) (st2 := [vi y4, .ref 170]) 2 (fun _ _ => rfl) ?_
    refine pr_pE (k2 := 170) (z := y4) hE24 rfl rfl rfl rfl (by decide) rfl (by decide) rfl (show i32 (y4) from hy4) (hf_int' _) rfl rfl rfl (fun e => absurd e.2 (by decide)) (fun _ => trivial) fun s25 hE25 => ?_
    refine pr_n (pc2 := 376) (lv2 := [(5, vi y5), (4, vi y4), (3, vi y3), (2, vi y2), (0, .ref 170), (1, vi y1)]) (st2 := [vi y3, .ref 170]) 2 (fun _ _ => rfl) ?_
    refine pr_pE (k2 := 170) (z := y3) hE25 rfl rfl rfl rfl (by decide) rfl (by decide) rfl (show i32 (y3) from hy3) (hf_int' _) rfl rfl rfl (fun e => absurd e.2 (by decide)) (fun _ => trivial) fun s26 hE26 => ?_
    refine pr_n (pc2 := 381) (lv2 := [(5, vi y5), (4, vi y4), (3, vi y3), (2, vi y2), (0, .ref 170), (1, vi y1)]) (st2 := [vi ((-1)), .ref 170]) 2 (fun _ _ => rfl) ?_
    refine pr_pE (k2 := 170) (z := (-1)) hE26 rfl rfl rfl rfl (by decide) rfl (by decide) rfl (show i32 ((-1)) from (i32_n rfl)) (hf_int' _) rfl rfl rfl (fun e => absurd e.2 (by decide)) (fun _ => trivial) fun s27 hE27 => ?_
    refine pr_n (pc2 := 386) (lv2 := [(5, vi y5), (4, vi y4), (3, vi y3), (2, vi y2), (0, .ref 170), (1, vi y1)]) (st2 := [vi 0, .ref 170]) 2 (fun _ _ => rfl) ?_
    refine pr_pE (k2 := 170) (z := 0) hE27 rfl rfl rfl rfl (by decide) rfl (by decide) rfl (show 0 ≤ 0 ∧ 0 ≤ 1 from (by decide)) (fit_i (.inr (.inl rfl)) (show 0 ≤ 0 ∧ 0 ≤ 1 from (by decide))) rfl rfl rfl (fun e => absurd e.2 (by decide)) (fun _ => trivial) fun s28 hE28 => ?_
    refine pr_n (pc2 := 390) (lv2 := [(5, vi y5), (4, vi y4), (3, vi y3), (2, vi y2), (0, .ref 170), (1, vi y1)]) (st2 := [vi 1]) 1 (fun _ _ => rfl) ?_
    refine pr_end (fun _ _ => rfl) ?_
    exact .inl ⟨_, 1, _, rfl, ⟨rfl, (by decide)⟩, rfl, hE28⟩
  · refine mq_f h4 ?_
    refine pr_if2f rfl rfl hy5 h1 h4 ?_
    refine pr_n (pc2 := 290) (lv2 := [(5, vi y5), (4, vi y4), (3, vi y3), (2, vi y2), (0, .ref 170), (1, vi y1)]) (st2 := [.ref 170, .ref 170]) 2 (fun _ _ => rfl) ?_
    refine pr_gE (k2 := 170) (v := vl (t 170 22)) hE rfl rfl rfl (by decide) rfl rfl rfl fun h29 => ?_
    have h29 : i64 (t 170 22) := h29
    refine pr_n (pc2 := 295) (lv2 := [(5, vi y5), (4, vi y4), (3, vi y3), (2, vi y2), (0, .ref 170), (1, vi y1)]) (st2 := [.ref 170, vl 1, vl (t 170 22), .ref 170]) 2 (fun _ _ => rfl) ?_
    refine pr_get (v := .ref 202) rfl rfl rfl (by decide) (rv_ref (hE.2.1 170 34 202 rfl)) fun _ => ?_
    refine pr_n (pc2 := 299) (lv2 := [(5, vi y5), (4, vi y4), (3, vi y3), (2, vi y2), (0, .ref 170), (1, vi y1)]) (st2 := [vi y2, .ref 202, vl 1, vl (t 170 22), .ref 170]) 1 (fun _ _ => rfl) ?_
    refine pr_aE (k2 := 202) (a := y2) (v := vi (t 202 y2.toNat)) hE rfl rfl rfl hy2 (by decide) rfl rfl rfl fun h31 h32 h30 => ?_
    have h30 : i32 (t 202 y2.toNat) := h30
    refine pr_n (pc2 := 302) (lv2 := [(5, vi y5), (4, vi y4), (3, vi y3), (2, vi y2), (0, .ref 170), (1, vi y1)]) (st2 := [vi y5, vi (t 202 y2.toNat), vl 1, vl (t 170 22), .ref 170]) 1 (fun _ _ => rfl) ?_
    refine pr_i2 (a := t 202 y2.toNat) (b := y5) rfl rfl ?_
    show pr N2 K d tb_M129 303 [(5, vi y5), (4, vi y4), (3, vi y3), (2, vi y2), (0, .ref 170), (1, vi y1)] [vi (ipl (t 202 y2.toNat) y5), vl 1, vl (t 170 22), .ref 170] s _
    have h33 : i32 (ipl (t 202 y2.toNat) y5) := i32_in _
    refine pr_lshl (a := 1) (b := ipl (t 202 y2.toNat) y5) rfl ?_
    refine pr_l2 (a := t 170 22) (b := lsl 1 (ipl (t 202 y2.toNat) y5)) rfl rfl ?_
    show pr N2 K d tb_M129 305 [(5, vi y5), (4, vi y4), (3, vi y3), (2, vi y2), (0, .ref 170), (1, vi y1)] [vl (lo (t 170 22) (lsl 1 (ipl (t 202 y2.toNat) y5))), .ref 170] s _
    refine pr_pE (k2 := 170) (z := lo (t 170 22) (lsl 1 (ipl (t 202 y2.toNat) y5))) hE rfl rfl rfl rfl (by decide) rfl (by decide) rfl (i64_in _) (fit_l _) rfl rfl rfl (fun e => absurd e.2 (by decide)) (fun _ => trivial) fun s34 hE34 => ?_
    refine pr_inc (a := y5) rfl rfl ?_
    have h35 : i32 (y5 + 1) := by unfold i32 at *; omega
    show pr N2 K d tb_M129 311 [(5, vi (y5 + 1)), (4, vi y4), (3, vi y3), (2, vi y2), (0, .ref 170), (1, vi y1)] [] s34 _
    refine pr_n (pc2 := 277) (lv2 := [(5, vi (y5 + 1)), (4, vi y4), (3, vi y3), (2, vi y2), (0, .ref 170), (1, vi y1)]) (st2 := []) 1 (fun _ _ => rfl) ?_
    exact ((ih N2 hN2).2) s34 (up2 t 170 22 (lo (t 170 22) (lsl 1 (ipl (t 202 y2.toNat) y5)))) (y5 + 1) y4 y3 y2 y1 hE34 h35 hy4 hy3 hy2 hy1
theorem ra129 {K d C : Nat} (h_123 : rT123 K d C) (h_127 : rT127 K d C) (h_130 : rT130 K d C) (h_131 : rT131 K d C) (h_133 : rT133 K d C) (h_135 : rT135 K d C) (h_136 : rT136 K d C) (h_137 : rT137 K d C) (h_138 : rT138 K d C) (h_139 : rT139 K d C) (h_140 : rT140 K d C) (h_159 : rT159 K d C) : ∀ N, rA129 N K d C := by
  intro N
  induction N using Nat.strongRecOn with | ind N ih => ?_
  exact ⟨ru129_0 h_123 h_127 h_130 h_131 h_133 h_135 h_136 h_137 h_138 h_139 h_140 h_159 ih, ru129_1 h_123 h_127 h_130 h_131 h_133 h_135 h_136 h_137 h_138 h_139 h_140 h_159 ih⟩
set_option maxHeartbeats 20000000 in
set_option maxRecDepth 100000 in
theorem rm129 {K d C : Nat} (h_123 : rT123 K d C) (h_127 : rT127 K d C) (h_130 : rT130 K d C) (h_131 : rT131 K d C) (h_133 : rT133 K d C) (h_135 : rT135 K d C) (h_136 : rT136 K d C) (h_137 : rT137 K d C) (h_138 : rT138 K d C) (h_139 : rT139 K d C) (h_140 : rT140 K d C) (h_159 : rT159 K d C) : rT129 K (d + 1) C := by
  intro s t x1 hE hx1
  have hC : C = 177 ∨ C = 186 := hE.1
  refine pcr_of (M := tb_M129) rfl ?_
  show pr K K d tb_M129 0 [(0, .ref 170), (1, vi x1)] [] s _
  rw [rG_129]
  unfold rM129
  refine pr_n (pc2 := 1) (lv2 := [(0, .ref 170), (1, vi x1)]) (st2 := [.ref 170]) 1 (fun _ _ => rfl) ?_
  refine pr_m1 (args := []) (rest := []) rfl rfl rfl rfl (Nat.le_of_ble_eq_true rfl) rfl (h_123 s t  hE ) ?_
  rintro _ _ t1 s1 ⟨rfl, rfl⟩ hE1
  show pr K K d tb_M129 4 [(0, .ref 170), (1, vi x1)] [] s1 _
  refine pr_n (pc2 := 5) (lv2 := [(0, .ref 170), (1, vi x1)]) (st2 := [.ref 170]) 1 (fun _ _ => rfl) ?_
  refine pr_get (v := .ref C) rfl rfl rfl (by decide) (rv_ref (show s1.1 170 19 = ((C : Nat) : Int) from hE1.2.2.1)) fun _ => ?_
  refine pr_gE (k2 := 177) (v := vi (t1 177 9)) hE1 rfl rfl (TG_C hC) (by decide) rfl rfl rfl fun h2 => ?_
  have h2 : i32 (t1 177 9) := h2
  refine pr_n (pc2 := 16) (lv2 := [(2, vi (t1 177 9)), (0, .ref 170), (1, vi x1)]) (st2 := [vi 12, vi (t1 177 9), .ref 170]) 4 (fun _ _ => rfl) ?_
  refine pr_p1 (args := [vi (t1 177 9), vi 12]) (rest := []) rfl rfl rfl rfl (Nat.le_of_ble_eq_true rfl) rfl (h_130 s1 t1 (t1 177 9) 12 hE1 h2 (i32_n rfl)) (fun z t3 => pu_130) ?_
  rintro _ z3 s3 ⟨rfl, hz3⟩ hX3 hE3
  show pr K K d tb_M129 19 [(2, vi (t1 177 9)), (0, .ref 170), (1, vi x1)] [vi z3] s3 _
  by_cases h4 : z3 = 0
  · refine mq_t h4 ?_
    refine pr_if1t rfl rfl (i32_z hz3) h4 ?_
    refine pr_n (pc2 := 41) (lv2 := [(2, vi (t1 177 9)), (0, .ref 170), (1, vi x1)]) (st2 := [vi 0]) 1 (fun _ _ => rfl) ?_
    refine pr_end (fun _ _ => rfl) ?_
    exact .inl ⟨_, 0, _, rfl, ⟨rfl, (by decide)⟩, rfl, hE3⟩
  · refine mq_f h4 ?_
    refine pr_if1f rfl rfl (i32_z hz3) h4 ?_
    refine pr_n (pc2 := 24) (lv2 := [(2, vi (t1 177 9)), (0, .ref 170), (1, vi x1)]) (st2 := [vi x1, .ref 170]) 2 (fun _ _ => rfl) ?_
    by_cases h5 : x1 = 0
    · refine mq_t h5 ?_
      refine pr_if1t rfl rfl (i32_z hx1) h5 ?_
      refine pr_n (pc2 := 34) (lv2 := [(2, vi (t1 177 9)), (0, .ref 170), (1, vi x1)]) (st2 := [vi (t1 177 9), vi 6, .ref 170]) 2 (fun _ _ => rfl) ?_
      refine pr_m1 (args := [vi 6, vi (t1 177 9)]) (rest := []) rfl rfl rfl rfl (Nat.le_of_ble_eq_true rfl) rfl (h_133 s3 t1 6 (t1 177 9) hE3 (i32_n rfl) h2) ?_
      rintro _ z6 t6 s6 ⟨rfl, hz6⟩ hE6
      show pr K K d tb_M129 37 [(2, vi (t1 177 9)), (0, .ref 170), (1, vi x1)] [vi z6] s6 _
      by_cases h7 : z6 ≠ 0
      · refine mq_t h7 ?_
        refine pr_if1t rfl rfl (i32_z hz6) h7 ?_
        refine pr_n (pc2 := 43) (lv2 := [(2, vi (t1 177 9)), (0, .ref 170), (1, vi x1)]) (st2 := [.ref 170]) 1 (fun _ _ => rfl) ?_
        refine pr_get (v := .ref C) rfl rfl rfl (by decide) (rv_ref (show s6.1 170 19 = ((C : Nat) : Int) from hE6.2.2.1)) fun _ => ?_
        refine pr_n (pc2 := 47) (lv2 := [(2, vi (t1 177 9)), (0, .ref 170), (1, vi x1)]) (st2 := [.ref C, .ref C]) 1 (fun _ _ => rfl) ?_
        refine pr_gE (k2 := 177) (v := vi (t6 177 9)) hE6 rfl rfl (TG_C hC) (by decide) rfl rfl rfl fun h8 => ?_
        have h8 : i32 (t6 177 9) := h8
        refine pr_n (pc2 := 51) (lv2 := [(2, vi (t1 177 9)), (0, .ref 170), (1, vi x1)]) (st2 := [vi 1, vi (t6 177 9), .ref C]) 1 (fun _ _ => rfl) ?_
        refine pr_i2 (a := t6 177 9) (b := 1) rfl rfl ?_
        show pr K K d tb_M129 52 [(2, vi (t1 177 9)), (0, .ref 170), (1, vi x1)] [vi (ipl (t6 177 9) 1), .ref C] s6 _
        have h9 : i32 (ipl (t6 177 9) 1) := i32_in _
        refine pr_pE (k2 := 177) (z := ipl (t6 177 9) 1) hE6 rfl rfl rfl rfl (show 96 ≤ C by omega) (TG_C hC) (by decide) rfl (show i32 (ipl (t6 177 9) 1) from h9) (hf_int' _) (nD hC (by omega)) rfl rfl (fun e => absurd e.1 (show ¬ (C = 170) by omega)) (fun _ => trivial) fun s10 hE10 => ?_
        refine pr_n (pc2 := 56) (lv2 := [(2, vi (t1 177 9)), (0, .ref 170), (1, vi x1)]) (st2 := [.ref 170]) 1 (fun _ _ => rfl) ?_
        refine pr_gE (k2 := 170) (v := vi (t6 170 15)) hE10 rfl rfl rfl (by decide) rfl rfl rfl fun h11 => ?_
        have h11 : i32 (t6 170 15) := h11
        refine pr_n (pc2 := 61) (lv2 := [(3, vi (t6 170 15)), (2, vi (t1 177 9)), (0, .ref 170), (1, vi x1)]) (st2 := [.ref 170]) 2 (fun _ _ => rfl) ?_
        refine pr_gE (k2 := 170) (v := vi (t6 170 14)) hE10 rfl rfl rfl (by decide) rfl rfl rfl fun h12 => ?_
        have h12 : i32 (t6 170 14) := h12
        refine pr_n (pc2 := 67) (lv2 := [(4, vi (t6 170 14)), (3, vi (t6 170 15)), (2, vi (t1 177 9)), (0, .ref 170), (1, vi x1)]) (st2 := [.ref 170]) 2 (fun _ _ => rfl) ?_
        refine pr_s1 (args := []) (rest := []) rfl rfl rfl rfl (Nat.le_of_ble_eq_true rfl) rfl (h_135 s10 (up2 t6 177 9 (ipl (t6 177 9) 1))  hE10 ) q_rop ?_
        rintro _ s13 ⟨rfl, _⟩ hE13
        have hE13 : EE rPP C (up2 (up2 (up2 t6 177 9 (ipl (t6 177 9) 1)) 170 15 (t6 170 16)) 170 16 (ipl (t6 170 16) 1)) s13 := hE13
        show pr K K d tb_M129 70 [(4, vi (t6 170 14)), (3, vi (t6 170 15)), (2, vi (t1 177 9)), (0, .ref 170), (1, vi x1)] [] s13 _
        refine pr_n (pc2 := 72) (lv2 := [(4, vi (t6 170 14)), (3, vi (t6 170 15)), (2, vi (t1 177 9)), (0, .ref 170), (1, vi x1)]) (st2 := [vi (t1 177 9), .ref 170]) 2 (fun _ _ => rfl) ?_
        refine pr_pE (k2 := 170) (z := t1 177 9) hE13 rfl rfl rfl rfl (by decide) rfl (by decide) rfl (show i32 (t1 177 9) from h2) (hf_int' _) rfl rfl rfl (fun e => absurd e.2 (by decide)) (fun _ => trivial) fun s14 hE14 => ?_
        refine pr_n (pc2 := 77) (lv2 := [(4, vi (t6 170 14)), (3, vi (t6 170 15)), (2, vi (t1 177 9)), (0, .ref 170), (1, vi x1)]) (st2 := [vi x1, .ref 170]) 2 (fun _ _ => rfl) ?_
        refine pr_if1f rfl rfl (i32_z hx1) (show ¬ (x1 ≠ 0) by omega) ?_
        show pr K K d tb_M129 80 [(4, vi (t6 170 14)), (3, vi (t6 170 15)), (2, vi (t1 177 9)), (0, .ref 170), (1, vi x1)] [.ref 170] s14 _
        refine pr_n (pc2 := 85) (lv2 := [(4, vi (t6 170 14)), (3, vi (t6 170 15)), (2, vi (t1 177 9)), (0, .ref 170), (1, vi x1)]) (st2 := [vi 1, .ref 170]) 2 (fun _ _ => rfl) ?_
        refine pr_pE (k2 := 170) (z := 1) hE14 rfl rfl rfl rfl (by decide) rfl (by decide) rfl (show 0 ≤ 1 ∧ 1 ≤ 1 from (by decide)) (fit_i (.inr (.inl rfl)) (show 0 ≤ 1 ∧ 1 ≤ 1 from (by decide))) rfl rfl rfl (fun e => absurd e.2 (by decide)) (fun _ => trivial) fun s15 hE15 => ?_
        refine pr_n (pc2 := 90) (lv2 := [(4, vi (t6 170 14)), (3, vi (t6 170 15)), (2, vi (t1 177 9)), (0, .ref 170), (1, vi x1)]) (st2 := [.ref 170, .ref 170]) 2 (fun _ _ => rfl) ?_
        refine pr_get (v := .ref C) rfl rfl rfl (by decide) (rv_ref (show s15.1 170 19 = ((C : Nat) : Int) from hE15.2.2.1)) fun _ => ?_
        refine pr_gE (k2 := 177) (v := vi (t6 177 4)) hE15 rfl rfl (TG_C hC) (by decide) rfl rfl rfl fun h16 => ?_
        have h16 : i32 (t6 177 4) := h16
        refine pr_pE (k2 := 170) (z := t6 177 4) hE15 rfl rfl rfl rfl (by decide) rfl (by decide) rfl (show i32 (t6 177 4) from h16) (hf_int' _) rfl rfl rfl (fun e => absurd e.2 (by decide)) (fun _ => trivial) fun s17 hE17 => ?_
        refine pr_n (pc2 := 100) (lv2 := [(4, vi (t6 170 14)), (3, vi (t6 170 15)), (2, vi (t1 177 9)), (0, .ref 170), (1, vi x1)]) (st2 := [.ref 170]) 1 (fun _ _ => rfl) ?_
        refine pr_get (v := .ref 202) rfl rfl rfl (by decide) (rv_ref (hE17.2.1 170 34 202 rfl)) fun _ => ?_
        refine pr_n (pc2 := 105) (lv2 := [(4, vi (t6 170 14)), (3, vi (t6 170 15)), (2, vi (t1 177 9)), (0, .ref 170), (1, vi x1)]) (st2 := [.ref 170, vi (t1 177 9), .ref 202]) 2 (fun _ _ => rfl) ?_
        refine pr_get (v := .ref C) rfl rfl rfl (by decide) (rv_ref (show s17.1 170 19 = ((C : Nat) : Int) from hE17.2.2.1)) fun _ => ?_
        refine pr_gE (k2 := 177) (v := vi (t6 177 4)) hE17 rfl rfl (TG_C hC) (by decide) rfl rfl rfl fun h18 => ?_
        have h18 : i32 (t6 177 4) := h18
        refine pr_sE (k2 := 202) (a := t1 177 9) (z := t6 177 4) hE17 rfl (by decide) rfl rfl h2 (by decide) rfl (show i32 (t6 177 4) from h18) (n0 rfl (by omega) (by omega)) rfl rfl (fun e => absurd e.1 (by decide)) (fun _ => trivial) fun h19 h20 s21 hE21 => ?_
        refine pr_n (pc2 := 113) (lv2 := [(4, vi (t6 170 14)), (3, vi (t6 170 15)), (2, vi (t1 177 9)), (0, .ref 170), (1, vi x1)]) (st2 := [.ref 170]) 1 (fun _ _ => rfl) ?_
        refine pr_get (v := .ref 201) rfl rfl rfl (by decide) (rv_ref (hE21.2.1 170 33 201 rfl)) fun _ => ?_
        refine pr_n (pc2 := 118) (lv2 := [(4, vi (t6 170 14)), (3, vi (t6 170 15)), (2, vi (t1 177 9)), (0, .ref 170), (1, vi x1)]) (st2 := [vi 0, vi (t1 177 9), .ref 201]) 2 (fun _ _ => rfl) ?_
        refine pr_sE (k2 := 201) (a := t1 177 9) (z := 0) hE21 rfl (by decide) rfl rfl h2 (by decide) rfl (show i32 (0) from (i32_n rfl)) (n0 rfl (by omega) (by omega)) rfl rfl (fun e => absurd e.1 (by decide)) (fun _ => trivial) fun h22 h23 s24 hE24 => ?_
        refine pr_n (pc2 := 123) (lv2 := [(4, vi (t6 170 14)), (3, vi (t6 170 15)), (2, vi (t1 177 9)), (0, .ref 170), (1, vi x1)]) (st2 := [.ref 22, .ref 170]) 2 (fun _ _ => rfl) ?_
        refine pr_m1 (args := [.ref 22]) (rest := []) rfl rfl rfl rfl (Nat.le_of_ble_eq_true rfl) rfl (h_136 s24 (up2 (up2 (up2 (up2 (up2 (up2 (up2 (up2 t6 177 9 (ipl (t6 177 9) 1)) 170 15 (t6 170 16)) 170 16 (ipl (t6 170 16) 1)) 170 35 (t1 177 9)) 170 37 1) 170 36 (t6 177 4)) 202 ((t1 177 9).toNat) (t6 177 4)) 201 ((t1 177 9).toNat) 0) 22 hE24 isX_22) ?_
        rintro _ z25 t25 s25 ⟨rfl, hz25⟩ hE25
        show pr K K d tb_M129 126 [(4, vi (t6 170 14)), (3, vi (t6 170 15)), (2, vi (t1 177 9)), (0, .ref 170), (1, vi x1)] [vi z25] s25 _
        by_cases h26 : z25 ≠ 0
        · refine mq_t h26 ?_
          refine pr_if1t rfl rfl (i32_z hz25) h26 ?_
          exact ((ra129 h_123 h_127 h_130 h_131 h_133 h_135 h_136 h_137 h_138 h_139 h_140 h_159 K).1) s25 t25 (t6 170 14) (t6 170 15) (t1 177 9) x1 hE25 h12 h11 h2 (i32_z hx1)
        · refine mq_f h26 ?_
          refine pr_if1f rfl rfl (i32_z hz25) h26 ?_
          refine pr_n (pc2 := 130) (lv2 := [(4, vi (t6 170 14)), (3, vi (t6 170 15)), (2, vi (t1 177 9)), (0, .ref 170), (1, vi x1)]) (st2 := [vi 0]) 1 (fun _ _ => rfl) ?_
          refine pr_end (fun _ _ => rfl) ?_
          exact .inl ⟨_, 0, _, rfl, ⟨rfl, (by decide)⟩, rfl, hE25⟩
      · refine mq_f h7 ?_
        refine pr_if1f rfl rfl (i32_z hz6) h7 ?_
        refine pr_n (pc2 := 41) (lv2 := [(2, vi (t1 177 9)), (0, .ref 170), (1, vi x1)]) (st2 := [vi 0]) 1 (fun _ _ => rfl) ?_
        refine pr_end (fun _ _ => rfl) ?_
        exact .inl ⟨_, 0, _, rfl, ⟨rfl, (by decide)⟩, rfl, hE6⟩
    · refine mq_f h5 ?_
      refine pr_if1f rfl rfl (i32_z hx1) h5 ?_
      refine pr_n (pc2 := 34) (lv2 := [(2, vi (t1 177 9)), (0, .ref 170), (1, vi x1)]) (st2 := [vi (t1 177 9), vi 5, .ref 170]) 3 (fun _ _ => rfl) ?_
      refine pr_m1 (args := [vi 5, vi (t1 177 9)]) (rest := []) rfl rfl rfl rfl (Nat.le_of_ble_eq_true rfl) rfl (h_133 s3 t1 5 (t1 177 9) hE3 (i32_n rfl) h2) ?_
      rintro _ z27 t27 s27 ⟨rfl, hz27⟩ hE27
      show pr K K d tb_M129 37 [(2, vi (t1 177 9)), (0, .ref 170), (1, vi x1)] [vi z27] s27 _
      by_cases h28 : z27 ≠ 0
      · refine mq_t h28 ?_
        refine pr_if1t rfl rfl (i32_z hz27) h28 ?_
        refine pr_n (pc2 := 43) (lv2 := [(2, vi (t1 177 9)), (0, .ref 170), (1, vi x1)]) (st2 := [.ref 170]) 1 (fun _ _ => rfl) ?_
        refine pr_get (v := .ref C) rfl rfl rfl (by decide) (rv_ref (show s27.1 170 19 = ((C : Nat) : Int) from hE27.2.2.1)) fun _ => ?_
        refine pr_n (pc2 := 47) (lv2 := [(2, vi (t1 177 9)), (0, .ref 170), (1, vi x1)]) (st2 := [.ref C, .ref C]) 1 (fun _ _ => rfl) ?_
        refine pr_gE (k2 := 177) (v := vi (t27 177 9)) hE27 rfl rfl (TG_C hC) (by decide) rfl rfl rfl fun h29 => ?_
        have h29 : i32 (t27 177 9) := h29
        refine pr_n (pc2 := 51) (lv2 := [(2, vi (t1 177 9)), (0, .ref 170), (1, vi x1)]) (st2 := [vi 1, vi (t27 177 9), .ref C]) 1 (fun _ _ => rfl) ?_
        refine pr_i2 (a := t27 177 9) (b := 1) rfl rfl ?_
        show pr K K d tb_M129 52 [(2, vi (t1 177 9)), (0, .ref 170), (1, vi x1)] [vi (ipl (t27 177 9) 1), .ref C] s27 _
        have h30 : i32 (ipl (t27 177 9) 1) := i32_in _
        refine pr_pE (k2 := 177) (z := ipl (t27 177 9) 1) hE27 rfl rfl rfl rfl (show 96 ≤ C by omega) (TG_C hC) (by decide) rfl (show i32 (ipl (t27 177 9) 1) from h30) (hf_int' _) (nD hC (by omega)) rfl rfl (fun e => absurd e.1 (show ¬ (C = 170) by omega)) (fun _ => trivial) fun s31 hE31 => ?_
        refine pr_n (pc2 := 56) (lv2 := [(2, vi (t1 177 9)), (0, .ref 170), (1, vi x1)]) (st2 := [.ref 170]) 1 (fun _ _ => rfl) ?_
        refine pr_gE (k2 := 170) (v := vi (t27 170 15)) hE31 rfl rfl rfl (by decide) rfl rfl rfl fun h32 => ?_
        have h32 : i32 (t27 170 15) := h32
        refine pr_n (pc2 := 61) (lv2 := [(3, vi (t27 170 15)), (2, vi (t1 177 9)), (0, .ref 170), (1, vi x1)]) (st2 := [.ref 170]) 2 (fun _ _ => rfl) ?_
        refine pr_gE (k2 := 170) (v := vi (t27 170 14)) hE31 rfl rfl rfl (by decide) rfl rfl rfl fun h33 => ?_
        have h33 : i32 (t27 170 14) := h33
        refine pr_n (pc2 := 67) (lv2 := [(4, vi (t27 170 14)), (3, vi (t27 170 15)), (2, vi (t1 177 9)), (0, .ref 170), (1, vi x1)]) (st2 := [.ref 170]) 2 (fun _ _ => rfl) ?_
        refine pr_s1 (args := []) (rest := []) rfl rfl rfl rfl (Nat.le_of_ble_eq_true rfl) rfl (h_135 s31 (up2 t27 177 9 (ipl (t27 177 9) 1))  hE31 ) q_rop ?_
        rintro _ s34 ⟨rfl, _⟩ hE34
        have hE34 : EE rPP C (up2 (up2 (up2 t27 177 9 (ipl (t27 177 9) 1)) 170 15 (t27 170 16)) 170 16 (ipl (t27 170 16) 1)) s34 := hE34
        show pr K K d tb_M129 70 [(4, vi (t27 170 14)), (3, vi (t27 170 15)), (2, vi (t1 177 9)), (0, .ref 170), (1, vi x1)] [] s34 _
        refine pr_n (pc2 := 72) (lv2 := [(4, vi (t27 170 14)), (3, vi (t27 170 15)), (2, vi (t1 177 9)), (0, .ref 170), (1, vi x1)]) (st2 := [vi (t1 177 9), .ref 170]) 2 (fun _ _ => rfl) ?_
        refine pr_pE (k2 := 170) (z := t1 177 9) hE34 rfl rfl rfl rfl (by decide) rfl (by decide) rfl (show i32 (t1 177 9) from h2) (hf_int' _) rfl rfl rfl (fun e => absurd e.2 (by decide)) (fun _ => trivial) fun s35 hE35 => ?_
        refine pr_n (pc2 := 77) (lv2 := [(4, vi (t27 170 14)), (3, vi (t27 170 15)), (2, vi (t1 177 9)), (0, .ref 170), (1, vi x1)]) (st2 := [vi x1, .ref 170]) 2 (fun _ _ => rfl) ?_
        refine pr_if1t rfl rfl (i32_z hx1) (show x1 ≠ 0 by omega) ?_
        show pr K K d tb_M129 84 [(4, vi (t27 170 14)), (3, vi (t27 170 15)), (2, vi (t1 177 9)), (0, .ref 170), (1, vi x1)] [.ref 170] s35 _
        refine pr_n (pc2 := 85) (lv2 := [(4, vi (t27 170 14)), (3, vi (t27 170 15)), (2, vi (t1 177 9)), (0, .ref 170), (1, vi x1)]) (st2 := [vi 0, .ref 170]) 1 (fun _ _ => rfl) ?_
        refine pr_pE (k2 := 170) (z := 0) hE35 rfl rfl rfl rfl (by decide) rfl (by decide) rfl (show 0 ≤ 0 ∧ 0 ≤ 1 from (by decide)) (fit_i (.inr (.inl rfl)) (show 0 ≤ 0 ∧ 0 ≤ 1 from (by decide))) rfl rfl rfl (fun e => absurd e.2 (by decide)) (fun _ => trivial) fun s36 hE36 => ?_
        refine pr_n (pc2 := 90) (lv2 := [(4, vi (t27 170 14)), (3, vi (t27 170 15)), (2, vi (t1 177 9)), (0, .ref 170), (1, vi x1)]) (st2 := [.ref 170, .ref 170]) 2 (fun _ _ => rfl) ?_
        refine pr_get (v := .ref C) rfl rfl rfl (by decide) (rv_ref (show s36.1 170 19 = ((C : Nat) : Int) from hE36.2.2.1)) fun _ => ?_
        refine pr_gE (k2 := 177) (v := vi (t27 177 4)) hE36 rfl rfl (TG_C hC) (by decide) rfl rfl rfl fun h37 => ?_
        have h37 : i32 (t27 177 4) := h37
        refine pr_pE (k2 := 170) (z := t27 177 4) hE36 rfl rfl rfl rfl (by decide) rfl (by decide) rfl (show i32 (t27 177 4) from h37) (hf_int' _) rfl rfl rfl (fun e => absurd e.2 (by decide)) (fun _ => trivial) fun s38 hE38 => ?_
        refine pr_n (pc2 := 100) (lv2 := [(4, vi (t27 170 14)), (3, vi (t27 170 15)), (2, vi (t1 177 9)), (0, .ref 170), (1, vi x1)]) (st2 := [.ref 170]) 1 (fun _ _ => rfl) ?_
        refine pr_get (v := .ref 202) rfl rfl rfl (by decide) (rv_ref (hE38.2.1 170 34 202 rfl)) fun _ => ?_
        refine pr_n (pc2 := 105) (lv2 := [(4, vi (t27 170 14)), (3, vi (t27 170 15)), (2, vi (t1 177 9)), (0, .ref 170), (1, vi x1)]) (st2 := [.ref 170, vi (t1 177 9), .ref 202]) 2 (fun _ _ => rfl) ?_
        refine pr_get (v := .ref C) rfl rfl rfl (by decide) (rv_ref (show s38.1 170 19 = ((C : Nat) : Int) from hE38.2.2.1)) fun _ => ?_
        refine pr_gE (k2 := 177) (v := vi (t27 177 4)) hE38 rfl rfl (TG_C hC) (by decide) rfl rfl rfl fun h39 => ?_
        have h39 : i32 (t27 177 4) := h39
        refine pr_sE (k2 := 202) (a := t1 177 9) (z := t27 177 4) hE38 rfl (by decide) rfl rfl h2 (by decide) rfl (show i32 (t27 177 4) from h39) (n0 rfl (by omega) (by omega)) rfl rfl (fun e => absurd e.1 (by decide)) (fun _ => trivial) fun h40 h41 s42 hE42 => ?_
        refine pr_n (pc2 := 113) (lv2 := [(4, vi (t27 170 14)), (3, vi (t27 170 15)), (2, vi (t1 177 9)), (0, .ref 170), (1, vi x1)]) (st2 := [.ref 170]) 1 (fun _ _ => rfl) ?_
        refine pr_get (v := .ref 201) rfl rfl rfl (by decide) (rv_ref (hE42.2.1 170 33 201 rfl)) fun _ => ?_
        refine pr_n (pc2 := 118) (lv2 := [(4, vi (t27 170 14)), (3, vi (t27 170 15)), (2, vi (t1 177 9)), (0, .ref 170), (1, vi x1)]) (st2 := [vi 0, vi (t1 177 9), .ref 201]) 2 (fun _ _ => rfl) ?_
        refine pr_sE (k2 := 201) (a := t1 177 9) (z := 0) hE42 rfl (by decide) rfl rfl h2 (by decide) rfl (show i32 (0) from (i32_n rfl)) (n0 rfl (by omega) (by omega)) rfl rfl (fun e => absurd e.1 (by decide)) (fun _ => trivial) fun h43 h44 s45 hE45 => ?_
        refine pr_n (pc2 := 123) (lv2 := [(4, vi (t27 170 14)), (3, vi (t27 170 15)), (2, vi (t1 177 9)), (0, .ref 170), (1, vi x1)]) (st2 := [.ref 22, .ref 170]) 2 (fun _ _ => rfl) ?_
        refine pr_m1 (args := [.ref 22]) (rest := []) rfl rfl rfl rfl (Nat.le_of_ble_eq_true rfl) rfl (h_136 s45 (up2 (up2 (up2 (up2 (up2 (up2 (up2 (up2 t27 177 9 (ipl (t27 177 9) 1)) 170 15 (t27 170 16)) 170 16 (ipl (t27 170 16) 1)) 170 35 (t1 177 9)) 170 37 0) 170 36 (t27 177 4)) 202 ((t1 177 9).toNat) (t27 177 4)) 201 ((t1 177 9).toNat) 0) 22 hE45 isX_22) ?_
        rintro _ z46 t46 s46 ⟨rfl, hz46⟩ hE46
        show pr K K d tb_M129 126 [(4, vi (t27 170 14)), (3, vi (t27 170 15)), (2, vi (t1 177 9)), (0, .ref 170), (1, vi x1)] [vi z46] s46 _
        by_cases h47 : z46 ≠ 0
        · refine mq_t h47 ?_
          refine pr_if1t rfl rfl (i32_z hz46) h47 ?_
          exact ((ra129 h_123 h_127 h_130 h_131 h_133 h_135 h_136 h_137 h_138 h_139 h_140 h_159 K).1) s46 t46 (t27 170 14) (t27 170 15) (t1 177 9) x1 hE46 h33 h32 h2 (i32_z hx1)
        · refine mq_f h47 ?_
          refine pr_if1f rfl rfl (i32_z hz46) h47 ?_
          refine pr_n (pc2 := 130) (lv2 := [(4, vi (t27 170 14)), (3, vi (t27 170 15)), (2, vi (t1 177 9)), (0, .ref 170), (1, vi x1)]) (st2 := [vi 0]) 1 (fun _ _ => rfl) ?_
          refine pr_end (fun _ _ => rfl) ?_
          exact .inl ⟨_, 0, _, rfl, ⟨rfl, (by decide)⟩, rfl, hE46⟩
      · refine mq_f h28 ?_
        refine pr_if1f rfl rfl (i32_z hz27) h28 ?_
        refine pr_n (pc2 := 41) (lv2 := [(2, vi (t1 177 9)), (0, .ref 170), (1, vi x1)]) (st2 := [vi 0]) 1 (fun _ _ => rfl) ?_
        refine pr_end (fun _ _ => rfl) ?_
        exact .inl ⟨_, 0, _, rfl, ⟨rfl, (by decide)⟩, rfl, hE27⟩
