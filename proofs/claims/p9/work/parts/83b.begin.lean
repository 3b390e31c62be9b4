set_option maxHeartbeats 20000000 in
set_option maxRecDepth 100000 in
theorem p_begin0 {d C : Nat} (hC : C = 177 ∨ C = 186) (s : rS) (hR : RF s.1) (h17 : s.1 170 17 = (C : Int)) : cr (d + 2) 160 [.ref 170] s (BGP C s) := by
  refine cr_of (M := tb_M160) rfl (Nat.le_of_ble_eq_true rfl) ?_
  show wr (d + 1) tb_M160 0 [(0, .ref 170)] [] s _
  refine wr_n (pc2 := 1) (lv2 := [(0, .ref 170)]) (st2 := [.ref 170]) 1 (fun _ _ => rfl) ?_
  refine wr_get (v := vi (s.1 170 20)) rfl rfl rfl (by decide) rfl fun h1 => ?_
  have h1 : 0 ≤ s.1 170 20 ∧ s.1 170 20 ≤ 1 := h1
  show wr (d + 1) tb_M160 4 [(0, .ref 170)] [vi (s.1 170 20)] s _
  by_cases h2 : s.1 170 20 ≠ 0
  · refine wr_if1t rfl rfl (by unfold i32; omega) h2 ?_
    refine wr_n (pc2 := 12) (lv2 := [(0, .ref 170)]) (st2 := [vi 0, .ref 170]) 2 (fun _ _ => rfl) ?_
    refine wr_put (z := 0) rfl rfl rfl rfl (by decide) rfl (by decide) rfl (show -2147483648 ≤ 0 ∧ 0 ≤ 2147483647 by omega) (hf_int' _) ?_
    show wr (d + 1) tb_M160 15 [(0, .ref 170)] [] (up2 s.1 170 52 0, s.2) _
    have hR3 : RF (up2 s.1 170 52 0) := (RF_up hR rfl)
    refine wr_n (pc2 := 17) (lv2 := [(0, .ref 170)]) (st2 := [vi 0, .ref 170]) 2 (fun _ _ => rfl) ?_
    refine wr_put (z := 0) rfl rfl rfl rfl (by decide) rfl (by decide) rfl (show -2147483648 ≤ 0 ∧ 0 ≤ 2147483647 by omega) (hf_int' _) ?_
    show wr (d + 1) tb_M160 20 [(0, .ref 170)] [] (up2 (up2 s.1 170 52 0) 170 53 0, s.2) _
    have hR4 : RF (up2 (up2 s.1 170 52 0) 170 53 0) := (RF_up (RF_up hR rfl) rfl)
    refine wr_n (pc2 := 21) (lv2 := [(0, .ref 170)]) (st2 := [.ref 170]) 1 (fun _ _ => rfl) ?_
    refine wr_get (v := .ref 203) rfl rfl rfl (by decide) (rv_ref (hR4 170 38 203 rfl)) fun h5 => ?_
    show wr (d + 1) tb_M160 24 [(0, .ref 170)] [.ref 203] (up2 (up2 s.1 170 52 0) 170 53 0, s.2) _
    refine wr_n (pc2 := 25) (lv2 := [(0, .ref 170)]) (st2 := [vi 0, .ref 203]) 1 (fun _ _ => rfl) ?_
    refine wr_call0 (args := [.ref 203, vi 0]) (rest := []) rfl rfl rfl (Nat.le_of_ble_eq_true rfl) (cr_mono (c_fill (d := d) (q := 203) (n := 24) rfl (by omega) (by omega) (by omega) (by unfold i32; omega) _) ?_)
    rintro s7 out ⟨rfl, hc6, hf6, hv6⟩
    · refine ⟨_, rfl, ?_⟩
      show wr (d + 1) tb_M160 28 [(0, .ref 170)] [] s7 _
      have hX6 : RX s.1 s7.1 := RX_tr (RX_up (RX_up (fun _ _ _ => rfl : RX s.1 s.1) (by unfold RS; omega)) (by unfold RS; omega)) (fun k j e => hf6 k j (fun q => e (by unfold RS; omega)))
      have hR6 : RF s7.1 := RX_RF hX6 hR
      have hz6 : s7.2 = s.2 := hc6.trans rfl
      have h170_52_6 : s7.1 170 52 = 0 := (hf6 170 52 (by omega)).trans (by show (up2 (up2 s.1 170 52 0) 170 53 0) 170 52 = _; simp [up2])
      have h170_53_6 : s7.1 170 53 = 0 := (hf6 170 53 (by omega)).trans (by show (up2 (up2 s.1 170 52 0) 170 53 0) 170 53 = _; simp [up2])
      refine wr_n (pc2 := 29) (lv2 := [(0, .ref 170)]) (st2 := [.ref 170]) 1 (fun _ _ => rfl) ?_
      refine wr_get (v := .ref 212) rfl rfl rfl (by decide) (rv_ref (hR6 170 47 212 rfl)) fun h9 => ?_
      show wr (d + 1) tb_M160 32 [(0, .ref 170)] [.ref 212] s7 _
      refine wr_n (pc2 := 34) (lv2 := [(1, .ref 212), (0, .ref 170)]) (st2 := [.ref 212]) 2 (fun _ _ => rfl) ?_
      refine wr_alen2 (n := 6) rfl rfl ?_
      show wr (d + 1) tb_M160 35 [(1, .ref 212), (0, .ref 170)] [vi 6] s7 _
      refine wr_n (pc2 := 45) (lv2 := [(3, vi 0), (2, vi 6), (1, .ref 212), (0, .ref 170)]) (st2 := [vi 0, .ref 212]) 8 (fun _ _ => rfl) ?_
      refine wr_ald (a := 0) (v := .ref 213) rfl rfl rfl (by omega) (by omega) (by decide) (rv_ref (hR6 212 0 213 rfl)) fun h10 => ?_
      show wr (d + 1) tb_M160 46 [(3, vi 0), (2, vi 6), (1, .ref 212), (0, .ref 170)] [.ref 213] s7 _
      refine wr_n (pc2 := 51) (lv2 := [(4, .ref 213), (3, vi 0), (2, vi 6), (1, .ref 212), (0, .ref 170)]) (st2 := [vi 0, .ref 213]) 3 (fun _ _ => rfl) ?_
      refine wr_call0 (args := [.ref 213, vi 0]) (rest := []) rfl rfl rfl (Nat.le_of_ble_eq_true rfl) (cr_mono (c_fill (d := d) (q := 213) (n := 64) rfl (by omega) (by omega) (by omega) (by unfold i32; omega) _) ?_)
      rintro s12 out ⟨rfl, hc11, hf11, hv11⟩
      · refine ⟨_, rfl, ?_⟩
        show wr (d + 1) tb_M160 54 [(4, .ref 213), (3, vi 0), (2, vi 6), (1, .ref 212), (0, .ref 170)] [] s12 _
        have hX11 : RX s.1 s12.1 := RX_tr hX6 (fun k j e => hf11 k j (fun q => e (by unfold RS; omega)))
        have hR11 : RF s12.1 := RX_RF hX11 hR
        have hz11 : s12.2 = s.2 := hc11.trans hz6
        have h170_52_11 : s12.1 170 52 = 0 := (hf11 170 52 (by omega)).trans h170_52_6
        have h170_53_11 : s12.1 170 53 = 0 := (hf11 170 53 (by omega)).trans h170_53_6
        refine wr_inc (a := 0) rfl rfl ?_
        show wr (d + 1) tb_M160 57 [(3, vi 1), (4, .ref 213), (2, vi 6), (1, .ref 212), (0, .ref 170)] [] s12 _
        refine wr_n (pc2 := 45) (lv2 := [(3, vi 1), (4, .ref 213), (2, vi 6), (1, .ref 212), (0, .ref 170)]) (st2 := [vi 1, .ref 212]) 6 (fun _ _ => rfl) ?_
        refine wr_ald (a := 1) (v := .ref 214) rfl rfl rfl (by omega) (by omega) (by decide) (rv_ref (hR11 212 1 214 rfl)) fun h14 => ?_
        show wr (d + 1) tb_M160 46 [(3, vi 1), (4, .ref 213), (2, vi 6), (1, .ref 212), (0, .ref 170)] [.ref 214] s12 _
        refine wr_n (pc2 := 51) (lv2 := [(4, .ref 214), (3, vi 1), (2, vi 6), (1, .ref 212), (0, .ref 170)]) (st2 := [vi 0, .ref 214]) 3 (fun _ _ => rfl) ?_
        refine wr_call0 (args := [.ref 214, vi 0]) (rest := []) rfl rfl rfl (Nat.le_of_ble_eq_true rfl) (cr_mono (c_fill (d := d) (q := 214) (n := 64) rfl (by omega) (by omega) (by omega) (by unfold i32; omega) _) ?_)
        rintro s16 out ⟨rfl, hc15, hf15, hv15⟩
        · refine ⟨_, rfl, ?_⟩
          show wr (d + 1) tb_M160 54 [(4, .ref 214), (3, vi 1), (2, vi 6), (1, .ref 212), (0, .ref 170)] [] s16 _
          have hX15 : RX s.1 s16.1 := RX_tr hX11 (fun k j e => hf15 k j (fun q => e (by unfold RS; omega)))
          have hR15 : RF s16.1 := RX_RF hX15 hR
          have hz15 : s16.2 = s.2 := hc15.trans hz11
          have h170_52_15 : s16.1 170 52 = 0 := (hf15 170 52 (by omega)).trans h170_52_11
          have h170_53_15 : s16.1 170 53 = 0 := (hf15 170 53 (by omega)).trans h170_53_11
          refine wr_inc (a := 1) rfl rfl ?_
          show wr (d + 1) tb_M160 57 [(3, vi 2), (4, .ref 214), (2, vi 6), (1, .ref 212), (0, .ref 170)] [] s16 _
          refine wr_n (pc2 := 45) (lv2 := [(3, vi 2), (4, .ref 214), (2, vi 6), (1, .ref 212), (0, .ref 170)]) (st2 := [vi 2, .ref 212]) 6 (fun _ _ => rfl) ?_
          refine wr_ald (a := 2) (v := .ref 215) rfl rfl rfl (by omega) (by omega) (by decide) (rv_ref (hR15 212 2 215 rfl)) fun h18 => ?_
          show wr (d + 1) tb_M160 46 [(3, vi 2), (4, .ref 214), (2, vi 6), (1, .ref 212), (0, .ref 170)] [.ref 215] s16 _
          refine wr_n (pc2 := 51) (lv2 := [(4, .ref 215), (3, vi 2), (2, vi 6), (1, .ref 212), (0, .ref 170)]) (st2 := [vi 0, .ref 215]) 3 (fun _ _ => rfl) ?_
          refine wr_call0 (args := [.ref 215, vi 0]) (rest := []) rfl rfl rfl (Nat.le_of_ble_eq_true rfl) (cr_mono (c_fill (d := d) (q := 215) (n := 64) rfl (by omega) (by omega) (by omega) (by unfold i32; omega) _) ?_)
          rintro s20 out ⟨rfl, hc19, hf19, hv19⟩
          · refine ⟨_, rfl, ?_⟩
            show wr (d + 1) tb_M160 54 [(4, .ref 215), (3, vi 2), (2, vi 6), (1, .ref 212), (0, .ref 170)] [] s20 _
            have hX19 : RX s.1 s20.1 := RX_tr hX15 (fun k j e => hf19 k j (fun q => e (by unfold RS; omega)))
            have hR19 : RF s20.1 := RX_RF hX19 hR
            have hz19 : s20.2 = s.2 := hc19.trans hz15
            have h170_52_19 : s20.1 170 52 = 0 := (hf19 170 52 (by omega)).trans h170_52_15
            have h170_53_19 : s20.1 170 53 = 0 := (hf19 170 53 (by omega)).trans h170_53_15
            refine wr_inc (a := 2) rfl rfl ?_
            show wr (d + 1) tb_M160 57 [(3, vi 3), (4, .ref 215), (2, vi 6), (1, .ref 212), (0, .ref 170)] [] s20 _
            refine wr_n (pc2 := 45) (lv2 := [(3, vi 3), (4, .ref 215), (2, vi 6), (1, .ref 212), (0, .ref 170)]) (st2 := [vi 3, .ref 212]) 6 (fun _ _ => rfl) ?_
            refine wr_ald (a := 3) (v := .ref 216) rfl rfl rfl (by omega) (by omega) (by decide) (rv_ref (hR19 212 3 216 rfl)) fun h22 => ?_
            show wr (d + 1) tb_M160 46 [(3, vi 3), (4, .ref 215), (2, vi 6), (1, .ref 212), (0, .ref 170)] [.ref 216] s20 _
            refine wr_n (pc2 := 51) (lv2 := [(4, .ref 216), (3, vi 3), (2, vi 6), (1, .ref 212), (0, .ref 170)]) (st2 := [vi 0, .ref 216]) 3 (fun _ _ => rfl) ?_
            refine wr_call0 (args := [.ref 216, vi 0]) (rest := []) rfl rfl rfl (Nat.le_of_ble_eq_true rfl) (cr_mono (c_fill (d := d) (q := 216) (n := 64) rfl (by omega) (by omega) (by omega) (by unfold i32; omega) _) ?_)
            rintro s24 out ⟨rfl, hc23, hf23, hv23⟩
            · refine ⟨_, rfl, ?_⟩
              show wr (d + 1) tb_M160 54 [(4, .ref 216), (3, vi 3), (2, vi 6), (1, .ref 212), (0, .ref 170)] [] s24 _
              have hX23 : RX s.1 s24.1 := RX_tr hX19 (fun k j e => hf23 k j (fun q => e (by unfold RS; omega)))
              have hR23 : RF s24.1 := RX_RF hX23 hR
              have hz23 : s24.2 = s.2 := hc23.trans hz19
              have h170_52_23 : s24.1 170 52 = 0 := (hf23 170 52 (by omega)).trans h170_52_19
              have h170_53_23 : s24.1 170 53 = 0 := (hf23 170 53 (by omega)).trans h170_53_19
              refine wr_inc (a := 3) rfl rfl ?_
              show wr (d + 1) tb_M160 57 [(3, vi 4), (4, .ref 216), (2, vi 6), (1, .ref 212), (0, .ref 170)] [] s24 _
              refine wr_n (pc2 := 45) (lv2 := [(3, vi 4), (4, .ref 216), (2, vi 6), (1, .ref 212), (0, .ref 170)]) (st2 := [vi 4, .ref 212]) 6 (fun _ _ => rfl) ?_
              refine wr_ald (a := 4) (v := .ref 217) rfl rfl rfl (by omega) (by omega) (by decide) (rv_ref (hR23 212 4 217 rfl)) fun h26 => ?_
              show wr (d + 1) tb_M160 46 [(3, vi 4), (4, .ref 216), (2, vi 6), (1, .ref 212), (0, .ref 170)] [.ref 217] s24 _
              refine wr_n (pc2 := 51) (lv2 := [(4, .ref 217), (3, vi 4), (2, vi 6), (1, .ref 212), (0, .ref 170)]) (st2 := [vi 0, .ref 217]) 3 (fun _ _ => rfl) ?_
              refine wr_call0 (args := [.ref 217, vi 0]) (rest := []) rfl rfl rfl (Nat.le_of_ble_eq_true rfl) (cr_mono (c_fill (d := d) (q := 217) (n := 64) rfl (by omega) (by omega) (by omega) (by unfold i32; omega) _) ?_)
              rintro s28 out ⟨rfl, hc27, hf27, hv27⟩
              · refine ⟨_, rfl, ?_⟩
                show wr (d + 1) tb_M160 54 [(4, .ref 217), (3, vi 4), (2, vi 6), (1, .ref 212), (0, .ref 170)] [] s28 _
                have hX27 : RX s.1 s28.1 := RX_tr hX23 (fun k j e => hf27 k j (fun q => e (by unfold RS; omega)))
                have hR27 : RF s28.1 := RX_RF hX27 hR
                have hz27 : s28.2 = s.2 := hc27.trans hz23
                have h170_52_27 : s28.1 170 52 = 0 := (hf27 170 52 (by omega)).trans h170_52_23
                have h170_53_27 : s28.1 170 53 = 0 := (hf27 170 53 (by omega)).trans h170_53_23
                refine wr_inc (a := 4) rfl rfl ?_
                show wr (d + 1) tb_M160 57 [(3, vi 5), (4, .ref 217), (2, vi 6), (1, .ref 212), (0, .ref 170)] [] s28 _
                refine wr_n (pc2 := 45) (lv2 := [(3, vi 5), (4, .ref 217), (2, vi 6), (1, .ref 212), (0, .ref 170)]) (st2 := [vi 5, .ref 212]) 6 (fun _ _ => rfl) ?_
                refine wr_ald (a := 5) (v := .ref 218) rfl rfl rfl (by omega) (by omega) (by decide) (rv_ref (hR27 212 5 218 rfl)) fun h30 => ?_
                show wr (d + 1) tb_M160 46 [(3, vi 5), (4, .ref 217), (2, vi 6), (1, .ref 212), (0, .ref 170)] [.ref 218] s28 _
                refine wr_n (pc2 := 51) (lv2 := [(4, .ref 218), (3, vi 5), (2, vi 6), (1, .ref 212), (0, .ref 170)]) (st2 := [vi 0, .ref 218]) 3 (fun _ _ => rfl) ?_
                refine wr_call0 (args := [.ref 218, vi 0]) (rest := []) rfl rfl rfl (Nat.le_of_ble_eq_true rfl) (cr_mono (c_fill (d := d) (q := 218) (n := 64) rfl (by omega) (by omega) (by omega) (by unfold i32; omega) _) ?_)
                rintro s32 out ⟨rfl, hc31, hf31, hv31⟩
                · refine ⟨_, rfl, ?_⟩
                  show wr (d + 1) tb_M160 54 [(4, .ref 218), (3, vi 5), (2, vi 6), (1, .ref 212), (0, .ref 170)] [] s32 _
                  have hX31 : RX s.1 s32.1 := RX_tr hX27 (fun k j e => hf31 k j (fun q => e (by unfold RS; omega)))
                  have hR31 : RF s32.1 := RX_RF hX31 hR
                  have hz31 : s32.2 = s.2 := hc31.trans hz27
                  have h170_52_31 : s32.1 170 52 = 0 := (hf31 170 52 (by omega)).trans h170_52_27
                  have h170_53_31 : s32.1 170 53 = 0 := (hf31 170 53 (by omega)).trans h170_53_27
                  refine wr_inc (a := 5) rfl rfl ?_
                  show wr (d + 1) tb_M160 57 [(3, vi 6), (4, .ref 218), (2, vi 6), (1, .ref 212), (0, .ref 170)] [] s32 _
                  refine wr_n (pc2 := 61) (lv2 := [(3, vi 6), (4, .ref 218), (2, vi 6), (1, .ref 212), (0, .ref 170)]) (st2 := [.ref 170]) 5 (fun _ _ => rfl) ?_
                  refine wr_get (v := .ref 1630) rfl rfl rfl (by decide) (rv_ref (hR31 170 51 1630 rfl)) fun h34 => ?_
                  show wr (d + 1) tb_M160 64 [(3, vi 6), (4, .ref 218), (2, vi 6), (1, .ref 212), (0, .ref 170)] [.ref 1630] s32 _
                  refine wr_n (pc2 := 65) (lv2 := [(3, vi 6), (4, .ref 218), (2, vi 6), (1, .ref 212), (0, .ref 170)]) (st2 := [vi 0, .ref 1630]) 1 (fun _ _ => rfl) ?_
                  refine wr_call0 (args := [.ref 1630, vi 0]) (rest := []) rfl rfl rfl (Nat.le_of_ble_eq_true rfl) (cr_mono (c_fill (d := d) (q := 1630) (n := 8) rfl (by omega) (by omega) (by omega) (by unfold i32; omega) _) ?_)
                  rintro s36 out ⟨rfl, hc35, hf35, hv35⟩
                  · refine ⟨_, rfl, ?_⟩
                    show wr (d + 1) tb_M160 68 [(3, vi 6), (4, .ref 218), (2, vi 6), (1, .ref 212), (0, .ref 170)] [] s36 _
                    have hX35 : RX s.1 s36.1 := RX_tr hX31 (fun k j e => hf35 k j (fun q => e (by unfold RS; omega)))
                    have hR35 : RF s36.1 := RX_RF hX35 hR
                    have hz35 : s36.2 = s.2 := hc35.trans hz31
                    have h170_52_35 : s36.1 170 52 = 0 := (hf35 170 52 (by omega)).trans h170_52_31
                    have h170_53_35 : s36.1 170 53 = 0 := (hf35 170 53 (by omega)).trans h170_53_31
                    refine wr_n (pc2 := 69) (lv2 := [(3, vi 6), (4, .ref 218), (2, vi 6), (1, .ref 212), (0, .ref 170)]) (st2 := [.ref 170]) 1 (fun _ _ => rfl) ?_
                    refine wr_get (v := .ref 206) rfl rfl rfl (by decide) (rv_ref (hR35 170 41 206 rfl)) fun h38 => ?_
                    show wr (d + 1) tb_M160 72 [(3, vi 6), (4, .ref 218), (2, vi 6), (1, .ref 212), (0, .ref 170)] [.ref 206] s36 _
                    refine wr_n (pc2 := 73) (lv2 := [(3, vi 6), (4, .ref 218), (2, vi 6), (1, .ref 212), (0, .ref 170)]) (st2 := [vi 0, .ref 206]) 1 (fun _ _ => rfl) ?_
                    refine wr_call0 (args := [.ref 206, vi 0]) (rest := []) rfl rfl rfl (Nat.le_of_ble_eq_true rfl) (cr_mono (c_fill (d := d) (q := 206) (n := 700) rfl (by omega) (by omega) (by omega) (by unfold i32; omega) _) ?_)
                    rintro s40 out ⟨rfl, hc39, hf39, hv39⟩
                    · refine ⟨_, rfl, ?_⟩
                      show wr (d + 1) tb_M160 76 [(3, vi 6), (4, .ref 218), (2, vi 6), (1, .ref 212), (0, .ref 170)] [] s40 _
                      have hX39 : RX s.1 s40.1 := RX_tr hX35 (fun k j e => hf39 k j (fun q => e (by unfold RS; omega)))
                      have hR39 : RF s40.1 := RX_RF hX39 hR
                      have hz39 : s40.2 = s.2 := hc39.trans hz35
                      have h170_52_39 : s40.1 170 52 = 0 := (hf39 170 52 (by omega)).trans h170_52_35
                      have h170_53_39 : s40.1 170 53 = 0 := (hf39 170 53 (by omega)).trans h170_53_35
                      have hd39 : ∀ j, j < 8 → s40.1 1630 j = 0 := fun j hj => (hf39 1630 j (by omega)).trans (hv35 j hj)
                      refine wr_n (pc2 := 78) (lv2 := [(3, vi 6), (4, .ref 218), (2, vi 6), (1, .ref 212), (0, .ref 170)]) (st2 := [vi 1, .ref 170]) 2 (fun _ _ => rfl) ?_
                      refine wr_put (z := 1) rfl rfl rfl rfl (by decide) rfl (by decide) rfl (show -2147483648 ≤ 1 ∧ 1 ≤ 2147483647 by omega) (hf_int' _) ?_
                      show wr (d + 1) tb_M160 81 [(3, vi 6), (4, .ref 218), (2, vi 6), (1, .ref 212), (0, .ref 170)] [] (up2 s40.1 170 55 1, s40.2) _
                      have hR42 : RF (up2 s40.1 170 55 1) := (RF_up hR39 rfl)
                      refine wr_n (pc2 := 84) (lv2 := [(3, vi 6), (4, .ref 218), (2, vi 6), (1, .ref 212), (0, .ref 170)]) (st2 := [.ref 170, vi 0, .ref 170]) 3 (fun _ _ => rfl) ?_
                      refine wr_get (v := .ref C) rfl rfl rfl (by decide) (rv_ref (show (up2 s40.1 170 55 1) 170 17 = ((C : Nat) : Int) from ((if_neg (by omega)).trans ((hX39 170 17 (by unfold RS; omega)).trans h17)))) fun h43 => ?_
                      show wr (d + 1) tb_M160 87 [(3, vi 6), (4, .ref 218), (2, vi 6), (1, .ref 212), (0, .ref 170)] [.ref C, vi 0, .ref 170] (up2 s40.1 170 55 1, s40.2) _
                      refine wr_get (v := vi (s40.1 C 2)) rfl rfl (TG_C hC) (by decide) (by show rv _ ((up2 s40.1 170 55 1) C 2) = _; rw [up_nk (by omega)]; rfl) fun h44 => ?_
                      replace h44 : rg _ ((up2 s40.1 170 55 1) C 2) := h44
                      rw [up_nk (by omega)] at h44
                      have h44 : -2147483648 ≤ s40.1 C 2 ∧ s40.1 C 2 ≤ 2147483647 := h44
                      show wr (d + 1) tb_M160 90 [(3, vi 6), (4, .ref 218), (2, vi 6), (1, .ref 212), (0, .ref 170)] [vi (s40.1 C 2), vi 0, .ref 170] (up2 s40.1 170 55 1, s40.2) _
                      refine wr_n (pc2 := 91) (lv2 := [(3, vi 6), (4, .ref 218), (2, vi 6), (1, .ref 212), (0, .ref 170)]) (st2 := [vi ((-1)), vi (s40.1 C 2), vi 0, .ref 170]) 1 (fun _ _ => rfl) ?_
                      refine wr_call1 (args := [vi 0, vi (s40.1 C 2), vi ((-1))]) (rest := []) rfl rfl rfl rfl (Nat.le_of_ble_eq_true rfl) (cr_mono (x_make (d := d) (o := 0) (t := s40.1 C 2) (a := -1) _ hR42 (by omega) (by unfold i32; omega) (by unfold i32; omega)) ?_)
                      rintro s46 out ⟨rfl, hc45, hf45, m5, m6, m8, m9, m10, m11⟩
                      · refine ⟨_, rfl, ?_⟩
                        show wr (d + 1) tb_M160 94 [(3, vi 6), (4, .ref 218), (2, vi 6), (1, .ref 212), (0, .ref 170)] [] s46 _
                        replace hf45 : ∀ k j, ¬ (205 ≤ k ∧ k ≤ 211 ∧ j = 0) → s46.1 k j = (up2 s40.1 170 55 1) k j := hf45
                        have hXT : RX s.1 (up2 s40.1 170 55 1) := (RX_up hX39 (by unfold RS; omega))
                        have hX45 : RX s.1 s46.1 := RX_tr hXT (fun k j e => hf45 k j (fun q => e (by unfold RS; omega)))
                        have h55 : s46.1 170 55 = 1 := (hf45 170 55 (by omega)).trans (by show (up2 s40.1 170 55 1) 170 55 = _; simp [up2])
                        have h52 : s46.1 170 52 = 0 := (hf45 170 52 (by omega)).trans ((if_neg (by omega)).trans h170_52_39)
                        have hd : HD s46.1 := fun j hj => by rw [show s46.1 1630 j = 0 from (hf45 1630 j (by omega)).trans ((if_neg (by omega)).trans (hd39 j hj))]; omega
                        have hst : s40.1 C 2 = s.1 C 2 := hX39 C 2 (by unfold RS; omega)
                        refine wr_n (pc2 := 95) (lv2 := [(3, vi 6), (4, .ref 218), (2, vi 6), (1, .ref 212), (0, .ref 170)]) (st2 := [vi 0]) 1 (fun _ _ => rfl) ?_
                        refine wr_end (fun _ _ => rfl) ?_
                        exact ⟨⟨_, rfl⟩, hc45.trans hz39, hX45, .inr ⟨by omega, hd, h52, h55, m5.trans hst, m6, m8, m9, m10⟩⟩
  · refine wr_if1f rfl rfl (by unfold i32; omega) h2 ?_
    refine wr_n (pc2 := 9) (lv2 := [(0, .ref 170)]) (st2 := [vi ((-2))]) 1 (fun _ _ => rfl) ?_
    refine wr_end (fun _ _ => rfl) ?_
    exact ⟨⟨_, rfl⟩, rfl, fun _ _ _ => rfl, .inl ⟨rfl, by omega⟩⟩
