/-! The reference's calls, once more: what they keep besides. -/
def LJ (r r2 : tab) : Prop := ∀ k j, (k < 170 ∨ k = 171 ∨ k = 170 ∧ j = 20) → r2 k j = r k j
theorem RX_LJ {r r2 : tab} (h : RX r r2) : LJ r r2 := fun k j hk => h k j (by unfold RS; omega)
def MJ (c : Nat) (t : Int → Prop) (s : rS) : rS → hm_Out → Prop := fun s2 out => (∃ v : Value, out = some (some v) ∧ v.category = c) ∧ s2.2 = s.2 ∧ RF s2.1 ∧ LJ s.1 s2.1 ∧ (∃ C D, SI C D s2.1) ∧ t (s2.1 170 1)
theorem MJ_same {C D c : Nat} {s : rS} {out : hm_Out} {v : Value} (ho : out = some (some v)) (hv : v.category = c) (hR : RF s.1) (h : SI C D s.1) : MJ c (fun t => t = s.1 170 1) s s out := ⟨⟨v, ho, hv⟩, rfl, hR, fun _ _ _ => rfl, ⟨C, D, h⟩, rfl⟩
def BGJ (C : Nat) (s : rS) : rS → hm_Out → Prop := fun s2 out => BGP C s s2 out ∧ out = some (some (vi (if s.1 170 20 = 0 then -2 else 0)))
set_option maxHeartbeats 20000000 in
set_option maxRecDepth 100000 in
theorem q_begin0 {d C : Nat} (hC : C = 177 ∨ C = 186) (s : rS) (hR : RF s.1) (h17 : s.1 170 17 = (C : Int)) : cr (d + 2) 160 [.ref 170] s (BGJ C s) := by
  refine cr_of (M := tb_M160) rfl (Nat.le_of_ble_eq_true rfl) ?_
  show wr (d + 1) tb_M160 0 [(0, .ref 170)] [] s _
  refine wr_n (pc2 := 1) (lv2 := [(0, .ref 170)]) (st2 := [.ref 170]) 1 (fun _ _ => rfl) ?_
  refine wr_get (v := vi (s.1 170 20)) rfl rfl rfl (by decide) rfl fun h1 => ?_
  have h1 : 0 ≤ s.1 170 20 ∧ s.1 170 20 ≤ 1 := h1
  show wr (d + 1) tb_M160 4 [(0, .ref 170)] [vi (s.1 170 20)] s _
  by_cases h2 : s.1 170 20 ≠ 0
  · refine wr_if1t rfl rfl (by unfold i32; omega) h2 ?_
    refine wr_n (pc2 := 12) (lv2 := [(0, .ref 170)]) (st2 := [vi 0, .ref 170]) 2 (fun _ _ => rfl) ?_
    refine wr_put (z := 0) rfl rfl rfl rfl (by decide) rfl (by decide) rfl (show -2147483648 ≤ 0 ∧ 0 ≤ 2147483647 by omega) (hf_int' _) ?_
    show wr (d + 1) tb_M160 15 [(0, .ref 170)] [] (up2 s.1 170 52 0, s.2) _
    have hR3 : RF (up2 s.1 170 52 0) := (RF_up hR rfl)
    refine wr_n (pc2 := 17) (lv2 := [(0, .ref 170)]) (st2 := [vi 0, .ref 170]) 2 (fun _ _ => rfl) ?_
    refine wr_put (z := 0) rfl rfl rfl rfl (by decide) rfl (by decide) rfl (show -2147483648 ≤ 0 ∧ 0 ≤ 2147483647 by omega) (hf_int' _) ?_
    show wr (d + 1) tb_M160 20 [(0, .ref 170)] [] (up2 (up2 s.1 170 52 0) 170 53 0, s.2) _
    have hR4 : RF (up2 (up2 s.1 170 52 0) 170 53 0) := (RF_up (RF_up hR rfl) rfl)
    refine wr_n (pc2 := 21) (lv2 := [(0, .ref 170)]) (st2 := [.ref 170]) 1 (fun _ _ => rfl) ?_
    refine wr_get (v := .ref 203) rfl rfl rfl (by decide) (rv_ref (hR4 170 38 203 rfl)) fun h5 => ?_
    show wr (d + 1) tb_M160 24 [(0, .ref 170)] [.ref 203] (up2 (up2 s.1 170 52 0) 170 53 0, s.2) _
    refine wr_n (pc2 := 25) (lv2 := [(0, .ref 170)]) (st2 := [vi 0, .ref 203]) 1 (fun _ _ => rfl) ?_
    refine wr_call0 (args := [.ref 203, vi 0]) (rest := []) rfl rfl rfl (Nat.le_of_ble_eq_true rfl) (cr_mono (c_fill (d := d) (q := 203) (n := 24) rfl (by omega) (by omega) (by omega) (by unfold i32; omega) _) ?_)
    rintro s7 out ⟨rfl, hc6, hf6, hv6⟩
    · refine ⟨_, rfl, ?_⟩
      show wr (d + 1) tb_M160 28 [(0, .ref 170)] [] s7 _
      have hX6 : RX s.1 s7.1 := RX_tr (RX_up (RX_up (fun _ _ _ => rfl : RX s.1 s.1) (by unfold RS; omega)) (by unfold RS; omega)) (fun k j e => hf6 k j (fun q => e (by unfold RS; omega)))
      have hR6 : RF s7.1 := RX_RF hX6 hR
      have hz6 : s7.2 = s.2 := hc6.trans rfl
      have h170_52_6 : s7.1 170 52 = 0 := (hf6 170 52 (by omega)).trans (by show (up2 (up2 s.1 170 52 0) 170 53 0) 170 52 = _; simp [up2])
      have h170_53_6 : s7.1 170 53 = 0 := (hf6 170 53 (by omega)).trans (by show (up2 (up2 s.1 170 52 0) 170 53 0) 170 53 = _; simp [up2])
      refine wr_n (pc2 := 29) (lv2 := [(0, .ref 170)]) (st2 := [.ref 170]) 1 (fun _ _ => rfl) ?_
      refine wr_get (v := .ref 212) rfl rfl rfl (by decide) (rv_ref (hR6 170 47 212 rfl)) fun h9 => ?_
      show wr (d + 1) tb_M160 32 [(0, .ref 170)] [.ref 212] s7 _
      refine wr_n (pc2 := 34) (lv2 := [(1, .ref 212), (0, .ref 170)]) (st2 := [.ref 212]) 2 (fun _ _ => rfl) ?_
      refine wr_alen2 (n := 6) rfl rfl ?_
      show wr (d + 1) tb_M160 35 [(1, .ref 212), (0, .ref 170)] [vi 6] s7 _
      refine wr_n (pc2 := 45) (lv2 := [(3, vi 0), (2, vi 6), (1, .ref 212), (0, .ref 170)]) (st2 := [vi 0, .ref 212]) 8 (fun _ _ => rfl) ?_
      refine wr_ald (a := 0) (v := .ref 213) rfl rfl rfl (by omega) (by omega) (by decide) (rv_ref (hR6 212 0 213 rfl)) fun h10 => ?_
      show wr (d + 1) tb_M160 46 [(3, vi 0), (2, vi 6), (1, .ref 212), (0, .ref 170)] [.ref 213] s7 _
      refine wr_n (pc2 := 51) (lv2 := [(4, .ref 213), (3, vi 0), (2, vi 6), (1, .ref 212), (0, .ref 170)]) (st2 := [vi 0, .ref 213]) 3 (fun _ _ => rfl) ?_
      refine wr_call0 (args := [.ref 213, vi 0]) (rest := []) rfl rfl rfl (Nat.le_of_ble_eq_true rfl) (cr_mono (c_fill (d := d) (q := 213) (n := 64) rfl (by omega) (by omega) (by omega) (by unfold i32; omega) _) ?_)
      rintro s12 out ⟨rfl, hc11, hf11, hv11⟩
      · refine ⟨_, rfl, ?_⟩
        show wr (d + 1) tb_M160 54 [(4, .ref 213), (3, vi 0), (2, vi 6), (1, .ref 212), (0, .ref 170)] [] s12 _
        have hX11 : RX s.1 s12.1 := RX_tr hX6 (fun k j e => hf11 k j (fun q => e (by unfold RS; omega)))
        have hR11 : RF s12.1 := RX_RF hX11 hR
        have hz11 : s12.2 = s.2 := hc11.trans hz6
        have h170_52_11 : s12.1 170 52 = 0 := (hf11 170 52 (by omega)).trans h170_52_6
        have h170_53_11 : s12.1 170 53 = 0 := (hf11 170 53 (by omega)).trans h170_53_6
        refine wr_inc (a := 0) rfl rfl ?_
        show wr (d + 1) tb_M160 57 [(3, vi 1), (4, .ref 213), (2, vi 6), (1, .ref 212), (0, .ref 170)] [] s12 _
        refine wr_n (pc2 := 45) (lv2 := [(3, vi 1), (4, .ref 213), (2, vi 6), (1, .ref 212), (0, .ref 170)]) (st2 := [vi 1, .ref 212]) 6 (fun _ _ => rfl) ?_
        refine wr_ald (a := 1) (v := .ref 214) rfl rfl rfl (by omega) (by omega) (by decide) (rv_ref (hR11 212 1 214 rfl)) fun h14 => ?_
        show wr (d + 1) tb_M160 46 [(3, vi 1), (4, .ref 213), (2, vi 6), (1, .ref 212), (0, .ref 170)] [.ref 214] s12 _
        refine wr_n (pc2 := 51) (lv2 := [(4, .ref 214), (3, vi 1), (2, vi 6), (1, .ref 212), (0, .ref 170)]) (st2 := [vi 0, .ref 214]) 3 (fun _ _ => rfl) ?_
        refine wr_call0 (args := [.ref 214, vi 0]) (rest := []) rfl rfl rfl (Nat.le_of_ble_eq_true rfl) (cr_mono (c_fill (d := d) (q := 214) (n := 64) rfl (by omega) (by omega) (by omega) (by unfold i32; omega) _) ?_)
        rintro s16 out ⟨rfl, hc15, hf15, hv15⟩
        · refine ⟨_, rfl, ?_⟩
          show wr (d + 1) tb_M160 54 [(4, .ref 214), (3, vi 1), (2, vi 6), (1, .ref 212), (0, .ref 170)] [] s16 _
          have hX15 : RX s.1 s16.1 := RX_tr hX11 (fun k j e => hf15 k j (fun q => e (by unfold RS; omega)))
          have hR15 : RF s16.1 := RX_RF hX15 hR
          have hz15 : s16.2 = s.2 := hc15.trans hz11
          have h170_52_15 : s16.1 170 52 = 0 := (hf15 170 52 (by omega)).trans h170_52_11
          have h170_53_15 : s16.1 170 53 = 0 := (hf15 170 53 (by omega)).trans h170_53_11
          refine wr_inc (a := 1) rfl rfl ?_
          show wr (d + 1) tb_M160 57 [(3, vi 2), (4, .ref 214), (2, vi 6), (1, .ref 212), (0, .ref 170)] [] s16 _
          refine wr_n (pc2 := 45) (lv2 := [(3, vi 2), (4, .ref 214), (2, vi 6), (1, .ref 212), (0, .ref 170)]) (st2 := [vi 2, .ref 212]) 6 (fun _ _ => rfl) ?_
          refine wr_ald (a := 2) (v := .ref 215) rfl rfl rfl (by omega) (by omega) (by decide) (rv_ref (hR15 212 2 215 rfl)) fun h18 => ?_
          show wr (d + 1) tb_M160 46 [(3, vi 2), (4, .ref 214), (2, vi 6), (1, .ref 212), (0, .ref 170)] [.ref 215] s16 _
          refine wr_n (pc2 := 51) (lv2 := [(4, .ref 215), (3, vi 2), (2, vi 6), (1, .ref 212), (0, .ref 170)]) (st2 := [vi 0, .ref 215]) 3 (fun _ _ => rfl) ?_
          refine wr_call0 (args := [.ref 215, vi 0]) (rest := []) rfl rfl rfl (Nat.le_of_ble_eq_true rfl) (cr_mono (c_fill (d := d) (q := 215) (n := 64) rfl (by omega) (by omega) (by omega) (by unfold i32; omega) _) ?_)
          rintro s20 out ⟨rfl, hc19, hf19, hv19⟩
          · refine ⟨_, rfl, ?_⟩
            show wr (d + 1) tb_M160 54 [(4, .ref 215), (3, vi 2), (2, vi 6), (1, .ref 212), (0, .ref 170)] [] s20 _
            have hX19 : RX s.1 s20.1 := RX_tr hX15 (fun k j e => hf19 k j (fun q => e (by unfold RS; omega)))
            have hR19 : RF s20.1 := RX_RF hX19 hR
            have hz19 : s20.2 = s.2 := hc19.trans hz15
            have h170_52_19 : s20.1 170 52 = 0 := (hf19 170 52 (by omega)).trans h170_52_15
            have h170_53_19 : s20.1 170 53 = 0 := (hf19 170 53 (by omega)).trans h170_53_15
            refine wr_inc (a := 2) rfl rfl ?_
            show wr (d + 1) tb_M160 57 [(3, vi 3), (4, .ref 215), (2, vi 6), (1, .ref 212), (0, .ref 170)] [] s20 _
            refine wr_n (pc2 := 45) (lv2 := [(3, vi 3), (4, .ref 215), (2, vi 6), (1, .ref 212), (0, .ref 170)]) (st2 := [vi 3, .ref 212]) 6 (fun _ _ => rfl) ?_
            refine wr_ald (a := 3) (v := .ref 216) rfl rfl rfl (by omega) (by omega) (by decide) (rv_ref (hR19 212 3 216 rfl)) fun h22 => ?_
            show wr (d + 1) tb_M160 46 [(3, vi 3), (4, .ref 215), (2, vi 6), (1, .ref 212), (0, .ref 170)] [.ref 216] s20 _
            refine wr_n (pc2 := 51) (lv2 := [(4, .ref 216), (3, vi 3), (2, vi 6), (1, .ref 212), (0, .ref 170)]) (st2 := [vi 0, .ref 216]) 3 (fun _ _ => rfl) ?_
            refine wr_call0 (args := [.ref 216, vi 0]) (rest := []) rfl rfl rfl (Nat.le_of_ble_eq_true rfl) (cr_mono (c_fill (d := d) (q := 216) (n := 64) rfl (by omega) (by omega) (by omega) (by unfold i32; omega) _) ?_)
            rintro s24 out ⟨rfl, hc23, hf23, hv23⟩
            · refine ⟨_, rfl, ?_⟩
              show wr (d + 1) tb_M160 54 [(4, .ref 216), (3, vi 3), (2, vi 6), (1, .ref 212), (0, .ref 170)] [] s24 _
              have hX23 : RX s.1 s24.1 := RX_tr hX19 (fun k j e => hf23 k j (fun q => e (by unfold RS; omega)))
              have hR23 : RF s24.1 := RX_RF hX23 hR
              have hz23 : s24.2 = s.2 := hc23.trans hz19
              have h170_52_23 : s24.1 170 52 = 0 := (hf23 170 52 (by omega)).trans h170_52_19
              have h170_53_23 : s24.1 170 53 = 0 := (hf23 170 53 (by omega)).trans h170_53_19
              refine wr_inc (a := 3) rfl rfl ?_
              show wr (d + 1) tb_M160 57 [(3, vi 4), (4, .ref 216), (2, vi 6), (1, .ref 212), (0, .ref 170)] [] s24 _
              refine wr_n (pc2 := 45) (lv2 := [(3, vi 4), (4, .ref 216), (2, vi 6), (1, .ref 212), (0, .ref 170)]) (st2 := [vi 4, .ref 212]) 6 (fun _ _ => rfl) ?_
              refine wr_ald (a := 4) (v := .ref 217) rfl rfl rfl (by omega) (by omega) (by decide) (rv_ref (hR23 212 4 217 rfl)) fun h26 => ?_
              show wr (d + 1) tb_M160 46 [(3, vi 4), (4, .ref 216), (2, vi 6), (1, .ref 212), (0, .ref 170)] [.ref 217] s24 _
              refine wr_n (pc2 := 51) (lv2 := [(4, .ref 217), (3, vi 4), (2, vi 6), (1, .ref 212), (0, .ref 170)]) (st2 := [vi 0, .ref 217]) 3 (fun _ _ => rfl) ?_
              refine wr_call0 (args := [.ref 217, vi 0]) (rest := []) rfl rfl rfl (Nat.le_of_ble_eq_true rfl) (cr_mono (c_fill (d := d) (q := 217) (n := 64) rfl (by omega) (by omega) (by omega) (by unfold i32; omega) _) ?_)
              rintro s28 out ⟨rfl, hc27, hf27, hv27⟩
              · refine ⟨_, rfl, ?_⟩
                show wr (d + 1) tb_M160 54 [(4, .ref 217), (3, vi 4), (2, vi 6), (1, .ref 212), (0, .ref 170)] [] s28 _
                have hX27 : RX s.1 s28.1 := RX_tr hX23 (fun k j e => hf27 k j (fun q => e (by unfold RS; omega)))
                have hR27 : RF s28.1 := RX_RF hX27 hR
                have hz27 : s28.2 = s.2 := hc27.trans hz23
                have h170_52_27 : s28.1 170 52 = 0 := (hf27 170 52 (by omega)).trans h170_52_23
                have h170_53_27 : s28.1 170 53 = 0 := (hf27 170 53 (by omega)).trans h170_53_23
                refine wr_inc (a := 4) rfl rfl ?_
                show wr (d + 1) tb_M160 57 [(3, vi 5), (4, .ref 217), (2, vi 6), (1, .ref 212), (0, .ref 170)] [] s28 _
                refine wr_n (pc2 := 45) (lv2 := [(3, vi 5), (4, .ref 217), (2, vi 6), (1, .ref 212), (0, .ref 170)]) (st2 := [vi 5, .ref 212]) 6 (fun _ _ => rfl) ?_
                refine wr_ald (a := 5) (v := .ref 218) rfl rfl rfl (by omega) (by omega) (by decide) (rv_ref (hR27 212 5 218 rfl)) fun h30 => ?_
                show wr (d + 1) tb_M160 46 [(3, vi 5), (4, .ref 217), (2, vi 6), (1, .ref 212), (0, .ref 170)] [.ref 218] s28 _
                refine wr_n (pc2 := 51) (lv2 := [(4, .ref 218), (3, vi 5), (2, vi 6), (1, .ref 212), (0, .ref 170)]) (st2 := [vi 0, .ref 218]) 3 (fun _ _ => rfl) ?_
                refine wr_call0 (args := [.ref 218, vi 0]) (rest := []) rfl rfl rfl (Nat.le_of_ble_eq_true rfl) (cr_mono (c_fill (d := d) (q := 218) (n := 64) rfl (by omega) (by omega) (by omega) (by unfold i32; omega) _) ?_)
                rintro s32 out ⟨rfl, hc31, hf31, hv31⟩
                · refine ⟨_, rfl, ?_⟩
                  show wr (d + 1) tb_M160 54 [(4, .ref 218), (3, vi 5), (2, vi 6), (1, .ref 212), (0, .ref 170)] [] s32 _
                  have hX31 : RX s.1 s32.1 := RX_tr hX27 (fun k j e => hf31 k j (fun q => e (by unfold RS; omega)))
                  have hR31 : RF s32.1 := RX_RF hX31 hR
                  have hz31 : s32.2 = s.2 := hc31.trans hz27
                  have h170_52_31 : s32.1 170 52 = 0 := (hf31 170 52 (by omega)).trans h170_52_27
                  have h170_53_31 : s32.1 170 53 = 0 := (hf31 170 53 (by omega)).trans h170_53_27
                  refine wr_inc (a := 5) rfl rfl ?_
                  show wr (d + 1) tb_M160 57 [(3, vi 6), (4, .ref 218), (2, vi 6), (1, .ref 212), (0, .ref 170)] [] s32 _
                  refine wr_n (pc2 := 61) (lv2 := [(3, vi 6), (4, .ref 218), (2, vi 6), (1, .ref 212), (0, .ref 170)]) (st2 := [.ref 170]) 5 (fun _ _ => rfl) ?_
                  refine wr_get (v := .ref 1630) rfl rfl rfl (by decide) (rv_ref (hR31 170 51 1630 rfl)) fun h34 => ?_
                  show wr (d + 1) tb_M160 64 [(3, vi 6), (4, .ref 218), (2, vi 6), (1, .ref 212), (0, .ref 170)] [.ref 1630] s32 _
                  refine wr_n (pc2 := 65) (lv2 := [(3, vi 6), (4, .ref 218), (2, vi 6), (1, .ref 212), (0, .ref 170)]) (st2 := [vi 0, .ref 1630]) 1 (fun _ _ => rfl) ?_
                  refine wr_call0 (args := [.ref 1630, vi 0]) (rest := []) rfl rfl rfl (Nat.le_of_ble_eq_true rfl) (cr_mono (c_fill (d := d) (q := 1630) (n := 8) rfl (by omega) (by omega) (by omega) (by unfold i32; omega) _) ?_)
                  rintro s36 out ⟨rfl, hc35, hf35, hv35⟩
                  · refine ⟨_, rfl, ?_⟩
                    show wr (d + 1) tb_M160 68 [(3, vi 6), (4, .ref 218), (2, vi 6), (1, .ref 212), (0, .ref 170)] [] s36 _
                    have hX35 : RX s.1 s36.1 := RX_tr hX31 (fun k j e => hf35 k j (fun q => e (by unfold RS; omega)))
                    have hR35 : RF s36.1 := RX_RF hX35 hR
                    have hz35 : s36.2 = s.2 := hc35.trans hz31
                    have h170_52_35 : s36.1 170 52 = 0 := (hf35 170 52 (by omega)).trans h170_52_31
                    have h170_53_35 : s36.1 170 53 = 0 := (hf35 170 53 (by omega)).trans h170_53_31
                    refine wr_n (pc2 := 69) (lv2 := [(3, vi 6), (4, .ref 218), (2, vi 6), (1, .ref 212), (0, .ref 170)]) (st2 := [.ref 170]) 1 (fun _ _ => rfl) ?_
                    refine wr_get (v := .ref 206) rfl rfl rfl (by decide) (rv_ref (hR35 170 41 206 rfl)) fun h38 => ?_
                    show wr (d + 1) tb_M160 72 [(3, vi 6), (4, .ref 218), (2, vi 6), (1, .ref 212), (0, .ref 170)] [.ref 206] s36 _
                    refine wr_n (pc2 := 73) (lv2 := [(3, vi 6), (4, .ref 218), (2, vi 6), (1, .ref 212), (0, .ref 170)]) (st2 := [vi 0, .ref 206]) 1 (fun _ _ => rfl) ?_
                    refine wr_call0 (args := [.ref 206, vi 0]) (rest := []) rfl rfl rfl (Nat.le_of_ble_eq_true rfl) (cr_mono (c_fill (d := d) (q := 206) (n := 700) rfl (by omega) (by omega) (by omega) (by unfold i32; omega) _) ?_)
                    rintro s40 out ⟨rfl, hc39, hf39, hv39⟩
                    · refine ⟨_, rfl, ?_⟩
                      show wr (d + 1) tb_M160 76 [(3, vi 6), (4, .ref 218), (2, vi 6), (1, .ref 212), (0, .ref 170)] [] s40 _
                      have hX39 : RX s.1 s40.1 := RX_tr hX35 (fun k j e => hf39 k j (fun q => e (by unfold RS; omega)))
                      have hR39 : RF s40.1 := RX_RF hX39 hR
                      have hz39 : s40.2 = s.2 := hc39.trans hz35
                      have h170_52_39 : s40.1 170 52 = 0 := (hf39 170 52 (by omega)).trans h170_52_35
                      have h170_53_39 : s40.1 170 53 = 0 := (hf39 170 53 (by omega)).trans h170_53_35
                      have hd39 : ∀ j, j < 8 → s40.1 1630 j = 0 := fun j hj => (hf39 1630 j (by omega)).trans (hv35 j hj)
                      refine wr_n (pc2 := 78) (lv2 := [(3, vi 6), (4, .ref 218), (2, vi 6), (1, .ref 212), (0, .ref 170)]) (st2 := [vi 1, .ref 170]) 2 (fun _ _ => rfl) ?_
                      refine wr_put (z := 1) rfl rfl rfl rfl (by decide) rfl (by decide) rfl (show -2147483648 ≤ 1 ∧ 1 ≤ 2147483647 by omega) (hf_int' _) ?_
                      show wr (d + 1) tb_M160 81 [(3, vi 6), (4, .ref 218), (2, vi 6), (1, .ref 212), (0, .ref 170)] [] (up2 s40.1 170 55 1, s40.2) _
                      have hR42 : RF (up2 s40.1 170 55 1) := (RF_up hR39 rfl)
                      refine wr_n (pc2 := 84) (lv2 := [(3, vi 6), (4, .ref 218), (2, vi 6), (1, .ref 212), (0, .ref 170)]) (st2 := [.ref 170, vi 0, .ref 170]) 3 (fun _ _ => rfl) ?_
                      refine wr_get (v := .ref C) rfl rfl rfl (by decide) (rv_ref (show (up2 s40.1 170 55 1) 170 17 = ((C : Nat) : Int) from ((if_neg (by omega)).trans ((hX39 170 17 (by unfold RS; omega)).trans h17)))) fun h43 => ?_
                      show wr (d + 1) tb_M160 87 [(3, vi 6), (4, .ref 218), (2, vi 6), (1, .ref 212), (0, .ref 170)] [.ref C, vi 0, .ref 170] (up2 s40.1 170 55 1, s40.2) _
                      refine wr_get (v := vi (s40.1 C 2)) rfl rfl (TG_C hC) (by decide) (by show rv _ ((up2 s40.1 170 55 1) C 2) = _; rw [up_nk (by omega)]; rfl) fun h44 => ?_
                      replace h44 : rg _ ((up2 s40.1 170 55 1) C 2) := h44
                      rw [up_nk (by omega)] at h44
                      have h44 : -2147483648 ≤ s40.1 C 2 ∧ s40.1 C 2 ≤ 2147483647 := h44
                      show wr (d + 1) tb_M160 90 [(3, vi 6), (4, .ref 218), (2, vi 6), (1, .ref 212), (0, .ref 170)] [vi (s40.1 C 2), vi 0, .ref 170] (up2 s40.1 170 55 1, s40.2) _
                      refine wr_n (pc2 := 91) (lv2 := [(3, vi 6), (4, .ref 218), (2, vi 6), (1, .ref 212), (0, .ref 170)]) (st2 := [vi ((-1)), vi (s40.1 C 2), vi 0, .ref 170]) 1 (fun _ _ => rfl) ?_
                      refine wr_call1 (args := [vi 0, vi (s40.1 C 2), vi ((-1))]) (rest := []) rfl rfl rfl rfl (Nat.le_of_ble_eq_true rfl) (cr_mono (x_make (d := d) (o := 0) (t := s40.1 C 2) (a := -1) _ hR42 (by omega) (by unfold i32; omega) (by unfold i32; omega)) ?_)
                      rintro s46 out ⟨rfl, hc45, hf45, m5, m6, m8, m9, m10, m11⟩
                      · refine ⟨_, rfl, ?_⟩
                        show wr (d + 1) tb_M160 94 [(3, vi 6), (4, .ref 218), (2, vi 6), (1, .ref 212), (0, .ref 170)] [] s46 _
                        replace hf45 : ∀ k j, ¬ (205 ≤ k ∧ k ≤ 211 ∧ j = 0) → s46.1 k j = (up2 s40.1 170 55 1) k j := hf45
                        have hXT : RX s.1 (up2 s40.1 170 55 1) := (RX_up hX39 (by unfold RS; omega))
                        have hX45 : RX s.1 s46.1 := RX_tr hXT (fun k j e => hf45 k j (fun q => e (by unfold RS; omega)))
                        have h55 : s46.1 170 55 = 1 := (hf45 170 55 (by omega)).trans (by show (up2 s40.1 170 55 1) 170 55 = _; simp [up2])
                        have h52 : s46.1 170 52 = 0 := (hf45 170 52 (by omega)).trans ((if_neg (by omega)).trans h170_52_39)
                        have hd : HD s46.1 := fun j hj => by rw [show s46.1 1630 j = 0 from (hf45 1630 j (by omega)).trans ((if_neg (by omega)).trans (hd39 j hj))]; omega
                        have hst : s40.1 C 2 = s.1 C 2 := hX39 C 2 (by unfold RS; omega)
                        refine wr_n (pc2 := 95) (lv2 := [(3, vi 6), (4, .ref 218), (2, vi 6), (1, .ref 212), (0, .ref 170)]) (st2 := [vi 0]) 1 (fun _ _ => rfl) ?_
                        refine wr_end (fun _ _ => rfl) ?_
                        exact ⟨⟨⟨_, rfl⟩, hc45.trans hz39, hX45, .inr ⟨by omega, hd, h52, h55, m5.trans hst, m6, m8, m9, m10⟩⟩, by rw [if_neg (by omega)]⟩
  · refine wr_if1f rfl rfl (by unfold i32; omega) h2 ?_
    refine wr_n (pc2 := 9) (lv2 := [(0, .ref 170)]) (st2 := [vi ((-2))]) 1 (fun _ _ => rfl) ?_
    refine wr_end (fun _ _ => rfl) ?_
    exact ⟨⟨⟨_, rfl⟩, rfl, fun _ _ _ => rfl, .inl ⟨rfl, by omega⟩⟩, by rw [if_pos (by omega)]⟩
set_option maxHeartbeats 20000000 in
set_option maxRecDepth 100000 in
theorem q_count {d C D : Nat} (s : rS) (hR : RF s.1) (hS : SI C D s.1) {n : Int} (hn : i32 n) : cr (d + 1 + 1) 176 [.ref 170, vi n] s (MJ 1 (fun t => t = s.1 170 1) s) := by
  have hC := SI_C hS
  have ht0 := hS.2.1
  unfold i32 at hn
  refine cr_of (M := tb_M176) rfl (Nat.le_of_ble_eq_true rfl) ?_
  show wr (d + 1) tb_M176 0 [(0, .ref 170), (1, vi n)] [] s _
  refine wr_n (pc2 := 1) (lv2 := [(0, .ref 170), (1, vi n)]) (st2 := [vi n]) 1 (fun _ _ => rfl) ?_
  refine wr_i2l (a := n) rfl (by unfold i32; omega) ?_
  show wr (d + 1) tb_M176 2 [(0, .ref 170), (1, vi n)] [vl n] s _
  refine wr_n (pc2 := 6) (lv2 := [(0, .ref 170), (1, vi n)]) (st2 := [vl 12, vl 0, vl n]) 2 (fun _ _ => rfl) ?_
  refine wr_call0 (args := [vl n, vl 0, vl 12]) (rest := []) rfl rfl rfl (Nat.le_of_ble_eq_true rfl) (cr_mono (c_in (d := d) (a := n) (b := 0) (c := 12) _ (by unfold i64; omega) (by unfold i64; omega) (by unfold i64; omega)) ?_)
  rintro s4 out ⟨e1, rfl, h2, e3⟩
  refine ⟨_, rfl, ?_⟩
  rw [e3]
  show wr (d + 1) tb_M176 9 [(0, .ref 170), (1, vi n)] [vi e1] s _
  by_cases h5 : e1 ≠ 0
  · refine wr_if1t rfl rfl (by unfold i32; omega) h5 ?_
    refine wr_n (pc2 := 15) (lv2 := [(0, .ref 170), (1, vi n)]) (st2 := [.ref 170]) 1 (fun _ _ => rfl) ?_
    refine wr_get (v := vi (s.1 170 20)) rfl rfl rfl (by decide) rfl fun h6 => ?_
    have h6 : 0 ≤ s.1 170 20 ∧ s.1 170 20 ≤ 1 := h6
    show wr (d + 1) tb_M176 18 [(0, .ref 170), (1, vi n)] [vi (s.1 170 20)] s _
    by_cases h7 : s.1 170 20 ≠ 0
    · refine wr_if1t rfl rfl (by unfold i32; omega) h7 ?_
      refine wr_n (pc2 := 24) (lv2 := [(0, .ref 170), (1, vi n)]) (st2 := [vi n]) 1 (fun _ _ => rfl) ?_
      refine wr_tsw2 rfl (by decide) (by unfold i32; omega) (fun _ _ off hoff => ?_) (fun hdf => ?_)
      · have hoff2 : off = 52 ∨ off = 60 ∨ off = 68 ∨ off = 76 ∨ off = 84 ∨ off = 92 ∨ off = 100 ∨ off = 108 ∨ off = 113 := by simp at hoff; omega
        clear hoff
        rcases hoff2 with rfl | rfl | rfl | rfl | rfl | rfl | rfl | rfl | rfl
        · refine ⟨76, rfl, ?_⟩
          refine wr_n (pc2 := 77) (lv2 := [(0, .ref 170), (1, vi n)]) (st2 := [.ref 170]) 1 (fun _ _ => rfl) ?_
          refine wr_get (v := .ref C) rfl rfl rfl (by decide) (rv_ref (show s.1 170 17 = ((C : Nat) : Int) from hS.2.2.1)) fun h8 => ?_
          show wr (d + 1) tb_M176 80 [(0, .ref 170), (1, vi n)] [.ref C] s _
          refine wr_get (v := vi (s.1 C 3)) rfl rfl (TG_C hC) (by decide) rfl fun h9 => ?_
          have h9 : -2147483648 ≤ s.1 C 3 ∧ s.1 C 3 ≤ 2147483647 := h9
          show wr (d + 1) tb_M176 83 [(0, .ref 170), (1, vi n)] [vi (s.1 C 3)] s _
          refine wr_reti rfl rfl ?_
          exact MJ_same rfl rfl hR hS
        · refine ⟨84, rfl, ?_⟩
          refine wr_n (pc2 := 85) (lv2 := [(0, .ref 170), (1, vi n)]) (st2 := [.ref 170]) 1 (fun _ _ => rfl) ?_
          refine wr_get (v := .ref C) rfl rfl rfl (by decide) (rv_ref (show s.1 170 17 = ((C : Nat) : Int) from hS.2.2.1)) fun h10 => ?_
          show wr (d + 1) tb_M176 88 [(0, .ref 170), (1, vi n)] [.ref C] s _
          refine wr_get (v := vi (s.1 C 4)) rfl rfl (TG_C hC) (by decide) rfl fun h11 => ?_
          have h11 : -2147483648 ≤ s.1 C 4 ∧ s.1 C 4 ≤ 2147483647 := h11
          show wr (d + 1) tb_M176 91 [(0, .ref 170), (1, vi n)] [vi (s.1 C 4)] s _
          refine wr_reti rfl rfl ?_
          exact MJ_same rfl rfl hR hS
        · refine ⟨92, rfl, ?_⟩
          refine wr_n (pc2 := 93) (lv2 := [(0, .ref 170), (1, vi n)]) (st2 := [.ref 170]) 1 (fun _ _ => rfl) ?_
          refine wr_get (v := .ref C) rfl rfl rfl (by decide) (rv_ref (show s.1 170 17 = ((C : Nat) : Int) from hS.2.2.1)) fun h12 => ?_
          show wr (d + 1) tb_M176 96 [(0, .ref 170), (1, vi n)] [.ref C] s _
          refine wr_get (v := vi (s.1 C 5)) rfl rfl (TG_C hC) (by decide) rfl fun h13 => ?_
          have h13 : -2147483648 ≤ s.1 C 5 ∧ s.1 C 5 ≤ 2147483647 := h13
          show wr (d + 1) tb_M176 99 [(0, .ref 170), (1, vi n)] [vi (s.1 C 5)] s _
          refine wr_reti rfl rfl ?_
          exact MJ_same rfl rfl hR hS
        · refine ⟨100, rfl, ?_⟩
          refine wr_n (pc2 := 101) (lv2 := [(0, .ref 170), (1, vi n)]) (st2 := [.ref 170]) 1 (fun _ _ => rfl) ?_
          refine wr_get (v := .ref C) rfl rfl rfl (by decide) (rv_ref (show s.1 170 17 = ((C : Nat) : Int) from hS.2.2.1)) fun h14 => ?_
          show wr (d + 1) tb_M176 104 [(0, .ref 170), (1, vi n)] [.ref C] s _
          refine wr_get (v := vi (s.1 C 6)) rfl rfl (TG_C hC) (by decide) rfl fun h15 => ?_
          have h15 : -2147483648 ≤ s.1 C 6 ∧ s.1 C 6 ≤ 2147483647 := h15
          show wr (d + 1) tb_M176 107 [(0, .ref 170), (1, vi n)] [vi (s.1 C 6)] s _
          refine wr_reti rfl rfl ?_
          exact MJ_same rfl rfl hR hS
        · refine ⟨108, rfl, ?_⟩
          refine wr_n (pc2 := 109) (lv2 := [(0, .ref 170), (1, vi n)]) (st2 := [.ref 170]) 1 (fun _ _ => rfl) ?_
          refine wr_get (v := .ref C) rfl rfl rfl (by decide) (rv_ref (show s.1 170 17 = ((C : Nat) : Int) from hS.2.2.1)) fun h16 => ?_
          show wr (d + 1) tb_M176 112 [(0, .ref 170), (1, vi n)] [.ref C] s _
          refine wr_get (v := vi (s.1 C 7)) rfl rfl (TG_C hC) (by decide) rfl fun h17 => ?_
          have h17 : -2147483648 ≤ s.1 C 7 ∧ s.1 C 7 ≤ 2147483647 := h17
          show wr (d + 1) tb_M176 115 [(0, .ref 170), (1, vi n)] [vi (s.1 C 7)] s _
          refine wr_reti rfl rfl ?_
          exact MJ_same rfl rfl hR hS
        · refine ⟨116, rfl, ?_⟩
          refine wr_n (pc2 := 117) (lv2 := [(0, .ref 170), (1, vi n)]) (st2 := [.ref 170]) 1 (fun _ _ => rfl) ?_
          refine wr_get (v := .ref C) rfl rfl rfl (by decide) (rv_ref (show s.1 170 17 = ((C : Nat) : Int) from hS.2.2.1)) fun h18 => ?_
          show wr (d + 1) tb_M176 120 [(0, .ref 170), (1, vi n)] [.ref C] s _
          refine wr_get (v := vi (s.1 C 8)) rfl rfl (TG_C hC) (by decide) rfl fun h19 => ?_
          have h19 : -2147483648 ≤ s.1 C 8 ∧ s.1 C 8 ≤ 2147483647 := h19
          show wr (d + 1) tb_M176 123 [(0, .ref 170), (1, vi n)] [vi (s.1 C 8)] s _
          refine wr_reti rfl rfl ?_
          exact MJ_same rfl rfl hR hS
        · refine ⟨124, rfl, ?_⟩
          refine wr_n (pc2 := 125) (lv2 := [(0, .ref 170), (1, vi n)]) (st2 := [.ref 170]) 1 (fun _ _ => rfl) ?_
          refine wr_get (v := .ref C) rfl rfl rfl (by decide) (rv_ref (show s.1 170 17 = ((C : Nat) : Int) from hS.2.2.1)) fun h20 => ?_
          show wr (d + 1) tb_M176 128 [(0, .ref 170), (1, vi n)] [.ref C] s _
          refine wr_get (v := vi (s.1 C 9)) rfl rfl (TG_C hC) (by decide) rfl fun h21 => ?_
          have h21 : -2147483648 ≤ s.1 C 9 ∧ s.1 C 9 ≤ 2147483647 := h21
          show wr (d + 1) tb_M176 131 [(0, .ref 170), (1, vi n)] [vi (s.1 C 9)] s _
          refine wr_reti rfl rfl ?_
          exact MJ_same rfl rfl hR hS
        · refine ⟨132, rfl, ?_⟩
          refine wr_n (pc2 := 133) (lv2 := [(0, .ref 170), (1, vi n)]) (st2 := [.ref 170]) 1 (fun _ _ => rfl) ?_
          refine wr_get (v := vi (s.1 170 53)) rfl rfl rfl (by decide) rfl fun h22 => ?_
          have h22 : -2147483648 ≤ s.1 170 53 ∧ s.1 170 53 ≤ 2147483647 := h22
          show wr (d + 1) tb_M176 136 [(0, .ref 170), (1, vi n)] [vi (s.1 170 53)] s _
          refine wr_reti rfl rfl ?_
          exact MJ_same rfl rfl hR hS
        · refine ⟨137, rfl, ?_⟩
          refine wr_n (pc2 := 138) (lv2 := [(0, .ref 170), (1, vi n)]) (st2 := [.ref 170]) 1 (fun _ _ => rfl) ?_
          refine wr_get (v := vi (s.1 170 52)) rfl rfl rfl (by decide) rfl fun h23 => ?_
          have h23 : -2147483648 ≤ s.1 170 52 ∧ s.1 170 52 ≤ 2147483647 := h23
          show wr (d + 1) tb_M176 141 [(0, .ref 170), (1, vi n)] [vi (s.1 170 52)] s _
          refine wr_reti rfl rfl ?_
          exact MJ_same rfl rfl hR hS
      · refine ⟨142, rfl, ?_⟩
        refine wr_n (pc2 := 143) (lv2 := [(0, .ref 170), (1, vi n)]) (st2 := [.ref 170]) 1 (fun _ _ => rfl) ?_
        refine wr_get (v := vi (s.1 170 52)) rfl rfl rfl (by decide) rfl fun h24 => ?_
        have h24 : -2147483648 ≤ s.1 170 52 ∧ s.1 170 52 ≤ 2147483647 := h24
        show wr (d + 1) tb_M176 146 [(0, .ref 170), (1, vi n)] [vi (s.1 170 52)] s _
        refine wr_n (pc2 := 147) (lv2 := [(0, .ref 170), (1, vi n)]) (st2 := [vi 3, vi (s.1 170 52)]) 1 (fun _ _ => rfl) ?_
        by_cases h25 : s.1 170 52 ≠ 3
        · refine wr_if2t rfl rfl (by unfold i32; omega) (by unfold i32; omega) h25 ?_
          refine wr_n (pc2 := 155) (lv2 := [(0, .ref 170), (1, vi n)]) (st2 := [.ref 170]) 1 (fun _ _ => rfl) ?_
          refine wr_get (v := .ref 1630) rfl rfl rfl (by decide) (rv_ref (hR 170 51 1630 rfl)) fun h26 => ?_
          show wr (d + 1) tb_M176 158 [(0, .ref 170), (1, vi n)] [.ref 1630] s _
          refine wr_n (pc2 := 160) (lv2 := [(0, .ref 170), (1, vi n)]) (st2 := [vi n, vi 4, .ref 1630]) 2 (fun _ _ => rfl) ?_
          refine wr_add (a := 4) (b := n) rfl ?_
          show wr (d + 1) tb_M176 161 [(0, .ref 170), (1, vi n)] [vi (4 + n), .ref 1630] s _
          refine wr_n (pc2 := 163) (lv2 := [(0, .ref 170), (1, vi n)]) (st2 := [vi 9, vi (4 + n), .ref 1630]) 1 (fun _ _ => rfl) ?_
          refine wr_sub (a := 4 + n) (b := 9) rfl ?_
          show wr (d + 1) tb_M176 164 [(0, .ref 170), (1, vi n)] [vi ((4 + n) - 9), .ref 1630] s _
          refine wr_ald (a := (4 + n) - 9) (v := vi (s.1 1630 (((4 + n) - 9).toNat))) rfl rfl rfl (by omega) (by omega) (by decide) rfl fun h27 => ?_
          have h27 : -2147483648 ≤ s.1 1630 (((4 + n) - 9).toNat) ∧ s.1 1630 (((4 + n) - 9).toNat) ≤ 2147483647 := h27
          show wr (d + 1) tb_M176 165 [(0, .ref 170), (1, vi n)] [vi (s.1 1630 (((4 + n) - 9).toNat))] s _
          refine wr_reti rfl rfl ?_
          exact MJ_same rfl rfl hR hS
        · refine wr_if2f rfl rfl (by unfold i32; omega) (by unfold i32; omega) h25 ?_
          refine wr_n (pc2 := 165) (lv2 := [(0, .ref 170), (1, vi n)]) (st2 := [vi 0]) 2 (fun _ _ => rfl) ?_
          refine wr_end (fun _ _ => rfl) ?_
          exact MJ_same rfl rfl hR hS
    · refine wr_if1f rfl rfl (by unfold i32; omega) h7 ?_
      refine wr_n (pc2 := 22) (lv2 := [(0, .ref 170), (1, vi n)]) (st2 := [vi 0]) 1 (fun _ _ => rfl) ?_
      refine wr_end (fun _ _ => rfl) ?_
      exact MJ_same rfl rfl hR hS
  · refine wr_if1f rfl rfl (by unfold i32; omega) h5 ?_
    refine wr_n (pc2 := 13) (lv2 := [(0, .ref 170), (1, vi n)]) (st2 := [vi ((-1))]) 1 (fun _ _ => rfl) ?_
    refine wr_end (fun _ _ => rfl) ?_
    exact MJ_same rfl rfl hR hS
set_option maxHeartbeats 20000000 in
set_option maxRecDepth 100000 in
theorem q_give {d C D : Nat} (s : rS) (hR : RF s.1) (hS : SI C D s.1) {w v : Int} (hw : i32 w) (hv : i32 v) : cr (d + 1 + 1) 173 [.ref 170, vi w, vi v] s (MJ 1 (fun t => t = s.1 170 1) s) := by
  have hC := SI_C hS
  have ht0 := hS.2.1
  unfold i32 at hw hv
  refine cr_of (M := tb_M173) rfl (Nat.le_of_ble_eq_true rfl) ?_
  show wr (d + 1) tb_M173 0 [(0, .ref 170), (1, vi w), (2, vi v)] [] s _
  refine wr_n (pc2 := 1) (lv2 := [(0, .ref 170), (1, vi w), (2, vi v)]) (st2 := [.ref 170]) 1 (fun _ _ => rfl) ?_
  refine wr_get (v := vi (s.1 170 20)) rfl rfl rfl (by decide) rfl fun h1 => ?_
  have h1 : 0 ≤ s.1 170 20 ∧ s.1 170 20 ≤ 1 := h1
  show wr (d + 1) tb_M173 4 [(0, .ref 170), (1, vi w), (2, vi v)] [vi (s.1 170 20)] s _
  by_cases h2 : s.1 170 20 = 0
  · refine wr_if1t rfl rfl (by unfold i32; omega) h2 ?_
    refine wr_n (pc2 := 36) (lv2 := [(0, .ref 170), (1, vi w), (2, vi v)]) (st2 := [vi ((-2))]) 1 (fun _ _ => rfl) ?_
    refine wr_end (fun _ _ => rfl) ?_
    exact MJ_same rfl rfl hR hS
  · refine wr_if1f rfl rfl (by unfold i32; omega) h2 ?_
    obtain ⟨hH, hPT, hLK, na, hna, hsz⟩ := SA_get hS (by omega)
    unfold PT at hPT
    refine wr_n (pc2 := 8) (lv2 := [(0, .ref 170), (1, vi w), (2, vi v)]) (st2 := [.ref 170]) 1 (fun _ _ => rfl) ?_
    refine wr_get (v := vi (s.1 170 52)) rfl rfl rfl (by decide) rfl fun h3 => ?_
    have h3 : -2147483648 ≤ s.1 170 52 ∧ s.1 170 52 ≤ 2147483647 := h3
    show wr (d + 1) tb_M173 11 [(0, .ref 170), (1, vi w), (2, vi v)] [vi (s.1 170 52)] s _
    refine wr_n (pc2 := 12) (lv2 := [(0, .ref 170), (1, vi w), (2, vi v)]) (st2 := [vi 3, vi (s.1 170 52)]) 1 (fun _ _ => rfl) ?_
    by_cases h4 : s.1 170 52 = 3
    · refine wr_if2t rfl rfl (by unfold i32; omega) (by unfold i32; omega) h4 ?_
      refine wr_n (pc2 := 36) (lv2 := [(0, .ref 170), (1, vi w), (2, vi v)]) (st2 := [vi ((-2))]) 1 (fun _ _ => rfl) ?_
      refine wr_end (fun _ _ => rfl) ?_
      exact MJ_same rfl rfl hR hS
    · refine wr_if2f rfl rfl (by unfold i32; omega) (by unfold i32; omega) h4 ?_
      refine wr_n (pc2 := 16) (lv2 := [(0, .ref 170), (1, vi w), (2, vi v)]) (st2 := [vi w]) 1 (fun _ _ => rfl) ?_
      refine wr_i2l (a := w) rfl (by unfold i32; omega) ?_
      show wr (d + 1) tb_M173 17 [(0, .ref 170), (1, vi w), (2, vi v)] [vl w] s _
      refine wr_n (pc2 := 19) (lv2 := [(0, .ref 170), (1, vi w), (2, vi v)]) (st2 := [.ref 170, vl 0, vl w]) 2 (fun _ _ => rfl) ?_
      refine wr_get (v := .ref C) rfl rfl rfl (by decide) (rv_ref (show s.1 170 17 = ((C : Nat) : Int) from hS.2.2.1)) fun h5 => ?_
      show wr (d + 1) tb_M173 22 [(0, .ref 170), (1, vi w), (2, vi v)] [.ref C, vl 0, vl w] s _
      refine wr_get (v := vi (s.1 C 7)) rfl rfl (TG_C hC) (by decide) rfl fun h6 => ?_
      have h6 : -2147483648 ≤ s.1 C 7 ∧ s.1 C 7 ≤ 2147483647 := h6
      show wr (d + 1) tb_M173 25 [(0, .ref 170), (1, vi w), (2, vi v)] [vi (s.1 C 7), vl 0, vl w] s _
      refine wr_n (pc2 := 26) (lv2 := [(0, .ref 170), (1, vi w), (2, vi v)]) (st2 := [vi 1, vi (s.1 C 7), vl 0, vl w]) 1 (fun _ _ => rfl) ?_
      refine wr_sub (a := s.1 C 7) (b := 1) rfl ?_
      show wr (d + 1) tb_M173 27 [(0, .ref 170), (1, vi w), (2, vi v)] [vi ((s.1 C 7) - 1), vl 0, vl w] s _
      refine wr_i2l (a := (s.1 C 7) - 1) rfl (by unfold i32; omega) ?_
      show wr (d + 1) tb_M173 28 [(0, .ref 170), (1, vi w), (2, vi v)] [vl ((s.1 C 7) - 1), vl 0, vl w] s _
      refine wr_call0 (args := [vl w, vl 0, vl ((s.1 C 7) - 1)]) (rest := []) rfl rfl rfl (Nat.le_of_ble_eq_true rfl) (cr_mono (c_in (d := d) (a := w) (b := 0) (c := (s.1 C 7) - 1) _ (by unfold i64; omega) (by unfold i64; omega) (by unfold i64; omega)) ?_)
      rintro s10 out ⟨e7, rfl, h8, e9⟩
      refine ⟨_, rfl, ?_⟩
      rw [e9]
      show wr (d + 1) tb_M173 31 [(0, .ref 170), (1, vi w), (2, vi v)] [vi e7] s _
      by_cases h11 : e7 ≠ 0
      · refine wr_if1t rfl rfl (by unfold i32; omega) h11 ?_
        have hhw := hH w.toNat (by omega)
        refine wr_n (pc2 := 38) (lv2 := [(0, .ref 170), (1, vi w), (2, vi v)]) (st2 := [.ref 170]) 1 (fun _ _ => rfl) ?_
        refine wr_get (v := .ref 1630) rfl rfl rfl (by decide) (rv_ref (hR 170 51 1630 rfl)) fun h12 => ?_
        show wr (d + 1) tb_M173 41 [(0, .ref 170), (1, vi w), (2, vi v)] [.ref 1630] s _
        refine wr_n (pc2 := 42) (lv2 := [(0, .ref 170), (1, vi w), (2, vi v)]) (st2 := [vi w, .ref 1630]) 1 (fun _ _ => rfl) ?_
        refine wr_ald (a := w) (v := vi (s.1 1630 w.toNat)) rfl rfl rfl (by omega) (by omega) (by decide) rfl fun h13 => ?_
        have h13 : -2147483648 ≤ s.1 1630 w.toNat ∧ s.1 1630 w.toNat ≤ 2147483647 := h13
        show wr (d + 1) tb_M173 43 [(0, .ref 170), (1, vi w), (2, vi v)] [vi (s.1 1630 w.toNat)] s _
        refine wr_n (pc2 := 45) (lv2 := [(0, .ref 170), (1, vi w), (2, vi v)]) (st2 := [vi 40, vi (s.1 1630 w.toNat)]) 1 (fun _ _ => rfl) ?_
        by_cases h14 : s.1 1630 w.toNat ≠ 40
        · refine wr_if2t rfl rfl (by unfold i32; omega) (by unfold i32; omega) h14 ?_
          refine wr_n (pc2 := 52) (lv2 := [(0, .ref 170), (1, vi w), (2, vi v)]) (st2 := [.ref 170]) 1 (fun _ _ => rfl) ?_
          refine wr_get (v := .ref 1621) rfl rfl rfl (by decide) (rv_ref (hR 170 50 1621 rfl)) fun h15 => ?_
          show wr (d + 1) tb_M173 55 [(0, .ref 170), (1, vi w), (2, vi v)] [.ref 1621] s _
          refine wr_n (pc2 := 56) (lv2 := [(0, .ref 170), (1, vi w), (2, vi v)]) (st2 := [vi w, .ref 1621]) 1 (fun _ _ => rfl) ?_
          refine wr_ald (a := w) (v := .ref (1622 + w.toNat)) rfl rfl rfl (by omega) (by omega) (by decide) (rv_ref (hR 1621 w.toNat (1622 + w.toNat) (rc_in (by omega)))) fun h16 => ?_
          show wr (d + 1) tb_M173 57 [(0, .ref 170), (1, vi w), (2, vi v)] [.ref (1622 + w.toNat)] s _
          refine wr_n (pc2 := 58) (lv2 := [(0, .ref 170), (1, vi w), (2, vi v)]) (st2 := [.ref 170, .ref (1622 + w.toNat)]) 1 (fun _ _ => rfl) ?_
          refine wr_get (v := .ref 1630) rfl rfl rfl (by decide) (rv_ref (hR 170 51 1630 rfl)) fun h17 => ?_
          show wr (d + 1) tb_M173 61 [(0, .ref 170), (1, vi w), (2, vi v)] [.ref 1630, .ref (1622 + w.toNat)] s _
          refine wr_n (pc2 := 62) (lv2 := [(0, .ref 170), (1, vi w), (2, vi v)]) (st2 := [vi w, .ref 1630, .ref (1622 + w.toNat)]) 1 (fun _ _ => rfl) ?_
          refine wr_ald (a := w) (v := vi (s.1 1630 w.toNat)) rfl rfl rfl (by omega) (by omega) (by decide) rfl fun h18 => ?_
          have h18 : -2147483648 ≤ s.1 1630 w.toNat ∧ s.1 1630 w.toNat ≤ 2147483647 := h18
          show wr (d + 1) tb_M173 63 [(0, .ref 170), (1, vi w), (2, vi v)] [vi (s.1 1630 w.toNat), .ref (1622 + w.toNat)] s _
          refine wr_n (pc2 := 64) (lv2 := [(0, .ref 170), (1, vi w), (2, vi v)]) (st2 := [vi v, vi (s.1 1630 w.toNat), .ref (1622 + w.toNat)]) 1 (fun _ _ => rfl) ?_
          refine wr_anyu rfl (fun x => ⟨_, rfl⟩) fun z19 h20 => ?_
          unfold i32 at h20
          show wr (d + 1) tb_M173 65 [(0, .ref 170), (1, vi w), (2, vi v)] [vi z19, vi (s.1 1630 w.toNat), .ref (1622 + w.toNat)] s _
          refine wr_ast (a := s.1 1630 w.toNat) (z := z19) rfl (show 96 ≤ 1622 + w.toNat by omega) (TG_in (by omega)) rfl (by omega) (by omega) (by decide) rfl (show -2147483648 ≤ z19 ∧ z19 ≤ 2147483647 by omega) ?_
          show wr (d + 1) tb_M173 66 [(0, .ref 170), (1, vi w), (2, vi v)] [] (up2 s.1 (1622 + w.toNat) ((s.1 1630 w.toNat).toNat) z19, s.2) _
          have hR21 : RF (up2 s.1 (1622 + w.toNat) ((s.1 1630 w.toNat).toNat) z19) := (RF_up hR (RS_rc (by unfold RS; omega)))
          refine wr_n (pc2 := 67) (lv2 := [(0, .ref 170), (1, vi w), (2, vi v)]) (st2 := [.ref 170]) 1 (fun _ _ => rfl) ?_
          refine wr_get (v := .ref 1630) rfl rfl rfl (by decide) (rv_ref (hR21 170 51 1630 rfl)) fun h22 => ?_
          show wr (d + 1) tb_M173 70 [(0, .ref 170), (1, vi w), (2, vi v)] [.ref 1630] (up2 s.1 (1622 + w.toNat) ((s.1 1630 w.toNat).toNat) z19, s.2) _
          refine wr_n (pc2 := 72) (lv2 := [(0, .ref 170), (1, vi w), (2, vi v)]) (st2 := [vi w, .ref 1630, vi w, .ref 1630]) 2 (fun _ _ => rfl) ?_
          refine wr_ald (a := w) (v := vi (s.1 1630 w.toNat)) rfl rfl rfl (by omega) (by omega) (by decide) (by show rv _ ((up2 s.1 (1622 + w.toNat) ((s.1 1630 w.toNat).toNat) z19) 1630 w.toNat) = _; rw [up_nk (by omega)]; rfl) fun h23 => ?_
          have h23 : rg _ ((up2 s.1 (1622 + w.toNat) ((s.1 1630 w.toNat).toNat) z19) 1630 w.toNat) := h23
          rw [up_nk (by omega)] at h23
          have h23 : -2147483648 ≤ s.1 1630 w.toNat ∧ s.1 1630 w.toNat ≤ 2147483647 := h23
          show wr (d + 1) tb_M173 73 [(0, .ref 170), (1, vi w), (2, vi v)] [vi (s.1 1630 w.toNat), vi w, .ref 1630] (up2 s.1 (1622 + w.toNat) ((s.1 1630 w.toNat).toNat) z19, s.2) _
          refine wr_n (pc2 := 74) (lv2 := [(0, .ref 170), (1, vi w), (2, vi v)]) (st2 := [vi 1, vi (s.1 1630 w.toNat), vi w, .ref 1630]) 1 (fun _ _ => rfl) ?_
          refine wr_add (a := s.1 1630 w.toNat) (b := 1) rfl ?_
          show wr (d + 1) tb_M173 75 [(0, .ref 170), (1, vi w), (2, vi v)] [vi (s.1 1630 w.toNat + 1), vi w, .ref 1630] (up2 s.1 (1622 + w.toNat) ((s.1 1630 w.toNat).toNat) z19, s.2) _
          refine wr_ast (a := w) (z := s.1 1630 w.toNat + 1) rfl (by decide) rfl rfl (by omega) (by omega) (by decide) rfl (show -2147483648 ≤ s.1 1630 w.toNat + 1 ∧ s.1 1630 w.toNat + 1 ≤ 2147483647 by omega) ?_
          show wr (d + 1) tb_M173 76 [(0, .ref 170), (1, vi w), (2, vi v)] [] (up2 (up2 s.1 (1622 + w.toNat) ((s.1 1630 w.toNat).toNat) z19) 1630 w.toNat (s.1 1630 w.toNat + 1), s.2) _
          have hR24 : RF (up2 (up2 s.1 (1622 + w.toNat) ((s.1 1630 w.toNat).toNat) z19) 1630 w.toNat (s.1 1630 w.toNat + 1)) := (RF_up (RF_up hR (RS_rc (by unfold RS; omega))) rfl)
          refine wr_n (pc2 := 77) (lv2 := [(0, .ref 170), (1, vi w), (2, vi v)]) (st2 := [.ref 170]) 1 (fun _ _ => rfl) ?_
          refine wr_get (v := .ref 1630) rfl rfl rfl (by decide) (rv_ref (hR24 170 51 1630 rfl)) fun h25 => ?_
          show wr (d + 1) tb_M173 80 [(0, .ref 170), (1, vi w), (2, vi v)] [.ref 1630] (up2 (up2 s.1 (1622 + w.toNat) ((s.1 1630 w.toNat).toNat) z19) 1630 w.toNat (s.1 1630 w.toNat + 1), s.2) _
          refine wr_n (pc2 := 81) (lv2 := [(0, .ref 170), (1, vi w), (2, vi v)]) (st2 := [vi w, .ref 1630]) 1 (fun _ _ => rfl) ?_
          refine wr_ald (a := w) (v := vi (s.1 1630 w.toNat + 1)) rfl rfl rfl (by omega) (by omega) (by decide) (by show rv _ ((up2 (up2 s.1 (1622 + w.toNat) ((s.1 1630 w.toNat).toNat) z19) 1630 w.toNat (s.1 1630 w.toNat + 1)) 1630 w.toNat) = _; rw [up_self]; rfl) fun h26 => ?_
          have h26 : rg _ ((up2 (up2 s.1 (1622 + w.toNat) ((s.1 1630 w.toNat).toNat) z19) 1630 w.toNat (s.1 1630 w.toNat + 1)) 1630 w.toNat) := h26
          rw [up_self] at h26
          have h26 : -2147483648 ≤ s.1 1630 w.toNat + 1 ∧ s.1 1630 w.toNat + 1 ≤ 2147483647 := h26
          show wr (d + 1) tb_M173 82 [(0, .ref 170), (1, vi w), (2, vi v)] [vi (s.1 1630 w.toNat + 1)] (up2 (up2 s.1 (1622 + w.toNat) ((s.1 1630 w.toNat).toNat) z19) 1630 w.toNat (s.1 1630 w.toNat + 1), s.2) _
          refine wr_reti rfl rfl ?_
          have hHn : HD (up2 (up2 s.1 (1622 + w.toNat) ((s.1 1630 w.toNat).toNat) z19) 1630 w.toNat (s.1 1630 w.toNat + 1)) := fun i hi => by
            by_cases e : i = w.toNat
            · subst e; rw [up_self]; omega
            · rw [up_nj e, up_nk (by omega)]; exact hH i hi
          have hf : ∀ k j, ¬ (1622 ≤ k ∧ k ≤ 1630) → (up2 (up2 s.1 (1622 + w.toNat) ((s.1 1630 w.toNat).toNat) z19) 1630 w.toNat (s.1 1630 w.toNat + 1)) k j = s.1 k j := fun k j e => (if_neg (by omega)).trans (if_neg (by omega))
          exact ⟨⟨_, rfl, rfl⟩, rfl, hR24, fun k j hk => hf k j (by omega), ⟨C, D, SI_fr hS (fun k j _ e => hf k j e) (by show 0 ≤ (up2 (up2 s.1 (1622 + w.toNat) ((s.1 1630 w.toNat).toNat) z19) 1630 w.toNat (s.1 1630 w.toNat + 1)) 170 1 ∧ (up2 (up2 s.1 (1622 + w.toNat) ((s.1 1630 w.toNat).toNat) z19) 1630 w.toNat (s.1 1630 w.toNat + 1)) 170 1 ≤ 2000; rw [hf 170 1 (by omega)]; exact ht0) (fun _ => hHn)⟩, hf 170 1 (by omega)⟩
        · refine wr_if2f rfl rfl (by unfold i32; omega) (by unfold i32; omega) h14 ?_
          refine wr_n (pc2 := 50) (lv2 := [(0, .ref 170), (1, vi w), (2, vi v)]) (st2 := [vi ((-3))]) 1 (fun _ _ => rfl) ?_
          refine wr_end (fun _ _ => rfl) ?_
          exact MJ_same rfl rfl hR hS
      · refine wr_if1f rfl rfl (by unfold i32; omega) h11 ?_
        refine wr_n (pc2 := 36) (lv2 := [(0, .ref 170), (1, vi w), (2, vi v)]) (st2 := [vi ((-2))]) 1 (fun _ _ => rfl) ?_
        refine wr_end (fun _ _ => rfl) ?_
        exact MJ_same rfl rfl hR hS
set_option maxHeartbeats 20000000 in
set_option maxRecDepth 100000 in
theorem q_take {d C D : Nat} (s : rS) (hR : RF s.1) (hS : SI C D s.1) {w : Int} (hw : i32 w) : cr (d + 1 + 1) 174 [.ref 170, vi w] s (MJ 2 (fun t => t = s.1 170 1) s) := by
  have hC := SI_C hS
  have ht0 := hS.2.1
  unfold i32 at hw
  refine cr_of (M := tb_M174) rfl (Nat.le_of_ble_eq_true rfl) ?_
  show wr (d + 1) tb_M174 0 [(0, .ref 170), (1, vi w)] [] s _
  refine wr_n (pc2 := 1) (lv2 := [(0, .ref 170), (1, vi w)]) (st2 := [.ref 170]) 1 (fun _ _ => rfl) ?_
  refine wr_get (v := vi (s.1 170 20)) rfl rfl rfl (by decide) rfl fun h1 => ?_
  have h1 : 0 ≤ s.1 170 20 ∧ s.1 170 20 ≤ 1 := h1
  show wr (d + 1) tb_M174 4 [(0, .ref 170), (1, vi w)] [vi (s.1 170 20)] s _
  by_cases h2 : s.1 170 20 = 0
  · refine wr_if1t rfl rfl (by unfold i32; omega) h2 ?_
    refine wr_n (pc2 := 48) (lv2 := [(0, .ref 170), (1, vi w)]) (st2 := [vl 1099511627776]) 1 (fun _ _ => rfl) ?_
    refine wr_end (fun _ _ => rfl) ?_
    exact MJ_same rfl rfl hR hS
  · refine wr_if1f rfl rfl (by unfold i32; omega) h2 ?_
    obtain ⟨hH, hPT, hLK, na, hna, hsz⟩ := SA_get hS (by omega)
    unfold PT at hPT
    refine wr_n (pc2 := 8) (lv2 := [(0, .ref 170), (1, vi w)]) (st2 := [.ref 170]) 1 (fun _ _ => rfl) ?_
    refine wr_get (v := vi (s.1 170 52)) rfl rfl rfl (by decide) rfl fun h3 => ?_
    have h3 : -2147483648 ≤ s.1 170 52 ∧ s.1 170 52 ≤ 2147483647 := h3
    show wr (d + 1) tb_M174 11 [(0, .ref 170), (1, vi w)] [vi (s.1 170 52)] s _
    refine wr_n (pc2 := 12) (lv2 := [(0, .ref 170), (1, vi w)]) (st2 := [vi 3, vi (s.1 170 52)]) 1 (fun _ _ => rfl) ?_
    by_cases h4 : s.1 170 52 = 3
    · refine wr_if2t rfl rfl (by unfold i32; omega) (by unfold i32; omega) h4 ?_
      refine wr_n (pc2 := 48) (lv2 := [(0, .ref 170), (1, vi w)]) (st2 := [vl 1099511627776]) 1 (fun _ _ => rfl) ?_
      refine wr_end (fun _ _ => rfl) ?_
      exact MJ_same rfl rfl hR hS
    · refine wr_if2f rfl rfl (by unfold i32; omega) (by unfold i32; omega) h4 ?_
      refine wr_n (pc2 := 16) (lv2 := [(0, .ref 170), (1, vi w)]) (st2 := [vi w]) 1 (fun _ _ => rfl) ?_
      refine wr_i2l (a := w) rfl (by unfold i32; omega) ?_
      show wr (d + 1) tb_M174 17 [(0, .ref 170), (1, vi w)] [vl w] s _
      refine wr_n (pc2 := 19) (lv2 := [(0, .ref 170), (1, vi w)]) (st2 := [.ref 170, vl 0, vl w]) 2 (fun _ _ => rfl) ?_
      refine wr_get (v := .ref C) rfl rfl rfl (by decide) (rv_ref (show s.1 170 17 = ((C : Nat) : Int) from hS.2.2.1)) fun h5 => ?_
      show wr (d + 1) tb_M174 22 [(0, .ref 170), (1, vi w)] [.ref C, vl 0, vl w] s _
      refine wr_get (v := vi (s.1 C 8)) rfl rfl (TG_C hC) (by decide) rfl fun h6 => ?_
      have h6 : -2147483648 ≤ s.1 C 8 ∧ s.1 C 8 ≤ 2147483647 := h6
      show wr (d + 1) tb_M174 25 [(0, .ref 170), (1, vi w)] [vi (s.1 C 8), vl 0, vl w] s _
      refine wr_n (pc2 := 26) (lv2 := [(0, .ref 170), (1, vi w)]) (st2 := [vi 1, vi (s.1 C 8), vl 0, vl w]) 1 (fun _ _ => rfl) ?_
      refine wr_sub (a := s.1 C 8) (b := 1) rfl ?_
      show wr (d + 1) tb_M174 27 [(0, .ref 170), (1, vi w)] [vi ((s.1 C 8) - 1), vl 0, vl w] s _
      refine wr_i2l (a := (s.1 C 8) - 1) rfl (by unfold i32; omega) ?_
      show wr (d + 1) tb_M174 28 [(0, .ref 170), (1, vi w)] [vl ((s.1 C 8) - 1), vl 0, vl w] s _
      refine wr_call0 (args := [vl w, vl 0, vl ((s.1 C 8) - 1)]) (rest := []) rfl rfl rfl (Nat.le_of_ble_eq_true rfl) (cr_mono (c_in (d := d) (a := w) (b := 0) (c := (s.1 C 8) - 1) _ (by unfold i64; omega) (by unfold i64; omega) (by unfold i64; omega)) ?_)
      rintro s10 out ⟨e7, rfl, h8, e9⟩
      refine ⟨_, rfl, ?_⟩
      rw [e9]
      show wr (d + 1) tb_M174 31 [(0, .ref 170), (1, vi w)] [vi e7] s _
      by_cases h11 : e7 = 0
      · refine wr_if1t rfl rfl (by unfold i32; omega) h11 ?_
        refine wr_n (pc2 := 48) (lv2 := [(0, .ref 170), (1, vi w)]) (st2 := [vl 1099511627776]) 1 (fun _ _ => rfl) ?_
        refine wr_end (fun _ _ => rfl) ?_
        exact MJ_same rfl rfl hR hS
      · refine wr_if1f rfl rfl (by unfold i32; omega) h11 ?_
        have hhw := hH (4 + w).toNat (by omega)
        refine wr_n (pc2 := 35) (lv2 := [(0, .ref 170), (1, vi w)]) (st2 := [.ref 170]) 1 (fun _ _ => rfl) ?_
        refine wr_get (v := .ref 1630) rfl rfl rfl (by decide) (rv_ref (hR 170 51 1630 rfl)) fun h12 => ?_
        show wr (d + 1) tb_M174 38 [(0, .ref 170), (1, vi w)] [.ref 1630] s _
        refine wr_n (pc2 := 40) (lv2 := [(0, .ref 170), (1, vi w)]) (st2 := [vi w, vi 4, .ref 1630]) 2 (fun _ _ => rfl) ?_
        refine wr_add (a := 4) (b := w) rfl ?_
        show wr (d + 1) tb_M174 41 [(0, .ref 170), (1, vi w)] [vi (4 + w), .ref 1630] s _
        refine wr_ald (a := 4 + w) (v := vi (s.1 1630 ((4 + w).toNat))) rfl rfl rfl (by omega) (by omega) (by decide) rfl fun h13 => ?_
        have h13 : -2147483648 ≤ s.1 1630 ((4 + w).toNat) ∧ s.1 1630 ((4 + w).toNat) ≤ 2147483647 := h13
        show wr (d + 1) tb_M174 42 [(0, .ref 170), (1, vi w)] [vi (s.1 1630 ((4 + w).toNat))] s _
        by_cases h14 : s.1 1630 ((4 + w).toNat) ≠ 0
        · refine wr_if1t rfl rfl (by unfold i32; omega) h14 ?_
          refine wr_n (pc2 := 52) (lv2 := [(0, .ref 170), (1, vi w)]) (st2 := [vi w, vi 4, .ref 170]) 3 (fun _ _ => rfl) ?_
          refine wr_add (a := 4) (b := w) rfl ?_
          show wr (d + 1) tb_M174 53 [(0, .ref 170), (1, vi w)] [vi (4 + w), .ref 170] s _
          rw [show 4 + w = (((4 + w).toNat : Nat) : Int) by omega]
          refine wr_call1 (args := [vi ((((4 + w).toNat : Nat) : Int))]) (rest := []) rfl rfl rfl rfl (Nat.le_of_ble_eq_true rfl) (cr_mono (c_first (d := d) (q := (4 + w).toNat) (by omega) _ hR (by omega)) ?_)
          rintro s16 out ⟨v15, rfl, hv15, hc15, hf15, hw15⟩
          · refine ⟨_, rfl, ?_⟩
            show wr (d + 1) tb_M174 56 [(0, .ref 170), (1, vi w)] [vi v15] s16 _
            unfold i32 at hv15
            refine wr_i2l (a := v15) rfl (by unfold i32; omega) ?_
            show wr (d + 1) tb_M174 57 [(0, .ref 170), (1, vi w)] [vl v15] s16 _
            refine wr_end (fun _ _ => rfl) ?_
            have hHn : HD s16.1 := fun i hi => by
              by_cases e : i = (4 + w).toNat
              · subst e; rw [hw15]; omega
              · rw [hf15 1630 i (by omega) (by omega)]; exact hH i hi
            have hf : ∀ k j, ¬ (1622 ≤ k ∧ k ≤ 1630) → s16.1 k j = s.1 k j := fun k j e => hf15 k j (by omega) (by omega)
            exact ⟨⟨_, rfl, rfl⟩, hc15, RX_RF (fun k j e => hf k j (fun q => e (by unfold RS; omega))) hR, fun k j hk => hf k j (by omega), ⟨C, D, SI_fr hS (fun k j _ e => hf k j e) (by rw [hf 170 1 (by omega)]; exact ht0) (fun _ => hHn)⟩, hf 170 1 (by omega)⟩
        · refine wr_if1f rfl rfl (by unfold i32; omega) h14 ?_
          refine wr_n (pc2 := 48) (lv2 := [(0, .ref 170), (1, vi w)]) (st2 := [vl 1099511627776]) 1 (fun _ _ => rfl) ?_
          refine wr_end (fun _ _ => rfl) ?_
          exact MJ_same rfl rfl hR hS
set_option maxHeartbeats 20000000 in
set_option maxRecDepth 100000 in
theorem m_look75 {d C D na : Nat} {k n : Int} {s : rS} (hC : C = 177 ∨ C = 186) (hR : RF s.1) (hS : SI C D s.1) (htz : s.1 170 1 = 0) (hk : i32 k) (hn : 0 ≤ n ∧ n ≤ 2000) (hLK : LK C s.1) (hna : s.1 C 5 = (na : Int) ∧ na ≤ 6) (hsz : ∀ a : Nat, a < na → 1 ≤ s.1 (C + 3) a ∧ s.1 (C + 3) a ≤ 64) {Q : rS → hm_Out → Prop} {i : Nat} (hi : (i : Int) < s.1 C 18) (hLi : 0 ≤ s.1 (C + 5) i ∧ s.1 (C + 5) i ≤ s.1 (C + 6) i ∧ s.1 (C + 6) i ≤ 2000) (hi9 : i < 100) (hQ : ∀ j2 sm2 : Int, sm2 = 0 ∨ sm2 = 1 → wr d tb_M175 129 [(5, vi j2), (4, vi sm2), (3, vi ((i : Int))), (2, vi n), (0, .ref 170), (1, vi k)] [] s Q) : ∀ (w : Nat) (j sm : Int), (n - j).toNat = w → (0 ≤ j ∧ j ≤ n) → (sm = 0 ∨ sm = 1 ∧ s.1 (C + 6) i - s.1 (C + 5) i = n) → wr d tb_M175 75 [(5, vi j), (4, vi sm), (3, vi ((i : Int))), (2, vi n), (0, .ref 170), (1, vi k)] [] s Q := by
  intro w
  induction w using Nat.strongRecOn with | ind w ih => ?_
  intro j sm hw hj hsm
  refine wr_n (pc2 := 78) (lv2 := [(5, vi j), (4, vi sm), (3, vi ((i : Int))), (2, vi n), (0, .ref 170), (1, vi k)]) (st2 := [vi n, vi j]) 2 (fun _ _ => rfl) ?_
  by_cases h1 : n ≤ j
  · refine wr_if2t rfl rfl (by unfold i32; omega) (by unfold i32; omega) h1 ?_
    exact hQ _ _ (by omega)
  · refine wr_if2f rfl rfl (by unfold i32; omega) (by unfold i32; omega) h1 ?_
    refine wr_n (pc2 := 83) (lv2 := [(5, vi j), (4, vi sm), (3, vi ((i : Int))), (2, vi n), (0, .ref 170), (1, vi k)]) (st2 := [vi sm]) 1 (fun _ _ => rfl) ?_
    by_cases h2 : sm = 0
    · refine wr_if1t rfl rfl (by unfold i32; omega) h2 ?_
      exact hQ _ _ (by omega)
    · refine wr_if1f rfl rfl (by unfold i32; omega) h2 ?_
      refine wr_n (pc2 := 87) (lv2 := [(5, vi j), (4, vi sm), (3, vi ((i : Int))), (2, vi n), (0, .ref 170), (1, vi k)]) (st2 := [.ref 170]) 1 (fun _ _ => rfl) ?_
      refine wr_get (v := .ref C) rfl rfl rfl (by decide) (rv_ref (show s.1 170 17 = ((C : Nat) : Int) from hS.2.2.1)) fun h3 => ?_
      show wr d tb_M175 90 [(5, vi j), (4, vi sm), (3, vi ((i : Int))), (2, vi n), (0, .ref 170), (1, vi k)] [.ref C] s _
      refine wr_get (v := .ref (C + 4)) rfl rfl (TG_C hC) (by decide) (rv_ref (hR C 13 (C + 4) (rc_C13 hC))) fun h4 => ?_
      show wr d tb_M175 93 [(5, vi j), (4, vi sm), (3, vi ((i : Int))), (2, vi n), (0, .ref 170), (1, vi k)] [.ref (C + 4)] s _
      refine wr_n (pc2 := 94) (lv2 := [(5, vi j), (4, vi sm), (3, vi ((i : Int))), (2, vi n), (0, .ref 170), (1, vi k)]) (st2 := [.ref 170, .ref (C + 4)]) 1 (fun _ _ => rfl) ?_
      refine wr_get (v := .ref C) rfl rfl rfl (by decide) (rv_ref (show s.1 170 17 = ((C : Nat) : Int) from hS.2.2.1)) fun h5 => ?_
      show wr d tb_M175 97 [(5, vi j), (4, vi sm), (3, vi ((i : Int))), (2, vi n), (0, .ref 170), (1, vi k)] [.ref C, .ref (C + 4)] s _
      refine wr_get (v := .ref (C + 5)) rfl rfl (TG_C hC) (by decide) (rv_ref (hR C 14 (C + 5) (rc_C14 hC))) fun h6 => ?_
      show wr d tb_M175 100 [(5, vi j), (4, vi sm), (3, vi ((i : Int))), (2, vi n), (0, .ref 170), (1, vi k)] [.ref (C + 5), .ref (C + 4)] s _
      refine wr_n (pc2 := 101) (lv2 := [(5, vi j), (4, vi sm), (3, vi ((i : Int))), (2, vi n), (0, .ref 170), (1, vi k)]) (st2 := [vi ((i : Int)), .ref (C + 5), .ref (C + 4)]) 1 (fun _ _ => rfl) ?_
      refine wr_ald (a := (i : Int)) (v := vi (s.1 (C + 5) i)) rfl (TG_C5 hC) rfl (by omega) (by omega) (by decide) rfl fun h7 => ?_
      have h7 : -2147483648 ≤ s.1 (C + 5) i ∧ s.1 (C + 5) i ≤ 2147483647 := h7
      show wr d tb_M175 102 [(5, vi j), (4, vi sm), (3, vi ((i : Int))), (2, vi n), (0, .ref 170), (1, vi k)] [vi (s.1 (C + 5) i), .ref (C + 4)] s _
      refine wr_n (pc2 := 104) (lv2 := [(5, vi j), (4, vi sm), (3, vi ((i : Int))), (2, vi n), (0, .ref 170), (1, vi k)]) (st2 := [vi j, vi (s.1 (C + 5) i), .ref (C + 4)]) 1 (fun _ _ => rfl) ?_
      refine wr_add (a := s.1 (C + 5) i) (b := j) rfl ?_
      show wr d tb_M175 105 [(5, vi j), (4, vi sm), (3, vi ((i : Int))), (2, vi n), (0, .ref 170), (1, vi k)] [vi (s.1 (C + 5) i + j), .ref (C + 4)] s _
      refine wr_ald (a := s.1 (C + 5) i + j) (v := vi (s.1 (C + 4) ((s.1 (C + 5) i + j).toNat))) rfl (TG_C4 hC) rfl (by omega) (by omega) (by decide) rfl fun h8 => ?_
      have h8 : -128 ≤ s.1 (C + 4) ((s.1 (C + 5) i + j).toNat) ∧ s.1 (C + 4) ((s.1 (C + 5) i + j).toNat) ≤ 127 := h8
      show wr d tb_M175 106 [(5, vi j), (4, vi sm), (3, vi ((i : Int))), (2, vi n), (0, .ref 170), (1, vi k)] [vi (s.1 (C + 4) ((s.1 (C + 5) i + j).toNat))] s _
      refine wr_n (pc2 := 107) (lv2 := [(5, vi j), (4, vi sm), (3, vi ((i : Int))), (2, vi n), (0, .ref 170), (1, vi k)]) (st2 := [.ref 170, vi (s.1 (C + 4) ((s.1 (C + 5) i + j).toNat))]) 1 (fun _ _ => rfl) ?_
      refine wr_get (v := .ref 171) rfl rfl rfl (by decide) (rv_ref (hR 170 0 171 rfl)) fun h9 => ?_
      show wr d tb_M175 110 [(5, vi j), (4, vi sm), (3, vi ((i : Int))), (2, vi n), (0, .ref 170), (1, vi k)] [.ref 171, vi (s.1 (C + 4) ((s.1 (C + 5) i + j).toNat))] s _
      refine wr_n (pc2 := 112) (lv2 := [(5, vi j), (4, vi sm), (3, vi ((i : Int))), (2, vi n), (0, .ref 170), (1, vi k)]) (st2 := [vi j, .ref 171, vi (s.1 (C + 4) ((s.1 (C + 5) i + j).toNat))]) 1 (fun _ _ => rfl) ?_
      refine wr_ald (a := j) (v := vi (s.1 171 j.toNat)) rfl rfl rfl (by omega) (by omega) (by decide) rfl fun h10 => ?_
      have h10 : -128 ≤ s.1 171 j.toNat ∧ s.1 171 j.toNat ≤ 127 := h10
      show wr d tb_M175 113 [(5, vi j), (4, vi sm), (3, vi ((i : Int))), (2, vi n), (0, .ref 170), (1, vi k)] [vi (s.1 171 j.toNat), vi (s.1 (C + 4) ((s.1 (C + 5) i + j).toNat))] s _
      by_cases h11 : s.1 (C + 4) ((s.1 (C + 5) i + j).toNat) ≠ s.1 171 j.toNat
      · refine wr_if2t rfl rfl (by unfold i32; omega) (by unfold i32; omega) h11 ?_
        refine wr_n (pc2 := 123) (lv2 := [(4, vi 0), (5, vi j), (3, vi ((i : Int))), (2, vi n), (0, .ref 170), (1, vi k)]) (st2 := []) 2 (fun _ _ => rfl) ?_
        refine wr_inc (a := j) rfl rfl ?_
        show wr d tb_M175 126 [(5, vi (j + 1)), (4, vi 0), (3, vi ((i : Int))), (2, vi n), (0, .ref 170), (1, vi k)] [] s _
        refine wr_n (pc2 := 75) (lv2 := [(5, vi (j + 1)), (4, vi 0), (3, vi ((i : Int))), (2, vi n), (0, .ref 170), (1, vi k)]) (st2 := []) 1 (fun _ _ => rfl) ?_
        exact ih _ (by omega) _ _ rfl (by omega) (by omega)
      · refine wr_if2f rfl rfl (by unfold i32; omega) (by unfold i32; omega) h11 ?_
        refine wr_n (pc2 := 123) (lv2 := [(4, vi 1), (5, vi j), (3, vi ((i : Int))), (2, vi n), (0, .ref 170), (1, vi k)]) (st2 := []) 3 (fun _ _ => rfl) ?_
        refine wr_inc (a := j) rfl rfl ?_
        show wr d tb_M175 126 [(5, vi (j + 1)), (4, vi 1), (3, vi ((i : Int))), (2, vi n), (0, .ref 170), (1, vi k)] [] s _
        refine wr_n (pc2 := 75) (lv2 := [(5, vi (j + 1)), (4, vi 1), (3, vi ((i : Int))), (2, vi n), (0, .ref 170), (1, vi k)]) (st2 := []) 1 (fun _ _ => rfl) ?_
        exact ih _ (by omega) _ _ rfl (by omega) (by omega)
set_option maxHeartbeats 20000000 in
set_option maxRecDepth 100000 in
theorem m_look129 {d C D na : Nat} {k n : Int} {s0 s : rS} (hC : C = 177 ∨ C = 186) (hR : RF s.1) (hS : SI C D s.1) (hc : s.2 = s0.2) (hL0 : LJ s0.1 s.1) (htz : s.1 170 1 = 0) (hk : i32 k) (hn : 0 ≤ n ∧ n ≤ 2000) (hLK : LK C s.1) (hna : s.1 C 5 = (na : Int) ∧ na ≤ 6) (hsz : ∀ a : Nat, a < na → 1 ≤ s.1 (C + 3) a ∧ s.1 (C + 3) a ≤ 64) {i : Nat} {j sm : Int} (hi : (i : Int) < s.1 C 18) (hi9 : i < 100) (hsm : sm = 0 ∨ sm = 1) (hQ : ∀ w sm2 : Int, sm2 = 0 ∨ sm2 = 1 → wr d tb_M175 31 [(3, vi (((i + 1 : Nat) : Int))), (5, vi w), (4, vi sm2), (2, vi n), (0, .ref 170), (1, vi k)] [] s (MJ 2 (fun t => t = 0) s0)) : wr d tb_M175 129 [(5, vi j), (4, vi sm), (3, vi ((i : Int))), (2, vi n), (0, .ref 170), (1, vi k)] [] s (MJ 2 (fun t => t = 0) s0) := by
  unfold i32 at hk
  refine wr_n (pc2 := 130) (lv2 := [(5, vi j), (4, vi sm), (3, vi ((i : Int))), (2, vi n), (0, .ref 170), (1, vi k)]) (st2 := [.ref 170]) 1 (fun _ _ => rfl) ?_
  refine wr_get (v := .ref C) rfl rfl rfl (by decide) (rv_ref (show s.1 170 17 = ((C : Nat) : Int) from hS.2.2.1)) fun h1 => ?_
  show wr d tb_M175 133 [(5, vi j), (4, vi sm), (3, vi ((i : Int))), (2, vi n), (0, .ref 170), (1, vi k)] [.ref C] s _
  refine wr_get (v := .ref (C + 8)) rfl rfl (TG_C hC) (by decide) (rv_ref (hR C 17 (C + 8) (rc_C17 hC))) fun h2 => ?_
  show wr d tb_M175 136 [(5, vi j), (4, vi sm), (3, vi ((i : Int))), (2, vi n), (0, .ref 170), (1, vi k)] [.ref (C + 8)] s _
  refine wr_n (pc2 := 137) (lv2 := [(5, vi j), (4, vi sm), (3, vi ((i : Int))), (2, vi n), (0, .ref 170), (1, vi k)]) (st2 := [vi ((i : Int)), .ref (C + 8)]) 1 (fun _ _ => rfl) ?_
  refine wr_ald (a := (i : Int)) (v := vi (s.1 (C + 8) i)) rfl (TG_C8 hC) rfl (by omega) (by omega) (by decide) rfl fun h3 => ?_
  have h3 : -2147483648 ≤ s.1 (C + 8) i ∧ s.1 (C + 8) i ≤ 2147483647 := h3
  show wr d tb_M175 138 [(5, vi j), (4, vi sm), (3, vi ((i : Int))), (2, vi n), (0, .ref 170), (1, vi k)] [vi (s.1 (C + 8) i)] s _
  have hw8 := (hLK.2.2 i hi).2.2.2
  have hw6 := hna
  refine wr_n (pc2 := 142) (lv2 := [(5, vi (s.1 (C + 8) i)), (4, vi sm), (3, vi ((i : Int))), (2, vi n), (0, .ref 170), (1, vi k)]) (st2 := [vi sm]) 2 (fun _ _ => rfl) ?_
  by_cases h4 : sm = 0
  · refine wr_if1t rfl rfl (by unfold i32; omega) h4 ?_
    refine wr_inc (a := (i : Int)) rfl rfl ?_
    show wr d tb_M175 195 [(3, vi ((i : Int) + 1)), (5, vi (s.1 (C + 8) i)), (4, vi sm), (2, vi n), (0, .ref 170), (1, vi k)] [] s _
    refine wr_n (pc2 := 31) (lv2 := [(3, vi ((i : Int) + 1)), (5, vi (s.1 (C + 8) i)), (4, vi sm), (2, vi n), (0, .ref 170), (1, vi k)]) (st2 := []) 1 (fun _ _ => rfl) ?_
    rw [show (i : Int) + 1 = ((i + 1 : Nat) : Int) from rfl]
    exact hQ _ _ (by omega)
  · refine wr_if1f rfl rfl (by unfold i32; omega) h4 ?_
    refine wr_n (pc2 := 146) (lv2 := [(5, vi (s.1 (C + 8) i)), (4, vi sm), (3, vi ((i : Int))), (2, vi n), (0, .ref 170), (1, vi k)]) (st2 := [.ref 170]) 1 (fun _ _ => rfl) ?_
    refine wr_get (v := .ref C) rfl rfl rfl (by decide) (rv_ref (show s.1 170 17 = ((C : Nat) : Int) from hS.2.2.1)) fun h5 => ?_
    show wr d tb_M175 149 [(5, vi (s.1 (C + 8) i)), (4, vi sm), (3, vi ((i : Int))), (2, vi n), (0, .ref 170), (1, vi k)] [.ref C] s _
    refine wr_get (v := .ref (C + 7)) rfl rfl (TG_C hC) (by decide) (rv_ref (hR C 16 (C + 7) (rc_C16 hC))) fun h6 => ?_
    show wr d tb_M175 152 [(5, vi (s.1 (C + 8) i)), (4, vi sm), (3, vi ((i : Int))), (2, vi n), (0, .ref 170), (1, vi k)] [.ref (C + 7)] s _
    refine wr_n (pc2 := 153) (lv2 := [(5, vi (s.1 (C + 8) i)), (4, vi sm), (3, vi ((i : Int))), (2, vi n), (0, .ref 170), (1, vi k)]) (st2 := [vi ((i : Int)), .ref (C + 7)]) 1 (fun _ _ => rfl) ?_
    refine wr_ald (a := (i : Int)) (v := vi (s.1 (C + 7) i)) rfl (TG_C7 hC) rfl (by omega) (by omega) (by decide) rfl fun h7 => ?_
    have h7 : -2147483648 ≤ s.1 (C + 7) i ∧ s.1 (C + 7) i ≤ 2147483647 := h7
    show wr d tb_M175 154 [(5, vi (s.1 (C + 8) i)), (4, vi sm), (3, vi ((i : Int))), (2, vi n), (0, .ref 170), (1, vi k)] [vi (s.1 (C + 7) i)] s _
    by_cases h8 : s.1 (C + 7) i ≠ 0
    · refine wr_if1t rfl rfl (by unfold i32; omega) h8 ?_
      have hs9 := hsz (s.1 (C + 8) i).toNat (by omega)
      refine wr_n (pc2 := 169) (lv2 := [(5, vi (s.1 (C + 8) i)), (4, vi sm), (3, vi ((i : Int))), (2, vi n), (0, .ref 170), (1, vi k)]) (st2 := [.ref 170]) 1 (fun _ _ => rfl) ?_
      refine wr_get (v := .ref 212) rfl rfl rfl (by decide) (rv_ref (hR 170 47 212 rfl)) fun h9 => ?_
      show wr d tb_M175 172 [(5, vi (s.1 (C + 8) i)), (4, vi sm), (3, vi ((i : Int))), (2, vi n), (0, .ref 170), (1, vi k)] [.ref 212] s _
      refine wr_n (pc2 := 174) (lv2 := [(5, vi (s.1 (C + 8) i)), (4, vi sm), (3, vi ((i : Int))), (2, vi n), (0, .ref 170), (1, vi k)]) (st2 := [vi (s.1 (C + 8) i), .ref 212]) 1 (fun _ _ => rfl) ?_
      refine wr_ald (a := s.1 (C + 8) i) (v := .ref (213 + ((s.1 (C + 8) i).toNat))) rfl rfl rfl (by omega) (by omega) (by decide) (rv_ref (hR 212 ((s.1 (C + 8) i).toNat) (213 + ((s.1 (C + 8) i).toNat)) (rc_it (by omega)))) fun h10 => ?_
      show wr d tb_M175 175 [(5, vi (s.1 (C + 8) i)), (4, vi sm), (3, vi ((i : Int))), (2, vi n), (0, .ref 170), (1, vi k)] [.ref (213 + ((s.1 (C + 8) i).toNat))] s _
      refine wr_n (pc2 := 177) (lv2 := [(5, vi (s.1 (C + 8) i)), (4, vi sm), (3, vi ((i : Int))), (2, vi n), (0, .ref 170), (1, vi k)]) (st2 := [.ref 170, vi k, .ref (213 + ((s.1 (C + 8) i).toNat))]) 2 (fun _ _ => rfl) ?_
      refine wr_get (v := .ref C) rfl rfl rfl (by decide) (rv_ref (show s.1 170 17 = ((C : Nat) : Int) from hS.2.2.1)) fun h11 => ?_
      show wr d tb_M175 180 [(5, vi (s.1 (C + 8) i)), (4, vi sm), (3, vi ((i : Int))), (2, vi n), (0, .ref 170), (1, vi k)] [.ref C, vi k, .ref (213 + ((s.1 (C + 8) i).toNat))] s _
      refine wr_get (v := .ref (C + 3)) rfl rfl (TG_C hC) (by decide) (rv_ref (hR C 12 (C + 3) (rc_C12 hC))) fun h12 => ?_
      show wr d tb_M175 183 [(5, vi (s.1 (C + 8) i)), (4, vi sm), (3, vi ((i : Int))), (2, vi n), (0, .ref 170), (1, vi k)] [.ref (C + 3), vi k, .ref (213 + ((s.1 (C + 8) i).toNat))] s _
      refine wr_n (pc2 := 185) (lv2 := [(5, vi (s.1 (C + 8) i)), (4, vi sm), (3, vi ((i : Int))), (2, vi n), (0, .ref 170), (1, vi k)]) (st2 := [vi (s.1 (C + 8) i), .ref (C + 3), vi k, .ref (213 + ((s.1 (C + 8) i).toNat))]) 1 (fun _ _ => rfl) ?_
      refine wr_ald (a := s.1 (C + 8) i) (v := vi (s.1 (C + 3) ((s.1 (C + 8) i).toNat))) rfl (TG_C3 hC) rfl (by omega) (by omega) (by decide) rfl fun h13 => ?_
      have h13 : -2147483648 ≤ s.1 (C + 3) ((s.1 (C + 8) i).toNat) ∧ s.1 (C + 3) ((s.1 (C + 8) i).toNat) ≤ 2147483647 := h13
      show wr d tb_M175 186 [(5, vi (s.1 (C + 8) i)), (4, vi sm), (3, vi ((i : Int))), (2, vi n), (0, .ref 170), (1, vi k)] [vi (s.1 (C + 3) ((s.1 (C + 8) i).toNat)), vi k, .ref (213 + ((s.1 (C + 8) i).toNat))] s _
      refine wr_n (pc2 := 187) (lv2 := [(5, vi (s.1 (C + 8) i)), (4, vi sm), (3, vi ((i : Int))), (2, vi n), (0, .ref 170), (1, vi k)]) (st2 := [vi 1, vi (s.1 (C + 3) ((s.1 (C + 8) i).toNat)), vi k, .ref (213 + ((s.1 (C + 8) i).toNat))]) 1 (fun _ _ => rfl) ?_
      refine wr_sub (a := s.1 (C + 3) ((s.1 (C + 8) i).toNat)) (b := 1) rfl ?_
      show wr d tb_M175 188 [(5, vi (s.1 (C + 8) i)), (4, vi sm), (3, vi ((i : Int))), (2, vi n), (0, .ref 170), (1, vi k)] [vi ((s.1 (C + 3) ((s.1 (C + 8) i).toNat)) - 1), vi k, .ref (213 + ((s.1 (C + 8) i).toNat))] s _
      refine wr_and (b := (s.1 (C + 3) ((s.1 (C + 8) i).toNat)) - 1) rfl (by omega) fun z14 h15 => ?_
      show wr d tb_M175 189 [(5, vi (s.1 (C + 8) i)), (4, vi sm), (3, vi ((i : Int))), (2, vi n), (0, .ref 170), (1, vi k)] [vi z14, .ref (213 + ((s.1 (C + 8) i).toNat))] s _
      refine wr_ald (a := z14) (v := vi (s.1 (213 + ((s.1 (C + 8) i).toNat)) z14.toNat)) rfl (TG_it (by omega)) rfl (by omega) (by omega) (by decide) rfl fun h16 => ?_
      have h16 : -2147483648 ≤ s.1 (213 + ((s.1 (C + 8) i).toNat)) z14.toNat ∧ s.1 (213 + ((s.1 (C + 8) i).toNat)) z14.toNat ≤ 2147483647 := h16
      show wr d tb_M175 190 [(5, vi (s.1 (C + 8) i)), (4, vi sm), (3, vi ((i : Int))), (2, vi n), (0, .ref 170), (1, vi k)] [vi (s.1 (213 + ((s.1 (C + 8) i).toNat)) z14.toNat)] s _
      refine wr_i2l (a := s.1 (213 + ((s.1 (C + 8) i).toNat)) z14.toNat) rfl (by unfold i32; omega) ?_
      show wr d tb_M175 191 [(5, vi (s.1 (C + 8) i)), (4, vi sm), (3, vi ((i : Int))), (2, vi n), (0, .ref 170), (1, vi k)] [vl (s.1 (213 + ((s.1 (C + 8) i).toNat)) z14.toNat)] s _
      refine wr_end (fun _ _ => rfl) ?_
      exact ⟨⟨_, rfl, rfl⟩, hc, hR, hL0, ⟨C, D, hS⟩, htz⟩
    · refine wr_if1f rfl rfl (by unfold i32; omega) h8 ?_
      refine wr_n (pc2 := 158) (lv2 := [(5, vi (s.1 (C + 8) i)), (4, vi sm), (3, vi ((i : Int))), (2, vi n), (0, .ref 170), (1, vi k)]) (st2 := [.ref 170]) 1 (fun _ _ => rfl) ?_
      refine wr_get (v := .ref 203) rfl rfl rfl (by decide) (rv_ref (hR 170 38 203 rfl)) fun h17 => ?_
      show wr d tb_M175 161 [(5, vi (s.1 (C + 8) i)), (4, vi sm), (3, vi ((i : Int))), (2, vi n), (0, .ref 170), (1, vi k)] [.ref 203] s _
      refine wr_n (pc2 := 163) (lv2 := [(5, vi (s.1 (C + 8) i)), (4, vi sm), (3, vi ((i : Int))), (2, vi n), (0, .ref 170), (1, vi k)]) (st2 := [vi (s.1 (C + 8) i), .ref 203]) 1 (fun _ _ => rfl) ?_
      refine wr_ald (a := s.1 (C + 8) i) (v := vi (s.1 203 ((s.1 (C + 8) i).toNat))) rfl rfl rfl (by omega) (by omega) (by decide) rfl fun h18 => ?_
      have h18 : -2147483648 ≤ s.1 203 ((s.1 (C + 8) i).toNat) ∧ s.1 203 ((s.1 (C + 8) i).toNat) ≤ 2147483647 := h18
      show wr d tb_M175 164 [(5, vi (s.1 (C + 8) i)), (4, vi sm), (3, vi ((i : Int))), (2, vi n), (0, .ref 170), (1, vi k)] [vi (s.1 203 ((s.1 (C + 8) i).toNat))] s _
      refine wr_i2l (a := s.1 203 ((s.1 (C + 8) i).toNat)) rfl (by unfold i32; omega) ?_
      show wr d tb_M175 165 [(5, vi (s.1 (C + 8) i)), (4, vi sm), (3, vi ((i : Int))), (2, vi n), (0, .ref 170), (1, vi k)] [vl (s.1 203 ((s.1 (C + 8) i).toNat))] s _
      refine wr_n (pc2 := 191) (lv2 := [(5, vi (s.1 (C + 8) i)), (4, vi sm), (3, vi ((i : Int))), (2, vi n), (0, .ref 170), (1, vi k)]) (st2 := [vl (s.1 203 ((s.1 (C + 8) i).toNat))]) 1 (fun _ _ => rfl) ?_
      refine wr_end (fun _ _ => rfl) ?_
      exact ⟨⟨_, rfl, rfl⟩, hc, hR, hL0, ⟨C, D, hS⟩, htz⟩
set_option maxHeartbeats 20000000 in
set_option maxRecDepth 100000 in
theorem m_look31 {d C D na : Nat} {k n : Int} {s0 s : rS} (hC : C = 177 ∨ C = 186) (hR : RF s.1) (hS : SI C D s.1) (hc : s.2 = s0.2) (hL0 : LJ s0.1 s.1) (htz : s.1 170 1 = 0) (hk : i32 k) (hn : 0 ≤ n ∧ n ≤ 2000) (hLK : LK C s.1) (hna : s.1 C 5 = (na : Int) ∧ na ≤ 6) (hsz : ∀ a : Nat, a < na → 1 ≤ s.1 (C + 3) a ∧ s.1 (C + 3) a ≤ 64) : ∀ (q i : Nat) (w sm : Int), (s.1 C 18 - i).toNat = q → i ≤ 100 → wr d tb_M175 31 [(3, vi ((i : Int))), (5, vi w), (4, vi sm), (2, vi n), (0, .ref 170), (1, vi k)] [] s (MJ 2 (fun t => t = 0) s0) := by
  intro q
  have hl1 := hLK.1
  have hl2 := hLK.2.1
  induction q using Nat.strongRecOn with | ind q ih => ?_
  intro i w sm hq hi1
  refine wr_n (pc2 := 33) (lv2 := [(3, vi ((i : Int))), (5, vi w), (4, vi sm), (2, vi n), (0, .ref 170), (1, vi k)]) (st2 := [.ref 170, vi ((i : Int))]) 2 (fun _ _ => rfl) ?_
  refine wr_get (v := .ref C) rfl rfl rfl (by decide) (rv_ref (show s.1 170 17 = ((C : Nat) : Int) from hS.2.2.1)) fun h1 => ?_
  show wr d tb_M175 36 [(3, vi ((i : Int))), (5, vi w), (4, vi sm), (2, vi n), (0, .ref 170), (1, vi k)] [.ref C, vi ((i : Int))] s _
  refine wr_get (v := vi (s.1 C 18)) rfl rfl (TG_C hC) (by decide) rfl fun h2 => ?_
  have h2 : -2147483648 ≤ s.1 C 18 ∧ s.1 C 18 ≤ 2147483647 := h2
  show wr d tb_M175 39 [(3, vi ((i : Int))), (5, vi w), (4, vi sm), (2, vi n), (0, .ref 170), (1, vi k)] [vi (s.1 C 18), vi ((i : Int))] s _
  by_cases h3 : s.1 C 18 ≤ (i : Int)
  · refine wr_if2t rfl rfl (by unfold i32; omega) (by unfold i32; omega) h3 ?_
    refine wr_n (pc2 := 201) (lv2 := [(3, vi ((i : Int))), (5, vi w), (4, vi sm), (2, vi n), (0, .ref 170), (1, vi k)]) (st2 := [vl 1099511627776]) 1 (fun _ _ => rfl) ?_
    refine wr_end (fun _ _ => rfl) ?_
    exact ⟨⟨_, rfl, rfl⟩, hc, hR, hL0, ⟨C, D, hS⟩, htz⟩
  · refine wr_if2f rfl rfl (by unfold i32; omega) (by unfold i32; omega) h3 ?_
    have hLi := hLK.2.2 i (by omega)
    have hl9 := hLK.2.1
    refine wr_n (pc2 := 43) (lv2 := [(3, vi ((i : Int))), (5, vi w), (4, vi sm), (2, vi n), (0, .ref 170), (1, vi k)]) (st2 := [.ref 170]) 1 (fun _ _ => rfl) ?_
    refine wr_get (v := .ref C) rfl rfl rfl (by decide) (rv_ref (show s.1 170 17 = ((C : Nat) : Int) from hS.2.2.1)) fun h4 => ?_
    show wr d tb_M175 46 [(3, vi ((i : Int))), (5, vi w), (4, vi sm), (2, vi n), (0, .ref 170), (1, vi k)] [.ref C] s _
    refine wr_get (v := .ref (C + 6)) rfl rfl (TG_C hC) (by decide) (rv_ref (hR C 15 (C + 6) (rc_C15 hC))) fun h5 => ?_
    show wr d tb_M175 49 [(3, vi ((i : Int))), (5, vi w), (4, vi sm), (2, vi n), (0, .ref 170), (1, vi k)] [.ref (C + 6)] s _
    refine wr_n (pc2 := 50) (lv2 := [(3, vi ((i : Int))), (5, vi w), (4, vi sm), (2, vi n), (0, .ref 170), (1, vi k)]) (st2 := [vi ((i : Int)), .ref (C + 6)]) 1 (fun _ _ => rfl) ?_
    refine wr_ald (a := (i : Int)) (v := vi (s.1 (C + 6) i)) rfl (TG_C6 hC) rfl (by omega) (by omega) (by decide) rfl fun h6 => ?_
    have h6 : -2147483648 ≤ s.1 (C + 6) i ∧ s.1 (C + 6) i ≤ 2147483647 := h6
    show wr d tb_M175 51 [(3, vi ((i : Int))), (5, vi w), (4, vi sm), (2, vi n), (0, .ref 170), (1, vi k)] [vi (s.1 (C + 6) i)] s _
    refine wr_n (pc2 := 52) (lv2 := [(3, vi ((i : Int))), (5, vi w), (4, vi sm), (2, vi n), (0, .ref 170), (1, vi k)]) (st2 := [.ref 170, vi (s.1 (C + 6) i)]) 1 (fun _ _ => rfl) ?_
    refine wr_get (v := .ref C) rfl rfl rfl (by decide) (rv_ref (show s.1 170 17 = ((C : Nat) : Int) from hS.2.2.1)) fun h7 => ?_
    show wr d tb_M175 55 [(3, vi ((i : Int))), (5, vi w), (4, vi sm), (2, vi n), (0, .ref 170), (1, vi k)] [.ref C, vi (s.1 (C + 6) i)] s _
    refine wr_get (v := .ref (C + 5)) rfl rfl (TG_C hC) (by decide) (rv_ref (hR C 14 (C + 5) (rc_C14 hC))) fun h8 => ?_
    show wr d tb_M175 58 [(3, vi ((i : Int))), (5, vi w), (4, vi sm), (2, vi n), (0, .ref 170), (1, vi k)] [.ref (C + 5), vi (s.1 (C + 6) i)] s _
    refine wr_n (pc2 := 59) (lv2 := [(3, vi ((i : Int))), (5, vi w), (4, vi sm), (2, vi n), (0, .ref 170), (1, vi k)]) (st2 := [vi ((i : Int)), .ref (C + 5), vi (s.1 (C + 6) i)]) 1 (fun _ _ => rfl) ?_
    refine wr_ald (a := (i : Int)) (v := vi (s.1 (C + 5) i)) rfl (TG_C5 hC) rfl (by omega) (by omega) (by decide) rfl fun h9 => ?_
    have h9 : -2147483648 ≤ s.1 (C + 5) i ∧ s.1 (C + 5) i ≤ 2147483647 := h9
    show wr d tb_M175 60 [(3, vi ((i : Int))), (5, vi w), (4, vi sm), (2, vi n), (0, .ref 170), (1, vi k)] [vi (s.1 (C + 5) i), vi (s.1 (C + 6) i)] s _
    refine wr_sub (a := s.1 (C + 6) i) (b := s.1 (C + 5) i) rfl ?_
    show wr d tb_M175 61 [(3, vi ((i : Int))), (5, vi w), (4, vi sm), (2, vi n), (0, .ref 170), (1, vi k)] [vi ((s.1 (C + 6) i) - (s.1 (C + 5) i))] s _
    refine wr_n (pc2 := 62) (lv2 := [(3, vi ((i : Int))), (5, vi w), (4, vi sm), (2, vi n), (0, .ref 170), (1, vi k)]) (st2 := [vi n, vi ((s.1 (C + 6) i) - (s.1 (C + 5) i))]) 1 (fun _ _ => rfl) ?_
    by_cases h10 : (s.1 (C + 6) i) - (s.1 (C + 5) i) ≠ n
    · refine wr_if2t rfl rfl (by unfold i32; omega) (by unfold i32; omega) h10 ?_
      refine wr_n (pc2 := 75) (lv2 := [(5, vi 0), (4, vi 0), (3, vi ((i : Int))), (2, vi n), (0, .ref 170), (1, vi k)]) (st2 := []) 4 (fun _ _ => rfl) ?_
      exact m_look75 (i := i) hC hR hS htz hk hn hLK hna hsz (by omega) ⟨hLi.1, hLi.2.1, hLi.2.2.1⟩ (by omega) (fun j2 sm2 h9 => m_look129 (i := i) hC hR hS hc hL0 htz hk hn hLK hna hsz (by omega) (by omega) h9 (fun w3 sm3 h8 => ih _ (by omega) (i + 1) w3 sm3 rfl (by omega))) _ 0 0 rfl (by omega) (by omega)
    · refine wr_if2f rfl rfl (by unfold i32; omega) (by unfold i32; omega) h10 ?_
      refine wr_n (pc2 := 75) (lv2 := [(5, vi 0), (4, vi 1), (3, vi ((i : Int))), (2, vi n), (0, .ref 170), (1, vi k)]) (st2 := []) 5 (fun _ _ => rfl) ?_
      exact m_look75 (i := i) hC hR hS htz hk hn hLK hna hsz (by omega) ⟨hLi.1, hLi.2.1, hLi.2.2.1⟩ (by omega) (fun j2 sm2 h9 => m_look129 (i := i) hC hR hS hc hL0 htz hk hn hLK hna hsz (by omega) (by omega) h9 (fun w3 sm3 h8 => ih _ (by omega) (i + 1) w3 sm3 rfl (by omega))) _ 0 1 rfl (by omega) (by omega)
set_option maxHeartbeats 20000000 in
set_option maxRecDepth 100000 in
theorem m_look0 {d C D na : Nat} {k n : Int} {s0 s : rS} (hC : C = 177 ∨ C = 186) (hR : RF s.1) (hS : SI C D s.1) (hc : s.2 = s0.2) (hL0 : LJ s0.1 s.1) (htz : s.1 170 1 = 0) (hk : i32 k) (hn : 0 ≤ n ∧ n ≤ 2000) (hLK : LK C s.1) (hna : s.1 C 5 = (na : Int) ∧ na ≤ 6) (hsz : ∀ a : Nat, a < na → 1 ≤ s.1 (C + 3) a ∧ s.1 (C + 3) a ≤ 64) : wr d tb_M175 31 [(3, vi 0), (2, vi n), (0, .ref 170), (1, vi k)] [] s (MJ 2 (fun t => t = 0) s0) := by
  have hl1 := hLK.1
  have hl2 := hLK.2.1
  have hX : ∀ w sm : Int, wr d tb_M175 31 [(3, vi (((0 + 1 : Nat) : Int))), (5, vi w), (4, vi sm), (2, vi n), (0, .ref 170), (1, vi k)] [] s (MJ 2 (fun t => t = 0) s0) := fun w sm => m_look31 hC hR hS hc hL0 htz hk hn hLK hna hsz _ 1 w sm rfl (by omega)
  refine wr_n (pc2 := 33) (lv2 := [(3, vi 0), (2, vi n), (0, .ref 170), (1, vi k)]) (st2 := [.ref 170, vi 0]) 2 (fun _ _ => rfl) ?_
  refine wr_get (v := .ref C) rfl rfl rfl (by decide) (rv_ref (show s.1 170 17 = ((C : Nat) : Int) from hS.2.2.1)) fun h1 => ?_
  show wr d tb_M175 36 [(3, vi 0), (2, vi n), (0, .ref 170), (1, vi k)] [.ref C, vi 0] s _
  refine wr_get (v := vi (s.1 C 18)) rfl rfl (TG_C hC) (by decide) rfl fun h2 => ?_
  have h2 : -2147483648 ≤ s.1 C 18 ∧ s.1 C 18 ≤ 2147483647 := h2
  show wr d tb_M175 39 [(3, vi 0), (2, vi n), (0, .ref 170), (1, vi k)] [vi (s.1 C 18), vi 0] s _
  by_cases h3 : s.1 C 18 ≤ 0
  · refine wr_if2t rfl rfl (by unfold i32; omega) (by unfold i32; omega) h3 ?_
    refine wr_n (pc2 := 201) (lv2 := [(3, vi 0), (2, vi n), (0, .ref 170), (1, vi k)]) (st2 := [vl 1099511627776]) 1 (fun _ _ => rfl) ?_
    refine wr_end (fun _ _ => rfl) ?_
    exact ⟨⟨_, rfl, rfl⟩, hc, hR, hL0, ⟨C, D, hS⟩, htz⟩
  · refine wr_if2f rfl rfl (by unfold i32; omega) (by unfold i32; omega) h3 ?_
    have hLi := hLK.2.2 0 (by omega)
    have hl9 := hLK.2.1
    refine wr_n (pc2 := 43) (lv2 := [(3, vi 0), (2, vi n), (0, .ref 170), (1, vi k)]) (st2 := [.ref 170]) 1 (fun _ _ => rfl) ?_
    refine wr_get (v := .ref C) rfl rfl rfl (by decide) (rv_ref (show s.1 170 17 = ((C : Nat) : Int) from hS.2.2.1)) fun h4 => ?_
    show wr d tb_M175 46 [(3, vi 0), (2, vi n), (0, .ref 170), (1, vi k)] [.ref C] s _
    refine wr_get (v := .ref (C + 6)) rfl rfl (TG_C hC) (by decide) (rv_ref (hR C 15 (C + 6) (rc_C15 hC))) fun h5 => ?_
    show wr d tb_M175 49 [(3, vi 0), (2, vi n), (0, .ref 170), (1, vi k)] [.ref (C + 6)] s _
    refine wr_n (pc2 := 50) (lv2 := [(3, vi 0), (2, vi n), (0, .ref 170), (1, vi k)]) (st2 := [vi 0, .ref (C + 6)]) 1 (fun _ _ => rfl) ?_
    refine wr_ald (a := 0) (v := vi (s.1 (C + 6) 0)) rfl (TG_C6 hC) rfl (by omega) (by omega) (by decide) rfl fun h6 => ?_
    have h6 : -2147483648 ≤ s.1 (C + 6) 0 ∧ s.1 (C + 6) 0 ≤ 2147483647 := h6
    show wr d tb_M175 51 [(3, vi 0), (2, vi n), (0, .ref 170), (1, vi k)] [vi (s.1 (C + 6) 0)] s _
    refine wr_n (pc2 := 52) (lv2 := [(3, vi 0), (2, vi n), (0, .ref 170), (1, vi k)]) (st2 := [.ref 170, vi (s.1 (C + 6) 0)]) 1 (fun _ _ => rfl) ?_
    refine wr_get (v := .ref C) rfl rfl rfl (by decide) (rv_ref (show s.1 170 17 = ((C : Nat) : Int) from hS.2.2.1)) fun h7 => ?_
    show wr d tb_M175 55 [(3, vi 0), (2, vi n), (0, .ref 170), (1, vi k)] [.ref C, vi (s.1 (C + 6) 0)] s _
    refine wr_get (v := .ref (C + 5)) rfl rfl (TG_C hC) (by decide) (rv_ref (hR C 14 (C + 5) (rc_C14 hC))) fun h8 => ?_
    show wr d tb_M175 58 [(3, vi 0), (2, vi n), (0, .ref 170), (1, vi k)] [.ref (C + 5), vi (s.1 (C + 6) 0)] s _
    refine wr_n (pc2 := 59) (lv2 := [(3, vi 0), (2, vi n), (0, .ref 170), (1, vi k)]) (st2 := [vi 0, .ref (C + 5), vi (s.1 (C + 6) 0)]) 1 (fun _ _ => rfl) ?_
    refine wr_ald (a := 0) (v := vi (s.1 (C + 5) 0)) rfl (TG_C5 hC) rfl (by omega) (by omega) (by decide) rfl fun h9 => ?_
    have h9 : -2147483648 ≤ s.1 (C + 5) 0 ∧ s.1 (C + 5) 0 ≤ 2147483647 := h9
    show wr d tb_M175 60 [(3, vi 0), (2, vi n), (0, .ref 170), (1, vi k)] [vi (s.1 (C + 5) 0), vi (s.1 (C + 6) 0)] s _
    refine wr_sub (a := s.1 (C + 6) 0) (b := s.1 (C + 5) 0) rfl ?_
    show wr d tb_M175 61 [(3, vi 0), (2, vi n), (0, .ref 170), (1, vi k)] [vi ((s.1 (C + 6) 0) - (s.1 (C + 5) 0))] s _
    refine wr_n (pc2 := 62) (lv2 := [(3, vi 0), (2, vi n), (0, .ref 170), (1, vi k)]) (st2 := [vi n, vi ((s.1 (C + 6) 0) - (s.1 (C + 5) 0))]) 1 (fun _ _ => rfl) ?_
    by_cases h10 : (s.1 (C + 6) 0) - (s.1 (C + 5) 0) ≠ n
    · refine wr_if2t rfl rfl (by unfold i32; omega) (by unfold i32; omega) h10 ?_
      refine wr_n (pc2 := 75) (lv2 := [(5, vi 0), (4, vi 0), (3, vi 0), (2, vi n), (0, .ref 170), (1, vi k)]) (st2 := []) 4 (fun _ _ => rfl) ?_
      exact m_look75 (i := 0) hC hR hS htz hk hn hLK hna hsz (by omega) ⟨hLi.1, hLi.2.1, hLi.2.2.1⟩ (by omega) (fun j2 sm2 h9 => m_look129 (i := 0) hC hR hS hc hL0 htz hk hn hLK hna hsz (by omega) (by omega) h9 (fun w3 sm3 h8 => hX w3 sm3)) _ 0 0 rfl (by omega) (by omega)
    · refine wr_if2f rfl rfl (by unfold i32; omega) (by unfold i32; omega) h10 ?_
      refine wr_n (pc2 := 75) (lv2 := [(5, vi 0), (4, vi 1), (3, vi 0), (2, vi n), (0, .ref 170), (1, vi k)]) (st2 := []) 5 (fun _ _ => rfl) ?_
      exact m_look75 (i := 0) hC hR hS htz hk hn hLK hna hsz (by omega) ⟨hLi.1, hLi.2.1, hLi.2.2.1⟩ (by omega) (fun j2 sm2 h9 => m_look129 (i := 0) hC hR hS hc hL0 htz hk hn hLK hna hsz (by omega) (by omega) h9 (fun w3 sm3 h8 => hX w3 sm3)) _ 0 1 rfl (by omega) (by omega)
set_option maxHeartbeats 20000000 in
set_option maxRecDepth 100000 in
theorem q_look {d C D : Nat} (s : rS) (hR : RF s.1) (hS : SI C D s.1) {n : Int} (hn : i32 n) : cr (d + 1 + 1) 175 [.ref 170, vi n] s (MJ 2 (fun t => t = 0) s) := by
  have hC := SI_C hS
  have ht0 := hS.2.1
  refine cr_of (M := tb_M175) rfl (Nat.le_of_ble_eq_true rfl) ?_
  show wr (d + 1) tb_M175 0 [(0, .ref 170), (1, vi n)] [] s _
  refine wr_n (pc2 := 1) (lv2 := [(0, .ref 170), (1, vi n)]) (st2 := [.ref 170]) 1 (fun _ _ => rfl) ?_
  refine wr_get (v := vi (s.1 170 1)) rfl rfl rfl (by decide) rfl fun h1 => ?_
  have h1 : -2147483648 ≤ s.1 170 1 ∧ s.1 170 1 ≤ 2147483647 := h1
  show wr (d + 1) tb_M175 4 [(0, .ref 170), (1, vi n)] [vi (s.1 170 1)] s _
  refine wr_n (pc2 := 7) (lv2 := [(2, vi (s.1 170 1)), (0, .ref 170), (1, vi n)]) (st2 := [vi 0, .ref 170]) 3 (fun _ _ => rfl) ?_
  refine wr_put (z := 0) rfl rfl rfl rfl (by decide) rfl (by decide) rfl (show -2147483648 ≤ 0 ∧ 0 ≤ 2147483647 by omega) (hf_int' _) ?_
  show wr (d + 1) tb_M175 10 [(2, vi (s.1 170 1)), (0, .ref 170), (1, vi n)] [] (up2 s.1 170 1 0, s.2) _
  have hR2 : RF (up2 s.1 170 1 0) := (RF_up hR rfl)
  obtain ⟨sn, hsn⟩ : ∃ qq9 : rS, qq9 = (up2 s.1 170 1 0, s.2) := ⟨_, rfl⟩
  rw [← hsn]
  have hu : U1 170 1 s.1 sn.1 := by rw [hsn]; exact U1_up
  have htz : sn.1 170 1 = 0 := by rw [hsn]; show up2 s.1 170 1 0 170 1 = 0; exact up_self
  have hz : sn.2 = s.2 := by rw [hsn]
  have hSn : SI C D sn.1 := SI_fr hS (fun k j e1 e2 => hu k j e1) (by omega) (fun q => HD_at q (fun i => hu 1630 i (by omega)))
  have hRn : RF sn.1 := RX_RF (r := sn.1) (fun _ _ _ => rfl) (fun k j v hv => (hu k j (by rintro ⟨rfl, rfl⟩; cases hv)).trans (hR k j v hv))
  have hLO : LJ s.1 sn.1 := fun k j hk => hu k j (by omega)
  show wr (d + 1) tb_M175 10 [(2, vi (s.1 170 1)), (0, .ref 170), (1, vi n)] [] sn _
  refine wr_n (pc2 := 11) (lv2 := [(2, vi (s.1 170 1)), (0, .ref 170), (1, vi n)]) (st2 := [.ref 170]) 1 (fun _ _ => rfl) ?_
  refine wr_get (v := vi (sn.1 170 20)) rfl rfl rfl (by decide) rfl fun h3 => ?_
  have h3 : 0 ≤ sn.1 170 20 ∧ sn.1 170 20 ≤ 1 := h3
  show wr (d + 1) tb_M175 14 [(2, vi (s.1 170 1)), (0, .ref 170), (1, vi n)] [vi (sn.1 170 20)] sn _
  by_cases h4 : sn.1 170 20 = 0
  · refine wr_if1t rfl rfl (by unfold i32; omega) h4 ?_
    refine wr_n (pc2 := 28) (lv2 := [(2, vi (s.1 170 1)), (0, .ref 170), (1, vi n)]) (st2 := [vl 1099511627776]) 1 (fun _ _ => rfl) ?_
    refine wr_end (fun _ _ => rfl) ?_
    exact ⟨⟨_, rfl, rfl⟩, hz, hRn, hLO, ⟨C, D, hSn⟩, htz⟩
  · refine wr_if1f rfl rfl (by unfold i32; omega) h4 ?_
    refine wr_n (pc2 := 18) (lv2 := [(2, vi (s.1 170 1)), (0, .ref 170), (1, vi n)]) (st2 := [.ref 170]) 1 (fun _ _ => rfl) ?_
    refine wr_get (v := vi (sn.1 170 52)) rfl rfl rfl (by decide) rfl fun h5 => ?_
    have h5 : -2147483648 ≤ sn.1 170 52 ∧ sn.1 170 52 ≤ 2147483647 := h5
    show wr (d + 1) tb_M175 21 [(2, vi (s.1 170 1)), (0, .ref 170), (1, vi n)] [vi (sn.1 170 52)] sn _
    refine wr_n (pc2 := 22) (lv2 := [(2, vi (s.1 170 1)), (0, .ref 170), (1, vi n)]) (st2 := [vi 3, vi (sn.1 170 52)]) 1 (fun _ _ => rfl) ?_
    by_cases h6 : sn.1 170 52 ≠ 3
    · refine wr_if2t rfl rfl (by unfold i32; omega) (by unfold i32; omega) h6 ?_
      refine wr_n (pc2 := 31) (lv2 := [(3, vi 0), (2, vi (s.1 170 1)), (0, .ref 170), (1, vi n)]) (st2 := []) 2 (fun _ _ => rfl) ?_
      obtain ⟨hH, hPT, hLK, na, hna, hsz⟩ := SA_get hSn (by omega)
      exact m_look0 hC hRn hSn hz hLO htz hn ht0 hLK hna hsz
    · refine wr_if2f rfl rfl (by unfold i32; omega) (by unfold i32; omega) h6 ?_
      refine wr_n (pc2 := 28) (lv2 := [(2, vi (s.1 170 1)), (0, .ref 170), (1, vi n)]) (st2 := [vl 1099511627776]) 1 (fun _ _ => rfl) ?_
      refine wr_end (fun _ _ => rfl) ?_
      exact ⟨⟨_, rfl, rfl⟩, hz, hRn, hLO, ⟨C, D, hSn⟩, htz⟩
set_option maxHeartbeats 20000000 in
set_option maxRecDepth 100000 in
theorem q_run {d C D : Nat} (s : rS) (hR : RF s.1) (hS : SI C D s.1) {n : Int} (hn : i32 n) : cr (d + 6 + 1) 162 [.ref 170, vi n] s (MJ 1 (fun t => t = s.1 170 1) s) := by
  have hC := SI_C hS
  have ht0 := hS.2.1
  unfold i32 at hn
  refine cr_of (M := tb_M162) rfl (Nat.le_of_ble_eq_true rfl) ?_
  show wr (d + 6) tb_M162 0 [(0, .ref 170), (1, vi n)] [] s _
  refine wr_n (pc2 := 1) (lv2 := [(0, .ref 170), (1, vi n)]) (st2 := [.ref 170]) 1 (fun _ _ => rfl) ?_
  refine wr_get (v := vi (s.1 170 20)) rfl rfl rfl (by decide) rfl fun h1 => ?_
  have h1 : 0 ≤ s.1 170 20 ∧ s.1 170 20 ≤ 1 := h1
  show wr (d + 6) tb_M162 4 [(0, .ref 170), (1, vi n)] [vi (s.1 170 20)] s _
  by_cases h2 : s.1 170 20 ≠ 0
  · refine wr_if1t rfl rfl (by unfold i32; omega) h2 ?_
    refine wr_n (pc2 := 11) (lv2 := [(0, .ref 170), (1, vi n)]) (st2 := [vi n]) 1 (fun _ _ => rfl) ?_
    refine wr_i2l (a := n) rfl (by unfold i32; omega) ?_
    show wr (d + 6) tb_M162 12 [(0, .ref 170), (1, vi n)] [vl n] s _
    refine wr_n (pc2 := 16) (lv2 := [(0, .ref 170), (1, vi n)]) (st2 := [vl 20000, vl 1, vl n]) 2 (fun _ _ => rfl) ?_
    refine wr_call0 (args := [vl n, vl 1, vl 20000]) (rest := []) rfl rfl rfl (Nat.le_of_ble_eq_true rfl) (cr_mono (c_in (d := d + 5) (a := n) (b := 1) (c := 20000) _ (by unfold i64; omega) (by unfold i64; omega) (by unfold i64; omega)) ?_)
    rintro s6 out ⟨e3, rfl, h4, e5⟩
    refine ⟨_, rfl, ?_⟩
    rw [e5]
    show wr (d + 6) tb_M162 19 [(0, .ref 170), (1, vi n)] [vi e3] s _
    by_cases h7 : e3 = 0
    · refine wr_if1t rfl rfl (by unfold i32; omega) h7 ?_
      refine wr_n (pc2 := 31) (lv2 := [(0, .ref 170), (1, vi n)]) (st2 := [vi ((-1))]) 1 (fun _ _ => rfl) ?_
      refine wr_end (fun _ _ => rfl) ?_
      exact MJ_same rfl rfl hR hS
    · refine wr_if1f rfl rfl (by unfold i32; omega) h7 ?_
      refine wr_n (pc2 := 23) (lv2 := [(0, .ref 170), (1, vi n)]) (st2 := [.ref 170]) 1 (fun _ _ => rfl) ?_
      refine wr_get (v := vi (s.1 170 52)) rfl rfl rfl (by decide) rfl fun h8 => ?_
      have h8 : -2147483648 ≤ s.1 170 52 ∧ s.1 170 52 ≤ 2147483647 := h8
      show wr (d + 6) tb_M162 26 [(0, .ref 170), (1, vi n)] [vi (s.1 170 52)] s _
      refine wr_n (pc2 := 27) (lv2 := [(0, .ref 170), (1, vi n)]) (st2 := [vi 3, vi (s.1 170 52)]) 1 (fun _ _ => rfl) ?_
      by_cases h9 : s.1 170 52 ≠ 3
      · refine wr_if2t rfl rfl (by unfold i32; omega) (by unfold i32; omega) h9 ?_
        refine wr_n (pc2 := 34) (lv2 := [(0, .ref 170), (1, vi n)]) (st2 := [vi 0, .ref 170]) 2 (fun _ _ => rfl) ?_
        refine wr_put (z := 0) rfl rfl rfl rfl (by decide) rfl (by decide) rfl (show -2147483648 ≤ 0 ∧ 0 ≤ 2147483647 by omega) (hf_int' _) ?_
        show wr (d + 6) tb_M162 37 [(0, .ref 170), (1, vi n)] [] (up2 s.1 170 53 0, s.2) _
        have hR10 : RF (up2 s.1 170 53 0) := (RF_up hR rfl)
        refine wr_n (pc2 := 38) (lv2 := [(0, .ref 170), (1, vi n)]) (st2 := [.ref 170]) 1 (fun _ _ => rfl) ?_
        refine wr_get (v := vi (s.1 170 52)) rfl rfl rfl (by decide) rfl fun h11 => ?_
        have h11 : -2147483648 ≤ s.1 170 52 ∧ s.1 170 52 ≤ 2147483647 := h11
        show wr (d + 6) tb_M162 41 [(0, .ref 170), (1, vi n)] [vi (s.1 170 52)] (up2 s.1 170 53 0, s.2) _
        refine wr_n (pc2 := 42) (lv2 := [(0, .ref 170), (1, vi n)]) (st2 := [vi 1, vi (s.1 170 52)]) 1 (fun _ _ => rfl) ?_
        by_cases h12 : s.1 170 52 ≠ 1
        · refine wr_if2t rfl rfl (by unfold i32; omega) (by unfold i32; omega) h12 ?_
          refine wr_n (pc2 := 49) (lv2 := [(0, .ref 170), (1, vi n)]) (st2 := [vi n, .ref 170]) 2 (fun _ _ => rfl) ?_
          refine wr_put (z := n) rfl rfl rfl rfl (by decide) rfl (by decide) rfl (show -2147483648 ≤ n ∧ n ≤ 2147483647 by omega) (hf_int' _) ?_
          show wr (d + 6) tb_M162 52 [(0, .ref 170), (1, vi n)] [] (up2 (up2 s.1 170 53 0) 170 54 n, s.2) _
          have hR13 : RF (up2 (up2 s.1 170 53 0) 170 54 n) := (RF_up (RF_up hR rfl) rfl)
          refine wr_n (pc2 := 54) (lv2 := [(0, .ref 170), (1, vi n)]) (st2 := [vi 2, .ref 170]) 2 (fun _ _ => rfl) ?_
          refine wr_put (z := 2) rfl rfl rfl rfl (by decide) rfl (by decide) rfl (show -2147483648 ≤ 2 ∧ 2 ≤ 2147483647 by omega) (hf_int' _) ?_
          show wr (d + 6) tb_M162 57 [(0, .ref 170), (1, vi n)] [] (up2 (up2 (up2 s.1 170 53 0) 170 54 n) 170 52 2, s.2) _
          have hR14 : RF (up2 (up2 (up2 s.1 170 53 0) 170 54 n) 170 52 2) := (RF_up (RF_up (RF_up hR rfl) rfl) rfl)
          refine wr_n (pc2 := 59) (lv2 := [(2, vi 1), (0, .ref 170), (1, vi n)]) (st2 := []) 2 (fun _ _ => rfl) ?_
          obtain ⟨sn, hsn⟩ : ∃ qq9 : rS, qq9 = (up2 (up2 (up2 s.1 170 53 0) 170 54 n) 170 52 2, s.2) := ⟨_, rfl⟩
          rw [← hsn]
          have hu : ∀ k j, ¬ (k = 170 ∧ 52 ≤ j ∧ j ≤ 54) → sn.1 k j = s.1 k j := by rw [hsn]; intro k j e; exact (if_neg (by omega)).trans ((if_neg (by omega)).trans (if_neg (by omega)))
          have v2 : sn.1 170 52 = 2 := by rw [hsn]; show (up2 (up2 (up2 s.1 170 53 0) 170 54 n) 170 52 2) 170 52 = 2; exact up_self
          have v4 : sn.1 170 54 = n := by rw [hsn]; show (up2 (up2 (up2 s.1 170 53 0) 170 54 n) 170 52 2) 170 54 = n; exact (if_neg (by omega)).trans up_self
          have v3 : sn.1 170 53 = 0 := by rw [hsn]; show (up2 (up2 (up2 s.1 170 53 0) 170 54 n) 170 52 2) 170 53 = 0; exact (if_neg (by omega)).trans ((if_neg (by omega)).trans up_self)
          have hz : sn.2 = s.2 := by rw [hsn]
          have hX : RX s.1 sn.1 := fun k j e => hu k j (fun q => e (by unfold RS; omega))
          rcases hS.2.2.2.2 with q20 | ⟨_, hH, hPT, hLK, F, w0, na, st, hCW, hSW⟩
          · exfalso; omega
          rcases hSW with q1 | q3 | ⟨q02, G, own, hI⟩
          · exfalso; omega
          · exfalso; omega
          have hI2 : RI F sn.1 G own := RI_same hI (fun k hk => funext fun j => hu k j (by omega)) (hu _ _ (by omega))
          have hM : MC C F na s.1 := ⟨hS.2.2.1, hCW.1, hCW.2.2.2.2.1, hCW.2.2.2.2.2, hH⟩
          have hV : RV C F na s sn := ⟨hz, RX_RF hX hR, hX, MC_RX hC hM hX (HD_at hH (fun i => hu _ _ (by omega)))⟩
          have hQ : RQz C F na s G own sn := ⟨hV, v2, hI2, by omega⟩
          have hgo := (l_run (d := d) (n := n) hC _ sn G own hQ rfl).1 0 0 (by omega) (.inl rfl)
          have hRn := hV.2.1
          show wr (d + 6) tb_M162 59 [(2, vi 1), (0, .ref 170), (1, vi n)] [] sn _
          refine wr_n (pc2 := 64) (lv2 := [(2, vi 1), (0, .ref 170), (1, vi n)]) (st2 := [.ref 170]) 3 (fun _ _ => rfl) ?_
          refine wr_get (v := vi (sn.1 170 52)) rfl rfl rfl (by decide) rfl fun h15 => ?_
          have h15 : -2147483648 ≤ sn.1 170 52 ∧ sn.1 170 52 ≤ 2147483647 := h15
          show wr (d + 6) tb_M162 67 [(2, vi 1), (0, .ref 170), (1, vi n)] [vi (sn.1 170 52)] sn _
          refine wr_n (pc2 := 68) (lv2 := [(2, vi 1), (0, .ref 170), (1, vi n)]) (st2 := [vi 2, vi (sn.1 170 52)]) 1 (fun _ _ => rfl) ?_
          refine wr_if2f rfl rfl (by unfold i32; omega) (by unfold i32; omega) (by show ¬ (sn.1 170 52 ≠ 2); omega) ?_
          show wr (d + 6) tb_M162 71 [(2, vi 1), (0, .ref 170), (1, vi n)] [] sn _
          refine wr_n (pc2 := 75) (lv2 := [(3, vi 0), (2, vi 0), (0, .ref 170), (1, vi n)]) (st2 := []) 4 (fun _ _ => rfl) ?_
          refine wr_mono hgo ?_
          rintro s2 out ⟨⟨z, rfl⟩, ⟨w1, w2, w3, w4⟩, w5⟩
          refine ⟨⟨_, rfl, rfl⟩, w1, w2, RX_LJ w3, ⟨C, D, hS.1, by rw [w3 170 1 (by unfold RS; omega)]; exact ht0, w4.1, (w3 170 18 (by unfold RS; omega)).trans hS.2.2.2.1, .inr ⟨(w3 170 20 (by unfold RS; omega)).trans (by omega), w4.2.2.2.2, ?_, LK_at hLK (fun k j hk => w3 k j (by unfold RS; omega)), F, w0, na, st, CWF_at (funext fun j => w3 _ _ (by unfold RS; omega)) (fun j => w3 _ _ (by unfold RS; omega)) (fun j _ => w3 _ _ (by unfold RS; omega)) hCW, ?_⟩⟩, w3 170 1 (by unfold RS; omega)⟩
          · unfold PT at hPT ⊢; rw [w3 C 7 (by unfold RS; omega), w3 C 8 (by unfold RS; omega)]; exact hPT
          · rcases w5 with q | q | ⟨q, G3, own3, q3⟩
            · exact .inl q
            · exact .inr (.inl q)
            · exact .inr (.inr ⟨.inr q, G3, own3, q3⟩)
        · refine wr_if2f rfl rfl (by unfold i32; omega) (by unfold i32; omega) h12 ?_
          refine wr_n (pc2 := 46) (lv2 := [(0, .ref 170), (1, vi n)]) (st2 := [vi 1]) 1 (fun _ _ => rfl) ?_
          refine wr_end (fun _ _ => rfl) ?_
          obtain ⟨sn, hsn⟩ : ∃ qq9 : rS, qq9 = (up2 s.1 170 53 0, s.2) := ⟨_, rfl⟩
          rw [← hsn]
          have hu : U1 170 53 s.1 sn.1 := by rw [hsn]; exact U1_up
          have hRz : RF sn.1 := by rw [hsn]; exact hR10
          have hz : sn.2 = s.2 := by rw [hsn]
          exact ⟨⟨_, rfl, rfl⟩, hz, hRz, fun k j hk => hu k j (by omega), ⟨C, D, hS.1, by rw [hu 170 1 (by omega)]; exact ht0, (hu _ _ (by omega)).trans hS.2.2.1, (hu _ _ (by omega)).trans hS.2.2.2.1, SA_at hC hS.2.2.2.2 (fun k j a b => hu k j (by omega)) (hu _ _ (by omega)) (fun q => HD_at q (fun i => hu _ _ (by omega))) (fun F q => SW_at q (fun k e1 e2 e3 => funext fun j => hu k j (by omega)) (hu _ _ (by omega)) (hu _ _ (by omega)))⟩, hu 170 1 (by omega)⟩
      · refine wr_if2f rfl rfl (by unfold i32; omega) (by unfold i32; omega) h9 ?_
        refine wr_n (pc2 := 31) (lv2 := [(0, .ref 170), (1, vi n)]) (st2 := [vi ((-1))]) 1 (fun _ _ => rfl) ?_
        refine wr_end (fun _ _ => rfl) ?_
        exact MJ_same rfl rfl hR hS
  · refine wr_if1f rfl rfl (by unfold i32; omega) h2 ?_
    refine wr_n (pc2 := 9) (lv2 := [(0, .ref 170), (1, vi n)]) (st2 := [vi ((-2))]) 1 (fun _ _ => rfl) ?_
    refine wr_end (fun _ _ => rfl) ?_
    exact MJ_same rfl rfl hR hS
theorem q_begin {d C D : Nat} (s : rS) (hR : RF s.1) (hS : SI C D s.1) : cr (d + 2) 160 [.ref 170] s (fun s2 out => MJ 1 (fun t => t = s.1 170 1) s s2 out ∧ out = some (some (vi (if s.1 170 20 = 0 then -2 else 0)))) := by
  have hC := SI_C hS
  refine cr_mono (q_begin0 (d := d) hC s hR hS.2.2.1) ?_
  rintro s2 out ⟨⟨⟨z, rfl⟩, hc, hX, h⟩, hz⟩
  refine ⟨?_, hz⟩
  rcases h with ⟨e, _⟩ | ⟨h20, hH, h52, h55, h5, h6, h8, h9, h10⟩
  · rw [e]
    exact MJ_same rfl rfl hR hS
  · rcases SA_CW hS.2.2.2.2 with q | ⟨_, hW⟩
    · omega
    · exact ⟨⟨_, rfl, rfl⟩, hc, RX_RF hX hR, RX_LJ hX, ⟨C, D, hS.1, by rw [hX 170 1 (by unfold RS; omega)]; exact hS.2.1, (hX _ _ (by unfold RS; omega)).trans hS.2.2.1, (hX _ _ (by unfold RS; omega)).trans hS.2.2.2.1, SA_begin hC hW hX h20 hH h52 h55 h5 h6 h8 h9 h10⟩, hX _ _ (by unfold RS; omega)⟩
/-- behind compile: what Q2 says of the reading -/
def MCx (Q2 : rS → hm_Out → Prop) (s : rS) : rS → hm_Out → Prop := fun s2 out => MP 1 (fun t => t = 0) s s2 out ∧ ∃ s9 b, Q2 s9 (some (some (vi b))) ∧ (b = 0 ∧ s2.1 170 20 = s.1 170 20 ∨ b = 1 ∧ s2.1 170 20 = 1)
set_option maxHeartbeats 20000000 in
set_option maxRecDepth 100000 in
theorem q_compile {d C D : Nat} (s : rS) (hR : RF s.1) (hS : SI C D s.1) {Q2 : rS → hm_Out → Prop} (hX : ∀ K, pcr K (d + 520) 122 [.ref 170] s Q2) : cr (d + 520 + 1) 121 [.ref 170] s (MCx Q2 s) := by
  have hC := SI_C hS
  have ht0 := hS.2.1
  have hD : D = 177 ∨ D = 186 := by rcases hS.1 with q | q <;> omega
  have hBl : CBl 63 := (p_S 63).2.1
  have hRt : ∀ d, CRt d := fun d => p_routine hBl (p_body (p_E 340).1 (p_S 62).1)
  refine cr_of (M := tb_M121) rfl (Nat.le_of_ble_eq_true rfl) ?_
  show wr (d + 520) tb_M121 0 [(0, .ref 170)] [] s _
  refine wr_n (pc2 := 1) (lv2 := [(0, .ref 170)]) (st2 := [.ref 170]) 1 (fun _ _ => rfl) ?_
  refine wr_call1 (args := []) (rest := []) rfl rfl rfl rfl (Nat.le_of_ble_eq_true rfl) (cr_mono (cr_pcr (p_read (d := d) (C := D) hD hBl hRt _ hR hS.2.2.2.1 ht0) hX) ?_)
  rintro s1 out ⟨⟨b1, rfl, hc1, hR1, hF1, hb1⟩, s9, _, hq, _⟩
  · refine ⟨_, rfl, ?_⟩
    show wr (d + 520) tb_M121 4 [(0, .ref 170)] [vi b1] s1 _
    have hR1 : RF s1.1 := hR1
    have e17 : s1.1 170 17 = (C : Int) := (hF1.1 170 17 (by unfold PS; omega) (by omega)).trans hS.2.2.1
    have e18 : s1.1 170 18 = (D : Int) := (hF1.1 170 18 (by unfold PS; omega) (by omega)).trans hS.2.2.2.1
    by_cases h3 : b1 ≠ 0
    · refine wr_if1t rfl rfl (by unfold i32; omega) h3 ?_
      refine wr_n (pc2 := 13) (lv2 := [(0, .ref 170)]) (st2 := [.ref 170]) 1 (fun _ _ => rfl) ?_
      have hW : CW D s1.1 := by rcases hb1 with q | q; exact absurd q (by omega); exact q.2
      refine wr_get (v := .ref C) rfl rfl rfl (by decide) (rv_ref e17) fun hg13 => ?_
      show wr (d + 520) tb_M121 16 [(0, .ref 170)] [.ref C] s1 _
      refine wr_n (pc2 := 19) (lv2 := [(1, .ref C), (0, .ref 170)]) (st2 := [.ref 170, .ref 170]) 3 (fun _ _ => rfl) ?_
      refine wr_get (v := .ref D) rfl rfl rfl (by decide) (rv_ref e18) fun hg19 => ?_
      show wr (d + 520) tb_M121 22 [(1, .ref C), (0, .ref 170)] [.ref D, .ref 170] s1 _
      refine wr_put (z := (D : Int)) rfl rfl rfl rfl (by decide) rfl (by decide) (rv_ref rfl) (show -1 ≤ (D : Int) by omega) (hf_ref _ _) ?_
      show wr (d + 520) tb_M121 25 [(1, .ref C), (0, .ref 170)] [] (up2 s1.1 170 17 ((D : Int)), s1.2) _
      refine wr_n (pc2 := 27) (lv2 := [(1, .ref C), (0, .ref 170)]) (st2 := [.ref C, .ref 170]) 2 (fun _ _ => rfl) ?_
      refine wr_put (z := (C : Int)) rfl rfl rfl rfl (by decide) rfl (by decide) (rv_ref rfl) (show -1 ≤ (C : Int) by omega) (hf_ref _ _) ?_
      show wr (d + 520) tb_M121 30 [(1, .ref C), (0, .ref 170)] [] (up2 (up2 s1.1 170 17 ((D : Int))) 170 18 ((C : Int)), s1.2) _
      refine wr_n (pc2 := 32) (lv2 := [(1, .ref C), (0, .ref 170)]) (st2 := [vi 1, .ref 170]) 2 (fun _ _ => rfl) ?_
      refine wr_put (z := 1) rfl rfl rfl rfl (by decide) rfl (by decide) rfl (show 0 ≤ 1 ∧ 1 ≤ 1 by omega) (fit_i (.inr (.inl rfl)) (show 0 ≤ 1 ∧ 1 ≤ 1 by omega)) ?_
      show wr (d + 520) tb_M121 35 [(1, .ref C), (0, .ref 170)] [] (up2 (up2 (up2 s1.1 170 17 ((D : Int))) 170 18 ((C : Int))) 170 20 1, s1.2) _
      have hR4 : RF (up2 (up2 (up2 s1.1 170 17 ((D : Int))) 170 18 ((C : Int))) 170 20 1) := (RF_up (RF_up (RF_up hR1 rfl) rfl) rfl)
      refine wr_n (pc2 := 36) (lv2 := [(1, .ref C), (0, .ref 170)]) (st2 := [.ref 170]) 1 (fun _ _ => rfl) ?_
      have hRT : RF (up2 (up2 (up2 s1.1 170 17 ((D : Int))) 170 18 ((C : Int))) 170 20 1) := RF_up (RF_up (RF_up hR1 rfl) rfl) rfl
      refine wr_call1 (args := []) (rest := []) rfl rfl rfl rfl (Nat.le_of_ble_eq_true rfl) (cr_mono (p_begin0 (d := d + 518) (C := D) hD _ hRT (by show (up2 (up2 (up2 s1.1 170 17 ((D : Int))) 170 18 ((C : Int))) 170 20 1) 170 17 = (D : Int); exact (if_neg (by omega)).trans ((if_neg (by omega)).trans up_self))) ?_)
      rintro s6 out ⟨⟨z2, rfl⟩, hc2, hX2, hA⟩
      · refine ⟨_, rfl, ?_⟩
        show wr (d + 520) tb_M121 39 [(1, .ref C), (0, .ref 170)] [vi z2] s6 _
        have eT : ∀ k j, k ≠ 170 → (up2 (up2 (up2 s1.1 170 17 ((D : Int))) 170 18 ((C : Int))) 170 20 1) k j = s1.1 k j := fun k j e => (up_nk e).trans ((up_nk e).trans (up_nk e))
        have t1 : (up2 (up2 (up2 s1.1 170 17 ((D : Int))) 170 18 ((C : Int))) 170 20 1) 170 1 = 0 := ((if_neg (by omega)).trans ((if_neg (by omega)).trans (if_neg (by omega)))).trans hF1.2
        have t17 : (up2 (up2 (up2 s1.1 170 17 ((D : Int))) 170 18 ((C : Int))) 170 20 1) 170 17 = (D : Int) := (if_neg (by omega)).trans ((if_neg (by omega)).trans up_self)
        have t18 : (up2 (up2 (up2 s1.1 170 17 ((D : Int))) 170 18 ((C : Int))) 170 20 1) 170 18 = (C : Int) := (if_neg (by omega)).trans up_self
        have t20 : (up2 (up2 (up2 s1.1 170 17 ((D : Int))) 170 18 ((C : Int))) 170 20 1) 170 20 = 1 := up_self
        have hWT : CW D (up2 (up2 (up2 s1.1 170 17 ((D : Int))) 170 18 ((C : Int))) 170 20 1) := CW_at hD hW (fun k j a b => eT k j (by omega))
        rcases hA with ⟨_, q20⟩ | ⟨_, hH, h52, h55, h5, h6, h8, h9, h10⟩
        · exfalso; have q20 : (up2 (up2 (up2 s1.1 170 17 ((D : Int))) 170 18 ((C : Int))) 170 20 1) 170 20 = 0 := q20; omega
        have hSn : SI D C s6.1 := ⟨by have := hS.1; omega, by rw [hX2 170 1 (by unfold RS; omega)]; show 0 ≤ (up2 (up2 (up2 s1.1 170 17 ((D : Int))) 170 18 ((C : Int))) 170 20 1) 170 1 ∧ (up2 (up2 (up2 s1.1 170 17 ((D : Int))) 170 18 ((C : Int))) 170 20 1) 170 1 ≤ 2000; omega, (hX2 _ _ (by unfold RS; omega)).trans t17, (hX2 _ _ (by unfold RS; omega)).trans t18, SA_begin hD hWT hX2 t20 hH h52 h55 h5 h6 h8 h9 h10⟩
        refine wr_n (pc2 := 42) (lv2 := [(1, .ref C), (0, .ref 170)]) (st2 := [vi ((-2))]) 2 (fun _ _ => rfl) ?_
        refine wr_end (fun _ _ => rfl) ?_
        exact ⟨⟨⟨_, rfl, rfl⟩, hc2.trans hc1, RX_RF hX2 hRT, fun k j hk => (hX2 k j (by unfold RS; omega)).trans ((eT k j (by omega)).trans (hF1.1 k j (by unfold PS; omega) (by omega))), ⟨D, C, hSn⟩, (hX2 170 1 (by unfold RS; omega)).trans t1⟩, ⟨s9, b1, hq, .inr ⟨by omega, (hX2 170 20 (by unfold RS; omega)).trans t20⟩⟩⟩
    · refine wr_if1f rfl rfl (by unfold i32; omega) h3 ?_
      refine wr_n (pc2 := 8) (lv2 := [(0, .ref 170)]) (st2 := [.ref 170]) 1 (fun _ _ => rfl) ?_
      refine wr_get (v := vi (s1.1 170 8)) rfl rfl rfl (by decide) rfl fun h8 => ?_
      have h8 : -2147483648 ≤ s1.1 170 8 ∧ s1.1 170 8 ≤ 2147483647 := h8
      show wr (d + 520) tb_M121 11 [(0, .ref 170)] [vi (s1.1 170 8)] s1 _
      refine wr_reti rfl rfl ?_
      exact ⟨⟨⟨_, rfl, rfl⟩, hc1, hR1, fun k j hk => hF1.1 k j (by unfold PS; omega) (by omega), ⟨C, D, SI_FR0 hS hF1⟩, hF1.2⟩, ⟨s9, b1, hq, .inl ⟨by omega, hF1.1 170 20 (by unfold PS; omega) (by omega)⟩⟩⟩
