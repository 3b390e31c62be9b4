set_option maxRecDepth 100000 in
theorem p_repeat {n : Nat} (hX : CX 340) (hSt : CSt n) : CT1 154 tk1 1 19 (n + 1) := by
  intro C y m k0 s deep hC hR hP hMB hm hN hd htk hk0 hko
  unfold NS at hN
  have hx0 := LX_nums hP
  have hgt := gt_of hP
  have hlt := LX_lt hP htk
  refine cr_of (M := tb_M154) rfl (Nat.le_of_ble_eq_true rfl) ?_
  show wr (n + 400) tb_M154 0 [(0, .ref 170), (1, vi deep)] [] s _
  refine wr_n (pc2 := 1) (lv2 := [(0, .ref 170), (1, vi deep)]) (st2 := [.ref 170]) 1 (fun _ _ => rfl) ?_
  refine wr_call1 (args := []) (rest := []) rfl rfl rfl rfl (Nat.le_of_ble_eq_true rfl) (cr_mono (x_part (d := n + 398) (m := m) hC _ hR hP hm (by omega) (by omega)) ?_)
  rintro s2 out ⟨rfl, hc1, hR1, hBk1, hK1, hm1, hp1, hda1⟩
  · refine ⟨_, rfl, ?_⟩
    show wr (n + 400) tb_M154 4 [(0, .ref 170), (1, vi deep)] [] s2 _
    obtain ⟨hu1, hk1⟩ := id hK1
    have hB4 : BX C (gn y) s.1 s2.1 := BX_tr hC (PI_rf hP) hBk1
    have hP4 : PI C y s2.1 := PI_BX hC hP hB4
    have hQ4 : CS s.1 s2.1 := CS_tr (CS_rf (r := s.1)) (KC_CS hK1)
    have hz4 : s2.2 = s.2 := hc1.trans rfl
    have hF4 : s2.1 170 4 = s.1 170 4 ∧ s2.1 170 5 = s.1 170 5 ∧ s2.1 170 6 = s.1 170 6 ∧ s2.1 170 7 = s.1 170 7 ∧ s2.1 170 14 = s.1 170 14 ∧ s2.1 170 16 = s.1 170 16 ∧ s2.1 170 21 = s.1 170 21 ∧ s2.1 C 3 = s.1 C 3 + 1 ∧ s2.1 C 10 = s.1 C 10 ∧ s.1 170 5 + 0 ≤ s2.1 170 5 ∧ 0 ≤ s2.1 170 5 ∧ s2.1 170 5 ≤ s2.1 170 6 ∧ s2.1 170 6 ≤ 2000 := by omega
    clear hk1 hp1
    refine wr_n (pc2 := 5) (lv2 := [(0, .ref 170), (1, vi deep)]) (st2 := [.ref 170]) 1 (fun _ _ => rfl) ?_
    refine wr_call1 (args := []) (rest := []) rfl rfl rfl rfl (Nat.le_of_ble_eq_true rfl) (cr_mono (x_step (d := n + 394) hC _ hR1 hP4) ?_)
    rintro s6 out ⟨rfl, hc5, hR5, hBk5, hK5, hf5⟩
    · refine ⟨_, rfl, ?_⟩
      show wr (n + 400) tb_M154 8 [(0, .ref 170), (1, vi deep)] [] s6 _
      obtain ⟨hu5, hk5⟩ := id hK5
      replace hf5 : s2.1 170 5 + 1 ≤ s6.1 170 5 := Int.le_trans (LX_lt hP4 (by omega)) hf5
      have hm5 : s6.1 C 1 = ((m + 1 : Nat) : Int) := by omega
      have hB8 : BX C (gn y) s.1 s6.1 := BX_tr hC hB4 hBk5
      have hP8 : PI C y s6.1 := PI_BX hC hP hB8
      have hQ8 : CS s.1 s6.1 := CS_tr hQ4 (KL_CS hK5)
      have hz8 : s6.2 = s.2 := hc5.trans hz4
      have hx8 := LX_nums hP8
      have hF8 : s.1 170 5 + 1 ≤ s6.1 170 5 ∧ s6.1 170 14 = s.1 170 14 ∧ s6.1 170 16 = s.1 170 16 ∧ s6.1 170 21 = s.1 170 21 ∧ s6.1 C 3 = s.1 C 3 + 1 ∧ s6.1 C 10 = s.1 C 10 ∧ 0 ≤ s6.1 170 5 ∧ s6.1 170 5 ≤ s6.1 170 6 ∧ s6.1 170 6 ≤ 2000 := by omega
      clear hk5 hf5 hx8 hF4
      refine wr_n (pc2 := 9) (lv2 := [(0, .ref 170), (1, vi deep)]) (st2 := [.ref 170]) 1 (fun _ _ => rfl) ?_
      refine wr_get (v := vi (s6.1 170 4)) rfl rfl rfl (by decide) rfl fun h9 => ?_
      have h9 : -2147483648 ≤ s6.1 170 4 ∧ s6.1 170 4 ≤ 2147483647 := h9
      show wr (n + 400) tb_M154 12 [(0, .ref 170), (1, vi deep)] [vi (s6.1 170 4)] s6 _
      refine wr_n (pc2 := 13) (lv2 := [(0, .ref 170), (1, vi deep)]) (st2 := [vi 3, vi (s6.1 170 4)]) 1 (fun _ _ => rfl) ?_
      by_cases h10 : s6.1 170 4 = 3
      · refine wr_if2t rfl rfl (by unfold i32; omega) (by unfold i32; omega) h10 ?_
        have hlt3 := LX_lt hP8 (by omega)
        refine wr_n (pc2 := 25) (lv2 := [(0, .ref 170), (1, vi deep)]) (st2 := [.ref 170, vi 17, .ref 170]) 3 (fun _ _ => rfl) ?_
        refine wr_get (v := .ref C) rfl rfl rfl (by decide) (rv_ref (show s6.1 170 19 = ((C : Nat) : Int) from hP8.1)) fun h11 => ?_
        show wr (n + 400) tb_M154 28 [(0, .ref 170), (1, vi deep)] [.ref C, vi 17, .ref 170] s6 _
        refine wr_get (v := vi (s6.1 C 10)) rfl rfl (TG_C hC) (by decide) rfl fun h12 => ?_
        have h12 : -2147483648 ≤ s6.1 C 10 ∧ s6.1 C 10 ≤ 2147483647 := h12
        show wr (n + 400) tb_M154 31 [(0, .ref 170), (1, vi deep)] [vi (s6.1 C 10), vi 17, .ref 170] s6 _
        have hcn1 : 0 ≤ s6.1 C 10 ∧ s6.1 C 10 < 2000 := by omega
        refine wr_call1 (args := [vi 17, vi (s6.1 C 10)]) (rest := []) rfl rfl rfl rfl (Nat.le_of_ble_eq_true rfl) (cr_mono (x_put2 (d := n + 398) (m := m + 1) (op := 17) (v := s6.1 C 10) hC _ hR5 hP8 (by unfold i32; omega) (by unfold i32; omega) hm5 (by omega)) ?_)
        rintro s14 out ⟨rfl, hc13, hR13, hBk13, hK13, hm13, hp13, hda13, hdb13⟩
        · refine ⟨_, rfl, ?_⟩
          show wr (n + 400) tb_M154 34 [(0, .ref 170), (1, vi deep)] [] s14 _
          obtain ⟨hu13, hk13⟩ := id hK13
          have hB16 : BX C (gn y) s.1 s14.1 := BX_tr hC hB8 hBk13
          have hP16 : PI C y s14.1 := PI_BX hC hP hB16
          have hQ16 : CS s.1 s14.1 := CS_tr hQ8 (KC_CS hK13)
          have hz16 : s14.2 = s.2 := hc13.trans hz8
          have hF16 : s14.1 170 4 = s6.1 170 4 ∧ s14.1 170 5 = s6.1 170 5 ∧ s14.1 170 6 = s6.1 170 6 ∧ s14.1 170 7 = s6.1 170 7 ∧ s14.1 170 14 = s.1 170 14 ∧ s14.1 170 16 = s.1 170 16 ∧ s14.1 170 21 = s.1 170 21 ∧ s14.1 C 3 = s.1 C 3 + 1 ∧ s14.1 C 10 = s.1 C 10 ∧ s.1 170 5 + 1 ≤ s14.1 170 5 ∧ 0 ≤ s14.1 170 5 ∧ s14.1 170 5 ≤ s14.1 170 6 ∧ s14.1 170 6 ≤ 2000 := by omega
          clear hk13 hp13 hF8
          refine wr_n (pc2 := 36) (lv2 := [(0, .ref 170), (1, vi deep)]) (st2 := [.ref 170, .ref 170]) 2 (fun _ _ => rfl) ?_
          refine wr_get (v := vi (s14.1 170 7)) rfl rfl rfl (by decide) rfl fun h17 => ?_
          have h17 : -2147483648 ≤ s14.1 170 7 ∧ s14.1 170 7 ≤ 2147483647 := h17
          show wr (n + 400) tb_M154 39 [(0, .ref 170), (1, vi deep)] [vi (s14.1 170 7), .ref 170] s14 _
          refine wr_call1 (args := [vi (s14.1 170 7)]) (rest := []) rfl rfl rfl rfl (Nat.le_of_ble_eq_true rfl) (cr_mono (x_put (d := n + 399) (m := m + 1 + 2) (v := s14.1 170 7) hC _ hR13 hP16 (by unfold i32; omega) hm13 (by omega)) ?_)
          rintro s19 out ⟨rfl, hc18, hR18, hBk18, hK18, hm18, hp18, hda18⟩
          · refine ⟨_, rfl, ?_⟩
            show wr (n + 400) tb_M154 42 [(0, .ref 170), (1, vi deep)] [vi (((m + 1 + 2 : Nat) : Int))] s19 _
            obtain ⟨hu18, hk18⟩ := id hK18
            have hB21 : BX C (gn y) s.1 s19.1 := BX_tr hC hB16 hBk18
            have hP21 : PI C y s19.1 := PI_BX hC hP hB21
            have hQ21 : CS s.1 s19.1 := CS_tr hQ16 (KC_CS hK18)
            have hz21 : s19.2 = s.2 := hc18.trans hz16
            have hF21 : s19.1 170 4 = s6.1 170 4 ∧ s19.1 170 5 = s6.1 170 5 ∧ s19.1 170 6 = s6.1 170 6 ∧ s19.1 170 7 = s6.1 170 7 ∧ s19.1 170 14 = s.1 170 14 ∧ s19.1 170 16 = s.1 170 16 ∧ s19.1 170 21 = s.1 170 21 ∧ s19.1 C 3 = s.1 C 3 + 1 ∧ s19.1 C 10 = s.1 C 10 ∧ s.1 170 5 + 1 ≤ s19.1 170 5 ∧ 0 ≤ s19.1 170 5 ∧ s19.1 170 5 ≤ s19.1 170 6 ∧ s19.1 170 6 ≤ 2000 := by omega
            clear hk18 hp18 hF16
            refine wr_n (pc2 := 46) (lv2 := [(0, .ref 170), (1, vi deep)]) (st2 := [vi 18, .ref 170]) 3 (fun _ _ => rfl) ?_
            refine wr_call1 (args := [vi 18]) (rest := []) rfl rfl rfl rfl (Nat.le_of_ble_eq_true rfl) (cr_mono (x_put (d := n + 399) (m := m + 1 + 2 + 1) (v := 18) hC _ hR18 hP21 (by unfold i32; omega) hm18 (by omega)) ?_)
            rintro s23 out ⟨rfl, hc22, hR22, hBk22, hK22, hm22, hp22, hda22⟩
            · refine ⟨_, rfl, ?_⟩
              show wr (n + 400) tb_M154 49 [(0, .ref 170), (1, vi deep)] [vi (((m + 1 + 2 + 1 : Nat) : Int))] s23 _
              obtain ⟨hu22, hk22⟩ := id hK22
              have hB25 : BX C (gn y) s.1 s23.1 := BX_tr hC hB21 hBk22
              have hP25 : PI C y s23.1 := PI_BX hC hP hB25
              have hQ25 : CS s.1 s23.1 := CS_tr hQ21 (KC_CS hK22)
              have hz25 : s23.2 = s.2 := hc22.trans hz21
              have hF25 : s23.1 170 4 = s6.1 170 4 ∧ s23.1 170 5 = s6.1 170 5 ∧ s23.1 170 6 = s6.1 170 6 ∧ s23.1 170 7 = s6.1 170 7 ∧ s23.1 170 14 = s.1 170 14 ∧ s23.1 170 16 = s.1 170 16 ∧ s23.1 170 21 = s.1 170 21 ∧ s23.1 C 3 = s.1 C 3 + 1 ∧ s23.1 C 10 = s.1 C 10 ∧ s.1 170 5 + 1 ≤ s23.1 170 5 ∧ 0 ≤ s23.1 170 5 ∧ s23.1 170 5 ≤ s23.1 170 6 ∧ s23.1 170 6 ≤ 2000 := by omega
              clear hk22 hp22 hF21
              refine wr_n (pc2 := 52) (lv2 := [(2, vi (((m + 1 + 2 + 1 : Nat) : Int))), (0, .ref 170), (1, vi deep)]) (st2 := [.ref 170, .ref 170]) 3 (fun _ _ => rfl) ?_
              refine wr_get (v := .ref C) rfl rfl rfl (by decide) (rv_ref (show s23.1 170 19 = ((C : Nat) : Int) from hP25.1)) fun h26 => ?_
              show wr (n + 400) tb_M154 55 [(2, vi (((m + 1 + 2 + 1 : Nat) : Int))), (0, .ref 170), (1, vi deep)] [.ref C, .ref 170] s23 _
              refine wr_get (v := vi (s23.1 C 10)) rfl rfl (TG_C hC) (by decide) rfl fun h27 => ?_
              have h27 : -2147483648 ≤ s23.1 C 10 ∧ s23.1 C 10 ≤ 2147483647 := h27
              show wr (n + 400) tb_M154 58 [(2, vi (((m + 1 + 2 + 1 : Nat) : Int))), (0, .ref 170), (1, vi deep)] [vi (s23.1 C 10), .ref 170] s23 _
              have hcn2 : 0 ≤ s23.1 C 10 ∧ s23.1 C 10 < 2000 := by omega
              refine wr_call1 (args := [vi (s23.1 C 10)]) (rest := []) rfl rfl rfl rfl (Nat.le_of_ble_eq_true rfl) (cr_mono (x_put (d := n + 399) (m := m + 1 + 2 + 1 + 1) (v := s23.1 C 10) hC _ hR22 hP25 (by unfold i32; omega) hm22 (by omega)) ?_)
              rintro s29 out ⟨rfl, hc28, hR28, hBk28, hK28, hm28, hp28, hda28⟩
              · refine ⟨_, rfl, ?_⟩
                show wr (n + 400) tb_M154 61 [(2, vi (((m + 1 + 2 + 1 : Nat) : Int))), (0, .ref 170), (1, vi deep)] [vi (((m + 1 + 2 + 1 + 1 : Nat) : Int))] s29 _
                obtain ⟨hu28, hk28⟩ := id hK28
                have hB31 : BX C (gn y) s.1 s29.1 := BX_tr hC hB25 hBk28
                have hP31 : PI C y s29.1 := PI_BX hC hP hB31
                have hQ31 : CS s.1 s29.1 := CS_tr hQ25 (KC_CS hK28)
                have hz31 : s29.2 = s.2 := hc28.trans hz25
                have hF31 : s29.1 170 4 = s6.1 170 4 ∧ s29.1 170 5 = s6.1 170 5 ∧ s29.1 170 6 = s6.1 170 6 ∧ s29.1 170 7 = s6.1 170 7 ∧ s29.1 170 14 = s.1 170 14 ∧ s29.1 170 16 = s.1 170 16 ∧ s29.1 170 21 = s.1 170 21 ∧ s29.1 C 3 = s.1 C 3 + 1 ∧ s29.1 C 10 = s.1 C 10 ∧ s.1 170 5 + 1 ≤ s29.1 170 5 ∧ 0 ≤ s29.1 170 5 ∧ s29.1 170 5 ≤ s29.1 170 6 ∧ s29.1 170 6 ≤ 2000 := by omega
                clear hk28 hp28 hF25
                refine wr_n (pc2 := 63) (lv2 := [(2, vi (((m + 1 + 2 + 1 : Nat) : Int))), (0, .ref 170), (1, vi deep)]) (st2 := [.ref 170]) 2 (fun _ _ => rfl) ?_
                refine wr_get (v := .ref C) rfl rfl rfl (by decide) (rv_ref (show s29.1 170 19 = ((C : Nat) : Int) from hP31.1)) fun h32 => ?_
                show wr (n + 400) tb_M154 66 [(2, vi (((m + 1 + 2 + 1 : Nat) : Int))), (0, .ref 170), (1, vi deep)] [.ref C] s29 _
                refine wr_n (pc2 := 67) (lv2 := [(2, vi (((m + 1 + 2 + 1 : Nat) : Int))), (0, .ref 170), (1, vi deep)]) (st2 := [.ref C, .ref C]) 1 (fun _ _ => rfl) ?_
                refine wr_get (v := vi (s29.1 C 10)) rfl rfl (TG_C hC) (by decide) rfl fun h33 => ?_
                have h33 : -2147483648 ≤ s29.1 C 10 ∧ s29.1 C 10 ≤ 2147483647 := h33
                show wr (n + 400) tb_M154 70 [(2, vi (((m + 1 + 2 + 1 : Nat) : Int))), (0, .ref 170), (1, vi deep)] [vi (s29.1 C 10), .ref C] s29 _
                refine wr_n (pc2 := 71) (lv2 := [(2, vi (((m + 1 + 2 + 1 : Nat) : Int))), (0, .ref 170), (1, vi deep)]) (st2 := [vi 1, vi (s29.1 C 10), .ref C]) 1 (fun _ _ => rfl) ?_
                refine wr_add (a := s29.1 C 10) (b := 1) rfl ?_
                show wr (n + 400) tb_M154 72 [(2, vi (((m + 1 + 2 + 1 : Nat) : Int))), (0, .ref 170), (1, vi deep)] [vi (s29.1 C 10 + 1), .ref C] s29 _
                refine wr_put (z := s29.1 C 10 + 1) rfl rfl rfl rfl (show 96 ≤ C by omega) (TG_C hC) (by decide) rfl (show -2147483648 ≤ s29.1 C 10 + 1 ∧ s29.1 C 10 + 1 ≤ 2147483647 by omega) (hf_int' _) ?_
                show wr (n + 400) tb_M154 75 [(2, vi (((m + 1 + 2 + 1 : Nat) : Int))), (0, .ref 170), (1, vi deep)] [] (up2 s29.1 C 10 (s29.1 C 10 + 1), s29.2) _
                have hR34 : RF (up2 s29.1 C 10 (s29.1 C 10 + 1)) := (RF_up hR28 (PS_rc hC (by unfold PS; omega)))
                obtain ⟨s35, hs35⟩ : ∃ qq9 : rS, qq9 = (up2 s29.1 C 10 (s29.1 C 10 + 1), s29.2) := ⟨_, rfl⟩
                rw [← hs35]
                have hU35 : U1 C 10 s29.1 s35.1 := by rw [hs35]; exact U1_up
                have hv35 : s35.1 C 10 = s29.1 C 10 + 1 := by rw [hs35]; show up2 s29.1 C 10 (s29.1 C 10 + 1) C 10 = _; exact up_self
                have hk35 : s35.1 170 4 = s29.1 170 4 ∧ s35.1 170 5 = s29.1 170 5 ∧ s35.1 170 6 = s29.1 170 6 ∧ s35.1 170 7 = s29.1 170 7 ∧ s35.1 170 14 = s29.1 170 14 ∧ s35.1 170 16 = s29.1 170 16 ∧ s35.1 170 21 = s29.1 170 21 ∧ s35.1 C 1 = s29.1 C 1 ∧ s35.1 C 3 = s29.1 C 3 := ⟨hU35 _ _ (by omega), hU35 _ _ (by omega), hU35 _ _ (by omega), hU35 _ _ (by omega), hU35 _ _ (by omega), hU35 _ _ (by omega), hU35 _ _ (by omega), hU35 _ _ (by omega), hU35 _ _ (by omega)⟩
                have hBs35 : BX C (gn y) s.1 s35.1 := by rw [hs35]; exact BX_set hC hB31 (by unfold SS; omega) (by unfold quiet; omega)
                have hR35 : RF s35.1 := BX_RF hC hBs35 hR
                have hc35 : s35.2 = s29.2 := by rw [hs35]
                have hm35 : s35.1 C 1 = ((m + 1 + 2 + 1 + 1 + 1 : Nat) : Int) := by omega
                have hB36 : BX C (gn y) s.1 s35.1 := hBs35
                have hP36 : PI C y s35.1 := PI_BX hC hP hB36
                have hQ36 : CS s.1 s35.1 := CS_tr hQ31 (CS_eq (hU35 170 26 (by omega)))
                have hz36 : s35.2 = s.2 := hc35.trans hz31
                have hF36 : s35.1 170 4 = s6.1 170 4 ∧ s35.1 170 5 = s6.1 170 5 ∧ s35.1 170 6 = s6.1 170 6 ∧ s35.1 170 7 = s6.1 170 7 ∧ s35.1 170 14 = s.1 170 14 ∧ s35.1 170 16 = s.1 170 16 ∧ s35.1 170 21 = s.1 170 21 ∧ s35.1 C 3 = s.1 C 3 + 1 ∧ s35.1 C 10 = s.1 C 10 + 1 ∧ s.1 170 5 + 1 ≤ s35.1 170 5 ∧ 0 ≤ s35.1 170 5 ∧ s35.1 170 5 ≤ s35.1 170 6 ∧ s35.1 170 6 ≤ 2000 := by omega
                clear hk35 hF31
                show wr (n + 400) tb_M154 75 [(2, vi (((m + 1 + 2 + 1 : Nat) : Int))), (0, .ref 170), (1, vi deep)] [] s35 _
                refine wr_n (pc2 := 77) (lv2 := [(2, vi (((m + 1 + 2 + 1 : Nat) : Int))), (0, .ref 170), (1, vi deep)]) (st2 := [vi 0, .ref 170]) 2 (fun _ _ => rfl) ?_
                refine wr_call1 (args := [vi 0]) (rest := []) rfl rfl rfl rfl (Nat.le_of_ble_eq_true rfl) (cr_mono (x_put (d := n + 399) (m := m + 1 + 2 + 1 + 1 + 1) (v := 0) hC _ hR35 hP36 (by unfold i32; omega) hm35 (by omega)) ?_)
                rintro s38 out ⟨rfl, hc37, hR37, hBk37, hK37, hm37, hp37, hda37⟩
                · refine ⟨_, rfl, ?_⟩
                  show wr (n + 400) tb_M154 80 [(2, vi (((m + 1 + 2 + 1 : Nat) : Int))), (0, .ref 170), (1, vi deep)] [vi (((m + 1 + 2 + 1 + 1 + 1 : Nat) : Int))] s38 _
                  obtain ⟨hu37, hk37⟩ := id hK37
                  have hB40 : BX C (gn y) s.1 s38.1 := BX_tr hC hB36 hBk37
                  have hP40 : PI C y s38.1 := PI_BX hC hP hB40
                  have hQ40 : CS s.1 s38.1 := CS_tr hQ36 (KC_CS hK37)
                  have hz40 : s38.2 = s.2 := hc37.trans hz36
                  have hF40 : s38.1 170 4 = s6.1 170 4 ∧ s38.1 170 5 = s6.1 170 5 ∧ s38.1 170 6 = s6.1 170 6 ∧ s38.1 170 7 = s6.1 170 7 ∧ s38.1 170 14 = s.1 170 14 ∧ s38.1 170 16 = s.1 170 16 ∧ s38.1 170 21 = s.1 170 21 ∧ s38.1 C 3 = s.1 C 3 + 1 ∧ s38.1 C 10 = s.1 C 10 + 1 ∧ s.1 170 5 + 1 ≤ s38.1 170 5 ∧ 0 ≤ s38.1 170 5 ∧ s38.1 170 5 ≤ s38.1 170 6 ∧ s38.1 170 6 ≤ 2000 := by omega
                  clear hk37 hp37 hF36
                  refine wr_n (pc2 := 82) (lv2 := [(3, vi (((m + 1 + 2 + 1 + 1 + 1 : Nat) : Int))), (2, vi (((m + 1 + 2 + 1 : Nat) : Int))), (0, .ref 170), (1, vi deep)]) (st2 := [.ref 170]) 2 (fun _ _ => rfl) ?_
                  refine wr_call1 (args := []) (rest := []) rfl rfl rfl rfl (Nat.le_of_ble_eq_true rfl) (cr_mono (x_step (d := n + 394) hC _ hR37 hP40) ?_)
                  rintro s42 out ⟨rfl, hc41, hR41, hBk41, hK41, hf41⟩
                  · refine ⟨_, rfl, ?_⟩
                    show wr (n + 400) tb_M154 85 [(3, vi (((m + 1 + 2 + 1 + 1 + 1 : Nat) : Int))), (2, vi (((m + 1 + 2 + 1 : Nat) : Int))), (0, .ref 170), (1, vi deep)] [] s42 _
                    obtain ⟨hu41, hk41⟩ := id hK41
                    replace hf41 : s38.1 170 5 + 1 ≤ s42.1 170 5 := Int.le_trans (LX_lt hP40 (by omega)) hf41
                    have hm41 : s42.1 C 1 = ((m + 1 + 2 + 1 + 1 + 1 + 1 : Nat) : Int) := by omega
                    have hB44 : BX C (gn y) s.1 s42.1 := BX_tr hC hB40 hBk41
                    have hP44 : PI C y s42.1 := PI_BX hC hP hB44
                    have hQ44 : CS s.1 s42.1 := CS_tr hQ40 (KL_CS hK41)
                    have hz44 : s42.2 = s.2 := hc41.trans hz40
                    have hx44 := LX_nums hP44
                    have hF44 : s.1 170 5 + 2 ≤ s42.1 170 5 ∧ s42.1 170 14 = s.1 170 14 ∧ s42.1 170 16 = s.1 170 16 ∧ s42.1 170 21 = s.1 170 21 ∧ s42.1 C 3 = s.1 C 3 + 1 ∧ s42.1 C 10 = s.1 C 10 + 1 ∧ 0 ≤ s42.1 170 5 ∧ s42.1 170 5 ≤ s42.1 170 6 ∧ s42.1 170 6 ≤ 2000 := by omega
                    clear hk41 hf41 hx44 hF40
                    refine wr_n (pc2 := 88) (lv2 := [(3, vi (((m + 1 + 2 + 1 + 1 + 1 : Nat) : Int))), (2, vi (((m + 1 + 2 + 1 : Nat) : Int))), (0, .ref 170), (1, vi deep)]) (st2 := [vi 1, vi deep, .ref 170]) 3 (fun _ _ => rfl) ?_
                    refine wr_add (a := deep) (b := 1) rfl ?_
                    show wr (n + 400) tb_M154 89 [(3, vi (((m + 1 + 2 + 1 + 1 + 1 : Nat) : Int))), (2, vi (((m + 1 + 2 + 1 : Nat) : Int))), (0, .ref 170), (1, vi deep)] [vi (deep + 1), .ref 170] s42 _
                    refine wr_call1 (args := [vi (deep + 1)]) (rest := []) rfl rfl rfl rfl (Nat.le_of_ble_eq_true rfl) (cr_mono (hSt C y (m + 1 + 2 + 1 + 1 + 1 + 1) k0 _ (deep + 1) hC hR41 hP44 (BX_mb hB44 hMB) hm41 (by unfold NS; omega) (by omega) trivial (by omega) hko) ?_)
                    rintro s46 out ⟨b, rfl, hc45, ⟨rfl, hF45⟩ | ⟨rfl, hR45, hBk45, hS45, hN45, w45, k45, hm45, hkk45, hE45⟩⟩
                    · refine ⟨_, rfl, ?_⟩
                      show wr (n + 400) tb_M154 92 [(3, vi (((m + 1 + 2 + 1 + 1 + 1 : Nat) : Int))), (2, vi (((m + 1 + 2 + 1 : Nat) : Int))), (0, .ref 170), (1, vi deep)] [vi 0] s46 _
                      refine wr_n (pc2 := 96) (lv2 := [(3, vi (((m + 1 + 2 + 1 + 1 + 1 : Nat) : Int))), (2, vi (((m + 1 + 2 + 1 : Nat) : Int))), (0, .ref 170), (1, vi deep)]) (st2 := [vi 0]) 2 (fun _ _ => rfl) ?_
                      refine wr_end (fun _ _ => rfl) ?_
                      exact ⟨0, rfl, hc45.trans hz44, Or.inl ⟨rfl, FR_tr (BX_FR hB44) hF45⟩⟩
                    · refine ⟨_, rfl, ?_⟩
                      show wr (n + 400) tb_M154 92 [(3, vi (((m + 1 + 2 + 1 + 1 + 1 : Nat) : Int))), (2, vi (((m + 1 + 2 + 1 : Nat) : Int))), (0, .ref 170), (1, vi deep)] [vi 1] s46 _
                      unfold NXS at hN45
                      have hB49 : BX C (gn y) s.1 s46.1 := BX_tr hC hB44 hBk45
                      have hP49 : PI C y s46.1 := PI_BX hC hP hB49
                      have hQ49 : CS s.1 s46.1 := CS_tr hQ44 hS45
                      have hz49 : s46.2 = s.2 := hc45.trans hz44
                      have hF49 := LX_nums hP49
                      refine wr_n (pc2 := 101) (lv2 := [(3, vi (((m + 1 + 2 + 1 + 1 + 1 : Nat) : Int))), (2, vi (((m + 1 + 2 + 1 : Nat) : Int))), (0, .ref 170), (1, vi deep)]) (st2 := [vi (((m + 1 + 2 + 1 : Nat) : Int)), vi 9, .ref 170]) 4 (fun _ _ => rfl) ?_
                      refine wr_call1 (args := [vi 9, vi (((m + 1 + 2 + 1 : Nat) : Int))]) (rest := []) rfl rfl rfl rfl (Nat.le_of_ble_eq_true rfl) (cr_mono (x_put2 (d := n + 398) (m := w45) (op := 9) (v := ((m + 1 + 2 + 1 : Nat) : Int)) hC _ hR45 hP49 (by unfold i32; omega) (by unfold i32; omega) hm45 (by omega)) ?_)
                      rintro s51 out ⟨rfl, hc50, hR50, hBk50, hK50, hm50, hp50, hda50, hdb50⟩
                      · refine ⟨_, rfl, ?_⟩
                        show wr (n + 400) tb_M154 104 [(3, vi (((m + 1 + 2 + 1 + 1 + 1 : Nat) : Int))), (2, vi (((m + 1 + 2 + 1 : Nat) : Int))), (0, .ref 170), (1, vi deep)] [] s51 _
                        obtain ⟨hu50, hk50⟩ := id hK50
                        have hB53 : BX C (gn y) s.1 s51.1 := BX_tr hC hB49 hBk50
                        have hP53 : PI C y s51.1 := PI_BX hC hP hB53
                        have hQ53 : CS s.1 s51.1 := CS_tr hQ49 (KC_CS hK50)
                        have hz53 : s51.2 = s.2 := hc50.trans hz49
                        have hF53 : s51.1 170 4 = s46.1 170 4 ∧ s51.1 170 5 = s46.1 170 5 ∧ s51.1 170 6 = s46.1 170 6 ∧ s51.1 170 7 = s46.1 170 7 ∧ s51.1 170 14 = s46.1 170 14 ∧ s51.1 170 16 = s46.1 170 16 ∧ s51.1 170 21 = s46.1 170 21 ∧ s51.1 C 3 = s46.1 C 3 ∧ s51.1 C 10 = s46.1 C 10 ∧ s46.1 170 5 + 0 ≤ s51.1 170 5 ∧ 0 ≤ s51.1 170 5 ∧ s51.1 170 5 ≤ s51.1 170 6 ∧ s51.1 170 6 ≤ 2000 := by omega
                        clear hk50 hp50
                        refine wr_n (pc2 := 105) (lv2 := [(3, vi (((m + 1 + 2 + 1 + 1 + 1 : Nat) : Int))), (2, vi (((m + 1 + 2 + 1 : Nat) : Int))), (0, .ref 170), (1, vi deep)]) (st2 := [.ref 170]) 1 (fun _ _ => rfl) ?_
                        refine wr_get (v := .ref C) rfl rfl rfl (by decide) (rv_ref (show s51.1 170 19 = ((C : Nat) : Int) from hP53.1)) fun h54 => ?_
                        show wr (n + 400) tb_M154 108 [(3, vi (((m + 1 + 2 + 1 + 1 + 1 : Nat) : Int))), (2, vi (((m + 1 + 2 + 1 : Nat) : Int))), (0, .ref 170), (1, vi deep)] [.ref C] s51 _
                        refine wr_get (v := .ref (C + 1)) rfl rfl (TG_C hC) (by decide) (rv_ref (hR50 C 0 (C + 1) (rc_C0 hC))) fun h55 => ?_
                        show wr (n + 400) tb_M154 111 [(3, vi (((m + 1 + 2 + 1 + 1 + 1 : Nat) : Int))), (2, vi (((m + 1 + 2 + 1 : Nat) : Int))), (0, .ref 170), (1, vi deep)] [.ref (C + 1)] s51 _
                        refine wr_n (pc2 := 113) (lv2 := [(3, vi (((m + 1 + 2 + 1 + 1 + 1 : Nat) : Int))), (2, vi (((m + 1 + 2 + 1 : Nat) : Int))), (0, .ref 170), (1, vi deep)]) (st2 := [.ref 170, vi (((m + 1 + 2 + 1 + 1 + 1 : Nat) : Int)), .ref (C + 1)]) 2 (fun _ _ => rfl) ?_
                        refine wr_get (v := .ref C) rfl rfl rfl (by decide) (rv_ref (show s51.1 170 19 = ((C : Nat) : Int) from hP53.1)) fun h56 => ?_
                        show wr (n + 400) tb_M154 116 [(3, vi (((m + 1 + 2 + 1 + 1 + 1 : Nat) : Int))), (2, vi (((m + 1 + 2 + 1 : Nat) : Int))), (0, .ref 170), (1, vi deep)] [.ref C, vi (((m + 1 + 2 + 1 + 1 + 1 : Nat) : Int)), .ref (C + 1)] s51 _
                        refine wr_get (v := vi (s51.1 C 1)) rfl rfl (TG_C hC) (by decide) rfl fun h57 => ?_
                        have h57 : -2147483648 ≤ s51.1 C 1 ∧ s51.1 C 1 ≤ 2147483647 := h57
                        show wr (n + 400) tb_M154 119 [(3, vi (((m + 1 + 2 + 1 + 1 + 1 : Nat) : Int))), (2, vi (((m + 1 + 2 + 1 : Nat) : Int))), (0, .ref 170), (1, vi deep)] [vi (s51.1 C 1), vi (((m + 1 + 2 + 1 + 1 + 1 : Nat) : Int)), .ref (C + 1)] s51 _
                        rw [hm50]
                        show wr (n + 400) tb_M154 119 [(3, vi (((m + 1 + 2 + 1 + 1 + 1 : Nat) : Int))), (2, vi (((m + 1 + 2 + 1 : Nat) : Int))), (0, .ref 170), (1, vi deep)] [vi (((w45 + 2 : Nat) : Int)), vi (((m + 1 + 2 + 1 + 1 + 1 : Nat) : Int)), .ref (C + 1)] s51 _
                        refine wr_ast (a := ((m + 1 + 2 + 1 + 1 + 1 : Nat) : Int)) (z := ((w45 + 2 : Nat) : Int)) rfl (show 96 ≤ C + 1 by omega) (TG_C1 hC) rfl (by omega) (by omega) (by decide) rfl (show -2147483648 ≤ ((w45 + 2 : Nat) : Int) ∧ ((w45 + 2 : Nat) : Int) ≤ 2147483647 by omega) ?_
                        show wr (n + 400) tb_M154 120 [(3, vi (((m + 1 + 2 + 1 + 1 + 1 : Nat) : Int))), (2, vi (((m + 1 + 2 + 1 : Nat) : Int))), (0, .ref 170), (1, vi deep)] [] (up2 s51.1 (C + 1) (m + 1 + 2 + 1 + 1 + 1) (((w45 + 2 : Nat) : Int)), s51.2) _
                        have hR58 : RF (up2 s51.1 (C + 1) (m + 1 + 2 + 1 + 1 + 1) (((w45 + 2 : Nat) : Int))) := (RF_up hR50 (PS_rc hC (by unfold PS; omega)))
                        obtain ⟨s59, hs59⟩ : ∃ qq9 : rS, qq9 = (up2 s51.1 (C + 1) (m + 1 + 2 + 1 + 1 + 1) (((w45 + 2 : Nat) : Int)), s51.2) := ⟨_, rfl⟩
                        rw [← hs59]
                        have hU59 : U1 (C + 1) (m + 1 + 2 + 1 + 1 + 1) s51.1 s59.1 := by rw [hs59]; exact U1_up
                        have hv59 : s59.1 (C + 1) (m + 1 + 2 + 1 + 1 + 1) = ((w45 + 2 : Nat) : Int) := by rw [hs59]; show up2 s51.1 (C + 1) (m + 1 + 2 + 1 + 1 + 1) (((w45 + 2 : Nat) : Int)) (C + 1) (m + 1 + 2 + 1 + 1 + 1) = _; exact up_self
                        have hk59 : s59.1 170 4 = s51.1 170 4 ∧ s59.1 170 5 = s51.1 170 5 ∧ s59.1 170 6 = s51.1 170 6 ∧ s59.1 170 7 = s51.1 170 7 ∧ s59.1 170 14 = s51.1 170 14 ∧ s59.1 170 16 = s51.1 170 16 ∧ s59.1 170 21 = s51.1 170 21 ∧ s59.1 C 1 = s51.1 C 1 ∧ s59.1 C 3 = s51.1 C 3 ∧ s59.1 C 10 = s51.1 C 10 := ⟨hU59 _ _ (by omega), hU59 _ _ (by omega), hU59 _ _ (by omega), hU59 _ _ (by omega), hU59 _ _ (by omega), hU59 _ _ (by omega), hU59 _ _ (by omega), hU59 _ _ (by omega), hU59 _ _ (by omega), hU59 _ _ (by omega)⟩
                        have hBs59 : BX C (gn y) s.1 s59.1 := by rw [hs59]; exact BX_set hC hB53 (by unfold SS; omega) (by unfold quiet; omega)
                        have hR59 : RF s59.1 := BX_RF hC hBs59 hR
                        have hc59 : s59.2 = s51.2 := by rw [hs59]
                        have hm59 : s59.1 C 1 = ((w45 + 2 : Nat) : Int) := by omega
                        have hB60 : BX C (gn y) s.1 s59.1 := hBs59
                        have hP60 : PI C y s59.1 := PI_BX hC hP hB60
                        have hQ60 : CS s.1 s59.1 := CS_tr hQ53 (CS_eq (hU59 170 26 (by omega)))
                        have hz60 : s59.2 = s.2 := hc59.trans hz53
                        have hF60 : s59.1 170 4 = s46.1 170 4 ∧ s59.1 170 5 = s46.1 170 5 ∧ s59.1 170 6 = s46.1 170 6 ∧ s59.1 170 7 = s46.1 170 7 ∧ s59.1 170 14 = s46.1 170 14 ∧ s59.1 170 16 = s46.1 170 16 ∧ s59.1 170 21 = s46.1 170 21 ∧ s59.1 C 3 = s46.1 C 3 ∧ s59.1 C 10 = s46.1 C 10 ∧ s46.1 170 5 + 0 ≤ s59.1 170 5 ∧ 0 ≤ s59.1 170 5 ∧ s59.1 170 5 ≤ s59.1 170 6 ∧ s59.1 170 6 ≤ 2000 := by omega
                        clear hk59 hF53
                        show wr (n + 400) tb_M154 120 [(3, vi (((m + 1 + 2 + 1 + 1 + 1 : Nat) : Int))), (2, vi (((m + 1 + 2 + 1 : Nat) : Int))), (0, .ref 170), (1, vi deep)] [] s59 _
                        refine wr_n (pc2 := 121) (lv2 := [(3, vi (((m + 1 + 2 + 1 + 1 + 1 : Nat) : Int))), (2, vi (((m + 1 + 2 + 1 : Nat) : Int))), (0, .ref 170), (1, vi deep)]) (st2 := [vi 1]) 1 (fun _ _ => rfl) ?_
                        refine wr_end (fun _ _ => rfl) ?_
                        refine ⟨1, rfl, hz60, Or.inr ⟨rfl, hR59, hB60, hQ60, by unfold NXS; omega, w45 + 2, k45, hm59, by omega, ?_⟩⟩
                        intro hpar
                        exact (SG_seq (by omega) (by omega) (SG_part (((hU59 (C + 1) _ (by omega)).trans ((BX_code hC (BX_tr hC (BX_tr hC (BX_tr hC hBk37 hBk41) hBk45) hBk50) (by omega)).trans ((hU35 (C + 1) _ (by omega)).trans (BX_code hC (BX_tr hC (BX_tr hC (BX_tr hC (BX_tr hC hBk5 hBk13) hBk18) hBk22) hBk28) (by omega))))).trans hda1) (by omega)) (SH_seq (by omega) (by omega) (SH_count (v := (s6.1 C 10).toNat) (((hU59 (C + 1) _ (by omega)).trans ((BX_code hC (BX_tr hC (BX_tr hC (BX_tr hC hBk37 hBk41) hBk45) hBk50) (by omega)).trans ((hU35 (C + 1) _ (by omega)).trans (BX_code hC (BX_tr hC (BX_tr hC hBk18 hBk22) hBk28) (by omega))))).trans hda13) ((((hU59 (C + 1) _ (by omega)).trans ((BX_code hC (BX_tr hC (BX_tr hC (BX_tr hC hBk37 hBk41) hBk45) hBk50) (by omega)).trans ((hU35 (C + 1) _ (by omega)).trans (BX_code hC (BX_tr hC (BX_tr hC hBk18 hBk22) hBk28) (by omega))))).trans hdb13).trans (Int.toNat_of_nonneg (by omega)).symm) (by omega) (by omega)) (SH_repeat (v := (s23.1 C 10).toNat) (((hU59 (C + 1) _ (by omega)).trans ((BX_code hC (BX_tr hC (BX_tr hC (BX_tr hC hBk37 hBk41) hBk45) hBk50) (by omega)).trans ((hU35 (C + 1) _ (by omega)).trans (BX_code hC hBk28 (by omega))))).trans hda22) ((((hU59 (C + 1) _ (by omega)).trans ((BX_code hC (BX_tr hC (BX_tr hC (BX_tr hC hBk37 hBk41) hBk45) hBk50) (by omega)).trans (hU35 (C + 1) _ (by omega)))).trans hda28).trans (Int.toNat_of_nonneg (by omega)).symm) (by omega) hv59 ((hU59 (C + 1) _ (by omega)).trans hda50) ((hU59 (C + 1) _ (by omega)).trans hdb50) (by omega) (by omega) (SG_mono (by omega) (SZ_S (CS_tr (KC_CS hK50) (CS_eq (hU59 170 26 (by omega)))) (by omega) (by omega)) (SG_agr (fun p hp1 hp => ((hU59 (C + 1) p (by omega)).trans (BX_code hC hBk50 (by omega)))) (hE45 (BX_po hBk50 (by rw [← hU59 170 21 (by omega)]; exact hpar))))))))
      · refine wr_if2f rfl rfl (by unfold i32; omega) (by unfold i32; omega) h10 ?_
        refine wr_n (pc2 := 17) (lv2 := [(0, .ref 170), (1, vi deep)]) (st2 := [.ref 170]) 1 (fun _ _ => rfl) ?_
        refine wr_call1 (args := []) (rest := []) rfl rfl rfl rfl (Nat.le_of_ble_eq_true rfl) (cr_mono (x_bad0 (C := C) (d := n + 398) _ hR5) ?_)
        rintro s62 out ⟨rfl, hc61, hF61⟩
        · refine ⟨_, rfl, ?_⟩
          show wr (n + 400) tb_M154 20 [(0, .ref 170), (1, vi deep)] [vi 0] s62 _
          refine wr_end (fun _ _ => rfl) ?_
          exact ⟨0, rfl, hc61.trans hz8, Or.inl ⟨rfl, FR_tr (BX_FR hB8) hF61⟩⟩
