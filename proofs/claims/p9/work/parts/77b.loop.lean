set_option maxRecDepth 100000 in
theorem p_loop {n : Nat} (hX : CX 340) (hSt : CSt n) : CT1 153 tk1 1 19 (n + 1) := by
  intro C y m k0 s deep hC hR hP hMB hm hN hd htk hk0 hko
  unfold NS at hN
  have hx0 := LX_nums hP
  have hgt := gt_of hP
  have hlt := LX_lt hP htk
  refine cr_of (M := tb_M153) rfl (Nat.le_of_ble_eq_true rfl) ?_
  show wr (n + 400) tb_M153 0 [(0, .ref 170), (1, vi deep)] [] s _
  refine wr_n (pc2 := 1) (lv2 := [(0, .ref 170), (1, vi deep)]) (st2 := [.ref 170]) 1 (fun _ _ => rfl) ?_
  refine wr_call1 (args := []) (rest := []) rfl rfl rfl rfl (Nat.le_of_ble_eq_true rfl) (cr_mono (x_part (d := n + 398) (m := m) hC _ hR hP hm (by omega) (by omega)) ?_)
  rintro s2 out ⟨rfl, hc1, hR1, hBk1, hK1, hm1, hp1, hda1⟩
  · refine ⟨_, rfl, ?_⟩
    show wr (n + 400) tb_M153 4 [(0, .ref 170), (1, vi deep)] [] s2 _
    obtain ⟨hu1, hk1⟩ := id hK1
    have hB4 : BX C (gn y) s.1 s2.1 := BX_tr hC (PI_rf hP) hBk1
    have hP4 : PI C y s2.1 := PI_BX hC hP hB4
    have hQ4 : CS s.1 s2.1 := CS_tr (CS_rf (r := s.1)) (KC_CS hK1)
    have hz4 : s2.2 = s.2 := hc1.trans rfl
    have hF4 : s2.1 170 4 = s.1 170 4 ∧ s2.1 170 5 = s.1 170 5 ∧ s2.1 170 6 = s.1 170 6 ∧ s2.1 170 7 = s.1 170 7 ∧ s2.1 170 14 = s.1 170 14 ∧ s2.1 170 16 = s.1 170 16 ∧ s2.1 170 21 = s.1 170 21 ∧ s2.1 C 3 = s.1 C 3 + 1 ∧ s2.1 C 10 = s.1 C 10 ∧ s.1 170 5 + 0 ≤ s2.1 170 5 ∧ 0 ≤ s2.1 170 5 ∧ s2.1 170 5 ≤ s2.1 170 6 ∧ s2.1 170 6 ≤ 2000 := by omega
    clear hk1 hp1
    refine wr_n (pc2 := 5) (lv2 := [(0, .ref 170), (1, vi deep)]) (st2 := [.ref 170]) 1 (fun _ _ => rfl) ?_
    refine wr_call1 (args := []) (rest := []) rfl rfl rfl rfl (Nat.le_of_ble_eq_true rfl) (cr_mono (x_step (d := n + 394) hC _ hR1 hP4) ?_)
    rintro s6 out ⟨rfl, hc5, hR5, hBk5, hK5, hf5⟩
    · refine ⟨_, rfl, ?_⟩
      show wr (n + 400) tb_M153 8 [(0, .ref 170), (1, vi deep)] [] s6 _
      obtain ⟨hu5, hk5⟩ := id hK5
      replace hf5 : s2.1 170 5 + 1 ≤ s6.1 170 5 := Int.le_trans (LX_lt hP4 (by omega)) hf5
      have hm5 : s6.1 C 1 = ((m + 1 : Nat) : Int) := by omega
      have hB8 : BX C (gn y) s.1 s6.1 := BX_tr hC hB4 hBk5
      have hP8 : PI C y s6.1 := PI_BX hC hP hB8
      have hQ8 : CS s.1 s6.1 := CS_tr hQ4 (KL_CS hK5)
      have hz8 : s6.2 = s.2 := hc5.trans hz4
      have hx8 := LX_nums hP8
      have hF8 : s.1 170 5 + 1 ≤ s6.1 170 5 ∧ s6.1 170 14 = s.1 170 14 ∧ s6.1 170 16 = s.1 170 16 ∧ s6.1 170 21 = s.1 170 21 ∧ s6.1 C 3 = s.1 C 3 + 1 ∧ s6.1 C 10 = s.1 C 10 ∧ 0 ≤ s6.1 170 5 ∧ s6.1 170 5 ≤ s6.1 170 6 ∧ s6.1 170 6 ≤ 2000 := by omega
      clear hk5 hf5 hx8 hF4
      refine wr_n (pc2 := 9) (lv2 := [(0, .ref 170), (1, vi deep)]) (st2 := [.ref 170]) 1 (fun _ _ => rfl) ?_
      refine wr_get (v := .ref C) rfl rfl rfl (by decide) (rv_ref (show s6.1 170 19 = ((C : Nat) : Int) from hP8.1)) fun h9 => ?_
      show wr (n + 400) tb_M153 12 [(0, .ref 170), (1, vi deep)] [.ref C] s6 _
      refine wr_get (v := vi (s6.1 C 1)) rfl rfl (TG_C hC) (by decide) rfl fun h10 => ?_
      have h10 : -2147483648 ≤ s6.1 C 1 ∧ s6.1 C 1 ≤ 2147483647 := h10
      show wr (n + 400) tb_M153 15 [(0, .ref 170), (1, vi deep)] [vi (s6.1 C 1)] s6 _
      rw [hm5]
      show wr (n + 400) tb_M153 15 [(0, .ref 170), (1, vi deep)] [vi (((m + 1 : Nat) : Int))] s6 _
      refine wr_n (pc2 := 20) (lv2 := [(2, vi (((m + 1 : Nat) : Int))), (0, .ref 170), (1, vi deep)]) (st2 := [.ref 22, .ref 170]) 3 (fun _ _ => rfl) ?_
      refine wr_call1 (args := [.ref 22]) (rest := []) rfl rfl rfl rfl (Nat.le_of_ble_eq_true rfl) (cr_mono (x_take (d := n + 393) isT_22 hC _ hR5 hP8) ?_)
      rintro s12 out ⟨b, rfl, hc11, ⟨rfl, hF11⟩ | ⟨rfl, hR11, hBk11, hK11, hf11⟩⟩
      · refine ⟨_, rfl, ?_⟩
        show wr (n + 400) tb_M153 23 [(2, vi (((m + 1 : Nat) : Int))), (0, .ref 170), (1, vi deep)] [vi 0] s12 _
        refine wr_n (pc2 := 48) (lv2 := [(2, vi (((m + 1 : Nat) : Int))), (0, .ref 170), (1, vi deep)]) (st2 := [vi 0]) 2 (fun _ _ => rfl) ?_
        refine wr_end (fun _ _ => rfl) ?_
        exact ⟨0, rfl, hc11.trans hz8, Or.inl ⟨rfl, FR_tr (BX_FR hB8) hF11⟩⟩
      · refine ⟨_, rfl, ?_⟩
        show wr (n + 400) tb_M153 23 [(2, vi (((m + 1 : Nat) : Int))), (0, .ref 170), (1, vi deep)] [vi 1] s12 _
        obtain ⟨hu11, hk11⟩ := id hK11
        replace hf11 : s6.1 170 5 + 1 ≤ s12.1 170 5 := hf11
        have hm11 : s12.1 C 1 = ((m + 1 : Nat) : Int) := by omega
        have hB15 : BX C (gn y) s.1 s12.1 := BX_tr hC hB8 hBk11
        have hP15 : PI C y s12.1 := PI_BX hC hP hB15
        have hQ15 : CS s.1 s12.1 := CS_tr hQ8 (KL_CS hK11)
        have hz15 : s12.2 = s.2 := hc11.trans hz8
        have hx15 := LX_nums hP15
        have hF15 : s.1 170 5 + 2 ≤ s12.1 170 5 ∧ s12.1 170 14 = s.1 170 14 ∧ s12.1 170 16 = s.1 170 16 ∧ s12.1 170 21 = s.1 170 21 ∧ s12.1 C 3 = s.1 C 3 + 1 ∧ s12.1 C 10 = s.1 C 10 ∧ 0 ≤ s12.1 170 5 ∧ s12.1 170 5 ≤ s12.1 170 6 ∧ s12.1 170 6 ≤ 2000 := by omega
        clear hk11 hf11 hx15 hF8
        refine wr_n (pc2 := 30) (lv2 := [(2, vi (((m + 1 : Nat) : Int))), (0, .ref 170), (1, vi deep)]) (st2 := [vi 1, vi deep, vi 0, .ref 170]) 5 (fun _ _ => rfl) ?_
        refine wr_add (a := deep) (b := 1) rfl ?_
        show wr (n + 400) tb_M153 31 [(2, vi (((m + 1 : Nat) : Int))), (0, .ref 170), (1, vi deep)] [vi (deep + 1), vi 0, .ref 170] s12 _
        refine wr_call1 (args := [vi 0, vi (deep + 1)]) (rest := []) rfl rfl rfl rfl (Nat.le_of_ble_eq_true rfl) (cr_mono ((cr_up (d := 360) (by omega) (hX C y (m + 1) _ 0 (deep + 1) hC hR11 hP15 (BX_mb hB15 hMB) hm11 (by unfold NE; omega) (by omega)))) ?_)
        rintro s17 out ⟨b, rfl, hc16, ⟨rfl, hF16⟩ | ⟨rfl, hR16, hBk16, hS16, hN16, hV16, w16, hm16, hE16⟩⟩
        · refine ⟨_, rfl, ?_⟩
          show wr (n + 400) tb_M153 34 [(2, vi (((m + 1 : Nat) : Int))), (0, .ref 170), (1, vi deep)] [vi 0] s17 _
          refine wr_n (pc2 := 48) (lv2 := [(2, vi (((m + 1 : Nat) : Int))), (0, .ref 170), (1, vi deep)]) (st2 := [vi 0]) 2 (fun _ _ => rfl) ?_
          refine wr_end (fun _ _ => rfl) ?_
          exact ⟨0, rfl, hc16.trans hz15, Or.inl ⟨rfl, FR_tr (BX_FR hB15) hF16⟩⟩
        · refine ⟨_, rfl, ?_⟩
          show wr (n + 400) tb_M153 34 [(2, vi (((m + 1 : Nat) : Int))), (0, .ref 170), (1, vi deep)] [vi 1] s17 _
          unfold NXE at hN16
          have hB20 : BX C (gn y) s.1 s17.1 := BX_tr hC hB15 hBk16
          have hP20 : PI C y s17.1 := PI_BX hC hP hB20
          have hQ20 : CS s.1 s17.1 := CS_tr hQ15 hS16
          have hz20 : s17.2 = s.2 := hc16.trans hz15
          have hF20 := LX_nums hP20
          refine wr_n (pc2 := 41) (lv2 := [(2, vi (((m + 1 : Nat) : Int))), (0, .ref 170), (1, vi deep)]) (st2 := [.ref 24, .ref 170]) 3 (fun _ _ => rfl) ?_
          refine wr_call1 (args := [.ref 24]) (rest := []) rfl rfl rfl rfl (Nat.le_of_ble_eq_true rfl) (cr_mono (x_take (d := n + 393) isT_24 hC _ hR16 hP20) ?_)
          rintro s22 out ⟨b, rfl, hc21, ⟨rfl, hF21⟩ | ⟨rfl, hR21, hBk21, hK21, hf21⟩⟩
          · refine ⟨_, rfl, ?_⟩
            show wr (n + 400) tb_M153 44 [(2, vi (((m + 1 : Nat) : Int))), (0, .ref 170), (1, vi deep)] [vi 0] s22 _
            refine wr_n (pc2 := 48) (lv2 := [(2, vi (((m + 1 : Nat) : Int))), (0, .ref 170), (1, vi deep)]) (st2 := [vi 0]) 2 (fun _ _ => rfl) ?_
            refine wr_end (fun _ _ => rfl) ?_
            exact ⟨0, rfl, hc21.trans hz20, Or.inl ⟨rfl, FR_tr (BX_FR hB20) hF21⟩⟩
          · refine ⟨_, rfl, ?_⟩
            show wr (n + 400) tb_M153 44 [(2, vi (((m + 1 : Nat) : Int))), (0, .ref 170), (1, vi deep)] [vi 1] s22 _
            obtain ⟨hu21, hk21⟩ := id hK21
            replace hf21 : s17.1 170 5 + 1 ≤ s22.1 170 5 := hf21
            have hm21 : s22.1 C 1 = ((w16 : Nat) : Int) := by omega
            have hB25 : BX C (gn y) s.1 s22.1 := BX_tr hC hB20 hBk21
            have hP25 : PI C y s22.1 := PI_BX hC hP hB25
            have hQ25 : CS s.1 s22.1 := CS_tr hQ20 (KL_CS hK21)
            have hz25 : s22.2 = s.2 := hc21.trans hz20
            have hx25 := LX_nums hP25
            have hF25 : s17.1 170 5 + 1 ≤ s22.1 170 5 ∧ s22.1 170 14 = s17.1 170 14 ∧ s22.1 170 16 = s17.1 170 16 ∧ s22.1 170 21 = s17.1 170 21 ∧ s22.1 C 3 = s17.1 C 3 ∧ s22.1 C 10 = s17.1 C 10 ∧ 0 ≤ s22.1 170 5 ∧ s22.1 170 5 ≤ s22.1 170 6 ∧ s22.1 170 6 ≤ 2000 := by omega
            clear hk21 hf21 hx25
            refine wr_n (pc2 := 52) (lv2 := [(2, vi (((m + 1 : Nat) : Int))), (0, .ref 170), (1, vi deep)]) (st2 := [vi 10, .ref 170]) 3 (fun _ _ => rfl) ?_
            refine wr_call1 (args := [vi 10]) (rest := []) rfl rfl rfl rfl (Nat.le_of_ble_eq_true rfl) (cr_mono (x_put (d := n + 399) (m := w16) (v := 10) hC _ hR21 hP25 (by unfold i32; omega) hm21 (by omega)) ?_)
            rintro s27 out ⟨rfl, hc26, hR26, hBk26, hK26, hm26, hp26, hda26⟩
            · refine ⟨_, rfl, ?_⟩
              show wr (n + 400) tb_M153 55 [(2, vi (((m + 1 : Nat) : Int))), (0, .ref 170), (1, vi deep)] [vi (((w16 : Nat) : Int))] s27 _
              obtain ⟨hu26, hk26⟩ := id hK26
              have hB29 : BX C (gn y) s.1 s27.1 := BX_tr hC hB25 hBk26
              have hP29 : PI C y s27.1 := PI_BX hC hP hB29
              have hQ29 : CS s.1 s27.1 := CS_tr hQ25 (KC_CS hK26)
              have hz29 : s27.2 = s.2 := hc26.trans hz25
              have hF29 : s27.1 170 4 = s22.1 170 4 ∧ s27.1 170 5 = s22.1 170 5 ∧ s27.1 170 6 = s22.1 170 6 ∧ s27.1 170 7 = s22.1 170 7 ∧ s27.1 170 14 = s17.1 170 14 ∧ s27.1 170 16 = s17.1 170 16 ∧ s27.1 170 21 = s17.1 170 21 ∧ s27.1 C 3 = s17.1 C 3 ∧ s27.1 C 10 = s17.1 C 10 ∧ s17.1 170 5 + 1 ≤ s27.1 170 5 ∧ 0 ≤ s27.1 170 5 ∧ s27.1 170 5 ≤ s27.1 170 6 ∧ s27.1 170 6 ≤ 2000 := by omega
              clear hk26 hp26 hF25
              refine wr_n (pc2 := 58) (lv2 := [(2, vi (((m + 1 : Nat) : Int))), (0, .ref 170), (1, vi deep)]) (st2 := [vi 0, .ref 170]) 3 (fun _ _ => rfl) ?_
              refine wr_call1 (args := [vi 0]) (rest := []) rfl rfl rfl rfl (Nat.le_of_ble_eq_true rfl) (cr_mono (x_put (d := n + 399) (m := w16 + 1) (v := 0) hC _ hR26 hP29 (by unfold i32; omega) hm26 (by omega)) ?_)
              rintro s31 out ⟨rfl, hc30, hR30, hBk30, hK30, hm30, hp30, hda30⟩
              · refine ⟨_, rfl, ?_⟩
                show wr (n + 400) tb_M153 61 [(2, vi (((m + 1 : Nat) : Int))), (0, .ref 170), (1, vi deep)] [vi (((w16 + 1 : Nat) : Int))] s31 _
                obtain ⟨hu30, hk30⟩ := id hK30
                have hB33 : BX C (gn y) s.1 s31.1 := BX_tr hC hB29 hBk30
                have hP33 : PI C y s31.1 := PI_BX hC hP hB33
                have hQ33 : CS s.1 s31.1 := CS_tr hQ29 (KC_CS hK30)
                have hz33 : s31.2 = s.2 := hc30.trans hz29
                have hF33 : s31.1 170 4 = s22.1 170 4 ∧ s31.1 170 5 = s22.1 170 5 ∧ s31.1 170 6 = s22.1 170 6 ∧ s31.1 170 7 = s22.1 170 7 ∧ s31.1 170 14 = s17.1 170 14 ∧ s31.1 170 16 = s17.1 170 16 ∧ s31.1 170 21 = s17.1 170 21 ∧ s31.1 C 3 = s17.1 C 3 ∧ s31.1 C 10 = s17.1 C 10 ∧ s17.1 170 5 + 1 ≤ s31.1 170 5 ∧ 0 ≤ s31.1 170 5 ∧ s31.1 170 5 ≤ s31.1 170 6 ∧ s31.1 170 6 ≤ 2000 := by omega
                clear hk30 hp30 hF29
                refine wr_n (pc2 := 65) (lv2 := [(3, vi (((w16 + 1 : Nat) : Int))), (2, vi (((m + 1 : Nat) : Int))), (0, .ref 170), (1, vi deep)]) (st2 := [vi 1, vi deep, .ref 170]) 4 (fun _ _ => rfl) ?_
                refine wr_add (a := deep) (b := 1) rfl ?_
                show wr (n + 400) tb_M153 66 [(3, vi (((w16 + 1 : Nat) : Int))), (2, vi (((m + 1 : Nat) : Int))), (0, .ref 170), (1, vi deep)] [vi (deep + 1), .ref 170] s31 _
                refine wr_call1 (args := [vi (deep + 1)]) (rest := []) rfl rfl rfl rfl (Nat.le_of_ble_eq_true rfl) (cr_mono (hSt C y (w16 + 1 + 1) k0 _ (deep + 1) hC hR30 hP33 (BX_mb hB33 hMB) hm30 (by unfold NS; omega) (by omega) trivial (by omega) hko) ?_)
                rintro s35 out ⟨b, rfl, hc34, ⟨rfl, hF34⟩ | ⟨rfl, hR34, hBk34, hS34, hN34, w34, k34, hm34, hkk34, hE34⟩⟩
                · refine ⟨_, rfl, ?_⟩
                  show wr (n + 400) tb_M153 69 [(3, vi (((w16 + 1 : Nat) : Int))), (2, vi (((m + 1 : Nat) : Int))), (0, .ref 170), (1, vi deep)] [vi 0] s35 _
                  refine wr_n (pc2 := 73) (lv2 := [(3, vi (((w16 + 1 : Nat) : Int))), (2, vi (((m + 1 : Nat) : Int))), (0, .ref 170), (1, vi deep)]) (st2 := [vi 0]) 2 (fun _ _ => rfl) ?_
                  refine wr_end (fun _ _ => rfl) ?_
                  exact ⟨0, rfl, hc34.trans hz33, Or.inl ⟨rfl, FR_tr (BX_FR hB33) hF34⟩⟩
                · refine ⟨_, rfl, ?_⟩
                  show wr (n + 400) tb_M153 69 [(3, vi (((w16 + 1 : Nat) : Int))), (2, vi (((m + 1 : Nat) : Int))), (0, .ref 170), (1, vi deep)] [vi 1] s35 _
                  unfold NXS at hN34
                  have hB38 : BX C (gn y) s.1 s35.1 := BX_tr hC hB33 hBk34
                  have hP38 : PI C y s35.1 := PI_BX hC hP hB38
                  have hQ38 : CS s.1 s35.1 := CS_tr hQ33 hS34
                  have hz38 : s35.2 = s.2 := hc34.trans hz33
                  have hF38 := LX_nums hP38
                  refine wr_n (pc2 := 78) (lv2 := [(3, vi (((w16 + 1 : Nat) : Int))), (2, vi (((m + 1 : Nat) : Int))), (0, .ref 170), (1, vi deep)]) (st2 := [vi (((m + 1 : Nat) : Int)), vi 9, .ref 170]) 4 (fun _ _ => rfl) ?_
                  refine wr_call1 (args := [vi 9, vi (((m + 1 : Nat) : Int))]) (rest := []) rfl rfl rfl rfl (Nat.le_of_ble_eq_true rfl) (cr_mono (x_put2 (d := n + 398) (m := w34) (op := 9) (v := ((m + 1 : Nat) : Int)) hC _ hR34 hP38 (by unfold i32; omega) (by unfold i32; omega) hm34 (by omega)) ?_)
                  rintro s40 out ⟨rfl, hc39, hR39, hBk39, hK39, hm39, hp39, hda39, hdb39⟩
                  · refine ⟨_, rfl, ?_⟩
                    show wr (n + 400) tb_M153 81 [(3, vi (((w16 + 1 : Nat) : Int))), (2, vi (((m + 1 : Nat) : Int))), (0, .ref 170), (1, vi deep)] [] s40 _
                    obtain ⟨hu39, hk39⟩ := id hK39
                    have hB42 : BX C (gn y) s.1 s40.1 := BX_tr hC hB38 hBk39
                    have hP42 : PI C y s40.1 := PI_BX hC hP hB42
                    have hQ42 : CS s.1 s40.1 := CS_tr hQ38 (KC_CS hK39)
                    have hz42 : s40.2 = s.2 := hc39.trans hz38
                    have hF42 : s40.1 170 4 = s35.1 170 4 ∧ s40.1 170 5 = s35.1 170 5 ∧ s40.1 170 6 = s35.1 170 6 ∧ s40.1 170 7 = s35.1 170 7 ∧ s40.1 170 14 = s35.1 170 14 ∧ s40.1 170 16 = s35.1 170 16 ∧ s40.1 170 21 = s35.1 170 21 ∧ s40.1 C 3 = s35.1 C 3 ∧ s40.1 C 10 = s35.1 C 10 ∧ s35.1 170 5 + 0 ≤ s40.1 170 5 ∧ 0 ≤ s40.1 170 5 ∧ s40.1 170 5 ≤ s40.1 170 6 ∧ s40.1 170 6 ≤ 2000 := by omega
                    clear hk39 hp39
                    refine wr_n (pc2 := 82) (lv2 := [(3, vi (((w16 + 1 : Nat) : Int))), (2, vi (((m + 1 : Nat) : Int))), (0, .ref 170), (1, vi deep)]) (st2 := [.ref 170]) 1 (fun _ _ => rfl) ?_
                    refine wr_get (v := .ref C) rfl rfl rfl (by decide) (rv_ref (show s40.1 170 19 = ((C : Nat) : Int) from hP42.1)) fun h43 => ?_
                    show wr (n + 400) tb_M153 85 [(3, vi (((w16 + 1 : Nat) : Int))), (2, vi (((m + 1 : Nat) : Int))), (0, .ref 170), (1, vi deep)] [.ref C] s40 _
                    refine wr_get (v := .ref (C + 1)) rfl rfl (TG_C hC) (by decide) (rv_ref (hR39 C 0 (C + 1) (rc_C0 hC))) fun h44 => ?_
                    show wr (n + 400) tb_M153 88 [(3, vi (((w16 + 1 : Nat) : Int))), (2, vi (((m + 1 : Nat) : Int))), (0, .ref 170), (1, vi deep)] [.ref (C + 1)] s40 _
                    refine wr_n (pc2 := 90) (lv2 := [(3, vi (((w16 + 1 : Nat) : Int))), (2, vi (((m + 1 : Nat) : Int))), (0, .ref 170), (1, vi deep)]) (st2 := [.ref 170, vi (((w16 + 1 : Nat) : Int)), .ref (C + 1)]) 2 (fun _ _ => rfl) ?_
                    refine wr_get (v := .ref C) rfl rfl rfl (by decide) (rv_ref (show s40.1 170 19 = ((C : Nat) : Int) from hP42.1)) fun h45 => ?_
                    show wr (n + 400) tb_M153 93 [(3, vi (((w16 + 1 : Nat) : Int))), (2, vi (((m + 1 : Nat) : Int))), (0, .ref 170), (1, vi deep)] [.ref C, vi (((w16 + 1 : Nat) : Int)), .ref (C + 1)] s40 _
                    refine wr_get (v := vi (s40.1 C 1)) rfl rfl (TG_C hC) (by decide) rfl fun h46 => ?_
                    have h46 : -2147483648 ≤ s40.1 C 1 ∧ s40.1 C 1 ≤ 2147483647 := h46
                    show wr (n + 400) tb_M153 96 [(3, vi (((w16 + 1 : Nat) : Int))), (2, vi (((m + 1 : Nat) : Int))), (0, .ref 170), (1, vi deep)] [vi (s40.1 C 1), vi (((w16 + 1 : Nat) : Int)), .ref (C + 1)] s40 _
                    rw [hm39]
                    show wr (n + 400) tb_M153 96 [(3, vi (((w16 + 1 : Nat) : Int))), (2, vi (((m + 1 : Nat) : Int))), (0, .ref 170), (1, vi deep)] [vi (((w34 + 2 : Nat) : Int)), vi (((w16 + 1 : Nat) : Int)), .ref (C + 1)] s40 _
                    refine wr_ast (a := ((w16 + 1 : Nat) : Int)) (z := ((w34 + 2 : Nat) : Int)) rfl (show 96 ≤ C + 1 by omega) (TG_C1 hC) rfl (by omega) (by omega) (by decide) rfl (show -2147483648 ≤ ((w34 + 2 : Nat) : Int) ∧ ((w34 + 2 : Nat) : Int) ≤ 2147483647 by omega) ?_
                    show wr (n + 400) tb_M153 97 [(3, vi (((w16 + 1 : Nat) : Int))), (2, vi (((m + 1 : Nat) : Int))), (0, .ref 170), (1, vi deep)] [] (up2 s40.1 (C + 1) (w16 + 1) (((w34 + 2 : Nat) : Int)), s40.2) _
                    have hR47 : RF (up2 s40.1 (C + 1) (w16 + 1) (((w34 + 2 : Nat) : Int))) := (RF_up hR39 (PS_rc hC (by unfold PS; omega)))
                    obtain ⟨s48, hs48⟩ : ∃ qq9 : rS, qq9 = (up2 s40.1 (C + 1) (w16 + 1) (((w34 + 2 : Nat) : Int)), s40.2) := ⟨_, rfl⟩
                    rw [← hs48]
                    have hU48 : U1 (C + 1) (w16 + 1) s40.1 s48.1 := by rw [hs48]; exact U1_up
                    have hv48 : s48.1 (C + 1) (w16 + 1) = ((w34 + 2 : Nat) : Int) := by rw [hs48]; show up2 s40.1 (C + 1) (w16 + 1) (((w34 + 2 : Nat) : Int)) (C + 1) (w16 + 1) = _; exact up_self
                    have hk48 : s48.1 170 4 = s40.1 170 4 ∧ s48.1 170 5 = s40.1 170 5 ∧ s48.1 170 6 = s40.1 170 6 ∧ s48.1 170 7 = s40.1 170 7 ∧ s48.1 170 14 = s40.1 170 14 ∧ s48.1 170 16 = s40.1 170 16 ∧ s48.1 170 21 = s40.1 170 21 ∧ s48.1 C 1 = s40.1 C 1 ∧ s48.1 C 3 = s40.1 C 3 ∧ s48.1 C 10 = s40.1 C 10 := ⟨hU48 _ _ (by omega), hU48 _ _ (by omega), hU48 _ _ (by omega), hU48 _ _ (by omega), hU48 _ _ (by omega), hU48 _ _ (by omega), hU48 _ _ (by omega), hU48 _ _ (by omega), hU48 _ _ (by omega), hU48 _ _ (by omega)⟩
                    have hBs48 : BX C (gn y) s.1 s48.1 := by rw [hs48]; exact BX_set hC hB42 (by unfold SS; omega) (by unfold quiet; omega)
                    have hR48 : RF s48.1 := BX_RF hC hBs48 hR
                    have hc48 : s48.2 = s40.2 := by rw [hs48]
                    have hm48 : s48.1 C 1 = ((w34 + 2 : Nat) : Int) := by omega
                    have hB49 : BX C (gn y) s.1 s48.1 := hBs48
                    have hP49 : PI C y s48.1 := PI_BX hC hP hB49
                    have hQ49 : CS s.1 s48.1 := CS_tr hQ42 (CS_eq (hU48 170 26 (by omega)))
                    have hz49 : s48.2 = s.2 := hc48.trans hz42
                    have hF49 : s48.1 170 4 = s35.1 170 4 ∧ s48.1 170 5 = s35.1 170 5 ∧ s48.1 170 6 = s35.1 170 6 ∧ s48.1 170 7 = s35.1 170 7 ∧ s48.1 170 14 = s35.1 170 14 ∧ s48.1 170 16 = s35.1 170 16 ∧ s48.1 170 21 = s35.1 170 21 ∧ s48.1 C 3 = s35.1 C 3 ∧ s48.1 C 10 = s35.1 C 10 ∧ s35.1 170 5 + 0 ≤ s48.1 170 5 ∧ 0 ≤ s48.1 170 5 ∧ s48.1 170 5 ≤ s48.1 170 6 ∧ s48.1 170 6 ≤ 2000 := by omega
                    clear hk48 hF42
                    show wr (n + 400) tb_M153 97 [(3, vi (((w16 + 1 : Nat) : Int))), (2, vi (((m + 1 : Nat) : Int))), (0, .ref 170), (1, vi deep)] [] s48 _
                    refine wr_n (pc2 := 98) (lv2 := [(3, vi (((w16 + 1 : Nat) : Int))), (2, vi (((m + 1 : Nat) : Int))), (0, .ref 170), (1, vi deep)]) (st2 := [vi 1]) 1 (fun _ _ => rfl) ?_
                    refine wr_end (fun _ _ => rfl) ?_
                    refine ⟨1, rfl, hz49, Or.inr ⟨rfl, hR48, hB49, hQ49, by unfold NXS; omega, w34 + 2, k34, hm48, by omega, ?_⟩⟩
                    intro hpar
                    exact (SG_seq (by omega) (by omega) (SG_part (((hU48 (C + 1) _ (by omega)).trans (BX_code hC (BX_tr hC (BX_tr hC (BX_tr hC (BX_tr hC (BX_tr hC (BX_tr hC (BX_tr hC hBk5 hBk11) hBk16) hBk21) hBk26) hBk30) hBk34) hBk39) (by omega))).trans hda1) (by omega)) (SG_SH (SG_loop (((hU48 (C + 1) _ (by omega)).trans (BX_code hC (BX_tr hC (BX_tr hC hBk30 hBk34) hBk39) (by omega))).trans hda26) hv48 ((hU48 (C + 1) _ (by omega)).trans hda39) ((hU48 (C + 1) _ (by omega)).trans hdb39) (by omega) (by omega) (by omega) (SG_mono (by omega) (SZ_E (CS_tr (CS_tr (CS_tr (CS_tr (CS_tr (KL_CS hK21) (KC_CS hK26)) (KC_CS hK30)) hS34) (KC_CS hK39)) (CS_eq (hU48 170 26 (by omega))))) (SG_agr (fun p hp1 hp => ((hU48 (C + 1) p (by omega)).trans (BX_code hC (BX_tr hC (BX_tr hC (BX_tr hC (BX_tr hC hBk21 hBk26) hBk30) hBk34) hBk39) (by omega)))) (hE16 0 (by omega)))) (SG_SH (SG_mono (by omega) (SZ_S (CS_tr (KC_CS hK39) (CS_eq (hU48 170 26 (by omega)))) (by omega) (by omega)) (SG_agr (fun p hp1 hp => ((hU48 (C + 1) p (by omega)).trans (BX_code hC hBk39 (by omega)))) (hE34 (BX_po hBk39 (by rw [← hU48 170 21 (by omega)]; exact hpar)))))))))
