set_option maxRecDepth 100000 in
theorem p_statement {n : Nat} (hBl : CBl n) (hBr : CT1 143 tk1 1 19 n) (hLo : CT1 153 tk1 1 19 n) (hRe : CT1 154 tk1 1 19 n) (hPa : CT1 155 tk3 1 19 n) (hBn : CT1 156 tkN 1 19 n) : CSt (n + 1) := by
  intro C y m k0 s deep hC hR hP hMB hm hN hd htk hk0 hko
  unfold NS at hN
  have hx0 := LX_nums hP
  have hgt := gt_of hP
  refine cr_of (M := tb_M141) rfl (Nat.le_of_ble_eq_true rfl) ?_
  show wr (n + 400) tb_M141 0 [(0, .ref 170), (1, vi deep)] [] s _
  refine wr_n (pc2 := 3) (lv2 := [(0, .ref 170), (1, vi deep)]) (st2 := [vi 20, vi deep]) 2 (fun _ _ => rfl) ?_
  by_cases h1 : deep ≠ 20
  · refine wr_if2t rfl rfl (by unfold i32; omega) (by unfold i32; omega) h1 ?_
    refine wr_n (pc2 := 15) (lv2 := [(0, .ref 170), (1, vi deep)]) (st2 := [.ref 28, .ref 170]) 2 (fun _ _ => rfl) ?_
    refine wr_call1 (args := [.ref 28]) (rest := []) rfl rfl rfl rfl (Nat.le_of_ble_eq_true rfl) (cr_mono (c_is (d := n + 395) isT_28 _ hR (LX_of hP)) ?_)
    rintro s3 out ⟨b, rfl, rfl | ⟨rfl, hj2, hl2⟩, he2⟩
    · refine ⟨_, rfl, ?_⟩
      rw [he2]
      show wr (n + 400) tb_M141 18 [(0, .ref 170), (1, vi deep)] [vi 0] s _
      refine wr_n (pc2 := 53) (lv2 := [(0, .ref 170), (1, vi deep)]) (st2 := [.ref 34, .ref 170]) 3 (fun _ _ => rfl) ?_
      refine wr_call1 (args := [.ref 34]) (rest := []) rfl rfl rfl rfl (Nat.le_of_ble_eq_true rfl) (cr_mono (c_is (d := n + 395) isT_34 _ hR (LX_of hP)) ?_)
      rintro s5 out ⟨b, rfl, rfl | ⟨rfl, hj4, hl4⟩, he4⟩
      · refine ⟨_, rfl, ?_⟩
        rw [he4]
        show wr (n + 400) tb_M141 56 [(0, .ref 170), (1, vi deep)] [vi 0] s _
        refine wr_n (pc2 := 78) (lv2 := [(0, .ref 170), (1, vi deep)]) (st2 := [.ref 36, .ref 170]) 3 (fun _ _ => rfl) ?_
        refine wr_call1 (args := [.ref 36]) (rest := []) rfl rfl rfl rfl (Nat.le_of_ble_eq_true rfl) (cr_mono (c_is (d := n + 395) isT_36 _ hR (LX_of hP)) ?_)
        rintro s7 out ⟨b, rfl, rfl | ⟨rfl, hj6, hl6⟩, he6⟩
        · refine ⟨_, rfl, ?_⟩
          rw [he6]
          show wr (n + 400) tb_M141 81 [(0, .ref 170), (1, vi deep)] [vi 0] s _
          refine wr_n (pc2 := 94) (lv2 := [(0, .ref 170), (1, vi deep)]) (st2 := [.ref 82, .ref 170]) 3 (fun _ _ => rfl) ?_
          refine wr_call1 (args := [.ref 82]) (rest := []) rfl rfl rfl rfl (Nat.le_of_ble_eq_true rfl) (cr_mono (c_is (d := n + 395) isT_82 _ hR (LX_of hP)) ?_)
          rintro s9 out ⟨b, rfl, rfl | ⟨rfl, hj8, hl8⟩, he8⟩
          · refine ⟨_, rfl, ?_⟩
            rw [he8]
            show wr (n + 400) tb_M141 97 [(0, .ref 170), (1, vi deep)] [vi 0] s _
            refine wr_n (pc2 := 110) (lv2 := [(0, .ref 170), (1, vi deep)]) (st2 := [.ref 84, .ref 170]) 3 (fun _ _ => rfl) ?_
            refine wr_call1 (args := [.ref 84]) (rest := []) rfl rfl rfl rfl (Nat.le_of_ble_eq_true rfl) (cr_mono (c_is (d := n + 395) isT_84 _ hR (LX_of hP)) ?_)
            rintro s11 out ⟨b, rfl, rfl | ⟨rfl, hj10, hl10⟩, he10⟩
            · refine ⟨_, rfl, ?_⟩
              rw [he10]
              show wr (n + 400) tb_M141 113 [(0, .ref 170), (1, vi deep)] [vi 0] s _
              refine wr_n (pc2 := 126) (lv2 := [(0, .ref 170), (1, vi deep)]) (st2 := [.ref 86, .ref 170]) 3 (fun _ _ => rfl) ?_
              refine wr_call1 (args := [.ref 86]) (rest := []) rfl rfl rfl rfl (Nat.le_of_ble_eq_true rfl) (cr_mono (c_is (d := n + 395) isT_86 _ hR (LX_of hP)) ?_)
              rintro s13 out ⟨b, rfl, rfl | ⟨rfl, hj12, hl12⟩, he12⟩
              · refine ⟨_, rfl, ?_⟩
                rw [he12]
                show wr (n + 400) tb_M141 129 [(0, .ref 170), (1, vi deep)] [vi 0] s _
                refine wr_n (pc2 := 139) (lv2 := [(0, .ref 170), (1, vi deep)]) (st2 := [.ref 170]) 2 (fun _ _ => rfl) ?_
                refine wr_get (v := vi (s.1 170 4)) rfl rfl rfl (by decide) rfl fun h14 => ?_
                have h14 : -2147483648 ≤ s.1 170 4 ∧ s.1 170 4 ≤ 2147483647 := h14
                show wr (n + 400) tb_M141 142 [(0, .ref 170), (1, vi deep)] [vi (s.1 170 4)] s _
                refine wr_n (pc2 := 143) (lv2 := [(0, .ref 170), (1, vi deep)]) (st2 := [vi 1, vi (s.1 170 4)]) 1 (fun _ _ => rfl) ?_
                by_cases h15 : s.1 170 4 ≠ 1
                · refine wr_if2t rfl rfl (by unfold i32; omega) (by unfold i32; omega) h15 ?_
                  refine wr_n (pc2 := 155) (lv2 := [(0, .ref 170), (1, vi deep)]) (st2 := [.ref 170]) 1 (fun _ _ => rfl) ?_
                  refine wr_call1 (args := []) (rest := []) rfl rfl rfl rfl (Nat.le_of_ble_eq_true rfl) (cr_mono (x_bad0 (C := C) (d := n + 398) _ hR) ?_)
                  rintro s17 out ⟨rfl, hc16, hF16⟩
                  · refine ⟨_, rfl, ?_⟩
                    show wr (n + 400) tb_M141 158 [(0, .ref 170), (1, vi deep)] [vi 0] s17 _
                    refine wr_end (fun _ _ => rfl) ?_
                    exact ⟨0, rfl, hc16.trans rfl, Or.inl ⟨rfl, FR_tr (BX_FR (PI_rf hP)) hF16⟩⟩
                · refine wr_if2f rfl rfl (by unfold i32; omega) (by unfold i32; omega) h15 ?_
                  refine wr_n (pc2 := 148) (lv2 := [(0, .ref 170), (1, vi deep)]) (st2 := [vi deep, .ref 170]) 2 (fun _ _ => rfl) ?_
                  refine wr_call1 (args := [vi deep]) (rest := []) rfl rfl rfl rfl (Nat.le_of_ble_eq_true rfl) (cr_mono (hBn C y m k0 _ deep hC hR hP (BX_mb (PI_rf hP) hMB) hm (by unfold NS; omega) (by omega) (show s.1 170 4 = 1 by omega) (by omega) hko) ?_)
                  rintro s20 out ⟨b, rfl, hc19, ⟨rfl, hF19⟩ | ⟨rfl, hR19, hBk19, hS19, hN19, w19, k19, hm19, hkk19, hE19⟩⟩
                  · refine ⟨_, rfl, ?_⟩
                    show wr (n + 400) tb_M141 151 [(0, .ref 170), (1, vi deep)] [vi 0] s20 _
                    refine wr_n (pc2 := 158) (lv2 := [(0, .ref 170), (1, vi deep)]) (st2 := [vi 0]) 1 (fun _ _ => rfl) ?_
                    refine wr_end (fun _ _ => rfl) ?_
                    exact ⟨0, rfl, hc19.trans rfl, Or.inl ⟨rfl, FR_tr (BX_FR (PI_rf hP)) hF19⟩⟩
                  · refine ⟨_, rfl, ?_⟩
                    show wr (n + 400) tb_M141 151 [(0, .ref 170), (1, vi deep)] [vi 1] s20 _
                    unfold NXS at hN19
                    have hB23 : BX C (gn y) s.1 s20.1 := BX_tr hC (PI_rf hP) hBk19
                    have hP23 : PI C y s20.1 := PI_BX hC hP hB23
                    have hQ23 : CS s.1 s20.1 := CS_tr (CS_rf (r := s.1)) hS19
                    have hz23 : s20.2 = s.2 := hc19.trans rfl
                    have hF23 := LX_nums hP23
                    refine wr_n (pc2 := 158) (lv2 := [(0, .ref 170), (1, vi deep)]) (st2 := [vi 1]) 1 (fun _ _ => rfl) ?_
                    refine wr_end (fun _ _ => rfl) ?_
                    refine ⟨1, rfl, hz23, Or.inr ⟨rfl, hR19, hB23, hQ23, by unfold NXS; omega, w19, k19, hm19, by omega, ?_⟩⟩
                    intro hpar
                    exact (SG_mono (by omega) (SZ_S (CS_rf (r := s20.1)) (by omega) (by omega)) (hE19 hpar))
              · refine ⟨_, rfl, ?_⟩
                rw [he12]
                show wr (n + 400) tb_M141 129 [(0, .ref 170), (1, vi deep)] [vi 1] s _
                have hg12 : 1 ≤ s.1 170 4 ∧ s.1 170 5 + 3 = s.1 170 6 := ⟨by omega, hl12⟩
                clear hj12 hl12
                refine wr_n (pc2 := 134) (lv2 := [(0, .ref 170), (1, vi deep)]) (st2 := [vi deep, .ref 170]) 3 (fun _ _ => rfl) ?_
                refine wr_call1 (args := [vi deep]) (rest := []) rfl rfl rfl rfl (Nat.le_of_ble_eq_true rfl) (cr_mono (hPa C y m k0 _ deep hC hR hP (BX_mb (PI_rf hP) hMB) hm (by unfold NS; omega) (by omega) (show 1 ≤ s.1 170 4 ∧ s.1 170 5 + 3 = s.1 170 6 by omega) (by omega) hko) ?_)
                rintro s25 out ⟨b, rfl, hc24, ⟨rfl, hF24⟩ | ⟨rfl, hR24, hBk24, hS24, hN24, w24, k24, hm24, hkk24, hE24⟩⟩
                · refine ⟨_, rfl, ?_⟩
                  show wr (n + 400) tb_M141 137 [(0, .ref 170), (1, vi deep)] [vi 0] s25 _
                  refine wr_end (fun _ _ => rfl) ?_
                  exact ⟨0, rfl, hc24.trans rfl, Or.inl ⟨rfl, FR_tr (BX_FR (PI_rf hP)) hF24⟩⟩
                · refine ⟨_, rfl, ?_⟩
                  show wr (n + 400) tb_M141 137 [(0, .ref 170), (1, vi deep)] [vi 1] s25 _
                  unfold NXS at hN24
                  have hB28 : BX C (gn y) s.1 s25.1 := BX_tr hC (PI_rf hP) hBk24
                  have hP28 : PI C y s25.1 := PI_BX hC hP hB28
                  have hQ28 : CS s.1 s25.1 := CS_tr (CS_rf (r := s.1)) hS24
                  have hz28 : s25.2 = s.2 := hc24.trans rfl
                  have hF28 := LX_nums hP28
                  refine wr_end (fun _ _ => rfl) ?_
                  refine ⟨1, rfl, hz28, Or.inr ⟨rfl, hR24, hB28, hQ28, by unfold NXS; omega, w24, k24, hm24, by omega, ?_⟩⟩
                  intro hpar
                  exact (SG_mono (by omega) (SZ_S (CS_rf (r := s25.1)) (by omega) (by omega)) (hE24 hpar))
            · refine ⟨_, rfl, ?_⟩
              rw [he10]
              show wr (n + 400) tb_M141 113 [(0, .ref 170), (1, vi deep)] [vi 1] s _
              have hg10 : 1 ≤ s.1 170 4 ∧ s.1 170 5 + 6 = s.1 170 6 := ⟨by omega, hl10⟩
              clear hj10 hl10
              refine wr_n (pc2 := 118) (lv2 := [(0, .ref 170), (1, vi deep)]) (st2 := [vi deep, .ref 170]) 3 (fun _ _ => rfl) ?_
              refine wr_call1 (args := [vi deep]) (rest := []) rfl rfl rfl rfl (Nat.le_of_ble_eq_true rfl) (cr_mono (hRe C y m k0 _ deep hC hR hP (BX_mb (PI_rf hP) hMB) hm (by unfold NS; omega) (by omega) (show 1 ≤ s.1 170 4 by omega) (by omega) hko) ?_)
              rintro s30 out ⟨b, rfl, hc29, ⟨rfl, hF29⟩ | ⟨rfl, hR29, hBk29, hS29, hN29, w29, k29, hm29, hkk29, hE29⟩⟩
              · refine ⟨_, rfl, ?_⟩
                show wr (n + 400) tb_M141 121 [(0, .ref 170), (1, vi deep)] [vi 0] s30 _
                refine wr_end (fun _ _ => rfl) ?_
                exact ⟨0, rfl, hc29.trans rfl, Or.inl ⟨rfl, FR_tr (BX_FR (PI_rf hP)) hF29⟩⟩
              · refine ⟨_, rfl, ?_⟩
                show wr (n + 400) tb_M141 121 [(0, .ref 170), (1, vi deep)] [vi 1] s30 _
                unfold NXS at hN29
                have hB33 : BX C (gn y) s.1 s30.1 := BX_tr hC (PI_rf hP) hBk29
                have hP33 : PI C y s30.1 := PI_BX hC hP hB33
                have hQ33 : CS s.1 s30.1 := CS_tr (CS_rf (r := s.1)) hS29
                have hz33 : s30.2 = s.2 := hc29.trans rfl
                have hF33 := LX_nums hP33
                refine wr_end (fun _ _ => rfl) ?_
                refine ⟨1, rfl, hz33, Or.inr ⟨rfl, hR29, hB33, hQ33, by unfold NXS; omega, w29, k29, hm29, by omega, ?_⟩⟩
                intro hpar
                exact (SG_mono (by omega) (SZ_S (CS_rf (r := s30.1)) (by omega) (by omega)) (hE29 hpar))
          · refine ⟨_, rfl, ?_⟩
            rw [he8]
            show wr (n + 400) tb_M141 97 [(0, .ref 170), (1, vi deep)] [vi 1] s _
            have hg8 : 1 ≤ s.1 170 4 ∧ s.1 170 5 + 5 = s.1 170 6 := ⟨by omega, hl8⟩
            clear hj8 hl8
            refine wr_n (pc2 := 102) (lv2 := [(0, .ref 170), (1, vi deep)]) (st2 := [vi deep, .ref 170]) 3 (fun _ _ => rfl) ?_
            refine wr_call1 (args := [vi deep]) (rest := []) rfl rfl rfl rfl (Nat.le_of_ble_eq_true rfl) (cr_mono (hLo C y m k0 _ deep hC hR hP (BX_mb (PI_rf hP) hMB) hm (by unfold NS; omega) (by omega) (show 1 ≤ s.1 170 4 by omega) (by omega) hko) ?_)
            rintro s35 out ⟨b, rfl, hc34, ⟨rfl, hF34⟩ | ⟨rfl, hR34, hBk34, hS34, hN34, w34, k34, hm34, hkk34, hE34⟩⟩
            · refine ⟨_, rfl, ?_⟩
              show wr (n + 400) tb_M141 105 [(0, .ref 170), (1, vi deep)] [vi 0] s35 _
              refine wr_end (fun _ _ => rfl) ?_
              exact ⟨0, rfl, hc34.trans rfl, Or.inl ⟨rfl, FR_tr (BX_FR (PI_rf hP)) hF34⟩⟩
            · refine ⟨_, rfl, ?_⟩
              show wr (n + 400) tb_M141 105 [(0, .ref 170), (1, vi deep)] [vi 1] s35 _
              unfold NXS at hN34
              have hB38 : BX C (gn y) s.1 s35.1 := BX_tr hC (PI_rf hP) hBk34
              have hP38 : PI C y s35.1 := PI_BX hC hP hB38
              have hQ38 : CS s.1 s35.1 := CS_tr (CS_rf (r := s.1)) hS34
              have hz38 : s35.2 = s.2 := hc34.trans rfl
              have hF38 := LX_nums hP38
              refine wr_end (fun _ _ => rfl) ?_
              refine ⟨1, rfl, hz38, Or.inr ⟨rfl, hR34, hB38, hQ38, by unfold NXS; omega, w34, k34, hm34, by omega, ?_⟩⟩
              intro hpar
              exact (SG_mono (by omega) (SZ_S (CS_rf (r := s35.1)) (by omega) (by omega)) (hE34 hpar))
        · refine ⟨_, rfl, ?_⟩
          rw [he6]
          show wr (n + 400) tb_M141 81 [(0, .ref 170), (1, vi deep)] [vi 1] s _
          have hg6 : 1 ≤ s.1 170 4 ∧ s.1 170 5 + 2 = s.1 170 6 := ⟨by omega, hl6⟩
          clear hj6 hl6
          refine wr_n (pc2 := 86) (lv2 := [(0, .ref 170), (1, vi deep)]) (st2 := [vi deep, .ref 170]) 3 (fun _ _ => rfl) ?_
          refine wr_call1 (args := [vi deep]) (rest := []) rfl rfl rfl rfl (Nat.le_of_ble_eq_true rfl) (cr_mono (hBr C y m k0 _ deep hC hR hP (BX_mb (PI_rf hP) hMB) hm (by unfold NS; omega) (by omega) (show 1 ≤ s.1 170 4 by omega) (by omega) hko) ?_)
          rintro s40 out ⟨b, rfl, hc39, ⟨rfl, hF39⟩ | ⟨rfl, hR39, hBk39, hS39, hN39, w39, k39, hm39, hkk39, hE39⟩⟩
          · refine ⟨_, rfl, ?_⟩
            show wr (n + 400) tb_M141 89 [(0, .ref 170), (1, vi deep)] [vi 0] s40 _
            refine wr_end (fun _ _ => rfl) ?_
            exact ⟨0, rfl, hc39.trans rfl, Or.inl ⟨rfl, FR_tr (BX_FR (PI_rf hP)) hF39⟩⟩
          · refine ⟨_, rfl, ?_⟩
            show wr (n + 400) tb_M141 89 [(0, .ref 170), (1, vi deep)] [vi 1] s40 _
            unfold NXS at hN39
            have hB43 : BX C (gn y) s.1 s40.1 := BX_tr hC (PI_rf hP) hBk39
            have hP43 : PI C y s40.1 := PI_BX hC hP hB43
            have hQ43 : CS s.1 s40.1 := CS_tr (CS_rf (r := s.1)) hS39
            have hz43 : s40.2 = s.2 := hc39.trans rfl
            have hF43 := LX_nums hP43
            refine wr_end (fun _ _ => rfl) ?_
            refine ⟨1, rfl, hz43, Or.inr ⟨rfl, hR39, hB43, hQ43, by unfold NXS; omega, w39, k39, hm39, by omega, ?_⟩⟩
            intro hpar
            exact (SG_mono (by omega) (SZ_S (CS_rf (r := s40.1)) (by omega) (by omega)) (hE39 hpar))
      · refine ⟨_, rfl, ?_⟩
        rw [he4]
        show wr (n + 400) tb_M141 56 [(0, .ref 170), (1, vi deep)] [vi 1] s _
        have hg4 : 1 ≤ s.1 170 4 ∧ s.1 170 5 + 4 = s.1 170 6 := ⟨by omega, hl4⟩
        clear hj4 hl4
        refine wr_n (pc2 := 60) (lv2 := [(0, .ref 170), (1, vi deep)]) (st2 := [.ref 170]) 2 (fun _ _ => rfl) ?_
        refine wr_call1 (args := []) (rest := []) rfl rfl rfl rfl (Nat.le_of_ble_eq_true rfl) (cr_mono (x_part (d := n + 398) (m := m) hC _ hR hP hm (by omega) (by omega)) ?_)
        rintro s45 out ⟨rfl, hc44, hR44, hBk44, hK44, hm44, hp44, hda44⟩
        · refine ⟨_, rfl, ?_⟩
          show wr (n + 400) tb_M141 63 [(0, .ref 170), (1, vi deep)] [] s45 _
          obtain ⟨hu44, hk44⟩ := id hK44
          have hB47 : BX C (gn y) s.1 s45.1 := BX_tr hC (PI_rf hP) hBk44
          have hP47 : PI C y s45.1 := PI_BX hC hP hB47
          have hQ47 : CS s.1 s45.1 := CS_tr (CS_rf (r := s.1)) (KC_CS hK44)
          have hz47 : s45.2 = s.2 := hc44.trans rfl
          have hF47 : s45.1 170 4 = s.1 170 4 ∧ s45.1 170 5 = s.1 170 5 ∧ s45.1 170 6 = s.1 170 6 ∧ s45.1 170 7 = s.1 170 7 ∧ s45.1 170 14 = s.1 170 14 ∧ s45.1 170 16 = s.1 170 16 ∧ s45.1 170 21 = s.1 170 21 ∧ s45.1 C 3 = s.1 C 3 + 1 ∧ s45.1 C 10 = s.1 C 10 ∧ s.1 170 5 + 0 ≤ s45.1 170 5 ∧ 0 ≤ s45.1 170 5 ∧ s45.1 170 5 ≤ s45.1 170 6 ∧ s45.1 170 6 ≤ 2000 := by omega
          clear hk44 hp44
          refine wr_n (pc2 := 64) (lv2 := [(0, .ref 170), (1, vi deep)]) (st2 := [.ref 170]) 1 (fun _ _ => rfl) ?_
          refine wr_call1 (args := []) (rest := []) rfl rfl rfl rfl (Nat.le_of_ble_eq_true rfl) (cr_mono (x_step (d := n + 394) hC _ hR44 hP47) ?_)
          rintro s49 out ⟨rfl, hc48, hR48, hBk48, hK48, hf48⟩
          · refine ⟨_, rfl, ?_⟩
            show wr (n + 400) tb_M141 67 [(0, .ref 170), (1, vi deep)] [] s49 _
            obtain ⟨hu48, hk48⟩ := id hK48
            replace hf48 : s45.1 170 5 + 1 ≤ s49.1 170 5 := Int.le_trans (LX_lt hP47 (by omega)) hf48
            have hm48 : s49.1 C 1 = ((m + 1 : Nat) : Int) := by omega
            have hB51 : BX C (gn y) s.1 s49.1 := BX_tr hC hB47 hBk48
            have hP51 : PI C y s49.1 := PI_BX hC hP hB51
            have hQ51 : CS s.1 s49.1 := CS_tr hQ47 (KL_CS hK48)
            have hz51 : s49.2 = s.2 := hc48.trans hz47
            have hx51 := LX_nums hP51
            have hF51 : s.1 170 5 + 1 ≤ s49.1 170 5 ∧ s49.1 170 14 = s.1 170 14 ∧ s49.1 170 16 = s.1 170 16 ∧ s49.1 170 21 = s.1 170 21 ∧ s49.1 C 3 = s.1 C 3 + 1 ∧ s49.1 C 10 = s.1 C 10 ∧ 0 ≤ s49.1 170 5 ∧ s49.1 170 5 ≤ s49.1 170 6 ∧ s49.1 170 6 ≤ 2000 := by omega
            clear hk48 hf48 hx51 hF47
            refine wr_n (pc2 := 70) (lv2 := [(0, .ref 170), (1, vi deep)]) (st2 := [.ref 30, .ref 170]) 2 (fun _ _ => rfl) ?_
            refine wr_call1 (args := [.ref 30]) (rest := []) rfl rfl rfl rfl (Nat.le_of_ble_eq_true rfl) (cr_mono (x_take (d := n + 393) isT_30 hC _ hR48 hP51) ?_)
            rintro s53 out ⟨b, rfl, hc52, ⟨rfl, hF52⟩ | ⟨rfl, hR52, hBk52, hK52, hf52⟩⟩
            · refine ⟨_, rfl, ?_⟩
              show wr (n + 400) tb_M141 73 [(0, .ref 170), (1, vi deep)] [vi 0] s53 _
              refine wr_end (fun _ _ => rfl) ?_
              exact ⟨0, rfl, hc52.trans hz51, Or.inl ⟨rfl, FR_tr (BX_FR hB51) hF52⟩⟩
            · refine ⟨_, rfl, ?_⟩
              show wr (n + 400) tb_M141 73 [(0, .ref 170), (1, vi deep)] [vi 1] s53 _
              obtain ⟨hu52, hk52⟩ := id hK52
              replace hf52 : s49.1 170 5 + 1 ≤ s53.1 170 5 := hf52
              have hm52 : s53.1 C 1 = ((m + 1 : Nat) : Int) := by omega
              have hB56 : BX C (gn y) s.1 s53.1 := BX_tr hC hB51 hBk52
              have hP56 : PI C y s53.1 := PI_BX hC hP hB56
              have hQ56 : CS s.1 s53.1 := CS_tr hQ51 (KL_CS hK52)
              have hz56 : s53.2 = s.2 := hc52.trans hz51
              have hx56 := LX_nums hP56
              have hF56 : s.1 170 5 + 2 ≤ s53.1 170 5 ∧ s53.1 170 14 = s.1 170 14 ∧ s53.1 170 16 = s.1 170 16 ∧ s53.1 170 21 = s.1 170 21 ∧ s53.1 C 3 = s.1 C 3 + 1 ∧ s53.1 C 10 = s.1 C 10 ∧ 0 ≤ s53.1 170 5 ∧ s53.1 170 5 ≤ s53.1 170 6 ∧ s53.1 170 6 ≤ 2000 := by omega
              clear hk52 hf52 hx56 hF51
              refine wr_end (fun _ _ => rfl) ?_
              refine ⟨1, rfl, hz56, Or.inr ⟨rfl, hR52, hB56, hQ56, by unfold NXS; omega, m + 1, k0, hm52, by omega, ?_⟩⟩
              intro hpar
              exact (SG_part ((BX_code hC (BX_tr hC hBk48 hBk52) (by omega)).trans hda44) (by omega))
    · refine ⟨_, rfl, ?_⟩
      rw [he2]
      show wr (n + 400) tb_M141 18 [(0, .ref 170), (1, vi deep)] [vi 1] s _
      have hg2 : 1 ≤ s.1 170 4 ∧ s.1 170 5 + 1 = s.1 170 6 := ⟨by omega, hl2⟩
      clear hj2 hl2
      refine wr_n (pc2 := 22) (lv2 := [(0, .ref 170), (1, vi deep)]) (st2 := [.ref 170]) 2 (fun _ _ => rfl) ?_
      refine wr_get (v := vi (s.1 170 15)) rfl rfl rfl (by decide) rfl fun h57 => ?_
      have h57 : -2147483648 ≤ s.1 170 15 ∧ s.1 170 15 ≤ 2147483647 := h57
      show wr (n + 400) tb_M141 25 [(0, .ref 170), (1, vi deep)] [vi (s.1 170 15)] s _
      refine wr_n (pc2 := 27) (lv2 := [(2, vi (s.1 170 15)), (0, .ref 170), (1, vi deep)]) (st2 := [.ref 170]) 2 (fun _ _ => rfl) ?_
      refine wr_call1 (args := []) (rest := []) rfl rfl rfl rfl (Nat.le_of_ble_eq_true rfl) (cr_mono (x_scope (d := n + 399) hC _ hR hP (by omega)) ?_)
      rintro s59 out ⟨rfl, hc58, hR58, hBk58, hu58, hn58⟩
      · refine ⟨_, rfl, ?_⟩
        show wr (n + 400) tb_M141 30 [(2, vi (s.1 170 15)), (0, .ref 170), (1, vi deep)] [] s59 _
        have hk58 : s59.1 170 4 = s.1 170 4 ∧ s59.1 170 5 = s.1 170 5 ∧ s59.1 170 6 = s.1 170 6 ∧ s59.1 170 7 = s.1 170 7 ∧ s59.1 170 14 = s.1 170 14 ∧ s59.1 170 21 = s.1 170 21 ∧ s59.1 C 1 = s.1 C 1 ∧ s59.1 C 3 = s.1 C 3 ∧ s59.1 C 10 = s.1 C 10 := ⟨hu58 _ _ (by omega), hu58 _ _ (by omega), hu58 _ _ (by omega), hu58 _ _ (by omega), hu58 _ _ (by omega), hu58 _ _ (by omega), hu58 _ _ (by omega), hu58 _ _ (by omega), hu58 _ _ (by omega)⟩
        have hm58 : s59.1 C 1 = ((m : Nat) : Int) := by omega
        have hB61 : BX C (gn y) s.1 s59.1 := BX_tr hC (PI_rf hP) hBk58
        have hP61 : PI C y s59.1 := PI_BX hC hP hB61
        have hQ61 : CS s.1 s59.1 := CS_tr (CS_rf (r := s.1)) (CS_eq (hu58 170 26 (by omega)))
        have hz61 : s59.2 = s.2 := hc58.trans rfl
        have hF61 : s59.1 170 4 = s.1 170 4 ∧ s59.1 170 5 = s.1 170 5 ∧ s59.1 170 6 = s.1 170 6 ∧ s59.1 170 7 = s.1 170 7 ∧ s59.1 170 14 = s.1 170 14 ∧ s59.1 170 16 = s.1 170 16 + 1 ∧ s59.1 170 21 = s.1 170 21 ∧ s59.1 C 3 = s.1 C 3 ∧ s59.1 C 10 = s.1 C 10 ∧ s.1 170 5 + 0 ≤ s59.1 170 5 ∧ 0 ≤ s59.1 170 5 ∧ s59.1 170 5 ≤ s59.1 170 6 ∧ s59.1 170 6 ≤ 2000 := by omega
        clear hk58 hn58
        refine wr_n (pc2 := 33) (lv2 := [(2, vi (s.1 170 15)), (0, .ref 170), (1, vi deep)]) (st2 := [vi 1, vi deep, .ref 170]) 3 (fun _ _ => rfl) ?_
        refine wr_add (a := deep) (b := 1) rfl ?_
        show wr (n + 400) tb_M141 34 [(2, vi (s.1 170 15)), (0, .ref 170), (1, vi deep)] [vi (deep + 1), .ref 170] s59 _
        refine wr_call1 (args := [vi (deep + 1)]) (rest := []) rfl rfl rfl rfl (Nat.le_of_ble_eq_true rfl) (cr_mono (hBl C y m k0 _ (deep + 1) hC hR58 hP61 (BX_mb hB61 hMB) hm58 (by unfold NS; omega) (by omega) (by omega) hko) ?_)
        rintro s63 out ⟨b, rfl, hc62, ⟨rfl, hF62⟩ | ⟨rfl, hR62, hBk62, hS62, hN62, w62, k62, hm62, hkk62, hE62⟩⟩
        · refine ⟨_, rfl, ?_⟩
          show wr (n + 400) tb_M141 37 [(2, vi (s.1 170 15)), (0, .ref 170), (1, vi deep)] [vi 0] s63 _
          refine wr_n (pc2 := 41) (lv2 := [(2, vi (s.1 170 15)), (0, .ref 170), (1, vi deep)]) (st2 := [vi 0]) 2 (fun _ _ => rfl) ?_
          refine wr_end (fun _ _ => rfl) ?_
          exact ⟨0, rfl, hc62.trans hz61, Or.inl ⟨rfl, FR_tr (BX_FR hB61) hF62⟩⟩
        · refine ⟨_, rfl, ?_⟩
          show wr (n + 400) tb_M141 37 [(2, vi (s.1 170 15)), (0, .ref 170), (1, vi deep)] [vi 1] s63 _
          unfold NXS at hN62
          have hB66 : BX C (gn y) s.1 s63.1 := BX_tr hC hB61 hBk62
          have hP66 : PI C y s63.1 := PI_BX hC hP hB66
          have hQ66 : CS s.1 s63.1 := CS_tr hQ61 hS62
          have hz66 : s63.2 = s.2 := hc62.trans hz61
          have hF66 := LX_nums hP66
          refine wr_n (pc2 := 44) (lv2 := [(2, vi (s.1 170 15)), (0, .ref 170), (1, vi deep)]) (st2 := [vi (s.1 170 15), .ref 170]) 3 (fun _ _ => rfl) ?_
          refine wr_put (z := s.1 170 15) rfl rfl rfl rfl (by decide) rfl (by decide) rfl (show -2147483648 ≤ s.1 170 15 ∧ s.1 170 15 ≤ 2147483647 by omega) (hf_int' _) ?_
          show wr (n + 400) tb_M141 47 [(2, vi (s.1 170 15)), (0, .ref 170), (1, vi deep)] [] (up2 s63.1 170 15 (s.1 170 15), s63.2) _
          have hR67 : RF (up2 s63.1 170 15 (s.1 170 15)) := (RF_up hR62 rfl)
          obtain ⟨s68, hs68⟩ : ∃ qq9 : rS, qq9 = (up2 s63.1 170 15 (s.1 170 15), s63.2) := ⟨_, rfl⟩
          rw [← hs68]
          have hU68 : U1 170 15 s63.1 s68.1 := by rw [hs68]; exact U1_up
          have hv68 : s68.1 170 15 = s.1 170 15 := by rw [hs68]; show up2 s63.1 170 15 (s.1 170 15) 170 15 = _; exact up_self
          have hk68 : s68.1 170 4 = s63.1 170 4 ∧ s68.1 170 5 = s63.1 170 5 ∧ s68.1 170 6 = s63.1 170 6 ∧ s68.1 170 7 = s63.1 170 7 ∧ s68.1 170 14 = s63.1 170 14 ∧ s68.1 170 16 = s63.1 170 16 ∧ s68.1 170 21 = s63.1 170 21 ∧ s68.1 C 1 = s63.1 C 1 ∧ s68.1 C 3 = s63.1 C 3 ∧ s68.1 C 10 = s63.1 C 10 := ⟨hU68 _ _ (by omega), hU68 _ _ (by omega), hU68 _ _ (by omega), hU68 _ _ (by omega), hU68 _ _ (by omega), hU68 _ _ (by omega), hU68 _ _ (by omega), hU68 _ _ (by omega), hU68 _ _ (by omega), hU68 _ _ (by omega)⟩
          have hBs68 : BX C (gn y) s.1 s68.1 := by rw [hs68]; exact BX_set hC hB66 (by unfold SS; omega) (by unfold quiet; omega)
          have hR68 : RF s68.1 := BX_RF hC hBs68 hR
          have hc68 : s68.2 = s63.2 := by rw [hs68]
          have hm68 : s68.1 C 1 = ((w62 : Nat) : Int) := by omega
          have hB69 : BX C (gn y) s.1 s68.1 := hBs68
          have hP69 : PI C y s68.1 := PI_BX hC hP hB69
          have hQ69 : CS s.1 s68.1 := CS_tr hQ66 (CS_eq (hU68 170 26 (by omega)))
          have hz69 : s68.2 = s.2 := hc68.trans hz66
          have hF69 : s68.1 170 4 = s63.1 170 4 ∧ s68.1 170 5 = s63.1 170 5 ∧ s68.1 170 6 = s63.1 170 6 ∧ s68.1 170 7 = s63.1 170 7 ∧ s68.1 170 14 = s63.1 170 14 ∧ s68.1 170 16 = s63.1 170 16 ∧ s68.1 170 21 = s63.1 170 21 ∧ s68.1 C 3 = s63.1 C 3 ∧ s68.1 C 10 = s63.1 C 10 ∧ s63.1 170 5 + 0 ≤ s68.1 170 5 ∧ 0 ≤ s68.1 170 5 ∧ s68.1 170 5 ≤ s68.1 170 6 ∧ s68.1 170 6 ≤ 2000 := by omega
          clear hk68
          show wr (n + 400) tb_M141 47 [(2, vi (s.1 170 15)), (0, .ref 170), (1, vi deep)] [] s68 _
          refine wr_n (pc2 := 48) (lv2 := [(2, vi (s.1 170 15)), (0, .ref 170), (1, vi deep)]) (st2 := [vi 1]) 1 (fun _ _ => rfl) ?_
          refine wr_end (fun _ _ => rfl) ?_
          refine ⟨1, rfl, hz69, Or.inr ⟨rfl, hR68, hB69, hQ69, by unfold NXS; omega, w62, k62, hm68, by omega, ?_⟩⟩
          intro hpar
          exact (SG_mono (by omega) (SZ_S (CS_eq (hU68 170 26 (by omega))) (by omega) (by omega)) (SG_agr (fun p hp1 hp => (hU68 (C + 1) p (by omega))) (hE62 (by rw [← hU68 170 21 (by omega)]; exact hpar))))
  · refine wr_if2f rfl rfl (by unfold i32; omega) (by unfold i32; omega) h1 ?_
    refine wr_n (pc2 := 7) (lv2 := [(0, .ref 170), (1, vi deep)]) (st2 := [.ref 170]) 1 (fun _ _ => rfl) ?_
    refine wr_call1 (args := []) (rest := []) rfl rfl rfl rfl (Nat.le_of_ble_eq_true rfl) (cr_mono (x_bad0 (C := C) (d := n + 398) _ hR) ?_)
    rintro s71 out ⟨rfl, hc70, hF70⟩
    · refine ⟨_, rfl, ?_⟩
      show wr (n + 400) tb_M141 10 [(0, .ref 170), (1, vi deep)] [vi 0] s71 _
      refine wr_end (fun _ _ => rfl) ?_
      exact ⟨0, rfl, hc70.trans rfl, Or.inl ⟨rfl, FR_tr (BX_FR (PI_rf hP)) hF70⟩⟩
