set_option maxRecDepth 100000 in
theorem p_branch {n : Nat} (hX : CX 340) (hSt : CSt n) : CT1 143 tk1 1 19 (n + 1) := by
  intro C y m k0 s deep hC hR hP hMB hm hN hd htk hk0 hko
  unfold NS at hN
  have hx0 := LX_nums hP
  have hgt := gt_of hP
  have hlt := LX_lt hP htk
  refine cr_of (M := tb_M143) rfl (Nat.le_of_ble_eq_true rfl) ?_
  show wr (n + 400) tb_M143 0 [(0, .ref 170), (1, vi deep)] [] s _
  refine wr_n (pc2 := 1) (lv2 := [(0, .ref 170), (1, vi deep)]) (st2 := [.ref 170]) 1 (fun _ _ => rfl) ?_
  refine wr_call1 (args := []) (rest := []) rfl rfl rfl rfl (Nat.le_of_ble_eq_true rfl) (cr_mono (x_part (d := n + 398) (m := m) hC _ hR hP hm (by omega) (by omega)) ?_)
  rintro s2 out ⟨rfl, hc1, hR1, hBk1, hK1, hm1, hp1, hda1⟩
  · refine ⟨_, rfl, ?_⟩
    show wr (n + 400) tb_M143 4 [(0, .ref 170), (1, vi deep)] [] s2 _
    obtain ⟨hu1, hk1⟩ := id hK1
    have hB4 : BX C (gn y) s.1 s2.1 := BX_tr hC (PI_rf hP) hBk1
    have hP4 : PI C y s2.1 := PI_BX hC hP hB4
    have hQ4 : CS s.1 s2.1 := CS_tr (CS_rf (r := s.1)) (KC_CS hK1)
    have hz4 : s2.2 = s.2 := hc1.trans rfl
    have hF4 : s2.1 170 4 = s.1 170 4 ∧ s2.1 170 5 = s.1 170 5 ∧ s2.1 170 6 = s.1 170 6 ∧ s2.1 170 7 = s.1 170 7 ∧ s2.1 170 14 = s.1 170 14 ∧ s2.1 170 16 = s.1 170 16 ∧ s2.1 170 21 = s.1 170 21 ∧ s2.1 C 3 = s.1 C 3 + 1 ∧ s2.1 C 10 = s.1 C 10 ∧ s.1 170 5 + 0 ≤ s2.1 170 5 ∧ 0 ≤ s2.1 170 5 ∧ s2.1 170 5 ≤ s2.1 170 6 ∧ s2.1 170 6 ≤ 2000 := by omega
    clear hk1 hp1
    refine wr_n (pc2 := 5) (lv2 := [(0, .ref 170), (1, vi deep)]) (st2 := [.ref 170]) 1 (fun _ _ => rfl) ?_
    refine wr_call1 (args := []) (rest := []) rfl rfl rfl rfl (Nat.le_of_ble_eq_true rfl) (cr_mono (x_step (d := n + 394) hC _ hR1 hP4) ?_)
    rintro s6 out ⟨rfl, hc5, hR5, hBk5, hK5, hf5⟩
    · refine ⟨_, rfl, ?_⟩
      show wr (n + 400) tb_M143 8 [(0, .ref 170), (1, vi deep)] [] s6 _
      obtain ⟨hu5, hk5⟩ := id hK5
      replace hf5 : s2.1 170 5 + 1 ≤ s6.1 170 5 := Int.le_trans (LX_lt hP4 (by omega)) hf5
      have hm5 : s6.1 C 1 = ((m + 1 : Nat) : Int) := by omega
      have hB8 : BX C (gn y) s.1 s6.1 := BX_tr hC hB4 hBk5
      have hP8 : PI C y s6.1 := PI_BX hC hP hB8
      have hQ8 : CS s.1 s6.1 := CS_tr hQ4 (KL_CS hK5)
      have hz8 : s6.2 = s.2 := hc5.trans hz4
      have hx8 := LX_nums hP8
      have hF8 : s.1 170 5 + 1 ≤ s6.1 170 5 ∧ s6.1 170 14 = s.1 170 14 ∧ s6.1 170 16 = s.1 170 16 ∧ s6.1 170 21 = s.1 170 21 ∧ s6.1 C 3 = s.1 C 3 + 1 ∧ s6.1 C 10 = s.1 C 10 ∧ 0 ≤ s6.1 170 5 ∧ s6.1 170 5 ≤ s6.1 170 6 ∧ s6.1 170 6 ≤ 2000 := by omega
      clear hk5 hf5 hx8 hF4
      refine wr_n (pc2 := 12) (lv2 := [(0, .ref 170), (1, vi deep)]) (st2 := [.ref 22, .ref 170]) 2 (fun _ _ => rfl) ?_
      refine wr_call1 (args := [.ref 22]) (rest := []) rfl rfl rfl rfl (Nat.le_of_ble_eq_true rfl) (cr_mono (x_take (d := n + 393) isT_22 hC _ hR5 hP8) ?_)
      rintro s10 out ⟨b, rfl, hc9, ⟨rfl, hF9⟩ | ⟨rfl, hR9, hBk9, hK9, hf9⟩⟩
      · refine ⟨_, rfl, ?_⟩
        show wr (n + 400) tb_M143 15 [(0, .ref 170), (1, vi deep)] [vi 0] s10 _
        refine wr_n (pc2 := 40) (lv2 := [(0, .ref 170), (1, vi deep)]) (st2 := [vi 0]) 2 (fun _ _ => rfl) ?_
        refine wr_end (fun _ _ => rfl) ?_
        exact ⟨0, rfl, hc9.trans hz8, Or.inl ⟨rfl, FR_tr (BX_FR hB8) hF9⟩⟩
      · refine ⟨_, rfl, ?_⟩
        show wr (n + 400) tb_M143 15 [(0, .ref 170), (1, vi deep)] [vi 1] s10 _
        obtain ⟨hu9, hk9⟩ := id hK9
        replace hf9 : s6.1 170 5 + 1 ≤ s10.1 170 5 := hf9
        have hm9 : s10.1 C 1 = ((m + 1 : Nat) : Int) := by omega
        have hB13 : BX C (gn y) s.1 s10.1 := BX_tr hC hB8 hBk9
        have hP13 : PI C y s10.1 := PI_BX hC hP hB13
        have hQ13 : CS s.1 s10.1 := CS_tr hQ8 (KL_CS hK9)
        have hz13 : s10.2 = s.2 := hc9.trans hz8
        have hx13 := LX_nums hP13
        have hF13 : s.1 170 5 + 2 ≤ s10.1 170 5 ∧ s10.1 170 14 = s.1 170 14 ∧ s10.1 170 16 = s.1 170 16 ∧ s10.1 170 21 = s.1 170 21 ∧ s10.1 C 3 = s.1 C 3 + 1 ∧ s10.1 C 10 = s.1 C 10 ∧ 0 ≤ s10.1 170 5 ∧ s10.1 170 5 ≤ s10.1 170 6 ∧ s10.1 170 6 ≤ 2000 := by omega
        clear hk9 hf9 hx13 hF8
        refine wr_n (pc2 := 22) (lv2 := [(0, .ref 170), (1, vi deep)]) (st2 := [vi 1, vi deep, vi 0, .ref 170]) 5 (fun _ _ => rfl) ?_
        refine wr_add (a := deep) (b := 1) rfl ?_
        show wr (n + 400) tb_M143 23 [(0, .ref 170), (1, vi deep)] [vi (deep + 1), vi 0, .ref 170] s10 _
        refine wr_call1 (args := [vi 0, vi (deep + 1)]) (rest := []) rfl rfl rfl rfl (Nat.le_of_ble_eq_true rfl) (cr_mono ((cr_up (d := 360) (by omega) (hX C y (m + 1) _ 0 (deep + 1) hC hR9 hP13 (BX_mb hB13 hMB) hm9 (by unfold NE; omega) (by omega)))) ?_)
        rintro s15 out ⟨b, rfl, hc14, ⟨rfl, hF14⟩ | ⟨rfl, hR14, hBk14, hS14, hN14, hV14, w14, hm14, hE14⟩⟩
        · refine ⟨_, rfl, ?_⟩
          show wr (n + 400) tb_M143 26 [(0, .ref 170), (1, vi deep)] [vi 0] s15 _
          refine wr_n (pc2 := 40) (lv2 := [(0, .ref 170), (1, vi deep)]) (st2 := [vi 0]) 2 (fun _ _ => rfl) ?_
          refine wr_end (fun _ _ => rfl) ?_
          exact ⟨0, rfl, hc14.trans hz13, Or.inl ⟨rfl, FR_tr (BX_FR hB13) hF14⟩⟩
        · refine ⟨_, rfl, ?_⟩
          show wr (n + 400) tb_M143 26 [(0, .ref 170), (1, vi deep)] [vi 1] s15 _
          unfold NXE at hN14
          have hB18 : BX C (gn y) s.1 s15.1 := BX_tr hC hB13 hBk14
          have hP18 : PI C y s15.1 := PI_BX hC hP hB18
          have hQ18 : CS s.1 s15.1 := CS_tr hQ13 hS14
          have hz18 : s15.2 = s.2 := hc14.trans hz13
          have hF18 := LX_nums hP18
          refine wr_n (pc2 := 33) (lv2 := [(0, .ref 170), (1, vi deep)]) (st2 := [.ref 24, .ref 170]) 3 (fun _ _ => rfl) ?_
          refine wr_call1 (args := [.ref 24]) (rest := []) rfl rfl rfl rfl (Nat.le_of_ble_eq_true rfl) (cr_mono (x_take (d := n + 393) isT_24 hC _ hR14 hP18) ?_)
          rintro s20 out ⟨b, rfl, hc19, ⟨rfl, hF19⟩ | ⟨rfl, hR19, hBk19, hK19, hf19⟩⟩
          · refine ⟨_, rfl, ?_⟩
            show wr (n + 400) tb_M143 36 [(0, .ref 170), (1, vi deep)] [vi 0] s20 _
            refine wr_n (pc2 := 40) (lv2 := [(0, .ref 170), (1, vi deep)]) (st2 := [vi 0]) 2 (fun _ _ => rfl) ?_
            refine wr_end (fun _ _ => rfl) ?_
            exact ⟨0, rfl, hc19.trans hz18, Or.inl ⟨rfl, FR_tr (BX_FR hB18) hF19⟩⟩
          · refine ⟨_, rfl, ?_⟩
            show wr (n + 400) tb_M143 36 [(0, .ref 170), (1, vi deep)] [vi 1] s20 _
            obtain ⟨hu19, hk19⟩ := id hK19
            replace hf19 : s15.1 170 5 + 1 ≤ s20.1 170 5 := hf19
            have hm19 : s20.1 C 1 = ((w14 : Nat) : Int) := by omega
            have hB23 : BX C (gn y) s.1 s20.1 := BX_tr hC hB18 hBk19
            have hP23 : PI C y s20.1 := PI_BX hC hP hB23
            have hQ23 : CS s.1 s20.1 := CS_tr hQ18 (KL_CS hK19)
            have hz23 : s20.2 = s.2 := hc19.trans hz18
            have hx23 := LX_nums hP23
            have hF23 : s15.1 170 5 + 1 ≤ s20.1 170 5 ∧ s20.1 170 14 = s15.1 170 14 ∧ s20.1 170 16 = s15.1 170 16 ∧ s20.1 170 21 = s15.1 170 21 ∧ s20.1 C 3 = s15.1 C 3 ∧ s20.1 C 10 = s15.1 C 10 ∧ 0 ≤ s20.1 170 5 ∧ s20.1 170 5 ≤ s20.1 170 6 ∧ s20.1 170 6 ≤ 2000 := by omega
            clear hk19 hf19 hx23
            refine wr_n (pc2 := 44) (lv2 := [(0, .ref 170), (1, vi deep)]) (st2 := [vi 10, .ref 170]) 3 (fun _ _ => rfl) ?_
            refine wr_call1 (args := [vi 10]) (rest := []) rfl rfl rfl rfl (Nat.le_of_ble_eq_true rfl) (cr_mono (x_put (d := n + 399) (m := w14) (v := 10) hC _ hR19 hP23 (by unfold i32; omega) hm19 (by omega)) ?_)
            rintro s25 out ⟨rfl, hc24, hR24, hBk24, hK24, hm24, hp24, hda24⟩
            · refine ⟨_, rfl, ?_⟩
              show wr (n + 400) tb_M143 47 [(0, .ref 170), (1, vi deep)] [vi (((w14 : Nat) : Int))] s25 _
              obtain ⟨hu24, hk24⟩ := id hK24
              have hB27 : BX C (gn y) s.1 s25.1 := BX_tr hC hB23 hBk24
              have hP27 : PI C y s25.1 := PI_BX hC hP hB27
              have hQ27 : CS s.1 s25.1 := CS_tr hQ23 (KC_CS hK24)
              have hz27 : s25.2 = s.2 := hc24.trans hz23
              have hF27 : s25.1 170 4 = s20.1 170 4 ∧ s25.1 170 5 = s20.1 170 5 ∧ s25.1 170 6 = s20.1 170 6 ∧ s25.1 170 7 = s20.1 170 7 ∧ s25.1 170 14 = s15.1 170 14 ∧ s25.1 170 16 = s15.1 170 16 ∧ s25.1 170 21 = s15.1 170 21 ∧ s25.1 C 3 = s15.1 C 3 ∧ s25.1 C 10 = s15.1 C 10 ∧ s15.1 170 5 + 1 ≤ s25.1 170 5 ∧ 0 ≤ s25.1 170 5 ∧ s25.1 170 5 ≤ s25.1 170 6 ∧ s25.1 170 6 ≤ 2000 := by omega
              clear hk24 hp24 hF23
              refine wr_n (pc2 := 50) (lv2 := [(0, .ref 170), (1, vi deep)]) (st2 := [vi 0, .ref 170]) 3 (fun _ _ => rfl) ?_
              refine wr_call1 (args := [vi 0]) (rest := []) rfl rfl rfl rfl (Nat.le_of_ble_eq_true rfl) (cr_mono (x_put (d := n + 399) (m := w14 + 1) (v := 0) hC _ hR24 hP27 (by unfold i32; omega) hm24 (by omega)) ?_)
              rintro s29 out ⟨rfl, hc28, hR28, hBk28, hK28, hm28, hp28, hda28⟩
              · refine ⟨_, rfl, ?_⟩
                show wr (n + 400) tb_M143 53 [(0, .ref 170), (1, vi deep)] [vi (((w14 + 1 : Nat) : Int))] s29 _
                obtain ⟨hu28, hk28⟩ := id hK28
                have hB31 : BX C (gn y) s.1 s29.1 := BX_tr hC hB27 hBk28
                have hP31 : PI C y s29.1 := PI_BX hC hP hB31
                have hQ31 : CS s.1 s29.1 := CS_tr hQ27 (KC_CS hK28)
                have hz31 : s29.2 = s.2 := hc28.trans hz27
                have hF31 : s29.1 170 4 = s20.1 170 4 ∧ s29.1 170 5 = s20.1 170 5 ∧ s29.1 170 6 = s20.1 170 6 ∧ s29.1 170 7 = s20.1 170 7 ∧ s29.1 170 14 = s15.1 170 14 ∧ s29.1 170 16 = s15.1 170 16 ∧ s29.1 170 21 = s15.1 170 21 ∧ s29.1 C 3 = s15.1 C 3 ∧ s29.1 C 10 = s15.1 C 10 ∧ s15.1 170 5 + 1 ≤ s29.1 170 5 ∧ 0 ≤ s29.1 170 5 ∧ s29.1 170 5 ≤ s29.1 170 6 ∧ s29.1 170 6 ≤ 2000 := by omega
                clear hk28 hp28 hF27
                refine wr_n (pc2 := 57) (lv2 := [(2, vi (((w14 + 1 : Nat) : Int))), (0, .ref 170), (1, vi deep)]) (st2 := [vi 1, vi deep, .ref 170]) 4 (fun _ _ => rfl) ?_
                refine wr_add (a := deep) (b := 1) rfl ?_
                show wr (n + 400) tb_M143 58 [(2, vi (((w14 + 1 : Nat) : Int))), (0, .ref 170), (1, vi deep)] [vi (deep + 1), .ref 170] s29 _
                refine wr_call1 (args := [vi (deep + 1)]) (rest := []) rfl rfl rfl rfl (Nat.le_of_ble_eq_true rfl) (cr_mono (hSt C y (w14 + 1 + 1) k0 _ (deep + 1) hC hR28 hP31 (BX_mb hB31 hMB) hm28 (by unfold NS; omega) (by omega) trivial (by omega) hko) ?_)
                rintro s33 out ⟨b, rfl, hc32, ⟨rfl, hF32⟩ | ⟨rfl, hR32, hBk32, hS32, hN32, w32, k32, hm32, hkk32, hE32⟩⟩
                · refine ⟨_, rfl, ?_⟩
                  show wr (n + 400) tb_M143 61 [(2, vi (((w14 + 1 : Nat) : Int))), (0, .ref 170), (1, vi deep)] [vi 0] s33 _
                  refine wr_n (pc2 := 65) (lv2 := [(2, vi (((w14 + 1 : Nat) : Int))), (0, .ref 170), (1, vi deep)]) (st2 := [vi 0]) 2 (fun _ _ => rfl) ?_
                  refine wr_end (fun _ _ => rfl) ?_
                  exact ⟨0, rfl, hc32.trans hz31, Or.inl ⟨rfl, FR_tr (BX_FR hB31) hF32⟩⟩
                · refine ⟨_, rfl, ?_⟩
                  show wr (n + 400) tb_M143 61 [(2, vi (((w14 + 1 : Nat) : Int))), (0, .ref 170), (1, vi deep)] [vi 1] s33 _
                  unfold NXS at hN32
                  have hB36 : BX C (gn y) s.1 s33.1 := BX_tr hC hB31 hBk32
                  have hP36 : PI C y s33.1 := PI_BX hC hP hB36
                  have hQ36 : CS s.1 s33.1 := CS_tr hQ31 hS32
                  have hz36 : s33.2 = s.2 := hc32.trans hz31
                  have hF36 := LX_nums hP36
                  refine wr_n (pc2 := 70) (lv2 := [(2, vi (((w14 + 1 : Nat) : Int))), (0, .ref 170), (1, vi deep)]) (st2 := [.ref 80, .ref 170]) 3 (fun _ _ => rfl) ?_
                  refine wr_call1 (args := [.ref 80]) (rest := []) rfl rfl rfl rfl (Nat.le_of_ble_eq_true rfl) (cr_mono (c_is (d := n + 395) isT_80 _ hR32 (LX_of hP36)) ?_)
                  rintro s38 out ⟨b, rfl, rfl | ⟨rfl, hj37, hl37⟩, he37⟩
                  · refine ⟨_, rfl, ?_⟩
                    rw [he37]
                    show wr (n + 400) tb_M143 73 [(2, vi (((w14 + 1 : Nat) : Int))), (0, .ref 170), (1, vi deep)] [vi 0] s33 _
                    refine wr_n (pc2 := 141) (lv2 := [(2, vi (((w14 + 1 : Nat) : Int))), (0, .ref 170), (1, vi deep)]) (st2 := [.ref 170]) 2 (fun _ _ => rfl) ?_
                    refine wr_get (v := .ref C) rfl rfl rfl (by decide) (rv_ref (show s33.1 170 19 = ((C : Nat) : Int) from hP36.1)) fun h39 => ?_
                    show wr (n + 400) tb_M143 144 [(2, vi (((w14 + 1 : Nat) : Int))), (0, .ref 170), (1, vi deep)] [.ref C] s33 _
                    refine wr_get (v := .ref (C + 1)) rfl rfl (TG_C hC) (by decide) (rv_ref (hR32 C 0 (C + 1) (rc_C0 hC))) fun h40 => ?_
                    show wr (n + 400) tb_M143 147 [(2, vi (((w14 + 1 : Nat) : Int))), (0, .ref 170), (1, vi deep)] [.ref (C + 1)] s33 _
                    refine wr_n (pc2 := 149) (lv2 := [(2, vi (((w14 + 1 : Nat) : Int))), (0, .ref 170), (1, vi deep)]) (st2 := [.ref 170, vi (((w14 + 1 : Nat) : Int)), .ref (C + 1)]) 2 (fun _ _ => rfl) ?_
                    refine wr_get (v := .ref C) rfl rfl rfl (by decide) (rv_ref (show s33.1 170 19 = ((C : Nat) : Int) from hP36.1)) fun h41 => ?_
                    show wr (n + 400) tb_M143 152 [(2, vi (((w14 + 1 : Nat) : Int))), (0, .ref 170), (1, vi deep)] [.ref C, vi (((w14 + 1 : Nat) : Int)), .ref (C + 1)] s33 _
                    refine wr_get (v := vi (s33.1 C 1)) rfl rfl (TG_C hC) (by decide) rfl fun h42 => ?_
                    have h42 : -2147483648 ≤ s33.1 C 1 ∧ s33.1 C 1 ≤ 2147483647 := h42
                    show wr (n + 400) tb_M143 155 [(2, vi (((w14 + 1 : Nat) : Int))), (0, .ref 170), (1, vi deep)] [vi (s33.1 C 1), vi (((w14 + 1 : Nat) : Int)), .ref (C + 1)] s33 _
                    rw [hm32]
                    show wr (n + 400) tb_M143 155 [(2, vi (((w14 + 1 : Nat) : Int))), (0, .ref 170), (1, vi deep)] [vi (((w32 : Nat) : Int)), vi (((w14 + 1 : Nat) : Int)), .ref (C + 1)] s33 _
                    refine wr_ast (a := ((w14 + 1 : Nat) : Int)) (z := ((w32 : Nat) : Int)) rfl (show 96 ≤ C + 1 by omega) (TG_C1 hC) rfl (by omega) (by omega) (by decide) rfl (show -2147483648 ≤ ((w32 : Nat) : Int) ∧ ((w32 : Nat) : Int) ≤ 2147483647 by omega) ?_
                    show wr (n + 400) tb_M143 156 [(2, vi (((w14 + 1 : Nat) : Int))), (0, .ref 170), (1, vi deep)] [] (up2 s33.1 (C + 1) (w14 + 1) (((w32 : Nat) : Int)), s33.2) _
                    have hR43 : RF (up2 s33.1 (C + 1) (w14 + 1) (((w32 : Nat) : Int))) := (RF_up hR32 (PS_rc hC (by unfold PS; omega)))
                    obtain ⟨s44, hs44⟩ : ∃ qq9 : rS, qq9 = (up2 s33.1 (C + 1) (w14 + 1) (((w32 : Nat) : Int)), s33.2) := ⟨_, rfl⟩
                    rw [← hs44]
                    have hU44 : U1 (C + 1) (w14 + 1) s33.1 s44.1 := by rw [hs44]; exact U1_up
                    have hv44 : s44.1 (C + 1) (w14 + 1) = ((w32 : Nat) : Int) := by rw [hs44]; show up2 s33.1 (C + 1) (w14 + 1) (((w32 : Nat) : Int)) (C + 1) (w14 + 1) = _; exact up_self
                    have hk44 : s44.1 170 4 = s33.1 170 4 ∧ s44.1 170 5 = s33.1 170 5 ∧ s44.1 170 6 = s33.1 170 6 ∧ s44.1 170 7 = s33.1 170 7 ∧ s44.1 170 14 = s33.1 170 14 ∧ s44.1 170 16 = s33.1 170 16 ∧ s44.1 170 21 = s33.1 170 21 ∧ s44.1 C 1 = s33.1 C 1 ∧ s44.1 C 3 = s33.1 C 3 ∧ s44.1 C 10 = s33.1 C 10 := ⟨hU44 _ _ (by omega), hU44 _ _ (by omega), hU44 _ _ (by omega), hU44 _ _ (by omega), hU44 _ _ (by omega), hU44 _ _ (by omega), hU44 _ _ (by omega), hU44 _ _ (by omega), hU44 _ _ (by omega), hU44 _ _ (by omega)⟩
                    have hBs44 : BX C (gn y) s.1 s44.1 := by rw [hs44]; exact BX_set hC hB36 (by unfold SS; omega) (by unfold quiet; omega)
                    have hR44 : RF s44.1 := BX_RF hC hBs44 hR
                    have hc44 : s44.2 = s33.2 := by rw [hs44]
                    have hm44 : s44.1 C 1 = ((w32 : Nat) : Int) := by omega
                    have hB45 : BX C (gn y) s.1 s44.1 := hBs44
                    have hP45 : PI C y s44.1 := PI_BX hC hP hB45
                    have hQ45 : CS s.1 s44.1 := CS_tr hQ36 (CS_eq (hU44 170 26 (by omega)))
                    have hz45 : s44.2 = s.2 := hc44.trans hz36
                    have hF45 : s44.1 170 4 = s33.1 170 4 ∧ s44.1 170 5 = s33.1 170 5 ∧ s44.1 170 6 = s33.1 170 6 ∧ s44.1 170 7 = s33.1 170 7 ∧ s44.1 170 14 = s33.1 170 14 ∧ s44.1 170 16 = s33.1 170 16 ∧ s44.1 170 21 = s33.1 170 21 ∧ s44.1 C 3 = s33.1 C 3 ∧ s44.1 C 10 = s33.1 C 10 ∧ s33.1 170 5 + 0 ≤ s44.1 170 5 ∧ 0 ≤ s44.1 170 5 ∧ s44.1 170 5 ≤ s44.1 170 6 ∧ s44.1 170 6 ≤ 2000 := by omega
                    clear hk44
                    show wr (n + 400) tb_M143 156 [(2, vi (((w14 + 1 : Nat) : Int))), (0, .ref 170), (1, vi deep)] [] s44 _
                    refine wr_n (pc2 := 157) (lv2 := [(2, vi (((w14 + 1 : Nat) : Int))), (0, .ref 170), (1, vi deep)]) (st2 := [vi 1]) 1 (fun _ _ => rfl) ?_
                    refine wr_end (fun _ _ => rfl) ?_
                    refine ⟨1, rfl, hz45, Or.inr ⟨rfl, hR44, hB45, hQ45, by unfold NXS; omega, w32, k32, hm44, by omega, ?_⟩⟩
                    intro hpar
                    exact (SG_seq (by omega) (by omega) (SG_part (((hU44 (C + 1) _ (by omega)).trans (BX_code hC (BX_tr hC (BX_tr hC (BX_tr hC (BX_tr hC (BX_tr hC (BX_tr hC hBk5 hBk9) hBk14) hBk19) hBk24) hBk28) hBk32) (by omega))).trans hda1) (by omega)) (SH_seq (by omega) (by omega) (SG_SH (SG_mono (by omega) (SZ_E (CS_tr (CS_tr (CS_tr (CS_tr (KL_CS hK19) (KC_CS hK24)) (KC_CS hK28)) hS32) (CS_eq (hU44 170 26 (by omega))))) (SG_agr (fun p hp1 hp => ((hU44 (C + 1) p (by omega)).trans (BX_code hC (BX_tr hC (BX_tr hC (BX_tr hC hBk19 hBk24) hBk28) hBk32) (by omega)))) (hE14 0 (by omega))))) (SH_unless (((hU44 (C + 1) _ (by omega)).trans (BX_code hC (BX_tr hC hBk28 hBk32) (by omega))).trans hda24) hv44 (by omega) (by omega) (SG_SH (SG_mono (by omega) (SZ_S (CS_eq (hU44 170 26 (by omega))) (by omega) (by omega)) (SG_agr (fun p hp1 hp => (hU44 (C + 1) p (by omega))) (hE32 (by rw [← hU44 170 21 (by omega)]; exact hpar))))))))
                  · refine ⟨_, rfl, ?_⟩
                    rw [he37]
                    show wr (n + 400) tb_M143 73 [(2, vi (((w14 + 1 : Nat) : Int))), (0, .ref 170), (1, vi deep)] [vi 1] s33 _
                    have hg37 : 1 ≤ s33.1 170 4 ∧ s33.1 170 5 + 4 = s33.1 170 6 := ⟨by omega, hl37⟩
                    clear hj37 hl37
                    refine wr_n (pc2 := 77) (lv2 := [(2, vi (((w14 + 1 : Nat) : Int))), (0, .ref 170), (1, vi deep)]) (st2 := [.ref 170]) 2 (fun _ _ => rfl) ?_
                    refine wr_call1 (args := []) (rest := []) rfl rfl rfl rfl (Nat.le_of_ble_eq_true rfl) (cr_mono (x_step (d := n + 394) hC _ hR32 hP36) ?_)
                    rintro s47 out ⟨rfl, hc46, hR46, hBk46, hK46, hf46⟩
                    · refine ⟨_, rfl, ?_⟩
                      show wr (n + 400) tb_M143 80 [(2, vi (((w14 + 1 : Nat) : Int))), (0, .ref 170), (1, vi deep)] [] s47 _
                      obtain ⟨hu46, hk46⟩ := id hK46
                      replace hf46 : s33.1 170 6 ≤ s47.1 170 5 := hf46
                      have hm46 : s47.1 C 1 = ((w32 : Nat) : Int) := by omega
                      have hB49 : BX C (gn y) s.1 s47.1 := BX_tr hC hB36 hBk46
                      have hP49 : PI C y s47.1 := PI_BX hC hP hB49
                      have hQ49 : CS s.1 s47.1 := CS_tr hQ36 (KL_CS hK46)
                      have hz49 : s47.2 = s.2 := hc46.trans hz36
                      have hx49 := LX_nums hP49
                      have hF49 : s33.1 170 5 + 4 ≤ s47.1 170 5 ∧ s47.1 170 14 = s33.1 170 14 ∧ s47.1 170 16 = s33.1 170 16 ∧ s47.1 170 21 = s33.1 170 21 ∧ s47.1 C 3 = s33.1 C 3 ∧ s47.1 C 10 = s33.1 C 10 ∧ 0 ≤ s47.1 170 5 ∧ s47.1 170 5 ≤ s47.1 170 6 ∧ s47.1 170 6 ≤ 2000 := by omega
                      clear hk46 hf46 hx49
                      refine wr_n (pc2 := 83) (lv2 := [(2, vi (((w14 + 1 : Nat) : Int))), (0, .ref 170), (1, vi deep)]) (st2 := [vi 9, .ref 170]) 2 (fun _ _ => rfl) ?_
                      refine wr_call1 (args := [vi 9]) (rest := []) rfl rfl rfl rfl (Nat.le_of_ble_eq_true rfl) (cr_mono (x_put (d := n + 399) (m := w32) (v := 9) hC _ hR46 hP49 (by unfold i32; omega) hm46 (by omega)) ?_)
                      rintro s51 out ⟨rfl, hc50, hR50, hBk50, hK50, hm50, hp50, hda50⟩
                      · refine ⟨_, rfl, ?_⟩
                        show wr (n + 400) tb_M143 86 [(2, vi (((w14 + 1 : Nat) : Int))), (0, .ref 170), (1, vi deep)] [vi (((w32 : Nat) : Int))] s51 _
                        obtain ⟨hu50, hk50⟩ := id hK50
                        have hB53 : BX C (gn y) s.1 s51.1 := BX_tr hC hB49 hBk50
                        have hP53 : PI C y s51.1 := PI_BX hC hP hB53
                        have hQ53 : CS s.1 s51.1 := CS_tr hQ49 (KC_CS hK50)
                        have hz53 : s51.2 = s.2 := hc50.trans hz49
                        have hF53 : s51.1 170 4 = s47.1 170 4 ∧ s51.1 170 5 = s47.1 170 5 ∧ s51.1 170 6 = s47.1 170 6 ∧ s51.1 170 7 = s47.1 170 7 ∧ s51.1 170 14 = s33.1 170 14 ∧ s51.1 170 16 = s33.1 170 16 ∧ s51.1 170 21 = s33.1 170 21 ∧ s51.1 C 3 = s33.1 C 3 ∧ s51.1 C 10 = s33.1 C 10 ∧ s33.1 170 5 + 4 ≤ s51.1 170 5 ∧ 0 ≤ s51.1 170 5 ∧ s51.1 170 5 ≤ s51.1 170 6 ∧ s51.1 170 6 ≤ 2000 := by omega
                        clear hk50 hp50 hF49
                        refine wr_n (pc2 := 89) (lv2 := [(2, vi (((w14 + 1 : Nat) : Int))), (0, .ref 170), (1, vi deep)]) (st2 := [vi 0, .ref 170]) 3 (fun _ _ => rfl) ?_
                        refine wr_call1 (args := [vi 0]) (rest := []) rfl rfl rfl rfl (Nat.le_of_ble_eq_true rfl) (cr_mono (x_put (d := n + 399) (m := w32 + 1) (v := 0) hC _ hR50 hP53 (by unfold i32; omega) hm50 (by omega)) ?_)
                        rintro s55 out ⟨rfl, hc54, hR54, hBk54, hK54, hm54, hp54, hda54⟩
                        · refine ⟨_, rfl, ?_⟩
                          show wr (n + 400) tb_M143 92 [(2, vi (((w14 + 1 : Nat) : Int))), (0, .ref 170), (1, vi deep)] [vi (((w32 + 1 : Nat) : Int))] s55 _
                          obtain ⟨hu54, hk54⟩ := id hK54
                          have hB57 : BX C (gn y) s.1 s55.1 := BX_tr hC hB53 hBk54
                          have hP57 : PI C y s55.1 := PI_BX hC hP hB57
                          have hQ57 : CS s.1 s55.1 := CS_tr hQ53 (KC_CS hK54)
                          have hz57 : s55.2 = s.2 := hc54.trans hz53
                          have hF57 : s55.1 170 4 = s47.1 170 4 ∧ s55.1 170 5 = s47.1 170 5 ∧ s55.1 170 6 = s47.1 170 6 ∧ s55.1 170 7 = s47.1 170 7 ∧ s55.1 170 14 = s33.1 170 14 ∧ s55.1 170 16 = s33.1 170 16 ∧ s55.1 170 21 = s33.1 170 21 ∧ s55.1 C 3 = s33.1 C 3 ∧ s55.1 C 10 = s33.1 C 10 ∧ s33.1 170 5 + 4 ≤ s55.1 170 5 ∧ 0 ≤ s55.1 170 5 ∧ s55.1 170 5 ≤ s55.1 170 6 ∧ s55.1 170 6 ≤ 2000 := by omega
                          clear hk54 hp54 hF53
                          refine wr_n (pc2 := 94) (lv2 := [(3, vi (((w32 + 1 : Nat) : Int))), (2, vi (((w14 + 1 : Nat) : Int))), (0, .ref 170), (1, vi deep)]) (st2 := [.ref 170]) 2 (fun _ _ => rfl) ?_
                          refine wr_get (v := .ref C) rfl rfl rfl (by decide) (rv_ref (show s55.1 170 19 = ((C : Nat) : Int) from hP57.1)) fun h58 => ?_
                          show wr (n + 400) tb_M143 97 [(3, vi (((w32 + 1 : Nat) : Int))), (2, vi (((w14 + 1 : Nat) : Int))), (0, .ref 170), (1, vi deep)] [.ref C] s55 _
                          refine wr_get (v := .ref (C + 1)) rfl rfl (TG_C hC) (by decide) (rv_ref (hR54 C 0 (C + 1) (rc_C0 hC))) fun h59 => ?_
                          show wr (n + 400) tb_M143 100 [(3, vi (((w32 + 1 : Nat) : Int))), (2, vi (((w14 + 1 : Nat) : Int))), (0, .ref 170), (1, vi deep)] [.ref (C + 1)] s55 _
                          refine wr_n (pc2 := 102) (lv2 := [(3, vi (((w32 + 1 : Nat) : Int))), (2, vi (((w14 + 1 : Nat) : Int))), (0, .ref 170), (1, vi deep)]) (st2 := [.ref 170, vi (((w14 + 1 : Nat) : Int)), .ref (C + 1)]) 2 (fun _ _ => rfl) ?_
                          refine wr_get (v := .ref C) rfl rfl rfl (by decide) (rv_ref (show s55.1 170 19 = ((C : Nat) : Int) from hP57.1)) fun h60 => ?_
                          show wr (n + 400) tb_M143 105 [(3, vi (((w32 + 1 : Nat) : Int))), (2, vi (((w14 + 1 : Nat) : Int))), (0, .ref 170), (1, vi deep)] [.ref C, vi (((w14 + 1 : Nat) : Int)), .ref (C + 1)] s55 _
                          refine wr_get (v := vi (s55.1 C 1)) rfl rfl (TG_C hC) (by decide) rfl fun h61 => ?_
                          have h61 : -2147483648 ≤ s55.1 C 1 ∧ s55.1 C 1 ≤ 2147483647 := h61
                          show wr (n + 400) tb_M143 108 [(3, vi (((w32 + 1 : Nat) : Int))), (2, vi (((w14 + 1 : Nat) : Int))), (0, .ref 170), (1, vi deep)] [vi (s55.1 C 1), vi (((w14 + 1 : Nat) : Int)), .ref (C + 1)] s55 _
                          rw [hm54]
                          show wr (n + 400) tb_M143 108 [(3, vi (((w32 + 1 : Nat) : Int))), (2, vi (((w14 + 1 : Nat) : Int))), (0, .ref 170), (1, vi deep)] [vi (((w32 + 1 + 1 : Nat) : Int)), vi (((w14 + 1 : Nat) : Int)), .ref (C + 1)] s55 _
                          refine wr_ast (a := ((w14 + 1 : Nat) : Int)) (z := ((w32 + 1 + 1 : Nat) : Int)) rfl (show 96 ≤ C + 1 by omega) (TG_C1 hC) rfl (by omega) (by omega) (by decide) rfl (show -2147483648 ≤ ((w32 + 1 + 1 : Nat) : Int) ∧ ((w32 + 1 + 1 : Nat) : Int) ≤ 2147483647 by omega) ?_
                          show wr (n + 400) tb_M143 109 [(3, vi (((w32 + 1 : Nat) : Int))), (2, vi (((w14 + 1 : Nat) : Int))), (0, .ref 170), (1, vi deep)] [] (up2 s55.1 (C + 1) (w14 + 1) (((w32 + 1 + 1 : Nat) : Int)), s55.2) _
                          have hR62 : RF (up2 s55.1 (C + 1) (w14 + 1) (((w32 + 1 + 1 : Nat) : Int))) := (RF_up hR54 (PS_rc hC (by unfold PS; omega)))
                          obtain ⟨s63, hs63⟩ : ∃ qq9 : rS, qq9 = (up2 s55.1 (C + 1) (w14 + 1) (((w32 + 1 + 1 : Nat) : Int)), s55.2) := ⟨_, rfl⟩
                          rw [← hs63]
                          have hU63 : U1 (C + 1) (w14 + 1) s55.1 s63.1 := by rw [hs63]; exact U1_up
                          have hv63 : s63.1 (C + 1) (w14 + 1) = ((w32 + 1 + 1 : Nat) : Int) := by rw [hs63]; show up2 s55.1 (C + 1) (w14 + 1) (((w32 + 1 + 1 : Nat) : Int)) (C + 1) (w14 + 1) = _; exact up_self
                          have hk63 : s63.1 170 4 = s55.1 170 4 ∧ s63.1 170 5 = s55.1 170 5 ∧ s63.1 170 6 = s55.1 170 6 ∧ s63.1 170 7 = s55.1 170 7 ∧ s63.1 170 14 = s55.1 170 14 ∧ s63.1 170 16 = s55.1 170 16 ∧ s63.1 170 21 = s55.1 170 21 ∧ s63.1 C 1 = s55.1 C 1 ∧ s63.1 C 3 = s55.1 C 3 ∧ s63.1 C 10 = s55.1 C 10 := ⟨hU63 _ _ (by omega), hU63 _ _ (by omega), hU63 _ _ (by omega), hU63 _ _ (by omega), hU63 _ _ (by omega), hU63 _ _ (by omega), hU63 _ _ (by omega), hU63 _ _ (by omega), hU63 _ _ (by omega), hU63 _ _ (by omega)⟩
                          have hBs63 : BX C (gn y) s.1 s63.1 := by rw [hs63]; exact BX_set hC hB57 (by unfold SS; omega) (by unfold quiet; omega)
                          have hR63 : RF s63.1 := BX_RF hC hBs63 hR
                          have hc63 : s63.2 = s55.2 := by rw [hs63]
                          have hm63 : s63.1 C 1 = ((w32 + 1 + 1 : Nat) : Int) := by omega
                          have hB64 : BX C (gn y) s.1 s63.1 := hBs63
                          have hP64 : PI C y s63.1 := PI_BX hC hP hB64
                          have hQ64 : CS s.1 s63.1 := CS_tr hQ57 (CS_eq (hU63 170 26 (by omega)))
                          have hz64 : s63.2 = s.2 := hc63.trans hz57
                          have hF64 : s63.1 170 4 = s47.1 170 4 ∧ s63.1 170 5 = s47.1 170 5 ∧ s63.1 170 6 = s47.1 170 6 ∧ s63.1 170 7 = s47.1 170 7 ∧ s63.1 170 14 = s33.1 170 14 ∧ s63.1 170 16 = s33.1 170 16 ∧ s63.1 170 21 = s33.1 170 21 ∧ s63.1 C 3 = s33.1 C 3 ∧ s63.1 C 10 = s33.1 C 10 ∧ s33.1 170 5 + 4 ≤ s63.1 170 5 ∧ 0 ≤ s63.1 170 5 ∧ s63.1 170 5 ≤ s63.1 170 6 ∧ s63.1 170 6 ≤ 2000 := by omega
                          clear hk63 hF57
                          show wr (n + 400) tb_M143 109 [(3, vi (((w32 + 1 : Nat) : Int))), (2, vi (((w14 + 1 : Nat) : Int))), (0, .ref 170), (1, vi deep)] [] s63 _
                          refine wr_n (pc2 := 112) (lv2 := [(3, vi (((w32 + 1 : Nat) : Int))), (2, vi (((w14 + 1 : Nat) : Int))), (0, .ref 170), (1, vi deep)]) (st2 := [vi 1, vi deep, .ref 170]) 3 (fun _ _ => rfl) ?_
                          refine wr_add (a := deep) (b := 1) rfl ?_
                          show wr (n + 400) tb_M143 113 [(3, vi (((w32 + 1 : Nat) : Int))), (2, vi (((w14 + 1 : Nat) : Int))), (0, .ref 170), (1, vi deep)] [vi (deep + 1), .ref 170] s63 _
                          refine wr_call1 (args := [vi (deep + 1)]) (rest := []) rfl rfl rfl rfl (Nat.le_of_ble_eq_true rfl) (cr_mono (hSt C y (w32 + 1 + 1) k32 _ (deep + 1) hC hR63 hP64 (BX_mb hB64 hMB) hm63 (by unfold NS; omega) (by omega) trivial (by omega) hko) ?_)
                          rintro s66 out ⟨b, rfl, hc65, ⟨rfl, hF65⟩ | ⟨rfl, hR65, hBk65, hS65, hN65, w65, k65, hm65, hkk65, hE65⟩⟩
                          · refine ⟨_, rfl, ?_⟩
                            show wr (n + 400) tb_M143 116 [(3, vi (((w32 + 1 : Nat) : Int))), (2, vi (((w14 + 1 : Nat) : Int))), (0, .ref 170), (1, vi deep)] [vi 0] s66 _
                            refine wr_n (pc2 := 120) (lv2 := [(3, vi (((w32 + 1 : Nat) : Int))), (2, vi (((w14 + 1 : Nat) : Int))), (0, .ref 170), (1, vi deep)]) (st2 := [vi 0]) 2 (fun _ _ => rfl) ?_
                            refine wr_end (fun _ _ => rfl) ?_
                            exact ⟨0, rfl, hc65.trans hz64, Or.inl ⟨rfl, FR_tr (BX_FR hB64) hF65⟩⟩
                          · refine ⟨_, rfl, ?_⟩
                            show wr (n + 400) tb_M143 116 [(3, vi (((w32 + 1 : Nat) : Int))), (2, vi (((w14 + 1 : Nat) : Int))), (0, .ref 170), (1, vi deep)] [vi 1] s66 _
                            unfold NXS at hN65
                            have hB69 : BX C (gn y) s.1 s66.1 := BX_tr hC hB64 hBk65
                            have hP69 : PI C y s66.1 := PI_BX hC hP hB69
                            have hQ69 : CS s.1 s66.1 := CS_tr hQ64 hS65
                            have hz69 : s66.2 = s.2 := hc65.trans hz64
                            have hF69 := LX_nums hP69
                            refine wr_n (pc2 := 122) (lv2 := [(3, vi (((w32 + 1 : Nat) : Int))), (2, vi (((w14 + 1 : Nat) : Int))), (0, .ref 170), (1, vi deep)]) (st2 := [.ref 170]) 2 (fun _ _ => rfl) ?_
                            refine wr_get (v := .ref C) rfl rfl rfl (by decide) (rv_ref (show s66.1 170 19 = ((C : Nat) : Int) from hP69.1)) fun h70 => ?_
                            show wr (n + 400) tb_M143 125 [(3, vi (((w32 + 1 : Nat) : Int))), (2, vi (((w14 + 1 : Nat) : Int))), (0, .ref 170), (1, vi deep)] [.ref C] s66 _
                            refine wr_get (v := .ref (C + 1)) rfl rfl (TG_C hC) (by decide) (rv_ref (hR65 C 0 (C + 1) (rc_C0 hC))) fun h71 => ?_
                            show wr (n + 400) tb_M143 128 [(3, vi (((w32 + 1 : Nat) : Int))), (2, vi (((w14 + 1 : Nat) : Int))), (0, .ref 170), (1, vi deep)] [.ref (C + 1)] s66 _
                            refine wr_n (pc2 := 130) (lv2 := [(3, vi (((w32 + 1 : Nat) : Int))), (2, vi (((w14 + 1 : Nat) : Int))), (0, .ref 170), (1, vi deep)]) (st2 := [.ref 170, vi (((w32 + 1 : Nat) : Int)), .ref (C + 1)]) 2 (fun _ _ => rfl) ?_
                            refine wr_get (v := .ref C) rfl rfl rfl (by decide) (rv_ref (show s66.1 170 19 = ((C : Nat) : Int) from hP69.1)) fun h72 => ?_
                            show wr (n + 400) tb_M143 133 [(3, vi (((w32 + 1 : Nat) : Int))), (2, vi (((w14 + 1 : Nat) : Int))), (0, .ref 170), (1, vi deep)] [.ref C, vi (((w32 + 1 : Nat) : Int)), .ref (C + 1)] s66 _
                            refine wr_get (v := vi (s66.1 C 1)) rfl rfl (TG_C hC) (by decide) rfl fun h73 => ?_
                            have h73 : -2147483648 ≤ s66.1 C 1 ∧ s66.1 C 1 ≤ 2147483647 := h73
                            show wr (n + 400) tb_M143 136 [(3, vi (((w32 + 1 : Nat) : Int))), (2, vi (((w14 + 1 : Nat) : Int))), (0, .ref 170), (1, vi deep)] [vi (s66.1 C 1), vi (((w32 + 1 : Nat) : Int)), .ref (C + 1)] s66 _
                            rw [hm65]
                            show wr (n + 400) tb_M143 136 [(3, vi (((w32 + 1 : Nat) : Int))), (2, vi (((w14 + 1 : Nat) : Int))), (0, .ref 170), (1, vi deep)] [vi (((w65 : Nat) : Int)), vi (((w32 + 1 : Nat) : Int)), .ref (C + 1)] s66 _
                            refine wr_ast (a := ((w32 + 1 : Nat) : Int)) (z := ((w65 : Nat) : Int)) rfl (show 96 ≤ C + 1 by omega) (TG_C1 hC) rfl (by omega) (by omega) (by decide) rfl (show -2147483648 ≤ ((w65 : Nat) : Int) ∧ ((w65 : Nat) : Int) ≤ 2147483647 by omega) ?_
                            show wr (n + 400) tb_M143 137 [(3, vi (((w32 + 1 : Nat) : Int))), (2, vi (((w14 + 1 : Nat) : Int))), (0, .ref 170), (1, vi deep)] [] (up2 s66.1 (C + 1) (w32 + 1) (((w65 : Nat) : Int)), s66.2) _
                            have hR74 : RF (up2 s66.1 (C + 1) (w32 + 1) (((w65 : Nat) : Int))) := (RF_up hR65 (PS_rc hC (by unfold PS; omega)))
                            obtain ⟨s75, hs75⟩ : ∃ qq9 : rS, qq9 = (up2 s66.1 (C + 1) (w32 + 1) (((w65 : Nat) : Int)), s66.2) := ⟨_, rfl⟩
                            rw [← hs75]
                            have hU75 : U1 (C + 1) (w32 + 1) s66.1 s75.1 := by rw [hs75]; exact U1_up
                            have hv75 : s75.1 (C + 1) (w32 + 1) = ((w65 : Nat) : Int) := by rw [hs75]; show up2 s66.1 (C + 1) (w32 + 1) (((w65 : Nat) : Int)) (C + 1) (w32 + 1) = _; exact up_self
                            have hk75 : s75.1 170 4 = s66.1 170 4 ∧ s75.1 170 5 = s66.1 170 5 ∧ s75.1 170 6 = s66.1 170 6 ∧ s75.1 170 7 = s66.1 170 7 ∧ s75.1 170 14 = s66.1 170 14 ∧ s75.1 170 16 = s66.1 170 16 ∧ s75.1 170 21 = s66.1 170 21 ∧ s75.1 C 1 = s66.1 C 1 ∧ s75.1 C 3 = s66.1 C 3 ∧ s75.1 C 10 = s66.1 C 10 := ⟨hU75 _ _ (by omega), hU75 _ _ (by omega), hU75 _ _ (by omega), hU75 _ _ (by omega), hU75 _ _ (by omega), hU75 _ _ (by omega), hU75 _ _ (by omega), hU75 _ _ (by omega), hU75 _ _ (by omega), hU75 _ _ (by omega)⟩
                            have hBs75 : BX C (gn y) s.1 s75.1 := by rw [hs75]; exact BX_set hC hB69 (by unfold SS; omega) (by unfold quiet; omega)
                            have hR75 : RF s75.1 := BX_RF hC hBs75 hR
                            have hc75 : s75.2 = s66.2 := by rw [hs75]
                            have hm75 : s75.1 C 1 = ((w65 : Nat) : Int) := by omega
                            have hB76 : BX C (gn y) s.1 s75.1 := hBs75
                            have hP76 : PI C y s75.1 := PI_BX hC hP hB76
                            have hQ76 : CS s.1 s75.1 := CS_tr hQ69 (CS_eq (hU75 170 26 (by omega)))
                            have hz76 : s75.2 = s.2 := hc75.trans hz69
                            have hF76 : s75.1 170 4 = s66.1 170 4 ∧ s75.1 170 5 = s66.1 170 5 ∧ s75.1 170 6 = s66.1 170 6 ∧ s75.1 170 7 = s66.1 170 7 ∧ s75.1 170 14 = s66.1 170 14 ∧ s75.1 170 16 = s66.1 170 16 ∧ s75.1 170 21 = s66.1 170 21 ∧ s75.1 C 3 = s66.1 C 3 ∧ s75.1 C 10 = s66.1 C 10 ∧ s66.1 170 5 + 0 ≤ s75.1 170 5 ∧ 0 ≤ s75.1 170 5 ∧ s75.1 170 5 ≤ s75.1 170 6 ∧ s75.1 170 6 ≤ 2000 := by omega
                            clear hk75
                            show wr (n + 400) tb_M143 137 [(3, vi (((w32 + 1 : Nat) : Int))), (2, vi (((w14 + 1 : Nat) : Int))), (0, .ref 170), (1, vi deep)] [] s75 _
                            refine wr_n (pc2 := 157) (lv2 := [(3, vi (((w32 + 1 : Nat) : Int))), (2, vi (((w14 + 1 : Nat) : Int))), (0, .ref 170), (1, vi deep)]) (st2 := [vi 1]) 2 (fun _ _ => rfl) ?_
                            refine wr_end (fun _ _ => rfl) ?_
                            refine ⟨1, rfl, hz76, Or.inr ⟨rfl, hR75, hB76, hQ76, by unfold NXS; omega, w65, k65, hm75, by omega, ?_⟩⟩
                            intro hpar
                            exact (SG_seq (by omega) (by omega) (SG_part (((hU75 (C + 1) _ (by omega)).trans ((BX_code hC hBk65 (by omega)).trans ((hU63 (C + 1) _ (by omega)).trans (BX_code hC (BX_tr hC (BX_tr hC (BX_tr hC (BX_tr hC (BX_tr hC (BX_tr hC (BX_tr hC (BX_tr hC (BX_tr hC hBk5 hBk9) hBk14) hBk19) hBk24) hBk28) hBk32) hBk46) hBk50) hBk54) (by omega))))).trans hda1) (by omega)) (SH_seq (by omega) (by omega) (SG_SH (SG_mono (by omega) (SZ_E (CS_tr (CS_tr (CS_tr (CS_tr (CS_tr (CS_tr (CS_tr (CS_tr (CS_tr (KL_CS hK19) (KC_CS hK24)) (KC_CS hK28)) hS32) (KL_CS hK46)) (KC_CS hK50)) (KC_CS hK54)) (CS_eq (hU63 170 26 (by omega)))) hS65) (CS_eq (hU75 170 26 (by omega))))) (SG_agr (fun p hp1 hp => ((hU75 (C + 1) p (by omega)).trans ((BX_code hC hBk65 (by omega)).trans ((hU63 (C + 1) p (by omega)).trans (BX_code hC (BX_tr hC (BX_tr hC (BX_tr hC (BX_tr hC (BX_tr hC (BX_tr hC hBk19 hBk24) hBk28) hBk32) hBk46) hBk50) hBk54) (by omega)))))) (hE14 0 (by omega))))) (SH_unless2 (((hU75 (C + 1) _ (by omega)).trans ((BX_code hC hBk65 (by omega)).trans ((hU63 (C + 1) _ (by omega)).trans (BX_code hC (BX_tr hC (BX_tr hC (BX_tr hC (BX_tr hC hBk28 hBk32) hBk46) hBk50) hBk54) (by omega))))).trans hda24) (((hU75 (C + 1) _ (by omega)).trans (BX_code hC hBk65 (by omega))).trans hv63) (((hU75 (C + 1) _ (by omega)).trans ((BX_code hC hBk65 (by omega)).trans ((hU63 (C + 1) _ (by omega)).trans (BX_code hC hBk54 (by omega))))).trans hda50) hv75 (by omega) (by omega) (by omega) (SG_SH (SG_mono (by omega) (SZ_S (CS_tr (CS_tr (CS_tr (CS_tr (CS_tr (KL_CS hK46) (KC_CS hK50)) (KC_CS hK54)) (CS_eq (hU63 170 26 (by omega)))) hS65) (CS_eq (hU75 170 26 (by omega)))) (by omega) (by omega)) (SG_agr (fun p hp1 hp => ((hU75 (C + 1) p (by omega)).trans ((BX_code hC hBk65 (by omega)).trans ((hU63 (C + 1) p (by omega)).trans (BX_code hC (BX_tr hC (BX_tr hC hBk46 hBk50) hBk54) (by omega)))))) (hE32 (BX_po (BX_tr hC (BX_tr hC hBk46 hBk50) hBk54) (by rw [← hU63 170 21 (by omega)]; exact (BX_po hBk65 (by rw [← hU75 170 21 (by omega)]; exact hpar)))))))) (SG_SH (SG_mono (by omega) (SZ_S (CS_eq (hU75 170 26 (by omega))) (by omega) (by omega)) (SG_agr (fun p hp1 hp => (hU75 (C + 1) p (by omega))) (hE65 (by rw [← hU75 170 21 (by omega)]; exact hpar))))))))
