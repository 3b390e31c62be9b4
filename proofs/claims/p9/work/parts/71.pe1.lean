set_option maxRecDepth 100000 in
theorem c_signOf2 {d : Nat} (s : rS) (hR : RF s.1) (hL : LX s.1) (hk : s.1 170 5 < s.1 170 6) (h2 : s.1 170 6 - s.1 170 5 ≤ 2) : cr (d + 1) 152 [.ref 170] s (fun s2 out => ∃ z : Int, out = some (some (vi z)) ∧ i32 z ∧ s2 = s) := by
  obtain ⟨x0, x1, x2, x3, x4, x5, x6⟩ := id hL
  clear x5 x6
  refine cr_of (M := tb_M152) rfl (Nat.le_of_ble_eq_true rfl) ?_
  show wr d tb_M152 0 [(0, .ref 170)] [] s _
  refine wr_n (pc2 := 1) (lv2 := [(0, .ref 170)]) (st2 := [.ref 170]) 1 (fun _ _ => rfl) ?_
  refine wr_get (v := .ref 171) rfl rfl rfl (by decide) (rv_ref (hR 170 0 171 rfl)) fun h1 => ?_
  show wr d tb_M152 4 [(0, .ref 170)] [.ref 171] s _
  refine wr_n (pc2 := 5) (lv2 := [(0, .ref 170)]) (st2 := [.ref 170, .ref 171]) 1 (fun _ _ => rfl) ?_
  refine wr_get (v := vi (s.1 170 5)) rfl rfl rfl (by decide) rfl fun h2 => ?_
  have h2 : -2147483648 ≤ s.1 170 5 ∧ s.1 170 5 ≤ 2147483647 := h2
  show wr d tb_M152 8 [(0, .ref 170)] [vi (s.1 170 5), .ref 171] s _
  refine wr_ald (a := s.1 170 5) (v := vi (s.1 171 ((s.1 170 5).toNat))) rfl rfl rfl (by omega) (by omega) (by decide) rfl fun h3 => ?_
  have h3 : -128 ≤ s.1 171 ((s.1 170 5).toNat) ∧ s.1 171 ((s.1 170 5).toNat) ≤ 127 := h3
  show wr d tb_M152 9 [(0, .ref 170)] [vi (s.1 171 ((s.1 170 5).toNat))] s _
  refine wr_n (pc2 := 11) (lv2 := [(1, vi (s.1 171 ((s.1 170 5).toNat))), (0, .ref 170)]) (st2 := [.ref 170]) 2 (fun _ _ => rfl) ?_
  refine wr_get (v := vi (s.1 170 6)) rfl rfl rfl (by decide) rfl fun h4 => ?_
  have h4 : -2147483648 ≤ s.1 170 6 ∧ s.1 170 6 ≤ 2147483647 := h4
  show wr d tb_M152 14 [(1, vi (s.1 171 ((s.1 170 5).toNat))), (0, .ref 170)] [vi (s.1 170 6)] s _
  refine wr_n (pc2 := 15) (lv2 := [(1, vi (s.1 171 ((s.1 170 5).toNat))), (0, .ref 170)]) (st2 := [.ref 170, vi (s.1 170 6)]) 1 (fun _ _ => rfl) ?_
  refine wr_get (v := vi (s.1 170 5)) rfl rfl rfl (by decide) rfl fun h5 => ?_
  have h5 : -2147483648 ≤ s.1 170 5 ∧ s.1 170 5 ≤ 2147483647 := h5
  show wr d tb_M152 18 [(1, vi (s.1 171 ((s.1 170 5).toNat))), (0, .ref 170)] [vi (s.1 170 5), vi (s.1 170 6)] s _
  refine wr_sub (a := s.1 170 6) (b := s.1 170 5) rfl ?_
  show wr d tb_M152 19 [(1, vi (s.1 171 ((s.1 170 5).toNat))), (0, .ref 170)] [vi ((s.1 170 6) - (s.1 170 5))] s _
  refine wr_n (pc2 := 20) (lv2 := [(1, vi (s.1 171 ((s.1 170 5).toNat))), (0, .ref 170)]) (st2 := [vi 1, vi ((s.1 170 6) - (s.1 170 5))]) 1 (fun _ _ => rfl) ?_
  by_cases h6 : (s.1 170 6) - (s.1 170 5) ≠ 1
  · refine wr_if2t rfl rfl (by unfold i32; omega) (by unfold i32; omega) h6 ?_
    refine wr_n (pc2 := 31) (lv2 := [(1, vi (s.1 171 ((s.1 170 5).toNat))), (0, .ref 170)]) (st2 := [.ref 170, vi 256]) 2 (fun _ _ => rfl) ?_
    refine wr_get (v := .ref 171) rfl rfl rfl (by decide) (rv_ref (hR 170 0 171 rfl)) fun h7 => ?_
    show wr d tb_M152 34 [(1, vi (s.1 171 ((s.1 170 5).toNat))), (0, .ref 170)] [.ref 171, vi 256] s _
    refine wr_n (pc2 := 35) (lv2 := [(1, vi (s.1 171 ((s.1 170 5).toNat))), (0, .ref 170)]) (st2 := [.ref 170, .ref 171, vi 256]) 1 (fun _ _ => rfl) ?_
    refine wr_get (v := vi (s.1 170 5)) rfl rfl rfl (by decide) rfl fun h8 => ?_
    have h8 : -2147483648 ≤ s.1 170 5 ∧ s.1 170 5 ≤ 2147483647 := h8
    show wr d tb_M152 38 [(1, vi (s.1 171 ((s.1 170 5).toNat))), (0, .ref 170)] [vi (s.1 170 5), .ref 171, vi 256] s _
    refine wr_n (pc2 := 39) (lv2 := [(1, vi (s.1 171 ((s.1 170 5).toNat))), (0, .ref 170)]) (st2 := [vi 1, vi (s.1 170 5), .ref 171, vi 256]) 1 (fun _ _ => rfl) ?_
    refine wr_add (a := s.1 170 5) (b := 1) rfl ?_
    show wr d tb_M152 40 [(1, vi (s.1 171 ((s.1 170 5).toNat))), (0, .ref 170)] [vi (s.1 170 5 + 1), .ref 171, vi 256] s _
    refine wr_ald (a := s.1 170 5 + 1) (v := vi (s.1 171 ((s.1 170 5 + 1).toNat))) rfl rfl rfl (by omega) (by omega) (by decide) rfl fun h9 => ?_
    have h9 : -128 ≤ s.1 171 ((s.1 170 5 + 1).toNat) ∧ s.1 171 ((s.1 170 5 + 1).toNat) ≤ 127 := h9
    show wr d tb_M152 41 [(1, vi (s.1 171 ((s.1 170 5).toNat))), (0, .ref 170)] [vi (s.1 171 ((s.1 170 5 + 1).toNat)), vi 256] s _
    refine wr_mul (a := 256) (b := s.1 171 ((s.1 170 5 + 1).toNat)) rfl ?_
    show wr d tb_M152 42 [(1, vi (s.1 171 ((s.1 170 5).toNat))), (0, .ref 170)] [vi (256 * (s.1 171 ((s.1 170 5 + 1).toNat)))] s _
    refine wr_n (pc2 := 43) (lv2 := [(1, vi (s.1 171 ((s.1 170 5).toNat))), (0, .ref 170)]) (st2 := [vi (s.1 171 ((s.1 170 5).toNat)), vi (256 * (s.1 171 ((s.1 170 5 + 1).toNat)))]) 1 (fun _ _ => rfl) ?_
    refine wr_add (a := 256 * (s.1 171 ((s.1 170 5 + 1).toNat))) (b := s.1 171 ((s.1 170 5).toNat)) rfl ?_
    show wr d tb_M152 44 [(1, vi (s.1 171 ((s.1 170 5).toNat))), (0, .ref 170)] [vi (256 * (s.1 171 ((s.1 170 5 + 1).toNat)) + (s.1 171 ((s.1 170 5).toNat)))] s _
    refine wr_reti rfl rfl ?_
    exact ⟨_, rfl, by unfold i32; omega, rfl⟩
  · refine wr_if2f rfl rfl (by unfold i32; omega) (by unfold i32; omega) h6 ?_
    refine wr_n (pc2 := 44) (lv2 := [(1, vi (s.1 171 ((s.1 170 5).toNat))), (0, .ref 170)]) (st2 := [vi (s.1 171 ((s.1 170 5).toNat))]) 2 (fun _ _ => rfl) ?_
    refine wr_reti rfl rfl ?_
    exact ⟨_, rfl, by unfold i32; omega, rfl⟩
set_option maxRecDepth 100000 in
theorem p_unary {n : Nat} (hU : CU n) (hA : CA n) : CU (n + 1) := by
  intro C y m s deep hC hR hP hMB hm hN hd
  unfold NE at hN
  have hx0 := LX_nums hP
  have hgt := gt_of hP
  refine cr_of (M := tb_M145) rfl (Nat.le_of_ble_eq_true rfl) ?_
  show wr (n + 20) tb_M145 0 [(0, .ref 170), (1, vi deep)] [] s _
  have j36 : (1 ≤ s.1 170 4 ∧ s.1 170 5 < s.1 170 6) → wr (n + 20) tb_M145 36 [(0, .ref 170), (1, vi deep)] [] s (EP C y m 1 1 s) := by
    intro hj
    refine wr_n (pc2 := 39) (lv2 := [(0, .ref 170), (1, vi deep)]) (st2 := [vi 20, vi deep]) 2 (fun _ _ => rfl) ?_
    by_cases h1 : deep ≠ 20
    · refine wr_if2t rfl rfl (by unfold i32; omega) (by unfold i32; omega) h1 ?_
      refine wr_n (pc2 := 48) (lv2 := [(0, .ref 170), (1, vi deep)]) (st2 := [.ref 170]) 1 (fun _ _ => rfl) ?_
      refine wr_get (v := .ref 171) rfl rfl rfl (by decide) (rv_ref (hR 170 0 171 rfl)) fun h2 => ?_
      show wr (n + 20) tb_M145 51 [(0, .ref 170), (1, vi deep)] [.ref 171] s _
      refine wr_n (pc2 := 52) (lv2 := [(0, .ref 170), (1, vi deep)]) (st2 := [.ref 170, .ref 171]) 1 (fun _ _ => rfl) ?_
      refine wr_get (v := vi (s.1 170 5)) rfl rfl rfl (by decide) rfl fun h3 => ?_
      have h3 : -2147483648 ≤ s.1 170 5 ∧ s.1 170 5 ≤ 2147483647 := h3
      show wr (n + 20) tb_M145 55 [(0, .ref 170), (1, vi deep)] [vi (s.1 170 5), .ref 171] s _
      refine wr_ald (a := s.1 170 5) (v := vi (s.1 171 ((s.1 170 5).toNat))) rfl rfl rfl (by omega) (by omega) (by decide) rfl fun h4 => ?_
      have h4 : -128 ≤ s.1 171 ((s.1 170 5).toNat) ∧ s.1 171 ((s.1 170 5).toNat) ≤ 127 := h4
      show wr (n + 20) tb_M145 56 [(0, .ref 170), (1, vi deep)] [vi (s.1 171 ((s.1 170 5).toNat))] s _
      refine wr_n (pc2 := 58) (lv2 := [(2, vi (s.1 171 ((s.1 170 5).toNat))), (0, .ref 170), (1, vi deep)]) (st2 := [.ref 170]) 2 (fun _ _ => rfl) ?_
      refine wr_call1 (args := []) (rest := []) rfl rfl rfl rfl (Nat.le_of_ble_eq_true rfl) (cr_mono (x_step (d := n + 14) hC _ hR hP) ?_)
      rintro s6 out ⟨rfl, hc5, hR5, hBk5, hK5, hf5⟩
      · refine ⟨_, rfl, ?_⟩
        show wr (n + 20) tb_M145 61 [(2, vi (s.1 171 ((s.1 170 5).toNat))), (0, .ref 170), (1, vi deep)] [] s6 _
        obtain ⟨hu5, hk5⟩ := id hK5
        replace hf5 : s.1 170 5 + 1 ≤ s6.1 170 5 := Int.le_trans (LX_lt hP (by omega)) hf5
        have hm5 : s6.1 C 1 = ((m : Nat) : Int) := by omega
        have hP8 : PI C y s6.1 := PI_BX hC hP hBk5
        have hB8 : BX C (gn y) s.1 s6.1 := BX_tr hC (PI_rf hP) hBk5
        have hQ8 : CS s.1 s6.1 := CS_tr (CS_rf (r := s.1)) (KL_CS hK5)
        have hz8 : s6.2 = s.2 := hc5.trans rfl
        have hx8 := LX_nums hP8
        refine wr_n (pc2 := 64) (lv2 := [(2, vi (s.1 171 ((s.1 170 5).toNat))), (0, .ref 170), (1, vi deep)]) (st2 := [vi 1, vi deep, .ref 170]) 3 (fun _ _ => rfl) ?_
        refine wr_add (a := deep) (b := 1) rfl ?_
        show wr (n + 20) tb_M145 65 [(2, vi (s.1 171 ((s.1 170 5).toNat))), (0, .ref 170), (1, vi deep)] [vi (deep + 1), .ref 170] s6 _
        refine wr_call1 (args := [vi (deep + 1)]) (rest := []) rfl rfl rfl rfl (Nat.le_of_ble_eq_true rfl) (cr_mono (hU C y m _ (deep + 1) hC hR5 hP8 (BX_mb hB8 hMB) hm5 (by unfold NE; omega) (by omega)) ?_)
        rintro s10 out ⟨b, rfl, hc9, ⟨rfl, hF9⟩ | ⟨rfl, hR9, hBk9, hS9, hN9, hV9, w9, hm9, hE9⟩⟩
        · refine ⟨_, rfl, ?_⟩
          show wr (n + 20) tb_M145 68 [(2, vi (s.1 171 ((s.1 170 5).toNat))), (0, .ref 170), (1, vi deep)] [vi 0] s10 _
          refine wr_n (pc2 := 72) (lv2 := [(2, vi (s.1 171 ((s.1 170 5).toNat))), (0, .ref 170), (1, vi deep)]) (st2 := [vi 0]) 2 (fun _ _ => rfl) ?_
          refine wr_end (fun _ _ => rfl) ?_
          exact ⟨0, rfl, hc9.trans hz8, Or.inl ⟨rfl, FR_tr (BX_FR hB8) hF9⟩⟩
        · refine ⟨_, rfl, ?_⟩
          show wr (n + 20) tb_M145 68 [(2, vi (s.1 171 ((s.1 170 5).toNat))), (0, .ref 170), (1, vi deep)] [vi 1] s10 _
          unfold NXE at hN9
          have hP13 : PI C y s10.1 := PI_BX hC hP8 hBk9
          have hB13 : BX C (gn y) s.1 s10.1 := BX_tr hC hB8 hBk9
          have hQ13 : CS s.1 s10.1 := CS_tr hQ8 hS9
          have hz13 : s10.2 = s.2 := hc9.trans hz8
          have hx13 := LX_nums hP13
          refine wr_n (pc2 := 74) (lv2 := [(2, vi (s.1 171 ((s.1 170 5).toNat))), (0, .ref 170), (1, vi deep)]) (st2 := [.ref 170]) 2 (fun _ _ => rfl) ?_
          refine wr_call1 (args := []) (rest := []) rfl rfl rfl rfl (Nat.le_of_ble_eq_true rfl) (cr_mono (x_part (d := n + 18) (m := w9) hC _ hR9 hP13 hm9 (by omega) (by omega)) ?_)
          rintro s15 out ⟨rfl, hc14, hR14, hBk14, hK14, hm14, hp14, hda14⟩
          · refine ⟨_, rfl, ?_⟩
            show wr (n + 20) tb_M145 77 [(2, vi (s.1 171 ((s.1 170 5).toNat))), (0, .ref 170), (1, vi deep)] [] s15 _
            obtain ⟨hu14, hk14⟩ := id hK14
            have hP17 : PI C y s15.1 := PI_BX hC hP13 hBk14
            have hB17 : BX C (gn y) s.1 s15.1 := BX_tr hC hB13 hBk14
            have hQ17 : CS s.1 s15.1 := CS_tr hQ13 (KC_CS hK14)
            have hz17 : s15.2 = s.2 := hc14.trans hz13
            have hx17 := LX_nums hP17
            refine wr_n (pc2 := 81) (lv2 := [(2, vi (s.1 171 ((s.1 170 5).toNat))), (0, .ref 170), (1, vi deep)]) (st2 := [vi (s.1 171 ((s.1 170 5).toNat)), vi 8, .ref 170]) 3 (fun _ _ => rfl) ?_
            refine wr_call1 (args := [vi 8, vi (s.1 171 ((s.1 170 5).toNat))]) (rest := []) rfl rfl rfl rfl (Nat.le_of_ble_eq_true rfl) (cr_mono (x_put2 (d := n + 18) (m := w9 + 1) (op := 8) (v := s.1 171 ((s.1 170 5).toNat)) hC _ hR14 hP17 (by unfold i32; omega) (by unfold i32; omega) hm14 (by omega)) ?_)
            rintro s19 out ⟨rfl, hc18, hR18, hBk18, hK18, hm18, hp18, hda18, hdb18⟩
            · refine ⟨_, rfl, ?_⟩
              show wr (n + 20) tb_M145 84 [(2, vi (s.1 171 ((s.1 170 5).toNat))), (0, .ref 170), (1, vi deep)] [] s19 _
              obtain ⟨hu18, hk18⟩ := id hK18
              have hP21 : PI C y s19.1 := PI_BX hC hP17 hBk18
              have hB21 : BX C (gn y) s.1 s19.1 := BX_tr hC hB17 hBk18
              have hQ21 : CS s.1 s19.1 := CS_tr hQ17 (KC_CS hK18)
              have hz21 : s19.2 = s.2 := hc18.trans hz17
              have hx21 := LX_nums hP21
              refine wr_n (pc2 := 85) (lv2 := [(2, vi (s.1 171 ((s.1 170 5).toNat))), (0, .ref 170), (1, vi deep)]) (st2 := [vi 1]) 1 (fun _ _ => rfl) ?_
              refine wr_end (fun _ _ => rfl) ?_
              refine ⟨1, rfl, hz21, Or.inr ⟨rfl, hR18, hB21, hQ21, by unfold NXE; omega, by omega, w9 + 1 + 2, hm18, ?_⟩⟩
              intro h0 hh0
              exact (SG_seq (by omega) (by omega) (SG_mono (by omega) (ZM_CS (CS_tr (KC_CS hK14) (KC_CS hK18))) (SG_agr (fun p _ hp => BX_code hC (BX_tr hC hBk14 hBk18) (by omega)) (hE9 h0 (by omega)))) (SH_seq (by omega) (by omega) (SG_SH (SG_part ((BX_code hC hBk18 (by omega)).trans hda14) (by omega))) (SH_turn hda18 (by omega))))
    · refine wr_if2f rfl rfl (by unfold i32; omega) (by unfold i32; omega) h1 ?_
      refine wr_n (pc2 := 43) (lv2 := [(0, .ref 170), (1, vi deep)]) (st2 := [.ref 170]) 1 (fun _ _ => rfl) ?_
      refine wr_call1 (args := []) (rest := []) rfl rfl rfl rfl (Nat.le_of_ble_eq_true rfl) (cr_mono (x_bad0 (C := C) (d := n + 18) _ hR) ?_)
      rintro s23 out ⟨rfl, hc22, hF22⟩
      · refine ⟨_, rfl, ?_⟩
        show wr (n + 20) tb_M145 46 [(0, .ref 170), (1, vi deep)] [vi 0] s23 _
        refine wr_end (fun _ _ => rfl) ?_
        exact ⟨0, rfl, hc22.trans rfl, Or.inl ⟨rfl, FR_tr (BX_FR (PI_rf hP)) hF22⟩⟩
  refine wr_n (pc2 := 4) (lv2 := [(0, .ref 170), (1, vi deep)]) (st2 := [.ref 38, .ref 170]) 2 (fun _ _ => rfl) ?_
  refine wr_call1 (args := [.ref 38]) (rest := []) rfl rfl rfl rfl (Nat.le_of_ble_eq_true rfl) (cr_mono (c_is (d := n + 15) isT_38 _ hR (LX_of hP)) ?_)
  rintro s26 out ⟨b, rfl, rfl | ⟨rfl, hj25, hl25⟩, he25⟩
  · refine ⟨_, rfl, ?_⟩
    rw [he25]
    show wr (n + 20) tb_M145 7 [(0, .ref 170), (1, vi deep)] [vi 0] s _
    refine wr_n (pc2 := 14) (lv2 := [(0, .ref 170), (1, vi deep)]) (st2 := [.ref 40, .ref 170]) 3 (fun _ _ => rfl) ?_
    refine wr_call1 (args := [.ref 40]) (rest := []) rfl rfl rfl rfl (Nat.le_of_ble_eq_true rfl) (cr_mono (c_is (d := n + 15) isT_40 _ hR (LX_of hP)) ?_)
    rintro s28 out ⟨b, rfl, rfl | ⟨rfl, hj27, hl27⟩, he27⟩
    · refine ⟨_, rfl, ?_⟩
      rw [he27]
      show wr (n + 20) tb_M145 17 [(0, .ref 170), (1, vi deep)] [vi 0] s _
      refine wr_n (pc2 := 24) (lv2 := [(0, .ref 170), (1, vi deep)]) (st2 := [.ref 42, .ref 170]) 3 (fun _ _ => rfl) ?_
      refine wr_call1 (args := [.ref 42]) (rest := []) rfl rfl rfl rfl (Nat.le_of_ble_eq_true rfl) (cr_mono (c_is (d := n + 15) isT_42 _ hR (LX_of hP)) ?_)
      rintro s30 out ⟨b, rfl, rfl | ⟨rfl, hj29, hl29⟩, he29⟩
      · refine ⟨_, rfl, ?_⟩
        rw [he29]
        show wr (n + 20) tb_M145 27 [(0, .ref 170), (1, vi deep)] [vi 0] s _
        refine wr_n (pc2 := 32) (lv2 := [(0, .ref 170), (1, vi deep)]) (st2 := [vi deep, .ref 170]) 3 (fun _ _ => rfl) ?_
        refine wr_call1 (args := [vi deep]) (rest := []) rfl rfl rfl rfl (Nat.le_of_ble_eq_true rfl) (cr_mono (hA C y m _ deep hC hR hP (BX_mb (PI_rf hP) hMB) hm (by unfold NE; omega) (by omega)) ?_)
        rintro s32 out ⟨b, rfl, hc31, ⟨rfl, hF31⟩ | ⟨rfl, hR31, hBk31, hS31, hN31, hV31, w31, hm31, hE31⟩⟩
        · refine ⟨_, rfl, ?_⟩
          show wr (n + 20) tb_M145 35 [(0, .ref 170), (1, vi deep)] [vi 0] s32 _
          refine wr_end (fun _ _ => rfl) ?_
          exact ⟨0, rfl, hc31.trans rfl, Or.inl ⟨rfl, FR_tr (BX_FR (PI_rf hP)) hF31⟩⟩
        · refine ⟨_, rfl, ?_⟩
          show wr (n + 20) tb_M145 35 [(0, .ref 170), (1, vi deep)] [vi 1] s32 _
          unfold NXE at hN31
          have hP35 : PI C y s32.1 := PI_BX hC hP hBk31
          have hB35 : BX C (gn y) s.1 s32.1 := BX_tr hC (PI_rf hP) hBk31
          have hQ35 : CS s.1 s32.1 := CS_tr (CS_rf (r := s.1)) hS31
          have hz35 : s32.2 = s.2 := hc31.trans rfl
          have hx35 := LX_nums hP35
          refine wr_end (fun _ _ => rfl) ?_
          refine ⟨1, rfl, hz35, Or.inr ⟨rfl, hR31, hB35, hQ35, by unfold NXE; omega, by omega, w31, hm31, ?_⟩⟩
          intro h0 hh0
          exact (SG_mono (by omega) (ZM_CS (CS_rf (r := s32.1))) (hE31 h0 (by omega)))
      · refine ⟨_, rfl, ?_⟩
        rw [he29]
        show wr (n + 20) tb_M145 27 [(0, .ref 170), (1, vi deep)] [vi 1] s _
        have hg29 : 1 ≤ s.1 170 4 ∧ s.1 170 5 + 1 = s.1 170 6 := ⟨by omega, hl29⟩
        clear hj29 hl29
        refine wr_n (pc2 := 36) (lv2 := [(0, .ref 170), (1, vi deep)]) (st2 := []) 1 (fun _ _ => rfl) ?_
        exact j36 (by omega)
    · refine ⟨_, rfl, ?_⟩
      rw [he27]
      show wr (n + 20) tb_M145 17 [(0, .ref 170), (1, vi deep)] [vi 1] s _
      have hg27 : 1 ≤ s.1 170 4 ∧ s.1 170 5 + 1 = s.1 170 6 := ⟨by omega, hl27⟩
      clear hj27 hl27
      refine wr_n (pc2 := 36) (lv2 := [(0, .ref 170), (1, vi deep)]) (st2 := []) 1 (fun _ _ => rfl) ?_
      exact j36 (by omega)
  · refine ⟨_, rfl, ?_⟩
    rw [he25]
    show wr (n + 20) tb_M145 7 [(0, .ref 170), (1, vi deep)] [vi 1] s _
    have hg25 : 1 ≤ s.1 170 4 ∧ s.1 170 5 + 1 = s.1 170 6 := ⟨by omega, hl25⟩
    clear hj25 hl25
    refine wr_n (pc2 := 36) (lv2 := [(0, .ref 170), (1, vi deep)]) (st2 := []) 1 (fun _ _ => rfl) ?_
    exact j36 (by omega)
set_option maxRecDepth 100000 in
theorem p_expr {n : Nat} (hX : CX n) (hU : CU n) : CX (n + 1) := by
  intro C y m s lev deep hC hR hP hMB hm hN hd
  unfold NE at hN
  have hx0 := LX_nums hP
  have hgt := gt_of hP
  have loop : ∀ (q : Nat) (t : rS) (mt : Nat) (g : Int), (2000 - t.1 170 5).toNat = q → RF t.1 → PI C y t.1 → BX C (gn y) s.1 t.1 → CS s.1 t.1 → t.2 = s.2 → NXE C s.1 t.1 → t.1 C 1 = (mt : Int) → EC C y m mt 1 1 s.1 t.1 → lev ≤ 9 → wr (n + 20) tb_M144 25 [(3, vi g), (0, .ref 170), (1, vi lev), (2, vi deep)] [] t (EP C y m 1 1 s) := by
    intro q
    induction q using Nat.strongRecOn with | ind q ih => ?_
    intro t mt g hq htR htP htB htC ht2 htN htm htE hl9
    unfold NXE at htN
    have hx1 := LX_nums htP
    refine wr_n (pc2 := 26) (lv2 := [(3, vi g), (0, .ref 170), (1, vi lev), (2, vi deep)]) (st2 := [.ref 170]) 1 (fun _ _ => rfl) ?_
    refine wr_call1 (args := []) (rest := []) rfl rfl rfl rfl (Nat.le_of_ble_eq_true rfl) (cr_mono (c_levelOf (d := n + 14) _ htR (LX_of htP)) ?_)
    rintro s4 out ⟨z1, rfl, h2, e3⟩
    refine ⟨_, rfl, ?_⟩
    rw [e3]
    show wr (n + 20) tb_M144 29 [(3, vi g), (0, .ref 170), (1, vi lev), (2, vi deep)] [vi z1] t _
    refine wr_n (pc2 := 30) (lv2 := [(3, vi g), (0, .ref 170), (1, vi lev), (2, vi deep)]) (st2 := [vi lev, vi z1]) 1 (fun _ _ => rfl) ?_
    by_cases h5 : z1 ≠ lev
    · refine wr_if2t rfl rfl (by unfold i32; omega) (by unfold i32; omega) h5 ?_
      refine wr_n (pc2 := 70) (lv2 := [(3, vi g), (0, .ref 170), (1, vi lev), (2, vi deep)]) (st2 := [vi 1]) 1 (fun _ _ => rfl) ?_
      refine wr_end (fun _ _ => rfl) ?_
      exact ⟨1, rfl, ht2, Or.inr ⟨rfl, htR, htB, htC, by unfold NXE; omega, by omega, mt, htm, htE⟩⟩
    · refine wr_if2f rfl rfl (by unfold i32; omega) (by unfold i32; omega) h5 ?_
      refine wr_n (pc2 := 34) (lv2 := [(3, vi g), (0, .ref 170), (1, vi lev), (2, vi deep)]) (st2 := [.ref 170]) 1 (fun _ _ => rfl) ?_
      refine wr_call1 (args := []) (rest := []) rfl rfl rfl rfl (Nat.le_of_ble_eq_true rfl) (cr_mono (c_signOf2 (d := n + 19) _ htR (LX_of htP) (LX_lt htP (by omega)) (by omega)) ?_)
      rintro s9 out ⟨z6, rfl, h7, e8⟩
      refine ⟨_, rfl, ?_⟩
      rw [e8]
      show wr (n + 20) tb_M144 37 [(3, vi g), (0, .ref 170), (1, vi lev), (2, vi deep)] [vi z6] t _
      unfold i32 at h7
      refine wr_n (pc2 := 39) (lv2 := [(3, vi z6), (0, .ref 170), (1, vi lev), (2, vi deep)]) (st2 := [.ref 170]) 2 (fun _ _ => rfl) ?_
      refine wr_call1 (args := []) (rest := []) rfl rfl rfl rfl (Nat.le_of_ble_eq_true rfl) (cr_mono (x_step (d := n + 14) hC _ htR htP) ?_)
      rintro s11 out ⟨rfl, hc10, hR10, hBk10, hK10, hf10⟩
      · refine ⟨_, rfl, ?_⟩
        show wr (n + 20) tb_M144 42 [(3, vi z6), (0, .ref 170), (1, vi lev), (2, vi deep)] [] s11 _
        obtain ⟨hu10, hk10⟩ := id hK10
        replace hf10 : t.1 170 5 + 1 ≤ s11.1 170 5 := Int.le_trans (LX_lt htP (by omega)) hf10
        have hm10 : s11.1 C 1 = ((mt : Nat) : Int) := by omega
        have hP13 : PI C y s11.1 := PI_BX hC htP hBk10
        have hB13 : BX C (gn y) s.1 s11.1 := BX_tr hC htB hBk10
        have hQ13 : CS s.1 s11.1 := CS_tr htC (KL_CS hK10)
        have hz13 : s11.2 = s.2 := hc10.trans ht2
        have hx13 := LX_nums hP13
        refine wr_n (pc2 := 45) (lv2 := [(3, vi z6), (0, .ref 170), (1, vi lev), (2, vi deep)]) (st2 := [vi 1, vi lev, .ref 170]) 3 (fun _ _ => rfl) ?_
        refine wr_add (a := lev) (b := 1) rfl ?_
        show wr (n + 20) tb_M144 46 [(3, vi z6), (0, .ref 170), (1, vi lev), (2, vi deep)] [vi (lev + 1), .ref 170] s11 _
        refine wr_n (pc2 := 47) (lv2 := [(3, vi z6), (0, .ref 170), (1, vi lev), (2, vi deep)]) (st2 := [vi deep, vi (lev + 1), .ref 170]) 1 (fun _ _ => rfl) ?_
        refine wr_call1 (args := [vi (lev + 1), vi deep]) (rest := []) rfl rfl rfl rfl (Nat.le_of_ble_eq_true rfl) (cr_mono (hX C y mt _ (lev + 1) deep hC hR10 hP13 (BX_mb hB13 hMB) hm10 (by unfold NE; omega) (by omega)) ?_)
        rintro s15 out ⟨b, rfl, hc14, ⟨rfl, hF14⟩ | ⟨rfl, hR14, hBk14, hS14, hN14, hV14, w14, hm14, hE14⟩⟩
        · refine ⟨_, rfl, ?_⟩
          show wr (n + 20) tb_M144 50 [(3, vi z6), (0, .ref 170), (1, vi lev), (2, vi deep)] [vi 0] s15 _
          refine wr_n (pc2 := 54) (lv2 := [(3, vi z6), (0, .ref 170), (1, vi lev), (2, vi deep)]) (st2 := [vi 0]) 2 (fun _ _ => rfl) ?_
          refine wr_end (fun _ _ => rfl) ?_
          exact ⟨0, rfl, hc14.trans hz13, Or.inl ⟨rfl, FR_tr (BX_FR hB13) hF14⟩⟩
        · refine ⟨_, rfl, ?_⟩
          show wr (n + 20) tb_M144 50 [(3, vi z6), (0, .ref 170), (1, vi lev), (2, vi deep)] [vi 1] s15 _
          unfold NXE at hN14
          have hP18 : PI C y s15.1 := PI_BX hC hP13 hBk14
          have hB18 : BX C (gn y) s.1 s15.1 := BX_tr hC hB13 hBk14
          have hQ18 : CS s.1 s15.1 := CS_tr hQ13 hS14
          have hz18 : s15.2 = s.2 := hc14.trans hz13
          have hx18 := LX_nums hP18
          refine wr_n (pc2 := 56) (lv2 := [(3, vi z6), (0, .ref 170), (1, vi lev), (2, vi deep)]) (st2 := [.ref 170]) 2 (fun _ _ => rfl) ?_
          refine wr_call1 (args := []) (rest := []) rfl rfl rfl rfl (Nat.le_of_ble_eq_true rfl) (cr_mono (x_part (d := n + 18) (m := w14) hC _ hR14 hP18 hm14 (by omega) (by omega)) ?_)
          rintro s20 out ⟨rfl, hc19, hR19, hBk19, hK19, hm19, hp19, hda19⟩
          · refine ⟨_, rfl, ?_⟩
            show wr (n + 20) tb_M144 59 [(3, vi z6), (0, .ref 170), (1, vi lev), (2, vi deep)] [] s20 _
            obtain ⟨hu19, hk19⟩ := id hK19
            have hP22 : PI C y s20.1 := PI_BX hC hP18 hBk19
            have hB22 : BX C (gn y) s.1 s20.1 := BX_tr hC hB18 hBk19
            have hQ22 : CS s.1 s20.1 := CS_tr hQ18 (KC_CS hK19)
            have hz22 : s20.2 = s.2 := hc19.trans hz18
            have hx22 := LX_nums hP22
            refine wr_n (pc2 := 63) (lv2 := [(3, vi z6), (0, .ref 170), (1, vi lev), (2, vi deep)]) (st2 := [vi z6, vi 7, .ref 170]) 3 (fun _ _ => rfl) ?_
            refine wr_call1 (args := [vi 7, vi z6]) (rest := []) rfl rfl rfl rfl (Nat.le_of_ble_eq_true rfl) (cr_mono (x_put2 (d := n + 18) (m := w14 + 1) (op := 7) (v := z6) hC _ hR19 hP22 (by unfold i32; omega) (by unfold i32; omega) hm19 (by omega)) ?_)
            rintro s24 out ⟨rfl, hc23, hR23, hBk23, hK23, hm23, hp23, hda23, hdb23⟩
            · refine ⟨_, rfl, ?_⟩
              show wr (n + 20) tb_M144 66 [(3, vi z6), (0, .ref 170), (1, vi lev), (2, vi deep)] [] s24 _
              obtain ⟨hu23, hk23⟩ := id hK23
              have hP26 : PI C y s24.1 := PI_BX hC hP22 hBk23
              have hB26 : BX C (gn y) s.1 s24.1 := BX_tr hC hB22 hBk23
              have hQ26 : CS s.1 s24.1 := CS_tr hQ22 (KC_CS hK23)
              have hz26 : s24.2 = s.2 := hc23.trans hz22
              have hx26 := LX_nums hP26
              refine wr_n (pc2 := 25) (lv2 := [(3, vi z6), (0, .ref 170), (1, vi lev), (2, vi deep)]) (st2 := []) 1 (fun _ _ => rfl) ?_
              refine ih _ ?_ _ _ _ rfl hR23 hP26 hB26 hQ26 hz26 (by unfold NXE; omega) hm23 ?_ (by omega)
              · omega
              · intro h0 hh0
                exact (SG_seq (by omega) (by omega) (SG_mono (by omega) (ZM_CS (CS_tr (CS_tr (CS_tr (KL_CS hK10) hS14) (KC_CS hK19)) (KC_CS hK23))) (SG_agr (fun p _ hp => BX_code hC (BX_tr hC (BX_tr hC (BX_tr hC hBk10 hBk14) hBk19) hBk23) (by omega)) (htE h0 hh0))) (SH_seq (by omega) (by omega) (SG_SH (SG_mono (by omega) (ZM_CS (CS_tr (KC_CS hK19) (KC_CS hK23))) (SG_agr (fun p _ hp => BX_code hC (BX_tr hC hBk19 hBk23) (by omega)) (hE14 (h0 + 1) (by omega))))) (SH_seq (by omega) (by omega) (SG_SH (SG_part ((BX_code hC hBk23 (by omega)).trans hda19) (by omega))) (SH_sign hda23 (by omega)))))
  have loop1 : ∀ (t : rS) (mt : Nat), RF t.1 → PI C y t.1 → BX C (gn y) s.1 t.1 → CS s.1 t.1 → t.2 = s.2 → NXE C s.1 t.1 → t.1 C 1 = (mt : Int) → EC C y m mt 1 1 s.1 t.1 → lev ≤ 9 → wr (n + 20) tb_M144 25 [(0, .ref 170), (1, vi lev), (2, vi deep)] [] t (EP C y m 1 1 s) := by
    intro t mt htR htP htB htC ht2 htN htm htE hl9
    unfold NXE at htN
    have hx1 := LX_nums htP
    refine wr_n (pc2 := 26) (lv2 := [(0, .ref 170), (1, vi lev), (2, vi deep)]) (st2 := [.ref 170]) 1 (fun _ _ => rfl) ?_
    refine wr_call1 (args := []) (rest := []) rfl rfl rfl rfl (Nat.le_of_ble_eq_true rfl) (cr_mono (c_levelOf (d := n + 14) _ htR (LX_of htP)) ?_)
    rintro s4 out ⟨z1, rfl, h2, e3⟩
    refine ⟨_, rfl, ?_⟩
    rw [e3]
    show wr (n + 20) tb_M144 29 [(0, .ref 170), (1, vi lev), (2, vi deep)] [vi z1] t _
    refine wr_n (pc2 := 30) (lv2 := [(0, .ref 170), (1, vi lev), (2, vi deep)]) (st2 := [vi lev, vi z1]) 1 (fun _ _ => rfl) ?_
    by_cases h5 : z1 ≠ lev
    · refine wr_if2t rfl rfl (by unfold i32; omega) (by unfold i32; omega) h5 ?_
      refine wr_n (pc2 := 70) (lv2 := [(0, .ref 170), (1, vi lev), (2, vi deep)]) (st2 := [vi 1]) 1 (fun _ _ => rfl) ?_
      refine wr_end (fun _ _ => rfl) ?_
      exact ⟨1, rfl, ht2, Or.inr ⟨rfl, htR, htB, htC, by unfold NXE; omega, by omega, mt, htm, htE⟩⟩
    · refine wr_if2f rfl rfl (by unfold i32; omega) (by unfold i32; omega) h5 ?_
      refine wr_n (pc2 := 34) (lv2 := [(0, .ref 170), (1, vi lev), (2, vi deep)]) (st2 := [.ref 170]) 1 (fun _ _ => rfl) ?_
      refine wr_call1 (args := []) (rest := []) rfl rfl rfl rfl (Nat.le_of_ble_eq_true rfl) (cr_mono (c_signOf2 (d := n + 19) _ htR (LX_of htP) (LX_lt htP (by omega)) (by omega)) ?_)
      rintro s9 out ⟨z6, rfl, h7, e8⟩
      refine ⟨_, rfl, ?_⟩
      rw [e8]
      show wr (n + 20) tb_M144 37 [(0, .ref 170), (1, vi lev), (2, vi deep)] [vi z6] t _
      unfold i32 at h7
      refine wr_n (pc2 := 39) (lv2 := [(3, vi z6), (0, .ref 170), (1, vi lev), (2, vi deep)]) (st2 := [.ref 170]) 2 (fun _ _ => rfl) ?_
      refine wr_call1 (args := []) (rest := []) rfl rfl rfl rfl (Nat.le_of_ble_eq_true rfl) (cr_mono (x_step (d := n + 14) hC _ htR htP) ?_)
      rintro s11 out ⟨rfl, hc10, hR10, hBk10, hK10, hf10⟩
      · refine ⟨_, rfl, ?_⟩
        show wr (n + 20) tb_M144 42 [(3, vi z6), (0, .ref 170), (1, vi lev), (2, vi deep)] [] s11 _
        obtain ⟨hu10, hk10⟩ := id hK10
        replace hf10 : t.1 170 5 + 1 ≤ s11.1 170 5 := Int.le_trans (LX_lt htP (by omega)) hf10
        have hm10 : s11.1 C 1 = ((mt : Nat) : Int) := by omega
        have hP13 : PI C y s11.1 := PI_BX hC htP hBk10
        have hB13 : BX C (gn y) s.1 s11.1 := BX_tr hC htB hBk10
        have hQ13 : CS s.1 s11.1 := CS_tr htC (KL_CS hK10)
        have hz13 : s11.2 = s.2 := hc10.trans ht2
        have hx13 := LX_nums hP13
        refine wr_n (pc2 := 45) (lv2 := [(3, vi z6), (0, .ref 170), (1, vi lev), (2, vi deep)]) (st2 := [vi 1, vi lev, .ref 170]) 3 (fun _ _ => rfl) ?_
        refine wr_add (a := lev) (b := 1) rfl ?_
        show wr (n + 20) tb_M144 46 [(3, vi z6), (0, .ref 170), (1, vi lev), (2, vi deep)] [vi (lev + 1), .ref 170] s11 _
        refine wr_n (pc2 := 47) (lv2 := [(3, vi z6), (0, .ref 170), (1, vi lev), (2, vi deep)]) (st2 := [vi deep, vi (lev + 1), .ref 170]) 1 (fun _ _ => rfl) ?_
        refine wr_call1 (args := [vi (lev + 1), vi deep]) (rest := []) rfl rfl rfl rfl (Nat.le_of_ble_eq_true rfl) (cr_mono (hX C y mt _ (lev + 1) deep hC hR10 hP13 (BX_mb hB13 hMB) hm10 (by unfold NE; omega) (by omega)) ?_)
        rintro s15 out ⟨b, rfl, hc14, ⟨rfl, hF14⟩ | ⟨rfl, hR14, hBk14, hS14, hN14, hV14, w14, hm14, hE14⟩⟩
        · refine ⟨_, rfl, ?_⟩
          show wr (n + 20) tb_M144 50 [(3, vi z6), (0, .ref 170), (1, vi lev), (2, vi deep)] [vi 0] s15 _
          refine wr_n (pc2 := 54) (lv2 := [(3, vi z6), (0, .ref 170), (1, vi lev), (2, vi deep)]) (st2 := [vi 0]) 2 (fun _ _ => rfl) ?_
          refine wr_end (fun _ _ => rfl) ?_
          exact ⟨0, rfl, hc14.trans hz13, Or.inl ⟨rfl, FR_tr (BX_FR hB13) hF14⟩⟩
        · refine ⟨_, rfl, ?_⟩
          show wr (n + 20) tb_M144 50 [(3, vi z6), (0, .ref 170), (1, vi lev), (2, vi deep)] [vi 1] s15 _
          unfold NXE at hN14
          have hP18 : PI C y s15.1 := PI_BX hC hP13 hBk14
          have hB18 : BX C (gn y) s.1 s15.1 := BX_tr hC hB13 hBk14
          have hQ18 : CS s.1 s15.1 := CS_tr hQ13 hS14
          have hz18 : s15.2 = s.2 := hc14.trans hz13
          have hx18 := LX_nums hP18
          refine wr_n (pc2 := 56) (lv2 := [(3, vi z6), (0, .ref 170), (1, vi lev), (2, vi deep)]) (st2 := [.ref 170]) 2 (fun _ _ => rfl) ?_
          refine wr_call1 (args := []) (rest := []) rfl rfl rfl rfl (Nat.le_of_ble_eq_true rfl) (cr_mono (x_part (d := n + 18) (m := w14) hC _ hR14 hP18 hm14 (by omega) (by omega)) ?_)
          rintro s20 out ⟨rfl, hc19, hR19, hBk19, hK19, hm19, hp19, hda19⟩
          · refine ⟨_, rfl, ?_⟩
            show wr (n + 20) tb_M144 59 [(3, vi z6), (0, .ref 170), (1, vi lev), (2, vi deep)] [] s20 _
            obtain ⟨hu19, hk19⟩ := id hK19
            have hP22 : PI C y s20.1 := PI_BX hC hP18 hBk19
            have hB22 : BX C (gn y) s.1 s20.1 := BX_tr hC hB18 hBk19
            have hQ22 : CS s.1 s20.1 := CS_tr hQ18 (KC_CS hK19)
            have hz22 : s20.2 = s.2 := hc19.trans hz18
            have hx22 := LX_nums hP22
            refine wr_n (pc2 := 63) (lv2 := [(3, vi z6), (0, .ref 170), (1, vi lev), (2, vi deep)]) (st2 := [vi z6, vi 7, .ref 170]) 3 (fun _ _ => rfl) ?_
            refine wr_call1 (args := [vi 7, vi z6]) (rest := []) rfl rfl rfl rfl (Nat.le_of_ble_eq_true rfl) (cr_mono (x_put2 (d := n + 18) (m := w14 + 1) (op := 7) (v := z6) hC _ hR19 hP22 (by unfold i32; omega) (by unfold i32; omega) hm19 (by omega)) ?_)
            rintro s24 out ⟨rfl, hc23, hR23, hBk23, hK23, hm23, hp23, hda23, hdb23⟩
            · refine ⟨_, rfl, ?_⟩
              show wr (n + 20) tb_M144 66 [(3, vi z6), (0, .ref 170), (1, vi lev), (2, vi deep)] [] s24 _
              obtain ⟨hu23, hk23⟩ := id hK23
              have hP26 : PI C y s24.1 := PI_BX hC hP22 hBk23
              have hB26 : BX C (gn y) s.1 s24.1 := BX_tr hC hB22 hBk23
              have hQ26 : CS s.1 s24.1 := CS_tr hQ22 (KC_CS hK23)
              have hz26 : s24.2 = s.2 := hc23.trans hz22
              have hx26 := LX_nums hP26
              refine wr_n (pc2 := 25) (lv2 := [(3, vi z6), (0, .ref 170), (1, vi lev), (2, vi deep)]) (st2 := []) 1 (fun _ _ => rfl) ?_
              refine loop _ _ _ _ rfl hR23 hP26 hB26 hQ26 hz26 (by unfold NXE; omega) hm23 ?_ (by omega)
              · intro h0 hh0
                exact (SG_seq (by omega) (by omega) (SG_mono (by omega) (ZM_CS (CS_tr (CS_tr (CS_tr (KL_CS hK10) hS14) (KC_CS hK19)) (KC_CS hK23))) (SG_agr (fun p _ hp => BX_code hC (BX_tr hC (BX_tr hC (BX_tr hC hBk10 hBk14) hBk19) hBk23) (by omega)) (htE h0 hh0))) (SH_seq (by omega) (by omega) (SG_SH (SG_mono (by omega) (ZM_CS (CS_tr (KC_CS hK19) (KC_CS hK23))) (SG_agr (fun p _ hp => BX_code hC (BX_tr hC hBk19 hBk23) (by omega)) (hE14 (h0 + 1) (by omega))))) (SH_seq (by omega) (by omega) (SG_SH (SG_part ((BX_code hC hBk23 (by omega)).trans hda19) (by omega))) (SH_sign hda23 (by omega)))))
  refine cr_of (M := tb_M144) rfl (Nat.le_of_ble_eq_true rfl) ?_
  show wr (n + 20) tb_M144 0 [(0, .ref 170), (1, vi lev), (2, vi deep)] [] s _
  refine wr_n (pc2 := 3) (lv2 := [(0, .ref 170), (1, vi lev), (2, vi deep)]) (st2 := [vi 9, vi lev]) 2 (fun _ _ => rfl) ?_
  by_cases h1 : lev ≤ 9
  · refine wr_if2t rfl rfl (by unfold i32; omega) (by unfold i32; omega) h1 ?_
    refine wr_n (pc2 := 15) (lv2 := [(0, .ref 170), (1, vi lev), (2, vi deep)]) (st2 := [vi 1, vi lev, .ref 170]) 3 (fun _ _ => rfl) ?_
    refine wr_add (a := lev) (b := 1) rfl ?_
    show wr (n + 20) tb_M144 16 [(0, .ref 170), (1, vi lev), (2, vi deep)] [vi (lev + 1), .ref 170] s _
    refine wr_n (pc2 := 17) (lv2 := [(0, .ref 170), (1, vi lev), (2, vi deep)]) (st2 := [vi deep, vi (lev + 1), .ref 170]) 1 (fun _ _ => rfl) ?_
    refine wr_call1 (args := [vi (lev + 1), vi deep]) (rest := []) rfl rfl rfl rfl (Nat.le_of_ble_eq_true rfl) (cr_mono (hX C y m _ (lev + 1) deep hC hR hP (BX_mb (PI_rf hP) hMB) hm (by unfold NE; omega) (by omega)) ?_)
    rintro s3 out ⟨b, rfl, hc2, ⟨rfl, hF2⟩ | ⟨rfl, hR2, hBk2, hS2, hN2, hV2, w2, hm2, hE2⟩⟩
    · refine ⟨_, rfl, ?_⟩
      show wr (n + 20) tb_M144 20 [(0, .ref 170), (1, vi lev), (2, vi deep)] [vi 0] s3 _
      refine wr_n (pc2 := 24) (lv2 := [(0, .ref 170), (1, vi lev), (2, vi deep)]) (st2 := [vi 0]) 2 (fun _ _ => rfl) ?_
      refine wr_end (fun _ _ => rfl) ?_
      exact ⟨0, rfl, hc2.trans rfl, Or.inl ⟨rfl, FR_tr (BX_FR (PI_rf hP)) hF2⟩⟩
    · refine ⟨_, rfl, ?_⟩
      show wr (n + 20) tb_M144 20 [(0, .ref 170), (1, vi lev), (2, vi deep)] [vi 1] s3 _
      unfold NXE at hN2
      have hP6 : PI C y s3.1 := PI_BX hC hP hBk2
      have hB6 : BX C (gn y) s.1 s3.1 := BX_tr hC (PI_rf hP) hBk2
      have hQ6 : CS s.1 s3.1 := CS_tr (CS_rf (r := s.1)) hS2
      have hz6 : s3.2 = s.2 := hc2.trans rfl
      have hx6 := LX_nums hP6
      refine wr_n (pc2 := 25) (lv2 := [(0, .ref 170), (1, vi lev), (2, vi deep)]) (st2 := []) 1 (fun _ _ => rfl) ?_
      exact loop1 _ _ hR2 hP6 hB6 hQ6 hz6 (by unfold NXE; omega) hm2 hE2 (by omega)
  · refine wr_if2f rfl rfl (by unfold i32; omega) (by unfold i32; omega) h1 ?_
    refine wr_n (pc2 := 8) (lv2 := [(0, .ref 170), (1, vi lev), (2, vi deep)]) (st2 := [vi deep, .ref 170]) 2 (fun _ _ => rfl) ?_
    refine wr_call1 (args := [vi deep]) (rest := []) rfl rfl rfl rfl (Nat.le_of_ble_eq_true rfl) (cr_mono (hU C y m _ deep hC hR hP (BX_mb (PI_rf hP) hMB) hm (by unfold NE; omega) (by omega)) ?_)
    rintro s8 out ⟨b, rfl, hc7, ⟨rfl, hF7⟩ | ⟨rfl, hR7, hBk7, hS7, hN7, hV7, w7, hm7, hE7⟩⟩
    · refine ⟨_, rfl, ?_⟩
      show wr (n + 20) tb_M144 11 [(0, .ref 170), (1, vi lev), (2, vi deep)] [vi 0] s8 _
      refine wr_end (fun _ _ => rfl) ?_
      exact ⟨0, rfl, hc7.trans rfl, Or.inl ⟨rfl, FR_tr (BX_FR (PI_rf hP)) hF7⟩⟩
    · refine ⟨_, rfl, ?_⟩
      show wr (n + 20) tb_M144 11 [(0, .ref 170), (1, vi lev), (2, vi deep)] [vi 1] s8 _
      unfold NXE at hN7
      have hP11 : PI C y s8.1 := PI_BX hC hP hBk7
      have hB11 : BX C (gn y) s.1 s8.1 := BX_tr hC (PI_rf hP) hBk7
      have hQ11 : CS s.1 s8.1 := CS_tr (CS_rf (r := s.1)) hS7
      have hz11 : s8.2 = s.2 := hc7.trans rfl
      have hx11 := LX_nums hP11
      refine wr_end (fun _ _ => rfl) ?_
      refine ⟨1, rfl, hz11, Or.inr ⟨rfl, hR7, hB11, hQ11, by unfold NXE; omega, by omega, w7, hm7, ?_⟩⟩
      intro h0 hh0
      exact (SG_mono (by omega) (ZM_CS (CS_rf (r := s8.1))) (hE7 h0 (by omega)))
