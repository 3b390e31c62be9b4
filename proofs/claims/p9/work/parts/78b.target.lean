set_option maxRecDepth 100000 in
theorem p_target {n : Nat} (hX : CX 340) : CTg n := by
  intro C y m s k w a deep hC hR hP hMB hm hN hd
  have hx0 := LX_nums hP
  have hgt := gt_of hP
  have hlt := LX_lt hP (by omega)
  have hnm := (NM_of hP).2.1
  have hd4 := hd.2.2.2.2.1
  unfold i32 at hd4
  refine cr_of (M := tb_M157) rfl (Nat.le_of_ble_eq_true rfl) ?_
  show wr (n + 379) tb_M157 0 [(0, .ref 170), (1, vi ((k : Int))), (2, vi a), (3, vi deep)] [] s _
  refine wr_n (pc2 := 1) (lv2 := [(0, .ref 170), (1, vi ((k : Int))), (2, vi a), (3, vi deep)]) (st2 := [.ref 170]) 1 (fun _ _ => rfl) ?_
  refine wr_call1 (args := []) (rest := []) rfl rfl rfl rfl (Nat.le_of_ble_eq_true rfl) (cr_mono (x_step (d := n + 373) hC _ hR hP) ?_)
  rintro s2 out ⟨rfl, hc1, hR1, hBk1, hK1, hf1⟩
  · refine ⟨_, rfl, ?_⟩
    show wr (n + 379) tb_M157 4 [(0, .ref 170), (1, vi ((k : Int))), (2, vi a), (3, vi deep)] [] s2 _
    obtain ⟨hu1, hk1⟩ := id hK1
    replace hf1 : s.1 170 5 + 1 ≤ s2.1 170 5 := Int.le_trans (LX_lt hP (by omega)) hf1
    have hm1 : s2.1 C 1 = ((m : Nat) : Int) := by omega
    have hB4 : BX C (gn y) s.1 s2.1 := BX_tr hC (PI_rf hP) hBk1
    have hP4 : PI C y s2.1 := PI_BX hC hP hB4
    have hQ4 : CS s.1 s2.1 := CS_tr (CS_rf (r := s.1)) (KL_CS hK1)
    have hz4 : s2.2 = s.2 := hc1.trans rfl
    have hx4 := LX_nums hP4
    have hF4 : s.1 170 5 + 1 ≤ s2.1 170 5 ∧ s2.1 170 14 = s.1 170 14 ∧ s2.1 170 16 = s.1 170 16 ∧ s2.1 170 21 = s.1 170 21 ∧ s2.1 C 3 = s.1 C 3 ∧ s2.1 C 10 = s.1 C 10 ∧ 0 ≤ s2.1 170 5 ∧ s2.1 170 5 ≤ s2.1 170 6 ∧ s2.1 170 6 ≤ 2000 := by omega
    clear hk1 hf1 hx4
    have hw5 : s2.1 174 k = s.1 174 k := hB4.1 174 k (by unfold SS; omega)
    refine wr_n (pc2 := 5) (lv2 := [(0, .ref 170), (1, vi ((k : Int))), (2, vi a), (3, vi deep)]) (st2 := [.ref 170]) 1 (fun _ _ => rfl) ?_
    refine wr_get (v := vi (s2.1 170 37)) rfl rfl rfl (by decide) rfl fun h6 => ?_
    have h6 : 0 ≤ s2.1 170 37 ∧ s2.1 170 37 ≤ 1 := h6
    show wr (n + 379) tb_M157 8 [(0, .ref 170), (1, vi ((k : Int))), (2, vi a), (3, vi deep)] [vi (s2.1 170 37)] s2 _
    by_cases h7 : s2.1 170 37 = 0
    · refine wr_if1t rfl rfl (by unfold i32; omega) h7 ?_
      refine wr_n (pc2 := 42) (lv2 := [(0, .ref 170), (1, vi ((k : Int))), (2, vi a), (3, vi deep)]) (st2 := [.ref 170, .ref 170]) 2 (fun _ _ => rfl) ?_
      refine wr_get (v := vl (s2.1 170 22)) rfl rfl rfl (by decide) rfl fun h8 => ?_
      show wr (n + 379) tb_M157 45 [(0, .ref 170), (1, vi ((k : Int))), (2, vi a), (3, vi deep)] [vl (s2.1 170 22), .ref 170] s2 _
      refine wr_n (pc2 := 47) (lv2 := [(0, .ref 170), (1, vi ((k : Int))), (2, vi a), (3, vi deep)]) (st2 := [.ref 170, vl 1, vl (s2.1 170 22), .ref 170]) 2 (fun _ _ => rfl) ?_
      refine wr_get (v := .ref 174) rfl rfl rfl (by decide) (rv_ref (hR1 170 11 174 rfl)) fun h9 => ?_
      show wr (n + 379) tb_M157 50 [(0, .ref 170), (1, vi ((k : Int))), (2, vi a), (3, vi deep)] [.ref 174, vl 1, vl (s2.1 170 22), .ref 170] s2 _
      refine wr_n (pc2 := 51) (lv2 := [(0, .ref 170), (1, vi ((k : Int))), (2, vi a), (3, vi deep)]) (st2 := [vi ((k : Int)), .ref 174, vl 1, vl (s2.1 170 22), .ref 170]) 1 (fun _ _ => rfl) ?_
      refine wr_ald (a := (k : Int)) (v := vi (s2.1 174 k)) rfl rfl rfl (by omega) (by omega) (by decide) rfl fun h10 => ?_
      have h10 : -2147483648 ≤ s2.1 174 k ∧ s2.1 174 k ≤ 2147483647 := h10
      show wr (n + 379) tb_M157 52 [(0, .ref 170), (1, vi ((k : Int))), (2, vi a), (3, vi deep)] [vi (s2.1 174 k), vl 1, vl (s2.1 170 22), .ref 170] s2 _
      refine wr_n (pc2 := 53) (lv2 := [(0, .ref 170), (1, vi ((k : Int))), (2, vi a), (3, vi deep)]) (st2 := [vi 1, vi (s2.1 174 k), vl 1, vl (s2.1 170 22), .ref 170]) 1 (fun _ _ => rfl) ?_
      by_cases h11 : s2.1 174 k ≠ 1
      · refine wr_if2t rfl rfl (by unfold i32; omega) (by unfold i32; omega) h11 ?_
        refine wr_n (pc2 := 63) (lv2 := [(0, .ref 170), (1, vi ((k : Int))), (2, vi a), (3, vi deep)]) (st2 := [.ref 170, vi 0, vl 1, vl (s2.1 170 22), .ref 170]) 2 (fun _ _ => rfl) ?_
        refine wr_get (v := .ref 175) rfl rfl rfl (by decide) (rv_ref (hR1 170 12 175 rfl)) fun h12 => ?_
        show wr (n + 379) tb_M157 66 [(0, .ref 170), (1, vi ((k : Int))), (2, vi a), (3, vi deep)] [.ref 175, vi 0, vl 1, vl (s2.1 170 22), .ref 170] s2 _
        refine wr_n (pc2 := 67) (lv2 := [(0, .ref 170), (1, vi ((k : Int))), (2, vi a), (3, vi deep)]) (st2 := [vi ((k : Int)), .ref 175, vi 0, vl 1, vl (s2.1 170 22), .ref 170]) 1 (fun _ _ => rfl) ?_
        refine wr_ald (a := (k : Int)) (v := vi (s2.1 175 k)) rfl rfl rfl (by omega) (by omega) (by decide) rfl fun h13 => ?_
        have h13 : -2147483648 ≤ s2.1 175 k ∧ s2.1 175 k ≤ 2147483647 := h13
        show wr (n + 379) tb_M157 68 [(0, .ref 170), (1, vi ((k : Int))), (2, vi a), (3, vi deep)] [vi (s2.1 175 k), vi 0, vl 1, vl (s2.1 170 22), .ref 170] s2 _
        refine wr_add (a := 0) (b := s2.1 175 k) rfl ?_
        show wr (n + 379) tb_M157 69 [(0, .ref 170), (1, vi ((k : Int))), (2, vi a), (3, vi deep)] [vi (0 + (s2.1 175 k)), vl 1, vl (s2.1 170 22), .ref 170] s2 _
        refine wr_lshl (a := 1) (b := 0 + (s2.1 175 k)) rfl fun z14 h15 h16 => ?_
        show wr (n + 379) tb_M157 70 [(0, .ref 170), (1, vi ((k : Int))), (2, vi a), (3, vi deep)] [vl z14, vl (s2.1 170 22), .ref 170] s2 _
        refine wr_lor (a := s2.1 170 22) (b := z14) rfl fun z17 h18 h19 => ?_
        show wr (n + 379) tb_M157 71 [(0, .ref 170), (1, vi ((k : Int))), (2, vi a), (3, vi deep)] [vl z17, .ref 170] s2 _
        refine wr_put (z := z17) rfl rfl rfl rfl (by decide) rfl (by decide) rfl h18 (fit_l _) ?_
        show wr (n + 379) tb_M157 74 [(0, .ref 170), (1, vi ((k : Int))), (2, vi a), (3, vi deep)] [] (up2 s2.1 170 22 z17, s2.2) _
        have hR20 : RF (up2 s2.1 170 22 z17) := (RF_up hR1 rfl)
        obtain ⟨s21, hs21⟩ : ∃ qq9 : rS, qq9 = (up2 s2.1 170 22 z17, s2.2) := ⟨_, rfl⟩
        rw [← hs21]
        have hK21 : KM s2.1 s21.1 := by rw [hs21]; exact (KM_up KM_rf (by omega))
        have hk21 := KM_nums hC hK21
        have hM21 : True ∧ (MB (gn y) (s2.1 170 26) → MB (gn y) (s21.1 170 26)) := by rw [hs21]; exact (show True ∧ (MB (gn y) (s2.1 170 26) → MB (gn y) (s2.1 170 26)) from ⟨trivial, id⟩)
        have hBk21 : BX C (gn y) s2.1 s21.1 := BX_KM hC hP4 hK21 hM21
        have hS21 : CS s2.1 s21.1 := by rw [hs21]; exact CS_rf (r := s2.1)
        have hR21 : RF s21.1 := BX_RF hC hBk21 hR1
        have hc21 : s21.2 = s2.2 := by rw [hs21]
        have hm21 : s21.1 C 1 = ((m : Nat) : Int) := by omega
        have hB22 : BX C (gn y) s.1 s21.1 := BX_tr hC hB4 hBk21
        have hP22 : PI C y s21.1 := PI_BX hC hP hB22
        have hQ22 : CS s.1 s21.1 := CS_tr hQ4 hS21
        have hz22 : s21.2 = s.2 := hc21.trans hz4
        have hF22 : s21.1 170 4 = s2.1 170 4 ∧ s21.1 170 5 = s2.1 170 5 ∧ s21.1 170 6 = s2.1 170 6 ∧ s21.1 170 7 = s2.1 170 7 ∧ s21.1 170 14 = s.1 170 14 ∧ s21.1 170 16 = s.1 170 16 ∧ s21.1 170 21 = s.1 170 21 ∧ s21.1 C 3 = s.1 C 3 ∧ s21.1 C 10 = s.1 C 10 ∧ s.1 170 5 + 1 ≤ s21.1 170 5 ∧ 0 ≤ s21.1 170 5 ∧ s21.1 170 5 ≤ s21.1 170 6 ∧ s21.1 170 6 ≤ 2000 := by omega
        clear hF4
        show wr (n + 379) tb_M157 74 [(0, .ref 170), (1, vi ((k : Int))), (2, vi a), (3, vi deep)] [] s21 _
        have hw23 : s21.1 174 k = s.1 174 k := hB22.1 174 k (by unfold SS; omega)
        refine wr_n (pc2 := 75) (lv2 := [(0, .ref 170), (1, vi ((k : Int))), (2, vi a), (3, vi deep)]) (st2 := [.ref 170]) 1 (fun _ _ => rfl) ?_
        refine wr_get (v := .ref 174) rfl rfl rfl (by decide) (rv_ref (hR21 170 11 174 rfl)) fun h24 => ?_
        show wr (n + 379) tb_M157 78 [(0, .ref 170), (1, vi ((k : Int))), (2, vi a), (3, vi deep)] [.ref 174] s21 _
        refine wr_n (pc2 := 79) (lv2 := [(0, .ref 170), (1, vi ((k : Int))), (2, vi a), (3, vi deep)]) (st2 := [vi ((k : Int)), .ref 174]) 1 (fun _ _ => rfl) ?_
        refine wr_ald (a := (k : Int)) (v := vi (s21.1 174 k)) rfl rfl rfl (by omega) (by omega) (by decide) rfl fun h25 => ?_
        have h25 : -2147483648 ≤ s21.1 174 k ∧ s21.1 174 k ≤ 2147483647 := h25
        show wr (n + 379) tb_M157 80 [(0, .ref 170), (1, vi ((k : Int))), (2, vi a), (3, vi deep)] [vi (s21.1 174 k)] s21 _
        refine wr_if1f rfl rfl (by unfold i32; omega) (by show ¬ (s21.1 174 k ≠ 0); omega) ?_
        show wr (n + 379) tb_M157 83 [(0, .ref 170), (1, vi ((k : Int))), (2, vi a), (3, vi deep)] [] s21 _
        refine wr_n (pc2 := 84) (lv2 := [(0, .ref 170), (1, vi ((k : Int))), (2, vi a), (3, vi deep)]) (st2 := [vi 1]) 1 (fun _ _ => rfl) ?_
        refine wr_end (fun _ _ => rfl) ?_
        refine ⟨1, rfl, hz22, Or.inr ⟨rfl, hR21, hB22, hQ22, by unfold NXE; omega, m, hm21, ?_⟩⟩
        intro h0 hh0
        rw [show w = 0 by omega]
        exact SH_nil
      · refine wr_if2f rfl rfl (by unfold i32; omega) (by unfold i32; omega) h11 ?_
        refine wr_n (pc2 := 63) (lv2 := [(0, .ref 170), (1, vi ((k : Int))), (2, vi a), (3, vi deep)]) (st2 := [.ref 170, vi 24, vl 1, vl (s2.1 170 22), .ref 170]) 3 (fun _ _ => rfl) ?_
        refine wr_get (v := .ref 175) rfl rfl rfl (by decide) (rv_ref (hR1 170 12 175 rfl)) fun h26 => ?_
        show wr (n + 379) tb_M157 66 [(0, .ref 170), (1, vi ((k : Int))), (2, vi a), (3, vi deep)] [.ref 175, vi 24, vl 1, vl (s2.1 170 22), .ref 170] s2 _
        refine wr_n (pc2 := 67) (lv2 := [(0, .ref 170), (1, vi ((k : Int))), (2, vi a), (3, vi deep)]) (st2 := [vi ((k : Int)), .ref 175, vi 24, vl 1, vl (s2.1 170 22), .ref 170]) 1 (fun _ _ => rfl) ?_
        refine wr_ald (a := (k : Int)) (v := vi (s2.1 175 k)) rfl rfl rfl (by omega) (by omega) (by decide) rfl fun h27 => ?_
        have h27 : -2147483648 ≤ s2.1 175 k ∧ s2.1 175 k ≤ 2147483647 := h27
        show wr (n + 379) tb_M157 68 [(0, .ref 170), (1, vi ((k : Int))), (2, vi a), (3, vi deep)] [vi (s2.1 175 k), vi 24, vl 1, vl (s2.1 170 22), .ref 170] s2 _
        refine wr_add (a := 24) (b := s2.1 175 k) rfl ?_
        show wr (n + 379) tb_M157 69 [(0, .ref 170), (1, vi ((k : Int))), (2, vi a), (3, vi deep)] [vi (24 + (s2.1 175 k)), vl 1, vl (s2.1 170 22), .ref 170] s2 _
        refine wr_lshl (a := 1) (b := 24 + (s2.1 175 k)) rfl fun z28 h29 h30 => ?_
        show wr (n + 379) tb_M157 70 [(0, .ref 170), (1, vi ((k : Int))), (2, vi a), (3, vi deep)] [vl z28, vl (s2.1 170 22), .ref 170] s2 _
        refine wr_lor (a := s2.1 170 22) (b := z28) rfl fun z31 h32 h33 => ?_
        show wr (n + 379) tb_M157 71 [(0, .ref 170), (1, vi ((k : Int))), (2, vi a), (3, vi deep)] [vl z31, .ref 170] s2 _
        refine wr_put (z := z31) rfl rfl rfl rfl (by decide) rfl (by decide) rfl h32 (fit_l _) ?_
        show wr (n + 379) tb_M157 74 [(0, .ref 170), (1, vi ((k : Int))), (2, vi a), (3, vi deep)] [] (up2 s2.1 170 22 z31, s2.2) _
        have hR34 : RF (up2 s2.1 170 22 z31) := (RF_up hR1 rfl)
        obtain ⟨s35, hs35⟩ : ∃ qq9 : rS, qq9 = (up2 s2.1 170 22 z31, s2.2) := ⟨_, rfl⟩
        rw [← hs35]
        have hK35 : KM s2.1 s35.1 := by rw [hs35]; exact (KM_up KM_rf (by omega))
        have hk35 := KM_nums hC hK35
        have hM35 : True ∧ (MB (gn y) (s2.1 170 26) → MB (gn y) (s35.1 170 26)) := by rw [hs35]; exact (show True ∧ (MB (gn y) (s2.1 170 26) → MB (gn y) (s2.1 170 26)) from ⟨trivial, id⟩)
        have hBk35 : BX C (gn y) s2.1 s35.1 := BX_KM hC hP4 hK35 hM35
        have hS35 : CS s2.1 s35.1 := by rw [hs35]; exact CS_rf (r := s2.1)
        have hR35 : RF s35.1 := BX_RF hC hBk35 hR1
        have hc35 : s35.2 = s2.2 := by rw [hs35]
        have hm35 : s35.1 C 1 = ((m : Nat) : Int) := by omega
        have hB36 : BX C (gn y) s.1 s35.1 := BX_tr hC hB4 hBk35
        have hP36 : PI C y s35.1 := PI_BX hC hP hB36
        have hQ36 : CS s.1 s35.1 := CS_tr hQ4 hS35
        have hz36 : s35.2 = s.2 := hc35.trans hz4
        have hF36 : s35.1 170 4 = s2.1 170 4 ∧ s35.1 170 5 = s2.1 170 5 ∧ s35.1 170 6 = s2.1 170 6 ∧ s35.1 170 7 = s2.1 170 7 ∧ s35.1 170 14 = s.1 170 14 ∧ s35.1 170 16 = s.1 170 16 ∧ s35.1 170 21 = s.1 170 21 ∧ s35.1 C 3 = s.1 C 3 ∧ s35.1 C 10 = s.1 C 10 ∧ s.1 170 5 + 1 ≤ s35.1 170 5 ∧ 0 ≤ s35.1 170 5 ∧ s35.1 170 5 ≤ s35.1 170 6 ∧ s35.1 170 6 ≤ 2000 := by omega
        clear hF4
        show wr (n + 379) tb_M157 74 [(0, .ref 170), (1, vi ((k : Int))), (2, vi a), (3, vi deep)] [] s35 _
        have hw37 : s35.1 174 k = s.1 174 k := hB36.1 174 k (by unfold SS; omega)
        refine wr_n (pc2 := 75) (lv2 := [(0, .ref 170), (1, vi ((k : Int))), (2, vi a), (3, vi deep)]) (st2 := [.ref 170]) 1 (fun _ _ => rfl) ?_
        refine wr_get (v := .ref 174) rfl rfl rfl (by decide) (rv_ref (hR35 170 11 174 rfl)) fun h38 => ?_
        show wr (n + 379) tb_M157 78 [(0, .ref 170), (1, vi ((k : Int))), (2, vi a), (3, vi deep)] [.ref 174] s35 _
        refine wr_n (pc2 := 79) (lv2 := [(0, .ref 170), (1, vi ((k : Int))), (2, vi a), (3, vi deep)]) (st2 := [vi ((k : Int)), .ref 174]) 1 (fun _ _ => rfl) ?_
        refine wr_ald (a := (k : Int)) (v := vi (s35.1 174 k)) rfl rfl rfl (by omega) (by omega) (by decide) rfl fun h39 => ?_
        have h39 : -2147483648 ≤ s35.1 174 k ∧ s35.1 174 k ≤ 2147483647 := h39
        show wr (n + 379) tb_M157 80 [(0, .ref 170), (1, vi ((k : Int))), (2, vi a), (3, vi deep)] [vi (s35.1 174 k)] s35 _
        refine wr_if1t rfl rfl (by unfold i32; omega) (by show s35.1 174 k ≠ 0; omega) ?_
        show wr (n + 379) tb_M157 85 [(0, .ref 170), (1, vi ((k : Int))), (2, vi a), (3, vi deep)] [] s35 _
        refine wr_n (pc2 := 87) (lv2 := [(0, .ref 170), (1, vi ((k : Int))), (2, vi a), (3, vi deep)]) (st2 := [vi 1, vi deep]) 2 (fun _ _ => rfl) ?_
        refine wr_add (a := deep) (b := 1) rfl ?_
        show wr (n + 379) tb_M157 88 [(0, .ref 170), (1, vi ((k : Int))), (2, vi a), (3, vi deep)] [vi (deep + 1)] s35 _
        refine wr_n (pc2 := 90) (lv2 := [(0, .ref 170), (1, vi ((k : Int))), (2, vi a), (3, vi deep)]) (st2 := [vi 20, vi (deep + 1)]) 1 (fun _ _ => rfl) ?_
        by_cases h40 : deep + 1 ≠ 20
        · refine wr_if2t rfl rfl (by unfold i32; omega) (by unfold i32; omega) h40 ?_
          refine wr_n (pc2 := 99) (lv2 := [(0, .ref 170), (1, vi ((k : Int))), (2, vi a), (3, vi deep)]) (st2 := [.ref 170]) 1 (fun _ _ => rfl) ?_
          refine wr_call1 (args := []) (rest := []) rfl rfl rfl rfl (Nat.le_of_ble_eq_true rfl) (cr_mono (x_step (d := n + 373) hC _ hR35 hP36) ?_)
          rintro s42 out ⟨rfl, hc41, hR41, hBk41, hK41, hf41⟩
          · refine ⟨_, rfl, ?_⟩
            show wr (n + 379) tb_M157 102 [(0, .ref 170), (1, vi ((k : Int))), (2, vi a), (3, vi deep)] [] s42 _
            obtain ⟨hu41, hk41⟩ := id hK41
            replace hf41 : s35.1 170 6 ≤ s42.1 170 5 := hf41
            have hm41 : s42.1 C 1 = ((m : Nat) : Int) := by omega
            have hgg41 := hf41
            have hB44 : BX C (gn y) s.1 s42.1 := BX_tr hC hB36 hBk41
            have hP44 : PI C y s42.1 := PI_BX hC hP hB44
            have hQ44 : CS s.1 s42.1 := CS_tr hQ36 (KL_CS hK41)
            have hz44 : s42.2 = s.2 := hc41.trans hz36
            have hx44 := LX_nums hP44
            have hF44 : s.1 170 5 + 1 ≤ s42.1 170 5 ∧ s42.1 170 14 = s.1 170 14 ∧ s42.1 170 16 = s.1 170 16 ∧ s42.1 170 21 = s.1 170 21 ∧ s42.1 C 3 = s.1 C 3 ∧ s42.1 C 10 = s.1 C 10 ∧ 0 ≤ s42.1 170 5 ∧ s42.1 170 5 ≤ s42.1 170 6 ∧ s42.1 170 6 ≤ 2000 := by omega
            clear hk41 hf41 hx44 hF36
            refine wr_n (pc2 := 106) (lv2 := [(0, .ref 170), (1, vi ((k : Int))), (2, vi a), (3, vi deep)]) (st2 := [vi 2, vi deep, vi 0, .ref 170]) 4 (fun _ _ => rfl) ?_
            refine wr_add (a := deep) (b := 2) rfl ?_
            show wr (n + 379) tb_M157 107 [(0, .ref 170), (1, vi ((k : Int))), (2, vi a), (3, vi deep)] [vi (deep + 2), vi 0, .ref 170] s42 _
            refine wr_call1 (args := [vi 0, vi (deep + 2)]) (rest := []) rfl rfl rfl rfl (Nat.le_of_ble_eq_true rfl) (cr_mono ((cr_up (d := 360) (by omega) (hX C y m _ 0 (deep + 2) hC hR41 hP44 (BX_mb hB44 hMB) hm41 (by unfold NE; omega) (by omega)))) ?_)
            rintro s46 out ⟨b, rfl, hc45, ⟨rfl, hF45⟩ | ⟨rfl, hR45, hBk45, hS45, hN45, hV45, w45, hm45, hE45⟩⟩
            · refine ⟨_, rfl, ?_⟩
              show wr (n + 379) tb_M157 110 [(0, .ref 170), (1, vi ((k : Int))), (2, vi a), (3, vi deep)] [vi 0] s46 _
              refine wr_n (pc2 := 128) (lv2 := [(0, .ref 170), (1, vi ((k : Int))), (2, vi a), (3, vi deep)]) (st2 := [vi 0]) 2 (fun _ _ => rfl) ?_
              refine wr_end (fun _ _ => rfl) ?_
              exact ⟨0, rfl, hc45.trans hz44, Or.inl ⟨rfl, FR_tr (BX_FR hB44) hF45⟩⟩
            · refine ⟨_, rfl, ?_⟩
              show wr (n + 379) tb_M157 110 [(0, .ref 170), (1, vi ((k : Int))), (2, vi a), (3, vi deep)] [vi 1] s46 _
              unfold NXE at hN45
              have hB49 : BX C (gn y) s.1 s46.1 := BX_tr hC hB44 hBk45
              have hP49 : PI C y s46.1 := PI_BX hC hP hB49
              have hQ49 : CS s.1 s46.1 := CS_tr hQ44 hS45
              have hz49 : s46.2 = s.2 := hc45.trans hz44
              have hF49 := LX_nums hP49
              refine wr_n (pc2 := 117) (lv2 := [(0, .ref 170), (1, vi ((k : Int))), (2, vi a), (3, vi deep)]) (st2 := [.ref 44, .ref 170]) 3 (fun _ _ => rfl) ?_
              refine wr_call1 (args := [.ref 44]) (rest := []) rfl rfl rfl rfl (Nat.le_of_ble_eq_true rfl) (cr_mono (x_take (d := n + 372) isT_44 hC _ hR45 hP49) ?_)
              rintro s51 out ⟨b, rfl, hc50, ⟨rfl, hF50⟩ | ⟨rfl, hR50, hBk50, hK50, hf50⟩⟩
              · refine ⟨_, rfl, ?_⟩
                show wr (n + 379) tb_M157 120 [(0, .ref 170), (1, vi ((k : Int))), (2, vi a), (3, vi deep)] [vi 0] s51 _
                refine wr_n (pc2 := 128) (lv2 := [(0, .ref 170), (1, vi ((k : Int))), (2, vi a), (3, vi deep)]) (st2 := [vi 0]) 2 (fun _ _ => rfl) ?_
                refine wr_end (fun _ _ => rfl) ?_
                exact ⟨0, rfl, hc50.trans hz49, Or.inl ⟨rfl, FR_tr (BX_FR hB49) hF50⟩⟩
              · refine ⟨_, rfl, ?_⟩
                show wr (n + 379) tb_M157 120 [(0, .ref 170), (1, vi ((k : Int))), (2, vi a), (3, vi deep)] [vi 1] s51 _
                obtain ⟨hu50, hk50⟩ := id hK50
                replace hf50 : s46.1 170 5 + 1 ≤ s51.1 170 5 := hf50
                have hm50 : s51.1 C 1 = ((w45 : Nat) : Int) := by omega
                have hB54 : BX C (gn y) s.1 s51.1 := BX_tr hC hB49 hBk50
                have hP54 : PI C y s51.1 := PI_BX hC hP hB54
                have hQ54 : CS s.1 s51.1 := CS_tr hQ49 (KL_CS hK50)
                have hz54 : s51.2 = s.2 := hc50.trans hz49
                have hx54 := LX_nums hP54
                have hF54 : s46.1 170 5 + 1 ≤ s51.1 170 5 ∧ s51.1 170 14 = s46.1 170 14 ∧ s51.1 170 16 = s46.1 170 16 ∧ s51.1 170 21 = s46.1 170 21 ∧ s51.1 C 3 = s46.1 C 3 ∧ s51.1 C 10 = s46.1 C 10 ∧ 0 ≤ s51.1 170 5 ∧ s51.1 170 5 ≤ s51.1 170 6 ∧ s51.1 170 6 ≤ 2000 := by omega
                clear hk50 hf50 hx54
                refine wr_n (pc2 := 128) (lv2 := [(0, .ref 170), (1, vi ((k : Int))), (2, vi a), (3, vi deep)]) (st2 := [vi 1]) 3 (fun _ _ => rfl) ?_
                refine wr_end (fun _ _ => rfl) ?_
                refine ⟨1, rfl, hz54, Or.inr ⟨rfl, hR50, hB54, hQ54, by unfold NXE; omega, w45, hm50, ?_⟩⟩
                intro h0 hh0
                rw [show w = 1 by omega]
                exact SG_SH (SG_mono (by omega) (ZM_CS (KL_CS hK50)) (SG_agr (fun p hp1 hp => (BX_code hC hBk50 (by omega))) (hE45 h0 (by omega))))
        · refine wr_if2f rfl rfl (by unfold i32; omega) (by unfold i32; omega) h40 ?_
          refine wr_n (pc2 := 94) (lv2 := [(0, .ref 170), (1, vi ((k : Int))), (2, vi a), (3, vi deep)]) (st2 := [.ref 170]) 1 (fun _ _ => rfl) ?_
          refine wr_call1 (args := []) (rest := []) rfl rfl rfl rfl (Nat.le_of_ble_eq_true rfl) (cr_mono (x_bad0 (C := C) (d := n + 377) _ hR35) ?_)
          rintro s56 out ⟨rfl, hc55, hF55⟩
          · refine ⟨_, rfl, ?_⟩
            show wr (n + 379) tb_M157 97 [(0, .ref 170), (1, vi ((k : Int))), (2, vi a), (3, vi deep)] [vi 0] s56 _
            refine wr_end (fun _ _ => rfl) ?_
            exact ⟨0, rfl, hc55.trans hz36, Or.inl ⟨rfl, FR_tr (BX_FR hB36) hF55⟩⟩
    · refine wr_if1f rfl rfl (by unfold i32; omega) h7 ?_
      refine wr_n (pc2 := 12) (lv2 := [(0, .ref 170), (1, vi ((k : Int))), (2, vi a), (3, vi deep)]) (st2 := [.ref 170]) 1 (fun _ _ => rfl) ?_
      refine wr_get (v := .ref 174) rfl rfl rfl (by decide) (rv_ref (hR1 170 11 174 rfl)) fun h58 => ?_
      show wr (n + 379) tb_M157 15 [(0, .ref 170), (1, vi ((k : Int))), (2, vi a), (3, vi deep)] [.ref 174] s2 _
      refine wr_n (pc2 := 16) (lv2 := [(0, .ref 170), (1, vi ((k : Int))), (2, vi a), (3, vi deep)]) (st2 := [vi ((k : Int)), .ref 174]) 1 (fun _ _ => rfl) ?_
      refine wr_ald (a := (k : Int)) (v := vi (s2.1 174 k)) rfl rfl rfl (by omega) (by omega) (by decide) rfl fun h59 => ?_
      have h59 : -2147483648 ≤ s2.1 174 k ∧ s2.1 174 k ≤ 2147483647 := h59
      show wr (n + 379) tb_M157 17 [(0, .ref 170), (1, vi ((k : Int))), (2, vi a), (3, vi deep)] [vi (s2.1 174 k)] s2 _
      refine wr_n (pc2 := 18) (lv2 := [(0, .ref 170), (1, vi ((k : Int))), (2, vi a), (3, vi deep)]) (st2 := [vi 1, vi (s2.1 174 k)]) 1 (fun _ _ => rfl) ?_
      by_cases h60 : s2.1 174 k = 1
      · refine wr_if2t rfl rfl (by unfold i32; omega) (by unfold i32; omega) h60 ?_
        refine wr_n (pc2 := 36) (lv2 := [(0, .ref 170), (1, vi ((k : Int))), (2, vi a), (3, vi deep)]) (st2 := [vi a, .ref 170]) 2 (fun _ _ => rfl) ?_
        refine wr_call1 (args := [vi a]) (rest := []) rfl rfl rfl rfl (Nat.le_of_ble_eq_true rfl) (cr_mono (x_bad1 (C := C) (d := n + 378) (a := a) _ hR1 (by unfold i32; omega)) ?_)
        rintro s62 out ⟨rfl, hc61, hF61⟩
        · refine ⟨_, rfl, ?_⟩
          show wr (n + 379) tb_M157 39 [(0, .ref 170), (1, vi ((k : Int))), (2, vi a), (3, vi deep)] [vi 0] s62 _
          refine wr_end (fun _ _ => rfl) ?_
          exact ⟨0, rfl, hc61.trans hz4, Or.inl ⟨rfl, FR_tr (BX_FR hB4) hF61⟩⟩
      · refine wr_if2f rfl rfl (by unfold i32; omega) (by unfold i32; omega) h60 ?_
        refine wr_n (pc2 := 22) (lv2 := [(0, .ref 170), (1, vi ((k : Int))), (2, vi a), (3, vi deep)]) (st2 := [.ref 170]) 1 (fun _ _ => rfl) ?_
        refine wr_get (v := .ref 175) rfl rfl rfl (by decide) (rv_ref (hR1 170 12 175 rfl)) fun h64 => ?_
        show wr (n + 379) tb_M157 25 [(0, .ref 170), (1, vi ((k : Int))), (2, vi a), (3, vi deep)] [.ref 175] s2 _
        refine wr_n (pc2 := 26) (lv2 := [(0, .ref 170), (1, vi ((k : Int))), (2, vi a), (3, vi deep)]) (st2 := [vi ((k : Int)), .ref 175]) 1 (fun _ _ => rfl) ?_
        refine wr_ald (a := (k : Int)) (v := vi (s2.1 175 k)) rfl rfl rfl (by omega) (by omega) (by decide) rfl fun h65 => ?_
        have h65 : -2147483648 ≤ s2.1 175 k ∧ s2.1 175 k ≤ 2147483647 := h65
        show wr (n + 379) tb_M157 27 [(0, .ref 170), (1, vi ((k : Int))), (2, vi a), (3, vi deep)] [vi (s2.1 175 k)] s2 _
        refine wr_n (pc2 := 28) (lv2 := [(0, .ref 170), (1, vi ((k : Int))), (2, vi a), (3, vi deep)]) (st2 := [.ref 170, vi (s2.1 175 k)]) 1 (fun _ _ => rfl) ?_
        refine wr_get (v := vi (s2.1 170 36)) rfl rfl rfl (by decide) rfl fun h66 => ?_
        have h66 : -2147483648 ≤ s2.1 170 36 ∧ s2.1 170 36 ≤ 2147483647 := h66
        show wr (n + 379) tb_M157 31 [(0, .ref 170), (1, vi ((k : Int))), (2, vi a), (3, vi deep)] [vi (s2.1 170 36), vi (s2.1 175 k)] s2 _
        by_cases h67 : s2.1 170 36 ≤ s2.1 175 k
        · refine wr_if2t rfl rfl (by unfold i32; omega) (by unfold i32; omega) h67 ?_
          refine wr_n (pc2 := 42) (lv2 := [(0, .ref 170), (1, vi ((k : Int))), (2, vi a), (3, vi deep)]) (st2 := [.ref 170, .ref 170]) 2 (fun _ _ => rfl) ?_
          refine wr_get (v := vl (s2.1 170 22)) rfl rfl rfl (by decide) rfl fun h68 => ?_
          show wr (n + 379) tb_M157 45 [(0, .ref 170), (1, vi ((k : Int))), (2, vi a), (3, vi deep)] [vl (s2.1 170 22), .ref 170] s2 _
          refine wr_n (pc2 := 47) (lv2 := [(0, .ref 170), (1, vi ((k : Int))), (2, vi a), (3, vi deep)]) (st2 := [.ref 170, vl 1, vl (s2.1 170 22), .ref 170]) 2 (fun _ _ => rfl) ?_
          refine wr_get (v := .ref 174) rfl rfl rfl (by decide) (rv_ref (hR1 170 11 174 rfl)) fun h69 => ?_
          show wr (n + 379) tb_M157 50 [(0, .ref 170), (1, vi ((k : Int))), (2, vi a), (3, vi deep)] [.ref 174, vl 1, vl (s2.1 170 22), .ref 170] s2 _
          refine wr_n (pc2 := 51) (lv2 := [(0, .ref 170), (1, vi ((k : Int))), (2, vi a), (3, vi deep)]) (st2 := [vi ((k : Int)), .ref 174, vl 1, vl (s2.1 170 22), .ref 170]) 1 (fun _ _ => rfl) ?_
          refine wr_ald (a := (k : Int)) (v := vi (s2.1 174 k)) rfl rfl rfl (by omega) (by omega) (by decide) rfl fun h70 => ?_
          have h70 : -2147483648 ≤ s2.1 174 k ∧ s2.1 174 k ≤ 2147483647 := h70
          show wr (n + 379) tb_M157 52 [(0, .ref 170), (1, vi ((k : Int))), (2, vi a), (3, vi deep)] [vi (s2.1 174 k), vl 1, vl (s2.1 170 22), .ref 170] s2 _
          refine wr_n (pc2 := 53) (lv2 := [(0, .ref 170), (1, vi ((k : Int))), (2, vi a), (3, vi deep)]) (st2 := [vi 1, vi (s2.1 174 k), vl 1, vl (s2.1 170 22), .ref 170]) 1 (fun _ _ => rfl) ?_
          refine wr_if2t rfl rfl (by unfold i32; omega) (by unfold i32; omega) (by show s2.1 174 k ≠ 1; omega) ?_
          show wr (n + 379) tb_M157 61 [(0, .ref 170), (1, vi ((k : Int))), (2, vi a), (3, vi deep)] [vl 1, vl (s2.1 170 22), .ref 170] s2 _
          refine wr_n (pc2 := 63) (lv2 := [(0, .ref 170), (1, vi ((k : Int))), (2, vi a), (3, vi deep)]) (st2 := [.ref 170, vi 0, vl 1, vl (s2.1 170 22), .ref 170]) 2 (fun _ _ => rfl) ?_
          refine wr_get (v := .ref 175) rfl rfl rfl (by decide) (rv_ref (hR1 170 12 175 rfl)) fun h71 => ?_
          show wr (n + 379) tb_M157 66 [(0, .ref 170), (1, vi ((k : Int))), (2, vi a), (3, vi deep)] [.ref 175, vi 0, vl 1, vl (s2.1 170 22), .ref 170] s2 _
          refine wr_n (pc2 := 67) (lv2 := [(0, .ref 170), (1, vi ((k : Int))), (2, vi a), (3, vi deep)]) (st2 := [vi ((k : Int)), .ref 175, vi 0, vl 1, vl (s2.1 170 22), .ref 170]) 1 (fun _ _ => rfl) ?_
          refine wr_ald (a := (k : Int)) (v := vi (s2.1 175 k)) rfl rfl rfl (by omega) (by omega) (by decide) rfl fun h72 => ?_
          have h72 : -2147483648 ≤ s2.1 175 k ∧ s2.1 175 k ≤ 2147483647 := h72
          show wr (n + 379) tb_M157 68 [(0, .ref 170), (1, vi ((k : Int))), (2, vi a), (3, vi deep)] [vi (s2.1 175 k), vi 0, vl 1, vl (s2.1 170 22), .ref 170] s2 _
          refine wr_add (a := 0) (b := s2.1 175 k) rfl ?_
          show wr (n + 379) tb_M157 69 [(0, .ref 170), (1, vi ((k : Int))), (2, vi a), (3, vi deep)] [vi (0 + (s2.1 175 k)), vl 1, vl (s2.1 170 22), .ref 170] s2 _
          refine wr_lshl (a := 1) (b := 0 + (s2.1 175 k)) rfl fun z73 h74 h75 => ?_
          show wr (n + 379) tb_M157 70 [(0, .ref 170), (1, vi ((k : Int))), (2, vi a), (3, vi deep)] [vl z73, vl (s2.1 170 22), .ref 170] s2 _
          refine wr_lor (a := s2.1 170 22) (b := z73) rfl fun z76 h77 h78 => ?_
          show wr (n + 379) tb_M157 71 [(0, .ref 170), (1, vi ((k : Int))), (2, vi a), (3, vi deep)] [vl z76, .ref 170] s2 _
          refine wr_put (z := z76) rfl rfl rfl rfl (by decide) rfl (by decide) rfl h77 (fit_l _) ?_
          show wr (n + 379) tb_M157 74 [(0, .ref 170), (1, vi ((k : Int))), (2, vi a), (3, vi deep)] [] (up2 s2.1 170 22 z76, s2.2) _
          have hR79 : RF (up2 s2.1 170 22 z76) := (RF_up hR1 rfl)
          obtain ⟨s80, hs80⟩ : ∃ qq9 : rS, qq9 = (up2 s2.1 170 22 z76, s2.2) := ⟨_, rfl⟩
          rw [← hs80]
          have hK80 : KM s2.1 s80.1 := by rw [hs80]; exact (KM_up KM_rf (by omega))
          have hk80 := KM_nums hC hK80
          have hM80 : True ∧ (MB (gn y) (s2.1 170 26) → MB (gn y) (s80.1 170 26)) := by rw [hs80]; exact (show True ∧ (MB (gn y) (s2.1 170 26) → MB (gn y) (s2.1 170 26)) from ⟨trivial, id⟩)
          have hBk80 : BX C (gn y) s2.1 s80.1 := BX_KM hC hP4 hK80 hM80
          have hS80 : CS s2.1 s80.1 := by rw [hs80]; exact CS_rf (r := s2.1)
          have hR80 : RF s80.1 := BX_RF hC hBk80 hR1
          have hc80 : s80.2 = s2.2 := by rw [hs80]
          have hm80 : s80.1 C 1 = ((m : Nat) : Int) := by omega
          have hB81 : BX C (gn y) s.1 s80.1 := BX_tr hC hB4 hBk80
          have hP81 : PI C y s80.1 := PI_BX hC hP hB81
          have hQ81 : CS s.1 s80.1 := CS_tr hQ4 hS80
          have hz81 : s80.2 = s.2 := hc80.trans hz4
          have hF81 : s80.1 170 4 = s2.1 170 4 ∧ s80.1 170 5 = s2.1 170 5 ∧ s80.1 170 6 = s2.1 170 6 ∧ s80.1 170 7 = s2.1 170 7 ∧ s80.1 170 14 = s.1 170 14 ∧ s80.1 170 16 = s.1 170 16 ∧ s80.1 170 21 = s.1 170 21 ∧ s80.1 C 3 = s.1 C 3 ∧ s80.1 C 10 = s.1 C 10 ∧ s.1 170 5 + 1 ≤ s80.1 170 5 ∧ 0 ≤ s80.1 170 5 ∧ s80.1 170 5 ≤ s80.1 170 6 ∧ s80.1 170 6 ≤ 2000 := by omega
          clear hF4
          show wr (n + 379) tb_M157 74 [(0, .ref 170), (1, vi ((k : Int))), (2, vi a), (3, vi deep)] [] s80 _
          have hw82 : s80.1 174 k = s.1 174 k := hB81.1 174 k (by unfold SS; omega)
          refine wr_n (pc2 := 75) (lv2 := [(0, .ref 170), (1, vi ((k : Int))), (2, vi a), (3, vi deep)]) (st2 := [.ref 170]) 1 (fun _ _ => rfl) ?_
          refine wr_get (v := .ref 174) rfl rfl rfl (by decide) (rv_ref (hR80 170 11 174 rfl)) fun h83 => ?_
          show wr (n + 379) tb_M157 78 [(0, .ref 170), (1, vi ((k : Int))), (2, vi a), (3, vi deep)] [.ref 174] s80 _
          refine wr_n (pc2 := 79) (lv2 := [(0, .ref 170), (1, vi ((k : Int))), (2, vi a), (3, vi deep)]) (st2 := [vi ((k : Int)), .ref 174]) 1 (fun _ _ => rfl) ?_
          refine wr_ald (a := (k : Int)) (v := vi (s80.1 174 k)) rfl rfl rfl (by omega) (by omega) (by decide) rfl fun h84 => ?_
          have h84 : -2147483648 ≤ s80.1 174 k ∧ s80.1 174 k ≤ 2147483647 := h84
          show wr (n + 379) tb_M157 80 [(0, .ref 170), (1, vi ((k : Int))), (2, vi a), (3, vi deep)] [vi (s80.1 174 k)] s80 _
          refine wr_if1f rfl rfl (by unfold i32; omega) (by show ¬ (s80.1 174 k ≠ 0); omega) ?_
          show wr (n + 379) tb_M157 83 [(0, .ref 170), (1, vi ((k : Int))), (2, vi a), (3, vi deep)] [] s80 _
          refine wr_n (pc2 := 84) (lv2 := [(0, .ref 170), (1, vi ((k : Int))), (2, vi a), (3, vi deep)]) (st2 := [vi 1]) 1 (fun _ _ => rfl) ?_
          refine wr_end (fun _ _ => rfl) ?_
          refine ⟨1, rfl, hz81, Or.inr ⟨rfl, hR80, hB81, hQ81, by unfold NXE; omega, m, hm80, ?_⟩⟩
          intro h0 hh0
          rw [show w = 0 by omega]
          exact SH_nil
        · refine wr_if2f rfl rfl (by unfold i32; omega) (by unfold i32; omega) h67 ?_
          refine wr_n (pc2 := 36) (lv2 := [(0, .ref 170), (1, vi ((k : Int))), (2, vi a), (3, vi deep)]) (st2 := [vi a, .ref 170]) 2 (fun _ _ => rfl) ?_
          refine wr_call1 (args := [vi a]) (rest := []) rfl rfl rfl rfl (Nat.le_of_ble_eq_true rfl) (cr_mono (x_bad1 (C := C) (d := n + 378) (a := a) _ hR1 (by unfold i32; omega)) ?_)
          rintro s86 out ⟨rfl, hc85, hF85⟩
          · refine ⟨_, rfl, ?_⟩
            show wr (n + 379) tb_M157 39 [(0, .ref 170), (1, vi ((k : Int))), (2, vi a), (3, vi deep)] [vi 0] s86 _
            refine wr_end (fun _ _ => rfl) ?_
            exact ⟨0, rfl, hc85.trans hz4, Or.inl ⟨rfl, FR_tr (BX_FR hB4) hF85⟩⟩
set_option maxRecDepth 100000 in
theorem x_store0 {d C m : Nat} {y : gH} {v : Int} (hC : C = 177 ∨ C = 186) (s : rS) (hR : RF s.1) (hP : PI C y s.1) (hv : i32 v) (hm : s.1 C 1 = (m : Int)) (hm2 : m + 1 < 24000) : cr (d + 3) 158 [.ref 170, vi 0, vi v] s (fun s2 out => out = some none ∧ s2.2 = s.2 ∧ RF s2.1 ∧ BX C (gn y) s.1 s2.1 ∧ KC C s.1 s2.1 ∧ s2.1 C 1 = ((m + 2 : Nat) : Int) ∧ s2.1 C 3 = s.1 C 3 ∧ s2.1 (C + 1) m = 5 ∧ s2.1 (C + 1) (m + 1) = v) := by
  unfold i32 at hv
  have hx0 := LX_nums hP
  refine cr_of (M := tb_M158) rfl (Nat.le_of_ble_eq_true rfl) ?_
  show wr (d + 2) tb_M158 0 [(0, .ref 170), (1, vi 0), (2, vi v)] [] s _
  refine wr_n (pc2 := 12) (lv2 := [(0, .ref 170), (1, vi 0), (2, vi v)]) (st2 := [vi v, vi 5, .ref 170]) 6 (fun _ _ => rfl) ?_
  refine wr_call1 (args := [vi 5, vi v]) (rest := []) rfl rfl rfl rfl (Nat.le_of_ble_eq_true rfl) (cr_mono (x_put2 (d := d + 0) (m := m) (op := 5) (v := v) hC _ hR hP (by unfold i32; omega) (by unfold i32; omega) hm (by omega)) ?_)
  rintro s2 out ⟨rfl, hc1, hR1, hBk1, hK1, hm1, hp1, hda1, hdb1⟩
  · refine ⟨_, rfl, ?_⟩
    show wr (d + 2) tb_M158 15 [(0, .ref 170), (1, vi 0), (2, vi v)] [] s2 _
    obtain ⟨hu1, hk1⟩ := id hK1
    have hK8 := hK1
    have hp8 := hp1
    have hB4 : BX C (gn y) s.1 s2.1 := BX_tr hC (PI_rf hP) hBk1
    have hP4 : PI C y s2.1 := PI_BX hC hP hB4
    have hQ4 : CS s.1 s2.1 := CS_tr (CS_rf (r := s.1)) (KC_CS hK1)
    have hz4 : s2.2 = s.2 := hc1.trans rfl
    have hF4 : s2.1 170 4 = s.1 170 4 ∧ s2.1 170 5 = s.1 170 5 ∧ s2.1 170 6 = s.1 170 6 ∧ s2.1 170 7 = s.1 170 7 ∧ s2.1 170 14 = s.1 170 14 ∧ s2.1 170 16 = s.1 170 16 ∧ s2.1 170 21 = s.1 170 21 ∧ s2.1 C 3 = s.1 C 3 ∧ s2.1 C 10 = s.1 C 10 ∧ s.1 170 5 + 0 ≤ s2.1 170 5 ∧ 0 ≤ s2.1 170 5 ∧ s2.1 170 5 ≤ s2.1 170 6 ∧ s2.1 170 6 ≤ 2000 := by omega
    clear hk1 hp1
    refine wr_end (fun _ _ => rfl) ?_
    exact ⟨rfl, hz4, hR1, hB4, hK8, hm1, hp8, hda1, hdb1⟩
set_option maxRecDepth 100000 in
theorem x_store1 {d C m : Nat} {y : gH} {v : Int} (hC : C = 177 ∨ C = 186) (s : rS) (hR : RF s.1) (hP : PI C y s.1) (hv : i32 v) (hm : s.1 C 1 = (m : Int)) (hm2 : m + 1 < 24000) : cr (d + 3) 158 [.ref 170, vi 1, vi v] s (fun s2 out => out = some none ∧ s2.2 = s.2 ∧ RF s2.1 ∧ BX C (gn y) s.1 s2.1 ∧ KC C s.1 s2.1 ∧ s2.1 C 1 = ((m + 2 : Nat) : Int) ∧ s2.1 C 3 = s.1 C 3 ∧ s2.1 (C + 1) m = 6 ∧ s2.1 (C + 1) (m + 1) = v) := by
  unfold i32 at hv
  have hx0 := LX_nums hP
  refine cr_of (M := tb_M158) rfl (Nat.le_of_ble_eq_true rfl) ?_
  show wr (d + 2) tb_M158 0 [(0, .ref 170), (1, vi 1), (2, vi v)] [] s _
  refine wr_n (pc2 := 12) (lv2 := [(0, .ref 170), (1, vi 1), (2, vi v)]) (st2 := [vi v, vi 6, .ref 170]) 5 (fun _ _ => rfl) ?_
  refine wr_call1 (args := [vi 6, vi v]) (rest := []) rfl rfl rfl rfl (Nat.le_of_ble_eq_true rfl) (cr_mono (x_put2 (d := d + 0) (m := m) (op := 6) (v := v) hC _ hR hP (by unfold i32; omega) (by unfold i32; omega) hm (by omega)) ?_)
  rintro s2 out ⟨rfl, hc1, hR1, hBk1, hK1, hm1, hp1, hda1, hdb1⟩
  · refine ⟨_, rfl, ?_⟩
    show wr (d + 2) tb_M158 15 [(0, .ref 170), (1, vi 1), (2, vi v)] [] s2 _
    obtain ⟨hu1, hk1⟩ := id hK1
    have hK8 := hK1
    have hp8 := hp1
    have hB4 : BX C (gn y) s.1 s2.1 := BX_tr hC (PI_rf hP) hBk1
    have hP4 : PI C y s2.1 := PI_BX hC hP hB4
    have hQ4 : CS s.1 s2.1 := CS_tr (CS_rf (r := s.1)) (KC_CS hK1)
    have hz4 : s2.2 = s.2 := hc1.trans rfl
    have hF4 : s2.1 170 4 = s.1 170 4 ∧ s2.1 170 5 = s.1 170 5 ∧ s2.1 170 6 = s.1 170 6 ∧ s2.1 170 7 = s.1 170 7 ∧ s2.1 170 14 = s.1 170 14 ∧ s2.1 170 16 = s.1 170 16 ∧ s2.1 170 21 = s.1 170 21 ∧ s2.1 C 3 = s.1 C 3 ∧ s2.1 C 10 = s.1 C 10 ∧ s.1 170 5 + 0 ≤ s2.1 170 5 ∧ 0 ≤ s2.1 170 5 ∧ s2.1 170 5 ≤ s2.1 170 6 ∧ s2.1 170 6 ≤ 2000 := by omega
    clear hk1 hp1
    refine wr_end (fun _ _ => rfl) ?_
    exact ⟨rfl, hz4, hR1, hB4, hK8, hm1, hp8, hda1, hdb1⟩
