set_option maxRecDepth 100000 in
theorem p_atom {n : Nat} (hX : CX n) (hI : CI n) : CA (n + 1) := by
  intro C y m s deep hC hR hP hMB hm hN hd
  unfold NE at hN
  have hx0 := LX_nums hP
  have hgt := gt_of hP
  refine cr_of (M := tb_M146) rfl (Nat.le_of_ble_eq_true rfl) ?_
  show wr (n + 20) tb_M146 0 [(0, .ref 170), (1, vi deep)] [] s _
  refine wr_n (pc2 := 1) (lv2 := [(0, .ref 170), (1, vi deep)]) (st2 := [.ref 170]) 1 (fun _ _ => rfl) ?_
  refine wr_get (v := vi (s.1 170 4)) rfl rfl rfl (by decide) rfl fun h1 => ?_
  have h1 : -2147483648 ≤ s.1 170 4 ∧ s.1 170 4 ≤ 2147483647 := h1
  show wr (n + 20) tb_M146 4 [(0, .ref 170), (1, vi deep)] [vi (s.1 170 4)] s _
  refine wr_n (pc2 := 5) (lv2 := [(0, .ref 170), (1, vi deep)]) (st2 := [vi 3, vi (s.1 170 4)]) 1 (fun _ _ => rfl) ?_
  by_cases h2 : s.1 170 4 ≠ 3
  · refine wr_if2t rfl rfl (by unfold i32; omega) (by unfold i32; omega) h2 ?_
    refine wr_n (pc2 := 31) (lv2 := [(0, .ref 170), (1, vi deep)]) (st2 := [.ref 22, .ref 170]) 2 (fun _ _ => rfl) ?_
    refine wr_call1 (args := [.ref 22]) (rest := []) rfl rfl rfl rfl (Nat.le_of_ble_eq_true rfl) (cr_mono (c_is (d := n + 15) isT_22 _ hR (LX_of hP)) ?_)
    rintro s4 out ⟨b, rfl, rfl | ⟨rfl, hj3, hl3⟩, he3⟩
    · refine ⟨_, rfl, ?_⟩
      rw [he3]
      show wr (n + 20) tb_M146 34 [(0, .ref 170), (1, vi deep)] [vi 0] s _
      refine wr_n (pc2 := 80) (lv2 := [(0, .ref 170), (1, vi deep)]) (st2 := [.ref 170]) 2 (fun _ _ => rfl) ?_
      refine wr_get (v := vi (s.1 170 4)) rfl rfl rfl (by decide) rfl fun h5 => ?_
      have h5 : -2147483648 ≤ s.1 170 4 ∧ s.1 170 4 ≤ 2147483647 := h5
      show wr (n + 20) tb_M146 83 [(0, .ref 170), (1, vi deep)] [vi (s.1 170 4)] s _
      refine wr_n (pc2 := 84) (lv2 := [(0, .ref 170), (1, vi deep)]) (st2 := [vi 1, vi (s.1 170 4)]) 1 (fun _ _ => rfl) ?_
      by_cases h6 : s.1 170 4 = 1
      · refine wr_if2t rfl rfl (by unfold i32; omega) (by unfold i32; omega) h6 ?_
        have hlt := LX_lt hP (by omega)
        refine wr_n (pc2 := 93) (lv2 := [(0, .ref 170), (1, vi deep)]) (st2 := [.ref 170]) 1 (fun _ _ => rfl) ?_
        refine wr_call1 (args := []) (rest := []) rfl rfl rfl rfl (Nat.le_of_ble_eq_true rfl) (cr_mono (c_find (d := n + 19) _ hR (LX_of hP) (NM_of hP)) ?_)
        rintro s11 out ⟨k7, rfl, h8, e10⟩
        refine ⟨_, rfl, ?_⟩
        rw [e10]
        show wr (n + 20) tb_M146 96 [(0, .ref 170), (1, vi deep)] [vi k7] s _
        have hn9 := (NM_of hP).1
        have ho9 := (NM_of hP).2.1
        refine wr_n (pc2 := 98) (lv2 := [(2, vi k7), (0, .ref 170), (1, vi deep)]) (st2 := [.ref 170]) 2 (fun _ _ => rfl) ?_
        refine wr_get (v := vi (s.1 170 5)) rfl rfl rfl (by decide) rfl fun h12 => ?_
        have h12 : -2147483648 ≤ s.1 170 5 ∧ s.1 170 5 ≤ 2147483647 := h12
        show wr (n + 20) tb_M146 101 [(2, vi k7), (0, .ref 170), (1, vi deep)] [vi (s.1 170 5)] s _
        refine wr_n (pc2 := 103) (lv2 := [(3, vi (s.1 170 5)), (2, vi k7), (0, .ref 170), (1, vi deep)]) (st2 := [vi k7]) 2 (fun _ _ => rfl) ?_
        by_cases h13 : k7 < 0
        · refine wr_if1t rfl rfl (by unfold i32; omega) h13 ?_
          refine wr_n (pc2 := 144) (lv2 := [(3, vi (s.1 170 5)), (2, vi k7), (0, .ref 170), (1, vi deep)]) (st2 := [.ref 170]) 1 (fun _ _ => rfl) ?_
          refine wr_call1 (args := []) (rest := []) rfl rfl rfl rfl (Nat.le_of_ble_eq_true rfl) (cr_mono (x_bad0 (C := C) (d := n + 18) _ hR) ?_)
          rintro s15 out ⟨rfl, hc14, hF14⟩
          · refine ⟨_, rfl, ?_⟩
            show wr (n + 20) tb_M146 147 [(3, vi (s.1 170 5)), (2, vi k7), (0, .ref 170), (1, vi deep)] [vi 0] s15 _
            refine wr_end (fun _ _ => rfl) ?_
            exact ⟨0, rfl, hc14.trans rfl, Or.inl ⟨rfl, FR_tr (BX_FR (PI_rf hP)) hF14⟩⟩
        · refine wr_if1f rfl rfl (by unfold i32; omega) h13 ?_
          obtain ⟨kn, hkn⟩ : ∃ q : Nat, k7 = (q : Int) := ⟨k7.toNat, by omega⟩
          subst hkn
          show wr (n + 20) tb_M146 106 [(3, vi (s.1 170 5)), (2, vi ((kn : Int))), (0, .ref 170), (1, vi deep)] [] s _
          refine wr_n (pc2 := 107) (lv2 := [(3, vi (s.1 170 5)), (2, vi ((kn : Int))), (0, .ref 170), (1, vi deep)]) (st2 := [.ref 170]) 1 (fun _ _ => rfl) ?_
          refine wr_get (v := .ref 174) rfl rfl rfl (by decide) (rv_ref (hR 170 11 174 rfl)) fun h17 => ?_
          show wr (n + 20) tb_M146 110 [(3, vi (s.1 170 5)), (2, vi ((kn : Int))), (0, .ref 170), (1, vi deep)] [.ref 174] s _
          refine wr_n (pc2 := 111) (lv2 := [(3, vi (s.1 170 5)), (2, vi ((kn : Int))), (0, .ref 170), (1, vi deep)]) (st2 := [vi ((kn : Int)), .ref 174]) 1 (fun _ _ => rfl) ?_
          refine wr_ald (a := (kn : Int)) (v := vi (s.1 174 kn)) rfl rfl rfl (by omega) (by omega) (by decide) rfl fun h18 => ?_
          have h18 : -2147483648 ≤ s.1 174 kn ∧ s.1 174 kn ≤ 2147483647 := h18
          show wr (n + 20) tb_M146 112 [(3, vi (s.1 170 5)), (2, vi ((kn : Int))), (0, .ref 170), (1, vi deep)] [vi (s.1 174 kn)] s _
          refine wr_n (pc2 := 115) (lv2 := [(3, vi (s.1 170 5)), (2, vi ((kn : Int))), (0, .ref 170), (1, vi deep)]) (st2 := [vi 91, .ref 170, vi (s.1 174 kn)]) 2 (fun _ _ => rfl) ?_
          refine wr_call1 (args := [vi 91]) (rest := [vi (s.1 174 kn)]) rfl rfl rfl rfl (Nat.le_of_ble_eq_true rfl) (cr_mono (c_isBehind (d := n + 19) (g := 91) _ hR (LX_of hP) (by unfold i32; omega)) ?_)
          rintro s22 out ⟨b19, rfl, h20, e21⟩
          refine ⟨_, rfl, ?_⟩
          rw [e21]
          show wr (n + 20) tb_M146 118 [(3, vi (s.1 170 5)), (2, vi ((kn : Int))), (0, .ref 170), (1, vi deep)] [vi b19, vi (s.1 174 kn)] s _
          by_cases h23 : b19 = 0
          · refine wr_if1t rfl rfl (by unfold i32; omega) h23 ?_
            refine wr_n (pc2 := 128) (lv2 := [(3, vi (s.1 170 5)), (2, vi ((kn : Int))), (0, .ref 170), (1, vi deep)]) (st2 := [vi 40, .ref 170, vi (s.1 174 kn)]) 2 (fun _ _ => rfl) ?_
            refine wr_call1 (args := [vi 40]) (rest := [vi (s.1 174 kn)]) rfl rfl rfl rfl (Nat.le_of_ble_eq_true rfl) (cr_mono (c_isBehind (d := n + 19) (g := 40) _ hR (LX_of hP) (by unfold i32; omega)) ?_)
            rintro s27 out ⟨b24, rfl, h25, e26⟩
            refine ⟨_, rfl, ?_⟩
            rw [e26]
            show wr (n + 20) tb_M146 131 [(3, vi (s.1 170 5)), (2, vi ((kn : Int))), (0, .ref 170), (1, vi deep)] [vi b24, vi (s.1 174 kn)] s _
            by_cases h28 : b24 = 0
            · refine wr_if1t rfl rfl (by unfold i32; omega) h28 ?_
              refine wr_n (pc2 := 140) (lv2 := [(3, vi (s.1 170 5)), (2, vi ((kn : Int))), (0, .ref 170), (1, vi deep)]) (st2 := [vi 0, vi (s.1 174 kn)]) 1 (fun _ _ => rfl) ?_
              by_cases h29 : s.1 174 kn = 0
              · refine wr_if2t rfl rfl (by unfold i32; omega) (by unfold i32; omega) h29 ?_
                refine wr_n (pc2 := 149) (lv2 := [(3, vi (s.1 170 5)), (2, vi ((kn : Int))), (0, .ref 170), (1, vi deep)]) (st2 := [.ref 170]) 1 (fun _ _ => rfl) ?_
                refine wr_get (v := .ref 174) rfl rfl rfl (by decide) (rv_ref (hR 170 11 174 rfl)) fun h30 => ?_
                show wr (n + 20) tb_M146 152 [(3, vi (s.1 170 5)), (2, vi ((kn : Int))), (0, .ref 170), (1, vi deep)] [.ref 174] s _
                refine wr_n (pc2 := 153) (lv2 := [(3, vi (s.1 170 5)), (2, vi ((kn : Int))), (0, .ref 170), (1, vi deep)]) (st2 := [vi ((kn : Int)), .ref 174]) 1 (fun _ _ => rfl) ?_
                refine wr_ald (a := (kn : Int)) (v := vi (s.1 174 kn)) rfl rfl rfl (by omega) (by omega) (by decide) rfl fun h31 => ?_
                have h31 : -2147483648 ≤ s.1 174 kn ∧ s.1 174 kn ≤ 2147483647 := h31
                show wr (n + 20) tb_M146 154 [(3, vi (s.1 170 5)), (2, vi ((kn : Int))), (0, .ref 170), (1, vi deep)] [vi (s.1 174 kn)] s _
                refine wr_n (pc2 := 156) (lv2 := [(3, vi (s.1 170 5)), (2, vi ((kn : Int))), (0, .ref 170), (1, vi deep)]) (st2 := [vi 6, vi (s.1 174 kn)]) 1 (fun _ _ => rfl) ?_
                refine wr_if2t rfl rfl (by unfold i32; omega) (by unfold i32; omega) (by show s.1 174 kn ≠ 6; omega) ?_
                show wr (n + 20) tb_M146 185 [(3, vi (s.1 170 5)), (2, vi ((kn : Int))), (0, .ref 170), (1, vi deep)] [] s _
                refine wr_n (pc2 := 186) (lv2 := [(3, vi (s.1 170 5)), (2, vi ((kn : Int))), (0, .ref 170), (1, vi deep)]) (st2 := [.ref 170]) 1 (fun _ _ => rfl) ?_
                refine wr_call1 (args := []) (rest := []) rfl rfl rfl rfl (Nat.le_of_ble_eq_true rfl) (cr_mono (x_step (d := n + 14) hC _ hR hP) ?_)
                rintro s33 out ⟨rfl, hc32, hR32, hBk32, hK32, hf32⟩
                · refine ⟨_, rfl, ?_⟩
                  show wr (n + 20) tb_M146 189 [(3, vi (s.1 170 5)), (2, vi ((kn : Int))), (0, .ref 170), (1, vi deep)] [] s33 _
                  obtain ⟨hu32, hk32⟩ := id hK32
                  replace hf32 : s.1 170 5 + 1 ≤ s33.1 170 5 := Int.le_trans (LX_lt hP (by omega)) hf32
                  have hm32 : s33.1 C 1 = ((m : Nat) : Int) := by omega
                  have hP35 : PI C y s33.1 := PI_BX hC hP hBk32
                  have hB35 : BX C (gn y) s.1 s33.1 := BX_tr hC (PI_rf hP) hBk32
                  have hQ35 : CS s.1 s33.1 := CS_tr (CS_rf (r := s.1)) (KL_CS hK32)
                  have hz35 : s33.2 = s.2 := hc32.trans rfl
                  have hx35 := LX_nums hP35
                  refine wr_n (pc2 := 190) (lv2 := [(3, vi (s.1 170 5)), (2, vi ((kn : Int))), (0, .ref 170), (1, vi deep)]) (st2 := [.ref 170]) 1 (fun _ _ => rfl) ?_
                  refine wr_call1 (args := []) (rest := []) rfl rfl rfl rfl (Nat.le_of_ble_eq_true rfl) (cr_mono (x_part (d := n + 18) (m := m) hC _ hR32 hP35 hm32 (by omega) (by omega)) ?_)
                  rintro s37 out ⟨rfl, hc36, hR36, hBk36, hK36, hm36, hp36, hda36⟩
                  · refine ⟨_, rfl, ?_⟩
                    show wr (n + 20) tb_M146 193 [(3, vi (s.1 170 5)), (2, vi ((kn : Int))), (0, .ref 170), (1, vi deep)] [] s37 _
                    obtain ⟨hu36, hk36⟩ := id hK36
                    have hP39 : PI C y s37.1 := PI_BX hC hP35 hBk36
                    have hB39 : BX C (gn y) s.1 s37.1 := BX_tr hC hB35 hBk36
                    have hQ39 : CS s.1 s37.1 := CS_tr hQ35 (KC_CS hK36)
                    have hz39 : s37.2 = s.2 := hc36.trans hz35
                    have hx39 := LX_nums hP39
                    refine wr_n (pc2 := 195) (lv2 := [(3, vi (s.1 170 5)), (2, vi ((kn : Int))), (0, .ref 170), (1, vi deep)]) (st2 := [.ref 170, .ref 170]) 2 (fun _ _ => rfl) ?_
                    refine wr_get (v := vl (s37.1 170 23)) rfl rfl rfl (by decide) rfl fun h40 => ?_
                    show wr (n + 20) tb_M146 198 [(3, vi (s.1 170 5)), (2, vi ((kn : Int))), (0, .ref 170), (1, vi deep)] [vl (s37.1 170 23), .ref 170] s37 _
                    refine wr_n (pc2 := 199) (lv2 := [(3, vi (s.1 170 5)), (2, vi ((kn : Int))), (0, .ref 170), (1, vi deep)]) (st2 := [vl 1, vl (s37.1 170 23), .ref 170]) 1 (fun _ _ => rfl) ?_
                    have hw4 : s37.1 174 kn = s.1 174 kn := hB39.1 174 kn (by unfold SS; omega)
                    refine wr_n (pc2 := 200) (lv2 := [(3, vi (s.1 170 5)), (2, vi ((kn : Int))), (0, .ref 170), (1, vi deep)]) (st2 := [.ref 170, vl 1, vl (s37.1 170 23), .ref 170]) 1 (fun _ _ => rfl) ?_
                    refine wr_get (v := .ref 174) rfl rfl rfl (by decide) (rv_ref (hR36 170 11 174 rfl)) fun h41 => ?_
                    show wr (n + 20) tb_M146 203 [(3, vi (s.1 170 5)), (2, vi ((kn : Int))), (0, .ref 170), (1, vi deep)] [.ref 174, vl 1, vl (s37.1 170 23), .ref 170] s37 _
                    refine wr_n (pc2 := 204) (lv2 := [(3, vi (s.1 170 5)), (2, vi ((kn : Int))), (0, .ref 170), (1, vi deep)]) (st2 := [vi ((kn : Int)), .ref 174, vl 1, vl (s37.1 170 23), .ref 170]) 1 (fun _ _ => rfl) ?_
                    refine wr_ald (a := (kn : Int)) (v := vi (s37.1 174 kn)) rfl rfl rfl (by omega) (by omega) (by decide) rfl fun h42 => ?_
                    have h42 : -2147483648 ≤ s37.1 174 kn ∧ s37.1 174 kn ≤ 2147483647 := h42
                    show wr (n + 20) tb_M146 205 [(3, vi (s.1 170 5)), (2, vi ((kn : Int))), (0, .ref 170), (1, vi deep)] [vi (s37.1 174 kn), vl 1, vl (s37.1 170 23), .ref 170] s37 _
                    refine wr_n (pc2 := 206) (lv2 := [(3, vi (s.1 170 5)), (2, vi ((kn : Int))), (0, .ref 170), (1, vi deep)]) (st2 := [vi 1, vi (s37.1 174 kn), vl 1, vl (s37.1 170 23), .ref 170]) 1 (fun _ _ => rfl) ?_
                    refine wr_if2t rfl rfl (by unfold i32; omega) (by unfold i32; omega) (by show s37.1 174 kn ≠ 1; omega) ?_
                    show wr (n + 20) tb_M146 214 [(3, vi (s.1 170 5)), (2, vi ((kn : Int))), (0, .ref 170), (1, vi deep)] [vl 1, vl (s37.1 170 23), .ref 170] s37 _
                    refine wr_n (pc2 := 216) (lv2 := [(3, vi (s.1 170 5)), (2, vi ((kn : Int))), (0, .ref 170), (1, vi deep)]) (st2 := [.ref 170, vi 0, vl 1, vl (s37.1 170 23), .ref 170]) 2 (fun _ _ => rfl) ?_
                    refine wr_get (v := .ref 175) rfl rfl rfl (by decide) (rv_ref (hR36 170 12 175 rfl)) fun h43 => ?_
                    show wr (n + 20) tb_M146 219 [(3, vi (s.1 170 5)), (2, vi ((kn : Int))), (0, .ref 170), (1, vi deep)] [.ref 175, vi 0, vl 1, vl (s37.1 170 23), .ref 170] s37 _
                    refine wr_n (pc2 := 220) (lv2 := [(3, vi (s.1 170 5)), (2, vi ((kn : Int))), (0, .ref 170), (1, vi deep)]) (st2 := [vi ((kn : Int)), .ref 175, vi 0, vl 1, vl (s37.1 170 23), .ref 170]) 1 (fun _ _ => rfl) ?_
                    refine wr_ald (a := (kn : Int)) (v := vi (s37.1 175 kn)) rfl rfl rfl (by omega) (by omega) (by decide) rfl fun h44 => ?_
                    have h44 : -2147483648 ≤ s37.1 175 kn ∧ s37.1 175 kn ≤ 2147483647 := h44
                    show wr (n + 20) tb_M146 221 [(3, vi (s.1 170 5)), (2, vi ((kn : Int))), (0, .ref 170), (1, vi deep)] [vi (s37.1 175 kn), vi 0, vl 1, vl (s37.1 170 23), .ref 170] s37 _
                    refine wr_add (a := 0) (b := s37.1 175 kn) rfl ?_
                    show wr (n + 20) tb_M146 222 [(3, vi (s.1 170 5)), (2, vi ((kn : Int))), (0, .ref 170), (1, vi deep)] [vi (0 + (s37.1 175 kn)), vl 1, vl (s37.1 170 23), .ref 170] s37 _
                    refine wr_lshl (a := 1) (b := 0 + (s37.1 175 kn)) rfl fun z45 h46 h47 => ?_
                    show wr (n + 20) tb_M146 223 [(3, vi (s.1 170 5)), (2, vi ((kn : Int))), (0, .ref 170), (1, vi deep)] [vl z45, vl (s37.1 170 23), .ref 170] s37 _
                    refine wr_lor (a := s37.1 170 23) (b := z45) rfl fun z48 h49 h50 => ?_
                    show wr (n + 20) tb_M146 224 [(3, vi (s.1 170 5)), (2, vi ((kn : Int))), (0, .ref 170), (1, vi deep)] [vl z48, .ref 170] s37 _
                    refine wr_put (z := z48) rfl rfl rfl rfl (by decide) rfl (by decide) rfl h49 (fit_l _) ?_
                    show wr (n + 20) tb_M146 227 [(3, vi (s.1 170 5)), (2, vi ((kn : Int))), (0, .ref 170), (1, vi deep)] [] (up2 s37.1 170 23 z48, s37.2) _
                    have hR51 : RF (up2 s37.1 170 23 z48) := (RF_up hR36 rfl)
                    obtain ⟨s52, hs52⟩ : ∃ qq9 : rS, qq9 = (up2 s37.1 170 23 z48, s37.2) := ⟨_, rfl⟩
                    rw [← hs52]
                    have hK52 : KM s37.1 s52.1 := by rw [hs52]; exact (KM_up KM_rf (by omega))
                    have hk52 := KM_nums hC hK52
                    have hM52 : True ∧ (MB (gn y) (s37.1 170 26) → MB (gn y) (s52.1 170 26)) := by rw [hs52]; exact (show True ∧ (MB (gn y) (s37.1 170 26) → MB (gn y) (s37.1 170 26)) from ⟨trivial, id⟩)
                    have hBk52 : BX C (gn y) s37.1 s52.1 := BX_KM hC hP39 hK52 hM52
                    have hS52 : CS s37.1 s52.1 := by rw [hs52]; exact CS_rf (r := s37.1)
                    have hR52 : RF s52.1 := BX_RF hC hBk52 hR36
                    have hc52 : s52.2 = s37.2 := by rw [hs52]
                    have hm52 : s52.1 C 1 = ((m + 1 : Nat) : Int) := by omega
                    have hP53 : PI C y s52.1 := PI_BX hC hP39 hBk52
                    have hB53 : BX C (gn y) s.1 s52.1 := BX_tr hC hB39 hBk52
                    have hQ53 : CS s.1 s52.1 := CS_tr hQ39 hS52
                    have hz53 : s52.2 = s.2 := hc52.trans hz39
                    have hx53 := LX_nums hP53
                    show wr (n + 20) tb_M146 227 [(3, vi (s.1 170 5)), (2, vi ((kn : Int))), (0, .ref 170), (1, vi deep)] [] s52 _
                    have hw6 : s52.1 174 kn = s.1 174 kn := hB53.1 174 kn (by unfold SS; omega)
                    refine wr_n (pc2 := 228) (lv2 := [(3, vi (s.1 170 5)), (2, vi ((kn : Int))), (0, .ref 170), (1, vi deep)]) (st2 := [.ref 170]) 1 (fun _ _ => rfl) ?_
                    refine wr_get (v := .ref 174) rfl rfl rfl (by decide) (rv_ref (hR52 170 11 174 rfl)) fun h54 => ?_
                    show wr (n + 20) tb_M146 231 [(3, vi (s.1 170 5)), (2, vi ((kn : Int))), (0, .ref 170), (1, vi deep)] [.ref 174] s52 _
                    refine wr_n (pc2 := 232) (lv2 := [(3, vi (s.1 170 5)), (2, vi ((kn : Int))), (0, .ref 170), (1, vi deep)]) (st2 := [vi ((kn : Int)), .ref 174]) 1 (fun _ _ => rfl) ?_
                    refine wr_ald (a := (kn : Int)) (v := vi (s52.1 174 kn)) rfl rfl rfl (by omega) (by omega) (by decide) rfl fun h55 => ?_
                    have h55 : -2147483648 ≤ s52.1 174 kn ∧ s52.1 174 kn ≤ 2147483647 := h55
                    show wr (n + 20) tb_M146 233 [(3, vi (s.1 170 5)), (2, vi ((kn : Int))), (0, .ref 170), (1, vi deep)] [vi (s52.1 174 kn)] s52 _
                    refine wr_if1f rfl rfl (by unfold i32; omega) (by show ¬ (s52.1 174 kn ≠ 0); omega) ?_
                    show wr (n + 20) tb_M146 236 [(3, vi (s.1 170 5)), (2, vi ((kn : Int))), (0, .ref 170), (1, vi deep)] [] s52 _
                    refine wr_n (pc2 := 239) (lv2 := [(3, vi (s.1 170 5)), (2, vi ((kn : Int))), (0, .ref 170), (1, vi deep)]) (st2 := [.ref 170, vi 3, .ref 170]) 3 (fun _ _ => rfl) ?_
                    refine wr_get (v := .ref 175) rfl rfl rfl (by decide) (rv_ref (hR52 170 12 175 rfl)) fun h56 => ?_
                    show wr (n + 20) tb_M146 242 [(3, vi (s.1 170 5)), (2, vi ((kn : Int))), (0, .ref 170), (1, vi deep)] [.ref 175, vi 3, .ref 170] s52 _
                    have hq5 := N_var hP53 (k := kn) (by omega) (by omega)
                    refine wr_n (pc2 := 243) (lv2 := [(3, vi (s.1 170 5)), (2, vi ((kn : Int))), (0, .ref 170), (1, vi deep)]) (st2 := [vi ((kn : Int)), .ref 175, vi 3, .ref 170]) 1 (fun _ _ => rfl) ?_
                    refine wr_ald (a := (kn : Int)) (v := vi (s52.1 175 kn)) rfl rfl rfl (by omega) (by omega) (by decide) rfl fun h57 => ?_
                    have h57 : -2147483648 ≤ s52.1 175 kn ∧ s52.1 175 kn ≤ 2147483647 := h57
                    show wr (n + 20) tb_M146 244 [(3, vi (s.1 170 5)), (2, vi ((kn : Int))), (0, .ref 170), (1, vi deep)] [vi (s52.1 175 kn), vi 3, .ref 170] s52 _
                    refine wr_call1 (args := [vi 3, vi (s52.1 175 kn)]) (rest := []) rfl rfl rfl rfl (Nat.le_of_ble_eq_true rfl) (cr_mono (x_put2 (d := n + 18) (m := m + 1) (op := 3) (v := s52.1 175 kn) hC _ hR52 hP53 (by unfold i32; omega) (by unfold i32; omega) hm52 (by omega)) ?_)
                    rintro s59 out ⟨rfl, hc58, hR58, hBk58, hK58, hm58, hp58, hda58, hdb58⟩
                    · refine ⟨_, rfl, ?_⟩
                      show wr (n + 20) tb_M146 247 [(3, vi (s.1 170 5)), (2, vi ((kn : Int))), (0, .ref 170), (1, vi deep)] [] s59 _
                      obtain ⟨hu58, hk58⟩ := id hK58
                      have hP61 : PI C y s59.1 := PI_BX hC hP53 hBk58
                      have hB61 : BX C (gn y) s.1 s59.1 := BX_tr hC hB53 hBk58
                      have hQ61 : CS s.1 s59.1 := CS_tr hQ53 (KC_CS hK58)
                      have hz61 : s59.2 = s.2 := hc58.trans hz53
                      have hx61 := LX_nums hP61
                      refine wr_n (pc2 := 248) (lv2 := [(3, vi (s.1 170 5)), (2, vi ((kn : Int))), (0, .ref 170), (1, vi deep)]) (st2 := [vi 1]) 1 (fun _ _ => rfl) ?_
                      refine wr_end (fun _ _ => rfl) ?_
                      refine ⟨1, rfl, hz61, Or.inr ⟨rfl, hR58, hB61, hQ61, by unfold NXE; omega, by omega, m + 1 + 2, hm58, ?_⟩⟩
                      intro h0 hh0
                      exact (SG_seq (by omega) (by omega) (SG_part ((BX_code hC (BX_tr hC hBk52 hBk58) (by omega)).trans hda36) (by omega)) (SH_load (v := (s52.1 175 kn).toNat) hda58 (hdb58.trans (Int.toNat_of_nonneg (by omega)).symm) (by omega) (by omega) (by omega)))
              · refine wr_if2f rfl rfl (by unfold i32; omega) (by unfold i32; omega) h29 ?_
                refine wr_n (pc2 := 144) (lv2 := [(3, vi (s.1 170 5)), (2, vi ((kn : Int))), (0, .ref 170), (1, vi deep)]) (st2 := [.ref 170]) 1 (fun _ _ => rfl) ?_
                refine wr_call1 (args := []) (rest := []) rfl rfl rfl rfl (Nat.le_of_ble_eq_true rfl) (cr_mono (x_bad0 (C := C) (d := n + 18) _ hR) ?_)
                rintro s63 out ⟨rfl, hc62, hF62⟩
                · refine ⟨_, rfl, ?_⟩
                  show wr (n + 20) tb_M146 147 [(3, vi (s.1 170 5)), (2, vi ((kn : Int))), (0, .ref 170), (1, vi deep)] [vi 0] s63 _
                  refine wr_end (fun _ _ => rfl) ?_
                  exact ⟨0, rfl, hc62.trans rfl, Or.inl ⟨rfl, FR_tr (BX_FR (PI_rf hP)) hF62⟩⟩
            · refine wr_if1f rfl rfl (by unfold i32; omega) h28 ?_
              refine wr_n (pc2 := 140) (lv2 := [(3, vi (s.1 170 5)), (2, vi ((kn : Int))), (0, .ref 170), (1, vi deep)]) (st2 := [vi 6, vi (s.1 174 kn)]) 2 (fun _ _ => rfl) ?_
              by_cases h65 : s.1 174 kn = 6
              · refine wr_if2t rfl rfl (by unfold i32; omega) (by unfold i32; omega) h65 ?_
                refine wr_n (pc2 := 149) (lv2 := [(3, vi (s.1 170 5)), (2, vi ((kn : Int))), (0, .ref 170), (1, vi deep)]) (st2 := [.ref 170]) 1 (fun _ _ => rfl) ?_
                refine wr_get (v := .ref 174) rfl rfl rfl (by decide) (rv_ref (hR 170 11 174 rfl)) fun h66 => ?_
                show wr (n + 20) tb_M146 152 [(3, vi (s.1 170 5)), (2, vi ((kn : Int))), (0, .ref 170), (1, vi deep)] [.ref 174] s _
                refine wr_n (pc2 := 153) (lv2 := [(3, vi (s.1 170 5)), (2, vi ((kn : Int))), (0, .ref 170), (1, vi deep)]) (st2 := [vi ((kn : Int)), .ref 174]) 1 (fun _ _ => rfl) ?_
                refine wr_ald (a := (kn : Int)) (v := vi (s.1 174 kn)) rfl rfl rfl (by omega) (by omega) (by decide) rfl fun h67 => ?_
                have h67 : -2147483648 ≤ s.1 174 kn ∧ s.1 174 kn ≤ 2147483647 := h67
                show wr (n + 20) tb_M146 154 [(3, vi (s.1 170 5)), (2, vi ((kn : Int))), (0, .ref 170), (1, vi deep)] [vi (s.1 174 kn)] s _
                refine wr_n (pc2 := 156) (lv2 := [(3, vi (s.1 170 5)), (2, vi ((kn : Int))), (0, .ref 170), (1, vi deep)]) (st2 := [vi 6, vi (s.1 174 kn)]) 1 (fun _ _ => rfl) ?_
                refine wr_if2f rfl rfl (by unfold i32; omega) (by unfold i32; omega) (by show ¬ (s.1 174 kn ≠ 6); omega) ?_
                show wr (n + 20) tb_M146 159 [(3, vi (s.1 170 5)), (2, vi ((kn : Int))), (0, .ref 170), (1, vi deep)] [] s _
                refine wr_n (pc2 := 160) (lv2 := [(3, vi (s.1 170 5)), (2, vi ((kn : Int))), (0, .ref 170), (1, vi deep)]) (st2 := [.ref 170]) 1 (fun _ _ => rfl) ?_
                refine wr_get (v := .ref 175) rfl rfl rfl (by decide) (rv_ref (hR 170 12 175 rfl)) fun h68 => ?_
                show wr (n + 20) tb_M146 163 [(3, vi (s.1 170 5)), (2, vi ((kn : Int))), (0, .ref 170), (1, vi deep)] [.ref 175] s _
                refine wr_n (pc2 := 164) (lv2 := [(3, vi (s.1 170 5)), (2, vi ((kn : Int))), (0, .ref 170), (1, vi deep)]) (st2 := [vi ((kn : Int)), .ref 175]) 1 (fun _ _ => rfl) ?_
                refine wr_ald (a := (kn : Int)) (v := vi (s.1 175 kn)) rfl rfl rfl (by omega) (by omega) (by decide) rfl fun h69 => ?_
                have h69 : -2147483648 ≤ s.1 175 kn ∧ s.1 175 kn ≤ 2147483647 := h69
                show wr (n + 20) tb_M146 165 [(3, vi (s.1 170 5)), (2, vi ((kn : Int))), (0, .ref 170), (1, vi deep)] [vi (s.1 175 kn)] s _
                refine wr_n (pc2 := 166) (lv2 := [(3, vi (s.1 170 5)), (2, vi ((kn : Int))), (0, .ref 170), (1, vi deep)]) (st2 := [.ref 170, vi (s.1 175 kn)]) 1 (fun _ _ => rfl) ?_
                refine wr_get (v := vi (s.1 170 35)) rfl rfl rfl (by decide) rfl fun h70 => ?_
                have h70 : -2147483648 ≤ s.1 170 35 ∧ s.1 170 35 ≤ 2147483647 := h70
                show wr (n + 20) tb_M146 169 [(3, vi (s.1 170 5)), (2, vi ((kn : Int))), (0, .ref 170), (1, vi deep)] [vi (s.1 170 35), vi (s.1 175 kn)] s _
                by_cases h71 : s.1 175 kn ≠ s.1 170 35
                · refine wr_if2t rfl rfl (by unfold i32; omega) (by unfold i32; omega) h71 ?_
                  obtain ⟨i, hi1, hi2, hi3⟩ := N_fun hP (k := kn) (by omega) (by omega) (by omega)
                  refine wr_n (pc2 := 181) (lv2 := [(3, vi (s.1 170 5)), (2, vi ((kn : Int))), (0, .ref 170), (1, vi deep)]) (st2 := [vi deep, vi (s.1 170 5), vi ((kn : Int)), .ref 170]) 4 (fun _ _ => rfl) ?_
                  refine wr_call1 (args := [vi ((kn : Int)), vi (s.1 170 5), vi deep]) (rest := []) rfl rfl rfl rfl (Nat.le_of_ble_eq_true rfl) (cr_mono (hI C y m _ kn i (s.1 170 5) deep hC hR hP (BX_mb (PI_rf hP) hMB) hm (by unfold NE; omega) ⟨by omega, hi1, by omega, by omega, by unfold i32; omega, by omega⟩) ?_)
                  rintro s73 out ⟨b, rfl, hc72, ⟨rfl, hF72⟩ | ⟨rfl, hR72, hBk72, hS72, hN72, hV72, w72, hm72, hE72⟩⟩
                  · refine ⟨_, rfl, ?_⟩
                    show wr (n + 20) tb_M146 184 [(3, vi (s.1 170 5)), (2, vi ((kn : Int))), (0, .ref 170), (1, vi deep)] [vi 0] s73 _
                    refine wr_end (fun _ _ => rfl) ?_
                    exact ⟨0, rfl, hc72.trans rfl, Or.inl ⟨rfl, FR_tr (BX_FR (PI_rf hP)) hF72⟩⟩
                  · refine ⟨_, rfl, ?_⟩
                    show wr (n + 20) tb_M146 184 [(3, vi (s.1 170 5)), (2, vi ((kn : Int))), (0, .ref 170), (1, vi deep)] [vi 1] s73 _
                    unfold NXE at hN72
                    have hP76 : PI C y s73.1 := PI_BX hC hP hBk72
                    have hB76 : BX C (gn y) s.1 s73.1 := BX_tr hC (PI_rf hP) hBk72
                    have hQ76 : CS s.1 s73.1 := CS_tr (CS_rf (r := s.1)) hS72
                    have hz76 : s73.2 = s.2 := hc72.trans rfl
                    have hx76 := LX_nums hP76
                    refine wr_end (fun _ _ => rfl) ?_
                    have hq9 : fk (gd y i) - 2 = 1 := by omega
                    refine ⟨1, rfl, hz76, Or.inr ⟨rfl, hR72, hB76, hQ76, by unfold NXE; omega, by omega, w72, hm72, ?_⟩⟩
                    intro h0 hh0
                    exact (SG_mono (by omega) (ZM_CS (CS_rf (r := s73.1))) (hq9 ▸ hE72 h0 (by omega)))
                · refine wr_if2f rfl rfl (by unfold i32; omega) (by unfold i32; omega) h71 ?_
                  refine wr_n (pc2 := 173) (lv2 := [(3, vi (s.1 170 5)), (2, vi ((kn : Int))), (0, .ref 170), (1, vi deep)]) (st2 := [.ref 170]) 1 (fun _ _ => rfl) ?_
                  refine wr_call1 (args := []) (rest := []) rfl rfl rfl rfl (Nat.le_of_ble_eq_true rfl) (cr_mono (x_bad0 (C := C) (d := n + 18) _ hR) ?_)
                  rintro s78 out ⟨rfl, hc77, hF77⟩
                  · refine ⟨_, rfl, ?_⟩
                    show wr (n + 20) tb_M146 176 [(3, vi (s.1 170 5)), (2, vi ((kn : Int))), (0, .ref 170), (1, vi deep)] [vi 0] s78 _
                    refine wr_end (fun _ _ => rfl) ?_
                    exact ⟨0, rfl, hc77.trans rfl, Or.inl ⟨rfl, FR_tr (BX_FR (PI_rf hP)) hF77⟩⟩
              · refine wr_if2f rfl rfl (by unfold i32; omega) (by unfold i32; omega) h65 ?_
                refine wr_n (pc2 := 144) (lv2 := [(3, vi (s.1 170 5)), (2, vi ((kn : Int))), (0, .ref 170), (1, vi deep)]) (st2 := [.ref 170]) 1 (fun _ _ => rfl) ?_
                refine wr_call1 (args := []) (rest := []) rfl rfl rfl rfl (Nat.le_of_ble_eq_true rfl) (cr_mono (x_bad0 (C := C) (d := n + 18) _ hR) ?_)
                rintro s81 out ⟨rfl, hc80, hF80⟩
                · refine ⟨_, rfl, ?_⟩
                  show wr (n + 20) tb_M146 147 [(3, vi (s.1 170 5)), (2, vi ((kn : Int))), (0, .ref 170), (1, vi deep)] [vi 0] s81 _
                  refine wr_end (fun _ _ => rfl) ?_
                  exact ⟨0, rfl, hc80.trans rfl, Or.inl ⟨rfl, FR_tr (BX_FR (PI_rf hP)) hF80⟩⟩
          · refine wr_if1f rfl rfl (by unfold i32; omega) h23 ?_
            refine wr_n (pc2 := 140) (lv2 := [(3, vi (s.1 170 5)), (2, vi ((kn : Int))), (0, .ref 170), (1, vi deep)]) (st2 := [vi 1, vi (s.1 174 kn)]) 2 (fun _ _ => rfl) ?_
            by_cases h83 : s.1 174 kn = 1
            · refine wr_if2t rfl rfl (by unfold i32; omega) (by unfold i32; omega) h83 ?_
              refine wr_n (pc2 := 149) (lv2 := [(3, vi (s.1 170 5)), (2, vi ((kn : Int))), (0, .ref 170), (1, vi deep)]) (st2 := [.ref 170]) 1 (fun _ _ => rfl) ?_
              refine wr_get (v := .ref 174) rfl rfl rfl (by decide) (rv_ref (hR 170 11 174 rfl)) fun h84 => ?_
              show wr (n + 20) tb_M146 152 [(3, vi (s.1 170 5)), (2, vi ((kn : Int))), (0, .ref 170), (1, vi deep)] [.ref 174] s _
              refine wr_n (pc2 := 153) (lv2 := [(3, vi (s.1 170 5)), (2, vi ((kn : Int))), (0, .ref 170), (1, vi deep)]) (st2 := [vi ((kn : Int)), .ref 174]) 1 (fun _ _ => rfl) ?_
              refine wr_ald (a := (kn : Int)) (v := vi (s.1 174 kn)) rfl rfl rfl (by omega) (by omega) (by decide) rfl fun h85 => ?_
              have h85 : -2147483648 ≤ s.1 174 kn ∧ s.1 174 kn ≤ 2147483647 := h85
              show wr (n + 20) tb_M146 154 [(3, vi (s.1 170 5)), (2, vi ((kn : Int))), (0, .ref 170), (1, vi deep)] [vi (s.1 174 kn)] s _
              refine wr_n (pc2 := 156) (lv2 := [(3, vi (s.1 170 5)), (2, vi ((kn : Int))), (0, .ref 170), (1, vi deep)]) (st2 := [vi 6, vi (s.1 174 kn)]) 1 (fun _ _ => rfl) ?_
              refine wr_if2t rfl rfl (by unfold i32; omega) (by unfold i32; omega) (by show s.1 174 kn ≠ 6; omega) ?_
              show wr (n + 20) tb_M146 185 [(3, vi (s.1 170 5)), (2, vi ((kn : Int))), (0, .ref 170), (1, vi deep)] [] s _
              refine wr_n (pc2 := 186) (lv2 := [(3, vi (s.1 170 5)), (2, vi ((kn : Int))), (0, .ref 170), (1, vi deep)]) (st2 := [.ref 170]) 1 (fun _ _ => rfl) ?_
              refine wr_call1 (args := []) (rest := []) rfl rfl rfl rfl (Nat.le_of_ble_eq_true rfl) (cr_mono (x_step (d := n + 14) hC _ hR hP) ?_)
              rintro s87 out ⟨rfl, hc86, hR86, hBk86, hK86, hf86⟩
              · refine ⟨_, rfl, ?_⟩
                show wr (n + 20) tb_M146 189 [(3, vi (s.1 170 5)), (2, vi ((kn : Int))), (0, .ref 170), (1, vi deep)] [] s87 _
                obtain ⟨hu86, hk86⟩ := id hK86
                replace hf86 : s.1 170 5 + 1 ≤ s87.1 170 5 := Int.le_trans (LX_lt hP (by omega)) hf86
                have hm86 : s87.1 C 1 = ((m : Nat) : Int) := by omega
                have hP89 : PI C y s87.1 := PI_BX hC hP hBk86
                have hB89 : BX C (gn y) s.1 s87.1 := BX_tr hC (PI_rf hP) hBk86
                have hQ89 : CS s.1 s87.1 := CS_tr (CS_rf (r := s.1)) (KL_CS hK86)
                have hz89 : s87.2 = s.2 := hc86.trans rfl
                have hx89 := LX_nums hP89
                refine wr_n (pc2 := 190) (lv2 := [(3, vi (s.1 170 5)), (2, vi ((kn : Int))), (0, .ref 170), (1, vi deep)]) (st2 := [.ref 170]) 1 (fun _ _ => rfl) ?_
                refine wr_call1 (args := []) (rest := []) rfl rfl rfl rfl (Nat.le_of_ble_eq_true rfl) (cr_mono (x_part (d := n + 18) (m := m) hC _ hR86 hP89 hm86 (by omega) (by omega)) ?_)
                rintro s91 out ⟨rfl, hc90, hR90, hBk90, hK90, hm90, hp90, hda90⟩
                · refine ⟨_, rfl, ?_⟩
                  show wr (n + 20) tb_M146 193 [(3, vi (s.1 170 5)), (2, vi ((kn : Int))), (0, .ref 170), (1, vi deep)] [] s91 _
                  obtain ⟨hu90, hk90⟩ := id hK90
                  have hP93 : PI C y s91.1 := PI_BX hC hP89 hBk90
                  have hB93 : BX C (gn y) s.1 s91.1 := BX_tr hC hB89 hBk90
                  have hQ93 : CS s.1 s91.1 := CS_tr hQ89 (KC_CS hK90)
                  have hz93 : s91.2 = s.2 := hc90.trans hz89
                  have hx93 := LX_nums hP93
                  refine wr_n (pc2 := 195) (lv2 := [(3, vi (s.1 170 5)), (2, vi ((kn : Int))), (0, .ref 170), (1, vi deep)]) (st2 := [.ref 170, .ref 170]) 2 (fun _ _ => rfl) ?_
                  refine wr_get (v := vl (s91.1 170 23)) rfl rfl rfl (by decide) rfl fun h94 => ?_
                  show wr (n + 20) tb_M146 198 [(3, vi (s.1 170 5)), (2, vi ((kn : Int))), (0, .ref 170), (1, vi deep)] [vl (s91.1 170 23), .ref 170] s91 _
                  refine wr_n (pc2 := 199) (lv2 := [(3, vi (s.1 170 5)), (2, vi ((kn : Int))), (0, .ref 170), (1, vi deep)]) (st2 := [vl 1, vl (s91.1 170 23), .ref 170]) 1 (fun _ _ => rfl) ?_
                  have hw4 : s91.1 174 kn = s.1 174 kn := hB93.1 174 kn (by unfold SS; omega)
                  refine wr_n (pc2 := 200) (lv2 := [(3, vi (s.1 170 5)), (2, vi ((kn : Int))), (0, .ref 170), (1, vi deep)]) (st2 := [.ref 170, vl 1, vl (s91.1 170 23), .ref 170]) 1 (fun _ _ => rfl) ?_
                  refine wr_get (v := .ref 174) rfl rfl rfl (by decide) (rv_ref (hR90 170 11 174 rfl)) fun h95 => ?_
                  show wr (n + 20) tb_M146 203 [(3, vi (s.1 170 5)), (2, vi ((kn : Int))), (0, .ref 170), (1, vi deep)] [.ref 174, vl 1, vl (s91.1 170 23), .ref 170] s91 _
                  refine wr_n (pc2 := 204) (lv2 := [(3, vi (s.1 170 5)), (2, vi ((kn : Int))), (0, .ref 170), (1, vi deep)]) (st2 := [vi ((kn : Int)), .ref 174, vl 1, vl (s91.1 170 23), .ref 170]) 1 (fun _ _ => rfl) ?_
                  refine wr_ald (a := (kn : Int)) (v := vi (s91.1 174 kn)) rfl rfl rfl (by omega) (by omega) (by decide) rfl fun h96 => ?_
                  have h96 : -2147483648 ≤ s91.1 174 kn ∧ s91.1 174 kn ≤ 2147483647 := h96
                  show wr (n + 20) tb_M146 205 [(3, vi (s.1 170 5)), (2, vi ((kn : Int))), (0, .ref 170), (1, vi deep)] [vi (s91.1 174 kn), vl 1, vl (s91.1 170 23), .ref 170] s91 _
                  refine wr_n (pc2 := 206) (lv2 := [(3, vi (s.1 170 5)), (2, vi ((kn : Int))), (0, .ref 170), (1, vi deep)]) (st2 := [vi 1, vi (s91.1 174 kn), vl 1, vl (s91.1 170 23), .ref 170]) 1 (fun _ _ => rfl) ?_
                  refine wr_if2f rfl rfl (by unfold i32; omega) (by unfold i32; omega) (by show ¬ (s91.1 174 kn ≠ 1); omega) ?_
                  show wr (n + 20) tb_M146 209 [(3, vi (s.1 170 5)), (2, vi ((kn : Int))), (0, .ref 170), (1, vi deep)] [vl 1, vl (s91.1 170 23), .ref 170] s91 _
                  refine wr_n (pc2 := 216) (lv2 := [(3, vi (s.1 170 5)), (2, vi ((kn : Int))), (0, .ref 170), (1, vi deep)]) (st2 := [.ref 170, vi 24, vl 1, vl (s91.1 170 23), .ref 170]) 3 (fun _ _ => rfl) ?_
                  refine wr_get (v := .ref 175) rfl rfl rfl (by decide) (rv_ref (hR90 170 12 175 rfl)) fun h97 => ?_
                  show wr (n + 20) tb_M146 219 [(3, vi (s.1 170 5)), (2, vi ((kn : Int))), (0, .ref 170), (1, vi deep)] [.ref 175, vi 24, vl 1, vl (s91.1 170 23), .ref 170] s91 _
                  refine wr_n (pc2 := 220) (lv2 := [(3, vi (s.1 170 5)), (2, vi ((kn : Int))), (0, .ref 170), (1, vi deep)]) (st2 := [vi ((kn : Int)), .ref 175, vi 24, vl 1, vl (s91.1 170 23), .ref 170]) 1 (fun _ _ => rfl) ?_
                  refine wr_ald (a := (kn : Int)) (v := vi (s91.1 175 kn)) rfl rfl rfl (by omega) (by omega) (by decide) rfl fun h98 => ?_
                  have h98 : -2147483648 ≤ s91.1 175 kn ∧ s91.1 175 kn ≤ 2147483647 := h98
                  show wr (n + 20) tb_M146 221 [(3, vi (s.1 170 5)), (2, vi ((kn : Int))), (0, .ref 170), (1, vi deep)] [vi (s91.1 175 kn), vi 24, vl 1, vl (s91.1 170 23), .ref 170] s91 _
                  refine wr_add (a := 24) (b := s91.1 175 kn) rfl ?_
                  show wr (n + 20) tb_M146 222 [(3, vi (s.1 170 5)), (2, vi ((kn : Int))), (0, .ref 170), (1, vi deep)] [vi (24 + (s91.1 175 kn)), vl 1, vl (s91.1 170 23), .ref 170] s91 _
                  refine wr_lshl (a := 1) (b := 24 + (s91.1 175 kn)) rfl fun z99 h100 h101 => ?_
                  show wr (n + 20) tb_M146 223 [(3, vi (s.1 170 5)), (2, vi ((kn : Int))), (0, .ref 170), (1, vi deep)] [vl z99, vl (s91.1 170 23), .ref 170] s91 _
                  refine wr_lor (a := s91.1 170 23) (b := z99) rfl fun z102 h103 h104 => ?_
                  show wr (n + 20) tb_M146 224 [(3, vi (s.1 170 5)), (2, vi ((kn : Int))), (0, .ref 170), (1, vi deep)] [vl z102, .ref 170] s91 _
                  refine wr_put (z := z102) rfl rfl rfl rfl (by decide) rfl (by decide) rfl h103 (fit_l _) ?_
                  show wr (n + 20) tb_M146 227 [(3, vi (s.1 170 5)), (2, vi ((kn : Int))), (0, .ref 170), (1, vi deep)] [] (up2 s91.1 170 23 z102, s91.2) _
                  have hR105 : RF (up2 s91.1 170 23 z102) := (RF_up hR90 rfl)
                  obtain ⟨s106, hs106⟩ : ∃ qq9 : rS, qq9 = (up2 s91.1 170 23 z102, s91.2) := ⟨_, rfl⟩
                  rw [← hs106]
                  have hK106 : KM s91.1 s106.1 := by rw [hs106]; exact (KM_up KM_rf (by omega))
                  have hk106 := KM_nums hC hK106
                  have hM106 : True ∧ (MB (gn y) (s91.1 170 26) → MB (gn y) (s106.1 170 26)) := by rw [hs106]; exact (show True ∧ (MB (gn y) (s91.1 170 26) → MB (gn y) (s91.1 170 26)) from ⟨trivial, id⟩)
                  have hBk106 : BX C (gn y) s91.1 s106.1 := BX_KM hC hP93 hK106 hM106
                  have hS106 : CS s91.1 s106.1 := by rw [hs106]; exact CS_rf (r := s91.1)
                  have hR106 : RF s106.1 := BX_RF hC hBk106 hR90
                  have hc106 : s106.2 = s91.2 := by rw [hs106]
                  have hm106 : s106.1 C 1 = ((m + 1 : Nat) : Int) := by omega
                  have hP107 : PI C y s106.1 := PI_BX hC hP93 hBk106
                  have hB107 : BX C (gn y) s.1 s106.1 := BX_tr hC hB93 hBk106
                  have hQ107 : CS s.1 s106.1 := CS_tr hQ93 hS106
                  have hz107 : s106.2 = s.2 := hc106.trans hz93
                  have hx107 := LX_nums hP107
                  show wr (n + 20) tb_M146 227 [(3, vi (s.1 170 5)), (2, vi ((kn : Int))), (0, .ref 170), (1, vi deep)] [] s106 _
                  have hw6 : s106.1 174 kn = s.1 174 kn := hB107.1 174 kn (by unfold SS; omega)
                  refine wr_n (pc2 := 228) (lv2 := [(3, vi (s.1 170 5)), (2, vi ((kn : Int))), (0, .ref 170), (1, vi deep)]) (st2 := [.ref 170]) 1 (fun _ _ => rfl) ?_
                  refine wr_get (v := .ref 174) rfl rfl rfl (by decide) (rv_ref (hR106 170 11 174 rfl)) fun h108 => ?_
                  show wr (n + 20) tb_M146 231 [(3, vi (s.1 170 5)), (2, vi ((kn : Int))), (0, .ref 170), (1, vi deep)] [.ref 174] s106 _
                  refine wr_n (pc2 := 232) (lv2 := [(3, vi (s.1 170 5)), (2, vi ((kn : Int))), (0, .ref 170), (1, vi deep)]) (st2 := [vi ((kn : Int)), .ref 174]) 1 (fun _ _ => rfl) ?_
                  refine wr_ald (a := (kn : Int)) (v := vi (s106.1 174 kn)) rfl rfl rfl (by omega) (by omega) (by decide) rfl fun h109 => ?_
                  have h109 : -2147483648 ≤ s106.1 174 kn ∧ s106.1 174 kn ≤ 2147483647 := h109
                  show wr (n + 20) tb_M146 233 [(3, vi (s.1 170 5)), (2, vi ((kn : Int))), (0, .ref 170), (1, vi deep)] [vi (s106.1 174 kn)] s106 _
                  refine wr_if1t rfl rfl (by unfold i32; omega) (by show s106.1 174 kn ≠ 0; omega) ?_
                  show wr (n + 20) tb_M146 249 [(3, vi (s.1 170 5)), (2, vi ((kn : Int))), (0, .ref 170), (1, vi deep)] [] s106 _
                  refine wr_n (pc2 := 252) (lv2 := [(3, vi (s.1 170 5)), (2, vi ((kn : Int))), (0, .ref 170), (1, vi deep)]) (st2 := [vi 20, vi deep]) 2 (fun _ _ => rfl) ?_
                  by_cases h110 : deep ≠ 20
                  · refine wr_if2t rfl rfl (by unfold i32; omega) (by unfold i32; omega) h110 ?_
                    refine wr_n (pc2 := 261) (lv2 := [(3, vi (s.1 170 5)), (2, vi ((kn : Int))), (0, .ref 170), (1, vi deep)]) (st2 := [.ref 170]) 1 (fun _ _ => rfl) ?_
                    refine wr_call1 (args := []) (rest := []) rfl rfl rfl rfl (Nat.le_of_ble_eq_true rfl) (cr_mono (x_step (d := n + 14) hC _ hR106 hP107) ?_)
                    rintro s112 out ⟨rfl, hc111, hR111, hBk111, hK111, hf111⟩
                    · refine ⟨_, rfl, ?_⟩
                      show wr (n + 20) tb_M146 264 [(3, vi (s.1 170 5)), (2, vi ((kn : Int))), (0, .ref 170), (1, vi deep)] [] s112 _
                      obtain ⟨hu111, hk111⟩ := id hK111
                      replace hf111 : s106.1 170 6 ≤ s112.1 170 5 := hf111
                      have hm111 : s112.1 C 1 = ((m + 1 : Nat) : Int) := by omega
                      have hgg111 := hf111
                      have hP114 : PI C y s112.1 := PI_BX hC hP107 hBk111
                      have hB114 : BX C (gn y) s.1 s112.1 := BX_tr hC hB107 hBk111
                      have hQ114 : CS s.1 s112.1 := CS_tr hQ107 (KL_CS hK111)
                      have hz114 : s112.2 = s.2 := hc111.trans hz107
                      have hx114 := LX_nums hP114
                      refine wr_n (pc2 := 268) (lv2 := [(3, vi (s.1 170 5)), (2, vi ((kn : Int))), (0, .ref 170), (1, vi deep)]) (st2 := [vi 1, vi deep, vi 0, .ref 170]) 4 (fun _ _ => rfl) ?_
                      refine wr_add (a := deep) (b := 1) rfl ?_
                      show wr (n + 20) tb_M146 269 [(3, vi (s.1 170 5)), (2, vi ((kn : Int))), (0, .ref 170), (1, vi deep)] [vi (deep + 1), vi 0, .ref 170] s112 _
                      refine wr_call1 (args := [vi 0, vi (deep + 1)]) (rest := []) rfl rfl rfl rfl (Nat.le_of_ble_eq_true rfl) (cr_mono (hX C y (m + 1) _ 0 (deep + 1) hC hR111 hP114 (BX_mb hB114 hMB) hm111 (by unfold NE; omega) (by omega)) ?_)
                      rintro s116 out ⟨b, rfl, hc115, ⟨rfl, hF115⟩ | ⟨rfl, hR115, hBk115, hS115, hN115, hV115, w115, hm115, hE115⟩⟩
                      · refine ⟨_, rfl, ?_⟩
                        show wr (n + 20) tb_M146 272 [(3, vi (s.1 170 5)), (2, vi ((kn : Int))), (0, .ref 170), (1, vi deep)] [vi 0] s116 _
                        refine wr_n (pc2 := 286) (lv2 := [(3, vi (s.1 170 5)), (2, vi ((kn : Int))), (0, .ref 170), (1, vi deep)]) (st2 := [vi 0]) 2 (fun _ _ => rfl) ?_
                        refine wr_end (fun _ _ => rfl) ?_
                        exact ⟨0, rfl, hc115.trans hz114, Or.inl ⟨rfl, FR_tr (BX_FR hB114) hF115⟩⟩
                      · refine ⟨_, rfl, ?_⟩
                        show wr (n + 20) tb_M146 272 [(3, vi (s.1 170 5)), (2, vi ((kn : Int))), (0, .ref 170), (1, vi deep)] [vi 1] s116 _
                        unfold NXE at hN115
                        have hP119 : PI C y s116.1 := PI_BX hC hP114 hBk115
                        have hB119 : BX C (gn y) s.1 s116.1 := BX_tr hC hB114 hBk115
                        have hQ119 : CS s.1 s116.1 := CS_tr hQ114 hS115
                        have hz119 : s116.2 = s.2 := hc115.trans hz114
                        have hx119 := LX_nums hP119
                        refine wr_n (pc2 := 279) (lv2 := [(3, vi (s.1 170 5)), (2, vi ((kn : Int))), (0, .ref 170), (1, vi deep)]) (st2 := [.ref 44, .ref 170]) 3 (fun _ _ => rfl) ?_
                        refine wr_call1 (args := [.ref 44]) (rest := []) rfl rfl rfl rfl (Nat.le_of_ble_eq_true rfl) (cr_mono (x_take (d := n + 13) isT_44 hC _ hR115 hP119) ?_)
                        rintro s121 out ⟨b, rfl, hc120, ⟨rfl, hF120⟩ | ⟨rfl, hR120, hBk120, hK120, hf120⟩⟩
                        · refine ⟨_, rfl, ?_⟩
                          show wr (n + 20) tb_M146 282 [(3, vi (s.1 170 5)), (2, vi ((kn : Int))), (0, .ref 170), (1, vi deep)] [vi 0] s121 _
                          refine wr_n (pc2 := 286) (lv2 := [(3, vi (s.1 170 5)), (2, vi ((kn : Int))), (0, .ref 170), (1, vi deep)]) (st2 := [vi 0]) 2 (fun _ _ => rfl) ?_
                          refine wr_end (fun _ _ => rfl) ?_
                          exact ⟨0, rfl, hc120.trans hz119, Or.inl ⟨rfl, FR_tr (BX_FR hB119) hF120⟩⟩
                        · refine ⟨_, rfl, ?_⟩
                          show wr (n + 20) tb_M146 282 [(3, vi (s.1 170 5)), (2, vi ((kn : Int))), (0, .ref 170), (1, vi deep)] [vi 1] s121 _
                          obtain ⟨hu120, hk120⟩ := id hK120
                          replace hf120 : s116.1 170 5 + 1 ≤ s121.1 170 5 := hf120
                          have hm120 : s121.1 C 1 = ((w115 : Nat) : Int) := by omega
                          have hP124 : PI C y s121.1 := PI_BX hC hP119 hBk120
                          have hB124 : BX C (gn y) s.1 s121.1 := BX_tr hC hB119 hBk120
                          have hQ124 : CS s.1 s121.1 := CS_tr hQ119 (KL_CS hK120)
                          have hz124 : s121.2 = s.2 := hc120.trans hz119
                          have hx124 := LX_nums hP124
                          refine wr_n (pc2 := 290) (lv2 := [(3, vi (s.1 170 5)), (2, vi ((kn : Int))), (0, .ref 170), (1, vi deep)]) (st2 := [.ref 170, vi 4, .ref 170]) 4 (fun _ _ => rfl) ?_
                          refine wr_get (v := .ref 175) rfl rfl rfl (by decide) (rv_ref (hR120 170 12 175 rfl)) fun h125 => ?_
                          show wr (n + 20) tb_M146 293 [(3, vi (s.1 170 5)), (2, vi ((kn : Int))), (0, .ref 170), (1, vi deep)] [.ref 175, vi 4, .ref 170] s121 _
                          have hw8 : s121.1 174 kn = s.1 174 kn := hB124.1 174 kn (by unfold SS; omega)
                          have hq5 := N_arr hP124 (k := kn) (by omega) (by omega)
                          refine wr_n (pc2 := 294) (lv2 := [(3, vi (s.1 170 5)), (2, vi ((kn : Int))), (0, .ref 170), (1, vi deep)]) (st2 := [vi ((kn : Int)), .ref 175, vi 4, .ref 170]) 1 (fun _ _ => rfl) ?_
                          refine wr_ald (a := (kn : Int)) (v := vi (s121.1 175 kn)) rfl rfl rfl (by omega) (by omega) (by decide) rfl fun h126 => ?_
                          have h126 : -2147483648 ≤ s121.1 175 kn ∧ s121.1 175 kn ≤ 2147483647 := h126
                          show wr (n + 20) tb_M146 295 [(3, vi (s.1 170 5)), (2, vi ((kn : Int))), (0, .ref 170), (1, vi deep)] [vi (s121.1 175 kn), vi 4, .ref 170] s121 _
                          refine wr_call1 (args := [vi 4, vi (s121.1 175 kn)]) (rest := []) rfl rfl rfl rfl (Nat.le_of_ble_eq_true rfl) (cr_mono (x_put2 (d := n + 18) (m := w115) (op := 4) (v := s121.1 175 kn) hC _ hR120 hP124 (by unfold i32; omega) (by unfold i32; omega) hm120 (by omega)) ?_)
                          rintro s128 out ⟨rfl, hc127, hR127, hBk127, hK127, hm127, hp127, hda127, hdb127⟩
                          · refine ⟨_, rfl, ?_⟩
                            show wr (n + 20) tb_M146 298 [(3, vi (s.1 170 5)), (2, vi ((kn : Int))), (0, .ref 170), (1, vi deep)] [] s128 _
                            obtain ⟨hu127, hk127⟩ := id hK127
                            have hP130 : PI C y s128.1 := PI_BX hC hP124 hBk127
                            have hB130 : BX C (gn y) s.1 s128.1 := BX_tr hC hB124 hBk127
                            have hQ130 : CS s.1 s128.1 := CS_tr hQ124 (KC_CS hK127)
                            have hz130 : s128.2 = s.2 := hc127.trans hz124
                            have hx130 := LX_nums hP130
                            refine wr_n (pc2 := 299) (lv2 := [(3, vi (s.1 170 5)), (2, vi ((kn : Int))), (0, .ref 170), (1, vi deep)]) (st2 := [vi 1]) 1 (fun _ _ => rfl) ?_
                            refine wr_end (fun _ _ => rfl) ?_
                            refine ⟨1, rfl, hz130, Or.inr ⟨rfl, hR127, hB130, hQ130, by unfold NXE; omega, by omega, w115 + 2, hm127, ?_⟩⟩
                            intro h0 hh0
                            exact (SG_seq (by omega) (by omega) (SG_part ((BX_code hC (BX_tr hC (BX_tr hC (BX_tr hC (BX_tr hC hBk106 hBk111) hBk115) hBk120) hBk127) (by omega)).trans hda90) (by omega)) (SH_seq (by omega) (by omega) (SG_SH (SG_mono (by omega) (ZM_CS (CS_tr (KL_CS hK120) (KC_CS hK127))) (SG_agr (fun p _ hp => BX_code hC (BX_tr hC hBk120 hBk127) (by omega)) (hE115 h0 (by omega))))) (SH_item (v := (s121.1 175 kn).toNat) hda127 (hdb127.trans (Int.toNat_of_nonneg (by omega)).symm) (by omega) (by omega))))
                  · refine wr_if2f rfl rfl (by unfold i32; omega) (by unfold i32; omega) h110 ?_
                    refine wr_n (pc2 := 256) (lv2 := [(3, vi (s.1 170 5)), (2, vi ((kn : Int))), (0, .ref 170), (1, vi deep)]) (st2 := [.ref 170]) 1 (fun _ _ => rfl) ?_
                    refine wr_call1 (args := []) (rest := []) rfl rfl rfl rfl (Nat.le_of_ble_eq_true rfl) (cr_mono (x_bad0 (C := C) (d := n + 18) _ hR106) ?_)
                    rintro s132 out ⟨rfl, hc131, hF131⟩
                    · refine ⟨_, rfl, ?_⟩
                      show wr (n + 20) tb_M146 259 [(3, vi (s.1 170 5)), (2, vi ((kn : Int))), (0, .ref 170), (1, vi deep)] [vi 0] s132 _
                      refine wr_end (fun _ _ => rfl) ?_
                      exact ⟨0, rfl, hc131.trans hz107, Or.inl ⟨rfl, FR_tr (BX_FR hB107) hF131⟩⟩
            · refine wr_if2f rfl rfl (by unfold i32; omega) (by unfold i32; omega) h83 ?_
              refine wr_n (pc2 := 144) (lv2 := [(3, vi (s.1 170 5)), (2, vi ((kn : Int))), (0, .ref 170), (1, vi deep)]) (st2 := [.ref 170]) 1 (fun _ _ => rfl) ?_
              refine wr_call1 (args := []) (rest := []) rfl rfl rfl rfl (Nat.le_of_ble_eq_true rfl) (cr_mono (x_bad0 (C := C) (d := n + 18) _ hR) ?_)
              rintro s135 out ⟨rfl, hc134, hF134⟩
              · refine ⟨_, rfl, ?_⟩
                show wr (n + 20) tb_M146 147 [(3, vi (s.1 170 5)), (2, vi ((kn : Int))), (0, .ref 170), (1, vi deep)] [vi 0] s135 _
                refine wr_end (fun _ _ => rfl) ?_
                exact ⟨0, rfl, hc134.trans rfl, Or.inl ⟨rfl, FR_tr (BX_FR (PI_rf hP)) hF134⟩⟩
      · refine wr_if2f rfl rfl (by unfold i32; omega) (by unfold i32; omega) h6 ?_
        refine wr_n (pc2 := 88) (lv2 := [(0, .ref 170), (1, vi deep)]) (st2 := [.ref 170]) 1 (fun _ _ => rfl) ?_
        refine wr_call1 (args := []) (rest := []) rfl rfl rfl rfl (Nat.le_of_ble_eq_true rfl) (cr_mono (x_bad0 (C := C) (d := n + 18) _ hR) ?_)
        rintro s138 out ⟨rfl, hc137, hF137⟩
        · refine ⟨_, rfl, ?_⟩
          show wr (n + 20) tb_M146 91 [(0, .ref 170), (1, vi deep)] [vi 0] s138 _
          refine wr_end (fun _ _ => rfl) ?_
          exact ⟨0, rfl, hc137.trans rfl, Or.inl ⟨rfl, FR_tr (BX_FR (PI_rf hP)) hF137⟩⟩
    · refine ⟨_, rfl, ?_⟩
      rw [he3]
      show wr (n + 20) tb_M146 34 [(0, .ref 170), (1, vi deep)] [vi 1] s _
      have hg3 : 1 ≤ s.1 170 4 ∧ s.1 170 5 + 1 = s.1 170 6 := ⟨by omega, hl3⟩
      clear hj3 hl3
      refine wr_n (pc2 := 40) (lv2 := [(0, .ref 170), (1, vi deep)]) (st2 := [vi 20, vi deep]) 3 (fun _ _ => rfl) ?_
      by_cases h140 : deep ≠ 20
      · refine wr_if2t rfl rfl (by unfold i32; omega) (by unfold i32; omega) h140 ?_
        refine wr_n (pc2 := 49) (lv2 := [(0, .ref 170), (1, vi deep)]) (st2 := [.ref 170]) 1 (fun _ _ => rfl) ?_
        refine wr_call1 (args := []) (rest := []) rfl rfl rfl rfl (Nat.le_of_ble_eq_true rfl) (cr_mono (x_step (d := n + 14) hC _ hR hP) ?_)
        rintro s142 out ⟨rfl, hc141, hR141, hBk141, hK141, hf141⟩
        · refine ⟨_, rfl, ?_⟩
          show wr (n + 20) tb_M146 52 [(0, .ref 170), (1, vi deep)] [] s142 _
          obtain ⟨hu141, hk141⟩ := id hK141
          replace hf141 : s.1 170 6 ≤ s142.1 170 5 := hf141
          have hm141 : s142.1 C 1 = ((m : Nat) : Int) := by omega
          have hP144 : PI C y s142.1 := PI_BX hC hP hBk141
          have hB144 : BX C (gn y) s.1 s142.1 := BX_tr hC (PI_rf hP) hBk141
          have hQ144 : CS s.1 s142.1 := CS_tr (CS_rf (r := s.1)) (KL_CS hK141)
          have hz144 : s142.2 = s.2 := hc141.trans rfl
          have hx144 := LX_nums hP144
          refine wr_n (pc2 := 56) (lv2 := [(0, .ref 170), (1, vi deep)]) (st2 := [vi 1, vi deep, vi 0, .ref 170]) 4 (fun _ _ => rfl) ?_
          refine wr_add (a := deep) (b := 1) rfl ?_
          show wr (n + 20) tb_M146 57 [(0, .ref 170), (1, vi deep)] [vi (deep + 1), vi 0, .ref 170] s142 _
          refine wr_call1 (args := [vi 0, vi (deep + 1)]) (rest := []) rfl rfl rfl rfl (Nat.le_of_ble_eq_true rfl) (cr_mono (hX C y m _ 0 (deep + 1) hC hR141 hP144 (BX_mb hB144 hMB) hm141 (by unfold NE; omega) (by omega)) ?_)
          rintro s146 out ⟨b, rfl, hc145, ⟨rfl, hF145⟩ | ⟨rfl, hR145, hBk145, hS145, hN145, hV145, w145, hm145, hE145⟩⟩
          · refine ⟨_, rfl, ?_⟩
            show wr (n + 20) tb_M146 60 [(0, .ref 170), (1, vi deep)] [vi 0] s146 _
            refine wr_n (pc2 := 78) (lv2 := [(0, .ref 170), (1, vi deep)]) (st2 := [vi 0]) 2 (fun _ _ => rfl) ?_
            refine wr_end (fun _ _ => rfl) ?_
            exact ⟨0, rfl, hc145.trans hz144, Or.inl ⟨rfl, FR_tr (BX_FR hB144) hF145⟩⟩
          · refine ⟨_, rfl, ?_⟩
            show wr (n + 20) tb_M146 60 [(0, .ref 170), (1, vi deep)] [vi 1] s146 _
            unfold NXE at hN145
            have hP149 : PI C y s146.1 := PI_BX hC hP144 hBk145
            have hB149 : BX C (gn y) s.1 s146.1 := BX_tr hC hB144 hBk145
            have hQ149 : CS s.1 s146.1 := CS_tr hQ144 hS145
            have hz149 : s146.2 = s.2 := hc145.trans hz144
            have hx149 := LX_nums hP149
            refine wr_n (pc2 := 67) (lv2 := [(0, .ref 170), (1, vi deep)]) (st2 := [.ref 24, .ref 170]) 3 (fun _ _ => rfl) ?_
            refine wr_call1 (args := [.ref 24]) (rest := []) rfl rfl rfl rfl (Nat.le_of_ble_eq_true rfl) (cr_mono (x_take (d := n + 13) isT_24 hC _ hR145 hP149) ?_)
            rintro s151 out ⟨b, rfl, hc150, ⟨rfl, hF150⟩ | ⟨rfl, hR150, hBk150, hK150, hf150⟩⟩
            · refine ⟨_, rfl, ?_⟩
              show wr (n + 20) tb_M146 70 [(0, .ref 170), (1, vi deep)] [vi 0] s151 _
              refine wr_n (pc2 := 78) (lv2 := [(0, .ref 170), (1, vi deep)]) (st2 := [vi 0]) 2 (fun _ _ => rfl) ?_
              refine wr_end (fun _ _ => rfl) ?_
              exact ⟨0, rfl, hc150.trans hz149, Or.inl ⟨rfl, FR_tr (BX_FR hB149) hF150⟩⟩
            · refine ⟨_, rfl, ?_⟩
              show wr (n + 20) tb_M146 70 [(0, .ref 170), (1, vi deep)] [vi 1] s151 _
              obtain ⟨hu150, hk150⟩ := id hK150
              replace hf150 : s146.1 170 5 + 1 ≤ s151.1 170 5 := hf150
              have hm150 : s151.1 C 1 = ((w145 : Nat) : Int) := by omega
              have hP154 : PI C y s151.1 := PI_BX hC hP149 hBk150
              have hB154 : BX C (gn y) s.1 s151.1 := BX_tr hC hB149 hBk150
              have hQ154 : CS s.1 s151.1 := CS_tr hQ149 (KL_CS hK150)
              have hz154 : s151.2 = s.2 := hc150.trans hz149
              have hx154 := LX_nums hP154
              refine wr_n (pc2 := 78) (lv2 := [(0, .ref 170), (1, vi deep)]) (st2 := [vi 1]) 3 (fun _ _ => rfl) ?_
              refine wr_end (fun _ _ => rfl) ?_
              refine ⟨1, rfl, hz154, Or.inr ⟨rfl, hR150, hB154, hQ154, by unfold NXE; omega, by omega, w145, hm150, ?_⟩⟩
              intro h0 hh0
              exact (SG_mono (by omega) (ZM_CS (KL_CS hK150)) (SG_agr (fun p _ hp => BX_code hC hBk150 (by omega)) (hE145 h0 (by omega))))
      · refine wr_if2f rfl rfl (by unfold i32; omega) (by unfold i32; omega) h140 ?_
        refine wr_n (pc2 := 44) (lv2 := [(0, .ref 170), (1, vi deep)]) (st2 := [.ref 170]) 1 (fun _ _ => rfl) ?_
        refine wr_call1 (args := []) (rest := []) rfl rfl rfl rfl (Nat.le_of_ble_eq_true rfl) (cr_mono (x_bad0 (C := C) (d := n + 18) _ hR) ?_)
        rintro s156 out ⟨rfl, hc155, hF155⟩
        · refine ⟨_, rfl, ?_⟩
          show wr (n + 20) tb_M146 47 [(0, .ref 170), (1, vi deep)] [vi 0] s156 _
          refine wr_end (fun _ _ => rfl) ?_
          exact ⟨0, rfl, hc155.trans rfl, Or.inl ⟨rfl, FR_tr (BX_FR (PI_rf hP)) hF155⟩⟩
  · refine wr_if2f rfl rfl (by unfold i32; omega) (by unfold i32; omega) h2 ?_
    have hlt := LX_lt hP (by omega)
    refine wr_n (pc2 := 9) (lv2 := [(0, .ref 170), (1, vi deep)]) (st2 := [.ref 170]) 1 (fun _ _ => rfl) ?_
    refine wr_call1 (args := []) (rest := []) rfl rfl rfl rfl (Nat.le_of_ble_eq_true rfl) (cr_mono (x_part (d := n + 18) (m := m) hC _ hR hP hm (by omega) (by omega)) ?_)
    rintro s159 out ⟨rfl, hc158, hR158, hBk158, hK158, hm158, hp158, hda158⟩
    · refine ⟨_, rfl, ?_⟩
      show wr (n + 20) tb_M146 12 [(0, .ref 170), (1, vi deep)] [] s159 _
      obtain ⟨hu158, hk158⟩ := id hK158
      have hP161 : PI C y s159.1 := PI_BX hC hP hBk158
      have hB161 : BX C (gn y) s.1 s159.1 := BX_tr hC (PI_rf hP) hBk158
      have hQ161 : CS s.1 s159.1 := CS_tr (CS_rf (r := s.1)) (KC_CS hK158)
      have hz161 : s159.2 = s.2 := hc158.trans rfl
      have hx161 := LX_nums hP161
      refine wr_n (pc2 := 15) (lv2 := [(0, .ref 170), (1, vi deep)]) (st2 := [.ref 170, vi 2, .ref 170]) 3 (fun _ _ => rfl) ?_
      refine wr_get (v := vi (s159.1 170 7)) rfl rfl rfl (by decide) rfl fun h162 => ?_
      have h162 : -2147483648 ≤ s159.1 170 7 ∧ s159.1 170 7 ≤ 2147483647 := h162
      show wr (n + 20) tb_M146 18 [(0, .ref 170), (1, vi deep)] [vi (s159.1 170 7), vi 2, .ref 170] s159 _
      refine wr_call1 (args := [vi 2, vi (s159.1 170 7)]) (rest := []) rfl rfl rfl rfl (Nat.le_of_ble_eq_true rfl) (cr_mono (x_put2 (d := n + 18) (m := m + 1) (op := 2) (v := s159.1 170 7) hC _ hR158 hP161 (by unfold i32; omega) (by unfold i32; omega) hm158 (by omega)) ?_)
      rintro s164 out ⟨rfl, hc163, hR163, hBk163, hK163, hm163, hp163, hda163, hdb163⟩
      · refine ⟨_, rfl, ?_⟩
        show wr (n + 20) tb_M146 21 [(0, .ref 170), (1, vi deep)] [] s164 _
        obtain ⟨hu163, hk163⟩ := id hK163
        have hP166 : PI C y s164.1 := PI_BX hC hP161 hBk163
        have hB166 : BX C (gn y) s.1 s164.1 := BX_tr hC hB161 hBk163
        have hQ166 : CS s.1 s164.1 := CS_tr hQ161 (KC_CS hK163)
        have hz166 : s164.2 = s.2 := hc163.trans hz161
        have hx166 := LX_nums hP166
        refine wr_n (pc2 := 22) (lv2 := [(0, .ref 170), (1, vi deep)]) (st2 := [.ref 170]) 1 (fun _ _ => rfl) ?_
        refine wr_call1 (args := []) (rest := []) rfl rfl rfl rfl (Nat.le_of_ble_eq_true rfl) (cr_mono (x_step (d := n + 14) hC _ hR163 hP166) ?_)
        rintro s168 out ⟨rfl, hc167, hR167, hBk167, hK167, hf167⟩
        · refine ⟨_, rfl, ?_⟩
          show wr (n + 20) tb_M146 25 [(0, .ref 170), (1, vi deep)] [] s168 _
          obtain ⟨hu167, hk167⟩ := id hK167
          replace hf167 : s164.1 170 5 + 1 ≤ s168.1 170 5 := Int.le_trans (LX_lt hP166 (by omega)) hf167
          have hm167 : s168.1 C 1 = ((m + 1 + 2 : Nat) : Int) := by omega
          have hP170 : PI C y s168.1 := PI_BX hC hP166 hBk167
          have hB170 : BX C (gn y) s.1 s168.1 := BX_tr hC hB166 hBk167
          have hQ170 : CS s.1 s168.1 := CS_tr hQ166 (KL_CS hK167)
          have hz170 : s168.2 = s.2 := hc167.trans hz166
          have hx170 := LX_nums hP170
          refine wr_n (pc2 := 26) (lv2 := [(0, .ref 170), (1, vi deep)]) (st2 := [vi 1]) 1 (fun _ _ => rfl) ?_
          refine wr_end (fun _ _ => rfl) ?_
          refine ⟨1, rfl, hz170, Or.inr ⟨rfl, hR167, hB170, hQ170, by unfold NXE; omega, by omega, m + 1 + 2, hm167, ?_⟩⟩
          intro h0 hh0
          exact (SG_seq (by omega) (by omega) (SG_part ((BX_code hC (BX_tr hC hBk163 hBk167) (by omega)).trans hda158) (by omega)) (SH_const ((BX_code hC hBk167 (by omega)).trans hda163) (by omega) (by omega)))
set_option maxRecDepth 100000 in
theorem p_callInside {n : Nat} (hCa : CC n) : CI (n + 1) := by
  intro C y m s k i a deep hC hR hP hMB hm hN hd
  unfold NE at hN
  have hx0 := LX_nums hP
  have hgt := gt_of hP
  have hd4 := hd.2.2.2.2.1
  unfold i32 at hd4
  have hlz := LX_of hP
  have hsz : s.1 170 3 = s.1 170 6 ∧ s.1 170 6 ≤ s.1 170 2 ∧ s.1 170 2 ≤ 2000 := by unfold LX at hlz; omega
  clear hlz
  have loop : ∀ (w : Nat) (q : Int), (2000 - q).toNat = w → (0 ≤ q ∧ q ≤ s.1 170 2) → wr (n + 20) tb_M149 6 [(4, vi q), (0, .ref 170), (1, vi ((k : Int))), (2, vi a), (3, vi deep)] [] s (EP C y m (fk (gd y i) - 2) 0 s) := by
    intro w
    induction w using Nat.strongRecOn with | ind w ih => ?_
    intro q hq hq2
    refine wr_n (pc2 := 9) (lv2 := [(4, vi q), (0, .ref 170), (1, vi ((k : Int))), (2, vi a), (3, vi deep)]) (st2 := [.ref 170, vi q]) 2 (fun _ _ => rfl) ?_
    refine wr_get (v := vi (s.1 170 2)) rfl rfl rfl (by decide) rfl fun h1 => ?_
    have h1 : -2147483648 ≤ s.1 170 2 ∧ s.1 170 2 ≤ 2147483647 := h1
    show wr (n + 20) tb_M149 12 [(4, vi q), (0, .ref 170), (1, vi ((k : Int))), (2, vi a), (3, vi deep)] [vi (s.1 170 2), vi q] s _
    by_cases h2 : s.1 170 2 ≤ q
    · refine wr_if2t rfl rfl (by unfold i32; omega) (by unfold i32; omega) h2 ?_
      refine wr_n (pc2 := 48) (lv2 := [(4, vi q), (0, .ref 170), (1, vi ((k : Int))), (2, vi a), (3, vi deep)]) (st2 := [.ref 170, vi q]) 2 (fun _ _ => rfl) ?_
      refine wr_get (v := vi (s.1 170 2)) rfl rfl rfl (by decide) rfl fun h3 => ?_
      have h3 : -2147483648 ≤ s.1 170 2 ∧ s.1 170 2 ≤ 2147483647 := h3
      show wr (n + 20) tb_M149 51 [(4, vi q), (0, .ref 170), (1, vi ((k : Int))), (2, vi a), (3, vi deep)] [vi (s.1 170 2), vi q] s _
      by_cases h4 : s.1 170 2 ≤ q
      · refine wr_if2t rfl rfl (by unfold i32; omega) (by unfold i32; omega) h4 ?_
        refine wr_n (pc2 := 69) (lv2 := [(4, vi q), (0, .ref 170), (1, vi ((k : Int))), (2, vi a), (3, vi deep)]) (st2 := [vi q, .ref 170]) 2 (fun _ _ => rfl) ?_
        refine wr_call1 (args := [vi q]) (rest := []) rfl rfl rfl rfl (Nat.le_of_ble_eq_true rfl) (cr_mono (x_bad1 (C := C) (d := n + 19) (a := q) _ hR (by unfold i32; omega)) ?_)
        rintro s6 out ⟨rfl, hc5, hF5⟩
        · refine ⟨_, rfl, ?_⟩
          show wr (n + 20) tb_M149 72 [(4, vi q), (0, .ref 170), (1, vi ((k : Int))), (2, vi a), (3, vi deep)] [vi 0] s6 _
          refine wr_end (fun _ _ => rfl) ?_
          exact ⟨0, rfl, hc5.trans rfl, Or.inl ⟨rfl, FR_tr (BX_FR (PI_rf hP)) hF5⟩⟩
      · refine wr_if2f rfl rfl (by unfold i32; omega) (by unfold i32; omega) h4 ?_
        refine wr_n (pc2 := 55) (lv2 := [(4, vi q), (0, .ref 170), (1, vi ((k : Int))), (2, vi a), (3, vi deep)]) (st2 := [.ref 170]) 1 (fun _ _ => rfl) ?_
        refine wr_get (v := .ref 171) rfl rfl rfl (by decide) (rv_ref (hR 170 0 171 rfl)) fun h8 => ?_
        show wr (n + 20) tb_M149 58 [(4, vi q), (0, .ref 170), (1, vi ((k : Int))), (2, vi a), (3, vi deep)] [.ref 171] s _
        refine wr_n (pc2 := 60) (lv2 := [(4, vi q), (0, .ref 170), (1, vi ((k : Int))), (2, vi a), (3, vi deep)]) (st2 := [vi q, .ref 171]) 1 (fun _ _ => rfl) ?_
        refine wr_ald (a := q) (v := vi (s.1 171 q.toNat)) rfl rfl rfl (by omega) (by omega) (by decide) rfl fun h9 => ?_
        have h9 : -128 ≤ s.1 171 q.toNat ∧ s.1 171 q.toNat ≤ 127 := h9
        show wr (n + 20) tb_M149 61 [(4, vi q), (0, .ref 170), (1, vi ((k : Int))), (2, vi a), (3, vi deep)] [vi (s.1 171 q.toNat)] s _
        refine wr_n (pc2 := 63) (lv2 := [(4, vi q), (0, .ref 170), (1, vi ((k : Int))), (2, vi a), (3, vi deep)]) (st2 := [vi 40, vi (s.1 171 q.toNat)]) 1 (fun _ _ => rfl) ?_
        by_cases h10 : s.1 171 q.toNat = 40
        · refine wr_if2t rfl rfl (by unfold i32; omega) (by unfold i32; omega) h10 ?_
          refine wr_n (pc2 := 76) (lv2 := [(4, vi q), (0, .ref 170), (1, vi ((k : Int))), (2, vi a), (3, vi deep)]) (st2 := [vi 20, vi deep]) 2 (fun _ _ => rfl) ?_
          by_cases h11 : deep ≠ 20
          · refine wr_if2t rfl rfl (by unfold i32; omega) (by unfold i32; omega) h11 ?_
            refine wr_n (pc2 := 91) (lv2 := [(4, vi q), (0, .ref 170), (1, vi ((k : Int))), (2, vi a), (3, vi deep)]) (st2 := [vi 1, vi deep, vi a, vi ((k : Int)), .ref 170]) 5 (fun _ _ => rfl) ?_
            refine wr_add (a := deep) (b := 1) rfl ?_
            show wr (n + 20) tb_M149 92 [(4, vi q), (0, .ref 170), (1, vi ((k : Int))), (2, vi a), (3, vi deep)] [vi (deep + 1), vi a, vi ((k : Int)), .ref 170] s _
            refine wr_n (pc2 := 93) (lv2 := [(4, vi q), (0, .ref 170), (1, vi ((k : Int))), (2, vi a), (3, vi deep)]) (st2 := [vi 1, vi (deep + 1), vi a, vi ((k : Int)), .ref 170]) 1 (fun _ _ => rfl) ?_
            refine wr_call1 (args := [vi ((k : Int)), vi a, vi (deep + 1), vi 1]) (rest := []) rfl rfl rfl rfl (Nat.le_of_ble_eq_true rfl) (cr_mono (hCa C y m _ k i a (deep + 1) 1 hC hR hP (BX_mb (PI_rf hP) hMB) hm (by unfold NE; omega) ⟨by omega, hd.2.1, by omega, by omega, by unfold i32; omega, by omega⟩) ?_)
            rintro s13 out ⟨b, rfl, hc12, ⟨rfl, hF12⟩ | ⟨rfl, hR12, hBk12, hS12, hN12, hV12, w12, hm12, hE12⟩⟩
            · refine ⟨_, rfl, ?_⟩
              show wr (n + 20) tb_M149 96 [(4, vi q), (0, .ref 170), (1, vi ((k : Int))), (2, vi a), (3, vi deep)] [vi 0] s13 _
              refine wr_end (fun _ _ => rfl) ?_
              exact ⟨0, rfl, hc12.trans rfl, Or.inl ⟨rfl, FR_tr (BX_FR (PI_rf hP)) hF12⟩⟩
            · refine ⟨_, rfl, ?_⟩
              show wr (n + 20) tb_M149 96 [(4, vi q), (0, .ref 170), (1, vi ((k : Int))), (2, vi a), (3, vi deep)] [vi 1] s13 _
              unfold NXE at hN12
              have hP16 : PI C y s13.1 := PI_BX hC hP hBk12
              have hB16 : BX C (gn y) s.1 s13.1 := BX_tr hC (PI_rf hP) hBk12
              have hQ16 : CS s.1 s13.1 := CS_tr (CS_rf (r := s.1)) hS12
              have hz16 : s13.2 = s.2 := hc12.trans rfl
              have hx16 := LX_nums hP16
              refine wr_end (fun _ _ => rfl) ?_
              refine ⟨1, rfl, hz16, Or.inr ⟨rfl, hR12, hB16, hQ16, by unfold NXE; omega, by omega, w12, hm12, ?_⟩⟩
              intro h0 hh0
              exact (SG_mono (by omega) (ZM_CS (CS_rf (r := s13.1))) (hE12 h0 (by omega)))
          · refine wr_if2f rfl rfl (by unfold i32; omega) (by unfold i32; omega) h11 ?_
            refine wr_n (pc2 := 82) (lv2 := [(4, vi q), (0, .ref 170), (1, vi ((k : Int))), (2, vi a), (3, vi deep)]) (st2 := [vi q, .ref 170]) 2 (fun _ _ => rfl) ?_
            refine wr_call1 (args := [vi q]) (rest := []) rfl rfl rfl rfl (Nat.le_of_ble_eq_true rfl) (cr_mono (x_bad1 (C := C) (d := n + 19) (a := q) _ hR (by unfold i32; omega)) ?_)
            rintro s18 out ⟨rfl, hc17, hF17⟩
            · refine ⟨_, rfl, ?_⟩
              show wr (n + 20) tb_M149 85 [(4, vi q), (0, .ref 170), (1, vi ((k : Int))), (2, vi a), (3, vi deep)] [vi 0] s18 _
              refine wr_end (fun _ _ => rfl) ?_
              exact ⟨0, rfl, hc17.trans rfl, Or.inl ⟨rfl, FR_tr (BX_FR (PI_rf hP)) hF17⟩⟩
        · refine wr_if2f rfl rfl (by unfold i32; omega) (by unfold i32; omega) h10 ?_
          refine wr_n (pc2 := 69) (lv2 := [(4, vi q), (0, .ref 170), (1, vi ((k : Int))), (2, vi a), (3, vi deep)]) (st2 := [vi q, .ref 170]) 2 (fun _ _ => rfl) ?_
          refine wr_call1 (args := [vi q]) (rest := []) rfl rfl rfl rfl (Nat.le_of_ble_eq_true rfl) (cr_mono (x_bad1 (C := C) (d := n + 19) (a := q) _ hR (by unfold i32; omega)) ?_)
          rintro s21 out ⟨rfl, hc20, hF20⟩
          · refine ⟨_, rfl, ?_⟩
            show wr (n + 20) tb_M149 72 [(4, vi q), (0, .ref 170), (1, vi ((k : Int))), (2, vi a), (3, vi deep)] [vi 0] s21 _
            refine wr_end (fun _ _ => rfl) ?_
            exact ⟨0, rfl, hc20.trans rfl, Or.inl ⟨rfl, FR_tr (BX_FR (PI_rf hP)) hF20⟩⟩
    · refine wr_if2f rfl rfl (by unfold i32; omega) (by unfold i32; omega) h2 ?_
      refine wr_n (pc2 := 16) (lv2 := [(4, vi q), (0, .ref 170), (1, vi ((k : Int))), (2, vi a), (3, vi deep)]) (st2 := [.ref 170]) 1 (fun _ _ => rfl) ?_
      refine wr_get (v := .ref 171) rfl rfl rfl (by decide) (rv_ref (hR 170 0 171 rfl)) fun h23 => ?_
      show wr (n + 20) tb_M149 19 [(4, vi q), (0, .ref 170), (1, vi ((k : Int))), (2, vi a), (3, vi deep)] [.ref 171] s _
      refine wr_n (pc2 := 21) (lv2 := [(4, vi q), (0, .ref 170), (1, vi ((k : Int))), (2, vi a), (3, vi deep)]) (st2 := [vi q, .ref 171]) 1 (fun _ _ => rfl) ?_
      refine wr_ald (a := q) (v := vi (s.1 171 q.toNat)) rfl rfl rfl (by omega) (by omega) (by decide) rfl fun h24 => ?_
      have h24 : -128 ≤ s.1 171 q.toNat ∧ s.1 171 q.toNat ≤ 127 := h24
      show wr (n + 20) tb_M149 22 [(4, vi q), (0, .ref 170), (1, vi ((k : Int))), (2, vi a), (3, vi deep)] [vi (s.1 171 q.toNat)] s _
      refine wr_n (pc2 := 24) (lv2 := [(4, vi q), (0, .ref 170), (1, vi ((k : Int))), (2, vi a), (3, vi deep)]) (st2 := [vi 32, vi (s.1 171 q.toNat)]) 1 (fun _ _ => rfl) ?_
      by_cases h25 : s.1 171 q.toNat = 32
      · refine wr_if2t rfl rfl (by unfold i32; omega) (by unfold i32; omega) h25 ?_
        refine wr_inc (a := q) rfl rfl ?_
        show wr (n + 20) tb_M149 42 [(4, vi (q + 1)), (0, .ref 170), (1, vi ((k : Int))), (2, vi a), (3, vi deep)] [] s _
        refine wr_n (pc2 := 6) (lv2 := [(4, vi (q + 1)), (0, .ref 170), (1, vi ((k : Int))), (2, vi a), (3, vi deep)]) (st2 := []) 1 (fun _ _ => rfl) ?_
        exact ih _ (by omega) (q + 1) rfl (by omega)
      · refine wr_if2f rfl rfl (by unfold i32; omega) (by unfold i32; omega) h25 ?_
        refine wr_n (pc2 := 28) (lv2 := [(4, vi q), (0, .ref 170), (1, vi ((k : Int))), (2, vi a), (3, vi deep)]) (st2 := [.ref 170]) 1 (fun _ _ => rfl) ?_
        refine wr_get (v := .ref 171) rfl rfl rfl (by decide) (rv_ref (hR 170 0 171 rfl)) fun h26 => ?_
        show wr (n + 20) tb_M149 31 [(4, vi q), (0, .ref 170), (1, vi ((k : Int))), (2, vi a), (3, vi deep)] [.ref 171] s _
        refine wr_n (pc2 := 33) (lv2 := [(4, vi q), (0, .ref 170), (1, vi ((k : Int))), (2, vi a), (3, vi deep)]) (st2 := [vi q, .ref 171]) 1 (fun _ _ => rfl) ?_
        refine wr_ald (a := q) (v := vi (s.1 171 q.toNat)) rfl rfl rfl (by omega) (by omega) (by decide) rfl fun h27 => ?_
        have h27 : -128 ≤ s.1 171 q.toNat ∧ s.1 171 q.toNat ≤ 127 := h27
        show wr (n + 20) tb_M149 34 [(4, vi q), (0, .ref 170), (1, vi ((k : Int))), (2, vi a), (3, vi deep)] [vi (s.1 171 q.toNat)] s _
        refine wr_n (pc2 := 36) (lv2 := [(4, vi q), (0, .ref 170), (1, vi ((k : Int))), (2, vi a), (3, vi deep)]) (st2 := [vi 10, vi (s.1 171 q.toNat)]) 1 (fun _ _ => rfl) ?_
        by_cases h28 : s.1 171 q.toNat ≠ 10
        · refine wr_if2t rfl rfl (by unfold i32; omega) (by unfold i32; omega) h28 ?_
          refine wr_n (pc2 := 48) (lv2 := [(4, vi q), (0, .ref 170), (1, vi ((k : Int))), (2, vi a), (3, vi deep)]) (st2 := [.ref 170, vi q]) 2 (fun _ _ => rfl) ?_
          refine wr_get (v := vi (s.1 170 2)) rfl rfl rfl (by decide) rfl fun h29 => ?_
          have h29 : -2147483648 ≤ s.1 170 2 ∧ s.1 170 2 ≤ 2147483647 := h29
          show wr (n + 20) tb_M149 51 [(4, vi q), (0, .ref 170), (1, vi ((k : Int))), (2, vi a), (3, vi deep)] [vi (s.1 170 2), vi q] s _
          by_cases h30 : s.1 170 2 ≤ q
          · refine wr_if2t rfl rfl (by unfold i32; omega) (by unfold i32; omega) h30 ?_
            refine wr_n (pc2 := 69) (lv2 := [(4, vi q), (0, .ref 170), (1, vi ((k : Int))), (2, vi a), (3, vi deep)]) (st2 := [vi q, .ref 170]) 2 (fun _ _ => rfl) ?_
            refine wr_call1 (args := [vi q]) (rest := []) rfl rfl rfl rfl (Nat.le_of_ble_eq_true rfl) (cr_mono (x_bad1 (C := C) (d := n + 19) (a := q) _ hR (by unfold i32; omega)) ?_)
            rintro s32 out ⟨rfl, hc31, hF31⟩
            · refine ⟨_, rfl, ?_⟩
              show wr (n + 20) tb_M149 72 [(4, vi q), (0, .ref 170), (1, vi ((k : Int))), (2, vi a), (3, vi deep)] [vi 0] s32 _
              refine wr_end (fun _ _ => rfl) ?_
              exact ⟨0, rfl, hc31.trans rfl, Or.inl ⟨rfl, FR_tr (BX_FR (PI_rf hP)) hF31⟩⟩
          · refine wr_if2f rfl rfl (by unfold i32; omega) (by unfold i32; omega) h30 ?_
            refine wr_n (pc2 := 55) (lv2 := [(4, vi q), (0, .ref 170), (1, vi ((k : Int))), (2, vi a), (3, vi deep)]) (st2 := [.ref 170]) 1 (fun _ _ => rfl) ?_
            refine wr_get (v := .ref 171) rfl rfl rfl (by decide) (rv_ref (hR 170 0 171 rfl)) fun h34 => ?_
            show wr (n + 20) tb_M149 58 [(4, vi q), (0, .ref 170), (1, vi ((k : Int))), (2, vi a), (3, vi deep)] [.ref 171] s _
            refine wr_n (pc2 := 60) (lv2 := [(4, vi q), (0, .ref 170), (1, vi ((k : Int))), (2, vi a), (3, vi deep)]) (st2 := [vi q, .ref 171]) 1 (fun _ _ => rfl) ?_
            refine wr_ald (a := q) (v := vi (s.1 171 q.toNat)) rfl rfl rfl (by omega) (by omega) (by decide) rfl fun h35 => ?_
            have h35 : -128 ≤ s.1 171 q.toNat ∧ s.1 171 q.toNat ≤ 127 := h35
            show wr (n + 20) tb_M149 61 [(4, vi q), (0, .ref 170), (1, vi ((k : Int))), (2, vi a), (3, vi deep)] [vi (s.1 171 q.toNat)] s _
            refine wr_n (pc2 := 63) (lv2 := [(4, vi q), (0, .ref 170), (1, vi ((k : Int))), (2, vi a), (3, vi deep)]) (st2 := [vi 40, vi (s.1 171 q.toNat)]) 1 (fun _ _ => rfl) ?_
            by_cases h36 : s.1 171 q.toNat = 40
            · refine wr_if2t rfl rfl (by unfold i32; omega) (by unfold i32; omega) h36 ?_
              refine wr_n (pc2 := 76) (lv2 := [(4, vi q), (0, .ref 170), (1, vi ((k : Int))), (2, vi a), (3, vi deep)]) (st2 := [vi 20, vi deep]) 2 (fun _ _ => rfl) ?_
              by_cases h37 : deep ≠ 20
              · refine wr_if2t rfl rfl (by unfold i32; omega) (by unfold i32; omega) h37 ?_
                refine wr_n (pc2 := 91) (lv2 := [(4, vi q), (0, .ref 170), (1, vi ((k : Int))), (2, vi a), (3, vi deep)]) (st2 := [vi 1, vi deep, vi a, vi ((k : Int)), .ref 170]) 5 (fun _ _ => rfl) ?_
                refine wr_add (a := deep) (b := 1) rfl ?_
                show wr (n + 20) tb_M149 92 [(4, vi q), (0, .ref 170), (1, vi ((k : Int))), (2, vi a), (3, vi deep)] [vi (deep + 1), vi a, vi ((k : Int)), .ref 170] s _
                refine wr_n (pc2 := 93) (lv2 := [(4, vi q), (0, .ref 170), (1, vi ((k : Int))), (2, vi a), (3, vi deep)]) (st2 := [vi 1, vi (deep + 1), vi a, vi ((k : Int)), .ref 170]) 1 (fun _ _ => rfl) ?_
                refine wr_call1 (args := [vi ((k : Int)), vi a, vi (deep + 1), vi 1]) (rest := []) rfl rfl rfl rfl (Nat.le_of_ble_eq_true rfl) (cr_mono (hCa C y m _ k i a (deep + 1) 1 hC hR hP (BX_mb (PI_rf hP) hMB) hm (by unfold NE; omega) ⟨by omega, hd.2.1, by omega, by omega, by unfold i32; omega, by omega⟩) ?_)
                rintro s39 out ⟨b, rfl, hc38, ⟨rfl, hF38⟩ | ⟨rfl, hR38, hBk38, hS38, hN38, hV38, w38, hm38, hE38⟩⟩
                · refine ⟨_, rfl, ?_⟩
                  show wr (n + 20) tb_M149 96 [(4, vi q), (0, .ref 170), (1, vi ((k : Int))), (2, vi a), (3, vi deep)] [vi 0] s39 _
                  refine wr_end (fun _ _ => rfl) ?_
                  exact ⟨0, rfl, hc38.trans rfl, Or.inl ⟨rfl, FR_tr (BX_FR (PI_rf hP)) hF38⟩⟩
                · refine ⟨_, rfl, ?_⟩
                  show wr (n + 20) tb_M149 96 [(4, vi q), (0, .ref 170), (1, vi ((k : Int))), (2, vi a), (3, vi deep)] [vi 1] s39 _
                  unfold NXE at hN38
                  have hP42 : PI C y s39.1 := PI_BX hC hP hBk38
                  have hB42 : BX C (gn y) s.1 s39.1 := BX_tr hC (PI_rf hP) hBk38
                  have hQ42 : CS s.1 s39.1 := CS_tr (CS_rf (r := s.1)) hS38
                  have hz42 : s39.2 = s.2 := hc38.trans rfl
                  have hx42 := LX_nums hP42
                  refine wr_end (fun _ _ => rfl) ?_
                  refine ⟨1, rfl, hz42, Or.inr ⟨rfl, hR38, hB42, hQ42, by unfold NXE; omega, by omega, w38, hm38, ?_⟩⟩
                  intro h0 hh0
                  exact (SG_mono (by omega) (ZM_CS (CS_rf (r := s39.1))) (hE38 h0 (by omega)))
              · refine wr_if2f rfl rfl (by unfold i32; omega) (by unfold i32; omega) h37 ?_
                refine wr_n (pc2 := 82) (lv2 := [(4, vi q), (0, .ref 170), (1, vi ((k : Int))), (2, vi a), (3, vi deep)]) (st2 := [vi q, .ref 170]) 2 (fun _ _ => rfl) ?_
                refine wr_call1 (args := [vi q]) (rest := []) rfl rfl rfl rfl (Nat.le_of_ble_eq_true rfl) (cr_mono (x_bad1 (C := C) (d := n + 19) (a := q) _ hR (by unfold i32; omega)) ?_)
                rintro s44 out ⟨rfl, hc43, hF43⟩
                · refine ⟨_, rfl, ?_⟩
                  show wr (n + 20) tb_M149 85 [(4, vi q), (0, .ref 170), (1, vi ((k : Int))), (2, vi a), (3, vi deep)] [vi 0] s44 _
                  refine wr_end (fun _ _ => rfl) ?_
                  exact ⟨0, rfl, hc43.trans rfl, Or.inl ⟨rfl, FR_tr (BX_FR (PI_rf hP)) hF43⟩⟩
            · refine wr_if2f rfl rfl (by unfold i32; omega) (by unfold i32; omega) h36 ?_
              refine wr_n (pc2 := 69) (lv2 := [(4, vi q), (0, .ref 170), (1, vi ((k : Int))), (2, vi a), (3, vi deep)]) (st2 := [vi q, .ref 170]) 2 (fun _ _ => rfl) ?_
              refine wr_call1 (args := [vi q]) (rest := []) rfl rfl rfl rfl (Nat.le_of_ble_eq_true rfl) (cr_mono (x_bad1 (C := C) (d := n + 19) (a := q) _ hR (by unfold i32; omega)) ?_)
              rintro s47 out ⟨rfl, hc46, hF46⟩
              · refine ⟨_, rfl, ?_⟩
                show wr (n + 20) tb_M149 72 [(4, vi q), (0, .ref 170), (1, vi ((k : Int))), (2, vi a), (3, vi deep)] [vi 0] s47 _
                refine wr_end (fun _ _ => rfl) ?_
                exact ⟨0, rfl, hc46.trans rfl, Or.inl ⟨rfl, FR_tr (BX_FR (PI_rf hP)) hF46⟩⟩
        · refine wr_if2f rfl rfl (by unfold i32; omega) (by unfold i32; omega) h28 ?_
          refine wr_inc (a := q) rfl rfl ?_
          show wr (n + 20) tb_M149 42 [(4, vi (q + 1)), (0, .ref 170), (1, vi ((k : Int))), (2, vi a), (3, vi deep)] [] s _
          refine wr_n (pc2 := 6) (lv2 := [(4, vi (q + 1)), (0, .ref 170), (1, vi ((k : Int))), (2, vi a), (3, vi deep)]) (st2 := []) 1 (fun _ _ => rfl) ?_
          exact ih _ (by omega) (q + 1) rfl (by omega)
  refine cr_of (M := tb_M149) rfl (Nat.le_of_ble_eq_true rfl) ?_
  show wr (n + 20) tb_M149 0 [(0, .ref 170), (1, vi ((k : Int))), (2, vi a), (3, vi deep)] [] s _
  refine wr_n (pc2 := 1) (lv2 := [(0, .ref 170), (1, vi ((k : Int))), (2, vi a), (3, vi deep)]) (st2 := [.ref 170]) 1 (fun _ _ => rfl) ?_
  refine wr_get (v := vi (s.1 170 3)) rfl rfl rfl (by decide) rfl fun h1 => ?_
  have h1 : -2147483648 ≤ s.1 170 3 ∧ s.1 170 3 ≤ 2147483647 := h1
  show wr (n + 20) tb_M149 4 [(0, .ref 170), (1, vi ((k : Int))), (2, vi a), (3, vi deep)] [vi (s.1 170 3)] s _
  refine wr_n (pc2 := 6) (lv2 := [(4, vi (s.1 170 3)), (0, .ref 170), (1, vi ((k : Int))), (2, vi a), (3, vi deep)]) (st2 := []) 1 (fun _ _ => rfl) ?_
  exact loop _ _ rfl (by omega)
