set_option maxRecDepth 100000 in
theorem p_byName {n : Nat} (hX : CX 340) (hCa : CC 340) (hTg : ∀ n, CTg n) : CT1 156 tkN 1 19 (n + 1) := by
  intro C y m k0 s deep hC hR hP hMB hm hN hd htk hk0 hko
  unfold NS at hN
  have hx0 := LX_nums hP
  have hgt := gt_of hP
  have htk : s.1 170 4 = 1 := htk
  have hlt := LX_lt hP (by omega)
  have hnm := (NM_of hP).2.1
  refine cr_of (M := tb_M156) rfl (Nat.le_of_ble_eq_true rfl) ?_
  show wr (n + 400) tb_M156 0 [(0, .ref 170), (1, vi deep)] [] s _
  refine wr_n (pc2 := 1) (lv2 := [(0, .ref 170), (1, vi deep)]) (st2 := [.ref 170]) 1 (fun _ _ => rfl) ?_
  refine wr_call1 (args := []) (rest := []) rfl rfl rfl rfl (Nat.le_of_ble_eq_true rfl) (cr_mono (c_find (d := n + 399) _ hR (LX_of hP) (NM_of hP)) ?_)
  rintro s5 out ⟨k1, rfl, h2, e4⟩
  refine ⟨_, rfl, ?_⟩
  rw [e4]
  show wr (n + 400) tb_M156 4 [(0, .ref 170), (1, vi deep)] [vi k1] s _
  have hn3 := (NM_of hP).1
  have ho3 := (NM_of hP).2.1
  refine wr_n (pc2 := 6) (lv2 := [(2, vi k1), (0, .ref 170), (1, vi deep)]) (st2 := [.ref 170]) 2 (fun _ _ => rfl) ?_
  refine wr_get (v := vi (s.1 170 5)) rfl rfl rfl (by decide) rfl fun h6 => ?_
  have h6 : -2147483648 ≤ s.1 170 5 ∧ s.1 170 5 ≤ 2147483647 := h6
  show wr (n + 400) tb_M156 9 [(2, vi k1), (0, .ref 170), (1, vi deep)] [vi (s.1 170 5)] s _
  refine wr_n (pc2 := 11) (lv2 := [(3, vi (s.1 170 5)), (2, vi k1), (0, .ref 170), (1, vi deep)]) (st2 := [vi k1]) 2 (fun _ _ => rfl) ?_
  by_cases h7 : 0 ≤ k1
  · refine wr_if1t rfl rfl (by unfold i32; omega) h7 ?_
    obtain ⟨kn, hkn⟩ : ∃ q : Nat, k1 = (q : Int) := ⟨k1.toNat, by omega⟩
    subst hkn
    show wr (n + 400) tb_M156 19 [(3, vi (s.1 170 5)), (2, vi ((kn : Int))), (0, .ref 170), (1, vi deep)] [] s _
    have hnw := N_rng hP (k := kn) (by omega)
    refine wr_n (pc2 := 20) (lv2 := [(3, vi (s.1 170 5)), (2, vi ((kn : Int))), (0, .ref 170), (1, vi deep)]) (st2 := [.ref 170]) 1 (fun _ _ => rfl) ?_
    refine wr_get (v := .ref 174) rfl rfl rfl (by decide) (rv_ref (hR 170 11 174 rfl)) fun h8 => ?_
    show wr (n + 400) tb_M156 23 [(3, vi (s.1 170 5)), (2, vi ((kn : Int))), (0, .ref 170), (1, vi deep)] [.ref 174] s _
    refine wr_n (pc2 := 24) (lv2 := [(3, vi (s.1 170 5)), (2, vi ((kn : Int))), (0, .ref 170), (1, vi deep)]) (st2 := [vi ((kn : Int)), .ref 174]) 1 (fun _ _ => rfl) ?_
    refine wr_ald (a := (kn : Int)) (v := vi (s.1 174 kn)) rfl rfl rfl (by omega) (by omega) (by decide) rfl fun h9 => ?_
    have h9 : -2147483648 ≤ s.1 174 kn ∧ s.1 174 kn ≤ 2147483647 := h9
    show wr (n + 400) tb_M156 25 [(3, vi (s.1 170 5)), (2, vi ((kn : Int))), (0, .ref 170), (1, vi deep)] [vi (s.1 174 kn)] s _
    refine wr_n (pc2 := 28) (lv2 := [(4, vi (s.1 174 kn)), (3, vi (s.1 170 5)), (2, vi ((kn : Int))), (0, .ref 170), (1, vi deep)]) (st2 := [.ref 170]) 2 (fun _ _ => rfl) ?_
    refine wr_get (v := .ref 175) rfl rfl rfl (by decide) (rv_ref (hR 170 12 175 rfl)) fun h10 => ?_
    show wr (n + 400) tb_M156 31 [(4, vi (s.1 174 kn)), (3, vi (s.1 170 5)), (2, vi ((kn : Int))), (0, .ref 170), (1, vi deep)] [.ref 175] s _
    refine wr_n (pc2 := 32) (lv2 := [(4, vi (s.1 174 kn)), (3, vi (s.1 170 5)), (2, vi ((kn : Int))), (0, .ref 170), (1, vi deep)]) (st2 := [vi ((kn : Int)), .ref 175]) 1 (fun _ _ => rfl) ?_
    refine wr_ald (a := (kn : Int)) (v := vi (s.1 175 kn)) rfl rfl rfl (by omega) (by omega) (by decide) rfl fun h11 => ?_
    have h11 : -2147483648 ≤ s.1 175 kn ∧ s.1 175 kn ≤ 2147483647 := h11
    show wr (n + 400) tb_M156 33 [(4, vi (s.1 174 kn)), (3, vi (s.1 170 5)), (2, vi ((kn : Int))), (0, .ref 170), (1, vi deep)] [vi (s.1 175 kn)] s _
    refine wr_n (pc2 := 35) (lv2 := [(5, vi (s.1 175 kn)), (4, vi (s.1 174 kn)), (3, vi (s.1 170 5)), (2, vi ((kn : Int))), (0, .ref 170), (1, vi deep)]) (st2 := []) 1 (fun _ _ => rfl) ?_
    have j220 : ∀ (c6 c4 : Int), True → wr (n + 400) tb_M156 220 [(6, vi c6), (5, vi (s.1 175 kn)), (4, vi c4), (3, vi (s.1 170 5)), (2, vi ((kn : Int))), (0, .ref 170), (1, vi deep)] [] s (SP C y m k0 0 s) := by
      intro c6 c4 hj
      refine wr_n (pc2 := 221) (lv2 := [(6, vi c6), (5, vi (s.1 175 kn)), (4, vi c4), (3, vi (s.1 170 5)), (2, vi ((kn : Int))), (0, .ref 170), (1, vi deep)]) (st2 := [.ref 170]) 1 (fun _ _ => rfl) ?_
      refine wr_call1 (args := []) (rest := []) rfl rfl rfl rfl (Nat.le_of_ble_eq_true rfl) (cr_mono (x_bad0 (C := C) (d := n + 398) _ hR) ?_)
      rintro s13 out ⟨rfl, hc12, hF12⟩
      · refine ⟨_, rfl, ?_⟩
        show wr (n + 400) tb_M156 224 [(6, vi c6), (5, vi (s.1 175 kn)), (4, vi c4), (3, vi (s.1 170 5)), (2, vi ((kn : Int))), (0, .ref 170), (1, vi deep)] [vi 0] s13 _
        refine wr_end (fun _ _ => rfl) ?_
        exact ⟨0, rfl, hc12.trans rfl, Or.inl ⟨rfl, FR_tr (BX_FR (PI_rf hP)) hF12⟩⟩
    have j171 : ∀ (c6 c4 : Int), True → wr (n + 400) tb_M156 171 [(6, vi c6), (5, vi (s.1 175 kn)), (4, vi c4), (3, vi (s.1 170 5)), (2, vi ((kn : Int))), (0, .ref 170), (1, vi deep)] [] s (SP C y m k0 0 s) := by
      intro c6 c4 hj
      refine wr_n (pc2 := 174) (lv2 := [(6, vi c6), (5, vi (s.1 175 kn)), (4, vi c4), (3, vi (s.1 170 5)), (2, vi ((kn : Int))), (0, .ref 170), (1, vi deep)]) (st2 := [vi 61, .ref 170]) 2 (fun _ _ => rfl) ?_
      refine wr_call1 (args := [vi 61]) (rest := []) rfl rfl rfl rfl (Nat.le_of_ble_eq_true rfl) (cr_mono (c_isBehind (d := n + 399) (g := 61) _ hR (LX_of hP) (by unfold i32; omega)) ?_)
      rintro s18 out ⟨b15, rfl, h16, e17⟩
      refine ⟨_, rfl, ?_⟩
      rw [e17]
      show wr (n + 400) tb_M156 177 [(6, vi c6), (5, vi (s.1 175 kn)), (4, vi c4), (3, vi (s.1 170 5)), (2, vi ((kn : Int))), (0, .ref 170), (1, vi deep)] [vi b15] s _
      by_cases h19 : b15 ≠ 0
      · refine wr_if1t rfl rfl (by unfold i32; omega) h19 ?_
        exact j220 _ _ trivial
      · refine wr_if1f rfl rfl (by unfold i32; omega) h19 ?_
        refine wr_n (pc2 := 183) (lv2 := [(6, vi c6), (5, vi (s.1 175 kn)), (4, vi c4), (3, vi (s.1 170 5)), (2, vi ((kn : Int))), (0, .ref 170), (1, vi deep)]) (st2 := [vi 91, .ref 170]) 2 (fun _ _ => rfl) ?_
        refine wr_call1 (args := [vi 91]) (rest := []) rfl rfl rfl rfl (Nat.le_of_ble_eq_true rfl) (cr_mono (c_isBehind (d := n + 399) (g := 91) _ hR (LX_of hP) (by unfold i32; omega)) ?_)
        rintro s23 out ⟨b20, rfl, h21, e22⟩
        refine ⟨_, rfl, ?_⟩
        rw [e22]
        show wr (n + 400) tb_M156 186 [(6, vi c6), (5, vi (s.1 175 kn)), (4, vi c4), (3, vi (s.1 170 5)), (2, vi ((kn : Int))), (0, .ref 170), (1, vi deep)] [vi b20] s _
        by_cases h24 : b20 ≠ 0
        · refine wr_if1t rfl rfl (by unfold i32; omega) h24 ?_
          exact j220 _ _ trivial
        · refine wr_if1f rfl rfl (by unfold i32; omega) h24 ?_
          refine wr_n (pc2 := 192) (lv2 := [(6, vi c6), (5, vi (s.1 175 kn)), (4, vi c4), (3, vi (s.1 170 5)), (2, vi ((kn : Int))), (0, .ref 170), (1, vi deep)]) (st2 := [vi 40, .ref 170]) 2 (fun _ _ => rfl) ?_
          refine wr_call1 (args := [vi 40]) (rest := []) rfl rfl rfl rfl (Nat.le_of_ble_eq_true rfl) (cr_mono (c_isBehind (d := n + 399) (g := 40) _ hR (LX_of hP) (by unfold i32; omega)) ?_)
          rintro s28 out ⟨b25, rfl, h26, e27⟩
          refine ⟨_, rfl, ?_⟩
          rw [e27]
          show wr (n + 400) tb_M156 195 [(6, vi c6), (5, vi (s.1 175 kn)), (4, vi c4), (3, vi (s.1 170 5)), (2, vi ((kn : Int))), (0, .ref 170), (1, vi deep)] [vi b25] s _
          by_cases h29 : b25 ≠ 0
          · refine wr_if1t rfl rfl (by unfold i32; omega) h29 ?_
            exact j220 _ _ trivial
          · refine wr_if1f rfl rfl (by unfold i32; omega) h29 ?_
            refine wr_n (pc2 := 201) (lv2 := [(6, vi c6), (5, vi (s.1 175 kn)), (4, vi c4), (3, vi (s.1 170 5)), (2, vi ((kn : Int))), (0, .ref 170), (1, vi deep)]) (st2 := [vi 33, .ref 170]) 2 (fun _ _ => rfl) ?_
            refine wr_call1 (args := [vi 33]) (rest := []) rfl rfl rfl rfl (Nat.le_of_ble_eq_true rfl) (cr_mono (c_isBehind (d := n + 399) (g := 33) _ hR (LX_of hP) (by unfold i32; omega)) ?_)
            rintro s33 out ⟨b30, rfl, h31, e32⟩
            refine ⟨_, rfl, ?_⟩
            rw [e32]
            show wr (n + 400) tb_M156 204 [(6, vi c6), (5, vi (s.1 175 kn)), (4, vi c4), (3, vi (s.1 170 5)), (2, vi ((kn : Int))), (0, .ref 170), (1, vi deep)] [vi b30] s _
            by_cases h34 : b30 ≠ 0
            · refine wr_if1t rfl rfl (by unfold i32; omega) h34 ?_
              exact j220 _ _ trivial
            · refine wr_if1f rfl rfl (by unfold i32; omega) h34 ?_
              refine wr_n (pc2 := 210) (lv2 := [(6, vi c6), (5, vi (s.1 175 kn)), (4, vi c4), (3, vi (s.1 170 5)), (2, vi ((kn : Int))), (0, .ref 170), (1, vi deep)]) (st2 := [vi 63, .ref 170]) 2 (fun _ _ => rfl) ?_
              refine wr_call1 (args := [vi 63]) (rest := []) rfl rfl rfl rfl (Nat.le_of_ble_eq_true rfl) (cr_mono (c_isBehind (d := n + 399) (g := 63) _ hR (LX_of hP) (by unfold i32; omega)) ?_)
              rintro s38 out ⟨b35, rfl, h36, e37⟩
              refine ⟨_, rfl, ?_⟩
              rw [e37]
              show wr (n + 400) tb_M156 213 [(6, vi c6), (5, vi (s.1 175 kn)), (4, vi c4), (3, vi (s.1 170 5)), (2, vi ((kn : Int))), (0, .ref 170), (1, vi deep)] [vi b35] s _
              by_cases h39 : b35 ≠ 0
              · refine wr_if1t rfl rfl (by unfold i32; omega) h39 ?_
                exact j220 _ _ trivial
              · refine wr_if1f rfl rfl (by unfold i32; omega) h39 ?_
                refine wr_n (pc2 := 217) (lv2 := [(6, vi c6), (5, vi (s.1 175 kn)), (4, vi c4), (3, vi (s.1 170 5)), (2, vi ((kn : Int))), (0, .ref 170), (1, vi deep)]) (st2 := [.ref 170]) 1 (fun _ _ => rfl) ?_
                refine wr_call1 (args := []) (rest := []) rfl rfl rfl rfl (Nat.le_of_ble_eq_true rfl) (cr_mono (x_step (d := n + 394) hC _ hR hP) ?_)
                rintro s41 out ⟨rfl, hc40, hR40, hBk40, hK40, hf40⟩
                · refine ⟨_, rfl, ?_⟩
                  show wr (n + 400) tb_M156 220 [(6, vi c6), (5, vi (s.1 175 kn)), (4, vi c4), (3, vi (s.1 170 5)), (2, vi ((kn : Int))), (0, .ref 170), (1, vi deep)] [] s41 _
                  obtain ⟨hu40, hk40⟩ := id hK40
                  replace hf40 : s.1 170 5 + 1 ≤ s41.1 170 5 := Int.le_trans (LX_lt hP (by omega)) hf40
                  have hm40 : s41.1 C 1 = ((m : Nat) : Int) := by omega
                  have hB43 : BX C (gn y) s.1 s41.1 := BX_tr hC (PI_rf hP) hBk40
                  have hP43 : PI C y s41.1 := PI_BX hC hP hB43
                  have hQ43 : CS s.1 s41.1 := CS_tr (CS_rf (r := s.1)) (KL_CS hK40)
                  have hz43 : s41.2 = s.2 := hc40.trans rfl
                  have hx43 := LX_nums hP43
                  have hF43 : s.1 170 5 + 1 ≤ s41.1 170 5 ∧ s41.1 170 14 = s.1 170 14 ∧ s41.1 170 16 = s.1 170 16 ∧ s41.1 170 21 = s.1 170 21 ∧ s41.1 C 3 = s.1 C 3 ∧ s41.1 C 10 = s.1 C 10 ∧ 0 ≤ s41.1 170 5 ∧ s41.1 170 5 ≤ s41.1 170 6 ∧ s41.1 170 6 ≤ 2000 := by omega
                  clear hk40 hf40 hx43
                  refine wr_n (pc2 := 221) (lv2 := [(6, vi c6), (5, vi (s.1 175 kn)), (4, vi c4), (3, vi (s.1 170 5)), (2, vi ((kn : Int))), (0, .ref 170), (1, vi deep)]) (st2 := [.ref 170]) 1 (fun _ _ => rfl) ?_
                  refine wr_call1 (args := []) (rest := []) rfl rfl rfl rfl (Nat.le_of_ble_eq_true rfl) (cr_mono (x_bad0 (C := C) (d := n + 398) _ hR40) ?_)
                  rintro s45 out ⟨rfl, hc44, hF44⟩
                  · refine ⟨_, rfl, ?_⟩
                    show wr (n + 400) tb_M156 224 [(6, vi c6), (5, vi (s.1 175 kn)), (4, vi c4), (3, vi (s.1 170 5)), (2, vi ((kn : Int))), (0, .ref 170), (1, vi deep)] [vi 0] s45 _
                    refine wr_end (fun _ _ => rfl) ?_
                    exact ⟨0, rfl, hc44.trans hz43, Or.inl ⟨rfl, FR_tr (BX_FR hB43) hF44⟩⟩
    have j302 : ∀ (c6 : Int), (2 ≤ s.1 174 kn ∧ s.1 174 kn ≤ 4) → wr (n + 400) tb_M156 302 [(6, vi c6), (5, vi (s.1 175 kn)), (4, vi (s.1 174 kn)), (3, vi (s.1 170 5)), (2, vi ((kn : Int))), (0, .ref 170), (1, vi deep)] [] s (SP C y m k0 0 s) := by
      intro c6 hj
      have hq7 := N_io hP (k := kn) (by omega)
      refine wr_n (pc2 := 303) (lv2 := [(6, vi c6), (5, vi (s.1 175 kn)), (4, vi (s.1 174 kn)), (3, vi (s.1 170 5)), (2, vi ((kn : Int))), (0, .ref 170), (1, vi deep)]) (st2 := [.ref 170]) 1 (fun _ _ => rfl) ?_
      refine wr_call1 (args := []) (rest := []) rfl rfl rfl rfl (Nat.le_of_ble_eq_true rfl) (cr_mono (x_part (d := n + 398) (m := m) hC _ hR hP hm (by omega) (by omega)) ?_)
      rintro s48 out ⟨rfl, hc47, hR47, hBk47, hK47, hm47, hp47, hda47⟩
      · refine ⟨_, rfl, ?_⟩
        show wr (n + 400) tb_M156 306 [(6, vi c6), (5, vi (s.1 175 kn)), (4, vi (s.1 174 kn)), (3, vi (s.1 170 5)), (2, vi ((kn : Int))), (0, .ref 170), (1, vi deep)] [] s48 _
        obtain ⟨hu47, hk47⟩ := id hK47
        have hB50 : BX C (gn y) s.1 s48.1 := BX_tr hC (PI_rf hP) hBk47
        have hP50 : PI C y s48.1 := PI_BX hC hP hB50
        have hQ50 : CS s.1 s48.1 := CS_tr (CS_rf (r := s.1)) (KC_CS hK47)
        have hz50 : s48.2 = s.2 := hc47.trans rfl
        have hF50 : s48.1 170 4 = s.1 170 4 ∧ s48.1 170 5 = s.1 170 5 ∧ s48.1 170 6 = s.1 170 6 ∧ s48.1 170 7 = s.1 170 7 ∧ s48.1 170 14 = s.1 170 14 ∧ s48.1 170 16 = s.1 170 16 ∧ s48.1 170 21 = s.1 170 21 ∧ s48.1 C 3 = s.1 C 3 + 1 ∧ s48.1 C 10 = s.1 C 10 ∧ s.1 170 5 + 0 ≤ s48.1 170 5 ∧ 0 ≤ s48.1 170 5 ∧ s48.1 170 5 ≤ s48.1 170 6 ∧ s48.1 170 6 ≤ 2000 := by omega
        clear hk47 hp47
        refine wr_n (pc2 := 307) (lv2 := [(6, vi c6), (5, vi (s.1 175 kn)), (4, vi (s.1 174 kn)), (3, vi (s.1 170 5)), (2, vi ((kn : Int))), (0, .ref 170), (1, vi deep)]) (st2 := [.ref 170]) 1 (fun _ _ => rfl) ?_
        refine wr_call1 (args := []) (rest := []) rfl rfl rfl rfl (Nat.le_of_ble_eq_true rfl) (cr_mono (x_step (d := n + 394) hC _ hR47 hP50) ?_)
        rintro s52 out ⟨rfl, hc51, hR51, hBk51, hK51, hf51⟩
        · refine ⟨_, rfl, ?_⟩
          show wr (n + 400) tb_M156 310 [(6, vi c6), (5, vi (s.1 175 kn)), (4, vi (s.1 174 kn)), (3, vi (s.1 170 5)), (2, vi ((kn : Int))), (0, .ref 170), (1, vi deep)] [] s52 _
          obtain ⟨hu51, hk51⟩ := id hK51
          replace hf51 : s48.1 170 5 + 1 ≤ s52.1 170 5 := Int.le_trans (LX_lt hP50 (by omega)) hf51
          have hm51 : s52.1 C 1 = ((m + 1 : Nat) : Int) := by omega
          have hB54 : BX C (gn y) s.1 s52.1 := BX_tr hC hB50 hBk51
          have hP54 : PI C y s52.1 := PI_BX hC hP hB54
          have hQ54 : CS s.1 s52.1 := CS_tr hQ50 (KL_CS hK51)
          have hz54 : s52.2 = s.2 := hc51.trans hz50
          have hx54 := LX_nums hP54
          have hF54 : s.1 170 5 + 1 ≤ s52.1 170 5 ∧ s52.1 170 14 = s.1 170 14 ∧ s52.1 170 16 = s.1 170 16 ∧ s52.1 170 21 = s.1 170 21 ∧ s52.1 C 3 = s.1 C 3 + 1 ∧ s52.1 C 10 = s.1 C 10 ∧ 0 ≤ s52.1 170 5 ∧ s52.1 170 5 ≤ s52.1 170 6 ∧ s52.1 170 6 ≤ 2000 := by omega
          clear hk51 hf51 hx54 hF50
          refine wr_n (pc2 := 314) (lv2 := [(6, vi c6), (5, vi (s.1 175 kn)), (4, vi (s.1 174 kn)), (3, vi (s.1 170 5)), (2, vi ((kn : Int))), (0, .ref 170), (1, vi deep)]) (st2 := [.ref 42, .ref 170]) 2 (fun _ _ => rfl) ?_
          refine wr_call1 (args := [.ref 42]) (rest := []) rfl rfl rfl rfl (Nat.le_of_ble_eq_true rfl) (cr_mono (c_is (d := n + 395) isT_42 _ hR51 (LX_of hP54)) ?_)
          rintro s56 out ⟨b, rfl, rfl | ⟨rfl, hj55, hl55⟩, he55⟩
          · refine ⟨_, rfl, ?_⟩
            rw [he55]
            show wr (n + 400) tb_M156 317 [(6, vi c6), (5, vi (s.1 175 kn)), (4, vi (s.1 174 kn)), (3, vi (s.1 170 5)), (2, vi ((kn : Int))), (0, .ref 170), (1, vi deep)] [vi 0] s52 _
            refine wr_n (pc2 := 391) (lv2 := [(6, vi c6), (5, vi (s.1 175 kn)), (4, vi (s.1 174 kn)), (3, vi (s.1 170 5)), (2, vi ((kn : Int))), (0, .ref 170), (1, vi deep)]) (st2 := [.ref 170]) 2 (fun _ _ => rfl) ?_
            refine wr_call1 (args := []) (rest := []) rfl rfl rfl rfl (Nat.le_of_ble_eq_true rfl) (cr_mono (x_step (d := n + 394) hC _ hR51 hP54) ?_)
            rintro s58 out ⟨rfl, hc57, hR57, hBk57, hK57, hf57⟩
            · refine ⟨_, rfl, ?_⟩
              show wr (n + 400) tb_M156 394 [(6, vi c6), (5, vi (s.1 175 kn)), (4, vi (s.1 174 kn)), (3, vi (s.1 170 5)), (2, vi ((kn : Int))), (0, .ref 170), (1, vi deep)] [] s58 _
              obtain ⟨hu57, hk57⟩ := id hK57
              replace hf57 : s52.1 170 6 ≤ s58.1 170 5 := hf57
              have hm57 : s58.1 C 1 = ((m + 1 : Nat) : Int) := by omega
              have hgg57 := hf57
              have hB60 : BX C (gn y) s.1 s58.1 := BX_tr hC hB54 hBk57
              have hP60 : PI C y s58.1 := PI_BX hC hP hB60
              have hQ60 : CS s.1 s58.1 := CS_tr hQ54 (KL_CS hK57)
              have hz60 : s58.2 = s.2 := hc57.trans hz54
              have hx60 := LX_nums hP60
              have hF60 : s.1 170 5 + 1 ≤ s58.1 170 5 ∧ s58.1 170 14 = s.1 170 14 ∧ s58.1 170 16 = s.1 170 16 ∧ s58.1 170 21 = s.1 170 21 ∧ s58.1 C 3 = s.1 C 3 + 1 ∧ s58.1 C 10 = s.1 C 10 ∧ 0 ≤ s58.1 170 5 ∧ s58.1 170 5 ≤ s58.1 170 6 ∧ s58.1 170 6 ≤ 2000 := by omega
              clear hk57 hf57 hx60
              refine wr_n (pc2 := 395) (lv2 := [(6, vi c6), (5, vi (s.1 175 kn)), (4, vi (s.1 174 kn)), (3, vi (s.1 170 5)), (2, vi ((kn : Int))), (0, .ref 170), (1, vi deep)]) (st2 := [.ref 170]) 1 (fun _ _ => rfl) ?_
              refine wr_get (v := vi (s58.1 170 4)) rfl rfl rfl (by decide) rfl fun h61 => ?_
              have h61 : -2147483648 ≤ s58.1 170 4 ∧ s58.1 170 4 ≤ 2147483647 := h61
              show wr (n + 400) tb_M156 398 [(6, vi c6), (5, vi (s.1 175 kn)), (4, vi (s.1 174 kn)), (3, vi (s.1 170 5)), (2, vi ((kn : Int))), (0, .ref 170), (1, vi deep)] [vi (s58.1 170 4)] s58 _
              refine wr_n (pc2 := 399) (lv2 := [(6, vi c6), (5, vi (s.1 175 kn)), (4, vi (s.1 174 kn)), (3, vi (s.1 170 5)), (2, vi ((kn : Int))), (0, .ref 170), (1, vi deep)]) (st2 := [vi 1, vi (s58.1 170 4)]) 1 (fun _ _ => rfl) ?_
              by_cases h62 : s58.1 170 4 ≠ 1
              · refine wr_if2t rfl rfl (by unfold i32; omega) (by unfold i32; omega) h62 ?_
                refine wr_n (pc2 := 413) (lv2 := [(7, vi ((-1))), (6, vi c6), (5, vi (s.1 175 kn)), (4, vi (s.1 174 kn)), (3, vi (s.1 170 5)), (2, vi ((kn : Int))), (0, .ref 170), (1, vi deep)]) (st2 := [.ref 170]) 3 (fun _ _ => rfl) ?_
                refine wr_get (v := vi (s58.1 170 5)) rfl rfl rfl (by decide) rfl fun h63 => ?_
                have h63 : -2147483648 ≤ s58.1 170 5 ∧ s58.1 170 5 ≤ 2147483647 := h63
                show wr (n + 400) tb_M156 416 [(7, vi ((-1))), (6, vi c6), (5, vi (s.1 175 kn)), (4, vi (s.1 174 kn)), (3, vi (s.1 170 5)), (2, vi ((kn : Int))), (0, .ref 170), (1, vi deep)] [vi (s58.1 170 5)] s58 _
                refine wr_n (pc2 := 424) (lv2 := [(8, vi (s58.1 170 5)), (7, vi ((-1))), (6, vi c6), (5, vi (s.1 175 kn)), (4, vi (s.1 174 kn)), (3, vi (s.1 170 5)), (2, vi ((kn : Int))), (0, .ref 170), (1, vi deep)]) (st2 := [.ref 170]) 4 (fun _ _ => rfl) ?_
                refine wr_call1 (args := []) (rest := []) rfl rfl rfl rfl (Nat.le_of_ble_eq_true rfl) (cr_mono (x_bad0 (C := C) (d := n + 398) _ hR57) ?_)
                rintro s65 out ⟨rfl, hc64, hF64⟩
                · refine ⟨_, rfl, ?_⟩
                  show wr (n + 400) tb_M156 427 [(8, vi (s58.1 170 5)), (7, vi ((-1))), (6, vi c6), (5, vi (s.1 175 kn)), (4, vi (s.1 174 kn)), (3, vi (s.1 170 5)), (2, vi ((kn : Int))), (0, .ref 170), (1, vi deep)] [vi 0] s65 _
                  refine wr_end (fun _ _ => rfl) ?_
                  exact ⟨0, rfl, hc64.trans hz60, Or.inl ⟨rfl, FR_tr (BX_FR hB60) hF64⟩⟩
              · refine wr_if2f rfl rfl (by unfold i32; omega) (by unfold i32; omega) h62 ?_
                have hpg := LX_prog hP54 hP60 (hu57 170 2 (by omega)) hgg57 (by omega)
                refine wr_n (pc2 := 403) (lv2 := [(6, vi c6), (5, vi (s.1 175 kn)), (4, vi (s.1 174 kn)), (3, vi (s.1 170 5)), (2, vi ((kn : Int))), (0, .ref 170), (1, vi deep)]) (st2 := [.ref 170]) 1 (fun _ _ => rfl) ?_
                refine wr_call1 (args := []) (rest := []) rfl rfl rfl rfl (Nat.le_of_ble_eq_true rfl) (cr_mono (c_find (d := n + 399) _ hR57 (LX_of hP60) (NM_of hP60)) ?_)
                rintro s71 out ⟨k67, rfl, h68, e70⟩
                refine ⟨_, rfl, ?_⟩
                rw [e70]
                show wr (n + 400) tb_M156 406 [(6, vi c6), (5, vi (s.1 175 kn)), (4, vi (s.1 174 kn)), (3, vi (s.1 170 5)), (2, vi ((kn : Int))), (0, .ref 170), (1, vi deep)] [vi k67] s58 _
                have hn69 := (NM_of hP60).1
                have ho69 := (NM_of hP60).2.1
                refine wr_n (pc2 := 413) (lv2 := [(7, vi k67), (6, vi c6), (5, vi (s.1 175 kn)), (4, vi (s.1 174 kn)), (3, vi (s.1 170 5)), (2, vi ((kn : Int))), (0, .ref 170), (1, vi deep)]) (st2 := [.ref 170]) 3 (fun _ _ => rfl) ?_
                refine wr_get (v := vi (s58.1 170 5)) rfl rfl rfl (by decide) rfl fun h72 => ?_
                have h72 : -2147483648 ≤ s58.1 170 5 ∧ s58.1 170 5 ≤ 2147483647 := h72
                show wr (n + 400) tb_M156 416 [(7, vi k67), (6, vi c6), (5, vi (s.1 175 kn)), (4, vi (s.1 174 kn)), (3, vi (s.1 170 5)), (2, vi ((kn : Int))), (0, .ref 170), (1, vi deep)] [vi (s58.1 170 5)] s58 _
                refine wr_n (pc2 := 420) (lv2 := [(8, vi (s58.1 170 5)), (7, vi k67), (6, vi c6), (5, vi (s.1 175 kn)), (4, vi (s.1 174 kn)), (3, vi (s.1 170 5)), (2, vi ((kn : Int))), (0, .ref 170), (1, vi deep)]) (st2 := [vi k67]) 2 (fun _ _ => rfl) ?_
                by_cases h73 : 0 ≤ k67
                · refine wr_if1t rfl rfl (by unfold i32; omega) h73 ?_
                  obtain ⟨tn, htn⟩ : ∃ q : Nat, k67 = (q : Int) := ⟨k67.toNat, by omega⟩
                  subst htn
                  show wr (n + 400) tb_M156 428 [(8, vi (s58.1 170 5)), (7, vi ((tn : Int))), (6, vi c6), (5, vi (s.1 175 kn)), (4, vi (s.1 174 kn)), (3, vi (s.1 170 5)), (2, vi ((kn : Int))), (0, .ref 170), (1, vi deep)] [] s58 _
                  refine wr_n (pc2 := 429) (lv2 := [(8, vi (s58.1 170 5)), (7, vi ((tn : Int))), (6, vi c6), (5, vi (s.1 175 kn)), (4, vi (s.1 174 kn)), (3, vi (s.1 170 5)), (2, vi ((kn : Int))), (0, .ref 170), (1, vi deep)]) (st2 := [.ref 170]) 1 (fun _ _ => rfl) ?_
                  refine wr_get (v := .ref 174) rfl rfl rfl (by decide) (rv_ref (hR57 170 11 174 rfl)) fun h74 => ?_
                  show wr (n + 400) tb_M156 432 [(8, vi (s58.1 170 5)), (7, vi ((tn : Int))), (6, vi c6), (5, vi (s.1 175 kn)), (4, vi (s.1 174 kn)), (3, vi (s.1 170 5)), (2, vi ((kn : Int))), (0, .ref 170), (1, vi deep)] [.ref 174] s58 _
                  refine wr_n (pc2 := 434) (lv2 := [(8, vi (s58.1 170 5)), (7, vi ((tn : Int))), (6, vi c6), (5, vi (s.1 175 kn)), (4, vi (s.1 174 kn)), (3, vi (s.1 170 5)), (2, vi ((kn : Int))), (0, .ref 170), (1, vi deep)]) (st2 := [vi ((tn : Int)), .ref 174]) 1 (fun _ _ => rfl) ?_
                  refine wr_ald (a := (tn : Int)) (v := vi (s58.1 174 tn)) rfl rfl rfl (by omega) (by omega) (by decide) rfl fun h75 => ?_
                  have h75 : -2147483648 ≤ s58.1 174 tn ∧ s58.1 174 tn ≤ 2147483647 := h75
                  show wr (n + 400) tb_M156 435 [(8, vi (s58.1 170 5)), (7, vi ((tn : Int))), (6, vi c6), (5, vi (s.1 175 kn)), (4, vi (s.1 174 kn)), (3, vi (s.1 170 5)), (2, vi ((kn : Int))), (0, .ref 170), (1, vi deep)] [vi (s58.1 174 tn)] s58 _
                  refine wr_n (pc2 := 438) (lv2 := [(8, vi (s58.1 170 5)), (7, vi ((tn : Int))), (6, vi c6), (5, vi (s.1 175 kn)), (4, vi (s.1 174 kn)), (3, vi (s.1 170 5)), (2, vi ((kn : Int))), (0, .ref 170), (1, vi deep)]) (st2 := [vi 91, .ref 170, vi (s58.1 174 tn)]) 2 (fun _ _ => rfl) ?_
                  refine wr_call1 (args := [vi 91]) (rest := [vi (s58.1 174 tn)]) rfl rfl rfl rfl (Nat.le_of_ble_eq_true rfl) (cr_mono (c_isBehind (d := n + 399) (g := 91) _ hR57 (LX_of hP60) (by unfold i32; omega)) ?_)
                  rintro s79 out ⟨b76, rfl, h77, e78⟩
                  refine ⟨_, rfl, ?_⟩
                  rw [e78]
                  show wr (n + 400) tb_M156 441 [(8, vi (s58.1 170 5)), (7, vi ((tn : Int))), (6, vi c6), (5, vi (s.1 175 kn)), (4, vi (s.1 174 kn)), (3, vi (s.1 170 5)), (2, vi ((kn : Int))), (0, .ref 170), (1, vi deep)] [vi b76, vi (s58.1 174 tn)] s58 _
                  by_cases h80 : b76 = 0
                  · refine wr_if1t rfl rfl (by unfold i32; omega) h80 ?_
                    refine wr_n (pc2 := 449) (lv2 := [(8, vi (s58.1 170 5)), (7, vi ((tn : Int))), (6, vi c6), (5, vi (s.1 175 kn)), (4, vi (s.1 174 kn)), (3, vi (s.1 170 5)), (2, vi ((kn : Int))), (0, .ref 170), (1, vi deep)]) (st2 := [vi 0, vi (s58.1 174 tn)]) 1 (fun _ _ => rfl) ?_
                    by_cases h81 : s58.1 174 tn = 0
                    · refine wr_if2t rfl rfl (by unfold i32; omega) (by unfold i32; omega) h81 ?_
                      have htw : s58.1 174 tn = 0 := by omega
                      refine wr_n (pc2 := 463) (lv2 := [(8, vi (s58.1 170 5)), (7, vi ((tn : Int))), (6, vi c6), (5, vi (s.1 175 kn)), (4, vi (s.1 174 kn)), (3, vi (s.1 170 5)), (2, vi ((kn : Int))), (0, .ref 170), (1, vi deep)]) (st2 := [vi deep, vi (s58.1 170 5), vi ((tn : Int)), .ref 170]) 4 (fun _ _ => rfl) ?_
                      refine wr_call1 (args := [vi ((tn : Int)), vi (s58.1 170 5), vi deep]) (rest := []) rfl rfl rfl rfl (Nat.le_of_ble_eq_true rfl) (cr_mono ((hTg (n + 20) C y (m + 1) _ tn 0 (s58.1 170 5) deep hC hR57 hP60 (BX_mb hB60 hMB) hm57 (by omega) ⟨by omega, by omega, by omega, by omega, by unfold i32; omega, by omega⟩)) ?_)
                      rintro s83 out ⟨b, rfl, hc82, ⟨rfl, hF82⟩ | ⟨rfl, hR82, hBk82, hS82, hN82, w82, hm82, hE82⟩⟩
                      · refine ⟨_, rfl, ?_⟩
                        show wr (n + 400) tb_M156 466 [(8, vi (s58.1 170 5)), (7, vi ((tn : Int))), (6, vi c6), (5, vi (s.1 175 kn)), (4, vi (s.1 174 kn)), (3, vi (s.1 170 5)), (2, vi ((kn : Int))), (0, .ref 170), (1, vi deep)] [vi 0] s83 _
                        refine wr_n (pc2 := 470) (lv2 := [(8, vi (s58.1 170 5)), (7, vi ((tn : Int))), (6, vi c6), (5, vi (s.1 175 kn)), (4, vi (s.1 174 kn)), (3, vi (s.1 170 5)), (2, vi ((kn : Int))), (0, .ref 170), (1, vi deep)]) (st2 := [vi 0]) 2 (fun _ _ => rfl) ?_
                        refine wr_end (fun _ _ => rfl) ?_
                        exact ⟨0, rfl, hc82.trans hz60, Or.inl ⟨rfl, FR_tr (BX_FR hB60) hF82⟩⟩
                      · refine ⟨_, rfl, ?_⟩
                        show wr (n + 400) tb_M156 466 [(8, vi (s58.1 170 5)), (7, vi ((tn : Int))), (6, vi c6), (5, vi (s.1 175 kn)), (4, vi (s.1 174 kn)), (3, vi (s.1 170 5)), (2, vi ((kn : Int))), (0, .ref 170), (1, vi deep)] [vi 1] s83 _
                        unfold NXE at hN82
                        have hB86 : BX C (gn y) s.1 s83.1 := BX_tr hC hB60 hBk82
                        have hP86 : PI C y s83.1 := PI_BX hC hP hB86
                        have hQ86 : CS s.1 s83.1 := CS_tr hQ60 hS82
                        have hz86 : s83.2 = s.2 := hc82.trans hz60
                        have hF86 := LX_nums hP86
                        refine wr_n (pc2 := 475) (lv2 := [(8, vi (s58.1 170 5)), (7, vi ((tn : Int))), (6, vi c6), (5, vi (s.1 175 kn)), (4, vi (s.1 174 kn)), (3, vi (s.1 170 5)), (2, vi ((kn : Int))), (0, .ref 170), (1, vi deep)]) (st2 := [vi 2, vi (s.1 174 kn), .ref 170]) 4 (fun _ _ => rfl) ?_
                        by_cases h87 : s.1 174 kn ≠ 2
                        · refine wr_if2t rfl rfl (by unfold i32; omega) (by unfold i32; omega) h87 ?_
                          refine wr_n (pc2 := 487) (lv2 := [(8, vi (s58.1 170 5)), (7, vi ((tn : Int))), (6, vi c6), (5, vi (s.1 175 kn)), (4, vi (s.1 174 kn)), (3, vi (s.1 170 5)), (2, vi ((kn : Int))), (0, .ref 170), (1, vi deep)]) (st2 := [vi (s.1 175 kn), vi 16, .ref 170]) 2 (fun _ _ => rfl) ?_
                          refine wr_call1 (args := [vi 16, vi (s.1 175 kn)]) (rest := []) rfl rfl rfl rfl (Nat.le_of_ble_eq_true rfl) (cr_mono (x_put2 (d := n + 398) (m := w82) (op := 16) (v := s.1 175 kn) hC _ hR82 hP86 (by unfold i32; omega) (by unfold i32; omega) hm82 (by omega)) ?_)
                          rintro s89 out ⟨rfl, hc88, hR88, hBk88, hK88, hm88, hp88, hda88, hdb88⟩
                          · refine ⟨_, rfl, ?_⟩
                            show wr (n + 400) tb_M156 490 [(8, vi (s58.1 170 5)), (7, vi ((tn : Int))), (6, vi c6), (5, vi (s.1 175 kn)), (4, vi (s.1 174 kn)), (3, vi (s.1 170 5)), (2, vi ((kn : Int))), (0, .ref 170), (1, vi deep)] [] s89 _
                            obtain ⟨hu88, hk88⟩ := id hK88
                            have hB91 : BX C (gn y) s.1 s89.1 := BX_tr hC hB86 hBk88
                            have hP91 : PI C y s89.1 := PI_BX hC hP hB91
                            have hQ91 : CS s.1 s89.1 := CS_tr hQ86 (KC_CS hK88)
                            have hz91 : s89.2 = s.2 := hc88.trans hz86
                            have hF91 : s89.1 170 4 = s83.1 170 4 ∧ s89.1 170 5 = s83.1 170 5 ∧ s89.1 170 6 = s83.1 170 6 ∧ s89.1 170 7 = s83.1 170 7 ∧ s89.1 170 14 = s83.1 170 14 ∧ s89.1 170 16 = s83.1 170 16 ∧ s89.1 170 21 = s83.1 170 21 ∧ s89.1 C 3 = s83.1 C 3 ∧ s89.1 C 10 = s83.1 C 10 ∧ s83.1 170 5 + 0 ≤ s89.1 170 5 ∧ 0 ≤ s89.1 170 5 ∧ s89.1 170 5 ≤ s89.1 170 6 ∧ s89.1 170 6 ≤ 2000 := by omega
                            clear hk88 hp88
                            refine wr_n (pc2 := 492) (lv2 := [(8, vi (s58.1 170 5)), (7, vi ((tn : Int))), (6, vi c6), (5, vi (s.1 175 kn)), (4, vi (s.1 174 kn)), (3, vi (s.1 170 5)), (2, vi ((kn : Int))), (0, .ref 170), (1, vi deep)]) (st2 := [.ref 170, .ref 170]) 2 (fun _ _ => rfl) ?_
                            refine wr_get (v := vl (s89.1 170 25)) rfl rfl rfl (by decide) rfl fun h92 => ?_
                            show wr (n + 400) tb_M156 495 [(8, vi (s58.1 170 5)), (7, vi ((tn : Int))), (6, vi c6), (5, vi (s.1 175 kn)), (4, vi (s.1 174 kn)), (3, vi (s.1 170 5)), (2, vi ((kn : Int))), (0, .ref 170), (1, vi deep)] [vl (s89.1 170 25), .ref 170] s89 _
                            refine wr_n (pc2 := 499) (lv2 := [(8, vi (s58.1 170 5)), (7, vi ((tn : Int))), (6, vi c6), (5, vi (s.1 175 kn)), (4, vi (s.1 174 kn)), (3, vi (s.1 170 5)), (2, vi ((kn : Int))), (0, .ref 170), (1, vi deep)]) (st2 := [vi 2, vi (s.1 174 kn), vl 1, vl (s89.1 170 25), .ref 170]) 3 (fun _ _ => rfl) ?_
                            refine wr_if2t rfl rfl (by unfold i32; omega) (by unfold i32; omega) (by show s.1 174 kn ≠ 2; omega) ?_
                            show wr (n + 400) tb_M156 507 [(8, vi (s58.1 170 5)), (7, vi ((tn : Int))), (6, vi c6), (5, vi (s.1 175 kn)), (4, vi (s.1 174 kn)), (3, vi (s.1 170 5)), (2, vi ((kn : Int))), (0, .ref 170), (1, vi deep)] [vl 1, vl (s89.1 170 25), .ref 170] s89 _
                            refine wr_n (pc2 := 511) (lv2 := [(8, vi (s58.1 170 5)), (7, vi ((tn : Int))), (6, vi c6), (5, vi (s.1 175 kn)), (4, vi (s.1 174 kn)), (3, vi (s.1 170 5)), (2, vi ((kn : Int))), (0, .ref 170), (1, vi deep)]) (st2 := [vi (s.1 175 kn), vi 8, vl 1, vl (s89.1 170 25), .ref 170]) 2 (fun _ _ => rfl) ?_
                            refine wr_add (a := 8) (b := s.1 175 kn) rfl ?_
                            show wr (n + 400) tb_M156 512 [(8, vi (s58.1 170 5)), (7, vi ((tn : Int))), (6, vi c6), (5, vi (s.1 175 kn)), (4, vi (s.1 174 kn)), (3, vi (s.1 170 5)), (2, vi ((kn : Int))), (0, .ref 170), (1, vi deep)] [vi (8 + (s.1 175 kn)), vl 1, vl (s89.1 170 25), .ref 170] s89 _
                            refine wr_lshl (a := 1) (b := 8 + (s.1 175 kn)) rfl fun z93 h94 h95 => ?_
                            show wr (n + 400) tb_M156 513 [(8, vi (s58.1 170 5)), (7, vi ((tn : Int))), (6, vi c6), (5, vi (s.1 175 kn)), (4, vi (s.1 174 kn)), (3, vi (s.1 170 5)), (2, vi ((kn : Int))), (0, .ref 170), (1, vi deep)] [vl z93, vl (s89.1 170 25), .ref 170] s89 _
                            refine wr_lor (a := s89.1 170 25) (b := z93) rfl fun z96 h97 h98 => ?_
                            show wr (n + 400) tb_M156 514 [(8, vi (s58.1 170 5)), (7, vi ((tn : Int))), (6, vi c6), (5, vi (s.1 175 kn)), (4, vi (s.1 174 kn)), (3, vi (s.1 170 5)), (2, vi ((kn : Int))), (0, .ref 170), (1, vi deep)] [vl z96, .ref 170] s89 _
                            refine wr_put (z := z96) rfl rfl rfl rfl (by decide) rfl (by decide) rfl h97 (fit_l _) ?_
                            show wr (n + 400) tb_M156 517 [(8, vi (s58.1 170 5)), (7, vi ((tn : Int))), (6, vi c6), (5, vi (s.1 175 kn)), (4, vi (s.1 174 kn)), (3, vi (s.1 170 5)), (2, vi ((kn : Int))), (0, .ref 170), (1, vi deep)] [] (up2 s89.1 170 25 z96, s89.2) _
                            have hR99 : RF (up2 s89.1 170 25 z96) := (RF_up hR88 rfl)
                            obtain ⟨s100, hs100⟩ : ∃ qq9 : rS, qq9 = (up2 s89.1 170 25 z96, s89.2) := ⟨_, rfl⟩
                            rw [← hs100]
                            have hK100 : KM s89.1 s100.1 := by rw [hs100]; exact (KM_up KM_rf (by omega))
                            have hk100 := KM_nums hC hK100
                            have hM100 : True ∧ (MB (gn y) (s89.1 170 26) → MB (gn y) (s100.1 170 26)) := by rw [hs100]; exact (show True ∧ (MB (gn y) (s89.1 170 26) → MB (gn y) (s89.1 170 26)) from ⟨trivial, id⟩)
                            have hBk100 : BX C (gn y) s89.1 s100.1 := BX_KM hC hP91 hK100 hM100
                            have hS100 : CS s89.1 s100.1 := by rw [hs100]; exact CS_rf (r := s89.1)
                            have hR100 : RF s100.1 := BX_RF hC hBk100 hR88
                            have hc100 : s100.2 = s89.2 := by rw [hs100]
                            have hm100 : s100.1 C 1 = ((w82 + 2 : Nat) : Int) := by omega
                            have hB101 : BX C (gn y) s.1 s100.1 := BX_tr hC hB91 hBk100
                            have hP101 : PI C y s100.1 := PI_BX hC hP hB101
                            have hQ101 : CS s.1 s100.1 := CS_tr hQ91 hS100
                            have hz101 : s100.2 = s.2 := hc100.trans hz91
                            have hF101 : s100.1 170 4 = s83.1 170 4 ∧ s100.1 170 5 = s83.1 170 5 ∧ s100.1 170 6 = s83.1 170 6 ∧ s100.1 170 7 = s83.1 170 7 ∧ s100.1 170 14 = s83.1 170 14 ∧ s100.1 170 16 = s83.1 170 16 ∧ s100.1 170 21 = s83.1 170 21 ∧ s100.1 C 3 = s83.1 C 3 ∧ s100.1 C 10 = s83.1 C 10 ∧ s83.1 170 5 + 0 ≤ s100.1 170 5 ∧ 0 ≤ s100.1 170 5 ∧ s100.1 170 5 ≤ s100.1 170 6 ∧ s100.1 170 6 ≤ 2000 := by omega
                            clear hF91
                            show wr (n + 400) tb_M156 517 [(8, vi (s58.1 170 5)), (7, vi ((tn : Int))), (6, vi c6), (5, vi (s.1 175 kn)), (4, vi (s.1 174 kn)), (3, vi (s.1 170 5)), (2, vi ((kn : Int))), (0, .ref 170), (1, vi deep)] [] s100 _
                            refine wr_n (pc2 := 519) (lv2 := [(8, vi (s58.1 170 5)), (7, vi ((tn : Int))), (6, vi c6), (5, vi (s.1 175 kn)), (4, vi (s.1 174 kn)), (3, vi (s.1 170 5)), (2, vi ((kn : Int))), (0, .ref 170), (1, vi deep)]) (st2 := [.ref 170, .ref 170]) 2 (fun _ _ => rfl) ?_
                            refine wr_get (v := .ref 174) rfl rfl rfl (by decide) (rv_ref (hR100 170 11 174 rfl)) fun h102 => ?_
                            show wr (n + 400) tb_M156 522 [(8, vi (s58.1 170 5)), (7, vi ((tn : Int))), (6, vi c6), (5, vi (s.1 175 kn)), (4, vi (s.1 174 kn)), (3, vi (s.1 170 5)), (2, vi ((kn : Int))), (0, .ref 170), (1, vi deep)] [.ref 174, .ref 170] s100 _
                            refine wr_n (pc2 := 524) (lv2 := [(8, vi (s58.1 170 5)), (7, vi ((tn : Int))), (6, vi c6), (5, vi (s.1 175 kn)), (4, vi (s.1 174 kn)), (3, vi (s.1 170 5)), (2, vi ((kn : Int))), (0, .ref 170), (1, vi deep)]) (st2 := [vi ((tn : Int)), .ref 174, .ref 170]) 1 (fun _ _ => rfl) ?_
                            refine wr_ald (a := (tn : Int)) (v := vi (s100.1 174 tn)) rfl rfl rfl (by omega) (by omega) (by decide) rfl fun h103 => ?_
                            have h103 : -2147483648 ≤ s100.1 174 tn ∧ s100.1 174 tn ≤ 2147483647 := h103
                            show wr (n + 400) tb_M156 525 [(8, vi (s58.1 170 5)), (7, vi ((tn : Int))), (6, vi c6), (5, vi (s.1 175 kn)), (4, vi (s.1 174 kn)), (3, vi (s.1 170 5)), (2, vi ((kn : Int))), (0, .ref 170), (1, vi deep)] [vi (s100.1 174 tn), .ref 170] s100 _
                            have hwt : s100.1 174 tn = 0 := (hB101.1 174 tn (by unfold SS; omega)).trans (((hB60.1 174 tn (by unfold SS; omega)).symm).trans (by omega))
                            rw [hwt]
                            show wr (n + 400) tb_M156 525 [(8, vi (s58.1 170 5)), (7, vi ((tn : Int))), (6, vi c6), (5, vi (s.1 175 kn)), (4, vi (s.1 174 kn)), (3, vi (s.1 170 5)), (2, vi ((kn : Int))), (0, .ref 170), (1, vi deep)] [vi 0, .ref 170] s100 _
                            have hq6 := N_var hP101 (k := tn) (by omega) hwt
                            refine wr_n (pc2 := 526) (lv2 := [(8, vi (s58.1 170 5)), (7, vi ((tn : Int))), (6, vi c6), (5, vi (s.1 175 kn)), (4, vi (s.1 174 kn)), (3, vi (s.1 170 5)), (2, vi ((kn : Int))), (0, .ref 170), (1, vi deep)]) (st2 := [.ref 170, vi 0, .ref 170]) 1 (fun _ _ => rfl) ?_
                            refine wr_get (v := .ref 175) rfl rfl rfl (by decide) (rv_ref (hR100 170 12 175 rfl)) fun h104 => ?_
                            show wr (n + 400) tb_M156 529 [(8, vi (s58.1 170 5)), (7, vi ((tn : Int))), (6, vi c6), (5, vi (s.1 175 kn)), (4, vi (s.1 174 kn)), (3, vi (s.1 170 5)), (2, vi ((kn : Int))), (0, .ref 170), (1, vi deep)] [.ref 175, vi 0, .ref 170] s100 _
                            refine wr_n (pc2 := 531) (lv2 := [(8, vi (s58.1 170 5)), (7, vi ((tn : Int))), (6, vi c6), (5, vi (s.1 175 kn)), (4, vi (s.1 174 kn)), (3, vi (s.1 170 5)), (2, vi ((kn : Int))), (0, .ref 170), (1, vi deep)]) (st2 := [vi ((tn : Int)), .ref 175, vi 0, .ref 170]) 1 (fun _ _ => rfl) ?_
                            refine wr_ald (a := (tn : Int)) (v := vi (s100.1 175 tn)) rfl rfl rfl (by omega) (by omega) (by decide) rfl fun h105 => ?_
                            have h105 : -2147483648 ≤ s100.1 175 tn ∧ s100.1 175 tn ≤ 2147483647 := h105
                            show wr (n + 400) tb_M156 532 [(8, vi (s58.1 170 5)), (7, vi ((tn : Int))), (6, vi c6), (5, vi (s.1 175 kn)), (4, vi (s.1 174 kn)), (3, vi (s.1 170 5)), (2, vi ((kn : Int))), (0, .ref 170), (1, vi deep)] [vi (s100.1 175 tn), vi 0, .ref 170] s100 _
                            refine wr_call1 (args := [vi 0, vi (s100.1 175 tn)]) (rest := []) rfl rfl rfl rfl (Nat.le_of_ble_eq_true rfl) (cr_mono (x_store0 (d := n + 397) (m := w82 + 2) (v := s100.1 175 tn) hC _ hR100 hP101 (by unfold i32; omega) hm100 (by omega)) ?_)
                            rintro s107 out ⟨rfl, hc106, hR106, hBk106, hK106, hm106, hp106, hda106, hdb106⟩
                            · refine ⟨_, rfl, ?_⟩
                              show wr (n + 400) tb_M156 535 [(8, vi (s58.1 170 5)), (7, vi ((tn : Int))), (6, vi c6), (5, vi (s.1 175 kn)), (4, vi (s.1 174 kn)), (3, vi (s.1 170 5)), (2, vi ((kn : Int))), (0, .ref 170), (1, vi deep)] [] s107 _
                              obtain ⟨hu106, hk106⟩ := id hK106
                              have hB109 : BX C (gn y) s.1 s107.1 := BX_tr hC hB101 hBk106
                              have hP109 : PI C y s107.1 := PI_BX hC hP hB109
                              have hQ109 : CS s.1 s107.1 := CS_tr hQ101 (KC_CS hK106)
                              have hz109 : s107.2 = s.2 := hc106.trans hz101
                              have hF109 : s107.1 170 4 = s83.1 170 4 ∧ s107.1 170 5 = s83.1 170 5 ∧ s107.1 170 6 = s83.1 170 6 ∧ s107.1 170 7 = s83.1 170 7 ∧ s107.1 170 14 = s83.1 170 14 ∧ s107.1 170 16 = s83.1 170 16 ∧ s107.1 170 21 = s83.1 170 21 ∧ s107.1 C 3 = s83.1 C 3 ∧ s107.1 C 10 = s83.1 C 10 ∧ s83.1 170 5 + 0 ≤ s107.1 170 5 ∧ 0 ≤ s107.1 170 5 ∧ s107.1 170 5 ≤ s107.1 170 6 ∧ s107.1 170 6 ≤ 2000 := by omega
                              clear hk106 hp106 hF101
                              refine wr_n (pc2 := 538) (lv2 := [(8, vi (s58.1 170 5)), (7, vi ((tn : Int))), (6, vi c6), (5, vi (s.1 175 kn)), (4, vi (s.1 174 kn)), (3, vi (s.1 170 5)), (2, vi ((kn : Int))), (0, .ref 170), (1, vi deep)]) (st2 := [.ref 30, .ref 170]) 2 (fun _ _ => rfl) ?_
                              refine wr_call1 (args := [.ref 30]) (rest := []) rfl rfl rfl rfl (Nat.le_of_ble_eq_true rfl) (cr_mono (x_take (d := n + 393) isT_30 hC _ hR106 hP109) ?_)
                              rintro s111 out ⟨b, rfl, hc110, ⟨rfl, hF110⟩ | ⟨rfl, hR110, hBk110, hK110, hf110⟩⟩
                              · refine ⟨_, rfl, ?_⟩
                                show wr (n + 400) tb_M156 541 [(8, vi (s58.1 170 5)), (7, vi ((tn : Int))), (6, vi c6), (5, vi (s.1 175 kn)), (4, vi (s.1 174 kn)), (3, vi (s.1 170 5)), (2, vi ((kn : Int))), (0, .ref 170), (1, vi deep)] [vi 0] s111 _
                                refine wr_end (fun _ _ => rfl) ?_
                                exact ⟨0, rfl, hc110.trans hz109, Or.inl ⟨rfl, FR_tr (BX_FR hB109) hF110⟩⟩
                              · refine ⟨_, rfl, ?_⟩
                                show wr (n + 400) tb_M156 541 [(8, vi (s58.1 170 5)), (7, vi ((tn : Int))), (6, vi c6), (5, vi (s.1 175 kn)), (4, vi (s.1 174 kn)), (3, vi (s.1 170 5)), (2, vi ((kn : Int))), (0, .ref 170), (1, vi deep)] [vi 1] s111 _
                                obtain ⟨hu110, hk110⟩ := id hK110
                                replace hf110 : s107.1 170 5 + 1 ≤ s111.1 170 5 := hf110
                                have hm110 : s111.1 C 1 = ((w82 + 2 + 2 : Nat) : Int) := by omega
                                have hB114 : BX C (gn y) s.1 s111.1 := BX_tr hC hB109 hBk110
                                have hP114 : PI C y s111.1 := PI_BX hC hP hB114
                                have hQ114 : CS s.1 s111.1 := CS_tr hQ109 (KL_CS hK110)
                                have hz114 : s111.2 = s.2 := hc110.trans hz109
                                have hx114 := LX_nums hP114
                                have hF114 : s83.1 170 5 + 1 ≤ s111.1 170 5 ∧ s111.1 170 14 = s83.1 170 14 ∧ s111.1 170 16 = s83.1 170 16 ∧ s111.1 170 21 = s83.1 170 21 ∧ s111.1 C 3 = s83.1 C 3 ∧ s111.1 C 10 = s83.1 C 10 ∧ 0 ≤ s111.1 170 5 ∧ s111.1 170 5 ≤ s111.1 170 6 ∧ s111.1 170 6 ≤ 2000 := by omega
                                clear hk110 hf110 hx114 hF109
                                refine wr_end (fun _ _ => rfl) ?_
                                refine ⟨1, rfl, hz114, Or.inr ⟨rfl, hR110, hB114, hQ114, by unfold NXS; omega, w82 + 2 + 2, k0, hm110, by omega, ?_⟩⟩
                                intro hpar
                                exact (SG_seq (by omega) (by omega) (SG_part ((BX_code hC (BX_tr hC (BX_tr hC (BX_tr hC (BX_tr hC (BX_tr hC (BX_tr hC hBk51 hBk57) hBk82) hBk88) hBk100) hBk106) hBk110) (by omega)).trans hda47) (by omega)) (SH_seq (by omega) (by omega) (SH_mono (by omega) (SZ_E (CS_tr (CS_tr (CS_tr (KC_CS hK88) hS100) (KC_CS hK106)) (KL_CS hK110))) (SH_agr (fun p hp1 hp => (BX_code hC (BX_tr hC (BX_tr hC (BX_tr hC hBk88 hBk100) hBk106) hBk110) (by omega))) (hE82 0 (by omega)))) (SH_seq (by omega) (by omega) (SH_input (h0 := 0) (v := (s.1 175 kn).toNat) ((BX_code hC (BX_tr hC (BX_tr hC hBk100 hBk106) hBk110) (by omega)).trans hda88) (((BX_code hC (BX_tr hC (BX_tr hC hBk100 hBk106) hBk110) (by omega)).trans hdb88).trans (Int.toNat_of_nonneg (by omega)).symm) (by omega) (by omega) (by omega)) (SH_store (h0 := 0) (v := (s100.1 175 tn).toNat) ((BX_code hC hBk110 (by omega)).trans hda106) (((BX_code hC hBk110 (by omega)).trans hdb106).trans (Int.toNat_of_nonneg (by omega)).symm) (by omega) (by omega)))))
                        · refine wr_if2f rfl rfl (by unfold i32; omega) (by unfold i32; omega) h87 ?_
                          refine wr_n (pc2 := 487) (lv2 := [(8, vi (s58.1 170 5)), (7, vi ((tn : Int))), (6, vi c6), (5, vi (s.1 175 kn)), (4, vi (s.1 174 kn)), (3, vi (s.1 170 5)), (2, vi ((kn : Int))), (0, .ref 170), (1, vi deep)]) (st2 := [vi (s.1 175 kn), vi 14, .ref 170]) 3 (fun _ _ => rfl) ?_
                          refine wr_call1 (args := [vi 14, vi (s.1 175 kn)]) (rest := []) rfl rfl rfl rfl (Nat.le_of_ble_eq_true rfl) (cr_mono (x_put2 (d := n + 398) (m := w82) (op := 14) (v := s.1 175 kn) hC _ hR82 hP86 (by unfold i32; omega) (by unfold i32; omega) hm82 (by omega)) ?_)
                          rintro s116 out ⟨rfl, hc115, hR115, hBk115, hK115, hm115, hp115, hda115, hdb115⟩
                          · refine ⟨_, rfl, ?_⟩
                            show wr (n + 400) tb_M156 490 [(8, vi (s58.1 170 5)), (7, vi ((tn : Int))), (6, vi c6), (5, vi (s.1 175 kn)), (4, vi (s.1 174 kn)), (3, vi (s.1 170 5)), (2, vi ((kn : Int))), (0, .ref 170), (1, vi deep)] [] s116 _
                            obtain ⟨hu115, hk115⟩ := id hK115
                            have hB118 : BX C (gn y) s.1 s116.1 := BX_tr hC hB86 hBk115
                            have hP118 : PI C y s116.1 := PI_BX hC hP hB118
                            have hQ118 : CS s.1 s116.1 := CS_tr hQ86 (KC_CS hK115)
                            have hz118 : s116.2 = s.2 := hc115.trans hz86
                            have hF118 : s116.1 170 4 = s83.1 170 4 ∧ s116.1 170 5 = s83.1 170 5 ∧ s116.1 170 6 = s83.1 170 6 ∧ s116.1 170 7 = s83.1 170 7 ∧ s116.1 170 14 = s83.1 170 14 ∧ s116.1 170 16 = s83.1 170 16 ∧ s116.1 170 21 = s83.1 170 21 ∧ s116.1 C 3 = s83.1 C 3 ∧ s116.1 C 10 = s83.1 C 10 ∧ s83.1 170 5 + 0 ≤ s116.1 170 5 ∧ 0 ≤ s116.1 170 5 ∧ s116.1 170 5 ≤ s116.1 170 6 ∧ s116.1 170 6 ≤ 2000 := by omega
                            clear hk115 hp115
                            refine wr_n (pc2 := 492) (lv2 := [(8, vi (s58.1 170 5)), (7, vi ((tn : Int))), (6, vi c6), (5, vi (s.1 175 kn)), (4, vi (s.1 174 kn)), (3, vi (s.1 170 5)), (2, vi ((kn : Int))), (0, .ref 170), (1, vi deep)]) (st2 := [.ref 170, .ref 170]) 2 (fun _ _ => rfl) ?_
                            refine wr_get (v := vl (s116.1 170 25)) rfl rfl rfl (by decide) rfl fun h119 => ?_
                            show wr (n + 400) tb_M156 495 [(8, vi (s58.1 170 5)), (7, vi ((tn : Int))), (6, vi c6), (5, vi (s.1 175 kn)), (4, vi (s.1 174 kn)), (3, vi (s.1 170 5)), (2, vi ((kn : Int))), (0, .ref 170), (1, vi deep)] [vl (s116.1 170 25), .ref 170] s116 _
                            refine wr_n (pc2 := 499) (lv2 := [(8, vi (s58.1 170 5)), (7, vi ((tn : Int))), (6, vi c6), (5, vi (s.1 175 kn)), (4, vi (s.1 174 kn)), (3, vi (s.1 170 5)), (2, vi ((kn : Int))), (0, .ref 170), (1, vi deep)]) (st2 := [vi 2, vi (s.1 174 kn), vl 1, vl (s116.1 170 25), .ref 170]) 3 (fun _ _ => rfl) ?_
                            refine wr_if2f rfl rfl (by unfold i32; omega) (by unfold i32; omega) (by show ¬ (s.1 174 kn ≠ 2); omega) ?_
                            show wr (n + 400) tb_M156 502 [(8, vi (s58.1 170 5)), (7, vi ((tn : Int))), (6, vi c6), (5, vi (s.1 175 kn)), (4, vi (s.1 174 kn)), (3, vi (s.1 170 5)), (2, vi ((kn : Int))), (0, .ref 170), (1, vi deep)] [vl 1, vl (s116.1 170 25), .ref 170] s116 _
                            refine wr_n (pc2 := 512) (lv2 := [(8, vi (s58.1 170 5)), (7, vi ((tn : Int))), (6, vi c6), (5, vi (s.1 175 kn)), (4, vi (s.1 174 kn)), (3, vi (s.1 170 5)), (2, vi ((kn : Int))), (0, .ref 170), (1, vi deep)]) (st2 := [vi (s.1 175 kn), vl 1, vl (s116.1 170 25), .ref 170]) 2 (fun _ _ => rfl) ?_
                            refine wr_lshl (a := 1) (b := s.1 175 kn) rfl fun z120 h121 h122 => ?_
                            show wr (n + 400) tb_M156 513 [(8, vi (s58.1 170 5)), (7, vi ((tn : Int))), (6, vi c6), (5, vi (s.1 175 kn)), (4, vi (s.1 174 kn)), (3, vi (s.1 170 5)), (2, vi ((kn : Int))), (0, .ref 170), (1, vi deep)] [vl z120, vl (s116.1 170 25), .ref 170] s116 _
                            refine wr_lor (a := s116.1 170 25) (b := z120) rfl fun z123 h124 h125 => ?_
                            show wr (n + 400) tb_M156 514 [(8, vi (s58.1 170 5)), (7, vi ((tn : Int))), (6, vi c6), (5, vi (s.1 175 kn)), (4, vi (s.1 174 kn)), (3, vi (s.1 170 5)), (2, vi ((kn : Int))), (0, .ref 170), (1, vi deep)] [vl z123, .ref 170] s116 _
                            refine wr_put (z := z123) rfl rfl rfl rfl (by decide) rfl (by decide) rfl h124 (fit_l _) ?_
                            show wr (n + 400) tb_M156 517 [(8, vi (s58.1 170 5)), (7, vi ((tn : Int))), (6, vi c6), (5, vi (s.1 175 kn)), (4, vi (s.1 174 kn)), (3, vi (s.1 170 5)), (2, vi ((kn : Int))), (0, .ref 170), (1, vi deep)] [] (up2 s116.1 170 25 z123, s116.2) _
                            have hR126 : RF (up2 s116.1 170 25 z123) := (RF_up hR115 rfl)
                            obtain ⟨s127, hs127⟩ : ∃ qq9 : rS, qq9 = (up2 s116.1 170 25 z123, s116.2) := ⟨_, rfl⟩
                            rw [← hs127]
                            have hK127 : KM s116.1 s127.1 := by rw [hs127]; exact (KM_up KM_rf (by omega))
                            have hk127 := KM_nums hC hK127
                            have hM127 : True ∧ (MB (gn y) (s116.1 170 26) → MB (gn y) (s127.1 170 26)) := by rw [hs127]; exact (show True ∧ (MB (gn y) (s116.1 170 26) → MB (gn y) (s116.1 170 26)) from ⟨trivial, id⟩)
                            have hBk127 : BX C (gn y) s116.1 s127.1 := BX_KM hC hP118 hK127 hM127
                            have hS127 : CS s116.1 s127.1 := by rw [hs127]; exact CS_rf (r := s116.1)
                            have hR127 : RF s127.1 := BX_RF hC hBk127 hR115
                            have hc127 : s127.2 = s116.2 := by rw [hs127]
                            have hm127 : s127.1 C 1 = ((w82 + 2 : Nat) : Int) := by omega
                            have hB128 : BX C (gn y) s.1 s127.1 := BX_tr hC hB118 hBk127
                            have hP128 : PI C y s127.1 := PI_BX hC hP hB128
                            have hQ128 : CS s.1 s127.1 := CS_tr hQ118 hS127
                            have hz128 : s127.2 = s.2 := hc127.trans hz118
                            have hF128 : s127.1 170 4 = s83.1 170 4 ∧ s127.1 170 5 = s83.1 170 5 ∧ s127.1 170 6 = s83.1 170 6 ∧ s127.1 170 7 = s83.1 170 7 ∧ s127.1 170 14 = s83.1 170 14 ∧ s127.1 170 16 = s83.1 170 16 ∧ s127.1 170 21 = s83.1 170 21 ∧ s127.1 C 3 = s83.1 C 3 ∧ s127.1 C 10 = s83.1 C 10 ∧ s83.1 170 5 + 0 ≤ s127.1 170 5 ∧ 0 ≤ s127.1 170 5 ∧ s127.1 170 5 ≤ s127.1 170 6 ∧ s127.1 170 6 ≤ 2000 := by omega
                            clear hF118
                            show wr (n + 400) tb_M156 517 [(8, vi (s58.1 170 5)), (7, vi ((tn : Int))), (6, vi c6), (5, vi (s.1 175 kn)), (4, vi (s.1 174 kn)), (3, vi (s.1 170 5)), (2, vi ((kn : Int))), (0, .ref 170), (1, vi deep)] [] s127 _
                            refine wr_n (pc2 := 519) (lv2 := [(8, vi (s58.1 170 5)), (7, vi ((tn : Int))), (6, vi c6), (5, vi (s.1 175 kn)), (4, vi (s.1 174 kn)), (3, vi (s.1 170 5)), (2, vi ((kn : Int))), (0, .ref 170), (1, vi deep)]) (st2 := [.ref 170, .ref 170]) 2 (fun _ _ => rfl) ?_
                            refine wr_get (v := .ref 174) rfl rfl rfl (by decide) (rv_ref (hR127 170 11 174 rfl)) fun h129 => ?_
                            show wr (n + 400) tb_M156 522 [(8, vi (s58.1 170 5)), (7, vi ((tn : Int))), (6, vi c6), (5, vi (s.1 175 kn)), (4, vi (s.1 174 kn)), (3, vi (s.1 170 5)), (2, vi ((kn : Int))), (0, .ref 170), (1, vi deep)] [.ref 174, .ref 170] s127 _
                            refine wr_n (pc2 := 524) (lv2 := [(8, vi (s58.1 170 5)), (7, vi ((tn : Int))), (6, vi c6), (5, vi (s.1 175 kn)), (4, vi (s.1 174 kn)), (3, vi (s.1 170 5)), (2, vi ((kn : Int))), (0, .ref 170), (1, vi deep)]) (st2 := [vi ((tn : Int)), .ref 174, .ref 170]) 1 (fun _ _ => rfl) ?_
                            refine wr_ald (a := (tn : Int)) (v := vi (s127.1 174 tn)) rfl rfl rfl (by omega) (by omega) (by decide) rfl fun h130 => ?_
                            have h130 : -2147483648 ≤ s127.1 174 tn ∧ s127.1 174 tn ≤ 2147483647 := h130
                            show wr (n + 400) tb_M156 525 [(8, vi (s58.1 170 5)), (7, vi ((tn : Int))), (6, vi c6), (5, vi (s.1 175 kn)), (4, vi (s.1 174 kn)), (3, vi (s.1 170 5)), (2, vi ((kn : Int))), (0, .ref 170), (1, vi deep)] [vi (s127.1 174 tn), .ref 170] s127 _
                            have hwt : s127.1 174 tn = 0 := (hB128.1 174 tn (by unfold SS; omega)).trans (((hB60.1 174 tn (by unfold SS; omega)).symm).trans (by omega))
                            rw [hwt]
                            show wr (n + 400) tb_M156 525 [(8, vi (s58.1 170 5)), (7, vi ((tn : Int))), (6, vi c6), (5, vi (s.1 175 kn)), (4, vi (s.1 174 kn)), (3, vi (s.1 170 5)), (2, vi ((kn : Int))), (0, .ref 170), (1, vi deep)] [vi 0, .ref 170] s127 _
                            have hq6 := N_var hP128 (k := tn) (by omega) hwt
                            refine wr_n (pc2 := 526) (lv2 := [(8, vi (s58.1 170 5)), (7, vi ((tn : Int))), (6, vi c6), (5, vi (s.1 175 kn)), (4, vi (s.1 174 kn)), (3, vi (s.1 170 5)), (2, vi ((kn : Int))), (0, .ref 170), (1, vi deep)]) (st2 := [.ref 170, vi 0, .ref 170]) 1 (fun _ _ => rfl) ?_
                            refine wr_get (v := .ref 175) rfl rfl rfl (by decide) (rv_ref (hR127 170 12 175 rfl)) fun h131 => ?_
                            show wr (n + 400) tb_M156 529 [(8, vi (s58.1 170 5)), (7, vi ((tn : Int))), (6, vi c6), (5, vi (s.1 175 kn)), (4, vi (s.1 174 kn)), (3, vi (s.1 170 5)), (2, vi ((kn : Int))), (0, .ref 170), (1, vi deep)] [.ref 175, vi 0, .ref 170] s127 _
                            refine wr_n (pc2 := 531) (lv2 := [(8, vi (s58.1 170 5)), (7, vi ((tn : Int))), (6, vi c6), (5, vi (s.1 175 kn)), (4, vi (s.1 174 kn)), (3, vi (s.1 170 5)), (2, vi ((kn : Int))), (0, .ref 170), (1, vi deep)]) (st2 := [vi ((tn : Int)), .ref 175, vi 0, .ref 170]) 1 (fun _ _ => rfl) ?_
                            refine wr_ald (a := (tn : Int)) (v := vi (s127.1 175 tn)) rfl rfl rfl (by omega) (by omega) (by decide) rfl fun h132 => ?_
                            have h132 : -2147483648 ≤ s127.1 175 tn ∧ s127.1 175 tn ≤ 2147483647 := h132
                            show wr (n + 400) tb_M156 532 [(8, vi (s58.1 170 5)), (7, vi ((tn : Int))), (6, vi c6), (5, vi (s.1 175 kn)), (4, vi (s.1 174 kn)), (3, vi (s.1 170 5)), (2, vi ((kn : Int))), (0, .ref 170), (1, vi deep)] [vi (s127.1 175 tn), vi 0, .ref 170] s127 _
                            refine wr_call1 (args := [vi 0, vi (s127.1 175 tn)]) (rest := []) rfl rfl rfl rfl (Nat.le_of_ble_eq_true rfl) (cr_mono (x_store0 (d := n + 397) (m := w82 + 2) (v := s127.1 175 tn) hC _ hR127 hP128 (by unfold i32; omega) hm127 (by omega)) ?_)
                            rintro s134 out ⟨rfl, hc133, hR133, hBk133, hK133, hm133, hp133, hda133, hdb133⟩
                            · refine ⟨_, rfl, ?_⟩
                              show wr (n + 400) tb_M156 535 [(8, vi (s58.1 170 5)), (7, vi ((tn : Int))), (6, vi c6), (5, vi (s.1 175 kn)), (4, vi (s.1 174 kn)), (3, vi (s.1 170 5)), (2, vi ((kn : Int))), (0, .ref 170), (1, vi deep)] [] s134 _
                              obtain ⟨hu133, hk133⟩ := id hK133
                              have hB136 : BX C (gn y) s.1 s134.1 := BX_tr hC hB128 hBk133
                              have hP136 : PI C y s134.1 := PI_BX hC hP hB136
                              have hQ136 : CS s.1 s134.1 := CS_tr hQ128 (KC_CS hK133)
                              have hz136 : s134.2 = s.2 := hc133.trans hz128
                              have hF136 : s134.1 170 4 = s83.1 170 4 ∧ s134.1 170 5 = s83.1 170 5 ∧ s134.1 170 6 = s83.1 170 6 ∧ s134.1 170 7 = s83.1 170 7 ∧ s134.1 170 14 = s83.1 170 14 ∧ s134.1 170 16 = s83.1 170 16 ∧ s134.1 170 21 = s83.1 170 21 ∧ s134.1 C 3 = s83.1 C 3 ∧ s134.1 C 10 = s83.1 C 10 ∧ s83.1 170 5 + 0 ≤ s134.1 170 5 ∧ 0 ≤ s134.1 170 5 ∧ s134.1 170 5 ≤ s134.1 170 6 ∧ s134.1 170 6 ≤ 2000 := by omega
                              clear hk133 hp133 hF128
                              refine wr_n (pc2 := 538) (lv2 := [(8, vi (s58.1 170 5)), (7, vi ((tn : Int))), (6, vi c6), (5, vi (s.1 175 kn)), (4, vi (s.1 174 kn)), (3, vi (s.1 170 5)), (2, vi ((kn : Int))), (0, .ref 170), (1, vi deep)]) (st2 := [.ref 30, .ref 170]) 2 (fun _ _ => rfl) ?_
                              refine wr_call1 (args := [.ref 30]) (rest := []) rfl rfl rfl rfl (Nat.le_of_ble_eq_true rfl) (cr_mono (x_take (d := n + 393) isT_30 hC _ hR133 hP136) ?_)
                              rintro s138 out ⟨b, rfl, hc137, ⟨rfl, hF137⟩ | ⟨rfl, hR137, hBk137, hK137, hf137⟩⟩
                              · refine ⟨_, rfl, ?_⟩
                                show wr (n + 400) tb_M156 541 [(8, vi (s58.1 170 5)), (7, vi ((tn : Int))), (6, vi c6), (5, vi (s.1 175 kn)), (4, vi (s.1 174 kn)), (3, vi (s.1 170 5)), (2, vi ((kn : Int))), (0, .ref 170), (1, vi deep)] [vi 0] s138 _
                                refine wr_end (fun _ _ => rfl) ?_
                                exact ⟨0, rfl, hc137.trans hz136, Or.inl ⟨rfl, FR_tr (BX_FR hB136) hF137⟩⟩
                              · refine ⟨_, rfl, ?_⟩
                                show wr (n + 400) tb_M156 541 [(8, vi (s58.1 170 5)), (7, vi ((tn : Int))), (6, vi c6), (5, vi (s.1 175 kn)), (4, vi (s.1 174 kn)), (3, vi (s.1 170 5)), (2, vi ((kn : Int))), (0, .ref 170), (1, vi deep)] [vi 1] s138 _
                                obtain ⟨hu137, hk137⟩ := id hK137
                                replace hf137 : s134.1 170 5 + 1 ≤ s138.1 170 5 := hf137
                                have hm137 : s138.1 C 1 = ((w82 + 2 + 2 : Nat) : Int) := by omega
                                have hB141 : BX C (gn y) s.1 s138.1 := BX_tr hC hB136 hBk137
                                have hP141 : PI C y s138.1 := PI_BX hC hP hB141
                                have hQ141 : CS s.1 s138.1 := CS_tr hQ136 (KL_CS hK137)
                                have hz141 : s138.2 = s.2 := hc137.trans hz136
                                have hx141 := LX_nums hP141
                                have hF141 : s83.1 170 5 + 1 ≤ s138.1 170 5 ∧ s138.1 170 14 = s83.1 170 14 ∧ s138.1 170 16 = s83.1 170 16 ∧ s138.1 170 21 = s83.1 170 21 ∧ s138.1 C 3 = s83.1 C 3 ∧ s138.1 C 10 = s83.1 C 10 ∧ 0 ≤ s138.1 170 5 ∧ s138.1 170 5 ≤ s138.1 170 6 ∧ s138.1 170 6 ≤ 2000 := by omega
                                clear hk137 hf137 hx141 hF136
                                refine wr_end (fun _ _ => rfl) ?_
                                refine ⟨1, rfl, hz141, Or.inr ⟨rfl, hR137, hB141, hQ141, by unfold NXS; omega, w82 + 2 + 2, k0, hm137, by omega, ?_⟩⟩
                                intro hpar
                                exact (SG_seq (by omega) (by omega) (SG_part ((BX_code hC (BX_tr hC (BX_tr hC (BX_tr hC (BX_tr hC (BX_tr hC (BX_tr hC hBk51 hBk57) hBk82) hBk115) hBk127) hBk133) hBk137) (by omega)).trans hda47) (by omega)) (SH_seq (by omega) (by omega) (SH_mono (by omega) (SZ_E (CS_tr (CS_tr (CS_tr (KC_CS hK115) hS127) (KC_CS hK133)) (KL_CS hK137))) (SH_agr (fun p hp1 hp => (BX_code hC (BX_tr hC (BX_tr hC (BX_tr hC hBk115 hBk127) hBk133) hBk137) (by omega))) (hE82 0 (by omega)))) (SH_seq (by omega) (by omega) (SH_receive (h0 := 0) ((BX_code hC (BX_tr hC (BX_tr hC hBk127 hBk133) hBk137) (by omega)).trans hda115) (by omega) (by omega)) (SH_store (h0 := 0) (v := (s127.1 175 tn).toNat) ((BX_code hC hBk137 (by omega)).trans hda133) (((BX_code hC hBk137 (by omega)).trans hdb133).trans (Int.toNat_of_nonneg (by omega)).symm) (by omega) (by omega)))))
                    · refine wr_if2f rfl rfl (by unfold i32; omega) (by unfold i32; omega) h81 ?_
                      refine wr_n (pc2 := 453) (lv2 := [(8, vi (s58.1 170 5)), (7, vi ((tn : Int))), (6, vi c6), (5, vi (s.1 175 kn)), (4, vi (s.1 174 kn)), (3, vi (s.1 170 5)), (2, vi ((kn : Int))), (0, .ref 170), (1, vi deep)]) (st2 := [.ref 170]) 1 (fun _ _ => rfl) ?_
                      refine wr_call1 (args := []) (rest := []) rfl rfl rfl rfl (Nat.le_of_ble_eq_true rfl) (cr_mono (x_bad0 (C := C) (d := n + 398) _ hR57) ?_)
                      rintro s143 out ⟨rfl, hc142, hF142⟩
                      · refine ⟨_, rfl, ?_⟩
                        show wr (n + 400) tb_M156 456 [(8, vi (s58.1 170 5)), (7, vi ((tn : Int))), (6, vi c6), (5, vi (s.1 175 kn)), (4, vi (s.1 174 kn)), (3, vi (s.1 170 5)), (2, vi ((kn : Int))), (0, .ref 170), (1, vi deep)] [vi 0] s143 _
                        refine wr_end (fun _ _ => rfl) ?_
                        exact ⟨0, rfl, hc142.trans hz60, Or.inl ⟨rfl, FR_tr (BX_FR hB60) hF142⟩⟩
                  · refine wr_if1f rfl rfl (by unfold i32; omega) h80 ?_
                    refine wr_n (pc2 := 449) (lv2 := [(8, vi (s58.1 170 5)), (7, vi ((tn : Int))), (6, vi c6), (5, vi (s.1 175 kn)), (4, vi (s.1 174 kn)), (3, vi (s.1 170 5)), (2, vi ((kn : Int))), (0, .ref 170), (1, vi deep)]) (st2 := [vi 1, vi (s58.1 174 tn)]) 2 (fun _ _ => rfl) ?_
                    by_cases h145 : s58.1 174 tn = 1
                    · refine wr_if2t rfl rfl (by unfold i32; omega) (by unfold i32; omega) h145 ?_
                      have htw : s58.1 174 tn = 1 := by omega
                      refine wr_n (pc2 := 463) (lv2 := [(8, vi (s58.1 170 5)), (7, vi ((tn : Int))), (6, vi c6), (5, vi (s.1 175 kn)), (4, vi (s.1 174 kn)), (3, vi (s.1 170 5)), (2, vi ((kn : Int))), (0, .ref 170), (1, vi deep)]) (st2 := [vi deep, vi (s58.1 170 5), vi ((tn : Int)), .ref 170]) 4 (fun _ _ => rfl) ?_
                      refine wr_call1 (args := [vi ((tn : Int)), vi (s58.1 170 5), vi deep]) (rest := []) rfl rfl rfl rfl (Nat.le_of_ble_eq_true rfl) (cr_mono ((hTg (n + 20) C y (m + 1) _ tn 1 (s58.1 170 5) deep hC hR57 hP60 (BX_mb hB60 hMB) hm57 (by omega) ⟨by omega, by omega, by omega, by omega, by unfold i32; omega, by omega⟩)) ?_)
                      rintro s147 out ⟨b, rfl, hc146, ⟨rfl, hF146⟩ | ⟨rfl, hR146, hBk146, hS146, hN146, w146, hm146, hE146⟩⟩
                      · refine ⟨_, rfl, ?_⟩
                        show wr (n + 400) tb_M156 466 [(8, vi (s58.1 170 5)), (7, vi ((tn : Int))), (6, vi c6), (5, vi (s.1 175 kn)), (4, vi (s.1 174 kn)), (3, vi (s.1 170 5)), (2, vi ((kn : Int))), (0, .ref 170), (1, vi deep)] [vi 0] s147 _
                        refine wr_n (pc2 := 470) (lv2 := [(8, vi (s58.1 170 5)), (7, vi ((tn : Int))), (6, vi c6), (5, vi (s.1 175 kn)), (4, vi (s.1 174 kn)), (3, vi (s.1 170 5)), (2, vi ((kn : Int))), (0, .ref 170), (1, vi deep)]) (st2 := [vi 0]) 2 (fun _ _ => rfl) ?_
                        refine wr_end (fun _ _ => rfl) ?_
                        exact ⟨0, rfl, hc146.trans hz60, Or.inl ⟨rfl, FR_tr (BX_FR hB60) hF146⟩⟩
                      · refine ⟨_, rfl, ?_⟩
                        show wr (n + 400) tb_M156 466 [(8, vi (s58.1 170 5)), (7, vi ((tn : Int))), (6, vi c6), (5, vi (s.1 175 kn)), (4, vi (s.1 174 kn)), (3, vi (s.1 170 5)), (2, vi ((kn : Int))), (0, .ref 170), (1, vi deep)] [vi 1] s147 _
                        unfold NXE at hN146
                        have hB150 : BX C (gn y) s.1 s147.1 := BX_tr hC hB60 hBk146
                        have hP150 : PI C y s147.1 := PI_BX hC hP hB150
                        have hQ150 : CS s.1 s147.1 := CS_tr hQ60 hS146
                        have hz150 : s147.2 = s.2 := hc146.trans hz60
                        have hF150 := LX_nums hP150
                        refine wr_n (pc2 := 475) (lv2 := [(8, vi (s58.1 170 5)), (7, vi ((tn : Int))), (6, vi c6), (5, vi (s.1 175 kn)), (4, vi (s.1 174 kn)), (3, vi (s.1 170 5)), (2, vi ((kn : Int))), (0, .ref 170), (1, vi deep)]) (st2 := [vi 2, vi (s.1 174 kn), .ref 170]) 4 (fun _ _ => rfl) ?_
                        by_cases h151 : s.1 174 kn ≠ 2
                        · refine wr_if2t rfl rfl (by unfold i32; omega) (by unfold i32; omega) h151 ?_
                          refine wr_n (pc2 := 487) (lv2 := [(8, vi (s58.1 170 5)), (7, vi ((tn : Int))), (6, vi c6), (5, vi (s.1 175 kn)), (4, vi (s.1 174 kn)), (3, vi (s.1 170 5)), (2, vi ((kn : Int))), (0, .ref 170), (1, vi deep)]) (st2 := [vi (s.1 175 kn), vi 16, .ref 170]) 2 (fun _ _ => rfl) ?_
                          refine wr_call1 (args := [vi 16, vi (s.1 175 kn)]) (rest := []) rfl rfl rfl rfl (Nat.le_of_ble_eq_true rfl) (cr_mono (x_put2 (d := n + 398) (m := w146) (op := 16) (v := s.1 175 kn) hC _ hR146 hP150 (by unfold i32; omega) (by unfold i32; omega) hm146 (by omega)) ?_)
                          rintro s153 out ⟨rfl, hc152, hR152, hBk152, hK152, hm152, hp152, hda152, hdb152⟩
                          · refine ⟨_, rfl, ?_⟩
                            show wr (n + 400) tb_M156 490 [(8, vi (s58.1 170 5)), (7, vi ((tn : Int))), (6, vi c6), (5, vi (s.1 175 kn)), (4, vi (s.1 174 kn)), (3, vi (s.1 170 5)), (2, vi ((kn : Int))), (0, .ref 170), (1, vi deep)] [] s153 _
                            obtain ⟨hu152, hk152⟩ := id hK152
                            have hB155 : BX C (gn y) s.1 s153.1 := BX_tr hC hB150 hBk152
                            have hP155 : PI C y s153.1 := PI_BX hC hP hB155
                            have hQ155 : CS s.1 s153.1 := CS_tr hQ150 (KC_CS hK152)
                            have hz155 : s153.2 = s.2 := hc152.trans hz150
                            have hF155 : s153.1 170 4 = s147.1 170 4 ∧ s153.1 170 5 = s147.1 170 5 ∧ s153.1 170 6 = s147.1 170 6 ∧ s153.1 170 7 = s147.1 170 7 ∧ s153.1 170 14 = s147.1 170 14 ∧ s153.1 170 16 = s147.1 170 16 ∧ s153.1 170 21 = s147.1 170 21 ∧ s153.1 C 3 = s147.1 C 3 ∧ s153.1 C 10 = s147.1 C 10 ∧ s147.1 170 5 + 0 ≤ s153.1 170 5 ∧ 0 ≤ s153.1 170 5 ∧ s153.1 170 5 ≤ s153.1 170 6 ∧ s153.1 170 6 ≤ 2000 := by omega
                            clear hk152 hp152
                            refine wr_n (pc2 := 492) (lv2 := [(8, vi (s58.1 170 5)), (7, vi ((tn : Int))), (6, vi c6), (5, vi (s.1 175 kn)), (4, vi (s.1 174 kn)), (3, vi (s.1 170 5)), (2, vi ((kn : Int))), (0, .ref 170), (1, vi deep)]) (st2 := [.ref 170, .ref 170]) 2 (fun _ _ => rfl) ?_
                            refine wr_get (v := vl (s153.1 170 25)) rfl rfl rfl (by decide) rfl fun h156 => ?_
                            show wr (n + 400) tb_M156 495 [(8, vi (s58.1 170 5)), (7, vi ((tn : Int))), (6, vi c6), (5, vi (s.1 175 kn)), (4, vi (s.1 174 kn)), (3, vi (s.1 170 5)), (2, vi ((kn : Int))), (0, .ref 170), (1, vi deep)] [vl (s153.1 170 25), .ref 170] s153 _
                            refine wr_n (pc2 := 499) (lv2 := [(8, vi (s58.1 170 5)), (7, vi ((tn : Int))), (6, vi c6), (5, vi (s.1 175 kn)), (4, vi (s.1 174 kn)), (3, vi (s.1 170 5)), (2, vi ((kn : Int))), (0, .ref 170), (1, vi deep)]) (st2 := [vi 2, vi (s.1 174 kn), vl 1, vl (s153.1 170 25), .ref 170]) 3 (fun _ _ => rfl) ?_
                            refine wr_if2t rfl rfl (by unfold i32; omega) (by unfold i32; omega) (by show s.1 174 kn ≠ 2; omega) ?_
                            show wr (n + 400) tb_M156 507 [(8, vi (s58.1 170 5)), (7, vi ((tn : Int))), (6, vi c6), (5, vi (s.1 175 kn)), (4, vi (s.1 174 kn)), (3, vi (s.1 170 5)), (2, vi ((kn : Int))), (0, .ref 170), (1, vi deep)] [vl 1, vl (s153.1 170 25), .ref 170] s153 _
                            refine wr_n (pc2 := 511) (lv2 := [(8, vi (s58.1 170 5)), (7, vi ((tn : Int))), (6, vi c6), (5, vi (s.1 175 kn)), (4, vi (s.1 174 kn)), (3, vi (s.1 170 5)), (2, vi ((kn : Int))), (0, .ref 170), (1, vi deep)]) (st2 := [vi (s.1 175 kn), vi 8, vl 1, vl (s153.1 170 25), .ref 170]) 2 (fun _ _ => rfl) ?_
                            refine wr_add (a := 8) (b := s.1 175 kn) rfl ?_
                            show wr (n + 400) tb_M156 512 [(8, vi (s58.1 170 5)), (7, vi ((tn : Int))), (6, vi c6), (5, vi (s.1 175 kn)), (4, vi (s.1 174 kn)), (3, vi (s.1 170 5)), (2, vi ((kn : Int))), (0, .ref 170), (1, vi deep)] [vi (8 + (s.1 175 kn)), vl 1, vl (s153.1 170 25), .ref 170] s153 _
                            refine wr_lshl (a := 1) (b := 8 + (s.1 175 kn)) rfl fun z157 h158 h159 => ?_
                            show wr (n + 400) tb_M156 513 [(8, vi (s58.1 170 5)), (7, vi ((tn : Int))), (6, vi c6), (5, vi (s.1 175 kn)), (4, vi (s.1 174 kn)), (3, vi (s.1 170 5)), (2, vi ((kn : Int))), (0, .ref 170), (1, vi deep)] [vl z157, vl (s153.1 170 25), .ref 170] s153 _
                            refine wr_lor (a := s153.1 170 25) (b := z157) rfl fun z160 h161 h162 => ?_
                            show wr (n + 400) tb_M156 514 [(8, vi (s58.1 170 5)), (7, vi ((tn : Int))), (6, vi c6), (5, vi (s.1 175 kn)), (4, vi (s.1 174 kn)), (3, vi (s.1 170 5)), (2, vi ((kn : Int))), (0, .ref 170), (1, vi deep)] [vl z160, .ref 170] s153 _
                            refine wr_put (z := z160) rfl rfl rfl rfl (by decide) rfl (by decide) rfl h161 (fit_l _) ?_
                            show wr (n + 400) tb_M156 517 [(8, vi (s58.1 170 5)), (7, vi ((tn : Int))), (6, vi c6), (5, vi (s.1 175 kn)), (4, vi (s.1 174 kn)), (3, vi (s.1 170 5)), (2, vi ((kn : Int))), (0, .ref 170), (1, vi deep)] [] (up2 s153.1 170 25 z160, s153.2) _
                            have hR163 : RF (up2 s153.1 170 25 z160) := (RF_up hR152 rfl)
                            obtain ⟨s164, hs164⟩ : ∃ qq9 : rS, qq9 = (up2 s153.1 170 25 z160, s153.2) := ⟨_, rfl⟩
                            rw [← hs164]
                            have hK164 : KM s153.1 s164.1 := by rw [hs164]; exact (KM_up KM_rf (by omega))
                            have hk164 := KM_nums hC hK164
                            have hM164 : True ∧ (MB (gn y) (s153.1 170 26) → MB (gn y) (s164.1 170 26)) := by rw [hs164]; exact (show True ∧ (MB (gn y) (s153.1 170 26) → MB (gn y) (s153.1 170 26)) from ⟨trivial, id⟩)
                            have hBk164 : BX C (gn y) s153.1 s164.1 := BX_KM hC hP155 hK164 hM164
                            have hS164 : CS s153.1 s164.1 := by rw [hs164]; exact CS_rf (r := s153.1)
                            have hR164 : RF s164.1 := BX_RF hC hBk164 hR152
                            have hc164 : s164.2 = s153.2 := by rw [hs164]
                            have hm164 : s164.1 C 1 = ((w146 + 2 : Nat) : Int) := by omega
                            have hB165 : BX C (gn y) s.1 s164.1 := BX_tr hC hB155 hBk164
                            have hP165 : PI C y s164.1 := PI_BX hC hP hB165
                            have hQ165 : CS s.1 s164.1 := CS_tr hQ155 hS164
                            have hz165 : s164.2 = s.2 := hc164.trans hz155
                            have hF165 : s164.1 170 4 = s147.1 170 4 ∧ s164.1 170 5 = s147.1 170 5 ∧ s164.1 170 6 = s147.1 170 6 ∧ s164.1 170 7 = s147.1 170 7 ∧ s164.1 170 14 = s147.1 170 14 ∧ s164.1 170 16 = s147.1 170 16 ∧ s164.1 170 21 = s147.1 170 21 ∧ s164.1 C 3 = s147.1 C 3 ∧ s164.1 C 10 = s147.1 C 10 ∧ s147.1 170 5 + 0 ≤ s164.1 170 5 ∧ 0 ≤ s164.1 170 5 ∧ s164.1 170 5 ≤ s164.1 170 6 ∧ s164.1 170 6 ≤ 2000 := by omega
                            clear hF155
                            show wr (n + 400) tb_M156 517 [(8, vi (s58.1 170 5)), (7, vi ((tn : Int))), (6, vi c6), (5, vi (s.1 175 kn)), (4, vi (s.1 174 kn)), (3, vi (s.1 170 5)), (2, vi ((kn : Int))), (0, .ref 170), (1, vi deep)] [] s164 _
                            refine wr_n (pc2 := 519) (lv2 := [(8, vi (s58.1 170 5)), (7, vi ((tn : Int))), (6, vi c6), (5, vi (s.1 175 kn)), (4, vi (s.1 174 kn)), (3, vi (s.1 170 5)), (2, vi ((kn : Int))), (0, .ref 170), (1, vi deep)]) (st2 := [.ref 170, .ref 170]) 2 (fun _ _ => rfl) ?_
                            refine wr_get (v := .ref 174) rfl rfl rfl (by decide) (rv_ref (hR164 170 11 174 rfl)) fun h166 => ?_
                            show wr (n + 400) tb_M156 522 [(8, vi (s58.1 170 5)), (7, vi ((tn : Int))), (6, vi c6), (5, vi (s.1 175 kn)), (4, vi (s.1 174 kn)), (3, vi (s.1 170 5)), (2, vi ((kn : Int))), (0, .ref 170), (1, vi deep)] [.ref 174, .ref 170] s164 _
                            refine wr_n (pc2 := 524) (lv2 := [(8, vi (s58.1 170 5)), (7, vi ((tn : Int))), (6, vi c6), (5, vi (s.1 175 kn)), (4, vi (s.1 174 kn)), (3, vi (s.1 170 5)), (2, vi ((kn : Int))), (0, .ref 170), (1, vi deep)]) (st2 := [vi ((tn : Int)), .ref 174, .ref 170]) 1 (fun _ _ => rfl) ?_
                            refine wr_ald (a := (tn : Int)) (v := vi (s164.1 174 tn)) rfl rfl rfl (by omega) (by omega) (by decide) rfl fun h167 => ?_
                            have h167 : -2147483648 ≤ s164.1 174 tn ∧ s164.1 174 tn ≤ 2147483647 := h167
                            show wr (n + 400) tb_M156 525 [(8, vi (s58.1 170 5)), (7, vi ((tn : Int))), (6, vi c6), (5, vi (s.1 175 kn)), (4, vi (s.1 174 kn)), (3, vi (s.1 170 5)), (2, vi ((kn : Int))), (0, .ref 170), (1, vi deep)] [vi (s164.1 174 tn), .ref 170] s164 _
                            have hwt : s164.1 174 tn = 1 := (hB165.1 174 tn (by unfold SS; omega)).trans (((hB60.1 174 tn (by unfold SS; omega)).symm).trans (by omega))
                            rw [hwt]
                            show wr (n + 400) tb_M156 525 [(8, vi (s58.1 170 5)), (7, vi ((tn : Int))), (6, vi c6), (5, vi (s.1 175 kn)), (4, vi (s.1 174 kn)), (3, vi (s.1 170 5)), (2, vi ((kn : Int))), (0, .ref 170), (1, vi deep)] [vi 1, .ref 170] s164 _
                            have hq6 := N_arr hP165 (k := tn) (by omega) hwt
                            refine wr_n (pc2 := 526) (lv2 := [(8, vi (s58.1 170 5)), (7, vi ((tn : Int))), (6, vi c6), (5, vi (s.1 175 kn)), (4, vi (s.1 174 kn)), (3, vi (s.1 170 5)), (2, vi ((kn : Int))), (0, .ref 170), (1, vi deep)]) (st2 := [.ref 170, vi 1, .ref 170]) 1 (fun _ _ => rfl) ?_
                            refine wr_get (v := .ref 175) rfl rfl rfl (by decide) (rv_ref (hR164 170 12 175 rfl)) fun h168 => ?_
                            show wr (n + 400) tb_M156 529 [(8, vi (s58.1 170 5)), (7, vi ((tn : Int))), (6, vi c6), (5, vi (s.1 175 kn)), (4, vi (s.1 174 kn)), (3, vi (s.1 170 5)), (2, vi ((kn : Int))), (0, .ref 170), (1, vi deep)] [.ref 175, vi 1, .ref 170] s164 _
                            refine wr_n (pc2 := 531) (lv2 := [(8, vi (s58.1 170 5)), (7, vi ((tn : Int))), (6, vi c6), (5, vi (s.1 175 kn)), (4, vi (s.1 174 kn)), (3, vi (s.1 170 5)), (2, vi ((kn : Int))), (0, .ref 170), (1, vi deep)]) (st2 := [vi ((tn : Int)), .ref 175, vi 1, .ref 170]) 1 (fun _ _ => rfl) ?_
                            refine wr_ald (a := (tn : Int)) (v := vi (s164.1 175 tn)) rfl rfl rfl (by omega) (by omega) (by decide) rfl fun h169 => ?_
                            have h169 : -2147483648 ≤ s164.1 175 tn ∧ s164.1 175 tn ≤ 2147483647 := h169
                            show wr (n + 400) tb_M156 532 [(8, vi (s58.1 170 5)), (7, vi ((tn : Int))), (6, vi c6), (5, vi (s.1 175 kn)), (4, vi (s.1 174 kn)), (3, vi (s.1 170 5)), (2, vi ((kn : Int))), (0, .ref 170), (1, vi deep)] [vi (s164.1 175 tn), vi 1, .ref 170] s164 _
                            refine wr_call1 (args := [vi 1, vi (s164.1 175 tn)]) (rest := []) rfl rfl rfl rfl (Nat.le_of_ble_eq_true rfl) (cr_mono (x_store1 (d := n + 397) (m := w146 + 2) (v := s164.1 175 tn) hC _ hR164 hP165 (by unfold i32; omega) hm164 (by omega)) ?_)
                            rintro s171 out ⟨rfl, hc170, hR170, hBk170, hK170, hm170, hp170, hda170, hdb170⟩
                            · refine ⟨_, rfl, ?_⟩
                              show wr (n + 400) tb_M156 535 [(8, vi (s58.1 170 5)), (7, vi ((tn : Int))), (6, vi c6), (5, vi (s.1 175 kn)), (4, vi (s.1 174 kn)), (3, vi (s.1 170 5)), (2, vi ((kn : Int))), (0, .ref 170), (1, vi deep)] [] s171 _
                              obtain ⟨hu170, hk170⟩ := id hK170
                              have hB173 : BX C (gn y) s.1 s171.1 := BX_tr hC hB165 hBk170
                              have hP173 : PI C y s171.1 := PI_BX hC hP hB173
                              have hQ173 : CS s.1 s171.1 := CS_tr hQ165 (KC_CS hK170)
                              have hz173 : s171.2 = s.2 := hc170.trans hz165
                              have hF173 : s171.1 170 4 = s147.1 170 4 ∧ s171.1 170 5 = s147.1 170 5 ∧ s171.1 170 6 = s147.1 170 6 ∧ s171.1 170 7 = s147.1 170 7 ∧ s171.1 170 14 = s147.1 170 14 ∧ s171.1 170 16 = s147.1 170 16 ∧ s171.1 170 21 = s147.1 170 21 ∧ s171.1 C 3 = s147.1 C 3 ∧ s171.1 C 10 = s147.1 C 10 ∧ s147.1 170 5 + 0 ≤ s171.1 170 5 ∧ 0 ≤ s171.1 170 5 ∧ s171.1 170 5 ≤ s171.1 170 6 ∧ s171.1 170 6 ≤ 2000 := by omega
                              clear hk170 hp170 hF165
                              refine wr_n (pc2 := 538) (lv2 := [(8, vi (s58.1 170 5)), (7, vi ((tn : Int))), (6, vi c6), (5, vi (s.1 175 kn)), (4, vi (s.1 174 kn)), (3, vi (s.1 170 5)), (2, vi ((kn : Int))), (0, .ref 170), (1, vi deep)]) (st2 := [.ref 30, .ref 170]) 2 (fun _ _ => rfl) ?_
                              refine wr_call1 (args := [.ref 30]) (rest := []) rfl rfl rfl rfl (Nat.le_of_ble_eq_true rfl) (cr_mono (x_take (d := n + 393) isT_30 hC _ hR170 hP173) ?_)
                              rintro s175 out ⟨b, rfl, hc174, ⟨rfl, hF174⟩ | ⟨rfl, hR174, hBk174, hK174, hf174⟩⟩
                              · refine ⟨_, rfl, ?_⟩
                                show wr (n + 400) tb_M156 541 [(8, vi (s58.1 170 5)), (7, vi ((tn : Int))), (6, vi c6), (5, vi (s.1 175 kn)), (4, vi (s.1 174 kn)), (3, vi (s.1 170 5)), (2, vi ((kn : Int))), (0, .ref 170), (1, vi deep)] [vi 0] s175 _
                                refine wr_end (fun _ _ => rfl) ?_
                                exact ⟨0, rfl, hc174.trans hz173, Or.inl ⟨rfl, FR_tr (BX_FR hB173) hF174⟩⟩
                              · refine ⟨_, rfl, ?_⟩
                                show wr (n + 400) tb_M156 541 [(8, vi (s58.1 170 5)), (7, vi ((tn : Int))), (6, vi c6), (5, vi (s.1 175 kn)), (4, vi (s.1 174 kn)), (3, vi (s.1 170 5)), (2, vi ((kn : Int))), (0, .ref 170), (1, vi deep)] [vi 1] s175 _
                                obtain ⟨hu174, hk174⟩ := id hK174
                                replace hf174 : s171.1 170 5 + 1 ≤ s175.1 170 5 := hf174
                                have hm174 : s175.1 C 1 = ((w146 + 2 + 2 : Nat) : Int) := by omega
                                have hB178 : BX C (gn y) s.1 s175.1 := BX_tr hC hB173 hBk174
                                have hP178 : PI C y s175.1 := PI_BX hC hP hB178
                                have hQ178 : CS s.1 s175.1 := CS_tr hQ173 (KL_CS hK174)
                                have hz178 : s175.2 = s.2 := hc174.trans hz173
                                have hx178 := LX_nums hP178
                                have hF178 : s147.1 170 5 + 1 ≤ s175.1 170 5 ∧ s175.1 170 14 = s147.1 170 14 ∧ s175.1 170 16 = s147.1 170 16 ∧ s175.1 170 21 = s147.1 170 21 ∧ s175.1 C 3 = s147.1 C 3 ∧ s175.1 C 10 = s147.1 C 10 ∧ 0 ≤ s175.1 170 5 ∧ s175.1 170 5 ≤ s175.1 170 6 ∧ s175.1 170 6 ≤ 2000 := by omega
                                clear hk174 hf174 hx178 hF173
                                refine wr_end (fun _ _ => rfl) ?_
                                refine ⟨1, rfl, hz178, Or.inr ⟨rfl, hR174, hB178, hQ178, by unfold NXS; omega, w146 + 2 + 2, k0, hm174, by omega, ?_⟩⟩
                                intro hpar
                                exact (SG_seq (by omega) (by omega) (SG_part ((BX_code hC (BX_tr hC (BX_tr hC (BX_tr hC (BX_tr hC (BX_tr hC (BX_tr hC hBk51 hBk57) hBk146) hBk152) hBk164) hBk170) hBk174) (by omega)).trans hda47) (by omega)) (SH_seq (by omega) (by omega) (SH_mono (by omega) (SZ_E (CS_tr (CS_tr (CS_tr (KC_CS hK152) hS164) (KC_CS hK170)) (KL_CS hK174))) (SH_agr (fun p hp1 hp => (BX_code hC (BX_tr hC (BX_tr hC (BX_tr hC hBk152 hBk164) hBk170) hBk174) (by omega))) (hE146 0 (by omega)))) (SH_seq (by omega) (by omega) (SH_input (h0 := 1) (v := (s.1 175 kn).toNat) ((BX_code hC (BX_tr hC (BX_tr hC hBk164 hBk170) hBk174) (by omega)).trans hda152) (((BX_code hC (BX_tr hC (BX_tr hC hBk164 hBk170) hBk174) (by omega)).trans hdb152).trans (Int.toNat_of_nonneg (by omega)).symm) (by omega) (by omega) (by omega)) (SH_storei (h0 := 0) (v := (s164.1 175 tn).toNat) ((BX_code hC hBk174 (by omega)).trans hda170) (((BX_code hC hBk174 (by omega)).trans hdb170).trans (Int.toNat_of_nonneg (by omega)).symm) (by omega) (by omega)))))
                        · refine wr_if2f rfl rfl (by unfold i32; omega) (by unfold i32; omega) h151 ?_
                          refine wr_n (pc2 := 487) (lv2 := [(8, vi (s58.1 170 5)), (7, vi ((tn : Int))), (6, vi c6), (5, vi (s.1 175 kn)), (4, vi (s.1 174 kn)), (3, vi (s.1 170 5)), (2, vi ((kn : Int))), (0, .ref 170), (1, vi deep)]) (st2 := [vi (s.1 175 kn), vi 14, .ref 170]) 3 (fun _ _ => rfl) ?_
                          refine wr_call1 (args := [vi 14, vi (s.1 175 kn)]) (rest := []) rfl rfl rfl rfl (Nat.le_of_ble_eq_true rfl) (cr_mono (x_put2 (d := n + 398) (m := w146) (op := 14) (v := s.1 175 kn) hC _ hR146 hP150 (by unfold i32; omega) (by unfold i32; omega) hm146 (by omega)) ?_)
                          rintro s180 out ⟨rfl, hc179, hR179, hBk179, hK179, hm179, hp179, hda179, hdb179⟩
                          · refine ⟨_, rfl, ?_⟩
                            show wr (n + 400) tb_M156 490 [(8, vi (s58.1 170 5)), (7, vi ((tn : Int))), (6, vi c6), (5, vi (s.1 175 kn)), (4, vi (s.1 174 kn)), (3, vi (s.1 170 5)), (2, vi ((kn : Int))), (0, .ref 170), (1, vi deep)] [] s180 _
                            obtain ⟨hu179, hk179⟩ := id hK179
                            have hB182 : BX C (gn y) s.1 s180.1 := BX_tr hC hB150 hBk179
                            have hP182 : PI C y s180.1 := PI_BX hC hP hB182
                            have hQ182 : CS s.1 s180.1 := CS_tr hQ150 (KC_CS hK179)
                            have hz182 : s180.2 = s.2 := hc179.trans hz150
                            have hF182 : s180.1 170 4 = s147.1 170 4 ∧ s180.1 170 5 = s147.1 170 5 ∧ s180.1 170 6 = s147.1 170 6 ∧ s180.1 170 7 = s147.1 170 7 ∧ s180.1 170 14 = s147.1 170 14 ∧ s180.1 170 16 = s147.1 170 16 ∧ s180.1 170 21 = s147.1 170 21 ∧ s180.1 C 3 = s147.1 C 3 ∧ s180.1 C 10 = s147.1 C 10 ∧ s147.1 170 5 + 0 ≤ s180.1 170 5 ∧ 0 ≤ s180.1 170 5 ∧ s180.1 170 5 ≤ s180.1 170 6 ∧ s180.1 170 6 ≤ 2000 := by omega
                            clear hk179 hp179
                            refine wr_n (pc2 := 492) (lv2 := [(8, vi (s58.1 170 5)), (7, vi ((tn : Int))), (6, vi c6), (5, vi (s.1 175 kn)), (4, vi (s.1 174 kn)), (3, vi (s.1 170 5)), (2, vi ((kn : Int))), (0, .ref 170), (1, vi deep)]) (st2 := [.ref 170, .ref 170]) 2 (fun _ _ => rfl) ?_
                            refine wr_get (v := vl (s180.1 170 25)) rfl rfl rfl (by decide) rfl fun h183 => ?_
                            show wr (n + 400) tb_M156 495 [(8, vi (s58.1 170 5)), (7, vi ((tn : Int))), (6, vi c6), (5, vi (s.1 175 kn)), (4, vi (s.1 174 kn)), (3, vi (s.1 170 5)), (2, vi ((kn : Int))), (0, .ref 170), (1, vi deep)] [vl (s180.1 170 25), .ref 170] s180 _
                            refine wr_n (pc2 := 499) (lv2 := [(8, vi (s58.1 170 5)), (7, vi ((tn : Int))), (6, vi c6), (5, vi (s.1 175 kn)), (4, vi (s.1 174 kn)), (3, vi (s.1 170 5)), (2, vi ((kn : Int))), (0, .ref 170), (1, vi deep)]) (st2 := [vi 2, vi (s.1 174 kn), vl 1, vl (s180.1 170 25), .ref 170]) 3 (fun _ _ => rfl) ?_
                            refine wr_if2f rfl rfl (by unfold i32; omega) (by unfold i32; omega) (by show ¬ (s.1 174 kn ≠ 2); omega) ?_
                            show wr (n + 400) tb_M156 502 [(8, vi (s58.1 170 5)), (7, vi ((tn : Int))), (6, vi c6), (5, vi (s.1 175 kn)), (4, vi (s.1 174 kn)), (3, vi (s.1 170 5)), (2, vi ((kn : Int))), (0, .ref 170), (1, vi deep)] [vl 1, vl (s180.1 170 25), .ref 170] s180 _
                            refine wr_n (pc2 := 512) (lv2 := [(8, vi (s58.1 170 5)), (7, vi ((tn : Int))), (6, vi c6), (5, vi (s.1 175 kn)), (4, vi (s.1 174 kn)), (3, vi (s.1 170 5)), (2, vi ((kn : Int))), (0, .ref 170), (1, vi deep)]) (st2 := [vi (s.1 175 kn), vl 1, vl (s180.1 170 25), .ref 170]) 2 (fun _ _ => rfl) ?_
                            refine wr_lshl (a := 1) (b := s.1 175 kn) rfl fun z184 h185 h186 => ?_
                            show wr (n + 400) tb_M156 513 [(8, vi (s58.1 170 5)), (7, vi ((tn : Int))), (6, vi c6), (5, vi (s.1 175 kn)), (4, vi (s.1 174 kn)), (3, vi (s.1 170 5)), (2, vi ((kn : Int))), (0, .ref 170), (1, vi deep)] [vl z184, vl (s180.1 170 25), .ref 170] s180 _
                            refine wr_lor (a := s180.1 170 25) (b := z184) rfl fun z187 h188 h189 => ?_
                            show wr (n + 400) tb_M156 514 [(8, vi (s58.1 170 5)), (7, vi ((tn : Int))), (6, vi c6), (5, vi (s.1 175 kn)), (4, vi (s.1 174 kn)), (3, vi (s.1 170 5)), (2, vi ((kn : Int))), (0, .ref 170), (1, vi deep)] [vl z187, .ref 170] s180 _
                            refine wr_put (z := z187) rfl rfl rfl rfl (by decide) rfl (by decide) rfl h188 (fit_l _) ?_
                            show wr (n + 400) tb_M156 517 [(8, vi (s58.1 170 5)), (7, vi ((tn : Int))), (6, vi c6), (5, vi (s.1 175 kn)), (4, vi (s.1 174 kn)), (3, vi (s.1 170 5)), (2, vi ((kn : Int))), (0, .ref 170), (1, vi deep)] [] (up2 s180.1 170 25 z187, s180.2) _
                            have hR190 : RF (up2 s180.1 170 25 z187) := (RF_up hR179 rfl)
                            obtain ⟨s191, hs191⟩ : ∃ qq9 : rS, qq9 = (up2 s180.1 170 25 z187, s180.2) := ⟨_, rfl⟩
                            rw [← hs191]
                            have hK191 : KM s180.1 s191.1 := by rw [hs191]; exact (KM_up KM_rf (by omega))
                            have hk191 := KM_nums hC hK191
                            have hM191 : True ∧ (MB (gn y) (s180.1 170 26) → MB (gn y) (s191.1 170 26)) := by rw [hs191]; exact (show True ∧ (MB (gn y) (s180.1 170 26) → MB (gn y) (s180.1 170 26)) from ⟨trivial, id⟩)
                            have hBk191 : BX C (gn y) s180.1 s191.1 := BX_KM hC hP182 hK191 hM191
                            have hS191 : CS s180.1 s191.1 := by rw [hs191]; exact CS_rf (r := s180.1)
                            have hR191 : RF s191.1 := BX_RF hC hBk191 hR179
                            have hc191 : s191.2 = s180.2 := by rw [hs191]
                            have hm191 : s191.1 C 1 = ((w146 + 2 : Nat) : Int) := by omega
                            have hB192 : BX C (gn y) s.1 s191.1 := BX_tr hC hB182 hBk191
                            have hP192 : PI C y s191.1 := PI_BX hC hP hB192
                            have hQ192 : CS s.1 s191.1 := CS_tr hQ182 hS191
                            have hz192 : s191.2 = s.2 := hc191.trans hz182
                            have hF192 : s191.1 170 4 = s147.1 170 4 ∧ s191.1 170 5 = s147.1 170 5 ∧ s191.1 170 6 = s147.1 170 6 ∧ s191.1 170 7 = s147.1 170 7 ∧ s191.1 170 14 = s147.1 170 14 ∧ s191.1 170 16 = s147.1 170 16 ∧ s191.1 170 21 = s147.1 170 21 ∧ s191.1 C 3 = s147.1 C 3 ∧ s191.1 C 10 = s147.1 C 10 ∧ s147.1 170 5 + 0 ≤ s191.1 170 5 ∧ 0 ≤ s191.1 170 5 ∧ s191.1 170 5 ≤ s191.1 170 6 ∧ s191.1 170 6 ≤ 2000 := by omega
                            clear hF182
                            show wr (n + 400) tb_M156 517 [(8, vi (s58.1 170 5)), (7, vi ((tn : Int))), (6, vi c6), (5, vi (s.1 175 kn)), (4, vi (s.1 174 kn)), (3, vi (s.1 170 5)), (2, vi ((kn : Int))), (0, .ref 170), (1, vi deep)] [] s191 _
                            refine wr_n (pc2 := 519) (lv2 := [(8, vi (s58.1 170 5)), (7, vi ((tn : Int))), (6, vi c6), (5, vi (s.1 175 kn)), (4, vi (s.1 174 kn)), (3, vi (s.1 170 5)), (2, vi ((kn : Int))), (0, .ref 170), (1, vi deep)]) (st2 := [.ref 170, .ref 170]) 2 (fun _ _ => rfl) ?_
                            refine wr_get (v := .ref 174) rfl rfl rfl (by decide) (rv_ref (hR191 170 11 174 rfl)) fun h193 => ?_
                            show wr (n + 400) tb_M156 522 [(8, vi (s58.1 170 5)), (7, vi ((tn : Int))), (6, vi c6), (5, vi (s.1 175 kn)), (4, vi (s.1 174 kn)), (3, vi (s.1 170 5)), (2, vi ((kn : Int))), (0, .ref 170), (1, vi deep)] [.ref 174, .ref 170] s191 _
                            refine wr_n (pc2 := 524) (lv2 := [(8, vi (s58.1 170 5)), (7, vi ((tn : Int))), (6, vi c6), (5, vi (s.1 175 kn)), (4, vi (s.1 174 kn)), (3, vi (s.1 170 5)), (2, vi ((kn : Int))), (0, .ref 170), (1, vi deep)]) (st2 := [vi ((tn : Int)), .ref 174, .ref 170]) 1 (fun _ _ => rfl) ?_
                            refine wr_ald (a := (tn : Int)) (v := vi (s191.1 174 tn)) rfl rfl rfl (by omega) (by omega) (by decide) rfl fun h194 => ?_
                            have h194 : -2147483648 ≤ s191.1 174 tn ∧ s191.1 174 tn ≤ 2147483647 := h194
                            show wr (n + 400) tb_M156 525 [(8, vi (s58.1 170 5)), (7, vi ((tn : Int))), (6, vi c6), (5, vi (s.1 175 kn)), (4, vi (s.1 174 kn)), (3, vi (s.1 170 5)), (2, vi ((kn : Int))), (0, .ref 170), (1, vi deep)] [vi (s191.1 174 tn), .ref 170] s191 _
                            have hwt : s191.1 174 tn = 1 := (hB192.1 174 tn (by unfold SS; omega)).trans (((hB60.1 174 tn (by unfold SS; omega)).symm).trans (by omega))
                            rw [hwt]
                            show wr (n + 400) tb_M156 525 [(8, vi (s58.1 170 5)), (7, vi ((tn : Int))), (6, vi c6), (5, vi (s.1 175 kn)), (4, vi (s.1 174 kn)), (3, vi (s.1 170 5)), (2, vi ((kn : Int))), (0, .ref 170), (1, vi deep)] [vi 1, .ref 170] s191 _
                            have hq6 := N_arr hP192 (k := tn) (by omega) hwt
                            refine wr_n (pc2 := 526) (lv2 := [(8, vi (s58.1 170 5)), (7, vi ((tn : Int))), (6, vi c6), (5, vi (s.1 175 kn)), (4, vi (s.1 174 kn)), (3, vi (s.1 170 5)), (2, vi ((kn : Int))), (0, .ref 170), (1, vi deep)]) (st2 := [.ref 170, vi 1, .ref 170]) 1 (fun _ _ => rfl) ?_
                            refine wr_get (v := .ref 175) rfl rfl rfl (by decide) (rv_ref (hR191 170 12 175 rfl)) fun h195 => ?_
                            show wr (n + 400) tb_M156 529 [(8, vi (s58.1 170 5)), (7, vi ((tn : Int))), (6, vi c6), (5, vi (s.1 175 kn)), (4, vi (s.1 174 kn)), (3, vi (s.1 170 5)), (2, vi ((kn : Int))), (0, .ref 170), (1, vi deep)] [.ref 175, vi 1, .ref 170] s191 _
                            refine wr_n (pc2 := 531) (lv2 := [(8, vi (s58.1 170 5)), (7, vi ((tn : Int))), (6, vi c6), (5, vi (s.1 175 kn)), (4, vi (s.1 174 kn)), (3, vi (s.1 170 5)), (2, vi ((kn : Int))), (0, .ref 170), (1, vi deep)]) (st2 := [vi ((tn : Int)), .ref 175, vi 1, .ref 170]) 1 (fun _ _ => rfl) ?_
                            refine wr_ald (a := (tn : Int)) (v := vi (s191.1 175 tn)) rfl rfl rfl (by omega) (by omega) (by decide) rfl fun h196 => ?_
                            have h196 : -2147483648 ≤ s191.1 175 tn ∧ s191.1 175 tn ≤ 2147483647 := h196
                            show wr (n + 400) tb_M156 532 [(8, vi (s58.1 170 5)), (7, vi ((tn : Int))), (6, vi c6), (5, vi (s.1 175 kn)), (4, vi (s.1 174 kn)), (3, vi (s.1 170 5)), (2, vi ((kn : Int))), (0, .ref 170), (1, vi deep)] [vi (s191.1 175 tn), vi 1, .ref 170] s191 _
                            refine wr_call1 (args := [vi 1, vi (s191.1 175 tn)]) (rest := []) rfl rfl rfl rfl (Nat.le_of_ble_eq_true rfl) (cr_mono (x_store1 (d := n + 397) (m := w146 + 2) (v := s191.1 175 tn) hC _ hR191 hP192 (by unfold i32; omega) hm191 (by omega)) ?_)
                            rintro s198 out ⟨rfl, hc197, hR197, hBk197, hK197, hm197, hp197, hda197, hdb197⟩
                            · refine ⟨_, rfl, ?_⟩
                              show wr (n + 400) tb_M156 535 [(8, vi (s58.1 170 5)), (7, vi ((tn : Int))), (6, vi c6), (5, vi (s.1 175 kn)), (4, vi (s.1 174 kn)), (3, vi (s.1 170 5)), (2, vi ((kn : Int))), (0, .ref 170), (1, vi deep)] [] s198 _
                              obtain ⟨hu197, hk197⟩ := id hK197
                              have hB200 : BX C (gn y) s.1 s198.1 := BX_tr hC hB192 hBk197
                              have hP200 : PI C y s198.1 := PI_BX hC hP hB200
                              have hQ200 : CS s.1 s198.1 := CS_tr hQ192 (KC_CS hK197)
                              have hz200 : s198.2 = s.2 := hc197.trans hz192
                              have hF200 : s198.1 170 4 = s147.1 170 4 ∧ s198.1 170 5 = s147.1 170 5 ∧ s198.1 170 6 = s147.1 170 6 ∧ s198.1 170 7 = s147.1 170 7 ∧ s198.1 170 14 = s147.1 170 14 ∧ s198.1 170 16 = s147.1 170 16 ∧ s198.1 170 21 = s147.1 170 21 ∧ s198.1 C 3 = s147.1 C 3 ∧ s198.1 C 10 = s147.1 C 10 ∧ s147.1 170 5 + 0 ≤ s198.1 170 5 ∧ 0 ≤ s198.1 170 5 ∧ s198.1 170 5 ≤ s198.1 170 6 ∧ s198.1 170 6 ≤ 2000 := by omega
                              clear hk197 hp197 hF192
                              refine wr_n (pc2 := 538) (lv2 := [(8, vi (s58.1 170 5)), (7, vi ((tn : Int))), (6, vi c6), (5, vi (s.1 175 kn)), (4, vi (s.1 174 kn)), (3, vi (s.1 170 5)), (2, vi ((kn : Int))), (0, .ref 170), (1, vi deep)]) (st2 := [.ref 30, .ref 170]) 2 (fun _ _ => rfl) ?_
                              refine wr_call1 (args := [.ref 30]) (rest := []) rfl rfl rfl rfl (Nat.le_of_ble_eq_true rfl) (cr_mono (x_take (d := n + 393) isT_30 hC _ hR197 hP200) ?_)
                              rintro s202 out ⟨b, rfl, hc201, ⟨rfl, hF201⟩ | ⟨rfl, hR201, hBk201, hK201, hf201⟩⟩
                              · refine ⟨_, rfl, ?_⟩
                                show wr (n + 400) tb_M156 541 [(8, vi (s58.1 170 5)), (7, vi ((tn : Int))), (6, vi c6), (5, vi (s.1 175 kn)), (4, vi (s.1 174 kn)), (3, vi (s.1 170 5)), (2, vi ((kn : Int))), (0, .ref 170), (1, vi deep)] [vi 0] s202 _
                                refine wr_end (fun _ _ => rfl) ?_
                                exact ⟨0, rfl, hc201.trans hz200, Or.inl ⟨rfl, FR_tr (BX_FR hB200) hF201⟩⟩
                              · refine ⟨_, rfl, ?_⟩
                                show wr (n + 400) tb_M156 541 [(8, vi (s58.1 170 5)), (7, vi ((tn : Int))), (6, vi c6), (5, vi (s.1 175 kn)), (4, vi (s.1 174 kn)), (3, vi (s.1 170 5)), (2, vi ((kn : Int))), (0, .ref 170), (1, vi deep)] [vi 1] s202 _
                                obtain ⟨hu201, hk201⟩ := id hK201
                                replace hf201 : s198.1 170 5 + 1 ≤ s202.1 170 5 := hf201
                                have hm201 : s202.1 C 1 = ((w146 + 2 + 2 : Nat) : Int) := by omega
                                have hB205 : BX C (gn y) s.1 s202.1 := BX_tr hC hB200 hBk201
                                have hP205 : PI C y s202.1 := PI_BX hC hP hB205
                                have hQ205 : CS s.1 s202.1 := CS_tr hQ200 (KL_CS hK201)
                                have hz205 : s202.2 = s.2 := hc201.trans hz200
                                have hx205 := LX_nums hP205
                                have hF205 : s147.1 170 5 + 1 ≤ s202.1 170 5 ∧ s202.1 170 14 = s147.1 170 14 ∧ s202.1 170 16 = s147.1 170 16 ∧ s202.1 170 21 = s147.1 170 21 ∧ s202.1 C 3 = s147.1 C 3 ∧ s202.1 C 10 = s147.1 C 10 ∧ 0 ≤ s202.1 170 5 ∧ s202.1 170 5 ≤ s202.1 170 6 ∧ s202.1 170 6 ≤ 2000 := by omega
                                clear hk201 hf201 hx205 hF200
                                refine wr_end (fun _ _ => rfl) ?_
                                refine ⟨1, rfl, hz205, Or.inr ⟨rfl, hR201, hB205, hQ205, by unfold NXS; omega, w146 + 2 + 2, k0, hm201, by omega, ?_⟩⟩
                                intro hpar
                                exact (SG_seq (by omega) (by omega) (SG_part ((BX_code hC (BX_tr hC (BX_tr hC (BX_tr hC (BX_tr hC (BX_tr hC (BX_tr hC hBk51 hBk57) hBk146) hBk179) hBk191) hBk197) hBk201) (by omega)).trans hda47) (by omega)) (SH_seq (by omega) (by omega) (SH_mono (by omega) (SZ_E (CS_tr (CS_tr (CS_tr (KC_CS hK179) hS191) (KC_CS hK197)) (KL_CS hK201))) (SH_agr (fun p hp1 hp => (BX_code hC (BX_tr hC (BX_tr hC (BX_tr hC hBk179 hBk191) hBk197) hBk201) (by omega))) (hE146 0 (by omega)))) (SH_seq (by omega) (by omega) (SH_receive (h0 := 1) ((BX_code hC (BX_tr hC (BX_tr hC hBk191 hBk197) hBk201) (by omega)).trans hda179) (by omega) (by omega)) (SH_storei (h0 := 0) (v := (s191.1 175 tn).toNat) ((BX_code hC hBk201 (by omega)).trans hda197) (((BX_code hC hBk201 (by omega)).trans hdb197).trans (Int.toNat_of_nonneg (by omega)).symm) (by omega) (by omega)))))
                    · refine wr_if2f rfl rfl (by unfold i32; omega) (by unfold i32; omega) h145 ?_
                      refine wr_n (pc2 := 453) (lv2 := [(8, vi (s58.1 170 5)), (7, vi ((tn : Int))), (6, vi c6), (5, vi (s.1 175 kn)), (4, vi (s.1 174 kn)), (3, vi (s.1 170 5)), (2, vi ((kn : Int))), (0, .ref 170), (1, vi deep)]) (st2 := [.ref 170]) 1 (fun _ _ => rfl) ?_
                      refine wr_call1 (args := []) (rest := []) rfl rfl rfl rfl (Nat.le_of_ble_eq_true rfl) (cr_mono (x_bad0 (C := C) (d := n + 398) _ hR57) ?_)
                      rintro s207 out ⟨rfl, hc206, hF206⟩
                      · refine ⟨_, rfl, ?_⟩
                        show wr (n + 400) tb_M156 456 [(8, vi (s58.1 170 5)), (7, vi ((tn : Int))), (6, vi c6), (5, vi (s.1 175 kn)), (4, vi (s.1 174 kn)), (3, vi (s.1 170 5)), (2, vi ((kn : Int))), (0, .ref 170), (1, vi deep)] [vi 0] s207 _
                        refine wr_end (fun _ _ => rfl) ?_
                        exact ⟨0, rfl, hc206.trans hz60, Or.inl ⟨rfl, FR_tr (BX_FR hB60) hF206⟩⟩
                · refine wr_if1f rfl rfl (by unfold i32; omega) h73 ?_
                  refine wr_n (pc2 := 424) (lv2 := [(8, vi (s58.1 170 5)), (7, vi k67), (6, vi c6), (5, vi (s.1 175 kn)), (4, vi (s.1 174 kn)), (3, vi (s.1 170 5)), (2, vi ((kn : Int))), (0, .ref 170), (1, vi deep)]) (st2 := [.ref 170]) 1 (fun _ _ => rfl) ?_
                  refine wr_call1 (args := []) (rest := []) rfl rfl rfl rfl (Nat.le_of_ble_eq_true rfl) (cr_mono (x_bad0 (C := C) (d := n + 398) _ hR57) ?_)
                  rintro s210 out ⟨rfl, hc209, hF209⟩
                  · refine ⟨_, rfl, ?_⟩
                    show wr (n + 400) tb_M156 427 [(8, vi (s58.1 170 5)), (7, vi k67), (6, vi c6), (5, vi (s.1 175 kn)), (4, vi (s.1 174 kn)), (3, vi (s.1 170 5)), (2, vi ((kn : Int))), (0, .ref 170), (1, vi deep)] [vi 0] s210 _
                    refine wr_end (fun _ _ => rfl) ?_
                    exact ⟨0, rfl, hc209.trans hz60, Or.inl ⟨rfl, FR_tr (BX_FR hB60) hF209⟩⟩
          · refine ⟨_, rfl, ?_⟩
            rw [he55]
            show wr (n + 400) tb_M156 317 [(6, vi c6), (5, vi (s.1 175 kn)), (4, vi (s.1 174 kn)), (3, vi (s.1 170 5)), (2, vi ((kn : Int))), (0, .ref 170), (1, vi deep)] [vi 1] s52 _
            have hg55 : 1 ≤ s52.1 170 4 ∧ s52.1 170 5 + 1 = s52.1 170 6 := ⟨by omega, hl55⟩
            clear hj55 hl55
            refine wr_n (pc2 := 321) (lv2 := [(6, vi c6), (5, vi (s.1 175 kn)), (4, vi (s.1 174 kn)), (3, vi (s.1 170 5)), (2, vi ((kn : Int))), (0, .ref 170), (1, vi deep)]) (st2 := [.ref 170]) 2 (fun _ _ => rfl) ?_
            refine wr_call1 (args := []) (rest := []) rfl rfl rfl rfl (Nat.le_of_ble_eq_true rfl) (cr_mono (x_step (d := n + 394) hC _ hR51 hP54) ?_)
            rintro s213 out ⟨rfl, hc212, hR212, hBk212, hK212, hf212⟩
            · refine ⟨_, rfl, ?_⟩
              show wr (n + 400) tb_M156 324 [(6, vi c6), (5, vi (s.1 175 kn)), (4, vi (s.1 174 kn)), (3, vi (s.1 170 5)), (2, vi ((kn : Int))), (0, .ref 170), (1, vi deep)] [] s213 _
              obtain ⟨hu212, hk212⟩ := id hK212
              replace hf212 : s52.1 170 6 ≤ s213.1 170 5 := hf212
              have hm212 : s213.1 C 1 = ((m + 1 : Nat) : Int) := by omega
              have hB215 : BX C (gn y) s.1 s213.1 := BX_tr hC hB54 hBk212
              have hP215 : PI C y s213.1 := PI_BX hC hP hB215
              have hQ215 : CS s.1 s213.1 := CS_tr hQ54 (KL_CS hK212)
              have hz215 : s213.2 = s.2 := hc212.trans hz54
              have hx215 := LX_nums hP215
              have hF215 : s.1 170 5 + 2 ≤ s213.1 170 5 ∧ s213.1 170 14 = s.1 170 14 ∧ s213.1 170 16 = s.1 170 16 ∧ s213.1 170 21 = s.1 170 21 ∧ s213.1 C 3 = s.1 C 3 + 1 ∧ s213.1 C 10 = s.1 C 10 ∧ 0 ≤ s213.1 170 5 ∧ s213.1 170 5 ≤ s213.1 170 6 ∧ s213.1 170 6 ≤ 2000 := by omega
              clear hk212 hf212 hx215 hF54
              refine wr_n (pc2 := 328) (lv2 := [(6, vi c6), (5, vi (s.1 175 kn)), (4, vi (s.1 174 kn)), (3, vi (s.1 170 5)), (2, vi ((kn : Int))), (0, .ref 170), (1, vi deep)]) (st2 := [vi 1, vi deep, vi 0, .ref 170]) 4 (fun _ _ => rfl) ?_
              refine wr_add (a := deep) (b := 1) rfl ?_
              show wr (n + 400) tb_M156 329 [(6, vi c6), (5, vi (s.1 175 kn)), (4, vi (s.1 174 kn)), (3, vi (s.1 170 5)), (2, vi ((kn : Int))), (0, .ref 170), (1, vi deep)] [vi (deep + 1), vi 0, .ref 170] s213 _
              refine wr_call1 (args := [vi 0, vi (deep + 1)]) (rest := []) rfl rfl rfl rfl (Nat.le_of_ble_eq_true rfl) (cr_mono ((cr_up (d := 360) (by omega) (hX C y (m + 1) _ 0 (deep + 1) hC hR212 hP215 (BX_mb hB215 hMB) hm212 (by unfold NE; omega) (by omega)))) ?_)
              rintro s217 out ⟨b, rfl, hc216, ⟨rfl, hF216⟩ | ⟨rfl, hR216, hBk216, hS216, hN216, hV216, w216, hm216, hE216⟩⟩
              · refine ⟨_, rfl, ?_⟩
                show wr (n + 400) tb_M156 332 [(6, vi c6), (5, vi (s.1 175 kn)), (4, vi (s.1 174 kn)), (3, vi (s.1 170 5)), (2, vi ((kn : Int))), (0, .ref 170), (1, vi deep)] [vi 0] s217 _
                refine wr_n (pc2 := 336) (lv2 := [(6, vi c6), (5, vi (s.1 175 kn)), (4, vi (s.1 174 kn)), (3, vi (s.1 170 5)), (2, vi ((kn : Int))), (0, .ref 170), (1, vi deep)]) (st2 := [vi 0]) 2 (fun _ _ => rfl) ?_
                refine wr_end (fun _ _ => rfl) ?_
                exact ⟨0, rfl, hc216.trans hz215, Or.inl ⟨rfl, FR_tr (BX_FR hB215) hF216⟩⟩
              · refine ⟨_, rfl, ?_⟩
                show wr (n + 400) tb_M156 332 [(6, vi c6), (5, vi (s.1 175 kn)), (4, vi (s.1 174 kn)), (3, vi (s.1 170 5)), (2, vi ((kn : Int))), (0, .ref 170), (1, vi deep)] [vi 1] s217 _
                unfold NXE at hN216
                have hB220 : BX C (gn y) s.1 s217.1 := BX_tr hC hB215 hBk216
                have hP220 : PI C y s217.1 := PI_BX hC hP hB220
                have hQ220 : CS s.1 s217.1 := CS_tr hQ215 hS216
                have hz220 : s217.2 = s.2 := hc216.trans hz215
                have hF220 := LX_nums hP220
                refine wr_n (pc2 := 341) (lv2 := [(6, vi c6), (5, vi (s.1 175 kn)), (4, vi (s.1 174 kn)), (3, vi (s.1 170 5)), (2, vi ((kn : Int))), (0, .ref 170), (1, vi deep)]) (st2 := [vi 2, vi (s.1 174 kn), .ref 170]) 4 (fun _ _ => rfl) ?_
                by_cases h221 : s.1 174 kn ≠ 2
                · refine wr_if2t rfl rfl (by unfold i32; omega) (by unfold i32; omega) h221 ?_
                  refine wr_n (pc2 := 353) (lv2 := [(6, vi c6), (5, vi (s.1 175 kn)), (4, vi (s.1 174 kn)), (3, vi (s.1 170 5)), (2, vi ((kn : Int))), (0, .ref 170), (1, vi deep)]) (st2 := [vi (s.1 175 kn), vi 15, .ref 170]) 2 (fun _ _ => rfl) ?_
                  refine wr_call1 (args := [vi 15, vi (s.1 175 kn)]) (rest := []) rfl rfl rfl rfl (Nat.le_of_ble_eq_true rfl) (cr_mono (x_put2 (d := n + 398) (m := w216) (op := 15) (v := s.1 175 kn) hC _ hR216 hP220 (by unfold i32; omega) (by unfold i32; omega) hm216 (by omega)) ?_)
                  rintro s223 out ⟨rfl, hc222, hR222, hBk222, hK222, hm222, hp222, hda222, hdb222⟩
                  · refine ⟨_, rfl, ?_⟩
                    show wr (n + 400) tb_M156 356 [(6, vi c6), (5, vi (s.1 175 kn)), (4, vi (s.1 174 kn)), (3, vi (s.1 170 5)), (2, vi ((kn : Int))), (0, .ref 170), (1, vi deep)] [] s223 _
                    obtain ⟨hu222, hk222⟩ := id hK222
                    have hB225 : BX C (gn y) s.1 s223.1 := BX_tr hC hB220 hBk222
                    have hP225 : PI C y s223.1 := PI_BX hC hP hB225
                    have hQ225 : CS s.1 s223.1 := CS_tr hQ220 (KC_CS hK222)
                    have hz225 : s223.2 = s.2 := hc222.trans hz220
                    have hF225 : s223.1 170 4 = s217.1 170 4 ∧ s223.1 170 5 = s217.1 170 5 ∧ s223.1 170 6 = s217.1 170 6 ∧ s223.1 170 7 = s217.1 170 7 ∧ s223.1 170 14 = s217.1 170 14 ∧ s223.1 170 16 = s217.1 170 16 ∧ s223.1 170 21 = s217.1 170 21 ∧ s223.1 C 3 = s217.1 C 3 ∧ s223.1 C 10 = s217.1 C 10 ∧ s217.1 170 5 + 0 ≤ s223.1 170 5 ∧ 0 ≤ s223.1 170 5 ∧ s223.1 170 5 ≤ s223.1 170 6 ∧ s223.1 170 6 ≤ 2000 := by omega
                    clear hk222 hp222
                    refine wr_n (pc2 := 358) (lv2 := [(6, vi c6), (5, vi (s.1 175 kn)), (4, vi (s.1 174 kn)), (3, vi (s.1 170 5)), (2, vi ((kn : Int))), (0, .ref 170), (1, vi deep)]) (st2 := [.ref 170, .ref 170]) 2 (fun _ _ => rfl) ?_
                    refine wr_get (v := vl (s223.1 170 24)) rfl rfl rfl (by decide) rfl fun h226 => ?_
                    show wr (n + 400) tb_M156 361 [(6, vi c6), (5, vi (s.1 175 kn)), (4, vi (s.1 174 kn)), (3, vi (s.1 170 5)), (2, vi ((kn : Int))), (0, .ref 170), (1, vi deep)] [vl (s223.1 170 24), .ref 170] s223 _
                    refine wr_n (pc2 := 365) (lv2 := [(6, vi c6), (5, vi (s.1 175 kn)), (4, vi (s.1 174 kn)), (3, vi (s.1 170 5)), (2, vi ((kn : Int))), (0, .ref 170), (1, vi deep)]) (st2 := [vi 2, vi (s.1 174 kn), vl 1, vl (s223.1 170 24), .ref 170]) 3 (fun _ _ => rfl) ?_
                    refine wr_if2t rfl rfl (by unfold i32; omega) (by unfold i32; omega) (by show s.1 174 kn ≠ 2; omega) ?_
                    show wr (n + 400) tb_M156 373 [(6, vi c6), (5, vi (s.1 175 kn)), (4, vi (s.1 174 kn)), (3, vi (s.1 170 5)), (2, vi ((kn : Int))), (0, .ref 170), (1, vi deep)] [vl 1, vl (s223.1 170 24), .ref 170] s223 _
                    refine wr_n (pc2 := 377) (lv2 := [(6, vi c6), (5, vi (s.1 175 kn)), (4, vi (s.1 174 kn)), (3, vi (s.1 170 5)), (2, vi ((kn : Int))), (0, .ref 170), (1, vi deep)]) (st2 := [vi (s.1 175 kn), vi 8, vl 1, vl (s223.1 170 24), .ref 170]) 2 (fun _ _ => rfl) ?_
                    refine wr_add (a := 8) (b := s.1 175 kn) rfl ?_
                    show wr (n + 400) tb_M156 378 [(6, vi c6), (5, vi (s.1 175 kn)), (4, vi (s.1 174 kn)), (3, vi (s.1 170 5)), (2, vi ((kn : Int))), (0, .ref 170), (1, vi deep)] [vi (8 + (s.1 175 kn)), vl 1, vl (s223.1 170 24), .ref 170] s223 _
                    refine wr_lshl (a := 1) (b := 8 + (s.1 175 kn)) rfl fun z227 h228 h229 => ?_
                    show wr (n + 400) tb_M156 379 [(6, vi c6), (5, vi (s.1 175 kn)), (4, vi (s.1 174 kn)), (3, vi (s.1 170 5)), (2, vi ((kn : Int))), (0, .ref 170), (1, vi deep)] [vl z227, vl (s223.1 170 24), .ref 170] s223 _
                    refine wr_lor (a := s223.1 170 24) (b := z227) rfl fun z230 h231 h232 => ?_
                    show wr (n + 400) tb_M156 380 [(6, vi c6), (5, vi (s.1 175 kn)), (4, vi (s.1 174 kn)), (3, vi (s.1 170 5)), (2, vi ((kn : Int))), (0, .ref 170), (1, vi deep)] [vl z230, .ref 170] s223 _
                    refine wr_put (z := z230) rfl rfl rfl rfl (by decide) rfl (by decide) rfl h231 (fit_l _) ?_
                    show wr (n + 400) tb_M156 383 [(6, vi c6), (5, vi (s.1 175 kn)), (4, vi (s.1 174 kn)), (3, vi (s.1 170 5)), (2, vi ((kn : Int))), (0, .ref 170), (1, vi deep)] [] (up2 s223.1 170 24 z230, s223.2) _
                    have hR233 : RF (up2 s223.1 170 24 z230) := (RF_up hR222 rfl)
                    obtain ⟨s234, hs234⟩ : ∃ qq9 : rS, qq9 = (up2 s223.1 170 24 z230, s223.2) := ⟨_, rfl⟩
                    rw [← hs234]
                    have hK234 : KM s223.1 s234.1 := by rw [hs234]; exact (KM_up KM_rf (by omega))
                    have hk234 := KM_nums hC hK234
                    have hM234 : True ∧ (MB (gn y) (s223.1 170 26) → MB (gn y) (s234.1 170 26)) := by rw [hs234]; exact (show True ∧ (MB (gn y) (s223.1 170 26) → MB (gn y) (s223.1 170 26)) from ⟨trivial, id⟩)
                    have hBk234 : BX C (gn y) s223.1 s234.1 := BX_KM hC hP225 hK234 hM234
                    have hS234 : CS s223.1 s234.1 := by rw [hs234]; exact CS_rf (r := s223.1)
                    have hR234 : RF s234.1 := BX_RF hC hBk234 hR222
                    have hc234 : s234.2 = s223.2 := by rw [hs234]
                    have hm234 : s234.1 C 1 = ((w216 + 2 : Nat) : Int) := by omega
                    have hB235 : BX C (gn y) s.1 s234.1 := BX_tr hC hB225 hBk234
                    have hP235 : PI C y s234.1 := PI_BX hC hP hB235
                    have hQ235 : CS s.1 s234.1 := CS_tr hQ225 hS234
                    have hz235 : s234.2 = s.2 := hc234.trans hz225
                    have hF235 : s234.1 170 4 = s217.1 170 4 ∧ s234.1 170 5 = s217.1 170 5 ∧ s234.1 170 6 = s217.1 170 6 ∧ s234.1 170 7 = s217.1 170 7 ∧ s234.1 170 14 = s217.1 170 14 ∧ s234.1 170 16 = s217.1 170 16 ∧ s234.1 170 21 = s217.1 170 21 ∧ s234.1 C 3 = s217.1 C 3 ∧ s234.1 C 10 = s217.1 C 10 ∧ s217.1 170 5 + 0 ≤ s234.1 170 5 ∧ 0 ≤ s234.1 170 5 ∧ s234.1 170 5 ≤ s234.1 170 6 ∧ s234.1 170 6 ≤ 2000 := by omega
                    clear hF225
                    show wr (n + 400) tb_M156 383 [(6, vi c6), (5, vi (s.1 175 kn)), (4, vi (s.1 174 kn)), (3, vi (s.1 170 5)), (2, vi ((kn : Int))), (0, .ref 170), (1, vi deep)] [] s234 _
                    refine wr_n (pc2 := 386) (lv2 := [(6, vi c6), (5, vi (s.1 175 kn)), (4, vi (s.1 174 kn)), (3, vi (s.1 170 5)), (2, vi ((kn : Int))), (0, .ref 170), (1, vi deep)]) (st2 := [.ref 30, .ref 170]) 2 (fun _ _ => rfl) ?_
                    refine wr_call1 (args := [.ref 30]) (rest := []) rfl rfl rfl rfl (Nat.le_of_ble_eq_true rfl) (cr_mono (x_take (d := n + 393) isT_30 hC _ hR234 hP235) ?_)
                    rintro s237 out ⟨b, rfl, hc236, ⟨rfl, hF236⟩ | ⟨rfl, hR236, hBk236, hK236, hf236⟩⟩
                    · refine ⟨_, rfl, ?_⟩
                      show wr (n + 400) tb_M156 389 [(6, vi c6), (5, vi (s.1 175 kn)), (4, vi (s.1 174 kn)), (3, vi (s.1 170 5)), (2, vi ((kn : Int))), (0, .ref 170), (1, vi deep)] [vi 0] s237 _
                      refine wr_end (fun _ _ => rfl) ?_
                      exact ⟨0, rfl, hc236.trans hz235, Or.inl ⟨rfl, FR_tr (BX_FR hB235) hF236⟩⟩
                    · refine ⟨_, rfl, ?_⟩
                      show wr (n + 400) tb_M156 389 [(6, vi c6), (5, vi (s.1 175 kn)), (4, vi (s.1 174 kn)), (3, vi (s.1 170 5)), (2, vi ((kn : Int))), (0, .ref 170), (1, vi deep)] [vi 1] s237 _
                      obtain ⟨hu236, hk236⟩ := id hK236
                      replace hf236 : s234.1 170 5 + 1 ≤ s237.1 170 5 := hf236
                      have hm236 : s237.1 C 1 = ((w216 + 2 : Nat) : Int) := by omega
                      have hB240 : BX C (gn y) s.1 s237.1 := BX_tr hC hB235 hBk236
                      have hP240 : PI C y s237.1 := PI_BX hC hP hB240
                      have hQ240 : CS s.1 s237.1 := CS_tr hQ235 (KL_CS hK236)
                      have hz240 : s237.2 = s.2 := hc236.trans hz235
                      have hx240 := LX_nums hP240
                      have hF240 : s217.1 170 5 + 1 ≤ s237.1 170 5 ∧ s237.1 170 14 = s217.1 170 14 ∧ s237.1 170 16 = s217.1 170 16 ∧ s237.1 170 21 = s217.1 170 21 ∧ s237.1 C 3 = s217.1 C 3 ∧ s237.1 C 10 = s217.1 C 10 ∧ 0 ≤ s237.1 170 5 ∧ s237.1 170 5 ≤ s237.1 170 6 ∧ s237.1 170 6 ≤ 2000 := by omega
                      clear hk236 hf236 hx240 hF235
                      refine wr_end (fun _ _ => rfl) ?_
                      refine ⟨1, rfl, hz240, Or.inr ⟨rfl, hR236, hB240, hQ240, by unfold NXS; omega, w216 + 2, k0, hm236, by omega, ?_⟩⟩
                      intro hpar
                      exact (SG_seq (by omega) (by omega) (SG_part ((BX_code hC (BX_tr hC (BX_tr hC (BX_tr hC (BX_tr hC (BX_tr hC hBk51 hBk212) hBk216) hBk222) hBk234) hBk236) (by omega)).trans hda47) (by omega)) (SH_seq (by omega) (by omega) (SG_SH (SG_mono (by omega) (SZ_E (CS_tr (CS_tr (KC_CS hK222) hS234) (KL_CS hK236))) (SG_agr (fun p hp1 hp => (BX_code hC (BX_tr hC (BX_tr hC hBk222 hBk234) hBk236) (by omega))) (hE216 0 (by omega))))) (SH_output (v := (s.1 175 kn).toNat) ((BX_code hC (BX_tr hC hBk234 hBk236) (by omega)).trans hda222) (((BX_code hC (BX_tr hC hBk234 hBk236) (by omega)).trans hdb222).trans (Int.toNat_of_nonneg (by omega)).symm) (by omega) (by omega))))
                · refine wr_if2f rfl rfl (by unfold i32; omega) (by unfold i32; omega) h221 ?_
                  refine wr_n (pc2 := 353) (lv2 := [(6, vi c6), (5, vi (s.1 175 kn)), (4, vi (s.1 174 kn)), (3, vi (s.1 170 5)), (2, vi ((kn : Int))), (0, .ref 170), (1, vi deep)]) (st2 := [vi (s.1 175 kn), vi 13, .ref 170]) 3 (fun _ _ => rfl) ?_
                  refine wr_call1 (args := [vi 13, vi (s.1 175 kn)]) (rest := []) rfl rfl rfl rfl (Nat.le_of_ble_eq_true rfl) (cr_mono (x_put2 (d := n + 398) (m := w216) (op := 13) (v := s.1 175 kn) hC _ hR216 hP220 (by unfold i32; omega) (by unfold i32; omega) hm216 (by omega)) ?_)
                  rintro s242 out ⟨rfl, hc241, hR241, hBk241, hK241, hm241, hp241, hda241, hdb241⟩
                  · refine ⟨_, rfl, ?_⟩
                    show wr (n + 400) tb_M156 356 [(6, vi c6), (5, vi (s.1 175 kn)), (4, vi (s.1 174 kn)), (3, vi (s.1 170 5)), (2, vi ((kn : Int))), (0, .ref 170), (1, vi deep)] [] s242 _
                    obtain ⟨hu241, hk241⟩ := id hK241
                    have hB244 : BX C (gn y) s.1 s242.1 := BX_tr hC hB220 hBk241
                    have hP244 : PI C y s242.1 := PI_BX hC hP hB244
                    have hQ244 : CS s.1 s242.1 := CS_tr hQ220 (KC_CS hK241)
                    have hz244 : s242.2 = s.2 := hc241.trans hz220
                    have hF244 : s242.1 170 4 = s217.1 170 4 ∧ s242.1 170 5 = s217.1 170 5 ∧ s242.1 170 6 = s217.1 170 6 ∧ s242.1 170 7 = s217.1 170 7 ∧ s242.1 170 14 = s217.1 170 14 ∧ s242.1 170 16 = s217.1 170 16 ∧ s242.1 170 21 = s217.1 170 21 ∧ s242.1 C 3 = s217.1 C 3 ∧ s242.1 C 10 = s217.1 C 10 ∧ s217.1 170 5 + 0 ≤ s242.1 170 5 ∧ 0 ≤ s242.1 170 5 ∧ s242.1 170 5 ≤ s242.1 170 6 ∧ s242.1 170 6 ≤ 2000 := by omega
                    clear hk241 hp241
                    refine wr_n (pc2 := 358) (lv2 := [(6, vi c6), (5, vi (s.1 175 kn)), (4, vi (s.1 174 kn)), (3, vi (s.1 170 5)), (2, vi ((kn : Int))), (0, .ref 170), (1, vi deep)]) (st2 := [.ref 170, .ref 170]) 2 (fun _ _ => rfl) ?_
                    refine wr_get (v := vl (s242.1 170 24)) rfl rfl rfl (by decide) rfl fun h245 => ?_
                    show wr (n + 400) tb_M156 361 [(6, vi c6), (5, vi (s.1 175 kn)), (4, vi (s.1 174 kn)), (3, vi (s.1 170 5)), (2, vi ((kn : Int))), (0, .ref 170), (1, vi deep)] [vl (s242.1 170 24), .ref 170] s242 _
                    refine wr_n (pc2 := 365) (lv2 := [(6, vi c6), (5, vi (s.1 175 kn)), (4, vi (s.1 174 kn)), (3, vi (s.1 170 5)), (2, vi ((kn : Int))), (0, .ref 170), (1, vi deep)]) (st2 := [vi 2, vi (s.1 174 kn), vl 1, vl (s242.1 170 24), .ref 170]) 3 (fun _ _ => rfl) ?_
                    refine wr_if2f rfl rfl (by unfold i32; omega) (by unfold i32; omega) (by show ¬ (s.1 174 kn ≠ 2); omega) ?_
                    show wr (n + 400) tb_M156 368 [(6, vi c6), (5, vi (s.1 175 kn)), (4, vi (s.1 174 kn)), (3, vi (s.1 170 5)), (2, vi ((kn : Int))), (0, .ref 170), (1, vi deep)] [vl 1, vl (s242.1 170 24), .ref 170] s242 _
                    refine wr_n (pc2 := 378) (lv2 := [(6, vi c6), (5, vi (s.1 175 kn)), (4, vi (s.1 174 kn)), (3, vi (s.1 170 5)), (2, vi ((kn : Int))), (0, .ref 170), (1, vi deep)]) (st2 := [vi (s.1 175 kn), vl 1, vl (s242.1 170 24), .ref 170]) 2 (fun _ _ => rfl) ?_
                    refine wr_lshl (a := 1) (b := s.1 175 kn) rfl fun z246 h247 h248 => ?_
                    show wr (n + 400) tb_M156 379 [(6, vi c6), (5, vi (s.1 175 kn)), (4, vi (s.1 174 kn)), (3, vi (s.1 170 5)), (2, vi ((kn : Int))), (0, .ref 170), (1, vi deep)] [vl z246, vl (s242.1 170 24), .ref 170] s242 _
                    refine wr_lor (a := s242.1 170 24) (b := z246) rfl fun z249 h250 h251 => ?_
                    show wr (n + 400) tb_M156 380 [(6, vi c6), (5, vi (s.1 175 kn)), (4, vi (s.1 174 kn)), (3, vi (s.1 170 5)), (2, vi ((kn : Int))), (0, .ref 170), (1, vi deep)] [vl z249, .ref 170] s242 _
                    refine wr_put (z := z249) rfl rfl rfl rfl (by decide) rfl (by decide) rfl h250 (fit_l _) ?_
                    show wr (n + 400) tb_M156 383 [(6, vi c6), (5, vi (s.1 175 kn)), (4, vi (s.1 174 kn)), (3, vi (s.1 170 5)), (2, vi ((kn : Int))), (0, .ref 170), (1, vi deep)] [] (up2 s242.1 170 24 z249, s242.2) _
                    have hR252 : RF (up2 s242.1 170 24 z249) := (RF_up hR241 rfl)
                    obtain ⟨s253, hs253⟩ : ∃ qq9 : rS, qq9 = (up2 s242.1 170 24 z249, s242.2) := ⟨_, rfl⟩
                    rw [← hs253]
                    have hK253 : KM s242.1 s253.1 := by rw [hs253]; exact (KM_up KM_rf (by omega))
                    have hk253 := KM_nums hC hK253
                    have hM253 : True ∧ (MB (gn y) (s242.1 170 26) → MB (gn y) (s253.1 170 26)) := by rw [hs253]; exact (show True ∧ (MB (gn y) (s242.1 170 26) → MB (gn y) (s242.1 170 26)) from ⟨trivial, id⟩)
                    have hBk253 : BX C (gn y) s242.1 s253.1 := BX_KM hC hP244 hK253 hM253
                    have hS253 : CS s242.1 s253.1 := by rw [hs253]; exact CS_rf (r := s242.1)
                    have hR253 : RF s253.1 := BX_RF hC hBk253 hR241
                    have hc253 : s253.2 = s242.2 := by rw [hs253]
                    have hm253 : s253.1 C 1 = ((w216 + 2 : Nat) : Int) := by omega
                    have hB254 : BX C (gn y) s.1 s253.1 := BX_tr hC hB244 hBk253
                    have hP254 : PI C y s253.1 := PI_BX hC hP hB254
                    have hQ254 : CS s.1 s253.1 := CS_tr hQ244 hS253
                    have hz254 : s253.2 = s.2 := hc253.trans hz244
                    have hF254 : s253.1 170 4 = s217.1 170 4 ∧ s253.1 170 5 = s217.1 170 5 ∧ s253.1 170 6 = s217.1 170 6 ∧ s253.1 170 7 = s217.1 170 7 ∧ s253.1 170 14 = s217.1 170 14 ∧ s253.1 170 16 = s217.1 170 16 ∧ s253.1 170 21 = s217.1 170 21 ∧ s253.1 C 3 = s217.1 C 3 ∧ s253.1 C 10 = s217.1 C 10 ∧ s217.1 170 5 + 0 ≤ s253.1 170 5 ∧ 0 ≤ s253.1 170 5 ∧ s253.1 170 5 ≤ s253.1 170 6 ∧ s253.1 170 6 ≤ 2000 := by omega
                    clear hF244
                    show wr (n + 400) tb_M156 383 [(6, vi c6), (5, vi (s.1 175 kn)), (4, vi (s.1 174 kn)), (3, vi (s.1 170 5)), (2, vi ((kn : Int))), (0, .ref 170), (1, vi deep)] [] s253 _
                    refine wr_n (pc2 := 386) (lv2 := [(6, vi c6), (5, vi (s.1 175 kn)), (4, vi (s.1 174 kn)), (3, vi (s.1 170 5)), (2, vi ((kn : Int))), (0, .ref 170), (1, vi deep)]) (st2 := [.ref 30, .ref 170]) 2 (fun _ _ => rfl) ?_
                    refine wr_call1 (args := [.ref 30]) (rest := []) rfl rfl rfl rfl (Nat.le_of_ble_eq_true rfl) (cr_mono (x_take (d := n + 393) isT_30 hC _ hR253 hP254) ?_)
                    rintro s256 out ⟨b, rfl, hc255, ⟨rfl, hF255⟩ | ⟨rfl, hR255, hBk255, hK255, hf255⟩⟩
                    · refine ⟨_, rfl, ?_⟩
                      show wr (n + 400) tb_M156 389 [(6, vi c6), (5, vi (s.1 175 kn)), (4, vi (s.1 174 kn)), (3, vi (s.1 170 5)), (2, vi ((kn : Int))), (0, .ref 170), (1, vi deep)] [vi 0] s256 _
                      refine wr_end (fun _ _ => rfl) ?_
                      exact ⟨0, rfl, hc255.trans hz254, Or.inl ⟨rfl, FR_tr (BX_FR hB254) hF255⟩⟩
                    · refine ⟨_, rfl, ?_⟩
                      show wr (n + 400) tb_M156 389 [(6, vi c6), (5, vi (s.1 175 kn)), (4, vi (s.1 174 kn)), (3, vi (s.1 170 5)), (2, vi ((kn : Int))), (0, .ref 170), (1, vi deep)] [vi 1] s256 _
                      obtain ⟨hu255, hk255⟩ := id hK255
                      replace hf255 : s253.1 170 5 + 1 ≤ s256.1 170 5 := hf255
                      have hm255 : s256.1 C 1 = ((w216 + 2 : Nat) : Int) := by omega
                      have hB259 : BX C (gn y) s.1 s256.1 := BX_tr hC hB254 hBk255
                      have hP259 : PI C y s256.1 := PI_BX hC hP hB259
                      have hQ259 : CS s.1 s256.1 := CS_tr hQ254 (KL_CS hK255)
                      have hz259 : s256.2 = s.2 := hc255.trans hz254
                      have hx259 := LX_nums hP259
                      have hF259 : s217.1 170 5 + 1 ≤ s256.1 170 5 ∧ s256.1 170 14 = s217.1 170 14 ∧ s256.1 170 16 = s217.1 170 16 ∧ s256.1 170 21 = s217.1 170 21 ∧ s256.1 C 3 = s217.1 C 3 ∧ s256.1 C 10 = s217.1 C 10 ∧ 0 ≤ s256.1 170 5 ∧ s256.1 170 5 ≤ s256.1 170 6 ∧ s256.1 170 6 ≤ 2000 := by omega
                      clear hk255 hf255 hx259 hF254
                      refine wr_end (fun _ _ => rfl) ?_
                      refine ⟨1, rfl, hz259, Or.inr ⟨rfl, hR255, hB259, hQ259, by unfold NXS; omega, w216 + 2, k0, hm255, by omega, ?_⟩⟩
                      intro hpar
                      exact (SG_seq (by omega) (by omega) (SG_part ((BX_code hC (BX_tr hC (BX_tr hC (BX_tr hC (BX_tr hC (BX_tr hC hBk51 hBk212) hBk216) hBk241) hBk253) hBk255) (by omega)).trans hda47) (by omega)) (SH_seq (by omega) (by omega) (SG_SH (SG_mono (by omega) (SZ_E (CS_tr (CS_tr (KC_CS hK241) hS253) (KL_CS hK255))) (SG_agr (fun p hp1 hp => (BX_code hC (BX_tr hC (BX_tr hC hBk241 hBk253) hBk255) (by omega))) (hE216 0 (by omega))))) (SH_send ((BX_code hC (BX_tr hC hBk253 hBk255) (by omega)).trans hda241) (by omega))))
    refine wr_n (pc2 := 37) (lv2 := [(5, vi (s.1 175 kn)), (4, vi (s.1 174 kn)), (3, vi (s.1 170 5)), (2, vi ((kn : Int))), (0, .ref 170), (1, vi deep)]) (st2 := [vi (s.1 174 kn)]) 1 (fun _ _ => rfl) ?_
    by_cases h260 : s.1 174 kn ≠ 0
    · refine wr_if1t rfl rfl (by unfold i32; omega) h260 ?_
      refine wr_n (pc2 := 52) (lv2 := [(5, vi (s.1 175 kn)), (4, vi (s.1 174 kn)), (3, vi (s.1 170 5)), (2, vi ((kn : Int))), (0, .ref 170), (1, vi deep)]) (st2 := [vi 1, vi (s.1 174 kn)]) 2 (fun _ _ => rfl) ?_
      by_cases h261 : s.1 174 kn ≠ 1
      · refine wr_if2t rfl rfl (by unfold i32; omega) (by unfold i32; omega) h261 ?_
        refine wr_n (pc2 := 67) (lv2 := [(5, vi (s.1 175 kn)), (4, vi (s.1 174 kn)), (3, vi (s.1 170 5)), (2, vi ((kn : Int))), (0, .ref 170), (1, vi deep)]) (st2 := [vi 5, vi (s.1 174 kn)]) 2 (fun _ _ => rfl) ?_
        by_cases h262 : s.1 174 kn ≠ 5
        · refine wr_if2t rfl rfl (by unfold i32; omega) (by unfold i32; omega) h262 ?_
          refine wr_n (pc2 := 104) (lv2 := [(5, vi (s.1 175 kn)), (4, vi (s.1 174 kn)), (3, vi (s.1 170 5)), (2, vi ((kn : Int))), (0, .ref 170), (1, vi deep)]) (st2 := [.ref 170]) 1 (fun _ _ => rfl) ?_
          refine wr_get (v := vi (s.1 170 37)) rfl rfl rfl (by decide) rfl fun h263 => ?_
          have h263 : 0 ≤ s.1 170 37 ∧ s.1 170 37 ≤ 1 := h263
          show wr (n + 400) tb_M156 107 [(5, vi (s.1 175 kn)), (4, vi (s.1 174 kn)), (3, vi (s.1 170 5)), (2, vi ((kn : Int))), (0, .ref 170), (1, vi deep)] [vi (s.1 170 37)] s _
          by_cases h264 : s.1 170 37 ≠ 0
          · refine wr_if1t rfl rfl (by unfold i32; omega) h264 ?_
            refine wr_n (pc2 := 132) (lv2 := [(5, vi (s.1 175 kn)), (4, vi (s.1 174 kn)), (3, vi (s.1 170 5)), (2, vi ((kn : Int))), (0, .ref 170), (1, vi deep)]) (st2 := [.ref 170]) 1 (fun _ _ => rfl) ?_
            refine wr_get (v := vi (s.1 170 37)) rfl rfl rfl (by decide) rfl fun h265 => ?_
            have h265 : 0 ≤ s.1 170 37 ∧ s.1 170 37 ≤ 1 := h265
            show wr (n + 400) tb_M156 135 [(5, vi (s.1 175 kn)), (4, vi (s.1 174 kn)), (3, vi (s.1 170 5)), (2, vi ((kn : Int))), (0, .ref 170), (1, vi deep)] [vi (s.1 170 37)] s _
            by_cases h266 : s.1 170 37 ≠ 0
            · refine wr_if1t rfl rfl (by unfold i32; omega) h266 ?_
              refine wr_n (pc2 := 171) (lv2 := [(6, vi 0), (5, vi (s.1 175 kn)), (4, vi (s.1 174 kn)), (3, vi (s.1 170 5)), (2, vi ((kn : Int))), (0, .ref 170), (1, vi deep)]) (st2 := []) 4 (fun _ _ => rfl) ?_
              exact j171 _ _ trivial
            · refine wr_if1f rfl rfl (by unfold i32; omega) h266 ?_
              refine wr_n (pc2 := 141) (lv2 := [(5, vi (s.1 175 kn)), (4, vi (s.1 174 kn)), (3, vi (s.1 170 5)), (2, vi ((kn : Int))), (0, .ref 170), (1, vi deep)]) (st2 := [vi 2, vi (s.1 174 kn)]) 2 (fun _ _ => rfl) ?_
              by_cases h267 : s.1 174 kn = 2
              · refine wr_if2t rfl rfl (by unfold i32; omega) (by unfold i32; omega) h267 ?_
                refine wr_n (pc2 := 153) (lv2 := [(5, vi (s.1 175 kn)), (4, vi (s.1 174 kn)), (3, vi (s.1 170 5)), (2, vi ((kn : Int))), (0, .ref 170), (1, vi deep)]) (st2 := [vi 63, .ref 170]) 2 (fun _ _ => rfl) ?_
                refine wr_call1 (args := [vi 63]) (rest := []) rfl rfl rfl rfl (Nat.le_of_ble_eq_true rfl) (cr_mono (c_isBehind (d := n + 399) (g := 63) _ hR (LX_of hP) (by unfold i32; omega)) ?_)
                rintro s271 out ⟨b268, rfl, h269, e270⟩
                refine ⟨_, rfl, ?_⟩
                rw [e270]
                show wr (n + 400) tb_M156 156 [(5, vi (s.1 175 kn)), (4, vi (s.1 174 kn)), (3, vi (s.1 170 5)), (2, vi ((kn : Int))), (0, .ref 170), (1, vi deep)] [vi b268] s _
                by_cases h272 : b268 = 0
                · refine wr_if1t rfl rfl (by unfold i32; omega) h272 ?_
                  refine wr_n (pc2 := 171) (lv2 := [(6, vi 0), (5, vi (s.1 175 kn)), (4, vi (s.1 174 kn)), (3, vi (s.1 170 5)), (2, vi ((kn : Int))), (0, .ref 170), (1, vi deep)]) (st2 := []) 4 (fun _ _ => rfl) ?_
                  exact j171 _ _ trivial
                · refine wr_if1f rfl rfl (by unfold i32; omega) h272 ?_
                  refine wr_n (pc2 := 228) (lv2 := [(6, vi 1), (5, vi (s.1 175 kn)), (4, vi (s.1 174 kn)), (3, vi (s.1 170 5)), (2, vi ((kn : Int))), (0, .ref 170), (1, vi deep)]) (st2 := [vi 5, vi (s.1 174 kn)]) 7 (fun _ _ => rfl) ?_
                  refine wr_if2t rfl rfl (by unfold i32; omega) (by unfold i32; omega) (by show s.1 174 kn ≠ 5; omega) ?_
                  show wr (n + 400) tb_M156 242 [(6, vi 1), (5, vi (s.1 175 kn)), (4, vi (s.1 174 kn)), (3, vi (s.1 170 5)), (2, vi ((kn : Int))), (0, .ref 170), (1, vi deep)] [] s _
                  refine wr_n (pc2 := 245) (lv2 := [(6, vi 1), (5, vi (s.1 175 kn)), (4, vi (s.1 174 kn)), (3, vi (s.1 170 5)), (2, vi ((kn : Int))), (0, .ref 170), (1, vi deep)]) (st2 := [vi 1, vi (s.1 174 kn)]) 2 (fun _ _ => rfl) ?_
                  refine wr_if2t rfl rfl (by unfold i32; omega) (by unfold i32; omega) (by show 1 < s.1 174 kn; omega) ?_
                  show wr (n + 400) tb_M156 302 [(6, vi 1), (5, vi (s.1 175 kn)), (4, vi (s.1 174 kn)), (3, vi (s.1 170 5)), (2, vi ((kn : Int))), (0, .ref 170), (1, vi deep)] [] s _
                  exact j302 _ (by omega)
              · refine wr_if2f rfl rfl (by unfold i32; omega) (by unfold i32; omega) h267 ?_
                refine wr_n (pc2 := 147) (lv2 := [(5, vi (s.1 175 kn)), (4, vi (s.1 174 kn)), (3, vi (s.1 170 5)), (2, vi ((kn : Int))), (0, .ref 170), (1, vi deep)]) (st2 := [vi 3, vi (s.1 174 kn)]) 2 (fun _ _ => rfl) ?_
                by_cases h273 : s.1 174 kn ≠ 3
                · refine wr_if2t rfl rfl (by unfold i32; omega) (by unfold i32; omega) h273 ?_
                  refine wr_n (pc2 := 171) (lv2 := [(6, vi 0), (5, vi (s.1 175 kn)), (4, vi (s.1 174 kn)), (3, vi (s.1 170 5)), (2, vi ((kn : Int))), (0, .ref 170), (1, vi deep)]) (st2 := []) 4 (fun _ _ => rfl) ?_
                  exact j171 _ _ trivial
                · refine wr_if2f rfl rfl (by unfold i32; omega) (by unfold i32; omega) h273 ?_
                  refine wr_n (pc2 := 153) (lv2 := [(5, vi (s.1 175 kn)), (4, vi (s.1 174 kn)), (3, vi (s.1 170 5)), (2, vi ((kn : Int))), (0, .ref 170), (1, vi deep)]) (st2 := [vi 63, .ref 170]) 2 (fun _ _ => rfl) ?_
                  refine wr_call1 (args := [vi 63]) (rest := []) rfl rfl rfl rfl (Nat.le_of_ble_eq_true rfl) (cr_mono (c_isBehind (d := n + 399) (g := 63) _ hR (LX_of hP) (by unfold i32; omega)) ?_)
                  rintro s277 out ⟨b274, rfl, h275, e276⟩
                  refine ⟨_, rfl, ?_⟩
                  rw [e276]
                  show wr (n + 400) tb_M156 156 [(5, vi (s.1 175 kn)), (4, vi (s.1 174 kn)), (3, vi (s.1 170 5)), (2, vi ((kn : Int))), (0, .ref 170), (1, vi deep)] [vi b274] s _
                  by_cases h278 : b274 = 0
                  · refine wr_if1t rfl rfl (by unfold i32; omega) h278 ?_
                    refine wr_n (pc2 := 171) (lv2 := [(6, vi 0), (5, vi (s.1 175 kn)), (4, vi (s.1 174 kn)), (3, vi (s.1 170 5)), (2, vi ((kn : Int))), (0, .ref 170), (1, vi deep)]) (st2 := []) 4 (fun _ _ => rfl) ?_
                    exact j171 _ _ trivial
                  · refine wr_if1f rfl rfl (by unfold i32; omega) h278 ?_
                    refine wr_n (pc2 := 228) (lv2 := [(6, vi 1), (5, vi (s.1 175 kn)), (4, vi (s.1 174 kn)), (3, vi (s.1 170 5)), (2, vi ((kn : Int))), (0, .ref 170), (1, vi deep)]) (st2 := [vi 5, vi (s.1 174 kn)]) 7 (fun _ _ => rfl) ?_
                    refine wr_if2t rfl rfl (by unfold i32; omega) (by unfold i32; omega) (by show s.1 174 kn ≠ 5; omega) ?_
                    show wr (n + 400) tb_M156 242 [(6, vi 1), (5, vi (s.1 175 kn)), (4, vi (s.1 174 kn)), (3, vi (s.1 170 5)), (2, vi ((kn : Int))), (0, .ref 170), (1, vi deep)] [] s _
                    refine wr_n (pc2 := 245) (lv2 := [(6, vi 1), (5, vi (s.1 175 kn)), (4, vi (s.1 174 kn)), (3, vi (s.1 170 5)), (2, vi ((kn : Int))), (0, .ref 170), (1, vi deep)]) (st2 := [vi 1, vi (s.1 174 kn)]) 2 (fun _ _ => rfl) ?_
                    refine wr_if2t rfl rfl (by unfold i32; omega) (by unfold i32; omega) (by show 1 < s.1 174 kn; omega) ?_
                    show wr (n + 400) tb_M156 302 [(6, vi 1), (5, vi (s.1 175 kn)), (4, vi (s.1 174 kn)), (3, vi (s.1 170 5)), (2, vi ((kn : Int))), (0, .ref 170), (1, vi deep)] [] s _
                    exact j302 _ (by omega)
          · refine wr_if1f rfl rfl (by unfold i32; omega) h264 ?_
            refine wr_n (pc2 := 113) (lv2 := [(5, vi (s.1 175 kn)), (4, vi (s.1 174 kn)), (3, vi (s.1 170 5)), (2, vi ((kn : Int))), (0, .ref 170), (1, vi deep)]) (st2 := [vi 2, vi (s.1 174 kn)]) 2 (fun _ _ => rfl) ?_
            by_cases h279 : s.1 174 kn = 2
            · refine wr_if2t rfl rfl (by unfold i32; omega) (by unfold i32; omega) h279 ?_
              refine wr_n (pc2 := 125) (lv2 := [(5, vi (s.1 175 kn)), (4, vi (s.1 174 kn)), (3, vi (s.1 170 5)), (2, vi ((kn : Int))), (0, .ref 170), (1, vi deep)]) (st2 := [vi 33, .ref 170]) 2 (fun _ _ => rfl) ?_
              refine wr_call1 (args := [vi 33]) (rest := []) rfl rfl rfl rfl (Nat.le_of_ble_eq_true rfl) (cr_mono (c_isBehind (d := n + 399) (g := 33) _ hR (LX_of hP) (by unfold i32; omega)) ?_)
              rintro s283 out ⟨b280, rfl, h281, e282⟩
              refine ⟨_, rfl, ?_⟩
              rw [e282]
              show wr (n + 400) tb_M156 128 [(5, vi (s.1 175 kn)), (4, vi (s.1 174 kn)), (3, vi (s.1 170 5)), (2, vi ((kn : Int))), (0, .ref 170), (1, vi deep)] [vi b280] s _
              by_cases h284 : b280 ≠ 0
              · refine wr_if1t rfl rfl (by unfold i32; omega) h284 ?_
                refine wr_n (pc2 := 228) (lv2 := [(6, vi 1), (5, vi (s.1 175 kn)), (4, vi (s.1 174 kn)), (3, vi (s.1 170 5)), (2, vi ((kn : Int))), (0, .ref 170), (1, vi deep)]) (st2 := [vi 5, vi (s.1 174 kn)]) 7 (fun _ _ => rfl) ?_
                refine wr_if2t rfl rfl (by unfold i32; omega) (by unfold i32; omega) (by show s.1 174 kn ≠ 5; omega) ?_
                show wr (n + 400) tb_M156 242 [(6, vi 1), (5, vi (s.1 175 kn)), (4, vi (s.1 174 kn)), (3, vi (s.1 170 5)), (2, vi ((kn : Int))), (0, .ref 170), (1, vi deep)] [] s _
                refine wr_n (pc2 := 245) (lv2 := [(6, vi 1), (5, vi (s.1 175 kn)), (4, vi (s.1 174 kn)), (3, vi (s.1 170 5)), (2, vi ((kn : Int))), (0, .ref 170), (1, vi deep)]) (st2 := [vi 1, vi (s.1 174 kn)]) 2 (fun _ _ => rfl) ?_
                refine wr_if2t rfl rfl (by unfold i32; omega) (by unfold i32; omega) (by show 1 < s.1 174 kn; omega) ?_
                show wr (n + 400) tb_M156 302 [(6, vi 1), (5, vi (s.1 175 kn)), (4, vi (s.1 174 kn)), (3, vi (s.1 170 5)), (2, vi ((kn : Int))), (0, .ref 170), (1, vi deep)] [] s _
                exact j302 _ (by omega)
              · refine wr_if1f rfl rfl (by unfold i32; omega) h284 ?_
                refine wr_n (pc2 := 132) (lv2 := [(5, vi (s.1 175 kn)), (4, vi (s.1 174 kn)), (3, vi (s.1 170 5)), (2, vi ((kn : Int))), (0, .ref 170), (1, vi deep)]) (st2 := [.ref 170]) 1 (fun _ _ => rfl) ?_
                refine wr_get (v := vi (s.1 170 37)) rfl rfl rfl (by decide) rfl fun h285 => ?_
                have h285 : 0 ≤ s.1 170 37 ∧ s.1 170 37 ≤ 1 := h285
                show wr (n + 400) tb_M156 135 [(5, vi (s.1 175 kn)), (4, vi (s.1 174 kn)), (3, vi (s.1 170 5)), (2, vi ((kn : Int))), (0, .ref 170), (1, vi deep)] [vi (s.1 170 37)] s _
                by_cases h286 : s.1 170 37 ≠ 0
                · refine wr_if1t rfl rfl (by unfold i32; omega) h286 ?_
                  refine wr_n (pc2 := 171) (lv2 := [(6, vi 0), (5, vi (s.1 175 kn)), (4, vi (s.1 174 kn)), (3, vi (s.1 170 5)), (2, vi ((kn : Int))), (0, .ref 170), (1, vi deep)]) (st2 := []) 4 (fun _ _ => rfl) ?_
                  exact j171 _ _ trivial
                · refine wr_if1f rfl rfl (by unfold i32; omega) h286 ?_
                  refine wr_n (pc2 := 141) (lv2 := [(5, vi (s.1 175 kn)), (4, vi (s.1 174 kn)), (3, vi (s.1 170 5)), (2, vi ((kn : Int))), (0, .ref 170), (1, vi deep)]) (st2 := [vi 2, vi (s.1 174 kn)]) 2 (fun _ _ => rfl) ?_
                  by_cases h287 : s.1 174 kn = 2
                  · refine wr_if2t rfl rfl (by unfold i32; omega) (by unfold i32; omega) h287 ?_
                    refine wr_n (pc2 := 153) (lv2 := [(5, vi (s.1 175 kn)), (4, vi (s.1 174 kn)), (3, vi (s.1 170 5)), (2, vi ((kn : Int))), (0, .ref 170), (1, vi deep)]) (st2 := [vi 63, .ref 170]) 2 (fun _ _ => rfl) ?_
                    refine wr_call1 (args := [vi 63]) (rest := []) rfl rfl rfl rfl (Nat.le_of_ble_eq_true rfl) (cr_mono (c_isBehind (d := n + 399) (g := 63) _ hR (LX_of hP) (by unfold i32; omega)) ?_)
                    rintro s291 out ⟨b288, rfl, h289, e290⟩
                    refine ⟨_, rfl, ?_⟩
                    rw [e290]
                    show wr (n + 400) tb_M156 156 [(5, vi (s.1 175 kn)), (4, vi (s.1 174 kn)), (3, vi (s.1 170 5)), (2, vi ((kn : Int))), (0, .ref 170), (1, vi deep)] [vi b288] s _
                    by_cases h292 : b288 = 0
                    · refine wr_if1t rfl rfl (by unfold i32; omega) h292 ?_
                      refine wr_n (pc2 := 171) (lv2 := [(6, vi 0), (5, vi (s.1 175 kn)), (4, vi (s.1 174 kn)), (3, vi (s.1 170 5)), (2, vi ((kn : Int))), (0, .ref 170), (1, vi deep)]) (st2 := []) 4 (fun _ _ => rfl) ?_
                      exact j171 _ _ trivial
                    · refine wr_if1f rfl rfl (by unfold i32; omega) h292 ?_
                      refine wr_n (pc2 := 228) (lv2 := [(6, vi 1), (5, vi (s.1 175 kn)), (4, vi (s.1 174 kn)), (3, vi (s.1 170 5)), (2, vi ((kn : Int))), (0, .ref 170), (1, vi deep)]) (st2 := [vi 5, vi (s.1 174 kn)]) 7 (fun _ _ => rfl) ?_
                      refine wr_if2t rfl rfl (by unfold i32; omega) (by unfold i32; omega) (by show s.1 174 kn ≠ 5; omega) ?_
                      show wr (n + 400) tb_M156 242 [(6, vi 1), (5, vi (s.1 175 kn)), (4, vi (s.1 174 kn)), (3, vi (s.1 170 5)), (2, vi ((kn : Int))), (0, .ref 170), (1, vi deep)] [] s _
                      refine wr_n (pc2 := 245) (lv2 := [(6, vi 1), (5, vi (s.1 175 kn)), (4, vi (s.1 174 kn)), (3, vi (s.1 170 5)), (2, vi ((kn : Int))), (0, .ref 170), (1, vi deep)]) (st2 := [vi 1, vi (s.1 174 kn)]) 2 (fun _ _ => rfl) ?_
                      refine wr_if2t rfl rfl (by unfold i32; omega) (by unfold i32; omega) (by show 1 < s.1 174 kn; omega) ?_
                      show wr (n + 400) tb_M156 302 [(6, vi 1), (5, vi (s.1 175 kn)), (4, vi (s.1 174 kn)), (3, vi (s.1 170 5)), (2, vi ((kn : Int))), (0, .ref 170), (1, vi deep)] [] s _
                      exact j302 _ (by omega)
                  · refine wr_if2f rfl rfl (by unfold i32; omega) (by unfold i32; omega) h287 ?_
                    refine wr_n (pc2 := 147) (lv2 := [(5, vi (s.1 175 kn)), (4, vi (s.1 174 kn)), (3, vi (s.1 170 5)), (2, vi ((kn : Int))), (0, .ref 170), (1, vi deep)]) (st2 := [vi 3, vi (s.1 174 kn)]) 2 (fun _ _ => rfl) ?_
                    by_cases h293 : s.1 174 kn ≠ 3
                    · refine wr_if2t rfl rfl (by unfold i32; omega) (by unfold i32; omega) h293 ?_
                      refine wr_n (pc2 := 171) (lv2 := [(6, vi 0), (5, vi (s.1 175 kn)), (4, vi (s.1 174 kn)), (3, vi (s.1 170 5)), (2, vi ((kn : Int))), (0, .ref 170), (1, vi deep)]) (st2 := []) 4 (fun _ _ => rfl) ?_
                      exact j171 _ _ trivial
                    · refine wr_if2f rfl rfl (by unfold i32; omega) (by unfold i32; omega) h293 ?_
                      refine wr_n (pc2 := 153) (lv2 := [(5, vi (s.1 175 kn)), (4, vi (s.1 174 kn)), (3, vi (s.1 170 5)), (2, vi ((kn : Int))), (0, .ref 170), (1, vi deep)]) (st2 := [vi 63, .ref 170]) 2 (fun _ _ => rfl) ?_
                      refine wr_call1 (args := [vi 63]) (rest := []) rfl rfl rfl rfl (Nat.le_of_ble_eq_true rfl) (cr_mono (c_isBehind (d := n + 399) (g := 63) _ hR (LX_of hP) (by unfold i32; omega)) ?_)
                      rintro s297 out ⟨b294, rfl, h295, e296⟩
                      refine ⟨_, rfl, ?_⟩
                      rw [e296]
                      show wr (n + 400) tb_M156 156 [(5, vi (s.1 175 kn)), (4, vi (s.1 174 kn)), (3, vi (s.1 170 5)), (2, vi ((kn : Int))), (0, .ref 170), (1, vi deep)] [vi b294] s _
                      by_cases h298 : b294 = 0
                      · refine wr_if1t rfl rfl (by unfold i32; omega) h298 ?_
                        refine wr_n (pc2 := 171) (lv2 := [(6, vi 0), (5, vi (s.1 175 kn)), (4, vi (s.1 174 kn)), (3, vi (s.1 170 5)), (2, vi ((kn : Int))), (0, .ref 170), (1, vi deep)]) (st2 := []) 4 (fun _ _ => rfl) ?_
                        exact j171 _ _ trivial
                      · refine wr_if1f rfl rfl (by unfold i32; omega) h298 ?_
                        refine wr_n (pc2 := 228) (lv2 := [(6, vi 1), (5, vi (s.1 175 kn)), (4, vi (s.1 174 kn)), (3, vi (s.1 170 5)), (2, vi ((kn : Int))), (0, .ref 170), (1, vi deep)]) (st2 := [vi 5, vi (s.1 174 kn)]) 7 (fun _ _ => rfl) ?_
                        refine wr_if2t rfl rfl (by unfold i32; omega) (by unfold i32; omega) (by show s.1 174 kn ≠ 5; omega) ?_
                        show wr (n + 400) tb_M156 242 [(6, vi 1), (5, vi (s.1 175 kn)), (4, vi (s.1 174 kn)), (3, vi (s.1 170 5)), (2, vi ((kn : Int))), (0, .ref 170), (1, vi deep)] [] s _
                        refine wr_n (pc2 := 245) (lv2 := [(6, vi 1), (5, vi (s.1 175 kn)), (4, vi (s.1 174 kn)), (3, vi (s.1 170 5)), (2, vi ((kn : Int))), (0, .ref 170), (1, vi deep)]) (st2 := [vi 1, vi (s.1 174 kn)]) 2 (fun _ _ => rfl) ?_
                        refine wr_if2t rfl rfl (by unfold i32; omega) (by unfold i32; omega) (by show 1 < s.1 174 kn; omega) ?_
                        show wr (n + 400) tb_M156 302 [(6, vi 1), (5, vi (s.1 175 kn)), (4, vi (s.1 174 kn)), (3, vi (s.1 170 5)), (2, vi ((kn : Int))), (0, .ref 170), (1, vi deep)] [] s _
                        exact j302 _ (by omega)
            · refine wr_if2f rfl rfl (by unfold i32; omega) (by unfold i32; omega) h279 ?_
              refine wr_n (pc2 := 119) (lv2 := [(5, vi (s.1 175 kn)), (4, vi (s.1 174 kn)), (3, vi (s.1 170 5)), (2, vi ((kn : Int))), (0, .ref 170), (1, vi deep)]) (st2 := [vi 4, vi (s.1 174 kn)]) 2 (fun _ _ => rfl) ?_
              by_cases h299 : s.1 174 kn ≠ 4
              · refine wr_if2t rfl rfl (by unfold i32; omega) (by unfold i32; omega) h299 ?_
                refine wr_n (pc2 := 132) (lv2 := [(5, vi (s.1 175 kn)), (4, vi (s.1 174 kn)), (3, vi (s.1 170 5)), (2, vi ((kn : Int))), (0, .ref 170), (1, vi deep)]) (st2 := [.ref 170]) 1 (fun _ _ => rfl) ?_
                refine wr_get (v := vi (s.1 170 37)) rfl rfl rfl (by decide) rfl fun h300 => ?_
                have h300 : 0 ≤ s.1 170 37 ∧ s.1 170 37 ≤ 1 := h300
                show wr (n + 400) tb_M156 135 [(5, vi (s.1 175 kn)), (4, vi (s.1 174 kn)), (3, vi (s.1 170 5)), (2, vi ((kn : Int))), (0, .ref 170), (1, vi deep)] [vi (s.1 170 37)] s _
                by_cases h301 : s.1 170 37 ≠ 0
                · refine wr_if1t rfl rfl (by unfold i32; omega) h301 ?_
                  refine wr_n (pc2 := 171) (lv2 := [(6, vi 0), (5, vi (s.1 175 kn)), (4, vi (s.1 174 kn)), (3, vi (s.1 170 5)), (2, vi ((kn : Int))), (0, .ref 170), (1, vi deep)]) (st2 := []) 4 (fun _ _ => rfl) ?_
                  exact j171 _ _ trivial
                · refine wr_if1f rfl rfl (by unfold i32; omega) h301 ?_
                  refine wr_n (pc2 := 141) (lv2 := [(5, vi (s.1 175 kn)), (4, vi (s.1 174 kn)), (3, vi (s.1 170 5)), (2, vi ((kn : Int))), (0, .ref 170), (1, vi deep)]) (st2 := [vi 2, vi (s.1 174 kn)]) 2 (fun _ _ => rfl) ?_
                  by_cases h302 : s.1 174 kn = 2
                  · refine wr_if2t rfl rfl (by unfold i32; omega) (by unfold i32; omega) h302 ?_
                    refine wr_n (pc2 := 153) (lv2 := [(5, vi (s.1 175 kn)), (4, vi (s.1 174 kn)), (3, vi (s.1 170 5)), (2, vi ((kn : Int))), (0, .ref 170), (1, vi deep)]) (st2 := [vi 63, .ref 170]) 2 (fun _ _ => rfl) ?_
                    refine wr_call1 (args := [vi 63]) (rest := []) rfl rfl rfl rfl (Nat.le_of_ble_eq_true rfl) (cr_mono (c_isBehind (d := n + 399) (g := 63) _ hR (LX_of hP) (by unfold i32; omega)) ?_)
                    rintro s306 out ⟨b303, rfl, h304, e305⟩
                    refine ⟨_, rfl, ?_⟩
                    rw [e305]
                    show wr (n + 400) tb_M156 156 [(5, vi (s.1 175 kn)), (4, vi (s.1 174 kn)), (3, vi (s.1 170 5)), (2, vi ((kn : Int))), (0, .ref 170), (1, vi deep)] [vi b303] s _
                    by_cases h307 : b303 = 0
                    · refine wr_if1t rfl rfl (by unfold i32; omega) h307 ?_
                      refine wr_n (pc2 := 171) (lv2 := [(6, vi 0), (5, vi (s.1 175 kn)), (4, vi (s.1 174 kn)), (3, vi (s.1 170 5)), (2, vi ((kn : Int))), (0, .ref 170), (1, vi deep)]) (st2 := []) 4 (fun _ _ => rfl) ?_
                      exact j171 _ _ trivial
                    · refine wr_if1f rfl rfl (by unfold i32; omega) h307 ?_
                      refine wr_n (pc2 := 228) (lv2 := [(6, vi 1), (5, vi (s.1 175 kn)), (4, vi (s.1 174 kn)), (3, vi (s.1 170 5)), (2, vi ((kn : Int))), (0, .ref 170), (1, vi deep)]) (st2 := [vi 5, vi (s.1 174 kn)]) 7 (fun _ _ => rfl) ?_
                      refine wr_if2t rfl rfl (by unfold i32; omega) (by unfold i32; omega) (by show s.1 174 kn ≠ 5; omega) ?_
                      show wr (n + 400) tb_M156 242 [(6, vi 1), (5, vi (s.1 175 kn)), (4, vi (s.1 174 kn)), (3, vi (s.1 170 5)), (2, vi ((kn : Int))), (0, .ref 170), (1, vi deep)] [] s _
                      refine wr_n (pc2 := 245) (lv2 := [(6, vi 1), (5, vi (s.1 175 kn)), (4, vi (s.1 174 kn)), (3, vi (s.1 170 5)), (2, vi ((kn : Int))), (0, .ref 170), (1, vi deep)]) (st2 := [vi 1, vi (s.1 174 kn)]) 2 (fun _ _ => rfl) ?_
                      refine wr_if2t rfl rfl (by unfold i32; omega) (by unfold i32; omega) (by show 1 < s.1 174 kn; omega) ?_
                      show wr (n + 400) tb_M156 302 [(6, vi 1), (5, vi (s.1 175 kn)), (4, vi (s.1 174 kn)), (3, vi (s.1 170 5)), (2, vi ((kn : Int))), (0, .ref 170), (1, vi deep)] [] s _
                      exact j302 _ (by omega)
                  · refine wr_if2f rfl rfl (by unfold i32; omega) (by unfold i32; omega) h302 ?_
                    refine wr_n (pc2 := 147) (lv2 := [(5, vi (s.1 175 kn)), (4, vi (s.1 174 kn)), (3, vi (s.1 170 5)), (2, vi ((kn : Int))), (0, .ref 170), (1, vi deep)]) (st2 := [vi 3, vi (s.1 174 kn)]) 2 (fun _ _ => rfl) ?_
                    by_cases h308 : s.1 174 kn ≠ 3
                    · refine wr_if2t rfl rfl (by unfold i32; omega) (by unfold i32; omega) h308 ?_
                      refine wr_n (pc2 := 171) (lv2 := [(6, vi 0), (5, vi (s.1 175 kn)), (4, vi (s.1 174 kn)), (3, vi (s.1 170 5)), (2, vi ((kn : Int))), (0, .ref 170), (1, vi deep)]) (st2 := []) 4 (fun _ _ => rfl) ?_
                      exact j171 _ _ trivial
                    · refine wr_if2f rfl rfl (by unfold i32; omega) (by unfold i32; omega) h308 ?_
                      refine wr_n (pc2 := 153) (lv2 := [(5, vi (s.1 175 kn)), (4, vi (s.1 174 kn)), (3, vi (s.1 170 5)), (2, vi ((kn : Int))), (0, .ref 170), (1, vi deep)]) (st2 := [vi 63, .ref 170]) 2 (fun _ _ => rfl) ?_
                      refine wr_call1 (args := [vi 63]) (rest := []) rfl rfl rfl rfl (Nat.le_of_ble_eq_true rfl) (cr_mono (c_isBehind (d := n + 399) (g := 63) _ hR (LX_of hP) (by unfold i32; omega)) ?_)
                      rintro s312 out ⟨b309, rfl, h310, e311⟩
                      refine ⟨_, rfl, ?_⟩
                      rw [e311]
                      show wr (n + 400) tb_M156 156 [(5, vi (s.1 175 kn)), (4, vi (s.1 174 kn)), (3, vi (s.1 170 5)), (2, vi ((kn : Int))), (0, .ref 170), (1, vi deep)] [vi b309] s _
                      by_cases h313 : b309 = 0
                      · refine wr_if1t rfl rfl (by unfold i32; omega) h313 ?_
                        refine wr_n (pc2 := 171) (lv2 := [(6, vi 0), (5, vi (s.1 175 kn)), (4, vi (s.1 174 kn)), (3, vi (s.1 170 5)), (2, vi ((kn : Int))), (0, .ref 170), (1, vi deep)]) (st2 := []) 4 (fun _ _ => rfl) ?_
                        exact j171 _ _ trivial
                      · refine wr_if1f rfl rfl (by unfold i32; omega) h313 ?_
                        refine wr_n (pc2 := 228) (lv2 := [(6, vi 1), (5, vi (s.1 175 kn)), (4, vi (s.1 174 kn)), (3, vi (s.1 170 5)), (2, vi ((kn : Int))), (0, .ref 170), (1, vi deep)]) (st2 := [vi 5, vi (s.1 174 kn)]) 7 (fun _ _ => rfl) ?_
                        refine wr_if2t rfl rfl (by unfold i32; omega) (by unfold i32; omega) (by show s.1 174 kn ≠ 5; omega) ?_
                        show wr (n + 400) tb_M156 242 [(6, vi 1), (5, vi (s.1 175 kn)), (4, vi (s.1 174 kn)), (3, vi (s.1 170 5)), (2, vi ((kn : Int))), (0, .ref 170), (1, vi deep)] [] s _
                        refine wr_n (pc2 := 245) (lv2 := [(6, vi 1), (5, vi (s.1 175 kn)), (4, vi (s.1 174 kn)), (3, vi (s.1 170 5)), (2, vi ((kn : Int))), (0, .ref 170), (1, vi deep)]) (st2 := [vi 1, vi (s.1 174 kn)]) 2 (fun _ _ => rfl) ?_
                        refine wr_if2t rfl rfl (by unfold i32; omega) (by unfold i32; omega) (by show 1 < s.1 174 kn; omega) ?_
                        show wr (n + 400) tb_M156 302 [(6, vi 1), (5, vi (s.1 175 kn)), (4, vi (s.1 174 kn)), (3, vi (s.1 170 5)), (2, vi ((kn : Int))), (0, .ref 170), (1, vi deep)] [] s _
                        exact j302 _ (by omega)
              · refine wr_if2f rfl rfl (by unfold i32; omega) (by unfold i32; omega) h299 ?_
                refine wr_n (pc2 := 125) (lv2 := [(5, vi (s.1 175 kn)), (4, vi (s.1 174 kn)), (3, vi (s.1 170 5)), (2, vi ((kn : Int))), (0, .ref 170), (1, vi deep)]) (st2 := [vi 33, .ref 170]) 2 (fun _ _ => rfl) ?_
                refine wr_call1 (args := [vi 33]) (rest := []) rfl rfl rfl rfl (Nat.le_of_ble_eq_true rfl) (cr_mono (c_isBehind (d := n + 399) (g := 33) _ hR (LX_of hP) (by unfold i32; omega)) ?_)
                rintro s317 out ⟨b314, rfl, h315, e316⟩
                refine ⟨_, rfl, ?_⟩
                rw [e316]
                show wr (n + 400) tb_M156 128 [(5, vi (s.1 175 kn)), (4, vi (s.1 174 kn)), (3, vi (s.1 170 5)), (2, vi ((kn : Int))), (0, .ref 170), (1, vi deep)] [vi b314] s _
                by_cases h318 : b314 ≠ 0
                · refine wr_if1t rfl rfl (by unfold i32; omega) h318 ?_
                  refine wr_n (pc2 := 228) (lv2 := [(6, vi 1), (5, vi (s.1 175 kn)), (4, vi (s.1 174 kn)), (3, vi (s.1 170 5)), (2, vi ((kn : Int))), (0, .ref 170), (1, vi deep)]) (st2 := [vi 5, vi (s.1 174 kn)]) 7 (fun _ _ => rfl) ?_
                  refine wr_if2t rfl rfl (by unfold i32; omega) (by unfold i32; omega) (by show s.1 174 kn ≠ 5; omega) ?_
                  show wr (n + 400) tb_M156 242 [(6, vi 1), (5, vi (s.1 175 kn)), (4, vi (s.1 174 kn)), (3, vi (s.1 170 5)), (2, vi ((kn : Int))), (0, .ref 170), (1, vi deep)] [] s _
                  refine wr_n (pc2 := 245) (lv2 := [(6, vi 1), (5, vi (s.1 175 kn)), (4, vi (s.1 174 kn)), (3, vi (s.1 170 5)), (2, vi ((kn : Int))), (0, .ref 170), (1, vi deep)]) (st2 := [vi 1, vi (s.1 174 kn)]) 2 (fun _ _ => rfl) ?_
                  refine wr_if2t rfl rfl (by unfold i32; omega) (by unfold i32; omega) (by show 1 < s.1 174 kn; omega) ?_
                  show wr (n + 400) tb_M156 302 [(6, vi 1), (5, vi (s.1 175 kn)), (4, vi (s.1 174 kn)), (3, vi (s.1 170 5)), (2, vi ((kn : Int))), (0, .ref 170), (1, vi deep)] [] s _
                  exact j302 _ (by omega)
                · refine wr_if1f rfl rfl (by unfold i32; omega) h318 ?_
                  refine wr_n (pc2 := 132) (lv2 := [(5, vi (s.1 175 kn)), (4, vi (s.1 174 kn)), (3, vi (s.1 170 5)), (2, vi ((kn : Int))), (0, .ref 170), (1, vi deep)]) (st2 := [.ref 170]) 1 (fun _ _ => rfl) ?_
                  refine wr_get (v := vi (s.1 170 37)) rfl rfl rfl (by decide) rfl fun h319 => ?_
                  have h319 : 0 ≤ s.1 170 37 ∧ s.1 170 37 ≤ 1 := h319
                  show wr (n + 400) tb_M156 135 [(5, vi (s.1 175 kn)), (4, vi (s.1 174 kn)), (3, vi (s.1 170 5)), (2, vi ((kn : Int))), (0, .ref 170), (1, vi deep)] [vi (s.1 170 37)] s _
                  by_cases h320 : s.1 170 37 ≠ 0
                  · refine wr_if1t rfl rfl (by unfold i32; omega) h320 ?_
                    refine wr_n (pc2 := 171) (lv2 := [(6, vi 0), (5, vi (s.1 175 kn)), (4, vi (s.1 174 kn)), (3, vi (s.1 170 5)), (2, vi ((kn : Int))), (0, .ref 170), (1, vi deep)]) (st2 := []) 4 (fun _ _ => rfl) ?_
                    exact j171 _ _ trivial
                  · refine wr_if1f rfl rfl (by unfold i32; omega) h320 ?_
                    refine wr_n (pc2 := 141) (lv2 := [(5, vi (s.1 175 kn)), (4, vi (s.1 174 kn)), (3, vi (s.1 170 5)), (2, vi ((kn : Int))), (0, .ref 170), (1, vi deep)]) (st2 := [vi 2, vi (s.1 174 kn)]) 2 (fun _ _ => rfl) ?_
                    by_cases h321 : s.1 174 kn = 2
                    · refine wr_if2t rfl rfl (by unfold i32; omega) (by unfold i32; omega) h321 ?_
                      refine wr_n (pc2 := 153) (lv2 := [(5, vi (s.1 175 kn)), (4, vi (s.1 174 kn)), (3, vi (s.1 170 5)), (2, vi ((kn : Int))), (0, .ref 170), (1, vi deep)]) (st2 := [vi 63, .ref 170]) 2 (fun _ _ => rfl) ?_
                      refine wr_call1 (args := [vi 63]) (rest := []) rfl rfl rfl rfl (Nat.le_of_ble_eq_true rfl) (cr_mono (c_isBehind (d := n + 399) (g := 63) _ hR (LX_of hP) (by unfold i32; omega)) ?_)
                      rintro s325 out ⟨b322, rfl, h323, e324⟩
                      refine ⟨_, rfl, ?_⟩
                      rw [e324]
                      show wr (n + 400) tb_M156 156 [(5, vi (s.1 175 kn)), (4, vi (s.1 174 kn)), (3, vi (s.1 170 5)), (2, vi ((kn : Int))), (0, .ref 170), (1, vi deep)] [vi b322] s _
                      by_cases h326 : b322 = 0
                      · refine wr_if1t rfl rfl (by unfold i32; omega) h326 ?_
                        refine wr_n (pc2 := 171) (lv2 := [(6, vi 0), (5, vi (s.1 175 kn)), (4, vi (s.1 174 kn)), (3, vi (s.1 170 5)), (2, vi ((kn : Int))), (0, .ref 170), (1, vi deep)]) (st2 := []) 4 (fun _ _ => rfl) ?_
                        exact j171 _ _ trivial
                      · refine wr_if1f rfl rfl (by unfold i32; omega) h326 ?_
                        refine wr_n (pc2 := 228) (lv2 := [(6, vi 1), (5, vi (s.1 175 kn)), (4, vi (s.1 174 kn)), (3, vi (s.1 170 5)), (2, vi ((kn : Int))), (0, .ref 170), (1, vi deep)]) (st2 := [vi 5, vi (s.1 174 kn)]) 7 (fun _ _ => rfl) ?_
                        refine wr_if2t rfl rfl (by unfold i32; omega) (by unfold i32; omega) (by show s.1 174 kn ≠ 5; omega) ?_
                        show wr (n + 400) tb_M156 242 [(6, vi 1), (5, vi (s.1 175 kn)), (4, vi (s.1 174 kn)), (3, vi (s.1 170 5)), (2, vi ((kn : Int))), (0, .ref 170), (1, vi deep)] [] s _
                        refine wr_n (pc2 := 245) (lv2 := [(6, vi 1), (5, vi (s.1 175 kn)), (4, vi (s.1 174 kn)), (3, vi (s.1 170 5)), (2, vi ((kn : Int))), (0, .ref 170), (1, vi deep)]) (st2 := [vi 1, vi (s.1 174 kn)]) 2 (fun _ _ => rfl) ?_
                        refine wr_if2t rfl rfl (by unfold i32; omega) (by unfold i32; omega) (by show 1 < s.1 174 kn; omega) ?_
                        show wr (n + 400) tb_M156 302 [(6, vi 1), (5, vi (s.1 175 kn)), (4, vi (s.1 174 kn)), (3, vi (s.1 170 5)), (2, vi ((kn : Int))), (0, .ref 170), (1, vi deep)] [] s _
                        exact j302 _ (by omega)
                    · refine wr_if2f rfl rfl (by unfold i32; omega) (by unfold i32; omega) h321 ?_
                      refine wr_n (pc2 := 147) (lv2 := [(5, vi (s.1 175 kn)), (4, vi (s.1 174 kn)), (3, vi (s.1 170 5)), (2, vi ((kn : Int))), (0, .ref 170), (1, vi deep)]) (st2 := [vi 3, vi (s.1 174 kn)]) 2 (fun _ _ => rfl) ?_
                      by_cases h327 : s.1 174 kn ≠ 3
                      · refine wr_if2t rfl rfl (by unfold i32; omega) (by unfold i32; omega) h327 ?_
                        refine wr_n (pc2 := 171) (lv2 := [(6, vi 0), (5, vi (s.1 175 kn)), (4, vi (s.1 174 kn)), (3, vi (s.1 170 5)), (2, vi ((kn : Int))), (0, .ref 170), (1, vi deep)]) (st2 := []) 4 (fun _ _ => rfl) ?_
                        exact j171 _ _ trivial
                      · refine wr_if2f rfl rfl (by unfold i32; omega) (by unfold i32; omega) h327 ?_
                        refine wr_n (pc2 := 153) (lv2 := [(5, vi (s.1 175 kn)), (4, vi (s.1 174 kn)), (3, vi (s.1 170 5)), (2, vi ((kn : Int))), (0, .ref 170), (1, vi deep)]) (st2 := [vi 63, .ref 170]) 2 (fun _ _ => rfl) ?_
                        refine wr_call1 (args := [vi 63]) (rest := []) rfl rfl rfl rfl (Nat.le_of_ble_eq_true rfl) (cr_mono (c_isBehind (d := n + 399) (g := 63) _ hR (LX_of hP) (by unfold i32; omega)) ?_)
                        rintro s331 out ⟨b328, rfl, h329, e330⟩
                        refine ⟨_, rfl, ?_⟩
                        rw [e330]
                        show wr (n + 400) tb_M156 156 [(5, vi (s.1 175 kn)), (4, vi (s.1 174 kn)), (3, vi (s.1 170 5)), (2, vi ((kn : Int))), (0, .ref 170), (1, vi deep)] [vi b328] s _
                        by_cases h332 : b328 = 0
                        · refine wr_if1t rfl rfl (by unfold i32; omega) h332 ?_
                          refine wr_n (pc2 := 171) (lv2 := [(6, vi 0), (5, vi (s.1 175 kn)), (4, vi (s.1 174 kn)), (3, vi (s.1 170 5)), (2, vi ((kn : Int))), (0, .ref 170), (1, vi deep)]) (st2 := []) 4 (fun _ _ => rfl) ?_
                          exact j171 _ _ trivial
                        · refine wr_if1f rfl rfl (by unfold i32; omega) h332 ?_
                          refine wr_n (pc2 := 228) (lv2 := [(6, vi 1), (5, vi (s.1 175 kn)), (4, vi (s.1 174 kn)), (3, vi (s.1 170 5)), (2, vi ((kn : Int))), (0, .ref 170), (1, vi deep)]) (st2 := [vi 5, vi (s.1 174 kn)]) 7 (fun _ _ => rfl) ?_
                          refine wr_if2t rfl rfl (by unfold i32; omega) (by unfold i32; omega) (by show s.1 174 kn ≠ 5; omega) ?_
                          show wr (n + 400) tb_M156 242 [(6, vi 1), (5, vi (s.1 175 kn)), (4, vi (s.1 174 kn)), (3, vi (s.1 170 5)), (2, vi ((kn : Int))), (0, .ref 170), (1, vi deep)] [] s _
                          refine wr_n (pc2 := 245) (lv2 := [(6, vi 1), (5, vi (s.1 175 kn)), (4, vi (s.1 174 kn)), (3, vi (s.1 170 5)), (2, vi ((kn : Int))), (0, .ref 170), (1, vi deep)]) (st2 := [vi 1, vi (s.1 174 kn)]) 2 (fun _ _ => rfl) ?_
                          refine wr_if2t rfl rfl (by unfold i32; omega) (by unfold i32; omega) (by show 1 < s.1 174 kn; omega) ?_
                          show wr (n + 400) tb_M156 302 [(6, vi 1), (5, vi (s.1 175 kn)), (4, vi (s.1 174 kn)), (3, vi (s.1 170 5)), (2, vi ((kn : Int))), (0, .ref 170), (1, vi deep)] [] s _
                          exact j302 _ (by omega)
        · refine wr_if2f rfl rfl (by unfold i32; omega) (by unfold i32; omega) h262 ?_
          have hwk : s.1 174 kn = 5 := by omega
          rw [hwk]
          show wr (n + 400) tb_M156 70 [(5, vi (s.1 175 kn)), (4, vi 5), (3, vi (s.1 170 5)), (2, vi ((kn : Int))), (0, .ref 170), (1, vi deep)] [] s _
          refine wr_n (pc2 := 73) (lv2 := [(5, vi (s.1 175 kn)), (4, vi 5), (3, vi (s.1 170 5)), (2, vi ((kn : Int))), (0, .ref 170), (1, vi deep)]) (st2 := [vi 40, .ref 170]) 2 (fun _ _ => rfl) ?_
          refine wr_call1 (args := [vi 40]) (rest := []) rfl rfl rfl rfl (Nat.le_of_ble_eq_true rfl) (cr_mono (c_isBehind (d := n + 399) (g := 40) _ hR (LX_of hP) (by unfold i32; omega)) ?_)
          rintro s336 out ⟨b333, rfl, h334, e335⟩
          refine ⟨_, rfl, ?_⟩
          rw [e335]
          show wr (n + 400) tb_M156 76 [(5, vi (s.1 175 kn)), (4, vi 5), (3, vi (s.1 170 5)), (2, vi ((kn : Int))), (0, .ref 170), (1, vi deep)] [vi b333] s _
          by_cases h337 : b333 = 0
          · refine wr_if1t rfl rfl (by unfold i32; omega) h337 ?_
            refine wr_n (pc2 := 171) (lv2 := [(6, vi 0), (5, vi (s.1 175 kn)), (4, vi 5), (3, vi (s.1 170 5)), (2, vi ((kn : Int))), (0, .ref 170), (1, vi deep)]) (st2 := []) 5 (fun _ _ => rfl) ?_
            exact j171 _ _ trivial
          · refine wr_if1f rfl rfl (by unfold i32; omega) h337 ?_
            refine wr_n (pc2 := 80) (lv2 := [(5, vi (s.1 175 kn)), (4, vi 5), (3, vi (s.1 170 5)), (2, vi ((kn : Int))), (0, .ref 170), (1, vi deep)]) (st2 := [.ref 170]) 1 (fun _ _ => rfl) ?_
            refine wr_get (v := vi (s.1 170 37)) rfl rfl rfl (by decide) rfl fun h338 => ?_
            have h338 : 0 ≤ s.1 170 37 ∧ s.1 170 37 ≤ 1 := h338
            show wr (n + 400) tb_M156 83 [(5, vi (s.1 175 kn)), (4, vi 5), (3, vi (s.1 170 5)), (2, vi ((kn : Int))), (0, .ref 170), (1, vi deep)] [vi (s.1 170 37)] s _
            by_cases h339 : s.1 170 37 ≠ 0
            · refine wr_if1t rfl rfl (by unfold i32; omega) h339 ?_
              refine wr_n (pc2 := 171) (lv2 := [(6, vi 0), (5, vi (s.1 175 kn)), (4, vi 5), (3, vi (s.1 170 5)), (2, vi ((kn : Int))), (0, .ref 170), (1, vi deep)]) (st2 := []) 5 (fun _ _ => rfl) ?_
              exact j171 _ _ trivial
            · refine wr_if1f rfl rfl (by unfold i32; omega) h339 ?_
              refine wr_n (pc2 := 89) (lv2 := [(5, vi (s.1 175 kn)), (4, vi 5), (3, vi (s.1 170 5)), (2, vi ((kn : Int))), (0, .ref 170), (1, vi deep)]) (st2 := [.ref 170, vi (s.1 175 kn)]) 2 (fun _ _ => rfl) ?_
              refine wr_get (v := vi (s.1 170 35)) rfl rfl rfl (by decide) rfl fun h340 => ?_
              have h340 : -2147483648 ≤ s.1 170 35 ∧ s.1 170 35 ≤ 2147483647 := h340
              show wr (n + 400) tb_M156 92 [(5, vi (s.1 175 kn)), (4, vi 5), (3, vi (s.1 170 5)), (2, vi ((kn : Int))), (0, .ref 170), (1, vi deep)] [vi (s.1 170 35), vi (s.1 175 kn)] s _
              by_cases h341 : s.1 175 kn = s.1 170 35
              · refine wr_if2t rfl rfl (by unfold i32; omega) (by unfold i32; omega) h341 ?_
                refine wr_n (pc2 := 171) (lv2 := [(6, vi 0), (5, vi (s.1 175 kn)), (4, vi 5), (3, vi (s.1 170 5)), (2, vi ((kn : Int))), (0, .ref 170), (1, vi deep)]) (st2 := []) 5 (fun _ _ => rfl) ?_
                exact j171 _ _ trivial
              · refine wr_if2f rfl rfl (by unfold i32; omega) (by unfold i32; omega) h341 ?_
                refine wr_n (pc2 := 231) (lv2 := [(6, vi 1), (5, vi (s.1 175 kn)), (4, vi 5), (3, vi (s.1 170 5)), (2, vi ((kn : Int))), (0, .ref 170), (1, vi deep)]) (st2 := []) 8 (fun _ _ => rfl) ?_
                obtain ⟨i, hi1, hi2, hi3⟩ := N_proc hP (k := kn) (by omega) (by omega) (by omega)
                refine wr_n (pc2 := 236) (lv2 := [(6, vi 1), (5, vi (s.1 175 kn)), (4, vi 5), (3, vi (s.1 170 5)), (2, vi ((kn : Int))), (0, .ref 170), (1, vi deep)]) (st2 := [vi 1, vi deep, vi (s.1 170 5), vi ((kn : Int)), .ref 170]) 5 (fun _ _ => rfl) ?_
                refine wr_add (a := deep) (b := 1) rfl ?_
                show wr (n + 400) tb_M156 237 [(6, vi 1), (5, vi (s.1 175 kn)), (4, vi 5), (3, vi (s.1 170 5)), (2, vi ((kn : Int))), (0, .ref 170), (1, vi deep)] [vi (deep + 1), vi (s.1 170 5), vi ((kn : Int)), .ref 170] s _
                refine wr_n (pc2 := 238) (lv2 := [(6, vi 1), (5, vi (s.1 175 kn)), (4, vi 5), (3, vi (s.1 170 5)), (2, vi ((kn : Int))), (0, .ref 170), (1, vi deep)]) (st2 := [vi 0, vi (deep + 1), vi (s.1 170 5), vi ((kn : Int)), .ref 170]) 1 (fun _ _ => rfl) ?_
                refine wr_call1 (args := [vi ((kn : Int)), vi (s.1 170 5), vi (deep + 1), vi 0]) (rest := []) rfl rfl rfl rfl (Nat.le_of_ble_eq_true rfl) (cr_mono ((cr_up (d := 360) (by omega) (hCa C y m _ kn i (s.1 170 5) (deep + 1) 0 hC hR hP (BX_mb (PI_rf hP) hMB) hm (by unfold NE; omega) ⟨by omega, hi1, by omega, by omega, by unfold i32; omega, by omega⟩))) ?_)
                rintro s343 out ⟨b, rfl, hc342, ⟨rfl, hF342⟩ | ⟨rfl, hR342, hBk342, hS342, hN342, hV342, w342, hm342, hE342⟩⟩
                · refine ⟨_, rfl, ?_⟩
                  show wr (n + 400) tb_M156 241 [(6, vi 1), (5, vi (s.1 175 kn)), (4, vi 5), (3, vi (s.1 170 5)), (2, vi ((kn : Int))), (0, .ref 170), (1, vi deep)] [vi 0] s343 _
                  refine wr_end (fun _ _ => rfl) ?_
                  exact ⟨0, rfl, hc342.trans rfl, Or.inl ⟨rfl, FR_tr (BX_FR (PI_rf hP)) hF342⟩⟩
                · refine ⟨_, rfl, ?_⟩
                  show wr (n + 400) tb_M156 241 [(6, vi 1), (5, vi (s.1 175 kn)), (4, vi 5), (3, vi (s.1 170 5)), (2, vi ((kn : Int))), (0, .ref 170), (1, vi deep)] [vi 1] s343 _
                  unfold NXE at hN342
                  have hB346 : BX C (gn y) s.1 s343.1 := BX_tr hC (PI_rf hP) hBk342
                  have hP346 : PI C y s343.1 := PI_BX hC hP hB346
                  have hQ346 : CS s.1 s343.1 := CS_tr (CS_rf (r := s.1)) hS342
                  have hz346 : s343.2 = s.2 := hc342.trans rfl
                  have hF346 := LX_nums hP346
                  refine wr_end (fun _ _ => rfl) ?_
                  have hq9 : fk (gd y i) - 2 = 0 := by omega
                  refine ⟨1, rfl, hz346, Or.inr ⟨rfl, hR342, hB346, hQ346, by unfold NXS; omega, w342, k0, hm342, by omega, ?_⟩⟩
                  intro hpar
                  exact (SG_mono (by omega) (SZ_E (CS_rf (r := s343.1))) (hq9 ▸ hE342 0 (by omega)))
      · refine wr_if2f rfl rfl (by unfold i32; omega) (by unfold i32; omega) h261 ?_
        have hwk : s.1 174 kn = 1 := by omega
        rw [hwk]
        show wr (n + 400) tb_M156 55 [(5, vi (s.1 175 kn)), (4, vi 1), (3, vi (s.1 170 5)), (2, vi ((kn : Int))), (0, .ref 170), (1, vi deep)] [] s _
        have hq5 := N_arr hP (k := kn) (by omega) (by omega)
        refine wr_n (pc2 := 58) (lv2 := [(5, vi (s.1 175 kn)), (4, vi 1), (3, vi (s.1 170 5)), (2, vi ((kn : Int))), (0, .ref 170), (1, vi deep)]) (st2 := [vi 91, .ref 170]) 2 (fun _ _ => rfl) ?_
        refine wr_call1 (args := [vi 91]) (rest := []) rfl rfl rfl rfl (Nat.le_of_ble_eq_true rfl) (cr_mono (c_isBehind (d := n + 399) (g := 91) _ hR (LX_of hP) (by unfold i32; omega)) ?_)
        rintro s350 out ⟨b347, rfl, h348, e349⟩
        refine ⟨_, rfl, ?_⟩
        rw [e349]
        show wr (n + 400) tb_M156 61 [(5, vi (s.1 175 kn)), (4, vi 1), (3, vi (s.1 170 5)), (2, vi ((kn : Int))), (0, .ref 170), (1, vi deep)] [vi b347] s _
        refine wr_n (pc2 := 168) (lv2 := [(6, vi b347), (5, vi (s.1 175 kn)), (4, vi 1), (3, vi (s.1 170 5)), (2, vi ((kn : Int))), (0, .ref 170), (1, vi deep)]) (st2 := [vi b347]) 3 (fun _ _ => rfl) ?_
        by_cases h351 : b347 ≠ 0
        · refine wr_if1t rfl rfl (by unfold i32; omega) h351 ?_
          refine wr_n (pc2 := 249) (lv2 := [(6, vi b347), (5, vi (s.1 175 kn)), (4, vi 1), (3, vi (s.1 170 5)), (2, vi ((kn : Int))), (0, .ref 170), (1, vi deep)]) (st2 := [.ref 170]) 7 (fun _ _ => rfl) ?_
          refine wr_call1 (args := []) (rest := []) rfl rfl rfl rfl (Nat.le_of_ble_eq_true rfl) (cr_mono (x_part (d := n + 398) (m := m) hC _ hR hP hm (by omega) (by omega)) ?_)
          rintro s353 out ⟨rfl, hc352, hR352, hBk352, hK352, hm352, hp352, hda352⟩
          · refine ⟨_, rfl, ?_⟩
            show wr (n + 400) tb_M156 252 [(6, vi b347), (5, vi (s.1 175 kn)), (4, vi 1), (3, vi (s.1 170 5)), (2, vi ((kn : Int))), (0, .ref 170), (1, vi deep)] [] s353 _
            obtain ⟨hu352, hk352⟩ := id hK352
            have hB355 : BX C (gn y) s.1 s353.1 := BX_tr hC (PI_rf hP) hBk352
            have hP355 : PI C y s353.1 := PI_BX hC hP hB355
            have hQ355 : CS s.1 s353.1 := CS_tr (CS_rf (r := s.1)) (KC_CS hK352)
            have hz355 : s353.2 = s.2 := hc352.trans rfl
            have hF355 : s353.1 170 4 = s.1 170 4 ∧ s353.1 170 5 = s.1 170 5 ∧ s353.1 170 6 = s.1 170 6 ∧ s353.1 170 7 = s.1 170 7 ∧ s353.1 170 14 = s.1 170 14 ∧ s353.1 170 16 = s.1 170 16 ∧ s353.1 170 21 = s.1 170 21 ∧ s353.1 C 3 = s.1 C 3 + 1 ∧ s353.1 C 10 = s.1 C 10 ∧ s.1 170 5 + 0 ≤ s353.1 170 5 ∧ 0 ≤ s353.1 170 5 ∧ s353.1 170 5 ≤ s353.1 170 6 ∧ s353.1 170 6 ≤ 2000 := by omega
            clear hk352 hp352
            have hw356 : s353.1 174 kn = s.1 174 kn := hB355.1 174 kn (by unfold SS; omega)
            refine wr_n (pc2 := 256) (lv2 := [(6, vi b347), (5, vi (s.1 175 kn)), (4, vi 1), (3, vi (s.1 170 5)), (2, vi ((kn : Int))), (0, .ref 170), (1, vi deep)]) (st2 := [vi deep, vi (s.1 170 5), vi ((kn : Int)), .ref 170]) 4 (fun _ _ => rfl) ?_
            refine wr_call1 (args := [vi ((kn : Int)), vi (s.1 170 5), vi deep]) (rest := []) rfl rfl rfl rfl (Nat.le_of_ble_eq_true rfl) (cr_mono ((hTg (n + 20) C y (m + 1) _ kn 1 (s.1 170 5) deep hC hR352 hP355 (BX_mb hB355 hMB) hm352 (by omega) ⟨by omega, by omega, by omega, by omega, by unfold i32; omega, by omega⟩)) ?_)
            rintro s358 out ⟨b, rfl, hc357, ⟨rfl, hF357⟩ | ⟨rfl, hR357, hBk357, hS357, hN357, w357, hm357, hE357⟩⟩
            · refine ⟨_, rfl, ?_⟩
              show wr (n + 400) tb_M156 259 [(6, vi b347), (5, vi (s.1 175 kn)), (4, vi 1), (3, vi (s.1 170 5)), (2, vi ((kn : Int))), (0, .ref 170), (1, vi deep)] [vi 0] s358 _
              refine wr_n (pc2 := 263) (lv2 := [(6, vi b347), (5, vi (s.1 175 kn)), (4, vi 1), (3, vi (s.1 170 5)), (2, vi ((kn : Int))), (0, .ref 170), (1, vi deep)]) (st2 := [vi 0]) 2 (fun _ _ => rfl) ?_
              refine wr_end (fun _ _ => rfl) ?_
              exact ⟨0, rfl, hc357.trans hz355, Or.inl ⟨rfl, FR_tr (BX_FR hB355) hF357⟩⟩
            · refine ⟨_, rfl, ?_⟩
              show wr (n + 400) tb_M156 259 [(6, vi b347), (5, vi (s.1 175 kn)), (4, vi 1), (3, vi (s.1 170 5)), (2, vi ((kn : Int))), (0, .ref 170), (1, vi deep)] [vi 1] s358 _
              unfold NXE at hN357
              have hB361 : BX C (gn y) s.1 s358.1 := BX_tr hC hB355 hBk357
              have hP361 : PI C y s358.1 := PI_BX hC hP hB361
              have hQ361 : CS s.1 s358.1 := CS_tr hQ355 hS357
              have hz361 : s358.2 = s.2 := hc357.trans hz355
              have hF361 := LX_nums hP361
              refine wr_n (pc2 := 268) (lv2 := [(6, vi b347), (5, vi (s.1 175 kn)), (4, vi 1), (3, vi (s.1 170 5)), (2, vi ((kn : Int))), (0, .ref 170), (1, vi deep)]) (st2 := [.ref 88, .ref 170]) 3 (fun _ _ => rfl) ?_
              refine wr_call1 (args := [.ref 88]) (rest := []) rfl rfl rfl rfl (Nat.le_of_ble_eq_true rfl) (cr_mono (x_take (d := n + 393) isT_88 hC _ hR357 hP361) ?_)
              rintro s363 out ⟨b, rfl, hc362, ⟨rfl, hF362⟩ | ⟨rfl, hR362, hBk362, hK362, hf362⟩⟩
              · refine ⟨_, rfl, ?_⟩
                show wr (n + 400) tb_M156 271 [(6, vi b347), (5, vi (s.1 175 kn)), (4, vi 1), (3, vi (s.1 170 5)), (2, vi ((kn : Int))), (0, .ref 170), (1, vi deep)] [vi 0] s363 _
                refine wr_n (pc2 := 286) (lv2 := [(6, vi b347), (5, vi (s.1 175 kn)), (4, vi 1), (3, vi (s.1 170 5)), (2, vi ((kn : Int))), (0, .ref 170), (1, vi deep)]) (st2 := [vi 0]) 2 (fun _ _ => rfl) ?_
                refine wr_end (fun _ _ => rfl) ?_
                exact ⟨0, rfl, hc362.trans hz361, Or.inl ⟨rfl, FR_tr (BX_FR hB361) hF362⟩⟩
              · refine ⟨_, rfl, ?_⟩
                show wr (n + 400) tb_M156 271 [(6, vi b347), (5, vi (s.1 175 kn)), (4, vi 1), (3, vi (s.1 170 5)), (2, vi ((kn : Int))), (0, .ref 170), (1, vi deep)] [vi 1] s363 _
                obtain ⟨hu362, hk362⟩ := id hK362
                replace hf362 : s358.1 170 5 + 1 ≤ s363.1 170 5 := hf362
                have hm362 : s363.1 C 1 = ((w357 : Nat) : Int) := by omega
                have hB366 : BX C (gn y) s.1 s363.1 := BX_tr hC hB361 hBk362
                have hP366 : PI C y s363.1 := PI_BX hC hP hB366
                have hQ366 : CS s.1 s363.1 := CS_tr hQ361 (KL_CS hK362)
                have hz366 : s363.2 = s.2 := hc362.trans hz361
                have hx366 := LX_nums hP366
                have hF366 : s358.1 170 5 + 1 ≤ s363.1 170 5 ∧ s363.1 170 14 = s358.1 170 14 ∧ s363.1 170 16 = s358.1 170 16 ∧ s363.1 170 21 = s358.1 170 21 ∧ s363.1 C 3 = s358.1 C 3 ∧ s363.1 C 10 = s358.1 C 10 ∧ 0 ≤ s363.1 170 5 ∧ s363.1 170 5 ≤ s363.1 170 6 ∧ s363.1 170 6 ≤ 2000 := by omega
                clear hk362 hf362 hx366
                refine wr_n (pc2 := 278) (lv2 := [(6, vi b347), (5, vi (s.1 175 kn)), (4, vi 1), (3, vi (s.1 170 5)), (2, vi ((kn : Int))), (0, .ref 170), (1, vi deep)]) (st2 := [vi 1, vi deep, vi 0, .ref 170]) 5 (fun _ _ => rfl) ?_
                refine wr_add (a := deep) (b := 1) rfl ?_
                show wr (n + 400) tb_M156 279 [(6, vi b347), (5, vi (s.1 175 kn)), (4, vi 1), (3, vi (s.1 170 5)), (2, vi ((kn : Int))), (0, .ref 170), (1, vi deep)] [vi (deep + 1), vi 0, .ref 170] s363 _
                refine wr_call1 (args := [vi 0, vi (deep + 1)]) (rest := []) rfl rfl rfl rfl (Nat.le_of_ble_eq_true rfl) (cr_mono ((cr_up (d := 360) (by omega) (hX C y w357 _ 0 (deep + 1) hC hR362 hP366 (BX_mb hB366 hMB) hm362 (by unfold NE; omega) (by omega)))) ?_)
                rintro s368 out ⟨b, rfl, hc367, ⟨rfl, hF367⟩ | ⟨rfl, hR367, hBk367, hS367, hN367, hV367, w367, hm367, hE367⟩⟩
                · refine ⟨_, rfl, ?_⟩
                  show wr (n + 400) tb_M156 282 [(6, vi b347), (5, vi (s.1 175 kn)), (4, vi 1), (3, vi (s.1 170 5)), (2, vi ((kn : Int))), (0, .ref 170), (1, vi deep)] [vi 0] s368 _
                  refine wr_n (pc2 := 286) (lv2 := [(6, vi b347), (5, vi (s.1 175 kn)), (4, vi 1), (3, vi (s.1 170 5)), (2, vi ((kn : Int))), (0, .ref 170), (1, vi deep)]) (st2 := [vi 0]) 2 (fun _ _ => rfl) ?_
                  refine wr_end (fun _ _ => rfl) ?_
                  exact ⟨0, rfl, hc367.trans hz366, Or.inl ⟨rfl, FR_tr (BX_FR hB366) hF367⟩⟩
                · refine ⟨_, rfl, ?_⟩
                  show wr (n + 400) tb_M156 282 [(6, vi b347), (5, vi (s.1 175 kn)), (4, vi 1), (3, vi (s.1 170 5)), (2, vi ((kn : Int))), (0, .ref 170), (1, vi deep)] [vi 1] s368 _
                  unfold NXE at hN367
                  have hB371 : BX C (gn y) s.1 s368.1 := BX_tr hC hB366 hBk367
                  have hP371 : PI C y s368.1 := PI_BX hC hP hB371
                  have hQ371 : CS s.1 s368.1 := CS_tr hQ366 hS367
                  have hz371 : s368.2 = s.2 := hc367.trans hz366
                  have hF371 := LX_nums hP371
                  refine wr_n (pc2 := 292) (lv2 := [(6, vi b347), (5, vi (s.1 175 kn)), (4, vi 1), (3, vi (s.1 170 5)), (2, vi ((kn : Int))), (0, .ref 170), (1, vi deep)]) (st2 := [vi (s.1 175 kn), vi 1, .ref 170]) 4 (fun _ _ => rfl) ?_
                  refine wr_call1 (args := [vi 1, vi (s.1 175 kn)]) (rest := []) rfl rfl rfl rfl (Nat.le_of_ble_eq_true rfl) (cr_mono (x_store1 (d := n + 397) (m := w367) (v := s.1 175 kn) hC _ hR367 hP371 (by unfold i32; omega) hm367 (by omega)) ?_)
                  rintro s373 out ⟨rfl, hc372, hR372, hBk372, hK372, hm372, hp372, hda372, hdb372⟩
                  · refine ⟨_, rfl, ?_⟩
                    show wr (n + 400) tb_M156 295 [(6, vi b347), (5, vi (s.1 175 kn)), (4, vi 1), (3, vi (s.1 170 5)), (2, vi ((kn : Int))), (0, .ref 170), (1, vi deep)] [] s373 _
                    obtain ⟨hu372, hk372⟩ := id hK372
                    have hB375 : BX C (gn y) s.1 s373.1 := BX_tr hC hB371 hBk372
                    have hP375 : PI C y s373.1 := PI_BX hC hP hB375
                    have hQ375 : CS s.1 s373.1 := CS_tr hQ371 (KC_CS hK372)
                    have hz375 : s373.2 = s.2 := hc372.trans hz371
                    have hF375 : s373.1 170 4 = s368.1 170 4 ∧ s373.1 170 5 = s368.1 170 5 ∧ s373.1 170 6 = s368.1 170 6 ∧ s373.1 170 7 = s368.1 170 7 ∧ s373.1 170 14 = s368.1 170 14 ∧ s373.1 170 16 = s368.1 170 16 ∧ s373.1 170 21 = s368.1 170 21 ∧ s373.1 C 3 = s368.1 C 3 ∧ s373.1 C 10 = s368.1 C 10 ∧ s368.1 170 5 + 0 ≤ s373.1 170 5 ∧ 0 ≤ s373.1 170 5 ∧ s373.1 170 5 ≤ s373.1 170 6 ∧ s373.1 170 6 ≤ 2000 := by omega
                    clear hk372 hp372
                    refine wr_n (pc2 := 298) (lv2 := [(6, vi b347), (5, vi (s.1 175 kn)), (4, vi 1), (3, vi (s.1 170 5)), (2, vi ((kn : Int))), (0, .ref 170), (1, vi deep)]) (st2 := [.ref 30, .ref 170]) 2 (fun _ _ => rfl) ?_
                    refine wr_call1 (args := [.ref 30]) (rest := []) rfl rfl rfl rfl (Nat.le_of_ble_eq_true rfl) (cr_mono (x_take (d := n + 393) isT_30 hC _ hR372 hP375) ?_)
                    rintro s377 out ⟨b, rfl, hc376, ⟨rfl, hF376⟩ | ⟨rfl, hR376, hBk376, hK376, hf376⟩⟩
                    · refine ⟨_, rfl, ?_⟩
                      show wr (n + 400) tb_M156 301 [(6, vi b347), (5, vi (s.1 175 kn)), (4, vi 1), (3, vi (s.1 170 5)), (2, vi ((kn : Int))), (0, .ref 170), (1, vi deep)] [vi 0] s377 _
                      refine wr_end (fun _ _ => rfl) ?_
                      exact ⟨0, rfl, hc376.trans hz375, Or.inl ⟨rfl, FR_tr (BX_FR hB375) hF376⟩⟩
                    · refine ⟨_, rfl, ?_⟩
                      show wr (n + 400) tb_M156 301 [(6, vi b347), (5, vi (s.1 175 kn)), (4, vi 1), (3, vi (s.1 170 5)), (2, vi ((kn : Int))), (0, .ref 170), (1, vi deep)] [vi 1] s377 _
                      obtain ⟨hu376, hk376⟩ := id hK376
                      replace hf376 : s373.1 170 5 + 1 ≤ s377.1 170 5 := hf376
                      have hm376 : s377.1 C 1 = ((w367 + 2 : Nat) : Int) := by omega
                      have hB380 : BX C (gn y) s.1 s377.1 := BX_tr hC hB375 hBk376
                      have hP380 : PI C y s377.1 := PI_BX hC hP hB380
                      have hQ380 : CS s.1 s377.1 := CS_tr hQ375 (KL_CS hK376)
                      have hz380 : s377.2 = s.2 := hc376.trans hz375
                      have hx380 := LX_nums hP380
                      have hF380 : s368.1 170 5 + 1 ≤ s377.1 170 5 ∧ s377.1 170 14 = s368.1 170 14 ∧ s377.1 170 16 = s368.1 170 16 ∧ s377.1 170 21 = s368.1 170 21 ∧ s377.1 C 3 = s368.1 C 3 ∧ s377.1 C 10 = s368.1 C 10 ∧ 0 ≤ s377.1 170 5 ∧ s377.1 170 5 ≤ s377.1 170 6 ∧ s377.1 170 6 ≤ 2000 := by omega
                      clear hk376 hf376 hx380 hF375
                      refine wr_end (fun _ _ => rfl) ?_
                      refine ⟨1, rfl, hz380, Or.inr ⟨rfl, hR376, hB380, hQ380, by unfold NXS; omega, w367 + 2, k0, hm376, by omega, ?_⟩⟩
                      intro hpar
                      exact (SG_seq (by omega) (by omega) (SG_part ((BX_code hC (BX_tr hC (BX_tr hC (BX_tr hC (BX_tr hC hBk357 hBk362) hBk367) hBk372) hBk376) (by omega)).trans hda352) (by omega)) (SH_seq (by omega) (by omega) (SH_mono (by omega) (SZ_E (CS_tr (CS_tr (CS_tr (KL_CS hK362) hS367) (KC_CS hK372)) (KL_CS hK376))) (SH_agr (fun p hp1 hp => (BX_code hC (BX_tr hC (BX_tr hC (BX_tr hC hBk362 hBk367) hBk372) hBk376) (by omega))) (hE357 0 (by omega)))) (SH_seq (by omega) (by omega) (SG_SH (SG_mono (by omega) (SZ_E (CS_tr (KC_CS hK372) (KL_CS hK376))) (SG_agr (fun p hp1 hp => (BX_code hC (BX_tr hC hBk372 hBk376) (by omega))) (hE367 1 (by omega))))) (SH_storei (h0 := 0) (v := (s.1 175 kn).toNat) ((BX_code hC hBk376 (by omega)).trans hda372) (((BX_code hC hBk376 (by omega)).trans hdb372).trans (Int.toNat_of_nonneg (by omega)).symm) (by omega) (by omega)))))
        · refine wr_if1f rfl rfl (by unfold i32; omega) h351 ?_
          exact j171 _ _ trivial
    · refine wr_if1f rfl rfl (by unfold i32; omega) h260 ?_
      have hwk : s.1 174 kn = 0 := by omega
      rw [hwk]
      show wr (n + 400) tb_M156 40 [(5, vi (s.1 175 kn)), (4, vi 0), (3, vi (s.1 170 5)), (2, vi ((kn : Int))), (0, .ref 170), (1, vi deep)] [] s _
      have hq5 := N_var hP (k := kn) (by omega) (by omega)
      refine wr_n (pc2 := 43) (lv2 := [(5, vi (s.1 175 kn)), (4, vi 0), (3, vi (s.1 170 5)), (2, vi ((kn : Int))), (0, .ref 170), (1, vi deep)]) (st2 := [vi 61, .ref 170]) 2 (fun _ _ => rfl) ?_
      refine wr_call1 (args := [vi 61]) (rest := []) rfl rfl rfl rfl (Nat.le_of_ble_eq_true rfl) (cr_mono (c_isBehind (d := n + 399) (g := 61) _ hR (LX_of hP) (by unfold i32; omega)) ?_)
      rintro s384 out ⟨b381, rfl, h382, e383⟩
      refine ⟨_, rfl, ?_⟩
      rw [e383]
      show wr (n + 400) tb_M156 46 [(5, vi (s.1 175 kn)), (4, vi 0), (3, vi (s.1 170 5)), (2, vi ((kn : Int))), (0, .ref 170), (1, vi deep)] [vi b381] s _
      refine wr_n (pc2 := 168) (lv2 := [(6, vi b381), (5, vi (s.1 175 kn)), (4, vi 0), (3, vi (s.1 170 5)), (2, vi ((kn : Int))), (0, .ref 170), (1, vi deep)]) (st2 := [vi b381]) 3 (fun _ _ => rfl) ?_
      by_cases h385 : b381 ≠ 0
      · refine wr_if1t rfl rfl (by unfold i32; omega) h385 ?_
        refine wr_n (pc2 := 249) (lv2 := [(6, vi b381), (5, vi (s.1 175 kn)), (4, vi 0), (3, vi (s.1 170 5)), (2, vi ((kn : Int))), (0, .ref 170), (1, vi deep)]) (st2 := [.ref 170]) 7 (fun _ _ => rfl) ?_
        refine wr_call1 (args := []) (rest := []) rfl rfl rfl rfl (Nat.le_of_ble_eq_true rfl) (cr_mono (x_part (d := n + 398) (m := m) hC _ hR hP hm (by omega) (by omega)) ?_)
        rintro s387 out ⟨rfl, hc386, hR386, hBk386, hK386, hm386, hp386, hda386⟩
        · refine ⟨_, rfl, ?_⟩
          show wr (n + 400) tb_M156 252 [(6, vi b381), (5, vi (s.1 175 kn)), (4, vi 0), (3, vi (s.1 170 5)), (2, vi ((kn : Int))), (0, .ref 170), (1, vi deep)] [] s387 _
          obtain ⟨hu386, hk386⟩ := id hK386
          have hB389 : BX C (gn y) s.1 s387.1 := BX_tr hC (PI_rf hP) hBk386
          have hP389 : PI C y s387.1 := PI_BX hC hP hB389
          have hQ389 : CS s.1 s387.1 := CS_tr (CS_rf (r := s.1)) (KC_CS hK386)
          have hz389 : s387.2 = s.2 := hc386.trans rfl
          have hF389 : s387.1 170 4 = s.1 170 4 ∧ s387.1 170 5 = s.1 170 5 ∧ s387.1 170 6 = s.1 170 6 ∧ s387.1 170 7 = s.1 170 7 ∧ s387.1 170 14 = s.1 170 14 ∧ s387.1 170 16 = s.1 170 16 ∧ s387.1 170 21 = s.1 170 21 ∧ s387.1 C 3 = s.1 C 3 + 1 ∧ s387.1 C 10 = s.1 C 10 ∧ s.1 170 5 + 0 ≤ s387.1 170 5 ∧ 0 ≤ s387.1 170 5 ∧ s387.1 170 5 ≤ s387.1 170 6 ∧ s387.1 170 6 ≤ 2000 := by omega
          clear hk386 hp386
          have hw390 : s387.1 174 kn = s.1 174 kn := hB389.1 174 kn (by unfold SS; omega)
          refine wr_n (pc2 := 256) (lv2 := [(6, vi b381), (5, vi (s.1 175 kn)), (4, vi 0), (3, vi (s.1 170 5)), (2, vi ((kn : Int))), (0, .ref 170), (1, vi deep)]) (st2 := [vi deep, vi (s.1 170 5), vi ((kn : Int)), .ref 170]) 4 (fun _ _ => rfl) ?_
          refine wr_call1 (args := [vi ((kn : Int)), vi (s.1 170 5), vi deep]) (rest := []) rfl rfl rfl rfl (Nat.le_of_ble_eq_true rfl) (cr_mono ((hTg (n + 20) C y (m + 1) _ kn 0 (s.1 170 5) deep hC hR386 hP389 (BX_mb hB389 hMB) hm386 (by omega) ⟨by omega, by omega, by omega, by omega, by unfold i32; omega, by omega⟩)) ?_)
          rintro s392 out ⟨b, rfl, hc391, ⟨rfl, hF391⟩ | ⟨rfl, hR391, hBk391, hS391, hN391, w391, hm391, hE391⟩⟩
          · refine ⟨_, rfl, ?_⟩
            show wr (n + 400) tb_M156 259 [(6, vi b381), (5, vi (s.1 175 kn)), (4, vi 0), (3, vi (s.1 170 5)), (2, vi ((kn : Int))), (0, .ref 170), (1, vi deep)] [vi 0] s392 _
            refine wr_n (pc2 := 263) (lv2 := [(6, vi b381), (5, vi (s.1 175 kn)), (4, vi 0), (3, vi (s.1 170 5)), (2, vi ((kn : Int))), (0, .ref 170), (1, vi deep)]) (st2 := [vi 0]) 2 (fun _ _ => rfl) ?_
            refine wr_end (fun _ _ => rfl) ?_
            exact ⟨0, rfl, hc391.trans hz389, Or.inl ⟨rfl, FR_tr (BX_FR hB389) hF391⟩⟩
          · refine ⟨_, rfl, ?_⟩
            show wr (n + 400) tb_M156 259 [(6, vi b381), (5, vi (s.1 175 kn)), (4, vi 0), (3, vi (s.1 170 5)), (2, vi ((kn : Int))), (0, .ref 170), (1, vi deep)] [vi 1] s392 _
            unfold NXE at hN391
            have hB395 : BX C (gn y) s.1 s392.1 := BX_tr hC hB389 hBk391
            have hP395 : PI C y s392.1 := PI_BX hC hP hB395
            have hQ395 : CS s.1 s392.1 := CS_tr hQ389 hS391
            have hz395 : s392.2 = s.2 := hc391.trans hz389
            have hF395 := LX_nums hP395
            refine wr_n (pc2 := 268) (lv2 := [(6, vi b381), (5, vi (s.1 175 kn)), (4, vi 0), (3, vi (s.1 170 5)), (2, vi ((kn : Int))), (0, .ref 170), (1, vi deep)]) (st2 := [.ref 88, .ref 170]) 3 (fun _ _ => rfl) ?_
            refine wr_call1 (args := [.ref 88]) (rest := []) rfl rfl rfl rfl (Nat.le_of_ble_eq_true rfl) (cr_mono (x_take (d := n + 393) isT_88 hC _ hR391 hP395) ?_)
            rintro s397 out ⟨b, rfl, hc396, ⟨rfl, hF396⟩ | ⟨rfl, hR396, hBk396, hK396, hf396⟩⟩
            · refine ⟨_, rfl, ?_⟩
              show wr (n + 400) tb_M156 271 [(6, vi b381), (5, vi (s.1 175 kn)), (4, vi 0), (3, vi (s.1 170 5)), (2, vi ((kn : Int))), (0, .ref 170), (1, vi deep)] [vi 0] s397 _
              refine wr_n (pc2 := 286) (lv2 := [(6, vi b381), (5, vi (s.1 175 kn)), (4, vi 0), (3, vi (s.1 170 5)), (2, vi ((kn : Int))), (0, .ref 170), (1, vi deep)]) (st2 := [vi 0]) 2 (fun _ _ => rfl) ?_
              refine wr_end (fun _ _ => rfl) ?_
              exact ⟨0, rfl, hc396.trans hz395, Or.inl ⟨rfl, FR_tr (BX_FR hB395) hF396⟩⟩
            · refine ⟨_, rfl, ?_⟩
              show wr (n + 400) tb_M156 271 [(6, vi b381), (5, vi (s.1 175 kn)), (4, vi 0), (3, vi (s.1 170 5)), (2, vi ((kn : Int))), (0, .ref 170), (1, vi deep)] [vi 1] s397 _
              obtain ⟨hu396, hk396⟩ := id hK396
              replace hf396 : s392.1 170 5 + 1 ≤ s397.1 170 5 := hf396
              have hm396 : s397.1 C 1 = ((w391 : Nat) : Int) := by omega
              have hB400 : BX C (gn y) s.1 s397.1 := BX_tr hC hB395 hBk396
              have hP400 : PI C y s397.1 := PI_BX hC hP hB400
              have hQ400 : CS s.1 s397.1 := CS_tr hQ395 (KL_CS hK396)
              have hz400 : s397.2 = s.2 := hc396.trans hz395
              have hx400 := LX_nums hP400
              have hF400 : s392.1 170 5 + 1 ≤ s397.1 170 5 ∧ s397.1 170 14 = s392.1 170 14 ∧ s397.1 170 16 = s392.1 170 16 ∧ s397.1 170 21 = s392.1 170 21 ∧ s397.1 C 3 = s392.1 C 3 ∧ s397.1 C 10 = s392.1 C 10 ∧ 0 ≤ s397.1 170 5 ∧ s397.1 170 5 ≤ s397.1 170 6 ∧ s397.1 170 6 ≤ 2000 := by omega
              clear hk396 hf396 hx400
              refine wr_n (pc2 := 278) (lv2 := [(6, vi b381), (5, vi (s.1 175 kn)), (4, vi 0), (3, vi (s.1 170 5)), (2, vi ((kn : Int))), (0, .ref 170), (1, vi deep)]) (st2 := [vi 1, vi deep, vi 0, .ref 170]) 5 (fun _ _ => rfl) ?_
              refine wr_add (a := deep) (b := 1) rfl ?_
              show wr (n + 400) tb_M156 279 [(6, vi b381), (5, vi (s.1 175 kn)), (4, vi 0), (3, vi (s.1 170 5)), (2, vi ((kn : Int))), (0, .ref 170), (1, vi deep)] [vi (deep + 1), vi 0, .ref 170] s397 _
              refine wr_call1 (args := [vi 0, vi (deep + 1)]) (rest := []) rfl rfl rfl rfl (Nat.le_of_ble_eq_true rfl) (cr_mono ((cr_up (d := 360) (by omega) (hX C y w391 _ 0 (deep + 1) hC hR396 hP400 (BX_mb hB400 hMB) hm396 (by unfold NE; omega) (by omega)))) ?_)
              rintro s402 out ⟨b, rfl, hc401, ⟨rfl, hF401⟩ | ⟨rfl, hR401, hBk401, hS401, hN401, hV401, w401, hm401, hE401⟩⟩
              · refine ⟨_, rfl, ?_⟩
                show wr (n + 400) tb_M156 282 [(6, vi b381), (5, vi (s.1 175 kn)), (4, vi 0), (3, vi (s.1 170 5)), (2, vi ((kn : Int))), (0, .ref 170), (1, vi deep)] [vi 0] s402 _
                refine wr_n (pc2 := 286) (lv2 := [(6, vi b381), (5, vi (s.1 175 kn)), (4, vi 0), (3, vi (s.1 170 5)), (2, vi ((kn : Int))), (0, .ref 170), (1, vi deep)]) (st2 := [vi 0]) 2 (fun _ _ => rfl) ?_
                refine wr_end (fun _ _ => rfl) ?_
                exact ⟨0, rfl, hc401.trans hz400, Or.inl ⟨rfl, FR_tr (BX_FR hB400) hF401⟩⟩
              · refine ⟨_, rfl, ?_⟩
                show wr (n + 400) tb_M156 282 [(6, vi b381), (5, vi (s.1 175 kn)), (4, vi 0), (3, vi (s.1 170 5)), (2, vi ((kn : Int))), (0, .ref 170), (1, vi deep)] [vi 1] s402 _
                unfold NXE at hN401
                have hB405 : BX C (gn y) s.1 s402.1 := BX_tr hC hB400 hBk401
                have hP405 : PI C y s402.1 := PI_BX hC hP hB405
                have hQ405 : CS s.1 s402.1 := CS_tr hQ400 hS401
                have hz405 : s402.2 = s.2 := hc401.trans hz400
                have hF405 := LX_nums hP405
                refine wr_n (pc2 := 292) (lv2 := [(6, vi b381), (5, vi (s.1 175 kn)), (4, vi 0), (3, vi (s.1 170 5)), (2, vi ((kn : Int))), (0, .ref 170), (1, vi deep)]) (st2 := [vi (s.1 175 kn), vi 0, .ref 170]) 4 (fun _ _ => rfl) ?_
                refine wr_call1 (args := [vi 0, vi (s.1 175 kn)]) (rest := []) rfl rfl rfl rfl (Nat.le_of_ble_eq_true rfl) (cr_mono (x_store0 (d := n + 397) (m := w401) (v := s.1 175 kn) hC _ hR401 hP405 (by unfold i32; omega) hm401 (by omega)) ?_)
                rintro s407 out ⟨rfl, hc406, hR406, hBk406, hK406, hm406, hp406, hda406, hdb406⟩
                · refine ⟨_, rfl, ?_⟩
                  show wr (n + 400) tb_M156 295 [(6, vi b381), (5, vi (s.1 175 kn)), (4, vi 0), (3, vi (s.1 170 5)), (2, vi ((kn : Int))), (0, .ref 170), (1, vi deep)] [] s407 _
                  obtain ⟨hu406, hk406⟩ := id hK406
                  have hB409 : BX C (gn y) s.1 s407.1 := BX_tr hC hB405 hBk406
                  have hP409 : PI C y s407.1 := PI_BX hC hP hB409
                  have hQ409 : CS s.1 s407.1 := CS_tr hQ405 (KC_CS hK406)
                  have hz409 : s407.2 = s.2 := hc406.trans hz405
                  have hF409 : s407.1 170 4 = s402.1 170 4 ∧ s407.1 170 5 = s402.1 170 5 ∧ s407.1 170 6 = s402.1 170 6 ∧ s407.1 170 7 = s402.1 170 7 ∧ s407.1 170 14 = s402.1 170 14 ∧ s407.1 170 16 = s402.1 170 16 ∧ s407.1 170 21 = s402.1 170 21 ∧ s407.1 C 3 = s402.1 C 3 ∧ s407.1 C 10 = s402.1 C 10 ∧ s402.1 170 5 + 0 ≤ s407.1 170 5 ∧ 0 ≤ s407.1 170 5 ∧ s407.1 170 5 ≤ s407.1 170 6 ∧ s407.1 170 6 ≤ 2000 := by omega
                  clear hk406 hp406
                  refine wr_n (pc2 := 298) (lv2 := [(6, vi b381), (5, vi (s.1 175 kn)), (4, vi 0), (3, vi (s.1 170 5)), (2, vi ((kn : Int))), (0, .ref 170), (1, vi deep)]) (st2 := [.ref 30, .ref 170]) 2 (fun _ _ => rfl) ?_
                  refine wr_call1 (args := [.ref 30]) (rest := []) rfl rfl rfl rfl (Nat.le_of_ble_eq_true rfl) (cr_mono (x_take (d := n + 393) isT_30 hC _ hR406 hP409) ?_)
                  rintro s411 out ⟨b, rfl, hc410, ⟨rfl, hF410⟩ | ⟨rfl, hR410, hBk410, hK410, hf410⟩⟩
                  · refine ⟨_, rfl, ?_⟩
                    show wr (n + 400) tb_M156 301 [(6, vi b381), (5, vi (s.1 175 kn)), (4, vi 0), (3, vi (s.1 170 5)), (2, vi ((kn : Int))), (0, .ref 170), (1, vi deep)] [vi 0] s411 _
                    refine wr_end (fun _ _ => rfl) ?_
                    exact ⟨0, rfl, hc410.trans hz409, Or.inl ⟨rfl, FR_tr (BX_FR hB409) hF410⟩⟩
                  · refine ⟨_, rfl, ?_⟩
                    show wr (n + 400) tb_M156 301 [(6, vi b381), (5, vi (s.1 175 kn)), (4, vi 0), (3, vi (s.1 170 5)), (2, vi ((kn : Int))), (0, .ref 170), (1, vi deep)] [vi 1] s411 _
                    obtain ⟨hu410, hk410⟩ := id hK410
                    replace hf410 : s407.1 170 5 + 1 ≤ s411.1 170 5 := hf410
                    have hm410 : s411.1 C 1 = ((w401 + 2 : Nat) : Int) := by omega
                    have hB414 : BX C (gn y) s.1 s411.1 := BX_tr hC hB409 hBk410
                    have hP414 : PI C y s411.1 := PI_BX hC hP hB414
                    have hQ414 : CS s.1 s411.1 := CS_tr hQ409 (KL_CS hK410)
                    have hz414 : s411.2 = s.2 := hc410.trans hz409
                    have hx414 := LX_nums hP414
                    have hF414 : s402.1 170 5 + 1 ≤ s411.1 170 5 ∧ s411.1 170 14 = s402.1 170 14 ∧ s411.1 170 16 = s402.1 170 16 ∧ s411.1 170 21 = s402.1 170 21 ∧ s411.1 C 3 = s402.1 C 3 ∧ s411.1 C 10 = s402.1 C 10 ∧ 0 ≤ s411.1 170 5 ∧ s411.1 170 5 ≤ s411.1 170 6 ∧ s411.1 170 6 ≤ 2000 := by omega
                    clear hk410 hf410 hx414 hF409
                    refine wr_end (fun _ _ => rfl) ?_
                    refine ⟨1, rfl, hz414, Or.inr ⟨rfl, hR410, hB414, hQ414, by unfold NXS; omega, w401 + 2, k0, hm410, by omega, ?_⟩⟩
                    intro hpar
                    exact (SG_seq (by omega) (by omega) (SG_part ((BX_code hC (BX_tr hC (BX_tr hC (BX_tr hC (BX_tr hC hBk391 hBk396) hBk401) hBk406) hBk410) (by omega)).trans hda386) (by omega)) (SH_seq (by omega) (by omega) (SH_mono (by omega) (SZ_E (CS_tr (CS_tr (CS_tr (KL_CS hK396) hS401) (KC_CS hK406)) (KL_CS hK410))) (SH_agr (fun p hp1 hp => (BX_code hC (BX_tr hC (BX_tr hC (BX_tr hC hBk396 hBk401) hBk406) hBk410) (by omega))) (hE391 0 (by omega)))) (SH_seq (by omega) (by omega) (SG_SH (SG_mono (by omega) (SZ_E (CS_tr (KC_CS hK406) (KL_CS hK410))) (SG_agr (fun p hp1 hp => (BX_code hC (BX_tr hC hBk406 hBk410) (by omega))) (hE401 0 (by omega))))) (SH_store (h0 := 0) (v := (s.1 175 kn).toNat) ((BX_code hC hBk410 (by omega)).trans hda406) (((BX_code hC hBk410 (by omega)).trans hdb406).trans (Int.toNat_of_nonneg (by omega)).symm) (by omega) (by omega)))))
      · refine wr_if1f rfl rfl (by unfold i32; omega) h385 ?_
        exact j171 _ _ trivial
  · refine wr_if1f rfl rfl (by unfold i32; omega) h7 ?_
    refine wr_n (pc2 := 15) (lv2 := [(3, vi (s.1 170 5)), (2, vi k1), (0, .ref 170), (1, vi deep)]) (st2 := [.ref 170]) 1 (fun _ _ => rfl) ?_
    refine wr_call1 (args := []) (rest := []) rfl rfl rfl rfl (Nat.le_of_ble_eq_true rfl) (cr_mono (x_bad0 (C := C) (d := n + 398) _ hR) ?_)
    rintro s416 out ⟨rfl, hc415, hF415⟩
    · refine ⟨_, rfl, ?_⟩
      show wr (n + 400) tb_M156 18 [(3, vi (s.1 170 5)), (2, vi k1), (0, .ref 170), (1, vi deep)] [vi 0] s416 _
      refine wr_end (fun _ _ => rfl) ?_
      exact ⟨0, rfl, hc415.trans rfl, Or.inl ⟨rfl, FR_tr (BX_FR (PI_rf hP)) hF415⟩⟩
