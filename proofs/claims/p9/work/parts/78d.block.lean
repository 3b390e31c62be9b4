set_option maxRecDepth 100000 in
theorem p_block {n : Nat} (hSt : CSt n) : CBl (n + 1) := by
  intro C y m k0 s deep hC hR hP hMB hm hN hd hk0 hko
  unfold NS at hN
  have hx0 := LX_nums hP
  have hgt := gt_of hP
  have hnm0 := (NM_of hP).1
  have hnm1 := (NM_of hP).2.1
  have lp2 : ∀ (w : Nat) (t : rS) (mt kt q : Nat), (2000 - t.1 170 5).toNat = w → RF t.1 → PI C y t.1 → BX C (gn y) s.1 t.1 → CS s.1 t.1 → t.2 = s.2 → t.1 C 1 = ((mt : Nat) : Int) → (s.1 C 3 ≤ t.1 C 3 ∧ t.1 C 3 + 1 - s.1 C 3 ≤ (mt : Int) - m ∧ (mt : Int) - m ≤ 12 * (t.1 170 5 - s.1 170 5) - 11 ∧ s.1 C 10 ≤ t.1 C 10 ∧ t.1 C 10 - s.1 C 10 ≤ t.1 170 5 - s.1 170 5 ∧ s.1 170 16 ≤ t.1 170 16 ∧ t.1 170 16 - s.1 170 16 ≤ t.1 170 5 - s.1 170 5 - 1 ∧ m + 1 ≤ mt ∧ k0 ≤ kt ∧ s.1 170 5 + 3 * kt + 1 ≤ t.1 170 5 + 3 * k0 ∧ q + s.1 170 5 ≤ t.1 170 5 ∧ s.1 170 14 ≤ t.1 170 14) → t.1 (C + 1) m = 1 → (q = 0 → mt = m + 1) → (t.1 170 21 < 0 → SH (ga y) (t.1 (C + 1)) (gG y) (m + 1) mt 0 0 ((t.1 170 5).toNat) (gn y) (SZ (gk y) (t.1 170 26).toNat k0 kt) ∧ (q = 1 → SG (ga y) (t.1 (C + 1)) (gG y) (m + 1) mt 0 0 ((t.1 170 5).toNat) (gn y) (SZ (gk y) (t.1 170 26).toNat k0 kt))) → wr (n + 400) tb_M139 58 [(4, vi ((q : Int))), (3, vi (((m : Nat) : Int))), (2, vi (s.1 170 14)), (0, .ref 170), (1, vi deep)] [] t (SP C y m k0 1 s) := by
    intro w
    induction w using Nat.strongRecOn with | ind w ih => ?_
    intro t mt kt q hw htR htP htB htC ht2 htm htn htc ht0 htE
    have hx1 := LX_nums htP
    refine wr_n (pc2 := 62) (lv2 := [(4, vi ((q : Int))), (3, vi (((m : Nat) : Int))), (2, vi (s.1 170 14)), (0, .ref 170), (1, vi deep)]) (st2 := [.ref 32, .ref 170]) 2 (fun _ _ => rfl) ?_
    refine wr_call1 (args := [.ref 32]) (rest := []) rfl rfl rfl rfl (Nat.le_of_ble_eq_true rfl) (cr_mono (c_is (d := n + 395) isT_32 _ htR (LX_of htP)) ?_)
    rintro s2 out ⟨b, rfl, rfl | ⟨rfl, hj1, hl1⟩, he1⟩
    · refine ⟨_, rfl, ?_⟩
      rw [he1]
      show wr (n + 400) tb_M139 65 [(4, vi ((q : Int))), (3, vi (((m : Nat) : Int))), (2, vi (s.1 170 14)), (0, .ref 170), (1, vi deep)] [vi 0] t _
      refine wr_n (pc2 := 70) (lv2 := [(4, vi ((q : Int))), (3, vi (((m : Nat) : Int))), (2, vi (s.1 170 14)), (0, .ref 170), (1, vi deep)]) (st2 := [vi deep, .ref 170]) 3 (fun _ _ => rfl) ?_
      refine wr_call1 (args := [vi deep]) (rest := []) rfl rfl rfl rfl (Nat.le_of_ble_eq_true rfl) (cr_mono (hSt C y mt kt _ deep hC htR htP (BX_mb htB hMB) htm (by unfold NS; omega) (by omega) trivial (by omega) hko) ?_)
      rintro s4 out ⟨b, rfl, hc3, ⟨rfl, hF3⟩ | ⟨rfl, hR3, hBk3, hS3, hN3, w3, k3, hm3, hkk3, hE3⟩⟩
      · refine ⟨_, rfl, ?_⟩
        show wr (n + 400) tb_M139 73 [(4, vi ((q : Int))), (3, vi (((m : Nat) : Int))), (2, vi (s.1 170 14)), (0, .ref 170), (1, vi deep)] [vi 0] s4 _
        refine wr_n (pc2 := 77) (lv2 := [(4, vi ((q : Int))), (3, vi (((m : Nat) : Int))), (2, vi (s.1 170 14)), (0, .ref 170), (1, vi deep)]) (st2 := [vi 0]) 2 (fun _ _ => rfl) ?_
        refine wr_end (fun _ _ => rfl) ?_
        exact ⟨0, rfl, hc3.trans ht2, Or.inl ⟨rfl, FR_tr (BX_FR htB) hF3⟩⟩
      · refine ⟨_, rfl, ?_⟩
        show wr (n + 400) tb_M139 73 [(4, vi ((q : Int))), (3, vi (((m : Nat) : Int))), (2, vi (s.1 170 14)), (0, .ref 170), (1, vi deep)] [vi 1] s4 _
        unfold NXS at hN3
        have hB7 : BX C (gn y) s.1 s4.1 := BX_tr hC htB hBk3
        have hP7 : PI C y s4.1 := PI_BX hC hP hB7
        have hQ7 : CS s.1 s4.1 := CS_tr htC hS3
        have hz7 : s4.2 = s.2 := hc3.trans ht2
        have hF7 := LX_nums hP7
        refine wr_n (pc2 := 78) (lv2 := [(4, vi ((q : Int))), (3, vi (((m : Nat) : Int))), (2, vi (s.1 170 14)), (0, .ref 170), (1, vi deep)]) (st2 := []) 1 (fun _ _ => rfl) ?_
        refine wr_inc (a := (q : Int)) rfl rfl ?_
        show wr (n + 400) tb_M139 81 [(4, vi ((q : Int) + 1)), (3, vi (((m : Nat) : Int))), (2, vi (s.1 170 14)), (0, .ref 170), (1, vi deep)] [] s4 _
        refine wr_n (pc2 := 58) (lv2 := [(4, vi ((q : Int) + 1)), (3, vi (((m : Nat) : Int))), (2, vi (s.1 170 14)), (0, .ref 170), (1, vi deep)]) (st2 := []) 1 (fun _ _ => rfl) ?_
        rw [show (q : Int) + 1 = ((q + 1 : Nat) : Int) by omega]
        refine ih _ ?_ _ _ k3 _ rfl hR3 hP7 hB7 hQ7 hz7 hm3 (by omega) ?_ (fun hq9 => absurd hq9 (by omega)) ?_
        · omega
        · exact ((BX_code hC hBk3 (by omega)).trans htc)
        · intro hpar
          have hnew := (SG_mono (T2 := (s4.1 170 5).toNat) (Z2 := SZ (gk y) (s4.1 170 26).toNat k0 k3) (by omega) (SZ_S (CS_rf (r := s4.1)) (by omega) (by omega)) (hE3 hpar))
          refine ⟨SH_seq (by omega) (by omega) (SH_mono (by omega) (SZ_S hS3 (by omega) (by omega)) (SH_agr (fun p hp1 hp => (BX_code hC hBk3 (by omega))) (htE (BX_po hBk3 hpar)).1)) (SG_SH hnew), fun hq9 => ?_⟩
          have hq8 : mt = m + 1 := ht0 (by omega)
          subst hq8
          exact hnew
    · refine ⟨_, rfl, ?_⟩
      rw [he1]
      show wr (n + 400) tb_M139 65 [(4, vi ((q : Int))), (3, vi (((m : Nat) : Int))), (2, vi (s.1 170 14)), (0, .ref 170), (1, vi deep)] [vi 1] t _
      have hg1 : 1 ≤ t.1 170 4 ∧ t.1 170 5 + 1 = t.1 170 6 := ⟨by omega, hl1⟩
      clear hj1 hl1
      refine wr_n (pc2 := 85) (lv2 := [(4, vi ((q : Int))), (3, vi (((m : Nat) : Int))), (2, vi (s.1 170 14)), (0, .ref 170), (1, vi deep)]) (st2 := [.ref 170]) 2 (fun _ _ => rfl) ?_
      refine wr_call1 (args := []) (rest := []) rfl rfl rfl rfl (Nat.le_of_ble_eq_true rfl) (cr_mono (x_step (d := n + 394) hC _ htR htP) ?_)
      rintro s9 out ⟨rfl, hc8, hR8, hBk8, hK8, hf8⟩
      · refine ⟨_, rfl, ?_⟩
        show wr (n + 400) tb_M139 88 [(4, vi ((q : Int))), (3, vi (((m : Nat) : Int))), (2, vi (s.1 170 14)), (0, .ref 170), (1, vi deep)] [] s9 _
        obtain ⟨hu8, hk8⟩ := id hK8
        replace hf8 : t.1 170 6 ≤ s9.1 170 5 := hf8
        have hm8 : s9.1 C 1 = ((mt : Nat) : Int) := by omega
        have hB11 : BX C (gn y) s.1 s9.1 := BX_tr hC htB hBk8
        have hP11 : PI C y s9.1 := PI_BX hC hP hB11
        have hQ11 : CS s.1 s9.1 := CS_tr htC (KL_CS hK8)
        have hz11 : s9.2 = s.2 := hc8.trans ht2
        have hx11 := LX_nums hP11
        have hF11 : t.1 170 5 + 1 ≤ s9.1 170 5 ∧ s9.1 170 14 = t.1 170 14 ∧ s9.1 170 16 = t.1 170 16 ∧ s9.1 170 21 = t.1 170 21 ∧ s9.1 C 3 = t.1 C 3 ∧ s9.1 C 10 = t.1 C 10 ∧ 0 ≤ s9.1 170 5 ∧ s9.1 170 5 ≤ s9.1 170 6 ∧ s9.1 170 6 ≤ 2000 := by omega
        clear hk8 hf8 hx11
        refine wr_n (pc2 := 90) (lv2 := [(4, vi ((q : Int))), (3, vi (((m : Nat) : Int))), (2, vi (s.1 170 14)), (0, .ref 170), (1, vi deep)]) (st2 := [vi (s.1 170 14), .ref 170]) 2 (fun _ _ => rfl) ?_
        refine wr_put (z := s.1 170 14) rfl rfl rfl rfl (by decide) rfl (by decide) rfl (show -2147483648 ≤ s.1 170 14 ∧ s.1 170 14 ≤ 2147483647 by omega) (hf_int' _) ?_
        show wr (n + 400) tb_M139 93 [(4, vi ((q : Int))), (3, vi (((m : Nat) : Int))), (2, vi (s.1 170 14)), (0, .ref 170), (1, vi deep)] [] (up2 s9.1 170 14 (s.1 170 14), s9.2) _
        have hR12 : RF (up2 s9.1 170 14 (s.1 170 14)) := (RF_up hR8 rfl)
        obtain ⟨s13, hs13⟩ : ∃ qq9 : rS, qq9 = (up2 s9.1 170 14 (s.1 170 14), s9.2) := ⟨_, rfl⟩
        rw [← hs13]
        have hU13 : U1 170 14 s9.1 s13.1 := by rw [hs13]; exact U1_up
        have hv13 : s13.1 170 14 = s.1 170 14 := by rw [hs13]; show up2 s9.1 170 14 (s.1 170 14) 170 14 = _; exact up_self
        have hk13 : s13.1 170 4 = s9.1 170 4 ∧ s13.1 170 5 = s9.1 170 5 ∧ s13.1 170 6 = s9.1 170 6 ∧ s13.1 170 7 = s9.1 170 7 ∧ s13.1 170 16 = s9.1 170 16 ∧ s13.1 170 21 = s9.1 170 21 ∧ s13.1 C 1 = s9.1 C 1 ∧ s13.1 C 3 = s9.1 C 3 ∧ s13.1 C 10 = s9.1 C 10 := ⟨hU13 _ _ (by omega), hU13 _ _ (by omega), hU13 _ _ (by omega), hU13 _ _ (by omega), hU13 _ _ (by omega), hU13 _ _ (by omega), hU13 _ _ (by omega), hU13 _ _ (by omega), hU13 _ _ (by omega)⟩
        have hBs13 : BX C (gn y) s.1 s13.1 := by rw [hs13]; exact BX_names hC hB11 (NM_of hP).1 rfl
        have hR13 : RF s13.1 := BX_RF hC hBs13 hR
        have hc13 : s13.2 = s9.2 := by rw [hs13]
        have hm13 : s13.1 C 1 = ((mt : Nat) : Int) := by omega
        have hB14 : BX C (gn y) s.1 s13.1 := hBs13
        have hP14 : PI C y s13.1 := PI_BX hC hP hB14
        have hQ14 : CS s.1 s13.1 := CS_tr hQ11 (CS_eq (hU13 170 26 (by omega)))
        have hz14 : s13.2 = s.2 := hc13.trans hz11
        have hF14 : s13.1 170 4 = s9.1 170 4 ∧ s13.1 170 5 = s9.1 170 5 ∧ s13.1 170 6 = s9.1 170 6 ∧ s13.1 170 7 = s9.1 170 7 ∧ s13.1 170 14 = s.1 170 14 ∧ s13.1 170 16 = t.1 170 16 ∧ s13.1 170 21 = t.1 170 21 ∧ s13.1 C 3 = t.1 C 3 ∧ s13.1 C 10 = t.1 C 10 ∧ t.1 170 5 + 1 ≤ s13.1 170 5 ∧ 0 ≤ s13.1 170 5 ∧ s13.1 170 5 ≤ s13.1 170 6 ∧ s13.1 170 6 ≤ 2000 := by omega
        clear hk13 hF11
        show wr (n + 400) tb_M139 93 [(4, vi ((q : Int))), (3, vi (((m : Nat) : Int))), (2, vi (s.1 170 14)), (0, .ref 170), (1, vi deep)] [] s13 _
        refine wr_n (pc2 := 96) (lv2 := [(4, vi ((q : Int))), (3, vi (((m : Nat) : Int))), (2, vi (s.1 170 14)), (0, .ref 170), (1, vi deep)]) (st2 := [vi 1, vi ((q : Int))]) 2 (fun _ _ => rfl) ?_
        by_cases h15 : (q : Int) = 1
        · refine wr_if2t rfl rfl (by unfold i32; omega) (by unfold i32; omega) h15 ?_
          have hq1 : q = 1 := by omega
          refine wr_n (pc2 := 123) (lv2 := [(4, vi ((q : Int))), (3, vi (((m : Nat) : Int))), (2, vi (s.1 170 14)), (0, .ref 170), (1, vi deep)]) (st2 := [vi 1]) 1 (fun _ _ => rfl) ?_
          refine wr_end (fun _ _ => rfl) ?_
          refine ⟨1, rfl, hz14, Or.inr ⟨rfl, hR13, hB14, hQ14, by unfold NXS; omega, mt, kt, hm13, by omega, ?_⟩⟩
          intro hpar
          exact (SG_nothing (((hU13 (C + 1) _ (by omega)).trans (BX_code hC hBk8 (by omega))).trans htc) (by omega) (by omega) (SG_mono (by omega) (SZ_S (CS_tr (KL_CS hK8) (CS_eq (hU13 170 26 (by omega)))) (by omega) (by omega)) (SG_agr (fun p hp1 hp => ((hU13 (C + 1) p (by omega)).trans (BX_code hC hBk8 (by omega)))) ((htE (BX_po hBk8 (by rw [← hU13 170 21 (by omega)]; exact hpar))).2 hq1))))
        · refine wr_if2f rfl rfl (by unfold i32; omega) (by unfold i32; omega) h15 ?_
          refine wr_n (pc2 := 100) (lv2 := [(4, vi ((q : Int))), (3, vi (((m : Nat) : Int))), (2, vi (s.1 170 14)), (0, .ref 170), (1, vi deep)]) (st2 := [.ref 170]) 1 (fun _ _ => rfl) ?_
          refine wr_get (v := .ref C) rfl rfl rfl (by decide) (rv_ref (show s13.1 170 19 = ((C : Nat) : Int) from hP14.1)) fun h16 => ?_
          show wr (n + 400) tb_M139 103 [(4, vi ((q : Int))), (3, vi (((m : Nat) : Int))), (2, vi (s.1 170 14)), (0, .ref 170), (1, vi deep)] [.ref C] s13 _
          refine wr_get (v := .ref (C + 1)) rfl rfl (TG_C hC) (by decide) (rv_ref (hR13 C 0 (C + 1) (rc_C0 hC))) fun h17 => ?_
          show wr (n + 400) tb_M139 106 [(4, vi ((q : Int))), (3, vi (((m : Nat) : Int))), (2, vi (s.1 170 14)), (0, .ref 170), (1, vi deep)] [.ref (C + 1)] s13 _
          refine wr_n (pc2 := 108) (lv2 := [(4, vi ((q : Int))), (3, vi (((m : Nat) : Int))), (2, vi (s.1 170 14)), (0, .ref 170), (1, vi deep)]) (st2 := [vi 0, vi (((m : Nat) : Int)), .ref (C + 1)]) 2 (fun _ _ => rfl) ?_
          refine wr_ast (a := ((m : Nat) : Int)) (z := 0) rfl (show 96 ≤ C + 1 by omega) (TG_C1 hC) rfl (by omega) (by omega) (by decide) rfl (show -2147483648 ≤ 0 ∧ 0 ≤ 2147483647 by omega) ?_
          show wr (n + 400) tb_M139 109 [(4, vi ((q : Int))), (3, vi (((m : Nat) : Int))), (2, vi (s.1 170 14)), (0, .ref 170), (1, vi deep)] [] (up2 s13.1 (C + 1) m 0, s13.2) _
          have hR18 : RF (up2 s13.1 (C + 1) m 0) := (RF_up hR13 (PS_rc hC (by unfold PS; omega)))
          obtain ⟨s19, hs19⟩ : ∃ qq9 : rS, qq9 = (up2 s13.1 (C + 1) m 0, s13.2) := ⟨_, rfl⟩
          rw [← hs19]
          have hU19 : U1 (C + 1) m s13.1 s19.1 := by rw [hs19]; exact U1_up
          have hv19 : s19.1 (C + 1) m = 0 := by rw [hs19]; show up2 s13.1 (C + 1) m 0 (C + 1) m = _; exact up_self
          have hk19 : s19.1 170 4 = s13.1 170 4 ∧ s19.1 170 5 = s13.1 170 5 ∧ s19.1 170 6 = s13.1 170 6 ∧ s19.1 170 7 = s13.1 170 7 ∧ s19.1 170 14 = s13.1 170 14 ∧ s19.1 170 16 = s13.1 170 16 ∧ s19.1 170 21 = s13.1 170 21 ∧ s19.1 C 1 = s13.1 C 1 ∧ s19.1 C 3 = s13.1 C 3 ∧ s19.1 C 10 = s13.1 C 10 := ⟨hU19 _ _ (by omega), hU19 _ _ (by omega), hU19 _ _ (by omega), hU19 _ _ (by omega), hU19 _ _ (by omega), hU19 _ _ (by omega), hU19 _ _ (by omega), hU19 _ _ (by omega), hU19 _ _ (by omega), hU19 _ _ (by omega)⟩
          have hBs19 : BX C (gn y) s.1 s19.1 := by rw [hs19]; exact BX_set hC hB14 (by unfold SS; omega) (by unfold quiet; omega)
          have hR19 : RF s19.1 := BX_RF hC hBs19 hR
          have hc19 : s19.2 = s13.2 := by rw [hs19]
          have hm19 : s19.1 C 1 = ((mt : Nat) : Int) := by omega
          have hB20 : BX C (gn y) s.1 s19.1 := hBs19
          have hP20 : PI C y s19.1 := PI_BX hC hP hB20
          have hQ20 : CS s.1 s19.1 := CS_tr hQ14 (CS_eq (hU19 170 26 (by omega)))
          have hz20 : s19.2 = s.2 := hc19.trans hz14
          have hF20 : s19.1 170 4 = s9.1 170 4 ∧ s19.1 170 5 = s9.1 170 5 ∧ s19.1 170 6 = s9.1 170 6 ∧ s19.1 170 7 = s9.1 170 7 ∧ s19.1 170 14 = s.1 170 14 ∧ s19.1 170 16 = t.1 170 16 ∧ s19.1 170 21 = t.1 170 21 ∧ s19.1 C 3 = t.1 C 3 ∧ s19.1 C 10 = t.1 C 10 ∧ t.1 170 5 + 1 ≤ s19.1 170 5 ∧ 0 ≤ s19.1 170 5 ∧ s19.1 170 5 ≤ s19.1 170 6 ∧ s19.1 170 6 ≤ 2000 := by omega
          clear hk19 hF14
          show wr (n + 400) tb_M139 109 [(4, vi ((q : Int))), (3, vi (((m : Nat) : Int))), (2, vi (s.1 170 14)), (0, .ref 170), (1, vi deep)] [] s19 _
          refine wr_n (pc2 := 110) (lv2 := [(4, vi ((q : Int))), (3, vi (((m : Nat) : Int))), (2, vi (s.1 170 14)), (0, .ref 170), (1, vi deep)]) (st2 := [.ref 170]) 1 (fun _ _ => rfl) ?_
          refine wr_get (v := .ref C) rfl rfl rfl (by decide) (rv_ref (show s19.1 170 19 = ((C : Nat) : Int) from hP20.1)) fun h21 => ?_
          show wr (n + 400) tb_M139 113 [(4, vi ((q : Int))), (3, vi (((m : Nat) : Int))), (2, vi (s.1 170 14)), (0, .ref 170), (1, vi deep)] [.ref C] s19 _
          refine wr_n (pc2 := 114) (lv2 := [(4, vi ((q : Int))), (3, vi (((m : Nat) : Int))), (2, vi (s.1 170 14)), (0, .ref 170), (1, vi deep)]) (st2 := [.ref C, .ref C]) 1 (fun _ _ => rfl) ?_
          refine wr_get (v := vi (s19.1 C 3)) rfl rfl (TG_C hC) (by decide) rfl fun h22 => ?_
          have h22 : -2147483648 ≤ s19.1 C 3 ∧ s19.1 C 3 ≤ 2147483647 := h22
          show wr (n + 400) tb_M139 117 [(4, vi ((q : Int))), (3, vi (((m : Nat) : Int))), (2, vi (s.1 170 14)), (0, .ref 170), (1, vi deep)] [vi (s19.1 C 3), .ref C] s19 _
          refine wr_n (pc2 := 118) (lv2 := [(4, vi ((q : Int))), (3, vi (((m : Nat) : Int))), (2, vi (s.1 170 14)), (0, .ref 170), (1, vi deep)]) (st2 := [vi 1, vi (s19.1 C 3), .ref C]) 1 (fun _ _ => rfl) ?_
          refine wr_add (a := s19.1 C 3) (b := 1) rfl ?_
          show wr (n + 400) tb_M139 119 [(4, vi ((q : Int))), (3, vi (((m : Nat) : Int))), (2, vi (s.1 170 14)), (0, .ref 170), (1, vi deep)] [vi (s19.1 C 3 + 1), .ref C] s19 _
          refine wr_put (z := s19.1 C 3 + 1) rfl rfl rfl rfl (show 96 ≤ C by omega) (TG_C hC) (by decide) rfl (show -2147483648 ≤ s19.1 C 3 + 1 ∧ s19.1 C 3 + 1 ≤ 2147483647 by omega) (hf_int' _) ?_
          show wr (n + 400) tb_M139 122 [(4, vi ((q : Int))), (3, vi (((m : Nat) : Int))), (2, vi (s.1 170 14)), (0, .ref 170), (1, vi deep)] [] (up2 s19.1 C 3 (s19.1 C 3 + 1), s19.2) _
          have hR23 : RF (up2 s19.1 C 3 (s19.1 C 3 + 1)) := (RF_up hR19 (PS_rc hC (by unfold PS; omega)))
          obtain ⟨s24, hs24⟩ : ∃ qq9 : rS, qq9 = (up2 s19.1 C 3 (s19.1 C 3 + 1), s19.2) := ⟨_, rfl⟩
          rw [← hs24]
          have hU24 : U1 C 3 s19.1 s24.1 := by rw [hs24]; exact U1_up
          have hv24 : s24.1 C 3 = s19.1 C 3 + 1 := by rw [hs24]; show up2 s19.1 C 3 (s19.1 C 3 + 1) C 3 = _; exact up_self
          have hk24 : s24.1 170 4 = s19.1 170 4 ∧ s24.1 170 5 = s19.1 170 5 ∧ s24.1 170 6 = s19.1 170 6 ∧ s24.1 170 7 = s19.1 170 7 ∧ s24.1 170 14 = s19.1 170 14 ∧ s24.1 170 16 = s19.1 170 16 ∧ s24.1 170 21 = s19.1 170 21 ∧ s24.1 C 1 = s19.1 C 1 ∧ s24.1 C 10 = s19.1 C 10 := ⟨hU24 _ _ (by omega), hU24 _ _ (by omega), hU24 _ _ (by omega), hU24 _ _ (by omega), hU24 _ _ (by omega), hU24 _ _ (by omega), hU24 _ _ (by omega), hU24 _ _ (by omega), hU24 _ _ (by omega)⟩
          have hBs24 : BX C (gn y) s.1 s24.1 := by rw [hs24]; exact BX_set hC hB20 (by unfold SS; omega) (by unfold quiet; omega)
          have hR24 : RF s24.1 := BX_RF hC hBs24 hR
          have hc24 : s24.2 = s19.2 := by rw [hs24]
          have hm24 : s24.1 C 1 = ((mt : Nat) : Int) := by omega
          have hB25 : BX C (gn y) s.1 s24.1 := hBs24
          have hP25 : PI C y s24.1 := PI_BX hC hP hB25
          have hQ25 : CS s.1 s24.1 := CS_tr hQ20 (CS_eq (hU24 170 26 (by omega)))
          have hz25 : s24.2 = s.2 := hc24.trans hz20
          have hF25 : s24.1 170 4 = s9.1 170 4 ∧ s24.1 170 5 = s9.1 170 5 ∧ s24.1 170 6 = s9.1 170 6 ∧ s24.1 170 7 = s9.1 170 7 ∧ s24.1 170 14 = s.1 170 14 ∧ s24.1 170 16 = t.1 170 16 ∧ s24.1 170 21 = t.1 170 21 ∧ s24.1 C 3 = t.1 C 3 + 1 ∧ s24.1 C 10 = t.1 C 10 ∧ t.1 170 5 + 1 ≤ s24.1 170 5 ∧ 0 ≤ s24.1 170 5 ∧ s24.1 170 5 ≤ s24.1 170 6 ∧ s24.1 170 6 ≤ 2000 := by omega
          clear hk24 hF20
          show wr (n + 400) tb_M139 122 [(4, vi ((q : Int))), (3, vi (((m : Nat) : Int))), (2, vi (s.1 170 14)), (0, .ref 170), (1, vi deep)] [] s24 _
          refine wr_n (pc2 := 123) (lv2 := [(4, vi ((q : Int))), (3, vi (((m : Nat) : Int))), (2, vi (s.1 170 14)), (0, .ref 170), (1, vi deep)]) (st2 := [vi 1]) 1 (fun _ _ => rfl) ?_
          refine wr_end (fun _ _ => rfl) ?_
          refine ⟨1, rfl, hz25, Or.inr ⟨rfl, hR24, hB25, hQ25, by unfold NXS; omega, mt, kt, hm24, by omega, ?_⟩⟩
          intro hpar
          exact (SG_seq (by omega) (by omega) (SG_part ((hU24 (C + 1) _ (by omega)).trans hv19) (by omega)) (SH_mono (by omega) (SZ_S (CS_tr (CS_tr (CS_tr (KL_CS hK8) (CS_eq (hU13 170 26 (by omega)))) (CS_eq (hU19 170 26 (by omega)))) (CS_eq (hU24 170 26 (by omega)))) (by omega) (by omega)) (SH_agr (fun p hp1 hp => ((hU24 (C + 1) p (by omega)).trans ((hU19 (C + 1) p (by omega)).trans ((hU13 (C + 1) p (by omega)).trans (BX_code hC hBk8 (by omega)))))) (htE (BX_po hBk8 (by rw [← hU13 170 21 (by omega)]; exact (by rw [← hU19 170 21 (by omega)]; exact (by rw [← hU24 170 21 (by omega)]; exact hpar))))).1)))
  have lp1 : ∀ (w : Nat) (t : rS), (2000 - t.1 170 5).toNat = w → RF t.1 → PI C y t.1 → BX C (gn y) s.1 t.1 → CS s.1 t.1 → t.2 = s.2 → t.1 C 1 = ((m + 1 : Nat) : Int) → (t.1 C 3 = s.1 C 3 ∧ t.1 C 10 = s.1 C 10 ∧ t.1 170 16 = s.1 170 16 ∧ s.1 170 5 + 1 ≤ t.1 170 5 ∧ s.1 170 14 ≤ t.1 170 14) → t.1 (C + 1) m = 1 → wr (n + 400) tb_M139 26 [(4, vi 0), (3, vi (((m : Nat) : Int))), (2, vi (s.1 170 14)), (0, .ref 170), (1, vi deep)] [] t (SP C y m k0 1 s) := by
    intro w
    induction w using Nat.strongRecOn with | ind w ih => ?_
    intro t hw htR htP htB htC ht2 htm htn htc
    have hx1 := LX_nums htP
    refine wr_n (pc2 := 29) (lv2 := [(4, vi 0), (3, vi (((m : Nat) : Int))), (2, vi (s.1 170 14)), (0, .ref 170), (1, vi deep)]) (st2 := [.ref 8, .ref 170]) 2 (fun _ _ => rfl) ?_
    refine wr_call1 (args := [.ref 8]) (rest := []) rfl rfl rfl rfl (Nat.le_of_ble_eq_true rfl) (cr_mono (c_is (d := n + 395) isT_8 _ htR (LX_of htP)) ?_)
    rintro s2 out ⟨b, rfl, rfl | ⟨rfl, hj1, hl1⟩, he1⟩
    · refine ⟨_, rfl, ?_⟩
      rw [he1]
      show wr (n + 400) tb_M139 32 [(4, vi 0), (3, vi (((m : Nat) : Int))), (2, vi (s.1 170 14)), (0, .ref 170), (1, vi deep)] [vi 0] t _
      refine wr_n (pc2 := 58) (lv2 := [(4, vi 0), (3, vi (((m : Nat) : Int))), (2, vi (s.1 170 14)), (0, .ref 170), (1, vi deep)]) (st2 := []) 1 (fun _ _ => rfl) ?_
      refine lp2 _ _ _ k0 0 rfl htR htP htB htC ht2 htm (by omega) htc (fun _ => rfl) ?_
      exact fun _ => ⟨SH_nil, fun hq9 => absurd hq9 (by omega)⟩
    · refine ⟨_, rfl, ?_⟩
      rw [he1]
      show wr (n + 400) tb_M139 32 [(4, vi 0), (3, vi (((m : Nat) : Int))), (2, vi (s.1 170 14)), (0, .ref 170), (1, vi deep)] [vi 1] t _
      have hg1 : 1 ≤ t.1 170 4 ∧ t.1 170 5 + 3 = t.1 170 6 := ⟨by omega, hl1⟩
      clear hj1 hl1
      refine wr_n (pc2 := 36) (lv2 := [(4, vi 0), (3, vi (((m : Nat) : Int))), (2, vi (s.1 170 14)), (0, .ref 170), (1, vi deep)]) (st2 := [.ref 170]) 2 (fun _ _ => rfl) ?_
      refine wr_call1 (args := []) (rest := []) rfl rfl rfl rfl (Nat.le_of_ble_eq_true rfl) (cr_mono (x_step (d := n + 394) hC _ htR htP) ?_)
      rintro s4 out ⟨rfl, hc3, hR3, hBk3, hK3, hf3⟩
      · refine ⟨_, rfl, ?_⟩
        show wr (n + 400) tb_M139 39 [(4, vi 0), (3, vi (((m : Nat) : Int))), (2, vi (s.1 170 14)), (0, .ref 170), (1, vi deep)] [] s4 _
        obtain ⟨hu3, hk3⟩ := id hK3
        replace hf3 : t.1 170 6 ≤ s4.1 170 5 := hf3
        have hm3 : s4.1 C 1 = ((m + 1 : Nat) : Int) := by omega
        have hB6 : BX C (gn y) s.1 s4.1 := BX_tr hC htB hBk3
        have hP6 : PI C y s4.1 := PI_BX hC hP hB6
        have hQ6 : CS s.1 s4.1 := CS_tr htC (KL_CS hK3)
        have hz6 : s4.2 = s.2 := hc3.trans ht2
        have hx6 := LX_nums hP6
        have hF6 : t.1 170 5 + 3 ≤ s4.1 170 5 ∧ s4.1 170 14 = t.1 170 14 ∧ s4.1 170 16 = t.1 170 16 ∧ s4.1 170 21 = t.1 170 21 ∧ s4.1 C 3 = t.1 C 3 ∧ s4.1 C 10 = t.1 C 10 ∧ 0 ≤ s4.1 170 5 ∧ s4.1 170 5 ≤ s4.1 170 6 ∧ s4.1 170 6 ≤ 2000 := by omega
        clear hk3 hf3 hx6
        refine wr_n (pc2 := 41) (lv2 := [(4, vi 0), (3, vi (((m : Nat) : Int))), (2, vi (s.1 170 14)), (0, .ref 170), (1, vi deep)]) (st2 := [vi 0, .ref 170]) 2 (fun _ _ => rfl) ?_
        refine wr_call1 (args := [vi 0]) (rest := []) rfl rfl rfl rfl (Nat.le_of_ble_eq_true rfl) (cr_mono (x_variable (d := n + 392) (t := 0) hC _ hR3 hP6 (by unfold i32; omega)) ?_)
        rintro s8 out ⟨b, rfl, hc7, ⟨rfl, hF7⟩ | ⟨rfl, hR7, hBk7, hu7, hf7, hg7, hn7⟩⟩
        · refine ⟨_, rfl, ?_⟩
          show wr (n + 400) tb_M139 44 [(4, vi 0), (3, vi (((m : Nat) : Int))), (2, vi (s.1 170 14)), (0, .ref 170), (1, vi deep)] [vi 0] s8 _
          refine wr_n (pc2 := 57) (lv2 := [(4, vi 0), (3, vi (((m : Nat) : Int))), (2, vi (s.1 170 14)), (0, .ref 170), (1, vi deep)]) (st2 := [vi 0]) 2 (fun _ _ => rfl) ?_
          refine wr_end (fun _ _ => rfl) ?_
          exact ⟨0, rfl, hc7.trans hz6, Or.inl ⟨rfl, FR_tr (BX_FR hB6) hF7⟩⟩
        · refine ⟨_, rfl, ?_⟩
          show wr (n + 400) tb_M139 44 [(4, vi 0), (3, vi (((m : Nat) : Int))), (2, vi (s.1 170 14)), (0, .ref 170), (1, vi deep)] [vi 1] s8 _
          have hk7 : s8.1 170 16 = s4.1 170 16 ∧ s8.1 170 21 = s4.1 170 21 ∧ s8.1 C 1 = s4.1 C 1 ∧ s8.1 C 3 = s4.1 C 3 ∧ s8.1 C 10 = s4.1 C 10 := ⟨hu7 _ _ (by omega) (by omega) (by omega) (by omega), hu7 _ _ (by omega) (by omega) (by omega) (by omega), hu7 _ _ (by omega) (by omega) (by omega) (by omega), hu7 _ _ (by omega) (by omega) (by omega) (by omega), hu7 _ _ (by omega) (by omega) (by omega) (by omega)⟩
          have hm7 : s8.1 C 1 = ((m + 1 : Nat) : Int) := by omega
          have hB11 : BX C (gn y) s.1 s8.1 := BX_tr hC hB6 hBk7
          have hP11 : PI C y s8.1 := PI_BX hC hP hB11
          have hQ11 : CS s.1 s8.1 := CS_tr hQ6 (CS_eq (hu7 170 26 (by omega) (by omega) (by omega) (by omega)))
          have hz11 : s8.2 = s.2 := hc7.trans hz6
          have hx11 := LX_nums hP11
          have hF11 : t.1 170 5 + 4 ≤ s8.1 170 5 ∧ t.1 170 14 ≤ s8.1 170 14 ∧ s8.1 170 16 = t.1 170 16 ∧ s8.1 170 21 = t.1 170 21 ∧ s8.1 C 3 = t.1 C 3 ∧ s8.1 C 10 = t.1 C 10 ∧ 0 ≤ s8.1 170 5 ∧ s8.1 170 5 ≤ s8.1 170 6 ∧ s8.1 170 6 ≤ 2000 := by omega
          clear hk7 hf7 hg7 hn7 hx11 hF6
          refine wr_n (pc2 := 50) (lv2 := [(4, vi 0), (3, vi (((m : Nat) : Int))), (2, vi (s.1 170 14)), (0, .ref 170), (1, vi deep)]) (st2 := [.ref 30, .ref 170]) 3 (fun _ _ => rfl) ?_
          refine wr_call1 (args := [.ref 30]) (rest := []) rfl rfl rfl rfl (Nat.le_of_ble_eq_true rfl) (cr_mono (x_take (d := n + 393) isT_30 hC _ hR7 hP11) ?_)
          rintro s13 out ⟨b, rfl, hc12, ⟨rfl, hF12⟩ | ⟨rfl, hR12, hBk12, hK12, hf12⟩⟩
          · refine ⟨_, rfl, ?_⟩
            show wr (n + 400) tb_M139 53 [(4, vi 0), (3, vi (((m : Nat) : Int))), (2, vi (s.1 170 14)), (0, .ref 170), (1, vi deep)] [vi 0] s13 _
            refine wr_n (pc2 := 57) (lv2 := [(4, vi 0), (3, vi (((m : Nat) : Int))), (2, vi (s.1 170 14)), (0, .ref 170), (1, vi deep)]) (st2 := [vi 0]) 2 (fun _ _ => rfl) ?_
            refine wr_end (fun _ _ => rfl) ?_
            exact ⟨0, rfl, hc12.trans hz11, Or.inl ⟨rfl, FR_tr (BX_FR hB11) hF12⟩⟩
          · refine ⟨_, rfl, ?_⟩
            show wr (n + 400) tb_M139 53 [(4, vi 0), (3, vi (((m : Nat) : Int))), (2, vi (s.1 170 14)), (0, .ref 170), (1, vi deep)] [vi 1] s13 _
            obtain ⟨hu12, hk12⟩ := id hK12
            replace hf12 : s8.1 170 5 + 1 ≤ s13.1 170 5 := hf12
            have hm12 : s13.1 C 1 = ((m + 1 : Nat) : Int) := by omega
            have hB16 : BX C (gn y) s.1 s13.1 := BX_tr hC hB11 hBk12
            have hP16 : PI C y s13.1 := PI_BX hC hP hB16
            have hQ16 : CS s.1 s13.1 := CS_tr hQ11 (KL_CS hK12)
            have hz16 : s13.2 = s.2 := hc12.trans hz11
            have hx16 := LX_nums hP16
            have hF16 : t.1 170 5 + 5 ≤ s13.1 170 5 ∧ s13.1 170 14 = s8.1 170 14 ∧ s13.1 170 16 = t.1 170 16 ∧ s13.1 170 21 = t.1 170 21 ∧ s13.1 C 3 = t.1 C 3 ∧ s13.1 C 10 = t.1 C 10 ∧ 0 ≤ s13.1 170 5 ∧ s13.1 170 5 ≤ s13.1 170 6 ∧ s13.1 170 6 ≤ 2000 := by omega
            clear hk12 hf12 hx16
            refine wr_n (pc2 := 26) (lv2 := [(4, vi 0), (3, vi (((m : Nat) : Int))), (2, vi (s.1 170 14)), (0, .ref 170), (1, vi deep)]) (st2 := []) 1 (fun _ _ => rfl) ?_
            refine ih _ ?_ _ rfl hR12 hP16 hB16 hQ16 hz16 hm12 (by omega) ((BX_code hC (BX_tr hC (BX_tr hC hBk3 hBk7) hBk12) (by omega)).trans htc)
            omega
  refine cr_of (M := tb_M139) rfl (Nat.le_of_ble_eq_true rfl) ?_
  show wr (n + 400) tb_M139 0 [(0, .ref 170), (1, vi deep)] [] s _
  refine wr_n (pc2 := 4) (lv2 := [(0, .ref 170), (1, vi deep)]) (st2 := [.ref 28, .ref 170]) 2 (fun _ _ => rfl) ?_
  refine wr_call1 (args := [.ref 28]) (rest := []) rfl rfl rfl rfl (Nat.le_of_ble_eq_true rfl) (cr_mono (x_take (d := n + 393) isT_28 hC _ hR hP) ?_)
  rintro s2 out ⟨b, rfl, hc1, ⟨rfl, hF1⟩ | ⟨rfl, hR1, hBk1, hK1, hf1⟩⟩
  · refine ⟨_, rfl, ?_⟩
    show wr (n + 400) tb_M139 7 [(0, .ref 170), (1, vi deep)] [vi 0] s2 _
    refine wr_n (pc2 := 11) (lv2 := [(0, .ref 170), (1, vi deep)]) (st2 := [vi 0]) 2 (fun _ _ => rfl) ?_
    refine wr_end (fun _ _ => rfl) ?_
    exact ⟨0, rfl, hc1.trans rfl, Or.inl ⟨rfl, FR_tr (BX_FR (PI_rf hP)) hF1⟩⟩
  · refine ⟨_, rfl, ?_⟩
    show wr (n + 400) tb_M139 7 [(0, .ref 170), (1, vi deep)] [vi 1] s2 _
    obtain ⟨hu1, hk1⟩ := id hK1
    replace hf1 : s.1 170 5 + 1 ≤ s2.1 170 5 := hf1
    have hm1 : s2.1 C 1 = ((m : Nat) : Int) := by omega
    have hB5 : BX C (gn y) s.1 s2.1 := BX_tr hC (PI_rf hP) hBk1
    have hP5 : PI C y s2.1 := PI_BX hC hP hB5
    have hQ5 : CS s.1 s2.1 := CS_tr (CS_rf (r := s.1)) (KL_CS hK1)
    have hz5 : s2.2 = s.2 := hc1.trans rfl
    have hx5 := LX_nums hP5
    have hF5 : s.1 170 5 + 1 ≤ s2.1 170 5 ∧ s2.1 170 14 = s.1 170 14 ∧ s2.1 170 16 = s.1 170 16 ∧ s2.1 170 21 = s.1 170 21 ∧ s2.1 C 3 = s.1 C 3 ∧ s2.1 C 10 = s.1 C 10 ∧ 0 ≤ s2.1 170 5 ∧ s2.1 170 5 ≤ s2.1 170 6 ∧ s2.1 170 6 ≤ 2000 := by omega
    clear hk1 hf1 hx5
    refine wr_n (pc2 := 13) (lv2 := [(0, .ref 170), (1, vi deep)]) (st2 := [.ref 170]) 2 (fun _ _ => rfl) ?_
    refine wr_get (v := vi (s2.1 170 14)) rfl rfl rfl (by decide) rfl fun h6 => ?_
    have h6 : -2147483648 ≤ s2.1 170 14 ∧ s2.1 170 14 ≤ 2147483647 := h6
    show wr (n + 400) tb_M139 16 [(0, .ref 170), (1, vi deep)] [vi (s2.1 170 14)] s2 _
    rw [show s2.1 170 14 = s.1 170 14 by omega]
    show wr (n + 400) tb_M139 16 [(0, .ref 170), (1, vi deep)] [vi (s.1 170 14)] s2 _
    refine wr_n (pc2 := 19) (lv2 := [(2, vi (s.1 170 14)), (0, .ref 170), (1, vi deep)]) (st2 := [vi 1, .ref 170]) 3 (fun _ _ => rfl) ?_
    refine wr_call1 (args := [vi 1]) (rest := []) rfl rfl rfl rfl (Nat.le_of_ble_eq_true rfl) (cr_mono (x_put (d := n + 399) (m := m) (v := 1) hC _ hR1 hP5 (by unfold i32; omega) hm1 (by omega)) ?_)
    rintro s8 out ⟨rfl, hc7, hR7, hBk7, hK7, hm7, hp7, hda7⟩
    · refine ⟨_, rfl, ?_⟩
      show wr (n + 400) tb_M139 22 [(2, vi (s.1 170 14)), (0, .ref 170), (1, vi deep)] [vi (((m : Nat) : Int))] s8 _
      obtain ⟨hu7, hk7⟩ := id hK7
      have hB10 : BX C (gn y) s.1 s8.1 := BX_tr hC hB5 hBk7
      have hP10 : PI C y s8.1 := PI_BX hC hP hB10
      have hQ10 : CS s.1 s8.1 := CS_tr hQ5 (KC_CS hK7)
      have hz10 : s8.2 = s.2 := hc7.trans hz5
      have hF10 : s8.1 170 4 = s2.1 170 4 ∧ s8.1 170 5 = s2.1 170 5 ∧ s8.1 170 6 = s2.1 170 6 ∧ s8.1 170 7 = s2.1 170 7 ∧ s8.1 170 14 = s.1 170 14 ∧ s8.1 170 16 = s.1 170 16 ∧ s8.1 170 21 = s.1 170 21 ∧ s8.1 C 3 = s.1 C 3 ∧ s8.1 C 10 = s.1 C 10 ∧ s.1 170 5 + 1 ≤ s8.1 170 5 ∧ 0 ≤ s8.1 170 5 ∧ s8.1 170 5 ≤ s8.1 170 6 ∧ s8.1 170 6 ≤ 2000 := by omega
      clear hk7 hp7 hF5
      refine wr_n (pc2 := 26) (lv2 := [(4, vi 0), (3, vi (((m : Nat) : Int))), (2, vi (s.1 170 14)), (0, .ref 170), (1, vi deep)]) (st2 := []) 3 (fun _ _ => rfl) ?_
      exact lp1 _ _ rfl hR7 hP10 hB10 hQ10 hz10 hm7 (by omega) hda7
