set_option maxHeartbeats 20000000 in
set_option maxRecDepth 100000 in
theorem p_body {d : Nat} (hX : CX 340) (hSt : CSt 62) : CBo d := by
  intro C y m k0 s hC hR hP hMB hm hN hk0 hko
  unfold NS at hN
  have hx0 := LX_nums hP
  have hgt := gt_of hP
  have lp2 : ∀ (w : Nat) (t : rS) (mt kt : Nat), (2000 - t.1 170 5).toNat = w → RF t.1 → PI C y t.1 → BX C (gn y) s.1 t.1 → CS s.1 t.1 → t.2 = s.2 → t.1 C 1 = ((mt : Nat) : Int) → (s.1 C 3 ≤ t.1 C 3 ∧ t.1 C 3 - s.1 C 3 ≤ (mt : Int) - m ∧ (mt : Int) - m ≤ 12 * (t.1 170 5 - s.1 170 5) ∧ s.1 C 10 ≤ t.1 C 10 ∧ t.1 C 10 - s.1 C 10 ≤ t.1 170 5 - s.1 170 5 ∧ s.1 170 16 ≤ t.1 170 16 ∧ t.1 170 16 - s.1 170 16 ≤ t.1 170 5 - s.1 170 5 ∧ m ≤ mt ∧ k0 ≤ kt ∧ s.1 170 5 + 3 * kt + 1 ≤ t.1 170 5 + 3 * k0) → (t.1 170 21 < 0 → m = mt ∨ SG (ga y) (t.1 (C + 1)) (gG y) m mt 0 0 ((t.1 170 5).toNat) (gn y) (SZ (gk y) (t.1 170 26).toNat k0 kt)) → wr (d + 469) tb_M159 44 [(0, .ref 170)] [] t (BP C y m k0 1 s) := by
    intro w
    induction w using Nat.strongRecOn with | ind w ih => ?_
    intro t mt kt hw htR htP htB htC ht2 htm htn htE
    have hx1 := LX_nums htP
    refine wr_n (pc2 := 48) (lv2 := [(0, .ref 170)]) (st2 := [.ref 90, .ref 170]) 2 (fun _ _ => rfl) ?_
    refine wr_call1 (args := [.ref 90]) (rest := []) rfl rfl rfl rfl (Nat.le_of_ble_eq_true rfl) (cr_mono (c_is (d := d + 464) isT_90 _ htR (LX_of htP)) ?_)
    rintro s2 out ⟨b, rfl, rfl | ⟨rfl, hj1, hl1⟩, he1⟩
    · refine ⟨_, rfl, ?_⟩
      rw [he1]
      show wr (d + 469) tb_M159 51 [(0, .ref 170)] [vi 0] t _
      refine wr_n (pc2 := 56) (lv2 := [(0, .ref 170)]) (st2 := [vi 0, .ref 170]) 3 (fun _ _ => rfl) ?_
      refine wr_call1 (args := [vi 0]) (rest := []) rfl rfl rfl rfl (Nat.le_of_ble_eq_true rfl) (cr_mono ((cr_up (d := 462) (by omega) (hSt C y mt kt _ 0 hC htR htP (BX_mb htB hMB) htm (by unfold NS; omega) (by omega) trivial (by omega) hko))) ?_)
      rintro s4 out ⟨b, rfl, hc3, ⟨rfl, hF3⟩ | ⟨rfl, hR3, hBk3, hS3, hN3, w3, k3, hm3, hkk3, hE3⟩⟩
      · refine ⟨_, rfl, ?_⟩
        show wr (d + 469) tb_M159 59 [(0, .ref 170)] [vi 0] s4 _
        refine wr_n (pc2 := 63) (lv2 := [(0, .ref 170)]) (st2 := [vi 0]) 2 (fun _ _ => rfl) ?_
        refine wr_end (fun _ _ => rfl) ?_
        exact ⟨0, rfl, hc3.trans ht2, Or.inl ⟨rfl, FR_tr (BX_FR htB) hF3⟩⟩
      · refine ⟨_, rfl, ?_⟩
        show wr (d + 469) tb_M159 59 [(0, .ref 170)] [vi 1] s4 _
        unfold NXS at hN3
        have hB7 : BX C (gn y) s.1 s4.1 := BX_tr hC htB hBk3
        have hP7 : PI C y s4.1 := PI_BX hC hP hB7
        have hQ7 : CS s.1 s4.1 := CS_tr htC hS3
        have hz7 : s4.2 = s.2 := hc3.trans ht2
        have hF7 := LX_nums hP7
        refine wr_n (pc2 := 44) (lv2 := [(0, .ref 170)]) (st2 := []) 1 (fun _ _ => rfl) ?_
        refine ih _ ?_ _ _ k3 rfl hR3 hP7 hB7 hQ7 hz7 hm3 (by omega) ?_
        · omega
        · intro hpar
          right
          have hnew := (SG_mono (T2 := (s4.1 170 5).toNat) (Z2 := SZ (gk y) (s4.1 170 26).toNat k0 k3) (by omega) (SZ_S (CS_rf (r := s4.1)) (by omega) (by omega)) (hE3 hpar))
          rcases htE (BX_po hBk3 hpar) with hmm | hsg
          · subst hmm; exact hnew
          · exact SG_seq (by omega) (by omega) (SG_mono (by omega) (SZ_S hS3 (by omega) (by omega)) (SG_agr (fun p hp1 hp => (BX_code hC hBk3 (by omega))) hsg)) (SG_SH hnew)
    · refine ⟨_, rfl, ?_⟩
      rw [he1]
      show wr (d + 469) tb_M159 51 [(0, .ref 170)] [vi 1] t _
      have hg1 : 1 ≤ t.1 170 4 ∧ t.1 170 5 + 6 = t.1 170 6 := ⟨by omega, hl1⟩
      clear hj1 hl1
      refine wr_n (pc2 := 65) (lv2 := [(0, .ref 170)]) (st2 := [.ref 170]) 2 (fun _ _ => rfl) ?_
      refine wr_call1 (args := []) (rest := []) rfl rfl rfl rfl (Nat.le_of_ble_eq_true rfl) (cr_mono (x_step (d := d + 463) hC _ htR htP) ?_)
      rintro s9 out ⟨rfl, hc8, hR8, hBk8, hK8, hf8⟩
      · refine ⟨_, rfl, ?_⟩
        show wr (d + 469) tb_M159 68 [(0, .ref 170)] [] s9 _
        obtain ⟨hu8, hk8⟩ := id hK8
        replace hf8 : t.1 170 6 ≤ s9.1 170 5 := hf8
        have hm8 : s9.1 C 1 = ((mt : Nat) : Int) := by omega
        have hB11 : BX C (gn y) s.1 s9.1 := BX_tr hC htB hBk8
        have hP11 : PI C y s9.1 := PI_BX hC hP hB11
        have hQ11 : CS s.1 s9.1 := CS_tr htC (KL_CS hK8)
        have hz11 : s9.2 = s.2 := hc8.trans ht2
        have hx11 := LX_nums hP11
        have hF11 : t.1 170 5 + 6 ≤ s9.1 170 5 ∧ s9.1 170 14 = t.1 170 14 ∧ s9.1 170 16 = t.1 170 16 ∧ s9.1 170 21 = t.1 170 21 ∧ s9.1 C 3 = t.1 C 3 ∧ s9.1 C 10 = t.1 C 10 ∧ 0 ≤ s9.1 170 5 ∧ s9.1 170 5 ≤ s9.1 170 6 ∧ s9.1 170 6 ≤ 2000 := by omega
        clear hk8 hf8 hx11
        refine wr_n (pc2 := 71) (lv2 := [(0, .ref 170)]) (st2 := [vi 0, vi 0, .ref 170]) 3 (fun _ _ => rfl) ?_
        refine wr_call1 (args := [vi 0, vi 0]) (rest := []) rfl rfl rfl rfl (Nat.le_of_ble_eq_true rfl) (cr_mono ((cr_up (d := 360) (by omega) (hX C y mt _ 0 0 hC hR8 hP11 (BX_mb hB11 hMB) hm8 (by unfold NE; omega) (by omega)))) ?_)
        rintro s13 out ⟨b, rfl, hc12, ⟨rfl, hF12⟩ | ⟨rfl, hR12, hBk12, hS12, hN12, hV12, w12, hm12, hE12⟩⟩
        · refine ⟨_, rfl, ?_⟩
          show wr (d + 469) tb_M159 74 [(0, .ref 170)] [vi 0] s13 _
          refine wr_n (pc2 := 101) (lv2 := [(0, .ref 170)]) (st2 := [vi 0]) 2 (fun _ _ => rfl) ?_
          refine wr_end (fun _ _ => rfl) ?_
          exact ⟨0, rfl, hc12.trans hz11, Or.inl ⟨rfl, FR_tr (BX_FR hB11) hF12⟩⟩
        · refine ⟨_, rfl, ?_⟩
          show wr (d + 469) tb_M159 74 [(0, .ref 170)] [vi 1] s13 _
          unfold NXE at hN12
          have hB16 : BX C (gn y) s.1 s13.1 := BX_tr hC hB11 hBk12
          have hP16 : PI C y s13.1 := PI_BX hC hP hB16
          have hQ16 : CS s.1 s13.1 := CS_tr hQ11 hS12
          have hz16 : s13.2 = s.2 := hc12.trans hz11
          have hF16 := LX_nums hP16
          refine wr_n (pc2 := 80) (lv2 := [(0, .ref 170)]) (st2 := [.ref 30, .ref 170]) 3 (fun _ _ => rfl) ?_
          refine wr_call1 (args := [.ref 30]) (rest := []) rfl rfl rfl rfl (Nat.le_of_ble_eq_true rfl) (cr_mono (x_take (d := d + 462) isT_30 hC _ hR12 hP16) ?_)
          rintro s18 out ⟨b, rfl, hc17, ⟨rfl, hF17⟩ | ⟨rfl, hR17, hBk17, hK17, hf17⟩⟩
          · refine ⟨_, rfl, ?_⟩
            show wr (d + 469) tb_M159 83 [(0, .ref 170)] [vi 0] s18 _
            refine wr_n (pc2 := 101) (lv2 := [(0, .ref 170)]) (st2 := [vi 0]) 2 (fun _ _ => rfl) ?_
            refine wr_end (fun _ _ => rfl) ?_
            exact ⟨0, rfl, hc17.trans hz16, Or.inl ⟨rfl, FR_tr (BX_FR hB16) hF17⟩⟩
          · refine ⟨_, rfl, ?_⟩
            show wr (d + 469) tb_M159 83 [(0, .ref 170)] [vi 1] s18 _
            obtain ⟨hu17, hk17⟩ := id hK17
            replace hf17 : s13.1 170 5 + 1 ≤ s18.1 170 5 := hf17
            have hm17 : s18.1 C 1 = ((w12 : Nat) : Int) := by omega
            have hB21 : BX C (gn y) s.1 s18.1 := BX_tr hC hB16 hBk17
            have hP21 : PI C y s18.1 := PI_BX hC hP hB21
            have hQ21 : CS s.1 s18.1 := CS_tr hQ16 (KL_CS hK17)
            have hz21 : s18.2 = s.2 := hc17.trans hz16
            have hx21 := LX_nums hP21
            have hF21 : s13.1 170 5 + 1 ≤ s18.1 170 5 ∧ s18.1 170 14 = s13.1 170 14 ∧ s18.1 170 16 = s13.1 170 16 ∧ s18.1 170 21 = s13.1 170 21 ∧ s18.1 C 3 = s13.1 C 3 ∧ s18.1 C 10 = s13.1 C 10 ∧ 0 ≤ s18.1 170 5 ∧ s18.1 170 5 ≤ s18.1 170 6 ∧ s18.1 170 6 ≤ 2000 := by omega
            clear hk17 hf17 hx21
            refine wr_n (pc2 := 90) (lv2 := [(0, .ref 170)]) (st2 := [.ref 32, .ref 170]) 3 (fun _ _ => rfl) ?_
            refine wr_call1 (args := [.ref 32]) (rest := []) rfl rfl rfl rfl (Nat.le_of_ble_eq_true rfl) (cr_mono (x_take (d := d + 462) isT_32 hC _ hR17 hP21) ?_)
            rintro s23 out ⟨b, rfl, hc22, ⟨rfl, hF22⟩ | ⟨rfl, hR22, hBk22, hK22, hf22⟩⟩
            · refine ⟨_, rfl, ?_⟩
              show wr (d + 469) tb_M159 93 [(0, .ref 170)] [vi 0] s23 _
              refine wr_n (pc2 := 101) (lv2 := [(0, .ref 170)]) (st2 := [vi 0]) 2 (fun _ _ => rfl) ?_
              refine wr_end (fun _ _ => rfl) ?_
              exact ⟨0, rfl, hc22.trans hz21, Or.inl ⟨rfl, FR_tr (BX_FR hB21) hF22⟩⟩
            · refine ⟨_, rfl, ?_⟩
              show wr (d + 469) tb_M159 93 [(0, .ref 170)] [vi 1] s23 _
              obtain ⟨hu22, hk22⟩ := id hK22
              replace hf22 : s18.1 170 5 + 1 ≤ s23.1 170 5 := hf22
              have hm22 : s23.1 C 1 = ((w12 : Nat) : Int) := by omega
              have hB26 : BX C (gn y) s.1 s23.1 := BX_tr hC hB21 hBk22
              have hP26 : PI C y s23.1 := PI_BX hC hP hB26
              have hQ26 : CS s.1 s23.1 := CS_tr hQ21 (KL_CS hK22)
              have hz26 : s23.2 = s.2 := hc22.trans hz21
              have hx26 := LX_nums hP26
              have hF26 : s13.1 170 5 + 2 ≤ s23.1 170 5 ∧ s23.1 170 14 = s13.1 170 14 ∧ s23.1 170 16 = s13.1 170 16 ∧ s23.1 170 21 = s13.1 170 21 ∧ s23.1 C 3 = s13.1 C 3 ∧ s23.1 C 10 = s13.1 C 10 ∧ 0 ≤ s23.1 170 5 ∧ s23.1 170 5 ≤ s23.1 170 6 ∧ s23.1 170 6 ≤ 2000 := by omega
              clear hk22 hf22 hx26 hF21
              refine wr_n (pc2 := 101) (lv2 := [(0, .ref 170)]) (st2 := [vi 1]) 3 (fun _ _ => rfl) ?_
              refine wr_end (fun _ _ => rfl) ?_
              refine ⟨1, rfl, hz26, Or.inr ⟨rfl, hR22, hB26, hQ26, by unfold NXB; omega, w12, kt, hm22, by omega, ?_⟩⟩
              intro hpar
              rcases htE (BX_po (BX_tr hC (BX_tr hC (BX_tr hC hBk8 hBk12) hBk17) hBk22) hpar) with hmm | hsg
              · subst hmm
                exact (SG_mono (by omega) (SZ_E (CS_tr (KL_CS hK17) (KL_CS hK22))) (SG_agr (fun p hp1 hp => (BX_code hC (BX_tr hC hBk17 hBk22) (by omega))) (hE12 0 (by omega))))
              · exact (SG_seq (by omega) (by omega) (SG_mono (by omega) (SZ_S (CS_tr (CS_tr (CS_tr (KL_CS hK8) hS12) (KL_CS hK17)) (KL_CS hK22)) (by omega) (by omega)) (SG_agr (fun p hp1 hp => (BX_code hC (BX_tr hC (BX_tr hC (BX_tr hC hBk8 hBk12) hBk17) hBk22) (by omega))) hsg)) (SG_SH (SG_mono (by omega) (SZ_E (CS_tr (KL_CS hK17) (KL_CS hK22))) (SG_agr (fun p hp1 hp => (BX_code hC (BX_tr hC hBk17 hBk22) (by omega))) (hE12 0 (by omega))))))
  have lp1 : ∀ (w : Nat) (t : rS), (2000 - t.1 170 5).toNat = w → RF t.1 → PI C y t.1 → BX C (gn y) s.1 t.1 → CS s.1 t.1 → t.2 = s.2 → t.1 C 1 = ((m : Nat) : Int) → (t.1 C 3 = s.1 C 3 ∧ t.1 C 10 = s.1 C 10 ∧ t.1 170 16 = s.1 170 16 ∧ s.1 170 5 + 1 ≤ t.1 170 5) → wr (d + 469) tb_M159 12 [(0, .ref 170)] [] t (BP C y m k0 1 s) := by
    intro w
    induction w using Nat.strongRecOn with | ind w ih => ?_
    intro t hw htR htP htB htC ht2 htm htn
    have hx1 := LX_nums htP
    refine wr_n (pc2 := 15) (lv2 := [(0, .ref 170)]) (st2 := [.ref 8, .ref 170]) 2 (fun _ _ => rfl) ?_
    refine wr_call1 (args := [.ref 8]) (rest := []) rfl rfl rfl rfl (Nat.le_of_ble_eq_true rfl) (cr_mono (c_is (d := d + 464) isT_8 _ htR (LX_of htP)) ?_)
    rintro s2 out ⟨b, rfl, rfl | ⟨rfl, hj1, hl1⟩, he1⟩
    · refine ⟨_, rfl, ?_⟩
      rw [he1]
      show wr (d + 469) tb_M159 18 [(0, .ref 170)] [vi 0] t _
      refine wr_n (pc2 := 44) (lv2 := [(0, .ref 170)]) (st2 := []) 1 (fun _ _ => rfl) ?_
      exact lp2 _ _ _ k0 rfl htR htP htB htC ht2 htm (by omega) (fun _ => .inl rfl)
    · refine ⟨_, rfl, ?_⟩
      rw [he1]
      show wr (d + 469) tb_M159 18 [(0, .ref 170)] [vi 1] t _
      have hg1 : 1 ≤ t.1 170 4 ∧ t.1 170 5 + 3 = t.1 170 6 := ⟨by omega, hl1⟩
      clear hj1 hl1
      refine wr_n (pc2 := 22) (lv2 := [(0, .ref 170)]) (st2 := [.ref 170]) 2 (fun _ _ => rfl) ?_
      refine wr_call1 (args := []) (rest := []) rfl rfl rfl rfl (Nat.le_of_ble_eq_true rfl) (cr_mono (x_step (d := d + 463) hC _ htR htP) ?_)
      rintro s4 out ⟨rfl, hc3, hR3, hBk3, hK3, hf3⟩
      · refine ⟨_, rfl, ?_⟩
        show wr (d + 469) tb_M159 25 [(0, .ref 170)] [] s4 _
        obtain ⟨hu3, hk3⟩ := id hK3
        replace hf3 : t.1 170 6 ≤ s4.1 170 5 := hf3
        have hm3 : s4.1 C 1 = ((m : Nat) : Int) := by omega
        have hB6 : BX C (gn y) s.1 s4.1 := BX_tr hC htB hBk3
        have hP6 : PI C y s4.1 := PI_BX hC hP hB6
        have hQ6 : CS s.1 s4.1 := CS_tr htC (KL_CS hK3)
        have hz6 : s4.2 = s.2 := hc3.trans ht2
        have hx6 := LX_nums hP6
        have hF6 : t.1 170 5 + 3 ≤ s4.1 170 5 ∧ s4.1 170 14 = t.1 170 14 ∧ s4.1 170 16 = t.1 170 16 ∧ s4.1 170 21 = t.1 170 21 ∧ s4.1 C 3 = t.1 C 3 ∧ s4.1 C 10 = t.1 C 10 ∧ 0 ≤ s4.1 170 5 ∧ s4.1 170 5 ≤ s4.1 170 6 ∧ s4.1 170 6 ≤ 2000 := by omega
        clear hk3 hf3 hx6
        refine wr_n (pc2 := 27) (lv2 := [(0, .ref 170)]) (st2 := [vi 0, .ref 170]) 2 (fun _ _ => rfl) ?_
        refine wr_call1 (args := [vi 0]) (rest := []) rfl rfl rfl rfl (Nat.le_of_ble_eq_true rfl) (cr_mono (x_variable (d := d + 461) (t := 0) hC _ hR3 hP6 (by unfold i32; omega)) ?_)
        rintro s8 out ⟨b, rfl, hc7, ⟨rfl, hF7⟩ | ⟨rfl, hR7, hBk7, hu7, hf7, hg7, hn7⟩⟩
        · refine ⟨_, rfl, ?_⟩
          show wr (d + 469) tb_M159 30 [(0, .ref 170)] [vi 0] s8 _
          refine wr_n (pc2 := 43) (lv2 := [(0, .ref 170)]) (st2 := [vi 0]) 2 (fun _ _ => rfl) ?_
          refine wr_end (fun _ _ => rfl) ?_
          exact ⟨0, rfl, hc7.trans hz6, Or.inl ⟨rfl, FR_tr (BX_FR hB6) hF7⟩⟩
        · refine ⟨_, rfl, ?_⟩
          show wr (d + 469) tb_M159 30 [(0, .ref 170)] [vi 1] s8 _
          have hk7 : s8.1 170 16 = s4.1 170 16 ∧ s8.1 170 21 = s4.1 170 21 ∧ s8.1 C 1 = s4.1 C 1 ∧ s8.1 C 3 = s4.1 C 3 ∧ s8.1 C 10 = s4.1 C 10 := ⟨hu7 _ _ (by omega) (by omega) (by omega) (by omega), hu7 _ _ (by omega) (by omega) (by omega) (by omega), hu7 _ _ (by omega) (by omega) (by omega) (by omega), hu7 _ _ (by omega) (by omega) (by omega) (by omega), hu7 _ _ (by omega) (by omega) (by omega) (by omega)⟩
          have hm7 : s8.1 C 1 = ((m : Nat) : Int) := by omega
          have hB11 : BX C (gn y) s.1 s8.1 := BX_tr hC hB6 hBk7
          have hP11 : PI C y s8.1 := PI_BX hC hP hB11
          have hQ11 : CS s.1 s8.1 := CS_tr hQ6 (CS_eq (hu7 170 26 (by omega) (by omega) (by omega) (by omega)))
          have hz11 : s8.2 = s.2 := hc7.trans hz6
          have hx11 := LX_nums hP11
          have hF11 : t.1 170 5 + 4 ≤ s8.1 170 5 ∧ t.1 170 14 ≤ s8.1 170 14 ∧ s8.1 170 16 = t.1 170 16 ∧ s8.1 170 21 = t.1 170 21 ∧ s8.1 C 3 = t.1 C 3 ∧ s8.1 C 10 = t.1 C 10 ∧ 0 ≤ s8.1 170 5 ∧ s8.1 170 5 ≤ s8.1 170 6 ∧ s8.1 170 6 ≤ 2000 := by omega
          clear hk7 hf7 hg7 hn7 hx11 hF6
          refine wr_n (pc2 := 36) (lv2 := [(0, .ref 170)]) (st2 := [.ref 30, .ref 170]) 3 (fun _ _ => rfl) ?_
          refine wr_call1 (args := [.ref 30]) (rest := []) rfl rfl rfl rfl (Nat.le_of_ble_eq_true rfl) (cr_mono (x_take (d := d + 462) isT_30 hC _ hR7 hP11) ?_)
          rintro s13 out ⟨b, rfl, hc12, ⟨rfl, hF12⟩ | ⟨rfl, hR12, hBk12, hK12, hf12⟩⟩
          · refine ⟨_, rfl, ?_⟩
            show wr (d + 469) tb_M159 39 [(0, .ref 170)] [vi 0] s13 _
            refine wr_n (pc2 := 43) (lv2 := [(0, .ref 170)]) (st2 := [vi 0]) 2 (fun _ _ => rfl) ?_
            refine wr_end (fun _ _ => rfl) ?_
            exact ⟨0, rfl, hc12.trans hz11, Or.inl ⟨rfl, FR_tr (BX_FR hB11) hF12⟩⟩
          · refine ⟨_, rfl, ?_⟩
            show wr (d + 469) tb_M159 39 [(0, .ref 170)] [vi 1] s13 _
            obtain ⟨hu12, hk12⟩ := id hK12
            replace hf12 : s8.1 170 5 + 1 ≤ s13.1 170 5 := hf12
            have hm12 : s13.1 C 1 = ((m : Nat) : Int) := by omega
            have hB16 : BX C (gn y) s.1 s13.1 := BX_tr hC hB11 hBk12
            have hP16 : PI C y s13.1 := PI_BX hC hP hB16
            have hQ16 : CS s.1 s13.1 := CS_tr hQ11 (KL_CS hK12)
            have hz16 : s13.2 = s.2 := hc12.trans hz11
            have hx16 := LX_nums hP16
            have hF16 : t.1 170 5 + 5 ≤ s13.1 170 5 ∧ s13.1 170 14 = s8.1 170 14 ∧ s13.1 170 16 = t.1 170 16 ∧ s13.1 170 21 = t.1 170 21 ∧ s13.1 C 3 = t.1 C 3 ∧ s13.1 C 10 = t.1 C 10 ∧ 0 ≤ s13.1 170 5 ∧ s13.1 170 5 ≤ s13.1 170 6 ∧ s13.1 170 6 ≤ 2000 := by omega
            clear hk12 hf12 hx16
            refine wr_n (pc2 := 12) (lv2 := [(0, .ref 170)]) (st2 := []) 1 (fun _ _ => rfl) ?_
            refine ih _ ?_ _ rfl hR12 hP16 hB16 hQ16 hz16 hm12 (by omega)
            omega
  refine cr_of (M := tb_M159) rfl (Nat.le_of_ble_eq_true rfl) ?_
  show wr (d + 469) tb_M159 0 [(0, .ref 170)] [] s _
  refine wr_n (pc2 := 4) (lv2 := [(0, .ref 170)]) (st2 := [.ref 28, .ref 170]) 2 (fun _ _ => rfl) ?_
  refine wr_call1 (args := [.ref 28]) (rest := []) rfl rfl rfl rfl (Nat.le_of_ble_eq_true rfl) (cr_mono (x_take (d := d + 462) isT_28 hC _ hR hP) ?_)
  rintro s2 out ⟨b, rfl, hc1, ⟨rfl, hF1⟩ | ⟨rfl, hR1, hBk1, hK1, hf1⟩⟩
  · refine ⟨_, rfl, ?_⟩
    show wr (d + 469) tb_M159 7 [(0, .ref 170)] [vi 0] s2 _
    refine wr_n (pc2 := 11) (lv2 := [(0, .ref 170)]) (st2 := [vi 0]) 2 (fun _ _ => rfl) ?_
    refine wr_end (fun _ _ => rfl) ?_
    exact ⟨0, rfl, hc1.trans rfl, Or.inl ⟨rfl, FR_tr (BX_FR (PI_rf hP)) hF1⟩⟩
  · refine ⟨_, rfl, ?_⟩
    show wr (d + 469) tb_M159 7 [(0, .ref 170)] [vi 1] s2 _
    obtain ⟨hu1, hk1⟩ := id hK1
    replace hf1 : s.1 170 5 + 1 ≤ s2.1 170 5 := hf1
    have hm1 : s2.1 C 1 = ((m : Nat) : Int) := by omega
    have hB5 : BX C (gn y) s.1 s2.1 := BX_tr hC (PI_rf hP) hBk1
    have hP5 : PI C y s2.1 := PI_BX hC hP hB5
    have hQ5 : CS s.1 s2.1 := CS_tr (CS_rf (r := s.1)) (KL_CS hK1)
    have hz5 : s2.2 = s.2 := hc1.trans rfl
    have hx5 := LX_nums hP5
    have hF5 : s.1 170 5 + 1 ≤ s2.1 170 5 ∧ s2.1 170 14 = s.1 170 14 ∧ s2.1 170 16 = s.1 170 16 ∧ s2.1 170 21 = s.1 170 21 ∧ s2.1 C 3 = s.1 C 3 ∧ s2.1 C 10 = s.1 C 10 ∧ 0 ≤ s2.1 170 5 ∧ s2.1 170 5 ≤ s2.1 170 6 ∧ s2.1 170 6 ≤ 2000 := by omega
    clear hk1 hf1 hx5
    refine wr_n (pc2 := 12) (lv2 := [(0, .ref 170)]) (st2 := []) 1 (fun _ _ => rfl) ?_
    exact lp1 _ _ rfl hR1 hP5 hB5 hQ5 hz5 hm1 (by omega)
