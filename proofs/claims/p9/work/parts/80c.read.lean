set_option maxHeartbeats 20000000 in
set_option maxRecDepth 100000 in
theorem rd_391 {d C mr m : Nat} {y : gH} {s0 s : rS} (hC : C = 177 ∨ C = 186) (hR : RF s.1) (hF0 : FR0 C s0.1 s.1) (hc0 : s.2 = s0.2) {z1 : Int} (hBl : CBl 63) (hI : DI C y mr s.1) (hLK : LK C s.1) (hm : s.1 C 1 = (m : Int)) (h2 : s.1 C 2 = (m : Int)) : wr (d + 519) tb_M122 391 [(1, vi z1), (0, .ref 170)] [] s (RP C s0) := by
  have hP := hI.1
  have hnr := nr_of hP
  have hx0 := LX_nums hP
  have hgt := gt_of hP
  have hN := hI.2.2.1
  have hko := hI.2.2.2.1
  refine wr_n (pc2 := 392) (lv2 := [(1, vi z1), (0, .ref 170)]) (st2 := [.ref 170]) 1 (fun _ _ => rfl) ?_
  refine wr_call1 (args := []) (rest := []) rfl rfl rfl rfl (Nat.le_of_ble_eq_true rfl) (cr_mono (c_forget (d := d + 518) _ hR) ?_)
  rintro s2 out ⟨rfl, e1⟩
  refine ⟨_, rfl, ?_⟩
  rw [e1]
  show wr (d + 519) tb_M122 395 [(1, vi z1), (0, .ref 170)] [] (up2 (up2 (up2 (up2 (up2 s.1 170 22 0) 170 23 0) 170 24 0) 170 25 0) 170 26 0, s.2) _
  have hR3 : RF (up2 (up2 (up2 (up2 (up2 s.1 170 22 0) 170 23 0) 170 24 0) 170 25 0) 170 26 0) := (RF_up (RF_up (RF_up (RF_up (RF_up hR rfl) rfl) rfl) rfl) rfl)
  obtain ⟨s4, hs4⟩ : ∃ qq9 : rS, qq9 = (up2 (up2 (up2 (up2 (up2 s.1 170 22 0) 170 23 0) 170 24 0) 170 25 0) 170 26 0, s.2) := ⟨_, rfl⟩
  rw [← hs4]
  have hK4 : KM s.1 s4.1 := by rw [hs4]; exact (KM_up (KM_up (KM_up (KM_up (KM_up KM_rf (by omega)) (by omega)) (by omega)) (by omega)) (by omega))
  have hk4 := KM_nums hC hK4
  have hM4 : True ∧ (MB (gn y) (s.1 170 26) → MB (gn y) (s4.1 170 26)) := by rw [hs4]; exact ⟨trivial, fun _ => MB_zero⟩
  have hBk4 : BX C (gn y) s.1 s4.1 := BX_KM hC hP hK4 hM4
  have hR4 : RF s4.1 := BX_RF hC hBk4 hR
  have hc4 : s4.2 = s.2 := by rw [hs4]
  have hm4 : s4.1 C 1 = ((m : Nat) : Int) := by omega
  have hB5 : BX C (gn y) s.1 s4.1 := BX_tr hC (PI_rf hP) hBk4
  have hP5 : PI C y s4.1 := PI_BX hC hP hB5
  have hz5 : s4.2 = s.2 := hc4.trans rfl
  have hF5 : s4.1 170 4 = s.1 170 4 ∧ s4.1 170 5 = s.1 170 5 ∧ s4.1 170 6 = s.1 170 6 ∧ s4.1 170 7 = s.1 170 7 ∧ s4.1 170 14 = s.1 170 14 ∧ s4.1 170 16 = s.1 170 16 ∧ s4.1 170 21 = s.1 170 21 ∧ s4.1 C 3 = s.1 C 3 ∧ s4.1 C 10 = s.1 C 10 ∧ s.1 170 5 + 0 ≤ s4.1 170 5 ∧ 0 ≤ s4.1 170 5 ∧ s4.1 170 5 ≤ s4.1 170 6 ∧ s4.1 170 6 ≤ 2000 := by omega
  show wr (d + 519) tb_M122 395 [(1, vi z1), (0, .ref 170)] [] s4 _
  have hst : MB (gn y) (s4.1 170 26) := by rw [hs4]; exact MB_zero
  refine wr_n (pc2 := 396) (lv2 := [(1, vi z1), (0, .ref 170)]) (st2 := [.ref 170]) 1 (fun _ _ => rfl) ?_
  refine wr_call1 (args := []) (rest := []) rfl rfl rfl rfl (Nat.le_of_ble_eq_true rfl) (cr_mono (x_scope (d := d + 518) hC _ hR4 hP5 (by omega)) ?_)
  rintro s7 out ⟨rfl, hc6, hR6, hBk6, hu6, hn6⟩
  · refine ⟨_, rfl, ?_⟩
    show wr (d + 519) tb_M122 399 [(1, vi z1), (0, .ref 170)] [] s7 _
    have hk6 : s7.1 170 4 = s4.1 170 4 ∧ s7.1 170 5 = s4.1 170 5 ∧ s7.1 170 6 = s4.1 170 6 ∧ s7.1 170 7 = s4.1 170 7 ∧ s7.1 170 14 = s4.1 170 14 ∧ s7.1 170 21 = s4.1 170 21 ∧ s7.1 C 1 = s4.1 C 1 ∧ s7.1 C 3 = s4.1 C 3 ∧ s7.1 C 10 = s4.1 C 10 := ⟨hu6 _ _ (by omega), hu6 _ _ (by omega), hu6 _ _ (by omega), hu6 _ _ (by omega), hu6 _ _ (by omega), hu6 _ _ (by omega), hu6 _ _ (by omega), hu6 _ _ (by omega), hu6 _ _ (by omega)⟩
    have hm6 : s7.1 C 1 = ((m : Nat) : Int) := by omega
    have hB9 : BX C (gn y) s.1 s7.1 := BX_tr hC hB5 hBk6
    have hP9 : PI C y s7.1 := PI_BX hC hP hB9
    have hz9 : s7.2 = s.2 := hc6.trans hz5
    have hF9 : s7.1 170 4 = s.1 170 4 ∧ s7.1 170 5 = s.1 170 5 ∧ s7.1 170 6 = s.1 170 6 ∧ s7.1 170 7 = s.1 170 7 ∧ s7.1 170 14 = s.1 170 14 ∧ s7.1 170 16 = s.1 170 16 + 1 ∧ s7.1 170 21 = s.1 170 21 ∧ s7.1 C 3 = s.1 C 3 ∧ s7.1 C 10 = s.1 C 10 ∧ s.1 170 5 + 0 ≤ s7.1 170 5 ∧ 0 ≤ s7.1 170 5 ∧ s7.1 170 5 ≤ s7.1 170 6 ∧ s7.1 170 6 ≤ 2000 := by omega
    clear hk6 hn6 hF5
    refine wr_n (pc2 := 401) (lv2 := [(1, vi z1), (0, .ref 170)]) (st2 := [vi 0, .ref 170]) 2 (fun _ _ => rfl) ?_
    refine wr_call1 (args := [vi 0]) (rest := []) rfl rfl rfl rfl (Nat.le_of_ble_eq_true rfl) (cr_mono ((cr_up (d := 463) (by omega) (hBl C y m ((gk y (gn y))) _ 0 hC hR6 hP9 (BX_mb hBk6 hst) hm6 (by unfold NS; omega) (by omega) (by omega) hko))) ?_)
    rintro s11 out ⟨b, rfl, hc10, ⟨rfl, hF10⟩ | ⟨rfl, hR10, hBk10, hS10, hN10, w10, k10, hm10, hkk10, hE10⟩⟩
    · refine ⟨_, rfl, ?_⟩
      show wr (d + 519) tb_M122 404 [(1, vi z1), (0, .ref 170)] [vi 0] s11 _
      refine wr_n (pc2 := 408) (lv2 := [(1, vi z1), (0, .ref 170)]) (st2 := [vi 0]) 2 (fun _ _ => rfl) ?_
      refine wr_end (fun _ _ => rfl) ?_
      exact ⟨0, rfl, (hc10.trans hz9).trans hc0, FR_RF hC (FR_tr (BX_FR hB9) hF10) hR, FR0_FR hC hF0 (FR_tr (BX_FR hB9) hF10), Or.inl rfl⟩
    · refine ⟨_, rfl, ?_⟩
      show wr (d + 519) tb_M122 404 [(1, vi z1), (0, .ref 170)] [vi 1] s11 _
      unfold NXS at hN10
      have hB14 : BX C (gn y) s.1 s11.1 := BX_tr hC hB9 hBk10
      have hP14 : PI C y s11.1 := PI_BX hC hP hB14
      have hz14 : s11.2 = s.2 := hc10.trans hz9
      have hF14 := LX_nums hP14
      refine wr_n (pc2 := 412) (lv2 := [(1, vi z1), (0, .ref 170)]) (st2 := [vi 21, .ref 170]) 3 (fun _ _ => rfl) ?_
      refine wr_call1 (args := [vi 21]) (rest := []) rfl rfl rfl rfl (Nat.le_of_ble_eq_true rfl) (cr_mono (x_put (d := d + 518) (m := w10) (v := 21) hC _ hR10 hP14 (by unfold i32; omega) hm10 (by omega)) ?_)
      rintro s16 out ⟨rfl, hc15, hR15, hBk15, hK15, hm15, hp15, hda15⟩
      · refine ⟨_, rfl, ?_⟩
        show wr (d + 519) tb_M122 415 [(1, vi z1), (0, .ref 170)] [vi (((w10 : Nat) : Int))] s16 _
        obtain ⟨hu15, hk15⟩ := id hK15
        have hB18 : BX C (gn y) s.1 s16.1 := BX_tr hC hB14 hBk15
        have hP18 : PI C y s16.1 := PI_BX hC hP hB18
        have hz18 : s16.2 = s.2 := hc15.trans hz14
        have hF18 : s16.1 170 4 = s11.1 170 4 ∧ s16.1 170 5 = s11.1 170 5 ∧ s16.1 170 6 = s11.1 170 6 ∧ s16.1 170 7 = s11.1 170 7 ∧ s16.1 170 14 = s11.1 170 14 ∧ s16.1 170 16 = s11.1 170 16 ∧ s16.1 170 21 = s11.1 170 21 ∧ s16.1 C 3 = s11.1 C 3 ∧ s16.1 C 10 = s11.1 C 10 ∧ s11.1 170 5 + 0 ≤ s16.1 170 5 ∧ 0 ≤ s16.1 170 5 ∧ s16.1 170 5 ≤ s16.1 170 6 ∧ s16.1 170 6 ≤ 2000 := by omega
        clear hk15 hp15
        refine wr_n (pc2 := 417) (lv2 := [(1, vi z1), (0, .ref 170)]) (st2 := [.ref 170]) 2 (fun _ _ => rfl) ?_
        refine wr_get (v := vi (s16.1 170 4)) rfl rfl rfl (by decide) rfl fun h19 => ?_
        have h19 : -2147483648 ≤ s16.1 170 4 ∧ s16.1 170 4 ≤ 2147483647 := h19
        show wr (d + 519) tb_M122 420 [(1, vi z1), (0, .ref 170)] [vi (s16.1 170 4)] s16 _
        by_cases h20 : s16.1 170 4 = 0
        · refine wr_if1t rfl rfl (by unfold i32; omega) h20 ?_
          refine wr_n (pc2 := 429) (lv2 := [(1, vi z1), (0, .ref 170)]) (st2 := [.ref 170]) 1 (fun _ _ => rfl) ?_
          refine wr_get (v := vi (s16.1 170 21)) rfl rfl rfl (by decide) rfl fun h21 => ?_
          have h21 : -2147483648 ≤ s16.1 170 21 ∧ s16.1 170 21 ≤ 2147483647 := h21
          show wr (d + 519) tb_M122 432 [(1, vi z1), (0, .ref 170)] [vi (s16.1 170 21)] s16 _
          by_cases h22 : s16.1 170 21 < 0
          · refine wr_if1t rfl rfl (by unfold i32; omega) h22 ?_
            refine wr_n (pc2 := 451) (lv2 := [(1, vi z1), (0, .ref 170)]) (st2 := [vi 1]) 2 (fun _ _ => rfl) ?_
            refine wr_end (fun _ _ => rfl) ?_
            have hpar : s16.1 170 21 < 0 := by omega
            have hSGf : SG (ga y) (s16.1 (C + 1)) (gG y) m w10 0 0 ((s16.1 170 5).toNat - 1) (gn y) (SZ (gk y) (s16.1 170 26).toNat (gk y (gn y)) k10) := (SG_mono (by omega) (SZ_S (KC_CS hK15) (by omega) (by omega)) (SG_agr (fun p hp1 hp => (BX_code hC hBk15 (by omega))) (hE10 (BX_po hBk15 hpar))))
            refine ⟨1, rfl, hz18.trans hc0, hR15, FR0_FR hC hF0 (BX_FR hB18), Or.inr ⟨rfl, CW_of hP18 (BX_mb (BX_tr hC (BX_tr hC hBk6 hBk10) hBk15) hst) (EV_agr (fun p hp => BX_code hC hB18 (by omega)) (hI.2.2.2.2 (BX_po hB18 hpar))) (by omega) (by omega) hSGf hda15 (by omega) hI.2.2.2.1 (by omega) (by omega) ((hB18.1 C 2 (by unfold SS; omega)).trans h2) (LK_BX hC hLK hB18)⟩⟩
          · refine wr_if1f rfl rfl (by unfold i32; omega) h22 ?_
            refine wr_n (pc2 := 437) (lv2 := [(1, vi z1), (0, .ref 170)]) (st2 := [.ref 170, .ref 170]) 2 (fun _ _ => rfl) ?_
            refine wr_get (v := vi (s16.1 170 21)) rfl rfl rfl (by decide) rfl fun h23 => ?_
            have h23 : -2147483648 ≤ s16.1 170 21 ∧ s16.1 170 21 ≤ 2147483647 := h23
            show wr (d + 519) tb_M122 440 [(1, vi z1), (0, .ref 170)] [vi (s16.1 170 21), .ref 170] s16 _
            refine wr_call1 (args := [vi (s16.1 170 21)]) (rest := []) rfl rfl rfl rfl (Nat.le_of_ble_eq_true rfl) (cr_mono (x_bad1 (C := C) (d := d + 518) (a := s16.1 170 21) _ hR15 (by unfold i32; omega)) ?_)
            rintro s25 out ⟨rfl, hc24, hF24⟩
            · refine ⟨_, rfl, ?_⟩
              show wr (d + 519) tb_M122 443 [(1, vi z1), (0, .ref 170)] [vi 0] s25 _
              refine wr_n (pc2 := 451) (lv2 := [(1, vi z1), (0, .ref 170)]) (st2 := [vi 0]) 2 (fun _ _ => rfl) ?_
              refine wr_end (fun _ _ => rfl) ?_
              exact ⟨0, rfl, (hc24.trans hz18).trans hc0, FR_RF hC (FR_tr (BX_FR hB18) hF24) hR, FR0_FR hC hF0 (FR_tr (BX_FR hB18) hF24), Or.inl rfl⟩
        · refine wr_if1f rfl rfl (by unfold i32; omega) h20 ?_
          refine wr_n (pc2 := 424) (lv2 := [(1, vi z1), (0, .ref 170)]) (st2 := [.ref 170]) 1 (fun _ _ => rfl) ?_
          refine wr_call1 (args := []) (rest := []) rfl rfl rfl rfl (Nat.le_of_ble_eq_true rfl) (cr_mono (x_bad0 (C := C) (d := d + 517) _ hR15) ?_)
          rintro s28 out ⟨rfl, hc27, hF27⟩
          · refine ⟨_, rfl, ?_⟩
            show wr (d + 519) tb_M122 427 [(1, vi z1), (0, .ref 170)] [vi 0] s28 _
            refine wr_end (fun _ _ => rfl) ?_
            exact ⟨0, rfl, (hc27.trans hz18).trans hc0, FR_RF hC (FR_tr (BX_FR hB18) hF27) hR, FR0_FR hC hF0 (FR_tr (BX_FR hB18) hF27), Or.inl rfl⟩
set_option maxHeartbeats 20000000 in
set_option maxRecDepth 100000 in
theorem rd_357 {d C mr m : Nat} {y : gH} {s0 s : rS} (hC : C = 177 ∨ C = 186) (hR : RF s.1) (hF0 : FR0 C s0.1 s.1) (hc0 : s.2 = s0.2) {z1 : Int} (hBl : CBl 63) (hI : DI C y mr s.1) (hLK : LK C s.1) (hm : s.1 C 1 = (m : Int)) : wr (d + 519) tb_M122 357 [(1, vi z1), (0, .ref 170)] [] s (RP C s0) := by
  have hP := hI.1
  have hnr := nr_of hP
  have hx0 := LX_nums hP
  have hgt := gt_of hP
  have hN := hI.2.2.1
  have hko := hI.2.2.2.1
  refine wr_n (pc2 := 358) (lv2 := [(1, vi z1), (0, .ref 170)]) (st2 := [.ref 170]) 1 (fun _ _ => rfl) ?_
  refine wr_get (v := .ref 171) rfl rfl rfl (by decide) (rv_ref (hR 170 0 171 rfl)) fun h1 => ?_
  show wr (d + 519) tb_M122 361 [(1, vi z1), (0, .ref 170)] [.ref 171] s _
  refine wr_n (pc2 := 363) (lv2 := [(1, vi z1), (0, .ref 170)]) (st2 := [.ref 170, vi 0, .ref 171]) 2 (fun _ _ => rfl) ?_
  refine wr_get (v := .ref C) rfl rfl rfl (by decide) (rv_ref (show s.1 170 19 = ((C : Nat) : Int) from hP.1)) fun h2 => ?_
  show wr (d + 519) tb_M122 366 [(1, vi z1), (0, .ref 170)] [.ref C, vi 0, .ref 171] s _
  refine wr_get (v := .ref (C + 4)) rfl rfl (TG_C hC) (by decide) (rv_ref (hR C 13 (C + 4) (rc_C13 hC))) fun h3 => ?_
  show wr (d + 519) tb_M122 369 [(1, vi z1), (0, .ref 170)] [.ref (C + 4), vi 0, .ref 171] s _
  refine wr_n (pc2 := 371) (lv2 := [(1, vi z1), (0, .ref 170)]) (st2 := [.ref 170, vi 0, .ref (C + 4), vi 0, .ref 171]) 2 (fun _ _ => rfl) ?_
  refine wr_get (v := vi (s.1 170 2)) rfl rfl rfl (by decide) rfl fun h4 => ?_
  have h4 : -2147483648 ≤ s.1 170 2 ∧ s.1 170 2 ≤ 2147483647 := h4
  show wr (d + 519) tb_M122 374 [(1, vi z1), (0, .ref 170)] [vi (s.1 170 2), vi 0, .ref (C + 4), vi 0, .ref 171] s _
  have hsz : 0 ≤ s.1 170 2 ∧ s.1 170 2 ≤ 2000 := by have h8 := LX_of hP; unfold LX at h8; omega
  refine wr_copy (n := s.1 170 2) rfl rfl rfl (TG_C4 hC) (by decide) (show 96 ≤ C + 4 by omega) hsz (by decide) fun r2 hr2 => ?_
  obtain ⟨sc, hsc⟩ : ∃ qq9 : rS, qq9 = (r2, s.2) := ⟨_, rfl⟩
  rw [← hsc]
  have hr3 : ∀ k j, k ≠ C + 4 → sc.1 k j = s.1 k j := by rw [hsc]; exact hr2
  have hFc : FR C s.1 sc.1 := fun k j hn => hr3 k j (fun e => hn (by unfold PS; omega))
  have hRc : RF sc.1 := FR_RF hC hFc hR
  have h19c : sc.1 170 19 = (C : Int) := (hr3 170 19 (by omega)).trans hP.1
  have hmc : sc.1 C 1 = (m : Int) := (hr3 C 1 (by omega)).trans hm
  show wr (d + 519) tb_M122 377 [(1, vi z1), (0, .ref 170)] [] sc _
  refine wr_n (pc2 := 378) (lv2 := [(1, vi z1), (0, .ref 170)]) (st2 := [.ref 170]) 1 (fun _ _ => rfl) ?_
  refine wr_get (v := .ref C) rfl rfl rfl (by decide) (rv_ref (show sc.1 170 19 = ((C : Nat) : Int) from h19c)) fun h5 => ?_
  show wr (d + 519) tb_M122 381 [(1, vi z1), (0, .ref 170)] [.ref C] sc _
  refine wr_n (pc2 := 382) (lv2 := [(1, vi z1), (0, .ref 170)]) (st2 := [.ref 170, .ref C]) 1 (fun _ _ => rfl) ?_
  refine wr_get (v := .ref C) rfl rfl rfl (by decide) (rv_ref (show sc.1 170 19 = ((C : Nat) : Int) from h19c)) fun h6 => ?_
  show wr (d + 519) tb_M122 385 [(1, vi z1), (0, .ref 170)] [.ref C, .ref C] sc _
  refine wr_get (v := vi (sc.1 C 1)) rfl rfl (TG_C hC) (by decide) rfl fun h7 => ?_
  have h7 : -2147483648 ≤ sc.1 C 1 ∧ sc.1 C 1 ≤ 2147483647 := h7
  show wr (d + 519) tb_M122 388 [(1, vi z1), (0, .ref 170)] [vi (sc.1 C 1), .ref C] sc _
  rw [hmc]
  show wr (d + 519) tb_M122 388 [(1, vi z1), (0, .ref 170)] [vi (((m : Nat) : Int)), .ref C] sc _
  refine wr_put (z := ((m : Nat) : Int)) rfl rfl rfl rfl (show 96 ≤ C by omega) (TG_C hC) (by decide) rfl (show -2147483648 ≤ ((m : Nat) : Int) ∧ ((m : Nat) : Int) ≤ 2147483647 by omega) (hf_int' _) ?_
  show wr (d + 519) tb_M122 391 [(1, vi z1), (0, .ref 170)] [] (up2 sc.1 C 2 (((m : Nat) : Int)), sc.2) _
  have hR8 : RF (up2 sc.1 C 2 (((m : Nat) : Int))) := (RF_up hRc (PS_rc hC (by unfold PS; omega)))
  obtain ⟨sn, hsn⟩ : ∃ qq9 : rS, qq9 = (up2 sc.1 C 2 (((m : Nat) : Int)), sc.2) := ⟨_, rfl⟩
  rw [← hsn]
  have hu : U1 C 2 sc.1 sn.1 := by rw [hsn]; exact U1_up
  have hv : sn.1 C 2 = (m : Int) := by rw [hsn]; show up2 sc.1 C 2 _ C 2 = _; exact up_self
  have hfr : ∀ k j, ¬ (k = C + 4) → ¬ (k = C ∧ j = 2) → sn.1 k j = s.1 k j := fun k j e1 e2 => (hu k j e2).trans (hr3 k j e1)
  have hFn : FR C s.1 sn.1 := fun k j hn => hfr k j (fun q => hn (by unfold PS; omega)) (fun q => hn (by unfold PS; omega))
  exact rd_391 hC (FR_RF hC hFn hR) (FR0_FR hC hF0 hFn) (by rw [hsn, hsc]; exact hc0) hBl (DI_fr hC hI (fun k j e1 e2 => hfr k j (by omega) (by omega))) (LK_at hLK (fun k j hk => hfr k j (by omega) (by omega))) ((hfr C 1 (by omega) (by omega)).trans hm) hv
set_option maxHeartbeats 20000000 in
set_option maxRecDepth 100000 in
theorem rd_look {d C mr : Nat} {y : gH} {s0 : rS} (hC : C = 177 ∨ C = 186) (hBl : CBl 63) : ∀ (w q : Nat) (s : rS) (l m : Nat), 100 - q = w → RF s.1 → FR0 C s0.1 s.1 → s.2 = s0.2 → DI C y mr s.1 → LK C s.1 → s.1 C 1 = (m : Int) → s.1 C 18 = (l : Int) → (l ≤ q ∧ (q : Int) ≤ s.1 170 14) → wr (d + 519) tb_M122 233 [(1, vi ((q : Int))), (0, .ref 170)] [] s (RP C s0) := by
  intro w
  induction w using Nat.strongRecOn with | ind w ih => ?_
  intro q s l m hw hR hF0 hc0 hI hLK hm hl hlq
  have hP := hI.1
  have hn100 : s.1 170 14 ≤ 58 := by have h8 := hP.2.2.2.1; unfold CT at h8; omega
  refine wr_n (pc2 := 235) (lv2 := [(1, vi ((q : Int))), (0, .ref 170)]) (st2 := [.ref 170, vi ((q : Int))]) 2 (fun _ _ => rfl) ?_
  refine wr_get (v := vi (s.1 170 14)) rfl rfl rfl (by decide) rfl fun h1 => ?_
  have h1 : -2147483648 ≤ s.1 170 14 ∧ s.1 170 14 ≤ 2147483647 := h1
  show wr (d + 519) tb_M122 238 [(1, vi ((q : Int))), (0, .ref 170)] [vi (s.1 170 14), vi ((q : Int))] s _
  by_cases h2 : s.1 170 14 ≤ (q : Int)
  · refine wr_if2t rfl rfl (by unfold i32; omega) (by unfold i32; omega) h2 ?_
    exact rd_357 hC hR hF0 hc0 hBl hI hLK hm
  · refine wr_if2f rfl rfl (by unfold i32; omega) (by unfold i32; omega) h2 ?_
    refine wr_n (pc2 := 242) (lv2 := [(1, vi ((q : Int))), (0, .ref 170)]) (st2 := [.ref 170]) 1 (fun _ _ => rfl) ?_
    refine wr_get (v := .ref 174) rfl rfl rfl (by decide) (rv_ref (hR 170 11 174 rfl)) fun h3 => ?_
    show wr (d + 519) tb_M122 245 [(1, vi ((q : Int))), (0, .ref 170)] [.ref 174] s _
    refine wr_n (pc2 := 246) (lv2 := [(1, vi ((q : Int))), (0, .ref 170)]) (st2 := [vi ((q : Int)), .ref 174]) 1 (fun _ _ => rfl) ?_
    refine wr_ald (a := (q : Int)) (v := vi (s.1 174 q)) rfl rfl rfl (by omega) (by omega) (by decide) rfl fun h4 => ?_
    have h4 : -2147483648 ≤ s.1 174 q ∧ s.1 174 q ≤ 2147483647 := h4
    show wr (d + 519) tb_M122 247 [(1, vi ((q : Int))), (0, .ref 170)] [vi (s.1 174 q)] s _
    refine wr_n (pc2 := 248) (lv2 := [(1, vi ((q : Int))), (0, .ref 170)]) (st2 := [vi 1, vi (s.1 174 q)]) 1 (fun _ _ => rfl) ?_
    by_cases h5 : s.1 174 q ≤ 1
    · refine wr_if2t rfl rfl (by unfold i32; omega) (by unfold i32; omega) h5 ?_
      refine wr_n (pc2 := 255) (lv2 := [(1, vi ((q : Int))), (0, .ref 170)]) (st2 := [.ref 170]) 1 (fun _ _ => rfl) ?_
      refine wr_get (v := .ref C) rfl rfl rfl (by decide) (rv_ref (show s.1 170 19 = ((C : Nat) : Int) from hP.1)) fun h6 => ?_
      show wr (d + 519) tb_M122 258 [(1, vi ((q : Int))), (0, .ref 170)] [.ref C] s _
      refine wr_get (v := .ref (C + 5)) rfl rfl (TG_C hC) (by decide) (rv_ref (hR C 14 (C + 5) (rc_C14 hC))) fun h7 => ?_
      show wr (d + 519) tb_M122 261 [(1, vi ((q : Int))), (0, .ref 170)] [.ref (C + 5)] s _
      refine wr_n (pc2 := 262) (lv2 := [(1, vi ((q : Int))), (0, .ref 170)]) (st2 := [.ref 170, .ref (C + 5)]) 1 (fun _ _ => rfl) ?_
      refine wr_get (v := .ref C) rfl rfl rfl (by decide) (rv_ref (show s.1 170 19 = ((C : Nat) : Int) from hP.1)) fun h8 => ?_
      show wr (d + 519) tb_M122 265 [(1, vi ((q : Int))), (0, .ref 170)] [.ref C, .ref (C + 5)] s _
      refine wr_get (v := vi (s.1 C 18)) rfl rfl (TG_C hC) (by decide) rfl fun h9 => ?_
      have h9 : -2147483648 ≤ s.1 C 18 ∧ s.1 C 18 ≤ 2147483647 := h9
      show wr (d + 519) tb_M122 268 [(1, vi ((q : Int))), (0, .ref 170)] [vi (s.1 C 18), .ref (C + 5)] s _
      rw [hl]
      show wr (d + 519) tb_M122 268 [(1, vi ((q : Int))), (0, .ref 170)] [vi ((l : Int)), .ref (C + 5)] s _
      refine wr_n (pc2 := 269) (lv2 := [(1, vi ((q : Int))), (0, .ref 170)]) (st2 := [.ref 170, vi ((l : Int)), .ref (C + 5)]) 1 (fun _ _ => rfl) ?_
      refine wr_get (v := .ref 172) rfl rfl rfl (by decide) (rv_ref (hR 170 9 172 rfl)) fun h10 => ?_
      show wr (d + 519) tb_M122 272 [(1, vi ((q : Int))), (0, .ref 170)] [.ref 172, vi ((l : Int)), .ref (C + 5)] s _
      refine wr_n (pc2 := 273) (lv2 := [(1, vi ((q : Int))), (0, .ref 170)]) (st2 := [vi ((q : Int)), .ref 172, vi ((l : Int)), .ref (C + 5)]) 1 (fun _ _ => rfl) ?_
      refine wr_ald (a := (q : Int)) (v := vi (s.1 172 q)) rfl rfl rfl (by omega) (by omega) (by decide) rfl fun h11 => ?_
      have h11 : -2147483648 ≤ s.1 172 q ∧ s.1 172 q ≤ 2147483647 := h11
      show wr (d + 519) tb_M122 274 [(1, vi ((q : Int))), (0, .ref 170)] [vi (s.1 172 q), vi ((l : Int)), .ref (C + 5)] s _
      refine wr_ast (a := (l : Int)) (z := s.1 172 q) rfl (show 96 ≤ C + 5 by omega) (TG_C5 hC) rfl (by omega) (by omega) (by decide) rfl (show -2147483648 ≤ s.1 172 q ∧ s.1 172 q ≤ 2147483647 by omega) ?_
      show wr (d + 519) tb_M122 275 [(1, vi ((q : Int))), (0, .ref 170)] [] (up2 s.1 (C + 5) l (s.1 172 q), s.2) _
      have hR12 : RF (up2 s.1 (C + 5) l (s.1 172 q)) := (RF_up hR (PS_rc hC (by unfold PS; omega)))
      refine wr_n (pc2 := 276) (lv2 := [(1, vi ((q : Int))), (0, .ref 170)]) (st2 := [.ref 170]) 1 (fun _ _ => rfl) ?_
      refine wr_get (v := .ref C) rfl rfl rfl (by decide) (rv_ref (show (up2 s.1 (C + 5) l (s.1 172 q)) 170 19 = ((C : Nat) : Int) from ((if_neg (by omega)).trans hP.1))) fun h13 => ?_
      show wr (d + 519) tb_M122 279 [(1, vi ((q : Int))), (0, .ref 170)] [.ref C] (up2 s.1 (C + 5) l (s.1 172 q), s.2) _
      refine wr_get (v := .ref (C + 6)) rfl rfl (TG_C hC) (by decide) (rv_ref (hR12 C 15 (C + 6) (rc_C15 hC))) fun h14 => ?_
      show wr (d + 519) tb_M122 282 [(1, vi ((q : Int))), (0, .ref 170)] [.ref (C + 6)] (up2 s.1 (C + 5) l (s.1 172 q), s.2) _
      refine wr_n (pc2 := 283) (lv2 := [(1, vi ((q : Int))), (0, .ref 170)]) (st2 := [.ref 170, .ref (C + 6)]) 1 (fun _ _ => rfl) ?_
      refine wr_get (v := .ref C) rfl rfl rfl (by decide) (rv_ref (show (up2 s.1 (C + 5) l (s.1 172 q)) 170 19 = ((C : Nat) : Int) from ((if_neg (by omega)).trans hP.1))) fun h15 => ?_
      show wr (d + 519) tb_M122 286 [(1, vi ((q : Int))), (0, .ref 170)] [.ref C, .ref (C + 6)] (up2 s.1 (C + 5) l (s.1 172 q), s.2) _
      refine wr_get (v := vi (s.1 C 18)) rfl rfl (TG_C hC) (by decide) (by show rv _ ((up2 s.1 (C + 5) l (s.1 172 q)) C 18) = _; rw [up_nk (by omega)]; rfl) fun h16 => ?_
      replace h16 : rg _ ((up2 s.1 (C + 5) l (s.1 172 q)) C 18) := h16
      rw [up_nk (by omega)] at h16
      have h16 : -2147483648 ≤ s.1 C 18 ∧ s.1 C 18 ≤ 2147483647 := h16
      show wr (d + 519) tb_M122 289 [(1, vi ((q : Int))), (0, .ref 170)] [vi (s.1 C 18), .ref (C + 6)] (up2 s.1 (C + 5) l (s.1 172 q), s.2) _
      rw [hl]
      show wr (d + 519) tb_M122 289 [(1, vi ((q : Int))), (0, .ref 170)] [vi ((l : Int)), .ref (C + 6)] (up2 s.1 (C + 5) l (s.1 172 q), s.2) _
      refine wr_n (pc2 := 290) (lv2 := [(1, vi ((q : Int))), (0, .ref 170)]) (st2 := [.ref 170, vi ((l : Int)), .ref (C + 6)]) 1 (fun _ _ => rfl) ?_
      refine wr_get (v := .ref 173) rfl rfl rfl (by decide) (rv_ref (hR12 170 10 173 rfl)) fun h17 => ?_
      show wr (d + 519) tb_M122 293 [(1, vi ((q : Int))), (0, .ref 170)] [.ref 173, vi ((l : Int)), .ref (C + 6)] (up2 s.1 (C + 5) l (s.1 172 q), s.2) _
      refine wr_n (pc2 := 294) (lv2 := [(1, vi ((q : Int))), (0, .ref 170)]) (st2 := [vi ((q : Int)), .ref 173, vi ((l : Int)), .ref (C + 6)]) 1 (fun _ _ => rfl) ?_
      refine wr_ald (a := (q : Int)) (v := vi (s.1 173 q)) rfl rfl rfl (by omega) (by omega) (by decide) (by show rv _ ((up2 s.1 (C + 5) l (s.1 172 q)) 173 q) = _; rw [up_nk (by omega)]; rfl) fun h18 => ?_
      have h18 : rg _ ((up2 s.1 (C + 5) l (s.1 172 q)) 173 q) := h18
      rw [up_nk (by omega)] at h18
      have h18 : -2147483648 ≤ s.1 173 q ∧ s.1 173 q ≤ 2147483647 := h18
      show wr (d + 519) tb_M122 295 [(1, vi ((q : Int))), (0, .ref 170)] [vi (s.1 173 q), vi ((l : Int)), .ref (C + 6)] (up2 s.1 (C + 5) l (s.1 172 q), s.2) _
      refine wr_ast (a := (l : Int)) (z := s.1 173 q) rfl (show 96 ≤ C + 6 by omega) (TG_C6 hC) rfl (by omega) (by omega) (by decide) rfl (show -2147483648 ≤ s.1 173 q ∧ s.1 173 q ≤ 2147483647 by omega) ?_
      show wr (d + 519) tb_M122 296 [(1, vi ((q : Int))), (0, .ref 170)] [] (up2 (up2 s.1 (C + 5) l (s.1 172 q)) (C + 6) l (s.1 173 q), s.2) _
      have hR19 : RF (up2 (up2 s.1 (C + 5) l (s.1 172 q)) (C + 6) l (s.1 173 q)) := (RF_up (RF_up hR (PS_rc hC (by unfold PS; omega))) (PS_rc hC (by unfold PS; omega)))
      refine wr_n (pc2 := 297) (lv2 := [(1, vi ((q : Int))), (0, .ref 170)]) (st2 := [.ref 170]) 1 (fun _ _ => rfl) ?_
      refine wr_get (v := .ref C) rfl rfl rfl (by decide) (rv_ref (show (up2 (up2 s.1 (C + 5) l (s.1 172 q)) (C + 6) l (s.1 173 q)) 170 19 = ((C : Nat) : Int) from ((if_neg (by omega)).trans ((if_neg (by omega)).trans hP.1)))) fun h20 => ?_
      show wr (d + 519) tb_M122 300 [(1, vi ((q : Int))), (0, .ref 170)] [.ref C] (up2 (up2 s.1 (C + 5) l (s.1 172 q)) (C + 6) l (s.1 173 q), s.2) _
      refine wr_get (v := .ref (C + 7)) rfl rfl (TG_C hC) (by decide) (rv_ref (hR19 C 16 (C + 7) (rc_C16 hC))) fun h21 => ?_
      show wr (d + 519) tb_M122 303 [(1, vi ((q : Int))), (0, .ref 170)] [.ref (C + 7)] (up2 (up2 s.1 (C + 5) l (s.1 172 q)) (C + 6) l (s.1 173 q), s.2) _
      refine wr_n (pc2 := 304) (lv2 := [(1, vi ((q : Int))), (0, .ref 170)]) (st2 := [.ref 170, .ref (C + 7)]) 1 (fun _ _ => rfl) ?_
      refine wr_get (v := .ref C) rfl rfl rfl (by decide) (rv_ref (show (up2 (up2 s.1 (C + 5) l (s.1 172 q)) (C + 6) l (s.1 173 q)) 170 19 = ((C : Nat) : Int) from ((if_neg (by omega)).trans ((if_neg (by omega)).trans hP.1)))) fun h22 => ?_
      show wr (d + 519) tb_M122 307 [(1, vi ((q : Int))), (0, .ref 170)] [.ref C, .ref (C + 7)] (up2 (up2 s.1 (C + 5) l (s.1 172 q)) (C + 6) l (s.1 173 q), s.2) _
      refine wr_get (v := vi (s.1 C 18)) rfl rfl (TG_C hC) (by decide) (by show rv _ ((up2 (up2 s.1 (C + 5) l (s.1 172 q)) (C + 6) l (s.1 173 q)) C 18) = _; rw [up_nk (by omega), up_nk (by omega)]; rfl) fun h23 => ?_
      replace h23 : rg _ ((up2 (up2 s.1 (C + 5) l (s.1 172 q)) (C + 6) l (s.1 173 q)) C 18) := h23
      rw [up_nk (by omega), up_nk (by omega)] at h23
      have h23 : -2147483648 ≤ s.1 C 18 ∧ s.1 C 18 ≤ 2147483647 := h23
      show wr (d + 519) tb_M122 310 [(1, vi ((q : Int))), (0, .ref 170)] [vi (s.1 C 18), .ref (C + 7)] (up2 (up2 s.1 (C + 5) l (s.1 172 q)) (C + 6) l (s.1 173 q), s.2) _
      rw [hl]
      show wr (d + 519) tb_M122 310 [(1, vi ((q : Int))), (0, .ref 170)] [vi ((l : Int)), .ref (C + 7)] (up2 (up2 s.1 (C + 5) l (s.1 172 q)) (C + 6) l (s.1 173 q), s.2) _
      refine wr_n (pc2 := 311) (lv2 := [(1, vi ((q : Int))), (0, .ref 170)]) (st2 := [.ref 170, vi ((l : Int)), .ref (C + 7)]) 1 (fun _ _ => rfl) ?_
      refine wr_get (v := .ref 174) rfl rfl rfl (by decide) (rv_ref (hR19 170 11 174 rfl)) fun h24 => ?_
      show wr (d + 519) tb_M122 314 [(1, vi ((q : Int))), (0, .ref 170)] [.ref 174, vi ((l : Int)), .ref (C + 7)] (up2 (up2 s.1 (C + 5) l (s.1 172 q)) (C + 6) l (s.1 173 q), s.2) _
      refine wr_n (pc2 := 315) (lv2 := [(1, vi ((q : Int))), (0, .ref 170)]) (st2 := [vi ((q : Int)), .ref 174, vi ((l : Int)), .ref (C + 7)]) 1 (fun _ _ => rfl) ?_
      refine wr_ald (a := (q : Int)) (v := vi (s.1 174 q)) rfl rfl rfl (by omega) (by omega) (by decide) (by show rv _ ((up2 (up2 s.1 (C + 5) l (s.1 172 q)) (C + 6) l (s.1 173 q)) 174 q) = _; rw [up_nk (by omega), up_nk (by omega)]; rfl) fun h25 => ?_
      have h25 : rg _ ((up2 (up2 s.1 (C + 5) l (s.1 172 q)) (C + 6) l (s.1 173 q)) 174 q) := h25
      rw [up_nk (by omega), up_nk (by omega)] at h25
      have h25 : -2147483648 ≤ s.1 174 q ∧ s.1 174 q ≤ 2147483647 := h25
      show wr (d + 519) tb_M122 316 [(1, vi ((q : Int))), (0, .ref 170)] [vi (s.1 174 q), vi ((l : Int)), .ref (C + 7)] (up2 (up2 s.1 (C + 5) l (s.1 172 q)) (C + 6) l (s.1 173 q), s.2) _
      refine wr_ast (a := (l : Int)) (z := s.1 174 q) rfl (show 96 ≤ C + 7 by omega) (TG_C7 hC) rfl (by omega) (by omega) (by decide) rfl (show -2147483648 ≤ s.1 174 q ∧ s.1 174 q ≤ 2147483647 by omega) ?_
      show wr (d + 519) tb_M122 317 [(1, vi ((q : Int))), (0, .ref 170)] [] (up2 (up2 (up2 s.1 (C + 5) l (s.1 172 q)) (C + 6) l (s.1 173 q)) (C + 7) l (s.1 174 q), s.2) _
      have hR26 : RF (up2 (up2 (up2 s.1 (C + 5) l (s.1 172 q)) (C + 6) l (s.1 173 q)) (C + 7) l (s.1 174 q)) := (RF_up (RF_up (RF_up hR (PS_rc hC (by unfold PS; omega))) (PS_rc hC (by unfold PS; omega))) (PS_rc hC (by unfold PS; omega)))
      refine wr_n (pc2 := 318) (lv2 := [(1, vi ((q : Int))), (0, .ref 170)]) (st2 := [.ref 170]) 1 (fun _ _ => rfl) ?_
      refine wr_get (v := .ref C) rfl rfl rfl (by decide) (rv_ref (show (up2 (up2 (up2 s.1 (C + 5) l (s.1 172 q)) (C + 6) l (s.1 173 q)) (C + 7) l (s.1 174 q)) 170 19 = ((C : Nat) : Int) from ((if_neg (by omega)).trans ((if_neg (by omega)).trans ((if_neg (by omega)).trans hP.1))))) fun h27 => ?_
      show wr (d + 519) tb_M122 321 [(1, vi ((q : Int))), (0, .ref 170)] [.ref C] (up2 (up2 (up2 s.1 (C + 5) l (s.1 172 q)) (C + 6) l (s.1 173 q)) (C + 7) l (s.1 174 q), s.2) _
      refine wr_get (v := .ref (C + 8)) rfl rfl (TG_C hC) (by decide) (rv_ref (hR26 C 17 (C + 8) (rc_C17 hC))) fun h28 => ?_
      show wr (d + 519) tb_M122 324 [(1, vi ((q : Int))), (0, .ref 170)] [.ref (C + 8)] (up2 (up2 (up2 s.1 (C + 5) l (s.1 172 q)) (C + 6) l (s.1 173 q)) (C + 7) l (s.1 174 q), s.2) _
      refine wr_n (pc2 := 325) (lv2 := [(1, vi ((q : Int))), (0, .ref 170)]) (st2 := [.ref 170, .ref (C + 8)]) 1 (fun _ _ => rfl) ?_
      refine wr_get (v := .ref C) rfl rfl rfl (by decide) (rv_ref (show (up2 (up2 (up2 s.1 (C + 5) l (s.1 172 q)) (C + 6) l (s.1 173 q)) (C + 7) l (s.1 174 q)) 170 19 = ((C : Nat) : Int) from ((if_neg (by omega)).trans ((if_neg (by omega)).trans ((if_neg (by omega)).trans hP.1))))) fun h29 => ?_
      show wr (d + 519) tb_M122 328 [(1, vi ((q : Int))), (0, .ref 170)] [.ref C, .ref (C + 8)] (up2 (up2 (up2 s.1 (C + 5) l (s.1 172 q)) (C + 6) l (s.1 173 q)) (C + 7) l (s.1 174 q), s.2) _
      refine wr_get (v := vi (s.1 C 18)) rfl rfl (TG_C hC) (by decide) (by show rv _ ((up2 (up2 (up2 s.1 (C + 5) l (s.1 172 q)) (C + 6) l (s.1 173 q)) (C + 7) l (s.1 174 q)) C 18) = _; rw [up_nk (by omega), up_nk (by omega), up_nk (by omega)]; rfl) fun h30 => ?_
      replace h30 : rg _ ((up2 (up2 (up2 s.1 (C + 5) l (s.1 172 q)) (C + 6) l (s.1 173 q)) (C + 7) l (s.1 174 q)) C 18) := h30
      rw [up_nk (by omega), up_nk (by omega), up_nk (by omega)] at h30
      have h30 : -2147483648 ≤ s.1 C 18 ∧ s.1 C 18 ≤ 2147483647 := h30
      show wr (d + 519) tb_M122 331 [(1, vi ((q : Int))), (0, .ref 170)] [vi (s.1 C 18), .ref (C + 8)] (up2 (up2 (up2 s.1 (C + 5) l (s.1 172 q)) (C + 6) l (s.1 173 q)) (C + 7) l (s.1 174 q), s.2) _
      rw [hl]
      show wr (d + 519) tb_M122 331 [(1, vi ((q : Int))), (0, .ref 170)] [vi ((l : Int)), .ref (C + 8)] (up2 (up2 (up2 s.1 (C + 5) l (s.1 172 q)) (C + 6) l (s.1 173 q)) (C + 7) l (s.1 174 q), s.2) _
      refine wr_n (pc2 := 332) (lv2 := [(1, vi ((q : Int))), (0, .ref 170)]) (st2 := [.ref 170, vi ((l : Int)), .ref (C + 8)]) 1 (fun _ _ => rfl) ?_
      refine wr_get (v := .ref 175) rfl rfl rfl (by decide) (rv_ref (hR26 170 12 175 rfl)) fun h31 => ?_
      show wr (d + 519) tb_M122 335 [(1, vi ((q : Int))), (0, .ref 170)] [.ref 175, vi ((l : Int)), .ref (C + 8)] (up2 (up2 (up2 s.1 (C + 5) l (s.1 172 q)) (C + 6) l (s.1 173 q)) (C + 7) l (s.1 174 q), s.2) _
      refine wr_n (pc2 := 336) (lv2 := [(1, vi ((q : Int))), (0, .ref 170)]) (st2 := [vi ((q : Int)), .ref 175, vi ((l : Int)), .ref (C + 8)]) 1 (fun _ _ => rfl) ?_
      refine wr_ald (a := (q : Int)) (v := vi (s.1 175 q)) rfl rfl rfl (by omega) (by omega) (by decide) (by show rv _ ((up2 (up2 (up2 s.1 (C + 5) l (s.1 172 q)) (C + 6) l (s.1 173 q)) (C + 7) l (s.1 174 q)) 175 q) = _; rw [up_nk (by omega), up_nk (by omega), up_nk (by omega)]; rfl) fun h32 => ?_
      have h32 : rg _ ((up2 (up2 (up2 s.1 (C + 5) l (s.1 172 q)) (C + 6) l (s.1 173 q)) (C + 7) l (s.1 174 q)) 175 q) := h32
      rw [up_nk (by omega), up_nk (by omega), up_nk (by omega)] at h32
      have h32 : -2147483648 ≤ s.1 175 q ∧ s.1 175 q ≤ 2147483647 := h32
      show wr (d + 519) tb_M122 337 [(1, vi ((q : Int))), (0, .ref 170)] [vi (s.1 175 q), vi ((l : Int)), .ref (C + 8)] (up2 (up2 (up2 s.1 (C + 5) l (s.1 172 q)) (C + 6) l (s.1 173 q)) (C + 7) l (s.1 174 q), s.2) _
      refine wr_ast (a := (l : Int)) (z := s.1 175 q) rfl (show 96 ≤ C + 8 by omega) (TG_C8 hC) rfl (by omega) (by omega) (by decide) rfl (show -2147483648 ≤ s.1 175 q ∧ s.1 175 q ≤ 2147483647 by omega) ?_
      show wr (d + 519) tb_M122 338 [(1, vi ((q : Int))), (0, .ref 170)] [] (up2 (up2 (up2 (up2 s.1 (C + 5) l (s.1 172 q)) (C + 6) l (s.1 173 q)) (C + 7) l (s.1 174 q)) (C + 8) l (s.1 175 q), s.2) _
      have hR33 : RF (up2 (up2 (up2 (up2 s.1 (C + 5) l (s.1 172 q)) (C + 6) l (s.1 173 q)) (C + 7) l (s.1 174 q)) (C + 8) l (s.1 175 q)) := (RF_up (RF_up (RF_up (RF_up hR (PS_rc hC (by unfold PS; omega))) (PS_rc hC (by unfold PS; omega))) (PS_rc hC (by unfold PS; omega))) (PS_rc hC (by unfold PS; omega)))
      refine wr_n (pc2 := 339) (lv2 := [(1, vi ((q : Int))), (0, .ref 170)]) (st2 := [.ref 170]) 1 (fun _ _ => rfl) ?_
      refine wr_get (v := .ref C) rfl rfl rfl (by decide) (rv_ref (show (up2 (up2 (up2 (up2 s.1 (C + 5) l (s.1 172 q)) (C + 6) l (s.1 173 q)) (C + 7) l (s.1 174 q)) (C + 8) l (s.1 175 q)) 170 19 = ((C : Nat) : Int) from ((if_neg (by omega)).trans ((if_neg (by omega)).trans ((if_neg (by omega)).trans ((if_neg (by omega)).trans hP.1)))))) fun h34 => ?_
      show wr (d + 519) tb_M122 342 [(1, vi ((q : Int))), (0, .ref 170)] [.ref C] (up2 (up2 (up2 (up2 s.1 (C + 5) l (s.1 172 q)) (C + 6) l (s.1 173 q)) (C + 7) l (s.1 174 q)) (C + 8) l (s.1 175 q), s.2) _
      refine wr_n (pc2 := 343) (lv2 := [(1, vi ((q : Int))), (0, .ref 170)]) (st2 := [.ref C, .ref C]) 1 (fun _ _ => rfl) ?_
      refine wr_get (v := vi (s.1 C 18)) rfl rfl (TG_C hC) (by decide) (by show rv _ ((up2 (up2 (up2 (up2 s.1 (C + 5) l (s.1 172 q)) (C + 6) l (s.1 173 q)) (C + 7) l (s.1 174 q)) (C + 8) l (s.1 175 q)) C 18) = _; rw [up_nk (by omega), up_nk (by omega), up_nk (by omega), up_nk (by omega)]; rfl) fun h35 => ?_
      replace h35 : rg _ ((up2 (up2 (up2 (up2 s.1 (C + 5) l (s.1 172 q)) (C + 6) l (s.1 173 q)) (C + 7) l (s.1 174 q)) (C + 8) l (s.1 175 q)) C 18) := h35
      rw [up_nk (by omega), up_nk (by omega), up_nk (by omega), up_nk (by omega)] at h35
      have h35 : -2147483648 ≤ s.1 C 18 ∧ s.1 C 18 ≤ 2147483647 := h35
      show wr (d + 519) tb_M122 346 [(1, vi ((q : Int))), (0, .ref 170)] [vi (s.1 C 18), .ref C] (up2 (up2 (up2 (up2 s.1 (C + 5) l (s.1 172 q)) (C + 6) l (s.1 173 q)) (C + 7) l (s.1 174 q)) (C + 8) l (s.1 175 q), s.2) _
      rw [hl]
      show wr (d + 519) tb_M122 346 [(1, vi ((q : Int))), (0, .ref 170)] [vi ((l : Int)), .ref C] (up2 (up2 (up2 (up2 s.1 (C + 5) l (s.1 172 q)) (C + 6) l (s.1 173 q)) (C + 7) l (s.1 174 q)) (C + 8) l (s.1 175 q), s.2) _
      refine wr_n (pc2 := 347) (lv2 := [(1, vi ((q : Int))), (0, .ref 170)]) (st2 := [vi 1, vi ((l : Int)), .ref C]) 1 (fun _ _ => rfl) ?_
      refine wr_add (a := (l : Int)) (b := 1) rfl ?_
      show wr (d + 519) tb_M122 348 [(1, vi ((q : Int))), (0, .ref 170)] [vi ((l : Int) + 1), .ref C] (up2 (up2 (up2 (up2 s.1 (C + 5) l (s.1 172 q)) (C + 6) l (s.1 173 q)) (C + 7) l (s.1 174 q)) (C + 8) l (s.1 175 q), s.2) _
      refine wr_put (z := (l : Int) + 1) rfl rfl rfl rfl (show 96 ≤ C by omega) (TG_C hC) (by decide) rfl (show -2147483648 ≤ (l : Int) + 1 ∧ (l : Int) + 1 ≤ 2147483647 by omega) (hf_int' _) ?_
      show wr (d + 519) tb_M122 351 [(1, vi ((q : Int))), (0, .ref 170)] [] (up2 (up2 (up2 (up2 (up2 s.1 (C + 5) l (s.1 172 q)) (C + 6) l (s.1 173 q)) (C + 7) l (s.1 174 q)) (C + 8) l (s.1 175 q)) C 18 ((l : Int) + 1), s.2) _
      have hR36 : RF (up2 (up2 (up2 (up2 (up2 s.1 (C + 5) l (s.1 172 q)) (C + 6) l (s.1 173 q)) (C + 7) l (s.1 174 q)) (C + 8) l (s.1 175 q)) C 18 ((l : Int) + 1)) := (RF_up (RF_up (RF_up (RF_up (RF_up hR (PS_rc hC (by unfold PS; omega))) (PS_rc hC (by unfold PS; omega))) (PS_rc hC (by unfold PS; omega))) (PS_rc hC (by unfold PS; omega))) (PS_rc hC (by unfold PS; omega)))
      refine wr_inc (a := (q : Int)) rfl rfl ?_
      show wr (d + 519) tb_M122 354 [(1, vi ((q : Int) + 1)), (0, .ref 170)] [] (up2 (up2 (up2 (up2 (up2 s.1 (C + 5) l (s.1 172 q)) (C + 6) l (s.1 173 q)) (C + 7) l (s.1 174 q)) (C + 8) l (s.1 175 q)) C 18 ((l : Int) + 1), s.2) _
      refine wr_n (pc2 := 233) (lv2 := [(1, vi ((q : Int) + 1)), (0, .ref 170)]) (st2 := []) 1 (fun _ _ => rfl) ?_
      rw [show (q : Int) + 1 = ((q + 1 : Nat) : Int) by omega]
      obtain ⟨sn, hsn⟩ : ∃ qq9 : rS, qq9 = (up2 (up2 (up2 (up2 (up2 s.1 (C + 5) l (s.1 172 q)) (C + 6) l (s.1 173 q)) (C + 7) l (s.1 174 q)) (C + 8) l (s.1 175 q)) C 18 ((l : Int) + 1), s.2) := ⟨_, rfl⟩
      rw [← hsn]
      have hfr : ∀ k j, ¬ (C + 5 ≤ k ∧ k ≤ C + 8 ∧ j = l) → ¬ (k = C ∧ j = 18) → sn.1 k j = s.1 k j := by rw [hsn]; intro k j e1 e2; exact ((if_neg (by omega)).trans ((if_neg (by omega)).trans ((if_neg (by omega)).trans ((if_neg (by omega)).trans ((if_neg (by omega)).trans rfl)))))
      have hv0 : sn.1 (C + 5) l = s.1 172 q := by rw [hsn]; show (up2 (up2 (up2 (up2 (up2 s.1 (C + 5) l (s.1 172 q)) (C + 6) l (s.1 173 q)) (C + 7) l (s.1 174 q)) (C + 8) l (s.1 175 q)) C 18 ((l : Int) + 1)) (C + 5) l = _; rw [up_nk (by omega), up_nk (by omega), up_nk (by omega), up_nk (by omega)]; exact up_self
      have hv1 : sn.1 (C + 6) l = s.1 173 q := by rw [hsn]; show (up2 (up2 (up2 (up2 (up2 s.1 (C + 5) l (s.1 172 q)) (C + 6) l (s.1 173 q)) (C + 7) l (s.1 174 q)) (C + 8) l (s.1 175 q)) C 18 ((l : Int) + 1)) (C + 6) l = _; rw [up_nk (by omega), up_nk (by omega), up_nk (by omega)]; exact up_self
      have hv2 : sn.1 (C + 7) l = s.1 174 q := by rw [hsn]; show (up2 (up2 (up2 (up2 (up2 s.1 (C + 5) l (s.1 172 q)) (C + 6) l (s.1 173 q)) (C + 7) l (s.1 174 q)) (C + 8) l (s.1 175 q)) C 18 ((l : Int) + 1)) (C + 7) l = _; rw [up_nk (by omega), up_nk (by omega)]; exact up_self
      have hv3 : sn.1 (C + 8) l = s.1 175 q := by rw [hsn]; show (up2 (up2 (up2 (up2 (up2 s.1 (C + 5) l (s.1 172 q)) (C + 6) l (s.1 173 q)) (C + 7) l (s.1 174 q)) (C + 8) l (s.1 175 q)) C 18 ((l : Int) + 1)) (C + 8) l = _; rw [up_nk (by omega)]; exact up_self
      have hv4 : sn.1 C 18 = (l : Int) + 1 := by rw [hsn]; show (up2 (up2 (up2 (up2 (up2 s.1 (C + 5) l (s.1 172 q)) (C + 6) l (s.1 173 q)) (C + 7) l (s.1 174 q)) (C + 8) l (s.1 175 q)) C 18 ((l : Int) + 1)) C 18 = _; exact up_self
      have hFn : FR C s.1 sn.1 := fun k j hn => hfr k j (fun q => hn (by unfold PS; omega)) (fun q => hn (by unfold PS; omega))
      have hnq := (NM_of hP).2.2 q (by omega)
      have hn1 := (hP.2.2.2.2.2.2.2.2.2.2.1 q (by omega)).1
      have hw01 : s.1 174 q = 0 ∨ s.1 174 q = 1 := by have h8 := hnq.2.2.2.1; omega
      have hlk : s.1 174 q = 0 ∧ 0 ≤ s.1 175 q ∧ s.1 175 q < 24 ∨ s.1 174 q = 1 ∧ 0 ≤ s.1 175 q ∧ s.1 175 q < s.1 C 5 := by
        rcases hw01 with h8 | h8
        · exact .inl ⟨h8, hnq.2.2.2.2.2.1, hnq.2.2.2.2.2.2.1 h8⟩
        · exact .inr ⟨h8, hnq.2.2.2.2.2.1, hn1 h8⟩
      have hab : 0 ≤ s.1 172 q ∧ s.1 172 q ≤ s.1 173 q ∧ s.1 173 q ≤ 2000 := ⟨hnq.1, Int.le_of_lt hnq.2.1, hnq.2.2.1⟩
      clear hnq hn1
      exact ih _ (by omega) (q + 1) _ (l + 1) m rfl (FR_RF hC hFn hR) (FR0_FR hC hF0 hFn) (by rw [hsn]; exact hc0) (DI_fr hC hI (fun k j e1 e2 => hfr k j (by omega) (by omega))) (LK_step hC hLK hl (by omega) hab hlk hfr hv0 hv1 hv2 hv3 hv4) ((hfr C 1 (by omega) (by omega)).trans hm) (hv4.trans (by omega)) (by have h8 : sn.1 170 14 = s.1 170 14 := hfr 170 14 (by omega) (by omega); omega)
    · refine wr_if2f rfl rfl (by unfold i32; omega) (by unfold i32; omega) h5 ?_
      refine wr_n (pc2 := 351) (lv2 := [(1, vi ((q : Int))), (0, .ref 170)]) (st2 := []) 1 (fun _ _ => rfl) ?_
      refine wr_inc (a := (q : Int)) rfl rfl ?_
      show wr (d + 519) tb_M122 354 [(1, vi ((q : Int) + 1)), (0, .ref 170)] [] s _
      refine wr_n (pc2 := 233) (lv2 := [(1, vi ((q : Int) + 1)), (0, .ref 170)]) (st2 := []) 1 (fun _ _ => rfl) ?_
      rw [show (q : Int) + 1 = ((q + 1 : Nat) : Int) by omega]
      exact ih _ (by omega) (q + 1) _ l m rfl hR hF0 hc0 hI hLK hm hl (by omega)
set_option maxHeartbeats 20000000 in
set_option maxRecDepth 100000 in
theorem rd_decl {d C : Nat} {s0 : rS} (hC : C = 177 ∨ C = 186) (hBl : CBl 63) (hRt : ∀ d, CRt d) : ∀ (w : Nat) (y : gH) (mr : Nat) (s : rS), (2000 - s.1 170 5).toNat = w → RF s.1 → FR0 C s0.1 s.1 → s.2 = s0.2 → DI C y mr s.1 → wr (d + 519) tb_M122 142 [(0, .ref 170)] [] s (RP C s0) := by
  intro w
  induction w using Nat.strongRecOn with | ind w ih => ?_
  intro y mr s hw hR hF0 hc0 hI
  have hP := hI.1
  have hx0 := LX_nums hP
  have hRt := hRt (d + 19 + 9)
  have j214 : 1 ≤ s.1 170 4 → wr (d + 519) tb_M122 214 [(0, .ref 170)] [] s (RP C s0) := by
    intro hj
    refine wr_n (pc2 := 215) (lv2 := [(0, .ref 170)]) (st2 := [.ref 170]) 1 (fun _ _ => rfl) ?_
    refine wr_call1 (args := []) (rest := []) rfl rfl rfl rfl (Nat.le_of_ble_eq_true rfl) (cr_mono (p_declaration (d := d + 19) (mr := mr) (y := y) hRt hC s hR hI (by omega)) ?_)
    rintro s2 out ⟨b, rfl, hc1, ⟨rfl, hF1⟩ | ⟨rfl, hR1, hF1, hf1, y2, mr2, hI2⟩⟩
    · refine ⟨_, rfl, ?_⟩
      show wr (d + 519) tb_M122 218 [(0, .ref 170)] [vi 0] s2 _
      refine wr_n (pc2 := 222) (lv2 := [(0, .ref 170)]) (st2 := [vi 0]) 2 (fun _ _ => rfl) ?_
      refine wr_end (fun _ _ => rfl) ?_
      exact ⟨0, rfl, (hc1.trans rfl).trans hc0, FR_RF hC (FR_tr (BX_FR (PI_rf hP)) hF1) hR, FR0_FR hC hF0 (FR_tr (BX_FR (PI_rf hP)) hF1), Or.inl rfl⟩
    · refine ⟨_, rfl, ?_⟩
      show wr (d + 519) tb_M122 218 [(0, .ref 170)] [vi 1] s2 _
      refine wr_n (pc2 := 142) (lv2 := [(0, .ref 170)]) (st2 := []) 1 (fun _ _ => rfl) ?_
      exact ih _ (by have h8 := LX_nums hI2.1; omega) y2 mr2 _ rfl hR1 (FR0_FR hC hF0 hF1) (hc1.trans hc0) hI2
  refine wr_n (pc2 := 145) (lv2 := [(0, .ref 170)]) (st2 := [.ref 6, .ref 170]) 2 (fun _ _ => rfl) ?_
  refine wr_call1 (args := [.ref 6]) (rest := []) rfl rfl rfl rfl (Nat.le_of_ble_eq_true rfl) (cr_mono (c_is (d := d + 514) isT_6 _ hR (LX_of hP)) ?_)
  rintro s6 out ⟨b, rfl, rfl | ⟨rfl, hj5, hl5⟩, he5⟩
  · refine ⟨_, rfl, ?_⟩
    rw [he5]
    show wr (d + 519) tb_M122 148 [(0, .ref 170)] [vi 0] s _
    refine wr_n (pc2 := 154) (lv2 := [(0, .ref 170)]) (st2 := [.ref 8, .ref 170]) 3 (fun _ _ => rfl) ?_
    refine wr_call1 (args := [.ref 8]) (rest := []) rfl rfl rfl rfl (Nat.le_of_ble_eq_true rfl) (cr_mono (c_is (d := d + 514) isT_8 _ hR (LX_of hP)) ?_)
    rintro s8 out ⟨b, rfl, rfl | ⟨rfl, hj7, hl7⟩, he7⟩
    · refine ⟨_, rfl, ?_⟩
      rw [he7]
      show wr (d + 519) tb_M122 157 [(0, .ref 170)] [vi 0] s _
      refine wr_n (pc2 := 163) (lv2 := [(0, .ref 170)]) (st2 := [.ref 10, .ref 170]) 3 (fun _ _ => rfl) ?_
      refine wr_call1 (args := [.ref 10]) (rest := []) rfl rfl rfl rfl (Nat.le_of_ble_eq_true rfl) (cr_mono (c_is (d := d + 514) isT_10 _ hR (LX_of hP)) ?_)
      rintro s10 out ⟨b, rfl, rfl | ⟨rfl, hj9, hl9⟩, he9⟩
      · refine ⟨_, rfl, ?_⟩
        rw [he9]
        show wr (d + 519) tb_M122 166 [(0, .ref 170)] [vi 0] s _
        refine wr_n (pc2 := 172) (lv2 := [(0, .ref 170)]) (st2 := [.ref 12, .ref 170]) 3 (fun _ _ => rfl) ?_
        refine wr_call1 (args := [.ref 12]) (rest := []) rfl rfl rfl rfl (Nat.le_of_ble_eq_true rfl) (cr_mono (c_is (d := d + 514) isT_12 _ hR (LX_of hP)) ?_)
        rintro s12 out ⟨b, rfl, rfl | ⟨rfl, hj11, hl11⟩, he11⟩
        · refine ⟨_, rfl, ?_⟩
          rw [he11]
          show wr (d + 519) tb_M122 175 [(0, .ref 170)] [vi 0] s _
          refine wr_n (pc2 := 181) (lv2 := [(0, .ref 170)]) (st2 := [.ref 14, .ref 170]) 3 (fun _ _ => rfl) ?_
          refine wr_call1 (args := [.ref 14]) (rest := []) rfl rfl rfl rfl (Nat.le_of_ble_eq_true rfl) (cr_mono (c_is (d := d + 514) isT_14 _ hR (LX_of hP)) ?_)
          rintro s14 out ⟨b, rfl, rfl | ⟨rfl, hj13, hl13⟩, he13⟩
          · refine ⟨_, rfl, ?_⟩
            rw [he13]
            show wr (d + 519) tb_M122 184 [(0, .ref 170)] [vi 0] s _
            refine wr_n (pc2 := 190) (lv2 := [(0, .ref 170)]) (st2 := [.ref 16, .ref 170]) 3 (fun _ _ => rfl) ?_
            refine wr_call1 (args := [.ref 16]) (rest := []) rfl rfl rfl rfl (Nat.le_of_ble_eq_true rfl) (cr_mono (c_is (d := d + 514) isT_16 _ hR (LX_of hP)) ?_)
            rintro s16 out ⟨b, rfl, rfl | ⟨rfl, hj15, hl15⟩, he15⟩
            · refine ⟨_, rfl, ?_⟩
              rw [he15]
              show wr (d + 519) tb_M122 193 [(0, .ref 170)] [vi 0] s _
              refine wr_n (pc2 := 199) (lv2 := [(0, .ref 170)]) (st2 := [.ref 18, .ref 170]) 3 (fun _ _ => rfl) ?_
              refine wr_call1 (args := [.ref 18]) (rest := []) rfl rfl rfl rfl (Nat.le_of_ble_eq_true rfl) (cr_mono (c_is (d := d + 514) isT_18 _ hR (LX_of hP)) ?_)
              rintro s18 out ⟨b, rfl, rfl | ⟨rfl, hj17, hl17⟩, he17⟩
              · refine ⟨_, rfl, ?_⟩
                rw [he17]
                show wr (d + 519) tb_M122 202 [(0, .ref 170)] [vi 0] s _
                refine wr_n (pc2 := 208) (lv2 := [(0, .ref 170)]) (st2 := [.ref 20, .ref 170]) 3 (fun _ _ => rfl) ?_
                refine wr_call1 (args := [.ref 20]) (rest := []) rfl rfl rfl rfl (Nat.le_of_ble_eq_true rfl) (cr_mono (c_is (d := d + 514) isT_20 _ hR (LX_of hP)) ?_)
                rintro s20 out ⟨b, rfl, rfl | ⟨rfl, hj19, hl19⟩, he19⟩
                · refine ⟨_, rfl, ?_⟩
                  rw [he19]
                  show wr (d + 519) tb_M122 211 [(0, .ref 170)] [vi 0] s _
                  refine wr_n (pc2 := 224) (lv2 := [(0, .ref 170)]) (st2 := [.ref 170]) 2 (fun _ _ => rfl) ?_
                  refine wr_get (v := .ref C) rfl rfl rfl (by decide) (rv_ref (show s.1 170 19 = ((C : Nat) : Int) from hP.1)) fun h21 => ?_
                  show wr (d + 519) tb_M122 227 [(0, .ref 170)] [.ref C] s _
                  refine wr_n (pc2 := 228) (lv2 := [(0, .ref 170)]) (st2 := [vi 0, .ref C]) 1 (fun _ _ => rfl) ?_
                  refine wr_put (z := 0) rfl rfl rfl rfl (show 96 ≤ C by omega) (TG_C hC) (by decide) rfl (show -2147483648 ≤ 0 ∧ 0 ≤ 2147483647 by omega) (hf_int' _) ?_
                  show wr (d + 519) tb_M122 231 [(0, .ref 170)] [] (up2 s.1 C 18 0, s.2) _
                  have hR22 : RF (up2 s.1 C 18 0) := (RF_up hR (PS_rc hC (by unfold PS; omega)))
                  refine wr_n (pc2 := 233) (lv2 := [(1, vi 0), (0, .ref 170)]) (st2 := []) 2 (fun _ _ => rfl) ?_
                  obtain ⟨sn, hsn⟩ : ∃ qq9 : rS, qq9 = (up2 s.1 C 18 0, s.2) := ⟨_, rfl⟩
                  rw [← hsn]
                  have hu : U1 C 18 s.1 sn.1 := by rw [hsn]; exact U1_up
                  have hv : sn.1 C 18 = ((0 : Nat) : Int) := by rw [hsn]; show up2 s.1 C 18 _ C 18 = _; exact up_self
                  have hFn : FR C s.1 sn.1 := fun k j hn => hu k j (fun q => hn (by unfold PS; omega))
                  obtain ⟨m, hm⟩ : ∃ m : Nat, s.1 C 1 = (m : Int) := ⟨(s.1 C 1).toNat, by have h8 := hI.2.2.1; omega⟩
                  exact rd_look hC hBl _ 0 _ 0 m rfl (FR_RF hC hFn hR) (FR0_FR hC hF0 hFn) (by rw [hsn]; exact hc0) (DI_fr hC hI (fun k j e1 e2 => hu k j (by omega))) ⟨by omega, by omega, fun i hi => absurd hi (by omega)⟩ ((hu C 1 (by omega)).trans hm) hv ⟨Nat.le_refl _, by rw [hu 170 14 (by omega)]; have h8 := (NM_of hP).1; omega⟩
                · refine ⟨_, rfl, ?_⟩
                  rw [he19]
                  show wr (d + 519) tb_M122 211 [(0, .ref 170)] [vi 1] s _
                  have hg19 : 1 ≤ s.1 170 4 ∧ s.1 170 5 + 3 = s.1 170 6 := ⟨by omega, hl19⟩
                  clear hj19 hl19
                  refine wr_n (pc2 := 214) (lv2 := [(0, .ref 170)]) (st2 := []) 1 (fun _ _ => rfl) ?_
                  exact j214 (by omega)
              · refine ⟨_, rfl, ?_⟩
                rw [he17]
                show wr (d + 519) tb_M122 202 [(0, .ref 170)] [vi 1] s _
                have hg17 : 1 ≤ s.1 170 4 ∧ s.1 170 5 + 4 = s.1 170 6 := ⟨by omega, hl17⟩
                clear hj17 hl17
                refine wr_n (pc2 := 214) (lv2 := [(0, .ref 170)]) (st2 := []) 1 (fun _ _ => rfl) ?_
                exact j214 (by omega)
            · refine ⟨_, rfl, ?_⟩
              rw [he15]
              show wr (d + 519) tb_M122 193 [(0, .ref 170)] [vi 1] s _
              have hg15 : 1 ≤ s.1 170 4 ∧ s.1 170 5 + 3 = s.1 170 6 := ⟨by omega, hl15⟩
              clear hj15 hl15
              refine wr_n (pc2 := 214) (lv2 := [(0, .ref 170)]) (st2 := []) 1 (fun _ _ => rfl) ?_
              exact j214 (by omega)
          · refine ⟨_, rfl, ?_⟩
            rw [he13]
            show wr (d + 519) tb_M122 184 [(0, .ref 170)] [vi 1] s _
            have hg13 : 1 ≤ s.1 170 4 ∧ s.1 170 5 + 2 = s.1 170 6 := ⟨by omega, hl13⟩
            clear hj13 hl13
            refine wr_n (pc2 := 214) (lv2 := [(0, .ref 170)]) (st2 := []) 1 (fun _ _ => rfl) ?_
            exact j214 (by omega)
        · refine ⟨_, rfl, ?_⟩
          rw [he11]
          show wr (d + 519) tb_M122 175 [(0, .ref 170)] [vi 1] s _
          have hg11 : 1 ≤ s.1 170 4 ∧ s.1 170 5 + 4 = s.1 170 6 := ⟨by omega, hl11⟩
          clear hj11 hl11
          refine wr_n (pc2 := 214) (lv2 := [(0, .ref 170)]) (st2 := []) 1 (fun _ _ => rfl) ?_
          exact j214 (by omega)
      · refine ⟨_, rfl, ?_⟩
        rw [he9]
        show wr (d + 519) tb_M122 166 [(0, .ref 170)] [vi 1] s _
        have hg9 : 1 ≤ s.1 170 4 ∧ s.1 170 5 + 5 = s.1 170 6 := ⟨by omega, hl9⟩
        clear hj9 hl9
        refine wr_n (pc2 := 214) (lv2 := [(0, .ref 170)]) (st2 := []) 1 (fun _ _ => rfl) ?_
        exact j214 (by omega)
    · refine ⟨_, rfl, ?_⟩
      rw [he7]
      show wr (d + 519) tb_M122 157 [(0, .ref 170)] [vi 1] s _
      have hg7 : 1 ≤ s.1 170 4 ∧ s.1 170 5 + 3 = s.1 170 6 := ⟨by omega, hl7⟩
      clear hj7 hl7
      refine wr_n (pc2 := 214) (lv2 := [(0, .ref 170)]) (st2 := []) 1 (fun _ _ => rfl) ?_
      exact j214 (by omega)
  · refine ⟨_, rfl, ?_⟩
    rw [he5]
    show wr (d + 519) tb_M122 148 [(0, .ref 170)] [vi 1] s _
    have hg5 : 1 ≤ s.1 170 4 ∧ s.1 170 5 + 3 = s.1 170 6 := ⟨by omega, hl5⟩
    clear hj5 hl5
    refine wr_n (pc2 := 214) (lv2 := [(0, .ref 170)]) (st2 := []) 1 (fun _ _ => rfl) ?_
    exact j214 (by omega)
set_option maxHeartbeats 20000000 in
set_option maxRecDepth 100000 in
theorem p_read {d C : Nat} (hC : C = 177 ∨ C = 186) (hBl : CBl 63) (hRt : ∀ d, CRt d) (s : rS) (hR : RF s.1) (h18 : s.1 170 18 = (C : Int)) (h1 : 0 ≤ s.1 170 1 ∧ s.1 170 1 ≤ 2000) : cr (d + 520) 122 [.ref 170] s (RP C s) := by
  refine cr_of (M := tb_M122) rfl (Nat.le_of_ble_eq_true rfl) ?_
  show wr (d + 519) tb_M122 0 [(0, .ref 170)] [] s _
  refine wr_n (pc2 := 2) (lv2 := [(0, .ref 170)]) (st2 := [.ref 170, .ref 170]) 2 (fun _ _ => rfl) ?_
  refine wr_get (v := .ref C) rfl rfl rfl (by decide) (rv_ref h18) fun h2 => ?_
  show wr (d + 519) tb_M122 5 [(0, .ref 170)] [.ref C, .ref 170] s _
  refine wr_put (z := (C : Int)) rfl rfl rfl rfl (by decide) rfl (by decide) (rv_ref rfl) (show -1 ≤ (C : Int) by omega) (hf_ref _ _) ?_
  show wr (d + 519) tb_M122 8 [(0, .ref 170)] [] (up2 s.1 170 19 ((C : Int)), s.2) _
  obtain ⟨s1, hs1⟩ : ∃ qq9 : rS, qq9 = (up2 s.1 170 19 ((C : Int)), s.2) := ⟨_, rfl⟩
  rw [← hs1]
  have hu1 : U1 170 19 s.1 s1.1 := by rw [hs1]; exact U1_up
  have h19s : s1.1 170 19 = (C : Int) := by rw [hs1]; show up2 s.1 170 19 (C : Int) 170 19 = _; exact up_self
  have hR1 : RF s1.1 := fun k j v hv => (hu1 k j (by rintro ⟨rfl, rfl⟩; cases hv)).trans (hR k j v hv)
  have ht1 : s1.1 170 1 = s.1 170 1 := hu1 170 1 (by omega)
  show wr (d + 519) tb_M122 8 [(0, .ref 170)] [] s1 _
  refine wr_n (pc2 := 9) (lv2 := [(0, .ref 170)]) (st2 := [.ref 170]) 1 (fun _ _ => rfl) ?_
  refine wr_get (v := .ref C) rfl rfl rfl (by decide) (rv_ref (show s1.1 170 19 = ((C : Nat) : Int) from h19s)) fun h1 => ?_
  show wr (d + 519) tb_M122 12 [(0, .ref 170)] [.ref C] s1 _
  refine wr_n (pc2 := 13) (lv2 := [(0, .ref 170)]) (st2 := [vi 0, .ref C]) 1 (fun _ _ => rfl) ?_
  refine wr_put (z := 0) rfl rfl rfl rfl (show 96 ≤ C by omega) (TG_C hC) (by decide) rfl (show -2147483648 ≤ 0 ∧ 0 ≤ 2147483647 by omega) (hf_int' _) ?_
  show wr (d + 519) tb_M122 16 [(0, .ref 170)] [] (up2 s1.1 C 1 0, s1.2) _
  have hR2 : RF (up2 s1.1 C 1 0) := (RF_up hR1 (PS_rc hC (by unfold PS; omega)))
  refine wr_n (pc2 := 17) (lv2 := [(0, .ref 170)]) (st2 := [.ref 170]) 1 (fun _ _ => rfl) ?_
  refine wr_get (v := .ref C) rfl rfl rfl (by decide) (rv_ref (show (up2 s1.1 C 1 0) 170 19 = ((C : Nat) : Int) from ((if_neg (by omega)).trans h19s))) fun h3 => ?_
  show wr (d + 519) tb_M122 20 [(0, .ref 170)] [.ref C] (up2 s1.1 C 1 0, s1.2) _
  refine wr_n (pc2 := 21) (lv2 := [(0, .ref 170)]) (st2 := [vi 0, .ref C]) 1 (fun _ _ => rfl) ?_
  refine wr_put (z := 0) rfl rfl rfl rfl (show 96 ≤ C by omega) (TG_C hC) (by decide) rfl (show -2147483648 ≤ 0 ∧ 0 ≤ 2147483647 by omega) (hf_int' _) ?_
  show wr (d + 519) tb_M122 24 [(0, .ref 170)] [] (up2 (up2 s1.1 C 1 0) C 3 0, s1.2) _
  have hR4 : RF (up2 (up2 s1.1 C 1 0) C 3 0) := (RF_up (RF_up hR1 (PS_rc hC (by unfold PS; omega))) (PS_rc hC (by unfold PS; omega)))
  refine wr_n (pc2 := 25) (lv2 := [(0, .ref 170)]) (st2 := [.ref 170]) 1 (fun _ _ => rfl) ?_
  refine wr_get (v := .ref C) rfl rfl rfl (by decide) (rv_ref (show (up2 (up2 s1.1 C 1 0) C 3 0) 170 19 = ((C : Nat) : Int) from ((if_neg (by omega)).trans ((if_neg (by omega)).trans h19s)))) fun h5 => ?_
  show wr (d + 519) tb_M122 28 [(0, .ref 170)] [.ref C] (up2 (up2 s1.1 C 1 0) C 3 0, s1.2) _
  refine wr_n (pc2 := 29) (lv2 := [(0, .ref 170)]) (st2 := [vi 0, .ref C]) 1 (fun _ _ => rfl) ?_
  refine wr_put (z := 0) rfl rfl rfl rfl (show 96 ≤ C by omega) (TG_C hC) (by decide) rfl (show -2147483648 ≤ 0 ∧ 0 ≤ 2147483647 by omega) (hf_int' _) ?_
  show wr (d + 519) tb_M122 32 [(0, .ref 170)] [] (up2 (up2 (up2 s1.1 C 1 0) C 3 0) C 4 0, s1.2) _
  have hR6 : RF (up2 (up2 (up2 s1.1 C 1 0) C 3 0) C 4 0) := (RF_up (RF_up (RF_up hR1 (PS_rc hC (by unfold PS; omega))) (PS_rc hC (by unfold PS; omega))) (PS_rc hC (by unfold PS; omega)))
  refine wr_n (pc2 := 33) (lv2 := [(0, .ref 170)]) (st2 := [.ref 170]) 1 (fun _ _ => rfl) ?_
  refine wr_get (v := .ref C) rfl rfl rfl (by decide) (rv_ref (show (up2 (up2 (up2 s1.1 C 1 0) C 3 0) C 4 0) 170 19 = ((C : Nat) : Int) from ((if_neg (by omega)).trans ((if_neg (by omega)).trans ((if_neg (by omega)).trans h19s))))) fun h7 => ?_
  show wr (d + 519) tb_M122 36 [(0, .ref 170)] [.ref C] (up2 (up2 (up2 s1.1 C 1 0) C 3 0) C 4 0, s1.2) _
  refine wr_n (pc2 := 37) (lv2 := [(0, .ref 170)]) (st2 := [vi 0, .ref C]) 1 (fun _ _ => rfl) ?_
  refine wr_put (z := 0) rfl rfl rfl rfl (show 96 ≤ C by omega) (TG_C hC) (by decide) rfl (show -2147483648 ≤ 0 ∧ 0 ≤ 2147483647 by omega) (hf_int' _) ?_
  show wr (d + 519) tb_M122 40 [(0, .ref 170)] [] (up2 (up2 (up2 (up2 s1.1 C 1 0) C 3 0) C 4 0) C 5 0, s1.2) _
  have hR8 : RF (up2 (up2 (up2 (up2 s1.1 C 1 0) C 3 0) C 4 0) C 5 0) := (RF_up (RF_up (RF_up (RF_up hR1 (PS_rc hC (by unfold PS; omega))) (PS_rc hC (by unfold PS; omega))) (PS_rc hC (by unfold PS; omega))) (PS_rc hC (by unfold PS; omega)))
  refine wr_n (pc2 := 41) (lv2 := [(0, .ref 170)]) (st2 := [.ref 170]) 1 (fun _ _ => rfl) ?_
  refine wr_get (v := .ref C) rfl rfl rfl (by decide) (rv_ref (show (up2 (up2 (up2 (up2 s1.1 C 1 0) C 3 0) C 4 0) C 5 0) 170 19 = ((C : Nat) : Int) from ((if_neg (by omega)).trans ((if_neg (by omega)).trans ((if_neg (by omega)).trans ((if_neg (by omega)).trans h19s)))))) fun h9 => ?_
  show wr (d + 519) tb_M122 44 [(0, .ref 170)] [.ref C] (up2 (up2 (up2 (up2 s1.1 C 1 0) C 3 0) C 4 0) C 5 0, s1.2) _
  refine wr_n (pc2 := 45) (lv2 := [(0, .ref 170)]) (st2 := [vi 0, .ref C]) 1 (fun _ _ => rfl) ?_
  refine wr_put (z := 0) rfl rfl rfl rfl (show 96 ≤ C by omega) (TG_C hC) (by decide) rfl (show -2147483648 ≤ 0 ∧ 0 ≤ 2147483647 by omega) (hf_int' _) ?_
  show wr (d + 519) tb_M122 48 [(0, .ref 170)] [] (up2 (up2 (up2 (up2 (up2 s1.1 C 1 0) C 3 0) C 4 0) C 5 0) C 6 0, s1.2) _
  have hR10 : RF (up2 (up2 (up2 (up2 (up2 s1.1 C 1 0) C 3 0) C 4 0) C 5 0) C 6 0) := (RF_up (RF_up (RF_up (RF_up (RF_up hR1 (PS_rc hC (by unfold PS; omega))) (PS_rc hC (by unfold PS; omega))) (PS_rc hC (by unfold PS; omega))) (PS_rc hC (by unfold PS; omega))) (PS_rc hC (by unfold PS; omega)))
  refine wr_n (pc2 := 49) (lv2 := [(0, .ref 170)]) (st2 := [.ref 170]) 1 (fun _ _ => rfl) ?_
  refine wr_get (v := .ref C) rfl rfl rfl (by decide) (rv_ref (show (up2 (up2 (up2 (up2 (up2 s1.1 C 1 0) C 3 0) C 4 0) C 5 0) C 6 0) 170 19 = ((C : Nat) : Int) from ((if_neg (by omega)).trans ((if_neg (by omega)).trans ((if_neg (by omega)).trans ((if_neg (by omega)).trans ((if_neg (by omega)).trans h19s))))))) fun h11 => ?_
  show wr (d + 519) tb_M122 52 [(0, .ref 170)] [.ref C] (up2 (up2 (up2 (up2 (up2 s1.1 C 1 0) C 3 0) C 4 0) C 5 0) C 6 0, s1.2) _
  refine wr_n (pc2 := 53) (lv2 := [(0, .ref 170)]) (st2 := [vi 0, .ref C]) 1 (fun _ _ => rfl) ?_
  refine wr_put (z := 0) rfl rfl rfl rfl (show 96 ≤ C by omega) (TG_C hC) (by decide) rfl (show -2147483648 ≤ 0 ∧ 0 ≤ 2147483647 by omega) (hf_int' _) ?_
  show wr (d + 519) tb_M122 56 [(0, .ref 170)] [] (up2 (up2 (up2 (up2 (up2 (up2 s1.1 C 1 0) C 3 0) C 4 0) C 5 0) C 6 0) C 7 0, s1.2) _
  have hR12 : RF (up2 (up2 (up2 (up2 (up2 (up2 s1.1 C 1 0) C 3 0) C 4 0) C 5 0) C 6 0) C 7 0) := (RF_up (RF_up (RF_up (RF_up (RF_up (RF_up hR1 (PS_rc hC (by unfold PS; omega))) (PS_rc hC (by unfold PS; omega))) (PS_rc hC (by unfold PS; omega))) (PS_rc hC (by unfold PS; omega))) (PS_rc hC (by unfold PS; omega))) (PS_rc hC (by unfold PS; omega)))
  refine wr_n (pc2 := 57) (lv2 := [(0, .ref 170)]) (st2 := [.ref 170]) 1 (fun _ _ => rfl) ?_
  refine wr_get (v := .ref C) rfl rfl rfl (by decide) (rv_ref (show (up2 (up2 (up2 (up2 (up2 (up2 s1.1 C 1 0) C 3 0) C 4 0) C 5 0) C 6 0) C 7 0) 170 19 = ((C : Nat) : Int) from ((if_neg (by omega)).trans ((if_neg (by omega)).trans ((if_neg (by omega)).trans ((if_neg (by omega)).trans ((if_neg (by omega)).trans ((if_neg (by omega)).trans h19s)))))))) fun h13 => ?_
  show wr (d + 519) tb_M122 60 [(0, .ref 170)] [.ref C] (up2 (up2 (up2 (up2 (up2 (up2 s1.1 C 1 0) C 3 0) C 4 0) C 5 0) C 6 0) C 7 0, s1.2) _
  refine wr_n (pc2 := 61) (lv2 := [(0, .ref 170)]) (st2 := [vi 0, .ref C]) 1 (fun _ _ => rfl) ?_
  refine wr_put (z := 0) rfl rfl rfl rfl (show 96 ≤ C by omega) (TG_C hC) (by decide) rfl (show -2147483648 ≤ 0 ∧ 0 ≤ 2147483647 by omega) (hf_int' _) ?_
  show wr (d + 519) tb_M122 64 [(0, .ref 170)] [] (up2 (up2 (up2 (up2 (up2 (up2 (up2 s1.1 C 1 0) C 3 0) C 4 0) C 5 0) C 6 0) C 7 0) C 8 0, s1.2) _
  have hR14 : RF (up2 (up2 (up2 (up2 (up2 (up2 (up2 s1.1 C 1 0) C 3 0) C 4 0) C 5 0) C 6 0) C 7 0) C 8 0) := (RF_up (RF_up (RF_up (RF_up (RF_up (RF_up (RF_up hR1 (PS_rc hC (by unfold PS; omega))) (PS_rc hC (by unfold PS; omega))) (PS_rc hC (by unfold PS; omega))) (PS_rc hC (by unfold PS; omega))) (PS_rc hC (by unfold PS; omega))) (PS_rc hC (by unfold PS; omega))) (PS_rc hC (by unfold PS; omega)))
  refine wr_n (pc2 := 65) (lv2 := [(0, .ref 170)]) (st2 := [.ref 170]) 1 (fun _ _ => rfl) ?_
  refine wr_get (v := .ref C) rfl rfl rfl (by decide) (rv_ref (show (up2 (up2 (up2 (up2 (up2 (up2 (up2 s1.1 C 1 0) C 3 0) C 4 0) C 5 0) C 6 0) C 7 0) C 8 0) 170 19 = ((C : Nat) : Int) from ((if_neg (by omega)).trans ((if_neg (by omega)).trans ((if_neg (by omega)).trans ((if_neg (by omega)).trans ((if_neg (by omega)).trans ((if_neg (by omega)).trans ((if_neg (by omega)).trans h19s))))))))) fun h15 => ?_
  show wr (d + 519) tb_M122 68 [(0, .ref 170)] [.ref C] (up2 (up2 (up2 (up2 (up2 (up2 (up2 s1.1 C 1 0) C 3 0) C 4 0) C 5 0) C 6 0) C 7 0) C 8 0, s1.2) _
  refine wr_n (pc2 := 69) (lv2 := [(0, .ref 170)]) (st2 := [vi 0, .ref C]) 1 (fun _ _ => rfl) ?_
  refine wr_put (z := 0) rfl rfl rfl rfl (show 96 ≤ C by omega) (TG_C hC) (by decide) rfl (show -2147483648 ≤ 0 ∧ 0 ≤ 2147483647 by omega) (hf_int' _) ?_
  show wr (d + 519) tb_M122 72 [(0, .ref 170)] [] (up2 (up2 (up2 (up2 (up2 (up2 (up2 (up2 s1.1 C 1 0) C 3 0) C 4 0) C 5 0) C 6 0) C 7 0) C 8 0) C 9 0, s1.2) _
  have hR16 : RF (up2 (up2 (up2 (up2 (up2 (up2 (up2 (up2 s1.1 C 1 0) C 3 0) C 4 0) C 5 0) C 6 0) C 7 0) C 8 0) C 9 0) := (RF_up (RF_up (RF_up (RF_up (RF_up (RF_up (RF_up (RF_up hR1 (PS_rc hC (by unfold PS; omega))) (PS_rc hC (by unfold PS; omega))) (PS_rc hC (by unfold PS; omega))) (PS_rc hC (by unfold PS; omega))) (PS_rc hC (by unfold PS; omega))) (PS_rc hC (by unfold PS; omega))) (PS_rc hC (by unfold PS; omega))) (PS_rc hC (by unfold PS; omega)))
  refine wr_n (pc2 := 73) (lv2 := [(0, .ref 170)]) (st2 := [.ref 170]) 1 (fun _ _ => rfl) ?_
  refine wr_get (v := .ref C) rfl rfl rfl (by decide) (rv_ref (show (up2 (up2 (up2 (up2 (up2 (up2 (up2 (up2 s1.1 C 1 0) C 3 0) C 4 0) C 5 0) C 6 0) C 7 0) C 8 0) C 9 0) 170 19 = ((C : Nat) : Int) from ((if_neg (by omega)).trans ((if_neg (by omega)).trans ((if_neg (by omega)).trans ((if_neg (by omega)).trans ((if_neg (by omega)).trans ((if_neg (by omega)).trans ((if_neg (by omega)).trans ((if_neg (by omega)).trans h19s)))))))))) fun h17 => ?_
  show wr (d + 519) tb_M122 76 [(0, .ref 170)] [.ref C] (up2 (up2 (up2 (up2 (up2 (up2 (up2 (up2 s1.1 C 1 0) C 3 0) C 4 0) C 5 0) C 6 0) C 7 0) C 8 0) C 9 0, s1.2) _
  refine wr_n (pc2 := 77) (lv2 := [(0, .ref 170)]) (st2 := [vi 0, .ref C]) 1 (fun _ _ => rfl) ?_
  refine wr_put (z := 0) rfl rfl rfl rfl (show 96 ≤ C by omega) (TG_C hC) (by decide) rfl (show -2147483648 ≤ 0 ∧ 0 ≤ 2147483647 by omega) (hf_int' _) ?_
  show wr (d + 519) tb_M122 80 [(0, .ref 170)] [] (up2 (up2 (up2 (up2 (up2 (up2 (up2 (up2 (up2 s1.1 C 1 0) C 3 0) C 4 0) C 5 0) C 6 0) C 7 0) C 8 0) C 9 0) C 10 0, s1.2) _
  have hR18 : RF (up2 (up2 (up2 (up2 (up2 (up2 (up2 (up2 (up2 s1.1 C 1 0) C 3 0) C 4 0) C 5 0) C 6 0) C 7 0) C 8 0) C 9 0) C 10 0) := (RF_up (RF_up (RF_up (RF_up (RF_up (RF_up (RF_up (RF_up (RF_up hR1 (PS_rc hC (by unfold PS; omega))) (PS_rc hC (by unfold PS; omega))) (PS_rc hC (by unfold PS; omega))) (PS_rc hC (by unfold PS; omega))) (PS_rc hC (by unfold PS; omega))) (PS_rc hC (by unfold PS; omega))) (PS_rc hC (by unfold PS; omega))) (PS_rc hC (by unfold PS; omega))) (PS_rc hC (by unfold PS; omega)))
  refine wr_n (pc2 := 82) (lv2 := [(0, .ref 170)]) (st2 := [.ref 170, .ref 170]) 2 (fun _ _ => rfl) ?_
  refine wr_get (v := vi (s1.1 170 1)) rfl rfl rfl (by decide) (by show rv _ ((up2 (up2 (up2 (up2 (up2 (up2 (up2 (up2 (up2 s1.1 C 1 0) C 3 0) C 4 0) C 5 0) C 6 0) C 7 0) C 8 0) C 9 0) C 10 0) 170 1) = _; rw [up_nk (by omega), up_nk (by omega), up_nk (by omega), up_nk (by omega), up_nk (by omega), up_nk (by omega), up_nk (by omega), up_nk (by omega), up_nk (by omega)]; rfl) fun h19 => ?_
  replace h19 : rg _ ((up2 (up2 (up2 (up2 (up2 (up2 (up2 (up2 (up2 s1.1 C 1 0) C 3 0) C 4 0) C 5 0) C 6 0) C 7 0) C 8 0) C 9 0) C 10 0) 170 1) := h19
  rw [up_nk (by omega), up_nk (by omega), up_nk (by omega), up_nk (by omega), up_nk (by omega), up_nk (by omega), up_nk (by omega), up_nk (by omega), up_nk (by omega)] at h19
  have h19 : -2147483648 ≤ s1.1 170 1 ∧ s1.1 170 1 ≤ 2147483647 := h19
  show wr (d + 519) tb_M122 85 [(0, .ref 170)] [vi (s1.1 170 1), .ref 170] (up2 (up2 (up2 (up2 (up2 (up2 (up2 (up2 (up2 s1.1 C 1 0) C 3 0) C 4 0) C 5 0) C 6 0) C 7 0) C 8 0) C 9 0) C 10 0, s1.2) _
  refine wr_put (z := s1.1 170 1) rfl rfl rfl rfl (by decide) rfl (by decide) rfl (show -2147483648 ≤ s1.1 170 1 ∧ s1.1 170 1 ≤ 2147483647 by omega) (hf_int' _) ?_
  show wr (d + 519) tb_M122 88 [(0, .ref 170)] [] (up2 (up2 (up2 (up2 (up2 (up2 (up2 (up2 (up2 (up2 s1.1 C 1 0) C 3 0) C 4 0) C 5 0) C 6 0) C 7 0) C 8 0) C 9 0) C 10 0) 170 2 (s1.1 170 1), s1.2) _
  have hR20 : RF (up2 (up2 (up2 (up2 (up2 (up2 (up2 (up2 (up2 (up2 s1.1 C 1 0) C 3 0) C 4 0) C 5 0) C 6 0) C 7 0) C 8 0) C 9 0) C 10 0) 170 2 (s1.1 170 1)) := (RF_up (RF_up (RF_up (RF_up (RF_up (RF_up (RF_up (RF_up (RF_up (RF_up hR1 (PS_rc hC (by unfold PS; omega))) (PS_rc hC (by unfold PS; omega))) (PS_rc hC (by unfold PS; omega))) (PS_rc hC (by unfold PS; omega))) (PS_rc hC (by unfold PS; omega))) (PS_rc hC (by unfold PS; omega))) (PS_rc hC (by unfold PS; omega))) (PS_rc hC (by unfold PS; omega))) (PS_rc hC (by unfold PS; omega))) rfl)
  refine wr_n (pc2 := 90) (lv2 := [(0, .ref 170)]) (st2 := [vi 0, .ref 170]) 2 (fun _ _ => rfl) ?_
  refine wr_put (z := 0) rfl rfl rfl rfl (by decide) rfl (by decide) rfl (show -2147483648 ≤ 0 ∧ 0 ≤ 2147483647 by omega) (hf_int' _) ?_
  show wr (d + 519) tb_M122 93 [(0, .ref 170)] [] (up2 (up2 (up2 (up2 (up2 (up2 (up2 (up2 (up2 (up2 (up2 s1.1 C 1 0) C 3 0) C 4 0) C 5 0) C 6 0) C 7 0) C 8 0) C 9 0) C 10 0) 170 2 (s1.1 170 1)) 170 1 0, s1.2) _
  have hR21 : RF (up2 (up2 (up2 (up2 (up2 (up2 (up2 (up2 (up2 (up2 (up2 s1.1 C 1 0) C 3 0) C 4 0) C 5 0) C 6 0) C 7 0) C 8 0) C 9 0) C 10 0) 170 2 (s1.1 170 1)) 170 1 0) := (RF_up (RF_up (RF_up (RF_up (RF_up (RF_up (RF_up (RF_up (RF_up (RF_up (RF_up hR1 (PS_rc hC (by unfold PS; omega))) (PS_rc hC (by unfold PS; omega))) (PS_rc hC (by unfold PS; omega))) (PS_rc hC (by unfold PS; omega))) (PS_rc hC (by unfold PS; omega))) (PS_rc hC (by unfold PS; omega))) (PS_rc hC (by unfold PS; omega))) (PS_rc hC (by unfold PS; omega))) (PS_rc hC (by unfold PS; omega))) rfl) rfl)
  refine wr_n (pc2 := 95) (lv2 := [(0, .ref 170)]) (st2 := [vi 0, .ref 170]) 2 (fun _ _ => rfl) ?_
  refine wr_put (z := 0) rfl rfl rfl rfl (by decide) rfl (by decide) rfl (show -2147483648 ≤ 0 ∧ 0 ≤ 2147483647 by omega) (hf_int' _) ?_
  show wr (d + 519) tb_M122 98 [(0, .ref 170)] [] (up2 (up2 (up2 (up2 (up2 (up2 (up2 (up2 (up2 (up2 (up2 (up2 s1.1 C 1 0) C 3 0) C 4 0) C 5 0) C 6 0) C 7 0) C 8 0) C 9 0) C 10 0) 170 2 (s1.1 170 1)) 170 1 0) 170 3 0, s1.2) _
  have hR22 : RF (up2 (up2 (up2 (up2 (up2 (up2 (up2 (up2 (up2 (up2 (up2 (up2 s1.1 C 1 0) C 3 0) C 4 0) C 5 0) C 6 0) C 7 0) C 8 0) C 9 0) C 10 0) 170 2 (s1.1 170 1)) 170 1 0) 170 3 0) := (RF_up (RF_up (RF_up (RF_up (RF_up (RF_up (RF_up (RF_up (RF_up (RF_up (RF_up (RF_up hR1 (PS_rc hC (by unfold PS; omega))) (PS_rc hC (by unfold PS; omega))) (PS_rc hC (by unfold PS; omega))) (PS_rc hC (by unfold PS; omega))) (PS_rc hC (by unfold PS; omega))) (PS_rc hC (by unfold PS; omega))) (PS_rc hC (by unfold PS; omega))) (PS_rc hC (by unfold PS; omega))) (PS_rc hC (by unfold PS; omega))) rfl) rfl) rfl)
  refine wr_n (pc2 := 100) (lv2 := [(0, .ref 170)]) (st2 := [vi ((-1)), .ref 170]) 2 (fun _ _ => rfl) ?_
  refine wr_put (z := (-1)) rfl rfl rfl rfl (by decide) rfl (by decide) rfl (show -2147483648 ≤ (-1) ∧ (-1) ≤ 2147483647 by omega) (hf_int' _) ?_
  show wr (d + 519) tb_M122 103 [(0, .ref 170)] [] (up2 (up2 (up2 (up2 (up2 (up2 (up2 (up2 (up2 (up2 (up2 (up2 (up2 s1.1 C 1 0) C 3 0) C 4 0) C 5 0) C 6 0) C 7 0) C 8 0) C 9 0) C 10 0) 170 2 (s1.1 170 1)) 170 1 0) 170 3 0) 170 8 ((-1)), s1.2) _
  have hR23 : RF (up2 (up2 (up2 (up2 (up2 (up2 (up2 (up2 (up2 (up2 (up2 (up2 (up2 s1.1 C 1 0) C 3 0) C 4 0) C 5 0) C 6 0) C 7 0) C 8 0) C 9 0) C 10 0) 170 2 (s1.1 170 1)) 170 1 0) 170 3 0) 170 8 ((-1))) := (RF_up (RF_up (RF_up (RF_up (RF_up (RF_up (RF_up (RF_up (RF_up (RF_up (RF_up (RF_up (RF_up hR1 (PS_rc hC (by unfold PS; omega))) (PS_rc hC (by unfold PS; omega))) (PS_rc hC (by unfold PS; omega))) (PS_rc hC (by unfold PS; omega))) (PS_rc hC (by unfold PS; omega))) (PS_rc hC (by unfold PS; omega))) (PS_rc hC (by unfold PS; omega))) (PS_rc hC (by unfold PS; omega))) (PS_rc hC (by unfold PS; omega))) rfl) rfl) rfl) rfl)
  refine wr_n (pc2 := 105) (lv2 := [(0, .ref 170)]) (st2 := [vi ((-1)), .ref 170]) 2 (fun _ _ => rfl) ?_
  refine wr_put (z := (-1)) rfl rfl rfl rfl (by decide) rfl (by decide) rfl (show -2147483648 ≤ (-1) ∧ (-1) ≤ 2147483647 by omega) (hf_int' _) ?_
  show wr (d + 519) tb_M122 108 [(0, .ref 170)] [] (up2 (up2 (up2 (up2 (up2 (up2 (up2 (up2 (up2 (up2 (up2 (up2 (up2 (up2 s1.1 C 1 0) C 3 0) C 4 0) C 5 0) C 6 0) C 7 0) C 8 0) C 9 0) C 10 0) 170 2 (s1.1 170 1)) 170 1 0) 170 3 0) 170 8 ((-1))) 170 21 ((-1)), s1.2) _
  have hR24 : RF (up2 (up2 (up2 (up2 (up2 (up2 (up2 (up2 (up2 (up2 (up2 (up2 (up2 (up2 s1.1 C 1 0) C 3 0) C 4 0) C 5 0) C 6 0) C 7 0) C 8 0) C 9 0) C 10 0) 170 2 (s1.1 170 1)) 170 1 0) 170 3 0) 170 8 ((-1))) 170 21 ((-1))) := (RF_up (RF_up (RF_up (RF_up (RF_up (RF_up (RF_up (RF_up (RF_up (RF_up (RF_up (RF_up (RF_up (RF_up hR1 (PS_rc hC (by unfold PS; omega))) (PS_rc hC (by unfold PS; omega))) (PS_rc hC (by unfold PS; omega))) (PS_rc hC (by unfold PS; omega))) (PS_rc hC (by unfold PS; omega))) (PS_rc hC (by unfold PS; omega))) (PS_rc hC (by unfold PS; omega))) (PS_rc hC (by unfold PS; omega))) (PS_rc hC (by unfold PS; omega))) rfl) rfl) rfl) rfl) rfl)
  refine wr_n (pc2 := 110) (lv2 := [(0, .ref 170)]) (st2 := [vi 0, .ref 170]) 2 (fun _ _ => rfl) ?_
  refine wr_put (z := 0) rfl rfl rfl rfl (by decide) rfl (by decide) rfl (show -2147483648 ≤ 0 ∧ 0 ≤ 2147483647 by omega) (hf_int' _) ?_
  show wr (d + 519) tb_M122 113 [(0, .ref 170)] [] (up2 (up2 (up2 (up2 (up2 (up2 (up2 (up2 (up2 (up2 (up2 (up2 (up2 (up2 (up2 s1.1 C 1 0) C 3 0) C 4 0) C 5 0) C 6 0) C 7 0) C 8 0) C 9 0) C 10 0) 170 2 (s1.1 170 1)) 170 1 0) 170 3 0) 170 8 ((-1))) 170 21 ((-1))) 170 14 0, s1.2) _
  have hR25 : RF (up2 (up2 (up2 (up2 (up2 (up2 (up2 (up2 (up2 (up2 (up2 (up2 (up2 (up2 (up2 s1.1 C 1 0) C 3 0) C 4 0) C 5 0) C 6 0) C 7 0) C 8 0) C 9 0) C 10 0) 170 2 (s1.1 170 1)) 170 1 0) 170 3 0) 170 8 ((-1))) 170 21 ((-1))) 170 14 0) := (RF_up (RF_up (RF_up (RF_up (RF_up (RF_up (RF_up (RF_up (RF_up (RF_up (RF_up (RF_up (RF_up (RF_up (RF_up hR1 (PS_rc hC (by unfold PS; omega))) (PS_rc hC (by unfold PS; omega))) (PS_rc hC (by unfold PS; omega))) (PS_rc hC (by unfold PS; omega))) (PS_rc hC (by unfold PS; omega))) (PS_rc hC (by unfold PS; omega))) (PS_rc hC (by unfold PS; omega))) (PS_rc hC (by unfold PS; omega))) (PS_rc hC (by unfold PS; omega))) rfl) rfl) rfl) rfl) rfl) rfl)
  refine wr_n (pc2 := 115) (lv2 := [(0, .ref 170)]) (st2 := [vi 0, .ref 170]) 2 (fun _ _ => rfl) ?_
  refine wr_put (z := 0) rfl rfl rfl rfl (by decide) rfl (by decide) rfl (show -2147483648 ≤ 0 ∧ 0 ≤ 2147483647 by omega) (hf_int' _) ?_
  show wr (d + 519) tb_M122 118 [(0, .ref 170)] [] (up2 (up2 (up2 (up2 (up2 (up2 (up2 (up2 (up2 (up2 (up2 (up2 (up2 (up2 (up2 (up2 s1.1 C 1 0) C 3 0) C 4 0) C 5 0) C 6 0) C 7 0) C 8 0) C 9 0) C 10 0) 170 2 (s1.1 170 1)) 170 1 0) 170 3 0) 170 8 ((-1))) 170 21 ((-1))) 170 14 0) 170 15 0, s1.2) _
  have hR26 : RF (up2 (up2 (up2 (up2 (up2 (up2 (up2 (up2 (up2 (up2 (up2 (up2 (up2 (up2 (up2 (up2 s1.1 C 1 0) C 3 0) C 4 0) C 5 0) C 6 0) C 7 0) C 8 0) C 9 0) C 10 0) 170 2 (s1.1 170 1)) 170 1 0) 170 3 0) 170 8 ((-1))) 170 21 ((-1))) 170 14 0) 170 15 0) := (RF_up (RF_up (RF_up (RF_up (RF_up (RF_up (RF_up (RF_up (RF_up (RF_up (RF_up (RF_up (RF_up (RF_up (RF_up (RF_up hR1 (PS_rc hC (by unfold PS; omega))) (PS_rc hC (by unfold PS; omega))) (PS_rc hC (by unfold PS; omega))) (PS_rc hC (by unfold PS; omega))) (PS_rc hC (by unfold PS; omega))) (PS_rc hC (by unfold PS; omega))) (PS_rc hC (by unfold PS; omega))) (PS_rc hC (by unfold PS; omega))) (PS_rc hC (by unfold PS; omega))) rfl) rfl) rfl) rfl) rfl) rfl) rfl)
  refine wr_n (pc2 := 120) (lv2 := [(0, .ref 170)]) (st2 := [vi 1, .ref 170]) 2 (fun _ _ => rfl) ?_
  refine wr_put (z := 1) rfl rfl rfl rfl (by decide) rfl (by decide) rfl (show -2147483648 ≤ 1 ∧ 1 ≤ 2147483647 by omega) (hf_int' _) ?_
  show wr (d + 519) tb_M122 123 [(0, .ref 170)] [] (up2 (up2 (up2 (up2 (up2 (up2 (up2 (up2 (up2 (up2 (up2 (up2 (up2 (up2 (up2 (up2 (up2 s1.1 C 1 0) C 3 0) C 4 0) C 5 0) C 6 0) C 7 0) C 8 0) C 9 0) C 10 0) 170 2 (s1.1 170 1)) 170 1 0) 170 3 0) 170 8 ((-1))) 170 21 ((-1))) 170 14 0) 170 15 0) 170 16 1, s1.2) _
  have hR27 : RF (up2 (up2 (up2 (up2 (up2 (up2 (up2 (up2 (up2 (up2 (up2 (up2 (up2 (up2 (up2 (up2 (up2 s1.1 C 1 0) C 3 0) C 4 0) C 5 0) C 6 0) C 7 0) C 8 0) C 9 0) C 10 0) 170 2 (s1.1 170 1)) 170 1 0) 170 3 0) 170 8 ((-1))) 170 21 ((-1))) 170 14 0) 170 15 0) 170 16 1) := (RF_up (RF_up (RF_up (RF_up (RF_up (RF_up (RF_up (RF_up (RF_up (RF_up (RF_up (RF_up (RF_up (RF_up (RF_up (RF_up (RF_up hR1 (PS_rc hC (by unfold PS; omega))) (PS_rc hC (by unfold PS; omega))) (PS_rc hC (by unfold PS; omega))) (PS_rc hC (by unfold PS; omega))) (PS_rc hC (by unfold PS; omega))) (PS_rc hC (by unfold PS; omega))) (PS_rc hC (by unfold PS; omega))) (PS_rc hC (by unfold PS; omega))) (PS_rc hC (by unfold PS; omega))) rfl) rfl) rfl) rfl) rfl) rfl) rfl) rfl)
  refine wr_n (pc2 := 125) (lv2 := [(0, .ref 170)]) (st2 := [vi ((-1)), .ref 170]) 2 (fun _ _ => rfl) ?_
  refine wr_put (z := (-1)) rfl rfl rfl rfl (by decide) rfl (by decide) rfl (show -2147483648 ≤ (-1) ∧ (-1) ≤ 2147483647 by omega) (hf_int' _) ?_
  show wr (d + 519) tb_M122 128 [(0, .ref 170)] [] (up2 (up2 (up2 (up2 (up2 (up2 (up2 (up2 (up2 (up2 (up2 (up2 (up2 (up2 (up2 (up2 (up2 (up2 s1.1 C 1 0) C 3 0) C 4 0) C 5 0) C 6 0) C 7 0) C 8 0) C 9 0) C 10 0) 170 2 (s1.1 170 1)) 170 1 0) 170 3 0) 170 8 ((-1))) 170 21 ((-1))) 170 14 0) 170 15 0) 170 16 1) 170 35 ((-1)), s1.2) _
  have hR28 : RF (up2 (up2 (up2 (up2 (up2 (up2 (up2 (up2 (up2 (up2 (up2 (up2 (up2 (up2 (up2 (up2 (up2 (up2 s1.1 C 1 0) C 3 0) C 4 0) C 5 0) C 6 0) C 7 0) C 8 0) C 9 0) C 10 0) 170 2 (s1.1 170 1)) 170 1 0) 170 3 0) 170 8 ((-1))) 170 21 ((-1))) 170 14 0) 170 15 0) 170 16 1) 170 35 ((-1))) := (RF_up (RF_up (RF_up (RF_up (RF_up (RF_up (RF_up (RF_up (RF_up (RF_up (RF_up (RF_up (RF_up (RF_up (RF_up (RF_up (RF_up (RF_up hR1 (PS_rc hC (by unfold PS; omega))) (PS_rc hC (by unfold PS; omega))) (PS_rc hC (by unfold PS; omega))) (PS_rc hC (by unfold PS; omega))) (PS_rc hC (by unfold PS; omega))) (PS_rc hC (by unfold PS; omega))) (PS_rc hC (by unfold PS; omega))) (PS_rc hC (by unfold PS; omega))) (PS_rc hC (by unfold PS; omega))) rfl) rfl) rfl) rfl) rfl) rfl) rfl) rfl) rfl)
  refine wr_n (pc2 := 130) (lv2 := [(0, .ref 170)]) (st2 := [vi 0, .ref 170]) 2 (fun _ _ => rfl) ?_
  refine wr_put (z := 0) rfl rfl rfl rfl (by decide) rfl (by decide) rfl (show 0 ≤ 0 ∧ 0 ≤ 1 by omega) (fit_i (.inr (.inl rfl)) (show 0 ≤ 0 ∧ 0 ≤ 1 by omega)) ?_
  show wr (d + 519) tb_M122 133 [(0, .ref 170)] [] (up2 (up2 (up2 (up2 (up2 (up2 (up2 (up2 (up2 (up2 (up2 (up2 (up2 (up2 (up2 (up2 (up2 (up2 (up2 s1.1 C 1 0) C 3 0) C 4 0) C 5 0) C 6 0) C 7 0) C 8 0) C 9 0) C 10 0) 170 2 (s1.1 170 1)) 170 1 0) 170 3 0) 170 8 ((-1))) 170 21 ((-1))) 170 14 0) 170 15 0) 170 16 1) 170 35 ((-1))) 170 37 0, s1.2) _
  have hR29 : RF (up2 (up2 (up2 (up2 (up2 (up2 (up2 (up2 (up2 (up2 (up2 (up2 (up2 (up2 (up2 (up2 (up2 (up2 (up2 s1.1 C 1 0) C 3 0) C 4 0) C 5 0) C 6 0) C 7 0) C 8 0) C 9 0) C 10 0) 170 2 (s1.1 170 1)) 170 1 0) 170 3 0) 170 8 ((-1))) 170 21 ((-1))) 170 14 0) 170 15 0) 170 16 1) 170 35 ((-1))) 170 37 0) := (RF_up (RF_up (RF_up (RF_up (RF_up (RF_up (RF_up (RF_up (RF_up (RF_up (RF_up (RF_up (RF_up (RF_up (RF_up (RF_up (RF_up (RF_up (RF_up hR1 (PS_rc hC (by unfold PS; omega))) (PS_rc hC (by unfold PS; omega))) (PS_rc hC (by unfold PS; omega))) (PS_rc hC (by unfold PS; omega))) (PS_rc hC (by unfold PS; omega))) (PS_rc hC (by unfold PS; omega))) (PS_rc hC (by unfold PS; omega))) (PS_rc hC (by unfold PS; omega))) (PS_rc hC (by unfold PS; omega))) rfl) rfl) rfl) rfl) rfl) rfl) rfl) rfl) rfl) rfl)
  refine wr_n (pc2 := 135) (lv2 := [(0, .ref 170)]) (st2 := [vi 0, .ref 170]) 2 (fun _ _ => rfl) ?_
  refine wr_put (z := 0) rfl rfl rfl rfl (by decide) rfl (by decide) rfl (show -2147483648 ≤ 0 ∧ 0 ≤ 2147483647 by omega) (hf_int' _) ?_
  show wr (d + 519) tb_M122 138 [(0, .ref 170)] [] (up2 (up2 (up2 (up2 (up2 (up2 (up2 (up2 (up2 (up2 (up2 (up2 (up2 (up2 (up2 (up2 (up2 (up2 (up2 (up2 s1.1 C 1 0) C 3 0) C 4 0) C 5 0) C 6 0) C 7 0) C 8 0) C 9 0) C 10 0) 170 2 (s1.1 170 1)) 170 1 0) 170 3 0) 170 8 ((-1))) 170 21 ((-1))) 170 14 0) 170 15 0) 170 16 1) 170 35 ((-1))) 170 37 0) 170 36 0, s1.2) _
  have hR30 : RF (up2 (up2 (up2 (up2 (up2 (up2 (up2 (up2 (up2 (up2 (up2 (up2 (up2 (up2 (up2 (up2 (up2 (up2 (up2 (up2 s1.1 C 1 0) C 3 0) C 4 0) C 5 0) C 6 0) C 7 0) C 8 0) C 9 0) C 10 0) 170 2 (s1.1 170 1)) 170 1 0) 170 3 0) 170 8 ((-1))) 170 21 ((-1))) 170 14 0) 170 15 0) 170 16 1) 170 35 ((-1))) 170 37 0) 170 36 0) := (RF_up (RF_up (RF_up (RF_up (RF_up (RF_up (RF_up (RF_up (RF_up (RF_up (RF_up (RF_up (RF_up (RF_up (RF_up (RF_up (RF_up (RF_up (RF_up (RF_up hR1 (PS_rc hC (by unfold PS; omega))) (PS_rc hC (by unfold PS; omega))) (PS_rc hC (by unfold PS; omega))) (PS_rc hC (by unfold PS; omega))) (PS_rc hC (by unfold PS; omega))) (PS_rc hC (by unfold PS; omega))) (PS_rc hC (by unfold PS; omega))) (PS_rc hC (by unfold PS; omega))) (PS_rc hC (by unfold PS; omega))) rfl) rfl) rfl) rfl) rfl) rfl) rfl) rfl) rfl) rfl) rfl)
  refine wr_n (pc2 := 139) (lv2 := [(0, .ref 170)]) (st2 := [.ref 170]) 1 (fun _ _ => rfl) ?_
  obtain ⟨s2, hs2⟩ : ∃ qq9 : rS, qq9 = (up2 (up2 (up2 (up2 (up2 (up2 (up2 (up2 (up2 (up2 (up2 (up2 (up2 (up2 (up2 (up2 (up2 (up2 (up2 (up2 s1.1 C 1 0) C 3 0) C 4 0) C 5 0) C 6 0) C 7 0) C 8 0) C 9 0) C 10 0) 170 2 (s1.1 170 1)) 170 1 0) 170 3 0) 170 8 ((-1))) 170 21 ((-1))) 170 14 0) 170 15 0) 170 16 1) 170 35 ((-1))) 170 37 0) 170 36 0, s1.2) := ⟨_, rfl⟩
  rw [← hs2]
  have hR2 : RF s2.1 := by rw [hs2]; exact hR30
  have hfr : ∀ k j, ¬ PS C k j → ¬ (k = 170 ∧ (j = 1 ∨ j = 19)) → s2.1 k j = s1.1 k j := by rw [hs2]; intro k j e1 e2; unfold PS at e1; exact ((if_neg (by omega)).trans ((if_neg (by omega)).trans ((if_neg (by omega)).trans ((if_neg (by omega)).trans ((if_neg (by omega)).trans ((if_neg (by omega)).trans ((if_neg (by omega)).trans ((if_neg (by omega)).trans ((if_neg (by omega)).trans ((if_neg (by omega)).trans ((if_neg (by omega)).trans ((if_neg (by omega)).trans ((if_neg (by omega)).trans ((if_neg (by omega)).trans ((if_neg (by omega)).trans ((if_neg (by omega)).trans ((if_neg (by omega)).trans ((if_neg (by omega)).trans ((if_neg (by omega)).trans ((if_neg (by omega)).trans rfl))))))))))))))))))))
  have v170_1 : s2.1 170 1 = 0 := by rw [hs2]; show (up2 (up2 (up2 (up2 (up2 (up2 (up2 (up2 (up2 (up2 (up2 (up2 (up2 (up2 (up2 (up2 (up2 (up2 (up2 (up2 s1.1 C 1 0) C 3 0) C 4 0) C 5 0) C 6 0) C 7 0) C 8 0) C 9 0) C 10 0) 170 2 (s1.1 170 1)) 170 1 0) 170 3 0) 170 8 ((-1))) 170 21 ((-1))) 170 14 0) 170 15 0) 170 16 1) 170 35 ((-1))) 170 37 0) 170 36 0) 170 1 = _; exact ((if_neg (by omega)).trans ((if_neg (by omega)).trans ((if_neg (by omega)).trans ((if_neg (by omega)).trans ((if_neg (by omega)).trans ((if_neg (by omega)).trans ((if_neg (by omega)).trans ((if_neg (by omega)).trans ((if_neg (by omega)).trans up_self)))))))))
  have v170_14 : s2.1 170 14 = 0 := by rw [hs2]; show (up2 (up2 (up2 (up2 (up2 (up2 (up2 (up2 (up2 (up2 (up2 (up2 (up2 (up2 (up2 (up2 (up2 (up2 (up2 (up2 s1.1 C 1 0) C 3 0) C 4 0) C 5 0) C 6 0) C 7 0) C 8 0) C 9 0) C 10 0) 170 2 (s1.1 170 1)) 170 1 0) 170 3 0) 170 8 ((-1))) 170 21 ((-1))) 170 14 0) 170 15 0) 170 16 1) 170 35 ((-1))) 170 37 0) 170 36 0) 170 14 = _; exact ((if_neg (by omega)).trans ((if_neg (by omega)).trans ((if_neg (by omega)).trans ((if_neg (by omega)).trans ((if_neg (by omega)).trans up_self)))))
  have v170_15 : s2.1 170 15 = 0 := by rw [hs2]; show (up2 (up2 (up2 (up2 (up2 (up2 (up2 (up2 (up2 (up2 (up2 (up2 (up2 (up2 (up2 (up2 (up2 (up2 (up2 (up2 s1.1 C 1 0) C 3 0) C 4 0) C 5 0) C 6 0) C 7 0) C 8 0) C 9 0) C 10 0) 170 2 (s1.1 170 1)) 170 1 0) 170 3 0) 170 8 ((-1))) 170 21 ((-1))) 170 14 0) 170 15 0) 170 16 1) 170 35 ((-1))) 170 37 0) 170 36 0) 170 15 = _; exact ((if_neg (by omega)).trans ((if_neg (by omega)).trans ((if_neg (by omega)).trans ((if_neg (by omega)).trans up_self))))
  have v170_16 : s2.1 170 16 = 1 := by rw [hs2]; show (up2 (up2 (up2 (up2 (up2 (up2 (up2 (up2 (up2 (up2 (up2 (up2 (up2 (up2 (up2 (up2 (up2 (up2 (up2 (up2 s1.1 C 1 0) C 3 0) C 4 0) C 5 0) C 6 0) C 7 0) C 8 0) C 9 0) C 10 0) 170 2 (s1.1 170 1)) 170 1 0) 170 3 0) 170 8 ((-1))) 170 21 ((-1))) 170 14 0) 170 15 0) 170 16 1) 170 35 ((-1))) 170 37 0) 170 36 0) 170 16 = _; exact ((if_neg (by omega)).trans ((if_neg (by omega)).trans ((if_neg (by omega)).trans up_self)))
  have v170_2 : s2.1 170 2 = s1.1 170 1 := by rw [hs2]; show (up2 (up2 (up2 (up2 (up2 (up2 (up2 (up2 (up2 (up2 (up2 (up2 (up2 (up2 (up2 (up2 (up2 (up2 (up2 (up2 s1.1 C 1 0) C 3 0) C 4 0) C 5 0) C 6 0) C 7 0) C 8 0) C 9 0) C 10 0) 170 2 (s1.1 170 1)) 170 1 0) 170 3 0) 170 8 ((-1))) 170 21 ((-1))) 170 14 0) 170 15 0) 170 16 1) 170 35 ((-1))) 170 37 0) 170 36 0) 170 2 = _; exact ((if_neg (by omega)).trans ((if_neg (by omega)).trans ((if_neg (by omega)).trans ((if_neg (by omega)).trans ((if_neg (by omega)).trans ((if_neg (by omega)).trans ((if_neg (by omega)).trans ((if_neg (by omega)).trans ((if_neg (by omega)).trans ((if_neg (by omega)).trans up_self))))))))))
  have v170_21 : s2.1 170 21 = (-1) := by rw [hs2]; show (up2 (up2 (up2 (up2 (up2 (up2 (up2 (up2 (up2 (up2 (up2 (up2 (up2 (up2 (up2 (up2 (up2 (up2 (up2 (up2 s1.1 C 1 0) C 3 0) C 4 0) C 5 0) C 6 0) C 7 0) C 8 0) C 9 0) C 10 0) 170 2 (s1.1 170 1)) 170 1 0) 170 3 0) 170 8 ((-1))) 170 21 ((-1))) 170 14 0) 170 15 0) 170 16 1) 170 35 ((-1))) 170 37 0) 170 36 0) 170 21 = _; exact ((if_neg (by omega)).trans ((if_neg (by omega)).trans ((if_neg (by omega)).trans ((if_neg (by omega)).trans ((if_neg (by omega)).trans ((if_neg (by omega)).trans up_self))))))
  have v170_3 : s2.1 170 3 = 0 := by rw [hs2]; show (up2 (up2 (up2 (up2 (up2 (up2 (up2 (up2 (up2 (up2 (up2 (up2 (up2 (up2 (up2 (up2 (up2 (up2 (up2 (up2 s1.1 C 1 0) C 3 0) C 4 0) C 5 0) C 6 0) C 7 0) C 8 0) C 9 0) C 10 0) 170 2 (s1.1 170 1)) 170 1 0) 170 3 0) 170 8 ((-1))) 170 21 ((-1))) 170 14 0) 170 15 0) 170 16 1) 170 35 ((-1))) 170 37 0) 170 36 0) 170 3 = _; exact ((if_neg (by omega)).trans ((if_neg (by omega)).trans ((if_neg (by omega)).trans ((if_neg (by omega)).trans ((if_neg (by omega)).trans ((if_neg (by omega)).trans ((if_neg (by omega)).trans ((if_neg (by omega)).trans up_self))))))))
  have v170_35 : s2.1 170 35 = (-1) := by rw [hs2]; show (up2 (up2 (up2 (up2 (up2 (up2 (up2 (up2 (up2 (up2 (up2 (up2 (up2 (up2 (up2 (up2 (up2 (up2 (up2 (up2 s1.1 C 1 0) C 3 0) C 4 0) C 5 0) C 6 0) C 7 0) C 8 0) C 9 0) C 10 0) 170 2 (s1.1 170 1)) 170 1 0) 170 3 0) 170 8 ((-1))) 170 21 ((-1))) 170 14 0) 170 15 0) 170 16 1) 170 35 ((-1))) 170 37 0) 170 36 0) 170 35 = _; exact ((if_neg (by omega)).trans ((if_neg (by omega)).trans up_self))
  have v170_36 : s2.1 170 36 = 0 := by rw [hs2]; show (up2 (up2 (up2 (up2 (up2 (up2 (up2 (up2 (up2 (up2 (up2 (up2 (up2 (up2 (up2 (up2 (up2 (up2 (up2 (up2 s1.1 C 1 0) C 3 0) C 4 0) C 5 0) C 6 0) C 7 0) C 8 0) C 9 0) C 10 0) 170 2 (s1.1 170 1)) 170 1 0) 170 3 0) 170 8 ((-1))) 170 21 ((-1))) 170 14 0) 170 15 0) 170 16 1) 170 35 ((-1))) 170 37 0) 170 36 0) 170 36 = _; exact up_self
  have v170_37 : s2.1 170 37 = 0 := by rw [hs2]; show (up2 (up2 (up2 (up2 (up2 (up2 (up2 (up2 (up2 (up2 (up2 (up2 (up2 (up2 (up2 (up2 (up2 (up2 (up2 (up2 s1.1 C 1 0) C 3 0) C 4 0) C 5 0) C 6 0) C 7 0) C 8 0) C 9 0) C 10 0) 170 2 (s1.1 170 1)) 170 1 0) 170 3 0) 170 8 ((-1))) 170 21 ((-1))) 170 14 0) 170 15 0) 170 16 1) 170 35 ((-1))) 170 37 0) 170 36 0) 170 37 = _; exact ((if_neg (by omega)).trans up_self)
  have v170_8 : s2.1 170 8 = (-1) := by rw [hs2]; show (up2 (up2 (up2 (up2 (up2 (up2 (up2 (up2 (up2 (up2 (up2 (up2 (up2 (up2 (up2 (up2 (up2 (up2 (up2 (up2 s1.1 C 1 0) C 3 0) C 4 0) C 5 0) C 6 0) C 7 0) C 8 0) C 9 0) C 10 0) 170 2 (s1.1 170 1)) 170 1 0) 170 3 0) 170 8 ((-1))) 170 21 ((-1))) 170 14 0) 170 15 0) 170 16 1) 170 35 ((-1))) 170 37 0) 170 36 0) 170 8 = _; exact ((if_neg (by omega)).trans ((if_neg (by omega)).trans ((if_neg (by omega)).trans ((if_neg (by omega)).trans ((if_neg (by omega)).trans ((if_neg (by omega)).trans ((if_neg (by omega)).trans up_self)))))))
  have vC_1 : s2.1 C 1 = 0 := by rw [hs2]; show (up2 (up2 (up2 (up2 (up2 (up2 (up2 (up2 (up2 (up2 (up2 (up2 (up2 (up2 (up2 (up2 (up2 (up2 (up2 (up2 s1.1 C 1 0) C 3 0) C 4 0) C 5 0) C 6 0) C 7 0) C 8 0) C 9 0) C 10 0) 170 2 (s1.1 170 1)) 170 1 0) 170 3 0) 170 8 ((-1))) 170 21 ((-1))) 170 14 0) 170 15 0) 170 16 1) 170 35 ((-1))) 170 37 0) 170 36 0) C 1 = _; exact ((if_neg (by omega)).trans ((if_neg (by omega)).trans ((if_neg (by omega)).trans ((if_neg (by omega)).trans ((if_neg (by omega)).trans ((if_neg (by omega)).trans ((if_neg (by omega)).trans ((if_neg (by omega)).trans ((if_neg (by omega)).trans ((if_neg (by omega)).trans ((if_neg (by omega)).trans ((if_neg (by omega)).trans ((if_neg (by omega)).trans ((if_neg (by omega)).trans ((if_neg (by omega)).trans ((if_neg (by omega)).trans ((if_neg (by omega)).trans ((if_neg (by omega)).trans ((if_neg (by omega)).trans up_self)))))))))))))))))))
  have vC_10 : s2.1 C 10 = 0 := by rw [hs2]; show (up2 (up2 (up2 (up2 (up2 (up2 (up2 (up2 (up2 (up2 (up2 (up2 (up2 (up2 (up2 (up2 (up2 (up2 (up2 (up2 s1.1 C 1 0) C 3 0) C 4 0) C 5 0) C 6 0) C 7 0) C 8 0) C 9 0) C 10 0) 170 2 (s1.1 170 1)) 170 1 0) 170 3 0) 170 8 ((-1))) 170 21 ((-1))) 170 14 0) 170 15 0) 170 16 1) 170 35 ((-1))) 170 37 0) 170 36 0) C 10 = _; exact ((if_neg (by omega)).trans ((if_neg (by omega)).trans ((if_neg (by omega)).trans ((if_neg (by omega)).trans ((if_neg (by omega)).trans ((if_neg (by omega)).trans ((if_neg (by omega)).trans ((if_neg (by omega)).trans ((if_neg (by omega)).trans ((if_neg (by omega)).trans ((if_neg (by omega)).trans up_self)))))))))))
  have vC_3 : s2.1 C 3 = 0 := by rw [hs2]; show (up2 (up2 (up2 (up2 (up2 (up2 (up2 (up2 (up2 (up2 (up2 (up2 (up2 (up2 (up2 (up2 (up2 (up2 (up2 (up2 s1.1 C 1 0) C 3 0) C 4 0) C 5 0) C 6 0) C 7 0) C 8 0) C 9 0) C 10 0) 170 2 (s1.1 170 1)) 170 1 0) 170 3 0) 170 8 ((-1))) 170 21 ((-1))) 170 14 0) 170 15 0) 170 16 1) 170 35 ((-1))) 170 37 0) 170 36 0) C 3 = _; exact ((if_neg (by omega)).trans ((if_neg (by omega)).trans ((if_neg (by omega)).trans ((if_neg (by omega)).trans ((if_neg (by omega)).trans ((if_neg (by omega)).trans ((if_neg (by omega)).trans ((if_neg (by omega)).trans ((if_neg (by omega)).trans ((if_neg (by omega)).trans ((if_neg (by omega)).trans ((if_neg (by omega)).trans ((if_neg (by omega)).trans ((if_neg (by omega)).trans ((if_neg (by omega)).trans ((if_neg (by omega)).trans ((if_neg (by omega)).trans ((if_neg (by omega)).trans up_self))))))))))))))))))
  have vC_4 : s2.1 C 4 = 0 := by rw [hs2]; show (up2 (up2 (up2 (up2 (up2 (up2 (up2 (up2 (up2 (up2 (up2 (up2 (up2 (up2 (up2 (up2 (up2 (up2 (up2 (up2 s1.1 C 1 0) C 3 0) C 4 0) C 5 0) C 6 0) C 7 0) C 8 0) C 9 0) C 10 0) 170 2 (s1.1 170 1)) 170 1 0) 170 3 0) 170 8 ((-1))) 170 21 ((-1))) 170 14 0) 170 15 0) 170 16 1) 170 35 ((-1))) 170 37 0) 170 36 0) C 4 = _; exact ((if_neg (by omega)).trans ((if_neg (by omega)).trans ((if_neg (by omega)).trans ((if_neg (by omega)).trans ((if_neg (by omega)).trans ((if_neg (by omega)).trans ((if_neg (by omega)).trans ((if_neg (by omega)).trans ((if_neg (by omega)).trans ((if_neg (by omega)).trans ((if_neg (by omega)).trans ((if_neg (by omega)).trans ((if_neg (by omega)).trans ((if_neg (by omega)).trans ((if_neg (by omega)).trans ((if_neg (by omega)).trans ((if_neg (by omega)).trans up_self)))))))))))))))))
  have vC_5 : s2.1 C 5 = 0 := by rw [hs2]; show (up2 (up2 (up2 (up2 (up2 (up2 (up2 (up2 (up2 (up2 (up2 (up2 (up2 (up2 (up2 (up2 (up2 (up2 (up2 (up2 s1.1 C 1 0) C 3 0) C 4 0) C 5 0) C 6 0) C 7 0) C 8 0) C 9 0) C 10 0) 170 2 (s1.1 170 1)) 170 1 0) 170 3 0) 170 8 ((-1))) 170 21 ((-1))) 170 14 0) 170 15 0) 170 16 1) 170 35 ((-1))) 170 37 0) 170 36 0) C 5 = _; exact ((if_neg (by omega)).trans ((if_neg (by omega)).trans ((if_neg (by omega)).trans ((if_neg (by omega)).trans ((if_neg (by omega)).trans ((if_neg (by omega)).trans ((if_neg (by omega)).trans ((if_neg (by omega)).trans ((if_neg (by omega)).trans ((if_neg (by omega)).trans ((if_neg (by omega)).trans ((if_neg (by omega)).trans ((if_neg (by omega)).trans ((if_neg (by omega)).trans ((if_neg (by omega)).trans ((if_neg (by omega)).trans up_self))))))))))))))))
  have vC_6 : s2.1 C 6 = 0 := by rw [hs2]; show (up2 (up2 (up2 (up2 (up2 (up2 (up2 (up2 (up2 (up2 (up2 (up2 (up2 (up2 (up2 (up2 (up2 (up2 (up2 (up2 s1.1 C 1 0) C 3 0) C 4 0) C 5 0) C 6 0) C 7 0) C 8 0) C 9 0) C 10 0) 170 2 (s1.1 170 1)) 170 1 0) 170 3 0) 170 8 ((-1))) 170 21 ((-1))) 170 14 0) 170 15 0) 170 16 1) 170 35 ((-1))) 170 37 0) 170 36 0) C 6 = _; exact ((if_neg (by omega)).trans ((if_neg (by omega)).trans ((if_neg (by omega)).trans ((if_neg (by omega)).trans ((if_neg (by omega)).trans ((if_neg (by omega)).trans ((if_neg (by omega)).trans ((if_neg (by omega)).trans ((if_neg (by omega)).trans ((if_neg (by omega)).trans ((if_neg (by omega)).trans ((if_neg (by omega)).trans ((if_neg (by omega)).trans ((if_neg (by omega)).trans ((if_neg (by omega)).trans up_self)))))))))))))))
  have vC_7 : s2.1 C 7 = 0 := by rw [hs2]; show (up2 (up2 (up2 (up2 (up2 (up2 (up2 (up2 (up2 (up2 (up2 (up2 (up2 (up2 (up2 (up2 (up2 (up2 (up2 (up2 s1.1 C 1 0) C 3 0) C 4 0) C 5 0) C 6 0) C 7 0) C 8 0) C 9 0) C 10 0) 170 2 (s1.1 170 1)) 170 1 0) 170 3 0) 170 8 ((-1))) 170 21 ((-1))) 170 14 0) 170 15 0) 170 16 1) 170 35 ((-1))) 170 37 0) 170 36 0) C 7 = _; exact ((if_neg (by omega)).trans ((if_neg (by omega)).trans ((if_neg (by omega)).trans ((if_neg (by omega)).trans ((if_neg (by omega)).trans ((if_neg (by omega)).trans ((if_neg (by omega)).trans ((if_neg (by omega)).trans ((if_neg (by omega)).trans ((if_neg (by omega)).trans ((if_neg (by omega)).trans ((if_neg (by omega)).trans ((if_neg (by omega)).trans ((if_neg (by omega)).trans up_self))))))))))))))
  have vC_8 : s2.1 C 8 = 0 := by rw [hs2]; show (up2 (up2 (up2 (up2 (up2 (up2 (up2 (up2 (up2 (up2 (up2 (up2 (up2 (up2 (up2 (up2 (up2 (up2 (up2 (up2 s1.1 C 1 0) C 3 0) C 4 0) C 5 0) C 6 0) C 7 0) C 8 0) C 9 0) C 10 0) 170 2 (s1.1 170 1)) 170 1 0) 170 3 0) 170 8 ((-1))) 170 21 ((-1))) 170 14 0) 170 15 0) 170 16 1) 170 35 ((-1))) 170 37 0) 170 36 0) C 8 = _; exact ((if_neg (by omega)).trans ((if_neg (by omega)).trans ((if_neg (by omega)).trans ((if_neg (by omega)).trans ((if_neg (by omega)).trans ((if_neg (by omega)).trans ((if_neg (by omega)).trans ((if_neg (by omega)).trans ((if_neg (by omega)).trans ((if_neg (by omega)).trans ((if_neg (by omega)).trans ((if_neg (by omega)).trans ((if_neg (by omega)).trans up_self)))))))))))))
  have vC_9 : s2.1 C 9 = 0 := by rw [hs2]; show (up2 (up2 (up2 (up2 (up2 (up2 (up2 (up2 (up2 (up2 (up2 (up2 (up2 (up2 (up2 (up2 (up2 (up2 (up2 (up2 s1.1 C 1 0) C 3 0) C 4 0) C 5 0) C 6 0) C 7 0) C 8 0) C 9 0) C 10 0) 170 2 (s1.1 170 1)) 170 1 0) 170 3 0) 170 8 ((-1))) 170 21 ((-1))) 170 14 0) 170 15 0) 170 16 1) 170 35 ((-1))) 170 37 0) 170 36 0) C 9 = _; exact ((if_neg (by omega)).trans ((if_neg (by omega)).trans ((if_neg (by omega)).trans ((if_neg (by omega)).trans ((if_neg (by omega)).trans ((if_neg (by omega)).trans ((if_neg (by omega)).trans ((if_neg (by omega)).trans ((if_neg (by omega)).trans ((if_neg (by omega)).trans ((if_neg (by omega)).trans ((if_neg (by omega)).trans up_self))))))))))))
  have v19 : s2.1 170 19 = (C : Int) := by rw [hs2]; show (up2 (up2 (up2 (up2 (up2 (up2 (up2 (up2 (up2 (up2 (up2 (up2 (up2 (up2 (up2 (up2 (up2 (up2 (up2 (up2 s1.1 C 1 0) C 3 0) C 4 0) C 5 0) C 6 0) C 7 0) C 8 0) C 9 0) C 10 0) 170 2 (s1.1 170 1)) 170 1 0) 170 3 0) 170 8 ((-1))) 170 21 ((-1))) 170 14 0) 170 15 0) 170 16 1) 170 35 ((-1))) 170 37 0) 170 36 0) 170 19 = _; exact ((if_neg (by omega)).trans ((if_neg (by omega)).trans ((if_neg (by omega)).trans ((if_neg (by omega)).trans ((if_neg (by omega)).trans ((if_neg (by omega)).trans ((if_neg (by omega)).trans ((if_neg (by omega)).trans ((if_neg (by omega)).trans ((if_neg (by omega)).trans ((if_neg (by omega)).trans ((if_neg (by omega)).trans ((if_neg (by omega)).trans ((if_neg (by omega)).trans ((if_neg (by omega)).trans ((if_neg (by omega)).trans ((if_neg (by omega)).trans ((if_neg (by omega)).trans ((if_neg (by omega)).trans ((if_neg (by omega)).trans h19s))))))))))))))))))))
  refine wr_call1 (args := []) (rest := []) rfl rfl rfl rfl (Nat.le_of_ble_eq_true rfl) (cr_mono (c_step (d := d + 513) _ hR2 (by omega)) ?_)
  rintro s31 out ⟨rfl, hc9, hsm, hfm, hLX⟩
  · refine ⟨_, rfl, ?_⟩
    show wr (d + 519) tb_M122 142 [(0, .ref 170)] [] s31 _
    have hk := (KL_of hC hsm).1
    have hFn : FR C s2.1 s31.1 := fun k j hn => hk k j (fun q => hn (by unfold PS; omega))
    have hF02 : FR0 C s.1 s2.1 := ⟨fun k j e1 e2 => (hfr k j e1 e2).trans (hu1 k j (by omega)), v170_1⟩
    refine rd_decl hC hBl hRt _ _ _ _ rfl (FR_RF hC hFn hR2) (FR0_FR hC hF02 hFn) (hc9.trans (by rw [hs2, hs1])) (DI_init ((hk 170 19 (by omega)).trans v19) hLX ((hk 170 14 (by omega)).trans v170_14) ((hk C 4 (by omega)).trans vC_4) ((hk C 5 (by omega)).trans vC_5) ((hk C 6 (by omega)).trans vC_6) ((hk C 7 (by omega)).trans vC_7) ((hk C 8 (by omega)).trans vC_8) ((hk C 9 (by omega)).trans vC_9) ((hk 170 35 (by omega)).trans v170_35) ((hk C 1 (by omega)).trans vC_1) ((hk C 3 (by omega)).trans vC_3) ((hk C 10 (by omega)).trans vC_10) ((hk 170 16 (by omega)).trans v170_16))
