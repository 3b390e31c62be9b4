set_option maxHeartbeats 20000000 in
set_option maxRecDepth 100000 in
theorem rt_226 {d C mr N kd m : Nat} {y : gH} {p z3 : Int} {s0 s : rS} (hC : C = 177 ∨ C = 186) (hR : RF s.1) (hF0 : FR C s0.1 s.1) (hc0 : s.2 = s0.2) (hf0 : s0.1 170 5 + 1 ≤ s.1 170 5) (hp01 : pk p kd) (hz3 : i32 z3) (hBl : CBl 63) (hBo : CBo 0) (hI : RQ C y mr N kd s.1) (hpp : RQp C y s.1) (hm : s.1 C 1 = (m : Int)) : wr (d + 489) tb_M129 226 [(4, vi ((N : Int) + 1)), (3, vi z3), (2, vi (((gn y : Nat) : Int))), (0, .ref 170), (1, vi p)] [] s (DP C s0) := by
  have hP := hI.1
  have hnr := nr_of hP
  have hx0 := LX_nums hP
  have hgt := gt_of hP
  unfold i32 at hz3
  have hN := hI.2.2.2.1
  unfold RQn at hN
  have hg12 : gn y < 12 := by have h8 := hP.2.2.2.1; have h9 := hP.2.2.2.2.2.1; unfold CT at h8; have h7 := hI.2.1; omega
  refine wr_n (pc2 := 227) (lv2 := [(4, vi ((N : Int) + 1)), (3, vi z3), (2, vi (((gn y : Nat) : Int))), (0, .ref 170), (1, vi p)]) (st2 := [.ref 170]) 1 (fun _ _ => rfl) ?_
  refine wr_call1 (args := []) (rest := []) rfl rfl rfl rfl (Nat.le_of_ble_eq_true rfl) (cr_mono (c_forget (d := d + 488) _ hR) ?_)
  rintro s2 out ⟨rfl, e1⟩
  refine ⟨_, rfl, ?_⟩
  rw [e1]
  show wr (d + 489) tb_M129 230 [(4, vi ((N : Int) + 1)), (3, vi z3), (2, vi (((gn y : Nat) : Int))), (0, .ref 170), (1, vi p)] [] (up2 (up2 (up2 (up2 (up2 s.1 170 22 0) 170 23 0) 170 24 0) 170 25 0) 170 26 0, s.2) _
  have hR3 : RF (up2 (up2 (up2 (up2 (up2 s.1 170 22 0) 170 23 0) 170 24 0) 170 25 0) 170 26 0) := (RF_up (RF_up (RF_up (RF_up (RF_up hR rfl) rfl) rfl) rfl) rfl)
  obtain ⟨s4, hs4⟩ : ∃ qq9 : rS, qq9 = (up2 (up2 (up2 (up2 (up2 s.1 170 22 0) 170 23 0) 170 24 0) 170 25 0) 170 26 0, s.2) := ⟨_, rfl⟩
  rw [← hs4]
  have hK4 : KM s.1 s4.1 := by rw [hs4]; exact (KM_up (KM_up (KM_up (KM_up (KM_up KM_rf (by omega)) (by omega)) (by omega)) (by omega)) (by omega))
  have hk4 := KM_nums hC hK4
  have hM4 : True ∧ (MB (gn y) (s.1 170 26) → MB (gn y) (s4.1 170 26)) := by rw [hs4]; exact ⟨trivial, fun _ => MB_zero⟩
  have hBk4 : BX C (gn y) s.1 s4.1 := BX_KM hC hP hK4 hM4
  have hR4 : RF s4.1 := BX_RF hC hBk4 hR
  have hc4 : s4.2 = s.2 := by rw [hs4]
  have hm4 : s4.1 C 1 = ((m : Nat) : Int) := by omega
  have hB5 : BX C (gn y) s.1 s4.1 := BX_tr hC (PI_rf hP) hBk4
  have hP5 : PI C y s4.1 := PI_BX hC hP hB5
  have hz5 : s4.2 = s.2 := hc4.trans rfl
  have hF5 : s4.1 170 4 = s.1 170 4 ∧ s4.1 170 5 = s.1 170 5 ∧ s4.1 170 6 = s.1 170 6 ∧ s4.1 170 7 = s.1 170 7 ∧ s4.1 170 14 = s.1 170 14 ∧ s4.1 170 16 = s.1 170 16 ∧ s4.1 170 21 = s.1 170 21 ∧ s4.1 C 3 = s.1 C 3 ∧ s4.1 C 10 = s.1 C 10 ∧ s.1 170 5 + 0 ≤ s4.1 170 5 ∧ 0 ≤ s4.1 170 5 ∧ s4.1 170 5 ≤ s4.1 170 6 ∧ s4.1 170 6 ≤ 2000 := by omega
  show wr (d + 489) tb_M129 230 [(4, vi ((N : Int) + 1)), (3, vi z3), (2, vi (((gn y : Nat) : Int))), (0, .ref 170), (1, vi p)] [] s4 _
  have hst : MB (gn y) (s4.1 170 26) := by rw [hs4]; exact MB_zero
  refine wr_n (pc2 := 231) (lv2 := [(4, vi ((N : Int) + 1)), (3, vi z3), (2, vi (((gn y : Nat) : Int))), (0, .ref 170), (1, vi p)]) (st2 := [.ref 170]) 1 (fun _ _ => rfl) ?_
  refine wr_get (v := .ref 200) rfl rfl rfl (by decide) (rv_ref (hR4 170 32 200 rfl)) fun h6 => ?_
  show wr (d + 489) tb_M129 234 [(4, vi ((N : Int) + 1)), (3, vi z3), (2, vi (((gn y : Nat) : Int))), (0, .ref 170), (1, vi p)] [.ref 200] s4 _
  refine wr_n (pc2 := 236) (lv2 := [(4, vi ((N : Int) + 1)), (3, vi z3), (2, vi (((gn y : Nat) : Int))), (0, .ref 170), (1, vi p)]) (st2 := [.ref 170, vi (((gn y : Nat) : Int)), .ref 200]) 2 (fun _ _ => rfl) ?_
  refine wr_get (v := .ref C) rfl rfl rfl (by decide) (rv_ref (show s4.1 170 19 = ((C : Nat) : Int) from hP5.1)) fun h7 => ?_
  show wr (d + 489) tb_M129 239 [(4, vi ((N : Int) + 1)), (3, vi z3), (2, vi (((gn y : Nat) : Int))), (0, .ref 170), (1, vi p)] [.ref C, vi (((gn y : Nat) : Int)), .ref 200] s4 _
  refine wr_get (v := vi (s4.1 C 1)) rfl rfl (TG_C hC) (by decide) rfl fun h8 => ?_
  have h8 : -2147483648 ≤ s4.1 C 1 ∧ s4.1 C 1 ≤ 2147483647 := h8
  show wr (d + 489) tb_M129 242 [(4, vi ((N : Int) + 1)), (3, vi z3), (2, vi (((gn y : Nat) : Int))), (0, .ref 170), (1, vi p)] [vi (s4.1 C 1), vi (((gn y : Nat) : Int)), .ref 200] s4 _
  rw [hm4]
  show wr (d + 489) tb_M129 242 [(4, vi ((N : Int) + 1)), (3, vi z3), (2, vi (((gn y : Nat) : Int))), (0, .ref 170), (1, vi p)] [vi (((m : Nat) : Int)), vi (((gn y : Nat) : Int)), .ref 200] s4 _
  refine wr_ast (a := ((gn y : Nat) : Int)) (z := ((m : Nat) : Int)) rfl (by decide) rfl rfl (by omega) (by omega) (by decide) rfl (show -2147483648 ≤ ((m : Nat) : Int) ∧ ((m : Nat) : Int) ≤ 2147483647 by omega) ?_
  show wr (d + 489) tb_M129 243 [(4, vi ((N : Int) + 1)), (3, vi z3), (2, vi (((gn y : Nat) : Int))), (0, .ref 170), (1, vi p)] [] (up2 s4.1 200 (gn y) (((m : Nat) : Int)), s4.2) _
  have hR9 : RF (up2 s4.1 200 (gn y) (((m : Nat) : Int))) := (RF_up hR4 rfl)
  obtain ⟨sn, hsn⟩ : ∃ qq9 : rS, qq9 = (up2 s4.1 200 (gn y) (((m : Nat) : Int)), s4.2) := ⟨_, rfl⟩
  rw [← hsn]
  have hu : U1 200 (gn y) s4.1 sn.1 := by rw [hsn]; exact U1_up
  have hv : sn.1 200 (gn y) = (m : Int) := by rw [hsn]; show up2 s4.1 200 (gn y) _ 200 (gn y) = _; exact up_self
  have hQ1 : RQ C y mr N kd s4.1 := RQ_BX hC hI hBk4 (by unfold RQn; omega)
  have hQ2 : RQ C y mr N kd sn.1 := RQ_tab hC hQ1 (fun k j hn => hu k j (by omega))
  have hfr : FR C s.1 sn.1 := FR_tr (BX_FR hBk4) (fun k j hn => hu k j (fun q => hn (by unfold PS; omega)))
  have e5 : sn.1 170 5 = s.1 170 5 := (hu 170 5 (by omega)).trans (by omega)
  have e4 : sn.1 C 4 = s.1 C 4 := (hu C 4 (by omega)).trans (hK4 C 4 (by omega))
  exact rt_code hC (FR_RF hC hfr hR) (FR_tr hF0 hfr) (((show sn.2 = s4.2 by rw [hsn]).trans hz5).trans hc0) (by omega) hp01 (by unfold i32; omega) hBl hBo (by rw [hu 170 26 (by omega)]; exact hst) hQ2 hv (by unfold RQp at hpp ⊢; rw [e4, hu 201 _ (by omega), hu 202 _ (by omega), hK4 201 _ (by omega), hK4 202 _ (by omega)]; exact hpp) ((hu C 1 (by omega)).trans hm4)
set_option maxHeartbeats 20000000 in
set_option maxRecDepth 100000 in
theorem rt_214 {d C mr N kd m : Nat} {y : gH} {p z3 : Int} {s0 s : rS} (hC : C = 177 ∨ C = 186) (hR : RF s.1) (hF0 : FR C s0.1 s.1) (hc0 : s.2 = s0.2) (hf0 : s0.1 170 5 + 1 ≤ s.1 170 5) (hp01 : pk p kd) (hz3 : i32 z3) (hBl : CBl 63) (hBo : CBo 0) (hI : RQ C y mr N kd s.1) (hpp : RQp C y s.1) (hm : s.1 C 1 = (m : Int)) : wr (d + 489) tb_M129 214 [(4, vi ((N : Int) + 1)), (3, vi z3), (2, vi (((gn y : Nat) : Int))), (0, .ref 170), (1, vi p)] [] s (DP C s0) := by
  have hP := hI.1
  have hnr := nr_of hP
  have hx0 := LX_nums hP
  have hgt := gt_of hP
  unfold i32 at hz3
  have hN := hI.2.2.2.1
  unfold RQn at hN
  have hg12 : gn y < 12 := by have h8 := hP.2.2.2.1; have h9 := hP.2.2.2.2.2.1; unfold CT at h8; have h7 := hI.2.1; omega
  refine wr_n (pc2 := 218) (lv2 := [(4, vi ((N : Int) + 1)), (3, vi z3), (2, vi (((gn y : Nat) : Int))), (0, .ref 170), (1, vi p)]) (st2 := [.ref 24, .ref 170]) 2 (fun _ _ => rfl) ?_
  refine wr_call1 (args := [.ref 24]) (rest := []) rfl rfl rfl rfl (Nat.le_of_ble_eq_true rfl) (cr_mono (x_take (d := d + 482) isT_24 hC _ hR hP) ?_)
  rintro s2 out ⟨b, rfl, hc1, ⟨rfl, hF1⟩ | ⟨rfl, hR1, hBk1, hK1, hf1⟩⟩
  · refine ⟨_, rfl, ?_⟩
    show wr (d + 489) tb_M129 221 [(4, vi ((N : Int) + 1)), (3, vi z3), (2, vi (((gn y : Nat) : Int))), (0, .ref 170), (1, vi p)] [vi 0] s2 _
    refine wr_n (pc2 := 225) (lv2 := [(4, vi ((N : Int) + 1)), (3, vi z3), (2, vi (((gn y : Nat) : Int))), (0, .ref 170), (1, vi p)]) (st2 := [vi 0]) 2 (fun _ _ => rfl) ?_
    refine wr_end (fun _ _ => rfl) ?_
    exact ⟨0, rfl, (hc1.trans rfl).trans hc0, Or.inl ⟨rfl, FR_tr hF0 (FR_tr (BX_FR (PI_rf hP)) hF1)⟩⟩
  · refine ⟨_, rfl, ?_⟩
    show wr (d + 489) tb_M129 221 [(4, vi ((N : Int) + 1)), (3, vi z3), (2, vi (((gn y : Nat) : Int))), (0, .ref 170), (1, vi p)] [vi 1] s2 _
    obtain ⟨hu1, hk1⟩ := id hK1
    replace hf1 : s.1 170 5 + 1 ≤ s2.1 170 5 := hf1
    have hm1 : s2.1 C 1 = ((m : Nat) : Int) := by omega
    have hB5 : BX C (gn y) s.1 s2.1 := BX_tr hC (PI_rf hP) hBk1
    have hP5 : PI C y s2.1 := PI_BX hC hP hB5
    have hQ5 : CS s.1 s2.1 := CS_tr (CS_rf (r := s.1)) (KL_CS hK1)
    have hz5 : s2.2 = s.2 := hc1.trans rfl
    have hx5 := LX_nums hP5
    have hF5 : s.1 170 5 + 1 ≤ s2.1 170 5 ∧ s2.1 170 14 = s.1 170 14 ∧ s2.1 170 16 = s.1 170 16 ∧ s2.1 170 21 = s.1 170 21 ∧ s2.1 C 3 = s.1 C 3 ∧ s2.1 C 10 = s.1 C 10 ∧ 0 ≤ s2.1 170 5 ∧ s2.1 170 5 ≤ s2.1 170 6 ∧ s2.1 170 6 ≤ 2000 := by omega
    clear hk1 hf1 hx5
    refine wr_n (pc2 := 226) (lv2 := [(4, vi ((N : Int) + 1)), (3, vi z3), (2, vi (((gn y : Nat) : Int))), (0, .ref 170), (1, vi p)]) (st2 := []) 1 (fun _ _ => rfl) ?_
    have hQ1 : RQ C y mr N kd s2.1 := RQ_BX hC hI hBk1 (by unfold RQn; omega)
    exact rt_226 hC hR1 (FR_tr hF0 (BX_FR hBk1)) (hz5.trans hc0) (by omega) hp01 (by unfold i32; omega) hBl hBo hQ1 (by unfold RQp at hpp ⊢; rw [hu1 201 _ (by omega), hu1 202 _ (by omega), hu1 C 4 (by omega)]; exact hpp) hm1
set_option maxHeartbeats 20000000 in
set_option maxRecDepth 100000 in
theorem rt_131 {d C mr N kd : Nat} {y : gH} {p z3 : Int} {s0 : rS} (hC : C = 177 ∨ C = 186) (hp01 : pk p kd) (hz3 : i32 z3) (hBl : CBl 63) (hBo : CBo 0) : ∀ (w : Nat) (s : rS) (m : Nat), (2000 - s.1 170 5).toNat = w → RF s.1 → FR C s0.1 s.1 → s.2 = s0.2 → s0.1 170 5 + 1 ≤ s.1 170 5 → RQ C y mr N kd s.1 → RQp C y s.1 → s.1 C 1 = (m : Int) → wr (d + 489) tb_M129 131 [(4, vi ((N : Int) + 1)), (3, vi z3), (2, vi (((gn y : Nat) : Int))), (0, .ref 170), (1, vi p)] [] s (DP C s0) := by
  intro w
  induction w using Nat.strongRecOn with | ind w ih => ?_
  intro s m hw hR hF0 hc0 hf0 hI hpp hm
  have hP := hI.1
  have hnr := nr_of hP
  have hx0 := LX_nums hP
  have hgt := gt_of hP
  unfold i32 at hz3
  have hN := hI.2.2.2.1
  unfold RQn at hN
  have hg12 : gn y < 12 := by have h8 := hP.2.2.2.1; have h9 := hP.2.2.2.2.2.1; unfold CT at h8; have h7 := hI.2.1; omega
  have hp9 := hpp
  unfold RQp at hp9
  refine wr_n (pc2 := 132) (lv2 := [(4, vi ((N : Int) + 1)), (3, vi z3), (2, vi (((gn y : Nat) : Int))), (0, .ref 170), (1, vi p)]) (st2 := [.ref 170]) 1 (fun _ _ => rfl) ?_
  refine wr_get (v := .ref 201) rfl rfl rfl (by decide) (rv_ref (hR 170 33 201 rfl)) fun h1 => ?_
  show wr (d + 489) tb_M129 135 [(4, vi ((N : Int) + 1)), (3, vi z3), (2, vi (((gn y : Nat) : Int))), (0, .ref 170), (1, vi p)] [.ref 201] s _
  refine wr_n (pc2 := 136) (lv2 := [(4, vi ((N : Int) + 1)), (3, vi z3), (2, vi (((gn y : Nat) : Int))), (0, .ref 170), (1, vi p)]) (st2 := [vi (((gn y : Nat) : Int)), .ref 201]) 1 (fun _ _ => rfl) ?_
  refine wr_ald (a := ((gn y : Nat) : Int)) (v := vi (s.1 201 (gn y))) rfl rfl rfl (by omega) (by omega) (by decide) rfl fun h2 => ?_
  have h2 : -2147483648 ≤ s.1 201 (gn y) ∧ s.1 201 (gn y) ≤ 2147483647 := h2
  show wr (d + 489) tb_M129 137 [(4, vi ((N : Int) + 1)), (3, vi z3), (2, vi (((gn y : Nat) : Int))), (0, .ref 170), (1, vi p)] [vi (s.1 201 (gn y))] s _
  by_cases h3 : s.1 201 (gn y) ≠ 0
  · refine wr_if1t rfl rfl (by unfold i32; omega) h3 ?_
    refine wr_n (pc2 := 157) (lv2 := [(4, vi ((N : Int) + 1)), (3, vi z3), (2, vi (((gn y : Nat) : Int))), (0, .ref 170), (1, vi p)]) (st2 := [.ref 26, .ref 170]) 2 (fun _ _ => rfl) ?_
    refine wr_call1 (args := [.ref 26]) (rest := []) rfl rfl rfl rfl (Nat.le_of_ble_eq_true rfl) (cr_mono (c_is (d := d + 484) isT_26 _ hR (LX_of hP)) ?_)
    rintro s5 out ⟨b, rfl, rfl | ⟨rfl, hj4, hl4⟩, he4⟩
    · refine ⟨_, rfl, ?_⟩
      rw [he4]
      show wr (d + 489) tb_M129 160 [(4, vi ((N : Int) + 1)), (3, vi z3), (2, vi (((gn y : Nat) : Int))), (0, .ref 170), (1, vi p)] [vi 0] s _
      refine wr_n (pc2 := 214) (lv2 := [(4, vi ((N : Int) + 1)), (3, vi z3), (2, vi (((gn y : Nat) : Int))), (0, .ref 170), (1, vi p)]) (st2 := []) 1 (fun _ _ => rfl) ?_
      exact rt_214 hC hR hF0 hc0 hf0 hp01 (by unfold i32; omega) hBl hBo hI hpp hm
    · refine ⟨_, rfl, ?_⟩
      rw [he4]
      show wr (d + 489) tb_M129 160 [(4, vi ((N : Int) + 1)), (3, vi z3), (2, vi (((gn y : Nat) : Int))), (0, .ref 170), (1, vi p)] [vi 1] s _
      have hg4 : 1 ≤ s.1 170 4 ∧ s.1 170 5 + 1 = s.1 170 6 := ⟨by omega, hl4⟩
      clear hj4 hl4
      refine wr_n (pc2 := 164) (lv2 := [(4, vi ((N : Int) + 1)), (3, vi z3), (2, vi (((gn y : Nat) : Int))), (0, .ref 170), (1, vi p)]) (st2 := [.ref 170]) 2 (fun _ _ => rfl) ?_
      refine wr_get (v := .ref 201) rfl rfl rfl (by decide) (rv_ref (hR 170 33 201 rfl)) fun h6 => ?_
      show wr (d + 489) tb_M129 167 [(4, vi ((N : Int) + 1)), (3, vi z3), (2, vi (((gn y : Nat) : Int))), (0, .ref 170), (1, vi p)] [.ref 201] s _
      refine wr_n (pc2 := 168) (lv2 := [(4, vi ((N : Int) + 1)), (3, vi z3), (2, vi (((gn y : Nat) : Int))), (0, .ref 170), (1, vi p)]) (st2 := [vi (((gn y : Nat) : Int)), .ref 201]) 1 (fun _ _ => rfl) ?_
      refine wr_ald (a := ((gn y : Nat) : Int)) (v := vi (s.1 201 (gn y))) rfl rfl rfl (by omega) (by omega) (by decide) rfl fun h7 => ?_
      have h7 : -2147483648 ≤ s.1 201 (gn y) ∧ s.1 201 (gn y) ≤ 2147483647 := h7
      show wr (d + 489) tb_M129 169 [(4, vi ((N : Int) + 1)), (3, vi z3), (2, vi (((gn y : Nat) : Int))), (0, .ref 170), (1, vi p)] [vi (s.1 201 (gn y))] s _
      refine wr_if1f rfl rfl (by unfold i32; omega) (by show ¬ (s.1 201 (gn y) ≤ 0); omega) ?_
      show wr (d + 489) tb_M129 172 [(4, vi ((N : Int) + 1)), (3, vi z3), (2, vi (((gn y : Nat) : Int))), (0, .ref 170), (1, vi p)] [] s _
      refine wr_n (pc2 := 173) (lv2 := [(4, vi ((N : Int) + 1)), (3, vi z3), (2, vi (((gn y : Nat) : Int))), (0, .ref 170), (1, vi p)]) (st2 := [.ref 170]) 1 (fun _ _ => rfl) ?_
      refine wr_call1 (args := []) (rest := []) rfl rfl rfl rfl (Nat.le_of_ble_eq_true rfl) (cr_mono (x_step (d := d + 483) hC _ hR hP) ?_)
      rintro s9 out ⟨rfl, hc8, hR8, hBk8, hK8, hf8⟩
      · refine ⟨_, rfl, ?_⟩
        show wr (d + 489) tb_M129 176 [(4, vi ((N : Int) + 1)), (3, vi z3), (2, vi (((gn y : Nat) : Int))), (0, .ref 170), (1, vi p)] [] s9 _
        obtain ⟨hu8, hk8⟩ := id hK8
        replace hf8 : s.1 170 6 ≤ s9.1 170 5 := hf8
        have hm8 : s9.1 C 1 = ((m : Nat) : Int) := by omega
        have hB11 : BX C (gn y) s.1 s9.1 := BX_tr hC (PI_rf hP) hBk8
        have hP11 : PI C y s9.1 := PI_BX hC hP hB11
        have hQ11 : CS s.1 s9.1 := CS_tr (CS_rf (r := s.1)) (KL_CS hK8)
        have hz11 : s9.2 = s.2 := hc8.trans rfl
        have hx11 := LX_nums hP11
        have hF11 : s.1 170 5 + 1 ≤ s9.1 170 5 ∧ s9.1 170 14 = s.1 170 14 ∧ s9.1 170 16 = s.1 170 16 ∧ s9.1 170 21 = s.1 170 21 ∧ s9.1 C 3 = s.1 C 3 ∧ s9.1 C 10 = s.1 C 10 ∧ 0 ≤ s9.1 170 5 ∧ s9.1 170 5 ≤ s9.1 170 6 ∧ s9.1 170 6 ≤ 2000 := by omega
        clear hk8 hf8 hx11
        have h201 : s9.1 201 (gn y) = s.1 201 (gn y) := hB11.1 201 _ (by unfold SS; omega)
        refine wr_n (pc2 := 177) (lv2 := [(4, vi ((N : Int) + 1)), (3, vi z3), (2, vi (((gn y : Nat) : Int))), (0, .ref 170), (1, vi p)]) (st2 := [.ref 170]) 1 (fun _ _ => rfl) ?_
        refine wr_get (v := .ref 201) rfl rfl rfl (by decide) (rv_ref (hR8 170 33 201 rfl)) fun h12 => ?_
        show wr (d + 489) tb_M129 180 [(4, vi ((N : Int) + 1)), (3, vi z3), (2, vi (((gn y : Nat) : Int))), (0, .ref 170), (1, vi p)] [.ref 201] s9 _
        refine wr_n (pc2 := 181) (lv2 := [(4, vi ((N : Int) + 1)), (3, vi z3), (2, vi (((gn y : Nat) : Int))), (0, .ref 170), (1, vi p)]) (st2 := [vi (((gn y : Nat) : Int)), .ref 201]) 1 (fun _ _ => rfl) ?_
        refine wr_ald (a := ((gn y : Nat) : Int)) (v := vi (s9.1 201 (gn y))) rfl rfl rfl (by omega) (by omega) (by decide) rfl fun h13 => ?_
        have h13 : -2147483648 ≤ s9.1 201 (gn y) ∧ s9.1 201 (gn y) ≤ 2147483647 := h13
        show wr (d + 489) tb_M129 182 [(4, vi ((N : Int) + 1)), (3, vi z3), (2, vi (((gn y : Nat) : Int))), (0, .ref 170), (1, vi p)] [vi (s9.1 201 (gn y))] s9 _
        refine wr_n (pc2 := 183) (lv2 := [(4, vi ((N : Int) + 1)), (3, vi z3), (2, vi (((gn y : Nat) : Int))), (0, .ref 170), (1, vi p)]) (st2 := [vi 4, vi (s9.1 201 (gn y))]) 1 (fun _ _ => rfl) ?_
        by_cases h14 : s9.1 201 (gn y) ≠ 4
        · refine wr_if2t rfl rfl (by unfold i32; omega) (by unfold i32; omega) h14 ?_
          refine wr_n (pc2 := 193) (lv2 := [(4, vi ((N : Int) + 1)), (3, vi z3), (2, vi (((gn y : Nat) : Int))), (0, .ref 170), (1, vi p)]) (st2 := [vi 0, .ref 170]) 2 (fun _ _ => rfl) ?_
          refine wr_call1 (args := [vi 0]) (rest := []) rfl rfl rfl rfl (Nat.le_of_ble_eq_true rfl) (cr_mono (x_variable (d := d + 481) (t := 0) hC _ hR8 hP11 (by unfold i32; omega)) ?_)
          rintro s16 out ⟨b, rfl, hc15, ⟨rfl, hF15⟩ | ⟨rfl, hR15, hBk15, hu15, hf15, hg15, hn15⟩⟩
          · refine ⟨_, rfl, ?_⟩
            show wr (d + 489) tb_M129 196 [(4, vi ((N : Int) + 1)), (3, vi z3), (2, vi (((gn y : Nat) : Int))), (0, .ref 170), (1, vi p)] [vi 0] s16 _
            refine wr_n (pc2 := 200) (lv2 := [(4, vi ((N : Int) + 1)), (3, vi z3), (2, vi (((gn y : Nat) : Int))), (0, .ref 170), (1, vi p)]) (st2 := [vi 0]) 2 (fun _ _ => rfl) ?_
            refine wr_end (fun _ _ => rfl) ?_
            exact ⟨0, rfl, (hc15.trans hz11).trans hc0, Or.inl ⟨rfl, FR_tr hF0 (FR_tr (BX_FR hB11) hF15)⟩⟩
          · refine ⟨_, rfl, ?_⟩
            show wr (d + 489) tb_M129 196 [(4, vi ((N : Int) + 1)), (3, vi z3), (2, vi (((gn y : Nat) : Int))), (0, .ref 170), (1, vi p)] [vi 1] s16 _
            have hk15 : s16.1 170 16 = s9.1 170 16 ∧ s16.1 170 21 = s9.1 170 21 ∧ s16.1 C 1 = s9.1 C 1 ∧ s16.1 C 3 = s9.1 C 3 ∧ s16.1 C 10 = s9.1 C 10 := ⟨hu15 _ _ (by omega) (by omega) (by omega) (by omega), hu15 _ _ (by omega) (by omega) (by omega) (by omega), hu15 _ _ (by omega) (by omega) (by omega) (by omega), hu15 _ _ (by omega) (by omega) (by omega) (by omega), hu15 _ _ (by omega) (by omega) (by omega) (by omega)⟩
            have hm15 : s16.1 C 1 = ((m : Nat) : Int) := by omega
            have hgv : 1 ≤ s16.1 C 4 := by have h8 := hP11.2.2.2.1.1.1; omega
            have hg4 : s16.1 C 4 = s.1 C 4 + 1 := by rw [hg15, hu8 C 4 (by omega)]
            have hB19 : BX C (gn y) s.1 s16.1 := BX_tr hC hB11 hBk15
            have hP19 : PI C y s16.1 := PI_BX hC hP hB19
            have hQ19 : CS s.1 s16.1 := CS_tr hQ11 (CS_eq (hu15 170 26 (by omega) (by omega) (by omega) (by omega)))
            have hz19 : s16.2 = s.2 := hc15.trans hz11
            have hx19 := LX_nums hP19
            have hF19 : s.1 170 5 + 2 ≤ s16.1 170 5 ∧ s.1 170 14 ≤ s16.1 170 14 ∧ s16.1 170 16 = s.1 170 16 ∧ s16.1 170 21 = s.1 170 21 ∧ s16.1 C 3 = s.1 C 3 ∧ s16.1 C 10 = s.1 C 10 ∧ 0 ≤ s16.1 170 5 ∧ s16.1 170 5 ≤ s16.1 170 6 ∧ s16.1 170 6 ≤ 2000 := by omega
            clear hk15 hf15 hg15 hn15 hx19 hF11
            refine wr_n (pc2 := 202) (lv2 := [(4, vi ((N : Int) + 1)), (3, vi z3), (2, vi (((gn y : Nat) : Int))), (0, .ref 170), (1, vi p)]) (st2 := [.ref 170]) 2 (fun _ _ => rfl) ?_
            refine wr_get (v := .ref 201) rfl rfl rfl (by decide) (rv_ref (hR15 170 33 201 rfl)) fun h20 => ?_
            show wr (d + 489) tb_M129 205 [(4, vi ((N : Int) + 1)), (3, vi z3), (2, vi (((gn y : Nat) : Int))), (0, .ref 170), (1, vi p)] [.ref 201] s16 _
            refine wr_n (pc2 := 207) (lv2 := [(4, vi ((N : Int) + 1)), (3, vi z3), (2, vi (((gn y : Nat) : Int))), (0, .ref 170), (1, vi p)]) (st2 := [vi (((gn y : Nat) : Int)), .ref 201, vi (((gn y : Nat) : Int)), .ref 201]) 2 (fun _ _ => rfl) ?_
            have h201b : s16.1 201 (gn y) = s.1 201 (gn y) := hB19.1 201 _ (by unfold SS; omega)
            have h202b : s16.1 202 (gn y) = s.1 202 (gn y) := hB19.1 202 _ (by unfold SS; omega)
            refine wr_ald (a := ((gn y : Nat) : Int)) (v := vi (s16.1 201 (gn y))) rfl rfl rfl (by omega) (by omega) (by decide) rfl fun h21 => ?_
            have h21 : -2147483648 ≤ s16.1 201 (gn y) ∧ s16.1 201 (gn y) ≤ 2147483647 := h21
            show wr (d + 489) tb_M129 208 [(4, vi ((N : Int) + 1)), (3, vi z3), (2, vi (((gn y : Nat) : Int))), (0, .ref 170), (1, vi p)] [vi (s16.1 201 (gn y)), vi (((gn y : Nat) : Int)), .ref 201] s16 _
            refine wr_n (pc2 := 209) (lv2 := [(4, vi ((N : Int) + 1)), (3, vi z3), (2, vi (((gn y : Nat) : Int))), (0, .ref 170), (1, vi p)]) (st2 := [vi 1, vi (s16.1 201 (gn y)), vi (((gn y : Nat) : Int)), .ref 201]) 1 (fun _ _ => rfl) ?_
            refine wr_add (a := s16.1 201 (gn y)) (b := 1) rfl ?_
            show wr (d + 489) tb_M129 210 [(4, vi ((N : Int) + 1)), (3, vi z3), (2, vi (((gn y : Nat) : Int))), (0, .ref 170), (1, vi p)] [vi (s16.1 201 (gn y) + 1), vi (((gn y : Nat) : Int)), .ref 201] s16 _
            refine wr_ast (a := ((gn y : Nat) : Int)) (z := s16.1 201 (gn y) + 1) rfl (by decide) rfl rfl (by omega) (by omega) (by decide) rfl (show -2147483648 ≤ s16.1 201 (gn y) + 1 ∧ s16.1 201 (gn y) + 1 ≤ 2147483647 by omega) ?_
            show wr (d + 489) tb_M129 211 [(4, vi ((N : Int) + 1)), (3, vi z3), (2, vi (((gn y : Nat) : Int))), (0, .ref 170), (1, vi p)] [] (up2 s16.1 201 (gn y) (s16.1 201 (gn y) + 1), s16.2) _
            have hR22 : RF (up2 s16.1 201 (gn y) (s16.1 201 (gn y) + 1)) := (RF_up hR15 rfl)
            refine wr_n (pc2 := 131) (lv2 := [(4, vi ((N : Int) + 1)), (3, vi z3), (2, vi (((gn y : Nat) : Int))), (0, .ref 170), (1, vi p)]) (st2 := []) 1 (fun _ _ => rfl) ?_
            obtain ⟨sn, hsn⟩ : ∃ qq9 : rS, qq9 = (up2 s16.1 201 (gn y) (s16.1 201 (gn y) + 1), s16.2) := ⟨_, rfl⟩
            rw [← hsn]
            have hu : U1 201 (gn y) s16.1 sn.1 := by rw [hsn]; exact U1_up
            have hv : sn.1 201 (gn y) = s16.1 201 (gn y) + 1 := by rw [hsn]; show up2 s16.1 201 (gn y) _ 201 (gn y) = _; exact up_self
            have hQ1 : RQ C y mr N kd s16.1 := RQ_BX hC hI hB19 (by unfold RQn; omega)
            have hQ2 : RQ C y mr N kd sn.1 := RQ_tab hC hQ1 (fun k j hn => hu k j (by omega))
            have hfr : FR C s.1 sn.1 := FR_tr (BX_FR hB19) (fun k j hn => hu k j (fun q => hn (by unfold PS; omega)))
            have e5 : sn.1 170 5 = s16.1 170 5 := hu 170 5 (by omega)
            have e4 : sn.1 C 4 = s16.1 C 4 := hu C 4 (by omega)
            have e2 : sn.1 202 (gn y) = s16.1 202 (gn y) := hu 202 _ (by omega)
            exact ih _ (by omega) _ _ rfl (FR_RF hC hfr hR) (FR_tr hF0 hfr) (((show sn.2 = s16.2 by rw [hsn]).trans hz19).trans hc0) (by omega) hQ2 (by unfold RQp; omega) ((hu C 1 (by omega)).trans hm15)
        · refine wr_if2f rfl rfl (by unfold i32; omega) (by unfold i32; omega) h14 ?_
          refine wr_n (pc2 := 187) (lv2 := [(4, vi ((N : Int) + 1)), (3, vi z3), (2, vi (((gn y : Nat) : Int))), (0, .ref 170), (1, vi p)]) (st2 := [.ref 170]) 1 (fun _ _ => rfl) ?_
          refine wr_call1 (args := []) (rest := []) rfl rfl rfl rfl (Nat.le_of_ble_eq_true rfl) (cr_mono (x_bad0 (C := C) (d := d + 487) _ hR8) ?_)
          rintro s24 out ⟨rfl, hc23, hF23⟩
          · refine ⟨_, rfl, ?_⟩
            show wr (d + 489) tb_M129 190 [(4, vi ((N : Int) + 1)), (3, vi z3), (2, vi (((gn y : Nat) : Int))), (0, .ref 170), (1, vi p)] [vi 0] s24 _
            refine wr_end (fun _ _ => rfl) ?_
            exact ⟨0, rfl, (hc23.trans hz11).trans hc0, Or.inl ⟨rfl, FR_tr hF0 (FR_tr (BX_FR hB11) hF23)⟩⟩
  · refine wr_if1f rfl rfl (by unfold i32; omega) h3 ?_
    refine wr_n (pc2 := 144) (lv2 := [(4, vi ((N : Int) + 1)), (3, vi z3), (2, vi (((gn y : Nat) : Int))), (0, .ref 170), (1, vi p)]) (st2 := [.ref 24, .ref 170]) 2 (fun _ _ => rfl) ?_
    refine wr_call1 (args := [.ref 24]) (rest := []) rfl rfl rfl rfl (Nat.le_of_ble_eq_true rfl) (cr_mono (c_is (d := d + 484) isT_24 _ hR (LX_of hP)) ?_)
    rintro s27 out ⟨b, rfl, rfl | ⟨rfl, hj26, hl26⟩, he26⟩
    · refine ⟨_, rfl, ?_⟩
      rw [he26]
      show wr (d + 489) tb_M129 147 [(4, vi ((N : Int) + 1)), (3, vi z3), (2, vi (((gn y : Nat) : Int))), (0, .ref 170), (1, vi p)] [vi 0] s _
      refine wr_n (pc2 := 164) (lv2 := [(4, vi ((N : Int) + 1)), (3, vi z3), (2, vi (((gn y : Nat) : Int))), (0, .ref 170), (1, vi p)]) (st2 := [.ref 170]) 3 (fun _ _ => rfl) ?_
      refine wr_get (v := .ref 201) rfl rfl rfl (by decide) (rv_ref (hR 170 33 201 rfl)) fun h28 => ?_
      show wr (d + 489) tb_M129 167 [(4, vi ((N : Int) + 1)), (3, vi z3), (2, vi (((gn y : Nat) : Int))), (0, .ref 170), (1, vi p)] [.ref 201] s _
      refine wr_n (pc2 := 168) (lv2 := [(4, vi ((N : Int) + 1)), (3, vi z3), (2, vi (((gn y : Nat) : Int))), (0, .ref 170), (1, vi p)]) (st2 := [vi (((gn y : Nat) : Int)), .ref 201]) 1 (fun _ _ => rfl) ?_
      refine wr_ald (a := ((gn y : Nat) : Int)) (v := vi (s.1 201 (gn y))) rfl rfl rfl (by omega) (by omega) (by decide) rfl fun h29 => ?_
      have h29 : -2147483648 ≤ s.1 201 (gn y) ∧ s.1 201 (gn y) ≤ 2147483647 := h29
      show wr (d + 489) tb_M129 169 [(4, vi ((N : Int) + 1)), (3, vi z3), (2, vi (((gn y : Nat) : Int))), (0, .ref 170), (1, vi p)] [vi (s.1 201 (gn y))] s _
      refine wr_if1t rfl rfl (by unfold i32; omega) (by show s.1 201 (gn y) ≤ 0; omega) ?_
      show wr (d + 489) tb_M129 176 [(4, vi ((N : Int) + 1)), (3, vi z3), (2, vi (((gn y : Nat) : Int))), (0, .ref 170), (1, vi p)] [] s _
      have h201 : s.1 201 (gn y) = s.1 201 (gn y) := (PI_rf hP).1 201 _ (by unfold SS; omega)
      refine wr_n (pc2 := 177) (lv2 := [(4, vi ((N : Int) + 1)), (3, vi z3), (2, vi (((gn y : Nat) : Int))), (0, .ref 170), (1, vi p)]) (st2 := [.ref 170]) 1 (fun _ _ => rfl) ?_
      refine wr_get (v := .ref 201) rfl rfl rfl (by decide) (rv_ref (hR 170 33 201 rfl)) fun h30 => ?_
      show wr (d + 489) tb_M129 180 [(4, vi ((N : Int) + 1)), (3, vi z3), (2, vi (((gn y : Nat) : Int))), (0, .ref 170), (1, vi p)] [.ref 201] s _
      refine wr_n (pc2 := 181) (lv2 := [(4, vi ((N : Int) + 1)), (3, vi z3), (2, vi (((gn y : Nat) : Int))), (0, .ref 170), (1, vi p)]) (st2 := [vi (((gn y : Nat) : Int)), .ref 201]) 1 (fun _ _ => rfl) ?_
      refine wr_ald (a := ((gn y : Nat) : Int)) (v := vi (s.1 201 (gn y))) rfl rfl rfl (by omega) (by omega) (by decide) rfl fun h31 => ?_
      have h31 : -2147483648 ≤ s.1 201 (gn y) ∧ s.1 201 (gn y) ≤ 2147483647 := h31
      show wr (d + 489) tb_M129 182 [(4, vi ((N : Int) + 1)), (3, vi z3), (2, vi (((gn y : Nat) : Int))), (0, .ref 170), (1, vi p)] [vi (s.1 201 (gn y))] s _
      refine wr_n (pc2 := 183) (lv2 := [(4, vi ((N : Int) + 1)), (3, vi z3), (2, vi (((gn y : Nat) : Int))), (0, .ref 170), (1, vi p)]) (st2 := [vi 4, vi (s.1 201 (gn y))]) 1 (fun _ _ => rfl) ?_
      by_cases h32 : s.1 201 (gn y) ≠ 4
      · refine wr_if2t rfl rfl (by unfold i32; omega) (by unfold i32; omega) h32 ?_
        refine wr_n (pc2 := 193) (lv2 := [(4, vi ((N : Int) + 1)), (3, vi z3), (2, vi (((gn y : Nat) : Int))), (0, .ref 170), (1, vi p)]) (st2 := [vi 0, .ref 170]) 2 (fun _ _ => rfl) ?_
        refine wr_call1 (args := [vi 0]) (rest := []) rfl rfl rfl rfl (Nat.le_of_ble_eq_true rfl) (cr_mono (x_variable (d := d + 481) (t := 0) hC _ hR hP (by unfold i32; omega)) ?_)
        rintro s34 out ⟨b, rfl, hc33, ⟨rfl, hF33⟩ | ⟨rfl, hR33, hBk33, hu33, hf33, hg33, hn33⟩⟩
        · refine ⟨_, rfl, ?_⟩
          show wr (d + 489) tb_M129 196 [(4, vi ((N : Int) + 1)), (3, vi z3), (2, vi (((gn y : Nat) : Int))), (0, .ref 170), (1, vi p)] [vi 0] s34 _
          refine wr_n (pc2 := 200) (lv2 := [(4, vi ((N : Int) + 1)), (3, vi z3), (2, vi (((gn y : Nat) : Int))), (0, .ref 170), (1, vi p)]) (st2 := [vi 0]) 2 (fun _ _ => rfl) ?_
          refine wr_end (fun _ _ => rfl) ?_
          exact ⟨0, rfl, (hc33.trans rfl).trans hc0, Or.inl ⟨rfl, FR_tr hF0 (FR_tr (BX_FR (PI_rf hP)) hF33)⟩⟩
        · refine ⟨_, rfl, ?_⟩
          show wr (d + 489) tb_M129 196 [(4, vi ((N : Int) + 1)), (3, vi z3), (2, vi (((gn y : Nat) : Int))), (0, .ref 170), (1, vi p)] [vi 1] s34 _
          have hk33 : s34.1 170 16 = s.1 170 16 ∧ s34.1 170 21 = s.1 170 21 ∧ s34.1 C 1 = s.1 C 1 ∧ s34.1 C 3 = s.1 C 3 ∧ s34.1 C 10 = s.1 C 10 := ⟨hu33 _ _ (by omega) (by omega) (by omega) (by omega), hu33 _ _ (by omega) (by omega) (by omega) (by omega), hu33 _ _ (by omega) (by omega) (by omega) (by omega), hu33 _ _ (by omega) (by omega) (by omega) (by omega), hu33 _ _ (by omega) (by omega) (by omega) (by omega)⟩
          have hm33 : s34.1 C 1 = ((m : Nat) : Int) := by omega
          have hgv : 1 ≤ s34.1 C 4 := by have h8 := hP.2.2.2.1.1.1; omega
          have hg4 : s34.1 C 4 = s.1 C 4 + 1 := by rw [hg33]
          have hB37 : BX C (gn y) s.1 s34.1 := BX_tr hC (PI_rf hP) hBk33
          have hP37 : PI C y s34.1 := PI_BX hC hP hB37
          have hQ37 : CS s.1 s34.1 := CS_tr (CS_rf (r := s.1)) (CS_eq (hu33 170 26 (by omega) (by omega) (by omega) (by omega)))
          have hz37 : s34.2 = s.2 := hc33.trans rfl
          have hx37 := LX_nums hP37
          have hF37 : s.1 170 5 + 1 ≤ s34.1 170 5 ∧ s.1 170 14 ≤ s34.1 170 14 ∧ s34.1 170 16 = s.1 170 16 ∧ s34.1 170 21 = s.1 170 21 ∧ s34.1 C 3 = s.1 C 3 ∧ s34.1 C 10 = s.1 C 10 ∧ 0 ≤ s34.1 170 5 ∧ s34.1 170 5 ≤ s34.1 170 6 ∧ s34.1 170 6 ≤ 2000 := by omega
          clear hk33 hf33 hg33 hn33 hx37
          refine wr_n (pc2 := 202) (lv2 := [(4, vi ((N : Int) + 1)), (3, vi z3), (2, vi (((gn y : Nat) : Int))), (0, .ref 170), (1, vi p)]) (st2 := [.ref 170]) 2 (fun _ _ => rfl) ?_
          refine wr_get (v := .ref 201) rfl rfl rfl (by decide) (rv_ref (hR33 170 33 201 rfl)) fun h38 => ?_
          show wr (d + 489) tb_M129 205 [(4, vi ((N : Int) + 1)), (3, vi z3), (2, vi (((gn y : Nat) : Int))), (0, .ref 170), (1, vi p)] [.ref 201] s34 _
          refine wr_n (pc2 := 207) (lv2 := [(4, vi ((N : Int) + 1)), (3, vi z3), (2, vi (((gn y : Nat) : Int))), (0, .ref 170), (1, vi p)]) (st2 := [vi (((gn y : Nat) : Int)), .ref 201, vi (((gn y : Nat) : Int)), .ref 201]) 2 (fun _ _ => rfl) ?_
          have h201b : s34.1 201 (gn y) = s.1 201 (gn y) := hB37.1 201 _ (by unfold SS; omega)
          have h202b : s34.1 202 (gn y) = s.1 202 (gn y) := hB37.1 202 _ (by unfold SS; omega)
          refine wr_ald (a := ((gn y : Nat) : Int)) (v := vi (s34.1 201 (gn y))) rfl rfl rfl (by omega) (by omega) (by decide) rfl fun h39 => ?_
          have h39 : -2147483648 ≤ s34.1 201 (gn y) ∧ s34.1 201 (gn y) ≤ 2147483647 := h39
          show wr (d + 489) tb_M129 208 [(4, vi ((N : Int) + 1)), (3, vi z3), (2, vi (((gn y : Nat) : Int))), (0, .ref 170), (1, vi p)] [vi (s34.1 201 (gn y)), vi (((gn y : Nat) : Int)), .ref 201] s34 _
          refine wr_n (pc2 := 209) (lv2 := [(4, vi ((N : Int) + 1)), (3, vi z3), (2, vi (((gn y : Nat) : Int))), (0, .ref 170), (1, vi p)]) (st2 := [vi 1, vi (s34.1 201 (gn y)), vi (((gn y : Nat) : Int)), .ref 201]) 1 (fun _ _ => rfl) ?_
          refine wr_add (a := s34.1 201 (gn y)) (b := 1) rfl ?_
          show wr (d + 489) tb_M129 210 [(4, vi ((N : Int) + 1)), (3, vi z3), (2, vi (((gn y : Nat) : Int))), (0, .ref 170), (1, vi p)] [vi (s34.1 201 (gn y) + 1), vi (((gn y : Nat) : Int)), .ref 201] s34 _
          refine wr_ast (a := ((gn y : Nat) : Int)) (z := s34.1 201 (gn y) + 1) rfl (by decide) rfl rfl (by omega) (by omega) (by decide) rfl (show -2147483648 ≤ s34.1 201 (gn y) + 1 ∧ s34.1 201 (gn y) + 1 ≤ 2147483647 by omega) ?_
          show wr (d + 489) tb_M129 211 [(4, vi ((N : Int) + 1)), (3, vi z3), (2, vi (((gn y : Nat) : Int))), (0, .ref 170), (1, vi p)] [] (up2 s34.1 201 (gn y) (s34.1 201 (gn y) + 1), s34.2) _
          have hR40 : RF (up2 s34.1 201 (gn y) (s34.1 201 (gn y) + 1)) := (RF_up hR33 rfl)
          refine wr_n (pc2 := 131) (lv2 := [(4, vi ((N : Int) + 1)), (3, vi z3), (2, vi (((gn y : Nat) : Int))), (0, .ref 170), (1, vi p)]) (st2 := []) 1 (fun _ _ => rfl) ?_
          obtain ⟨sn, hsn⟩ : ∃ qq9 : rS, qq9 = (up2 s34.1 201 (gn y) (s34.1 201 (gn y) + 1), s34.2) := ⟨_, rfl⟩
          rw [← hsn]
          have hu : U1 201 (gn y) s34.1 sn.1 := by rw [hsn]; exact U1_up
          have hv : sn.1 201 (gn y) = s34.1 201 (gn y) + 1 := by rw [hsn]; show up2 s34.1 201 (gn y) _ 201 (gn y) = _; exact up_self
          have hQ1 : RQ C y mr N kd s34.1 := RQ_BX hC hI hB37 (by unfold RQn; omega)
          have hQ2 : RQ C y mr N kd sn.1 := RQ_tab hC hQ1 (fun k j hn => hu k j (by omega))
          have hfr : FR C s.1 sn.1 := FR_tr (BX_FR hB37) (fun k j hn => hu k j (fun q => hn (by unfold PS; omega)))
          have e5 : sn.1 170 5 = s34.1 170 5 := hu 170 5 (by omega)
          have e4 : sn.1 C 4 = s34.1 C 4 := hu C 4 (by omega)
          have e2 : sn.1 202 (gn y) = s34.1 202 (gn y) := hu 202 _ (by omega)
          exact ih _ (by omega) _ _ rfl (FR_RF hC hfr hR) (FR_tr hF0 hfr) (((show sn.2 = s34.2 by rw [hsn]).trans hz37).trans hc0) (by omega) hQ2 (by unfold RQp; omega) ((hu C 1 (by omega)).trans hm33)
      · refine wr_if2f rfl rfl (by unfold i32; omega) (by unfold i32; omega) h32 ?_
        refine wr_n (pc2 := 187) (lv2 := [(4, vi ((N : Int) + 1)), (3, vi z3), (2, vi (((gn y : Nat) : Int))), (0, .ref 170), (1, vi p)]) (st2 := [.ref 170]) 1 (fun _ _ => rfl) ?_
        refine wr_call1 (args := []) (rest := []) rfl rfl rfl rfl (Nat.le_of_ble_eq_true rfl) (cr_mono (x_bad0 (C := C) (d := d + 487) _ hR) ?_)
        rintro s42 out ⟨rfl, hc41, hF41⟩
        · refine ⟨_, rfl, ?_⟩
          show wr (d + 489) tb_M129 190 [(4, vi ((N : Int) + 1)), (3, vi z3), (2, vi (((gn y : Nat) : Int))), (0, .ref 170), (1, vi p)] [vi 0] s42 _
          refine wr_end (fun _ _ => rfl) ?_
          exact ⟨0, rfl, (hc41.trans rfl).trans hc0, Or.inl ⟨rfl, FR_tr hF0 (FR_tr (BX_FR (PI_rf hP)) hF41)⟩⟩
    · refine ⟨_, rfl, ?_⟩
      rw [he26]
      show wr (d + 489) tb_M129 147 [(4, vi ((N : Int) + 1)), (3, vi z3), (2, vi (((gn y : Nat) : Int))), (0, .ref 170), (1, vi p)] [vi 1] s _
      have hg26 : 1 ≤ s.1 170 4 ∧ s.1 170 5 + 1 = s.1 170 6 := ⟨by omega, hl26⟩
      clear hj26 hl26
      refine wr_n (pc2 := 214) (lv2 := [(4, vi ((N : Int) + 1)), (3, vi z3), (2, vi (((gn y : Nat) : Int))), (0, .ref 170), (1, vi p)]) (st2 := []) 1 (fun _ _ => rfl) ?_
      exact rt_214 hC hR hF0 hc0 hf0 hp01 (by unfold i32; omega) hBl hBo hI hpp hm
set_option maxHeartbeats 20000000 in
set_option maxRecDepth 100000 in
theorem rt_119 {d C mr N kd m : Nat} {y : gH} {p z3 : Int} {s0 s : rS} (hC : C = 177 ∨ C = 186) (hR : RF s.1) (hF0 : FR C s0.1 s.1) (hc0 : s.2 = s0.2) (hf0 : s0.1 170 5 + 1 ≤ s.1 170 5) (hp01 : pk p kd) (hz3 : i32 z3) (hBl : CBl 63) (hBo : CBo 0) (hI : RQ C y mr N kd s.1) (hpp : RQp C y s.1) (hm : s.1 C 1 = (m : Int)) : wr (d + 489) tb_M129 119 [(4, vi ((N : Int) + 1)), (3, vi z3), (2, vi (((gn y : Nat) : Int))), (0, .ref 170), (1, vi p)] [] s (DP C s0) := by
  have hP := hI.1
  have hnr := nr_of hP
  have hx0 := LX_nums hP
  have hgt := gt_of hP
  unfold i32 at hz3
  have hN := hI.2.2.2.1
  unfold RQn at hN
  have hg12 : gn y < 12 := by have h8 := hP.2.2.2.1; have h9 := hP.2.2.2.2.2.1; unfold CT at h8; have h7 := hI.2.1; omega
  refine wr_n (pc2 := 123) (lv2 := [(4, vi ((N : Int) + 1)), (3, vi z3), (2, vi (((gn y : Nat) : Int))), (0, .ref 170), (1, vi p)]) (st2 := [.ref 22, .ref 170]) 2 (fun _ _ => rfl) ?_
  refine wr_call1 (args := [.ref 22]) (rest := []) rfl rfl rfl rfl (Nat.le_of_ble_eq_true rfl) (cr_mono (x_take (d := d + 482) isT_22 hC _ hR hP) ?_)
  rintro s2 out ⟨b, rfl, hc1, ⟨rfl, hF1⟩ | ⟨rfl, hR1, hBk1, hK1, hf1⟩⟩
  · refine ⟨_, rfl, ?_⟩
    show wr (d + 489) tb_M129 126 [(4, vi ((N : Int) + 1)), (3, vi z3), (2, vi (((gn y : Nat) : Int))), (0, .ref 170), (1, vi p)] [vi 0] s2 _
    refine wr_n (pc2 := 130) (lv2 := [(4, vi ((N : Int) + 1)), (3, vi z3), (2, vi (((gn y : Nat) : Int))), (0, .ref 170), (1, vi p)]) (st2 := [vi 0]) 2 (fun _ _ => rfl) ?_
    refine wr_end (fun _ _ => rfl) ?_
    exact ⟨0, rfl, (hc1.trans rfl).trans hc0, Or.inl ⟨rfl, FR_tr hF0 (FR_tr (BX_FR (PI_rf hP)) hF1)⟩⟩
  · refine ⟨_, rfl, ?_⟩
    show wr (d + 489) tb_M129 126 [(4, vi ((N : Int) + 1)), (3, vi z3), (2, vi (((gn y : Nat) : Int))), (0, .ref 170), (1, vi p)] [vi 1] s2 _
    obtain ⟨hu1, hk1⟩ := id hK1
    replace hf1 : s.1 170 5 + 1 ≤ s2.1 170 5 := hf1
    have hm1 : s2.1 C 1 = ((m : Nat) : Int) := by omega
    have hB5 : BX C (gn y) s.1 s2.1 := BX_tr hC (PI_rf hP) hBk1
    have hP5 : PI C y s2.1 := PI_BX hC hP hB5
    have hQ5 : CS s.1 s2.1 := CS_tr (CS_rf (r := s.1)) (KL_CS hK1)
    have hz5 : s2.2 = s.2 := hc1.trans rfl
    have hx5 := LX_nums hP5
    have hF5 : s.1 170 5 + 1 ≤ s2.1 170 5 ∧ s2.1 170 14 = s.1 170 14 ∧ s2.1 170 16 = s.1 170 16 ∧ s2.1 170 21 = s.1 170 21 ∧ s2.1 C 3 = s.1 C 3 ∧ s2.1 C 10 = s.1 C 10 ∧ 0 ≤ s2.1 170 5 ∧ s2.1 170 5 ≤ s2.1 170 6 ∧ s2.1 170 6 ≤ 2000 := by omega
    clear hk1 hf1 hx5
    refine wr_n (pc2 := 131) (lv2 := [(4, vi ((N : Int) + 1)), (3, vi z3), (2, vi (((gn y : Nat) : Int))), (0, .ref 170), (1, vi p)]) (st2 := []) 1 (fun _ _ => rfl) ?_
    have hQ1 : RQ C y mr N kd s2.1 := RQ_BX hC hI hBk1 (by unfold RQn; omega)
    exact rt_131 hC hp01 (by unfold i32; omega) hBl hBo _ _ _ rfl hR1 (FR_tr hF0 (BX_FR hBk1)) (hz5.trans hc0) (by omega) hQ1 (by unfold RQp at hpp ⊢; rw [hu1 201 _ (by omega), hu1 202 _ (by omega), hu1 C 4 (by omega)]; exact hpp) hm1
set_option maxHeartbeats 20000000 in
set_option maxRecDepth 100000 in
theorem p_routine {d : Nat} (hBl : CBl 63) (hBo : CBo 0) : CRt d := by
  intro C y mr s p hC hR hI hp htk
  have hP := hI.1
  obtain ⟨m, hm⟩ : ∃ m : Nat, s.1 C 1 = (m : Int) := ⟨(s.1 C 1).toNat, by have h8 := hI.2.2.1; omega⟩
  have hN := hI.2.2.1
  have hx0 := LX_nums hP
  have hlt := LX_lt hP htk
  have hnr := nr_of hP
  refine cr_of (M := tb_M129) rfl (Nat.le_of_ble_eq_true rfl) ?_
  show wr (d + 489) tb_M129 0 [(0, .ref 170), (1, vi p)] [] s _
  refine wr_n (pc2 := 1) (lv2 := [(0, .ref 170), (1, vi p)]) (st2 := [.ref 170]) 1 (fun _ _ => rfl) ?_
  refine wr_call1 (args := []) (rest := []) rfl rfl rfl rfl (Nat.le_of_ble_eq_true rfl) (cr_mono (x_step (d := d + 483) hC _ hR hP) ?_)
  rintro s2 out ⟨rfl, hc1, hR1, hBk1, hK1, hf1⟩
  · refine ⟨_, rfl, ?_⟩
    show wr (d + 489) tb_M129 4 [(0, .ref 170), (1, vi p)] [] s2 _
    obtain ⟨hu1, hk1⟩ := id hK1
    replace hf1 : s.1 170 5 + 1 ≤ s2.1 170 5 := Int.le_trans (LX_lt hP (by omega)) hf1
    have hm1 : s2.1 C 1 = ((m : Nat) : Int) := by omega
    have hB4 : BX C (gn y) s.1 s2.1 := BX_tr hC (PI_rf hP) hBk1
    have hP4 : PI C y s2.1 := PI_BX hC hP hB4
    have hQ4 : CS s.1 s2.1 := CS_tr (CS_rf (r := s.1)) (KL_CS hK1)
    have hz4 : s2.2 = s.2 := hc1.trans rfl
    have hx4 := LX_nums hP4
    have hF4 : s.1 170 5 + 1 ≤ s2.1 170 5 ∧ s2.1 170 14 = s.1 170 14 ∧ s2.1 170 16 = s.1 170 16 ∧ s2.1 170 21 = s.1 170 21 ∧ s2.1 C 3 = s.1 C 3 ∧ s2.1 C 10 = s.1 C 10 ∧ 0 ≤ s2.1 170 5 ∧ s2.1 170 5 ≤ s2.1 170 6 ∧ s2.1 170 6 ≤ 2000 := by omega
    clear hk1 hf1 hx4
    refine wr_n (pc2 := 5) (lv2 := [(0, .ref 170), (1, vi p)]) (st2 := [.ref 170]) 1 (fun _ _ => rfl) ?_
    refine wr_get (v := .ref C) rfl rfl rfl (by decide) (rv_ref (show s2.1 170 19 = ((C : Nat) : Int) from hP4.1)) fun h5 => ?_
    show wr (d + 489) tb_M129 8 [(0, .ref 170), (1, vi p)] [.ref C] s2 _
    refine wr_get (v := vi (s2.1 C 9)) rfl rfl (TG_C hC) (by decide) rfl fun h6 => ?_
    have h6 : -2147483648 ≤ s2.1 C 9 ∧ s2.1 C 9 ≤ 2147483647 := h6
    show wr (d + 489) tb_M129 11 [(0, .ref 170), (1, vi p)] [vi (s2.1 C 9)] s2 _
    have h9 : s2.1 C 9 = ((gn y : Nat) : Int) := by have h8 := hP4.2.2.2.2.2.1; have h7 : s2.1 170 35 = -1 := (hB4.1 170 35 (by unfold SS; omega)).trans hI.2.1; omega
    rw [h9]
    show wr (d + 489) tb_M129 11 [(0, .ref 170), (1, vi p)] [vi (((gn y : Nat) : Int))] s2 _
    refine wr_n (pc2 := 16) (lv2 := [(2, vi (((gn y : Nat) : Int))), (0, .ref 170), (1, vi p)]) (st2 := [vi 12, vi (((gn y : Nat) : Int)), .ref 170]) 4 (fun _ _ => rfl) ?_
    refine wr_call1 (args := [vi (((gn y : Nat) : Int)), vi 12]) (rest := []) rfl rfl rfl rfl (Nat.le_of_ble_eq_true rfl) (cr_mono (c_isName (d := d + 486) _ hR1 (a := ((gn y : Nat) : Int)) (b := 12) (by unfold i32; omega) (by unfold i32; omega)) ?_)
    rintro s8 out ⟨e, rfl, ⟨rfl, hk7, hl7, he7⟩ | ⟨rfl, hc7, h27⟩⟩
    · refine ⟨_, rfl, ?_⟩
      rw [he7]
      show wr (d + 489) tb_M129 19 [(2, vi (((gn y : Nat) : Int))), (0, .ref 170), (1, vi p)] [vi 1] s2 _
      refine wr_n (pc2 := 24) (lv2 := [(2, vi (((gn y : Nat) : Int))), (0, .ref 170), (1, vi p)]) (st2 := [vi p, .ref 170]) 3 (fun _ _ => rfl) ?_
      by_cases h9 : p = 0
      · refine wr_if1t rfl rfl (by unfold i32; omega) h9 ?_
        refine wr_n (pc2 := 34) (lv2 := [(2, vi (((gn y : Nat) : Int))), (0, .ref 170), (1, vi p)]) (st2 := [vi (((gn y : Nat) : Int)), vi 6, .ref 170]) 2 (fun _ _ => rfl) ?_
        obtain ⟨N, hNN⟩ : ∃ N : Nat, s2.1 170 14 = (N : Int) := ⟨(s2.1 170 14).toNat, by have h8 := (NM_of hP4).1; omega⟩
        refine wr_call1 (args := [vi 6, vi (((gn y : Nat) : Int))]) (rest := []) rfl rfl rfl rfl (Nat.le_of_ble_eq_true rfl) (cr_mono (x_declare (C := C) (d := d + 482) (N := N) (w := 6) (u := ((gn y : Nat) : Int)) _ hR1 hP4 (by unfold i32; omega) (by unfold i32; omega) hNN (by omega)) ?_)
        rintro s11 out ⟨b, rfl, hc10, ⟨rfl, hF10⟩ | ⟨rfl, hD10⟩⟩
        · refine ⟨_, rfl, ?_⟩
          show wr (d + 489) tb_M129 37 [(2, vi (((gn y : Nat) : Int))), (0, .ref 170), (1, vi p)] [vi 0] s11 _
          refine wr_n (pc2 := 41) (lv2 := [(2, vi (((gn y : Nat) : Int))), (0, .ref 170), (1, vi p)]) (st2 := [vi 0]) 2 (fun _ _ => rfl) ?_
          refine wr_end (fun _ _ => rfl) ?_
          exact ⟨0, rfl, hc10.trans hz4, Or.inl ⟨rfl, FR_tr (BX_FR hB4) hF10⟩⟩
        · refine ⟨_, rfl, ?_⟩
          show wr (d + 489) tb_M129 37 [(2, vi (((gn y : Nat) : Int))), (0, .ref 170), (1, vi p)] [vi 1] s11 _
          have hfd10 := hD10.2.2.2.2.2.2.2
          have hR10 : RF s11.1 := FR_RF hC (DC_FR hD10) hR1
          have hL10 : LX s11.1 := hD10.2.1
          have hG10 : FR C s.1 s11.1 := FR_tr (BX_FR hB4) (DC_FR hD10)
          have hz10 : s11.2 = s.2 := hc10.trans hz4
          have hcc10 : s11.1 170 19 = (C : Int) := (hD10.1 170 19 (by omega) (by omega)).trans hP4.1
          refine wr_n (pc2 := 43) (lv2 := [(2, vi (((gn y : Nat) : Int))), (0, .ref 170), (1, vi p)]) (st2 := [.ref 170]) 2 (fun _ _ => rfl) ?_
          refine wr_get (v := .ref C) rfl rfl rfl (by decide) (rv_ref (show s11.1 170 19 = ((C : Nat) : Int) from hcc10)) fun h14 => ?_
          show wr (d + 489) tb_M129 46 [(2, vi (((gn y : Nat) : Int))), (0, .ref 170), (1, vi p)] [.ref C] s11 _
          refine wr_n (pc2 := 47) (lv2 := [(2, vi (((gn y : Nat) : Int))), (0, .ref 170), (1, vi p)]) (st2 := [.ref C, .ref C]) 1 (fun _ _ => rfl) ?_
          refine wr_get (v := vi (s11.1 C 9)) rfl rfl (TG_C hC) (by decide) rfl fun h15 => ?_
          have h15 : -2147483648 ≤ s11.1 C 9 ∧ s11.1 C 9 ≤ 2147483647 := h15
          show wr (d + 489) tb_M129 50 [(2, vi (((gn y : Nat) : Int))), (0, .ref 170), (1, vi p)] [vi (s11.1 C 9), .ref C] s11 _
          have hb9 : s11.1 C 9 = s2.1 C 9 := hD10.1 C 9 (by omega) (by omega)
          refine wr_n (pc2 := 51) (lv2 := [(2, vi (((gn y : Nat) : Int))), (0, .ref 170), (1, vi p)]) (st2 := [vi 1, vi (s11.1 C 9), .ref C]) 1 (fun _ _ => rfl) ?_
          refine wr_add (a := s11.1 C 9) (b := 1) rfl ?_
          show wr (d + 489) tb_M129 52 [(2, vi (((gn y : Nat) : Int))), (0, .ref 170), (1, vi p)] [vi (s11.1 C 9 + 1), .ref C] s11 _
          refine wr_put (z := s11.1 C 9 + 1) rfl rfl rfl rfl (show 96 ≤ C by omega) (TG_C hC) (by decide) rfl (show -2147483648 ≤ s11.1 C 9 + 1 ∧ s11.1 C 9 + 1 ≤ 2147483647 by omega) (hf_int' _) ?_
          show wr (d + 489) tb_M129 55 [(2, vi (((gn y : Nat) : Int))), (0, .ref 170), (1, vi p)] [] (up2 s11.1 C 9 (s11.1 C 9 + 1), s11.2) _
          have hR16 : RF (up2 s11.1 C 9 (s11.1 C 9 + 1)) := (RF_up hR10 (PS_rc hC (by unfold PS; omega)))
          obtain ⟨s17, hs17⟩ : ∃ qq9 : rS, qq9 = (up2 s11.1 C 9 (s11.1 C 9 + 1), s11.2) := ⟨_, rfl⟩
          rw [← hs17]
          have hU17 : U1 C 9 s11.1 s17.1 := by rw [hs17]; exact U1_up
          have hv17 : s17.1 C 9 = s11.1 C 9 + 1 := by rw [hs17]; show up2 s11.1 C 9 (s11.1 C 9 + 1) C 9 = _; exact up_self
          have hk17 : s17.1 170 5 = s11.1 170 5 ∧ s17.1 170 6 = s11.1 170 6 := ⟨hU17 _ _ (by omega), hU17 _ _ (by omega)⟩
          have hc17 : s17.2 = s11.2 := by rw [hs17]
          have hR17 : RF s17.1 := by rw [hs17]; exact RF_up hR10 (PS_rc hC (by unfold PS; omega))
          have hL17 : LX s17.1 := LX_at hL10 (fun j h1 h2 => hU17 170 j (by omega))
          have hG17 : FR C s.1 s17.1 := FR_tr (hG10) (fun k j hn => hU17 k j (fun q => hn (by unfold PS; omega)))
          have hz17 : s17.2 = s.2 := hc17.trans hz10
          have hcc17 : s17.1 170 19 = (C : Int) := (hU17 170 19 (by omega)).trans hcc10
          show wr (d + 489) tb_M129 55 [(2, vi (((gn y : Nat) : Int))), (0, .ref 170), (1, vi p)] [] s17 _
          refine wr_n (pc2 := 56) (lv2 := [(2, vi (((gn y : Nat) : Int))), (0, .ref 170), (1, vi p)]) (st2 := [.ref 170]) 1 (fun _ _ => rfl) ?_
          refine wr_get (v := vi (s17.1 170 15)) rfl rfl rfl (by decide) rfl fun h18 => ?_
          have h18 : -2147483648 ≤ s17.1 170 15 ∧ s17.1 170 15 ≤ 2147483647 := h18
          show wr (d + 489) tb_M129 59 [(2, vi (((gn y : Nat) : Int))), (0, .ref 170), (1, vi p)] [vi (s17.1 170 15)] s17 _
          refine wr_n (pc2 := 61) (lv2 := [(3, vi (s17.1 170 15)), (2, vi (((gn y : Nat) : Int))), (0, .ref 170), (1, vi p)]) (st2 := [.ref 170]) 2 (fun _ _ => rfl) ?_
          refine wr_get (v := vi (s17.1 170 14)) rfl rfl rfl (by decide) rfl fun h19 => ?_
          have h19 : -2147483648 ≤ s17.1 170 14 ∧ s17.1 170 14 ≤ 2147483647 := h19
          show wr (d + 489) tb_M129 64 [(3, vi (s17.1 170 15)), (2, vi (((gn y : Nat) : Int))), (0, .ref 170), (1, vi p)] [vi (s17.1 170 14)] s17 _
          have h14 : s17.1 170 14 = (N : Int) + 1 := (hU17 170 14 (by omega)).trans hD10.2.2.1
          rw [h14]
          show wr (d + 489) tb_M129 64 [(3, vi (s17.1 170 15)), (2, vi (((gn y : Nat) : Int))), (0, .ref 170), (1, vi p)] [vi ((N : Int) + 1)] s17 _
          refine wr_n (pc2 := 67) (lv2 := [(4, vi ((N : Int) + 1)), (3, vi (s17.1 170 15)), (2, vi (((gn y : Nat) : Int))), (0, .ref 170), (1, vi p)]) (st2 := [.ref 170]) 2 (fun _ _ => rfl) ?_
          have hb16 : s17.1 170 16 = s2.1 170 16 := (hU17 170 16 (by omega)).trans (hD10.1 170 16 (by omega) (by omega))
          refine wr_call1 (args := []) (rest := []) rfl rfl rfl rfl (Nat.le_of_ble_eq_true rfl) (cr_mono (c_scope (d := d + 488) _ hR17 (by omega)) ?_)
          rintro s21 out ⟨rfl, e20⟩
          refine ⟨_, rfl, ?_⟩
          rw [e20]
          show wr (d + 489) tb_M129 70 [(4, vi ((N : Int) + 1)), (3, vi (s17.1 170 15)), (2, vi (((gn y : Nat) : Int))), (0, .ref 170), (1, vi p)] [] (up2 (up2 s17.1 170 15 (s17.1 170 16)) 170 16 (s17.1 170 16 + 1), s17.2) _
          have hR22 : RF (up2 (up2 s17.1 170 15 (s17.1 170 16)) 170 16 (s17.1 170 16 + 1)) := (RF_up (RF_up hR17 rfl) rfl)
          refine wr_n (pc2 := 72) (lv2 := [(4, vi ((N : Int) + 1)), (3, vi (s17.1 170 15)), (2, vi (((gn y : Nat) : Int))), (0, .ref 170), (1, vi p)]) (st2 := [vi (((gn y : Nat) : Int)), .ref 170]) 2 (fun _ _ => rfl) ?_
          refine wr_put (z := ((gn y : Nat) : Int)) rfl rfl rfl rfl (by decide) rfl (by decide) rfl (show -2147483648 ≤ ((gn y : Nat) : Int) ∧ ((gn y : Nat) : Int) ≤ 2147483647 by omega) (hf_int' _) ?_
          show wr (d + 489) tb_M129 75 [(4, vi ((N : Int) + 1)), (3, vi (s17.1 170 15)), (2, vi (((gn y : Nat) : Int))), (0, .ref 170), (1, vi p)] [] (up2 (up2 (up2 s17.1 170 15 (s17.1 170 16)) 170 16 (s17.1 170 16 + 1)) 170 35 (((gn y : Nat) : Int)), s17.2) _
          have hR23 : RF (up2 (up2 (up2 s17.1 170 15 (s17.1 170 16)) 170 16 (s17.1 170 16 + 1)) 170 35 (((gn y : Nat) : Int))) := (RF_up (RF_up (RF_up hR17 rfl) rfl) rfl)
          refine wr_n (pc2 := 77) (lv2 := [(4, vi ((N : Int) + 1)), (3, vi (s17.1 170 15)), (2, vi (((gn y : Nat) : Int))), (0, .ref 170), (1, vi p)]) (st2 := [vi p, .ref 170]) 2 (fun _ _ => rfl) ?_
          refine wr_if1f rfl rfl (by unfold i32; omega) (by show ¬ (p ≠ 0); omega) ?_
          show wr (d + 489) tb_M129 80 [(4, vi ((N : Int) + 1)), (3, vi (s17.1 170 15)), (2, vi (((gn y : Nat) : Int))), (0, .ref 170), (1, vi p)] [.ref 170] (up2 (up2 (up2 s17.1 170 15 (s17.1 170 16)) 170 16 (s17.1 170 16 + 1)) 170 35 (((gn y : Nat) : Int)), s17.2) _
          refine wr_n (pc2 := 85) (lv2 := [(4, vi ((N : Int) + 1)), (3, vi (s17.1 170 15)), (2, vi (((gn y : Nat) : Int))), (0, .ref 170), (1, vi p)]) (st2 := [vi 1, .ref 170]) 2 (fun _ _ => rfl) ?_
          refine wr_put (z := 1) rfl rfl rfl rfl (by decide) rfl (by decide) rfl (show 0 ≤ 1 ∧ 1 ≤ 1 by omega) (fit_i (.inr (.inl rfl)) (show 0 ≤ 1 ∧ 1 ≤ 1 by omega)) ?_
          show wr (d + 489) tb_M129 88 [(4, vi ((N : Int) + 1)), (3, vi (s17.1 170 15)), (2, vi (((gn y : Nat) : Int))), (0, .ref 170), (1, vi p)] [] (up2 (up2 (up2 (up2 s17.1 170 15 (s17.1 170 16)) 170 16 (s17.1 170 16 + 1)) 170 35 (((gn y : Nat) : Int))) 170 37 1, s17.2) _
          have hR24 : RF (up2 (up2 (up2 (up2 s17.1 170 15 (s17.1 170 16)) 170 16 (s17.1 170 16 + 1)) 170 35 (((gn y : Nat) : Int))) 170 37 1) := (RF_up (RF_up (RF_up (RF_up hR17 rfl) rfl) rfl) rfl)
          refine wr_n (pc2 := 90) (lv2 := [(4, vi ((N : Int) + 1)), (3, vi (s17.1 170 15)), (2, vi (((gn y : Nat) : Int))), (0, .ref 170), (1, vi p)]) (st2 := [.ref 170, .ref 170]) 2 (fun _ _ => rfl) ?_
          refine wr_get (v := .ref C) rfl rfl rfl (by decide) (rv_ref (show (up2 (up2 (up2 (up2 s17.1 170 15 (s17.1 170 16)) 170 16 (s17.1 170 16 + 1)) 170 35 (((gn y : Nat) : Int))) 170 37 1) 170 19 = ((C : Nat) : Int) from hcc17)) fun h25 => ?_
          show wr (d + 489) tb_M129 93 [(4, vi ((N : Int) + 1)), (3, vi (s17.1 170 15)), (2, vi (((gn y : Nat) : Int))), (0, .ref 170), (1, vi p)] [.ref C, .ref 170] (up2 (up2 (up2 (up2 s17.1 170 15 (s17.1 170 16)) 170 16 (s17.1 170 16 + 1)) 170 35 (((gn y : Nat) : Int))) 170 37 1, s17.2) _
          refine wr_get (v := vi (s17.1 C 4)) rfl rfl (TG_C hC) (by decide) (by show rv _ ((up2 (up2 (up2 (up2 s17.1 170 15 (s17.1 170 16)) 170 16 (s17.1 170 16 + 1)) 170 35 (((gn y : Nat) : Int))) 170 37 1) C 4) = _; rw [up_nk (by omega), up_nk (by omega), up_nk (by omega), up_nk (by omega)]; rfl) fun h26 => ?_
          replace h26 : rg _ ((up2 (up2 (up2 (up2 s17.1 170 15 (s17.1 170 16)) 170 16 (s17.1 170 16 + 1)) 170 35 (((gn y : Nat) : Int))) 170 37 1) C 4) := h26
          rw [up_nk (by omega), up_nk (by omega), up_nk (by omega), up_nk (by omega)] at h26
          have h26 : -2147483648 ≤ s17.1 C 4 ∧ s17.1 C 4 ≤ 2147483647 := h26
          show wr (d + 489) tb_M129 96 [(4, vi ((N : Int) + 1)), (3, vi (s17.1 170 15)), (2, vi (((gn y : Nat) : Int))), (0, .ref 170), (1, vi p)] [vi (s17.1 C 4), .ref 170] (up2 (up2 (up2 (up2 s17.1 170 15 (s17.1 170 16)) 170 16 (s17.1 170 16 + 1)) 170 35 (((gn y : Nat) : Int))) 170 37 1, s17.2) _
          have hb4 : s17.1 C 4 = s2.1 C 4 := (hU17 C 4 (by omega)).trans (hD10.1 C 4 (by omega) (by omega))
          have hb4r := PI_C4 hP4
          refine wr_put (z := s17.1 C 4) rfl rfl rfl rfl (by decide) rfl (by decide) rfl (show -2147483648 ≤ s17.1 C 4 ∧ s17.1 C 4 ≤ 2147483647 by omega) (hf_int' _) ?_
          show wr (d + 489) tb_M129 99 [(4, vi ((N : Int) + 1)), (3, vi (s17.1 170 15)), (2, vi (((gn y : Nat) : Int))), (0, .ref 170), (1, vi p)] [] (up2 (up2 (up2 (up2 (up2 s17.1 170 15 (s17.1 170 16)) 170 16 (s17.1 170 16 + 1)) 170 35 (((gn y : Nat) : Int))) 170 37 1) 170 36 (s17.1 C 4), s17.2) _
          have hR27 : RF (up2 (up2 (up2 (up2 (up2 s17.1 170 15 (s17.1 170 16)) 170 16 (s17.1 170 16 + 1)) 170 35 (((gn y : Nat) : Int))) 170 37 1) 170 36 (s17.1 C 4)) := (RF_up (RF_up (RF_up (RF_up (RF_up hR17 rfl) rfl) rfl) rfl) rfl)
          refine wr_n (pc2 := 100) (lv2 := [(4, vi ((N : Int) + 1)), (3, vi (s17.1 170 15)), (2, vi (((gn y : Nat) : Int))), (0, .ref 170), (1, vi p)]) (st2 := [.ref 170]) 1 (fun _ _ => rfl) ?_
          refine wr_get (v := .ref 202) rfl rfl rfl (by decide) (rv_ref (hR27 170 34 202 rfl)) fun h28 => ?_
          show wr (d + 489) tb_M129 103 [(4, vi ((N : Int) + 1)), (3, vi (s17.1 170 15)), (2, vi (((gn y : Nat) : Int))), (0, .ref 170), (1, vi p)] [.ref 202] (up2 (up2 (up2 (up2 (up2 s17.1 170 15 (s17.1 170 16)) 170 16 (s17.1 170 16 + 1)) 170 35 (((gn y : Nat) : Int))) 170 37 1) 170 36 (s17.1 C 4), s17.2) _
          refine wr_n (pc2 := 105) (lv2 := [(4, vi ((N : Int) + 1)), (3, vi (s17.1 170 15)), (2, vi (((gn y : Nat) : Int))), (0, .ref 170), (1, vi p)]) (st2 := [.ref 170, vi (((gn y : Nat) : Int)), .ref 202]) 2 (fun _ _ => rfl) ?_
          refine wr_get (v := .ref C) rfl rfl rfl (by decide) (rv_ref (show (up2 (up2 (up2 (up2 (up2 s17.1 170 15 (s17.1 170 16)) 170 16 (s17.1 170 16 + 1)) 170 35 (((gn y : Nat) : Int))) 170 37 1) 170 36 (s17.1 C 4)) 170 19 = ((C : Nat) : Int) from hcc17)) fun h29 => ?_
          show wr (d + 489) tb_M129 108 [(4, vi ((N : Int) + 1)), (3, vi (s17.1 170 15)), (2, vi (((gn y : Nat) : Int))), (0, .ref 170), (1, vi p)] [.ref C, vi (((gn y : Nat) : Int)), .ref 202] (up2 (up2 (up2 (up2 (up2 s17.1 170 15 (s17.1 170 16)) 170 16 (s17.1 170 16 + 1)) 170 35 (((gn y : Nat) : Int))) 170 37 1) 170 36 (s17.1 C 4), s17.2) _
          refine wr_get (v := vi (s17.1 C 4)) rfl rfl (TG_C hC) (by decide) (by show rv _ ((up2 (up2 (up2 (up2 (up2 s17.1 170 15 (s17.1 170 16)) 170 16 (s17.1 170 16 + 1)) 170 35 (((gn y : Nat) : Int))) 170 37 1) 170 36 (s17.1 C 4)) C 4) = _; rw [up_nk (by omega), up_nk (by omega), up_nk (by omega), up_nk (by omega), up_nk (by omega)]; rfl) fun h30 => ?_
          replace h30 : rg _ ((up2 (up2 (up2 (up2 (up2 s17.1 170 15 (s17.1 170 16)) 170 16 (s17.1 170 16 + 1)) 170 35 (((gn y : Nat) : Int))) 170 37 1) 170 36 (s17.1 C 4)) C 4) := h30
          rw [up_nk (by omega), up_nk (by omega), up_nk (by omega), up_nk (by omega), up_nk (by omega)] at h30
          have h30 : -2147483648 ≤ s17.1 C 4 ∧ s17.1 C 4 ≤ 2147483647 := h30
          show wr (d + 489) tb_M129 111 [(4, vi ((N : Int) + 1)), (3, vi (s17.1 170 15)), (2, vi (((gn y : Nat) : Int))), (0, .ref 170), (1, vi p)] [vi (s17.1 C 4), vi (((gn y : Nat) : Int)), .ref 202] (up2 (up2 (up2 (up2 (up2 s17.1 170 15 (s17.1 170 16)) 170 16 (s17.1 170 16 + 1)) 170 35 (((gn y : Nat) : Int))) 170 37 1) 170 36 (s17.1 C 4), s17.2) _
          refine wr_ast (a := ((gn y : Nat) : Int)) (z := s17.1 C 4) rfl (by decide) rfl rfl (by omega) (by omega) (by decide) rfl (show -2147483648 ≤ s17.1 C 4 ∧ s17.1 C 4 ≤ 2147483647 by omega) ?_
          show wr (d + 489) tb_M129 112 [(4, vi ((N : Int) + 1)), (3, vi (s17.1 170 15)), (2, vi (((gn y : Nat) : Int))), (0, .ref 170), (1, vi p)] [] (up2 (up2 (up2 (up2 (up2 (up2 s17.1 170 15 (s17.1 170 16)) 170 16 (s17.1 170 16 + 1)) 170 35 (((gn y : Nat) : Int))) 170 37 1) 170 36 (s17.1 C 4)) 202 (gn y) (s17.1 C 4), s17.2) _
          have hR31 : RF (up2 (up2 (up2 (up2 (up2 (up2 s17.1 170 15 (s17.1 170 16)) 170 16 (s17.1 170 16 + 1)) 170 35 (((gn y : Nat) : Int))) 170 37 1) 170 36 (s17.1 C 4)) 202 (gn y) (s17.1 C 4)) := (RF_up (RF_up (RF_up (RF_up (RF_up (RF_up hR17 rfl) rfl) rfl) rfl) rfl) rfl)
          refine wr_n (pc2 := 113) (lv2 := [(4, vi ((N : Int) + 1)), (3, vi (s17.1 170 15)), (2, vi (((gn y : Nat) : Int))), (0, .ref 170), (1, vi p)]) (st2 := [.ref 170]) 1 (fun _ _ => rfl) ?_
          refine wr_get (v := .ref 201) rfl rfl rfl (by decide) (rv_ref (hR31 170 33 201 rfl)) fun h32 => ?_
          show wr (d + 489) tb_M129 116 [(4, vi ((N : Int) + 1)), (3, vi (s17.1 170 15)), (2, vi (((gn y : Nat) : Int))), (0, .ref 170), (1, vi p)] [.ref 201] (up2 (up2 (up2 (up2 (up2 (up2 s17.1 170 15 (s17.1 170 16)) 170 16 (s17.1 170 16 + 1)) 170 35 (((gn y : Nat) : Int))) 170 37 1) 170 36 (s17.1 C 4)) 202 (gn y) (s17.1 C 4), s17.2) _
          refine wr_n (pc2 := 118) (lv2 := [(4, vi ((N : Int) + 1)), (3, vi (s17.1 170 15)), (2, vi (((gn y : Nat) : Int))), (0, .ref 170), (1, vi p)]) (st2 := [vi 0, vi (((gn y : Nat) : Int)), .ref 201]) 2 (fun _ _ => rfl) ?_
          refine wr_ast (a := ((gn y : Nat) : Int)) (z := 0) rfl (by decide) rfl rfl (by omega) (by omega) (by decide) rfl (show -2147483648 ≤ 0 ∧ 0 ≤ 2147483647 by omega) ?_
          show wr (d + 489) tb_M129 119 [(4, vi ((N : Int) + 1)), (3, vi (s17.1 170 15)), (2, vi (((gn y : Nat) : Int))), (0, .ref 170), (1, vi p)] [] (up2 (up2 (up2 (up2 (up2 (up2 (up2 s17.1 170 15 (s17.1 170 16)) 170 16 (s17.1 170 16 + 1)) 170 35 (((gn y : Nat) : Int))) 170 37 1) 170 36 (s17.1 C 4)) 202 (gn y) (s17.1 C 4)) 201 (gn y) 0, s17.2) _
          have hR33 : RF (up2 (up2 (up2 (up2 (up2 (up2 (up2 s17.1 170 15 (s17.1 170 16)) 170 16 (s17.1 170 16 + 1)) 170 35 (((gn y : Nat) : Int))) 170 37 1) 170 36 (s17.1 C 4)) 202 (gn y) (s17.1 C 4)) 201 (gn y) 0) := (RF_up (RF_up (RF_up (RF_up (RF_up (RF_up (RF_up hR17 rfl) rfl) rfl) rfl) rfl) rfl) rfl)
          obtain ⟨sn, hsn⟩ : ∃ qq9 : rS, qq9 = (up2 (up2 (up2 (up2 (up2 (up2 (up2 s17.1 170 15 (s17.1 170 16)) 170 16 (s17.1 170 16 + 1)) 170 35 (((gn y : Nat) : Int))) 170 37 1) 170 36 (s17.1 C 4)) 202 (gn y) (s17.1 C 4)) 201 (gn y) 0, s17.2) := ⟨_, rfl⟩
          rw [← hsn]
          have hfr : ∀ k j, ¬ (k = 170 ∧ (15 ≤ j ∧ j ≤ 16 ∨ 35 ≤ j ∧ j ≤ 37)) → ¬ ((k = 201 ∨ k = 202) ∧ j = gn y) → sn.1 k j = s17.1 k j := by rw [hsn]; intro k j e1 e2; exact ((if_neg (by omega)).trans ((if_neg (by omega)).trans ((if_neg (by omega)).trans ((if_neg (by omega)).trans ((if_neg (by omega)).trans ((if_neg (by omega)).trans ((if_neg (by omega)).trans rfl)))))))
          have v35 : sn.1 170 35 = ((gn y : Nat) : Int) := by rw [hsn]; show (up2 (up2 (up2 (up2 (up2 (up2 (up2 s17.1 170 15 (s17.1 170 16)) 170 16 (s17.1 170 16 + 1)) 170 35 (((gn y : Nat) : Int))) 170 37 1) 170 36 (s17.1 C 4)) 202 (gn y) (s17.1 C 4)) 201 (gn y) 0) 170 35 = _; rfl
          have v16 : sn.1 170 16 = s17.1 170 16 + 1 := by rw [hsn]; show (up2 (up2 (up2 (up2 (up2 (up2 (up2 s17.1 170 15 (s17.1 170 16)) 170 16 (s17.1 170 16 + 1)) 170 35 (((gn y : Nat) : Int))) 170 37 1) 170 36 (s17.1 C 4)) 202 (gn y) (s17.1 C 4)) 201 (gn y) 0) 170 16 = _; rfl
          have v201 : sn.1 201 (gn y) = 0 := by rw [hsn]; show (up2 (up2 (up2 (up2 (up2 (up2 (up2 s17.1 170 15 (s17.1 170 16)) 170 16 (s17.1 170 16 + 1)) 170 35 (((gn y : Nat) : Int))) 170 37 1) 170 36 (s17.1 C 4)) 202 (gn y) (s17.1 C 4)) 201 (gn y) 0) 201 (gn y) = _; exact up_self
          have v202 : sn.1 202 (gn y) = s17.1 C 4 := by rw [hsn]; show (up2 (up2 (up2 (up2 (up2 (up2 (up2 s17.1 170 15 (s17.1 170 16)) 170 16 (s17.1 170 16 + 1)) 170 35 (((gn y : Nat) : Int))) 170 37 1) 170 36 (s17.1 C 4)) 202 (gn y) (s17.1 C 4)) 201 (gn y) 0) 202 (gn y) = _; exact (up_nk (by decide)).trans up_self
          have h35 : s2.1 170 35 = -1 := (hB4.1 170 35 (by unfold SS; omega)).trans hI.2.1
          have hv9 : sn.1 C 9 = ((gn y : Nat) : Int) + 1 := (hfr C 9 (by omega) (by omega)).trans (hv17.trans (by omega))
          obtain ⟨hQ, hpp⟩ := RQ_start (kd := 3) (mr := mr) hC hP4 h35 hNN (by omega) hD10 (by omega) (by omega) (fun k j e1 e2 e3 => (hfr k j e1 e2).trans (hU17 k j (by omega))) hv9 v35 (by omega) v201 (by omega) (by omega) hI.2.2.2.1 (fun hp => EV_agr (fun p hp2 => BX_code hC hB4 (by omega)) (hI.2.2.2.2 (BX_po hB4 hp)))
          have hFRn : FR C s.1 sn.1 := FR_tr (hG17) (fun k j hn => hfr k j (fun q => hn (by unfold PS; omega)) (fun q => hn (by unfold PS; omega)))
          have h5n : sn.1 170 5 = s17.1 170 5 := hfr 170 5 (by omega) (by omega)
          obtain ⟨m1, hm1⟩ : ∃ m1 : Nat, sn.1 C 1 = (m1 : Int) := ⟨(sn.1 C 1).toNat, by have h8 := hQ.2.2.2.1.2.1; omega⟩
          exact rt_119 (s0 := s) (kd := 3) hC (FR_RF hC hFRn hR) hFRn ((show sn.2 = s17.2 by rw [hsn]).trans hz17) (by omega) (by unfold pk; omega) (by unfold i32; omega) hBl hBo hQ hpp hm1
      · refine wr_if1f rfl rfl (by unfold i32; omega) h9 ?_
        refine wr_n (pc2 := 34) (lv2 := [(2, vi (((gn y : Nat) : Int))), (0, .ref 170), (1, vi p)]) (st2 := [vi (((gn y : Nat) : Int)), vi 5, .ref 170]) 3 (fun _ _ => rfl) ?_
        obtain ⟨N, hNN⟩ : ∃ N : Nat, s2.1 170 14 = (N : Int) := ⟨(s2.1 170 14).toNat, by have h8 := (NM_of hP4).1; omega⟩
        refine wr_call1 (args := [vi 5, vi (((gn y : Nat) : Int))]) (rest := []) rfl rfl rfl rfl (Nat.le_of_ble_eq_true rfl) (cr_mono (x_declare (C := C) (d := d + 482) (N := N) (w := 5) (u := ((gn y : Nat) : Int)) _ hR1 hP4 (by unfold i32; omega) (by unfold i32; omega) hNN (by omega)) ?_)
        rintro s35 out ⟨b, rfl, hc34, ⟨rfl, hF34⟩ | ⟨rfl, hD34⟩⟩
        · refine ⟨_, rfl, ?_⟩
          show wr (d + 489) tb_M129 37 [(2, vi (((gn y : Nat) : Int))), (0, .ref 170), (1, vi p)] [vi 0] s35 _
          refine wr_n (pc2 := 41) (lv2 := [(2, vi (((gn y : Nat) : Int))), (0, .ref 170), (1, vi p)]) (st2 := [vi 0]) 2 (fun _ _ => rfl) ?_
          refine wr_end (fun _ _ => rfl) ?_
          exact ⟨0, rfl, hc34.trans hz4, Or.inl ⟨rfl, FR_tr (BX_FR hB4) hF34⟩⟩
        · refine ⟨_, rfl, ?_⟩
          show wr (d + 489) tb_M129 37 [(2, vi (((gn y : Nat) : Int))), (0, .ref 170), (1, vi p)] [vi 1] s35 _
          have hfd34 := hD34.2.2.2.2.2.2.2
          have hR34 : RF s35.1 := FR_RF hC (DC_FR hD34) hR1
          have hL34 : LX s35.1 := hD34.2.1
          have hG34 : FR C s.1 s35.1 := FR_tr (BX_FR hB4) (DC_FR hD34)
          have hz34 : s35.2 = s.2 := hc34.trans hz4
          have hcc34 : s35.1 170 19 = (C : Int) := (hD34.1 170 19 (by omega) (by omega)).trans hP4.1
          refine wr_n (pc2 := 43) (lv2 := [(2, vi (((gn y : Nat) : Int))), (0, .ref 170), (1, vi p)]) (st2 := [.ref 170]) 2 (fun _ _ => rfl) ?_
          refine wr_get (v := .ref C) rfl rfl rfl (by decide) (rv_ref (show s35.1 170 19 = ((C : Nat) : Int) from hcc34)) fun h38 => ?_
          show wr (d + 489) tb_M129 46 [(2, vi (((gn y : Nat) : Int))), (0, .ref 170), (1, vi p)] [.ref C] s35 _
          refine wr_n (pc2 := 47) (lv2 := [(2, vi (((gn y : Nat) : Int))), (0, .ref 170), (1, vi p)]) (st2 := [.ref C, .ref C]) 1 (fun _ _ => rfl) ?_
          refine wr_get (v := vi (s35.1 C 9)) rfl rfl (TG_C hC) (by decide) rfl fun h39 => ?_
          have h39 : -2147483648 ≤ s35.1 C 9 ∧ s35.1 C 9 ≤ 2147483647 := h39
          show wr (d + 489) tb_M129 50 [(2, vi (((gn y : Nat) : Int))), (0, .ref 170), (1, vi p)] [vi (s35.1 C 9), .ref C] s35 _
          have hb9 : s35.1 C 9 = s2.1 C 9 := hD34.1 C 9 (by omega) (by omega)
          refine wr_n (pc2 := 51) (lv2 := [(2, vi (((gn y : Nat) : Int))), (0, .ref 170), (1, vi p)]) (st2 := [vi 1, vi (s35.1 C 9), .ref C]) 1 (fun _ _ => rfl) ?_
          refine wr_add (a := s35.1 C 9) (b := 1) rfl ?_
          show wr (d + 489) tb_M129 52 [(2, vi (((gn y : Nat) : Int))), (0, .ref 170), (1, vi p)] [vi (s35.1 C 9 + 1), .ref C] s35 _
          refine wr_put (z := s35.1 C 9 + 1) rfl rfl rfl rfl (show 96 ≤ C by omega) (TG_C hC) (by decide) rfl (show -2147483648 ≤ s35.1 C 9 + 1 ∧ s35.1 C 9 + 1 ≤ 2147483647 by omega) (hf_int' _) ?_
          show wr (d + 489) tb_M129 55 [(2, vi (((gn y : Nat) : Int))), (0, .ref 170), (1, vi p)] [] (up2 s35.1 C 9 (s35.1 C 9 + 1), s35.2) _
          have hR40 : RF (up2 s35.1 C 9 (s35.1 C 9 + 1)) := (RF_up hR34 (PS_rc hC (by unfold PS; omega)))
          obtain ⟨s41, hs41⟩ : ∃ qq9 : rS, qq9 = (up2 s35.1 C 9 (s35.1 C 9 + 1), s35.2) := ⟨_, rfl⟩
          rw [← hs41]
          have hU41 : U1 C 9 s35.1 s41.1 := by rw [hs41]; exact U1_up
          have hv41 : s41.1 C 9 = s35.1 C 9 + 1 := by rw [hs41]; show up2 s35.1 C 9 (s35.1 C 9 + 1) C 9 = _; exact up_self
          have hk41 : s41.1 170 5 = s35.1 170 5 ∧ s41.1 170 6 = s35.1 170 6 := ⟨hU41 _ _ (by omega), hU41 _ _ (by omega)⟩
          have hc41 : s41.2 = s35.2 := by rw [hs41]
          have hR41 : RF s41.1 := by rw [hs41]; exact RF_up hR34 (PS_rc hC (by unfold PS; omega))
          have hL41 : LX s41.1 := LX_at hL34 (fun j h1 h2 => hU41 170 j (by omega))
          have hG41 : FR C s.1 s41.1 := FR_tr (hG34) (fun k j hn => hU41 k j (fun q => hn (by unfold PS; omega)))
          have hz41 : s41.2 = s.2 := hc41.trans hz34
          have hcc41 : s41.1 170 19 = (C : Int) := (hU41 170 19 (by omega)).trans hcc34
          show wr (d + 489) tb_M129 55 [(2, vi (((gn y : Nat) : Int))), (0, .ref 170), (1, vi p)] [] s41 _
          refine wr_n (pc2 := 56) (lv2 := [(2, vi (((gn y : Nat) : Int))), (0, .ref 170), (1, vi p)]) (st2 := [.ref 170]) 1 (fun _ _ => rfl) ?_
          refine wr_get (v := vi (s41.1 170 15)) rfl rfl rfl (by decide) rfl fun h42 => ?_
          have h42 : -2147483648 ≤ s41.1 170 15 ∧ s41.1 170 15 ≤ 2147483647 := h42
          show wr (d + 489) tb_M129 59 [(2, vi (((gn y : Nat) : Int))), (0, .ref 170), (1, vi p)] [vi (s41.1 170 15)] s41 _
          refine wr_n (pc2 := 61) (lv2 := [(3, vi (s41.1 170 15)), (2, vi (((gn y : Nat) : Int))), (0, .ref 170), (1, vi p)]) (st2 := [.ref 170]) 2 (fun _ _ => rfl) ?_
          refine wr_get (v := vi (s41.1 170 14)) rfl rfl rfl (by decide) rfl fun h43 => ?_
          have h43 : -2147483648 ≤ s41.1 170 14 ∧ s41.1 170 14 ≤ 2147483647 := h43
          show wr (d + 489) tb_M129 64 [(3, vi (s41.1 170 15)), (2, vi (((gn y : Nat) : Int))), (0, .ref 170), (1, vi p)] [vi (s41.1 170 14)] s41 _
          have h14 : s41.1 170 14 = (N : Int) + 1 := (hU41 170 14 (by omega)).trans hD34.2.2.1
          rw [h14]
          show wr (d + 489) tb_M129 64 [(3, vi (s41.1 170 15)), (2, vi (((gn y : Nat) : Int))), (0, .ref 170), (1, vi p)] [vi ((N : Int) + 1)] s41 _
          refine wr_n (pc2 := 67) (lv2 := [(4, vi ((N : Int) + 1)), (3, vi (s41.1 170 15)), (2, vi (((gn y : Nat) : Int))), (0, .ref 170), (1, vi p)]) (st2 := [.ref 170]) 2 (fun _ _ => rfl) ?_
          have hb16 : s41.1 170 16 = s2.1 170 16 := (hU41 170 16 (by omega)).trans (hD34.1 170 16 (by omega) (by omega))
          refine wr_call1 (args := []) (rest := []) rfl rfl rfl rfl (Nat.le_of_ble_eq_true rfl) (cr_mono (c_scope (d := d + 488) _ hR41 (by omega)) ?_)
          rintro s45 out ⟨rfl, e44⟩
          refine ⟨_, rfl, ?_⟩
          rw [e44]
          show wr (d + 489) tb_M129 70 [(4, vi ((N : Int) + 1)), (3, vi (s41.1 170 15)), (2, vi (((gn y : Nat) : Int))), (0, .ref 170), (1, vi p)] [] (up2 (up2 s41.1 170 15 (s41.1 170 16)) 170 16 (s41.1 170 16 + 1), s41.2) _
          have hR46 : RF (up2 (up2 s41.1 170 15 (s41.1 170 16)) 170 16 (s41.1 170 16 + 1)) := (RF_up (RF_up hR41 rfl) rfl)
          refine wr_n (pc2 := 72) (lv2 := [(4, vi ((N : Int) + 1)), (3, vi (s41.1 170 15)), (2, vi (((gn y : Nat) : Int))), (0, .ref 170), (1, vi p)]) (st2 := [vi (((gn y : Nat) : Int)), .ref 170]) 2 (fun _ _ => rfl) ?_
          refine wr_put (z := ((gn y : Nat) : Int)) rfl rfl rfl rfl (by decide) rfl (by decide) rfl (show -2147483648 ≤ ((gn y : Nat) : Int) ∧ ((gn y : Nat) : Int) ≤ 2147483647 by omega) (hf_int' _) ?_
          show wr (d + 489) tb_M129 75 [(4, vi ((N : Int) + 1)), (3, vi (s41.1 170 15)), (2, vi (((gn y : Nat) : Int))), (0, .ref 170), (1, vi p)] [] (up2 (up2 (up2 s41.1 170 15 (s41.1 170 16)) 170 16 (s41.1 170 16 + 1)) 170 35 (((gn y : Nat) : Int)), s41.2) _
          have hR47 : RF (up2 (up2 (up2 s41.1 170 15 (s41.1 170 16)) 170 16 (s41.1 170 16 + 1)) 170 35 (((gn y : Nat) : Int))) := (RF_up (RF_up (RF_up hR41 rfl) rfl) rfl)
          refine wr_n (pc2 := 77) (lv2 := [(4, vi ((N : Int) + 1)), (3, vi (s41.1 170 15)), (2, vi (((gn y : Nat) : Int))), (0, .ref 170), (1, vi p)]) (st2 := [vi p, .ref 170]) 2 (fun _ _ => rfl) ?_
          refine wr_if1t rfl rfl (by unfold i32; omega) (by show p ≠ 0; omega) ?_
          show wr (d + 489) tb_M129 84 [(4, vi ((N : Int) + 1)), (3, vi (s41.1 170 15)), (2, vi (((gn y : Nat) : Int))), (0, .ref 170), (1, vi p)] [.ref 170] (up2 (up2 (up2 s41.1 170 15 (s41.1 170 16)) 170 16 (s41.1 170 16 + 1)) 170 35 (((gn y : Nat) : Int)), s41.2) _
          refine wr_n (pc2 := 85) (lv2 := [(4, vi ((N : Int) + 1)), (3, vi (s41.1 170 15)), (2, vi (((gn y : Nat) : Int))), (0, .ref 170), (1, vi p)]) (st2 := [vi 0, .ref 170]) 1 (fun _ _ => rfl) ?_
          refine wr_put (z := 0) rfl rfl rfl rfl (by decide) rfl (by decide) rfl (show 0 ≤ 0 ∧ 0 ≤ 1 by omega) (fit_i (.inr (.inl rfl)) (show 0 ≤ 0 ∧ 0 ≤ 1 by omega)) ?_
          show wr (d + 489) tb_M129 88 [(4, vi ((N : Int) + 1)), (3, vi (s41.1 170 15)), (2, vi (((gn y : Nat) : Int))), (0, .ref 170), (1, vi p)] [] (up2 (up2 (up2 (up2 s41.1 170 15 (s41.1 170 16)) 170 16 (s41.1 170 16 + 1)) 170 35 (((gn y : Nat) : Int))) 170 37 0, s41.2) _
          have hR48 : RF (up2 (up2 (up2 (up2 s41.1 170 15 (s41.1 170 16)) 170 16 (s41.1 170 16 + 1)) 170 35 (((gn y : Nat) : Int))) 170 37 0) := (RF_up (RF_up (RF_up (RF_up hR41 rfl) rfl) rfl) rfl)
          refine wr_n (pc2 := 90) (lv2 := [(4, vi ((N : Int) + 1)), (3, vi (s41.1 170 15)), (2, vi (((gn y : Nat) : Int))), (0, .ref 170), (1, vi p)]) (st2 := [.ref 170, .ref 170]) 2 (fun _ _ => rfl) ?_
          refine wr_get (v := .ref C) rfl rfl rfl (by decide) (rv_ref (show (up2 (up2 (up2 (up2 s41.1 170 15 (s41.1 170 16)) 170 16 (s41.1 170 16 + 1)) 170 35 (((gn y : Nat) : Int))) 170 37 0) 170 19 = ((C : Nat) : Int) from hcc41)) fun h49 => ?_
          show wr (d + 489) tb_M129 93 [(4, vi ((N : Int) + 1)), (3, vi (s41.1 170 15)), (2, vi (((gn y : Nat) : Int))), (0, .ref 170), (1, vi p)] [.ref C, .ref 170] (up2 (up2 (up2 (up2 s41.1 170 15 (s41.1 170 16)) 170 16 (s41.1 170 16 + 1)) 170 35 (((gn y : Nat) : Int))) 170 37 0, s41.2) _
          refine wr_get (v := vi (s41.1 C 4)) rfl rfl (TG_C hC) (by decide) (by show rv _ ((up2 (up2 (up2 (up2 s41.1 170 15 (s41.1 170 16)) 170 16 (s41.1 170 16 + 1)) 170 35 (((gn y : Nat) : Int))) 170 37 0) C 4) = _; rw [up_nk (by omega), up_nk (by omega), up_nk (by omega), up_nk (by omega)]; rfl) fun h50 => ?_
          replace h50 : rg _ ((up2 (up2 (up2 (up2 s41.1 170 15 (s41.1 170 16)) 170 16 (s41.1 170 16 + 1)) 170 35 (((gn y : Nat) : Int))) 170 37 0) C 4) := h50
          rw [up_nk (by omega), up_nk (by omega), up_nk (by omega), up_nk (by omega)] at h50
          have h50 : -2147483648 ≤ s41.1 C 4 ∧ s41.1 C 4 ≤ 2147483647 := h50
          show wr (d + 489) tb_M129 96 [(4, vi ((N : Int) + 1)), (3, vi (s41.1 170 15)), (2, vi (((gn y : Nat) : Int))), (0, .ref 170), (1, vi p)] [vi (s41.1 C 4), .ref 170] (up2 (up2 (up2 (up2 s41.1 170 15 (s41.1 170 16)) 170 16 (s41.1 170 16 + 1)) 170 35 (((gn y : Nat) : Int))) 170 37 0, s41.2) _
          have hb4 : s41.1 C 4 = s2.1 C 4 := (hU41 C 4 (by omega)).trans (hD34.1 C 4 (by omega) (by omega))
          have hb4r := PI_C4 hP4
          refine wr_put (z := s41.1 C 4) rfl rfl rfl rfl (by decide) rfl (by decide) rfl (show -2147483648 ≤ s41.1 C 4 ∧ s41.1 C 4 ≤ 2147483647 by omega) (hf_int' _) ?_
          show wr (d + 489) tb_M129 99 [(4, vi ((N : Int) + 1)), (3, vi (s41.1 170 15)), (2, vi (((gn y : Nat) : Int))), (0, .ref 170), (1, vi p)] [] (up2 (up2 (up2 (up2 (up2 s41.1 170 15 (s41.1 170 16)) 170 16 (s41.1 170 16 + 1)) 170 35 (((gn y : Nat) : Int))) 170 37 0) 170 36 (s41.1 C 4), s41.2) _
          have hR51 : RF (up2 (up2 (up2 (up2 (up2 s41.1 170 15 (s41.1 170 16)) 170 16 (s41.1 170 16 + 1)) 170 35 (((gn y : Nat) : Int))) 170 37 0) 170 36 (s41.1 C 4)) := (RF_up (RF_up (RF_up (RF_up (RF_up hR41 rfl) rfl) rfl) rfl) rfl)
          refine wr_n (pc2 := 100) (lv2 := [(4, vi ((N : Int) + 1)), (3, vi (s41.1 170 15)), (2, vi (((gn y : Nat) : Int))), (0, .ref 170), (1, vi p)]) (st2 := [.ref 170]) 1 (fun _ _ => rfl) ?_
          refine wr_get (v := .ref 202) rfl rfl rfl (by decide) (rv_ref (hR51 170 34 202 rfl)) fun h52 => ?_
          show wr (d + 489) tb_M129 103 [(4, vi ((N : Int) + 1)), (3, vi (s41.1 170 15)), (2, vi (((gn y : Nat) : Int))), (0, .ref 170), (1, vi p)] [.ref 202] (up2 (up2 (up2 (up2 (up2 s41.1 170 15 (s41.1 170 16)) 170 16 (s41.1 170 16 + 1)) 170 35 (((gn y : Nat) : Int))) 170 37 0) 170 36 (s41.1 C 4), s41.2) _
          refine wr_n (pc2 := 105) (lv2 := [(4, vi ((N : Int) + 1)), (3, vi (s41.1 170 15)), (2, vi (((gn y : Nat) : Int))), (0, .ref 170), (1, vi p)]) (st2 := [.ref 170, vi (((gn y : Nat) : Int)), .ref 202]) 2 (fun _ _ => rfl) ?_
          refine wr_get (v := .ref C) rfl rfl rfl (by decide) (rv_ref (show (up2 (up2 (up2 (up2 (up2 s41.1 170 15 (s41.1 170 16)) 170 16 (s41.1 170 16 + 1)) 170 35 (((gn y : Nat) : Int))) 170 37 0) 170 36 (s41.1 C 4)) 170 19 = ((C : Nat) : Int) from hcc41)) fun h53 => ?_
          show wr (d + 489) tb_M129 108 [(4, vi ((N : Int) + 1)), (3, vi (s41.1 170 15)), (2, vi (((gn y : Nat) : Int))), (0, .ref 170), (1, vi p)] [.ref C, vi (((gn y : Nat) : Int)), .ref 202] (up2 (up2 (up2 (up2 (up2 s41.1 170 15 (s41.1 170 16)) 170 16 (s41.1 170 16 + 1)) 170 35 (((gn y : Nat) : Int))) 170 37 0) 170 36 (s41.1 C 4), s41.2) _
          refine wr_get (v := vi (s41.1 C 4)) rfl rfl (TG_C hC) (by decide) (by show rv _ ((up2 (up2 (up2 (up2 (up2 s41.1 170 15 (s41.1 170 16)) 170 16 (s41.1 170 16 + 1)) 170 35 (((gn y : Nat) : Int))) 170 37 0) 170 36 (s41.1 C 4)) C 4) = _; rw [up_nk (by omega), up_nk (by omega), up_nk (by omega), up_nk (by omega), up_nk (by omega)]; rfl) fun h54 => ?_
          replace h54 : rg _ ((up2 (up2 (up2 (up2 (up2 s41.1 170 15 (s41.1 170 16)) 170 16 (s41.1 170 16 + 1)) 170 35 (((gn y : Nat) : Int))) 170 37 0) 170 36 (s41.1 C 4)) C 4) := h54
          rw [up_nk (by omega), up_nk (by omega), up_nk (by omega), up_nk (by omega), up_nk (by omega)] at h54
          have h54 : -2147483648 ≤ s41.1 C 4 ∧ s41.1 C 4 ≤ 2147483647 := h54
          show wr (d + 489) tb_M129 111 [(4, vi ((N : Int) + 1)), (3, vi (s41.1 170 15)), (2, vi (((gn y : Nat) : Int))), (0, .ref 170), (1, vi p)] [vi (s41.1 C 4), vi (((gn y : Nat) : Int)), .ref 202] (up2 (up2 (up2 (up2 (up2 s41.1 170 15 (s41.1 170 16)) 170 16 (s41.1 170 16 + 1)) 170 35 (((gn y : Nat) : Int))) 170 37 0) 170 36 (s41.1 C 4), s41.2) _
          refine wr_ast (a := ((gn y : Nat) : Int)) (z := s41.1 C 4) rfl (by decide) rfl rfl (by omega) (by omega) (by decide) rfl (show -2147483648 ≤ s41.1 C 4 ∧ s41.1 C 4 ≤ 2147483647 by omega) ?_
          show wr (d + 489) tb_M129 112 [(4, vi ((N : Int) + 1)), (3, vi (s41.1 170 15)), (2, vi (((gn y : Nat) : Int))), (0, .ref 170), (1, vi p)] [] (up2 (up2 (up2 (up2 (up2 (up2 s41.1 170 15 (s41.1 170 16)) 170 16 (s41.1 170 16 + 1)) 170 35 (((gn y : Nat) : Int))) 170 37 0) 170 36 (s41.1 C 4)) 202 (gn y) (s41.1 C 4), s41.2) _
          have hR55 : RF (up2 (up2 (up2 (up2 (up2 (up2 s41.1 170 15 (s41.1 170 16)) 170 16 (s41.1 170 16 + 1)) 170 35 (((gn y : Nat) : Int))) 170 37 0) 170 36 (s41.1 C 4)) 202 (gn y) (s41.1 C 4)) := (RF_up (RF_up (RF_up (RF_up (RF_up (RF_up hR41 rfl) rfl) rfl) rfl) rfl) rfl)
          refine wr_n (pc2 := 113) (lv2 := [(4, vi ((N : Int) + 1)), (3, vi (s41.1 170 15)), (2, vi (((gn y : Nat) : Int))), (0, .ref 170), (1, vi p)]) (st2 := [.ref 170]) 1 (fun _ _ => rfl) ?_
          refine wr_get (v := .ref 201) rfl rfl rfl (by decide) (rv_ref (hR55 170 33 201 rfl)) fun h56 => ?_
          show wr (d + 489) tb_M129 116 [(4, vi ((N : Int) + 1)), (3, vi (s41.1 170 15)), (2, vi (((gn y : Nat) : Int))), (0, .ref 170), (1, vi p)] [.ref 201] (up2 (up2 (up2 (up2 (up2 (up2 s41.1 170 15 (s41.1 170 16)) 170 16 (s41.1 170 16 + 1)) 170 35 (((gn y : Nat) : Int))) 170 37 0) 170 36 (s41.1 C 4)) 202 (gn y) (s41.1 C 4), s41.2) _
          refine wr_n (pc2 := 118) (lv2 := [(4, vi ((N : Int) + 1)), (3, vi (s41.1 170 15)), (2, vi (((gn y : Nat) : Int))), (0, .ref 170), (1, vi p)]) (st2 := [vi 0, vi (((gn y : Nat) : Int)), .ref 201]) 2 (fun _ _ => rfl) ?_
          refine wr_ast (a := ((gn y : Nat) : Int)) (z := 0) rfl (by decide) rfl rfl (by omega) (by omega) (by decide) rfl (show -2147483648 ≤ 0 ∧ 0 ≤ 2147483647 by omega) ?_
          show wr (d + 489) tb_M129 119 [(4, vi ((N : Int) + 1)), (3, vi (s41.1 170 15)), (2, vi (((gn y : Nat) : Int))), (0, .ref 170), (1, vi p)] [] (up2 (up2 (up2 (up2 (up2 (up2 (up2 s41.1 170 15 (s41.1 170 16)) 170 16 (s41.1 170 16 + 1)) 170 35 (((gn y : Nat) : Int))) 170 37 0) 170 36 (s41.1 C 4)) 202 (gn y) (s41.1 C 4)) 201 (gn y) 0, s41.2) _
          have hR57 : RF (up2 (up2 (up2 (up2 (up2 (up2 (up2 s41.1 170 15 (s41.1 170 16)) 170 16 (s41.1 170 16 + 1)) 170 35 (((gn y : Nat) : Int))) 170 37 0) 170 36 (s41.1 C 4)) 202 (gn y) (s41.1 C 4)) 201 (gn y) 0) := (RF_up (RF_up (RF_up (RF_up (RF_up (RF_up (RF_up hR41 rfl) rfl) rfl) rfl) rfl) rfl) rfl)
          obtain ⟨sn, hsn⟩ : ∃ qq9 : rS, qq9 = (up2 (up2 (up2 (up2 (up2 (up2 (up2 s41.1 170 15 (s41.1 170 16)) 170 16 (s41.1 170 16 + 1)) 170 35 (((gn y : Nat) : Int))) 170 37 0) 170 36 (s41.1 C 4)) 202 (gn y) (s41.1 C 4)) 201 (gn y) 0, s41.2) := ⟨_, rfl⟩
          rw [← hsn]
          have hfr : ∀ k j, ¬ (k = 170 ∧ (15 ≤ j ∧ j ≤ 16 ∨ 35 ≤ j ∧ j ≤ 37)) → ¬ ((k = 201 ∨ k = 202) ∧ j = gn y) → sn.1 k j = s41.1 k j := by rw [hsn]; intro k j e1 e2; exact ((if_neg (by omega)).trans ((if_neg (by omega)).trans ((if_neg (by omega)).trans ((if_neg (by omega)).trans ((if_neg (by omega)).trans ((if_neg (by omega)).trans ((if_neg (by omega)).trans rfl)))))))
          have v35 : sn.1 170 35 = ((gn y : Nat) : Int) := by rw [hsn]; show (up2 (up2 (up2 (up2 (up2 (up2 (up2 s41.1 170 15 (s41.1 170 16)) 170 16 (s41.1 170 16 + 1)) 170 35 (((gn y : Nat) : Int))) 170 37 0) 170 36 (s41.1 C 4)) 202 (gn y) (s41.1 C 4)) 201 (gn y) 0) 170 35 = _; rfl
          have v16 : sn.1 170 16 = s41.1 170 16 + 1 := by rw [hsn]; show (up2 (up2 (up2 (up2 (up2 (up2 (up2 s41.1 170 15 (s41.1 170 16)) 170 16 (s41.1 170 16 + 1)) 170 35 (((gn y : Nat) : Int))) 170 37 0) 170 36 (s41.1 C 4)) 202 (gn y) (s41.1 C 4)) 201 (gn y) 0) 170 16 = _; rfl
          have v201 : sn.1 201 (gn y) = 0 := by rw [hsn]; show (up2 (up2 (up2 (up2 (up2 (up2 (up2 s41.1 170 15 (s41.1 170 16)) 170 16 (s41.1 170 16 + 1)) 170 35 (((gn y : Nat) : Int))) 170 37 0) 170 36 (s41.1 C 4)) 202 (gn y) (s41.1 C 4)) 201 (gn y) 0) 201 (gn y) = _; exact up_self
          have v202 : sn.1 202 (gn y) = s41.1 C 4 := by rw [hsn]; show (up2 (up2 (up2 (up2 (up2 (up2 (up2 s41.1 170 15 (s41.1 170 16)) 170 16 (s41.1 170 16 + 1)) 170 35 (((gn y : Nat) : Int))) 170 37 0) 170 36 (s41.1 C 4)) 202 (gn y) (s41.1 C 4)) 201 (gn y) 0) 202 (gn y) = _; exact (up_nk (by decide)).trans up_self
          have h35 : s2.1 170 35 = -1 := (hB4.1 170 35 (by unfold SS; omega)).trans hI.2.1
          have hv9 : sn.1 C 9 = ((gn y : Nat) : Int) + 1 := (hfr C 9 (by omega) (by omega)).trans (hv41.trans (by omega))
          obtain ⟨hQ, hpp⟩ := RQ_start (kd := 2) (mr := mr) hC hP4 h35 hNN (by omega) hD34 (by omega) (by omega) (fun k j e1 e2 e3 => (hfr k j e1 e2).trans (hU41 k j (by omega))) hv9 v35 (by omega) v201 (by omega) (by omega) hI.2.2.2.1 (fun hp => EV_agr (fun p hp2 => BX_code hC hB4 (by omega)) (hI.2.2.2.2 (BX_po hB4 hp)))
          have hFRn : FR C s.1 sn.1 := FR_tr (hG41) (fun k j hn => hfr k j (fun q => hn (by unfold PS; omega)) (fun q => hn (by unfold PS; omega)))
          have h5n : sn.1 170 5 = s41.1 170 5 := hfr 170 5 (by omega) (by omega)
          obtain ⟨m1, hm1⟩ : ∃ m1 : Nat, sn.1 C 1 = (m1 : Int) := ⟨(sn.1 C 1).toNat, by have h8 := hQ.2.2.2.1.2.1; omega⟩
          exact rt_119 (s0 := s) (kd := 2) hC (FR_RF hC hFRn hR) hFRn ((show sn.2 = s41.2 by rw [hsn]).trans hz41) (by omega) (by unfold pk; omega) (by unfold i32; omega) hBl hBo hQ hpp hm1
    · refine ⟨_, rfl, ?_⟩
      show wr (d + 489) tb_M129 19 [(2, vi (((gn y : Nat) : Int))), (0, .ref 170), (1, vi p)] [vi 0] s8 _
      refine wr_n (pc2 := 41) (lv2 := [(2, vi (((gn y : Nat) : Int))), (0, .ref 170), (1, vi p)]) (st2 := [vi 0]) 2 (fun _ _ => rfl) ?_
      refine wr_end (fun _ _ => rfl) ?_
      exact ⟨0, rfl, hc7.trans hz4, Or.inl ⟨rfl, FR_tr (BX_FR hB4) (FR_bad h27)⟩⟩
