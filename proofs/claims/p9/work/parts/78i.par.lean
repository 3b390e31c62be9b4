set_option maxHeartbeats 20000000 in
set_option maxRecDepth 100000 in
theorem p_par {n : Nat} (hSt : CSt n) : CT1 155 tk3 1 19 (n + 1) := by
  intro C y m k0 s deep hC hR hP hMB hm hN hd htk hk0 hko
  unfold NS at hN
  have hx0 := LX_nums hP
  have hgt := gt_of hP
  have hlt := LX_lt hP htk.1
  have hnr := nr_of hP
  obtain ⟨hl26⟩ : Nonempty (i64 (s.1 170 26)) := ⟨by obtain ⟨c, h1, h2, -⟩ := MB_lt hMB hnr; rw [h1]; unfold i64; omega⟩
  have exP : ∀ (t : rS) (mt kt q cc : Nat) (A U S R a0 u0 v0 r0 wg : Int), RF t.1 → PI C y t.1 → BX C (gn y) s.1 t.1 → t.2 = s.2 → t.1 C 1 = (mt : Int) → (s.1 C 3 ≤ t.1 C 3 ∧ t.1 C 3 - s.1 C 3 ≤ (mt : Int) - m ∧ (mt : Int) - m ≤ 12 * (t.1 170 5 - s.1 170 5) - 20 ∧ s.1 C 10 ≤ t.1 C 10 ∧ t.1 C 10 - s.1 C 10 ≤ t.1 170 5 - s.1 170 5 ∧ s.1 170 16 ≤ t.1 170 16 ∧ t.1 170 16 - s.1 170 16 ≤ t.1 170 5 - s.1 170 5 ∧ m + 11 ≤ mt ∧ k0 ≤ kt ∧ s.1 170 5 + 3 * kt + 3 ≤ t.1 170 5 + 3 * k0 ∧ t.1 170 14 = s.1 170 14 ∧ cc < 4096 ∧ 0 ≤ wg ∧ wg ≤ 1 ∧ q ≤ 6) → (i64 A ∧ i64 U ∧ i64 S ∧ i64 R ∧ i64 a0 ∧ i64 u0 ∧ i64 v0 ∧ i64 r0) → (∀ b, cc.testBit b = true → b < gn y) → (t.1 (C + 1) m = 0 ∧ t.1 (C + 1) (m + 1) = 19 ∧ t.1 (C + 1) (m + 9) = 9) → (t.1 170 21 < 0 → wg = 0 → PB (ga y) (t.1 (C + 1)) (gG y) (gn y) (gk y) m q mt k0 kt cc) → 1 ≤ q → wr (n + 400) tb_M155 355 [(5, vi ((q : Int))), (25, vl ((cc : Int))), (23, vl R), (21, vl S), (19, vl U), (17, vl A), (27, vi wg), (15, vl (s.1 170 26)), (13, vl r0), (11, vl v0), (9, vl u0), (7, vl a0), (6, vi (((m + 1 + 1 + 1 + 1 + 1 + 1 + 1 + 1 + 1 + 1 : Nat) : Int))), (4, vi (((m + 1 + 1 + 1 : Nat) : Int))), (3, vi (((m + 1 + 1 : Nat) : Int))), (2, vi (s.1 170 5)), (0, .ref 170), (1, vi deep)] [] t (SP C y m k0 0 s) := by
    intro t mt kt q cc A U S R a0 u0 v0 r0 wg htR htP htB ht2 htm htn htl htb htc htE hq1
    have hx1 := LX_nums htP
    refine wr_n (pc2 := 359) (lv2 := [(5, vi ((q : Int))), (25, vl ((cc : Int))), (23, vl R), (21, vl S), (19, vl U), (17, vl A), (27, vi wg), (15, vl (s.1 170 26)), (13, vl r0), (11, vl v0), (9, vl u0), (7, vl a0), (6, vi (((m + 1 + 1 + 1 + 1 + 1 + 1 + 1 + 1 + 1 + 1 : Nat) : Int))), (4, vi (((m + 1 + 1 + 1 : Nat) : Int))), (3, vi (((m + 1 + 1 : Nat) : Int))), (2, vi (s.1 170 5)), (0, .ref 170), (1, vi deep)]) (st2 := [.ref 32, .ref 170]) 2 (fun _ _ => rfl) ?_
    refine wr_call1 (args := [.ref 32]) (rest := []) rfl rfl rfl rfl (Nat.le_of_ble_eq_true rfl) (cr_mono (x_take (d := n + 393) isT_32 hC _ htR htP) ?_)
    rintro s2 out ⟨b, rfl, hc1, ⟨rfl, hF1⟩ | ⟨rfl, hR1, hBk1, hK1, hf1⟩⟩
    · refine ⟨_, rfl, ?_⟩
      show wr (n + 400) tb_M155 362 [(5, vi ((q : Int))), (25, vl ((cc : Int))), (23, vl R), (21, vl S), (19, vl U), (17, vl A), (27, vi wg), (15, vl (s.1 170 26)), (13, vl r0), (11, vl v0), (9, vl u0), (7, vl a0), (6, vi (((m + 1 + 1 + 1 + 1 + 1 + 1 + 1 + 1 + 1 + 1 : Nat) : Int))), (4, vi (((m + 1 + 1 + 1 : Nat) : Int))), (3, vi (((m + 1 + 1 : Nat) : Int))), (2, vi (s.1 170 5)), (0, .ref 170), (1, vi deep)] [vi 0] s2 _
      refine wr_n (pc2 := 366) (lv2 := [(5, vi ((q : Int))), (25, vl ((cc : Int))), (23, vl R), (21, vl S), (19, vl U), (17, vl A), (27, vi wg), (15, vl (s.1 170 26)), (13, vl r0), (11, vl v0), (9, vl u0), (7, vl a0), (6, vi (((m + 1 + 1 + 1 + 1 + 1 + 1 + 1 + 1 + 1 + 1 : Nat) : Int))), (4, vi (((m + 1 + 1 + 1 : Nat) : Int))), (3, vi (((m + 1 + 1 : Nat) : Int))), (2, vi (s.1 170 5)), (0, .ref 170), (1, vi deep)]) (st2 := [vi 0]) 2 (fun _ _ => rfl) ?_
      refine wr_end (fun _ _ => rfl) ?_
      exact ⟨0, rfl, hc1.trans ht2, Or.inl ⟨rfl, FR_tr (BX_FR htB) hF1⟩⟩
    · refine ⟨_, rfl, ?_⟩
      show wr (n + 400) tb_M155 362 [(5, vi ((q : Int))), (25, vl ((cc : Int))), (23, vl R), (21, vl S), (19, vl U), (17, vl A), (27, vi wg), (15, vl (s.1 170 26)), (13, vl r0), (11, vl v0), (9, vl u0), (7, vl a0), (6, vi (((m + 1 + 1 + 1 + 1 + 1 + 1 + 1 + 1 + 1 + 1 : Nat) : Int))), (4, vi (((m + 1 + 1 + 1 : Nat) : Int))), (3, vi (((m + 1 + 1 : Nat) : Int))), (2, vi (s.1 170 5)), (0, .ref 170), (1, vi deep)] [vi 1] s2 _
      obtain ⟨hu1, hk1⟩ := id hK1
      replace hf1 : t.1 170 5 + 1 ≤ s2.1 170 5 := hf1
      have hm1 : s2.1 C 1 = ((mt : Nat) : Int) := by omega
      have hB5 : BX C (gn y) s.1 s2.1 := BX_tr hC htB hBk1
      have hP5 : PI C y s2.1 := PI_BX hC hP hB5
      have hz5 : s2.2 = s.2 := hc1.trans ht2
      have hx5 := LX_nums hP5
      have hF5 : t.1 170 5 + 1 ≤ s2.1 170 5 ∧ s2.1 170 14 = t.1 170 14 ∧ s2.1 170 16 = t.1 170 16 ∧ s2.1 170 21 = t.1 170 21 ∧ s2.1 C 3 = t.1 C 3 ∧ s2.1 C 10 = t.1 C 10 ∧ 0 ≤ s2.1 170 5 ∧ s2.1 170 5 ≤ s2.1 170 6 ∧ s2.1 170 6 ≤ 2000 := by omega
      clear hk1 hf1 hx5
      refine wr_n (pc2 := 368) (lv2 := [(5, vi ((q : Int))), (25, vl ((cc : Int))), (23, vl R), (21, vl S), (19, vl U), (17, vl A), (27, vi wg), (15, vl (s.1 170 26)), (13, vl r0), (11, vl v0), (9, vl u0), (7, vl a0), (6, vi (((m + 1 + 1 + 1 + 1 + 1 + 1 + 1 + 1 + 1 + 1 : Nat) : Int))), (4, vi (((m + 1 + 1 + 1 : Nat) : Int))), (3, vi (((m + 1 + 1 : Nat) : Int))), (2, vi (s.1 170 5)), (0, .ref 170), (1, vi deep)]) (st2 := [.ref 170]) 2 (fun _ _ => rfl) ?_
      refine wr_get (v := .ref C) rfl rfl rfl (by decide) (rv_ref (show s2.1 170 19 = ((C : Nat) : Int) from hP5.1)) fun h6 => ?_
      show wr (n + 400) tb_M155 371 [(5, vi ((q : Int))), (25, vl ((cc : Int))), (23, vl R), (21, vl S), (19, vl U), (17, vl A), (27, vi wg), (15, vl (s.1 170 26)), (13, vl r0), (11, vl v0), (9, vl u0), (7, vl a0), (6, vi (((m + 1 + 1 + 1 + 1 + 1 + 1 + 1 + 1 + 1 + 1 : Nat) : Int))), (4, vi (((m + 1 + 1 + 1 : Nat) : Int))), (3, vi (((m + 1 + 1 : Nat) : Int))), (2, vi (s.1 170 5)), (0, .ref 170), (1, vi deep)] [.ref C] s2 _
      refine wr_get (v := .ref (C + 1)) rfl rfl (TG_C hC) (by decide) (rv_ref (hR1 C 0 (C + 1) (rc_C0 hC))) fun h7 => ?_
      show wr (n + 400) tb_M155 374 [(5, vi ((q : Int))), (25, vl ((cc : Int))), (23, vl R), (21, vl S), (19, vl U), (17, vl A), (27, vi wg), (15, vl (s.1 170 26)), (13, vl r0), (11, vl v0), (9, vl u0), (7, vl a0), (6, vi (((m + 1 + 1 + 1 + 1 + 1 + 1 + 1 + 1 + 1 + 1 : Nat) : Int))), (4, vi (((m + 1 + 1 + 1 : Nat) : Int))), (3, vi (((m + 1 + 1 : Nat) : Int))), (2, vi (s.1 170 5)), (0, .ref 170), (1, vi deep)] [.ref (C + 1)] s2 _
      refine wr_n (pc2 := 377) (lv2 := [(5, vi ((q : Int))), (25, vl ((cc : Int))), (23, vl R), (21, vl S), (19, vl U), (17, vl A), (27, vi wg), (15, vl (s.1 170 26)), (13, vl r0), (11, vl v0), (9, vl u0), (7, vl a0), (6, vi (((m + 1 + 1 + 1 + 1 + 1 + 1 + 1 + 1 + 1 + 1 : Nat) : Int))), (4, vi (((m + 1 + 1 + 1 : Nat) : Int))), (3, vi (((m + 1 + 1 : Nat) : Int))), (2, vi (s.1 170 5)), (0, .ref 170), (1, vi deep)]) (st2 := [vi ((q : Int)), vi (((m + 1 + 1 : Nat) : Int)), .ref (C + 1)]) 2 (fun _ _ => rfl) ?_
      refine wr_ast (a := ((m + 1 + 1 : Nat) : Int)) (z := (q : Int)) rfl (show 96 ≤ C + 1 by omega) (TG_C1 hC) rfl (by omega) (by omega) (by decide) rfl (show -2147483648 ≤ (q : Int) ∧ (q : Int) ≤ 2147483647 by omega) ?_
      show wr (n + 400) tb_M155 378 [(5, vi ((q : Int))), (25, vl ((cc : Int))), (23, vl R), (21, vl S), (19, vl U), (17, vl A), (27, vi wg), (15, vl (s.1 170 26)), (13, vl r0), (11, vl v0), (9, vl u0), (7, vl a0), (6, vi (((m + 1 + 1 + 1 + 1 + 1 + 1 + 1 + 1 + 1 + 1 : Nat) : Int))), (4, vi (((m + 1 + 1 + 1 : Nat) : Int))), (3, vi (((m + 1 + 1 : Nat) : Int))), (2, vi (s.1 170 5)), (0, .ref 170), (1, vi deep)] [] (up2 s2.1 (C + 1) (m + 1 + 1) ((q : Int)), s2.2) _
      have hR8 : RF (up2 s2.1 (C + 1) (m + 1 + 1) ((q : Int))) := (RF_up hR1 (PS_rc hC (by unfold PS; omega)))
      obtain ⟨s9, hs9⟩ : ∃ qq9 : rS, qq9 = (up2 s2.1 (C + 1) (m + 1 + 1) ((q : Int)), s2.2) := ⟨_, rfl⟩
      rw [← hs9]
      have hU9 : U1 (C + 1) (m + 1 + 1) s2.1 s9.1 := by rw [hs9]; exact U1_up
      have hv9 : s9.1 (C + 1) (m + 1 + 1) = (q : Int) := by rw [hs9]; show up2 s2.1 (C + 1) (m + 1 + 1) ((q : Int)) (C + 1) (m + 1 + 1) = _; exact up_self
      have hk9 : s9.1 170 4 = s2.1 170 4 ∧ s9.1 170 5 = s2.1 170 5 ∧ s9.1 170 6 = s2.1 170 6 ∧ s9.1 170 7 = s2.1 170 7 ∧ s9.1 170 14 = s2.1 170 14 ∧ s9.1 170 16 = s2.1 170 16 ∧ s9.1 170 21 = s2.1 170 21 ∧ s9.1 C 1 = s2.1 C 1 ∧ s9.1 C 3 = s2.1 C 3 ∧ s9.1 C 10 = s2.1 C 10 := ⟨hU9 _ _ (by omega), hU9 _ _ (by omega), hU9 _ _ (by omega), hU9 _ _ (by omega), hU9 _ _ (by omega), hU9 _ _ (by omega), hU9 _ _ (by omega), hU9 _ _ (by omega), hU9 _ _ (by omega), hU9 _ _ (by omega)⟩
      have hBs9 : BX C (gn y) s.1 s9.1 := by rw [hs9]; exact BX_set hC hB5 (by unfold SS; omega) (by unfold quiet; omega)
      have hR9 : RF s9.1 := BX_RF hC hBs9 hR
      have hc9 : s9.2 = s2.2 := by rw [hs9]
      have hm9 : s9.1 C 1 = ((mt : Nat) : Int) := by omega
      have hB10 : BX C (gn y) s.1 s9.1 := hBs9
      have hP10 : PI C y s9.1 := PI_BX hC hP hB10
      have hz10 : s9.2 = s.2 := hc9.trans hz5
      have hF10 : s9.1 170 4 = s2.1 170 4 ∧ s9.1 170 5 = s2.1 170 5 ∧ s9.1 170 6 = s2.1 170 6 ∧ s9.1 170 7 = s2.1 170 7 ∧ s9.1 170 14 = t.1 170 14 ∧ s9.1 170 16 = t.1 170 16 ∧ s9.1 170 21 = t.1 170 21 ∧ s9.1 C 3 = t.1 C 3 ∧ s9.1 C 10 = t.1 C 10 ∧ t.1 170 5 + 1 ≤ s9.1 170 5 ∧ 0 ≤ s9.1 170 5 ∧ s9.1 170 5 ≤ s9.1 170 6 ∧ s9.1 170 6 ≤ 2000 := by omega
      clear hk9 hF5
      show wr (n + 400) tb_M155 378 [(5, vi ((q : Int))), (25, vl ((cc : Int))), (23, vl R), (21, vl S), (19, vl U), (17, vl A), (27, vi wg), (15, vl (s.1 170 26)), (13, vl r0), (11, vl v0), (9, vl u0), (7, vl a0), (6, vi (((m + 1 + 1 + 1 + 1 + 1 + 1 + 1 + 1 + 1 + 1 : Nat) : Int))), (4, vi (((m + 1 + 1 + 1 : Nat) : Int))), (3, vi (((m + 1 + 1 : Nat) : Int))), (2, vi (s.1 170 5)), (0, .ref 170), (1, vi deep)] [] s9 _
      refine wr_n (pc2 := 379) (lv2 := [(5, vi ((q : Int))), (25, vl ((cc : Int))), (23, vl R), (21, vl S), (19, vl U), (17, vl A), (27, vi wg), (15, vl (s.1 170 26)), (13, vl r0), (11, vl v0), (9, vl u0), (7, vl a0), (6, vi (((m + 1 + 1 + 1 + 1 + 1 + 1 + 1 + 1 + 1 + 1 : Nat) : Int))), (4, vi (((m + 1 + 1 + 1 : Nat) : Int))), (3, vi (((m + 1 + 1 : Nat) : Int))), (2, vi (s.1 170 5)), (0, .ref 170), (1, vi deep)]) (st2 := [.ref 170]) 1 (fun _ _ => rfl) ?_
      refine wr_get (v := .ref C) rfl rfl rfl (by decide) (rv_ref (show s9.1 170 19 = ((C : Nat) : Int) from hP10.1)) fun h11 => ?_
      show wr (n + 400) tb_M155 382 [(5, vi ((q : Int))), (25, vl ((cc : Int))), (23, vl R), (21, vl S), (19, vl U), (17, vl A), (27, vi wg), (15, vl (s.1 170 26)), (13, vl r0), (11, vl v0), (9, vl u0), (7, vl a0), (6, vi (((m + 1 + 1 + 1 + 1 + 1 + 1 + 1 + 1 + 1 + 1 : Nat) : Int))), (4, vi (((m + 1 + 1 + 1 : Nat) : Int))), (3, vi (((m + 1 + 1 : Nat) : Int))), (2, vi (s.1 170 5)), (0, .ref 170), (1, vi deep)] [.ref C] s9 _
      refine wr_get (v := .ref (C + 1)) rfl rfl (TG_C hC) (by decide) (rv_ref (hR9 C 0 (C + 1) (rc_C0 hC))) fun h12 => ?_
      show wr (n + 400) tb_M155 385 [(5, vi ((q : Int))), (25, vl ((cc : Int))), (23, vl R), (21, vl S), (19, vl U), (17, vl A), (27, vi wg), (15, vl (s.1 170 26)), (13, vl r0), (11, vl v0), (9, vl u0), (7, vl a0), (6, vi (((m + 1 + 1 + 1 + 1 + 1 + 1 + 1 + 1 + 1 + 1 : Nat) : Int))), (4, vi (((m + 1 + 1 + 1 : Nat) : Int))), (3, vi (((m + 1 + 1 : Nat) : Int))), (2, vi (s.1 170 5)), (0, .ref 170), (1, vi deep)] [.ref (C + 1)] s9 _
      refine wr_n (pc2 := 388) (lv2 := [(5, vi ((q : Int))), (25, vl ((cc : Int))), (23, vl R), (21, vl S), (19, vl U), (17, vl A), (27, vi wg), (15, vl (s.1 170 26)), (13, vl r0), (11, vl v0), (9, vl u0), (7, vl a0), (6, vi (((m + 1 + 1 + 1 + 1 + 1 + 1 + 1 + 1 + 1 + 1 : Nat) : Int))), (4, vi (((m + 1 + 1 + 1 : Nat) : Int))), (3, vi (((m + 1 + 1 : Nat) : Int))), (2, vi (s.1 170 5)), (0, .ref 170), (1, vi deep)]) (st2 := [.ref 170, vi (((m + 1 + 1 + 1 + 1 + 1 + 1 + 1 + 1 + 1 + 1 : Nat) : Int)), .ref (C + 1)]) 2 (fun _ _ => rfl) ?_
      refine wr_get (v := .ref C) rfl rfl rfl (by decide) (rv_ref (show s9.1 170 19 = ((C : Nat) : Int) from hP10.1)) fun h13 => ?_
      show wr (n + 400) tb_M155 391 [(5, vi ((q : Int))), (25, vl ((cc : Int))), (23, vl R), (21, vl S), (19, vl U), (17, vl A), (27, vi wg), (15, vl (s.1 170 26)), (13, vl r0), (11, vl v0), (9, vl u0), (7, vl a0), (6, vi (((m + 1 + 1 + 1 + 1 + 1 + 1 + 1 + 1 + 1 + 1 : Nat) : Int))), (4, vi (((m + 1 + 1 + 1 : Nat) : Int))), (3, vi (((m + 1 + 1 : Nat) : Int))), (2, vi (s.1 170 5)), (0, .ref 170), (1, vi deep)] [.ref C, vi (((m + 1 + 1 + 1 + 1 + 1 + 1 + 1 + 1 + 1 + 1 : Nat) : Int)), .ref (C + 1)] s9 _
      refine wr_get (v := vi (s9.1 C 1)) rfl rfl (TG_C hC) (by decide) rfl fun h14 => ?_
      have h14 : -2147483648 ≤ s9.1 C 1 ∧ s9.1 C 1 ≤ 2147483647 := h14
      show wr (n + 400) tb_M155 394 [(5, vi ((q : Int))), (25, vl ((cc : Int))), (23, vl R), (21, vl S), (19, vl U), (17, vl A), (27, vi wg), (15, vl (s.1 170 26)), (13, vl r0), (11, vl v0), (9, vl u0), (7, vl a0), (6, vi (((m + 1 + 1 + 1 + 1 + 1 + 1 + 1 + 1 + 1 + 1 : Nat) : Int))), (4, vi (((m + 1 + 1 + 1 : Nat) : Int))), (3, vi (((m + 1 + 1 : Nat) : Int))), (2, vi (s.1 170 5)), (0, .ref 170), (1, vi deep)] [vi (s9.1 C 1), vi (((m + 1 + 1 + 1 + 1 + 1 + 1 + 1 + 1 + 1 + 1 : Nat) : Int)), .ref (C + 1)] s9 _
      rw [hm9]
      show wr (n + 400) tb_M155 394 [(5, vi ((q : Int))), (25, vl ((cc : Int))), (23, vl R), (21, vl S), (19, vl U), (17, vl A), (27, vi wg), (15, vl (s.1 170 26)), (13, vl r0), (11, vl v0), (9, vl u0), (7, vl a0), (6, vi (((m + 1 + 1 + 1 + 1 + 1 + 1 + 1 + 1 + 1 + 1 : Nat) : Int))), (4, vi (((m + 1 + 1 + 1 : Nat) : Int))), (3, vi (((m + 1 + 1 : Nat) : Int))), (2, vi (s.1 170 5)), (0, .ref 170), (1, vi deep)] [vi (((mt : Nat) : Int)), vi (((m + 1 + 1 + 1 + 1 + 1 + 1 + 1 + 1 + 1 + 1 : Nat) : Int)), .ref (C + 1)] s9 _
      refine wr_ast (a := ((m + 1 + 1 + 1 + 1 + 1 + 1 + 1 + 1 + 1 + 1 : Nat) : Int)) (z := ((mt : Nat) : Int)) rfl (show 96 ≤ C + 1 by omega) (TG_C1 hC) rfl (by omega) (by omega) (by decide) rfl (show -2147483648 ≤ ((mt : Nat) : Int) ∧ ((mt : Nat) : Int) ≤ 2147483647 by omega) ?_
      show wr (n + 400) tb_M155 395 [(5, vi ((q : Int))), (25, vl ((cc : Int))), (23, vl R), (21, vl S), (19, vl U), (17, vl A), (27, vi wg), (15, vl (s.1 170 26)), (13, vl r0), (11, vl v0), (9, vl u0), (7, vl a0), (6, vi (((m + 1 + 1 + 1 + 1 + 1 + 1 + 1 + 1 + 1 + 1 : Nat) : Int))), (4, vi (((m + 1 + 1 + 1 : Nat) : Int))), (3, vi (((m + 1 + 1 : Nat) : Int))), (2, vi (s.1 170 5)), (0, .ref 170), (1, vi deep)] [] (up2 s9.1 (C + 1) (m + 1 + 1 + 1 + 1 + 1 + 1 + 1 + 1 + 1 + 1) (((mt : Nat) : Int)), s9.2) _
      have hR15 : RF (up2 s9.1 (C + 1) (m + 1 + 1 + 1 + 1 + 1 + 1 + 1 + 1 + 1 + 1) (((mt : Nat) : Int))) := (RF_up hR9 (PS_rc hC (by unfold PS; omega)))
      obtain ⟨s16, hs16⟩ : ∃ qq9 : rS, qq9 = (up2 s9.1 (C + 1) (m + 1 + 1 + 1 + 1 + 1 + 1 + 1 + 1 + 1 + 1) (((mt : Nat) : Int)), s9.2) := ⟨_, rfl⟩
      rw [← hs16]
      have hU16 : U1 (C + 1) (m + 1 + 1 + 1 + 1 + 1 + 1 + 1 + 1 + 1 + 1) s9.1 s16.1 := by rw [hs16]; exact U1_up
      have hv16 : s16.1 (C + 1) (m + 1 + 1 + 1 + 1 + 1 + 1 + 1 + 1 + 1 + 1) = ((mt : Nat) : Int) := by rw [hs16]; show up2 s9.1 (C + 1) (m + 1 + 1 + 1 + 1 + 1 + 1 + 1 + 1 + 1 + 1) (((mt : Nat) : Int)) (C + 1) (m + 1 + 1 + 1 + 1 + 1 + 1 + 1 + 1 + 1 + 1) = _; exact up_self
      have hk16 : s16.1 170 4 = s9.1 170 4 ∧ s16.1 170 5 = s9.1 170 5 ∧ s16.1 170 6 = s9.1 170 6 ∧ s16.1 170 7 = s9.1 170 7 ∧ s16.1 170 14 = s9.1 170 14 ∧ s16.1 170 16 = s9.1 170 16 ∧ s16.1 170 21 = s9.1 170 21 ∧ s16.1 C 1 = s9.1 C 1 ∧ s16.1 C 3 = s9.1 C 3 ∧ s16.1 C 10 = s9.1 C 10 := ⟨hU16 _ _ (by omega), hU16 _ _ (by omega), hU16 _ _ (by omega), hU16 _ _ (by omega), hU16 _ _ (by omega), hU16 _ _ (by omega), hU16 _ _ (by omega), hU16 _ _ (by omega), hU16 _ _ (by omega), hU16 _ _ (by omega)⟩
      have hBs16 : BX C (gn y) s.1 s16.1 := by rw [hs16]; exact BX_set hC hB10 (by unfold SS; omega) (by unfold quiet; omega)
      have hR16 : RF s16.1 := BX_RF hC hBs16 hR
      have hc16 : s16.2 = s9.2 := by rw [hs16]
      have hm16 : s16.1 C 1 = ((mt : Nat) : Int) := by omega
      have hB17 : BX C (gn y) s.1 s16.1 := hBs16
      have hP17 : PI C y s16.1 := PI_BX hC hP hB17
      have hz17 : s16.2 = s.2 := hc16.trans hz10
      have hF17 : s16.1 170 4 = s2.1 170 4 ∧ s16.1 170 5 = s2.1 170 5 ∧ s16.1 170 6 = s2.1 170 6 ∧ s16.1 170 7 = s2.1 170 7 ∧ s16.1 170 14 = t.1 170 14 ∧ s16.1 170 16 = t.1 170 16 ∧ s16.1 170 21 = t.1 170 21 ∧ s16.1 C 3 = t.1 C 3 ∧ s16.1 C 10 = t.1 C 10 ∧ t.1 170 5 + 1 ≤ s16.1 170 5 ∧ 0 ≤ s16.1 170 5 ∧ s16.1 170 5 ≤ s16.1 170 6 ∧ s16.1 170 6 ≤ 2000 := by omega
      clear hk16 hF10
      show wr (n + 400) tb_M155 395 [(5, vi ((q : Int))), (25, vl ((cc : Int))), (23, vl R), (21, vl S), (19, vl U), (17, vl A), (27, vi wg), (15, vl (s.1 170 26)), (13, vl r0), (11, vl v0), (9, vl u0), (7, vl a0), (6, vi (((m + 1 + 1 + 1 + 1 + 1 + 1 + 1 + 1 + 1 + 1 : Nat) : Int))), (4, vi (((m + 1 + 1 + 1 : Nat) : Int))), (3, vi (((m + 1 + 1 : Nat) : Int))), (2, vi (s.1 170 5)), (0, .ref 170), (1, vi deep)] [] s16 _
      refine wr_n (pc2 := 400) (lv2 := [(5, vi ((q : Int))), (25, vl ((cc : Int))), (23, vl R), (21, vl S), (19, vl U), (17, vl A), (27, vi wg), (15, vl (s.1 170 26)), (13, vl r0), (11, vl v0), (9, vl u0), (7, vl a0), (6, vi (((m + 1 + 1 + 1 + 1 + 1 + 1 + 1 + 1 + 1 + 1 : Nat) : Int))), (4, vi (((m + 1 + 1 + 1 : Nat) : Int))), (3, vi (((m + 1 + 1 : Nat) : Int))), (2, vi (s.1 170 5)), (0, .ref 170), (1, vi deep)]) (st2 := [vl A, vl a0, .ref 170]) 3 (fun _ _ => rfl) ?_
      refine wr_lor (a := a0) (b := A) rfl fun z18 h19 h20 => ?_
      show wr (n + 400) tb_M155 401 [(5, vi ((q : Int))), (25, vl ((cc : Int))), (23, vl R), (21, vl S), (19, vl U), (17, vl A), (27, vi wg), (15, vl (s.1 170 26)), (13, vl r0), (11, vl v0), (9, vl u0), (7, vl a0), (6, vi (((m + 1 + 1 + 1 + 1 + 1 + 1 + 1 + 1 + 1 + 1 : Nat) : Int))), (4, vi (((m + 1 + 1 + 1 : Nat) : Int))), (3, vi (((m + 1 + 1 : Nat) : Int))), (2, vi (s.1 170 5)), (0, .ref 170), (1, vi deep)] [vl z18, .ref 170] s16 _
      refine wr_put (z := z18) rfl rfl rfl rfl (by decide) rfl (by decide) rfl h19 (fit_l _) ?_
      show wr (n + 400) tb_M155 404 [(5, vi ((q : Int))), (25, vl ((cc : Int))), (23, vl R), (21, vl S), (19, vl U), (17, vl A), (27, vi wg), (15, vl (s.1 170 26)), (13, vl r0), (11, vl v0), (9, vl u0), (7, vl a0), (6, vi (((m + 1 + 1 + 1 + 1 + 1 + 1 + 1 + 1 + 1 + 1 : Nat) : Int))), (4, vi (((m + 1 + 1 + 1 : Nat) : Int))), (3, vi (((m + 1 + 1 : Nat) : Int))), (2, vi (s.1 170 5)), (0, .ref 170), (1, vi deep)] [] (up2 s16.1 170 22 z18, s16.2) _
      have hR21 : RF (up2 s16.1 170 22 z18) := (RF_up hR16 rfl)
      refine wr_n (pc2 := 409) (lv2 := [(5, vi ((q : Int))), (25, vl ((cc : Int))), (23, vl R), (21, vl S), (19, vl U), (17, vl A), (27, vi wg), (15, vl (s.1 170 26)), (13, vl r0), (11, vl v0), (9, vl u0), (7, vl a0), (6, vi (((m + 1 + 1 + 1 + 1 + 1 + 1 + 1 + 1 + 1 + 1 : Nat) : Int))), (4, vi (((m + 1 + 1 + 1 : Nat) : Int))), (3, vi (((m + 1 + 1 : Nat) : Int))), (2, vi (s.1 170 5)), (0, .ref 170), (1, vi deep)]) (st2 := [vl U, vl u0, .ref 170]) 3 (fun _ _ => rfl) ?_
      refine wr_lor (a := u0) (b := U) rfl fun z22 h23 h24 => ?_
      show wr (n + 400) tb_M155 410 [(5, vi ((q : Int))), (25, vl ((cc : Int))), (23, vl R), (21, vl S), (19, vl U), (17, vl A), (27, vi wg), (15, vl (s.1 170 26)), (13, vl r0), (11, vl v0), (9, vl u0), (7, vl a0), (6, vi (((m + 1 + 1 + 1 + 1 + 1 + 1 + 1 + 1 + 1 + 1 : Nat) : Int))), (4, vi (((m + 1 + 1 + 1 : Nat) : Int))), (3, vi (((m + 1 + 1 : Nat) : Int))), (2, vi (s.1 170 5)), (0, .ref 170), (1, vi deep)] [vl z22, .ref 170] (up2 s16.1 170 22 z18, s16.2) _
      refine wr_put (z := z22) rfl rfl rfl rfl (by decide) rfl (by decide) rfl h23 (fit_l _) ?_
      show wr (n + 400) tb_M155 413 [(5, vi ((q : Int))), (25, vl ((cc : Int))), (23, vl R), (21, vl S), (19, vl U), (17, vl A), (27, vi wg), (15, vl (s.1 170 26)), (13, vl r0), (11, vl v0), (9, vl u0), (7, vl a0), (6, vi (((m + 1 + 1 + 1 + 1 + 1 + 1 + 1 + 1 + 1 + 1 : Nat) : Int))), (4, vi (((m + 1 + 1 + 1 : Nat) : Int))), (3, vi (((m + 1 + 1 : Nat) : Int))), (2, vi (s.1 170 5)), (0, .ref 170), (1, vi deep)] [] (up2 (up2 s16.1 170 22 z18) 170 23 z22, s16.2) _
      have hR25 : RF (up2 (up2 s16.1 170 22 z18) 170 23 z22) := (RF_up (RF_up hR16 rfl) rfl)
      refine wr_n (pc2 := 418) (lv2 := [(5, vi ((q : Int))), (25, vl ((cc : Int))), (23, vl R), (21, vl S), (19, vl U), (17, vl A), (27, vi wg), (15, vl (s.1 170 26)), (13, vl r0), (11, vl v0), (9, vl u0), (7, vl a0), (6, vi (((m + 1 + 1 + 1 + 1 + 1 + 1 + 1 + 1 + 1 + 1 : Nat) : Int))), (4, vi (((m + 1 + 1 + 1 : Nat) : Int))), (3, vi (((m + 1 + 1 : Nat) : Int))), (2, vi (s.1 170 5)), (0, .ref 170), (1, vi deep)]) (st2 := [vl S, vl v0, .ref 170]) 3 (fun _ _ => rfl) ?_
      refine wr_lor (a := v0) (b := S) rfl fun z26 h27 h28 => ?_
      show wr (n + 400) tb_M155 419 [(5, vi ((q : Int))), (25, vl ((cc : Int))), (23, vl R), (21, vl S), (19, vl U), (17, vl A), (27, vi wg), (15, vl (s.1 170 26)), (13, vl r0), (11, vl v0), (9, vl u0), (7, vl a0), (6, vi (((m + 1 + 1 + 1 + 1 + 1 + 1 + 1 + 1 + 1 + 1 : Nat) : Int))), (4, vi (((m + 1 + 1 + 1 : Nat) : Int))), (3, vi (((m + 1 + 1 : Nat) : Int))), (2, vi (s.1 170 5)), (0, .ref 170), (1, vi deep)] [vl z26, .ref 170] (up2 (up2 s16.1 170 22 z18) 170 23 z22, s16.2) _
      refine wr_put (z := z26) rfl rfl rfl rfl (by decide) rfl (by decide) rfl h27 (fit_l _) ?_
      show wr (n + 400) tb_M155 422 [(5, vi ((q : Int))), (25, vl ((cc : Int))), (23, vl R), (21, vl S), (19, vl U), (17, vl A), (27, vi wg), (15, vl (s.1 170 26)), (13, vl r0), (11, vl v0), (9, vl u0), (7, vl a0), (6, vi (((m + 1 + 1 + 1 + 1 + 1 + 1 + 1 + 1 + 1 + 1 : Nat) : Int))), (4, vi (((m + 1 + 1 + 1 : Nat) : Int))), (3, vi (((m + 1 + 1 : Nat) : Int))), (2, vi (s.1 170 5)), (0, .ref 170), (1, vi deep)] [] (up2 (up2 (up2 s16.1 170 22 z18) 170 23 z22) 170 24 z26, s16.2) _
      have hR29 : RF (up2 (up2 (up2 s16.1 170 22 z18) 170 23 z22) 170 24 z26) := (RF_up (RF_up (RF_up hR16 rfl) rfl) rfl)
      refine wr_n (pc2 := 427) (lv2 := [(5, vi ((q : Int))), (25, vl ((cc : Int))), (23, vl R), (21, vl S), (19, vl U), (17, vl A), (27, vi wg), (15, vl (s.1 170 26)), (13, vl r0), (11, vl v0), (9, vl u0), (7, vl a0), (6, vi (((m + 1 + 1 + 1 + 1 + 1 + 1 + 1 + 1 + 1 + 1 : Nat) : Int))), (4, vi (((m + 1 + 1 + 1 : Nat) : Int))), (3, vi (((m + 1 + 1 : Nat) : Int))), (2, vi (s.1 170 5)), (0, .ref 170), (1, vi deep)]) (st2 := [vl R, vl r0, .ref 170]) 3 (fun _ _ => rfl) ?_
      refine wr_lor (a := r0) (b := R) rfl fun z30 h31 h32 => ?_
      show wr (n + 400) tb_M155 428 [(5, vi ((q : Int))), (25, vl ((cc : Int))), (23, vl R), (21, vl S), (19, vl U), (17, vl A), (27, vi wg), (15, vl (s.1 170 26)), (13, vl r0), (11, vl v0), (9, vl u0), (7, vl a0), (6, vi (((m + 1 + 1 + 1 + 1 + 1 + 1 + 1 + 1 + 1 + 1 : Nat) : Int))), (4, vi (((m + 1 + 1 + 1 : Nat) : Int))), (3, vi (((m + 1 + 1 : Nat) : Int))), (2, vi (s.1 170 5)), (0, .ref 170), (1, vi deep)] [vl z30, .ref 170] (up2 (up2 (up2 s16.1 170 22 z18) 170 23 z22) 170 24 z26, s16.2) _
      refine wr_put (z := z30) rfl rfl rfl rfl (by decide) rfl (by decide) rfl h31 (fit_l _) ?_
      show wr (n + 400) tb_M155 431 [(5, vi ((q : Int))), (25, vl ((cc : Int))), (23, vl R), (21, vl S), (19, vl U), (17, vl A), (27, vi wg), (15, vl (s.1 170 26)), (13, vl r0), (11, vl v0), (9, vl u0), (7, vl a0), (6, vi (((m + 1 + 1 + 1 + 1 + 1 + 1 + 1 + 1 + 1 + 1 : Nat) : Int))), (4, vi (((m + 1 + 1 + 1 : Nat) : Int))), (3, vi (((m + 1 + 1 : Nat) : Int))), (2, vi (s.1 170 5)), (0, .ref 170), (1, vi deep)] [] (up2 (up2 (up2 (up2 s16.1 170 22 z18) 170 23 z22) 170 24 z26) 170 25 z30, s16.2) _
      have hR33 : RF (up2 (up2 (up2 (up2 s16.1 170 22 z18) 170 23 z22) 170 24 z26) 170 25 z30) := (RF_up (RF_up (RF_up (RF_up hR16 rfl) rfl) rfl) rfl)
      refine wr_n (pc2 := 436) (lv2 := [(5, vi ((q : Int))), (25, vl ((cc : Int))), (23, vl R), (21, vl S), (19, vl U), (17, vl A), (27, vi wg), (15, vl (s.1 170 26)), (13, vl r0), (11, vl v0), (9, vl u0), (7, vl a0), (6, vi (((m + 1 + 1 + 1 + 1 + 1 + 1 + 1 + 1 + 1 + 1 : Nat) : Int))), (4, vi (((m + 1 + 1 + 1 : Nat) : Int))), (3, vi (((m + 1 + 1 : Nat) : Int))), (2, vi (s.1 170 5)), (0, .ref 170), (1, vi deep)]) (st2 := [vl ((cc : Int)), vl (s.1 170 26), .ref 170]) 3 (fun _ _ => rfl) ?_
      refine wr_lor (a := s.1 170 26) (b := (cc : Int)) rfl fun z34 h35 h36 => ?_
      show wr (n + 400) tb_M155 437 [(5, vi ((q : Int))), (25, vl ((cc : Int))), (23, vl R), (21, vl S), (19, vl U), (17, vl A), (27, vi wg), (15, vl (s.1 170 26)), (13, vl r0), (11, vl v0), (9, vl u0), (7, vl a0), (6, vi (((m + 1 + 1 + 1 + 1 + 1 + 1 + 1 + 1 + 1 + 1 : Nat) : Int))), (4, vi (((m + 1 + 1 + 1 : Nat) : Int))), (3, vi (((m + 1 + 1 : Nat) : Int))), (2, vi (s.1 170 5)), (0, .ref 170), (1, vi deep)] [vl z34, .ref 170] (up2 (up2 (up2 (up2 s16.1 170 22 z18) 170 23 z22) 170 24 z26) 170 25 z30, s16.2) _
      refine wr_put (z := z34) rfl rfl rfl rfl (by decide) rfl (by decide) rfl h35 (fit_l _) ?_
      show wr (n + 400) tb_M155 440 [(5, vi ((q : Int))), (25, vl ((cc : Int))), (23, vl R), (21, vl S), (19, vl U), (17, vl A), (27, vi wg), (15, vl (s.1 170 26)), (13, vl r0), (11, vl v0), (9, vl u0), (7, vl a0), (6, vi (((m + 1 + 1 + 1 + 1 + 1 + 1 + 1 + 1 + 1 + 1 : Nat) : Int))), (4, vi (((m + 1 + 1 + 1 : Nat) : Int))), (3, vi (((m + 1 + 1 : Nat) : Int))), (2, vi (s.1 170 5)), (0, .ref 170), (1, vi deep)] [] (up2 (up2 (up2 (up2 (up2 s16.1 170 22 z18) 170 23 z22) 170 24 z26) 170 25 z30) 170 26 z34, s16.2) _
      have hR37 : RF (up2 (up2 (up2 (up2 (up2 s16.1 170 22 z18) 170 23 z22) 170 24 z26) 170 25 z30) 170 26 z34) := (RF_up (RF_up (RF_up (RF_up (RF_up hR16 rfl) rfl) rfl) rfl) rfl)
      have hor := MB_or hMB (show MB (gn y) (cc : Int) from ⟨cc, rfl, htb⟩) hnr h36
      obtain ⟨s38, hs38⟩ : ∃ qq9 : rS, qq9 = (up2 (up2 (up2 (up2 (up2 s16.1 170 22 z18) 170 23 z22) 170 24 z26) 170 25 z30) 170 26 z34, s16.2) := ⟨_, rfl⟩
      rw [← hs38]
      have hK38 : KM s16.1 s38.1 := by rw [hs38]; exact (KM_up (KM_up (KM_up (KM_up (KM_up KM_rf (by omega)) (by omega)) (by omega)) (by omega)) (by omega))
      have hk38 := KM_nums hC hK38
      have hBs38 : BX C (gn y) s.1 s38.1 := by rw [hs38]; exact (BX_called hC (BX_set hC (BX_set hC (BX_set hC (BX_set hC hB17 (by unfold SS; omega) (by unfold quiet; omega)) (by unfold SS; omega) (by unfold quiet; omega)) (by unfold SS; omega) (by unfold quiet; omega)) (by unfold SS; omega) (by unfold quiet; omega)) ⟨trivial, fun _ => hor.1⟩)
      have hR38 : RF s38.1 := BX_RF hC hBs38 hR
      have hc38 : s38.2 = s16.2 := by rw [hs38]
      have hm38 : s38.1 C 1 = ((mt : Nat) : Int) := by omega
      have hB39 : BX C (gn y) s.1 s38.1 := hBs38
      have hP39 : PI C y s38.1 := PI_BX hC hP hB39
      have hz39 : s38.2 = s.2 := hc38.trans hz17
      have hF39 : s38.1 170 4 = s2.1 170 4 ∧ s38.1 170 5 = s2.1 170 5 ∧ s38.1 170 6 = s2.1 170 6 ∧ s38.1 170 7 = s2.1 170 7 ∧ s38.1 170 14 = t.1 170 14 ∧ s38.1 170 16 = t.1 170 16 ∧ s38.1 170 21 = t.1 170 21 ∧ s38.1 C 3 = t.1 C 3 ∧ s38.1 C 10 = t.1 C 10 ∧ t.1 170 5 + 1 ≤ s38.1 170 5 ∧ 0 ≤ s38.1 170 5 ∧ s38.1 170 5 ≤ s38.1 170 6 ∧ s38.1 170 6 ≤ 2000 := by omega
      clear hF17
      show wr (n + 400) tb_M155 440 [(5, vi ((q : Int))), (25, vl ((cc : Int))), (23, vl R), (21, vl S), (19, vl U), (17, vl A), (27, vi wg), (15, vl (s.1 170 26)), (13, vl r0), (11, vl v0), (9, vl u0), (7, vl a0), (6, vi (((m + 1 + 1 + 1 + 1 + 1 + 1 + 1 + 1 + 1 + 1 : Nat) : Int))), (4, vi (((m + 1 + 1 + 1 : Nat) : Int))), (3, vi (((m + 1 + 1 : Nat) : Int))), (2, vi (s.1 170 5)), (0, .ref 170), (1, vi deep)] [] s38 _
      have hz26 : s38.1 170 26 = z34 := by rw [hs38]; rfl
      refine wr_n (pc2 := 442) (lv2 := [(5, vi ((q : Int))), (25, vl ((cc : Int))), (23, vl R), (21, vl S), (19, vl U), (17, vl A), (27, vi wg), (15, vl (s.1 170 26)), (13, vl r0), (11, vl v0), (9, vl u0), (7, vl a0), (6, vi (((m + 1 + 1 + 1 + 1 + 1 + 1 + 1 + 1 + 1 + 1 : Nat) : Int))), (4, vi (((m + 1 + 1 + 1 : Nat) : Int))), (3, vi (((m + 1 + 1 : Nat) : Int))), (2, vi (s.1 170 5)), (0, .ref 170), (1, vi deep)]) (st2 := [vi wg]) 1 (fun _ _ => rfl) ?_
      by_cases h40 : wg = 0
      · refine wr_if1t rfl rfl (by unfold i32; omega) h40 ?_
        refine wr_n (pc2 := 466) (lv2 := [(5, vi ((q : Int))), (25, vl ((cc : Int))), (23, vl R), (21, vl S), (19, vl U), (17, vl A), (27, vi wg), (15, vl (s.1 170 26)), (13, vl r0), (11, vl v0), (9, vl u0), (7, vl a0), (6, vi (((m + 1 + 1 + 1 + 1 + 1 + 1 + 1 + 1 + 1 + 1 : Nat) : Int))), (4, vi (((m + 1 + 1 + 1 : Nat) : Int))), (3, vi (((m + 1 + 1 : Nat) : Int))), (2, vi (s.1 170 5)), (0, .ref 170), (1, vi deep)]) (st2 := [vi 1]) 1 (fun _ _ => rfl) ?_
        refine wr_end (fun _ _ => rfl) ?_
        have hCSl : CS s.1 s38.1 := (fun i hi => by rw [hz26]; exact hor.2.1 i hi)
        refine ⟨1, rfl, hz39, Or.inr ⟨rfl, hR38, hB39, hCSl, by unfold NXS; omega, mt, kt, hm38, by omega, ?_⟩⟩
        intro hpar
        exact (SG_seq (by omega) (by omega) (SG_part (((hK38 (C + 1) _ (by omega)).trans ((hU16 (C + 1) _ (by omega)).trans ((hU9 (C + 1) _ (by omega)).trans (BX_code hC hBk1 (by omega))))).trans htc.1) (by omega)) (PB_par (PB_agr (fun p p1 p2 => ((hK38 (C + 1) p (by omega)).trans ((hU16 (C + 1) p (by omega)).trans ((hU9 (C + 1) p (by omega)).trans (BX_code hC hBk1 (by omega)))))) (fun p p1 p2 => ((hK38 (C + 1) p (by omega)).trans ((hU16 (C + 1) p (by omega)).trans ((hU9 (C + 1) p (by omega)).trans (BX_code hC hBk1 (by omega)))))) (htE (BX_po hBk1 (by rw [← hU9 170 21 (by omega)]; exact (by rw [← hU16 170 21 (by omega)]; exact (by rw [← hK38 170 21 (by omega)]; exact hpar)))) (by omega))) (((hK38 (C + 1) _ (by omega)).trans ((hU16 (C + 1) _ (by omega)).trans ((hU9 (C + 1) _ (by omega)).trans (BX_code hC hBk1 (by omega))))).trans htc.2.1) (((hK38 (C + 1) _ (by omega)).trans (hU16 (C + 1) _ (by omega))).trans hv9) (by omega) (by omega) (((hK38 (C + 1) _ (by omega)).trans ((hU16 (C + 1) _ (by omega)).trans ((hU9 (C + 1) _ (by omega)).trans (BX_code hC hBk1 (by omega))))).trans htc.2.2) ((hK38 (C + 1) _ (by omega)).trans hv16) (by omega) (by omega) hnr hk0 hko (fun b hb => by rw [hz26]; exact hor.2.2 b hb)))
      · refine wr_if1f rfl rfl (by unfold i32; omega) h40 ?_
        refine wr_n (pc2 := 446) (lv2 := [(5, vi ((q : Int))), (25, vl ((cc : Int))), (23, vl R), (21, vl S), (19, vl U), (17, vl A), (27, vi wg), (15, vl (s.1 170 26)), (13, vl r0), (11, vl v0), (9, vl u0), (7, vl a0), (6, vi (((m + 1 + 1 + 1 + 1 + 1 + 1 + 1 + 1 + 1 + 1 : Nat) : Int))), (4, vi (((m + 1 + 1 + 1 : Nat) : Int))), (3, vi (((m + 1 + 1 : Nat) : Int))), (2, vi (s.1 170 5)), (0, .ref 170), (1, vi deep)]) (st2 := [.ref 170]) 1 (fun _ _ => rfl) ?_
        refine wr_get (v := vi (s38.1 170 21)) rfl rfl rfl (by decide) rfl fun h41 => ?_
        have h41 : -2147483648 ≤ s38.1 170 21 ∧ s38.1 170 21 ≤ 2147483647 := h41
        show wr (n + 400) tb_M155 449 [(5, vi ((q : Int))), (25, vl ((cc : Int))), (23, vl R), (21, vl S), (19, vl U), (17, vl A), (27, vi wg), (15, vl (s.1 170 26)), (13, vl r0), (11, vl v0), (9, vl u0), (7, vl a0), (6, vi (((m + 1 + 1 + 1 + 1 + 1 + 1 + 1 + 1 + 1 + 1 : Nat) : Int))), (4, vi (((m + 1 + 1 + 1 : Nat) : Int))), (3, vi (((m + 1 + 1 : Nat) : Int))), (2, vi (s.1 170 5)), (0, .ref 170), (1, vi deep)] [vi (s38.1 170 21)] s38 _
        by_cases h42 : s38.1 170 21 < 0
        · refine wr_if1t rfl rfl (by unfold i32; omega) h42 ?_
          refine wr_n (pc2 := 462) (lv2 := [(5, vi ((q : Int))), (25, vl ((cc : Int))), (23, vl R), (21, vl S), (19, vl U), (17, vl A), (27, vi wg), (15, vl (s.1 170 26)), (13, vl r0), (11, vl v0), (9, vl u0), (7, vl a0), (6, vi (((m + 1 + 1 + 1 + 1 + 1 + 1 + 1 + 1 + 1 + 1 : Nat) : Int))), (4, vi (((m + 1 + 1 + 1 : Nat) : Int))), (3, vi (((m + 1 + 1 : Nat) : Int))), (2, vi (s.1 170 5)), (0, .ref 170), (1, vi deep)]) (st2 := [vi (s.1 170 5), .ref 170]) 2 (fun _ _ => rfl) ?_
          refine wr_put (z := s.1 170 5) rfl rfl rfl rfl (by decide) rfl (by decide) rfl (show -2147483648 ≤ s.1 170 5 ∧ s.1 170 5 ≤ 2147483647 by omega) (hf_int' _) ?_
          show wr (n + 400) tb_M155 465 [(5, vi ((q : Int))), (25, vl ((cc : Int))), (23, vl R), (21, vl S), (19, vl U), (17, vl A), (27, vi wg), (15, vl (s.1 170 26)), (13, vl r0), (11, vl v0), (9, vl u0), (7, vl a0), (6, vi (((m + 1 + 1 + 1 + 1 + 1 + 1 + 1 + 1 + 1 + 1 : Nat) : Int))), (4, vi (((m + 1 + 1 + 1 : Nat) : Int))), (3, vi (((m + 1 + 1 : Nat) : Int))), (2, vi (s.1 170 5)), (0, .ref 170), (1, vi deep)] [] (up2 s38.1 170 21 (s.1 170 5), s38.2) _
          have hR43 : RF (up2 s38.1 170 21 (s.1 170 5)) := (RF_up hR38 rfl)
          obtain ⟨s44, hs44⟩ : ∃ qq9 : rS, qq9 = (up2 s38.1 170 21 (s.1 170 5), s38.2) := ⟨_, rfl⟩
          rw [← hs44]
          have hU44 : U1 170 21 s38.1 s44.1 := by rw [hs44]; exact U1_up
          have hv44 : s44.1 170 21 = s.1 170 5 := by rw [hs44]; show up2 s38.1 170 21 (s.1 170 5) 170 21 = _; exact up_self
          have hk44 : s44.1 170 4 = s38.1 170 4 ∧ s44.1 170 5 = s38.1 170 5 ∧ s44.1 170 6 = s38.1 170 6 ∧ s44.1 170 7 = s38.1 170 7 ∧ s44.1 170 14 = s38.1 170 14 ∧ s44.1 170 16 = s38.1 170 16 ∧ s44.1 C 1 = s38.1 C 1 ∧ s44.1 C 3 = s38.1 C 3 ∧ s44.1 C 10 = s38.1 C 10 := ⟨hU44 _ _ (by omega), hU44 _ _ (by omega), hU44 _ _ (by omega), hU44 _ _ (by omega), hU44 _ _ (by omega), hU44 _ _ (by omega), hU44 _ _ (by omega), hU44 _ _ (by omega), hU44 _ _ (by omega)⟩
          have hBs44 : BX C (gn y) s.1 s44.1 := by rw [hs44]; exact BX_par hC hB39 (fun hz9 => absurd hz9 (by omega))
          have hR44 : RF s44.1 := BX_RF hC hBs44 hR
          have hc44 : s44.2 = s38.2 := by rw [hs44]
          have hm44 : s44.1 C 1 = ((mt : Nat) : Int) := by omega
          have hB45 : BX C (gn y) s.1 s44.1 := hBs44
          have hP45 : PI C y s44.1 := PI_BX hC hP hB45
          have hz45 : s44.2 = s.2 := hc44.trans hz39
          have hF45 : s44.1 170 4 = s2.1 170 4 ∧ s44.1 170 5 = s2.1 170 5 ∧ s44.1 170 6 = s2.1 170 6 ∧ s44.1 170 7 = s2.1 170 7 ∧ s44.1 170 14 = t.1 170 14 ∧ s44.1 170 16 = t.1 170 16 ∧ s44.1 170 21 = s.1 170 5 ∧ s44.1 C 3 = t.1 C 3 ∧ s44.1 C 10 = t.1 C 10 ∧ t.1 170 5 + 1 ≤ s44.1 170 5 ∧ 0 ≤ s44.1 170 5 ∧ s44.1 170 5 ≤ s44.1 170 6 ∧ s44.1 170 6 ≤ 2000 := by omega
          clear hk44 hF39
          show wr (n + 400) tb_M155 465 [(5, vi ((q : Int))), (25, vl ((cc : Int))), (23, vl R), (21, vl S), (19, vl U), (17, vl A), (27, vi wg), (15, vl (s.1 170 26)), (13, vl r0), (11, vl v0), (9, vl u0), (7, vl a0), (6, vi (((m + 1 + 1 + 1 + 1 + 1 + 1 + 1 + 1 + 1 + 1 : Nat) : Int))), (4, vi (((m + 1 + 1 + 1 : Nat) : Int))), (3, vi (((m + 1 + 1 : Nat) : Int))), (2, vi (s.1 170 5)), (0, .ref 170), (1, vi deep)] [] s44 _
          have hz27 : s44.1 170 26 = s38.1 170 26 := hU44 170 26 (by omega)
          refine wr_n (pc2 := 466) (lv2 := [(5, vi ((q : Int))), (25, vl ((cc : Int))), (23, vl R), (21, vl S), (19, vl U), (17, vl A), (27, vi wg), (15, vl (s.1 170 26)), (13, vl r0), (11, vl v0), (9, vl u0), (7, vl a0), (6, vi (((m + 1 + 1 + 1 + 1 + 1 + 1 + 1 + 1 + 1 + 1 : Nat) : Int))), (4, vi (((m + 1 + 1 + 1 : Nat) : Int))), (3, vi (((m + 1 + 1 : Nat) : Int))), (2, vi (s.1 170 5)), (0, .ref 170), (1, vi deep)]) (st2 := [vi 1]) 1 (fun _ _ => rfl) ?_
          refine wr_end (fun _ _ => rfl) ?_
          have hCSl : CS s.1 s44.1 := (fun i hi => by rw [hz27, hz26]; exact hor.2.1 i hi)
          refine ⟨1, rfl, hz45, Or.inr ⟨rfl, hR44, hB45, hCSl, by unfold NXS; omega, mt, kt, hm44, by omega, ?_⟩⟩
          intro hpar
          exact absurd hpar (by omega)
        · refine wr_if1f rfl rfl (by unfold i32; omega) h42 ?_
          refine wr_n (pc2 := 454) (lv2 := [(5, vi ((q : Int))), (25, vl ((cc : Int))), (23, vl R), (21, vl S), (19, vl U), (17, vl A), (27, vi wg), (15, vl (s.1 170 26)), (13, vl r0), (11, vl v0), (9, vl u0), (7, vl a0), (6, vi (((m + 1 + 1 + 1 + 1 + 1 + 1 + 1 + 1 + 1 + 1 : Nat) : Int))), (4, vi (((m + 1 + 1 + 1 : Nat) : Int))), (3, vi (((m + 1 + 1 : Nat) : Int))), (2, vi (s.1 170 5)), (0, .ref 170), (1, vi deep)]) (st2 := [.ref 170, vi (s.1 170 5)]) 2 (fun _ _ => rfl) ?_
          refine wr_get (v := vi (s38.1 170 21)) rfl rfl rfl (by decide) rfl fun h46 => ?_
          have h46 : -2147483648 ≤ s38.1 170 21 ∧ s38.1 170 21 ≤ 2147483647 := h46
          show wr (n + 400) tb_M155 457 [(5, vi ((q : Int))), (25, vl ((cc : Int))), (23, vl R), (21, vl S), (19, vl U), (17, vl A), (27, vi wg), (15, vl (s.1 170 26)), (13, vl r0), (11, vl v0), (9, vl u0), (7, vl a0), (6, vi (((m + 1 + 1 + 1 + 1 + 1 + 1 + 1 + 1 + 1 + 1 : Nat) : Int))), (4, vi (((m + 1 + 1 + 1 : Nat) : Int))), (3, vi (((m + 1 + 1 : Nat) : Int))), (2, vi (s.1 170 5)), (0, .ref 170), (1, vi deep)] [vi (s38.1 170 21), vi (s.1 170 5)] s38 _
          by_cases h47 : s38.1 170 21 ≤ s.1 170 5
          · refine wr_if2t rfl rfl (by unfold i32; omega) (by unfold i32; omega) h47 ?_
            refine wr_n (pc2 := 466) (lv2 := [(5, vi ((q : Int))), (25, vl ((cc : Int))), (23, vl R), (21, vl S), (19, vl U), (17, vl A), (27, vi wg), (15, vl (s.1 170 26)), (13, vl r0), (11, vl v0), (9, vl u0), (7, vl a0), (6, vi (((m + 1 + 1 + 1 + 1 + 1 + 1 + 1 + 1 + 1 + 1 : Nat) : Int))), (4, vi (((m + 1 + 1 + 1 : Nat) : Int))), (3, vi (((m + 1 + 1 : Nat) : Int))), (2, vi (s.1 170 5)), (0, .ref 170), (1, vi deep)]) (st2 := [vi 1]) 1 (fun _ _ => rfl) ?_
            refine wr_end (fun _ _ => rfl) ?_
            have hCSl : CS s.1 s38.1 := (fun i hi => by rw [hz26]; exact hor.2.1 i hi)
            refine ⟨1, rfl, hz39, Or.inr ⟨rfl, hR38, hB39, hCSl, by unfold NXS; omega, mt, kt, hm38, by omega, ?_⟩⟩
            intro hpar
            exact absurd hpar (by omega)
          · refine wr_if2f rfl rfl (by unfold i32; omega) (by unfold i32; omega) h47 ?_
            refine wr_n (pc2 := 462) (lv2 := [(5, vi ((q : Int))), (25, vl ((cc : Int))), (23, vl R), (21, vl S), (19, vl U), (17, vl A), (27, vi wg), (15, vl (s.1 170 26)), (13, vl r0), (11, vl v0), (9, vl u0), (7, vl a0), (6, vi (((m + 1 + 1 + 1 + 1 + 1 + 1 + 1 + 1 + 1 + 1 : Nat) : Int))), (4, vi (((m + 1 + 1 + 1 : Nat) : Int))), (3, vi (((m + 1 + 1 : Nat) : Int))), (2, vi (s.1 170 5)), (0, .ref 170), (1, vi deep)]) (st2 := [vi (s.1 170 5), .ref 170]) 2 (fun _ _ => rfl) ?_
            refine wr_put (z := s.1 170 5) rfl rfl rfl rfl (by decide) rfl (by decide) rfl (show -2147483648 ≤ s.1 170 5 ∧ s.1 170 5 ≤ 2147483647 by omega) (hf_int' _) ?_
            show wr (n + 400) tb_M155 465 [(5, vi ((q : Int))), (25, vl ((cc : Int))), (23, vl R), (21, vl S), (19, vl U), (17, vl A), (27, vi wg), (15, vl (s.1 170 26)), (13, vl r0), (11, vl v0), (9, vl u0), (7, vl a0), (6, vi (((m + 1 + 1 + 1 + 1 + 1 + 1 + 1 + 1 + 1 + 1 : Nat) : Int))), (4, vi (((m + 1 + 1 + 1 : Nat) : Int))), (3, vi (((m + 1 + 1 : Nat) : Int))), (2, vi (s.1 170 5)), (0, .ref 170), (1, vi deep)] [] (up2 s38.1 170 21 (s.1 170 5), s38.2) _
            have hR48 : RF (up2 s38.1 170 21 (s.1 170 5)) := (RF_up hR38 rfl)
            obtain ⟨s49, hs49⟩ : ∃ qq9 : rS, qq9 = (up2 s38.1 170 21 (s.1 170 5), s38.2) := ⟨_, rfl⟩
            rw [← hs49]
            have hU49 : U1 170 21 s38.1 s49.1 := by rw [hs49]; exact U1_up
            have hv49 : s49.1 170 21 = s.1 170 5 := by rw [hs49]; show up2 s38.1 170 21 (s.1 170 5) 170 21 = _; exact up_self
            have hk49 : s49.1 170 4 = s38.1 170 4 ∧ s49.1 170 5 = s38.1 170 5 ∧ s49.1 170 6 = s38.1 170 6 ∧ s49.1 170 7 = s38.1 170 7 ∧ s49.1 170 14 = s38.1 170 14 ∧ s49.1 170 16 = s38.1 170 16 ∧ s49.1 C 1 = s38.1 C 1 ∧ s49.1 C 3 = s38.1 C 3 ∧ s49.1 C 10 = s38.1 C 10 := ⟨hU49 _ _ (by omega), hU49 _ _ (by omega), hU49 _ _ (by omega), hU49 _ _ (by omega), hU49 _ _ (by omega), hU49 _ _ (by omega), hU49 _ _ (by omega), hU49 _ _ (by omega), hU49 _ _ (by omega)⟩
            have hBs49 : BX C (gn y) s.1 s49.1 := by rw [hs49]; exact BX_par hC hB39 (fun hz9 => absurd hz9 (by omega))
            have hR49 : RF s49.1 := BX_RF hC hBs49 hR
            have hc49 : s49.2 = s38.2 := by rw [hs49]
            have hm49 : s49.1 C 1 = ((mt : Nat) : Int) := by omega
            have hB50 : BX C (gn y) s.1 s49.1 := hBs49
            have hP50 : PI C y s49.1 := PI_BX hC hP hB50
            have hz50 : s49.2 = s.2 := hc49.trans hz39
            have hF50 : s49.1 170 4 = s2.1 170 4 ∧ s49.1 170 5 = s2.1 170 5 ∧ s49.1 170 6 = s2.1 170 6 ∧ s49.1 170 7 = s2.1 170 7 ∧ s49.1 170 14 = t.1 170 14 ∧ s49.1 170 16 = t.1 170 16 ∧ s49.1 170 21 = s.1 170 5 ∧ s49.1 C 3 = t.1 C 3 ∧ s49.1 C 10 = t.1 C 10 ∧ t.1 170 5 + 1 ≤ s49.1 170 5 ∧ 0 ≤ s49.1 170 5 ∧ s49.1 170 5 ≤ s49.1 170 6 ∧ s49.1 170 6 ≤ 2000 := by omega
            clear hk49 hF39
            show wr (n + 400) tb_M155 465 [(5, vi ((q : Int))), (25, vl ((cc : Int))), (23, vl R), (21, vl S), (19, vl U), (17, vl A), (27, vi wg), (15, vl (s.1 170 26)), (13, vl r0), (11, vl v0), (9, vl u0), (7, vl a0), (6, vi (((m + 1 + 1 + 1 + 1 + 1 + 1 + 1 + 1 + 1 + 1 : Nat) : Int))), (4, vi (((m + 1 + 1 + 1 : Nat) : Int))), (3, vi (((m + 1 + 1 : Nat) : Int))), (2, vi (s.1 170 5)), (0, .ref 170), (1, vi deep)] [] s49 _
            have hz27 : s49.1 170 26 = s38.1 170 26 := hU49 170 26 (by omega)
            refine wr_n (pc2 := 466) (lv2 := [(5, vi ((q : Int))), (25, vl ((cc : Int))), (23, vl R), (21, vl S), (19, vl U), (17, vl A), (27, vi wg), (15, vl (s.1 170 26)), (13, vl r0), (11, vl v0), (9, vl u0), (7, vl a0), (6, vi (((m + 1 + 1 + 1 + 1 + 1 + 1 + 1 + 1 + 1 + 1 : Nat) : Int))), (4, vi (((m + 1 + 1 + 1 : Nat) : Int))), (3, vi (((m + 1 + 1 : Nat) : Int))), (2, vi (s.1 170 5)), (0, .ref 170), (1, vi deep)]) (st2 := [vi 1]) 1 (fun _ _ => rfl) ?_
            refine wr_end (fun _ _ => rfl) ?_
            have hCSl : CS s.1 s49.1 := (fun i hi => by rw [hz27, hz26]; exact hor.2.1 i hi)
            refine ⟨1, rfl, hz50, Or.inr ⟨rfl, hR49, hB50, hCSl, by unfold NXS; omega, mt, kt, hm49, by omega, ?_⟩⟩
            intro hpar
            exact absurd hpar (by omega)
  have lpB : ∀ (w : Nat) (t : rS) (mt kt q cc : Nat) (A U S R a0 u0 v0 r0 wg : Int), (2000 - t.1 170 5).toNat = w → RF t.1 → PI C y t.1 → BX C (gn y) s.1 t.1 → t.2 = s.2 → t.1 C 1 = (mt : Int) → (s.1 C 3 ≤ t.1 C 3 ∧ t.1 C 3 - s.1 C 3 ≤ (mt : Int) - m ∧ (mt : Int) - m ≤ 12 * (t.1 170 5 - s.1 170 5) - 20 ∧ s.1 C 10 ≤ t.1 C 10 ∧ t.1 C 10 - s.1 C 10 ≤ t.1 170 5 - s.1 170 5 ∧ s.1 170 16 ≤ t.1 170 16 ∧ t.1 170 16 - s.1 170 16 ≤ t.1 170 5 - s.1 170 5 ∧ m + 11 ≤ mt ∧ k0 ≤ kt ∧ s.1 170 5 + 3 * kt + 3 ≤ t.1 170 5 + 3 * k0 ∧ t.1 170 14 = s.1 170 14 ∧ cc < 4096 ∧ 0 ≤ wg ∧ wg ≤ 1 ∧ q ≤ 6) → (i64 A ∧ i64 U ∧ i64 S ∧ i64 R ∧ i64 a0 ∧ i64 u0 ∧ i64 v0 ∧ i64 r0) → (∀ b, cc.testBit b = true → b < gn y) → (t.1 (C + 1) m = 0 ∧ t.1 (C + 1) (m + 1) = 19 ∧ t.1 (C + 1) (m + 9) = 9) → (t.1 170 21 < 0 → wg = 0 → PB (ga y) (t.1 (C + 1)) (gG y) (gn y) (gk y) m q mt k0 kt cc) → (1 ≤ q ∧ 1 ≤ t.1 170 4) → wr (n + 400) tb_M155 134 [(5, vi ((q : Int))), (25, vl ((cc : Int))), (23, vl R), (21, vl S), (19, vl U), (17, vl A), (27, vi wg), (15, vl (s.1 170 26)), (13, vl r0), (11, vl v0), (9, vl u0), (7, vl a0), (6, vi (((m + 1 + 1 + 1 + 1 + 1 + 1 + 1 + 1 + 1 + 1 : Nat) : Int))), (4, vi (((m + 1 + 1 + 1 : Nat) : Int))), (3, vi (((m + 1 + 1 : Nat) : Int))), (2, vi (s.1 170 5)), (0, .ref 170), (1, vi deep)] [] t (SP C y m k0 0 s) := by
    intro w
    induction w using Nat.strongRecOn with | ind w ih => ?_
    intro t mt kt q cc A U S R a0 u0 v0 r0 wg hw htR htP htB ht2 htm htn htl htb htc htE hq0
    have hx1 := LX_nums htP
    refine wr_n (pc2 := 138) (lv2 := [(5, vi ((q : Int))), (25, vl ((cc : Int))), (23, vl R), (21, vl S), (19, vl U), (17, vl A), (27, vi wg), (15, vl (s.1 170 26)), (13, vl r0), (11, vl v0), (9, vl u0), (7, vl a0), (6, vi (((m + 1 + 1 + 1 + 1 + 1 + 1 + 1 + 1 + 1 + 1 : Nat) : Int))), (4, vi (((m + 1 + 1 + 1 : Nat) : Int))), (3, vi (((m + 1 + 1 : Nat) : Int))), (2, vi (s.1 170 5)), (0, .ref 170), (1, vi deep)]) (st2 := [vi 6, vi ((q : Int))]) 2 (fun _ _ => rfl) ?_
    by_cases h1 : (q : Int) ≠ 6
    · refine wr_if2t rfl rfl (by unfold i32; omega) (by unfold i32; omega) h1 ?_
      refine wr_n (pc2 := 148) (lv2 := [(5, vi ((q : Int))), (25, vl ((cc : Int))), (23, vl R), (21, vl S), (19, vl U), (17, vl A), (27, vi wg), (15, vl (s.1 170 26)), (13, vl r0), (11, vl v0), (9, vl u0), (7, vl a0), (6, vi (((m + 1 + 1 + 1 + 1 + 1 + 1 + 1 + 1 + 1 + 1 : Nat) : Int))), (4, vi (((m + 1 + 1 + 1 : Nat) : Int))), (3, vi (((m + 1 + 1 : Nat) : Int))), (2, vi (s.1 170 5)), (0, .ref 170), (1, vi deep)]) (st2 := [vi ((q : Int))]) 1 (fun _ _ => rfl) ?_
      refine wr_if1f rfl rfl (by unfold i32; omega) (by show ¬ ((q : Int) ≤ 0); omega) ?_
      show wr (n + 400) tb_M155 151 [(5, vi ((q : Int))), (25, vl ((cc : Int))), (23, vl R), (21, vl S), (19, vl U), (17, vl A), (27, vi wg), (15, vl (s.1 170 26)), (13, vl r0), (11, vl v0), (9, vl u0), (7, vl a0), (6, vi (((m + 1 + 1 + 1 + 1 + 1 + 1 + 1 + 1 + 1 + 1 : Nat) : Int))), (4, vi (((m + 1 + 1 + 1 : Nat) : Int))), (3, vi (((m + 1 + 1 : Nat) : Int))), (2, vi (s.1 170 5)), (0, .ref 170), (1, vi deep)] [] t _
      refine wr_n (pc2 := 152) (lv2 := [(5, vi ((q : Int))), (25, vl ((cc : Int))), (23, vl R), (21, vl S), (19, vl U), (17, vl A), (27, vi wg), (15, vl (s.1 170 26)), (13, vl r0), (11, vl v0), (9, vl u0), (7, vl a0), (6, vi (((m + 1 + 1 + 1 + 1 + 1 + 1 + 1 + 1 + 1 + 1 : Nat) : Int))), (4, vi (((m + 1 + 1 + 1 : Nat) : Int))), (3, vi (((m + 1 + 1 : Nat) : Int))), (2, vi (s.1 170 5)), (0, .ref 170), (1, vi deep)]) (st2 := [.ref 170]) 1 (fun _ _ => rfl) ?_
      refine wr_call1 (args := []) (rest := []) rfl rfl rfl rfl (Nat.le_of_ble_eq_true rfl) (cr_mono (x_step (d := n + 394) hC _ htR htP) ?_)
      rintro s3 out ⟨rfl, hc2, hR2, hBk2, hK2, hf2⟩
      · refine ⟨_, rfl, ?_⟩
        show wr (n + 400) tb_M155 155 [(5, vi ((q : Int))), (25, vl ((cc : Int))), (23, vl R), (21, vl S), (19, vl U), (17, vl A), (27, vi wg), (15, vl (s.1 170 26)), (13, vl r0), (11, vl v0), (9, vl u0), (7, vl a0), (6, vi (((m + 1 + 1 + 1 + 1 + 1 + 1 + 1 + 1 + 1 + 1 : Nat) : Int))), (4, vi (((m + 1 + 1 + 1 : Nat) : Int))), (3, vi (((m + 1 + 1 : Nat) : Int))), (2, vi (s.1 170 5)), (0, .ref 170), (1, vi deep)] [] s3 _
        obtain ⟨hu2, hk2⟩ := id hK2
        replace hf2 : t.1 170 5 + 1 ≤ s3.1 170 5 := Int.le_trans (LX_lt htP (by omega)) hf2
        have hm2 : s3.1 C 1 = ((mt : Nat) : Int) := by omega
        have hB5 : BX C (gn y) s.1 s3.1 := BX_tr hC htB hBk2
        have hP5 : PI C y s3.1 := PI_BX hC hP hB5
        have hz5 : s3.2 = s.2 := hc2.trans ht2
        have hx5 := LX_nums hP5
        have hF5 : t.1 170 5 + 1 ≤ s3.1 170 5 ∧ s3.1 170 14 = t.1 170 14 ∧ s3.1 170 16 = t.1 170 16 ∧ s3.1 170 21 = t.1 170 21 ∧ s3.1 C 3 = t.1 C 3 ∧ s3.1 C 10 = t.1 C 10 ∧ 0 ≤ s3.1 170 5 ∧ s3.1 170 5 ≤ s3.1 170 6 ∧ s3.1 170 6 ≤ 2000 := by omega
        clear hk2 hf2 hx5
        have hfr : s.1 170 5 + 3 * kt + 4 ≤ s3.1 170 5 + 3 * k0 := by omega
        refine wr_n (pc2 := 156) (lv2 := [(5, vi ((q : Int))), (25, vl ((cc : Int))), (23, vl R), (21, vl S), (19, vl U), (17, vl A), (27, vi wg), (15, vl (s.1 170 26)), (13, vl r0), (11, vl v0), (9, vl u0), (7, vl a0), (6, vi (((m + 1 + 1 + 1 + 1 + 1 + 1 + 1 + 1 + 1 + 1 : Nat) : Int))), (4, vi (((m + 1 + 1 + 1 : Nat) : Int))), (3, vi (((m + 1 + 1 : Nat) : Int))), (2, vi (s.1 170 5)), (0, .ref 170), (1, vi deep)]) (st2 := [.ref 170]) 1 (fun _ _ => rfl) ?_
        refine wr_call1 (args := []) (rest := []) rfl rfl rfl rfl (Nat.le_of_ble_eq_true rfl) (cr_mono (c_forget (d := n + 399) _ hR2) ?_)
        rintro s7 out ⟨rfl, e6⟩
        refine ⟨_, rfl, ?_⟩
        rw [e6]
        show wr (n + 400) tb_M155 159 [(5, vi ((q : Int))), (25, vl ((cc : Int))), (23, vl R), (21, vl S), (19, vl U), (17, vl A), (27, vi wg), (15, vl (s.1 170 26)), (13, vl r0), (11, vl v0), (9, vl u0), (7, vl a0), (6, vi (((m + 1 + 1 + 1 + 1 + 1 + 1 + 1 + 1 + 1 + 1 : Nat) : Int))), (4, vi (((m + 1 + 1 + 1 : Nat) : Int))), (3, vi (((m + 1 + 1 : Nat) : Int))), (2, vi (s.1 170 5)), (0, .ref 170), (1, vi deep)] [] (up2 (up2 (up2 (up2 (up2 s3.1 170 22 0) 170 23 0) 170 24 0) 170 25 0) 170 26 0, s3.2) _
        have hR8 : RF (up2 (up2 (up2 (up2 (up2 s3.1 170 22 0) 170 23 0) 170 24 0) 170 25 0) 170 26 0) := (RF_up (RF_up (RF_up (RF_up (RF_up hR2 rfl) rfl) rfl) rfl) rfl)
        obtain ⟨s9, hs9⟩ : ∃ qq9 : rS, qq9 = (up2 (up2 (up2 (up2 (up2 s3.1 170 22 0) 170 23 0) 170 24 0) 170 25 0) 170 26 0, s3.2) := ⟨_, rfl⟩
        rw [← hs9]
        have hK9 : KM s3.1 s9.1 := by rw [hs9]; exact (KM_up (KM_up (KM_up (KM_up (KM_up KM_rf (by omega)) (by omega)) (by omega)) (by omega)) (by omega))
        have hk9 := KM_nums hC hK9
        have hM9 : True ∧ (MB (gn y) (s3.1 170 26) → MB (gn y) (s9.1 170 26)) := by rw [hs9]; exact ⟨trivial, fun _ => MB_zero⟩
        have hBk9 : BX C (gn y) s3.1 s9.1 := BX_KM hC hP5 hK9 hM9
        have hR9 : RF s9.1 := BX_RF hC hBk9 hR2
        have hc9 : s9.2 = s3.2 := by rw [hs9]
        have hm9 : s9.1 C 1 = ((mt : Nat) : Int) := by omega
        have hB10 : BX C (gn y) s.1 s9.1 := BX_tr hC hB5 hBk9
        have hP10 : PI C y s9.1 := PI_BX hC hP hB10
        have hz10 : s9.2 = s.2 := hc9.trans hz5
        have hF10 : s9.1 170 4 = s3.1 170 4 ∧ s9.1 170 5 = s3.1 170 5 ∧ s9.1 170 6 = s3.1 170 6 ∧ s9.1 170 7 = s3.1 170 7 ∧ s9.1 170 14 = t.1 170 14 ∧ s9.1 170 16 = t.1 170 16 ∧ s9.1 170 21 = t.1 170 21 ∧ s9.1 C 3 = t.1 C 3 ∧ s9.1 C 10 = t.1 C 10 ∧ t.1 170 5 + 1 ≤ s9.1 170 5 ∧ 0 ≤ s9.1 170 5 ∧ s9.1 170 5 ≤ s9.1 170 6 ∧ s9.1 170 6 ≤ 2000 := by omega
        clear hF5
        show wr (n + 400) tb_M155 159 [(5, vi ((q : Int))), (25, vl ((cc : Int))), (23, vl R), (21, vl S), (19, vl U), (17, vl A), (27, vi wg), (15, vl (s.1 170 26)), (13, vl r0), (11, vl v0), (9, vl u0), (7, vl a0), (6, vi (((m + 1 + 1 + 1 + 1 + 1 + 1 + 1 + 1 + 1 + 1 : Nat) : Int))), (4, vi (((m + 1 + 1 + 1 : Nat) : Int))), (3, vi (((m + 1 + 1 : Nat) : Int))), (2, vi (s.1 170 5)), (0, .ref 170), (1, vi deep)] [] s9 _
        have hst : MB (gn y) (s9.1 170 26) := by rw [hs9]; exact MB_zero
        have hfr2 : s.1 170 5 + 3 * kt + 4 ≤ s9.1 170 5 + 3 * k0 := by omega
        refine wr_n (pc2 := 160) (lv2 := [(5, vi ((q : Int))), (25, vl ((cc : Int))), (23, vl R), (21, vl S), (19, vl U), (17, vl A), (27, vi wg), (15, vl (s.1 170 26)), (13, vl r0), (11, vl v0), (9, vl u0), (7, vl a0), (6, vi (((m + 1 + 1 + 1 + 1 + 1 + 1 + 1 + 1 + 1 + 1 : Nat) : Int))), (4, vi (((m + 1 + 1 + 1 : Nat) : Int))), (3, vi (((m + 1 + 1 : Nat) : Int))), (2, vi (s.1 170 5)), (0, .ref 170), (1, vi deep)]) (st2 := [.ref 170]) 1 (fun _ _ => rfl) ?_
        refine wr_get (v := .ref C) rfl rfl rfl (by decide) (rv_ref (show s9.1 170 19 = ((C : Nat) : Int) from hP10.1)) fun h11 => ?_
        show wr (n + 400) tb_M155 163 [(5, vi ((q : Int))), (25, vl ((cc : Int))), (23, vl R), (21, vl S), (19, vl U), (17, vl A), (27, vi wg), (15, vl (s.1 170 26)), (13, vl r0), (11, vl v0), (9, vl u0), (7, vl a0), (6, vi (((m + 1 + 1 + 1 + 1 + 1 + 1 + 1 + 1 + 1 + 1 : Nat) : Int))), (4, vi (((m + 1 + 1 + 1 : Nat) : Int))), (3, vi (((m + 1 + 1 : Nat) : Int))), (2, vi (s.1 170 5)), (0, .ref 170), (1, vi deep)] [.ref C] s9 _
        refine wr_get (v := .ref (C + 1)) rfl rfl (TG_C hC) (by decide) (rv_ref (hR9 C 0 (C + 1) (rc_C0 hC))) fun h12 => ?_
        show wr (n + 400) tb_M155 166 [(5, vi ((q : Int))), (25, vl ((cc : Int))), (23, vl R), (21, vl S), (19, vl U), (17, vl A), (27, vi wg), (15, vl (s.1 170 26)), (13, vl r0), (11, vl v0), (9, vl u0), (7, vl a0), (6, vi (((m + 1 + 1 + 1 + 1 + 1 + 1 + 1 + 1 + 1 + 1 : Nat) : Int))), (4, vi (((m + 1 + 1 + 1 : Nat) : Int))), (3, vi (((m + 1 + 1 : Nat) : Int))), (2, vi (s.1 170 5)), (0, .ref 170), (1, vi deep)] [.ref (C + 1)] s9 _
        refine wr_n (pc2 := 170) (lv2 := [(5, vi ((q : Int))), (25, vl ((cc : Int))), (23, vl R), (21, vl S), (19, vl U), (17, vl A), (27, vi wg), (15, vl (s.1 170 26)), (13, vl r0), (11, vl v0), (9, vl u0), (7, vl a0), (6, vi (((m + 1 + 1 + 1 + 1 + 1 + 1 + 1 + 1 + 1 + 1 : Nat) : Int))), (4, vi (((m + 1 + 1 + 1 : Nat) : Int))), (3, vi (((m + 1 + 1 : Nat) : Int))), (2, vi (s.1 170 5)), (0, .ref 170), (1, vi deep)]) (st2 := [vi ((q : Int)), vi (((m + 1 + 1 + 1 : Nat) : Int)), .ref (C + 1)]) 2 (fun _ _ => rfl) ?_
        refine wr_add (a := ((m + 1 + 1 + 1 : Nat) : Int)) (b := (q : Int)) rfl ?_
        show wr (n + 400) tb_M155 171 [(5, vi ((q : Int))), (25, vl ((cc : Int))), (23, vl R), (21, vl S), (19, vl U), (17, vl A), (27, vi wg), (15, vl (s.1 170 26)), (13, vl r0), (11, vl v0), (9, vl u0), (7, vl a0), (6, vi (((m + 1 + 1 + 1 + 1 + 1 + 1 + 1 + 1 + 1 + 1 : Nat) : Int))), (4, vi (((m + 1 + 1 + 1 : Nat) : Int))), (3, vi (((m + 1 + 1 : Nat) : Int))), (2, vi (s.1 170 5)), (0, .ref 170), (1, vi deep)] [vi (((m + 1 + 1 + 1 : Nat) : Int) + ((q : Int))), .ref (C + 1)] s9 _
        rw [show ((m + 1 + 1 + 1 : Nat) : Int) + ((q : Int)) = ((m + 3 + q : Nat) : Int) by omega]
        show wr (n + 400) tb_M155 171 [(5, vi ((q : Int))), (25, vl ((cc : Int))), (23, vl R), (21, vl S), (19, vl U), (17, vl A), (27, vi wg), (15, vl (s.1 170 26)), (13, vl r0), (11, vl v0), (9, vl u0), (7, vl a0), (6, vi (((m + 1 + 1 + 1 + 1 + 1 + 1 + 1 + 1 + 1 + 1 : Nat) : Int))), (4, vi (((m + 1 + 1 + 1 : Nat) : Int))), (3, vi (((m + 1 + 1 : Nat) : Int))), (2, vi (s.1 170 5)), (0, .ref 170), (1, vi deep)] [vi (((m + 3 + q : Nat) : Int)), .ref (C + 1)] s9 _
        refine wr_n (pc2 := 172) (lv2 := [(5, vi ((q : Int))), (25, vl ((cc : Int))), (23, vl R), (21, vl S), (19, vl U), (17, vl A), (27, vi wg), (15, vl (s.1 170 26)), (13, vl r0), (11, vl v0), (9, vl u0), (7, vl a0), (6, vi (((m + 1 + 1 + 1 + 1 + 1 + 1 + 1 + 1 + 1 + 1 : Nat) : Int))), (4, vi (((m + 1 + 1 + 1 : Nat) : Int))), (3, vi (((m + 1 + 1 : Nat) : Int))), (2, vi (s.1 170 5)), (0, .ref 170), (1, vi deep)]) (st2 := [.ref 170, vi (((m + 3 + q : Nat) : Int)), .ref (C + 1)]) 1 (fun _ _ => rfl) ?_
        refine wr_get (v := .ref C) rfl rfl rfl (by decide) (rv_ref (show s9.1 170 19 = ((C : Nat) : Int) from hP10.1)) fun h13 => ?_
        show wr (n + 400) tb_M155 175 [(5, vi ((q : Int))), (25, vl ((cc : Int))), (23, vl R), (21, vl S), (19, vl U), (17, vl A), (27, vi wg), (15, vl (s.1 170 26)), (13, vl r0), (11, vl v0), (9, vl u0), (7, vl a0), (6, vi (((m + 1 + 1 + 1 + 1 + 1 + 1 + 1 + 1 + 1 + 1 : Nat) : Int))), (4, vi (((m + 1 + 1 + 1 : Nat) : Int))), (3, vi (((m + 1 + 1 : Nat) : Int))), (2, vi (s.1 170 5)), (0, .ref 170), (1, vi deep)] [.ref C, vi (((m + 3 + q : Nat) : Int)), .ref (C + 1)] s9 _
        refine wr_get (v := vi (s9.1 C 1)) rfl rfl (TG_C hC) (by decide) rfl fun h14 => ?_
        have h14 : -2147483648 ≤ s9.1 C 1 ∧ s9.1 C 1 ≤ 2147483647 := h14
        show wr (n + 400) tb_M155 178 [(5, vi ((q : Int))), (25, vl ((cc : Int))), (23, vl R), (21, vl S), (19, vl U), (17, vl A), (27, vi wg), (15, vl (s.1 170 26)), (13, vl r0), (11, vl v0), (9, vl u0), (7, vl a0), (6, vi (((m + 1 + 1 + 1 + 1 + 1 + 1 + 1 + 1 + 1 + 1 : Nat) : Int))), (4, vi (((m + 1 + 1 + 1 : Nat) : Int))), (3, vi (((m + 1 + 1 : Nat) : Int))), (2, vi (s.1 170 5)), (0, .ref 170), (1, vi deep)] [vi (s9.1 C 1), vi (((m + 3 + q : Nat) : Int)), .ref (C + 1)] s9 _
        rw [hm9]
        show wr (n + 400) tb_M155 178 [(5, vi ((q : Int))), (25, vl ((cc : Int))), (23, vl R), (21, vl S), (19, vl U), (17, vl A), (27, vi wg), (15, vl (s.1 170 26)), (13, vl r0), (11, vl v0), (9, vl u0), (7, vl a0), (6, vi (((m + 1 + 1 + 1 + 1 + 1 + 1 + 1 + 1 + 1 + 1 : Nat) : Int))), (4, vi (((m + 1 + 1 + 1 : Nat) : Int))), (3, vi (((m + 1 + 1 : Nat) : Int))), (2, vi (s.1 170 5)), (0, .ref 170), (1, vi deep)] [vi (((mt : Nat) : Int)), vi (((m + 3 + q : Nat) : Int)), .ref (C + 1)] s9 _
        refine wr_ast (a := ((m + 3 + q : Nat) : Int)) (z := ((mt : Nat) : Int)) rfl (show 96 ≤ C + 1 by omega) (TG_C1 hC) rfl (by omega) (by omega) (by decide) rfl (show -2147483648 ≤ ((mt : Nat) : Int) ∧ ((mt : Nat) : Int) ≤ 2147483647 by omega) ?_
        show wr (n + 400) tb_M155 179 [(5, vi ((q : Int))), (25, vl ((cc : Int))), (23, vl R), (21, vl S), (19, vl U), (17, vl A), (27, vi wg), (15, vl (s.1 170 26)), (13, vl r0), (11, vl v0), (9, vl u0), (7, vl a0), (6, vi (((m + 1 + 1 + 1 + 1 + 1 + 1 + 1 + 1 + 1 + 1 : Nat) : Int))), (4, vi (((m + 1 + 1 + 1 : Nat) : Int))), (3, vi (((m + 1 + 1 : Nat) : Int))), (2, vi (s.1 170 5)), (0, .ref 170), (1, vi deep)] [] (up2 s9.1 (C + 1) (m + 3 + q) (((mt : Nat) : Int)), s9.2) _
        have hR15 : RF (up2 s9.1 (C + 1) (m + 3 + q) (((mt : Nat) : Int))) := (RF_up hR9 (PS_rc hC (by unfold PS; omega)))
        obtain ⟨s16, hs16⟩ : ∃ qq9 : rS, qq9 = (up2 s9.1 (C + 1) (m + 3 + q) (((mt : Nat) : Int)), s9.2) := ⟨_, rfl⟩
        rw [← hs16]
        have hU16 : U1 (C + 1) (m + 3 + q) s9.1 s16.1 := by rw [hs16]; exact U1_up
        have hv16 : s16.1 (C + 1) (m + 3 + q) = ((mt : Nat) : Int) := by rw [hs16]; show up2 s9.1 (C + 1) (m + 3 + q) (((mt : Nat) : Int)) (C + 1) (m + 3 + q) = _; exact up_self
        have hk16 : s16.1 170 4 = s9.1 170 4 ∧ s16.1 170 5 = s9.1 170 5 ∧ s16.1 170 6 = s9.1 170 6 ∧ s16.1 170 7 = s9.1 170 7 ∧ s16.1 170 14 = s9.1 170 14 ∧ s16.1 170 16 = s9.1 170 16 ∧ s16.1 170 21 = s9.1 170 21 ∧ s16.1 C 1 = s9.1 C 1 ∧ s16.1 C 3 = s9.1 C 3 ∧ s16.1 C 10 = s9.1 C 10 := ⟨hU16 _ _ (by omega), hU16 _ _ (by omega), hU16 _ _ (by omega), hU16 _ _ (by omega), hU16 _ _ (by omega), hU16 _ _ (by omega), hU16 _ _ (by omega), hU16 _ _ (by omega), hU16 _ _ (by omega), hU16 _ _ (by omega)⟩
        have hBs16 : BX C (gn y) s.1 s16.1 := by rw [hs16]; exact BX_set hC hB10 (by unfold SS; omega) (by unfold quiet; omega)
        have hR16 : RF s16.1 := BX_RF hC hBs16 hR
        have hc16 : s16.2 = s9.2 := by rw [hs16]
        have hm16 : s16.1 C 1 = ((mt : Nat) : Int) := by omega
        have hB17 : BX C (gn y) s.1 s16.1 := hBs16
        have hP17 : PI C y s16.1 := PI_BX hC hP hB17
        have hz17 : s16.2 = s.2 := hc16.trans hz10
        have hF17 : s16.1 170 4 = s3.1 170 4 ∧ s16.1 170 5 = s3.1 170 5 ∧ s16.1 170 6 = s3.1 170 6 ∧ s16.1 170 7 = s3.1 170 7 ∧ s16.1 170 14 = t.1 170 14 ∧ s16.1 170 16 = t.1 170 16 ∧ s16.1 170 21 = t.1 170 21 ∧ s16.1 C 3 = t.1 C 3 ∧ s16.1 C 10 = t.1 C 10 ∧ t.1 170 5 + 1 ≤ s16.1 170 5 ∧ 0 ≤ s16.1 170 5 ∧ s16.1 170 5 ≤ s16.1 170 6 ∧ s16.1 170 6 ≤ 2000 := by omega
        clear hk16 hF10
        show wr (n + 400) tb_M155 179 [(5, vi ((q : Int))), (25, vl ((cc : Int))), (23, vl R), (21, vl S), (19, vl U), (17, vl A), (27, vi wg), (15, vl (s.1 170 26)), (13, vl r0), (11, vl v0), (9, vl u0), (7, vl a0), (6, vi (((m + 1 + 1 + 1 + 1 + 1 + 1 + 1 + 1 + 1 + 1 : Nat) : Int))), (4, vi (((m + 1 + 1 + 1 : Nat) : Int))), (3, vi (((m + 1 + 1 : Nat) : Int))), (2, vi (s.1 170 5)), (0, .ref 170), (1, vi deep)] [] s16 _
        refine wr_n (pc2 := 182) (lv2 := [(5, vi ((q : Int))), (25, vl ((cc : Int))), (23, vl R), (21, vl S), (19, vl U), (17, vl A), (27, vi wg), (15, vl (s.1 170 26)), (13, vl r0), (11, vl v0), (9, vl u0), (7, vl a0), (6, vi (((m + 1 + 1 + 1 + 1 + 1 + 1 + 1 + 1 + 1 + 1 : Nat) : Int))), (4, vi (((m + 1 + 1 + 1 : Nat) : Int))), (3, vi (((m + 1 + 1 : Nat) : Int))), (2, vi (s.1 170 5)), (0, .ref 170), (1, vi deep)]) (st2 := [vi 1, vi deep, .ref 170]) 3 (fun _ _ => rfl) ?_
        refine wr_add (a := deep) (b := 1) rfl ?_
        show wr (n + 400) tb_M155 183 [(5, vi ((q : Int))), (25, vl ((cc : Int))), (23, vl R), (21, vl S), (19, vl U), (17, vl A), (27, vi wg), (15, vl (s.1 170 26)), (13, vl r0), (11, vl v0), (9, vl u0), (7, vl a0), (6, vi (((m + 1 + 1 + 1 + 1 + 1 + 1 + 1 + 1 + 1 + 1 : Nat) : Int))), (4, vi (((m + 1 + 1 + 1 : Nat) : Int))), (3, vi (((m + 1 + 1 : Nat) : Int))), (2, vi (s.1 170 5)), (0, .ref 170), (1, vi deep)] [vi (deep + 1), .ref 170] s16 _
        refine wr_call1 (args := [vi (deep + 1)]) (rest := []) rfl rfl rfl rfl (Nat.le_of_ble_eq_true rfl) (cr_mono (hSt C y mt (kt + 1) _ (deep + 1) hC hR16 hP17 (by rw [hU16 170 26 (by omega)]; exact hst) hm16 (by unfold NS; omega) (by omega) trivial (by omega) hko) ?_)
        rintro s19 out ⟨b, rfl, hc18, ⟨rfl, hF18⟩ | ⟨rfl, hR18, hBk18, hS18, hN18, w18, k18, hm18, hkk18, hE18⟩⟩
        · refine ⟨_, rfl, ?_⟩
          show wr (n + 400) tb_M155 186 [(5, vi ((q : Int))), (25, vl ((cc : Int))), (23, vl R), (21, vl S), (19, vl U), (17, vl A), (27, vi wg), (15, vl (s.1 170 26)), (13, vl r0), (11, vl v0), (9, vl u0), (7, vl a0), (6, vi (((m + 1 + 1 + 1 + 1 + 1 + 1 + 1 + 1 + 1 + 1 : Nat) : Int))), (4, vi (((m + 1 + 1 + 1 : Nat) : Int))), (3, vi (((m + 1 + 1 : Nat) : Int))), (2, vi (s.1 170 5)), (0, .ref 170), (1, vi deep)] [vi 0] s19 _
          refine wr_n (pc2 := 190) (lv2 := [(5, vi ((q : Int))), (25, vl ((cc : Int))), (23, vl R), (21, vl S), (19, vl U), (17, vl A), (27, vi wg), (15, vl (s.1 170 26)), (13, vl r0), (11, vl v0), (9, vl u0), (7, vl a0), (6, vi (((m + 1 + 1 + 1 + 1 + 1 + 1 + 1 + 1 + 1 + 1 : Nat) : Int))), (4, vi (((m + 1 + 1 + 1 : Nat) : Int))), (3, vi (((m + 1 + 1 : Nat) : Int))), (2, vi (s.1 170 5)), (0, .ref 170), (1, vi deep)]) (st2 := [vi 0]) 2 (fun _ _ => rfl) ?_
          refine wr_end (fun _ _ => rfl) ?_
          exact ⟨0, rfl, hc18.trans hz17, Or.inl ⟨rfl, FR_tr (BX_FR hB17) hF18⟩⟩
        · refine ⟨_, rfl, ?_⟩
          show wr (n + 400) tb_M155 186 [(5, vi ((q : Int))), (25, vl ((cc : Int))), (23, vl R), (21, vl S), (19, vl U), (17, vl A), (27, vi wg), (15, vl (s.1 170 26)), (13, vl r0), (11, vl v0), (9, vl u0), (7, vl a0), (6, vi (((m + 1 + 1 + 1 + 1 + 1 + 1 + 1 + 1 + 1 + 1 : Nat) : Int))), (4, vi (((m + 1 + 1 + 1 : Nat) : Int))), (3, vi (((m + 1 + 1 : Nat) : Int))), (2, vi (s.1 170 5)), (0, .ref 170), (1, vi deep)] [vi 1] s19 _
          unfold NXS at hN18
          have hB22 : BX C (gn y) s.1 s19.1 := BX_tr hC hB17 hBk18
          have hP22 : PI C y s19.1 := PI_BX hC hP hB22
          have hz22 : s19.2 = s.2 := hc18.trans hz17
          have hF22 := LX_nums hP22
          refine wr_n (pc2 := 194) (lv2 := [(5, vi ((q : Int))), (25, vl ((cc : Int))), (23, vl R), (21, vl S), (19, vl U), (17, vl A), (27, vi wg), (15, vl (s.1 170 26)), (13, vl r0), (11, vl v0), (9, vl u0), (7, vl a0), (6, vi (((m + 1 + 1 + 1 + 1 + 1 + 1 + 1 + 1 + 1 + 1 : Nat) : Int))), (4, vi (((m + 1 + 1 + 1 : Nat) : Int))), (3, vi (((m + 1 + 1 : Nat) : Int))), (2, vi (s.1 170 5)), (0, .ref 170), (1, vi deep)]) (st2 := [vi 20, .ref 170]) 3 (fun _ _ => rfl) ?_
          refine wr_call1 (args := [vi 20]) (rest := []) rfl rfl rfl rfl (Nat.le_of_ble_eq_true rfl) (cr_mono (x_put (d := n + 399) (m := w18) (v := 20) hC _ hR18 hP22 (by unfold i32; omega) hm18 (by omega)) ?_)
          rintro s24 out ⟨rfl, hc23, hR23, hBk23, hK23, hm23, hp23, hda23⟩
          · refine ⟨_, rfl, ?_⟩
            show wr (n + 400) tb_M155 197 [(5, vi ((q : Int))), (25, vl ((cc : Int))), (23, vl R), (21, vl S), (19, vl U), (17, vl A), (27, vi wg), (15, vl (s.1 170 26)), (13, vl r0), (11, vl v0), (9, vl u0), (7, vl a0), (6, vi (((m + 1 + 1 + 1 + 1 + 1 + 1 + 1 + 1 + 1 + 1 : Nat) : Int))), (4, vi (((m + 1 + 1 + 1 : Nat) : Int))), (3, vi (((m + 1 + 1 : Nat) : Int))), (2, vi (s.1 170 5)), (0, .ref 170), (1, vi deep)] [vi (((w18 : Nat) : Int))] s24 _
            obtain ⟨hu23, hk23⟩ := id hK23
            have hB26 : BX C (gn y) s.1 s24.1 := BX_tr hC hB22 hBk23
            have hP26 : PI C y s24.1 := PI_BX hC hP hB26
            have hz26 : s24.2 = s.2 := hc23.trans hz22
            have hF26 : s24.1 170 4 = s19.1 170 4 ∧ s24.1 170 5 = s19.1 170 5 ∧ s24.1 170 6 = s19.1 170 6 ∧ s24.1 170 7 = s19.1 170 7 ∧ s24.1 170 14 = s19.1 170 14 ∧ s24.1 170 16 = s19.1 170 16 ∧ s24.1 170 21 = s19.1 170 21 ∧ s24.1 C 3 = s19.1 C 3 ∧ s24.1 C 10 = s19.1 C 10 ∧ s19.1 170 5 + 0 ≤ s24.1 170 5 ∧ 0 ≤ s24.1 170 5 ∧ s24.1 170 5 ≤ s24.1 170 6 ∧ s24.1 170 6 ≤ 2000 := by omega
            clear hk23 hp23
            refine wr_n (pc2 := 198) (lv2 := [(5, vi ((q : Int))), (25, vl ((cc : Int))), (23, vl R), (21, vl S), (19, vl U), (17, vl A), (27, vi wg), (15, vl (s.1 170 26)), (13, vl r0), (11, vl v0), (9, vl u0), (7, vl a0), (6, vi (((m + 1 + 1 + 1 + 1 + 1 + 1 + 1 + 1 + 1 + 1 : Nat) : Int))), (4, vi (((m + 1 + 1 + 1 : Nat) : Int))), (3, vi (((m + 1 + 1 : Nat) : Int))), (2, vi (s.1 170 5)), (0, .ref 170), (1, vi deep)]) (st2 := []) 1 (fun _ _ => rfl) ?_
            have j276 : ∀ (wn : Int), ((0 ≤ wn ∧ wn ≤ 1) ∧ (wn = 0 → wg = 0 ∧ cc &&& (s24.1 170 26).toNat = 0)) → wr (n + 400) tb_M155 276 [(27, vi wn), (5, vi ((q : Int))), (25, vl ((cc : Int))), (23, vl R), (21, vl S), (19, vl U), (17, vl A), (15, vl (s.1 170 26)), (13, vl r0), (11, vl v0), (9, vl u0), (7, vl a0), (6, vi (((m + 1 + 1 + 1 + 1 + 1 + 1 + 1 + 1 + 1 + 1 : Nat) : Int))), (4, vi (((m + 1 + 1 + 1 : Nat) : Int))), (3, vi (((m + 1 + 1 : Nat) : Int))), (2, vi (s.1 170 5)), (0, .ref 170), (1, vi deep)] [] s24 (SP C y m k0 0 s) := by
              intro wn hj
              refine wr_n (pc2 := 279) (lv2 := [(27, vi wn), (5, vi ((q : Int))), (25, vl ((cc : Int))), (23, vl R), (21, vl S), (19, vl U), (17, vl A), (15, vl (s.1 170 26)), (13, vl r0), (11, vl v0), (9, vl u0), (7, vl a0), (6, vi (((m + 1 + 1 + 1 + 1 + 1 + 1 + 1 + 1 + 1 + 1 : Nat) : Int))), (4, vi (((m + 1 + 1 + 1 : Nat) : Int))), (3, vi (((m + 1 + 1 : Nat) : Int))), (2, vi (s.1 170 5)), (0, .ref 170), (1, vi deep)]) (st2 := [.ref 170, vl A]) 2 (fun _ _ => rfl) ?_
              refine wr_get (v := vl (s24.1 170 22)) rfl rfl rfl (by decide) rfl fun h27 => ?_
              show wr (n + 400) tb_M155 282 [(27, vi wn), (5, vi ((q : Int))), (25, vl ((cc : Int))), (23, vl R), (21, vl S), (19, vl U), (17, vl A), (15, vl (s.1 170 26)), (13, vl r0), (11, vl v0), (9, vl u0), (7, vl a0), (6, vi (((m + 1 + 1 + 1 + 1 + 1 + 1 + 1 + 1 + 1 + 1 : Nat) : Int))), (4, vi (((m + 1 + 1 + 1 : Nat) : Int))), (3, vi (((m + 1 + 1 : Nat) : Int))), (2, vi (s.1 170 5)), (0, .ref 170), (1, vi deep)] [vl (s24.1 170 22), vl A] s24 _
              refine wr_lor (a := A) (b := s24.1 170 22) rfl fun z28 h29 h30 => ?_
              show wr (n + 400) tb_M155 283 [(27, vi wn), (5, vi ((q : Int))), (25, vl ((cc : Int))), (23, vl R), (21, vl S), (19, vl U), (17, vl A), (15, vl (s.1 170 26)), (13, vl r0), (11, vl v0), (9, vl u0), (7, vl a0), (6, vi (((m + 1 + 1 + 1 + 1 + 1 + 1 + 1 + 1 + 1 + 1 : Nat) : Int))), (4, vi (((m + 1 + 1 + 1 : Nat) : Int))), (3, vi (((m + 1 + 1 : Nat) : Int))), (2, vi (s.1 170 5)), (0, .ref 170), (1, vi deep)] [vl z28] s24 _
              refine wr_n (pc2 := 288) (lv2 := [(17, vl z28), (27, vi wn), (5, vi ((q : Int))), (25, vl ((cc : Int))), (23, vl R), (21, vl S), (19, vl U), (15, vl (s.1 170 26)), (13, vl r0), (11, vl v0), (9, vl u0), (7, vl a0), (6, vi (((m + 1 + 1 + 1 + 1 + 1 + 1 + 1 + 1 + 1 + 1 : Nat) : Int))), (4, vi (((m + 1 + 1 + 1 : Nat) : Int))), (3, vi (((m + 1 + 1 : Nat) : Int))), (2, vi (s.1 170 5)), (0, .ref 170), (1, vi deep)]) (st2 := [.ref 170, vl U]) 3 (fun _ _ => rfl) ?_
              refine wr_get (v := vl (s24.1 170 23)) rfl rfl rfl (by decide) rfl fun h31 => ?_
              show wr (n + 400) tb_M155 291 [(17, vl z28), (27, vi wn), (5, vi ((q : Int))), (25, vl ((cc : Int))), (23, vl R), (21, vl S), (19, vl U), (15, vl (s.1 170 26)), (13, vl r0), (11, vl v0), (9, vl u0), (7, vl a0), (6, vi (((m + 1 + 1 + 1 + 1 + 1 + 1 + 1 + 1 + 1 + 1 : Nat) : Int))), (4, vi (((m + 1 + 1 + 1 : Nat) : Int))), (3, vi (((m + 1 + 1 : Nat) : Int))), (2, vi (s.1 170 5)), (0, .ref 170), (1, vi deep)] [vl (s24.1 170 23), vl U] s24 _
              refine wr_lor (a := U) (b := s24.1 170 23) rfl fun z32 h33 h34 => ?_
              show wr (n + 400) tb_M155 292 [(17, vl z28), (27, vi wn), (5, vi ((q : Int))), (25, vl ((cc : Int))), (23, vl R), (21, vl S), (19, vl U), (15, vl (s.1 170 26)), (13, vl r0), (11, vl v0), (9, vl u0), (7, vl a0), (6, vi (((m + 1 + 1 + 1 + 1 + 1 + 1 + 1 + 1 + 1 + 1 : Nat) : Int))), (4, vi (((m + 1 + 1 + 1 : Nat) : Int))), (3, vi (((m + 1 + 1 : Nat) : Int))), (2, vi (s.1 170 5)), (0, .ref 170), (1, vi deep)] [vl z32] s24 _
              refine wr_n (pc2 := 297) (lv2 := [(19, vl z32), (17, vl z28), (27, vi wn), (5, vi ((q : Int))), (25, vl ((cc : Int))), (23, vl R), (21, vl S), (15, vl (s.1 170 26)), (13, vl r0), (11, vl v0), (9, vl u0), (7, vl a0), (6, vi (((m + 1 + 1 + 1 + 1 + 1 + 1 + 1 + 1 + 1 + 1 : Nat) : Int))), (4, vi (((m + 1 + 1 + 1 : Nat) : Int))), (3, vi (((m + 1 + 1 : Nat) : Int))), (2, vi (s.1 170 5)), (0, .ref 170), (1, vi deep)]) (st2 := [.ref 170, vl S]) 3 (fun _ _ => rfl) ?_
              refine wr_get (v := vl (s24.1 170 24)) rfl rfl rfl (by decide) rfl fun h35 => ?_
              show wr (n + 400) tb_M155 300 [(19, vl z32), (17, vl z28), (27, vi wn), (5, vi ((q : Int))), (25, vl ((cc : Int))), (23, vl R), (21, vl S), (15, vl (s.1 170 26)), (13, vl r0), (11, vl v0), (9, vl u0), (7, vl a0), (6, vi (((m + 1 + 1 + 1 + 1 + 1 + 1 + 1 + 1 + 1 + 1 : Nat) : Int))), (4, vi (((m + 1 + 1 + 1 : Nat) : Int))), (3, vi (((m + 1 + 1 : Nat) : Int))), (2, vi (s.1 170 5)), (0, .ref 170), (1, vi deep)] [vl (s24.1 170 24), vl S] s24 _
              refine wr_lor (a := S) (b := s24.1 170 24) rfl fun z36 h37 h38 => ?_
              show wr (n + 400) tb_M155 301 [(19, vl z32), (17, vl z28), (27, vi wn), (5, vi ((q : Int))), (25, vl ((cc : Int))), (23, vl R), (21, vl S), (15, vl (s.1 170 26)), (13, vl r0), (11, vl v0), (9, vl u0), (7, vl a0), (6, vi (((m + 1 + 1 + 1 + 1 + 1 + 1 + 1 + 1 + 1 + 1 : Nat) : Int))), (4, vi (((m + 1 + 1 + 1 : Nat) : Int))), (3, vi (((m + 1 + 1 : Nat) : Int))), (2, vi (s.1 170 5)), (0, .ref 170), (1, vi deep)] [vl z36] s24 _
              refine wr_n (pc2 := 306) (lv2 := [(21, vl z36), (19, vl z32), (17, vl z28), (27, vi wn), (5, vi ((q : Int))), (25, vl ((cc : Int))), (23, vl R), (15, vl (s.1 170 26)), (13, vl r0), (11, vl v0), (9, vl u0), (7, vl a0), (6, vi (((m + 1 + 1 + 1 + 1 + 1 + 1 + 1 + 1 + 1 + 1 : Nat) : Int))), (4, vi (((m + 1 + 1 + 1 : Nat) : Int))), (3, vi (((m + 1 + 1 : Nat) : Int))), (2, vi (s.1 170 5)), (0, .ref 170), (1, vi deep)]) (st2 := [.ref 170, vl R]) 3 (fun _ _ => rfl) ?_
              refine wr_get (v := vl (s24.1 170 25)) rfl rfl rfl (by decide) rfl fun h39 => ?_
              show wr (n + 400) tb_M155 309 [(21, vl z36), (19, vl z32), (17, vl z28), (27, vi wn), (5, vi ((q : Int))), (25, vl ((cc : Int))), (23, vl R), (15, vl (s.1 170 26)), (13, vl r0), (11, vl v0), (9, vl u0), (7, vl a0), (6, vi (((m + 1 + 1 + 1 + 1 + 1 + 1 + 1 + 1 + 1 + 1 : Nat) : Int))), (4, vi (((m + 1 + 1 + 1 : Nat) : Int))), (3, vi (((m + 1 + 1 : Nat) : Int))), (2, vi (s.1 170 5)), (0, .ref 170), (1, vi deep)] [vl (s24.1 170 25), vl R] s24 _
              refine wr_lor (a := R) (b := s24.1 170 25) rfl fun z40 h41 h42 => ?_
              show wr (n + 400) tb_M155 310 [(21, vl z36), (19, vl z32), (17, vl z28), (27, vi wn), (5, vi ((q : Int))), (25, vl ((cc : Int))), (23, vl R), (15, vl (s.1 170 26)), (13, vl r0), (11, vl v0), (9, vl u0), (7, vl a0), (6, vi (((m + 1 + 1 + 1 + 1 + 1 + 1 + 1 + 1 + 1 + 1 : Nat) : Int))), (4, vi (((m + 1 + 1 + 1 : Nat) : Int))), (3, vi (((m + 1 + 1 : Nat) : Int))), (2, vi (s.1 170 5)), (0, .ref 170), (1, vi deep)] [vl z40] s24 _
              refine wr_n (pc2 := 315) (lv2 := [(23, vl z40), (21, vl z36), (19, vl z32), (17, vl z28), (27, vi wn), (5, vi ((q : Int))), (25, vl ((cc : Int))), (15, vl (s.1 170 26)), (13, vl r0), (11, vl v0), (9, vl u0), (7, vl a0), (6, vi (((m + 1 + 1 + 1 + 1 + 1 + 1 + 1 + 1 + 1 + 1 : Nat) : Int))), (4, vi (((m + 1 + 1 + 1 : Nat) : Int))), (3, vi (((m + 1 + 1 : Nat) : Int))), (2, vi (s.1 170 5)), (0, .ref 170), (1, vi deep)]) (st2 := [.ref 170, vl ((cc : Int))]) 3 (fun _ _ => rfl) ?_
              refine wr_get (v := vl (s24.1 170 26)) rfl rfl rfl (by decide) rfl fun h43 => ?_
              show wr (n + 400) tb_M155 318 [(23, vl z40), (21, vl z36), (19, vl z32), (17, vl z28), (27, vi wn), (5, vi ((q : Int))), (25, vl ((cc : Int))), (15, vl (s.1 170 26)), (13, vl r0), (11, vl v0), (9, vl u0), (7, vl a0), (6, vi (((m + 1 + 1 + 1 + 1 + 1 + 1 + 1 + 1 + 1 + 1 : Nat) : Int))), (4, vi (((m + 1 + 1 + 1 : Nat) : Int))), (3, vi (((m + 1 + 1 : Nat) : Int))), (2, vi (s.1 170 5)), (0, .ref 170), (1, vi deep)] [vl (s24.1 170 26), vl ((cc : Int))] s24 _
              refine wr_lor (a := (cc : Int)) (b := s24.1 170 26) rfl fun z44 h45 h46 => ?_
              show wr (n + 400) tb_M155 319 [(23, vl z40), (21, vl z36), (19, vl z32), (17, vl z28), (27, vi wn), (5, vi ((q : Int))), (25, vl ((cc : Int))), (15, vl (s.1 170 26)), (13, vl r0), (11, vl v0), (9, vl u0), (7, vl a0), (6, vi (((m + 1 + 1 + 1 + 1 + 1 + 1 + 1 + 1 + 1 + 1 : Nat) : Int))), (4, vi (((m + 1 + 1 + 1 : Nat) : Int))), (3, vi (((m + 1 + 1 : Nat) : Int))), (2, vi (s.1 170 5)), (0, .ref 170), (1, vi deep)] [vl z44] s24 _
              refine wr_n (pc2 := 321) (lv2 := [(25, vl z44), (23, vl z40), (21, vl z36), (19, vl z32), (17, vl z28), (27, vi wn), (5, vi ((q : Int))), (15, vl (s.1 170 26)), (13, vl r0), (11, vl v0), (9, vl u0), (7, vl a0), (6, vi (((m + 1 + 1 + 1 + 1 + 1 + 1 + 1 + 1 + 1 + 1 : Nat) : Int))), (4, vi (((m + 1 + 1 + 1 : Nat) : Int))), (3, vi (((m + 1 + 1 : Nat) : Int))), (2, vi (s.1 170 5)), (0, .ref 170), (1, vi deep)]) (st2 := []) 1 (fun _ _ => rfl) ?_
              refine wr_inc (a := (q : Int)) rfl rfl ?_
              show wr (n + 400) tb_M155 324 [(5, vi ((q : Int) + 1)), (25, vl z44), (23, vl z40), (21, vl z36), (19, vl z32), (17, vl z28), (27, vi wn), (15, vl (s.1 170 26)), (13, vl r0), (11, vl v0), (9, vl u0), (7, vl a0), (6, vi (((m + 1 + 1 + 1 + 1 + 1 + 1 + 1 + 1 + 1 + 1 : Nat) : Int))), (4, vi (((m + 1 + 1 + 1 : Nat) : Int))), (3, vi (((m + 1 + 1 : Nat) : Int))), (2, vi (s.1 170 5)), (0, .ref 170), (1, vi deep)] [] s24 _
              refine wr_n (pc2 := 327) (lv2 := [(5, vi ((q : Int) + 1)), (25, vl z44), (23, vl z40), (21, vl z36), (19, vl z32), (17, vl z28), (27, vi wn), (15, vl (s.1 170 26)), (13, vl r0), (11, vl v0), (9, vl u0), (7, vl a0), (6, vi (((m + 1 + 1 + 1 + 1 + 1 + 1 + 1 + 1 + 1 + 1 : Nat) : Int))), (4, vi (((m + 1 + 1 + 1 : Nat) : Int))), (3, vi (((m + 1 + 1 : Nat) : Int))), (2, vi (s.1 170 5)), (0, .ref 170), (1, vi deep)]) (st2 := [vi 1, vi ((q : Int) + 1)]) 2 (fun _ _ => rfl) ?_
              by_cases h47 : (q : Int) + 1 ≠ 1
              · refine wr_if2t rfl rfl (by unfold i32; omega) (by unfold i32; omega) h47 ?_
                refine wr_n (pc2 := 349) (lv2 := [(5, vi ((q : Int) + 1)), (25, vl z44), (23, vl z40), (21, vl z36), (19, vl z32), (17, vl z28), (27, vi wn), (15, vl (s.1 170 26)), (13, vl r0), (11, vl v0), (9, vl u0), (7, vl a0), (6, vi (((m + 1 + 1 + 1 + 1 + 1 + 1 + 1 + 1 + 1 + 1 : Nat) : Int))), (4, vi (((m + 1 + 1 + 1 : Nat) : Int))), (3, vi (((m + 1 + 1 : Nat) : Int))), (2, vi (s.1 170 5)), (0, .ref 170), (1, vi deep)]) (st2 := [.ref 50, .ref 170]) 2 (fun _ _ => rfl) ?_
                refine wr_call1 (args := [.ref 50]) (rest := []) rfl rfl rfl rfl (Nat.le_of_ble_eq_true rfl) (cr_mono (c_is (d := n + 395) isT_50 _ hR23 (LX_of hP26)) ?_)
                rintro s49 out ⟨b, rfl, rfl | ⟨rfl, hj48, hl48⟩, he48⟩
                · refine ⟨_, rfl, ?_⟩
                  rw [he48]
                  show wr (n + 400) tb_M155 352 [(5, vi ((q : Int) + 1)), (25, vl z44), (23, vl z40), (21, vl z36), (19, vl z32), (17, vl z28), (27, vi wn), (15, vl (s.1 170 26)), (13, vl r0), (11, vl v0), (9, vl u0), (7, vl a0), (6, vi (((m + 1 + 1 + 1 + 1 + 1 + 1 + 1 + 1 + 1 + 1 : Nat) : Int))), (4, vi (((m + 1 + 1 + 1 : Nat) : Int))), (3, vi (((m + 1 + 1 : Nat) : Int))), (2, vi (s.1 170 5)), (0, .ref 170), (1, vi deep)] [vi 0] s24 _
                  refine wr_n (pc2 := 355) (lv2 := [(5, vi ((q : Int) + 1)), (25, vl z44), (23, vl z40), (21, vl z36), (19, vl z32), (17, vl z28), (27, vi wn), (15, vl (s.1 170 26)), (13, vl r0), (11, vl v0), (9, vl u0), (7, vl a0), (6, vi (((m + 1 + 1 + 1 + 1 + 1 + 1 + 1 + 1 + 1 + 1 : Nat) : Int))), (4, vi (((m + 1 + 1 + 1 : Nat) : Int))), (3, vi (((m + 1 + 1 : Nat) : Int))), (2, vi (s.1 170 5)), (0, .ref 170), (1, vi deep)]) (st2 := []) 1 (fun _ _ => rfl) ?_
                  obtain ⟨cm, hcm1, hcm2, hcm3⟩ := MB_lt (BX_mb (BX_tr hC hBk18 hBk23) (by rw [hU16 170 26 (by omega)]; exact hst)) hnr
                  have hz25 : z44 = ((cc ||| cm : Nat) : Int) := h46 cc cm rfl hcm1 (by omega) hcm2
                  have hor : cc ||| cm < 2 ^ 12 := Nat.or_lt_two_pow (by omega) hcm2
                  have hcb : ∀ b, (cc ||| cm).testBit b = true → b < gn y := fun b hb => by rw [Nat.testBit_or, Bool.or_eq_true] at hb; exact hb.elim (htb b) (hcm3 b)
                  have hpb : s24.1 170 21 < 0 → wn = 0 → PB (ga y) (s24.1 (C + 1)) (gG y) (gn y) (gk y) m (q + 1) (w18 + 1) k0 k18 (cc ||| cm) := by
                    intro hpar hw0
                    have h26 : (s19.1 170 26).toNat = cm := by rw [← (hK23.2.2.2.2.2.2.2.2.2 : s24.1 170 26 = s19.1 170 26), hcm1]; omega
                    refine PB_step (PB_agr (fun p p1 p2 => ((BX_code hC (BX_tr hC hBk18 hBk23) (by omega)).trans ((hU16 (C + 1) p (by omega)).trans (BX_code hC (BX_tr hC hBk2 hBk9) (by omega))))) (fun p p1 p2 => ((BX_code hC (BX_tr hC hBk18 hBk23) (by omega)).trans ((hU16 (C + 1) p (by omega)).trans (BX_code hC (BX_tr hC hBk2 hBk9) (by omega))))) (htE (BX_po (BX_tr hC hBk2 hBk9) (by rw [← hU16 170 21 (by omega)]; exact (BX_po (BX_tr hC hBk18 hBk23) hpar))) (hj.2 hw0).1)) ((BX_code hC (BX_tr hC hBk18 hBk23) (by omega)).trans hv16) (by omega) (by omega) hda23 (by omega) ?_ hcm3 ?_
                    · exact h26 ▸ SG_mono (by omega) (fun x hx => hx) (SG_agr (fun p hp1 hp => (BX_code hC hBk23 (by omega))) (hE18 (BX_po hBk23 hpar)))
                    · have h9 := (hj.2 hw0).2
                      rw [hcm1, Int.toNat_natCast] at h9
                      exact h9
                  subst hz25
                  rw [show (q : Int) + 1 = ((q + 1 : Nat) : Int) by omega]
                  exact exP _ _ k18 (q + 1) (cc ||| cm) _ _ _ _ _ _ _ _ wn hR23 hP26 hB26 hz26 hm23 (by omega) ⟨h29, h33, h37, h41, htl.2.2.2.2.1, htl.2.2.2.2.2.1, htl.2.2.2.2.2.2.1, htl.2.2.2.2.2.2.2⟩ hcb ⟨(((BX_code hC (BX_tr hC hBk18 hBk23) (by omega)).trans ((hU16 (C + 1) _ (by omega)).trans (BX_code hC (BX_tr hC hBk2 hBk9) (by omega)))).trans htc.1), (((BX_code hC (BX_tr hC hBk18 hBk23) (by omega)).trans ((hU16 (C + 1) _ (by omega)).trans (BX_code hC (BX_tr hC hBk2 hBk9) (by omega)))).trans htc.2.1), (((BX_code hC (BX_tr hC hBk18 hBk23) (by omega)).trans ((hU16 (C + 1) _ (by omega)).trans (BX_code hC (BX_tr hC hBk2 hBk9) (by omega)))).trans htc.2.2)⟩ hpb (by omega)
                · refine ⟨_, rfl, ?_⟩
                  rw [he48]
                  show wr (n + 400) tb_M155 352 [(5, vi ((q : Int) + 1)), (25, vl z44), (23, vl z40), (21, vl z36), (19, vl z32), (17, vl z28), (27, vi wn), (15, vl (s.1 170 26)), (13, vl r0), (11, vl v0), (9, vl u0), (7, vl a0), (6, vi (((m + 1 + 1 + 1 + 1 + 1 + 1 + 1 + 1 + 1 + 1 : Nat) : Int))), (4, vi (((m + 1 + 1 + 1 : Nat) : Int))), (3, vi (((m + 1 + 1 : Nat) : Int))), (2, vi (s.1 170 5)), (0, .ref 170), (1, vi deep)] [vi 1] s24 _
                  have hg48 : 1 ≤ s24.1 170 4 ∧ s24.1 170 5 + 1 = s24.1 170 6 := ⟨by omega, hl48⟩
                  clear hj48 hl48
                  refine wr_n (pc2 := 134) (lv2 := [(5, vi ((q : Int) + 1)), (25, vl z44), (23, vl z40), (21, vl z36), (19, vl z32), (17, vl z28), (27, vi wn), (15, vl (s.1 170 26)), (13, vl r0), (11, vl v0), (9, vl u0), (7, vl a0), (6, vi (((m + 1 + 1 + 1 + 1 + 1 + 1 + 1 + 1 + 1 + 1 : Nat) : Int))), (4, vi (((m + 1 + 1 + 1 : Nat) : Int))), (3, vi (((m + 1 + 1 : Nat) : Int))), (2, vi (s.1 170 5)), (0, .ref 170), (1, vi deep)]) (st2 := []) 1 (fun _ _ => rfl) ?_
                  obtain ⟨cm, hcm1, hcm2, hcm3⟩ := MB_lt (BX_mb (BX_tr hC hBk18 hBk23) (by rw [hU16 170 26 (by omega)]; exact hst)) hnr
                  have hz25 : z44 = ((cc ||| cm : Nat) : Int) := h46 cc cm rfl hcm1 (by omega) hcm2
                  have hor : cc ||| cm < 2 ^ 12 := Nat.or_lt_two_pow (by omega) hcm2
                  have hcb : ∀ b, (cc ||| cm).testBit b = true → b < gn y := fun b hb => by rw [Nat.testBit_or, Bool.or_eq_true] at hb; exact hb.elim (htb b) (hcm3 b)
                  have hpb : s24.1 170 21 < 0 → wn = 0 → PB (ga y) (s24.1 (C + 1)) (gG y) (gn y) (gk y) m (q + 1) (w18 + 1) k0 k18 (cc ||| cm) := by
                    intro hpar hw0
                    have h26 : (s19.1 170 26).toNat = cm := by rw [← (hK23.2.2.2.2.2.2.2.2.2 : s24.1 170 26 = s19.1 170 26), hcm1]; omega
                    refine PB_step (PB_agr (fun p p1 p2 => ((BX_code hC (BX_tr hC hBk18 hBk23) (by omega)).trans ((hU16 (C + 1) p (by omega)).trans (BX_code hC (BX_tr hC hBk2 hBk9) (by omega))))) (fun p p1 p2 => ((BX_code hC (BX_tr hC hBk18 hBk23) (by omega)).trans ((hU16 (C + 1) p (by omega)).trans (BX_code hC (BX_tr hC hBk2 hBk9) (by omega))))) (htE (BX_po (BX_tr hC hBk2 hBk9) (by rw [← hU16 170 21 (by omega)]; exact (BX_po (BX_tr hC hBk18 hBk23) hpar))) (hj.2 hw0).1)) ((BX_code hC (BX_tr hC hBk18 hBk23) (by omega)).trans hv16) (by omega) (by omega) hda23 (by omega) ?_ hcm3 ?_
                    · exact h26 ▸ SG_mono (by omega) (fun x hx => hx) (SG_agr (fun p hp1 hp => (BX_code hC hBk23 (by omega))) (hE18 (BX_po hBk23 hpar)))
                    · have h9 := (hj.2 hw0).2
                      rw [hcm1, Int.toNat_natCast] at h9
                      exact h9
                  subst hz25
                  rw [show (q : Int) + 1 = ((q + 1 : Nat) : Int) by omega]
                  refine ih _ ?_ _ _ k18 (q + 1) (cc ||| cm) _ _ _ _ _ _ _ _ wn rfl hR23 hP26 hB26 hz26 hm23 (by omega) ⟨h29, h33, h37, h41, htl.2.2.2.2.1, htl.2.2.2.2.2.1, htl.2.2.2.2.2.2.1, htl.2.2.2.2.2.2.2⟩ hcb ⟨(((BX_code hC (BX_tr hC hBk18 hBk23) (by omega)).trans ((hU16 (C + 1) _ (by omega)).trans (BX_code hC (BX_tr hC hBk2 hBk9) (by omega)))).trans htc.1), (((BX_code hC (BX_tr hC hBk18 hBk23) (by omega)).trans ((hU16 (C + 1) _ (by omega)).trans (BX_code hC (BX_tr hC hBk2 hBk9) (by omega)))).trans htc.2.1), (((BX_code hC (BX_tr hC hBk18 hBk23) (by omega)).trans ((hU16 (C + 1) _ (by omega)).trans (BX_code hC (BX_tr hC hBk2 hBk9) (by omega)))).trans htc.2.2)⟩ hpb (by omega)
                  omega
              · refine wr_if2f rfl rfl (by unfold i32; omega) (by unfold i32; omega) h47 ?_
                refine wr_n (pc2 := 334) (lv2 := [(5, vi ((q : Int) + 1)), (25, vl z44), (23, vl z40), (21, vl z36), (19, vl z32), (17, vl z28), (27, vi wn), (15, vl (s.1 170 26)), (13, vl r0), (11, vl v0), (9, vl u0), (7, vl a0), (6, vi (((m + 1 + 1 + 1 + 1 + 1 + 1 + 1 + 1 + 1 + 1 : Nat) : Int))), (4, vi (((m + 1 + 1 + 1 : Nat) : Int))), (3, vi (((m + 1 + 1 : Nat) : Int))), (2, vi (s.1 170 5)), (0, .ref 170), (1, vi deep)]) (st2 := [.ref 50, .ref 170]) 2 (fun _ _ => rfl) ?_
                refine wr_call1 (args := [.ref 50]) (rest := []) rfl rfl rfl rfl (Nat.le_of_ble_eq_true rfl) (cr_mono (c_is (d := n + 395) isT_50 _ hR23 (LX_of hP26)) ?_)
                rintro s51 out ⟨b, rfl, rfl | ⟨rfl, hj50, hl50⟩, he50⟩
                · refine ⟨_, rfl, ?_⟩
                  rw [he50]
                  show wr (n + 400) tb_M155 337 [(5, vi ((q : Int) + 1)), (25, vl z44), (23, vl z40), (21, vl z36), (19, vl z32), (17, vl z28), (27, vi wn), (15, vl (s.1 170 26)), (13, vl r0), (11, vl v0), (9, vl u0), (7, vl a0), (6, vi (((m + 1 + 1 + 1 + 1 + 1 + 1 + 1 + 1 + 1 + 1 : Nat) : Int))), (4, vi (((m + 1 + 1 + 1 : Nat) : Int))), (3, vi (((m + 1 + 1 : Nat) : Int))), (2, vi (s.1 170 5)), (0, .ref 170), (1, vi deep)] [vi 0] s24 _
                  refine wr_n (pc2 := 341) (lv2 := [(5, vi ((q : Int) + 1)), (25, vl z44), (23, vl z40), (21, vl z36), (19, vl z32), (17, vl z28), (27, vi wn), (15, vl (s.1 170 26)), (13, vl r0), (11, vl v0), (9, vl u0), (7, vl a0), (6, vi (((m + 1 + 1 + 1 + 1 + 1 + 1 + 1 + 1 + 1 + 1 : Nat) : Int))), (4, vi (((m + 1 + 1 + 1 : Nat) : Int))), (3, vi (((m + 1 + 1 : Nat) : Int))), (2, vi (s.1 170 5)), (0, .ref 170), (1, vi deep)]) (st2 := [.ref 170]) 2 (fun _ _ => rfl) ?_
                  refine wr_call1 (args := []) (rest := []) rfl rfl rfl rfl (Nat.le_of_ble_eq_true rfl) (cr_mono (x_bad0 (C := C) (d := n + 398) _ hR23) ?_)
                  rintro s53 out ⟨rfl, hc52, hF52⟩
                  · refine ⟨_, rfl, ?_⟩
                    show wr (n + 400) tb_M155 344 [(5, vi ((q : Int) + 1)), (25, vl z44), (23, vl z40), (21, vl z36), (19, vl z32), (17, vl z28), (27, vi wn), (15, vl (s.1 170 26)), (13, vl r0), (11, vl v0), (9, vl u0), (7, vl a0), (6, vi (((m + 1 + 1 + 1 + 1 + 1 + 1 + 1 + 1 + 1 + 1 : Nat) : Int))), (4, vi (((m + 1 + 1 + 1 : Nat) : Int))), (3, vi (((m + 1 + 1 : Nat) : Int))), (2, vi (s.1 170 5)), (0, .ref 170), (1, vi deep)] [vi 0] s53 _
                    refine wr_end (fun _ _ => rfl) ?_
                    exact ⟨0, rfl, hc52.trans hz26, Or.inl ⟨rfl, FR_tr (BX_FR hB26) hF52⟩⟩
                · refine ⟨_, rfl, ?_⟩
                  rw [he50]
                  show wr (n + 400) tb_M155 337 [(5, vi ((q : Int) + 1)), (25, vl z44), (23, vl z40), (21, vl z36), (19, vl z32), (17, vl z28), (27, vi wn), (15, vl (s.1 170 26)), (13, vl r0), (11, vl v0), (9, vl u0), (7, vl a0), (6, vi (((m + 1 + 1 + 1 + 1 + 1 + 1 + 1 + 1 + 1 + 1 : Nat) : Int))), (4, vi (((m + 1 + 1 + 1 : Nat) : Int))), (3, vi (((m + 1 + 1 : Nat) : Int))), (2, vi (s.1 170 5)), (0, .ref 170), (1, vi deep)] [vi 1] s24 _
                  have hg50 : 1 ≤ s24.1 170 4 ∧ s24.1 170 5 + 1 = s24.1 170 6 := ⟨by omega, hl50⟩
                  clear hj50 hl50
                  refine wr_n (pc2 := 349) (lv2 := [(5, vi ((q : Int) + 1)), (25, vl z44), (23, vl z40), (21, vl z36), (19, vl z32), (17, vl z28), (27, vi wn), (15, vl (s.1 170 26)), (13, vl r0), (11, vl v0), (9, vl u0), (7, vl a0), (6, vi (((m + 1 + 1 + 1 + 1 + 1 + 1 + 1 + 1 + 1 + 1 : Nat) : Int))), (4, vi (((m + 1 + 1 + 1 : Nat) : Int))), (3, vi (((m + 1 + 1 : Nat) : Int))), (2, vi (s.1 170 5)), (0, .ref 170), (1, vi deep)]) (st2 := [.ref 50, .ref 170]) 3 (fun _ _ => rfl) ?_
                  refine wr_call1 (args := [.ref 50]) (rest := []) rfl rfl rfl rfl (Nat.le_of_ble_eq_true rfl) (cr_mono (c_is (d := n + 395) isT_50 _ hR23 (LX_of hP26)) ?_)
                  rintro s56 out ⟨b, rfl, rfl | ⟨rfl, hj55, hl55⟩, he55⟩
                  · refine ⟨_, rfl, ?_⟩
                    rw [he55]
                    show wr (n + 400) tb_M155 352 [(5, vi ((q : Int) + 1)), (25, vl z44), (23, vl z40), (21, vl z36), (19, vl z32), (17, vl z28), (27, vi wn), (15, vl (s.1 170 26)), (13, vl r0), (11, vl v0), (9, vl u0), (7, vl a0), (6, vi (((m + 1 + 1 + 1 + 1 + 1 + 1 + 1 + 1 + 1 + 1 : Nat) : Int))), (4, vi (((m + 1 + 1 + 1 : Nat) : Int))), (3, vi (((m + 1 + 1 : Nat) : Int))), (2, vi (s.1 170 5)), (0, .ref 170), (1, vi deep)] [vi 0] s24 _
                    refine wr_n (pc2 := 355) (lv2 := [(5, vi ((q : Int) + 1)), (25, vl z44), (23, vl z40), (21, vl z36), (19, vl z32), (17, vl z28), (27, vi wn), (15, vl (s.1 170 26)), (13, vl r0), (11, vl v0), (9, vl u0), (7, vl a0), (6, vi (((m + 1 + 1 + 1 + 1 + 1 + 1 + 1 + 1 + 1 + 1 : Nat) : Int))), (4, vi (((m + 1 + 1 + 1 : Nat) : Int))), (3, vi (((m + 1 + 1 : Nat) : Int))), (2, vi (s.1 170 5)), (0, .ref 170), (1, vi deep)]) (st2 := []) 1 (fun _ _ => rfl) ?_
                    obtain ⟨cm, hcm1, hcm2, hcm3⟩ := MB_lt (BX_mb (BX_tr hC hBk18 hBk23) (by rw [hU16 170 26 (by omega)]; exact hst)) hnr
                    have hz25 : z44 = ((cc ||| cm : Nat) : Int) := h46 cc cm rfl hcm1 (by omega) hcm2
                    have hor : cc ||| cm < 2 ^ 12 := Nat.or_lt_two_pow (by omega) hcm2
                    have hcb : ∀ b, (cc ||| cm).testBit b = true → b < gn y := fun b hb => by rw [Nat.testBit_or, Bool.or_eq_true] at hb; exact hb.elim (htb b) (hcm3 b)
                    have hpb : s24.1 170 21 < 0 → wn = 0 → PB (ga y) (s24.1 (C + 1)) (gG y) (gn y) (gk y) m (q + 1) (w18 + 1) k0 k18 (cc ||| cm) := by
                      intro hpar hw0
                      have h26 : (s19.1 170 26).toNat = cm := by rw [← (hK23.2.2.2.2.2.2.2.2.2 : s24.1 170 26 = s19.1 170 26), hcm1]; omega
                      refine PB_step (PB_agr (fun p p1 p2 => ((BX_code hC (BX_tr hC hBk18 hBk23) (by omega)).trans ((hU16 (C + 1) p (by omega)).trans (BX_code hC (BX_tr hC hBk2 hBk9) (by omega))))) (fun p p1 p2 => ((BX_code hC (BX_tr hC hBk18 hBk23) (by omega)).trans ((hU16 (C + 1) p (by omega)).trans (BX_code hC (BX_tr hC hBk2 hBk9) (by omega))))) (htE (BX_po (BX_tr hC hBk2 hBk9) (by rw [← hU16 170 21 (by omega)]; exact (BX_po (BX_tr hC hBk18 hBk23) hpar))) (hj.2 hw0).1)) ((BX_code hC (BX_tr hC hBk18 hBk23) (by omega)).trans hv16) (by omega) (by omega) hda23 (by omega) ?_ hcm3 ?_
                      · exact h26 ▸ SG_mono (by omega) (fun x hx => hx) (SG_agr (fun p hp1 hp => (BX_code hC hBk23 (by omega))) (hE18 (BX_po hBk23 hpar)))
                      · have h9 := (hj.2 hw0).2
                        rw [hcm1, Int.toNat_natCast] at h9
                        exact h9
                    subst hz25
                    rw [show (q : Int) + 1 = ((q + 1 : Nat) : Int) by omega]
                    exact exP _ _ k18 (q + 1) (cc ||| cm) _ _ _ _ _ _ _ _ wn hR23 hP26 hB26 hz26 hm23 (by omega) ⟨h29, h33, h37, h41, htl.2.2.2.2.1, htl.2.2.2.2.2.1, htl.2.2.2.2.2.2.1, htl.2.2.2.2.2.2.2⟩ hcb ⟨(((BX_code hC (BX_tr hC hBk18 hBk23) (by omega)).trans ((hU16 (C + 1) _ (by omega)).trans (BX_code hC (BX_tr hC hBk2 hBk9) (by omega)))).trans htc.1), (((BX_code hC (BX_tr hC hBk18 hBk23) (by omega)).trans ((hU16 (C + 1) _ (by omega)).trans (BX_code hC (BX_tr hC hBk2 hBk9) (by omega)))).trans htc.2.1), (((BX_code hC (BX_tr hC hBk18 hBk23) (by omega)).trans ((hU16 (C + 1) _ (by omega)).trans (BX_code hC (BX_tr hC hBk2 hBk9) (by omega)))).trans htc.2.2)⟩ hpb (by omega)
                  · refine ⟨_, rfl, ?_⟩
                    rw [he55]
                    show wr (n + 400) tb_M155 352 [(5, vi ((q : Int) + 1)), (25, vl z44), (23, vl z40), (21, vl z36), (19, vl z32), (17, vl z28), (27, vi wn), (15, vl (s.1 170 26)), (13, vl r0), (11, vl v0), (9, vl u0), (7, vl a0), (6, vi (((m + 1 + 1 + 1 + 1 + 1 + 1 + 1 + 1 + 1 + 1 : Nat) : Int))), (4, vi (((m + 1 + 1 + 1 : Nat) : Int))), (3, vi (((m + 1 + 1 : Nat) : Int))), (2, vi (s.1 170 5)), (0, .ref 170), (1, vi deep)] [vi 1] s24 _
                    have hg55 : 1 ≤ s24.1 170 4 ∧ s24.1 170 5 + 1 = s24.1 170 6 := ⟨by omega, hl55⟩
                    clear hj55 hl55
                    refine wr_n (pc2 := 134) (lv2 := [(5, vi ((q : Int) + 1)), (25, vl z44), (23, vl z40), (21, vl z36), (19, vl z32), (17, vl z28), (27, vi wn), (15, vl (s.1 170 26)), (13, vl r0), (11, vl v0), (9, vl u0), (7, vl a0), (6, vi (((m + 1 + 1 + 1 + 1 + 1 + 1 + 1 + 1 + 1 + 1 : Nat) : Int))), (4, vi (((m + 1 + 1 + 1 : Nat) : Int))), (3, vi (((m + 1 + 1 : Nat) : Int))), (2, vi (s.1 170 5)), (0, .ref 170), (1, vi deep)]) (st2 := []) 1 (fun _ _ => rfl) ?_
                    obtain ⟨cm, hcm1, hcm2, hcm3⟩ := MB_lt (BX_mb (BX_tr hC hBk18 hBk23) (by rw [hU16 170 26 (by omega)]; exact hst)) hnr
                    have hz25 : z44 = ((cc ||| cm : Nat) : Int) := h46 cc cm rfl hcm1 (by omega) hcm2
                    have hor : cc ||| cm < 2 ^ 12 := Nat.or_lt_two_pow (by omega) hcm2
                    have hcb : ∀ b, (cc ||| cm).testBit b = true → b < gn y := fun b hb => by rw [Nat.testBit_or, Bool.or_eq_true] at hb; exact hb.elim (htb b) (hcm3 b)
                    have hpb : s24.1 170 21 < 0 → wn = 0 → PB (ga y) (s24.1 (C + 1)) (gG y) (gn y) (gk y) m (q + 1) (w18 + 1) k0 k18 (cc ||| cm) := by
                      intro hpar hw0
                      have h26 : (s19.1 170 26).toNat = cm := by rw [← (hK23.2.2.2.2.2.2.2.2.2 : s24.1 170 26 = s19.1 170 26), hcm1]; omega
                      refine PB_step (PB_agr (fun p p1 p2 => ((BX_code hC (BX_tr hC hBk18 hBk23) (by omega)).trans ((hU16 (C + 1) p (by omega)).trans (BX_code hC (BX_tr hC hBk2 hBk9) (by omega))))) (fun p p1 p2 => ((BX_code hC (BX_tr hC hBk18 hBk23) (by omega)).trans ((hU16 (C + 1) p (by omega)).trans (BX_code hC (BX_tr hC hBk2 hBk9) (by omega))))) (htE (BX_po (BX_tr hC hBk2 hBk9) (by rw [← hU16 170 21 (by omega)]; exact (BX_po (BX_tr hC hBk18 hBk23) hpar))) (hj.2 hw0).1)) ((BX_code hC (BX_tr hC hBk18 hBk23) (by omega)).trans hv16) (by omega) (by omega) hda23 (by omega) ?_ hcm3 ?_
                      · exact h26 ▸ SG_mono (by omega) (fun x hx => hx) (SG_agr (fun p hp1 hp => (BX_code hC hBk23 (by omega))) (hE18 (BX_po hBk23 hpar)))
                      · have h9 := (hj.2 hw0).2
                        rw [hcm1, Int.toNat_natCast] at h9
                        exact h9
                    subst hz25
                    rw [show (q : Int) + 1 = ((q + 1 : Nat) : Int) by omega]
                    refine ih _ ?_ _ _ k18 (q + 1) (cc ||| cm) _ _ _ _ _ _ _ _ wn rfl hR23 hP26 hB26 hz26 hm23 (by omega) ⟨h29, h33, h37, h41, htl.2.2.2.2.1, htl.2.2.2.2.2.1, htl.2.2.2.2.2.2.1, htl.2.2.2.2.2.2.2⟩ hcb ⟨(((BX_code hC (BX_tr hC hBk18 hBk23) (by omega)).trans ((hU16 (C + 1) _ (by omega)).trans (BX_code hC (BX_tr hC hBk2 hBk9) (by omega)))).trans htc.1), (((BX_code hC (BX_tr hC hBk18 hBk23) (by omega)).trans ((hU16 (C + 1) _ (by omega)).trans (BX_code hC (BX_tr hC hBk2 hBk9) (by omega)))).trans htc.2.1), (((BX_code hC (BX_tr hC hBk18 hBk23) (by omega)).trans ((hU16 (C + 1) _ (by omega)).trans (BX_code hC (BX_tr hC hBk2 hBk9) (by omega)))).trans htc.2.2)⟩ hpb (by omega)
                    omega
            refine wr_n (pc2 := 203) (lv2 := [(5, vi ((q : Int))), (25, vl ((cc : Int))), (23, vl R), (21, vl S), (19, vl U), (17, vl A), (27, vi wg), (15, vl (s.1 170 26)), (13, vl r0), (11, vl v0), (9, vl u0), (7, vl a0), (6, vi (((m + 1 + 1 + 1 + 1 + 1 + 1 + 1 + 1 + 1 + 1 : Nat) : Int))), (4, vi (((m + 1 + 1 + 1 : Nat) : Int))), (3, vi (((m + 1 + 1 : Nat) : Int))), (2, vi (s.1 170 5)), (0, .ref 170), (1, vi deep)]) (st2 := [.ref 170, vl A, vi wg]) 3 (fun _ _ => rfl) ?_
            refine wr_get (v := vl (s24.1 170 23)) rfl rfl rfl (by decide) rfl fun h57 => ?_
            show wr (n + 400) tb_M155 206 [(5, vi ((q : Int))), (25, vl ((cc : Int))), (23, vl R), (21, vl S), (19, vl U), (17, vl A), (27, vi wg), (15, vl (s.1 170 26)), (13, vl r0), (11, vl v0), (9, vl u0), (7, vl a0), (6, vi (((m + 1 + 1 + 1 + 1 + 1 + 1 + 1 + 1 + 1 + 1 : Nat) : Int))), (4, vi (((m + 1 + 1 + 1 : Nat) : Int))), (3, vi (((m + 1 + 1 : Nat) : Int))), (2, vi (s.1 170 5)), (0, .ref 170), (1, vi deep)] [vl (s24.1 170 23), vl A, vi wg] s24 _
            refine wr_n (pc2 := 207) (lv2 := [(5, vi ((q : Int))), (25, vl ((cc : Int))), (23, vl R), (21, vl S), (19, vl U), (17, vl A), (27, vi wg), (15, vl (s.1 170 26)), (13, vl r0), (11, vl v0), (9, vl u0), (7, vl a0), (6, vi (((m + 1 + 1 + 1 + 1 + 1 + 1 + 1 + 1 + 1 + 1 : Nat) : Int))), (4, vi (((m + 1 + 1 + 1 : Nat) : Int))), (3, vi (((m + 1 + 1 : Nat) : Int))), (2, vi (s.1 170 5)), (0, .ref 170), (1, vi deep)]) (st2 := [.ref 170, vl (s24.1 170 23), vl A, vi wg]) 1 (fun _ _ => rfl) ?_
            refine wr_get (v := vl (s24.1 170 22)) rfl rfl rfl (by decide) rfl fun h58 => ?_
            show wr (n + 400) tb_M155 210 [(5, vi ((q : Int))), (25, vl ((cc : Int))), (23, vl R), (21, vl S), (19, vl U), (17, vl A), (27, vi wg), (15, vl (s.1 170 26)), (13, vl r0), (11, vl v0), (9, vl u0), (7, vl a0), (6, vi (((m + 1 + 1 + 1 + 1 + 1 + 1 + 1 + 1 + 1 + 1 : Nat) : Int))), (4, vi (((m + 1 + 1 + 1 : Nat) : Int))), (3, vi (((m + 1 + 1 : Nat) : Int))), (2, vi (s.1 170 5)), (0, .ref 170), (1, vi deep)] [vl (s24.1 170 22), vl (s24.1 170 23), vl A, vi wg] s24 _
            refine wr_lor (a := s24.1 170 23) (b := s24.1 170 22) rfl fun z59 h60 h61 => ?_
            show wr (n + 400) tb_M155 211 [(5, vi ((q : Int))), (25, vl ((cc : Int))), (23, vl R), (21, vl S), (19, vl U), (17, vl A), (27, vi wg), (15, vl (s.1 170 26)), (13, vl r0), (11, vl v0), (9, vl u0), (7, vl a0), (6, vi (((m + 1 + 1 + 1 + 1 + 1 + 1 + 1 + 1 + 1 + 1 : Nat) : Int))), (4, vi (((m + 1 + 1 + 1 : Nat) : Int))), (3, vi (((m + 1 + 1 : Nat) : Int))), (2, vi (s.1 170 5)), (0, .ref 170), (1, vi deep)] [vl z59, vl A, vi wg] s24 _
            refine wr_land (a := A) (b := z59) rfl fun z62 h63 h64 => ?_
            show wr (n + 400) tb_M155 212 [(5, vi ((q : Int))), (25, vl ((cc : Int))), (23, vl R), (21, vl S), (19, vl U), (17, vl A), (27, vi wg), (15, vl (s.1 170 26)), (13, vl r0), (11, vl v0), (9, vl u0), (7, vl a0), (6, vi (((m + 1 + 1 + 1 + 1 + 1 + 1 + 1 + 1 + 1 + 1 : Nat) : Int))), (4, vi (((m + 1 + 1 + 1 : Nat) : Int))), (3, vi (((m + 1 + 1 : Nat) : Int))), (2, vi (s.1 170 5)), (0, .ref 170), (1, vi deep)] [vl z62, vi wg] s24 _
            refine wr_n (pc2 := 213) (lv2 := [(5, vi ((q : Int))), (25, vl ((cc : Int))), (23, vl R), (21, vl S), (19, vl U), (17, vl A), (27, vi wg), (15, vl (s.1 170 26)), (13, vl r0), (11, vl v0), (9, vl u0), (7, vl a0), (6, vi (((m + 1 + 1 + 1 + 1 + 1 + 1 + 1 + 1 + 1 + 1 : Nat) : Int))), (4, vi (((m + 1 + 1 + 1 : Nat) : Int))), (3, vi (((m + 1 + 1 : Nat) : Int))), (2, vi (s.1 170 5)), (0, .ref 170), (1, vi deep)]) (st2 := [vl 0, vl z62, vi wg]) 1 (fun _ _ => rfl) ?_
            refine wr_lcmp (a := z62) (b := 0) rfl h63 (by unfold i64; omega) fun z65 h66 => ?_
            show wr (n + 400) tb_M155 214 [(5, vi ((q : Int))), (25, vl ((cc : Int))), (23, vl R), (21, vl S), (19, vl U), (17, vl A), (27, vi wg), (15, vl (s.1 170 26)), (13, vl r0), (11, vl v0), (9, vl u0), (7, vl a0), (6, vi (((m + 1 + 1 + 1 + 1 + 1 + 1 + 1 + 1 + 1 + 1 : Nat) : Int))), (4, vi (((m + 1 + 1 + 1 : Nat) : Int))), (3, vi (((m + 1 + 1 : Nat) : Int))), (2, vi (s.1 170 5)), (0, .ref 170), (1, vi deep)] [vi z65, vi wg] s24 _
            by_cases h67 : z65 ≠ 0
            · refine wr_if1t rfl rfl (by unfold i32; omega) h67 ?_
              refine wr_n (pc2 := 273) (lv2 := [(5, vi ((q : Int))), (25, vl ((cc : Int))), (23, vl R), (21, vl S), (19, vl U), (17, vl A), (27, vi wg), (15, vl (s.1 170 26)), (13, vl r0), (11, vl v0), (9, vl u0), (7, vl a0), (6, vi (((m + 1 + 1 + 1 + 1 + 1 + 1 + 1 + 1 + 1 + 1 : Nat) : Int))), (4, vi (((m + 1 + 1 + 1 : Nat) : Int))), (3, vi (((m + 1 + 1 : Nat) : Int))), (2, vi (s.1 170 5)), (0, .ref 170), (1, vi deep)]) (st2 := [vi 1, vi wg]) 2 (fun _ _ => rfl) ?_
              refine wr_ior01 (a := wg) (b := 1) rfl (by omega) (by omega) fun z68 h69 => ?_
              show wr (n + 400) tb_M155 274 [(5, vi ((q : Int))), (25, vl ((cc : Int))), (23, vl R), (21, vl S), (19, vl U), (17, vl A), (27, vi wg), (15, vl (s.1 170 26)), (13, vl r0), (11, vl v0), (9, vl u0), (7, vl a0), (6, vi (((m + 1 + 1 + 1 + 1 + 1 + 1 + 1 + 1 + 1 + 1 : Nat) : Int))), (4, vi (((m + 1 + 1 + 1 : Nat) : Int))), (3, vi (((m + 1 + 1 : Nat) : Int))), (2, vi (s.1 170 5)), (0, .ref 170), (1, vi deep)] [vi z68] s24 _
              refine wr_n (pc2 := 276) (lv2 := [(27, vi z68), (5, vi ((q : Int))), (25, vl ((cc : Int))), (23, vl R), (21, vl S), (19, vl U), (17, vl A), (15, vl (s.1 170 26)), (13, vl r0), (11, vl v0), (9, vl u0), (7, vl a0), (6, vi (((m + 1 + 1 + 1 + 1 + 1 + 1 + 1 + 1 + 1 + 1 : Nat) : Int))), (4, vi (((m + 1 + 1 + 1 : Nat) : Int))), (3, vi (((m + 1 + 1 : Nat) : Int))), (2, vi (s.1 170 5)), (0, .ref 170), (1, vi deep)]) (st2 := []) 1 (fun _ _ => rfl) ?_
              exact j276 _ ⟨by omega, fun h9 => absurd h9 (by omega)⟩
            · refine wr_if1f rfl rfl (by unfold i32; omega) h67 ?_
              refine wr_n (pc2 := 218) (lv2 := [(5, vi ((q : Int))), (25, vl ((cc : Int))), (23, vl R), (21, vl S), (19, vl U), (17, vl A), (27, vi wg), (15, vl (s.1 170 26)), (13, vl r0), (11, vl v0), (9, vl u0), (7, vl a0), (6, vi (((m + 1 + 1 + 1 + 1 + 1 + 1 + 1 + 1 + 1 + 1 : Nat) : Int))), (4, vi (((m + 1 + 1 + 1 : Nat) : Int))), (3, vi (((m + 1 + 1 : Nat) : Int))), (2, vi (s.1 170 5)), (0, .ref 170), (1, vi deep)]) (st2 := [.ref 170, vi wg]) 1 (fun _ _ => rfl) ?_
              refine wr_get (v := vl (s24.1 170 22)) rfl rfl rfl (by decide) rfl fun h70 => ?_
              show wr (n + 400) tb_M155 221 [(5, vi ((q : Int))), (25, vl ((cc : Int))), (23, vl R), (21, vl S), (19, vl U), (17, vl A), (27, vi wg), (15, vl (s.1 170 26)), (13, vl r0), (11, vl v0), (9, vl u0), (7, vl a0), (6, vi (((m + 1 + 1 + 1 + 1 + 1 + 1 + 1 + 1 + 1 + 1 : Nat) : Int))), (4, vi (((m + 1 + 1 + 1 : Nat) : Int))), (3, vi (((m + 1 + 1 : Nat) : Int))), (2, vi (s.1 170 5)), (0, .ref 170), (1, vi deep)] [vl (s24.1 170 22), vi wg] s24 _
              refine wr_n (pc2 := 225) (lv2 := [(5, vi ((q : Int))), (25, vl ((cc : Int))), (23, vl R), (21, vl S), (19, vl U), (17, vl A), (27, vi wg), (15, vl (s.1 170 26)), (13, vl r0), (11, vl v0), (9, vl u0), (7, vl a0), (6, vi (((m + 1 + 1 + 1 + 1 + 1 + 1 + 1 + 1 + 1 + 1 : Nat) : Int))), (4, vi (((m + 1 + 1 + 1 : Nat) : Int))), (3, vi (((m + 1 + 1 : Nat) : Int))), (2, vi (s.1 170 5)), (0, .ref 170), (1, vi deep)]) (st2 := [vl A, vl U, vl (s24.1 170 22), vi wg]) 2 (fun _ _ => rfl) ?_
              refine wr_lor (a := U) (b := A) rfl fun z71 h72 h73 => ?_
              show wr (n + 400) tb_M155 226 [(5, vi ((q : Int))), (25, vl ((cc : Int))), (23, vl R), (21, vl S), (19, vl U), (17, vl A), (27, vi wg), (15, vl (s.1 170 26)), (13, vl r0), (11, vl v0), (9, vl u0), (7, vl a0), (6, vi (((m + 1 + 1 + 1 + 1 + 1 + 1 + 1 + 1 + 1 + 1 : Nat) : Int))), (4, vi (((m + 1 + 1 + 1 : Nat) : Int))), (3, vi (((m + 1 + 1 : Nat) : Int))), (2, vi (s.1 170 5)), (0, .ref 170), (1, vi deep)] [vl z71, vl (s24.1 170 22), vi wg] s24 _
              refine wr_land (a := s24.1 170 22) (b := z71) rfl fun z74 h75 h76 => ?_
              show wr (n + 400) tb_M155 227 [(5, vi ((q : Int))), (25, vl ((cc : Int))), (23, vl R), (21, vl S), (19, vl U), (17, vl A), (27, vi wg), (15, vl (s.1 170 26)), (13, vl r0), (11, vl v0), (9, vl u0), (7, vl a0), (6, vi (((m + 1 + 1 + 1 + 1 + 1 + 1 + 1 + 1 + 1 + 1 : Nat) : Int))), (4, vi (((m + 1 + 1 + 1 : Nat) : Int))), (3, vi (((m + 1 + 1 : Nat) : Int))), (2, vi (s.1 170 5)), (0, .ref 170), (1, vi deep)] [vl z74, vi wg] s24 _
              refine wr_n (pc2 := 228) (lv2 := [(5, vi ((q : Int))), (25, vl ((cc : Int))), (23, vl R), (21, vl S), (19, vl U), (17, vl A), (27, vi wg), (15, vl (s.1 170 26)), (13, vl r0), (11, vl v0), (9, vl u0), (7, vl a0), (6, vi (((m + 1 + 1 + 1 + 1 + 1 + 1 + 1 + 1 + 1 + 1 : Nat) : Int))), (4, vi (((m + 1 + 1 + 1 : Nat) : Int))), (3, vi (((m + 1 + 1 : Nat) : Int))), (2, vi (s.1 170 5)), (0, .ref 170), (1, vi deep)]) (st2 := [vl 0, vl z74, vi wg]) 1 (fun _ _ => rfl) ?_
              refine wr_lcmp (a := z74) (b := 0) rfl h75 (by unfold i64; omega) fun z77 h78 => ?_
              show wr (n + 400) tb_M155 229 [(5, vi ((q : Int))), (25, vl ((cc : Int))), (23, vl R), (21, vl S), (19, vl U), (17, vl A), (27, vi wg), (15, vl (s.1 170 26)), (13, vl r0), (11, vl v0), (9, vl u0), (7, vl a0), (6, vi (((m + 1 + 1 + 1 + 1 + 1 + 1 + 1 + 1 + 1 + 1 : Nat) : Int))), (4, vi (((m + 1 + 1 + 1 : Nat) : Int))), (3, vi (((m + 1 + 1 : Nat) : Int))), (2, vi (s.1 170 5)), (0, .ref 170), (1, vi deep)] [vi z77, vi wg] s24 _
              by_cases h79 : z77 ≠ 0
              · refine wr_if1t rfl rfl (by unfold i32; omega) h79 ?_
                refine wr_n (pc2 := 273) (lv2 := [(5, vi ((q : Int))), (25, vl ((cc : Int))), (23, vl R), (21, vl S), (19, vl U), (17, vl A), (27, vi wg), (15, vl (s.1 170 26)), (13, vl r0), (11, vl v0), (9, vl u0), (7, vl a0), (6, vi (((m + 1 + 1 + 1 + 1 + 1 + 1 + 1 + 1 + 1 + 1 : Nat) : Int))), (4, vi (((m + 1 + 1 + 1 : Nat) : Int))), (3, vi (((m + 1 + 1 : Nat) : Int))), (2, vi (s.1 170 5)), (0, .ref 170), (1, vi deep)]) (st2 := [vi 1, vi wg]) 2 (fun _ _ => rfl) ?_
                refine wr_ior01 (a := wg) (b := 1) rfl (by omega) (by omega) fun z80 h81 => ?_
                show wr (n + 400) tb_M155 274 [(5, vi ((q : Int))), (25, vl ((cc : Int))), (23, vl R), (21, vl S), (19, vl U), (17, vl A), (27, vi wg), (15, vl (s.1 170 26)), (13, vl r0), (11, vl v0), (9, vl u0), (7, vl a0), (6, vi (((m + 1 + 1 + 1 + 1 + 1 + 1 + 1 + 1 + 1 + 1 : Nat) : Int))), (4, vi (((m + 1 + 1 + 1 : Nat) : Int))), (3, vi (((m + 1 + 1 : Nat) : Int))), (2, vi (s.1 170 5)), (0, .ref 170), (1, vi deep)] [vi z80] s24 _
                refine wr_n (pc2 := 276) (lv2 := [(27, vi z80), (5, vi ((q : Int))), (25, vl ((cc : Int))), (23, vl R), (21, vl S), (19, vl U), (17, vl A), (15, vl (s.1 170 26)), (13, vl r0), (11, vl v0), (9, vl u0), (7, vl a0), (6, vi (((m + 1 + 1 + 1 + 1 + 1 + 1 + 1 + 1 + 1 + 1 : Nat) : Int))), (4, vi (((m + 1 + 1 + 1 : Nat) : Int))), (3, vi (((m + 1 + 1 : Nat) : Int))), (2, vi (s.1 170 5)), (0, .ref 170), (1, vi deep)]) (st2 := []) 1 (fun _ _ => rfl) ?_
                exact j276 _ ⟨by omega, fun h9 => absurd h9 (by omega)⟩
              · refine wr_if1f rfl rfl (by unfold i32; omega) h79 ?_
                refine wr_n (pc2 := 235) (lv2 := [(5, vi ((q : Int))), (25, vl ((cc : Int))), (23, vl R), (21, vl S), (19, vl U), (17, vl A), (27, vi wg), (15, vl (s.1 170 26)), (13, vl r0), (11, vl v0), (9, vl u0), (7, vl a0), (6, vi (((m + 1 + 1 + 1 + 1 + 1 + 1 + 1 + 1 + 1 + 1 : Nat) : Int))), (4, vi (((m + 1 + 1 + 1 : Nat) : Int))), (3, vi (((m + 1 + 1 : Nat) : Int))), (2, vi (s.1 170 5)), (0, .ref 170), (1, vi deep)]) (st2 := [.ref 170, vl S, vi wg]) 2 (fun _ _ => rfl) ?_
                refine wr_get (v := vl (s24.1 170 24)) rfl rfl rfl (by decide) rfl fun h82 => ?_
                show wr (n + 400) tb_M155 238 [(5, vi ((q : Int))), (25, vl ((cc : Int))), (23, vl R), (21, vl S), (19, vl U), (17, vl A), (27, vi wg), (15, vl (s.1 170 26)), (13, vl r0), (11, vl v0), (9, vl u0), (7, vl a0), (6, vi (((m + 1 + 1 + 1 + 1 + 1 + 1 + 1 + 1 + 1 + 1 : Nat) : Int))), (4, vi (((m + 1 + 1 + 1 : Nat) : Int))), (3, vi (((m + 1 + 1 : Nat) : Int))), (2, vi (s.1 170 5)), (0, .ref 170), (1, vi deep)] [vl (s24.1 170 24), vl S, vi wg] s24 _
                refine wr_land (a := S) (b := s24.1 170 24) rfl fun z83 h84 h85 => ?_
                show wr (n + 400) tb_M155 239 [(5, vi ((q : Int))), (25, vl ((cc : Int))), (23, vl R), (21, vl S), (19, vl U), (17, vl A), (27, vi wg), (15, vl (s.1 170 26)), (13, vl r0), (11, vl v0), (9, vl u0), (7, vl a0), (6, vi (((m + 1 + 1 + 1 + 1 + 1 + 1 + 1 + 1 + 1 + 1 : Nat) : Int))), (4, vi (((m + 1 + 1 + 1 : Nat) : Int))), (3, vi (((m + 1 + 1 : Nat) : Int))), (2, vi (s.1 170 5)), (0, .ref 170), (1, vi deep)] [vl z83, vi wg] s24 _
                refine wr_n (pc2 := 240) (lv2 := [(5, vi ((q : Int))), (25, vl ((cc : Int))), (23, vl R), (21, vl S), (19, vl U), (17, vl A), (27, vi wg), (15, vl (s.1 170 26)), (13, vl r0), (11, vl v0), (9, vl u0), (7, vl a0), (6, vi (((m + 1 + 1 + 1 + 1 + 1 + 1 + 1 + 1 + 1 + 1 : Nat) : Int))), (4, vi (((m + 1 + 1 + 1 : Nat) : Int))), (3, vi (((m + 1 + 1 : Nat) : Int))), (2, vi (s.1 170 5)), (0, .ref 170), (1, vi deep)]) (st2 := [vl 0, vl z83, vi wg]) 1 (fun _ _ => rfl) ?_
                refine wr_lcmp (a := z83) (b := 0) rfl h84 (by unfold i64; omega) fun z86 h87 => ?_
                show wr (n + 400) tb_M155 241 [(5, vi ((q : Int))), (25, vl ((cc : Int))), (23, vl R), (21, vl S), (19, vl U), (17, vl A), (27, vi wg), (15, vl (s.1 170 26)), (13, vl r0), (11, vl v0), (9, vl u0), (7, vl a0), (6, vi (((m + 1 + 1 + 1 + 1 + 1 + 1 + 1 + 1 + 1 + 1 : Nat) : Int))), (4, vi (((m + 1 + 1 + 1 : Nat) : Int))), (3, vi (((m + 1 + 1 : Nat) : Int))), (2, vi (s.1 170 5)), (0, .ref 170), (1, vi deep)] [vi z86, vi wg] s24 _
                by_cases h88 : z86 ≠ 0
                · refine wr_if1t rfl rfl (by unfold i32; omega) h88 ?_
                  refine wr_n (pc2 := 273) (lv2 := [(5, vi ((q : Int))), (25, vl ((cc : Int))), (23, vl R), (21, vl S), (19, vl U), (17, vl A), (27, vi wg), (15, vl (s.1 170 26)), (13, vl r0), (11, vl v0), (9, vl u0), (7, vl a0), (6, vi (((m + 1 + 1 + 1 + 1 + 1 + 1 + 1 + 1 + 1 + 1 : Nat) : Int))), (4, vi (((m + 1 + 1 + 1 : Nat) : Int))), (3, vi (((m + 1 + 1 : Nat) : Int))), (2, vi (s.1 170 5)), (0, .ref 170), (1, vi deep)]) (st2 := [vi 1, vi wg]) 2 (fun _ _ => rfl) ?_
                  refine wr_ior01 (a := wg) (b := 1) rfl (by omega) (by omega) fun z89 h90 => ?_
                  show wr (n + 400) tb_M155 274 [(5, vi ((q : Int))), (25, vl ((cc : Int))), (23, vl R), (21, vl S), (19, vl U), (17, vl A), (27, vi wg), (15, vl (s.1 170 26)), (13, vl r0), (11, vl v0), (9, vl u0), (7, vl a0), (6, vi (((m + 1 + 1 + 1 + 1 + 1 + 1 + 1 + 1 + 1 + 1 : Nat) : Int))), (4, vi (((m + 1 + 1 + 1 : Nat) : Int))), (3, vi (((m + 1 + 1 : Nat) : Int))), (2, vi (s.1 170 5)), (0, .ref 170), (1, vi deep)] [vi z89] s24 _
                  refine wr_n (pc2 := 276) (lv2 := [(27, vi z89), (5, vi ((q : Int))), (25, vl ((cc : Int))), (23, vl R), (21, vl S), (19, vl U), (17, vl A), (15, vl (s.1 170 26)), (13, vl r0), (11, vl v0), (9, vl u0), (7, vl a0), (6, vi (((m + 1 + 1 + 1 + 1 + 1 + 1 + 1 + 1 + 1 + 1 : Nat) : Int))), (4, vi (((m + 1 + 1 + 1 : Nat) : Int))), (3, vi (((m + 1 + 1 : Nat) : Int))), (2, vi (s.1 170 5)), (0, .ref 170), (1, vi deep)]) (st2 := []) 1 (fun _ _ => rfl) ?_
                  exact j276 _ ⟨by omega, fun h9 => absurd h9 (by omega)⟩
                · refine wr_if1f rfl rfl (by unfold i32; omega) h88 ?_
                  refine wr_n (pc2 := 247) (lv2 := [(5, vi ((q : Int))), (25, vl ((cc : Int))), (23, vl R), (21, vl S), (19, vl U), (17, vl A), (27, vi wg), (15, vl (s.1 170 26)), (13, vl r0), (11, vl v0), (9, vl u0), (7, vl a0), (6, vi (((m + 1 + 1 + 1 + 1 + 1 + 1 + 1 + 1 + 1 + 1 : Nat) : Int))), (4, vi (((m + 1 + 1 + 1 : Nat) : Int))), (3, vi (((m + 1 + 1 : Nat) : Int))), (2, vi (s.1 170 5)), (0, .ref 170), (1, vi deep)]) (st2 := [.ref 170, vl R, vi wg]) 2 (fun _ _ => rfl) ?_
                  refine wr_get (v := vl (s24.1 170 25)) rfl rfl rfl (by decide) rfl fun h91 => ?_
                  show wr (n + 400) tb_M155 250 [(5, vi ((q : Int))), (25, vl ((cc : Int))), (23, vl R), (21, vl S), (19, vl U), (17, vl A), (27, vi wg), (15, vl (s.1 170 26)), (13, vl r0), (11, vl v0), (9, vl u0), (7, vl a0), (6, vi (((m + 1 + 1 + 1 + 1 + 1 + 1 + 1 + 1 + 1 + 1 : Nat) : Int))), (4, vi (((m + 1 + 1 + 1 : Nat) : Int))), (3, vi (((m + 1 + 1 : Nat) : Int))), (2, vi (s.1 170 5)), (0, .ref 170), (1, vi deep)] [vl (s24.1 170 25), vl R, vi wg] s24 _
                  refine wr_land (a := R) (b := s24.1 170 25) rfl fun z92 h93 h94 => ?_
                  show wr (n + 400) tb_M155 251 [(5, vi ((q : Int))), (25, vl ((cc : Int))), (23, vl R), (21, vl S), (19, vl U), (17, vl A), (27, vi wg), (15, vl (s.1 170 26)), (13, vl r0), (11, vl v0), (9, vl u0), (7, vl a0), (6, vi (((m + 1 + 1 + 1 + 1 + 1 + 1 + 1 + 1 + 1 + 1 : Nat) : Int))), (4, vi (((m + 1 + 1 + 1 : Nat) : Int))), (3, vi (((m + 1 + 1 : Nat) : Int))), (2, vi (s.1 170 5)), (0, .ref 170), (1, vi deep)] [vl z92, vi wg] s24 _
                  refine wr_n (pc2 := 252) (lv2 := [(5, vi ((q : Int))), (25, vl ((cc : Int))), (23, vl R), (21, vl S), (19, vl U), (17, vl A), (27, vi wg), (15, vl (s.1 170 26)), (13, vl r0), (11, vl v0), (9, vl u0), (7, vl a0), (6, vi (((m + 1 + 1 + 1 + 1 + 1 + 1 + 1 + 1 + 1 + 1 : Nat) : Int))), (4, vi (((m + 1 + 1 + 1 : Nat) : Int))), (3, vi (((m + 1 + 1 : Nat) : Int))), (2, vi (s.1 170 5)), (0, .ref 170), (1, vi deep)]) (st2 := [vl 0, vl z92, vi wg]) 1 (fun _ _ => rfl) ?_
                  refine wr_lcmp (a := z92) (b := 0) rfl h93 (by unfold i64; omega) fun z95 h96 => ?_
                  show wr (n + 400) tb_M155 253 [(5, vi ((q : Int))), (25, vl ((cc : Int))), (23, vl R), (21, vl S), (19, vl U), (17, vl A), (27, vi wg), (15, vl (s.1 170 26)), (13, vl r0), (11, vl v0), (9, vl u0), (7, vl a0), (6, vi (((m + 1 + 1 + 1 + 1 + 1 + 1 + 1 + 1 + 1 + 1 : Nat) : Int))), (4, vi (((m + 1 + 1 + 1 : Nat) : Int))), (3, vi (((m + 1 + 1 : Nat) : Int))), (2, vi (s.1 170 5)), (0, .ref 170), (1, vi deep)] [vi z95, vi wg] s24 _
                  by_cases h97 : z95 ≠ 0
                  · refine wr_if1t rfl rfl (by unfold i32; omega) h97 ?_
                    refine wr_n (pc2 := 273) (lv2 := [(5, vi ((q : Int))), (25, vl ((cc : Int))), (23, vl R), (21, vl S), (19, vl U), (17, vl A), (27, vi wg), (15, vl (s.1 170 26)), (13, vl r0), (11, vl v0), (9, vl u0), (7, vl a0), (6, vi (((m + 1 + 1 + 1 + 1 + 1 + 1 + 1 + 1 + 1 + 1 : Nat) : Int))), (4, vi (((m + 1 + 1 + 1 : Nat) : Int))), (3, vi (((m + 1 + 1 : Nat) : Int))), (2, vi (s.1 170 5)), (0, .ref 170), (1, vi deep)]) (st2 := [vi 1, vi wg]) 2 (fun _ _ => rfl) ?_
                    refine wr_ior01 (a := wg) (b := 1) rfl (by omega) (by omega) fun z98 h99 => ?_
                    show wr (n + 400) tb_M155 274 [(5, vi ((q : Int))), (25, vl ((cc : Int))), (23, vl R), (21, vl S), (19, vl U), (17, vl A), (27, vi wg), (15, vl (s.1 170 26)), (13, vl r0), (11, vl v0), (9, vl u0), (7, vl a0), (6, vi (((m + 1 + 1 + 1 + 1 + 1 + 1 + 1 + 1 + 1 + 1 : Nat) : Int))), (4, vi (((m + 1 + 1 + 1 : Nat) : Int))), (3, vi (((m + 1 + 1 : Nat) : Int))), (2, vi (s.1 170 5)), (0, .ref 170), (1, vi deep)] [vi z98] s24 _
                    refine wr_n (pc2 := 276) (lv2 := [(27, vi z98), (5, vi ((q : Int))), (25, vl ((cc : Int))), (23, vl R), (21, vl S), (19, vl U), (17, vl A), (15, vl (s.1 170 26)), (13, vl r0), (11, vl v0), (9, vl u0), (7, vl a0), (6, vi (((m + 1 + 1 + 1 + 1 + 1 + 1 + 1 + 1 + 1 + 1 : Nat) : Int))), (4, vi (((m + 1 + 1 + 1 : Nat) : Int))), (3, vi (((m + 1 + 1 : Nat) : Int))), (2, vi (s.1 170 5)), (0, .ref 170), (1, vi deep)]) (st2 := []) 1 (fun _ _ => rfl) ?_
                    exact j276 _ ⟨by omega, fun h9 => absurd h9 (by omega)⟩
                  · refine wr_if1f rfl rfl (by unfold i32; omega) h97 ?_
                    refine wr_n (pc2 := 259) (lv2 := [(5, vi ((q : Int))), (25, vl ((cc : Int))), (23, vl R), (21, vl S), (19, vl U), (17, vl A), (27, vi wg), (15, vl (s.1 170 26)), (13, vl r0), (11, vl v0), (9, vl u0), (7, vl a0), (6, vi (((m + 1 + 1 + 1 + 1 + 1 + 1 + 1 + 1 + 1 + 1 : Nat) : Int))), (4, vi (((m + 1 + 1 + 1 : Nat) : Int))), (3, vi (((m + 1 + 1 : Nat) : Int))), (2, vi (s.1 170 5)), (0, .ref 170), (1, vi deep)]) (st2 := [.ref 170, vl ((cc : Int)), vi wg]) 2 (fun _ _ => rfl) ?_
                    refine wr_get (v := vl (s24.1 170 26)) rfl rfl rfl (by decide) rfl fun h100 => ?_
                    show wr (n + 400) tb_M155 262 [(5, vi ((q : Int))), (25, vl ((cc : Int))), (23, vl R), (21, vl S), (19, vl U), (17, vl A), (27, vi wg), (15, vl (s.1 170 26)), (13, vl r0), (11, vl v0), (9, vl u0), (7, vl a0), (6, vi (((m + 1 + 1 + 1 + 1 + 1 + 1 + 1 + 1 + 1 + 1 : Nat) : Int))), (4, vi (((m + 1 + 1 + 1 : Nat) : Int))), (3, vi (((m + 1 + 1 : Nat) : Int))), (2, vi (s.1 170 5)), (0, .ref 170), (1, vi deep)] [vl (s24.1 170 26), vl ((cc : Int)), vi wg] s24 _
                    refine wr_land (a := (cc : Int)) (b := s24.1 170 26) rfl fun z101 h102 h103 => ?_
                    show wr (n + 400) tb_M155 263 [(5, vi ((q : Int))), (25, vl ((cc : Int))), (23, vl R), (21, vl S), (19, vl U), (17, vl A), (27, vi wg), (15, vl (s.1 170 26)), (13, vl r0), (11, vl v0), (9, vl u0), (7, vl a0), (6, vi (((m + 1 + 1 + 1 + 1 + 1 + 1 + 1 + 1 + 1 + 1 : Nat) : Int))), (4, vi (((m + 1 + 1 + 1 : Nat) : Int))), (3, vi (((m + 1 + 1 : Nat) : Int))), (2, vi (s.1 170 5)), (0, .ref 170), (1, vi deep)] [vl z101, vi wg] s24 _
                    refine wr_n (pc2 := 264) (lv2 := [(5, vi ((q : Int))), (25, vl ((cc : Int))), (23, vl R), (21, vl S), (19, vl U), (17, vl A), (27, vi wg), (15, vl (s.1 170 26)), (13, vl r0), (11, vl v0), (9, vl u0), (7, vl a0), (6, vi (((m + 1 + 1 + 1 + 1 + 1 + 1 + 1 + 1 + 1 + 1 : Nat) : Int))), (4, vi (((m + 1 + 1 + 1 : Nat) : Int))), (3, vi (((m + 1 + 1 : Nat) : Int))), (2, vi (s.1 170 5)), (0, .ref 170), (1, vi deep)]) (st2 := [vl 0, vl z101, vi wg]) 1 (fun _ _ => rfl) ?_
                    refine wr_lcmp (a := z101) (b := 0) rfl h102 (by unfold i64; omega) fun z104 h105 => ?_
                    show wr (n + 400) tb_M155 265 [(5, vi ((q : Int))), (25, vl ((cc : Int))), (23, vl R), (21, vl S), (19, vl U), (17, vl A), (27, vi wg), (15, vl (s.1 170 26)), (13, vl r0), (11, vl v0), (9, vl u0), (7, vl a0), (6, vi (((m + 1 + 1 + 1 + 1 + 1 + 1 + 1 + 1 + 1 + 1 : Nat) : Int))), (4, vi (((m + 1 + 1 + 1 : Nat) : Int))), (3, vi (((m + 1 + 1 : Nat) : Int))), (2, vi (s.1 170 5)), (0, .ref 170), (1, vi deep)] [vi z104, vi wg] s24 _
                    by_cases h106 : z104 = 0
                    · refine wr_if1t rfl rfl (by unfold i32; omega) h106 ?_
                      obtain ⟨cm, hcm1, hcm2, -⟩ := MB_lt (BX_mb (BX_tr hC hBk18 hBk23) (by rw [hU16 170 26 (by omega)]; exact hst)) hnr
                      have hand : cc &&& (s24.1 170 26).toNat = 0 := by have h8 := h103 cc cm rfl hcm1 (by omega) hcm2; rw [hcm1, Int.toNat_natCast]; omega
                      refine wr_n (pc2 := 273) (lv2 := [(5, vi ((q : Int))), (25, vl ((cc : Int))), (23, vl R), (21, vl S), (19, vl U), (17, vl A), (27, vi wg), (15, vl (s.1 170 26)), (13, vl r0), (11, vl v0), (9, vl u0), (7, vl a0), (6, vi (((m + 1 + 1 + 1 + 1 + 1 + 1 + 1 + 1 + 1 + 1 : Nat) : Int))), (4, vi (((m + 1 + 1 + 1 : Nat) : Int))), (3, vi (((m + 1 + 1 : Nat) : Int))), (2, vi (s.1 170 5)), (0, .ref 170), (1, vi deep)]) (st2 := [vi 0, vi wg]) 1 (fun _ _ => rfl) ?_
                      refine wr_ior01 (a := wg) (b := 0) rfl (by omega) (by omega) fun z107 h108 => ?_
                      show wr (n + 400) tb_M155 274 [(5, vi ((q : Int))), (25, vl ((cc : Int))), (23, vl R), (21, vl S), (19, vl U), (17, vl A), (27, vi wg), (15, vl (s.1 170 26)), (13, vl r0), (11, vl v0), (9, vl u0), (7, vl a0), (6, vi (((m + 1 + 1 + 1 + 1 + 1 + 1 + 1 + 1 + 1 + 1 : Nat) : Int))), (4, vi (((m + 1 + 1 + 1 : Nat) : Int))), (3, vi (((m + 1 + 1 : Nat) : Int))), (2, vi (s.1 170 5)), (0, .ref 170), (1, vi deep)] [vi z107] s24 _
                      refine wr_n (pc2 := 276) (lv2 := [(27, vi z107), (5, vi ((q : Int))), (25, vl ((cc : Int))), (23, vl R), (21, vl S), (19, vl U), (17, vl A), (15, vl (s.1 170 26)), (13, vl r0), (11, vl v0), (9, vl u0), (7, vl a0), (6, vi (((m + 1 + 1 + 1 + 1 + 1 + 1 + 1 + 1 + 1 + 1 : Nat) : Int))), (4, vi (((m + 1 + 1 + 1 : Nat) : Int))), (3, vi (((m + 1 + 1 : Nat) : Int))), (2, vi (s.1 170 5)), (0, .ref 170), (1, vi deep)]) (st2 := []) 1 (fun _ _ => rfl) ?_
                      exact j276 _ ⟨by omega, fun h9 => ⟨by omega, hand⟩⟩
                    · refine wr_if1f rfl rfl (by unfold i32; omega) h106 ?_
                      refine wr_n (pc2 := 273) (lv2 := [(5, vi ((q : Int))), (25, vl ((cc : Int))), (23, vl R), (21, vl S), (19, vl U), (17, vl A), (27, vi wg), (15, vl (s.1 170 26)), (13, vl r0), (11, vl v0), (9, vl u0), (7, vl a0), (6, vi (((m + 1 + 1 + 1 + 1 + 1 + 1 + 1 + 1 + 1 + 1 : Nat) : Int))), (4, vi (((m + 1 + 1 + 1 : Nat) : Int))), (3, vi (((m + 1 + 1 : Nat) : Int))), (2, vi (s.1 170 5)), (0, .ref 170), (1, vi deep)]) (st2 := [vi 1, vi wg]) 2 (fun _ _ => rfl) ?_
                      refine wr_ior01 (a := wg) (b := 1) rfl (by omega) (by omega) fun z109 h110 => ?_
                      show wr (n + 400) tb_M155 274 [(5, vi ((q : Int))), (25, vl ((cc : Int))), (23, vl R), (21, vl S), (19, vl U), (17, vl A), (27, vi wg), (15, vl (s.1 170 26)), (13, vl r0), (11, vl v0), (9, vl u0), (7, vl a0), (6, vi (((m + 1 + 1 + 1 + 1 + 1 + 1 + 1 + 1 + 1 + 1 : Nat) : Int))), (4, vi (((m + 1 + 1 + 1 : Nat) : Int))), (3, vi (((m + 1 + 1 : Nat) : Int))), (2, vi (s.1 170 5)), (0, .ref 170), (1, vi deep)] [vi z109] s24 _
                      refine wr_n (pc2 := 276) (lv2 := [(27, vi z109), (5, vi ((q : Int))), (25, vl ((cc : Int))), (23, vl R), (21, vl S), (19, vl U), (17, vl A), (15, vl (s.1 170 26)), (13, vl r0), (11, vl v0), (9, vl u0), (7, vl a0), (6, vi (((m + 1 + 1 + 1 + 1 + 1 + 1 + 1 + 1 + 1 + 1 : Nat) : Int))), (4, vi (((m + 1 + 1 + 1 : Nat) : Int))), (3, vi (((m + 1 + 1 : Nat) : Int))), (2, vi (s.1 170 5)), (0, .ref 170), (1, vi deep)]) (st2 := []) 1 (fun _ _ => rfl) ?_
                      exact j276 _ ⟨by omega, fun h9 => absurd h9 (by omega)⟩
    · refine wr_if2f rfl rfl (by unfold i32; omega) (by unfold i32; omega) h1 ?_
      refine wr_n (pc2 := 142) (lv2 := [(5, vi ((q : Int))), (25, vl ((cc : Int))), (23, vl R), (21, vl S), (19, vl U), (17, vl A), (27, vi wg), (15, vl (s.1 170 26)), (13, vl r0), (11, vl v0), (9, vl u0), (7, vl a0), (6, vi (((m + 1 + 1 + 1 + 1 + 1 + 1 + 1 + 1 + 1 + 1 : Nat) : Int))), (4, vi (((m + 1 + 1 + 1 : Nat) : Int))), (3, vi (((m + 1 + 1 : Nat) : Int))), (2, vi (s.1 170 5)), (0, .ref 170), (1, vi deep)]) (st2 := [.ref 170]) 1 (fun _ _ => rfl) ?_
      refine wr_call1 (args := []) (rest := []) rfl rfl rfl rfl (Nat.le_of_ble_eq_true rfl) (cr_mono (x_bad0 (C := C) (d := n + 398) _ htR) ?_)
      rintro s112 out ⟨rfl, hc111, hF111⟩
      · refine ⟨_, rfl, ?_⟩
        show wr (n + 400) tb_M155 145 [(5, vi ((q : Int))), (25, vl ((cc : Int))), (23, vl R), (21, vl S), (19, vl U), (17, vl A), (27, vi wg), (15, vl (s.1 170 26)), (13, vl r0), (11, vl v0), (9, vl u0), (7, vl a0), (6, vi (((m + 1 + 1 + 1 + 1 + 1 + 1 + 1 + 1 + 1 + 1 : Nat) : Int))), (4, vi (((m + 1 + 1 + 1 : Nat) : Int))), (3, vi (((m + 1 + 1 : Nat) : Int))), (2, vi (s.1 170 5)), (0, .ref 170), (1, vi deep)] [vi 0] s112 _
        refine wr_end (fun _ _ => rfl) ?_
        exact ⟨0, rfl, hc111.trans ht2, Or.inl ⟨rfl, FR_tr (BX_FR htB) hF111⟩⟩
  have lpA : ∀ (t : rS) (mt kt q cc : Nat) (A U S R a0 u0 v0 r0 wg : Int), RF t.1 → PI C y t.1 → BX C (gn y) s.1 t.1 → t.2 = s.2 → t.1 C 1 = (mt : Int) → (s.1 C 3 ≤ t.1 C 3 ∧ t.1 C 3 - s.1 C 3 ≤ (mt : Int) - m ∧ (mt : Int) - m ≤ 12 * (t.1 170 5 - s.1 170 5) - 20 ∧ s.1 C 10 ≤ t.1 C 10 ∧ t.1 C 10 - s.1 C 10 ≤ t.1 170 5 - s.1 170 5 ∧ s.1 170 16 ≤ t.1 170 16 ∧ t.1 170 16 - s.1 170 16 ≤ t.1 170 5 - s.1 170 5 ∧ m + 11 ≤ mt ∧ k0 ≤ kt ∧ s.1 170 5 + 3 * kt + 3 ≤ t.1 170 5 + 3 * k0 ∧ t.1 170 14 = s.1 170 14 ∧ cc < 4096 ∧ 0 ≤ wg ∧ wg ≤ 1 ∧ q ≤ 6) → (i64 A ∧ i64 U ∧ i64 S ∧ i64 R ∧ i64 a0 ∧ i64 u0 ∧ i64 v0 ∧ i64 r0) → (∀ b, cc.testBit b = true → b < gn y) → (t.1 (C + 1) m = 0 ∧ t.1 (C + 1) (m + 1) = 19 ∧ t.1 (C + 1) (m + 9) = 9) → (t.1 170 21 < 0 → wg = 0 → PB (ga y) (t.1 (C + 1)) (gG y) (gn y) (gk y) m q mt k0 kt cc) → (q = 0 ∧ s.1 170 5 + 3 * kt + 4 ≤ t.1 170 5 + 3 * k0) → wr (n + 400) tb_M155 134 [(27, vi wg), (25, vl ((cc : Int))), (23, vl R), (21, vl S), (19, vl U), (17, vl A), (15, vl (s.1 170 26)), (13, vl r0), (11, vl v0), (9, vl u0), (7, vl a0), (6, vi (((m + 1 + 1 + 1 + 1 + 1 + 1 + 1 + 1 + 1 + 1 : Nat) : Int))), (5, vi ((q : Int))), (4, vi (((m + 1 + 1 + 1 : Nat) : Int))), (3, vi (((m + 1 + 1 : Nat) : Int))), (2, vi (s.1 170 5)), (0, .ref 170), (1, vi deep)] [] t (SP C y m k0 0 s) := by
    intro t mt kt q cc A U S R a0 u0 v0 r0 wg htR htP htB ht2 htm htn htl htb htc htE hq0
    have hx1 := LX_nums htP
    refine wr_n (pc2 := 138) (lv2 := [(27, vi wg), (25, vl ((cc : Int))), (23, vl R), (21, vl S), (19, vl U), (17, vl A), (15, vl (s.1 170 26)), (13, vl r0), (11, vl v0), (9, vl u0), (7, vl a0), (6, vi (((m + 1 + 1 + 1 + 1 + 1 + 1 + 1 + 1 + 1 + 1 : Nat) : Int))), (5, vi ((q : Int))), (4, vi (((m + 1 + 1 + 1 : Nat) : Int))), (3, vi (((m + 1 + 1 : Nat) : Int))), (2, vi (s.1 170 5)), (0, .ref 170), (1, vi deep)]) (st2 := [vi 6, vi ((q : Int))]) 2 (fun _ _ => rfl) ?_
    by_cases h1 : (q : Int) ≠ 6
    · refine wr_if2t rfl rfl (by unfold i32; omega) (by unfold i32; omega) h1 ?_
      refine wr_n (pc2 := 148) (lv2 := [(27, vi wg), (25, vl ((cc : Int))), (23, vl R), (21, vl S), (19, vl U), (17, vl A), (15, vl (s.1 170 26)), (13, vl r0), (11, vl v0), (9, vl u0), (7, vl a0), (6, vi (((m + 1 + 1 + 1 + 1 + 1 + 1 + 1 + 1 + 1 + 1 : Nat) : Int))), (5, vi ((q : Int))), (4, vi (((m + 1 + 1 + 1 : Nat) : Int))), (3, vi (((m + 1 + 1 : Nat) : Int))), (2, vi (s.1 170 5)), (0, .ref 170), (1, vi deep)]) (st2 := [vi ((q : Int))]) 1 (fun _ _ => rfl) ?_
      refine wr_if1t rfl rfl (by unfold i32; omega) (by show (q : Int) ≤ 0; omega) ?_
      show wr (n + 400) tb_M155 155 [(27, vi wg), (25, vl ((cc : Int))), (23, vl R), (21, vl S), (19, vl U), (17, vl A), (15, vl (s.1 170 26)), (13, vl r0), (11, vl v0), (9, vl u0), (7, vl a0), (6, vi (((m + 1 + 1 + 1 + 1 + 1 + 1 + 1 + 1 + 1 + 1 : Nat) : Int))), (5, vi ((q : Int))), (4, vi (((m + 1 + 1 + 1 : Nat) : Int))), (3, vi (((m + 1 + 1 : Nat) : Int))), (2, vi (s.1 170 5)), (0, .ref 170), (1, vi deep)] [] t _
      have hfr : s.1 170 5 + 3 * kt + 4 ≤ t.1 170 5 + 3 * k0 := by omega
      refine wr_n (pc2 := 156) (lv2 := [(27, vi wg), (25, vl ((cc : Int))), (23, vl R), (21, vl S), (19, vl U), (17, vl A), (15, vl (s.1 170 26)), (13, vl r0), (11, vl v0), (9, vl u0), (7, vl a0), (6, vi (((m + 1 + 1 + 1 + 1 + 1 + 1 + 1 + 1 + 1 + 1 : Nat) : Int))), (5, vi ((q : Int))), (4, vi (((m + 1 + 1 + 1 : Nat) : Int))), (3, vi (((m + 1 + 1 : Nat) : Int))), (2, vi (s.1 170 5)), (0, .ref 170), (1, vi deep)]) (st2 := [.ref 170]) 1 (fun _ _ => rfl) ?_
      refine wr_call1 (args := []) (rest := []) rfl rfl rfl rfl (Nat.le_of_ble_eq_true rfl) (cr_mono (c_forget (d := n + 399) _ htR) ?_)
      rintro s3 out ⟨rfl, e2⟩
      refine ⟨_, rfl, ?_⟩
      rw [e2]
      show wr (n + 400) tb_M155 159 [(27, vi wg), (25, vl ((cc : Int))), (23, vl R), (21, vl S), (19, vl U), (17, vl A), (15, vl (s.1 170 26)), (13, vl r0), (11, vl v0), (9, vl u0), (7, vl a0), (6, vi (((m + 1 + 1 + 1 + 1 + 1 + 1 + 1 + 1 + 1 + 1 : Nat) : Int))), (5, vi ((q : Int))), (4, vi (((m + 1 + 1 + 1 : Nat) : Int))), (3, vi (((m + 1 + 1 : Nat) : Int))), (2, vi (s.1 170 5)), (0, .ref 170), (1, vi deep)] [] (up2 (up2 (up2 (up2 (up2 t.1 170 22 0) 170 23 0) 170 24 0) 170 25 0) 170 26 0, t.2) _
      have hR4 : RF (up2 (up2 (up2 (up2 (up2 t.1 170 22 0) 170 23 0) 170 24 0) 170 25 0) 170 26 0) := (RF_up (RF_up (RF_up (RF_up (RF_up htR rfl) rfl) rfl) rfl) rfl)
      obtain ⟨s5, hs5⟩ : ∃ qq9 : rS, qq9 = (up2 (up2 (up2 (up2 (up2 t.1 170 22 0) 170 23 0) 170 24 0) 170 25 0) 170 26 0, t.2) := ⟨_, rfl⟩
      rw [← hs5]
      have hK5 : KM t.1 s5.1 := by rw [hs5]; exact (KM_up (KM_up (KM_up (KM_up (KM_up KM_rf (by omega)) (by omega)) (by omega)) (by omega)) (by omega))
      have hk5 := KM_nums hC hK5
      have hM5 : True ∧ (MB (gn y) (t.1 170 26) → MB (gn y) (s5.1 170 26)) := by rw [hs5]; exact ⟨trivial, fun _ => MB_zero⟩
      have hBk5 : BX C (gn y) t.1 s5.1 := BX_KM hC htP hK5 hM5
      have hR5 : RF s5.1 := BX_RF hC hBk5 htR
      have hc5 : s5.2 = t.2 := by rw [hs5]
      have hm5 : s5.1 C 1 = ((mt : Nat) : Int) := by omega
      have hB6 : BX C (gn y) s.1 s5.1 := BX_tr hC htB hBk5
      have hP6 : PI C y s5.1 := PI_BX hC hP hB6
      have hz6 : s5.2 = s.2 := hc5.trans ht2
      have hF6 : s5.1 170 4 = t.1 170 4 ∧ s5.1 170 5 = t.1 170 5 ∧ s5.1 170 6 = t.1 170 6 ∧ s5.1 170 7 = t.1 170 7 ∧ s5.1 170 14 = t.1 170 14 ∧ s5.1 170 16 = t.1 170 16 ∧ s5.1 170 21 = t.1 170 21 ∧ s5.1 C 3 = t.1 C 3 ∧ s5.1 C 10 = t.1 C 10 ∧ t.1 170 5 + 0 ≤ s5.1 170 5 ∧ 0 ≤ s5.1 170 5 ∧ s5.1 170 5 ≤ s5.1 170 6 ∧ s5.1 170 6 ≤ 2000 := by omega
      show wr (n + 400) tb_M155 159 [(27, vi wg), (25, vl ((cc : Int))), (23, vl R), (21, vl S), (19, vl U), (17, vl A), (15, vl (s.1 170 26)), (13, vl r0), (11, vl v0), (9, vl u0), (7, vl a0), (6, vi (((m + 1 + 1 + 1 + 1 + 1 + 1 + 1 + 1 + 1 + 1 : Nat) : Int))), (5, vi ((q : Int))), (4, vi (((m + 1 + 1 + 1 : Nat) : Int))), (3, vi (((m + 1 + 1 : Nat) : Int))), (2, vi (s.1 170 5)), (0, .ref 170), (1, vi deep)] [] s5 _
      have hst : MB (gn y) (s5.1 170 26) := by rw [hs5]; exact MB_zero
      have hfr2 : s.1 170 5 + 3 * kt + 4 ≤ s5.1 170 5 + 3 * k0 := by omega
      refine wr_n (pc2 := 160) (lv2 := [(27, vi wg), (25, vl ((cc : Int))), (23, vl R), (21, vl S), (19, vl U), (17, vl A), (15, vl (s.1 170 26)), (13, vl r0), (11, vl v0), (9, vl u0), (7, vl a0), (6, vi (((m + 1 + 1 + 1 + 1 + 1 + 1 + 1 + 1 + 1 + 1 : Nat) : Int))), (5, vi ((q : Int))), (4, vi (((m + 1 + 1 + 1 : Nat) : Int))), (3, vi (((m + 1 + 1 : Nat) : Int))), (2, vi (s.1 170 5)), (0, .ref 170), (1, vi deep)]) (st2 := [.ref 170]) 1 (fun _ _ => rfl) ?_
      refine wr_get (v := .ref C) rfl rfl rfl (by decide) (rv_ref (show s5.1 170 19 = ((C : Nat) : Int) from hP6.1)) fun h7 => ?_
      show wr (n + 400) tb_M155 163 [(27, vi wg), (25, vl ((cc : Int))), (23, vl R), (21, vl S), (19, vl U), (17, vl A), (15, vl (s.1 170 26)), (13, vl r0), (11, vl v0), (9, vl u0), (7, vl a0), (6, vi (((m + 1 + 1 + 1 + 1 + 1 + 1 + 1 + 1 + 1 + 1 : Nat) : Int))), (5, vi ((q : Int))), (4, vi (((m + 1 + 1 + 1 : Nat) : Int))), (3, vi (((m + 1 + 1 : Nat) : Int))), (2, vi (s.1 170 5)), (0, .ref 170), (1, vi deep)] [.ref C] s5 _
      refine wr_get (v := .ref (C + 1)) rfl rfl (TG_C hC) (by decide) (rv_ref (hR5 C 0 (C + 1) (rc_C0 hC))) fun h8 => ?_
      show wr (n + 400) tb_M155 166 [(27, vi wg), (25, vl ((cc : Int))), (23, vl R), (21, vl S), (19, vl U), (17, vl A), (15, vl (s.1 170 26)), (13, vl r0), (11, vl v0), (9, vl u0), (7, vl a0), (6, vi (((m + 1 + 1 + 1 + 1 + 1 + 1 + 1 + 1 + 1 + 1 : Nat) : Int))), (5, vi ((q : Int))), (4, vi (((m + 1 + 1 + 1 : Nat) : Int))), (3, vi (((m + 1 + 1 : Nat) : Int))), (2, vi (s.1 170 5)), (0, .ref 170), (1, vi deep)] [.ref (C + 1)] s5 _
      refine wr_n (pc2 := 170) (lv2 := [(27, vi wg), (25, vl ((cc : Int))), (23, vl R), (21, vl S), (19, vl U), (17, vl A), (15, vl (s.1 170 26)), (13, vl r0), (11, vl v0), (9, vl u0), (7, vl a0), (6, vi (((m + 1 + 1 + 1 + 1 + 1 + 1 + 1 + 1 + 1 + 1 : Nat) : Int))), (5, vi ((q : Int))), (4, vi (((m + 1 + 1 + 1 : Nat) : Int))), (3, vi (((m + 1 + 1 : Nat) : Int))), (2, vi (s.1 170 5)), (0, .ref 170), (1, vi deep)]) (st2 := [vi ((q : Int)), vi (((m + 1 + 1 + 1 : Nat) : Int)), .ref (C + 1)]) 2 (fun _ _ => rfl) ?_
      refine wr_add (a := ((m + 1 + 1 + 1 : Nat) : Int)) (b := (q : Int)) rfl ?_
      show wr (n + 400) tb_M155 171 [(27, vi wg), (25, vl ((cc : Int))), (23, vl R), (21, vl S), (19, vl U), (17, vl A), (15, vl (s.1 170 26)), (13, vl r0), (11, vl v0), (9, vl u0), (7, vl a0), (6, vi (((m + 1 + 1 + 1 + 1 + 1 + 1 + 1 + 1 + 1 + 1 : Nat) : Int))), (5, vi ((q : Int))), (4, vi (((m + 1 + 1 + 1 : Nat) : Int))), (3, vi (((m + 1 + 1 : Nat) : Int))), (2, vi (s.1 170 5)), (0, .ref 170), (1, vi deep)] [vi (((m + 1 + 1 + 1 : Nat) : Int) + ((q : Int))), .ref (C + 1)] s5 _
      rw [show ((m + 1 + 1 + 1 : Nat) : Int) + ((q : Int)) = ((m + 3 + q : Nat) : Int) by omega]
      show wr (n + 400) tb_M155 171 [(27, vi wg), (25, vl ((cc : Int))), (23, vl R), (21, vl S), (19, vl U), (17, vl A), (15, vl (s.1 170 26)), (13, vl r0), (11, vl v0), (9, vl u0), (7, vl a0), (6, vi (((m + 1 + 1 + 1 + 1 + 1 + 1 + 1 + 1 + 1 + 1 : Nat) : Int))), (5, vi ((q : Int))), (4, vi (((m + 1 + 1 + 1 : Nat) : Int))), (3, vi (((m + 1 + 1 : Nat) : Int))), (2, vi (s.1 170 5)), (0, .ref 170), (1, vi deep)] [vi (((m + 3 + q : Nat) : Int)), .ref (C + 1)] s5 _
      refine wr_n (pc2 := 172) (lv2 := [(27, vi wg), (25, vl ((cc : Int))), (23, vl R), (21, vl S), (19, vl U), (17, vl A), (15, vl (s.1 170 26)), (13, vl r0), (11, vl v0), (9, vl u0), (7, vl a0), (6, vi (((m + 1 + 1 + 1 + 1 + 1 + 1 + 1 + 1 + 1 + 1 : Nat) : Int))), (5, vi ((q : Int))), (4, vi (((m + 1 + 1 + 1 : Nat) : Int))), (3, vi (((m + 1 + 1 : Nat) : Int))), (2, vi (s.1 170 5)), (0, .ref 170), (1, vi deep)]) (st2 := [.ref 170, vi (((m + 3 + q : Nat) : Int)), .ref (C + 1)]) 1 (fun _ _ => rfl) ?_
      refine wr_get (v := .ref C) rfl rfl rfl (by decide) (rv_ref (show s5.1 170 19 = ((C : Nat) : Int) from hP6.1)) fun h9 => ?_
      show wr (n + 400) tb_M155 175 [(27, vi wg), (25, vl ((cc : Int))), (23, vl R), (21, vl S), (19, vl U), (17, vl A), (15, vl (s.1 170 26)), (13, vl r0), (11, vl v0), (9, vl u0), (7, vl a0), (6, vi (((m + 1 + 1 + 1 + 1 + 1 + 1 + 1 + 1 + 1 + 1 : Nat) : Int))), (5, vi ((q : Int))), (4, vi (((m + 1 + 1 + 1 : Nat) : Int))), (3, vi (((m + 1 + 1 : Nat) : Int))), (2, vi (s.1 170 5)), (0, .ref 170), (1, vi deep)] [.ref C, vi (((m + 3 + q : Nat) : Int)), .ref (C + 1)] s5 _
      refine wr_get (v := vi (s5.1 C 1)) rfl rfl (TG_C hC) (by decide) rfl fun h10 => ?_
      have h10 : -2147483648 ≤ s5.1 C 1 ∧ s5.1 C 1 ≤ 2147483647 := h10
      show wr (n + 400) tb_M155 178 [(27, vi wg), (25, vl ((cc : Int))), (23, vl R), (21, vl S), (19, vl U), (17, vl A), (15, vl (s.1 170 26)), (13, vl r0), (11, vl v0), (9, vl u0), (7, vl a0), (6, vi (((m + 1 + 1 + 1 + 1 + 1 + 1 + 1 + 1 + 1 + 1 : Nat) : Int))), (5, vi ((q : Int))), (4, vi (((m + 1 + 1 + 1 : Nat) : Int))), (3, vi (((m + 1 + 1 : Nat) : Int))), (2, vi (s.1 170 5)), (0, .ref 170), (1, vi deep)] [vi (s5.1 C 1), vi (((m + 3 + q : Nat) : Int)), .ref (C + 1)] s5 _
      rw [hm5]
      show wr (n + 400) tb_M155 178 [(27, vi wg), (25, vl ((cc : Int))), (23, vl R), (21, vl S), (19, vl U), (17, vl A), (15, vl (s.1 170 26)), (13, vl r0), (11, vl v0), (9, vl u0), (7, vl a0), (6, vi (((m + 1 + 1 + 1 + 1 + 1 + 1 + 1 + 1 + 1 + 1 : Nat) : Int))), (5, vi ((q : Int))), (4, vi (((m + 1 + 1 + 1 : Nat) : Int))), (3, vi (((m + 1 + 1 : Nat) : Int))), (2, vi (s.1 170 5)), (0, .ref 170), (1, vi deep)] [vi (((mt : Nat) : Int)), vi (((m + 3 + q : Nat) : Int)), .ref (C + 1)] s5 _
      refine wr_ast (a := ((m + 3 + q : Nat) : Int)) (z := ((mt : Nat) : Int)) rfl (show 96 ≤ C + 1 by omega) (TG_C1 hC) rfl (by omega) (by omega) (by decide) rfl (show -2147483648 ≤ ((mt : Nat) : Int) ∧ ((mt : Nat) : Int) ≤ 2147483647 by omega) ?_
      show wr (n + 400) tb_M155 179 [(27, vi wg), (25, vl ((cc : Int))), (23, vl R), (21, vl S), (19, vl U), (17, vl A), (15, vl (s.1 170 26)), (13, vl r0), (11, vl v0), (9, vl u0), (7, vl a0), (6, vi (((m + 1 + 1 + 1 + 1 + 1 + 1 + 1 + 1 + 1 + 1 : Nat) : Int))), (5, vi ((q : Int))), (4, vi (((m + 1 + 1 + 1 : Nat) : Int))), (3, vi (((m + 1 + 1 : Nat) : Int))), (2, vi (s.1 170 5)), (0, .ref 170), (1, vi deep)] [] (up2 s5.1 (C + 1) (m + 3 + q) (((mt : Nat) : Int)), s5.2) _
      have hR11 : RF (up2 s5.1 (C + 1) (m + 3 + q) (((mt : Nat) : Int))) := (RF_up hR5 (PS_rc hC (by unfold PS; omega)))
      obtain ⟨s12, hs12⟩ : ∃ qq9 : rS, qq9 = (up2 s5.1 (C + 1) (m + 3 + q) (((mt : Nat) : Int)), s5.2) := ⟨_, rfl⟩
      rw [← hs12]
      have hU12 : U1 (C + 1) (m + 3 + q) s5.1 s12.1 := by rw [hs12]; exact U1_up
      have hv12 : s12.1 (C + 1) (m + 3 + q) = ((mt : Nat) : Int) := by rw [hs12]; show up2 s5.1 (C + 1) (m + 3 + q) (((mt : Nat) : Int)) (C + 1) (m + 3 + q) = _; exact up_self
      have hk12 : s12.1 170 4 = s5.1 170 4 ∧ s12.1 170 5 = s5.1 170 5 ∧ s12.1 170 6 = s5.1 170 6 ∧ s12.1 170 7 = s5.1 170 7 ∧ s12.1 170 14 = s5.1 170 14 ∧ s12.1 170 16 = s5.1 170 16 ∧ s12.1 170 21 = s5.1 170 21 ∧ s12.1 C 1 = s5.1 C 1 ∧ s12.1 C 3 = s5.1 C 3 ∧ s12.1 C 10 = s5.1 C 10 := ⟨hU12 _ _ (by omega), hU12 _ _ (by omega), hU12 _ _ (by omega), hU12 _ _ (by omega), hU12 _ _ (by omega), hU12 _ _ (by omega), hU12 _ _ (by omega), hU12 _ _ (by omega), hU12 _ _ (by omega), hU12 _ _ (by omega)⟩
      have hBs12 : BX C (gn y) s.1 s12.1 := by rw [hs12]; exact BX_set hC hB6 (by unfold SS; omega) (by unfold quiet; omega)
      have hR12 : RF s12.1 := BX_RF hC hBs12 hR
      have hc12 : s12.2 = s5.2 := by rw [hs12]
      have hm12 : s12.1 C 1 = ((mt : Nat) : Int) := by omega
      have hB13 : BX C (gn y) s.1 s12.1 := hBs12
      have hP13 : PI C y s12.1 := PI_BX hC hP hB13
      have hz13 : s12.2 = s.2 := hc12.trans hz6
      have hF13 : s12.1 170 4 = t.1 170 4 ∧ s12.1 170 5 = t.1 170 5 ∧ s12.1 170 6 = t.1 170 6 ∧ s12.1 170 7 = t.1 170 7 ∧ s12.1 170 14 = t.1 170 14 ∧ s12.1 170 16 = t.1 170 16 ∧ s12.1 170 21 = t.1 170 21 ∧ s12.1 C 3 = t.1 C 3 ∧ s12.1 C 10 = t.1 C 10 ∧ t.1 170 5 + 0 ≤ s12.1 170 5 ∧ 0 ≤ s12.1 170 5 ∧ s12.1 170 5 ≤ s12.1 170 6 ∧ s12.1 170 6 ≤ 2000 := by omega
      clear hk12 hF6
      show wr (n + 400) tb_M155 179 [(27, vi wg), (25, vl ((cc : Int))), (23, vl R), (21, vl S), (19, vl U), (17, vl A), (15, vl (s.1 170 26)), (13, vl r0), (11, vl v0), (9, vl u0), (7, vl a0), (6, vi (((m + 1 + 1 + 1 + 1 + 1 + 1 + 1 + 1 + 1 + 1 : Nat) : Int))), (5, vi ((q : Int))), (4, vi (((m + 1 + 1 + 1 : Nat) : Int))), (3, vi (((m + 1 + 1 : Nat) : Int))), (2, vi (s.1 170 5)), (0, .ref 170), (1, vi deep)] [] s12 _
      refine wr_n (pc2 := 182) (lv2 := [(27, vi wg), (25, vl ((cc : Int))), (23, vl R), (21, vl S), (19, vl U), (17, vl A), (15, vl (s.1 170 26)), (13, vl r0), (11, vl v0), (9, vl u0), (7, vl a0), (6, vi (((m + 1 + 1 + 1 + 1 + 1 + 1 + 1 + 1 + 1 + 1 : Nat) : Int))), (5, vi ((q : Int))), (4, vi (((m + 1 + 1 + 1 : Nat) : Int))), (3, vi (((m + 1 + 1 : Nat) : Int))), (2, vi (s.1 170 5)), (0, .ref 170), (1, vi deep)]) (st2 := [vi 1, vi deep, .ref 170]) 3 (fun _ _ => rfl) ?_
      refine wr_add (a := deep) (b := 1) rfl ?_
      show wr (n + 400) tb_M155 183 [(27, vi wg), (25, vl ((cc : Int))), (23, vl R), (21, vl S), (19, vl U), (17, vl A), (15, vl (s.1 170 26)), (13, vl r0), (11, vl v0), (9, vl u0), (7, vl a0), (6, vi (((m + 1 + 1 + 1 + 1 + 1 + 1 + 1 + 1 + 1 + 1 : Nat) : Int))), (5, vi ((q : Int))), (4, vi (((m + 1 + 1 + 1 : Nat) : Int))), (3, vi (((m + 1 + 1 : Nat) : Int))), (2, vi (s.1 170 5)), (0, .ref 170), (1, vi deep)] [vi (deep + 1), .ref 170] s12 _
      refine wr_call1 (args := [vi (deep + 1)]) (rest := []) rfl rfl rfl rfl (Nat.le_of_ble_eq_true rfl) (cr_mono (hSt C y mt (kt + 1) _ (deep + 1) hC hR12 hP13 (by rw [hU12 170 26 (by omega)]; exact hst) hm12 (by unfold NS; omega) (by omega) trivial (by omega) hko) ?_)
      rintro s15 out ⟨b, rfl, hc14, ⟨rfl, hF14⟩ | ⟨rfl, hR14, hBk14, hS14, hN14, w14, k14, hm14, hkk14, hE14⟩⟩
      · refine ⟨_, rfl, ?_⟩
        show wr (n + 400) tb_M155 186 [(27, vi wg), (25, vl ((cc : Int))), (23, vl R), (21, vl S), (19, vl U), (17, vl A), (15, vl (s.1 170 26)), (13, vl r0), (11, vl v0), (9, vl u0), (7, vl a0), (6, vi (((m + 1 + 1 + 1 + 1 + 1 + 1 + 1 + 1 + 1 + 1 : Nat) : Int))), (5, vi ((q : Int))), (4, vi (((m + 1 + 1 + 1 : Nat) : Int))), (3, vi (((m + 1 + 1 : Nat) : Int))), (2, vi (s.1 170 5)), (0, .ref 170), (1, vi deep)] [vi 0] s15 _
        refine wr_n (pc2 := 190) (lv2 := [(27, vi wg), (25, vl ((cc : Int))), (23, vl R), (21, vl S), (19, vl U), (17, vl A), (15, vl (s.1 170 26)), (13, vl r0), (11, vl v0), (9, vl u0), (7, vl a0), (6, vi (((m + 1 + 1 + 1 + 1 + 1 + 1 + 1 + 1 + 1 + 1 : Nat) : Int))), (5, vi ((q : Int))), (4, vi (((m + 1 + 1 + 1 : Nat) : Int))), (3, vi (((m + 1 + 1 : Nat) : Int))), (2, vi (s.1 170 5)), (0, .ref 170), (1, vi deep)]) (st2 := [vi 0]) 2 (fun _ _ => rfl) ?_
        refine wr_end (fun _ _ => rfl) ?_
        exact ⟨0, rfl, hc14.trans hz13, Or.inl ⟨rfl, FR_tr (BX_FR hB13) hF14⟩⟩
      · refine ⟨_, rfl, ?_⟩
        show wr (n + 400) tb_M155 186 [(27, vi wg), (25, vl ((cc : Int))), (23, vl R), (21, vl S), (19, vl U), (17, vl A), (15, vl (s.1 170 26)), (13, vl r0), (11, vl v0), (9, vl u0), (7, vl a0), (6, vi (((m + 1 + 1 + 1 + 1 + 1 + 1 + 1 + 1 + 1 + 1 : Nat) : Int))), (5, vi ((q : Int))), (4, vi (((m + 1 + 1 + 1 : Nat) : Int))), (3, vi (((m + 1 + 1 : Nat) : Int))), (2, vi (s.1 170 5)), (0, .ref 170), (1, vi deep)] [vi 1] s15 _
        unfold NXS at hN14
        have hB18 : BX C (gn y) s.1 s15.1 := BX_tr hC hB13 hBk14
        have hP18 : PI C y s15.1 := PI_BX hC hP hB18
        have hz18 : s15.2 = s.2 := hc14.trans hz13
        have hF18 := LX_nums hP18
        refine wr_n (pc2 := 194) (lv2 := [(27, vi wg), (25, vl ((cc : Int))), (23, vl R), (21, vl S), (19, vl U), (17, vl A), (15, vl (s.1 170 26)), (13, vl r0), (11, vl v0), (9, vl u0), (7, vl a0), (6, vi (((m + 1 + 1 + 1 + 1 + 1 + 1 + 1 + 1 + 1 + 1 : Nat) : Int))), (5, vi ((q : Int))), (4, vi (((m + 1 + 1 + 1 : Nat) : Int))), (3, vi (((m + 1 + 1 : Nat) : Int))), (2, vi (s.1 170 5)), (0, .ref 170), (1, vi deep)]) (st2 := [vi 20, .ref 170]) 3 (fun _ _ => rfl) ?_
        refine wr_call1 (args := [vi 20]) (rest := []) rfl rfl rfl rfl (Nat.le_of_ble_eq_true rfl) (cr_mono (x_put (d := n + 399) (m := w14) (v := 20) hC _ hR14 hP18 (by unfold i32; omega) hm14 (by omega)) ?_)
        rintro s20 out ⟨rfl, hc19, hR19, hBk19, hK19, hm19, hp19, hda19⟩
        · refine ⟨_, rfl, ?_⟩
          show wr (n + 400) tb_M155 197 [(27, vi wg), (25, vl ((cc : Int))), (23, vl R), (21, vl S), (19, vl U), (17, vl A), (15, vl (s.1 170 26)), (13, vl r0), (11, vl v0), (9, vl u0), (7, vl a0), (6, vi (((m + 1 + 1 + 1 + 1 + 1 + 1 + 1 + 1 + 1 + 1 : Nat) : Int))), (5, vi ((q : Int))), (4, vi (((m + 1 + 1 + 1 : Nat) : Int))), (3, vi (((m + 1 + 1 : Nat) : Int))), (2, vi (s.1 170 5)), (0, .ref 170), (1, vi deep)] [vi (((w14 : Nat) : Int))] s20 _
          obtain ⟨hu19, hk19⟩ := id hK19
          have hB22 : BX C (gn y) s.1 s20.1 := BX_tr hC hB18 hBk19
          have hP22 : PI C y s20.1 := PI_BX hC hP hB22
          have hz22 : s20.2 = s.2 := hc19.trans hz18
          have hF22 : s20.1 170 4 = s15.1 170 4 ∧ s20.1 170 5 = s15.1 170 5 ∧ s20.1 170 6 = s15.1 170 6 ∧ s20.1 170 7 = s15.1 170 7 ∧ s20.1 170 14 = s15.1 170 14 ∧ s20.1 170 16 = s15.1 170 16 ∧ s20.1 170 21 = s15.1 170 21 ∧ s20.1 C 3 = s15.1 C 3 ∧ s20.1 C 10 = s15.1 C 10 ∧ s15.1 170 5 + 0 ≤ s20.1 170 5 ∧ 0 ≤ s20.1 170 5 ∧ s20.1 170 5 ≤ s20.1 170 6 ∧ s20.1 170 6 ≤ 2000 := by omega
          clear hk19 hp19
          refine wr_n (pc2 := 198) (lv2 := [(27, vi wg), (25, vl ((cc : Int))), (23, vl R), (21, vl S), (19, vl U), (17, vl A), (15, vl (s.1 170 26)), (13, vl r0), (11, vl v0), (9, vl u0), (7, vl a0), (6, vi (((m + 1 + 1 + 1 + 1 + 1 + 1 + 1 + 1 + 1 + 1 : Nat) : Int))), (5, vi ((q : Int))), (4, vi (((m + 1 + 1 + 1 : Nat) : Int))), (3, vi (((m + 1 + 1 : Nat) : Int))), (2, vi (s.1 170 5)), (0, .ref 170), (1, vi deep)]) (st2 := []) 1 (fun _ _ => rfl) ?_
          have j276 : ∀ (wn : Int), ((0 ≤ wn ∧ wn ≤ 1) ∧ (wn = 0 → wg = 0 ∧ cc &&& (s20.1 170 26).toNat = 0)) → wr (n + 400) tb_M155 276 [(27, vi wn), (25, vl ((cc : Int))), (23, vl R), (21, vl S), (19, vl U), (17, vl A), (15, vl (s.1 170 26)), (13, vl r0), (11, vl v0), (9, vl u0), (7, vl a0), (6, vi (((m + 1 + 1 + 1 + 1 + 1 + 1 + 1 + 1 + 1 + 1 : Nat) : Int))), (5, vi ((q : Int))), (4, vi (((m + 1 + 1 + 1 : Nat) : Int))), (3, vi (((m + 1 + 1 : Nat) : Int))), (2, vi (s.1 170 5)), (0, .ref 170), (1, vi deep)] [] s20 (SP C y m k0 0 s) := by
            intro wn hj
            refine wr_n (pc2 := 279) (lv2 := [(27, vi wn), (25, vl ((cc : Int))), (23, vl R), (21, vl S), (19, vl U), (17, vl A), (15, vl (s.1 170 26)), (13, vl r0), (11, vl v0), (9, vl u0), (7, vl a0), (6, vi (((m + 1 + 1 + 1 + 1 + 1 + 1 + 1 + 1 + 1 + 1 : Nat) : Int))), (5, vi ((q : Int))), (4, vi (((m + 1 + 1 + 1 : Nat) : Int))), (3, vi (((m + 1 + 1 : Nat) : Int))), (2, vi (s.1 170 5)), (0, .ref 170), (1, vi deep)]) (st2 := [.ref 170, vl A]) 2 (fun _ _ => rfl) ?_
            refine wr_get (v := vl (s20.1 170 22)) rfl rfl rfl (by decide) rfl fun h23 => ?_
            show wr (n + 400) tb_M155 282 [(27, vi wn), (25, vl ((cc : Int))), (23, vl R), (21, vl S), (19, vl U), (17, vl A), (15, vl (s.1 170 26)), (13, vl r0), (11, vl v0), (9, vl u0), (7, vl a0), (6, vi (((m + 1 + 1 + 1 + 1 + 1 + 1 + 1 + 1 + 1 + 1 : Nat) : Int))), (5, vi ((q : Int))), (4, vi (((m + 1 + 1 + 1 : Nat) : Int))), (3, vi (((m + 1 + 1 : Nat) : Int))), (2, vi (s.1 170 5)), (0, .ref 170), (1, vi deep)] [vl (s20.1 170 22), vl A] s20 _
            refine wr_lor (a := A) (b := s20.1 170 22) rfl fun z24 h25 h26 => ?_
            show wr (n + 400) tb_M155 283 [(27, vi wn), (25, vl ((cc : Int))), (23, vl R), (21, vl S), (19, vl U), (17, vl A), (15, vl (s.1 170 26)), (13, vl r0), (11, vl v0), (9, vl u0), (7, vl a0), (6, vi (((m + 1 + 1 + 1 + 1 + 1 + 1 + 1 + 1 + 1 + 1 : Nat) : Int))), (5, vi ((q : Int))), (4, vi (((m + 1 + 1 + 1 : Nat) : Int))), (3, vi (((m + 1 + 1 : Nat) : Int))), (2, vi (s.1 170 5)), (0, .ref 170), (1, vi deep)] [vl z24] s20 _
            refine wr_n (pc2 := 288) (lv2 := [(17, vl z24), (27, vi wn), (25, vl ((cc : Int))), (23, vl R), (21, vl S), (19, vl U), (15, vl (s.1 170 26)), (13, vl r0), (11, vl v0), (9, vl u0), (7, vl a0), (6, vi (((m + 1 + 1 + 1 + 1 + 1 + 1 + 1 + 1 + 1 + 1 : Nat) : Int))), (5, vi ((q : Int))), (4, vi (((m + 1 + 1 + 1 : Nat) : Int))), (3, vi (((m + 1 + 1 : Nat) : Int))), (2, vi (s.1 170 5)), (0, .ref 170), (1, vi deep)]) (st2 := [.ref 170, vl U]) 3 (fun _ _ => rfl) ?_
            refine wr_get (v := vl (s20.1 170 23)) rfl rfl rfl (by decide) rfl fun h27 => ?_
            show wr (n + 400) tb_M155 291 [(17, vl z24), (27, vi wn), (25, vl ((cc : Int))), (23, vl R), (21, vl S), (19, vl U), (15, vl (s.1 170 26)), (13, vl r0), (11, vl v0), (9, vl u0), (7, vl a0), (6, vi (((m + 1 + 1 + 1 + 1 + 1 + 1 + 1 + 1 + 1 + 1 : Nat) : Int))), (5, vi ((q : Int))), (4, vi (((m + 1 + 1 + 1 : Nat) : Int))), (3, vi (((m + 1 + 1 : Nat) : Int))), (2, vi (s.1 170 5)), (0, .ref 170), (1, vi deep)] [vl (s20.1 170 23), vl U] s20 _
            refine wr_lor (a := U) (b := s20.1 170 23) rfl fun z28 h29 h30 => ?_
            show wr (n + 400) tb_M155 292 [(17, vl z24), (27, vi wn), (25, vl ((cc : Int))), (23, vl R), (21, vl S), (19, vl U), (15, vl (s.1 170 26)), (13, vl r0), (11, vl v0), (9, vl u0), (7, vl a0), (6, vi (((m + 1 + 1 + 1 + 1 + 1 + 1 + 1 + 1 + 1 + 1 : Nat) : Int))), (5, vi ((q : Int))), (4, vi (((m + 1 + 1 + 1 : Nat) : Int))), (3, vi (((m + 1 + 1 : Nat) : Int))), (2, vi (s.1 170 5)), (0, .ref 170), (1, vi deep)] [vl z28] s20 _
            refine wr_n (pc2 := 297) (lv2 := [(19, vl z28), (17, vl z24), (27, vi wn), (25, vl ((cc : Int))), (23, vl R), (21, vl S), (15, vl (s.1 170 26)), (13, vl r0), (11, vl v0), (9, vl u0), (7, vl a0), (6, vi (((m + 1 + 1 + 1 + 1 + 1 + 1 + 1 + 1 + 1 + 1 : Nat) : Int))), (5, vi ((q : Int))), (4, vi (((m + 1 + 1 + 1 : Nat) : Int))), (3, vi (((m + 1 + 1 : Nat) : Int))), (2, vi (s.1 170 5)), (0, .ref 170), (1, vi deep)]) (st2 := [.ref 170, vl S]) 3 (fun _ _ => rfl) ?_
            refine wr_get (v := vl (s20.1 170 24)) rfl rfl rfl (by decide) rfl fun h31 => ?_
            show wr (n + 400) tb_M155 300 [(19, vl z28), (17, vl z24), (27, vi wn), (25, vl ((cc : Int))), (23, vl R), (21, vl S), (15, vl (s.1 170 26)), (13, vl r0), (11, vl v0), (9, vl u0), (7, vl a0), (6, vi (((m + 1 + 1 + 1 + 1 + 1 + 1 + 1 + 1 + 1 + 1 : Nat) : Int))), (5, vi ((q : Int))), (4, vi (((m + 1 + 1 + 1 : Nat) : Int))), (3, vi (((m + 1 + 1 : Nat) : Int))), (2, vi (s.1 170 5)), (0, .ref 170), (1, vi deep)] [vl (s20.1 170 24), vl S] s20 _
            refine wr_lor (a := S) (b := s20.1 170 24) rfl fun z32 h33 h34 => ?_
            show wr (n + 400) tb_M155 301 [(19, vl z28), (17, vl z24), (27, vi wn), (25, vl ((cc : Int))), (23, vl R), (21, vl S), (15, vl (s.1 170 26)), (13, vl r0), (11, vl v0), (9, vl u0), (7, vl a0), (6, vi (((m + 1 + 1 + 1 + 1 + 1 + 1 + 1 + 1 + 1 + 1 : Nat) : Int))), (5, vi ((q : Int))), (4, vi (((m + 1 + 1 + 1 : Nat) : Int))), (3, vi (((m + 1 + 1 : Nat) : Int))), (2, vi (s.1 170 5)), (0, .ref 170), (1, vi deep)] [vl z32] s20 _
            refine wr_n (pc2 := 306) (lv2 := [(21, vl z32), (19, vl z28), (17, vl z24), (27, vi wn), (25, vl ((cc : Int))), (23, vl R), (15, vl (s.1 170 26)), (13, vl r0), (11, vl v0), (9, vl u0), (7, vl a0), (6, vi (((m + 1 + 1 + 1 + 1 + 1 + 1 + 1 + 1 + 1 + 1 : Nat) : Int))), (5, vi ((q : Int))), (4, vi (((m + 1 + 1 + 1 : Nat) : Int))), (3, vi (((m + 1 + 1 : Nat) : Int))), (2, vi (s.1 170 5)), (0, .ref 170), (1, vi deep)]) (st2 := [.ref 170, vl R]) 3 (fun _ _ => rfl) ?_
            refine wr_get (v := vl (s20.1 170 25)) rfl rfl rfl (by decide) rfl fun h35 => ?_
            show wr (n + 400) tb_M155 309 [(21, vl z32), (19, vl z28), (17, vl z24), (27, vi wn), (25, vl ((cc : Int))), (23, vl R), (15, vl (s.1 170 26)), (13, vl r0), (11, vl v0), (9, vl u0), (7, vl a0), (6, vi (((m + 1 + 1 + 1 + 1 + 1 + 1 + 1 + 1 + 1 + 1 : Nat) : Int))), (5, vi ((q : Int))), (4, vi (((m + 1 + 1 + 1 : Nat) : Int))), (3, vi (((m + 1 + 1 : Nat) : Int))), (2, vi (s.1 170 5)), (0, .ref 170), (1, vi deep)] [vl (s20.1 170 25), vl R] s20 _
            refine wr_lor (a := R) (b := s20.1 170 25) rfl fun z36 h37 h38 => ?_
            show wr (n + 400) tb_M155 310 [(21, vl z32), (19, vl z28), (17, vl z24), (27, vi wn), (25, vl ((cc : Int))), (23, vl R), (15, vl (s.1 170 26)), (13, vl r0), (11, vl v0), (9, vl u0), (7, vl a0), (6, vi (((m + 1 + 1 + 1 + 1 + 1 + 1 + 1 + 1 + 1 + 1 : Nat) : Int))), (5, vi ((q : Int))), (4, vi (((m + 1 + 1 + 1 : Nat) : Int))), (3, vi (((m + 1 + 1 : Nat) : Int))), (2, vi (s.1 170 5)), (0, .ref 170), (1, vi deep)] [vl z36] s20 _
            refine wr_n (pc2 := 315) (lv2 := [(23, vl z36), (21, vl z32), (19, vl z28), (17, vl z24), (27, vi wn), (25, vl ((cc : Int))), (15, vl (s.1 170 26)), (13, vl r0), (11, vl v0), (9, vl u0), (7, vl a0), (6, vi (((m + 1 + 1 + 1 + 1 + 1 + 1 + 1 + 1 + 1 + 1 : Nat) : Int))), (5, vi ((q : Int))), (4, vi (((m + 1 + 1 + 1 : Nat) : Int))), (3, vi (((m + 1 + 1 : Nat) : Int))), (2, vi (s.1 170 5)), (0, .ref 170), (1, vi deep)]) (st2 := [.ref 170, vl ((cc : Int))]) 3 (fun _ _ => rfl) ?_
            refine wr_get (v := vl (s20.1 170 26)) rfl rfl rfl (by decide) rfl fun h39 => ?_
            show wr (n + 400) tb_M155 318 [(23, vl z36), (21, vl z32), (19, vl z28), (17, vl z24), (27, vi wn), (25, vl ((cc : Int))), (15, vl (s.1 170 26)), (13, vl r0), (11, vl v0), (9, vl u0), (7, vl a0), (6, vi (((m + 1 + 1 + 1 + 1 + 1 + 1 + 1 + 1 + 1 + 1 : Nat) : Int))), (5, vi ((q : Int))), (4, vi (((m + 1 + 1 + 1 : Nat) : Int))), (3, vi (((m + 1 + 1 : Nat) : Int))), (2, vi (s.1 170 5)), (0, .ref 170), (1, vi deep)] [vl (s20.1 170 26), vl ((cc : Int))] s20 _
            refine wr_lor (a := (cc : Int)) (b := s20.1 170 26) rfl fun z40 h41 h42 => ?_
            show wr (n + 400) tb_M155 319 [(23, vl z36), (21, vl z32), (19, vl z28), (17, vl z24), (27, vi wn), (25, vl ((cc : Int))), (15, vl (s.1 170 26)), (13, vl r0), (11, vl v0), (9, vl u0), (7, vl a0), (6, vi (((m + 1 + 1 + 1 + 1 + 1 + 1 + 1 + 1 + 1 + 1 : Nat) : Int))), (5, vi ((q : Int))), (4, vi (((m + 1 + 1 + 1 : Nat) : Int))), (3, vi (((m + 1 + 1 : Nat) : Int))), (2, vi (s.1 170 5)), (0, .ref 170), (1, vi deep)] [vl z40] s20 _
            refine wr_n (pc2 := 321) (lv2 := [(25, vl z40), (23, vl z36), (21, vl z32), (19, vl z28), (17, vl z24), (27, vi wn), (15, vl (s.1 170 26)), (13, vl r0), (11, vl v0), (9, vl u0), (7, vl a0), (6, vi (((m + 1 + 1 + 1 + 1 + 1 + 1 + 1 + 1 + 1 + 1 : Nat) : Int))), (5, vi ((q : Int))), (4, vi (((m + 1 + 1 + 1 : Nat) : Int))), (3, vi (((m + 1 + 1 : Nat) : Int))), (2, vi (s.1 170 5)), (0, .ref 170), (1, vi deep)]) (st2 := []) 1 (fun _ _ => rfl) ?_
            refine wr_inc (a := (q : Int)) rfl rfl ?_
            show wr (n + 400) tb_M155 324 [(5, vi ((q : Int) + 1)), (25, vl z40), (23, vl z36), (21, vl z32), (19, vl z28), (17, vl z24), (27, vi wn), (15, vl (s.1 170 26)), (13, vl r0), (11, vl v0), (9, vl u0), (7, vl a0), (6, vi (((m + 1 + 1 + 1 + 1 + 1 + 1 + 1 + 1 + 1 + 1 : Nat) : Int))), (4, vi (((m + 1 + 1 + 1 : Nat) : Int))), (3, vi (((m + 1 + 1 : Nat) : Int))), (2, vi (s.1 170 5)), (0, .ref 170), (1, vi deep)] [] s20 _
            refine wr_n (pc2 := 327) (lv2 := [(5, vi ((q : Int) + 1)), (25, vl z40), (23, vl z36), (21, vl z32), (19, vl z28), (17, vl z24), (27, vi wn), (15, vl (s.1 170 26)), (13, vl r0), (11, vl v0), (9, vl u0), (7, vl a0), (6, vi (((m + 1 + 1 + 1 + 1 + 1 + 1 + 1 + 1 + 1 + 1 : Nat) : Int))), (4, vi (((m + 1 + 1 + 1 : Nat) : Int))), (3, vi (((m + 1 + 1 : Nat) : Int))), (2, vi (s.1 170 5)), (0, .ref 170), (1, vi deep)]) (st2 := [vi 1, vi ((q : Int) + 1)]) 2 (fun _ _ => rfl) ?_
            by_cases h43 : (q : Int) + 1 ≠ 1
            · refine wr_if2t rfl rfl (by unfold i32; omega) (by unfold i32; omega) h43 ?_
              refine wr_n (pc2 := 349) (lv2 := [(5, vi ((q : Int) + 1)), (25, vl z40), (23, vl z36), (21, vl z32), (19, vl z28), (17, vl z24), (27, vi wn), (15, vl (s.1 170 26)), (13, vl r0), (11, vl v0), (9, vl u0), (7, vl a0), (6, vi (((m + 1 + 1 + 1 + 1 + 1 + 1 + 1 + 1 + 1 + 1 : Nat) : Int))), (4, vi (((m + 1 + 1 + 1 : Nat) : Int))), (3, vi (((m + 1 + 1 : Nat) : Int))), (2, vi (s.1 170 5)), (0, .ref 170), (1, vi deep)]) (st2 := [.ref 50, .ref 170]) 2 (fun _ _ => rfl) ?_
              refine wr_call1 (args := [.ref 50]) (rest := []) rfl rfl rfl rfl (Nat.le_of_ble_eq_true rfl) (cr_mono (c_is (d := n + 395) isT_50 _ hR19 (LX_of hP22)) ?_)
              rintro s45 out ⟨b, rfl, rfl | ⟨rfl, hj44, hl44⟩, he44⟩
              · refine ⟨_, rfl, ?_⟩
                rw [he44]
                show wr (n + 400) tb_M155 352 [(5, vi ((q : Int) + 1)), (25, vl z40), (23, vl z36), (21, vl z32), (19, vl z28), (17, vl z24), (27, vi wn), (15, vl (s.1 170 26)), (13, vl r0), (11, vl v0), (9, vl u0), (7, vl a0), (6, vi (((m + 1 + 1 + 1 + 1 + 1 + 1 + 1 + 1 + 1 + 1 : Nat) : Int))), (4, vi (((m + 1 + 1 + 1 : Nat) : Int))), (3, vi (((m + 1 + 1 : Nat) : Int))), (2, vi (s.1 170 5)), (0, .ref 170), (1, vi deep)] [vi 0] s20 _
                refine wr_n (pc2 := 355) (lv2 := [(5, vi ((q : Int) + 1)), (25, vl z40), (23, vl z36), (21, vl z32), (19, vl z28), (17, vl z24), (27, vi wn), (15, vl (s.1 170 26)), (13, vl r0), (11, vl v0), (9, vl u0), (7, vl a0), (6, vi (((m + 1 + 1 + 1 + 1 + 1 + 1 + 1 + 1 + 1 + 1 : Nat) : Int))), (4, vi (((m + 1 + 1 + 1 : Nat) : Int))), (3, vi (((m + 1 + 1 : Nat) : Int))), (2, vi (s.1 170 5)), (0, .ref 170), (1, vi deep)]) (st2 := []) 1 (fun _ _ => rfl) ?_
                obtain ⟨cm, hcm1, hcm2, hcm3⟩ := MB_lt (BX_mb (BX_tr hC hBk14 hBk19) (by rw [hU12 170 26 (by omega)]; exact hst)) hnr
                have hz25 : z40 = ((cc ||| cm : Nat) : Int) := h42 cc cm rfl hcm1 (by omega) hcm2
                have hor : cc ||| cm < 2 ^ 12 := Nat.or_lt_two_pow (by omega) hcm2
                have hcb : ∀ b, (cc ||| cm).testBit b = true → b < gn y := fun b hb => by rw [Nat.testBit_or, Bool.or_eq_true] at hb; exact hb.elim (htb b) (hcm3 b)
                have hpb : s20.1 170 21 < 0 → wn = 0 → PB (ga y) (s20.1 (C + 1)) (gG y) (gn y) (gk y) m (q + 1) (w14 + 1) k0 k14 (cc ||| cm) := by
                  intro hpar hw0
                  have h26 : (s15.1 170 26).toNat = cm := by rw [← (hK19.2.2.2.2.2.2.2.2.2 : s20.1 170 26 = s15.1 170 26), hcm1]; omega
                  refine PB_step (PB_agr (fun p p1 p2 => ((BX_code hC (BX_tr hC hBk14 hBk19) (by omega)).trans ((hU12 (C + 1) p (by omega)).trans (BX_code hC hBk5 (by omega))))) (fun p p1 p2 => ((BX_code hC (BX_tr hC hBk14 hBk19) (by omega)).trans ((hU12 (C + 1) p (by omega)).trans (BX_code hC hBk5 (by omega))))) (htE (BX_po hBk5 (by rw [← hU12 170 21 (by omega)]; exact (BX_po (BX_tr hC hBk14 hBk19) hpar))) (hj.2 hw0).1)) ((BX_code hC (BX_tr hC hBk14 hBk19) (by omega)).trans hv12) (by omega) (by omega) hda19 (by omega) ?_ hcm3 ?_
                  · exact h26 ▸ SG_mono (by omega) (fun x hx => hx) (SG_agr (fun p hp1 hp => (BX_code hC hBk19 (by omega))) (hE14 (BX_po hBk19 hpar)))
                  · have h9 := (hj.2 hw0).2
                    rw [hcm1, Int.toNat_natCast] at h9
                    exact h9
                subst hz25
                rw [show (q : Int) + 1 = ((q + 1 : Nat) : Int) by omega]
                exact exP _ _ k14 (q + 1) (cc ||| cm) _ _ _ _ _ _ _ _ wn hR19 hP22 hB22 hz22 hm19 (by omega) ⟨h25, h29, h33, h37, htl.2.2.2.2.1, htl.2.2.2.2.2.1, htl.2.2.2.2.2.2.1, htl.2.2.2.2.2.2.2⟩ hcb ⟨(((BX_code hC (BX_tr hC hBk14 hBk19) (by omega)).trans ((hU12 (C + 1) _ (by omega)).trans (BX_code hC hBk5 (by omega)))).trans htc.1), (((BX_code hC (BX_tr hC hBk14 hBk19) (by omega)).trans ((hU12 (C + 1) _ (by omega)).trans (BX_code hC hBk5 (by omega)))).trans htc.2.1), (((BX_code hC (BX_tr hC hBk14 hBk19) (by omega)).trans ((hU12 (C + 1) _ (by omega)).trans (BX_code hC hBk5 (by omega)))).trans htc.2.2)⟩ hpb (by omega)
              · refine ⟨_, rfl, ?_⟩
                rw [he44]
                show wr (n + 400) tb_M155 352 [(5, vi ((q : Int) + 1)), (25, vl z40), (23, vl z36), (21, vl z32), (19, vl z28), (17, vl z24), (27, vi wn), (15, vl (s.1 170 26)), (13, vl r0), (11, vl v0), (9, vl u0), (7, vl a0), (6, vi (((m + 1 + 1 + 1 + 1 + 1 + 1 + 1 + 1 + 1 + 1 : Nat) : Int))), (4, vi (((m + 1 + 1 + 1 : Nat) : Int))), (3, vi (((m + 1 + 1 : Nat) : Int))), (2, vi (s.1 170 5)), (0, .ref 170), (1, vi deep)] [vi 1] s20 _
                have hg44 : 1 ≤ s20.1 170 4 ∧ s20.1 170 5 + 1 = s20.1 170 6 := ⟨by omega, hl44⟩
                clear hj44 hl44
                refine wr_n (pc2 := 134) (lv2 := [(5, vi ((q : Int) + 1)), (25, vl z40), (23, vl z36), (21, vl z32), (19, vl z28), (17, vl z24), (27, vi wn), (15, vl (s.1 170 26)), (13, vl r0), (11, vl v0), (9, vl u0), (7, vl a0), (6, vi (((m + 1 + 1 + 1 + 1 + 1 + 1 + 1 + 1 + 1 + 1 : Nat) : Int))), (4, vi (((m + 1 + 1 + 1 : Nat) : Int))), (3, vi (((m + 1 + 1 : Nat) : Int))), (2, vi (s.1 170 5)), (0, .ref 170), (1, vi deep)]) (st2 := []) 1 (fun _ _ => rfl) ?_
                obtain ⟨cm, hcm1, hcm2, hcm3⟩ := MB_lt (BX_mb (BX_tr hC hBk14 hBk19) (by rw [hU12 170 26 (by omega)]; exact hst)) hnr
                have hz25 : z40 = ((cc ||| cm : Nat) : Int) := h42 cc cm rfl hcm1 (by omega) hcm2
                have hor : cc ||| cm < 2 ^ 12 := Nat.or_lt_two_pow (by omega) hcm2
                have hcb : ∀ b, (cc ||| cm).testBit b = true → b < gn y := fun b hb => by rw [Nat.testBit_or, Bool.or_eq_true] at hb; exact hb.elim (htb b) (hcm3 b)
                have hpb : s20.1 170 21 < 0 → wn = 0 → PB (ga y) (s20.1 (C + 1)) (gG y) (gn y) (gk y) m (q + 1) (w14 + 1) k0 k14 (cc ||| cm) := by
                  intro hpar hw0
                  have h26 : (s15.1 170 26).toNat = cm := by rw [← (hK19.2.2.2.2.2.2.2.2.2 : s20.1 170 26 = s15.1 170 26), hcm1]; omega
                  refine PB_step (PB_agr (fun p p1 p2 => ((BX_code hC (BX_tr hC hBk14 hBk19) (by omega)).trans ((hU12 (C + 1) p (by omega)).trans (BX_code hC hBk5 (by omega))))) (fun p p1 p2 => ((BX_code hC (BX_tr hC hBk14 hBk19) (by omega)).trans ((hU12 (C + 1) p (by omega)).trans (BX_code hC hBk5 (by omega))))) (htE (BX_po hBk5 (by rw [← hU12 170 21 (by omega)]; exact (BX_po (BX_tr hC hBk14 hBk19) hpar))) (hj.2 hw0).1)) ((BX_code hC (BX_tr hC hBk14 hBk19) (by omega)).trans hv12) (by omega) (by omega) hda19 (by omega) ?_ hcm3 ?_
                  · exact h26 ▸ SG_mono (by omega) (fun x hx => hx) (SG_agr (fun p hp1 hp => (BX_code hC hBk19 (by omega))) (hE14 (BX_po hBk19 hpar)))
                  · have h9 := (hj.2 hw0).2
                    rw [hcm1, Int.toNat_natCast] at h9
                    exact h9
                subst hz25
                rw [show (q : Int) + 1 = ((q + 1 : Nat) : Int) by omega]
                refine lpB _ _ _ k14 (q + 1) (cc ||| cm) _ _ _ _ _ _ _ _ wn rfl hR19 hP22 hB22 hz22 hm19 (by omega) ⟨h25, h29, h33, h37, htl.2.2.2.2.1, htl.2.2.2.2.2.1, htl.2.2.2.2.2.2.1, htl.2.2.2.2.2.2.2⟩ hcb ⟨(((BX_code hC (BX_tr hC hBk14 hBk19) (by omega)).trans ((hU12 (C + 1) _ (by omega)).trans (BX_code hC hBk5 (by omega)))).trans htc.1), (((BX_code hC (BX_tr hC hBk14 hBk19) (by omega)).trans ((hU12 (C + 1) _ (by omega)).trans (BX_code hC hBk5 (by omega)))).trans htc.2.1), (((BX_code hC (BX_tr hC hBk14 hBk19) (by omega)).trans ((hU12 (C + 1) _ (by omega)).trans (BX_code hC hBk5 (by omega)))).trans htc.2.2)⟩ hpb (by omega)
            · refine wr_if2f rfl rfl (by unfold i32; omega) (by unfold i32; omega) h43 ?_
              refine wr_n (pc2 := 334) (lv2 := [(5, vi ((q : Int) + 1)), (25, vl z40), (23, vl z36), (21, vl z32), (19, vl z28), (17, vl z24), (27, vi wn), (15, vl (s.1 170 26)), (13, vl r0), (11, vl v0), (9, vl u0), (7, vl a0), (6, vi (((m + 1 + 1 + 1 + 1 + 1 + 1 + 1 + 1 + 1 + 1 : Nat) : Int))), (4, vi (((m + 1 + 1 + 1 : Nat) : Int))), (3, vi (((m + 1 + 1 : Nat) : Int))), (2, vi (s.1 170 5)), (0, .ref 170), (1, vi deep)]) (st2 := [.ref 50, .ref 170]) 2 (fun _ _ => rfl) ?_
              refine wr_call1 (args := [.ref 50]) (rest := []) rfl rfl rfl rfl (Nat.le_of_ble_eq_true rfl) (cr_mono (c_is (d := n + 395) isT_50 _ hR19 (LX_of hP22)) ?_)
              rintro s47 out ⟨b, rfl, rfl | ⟨rfl, hj46, hl46⟩, he46⟩
              · refine ⟨_, rfl, ?_⟩
                rw [he46]
                show wr (n + 400) tb_M155 337 [(5, vi ((q : Int) + 1)), (25, vl z40), (23, vl z36), (21, vl z32), (19, vl z28), (17, vl z24), (27, vi wn), (15, vl (s.1 170 26)), (13, vl r0), (11, vl v0), (9, vl u0), (7, vl a0), (6, vi (((m + 1 + 1 + 1 + 1 + 1 + 1 + 1 + 1 + 1 + 1 : Nat) : Int))), (4, vi (((m + 1 + 1 + 1 : Nat) : Int))), (3, vi (((m + 1 + 1 : Nat) : Int))), (2, vi (s.1 170 5)), (0, .ref 170), (1, vi deep)] [vi 0] s20 _
                refine wr_n (pc2 := 341) (lv2 := [(5, vi ((q : Int) + 1)), (25, vl z40), (23, vl z36), (21, vl z32), (19, vl z28), (17, vl z24), (27, vi wn), (15, vl (s.1 170 26)), (13, vl r0), (11, vl v0), (9, vl u0), (7, vl a0), (6, vi (((m + 1 + 1 + 1 + 1 + 1 + 1 + 1 + 1 + 1 + 1 : Nat) : Int))), (4, vi (((m + 1 + 1 + 1 : Nat) : Int))), (3, vi (((m + 1 + 1 : Nat) : Int))), (2, vi (s.1 170 5)), (0, .ref 170), (1, vi deep)]) (st2 := [.ref 170]) 2 (fun _ _ => rfl) ?_
                refine wr_call1 (args := []) (rest := []) rfl rfl rfl rfl (Nat.le_of_ble_eq_true rfl) (cr_mono (x_bad0 (C := C) (d := n + 398) _ hR19) ?_)
                rintro s49 out ⟨rfl, hc48, hF48⟩
                · refine ⟨_, rfl, ?_⟩
                  show wr (n + 400) tb_M155 344 [(5, vi ((q : Int) + 1)), (25, vl z40), (23, vl z36), (21, vl z32), (19, vl z28), (17, vl z24), (27, vi wn), (15, vl (s.1 170 26)), (13, vl r0), (11, vl v0), (9, vl u0), (7, vl a0), (6, vi (((m + 1 + 1 + 1 + 1 + 1 + 1 + 1 + 1 + 1 + 1 : Nat) : Int))), (4, vi (((m + 1 + 1 + 1 : Nat) : Int))), (3, vi (((m + 1 + 1 : Nat) : Int))), (2, vi (s.1 170 5)), (0, .ref 170), (1, vi deep)] [vi 0] s49 _
                  refine wr_end (fun _ _ => rfl) ?_
                  exact ⟨0, rfl, hc48.trans hz22, Or.inl ⟨rfl, FR_tr (BX_FR hB22) hF48⟩⟩
              · refine ⟨_, rfl, ?_⟩
                rw [he46]
                show wr (n + 400) tb_M155 337 [(5, vi ((q : Int) + 1)), (25, vl z40), (23, vl z36), (21, vl z32), (19, vl z28), (17, vl z24), (27, vi wn), (15, vl (s.1 170 26)), (13, vl r0), (11, vl v0), (9, vl u0), (7, vl a0), (6, vi (((m + 1 + 1 + 1 + 1 + 1 + 1 + 1 + 1 + 1 + 1 : Nat) : Int))), (4, vi (((m + 1 + 1 + 1 : Nat) : Int))), (3, vi (((m + 1 + 1 : Nat) : Int))), (2, vi (s.1 170 5)), (0, .ref 170), (1, vi deep)] [vi 1] s20 _
                have hg46 : 1 ≤ s20.1 170 4 ∧ s20.1 170 5 + 1 = s20.1 170 6 := ⟨by omega, hl46⟩
                clear hj46 hl46
                refine wr_n (pc2 := 349) (lv2 := [(5, vi ((q : Int) + 1)), (25, vl z40), (23, vl z36), (21, vl z32), (19, vl z28), (17, vl z24), (27, vi wn), (15, vl (s.1 170 26)), (13, vl r0), (11, vl v0), (9, vl u0), (7, vl a0), (6, vi (((m + 1 + 1 + 1 + 1 + 1 + 1 + 1 + 1 + 1 + 1 : Nat) : Int))), (4, vi (((m + 1 + 1 + 1 : Nat) : Int))), (3, vi (((m + 1 + 1 : Nat) : Int))), (2, vi (s.1 170 5)), (0, .ref 170), (1, vi deep)]) (st2 := [.ref 50, .ref 170]) 3 (fun _ _ => rfl) ?_
                refine wr_call1 (args := [.ref 50]) (rest := []) rfl rfl rfl rfl (Nat.le_of_ble_eq_true rfl) (cr_mono (c_is (d := n + 395) isT_50 _ hR19 (LX_of hP22)) ?_)
                rintro s52 out ⟨b, rfl, rfl | ⟨rfl, hj51, hl51⟩, he51⟩
                · refine ⟨_, rfl, ?_⟩
                  rw [he51]
                  show wr (n + 400) tb_M155 352 [(5, vi ((q : Int) + 1)), (25, vl z40), (23, vl z36), (21, vl z32), (19, vl z28), (17, vl z24), (27, vi wn), (15, vl (s.1 170 26)), (13, vl r0), (11, vl v0), (9, vl u0), (7, vl a0), (6, vi (((m + 1 + 1 + 1 + 1 + 1 + 1 + 1 + 1 + 1 + 1 : Nat) : Int))), (4, vi (((m + 1 + 1 + 1 : Nat) : Int))), (3, vi (((m + 1 + 1 : Nat) : Int))), (2, vi (s.1 170 5)), (0, .ref 170), (1, vi deep)] [vi 0] s20 _
                  refine wr_n (pc2 := 355) (lv2 := [(5, vi ((q : Int) + 1)), (25, vl z40), (23, vl z36), (21, vl z32), (19, vl z28), (17, vl z24), (27, vi wn), (15, vl (s.1 170 26)), (13, vl r0), (11, vl v0), (9, vl u0), (7, vl a0), (6, vi (((m + 1 + 1 + 1 + 1 + 1 + 1 + 1 + 1 + 1 + 1 : Nat) : Int))), (4, vi (((m + 1 + 1 + 1 : Nat) : Int))), (3, vi (((m + 1 + 1 : Nat) : Int))), (2, vi (s.1 170 5)), (0, .ref 170), (1, vi deep)]) (st2 := []) 1 (fun _ _ => rfl) ?_
                  obtain ⟨cm, hcm1, hcm2, hcm3⟩ := MB_lt (BX_mb (BX_tr hC hBk14 hBk19) (by rw [hU12 170 26 (by omega)]; exact hst)) hnr
                  have hz25 : z40 = ((cc ||| cm : Nat) : Int) := h42 cc cm rfl hcm1 (by omega) hcm2
                  have hor : cc ||| cm < 2 ^ 12 := Nat.or_lt_two_pow (by omega) hcm2
                  have hcb : ∀ b, (cc ||| cm).testBit b = true → b < gn y := fun b hb => by rw [Nat.testBit_or, Bool.or_eq_true] at hb; exact hb.elim (htb b) (hcm3 b)
                  have hpb : s20.1 170 21 < 0 → wn = 0 → PB (ga y) (s20.1 (C + 1)) (gG y) (gn y) (gk y) m (q + 1) (w14 + 1) k0 k14 (cc ||| cm) := by
                    intro hpar hw0
                    have h26 : (s15.1 170 26).toNat = cm := by rw [← (hK19.2.2.2.2.2.2.2.2.2 : s20.1 170 26 = s15.1 170 26), hcm1]; omega
                    refine PB_step (PB_agr (fun p p1 p2 => ((BX_code hC (BX_tr hC hBk14 hBk19) (by omega)).trans ((hU12 (C + 1) p (by omega)).trans (BX_code hC hBk5 (by omega))))) (fun p p1 p2 => ((BX_code hC (BX_tr hC hBk14 hBk19) (by omega)).trans ((hU12 (C + 1) p (by omega)).trans (BX_code hC hBk5 (by omega))))) (htE (BX_po hBk5 (by rw [← hU12 170 21 (by omega)]; exact (BX_po (BX_tr hC hBk14 hBk19) hpar))) (hj.2 hw0).1)) ((BX_code hC (BX_tr hC hBk14 hBk19) (by omega)).trans hv12) (by omega) (by omega) hda19 (by omega) ?_ hcm3 ?_
                    · exact h26 ▸ SG_mono (by omega) (fun x hx => hx) (SG_agr (fun p hp1 hp => (BX_code hC hBk19 (by omega))) (hE14 (BX_po hBk19 hpar)))
                    · have h9 := (hj.2 hw0).2
                      rw [hcm1, Int.toNat_natCast] at h9
                      exact h9
                  subst hz25
                  rw [show (q : Int) + 1 = ((q + 1 : Nat) : Int) by omega]
                  exact exP _ _ k14 (q + 1) (cc ||| cm) _ _ _ _ _ _ _ _ wn hR19 hP22 hB22 hz22 hm19 (by omega) ⟨h25, h29, h33, h37, htl.2.2.2.2.1, htl.2.2.2.2.2.1, htl.2.2.2.2.2.2.1, htl.2.2.2.2.2.2.2⟩ hcb ⟨(((BX_code hC (BX_tr hC hBk14 hBk19) (by omega)).trans ((hU12 (C + 1) _ (by omega)).trans (BX_code hC hBk5 (by omega)))).trans htc.1), (((BX_code hC (BX_tr hC hBk14 hBk19) (by omega)).trans ((hU12 (C + 1) _ (by omega)).trans (BX_code hC hBk5 (by omega)))).trans htc.2.1), (((BX_code hC (BX_tr hC hBk14 hBk19) (by omega)).trans ((hU12 (C + 1) _ (by omega)).trans (BX_code hC hBk5 (by omega)))).trans htc.2.2)⟩ hpb (by omega)
                · refine ⟨_, rfl, ?_⟩
                  rw [he51]
                  show wr (n + 400) tb_M155 352 [(5, vi ((q : Int) + 1)), (25, vl z40), (23, vl z36), (21, vl z32), (19, vl z28), (17, vl z24), (27, vi wn), (15, vl (s.1 170 26)), (13, vl r0), (11, vl v0), (9, vl u0), (7, vl a0), (6, vi (((m + 1 + 1 + 1 + 1 + 1 + 1 + 1 + 1 + 1 + 1 : Nat) : Int))), (4, vi (((m + 1 + 1 + 1 : Nat) : Int))), (3, vi (((m + 1 + 1 : Nat) : Int))), (2, vi (s.1 170 5)), (0, .ref 170), (1, vi deep)] [vi 1] s20 _
                  have hg51 : 1 ≤ s20.1 170 4 ∧ s20.1 170 5 + 1 = s20.1 170 6 := ⟨by omega, hl51⟩
                  clear hj51 hl51
                  refine wr_n (pc2 := 134) (lv2 := [(5, vi ((q : Int) + 1)), (25, vl z40), (23, vl z36), (21, vl z32), (19, vl z28), (17, vl z24), (27, vi wn), (15, vl (s.1 170 26)), (13, vl r0), (11, vl v0), (9, vl u0), (7, vl a0), (6, vi (((m + 1 + 1 + 1 + 1 + 1 + 1 + 1 + 1 + 1 + 1 : Nat) : Int))), (4, vi (((m + 1 + 1 + 1 : Nat) : Int))), (3, vi (((m + 1 + 1 : Nat) : Int))), (2, vi (s.1 170 5)), (0, .ref 170), (1, vi deep)]) (st2 := []) 1 (fun _ _ => rfl) ?_
                  obtain ⟨cm, hcm1, hcm2, hcm3⟩ := MB_lt (BX_mb (BX_tr hC hBk14 hBk19) (by rw [hU12 170 26 (by omega)]; exact hst)) hnr
                  have hz25 : z40 = ((cc ||| cm : Nat) : Int) := h42 cc cm rfl hcm1 (by omega) hcm2
                  have hor : cc ||| cm < 2 ^ 12 := Nat.or_lt_two_pow (by omega) hcm2
                  have hcb : ∀ b, (cc ||| cm).testBit b = true → b < gn y := fun b hb => by rw [Nat.testBit_or, Bool.or_eq_true] at hb; exact hb.elim (htb b) (hcm3 b)
                  have hpb : s20.1 170 21 < 0 → wn = 0 → PB (ga y) (s20.1 (C + 1)) (gG y) (gn y) (gk y) m (q + 1) (w14 + 1) k0 k14 (cc ||| cm) := by
                    intro hpar hw0
                    have h26 : (s15.1 170 26).toNat = cm := by rw [← (hK19.2.2.2.2.2.2.2.2.2 : s20.1 170 26 = s15.1 170 26), hcm1]; omega
                    refine PB_step (PB_agr (fun p p1 p2 => ((BX_code hC (BX_tr hC hBk14 hBk19) (by omega)).trans ((hU12 (C + 1) p (by omega)).trans (BX_code hC hBk5 (by omega))))) (fun p p1 p2 => ((BX_code hC (BX_tr hC hBk14 hBk19) (by omega)).trans ((hU12 (C + 1) p (by omega)).trans (BX_code hC hBk5 (by omega))))) (htE (BX_po hBk5 (by rw [← hU12 170 21 (by omega)]; exact (BX_po (BX_tr hC hBk14 hBk19) hpar))) (hj.2 hw0).1)) ((BX_code hC (BX_tr hC hBk14 hBk19) (by omega)).trans hv12) (by omega) (by omega) hda19 (by omega) ?_ hcm3 ?_
                    · exact h26 ▸ SG_mono (by omega) (fun x hx => hx) (SG_agr (fun p hp1 hp => (BX_code hC hBk19 (by omega))) (hE14 (BX_po hBk19 hpar)))
                    · have h9 := (hj.2 hw0).2
                      rw [hcm1, Int.toNat_natCast] at h9
                      exact h9
                  subst hz25
                  rw [show (q : Int) + 1 = ((q + 1 : Nat) : Int) by omega]
                  refine lpB _ _ _ k14 (q + 1) (cc ||| cm) _ _ _ _ _ _ _ _ wn rfl hR19 hP22 hB22 hz22 hm19 (by omega) ⟨h25, h29, h33, h37, htl.2.2.2.2.1, htl.2.2.2.2.2.1, htl.2.2.2.2.2.2.1, htl.2.2.2.2.2.2.2⟩ hcb ⟨(((BX_code hC (BX_tr hC hBk14 hBk19) (by omega)).trans ((hU12 (C + 1) _ (by omega)).trans (BX_code hC hBk5 (by omega)))).trans htc.1), (((BX_code hC (BX_tr hC hBk14 hBk19) (by omega)).trans ((hU12 (C + 1) _ (by omega)).trans (BX_code hC hBk5 (by omega)))).trans htc.2.1), (((BX_code hC (BX_tr hC hBk14 hBk19) (by omega)).trans ((hU12 (C + 1) _ (by omega)).trans (BX_code hC hBk5 (by omega)))).trans htc.2.2)⟩ hpb (by omega)
          refine wr_n (pc2 := 203) (lv2 := [(27, vi wg), (25, vl ((cc : Int))), (23, vl R), (21, vl S), (19, vl U), (17, vl A), (15, vl (s.1 170 26)), (13, vl r0), (11, vl v0), (9, vl u0), (7, vl a0), (6, vi (((m + 1 + 1 + 1 + 1 + 1 + 1 + 1 + 1 + 1 + 1 : Nat) : Int))), (5, vi ((q : Int))), (4, vi (((m + 1 + 1 + 1 : Nat) : Int))), (3, vi (((m + 1 + 1 : Nat) : Int))), (2, vi (s.1 170 5)), (0, .ref 170), (1, vi deep)]) (st2 := [.ref 170, vl A, vi wg]) 3 (fun _ _ => rfl) ?_
          refine wr_get (v := vl (s20.1 170 23)) rfl rfl rfl (by decide) rfl fun h53 => ?_
          show wr (n + 400) tb_M155 206 [(27, vi wg), (25, vl ((cc : Int))), (23, vl R), (21, vl S), (19, vl U), (17, vl A), (15, vl (s.1 170 26)), (13, vl r0), (11, vl v0), (9, vl u0), (7, vl a0), (6, vi (((m + 1 + 1 + 1 + 1 + 1 + 1 + 1 + 1 + 1 + 1 : Nat) : Int))), (5, vi ((q : Int))), (4, vi (((m + 1 + 1 + 1 : Nat) : Int))), (3, vi (((m + 1 + 1 : Nat) : Int))), (2, vi (s.1 170 5)), (0, .ref 170), (1, vi deep)] [vl (s20.1 170 23), vl A, vi wg] s20 _
          refine wr_n (pc2 := 207) (lv2 := [(27, vi wg), (25, vl ((cc : Int))), (23, vl R), (21, vl S), (19, vl U), (17, vl A), (15, vl (s.1 170 26)), (13, vl r0), (11, vl v0), (9, vl u0), (7, vl a0), (6, vi (((m + 1 + 1 + 1 + 1 + 1 + 1 + 1 + 1 + 1 + 1 : Nat) : Int))), (5, vi ((q : Int))), (4, vi (((m + 1 + 1 + 1 : Nat) : Int))), (3, vi (((m + 1 + 1 : Nat) : Int))), (2, vi (s.1 170 5)), (0, .ref 170), (1, vi deep)]) (st2 := [.ref 170, vl (s20.1 170 23), vl A, vi wg]) 1 (fun _ _ => rfl) ?_
          refine wr_get (v := vl (s20.1 170 22)) rfl rfl rfl (by decide) rfl fun h54 => ?_
          show wr (n + 400) tb_M155 210 [(27, vi wg), (25, vl ((cc : Int))), (23, vl R), (21, vl S), (19, vl U), (17, vl A), (15, vl (s.1 170 26)), (13, vl r0), (11, vl v0), (9, vl u0), (7, vl a0), (6, vi (((m + 1 + 1 + 1 + 1 + 1 + 1 + 1 + 1 + 1 + 1 : Nat) : Int))), (5, vi ((q : Int))), (4, vi (((m + 1 + 1 + 1 : Nat) : Int))), (3, vi (((m + 1 + 1 : Nat) : Int))), (2, vi (s.1 170 5)), (0, .ref 170), (1, vi deep)] [vl (s20.1 170 22), vl (s20.1 170 23), vl A, vi wg] s20 _
          refine wr_lor (a := s20.1 170 23) (b := s20.1 170 22) rfl fun z55 h56 h57 => ?_
          show wr (n + 400) tb_M155 211 [(27, vi wg), (25, vl ((cc : Int))), (23, vl R), (21, vl S), (19, vl U), (17, vl A), (15, vl (s.1 170 26)), (13, vl r0), (11, vl v0), (9, vl u0), (7, vl a0), (6, vi (((m + 1 + 1 + 1 + 1 + 1 + 1 + 1 + 1 + 1 + 1 : Nat) : Int))), (5, vi ((q : Int))), (4, vi (((m + 1 + 1 + 1 : Nat) : Int))), (3, vi (((m + 1 + 1 : Nat) : Int))), (2, vi (s.1 170 5)), (0, .ref 170), (1, vi deep)] [vl z55, vl A, vi wg] s20 _
          refine wr_land (a := A) (b := z55) rfl fun z58 h59 h60 => ?_
          show wr (n + 400) tb_M155 212 [(27, vi wg), (25, vl ((cc : Int))), (23, vl R), (21, vl S), (19, vl U), (17, vl A), (15, vl (s.1 170 26)), (13, vl r0), (11, vl v0), (9, vl u0), (7, vl a0), (6, vi (((m + 1 + 1 + 1 + 1 + 1 + 1 + 1 + 1 + 1 + 1 : Nat) : Int))), (5, vi ((q : Int))), (4, vi (((m + 1 + 1 + 1 : Nat) : Int))), (3, vi (((m + 1 + 1 : Nat) : Int))), (2, vi (s.1 170 5)), (0, .ref 170), (1, vi deep)] [vl z58, vi wg] s20 _
          refine wr_n (pc2 := 213) (lv2 := [(27, vi wg), (25, vl ((cc : Int))), (23, vl R), (21, vl S), (19, vl U), (17, vl A), (15, vl (s.1 170 26)), (13, vl r0), (11, vl v0), (9, vl u0), (7, vl a0), (6, vi (((m + 1 + 1 + 1 + 1 + 1 + 1 + 1 + 1 + 1 + 1 : Nat) : Int))), (5, vi ((q : Int))), (4, vi (((m + 1 + 1 + 1 : Nat) : Int))), (3, vi (((m + 1 + 1 : Nat) : Int))), (2, vi (s.1 170 5)), (0, .ref 170), (1, vi deep)]) (st2 := [vl 0, vl z58, vi wg]) 1 (fun _ _ => rfl) ?_
          refine wr_lcmp (a := z58) (b := 0) rfl h59 (by unfold i64; omega) fun z61 h62 => ?_
          show wr (n + 400) tb_M155 214 [(27, vi wg), (25, vl ((cc : Int))), (23, vl R), (21, vl S), (19, vl U), (17, vl A), (15, vl (s.1 170 26)), (13, vl r0), (11, vl v0), (9, vl u0), (7, vl a0), (6, vi (((m + 1 + 1 + 1 + 1 + 1 + 1 + 1 + 1 + 1 + 1 : Nat) : Int))), (5, vi ((q : Int))), (4, vi (((m + 1 + 1 + 1 : Nat) : Int))), (3, vi (((m + 1 + 1 : Nat) : Int))), (2, vi (s.1 170 5)), (0, .ref 170), (1, vi deep)] [vi z61, vi wg] s20 _
          by_cases h63 : z61 ≠ 0
          · refine wr_if1t rfl rfl (by unfold i32; omega) h63 ?_
            refine wr_n (pc2 := 273) (lv2 := [(27, vi wg), (25, vl ((cc : Int))), (23, vl R), (21, vl S), (19, vl U), (17, vl A), (15, vl (s.1 170 26)), (13, vl r0), (11, vl v0), (9, vl u0), (7, vl a0), (6, vi (((m + 1 + 1 + 1 + 1 + 1 + 1 + 1 + 1 + 1 + 1 : Nat) : Int))), (5, vi ((q : Int))), (4, vi (((m + 1 + 1 + 1 : Nat) : Int))), (3, vi (((m + 1 + 1 : Nat) : Int))), (2, vi (s.1 170 5)), (0, .ref 170), (1, vi deep)]) (st2 := [vi 1, vi wg]) 2 (fun _ _ => rfl) ?_
            refine wr_ior01 (a := wg) (b := 1) rfl (by omega) (by omega) fun z64 h65 => ?_
            show wr (n + 400) tb_M155 274 [(27, vi wg), (25, vl ((cc : Int))), (23, vl R), (21, vl S), (19, vl U), (17, vl A), (15, vl (s.1 170 26)), (13, vl r0), (11, vl v0), (9, vl u0), (7, vl a0), (6, vi (((m + 1 + 1 + 1 + 1 + 1 + 1 + 1 + 1 + 1 + 1 : Nat) : Int))), (5, vi ((q : Int))), (4, vi (((m + 1 + 1 + 1 : Nat) : Int))), (3, vi (((m + 1 + 1 : Nat) : Int))), (2, vi (s.1 170 5)), (0, .ref 170), (1, vi deep)] [vi z64] s20 _
            refine wr_n (pc2 := 276) (lv2 := [(27, vi z64), (25, vl ((cc : Int))), (23, vl R), (21, vl S), (19, vl U), (17, vl A), (15, vl (s.1 170 26)), (13, vl r0), (11, vl v0), (9, vl u0), (7, vl a0), (6, vi (((m + 1 + 1 + 1 + 1 + 1 + 1 + 1 + 1 + 1 + 1 : Nat) : Int))), (5, vi ((q : Int))), (4, vi (((m + 1 + 1 + 1 : Nat) : Int))), (3, vi (((m + 1 + 1 : Nat) : Int))), (2, vi (s.1 170 5)), (0, .ref 170), (1, vi deep)]) (st2 := []) 1 (fun _ _ => rfl) ?_
            exact j276 _ ⟨by omega, fun h9 => absurd h9 (by omega)⟩
          · refine wr_if1f rfl rfl (by unfold i32; omega) h63 ?_
            refine wr_n (pc2 := 218) (lv2 := [(27, vi wg), (25, vl ((cc : Int))), (23, vl R), (21, vl S), (19, vl U), (17, vl A), (15, vl (s.1 170 26)), (13, vl r0), (11, vl v0), (9, vl u0), (7, vl a0), (6, vi (((m + 1 + 1 + 1 + 1 + 1 + 1 + 1 + 1 + 1 + 1 : Nat) : Int))), (5, vi ((q : Int))), (4, vi (((m + 1 + 1 + 1 : Nat) : Int))), (3, vi (((m + 1 + 1 : Nat) : Int))), (2, vi (s.1 170 5)), (0, .ref 170), (1, vi deep)]) (st2 := [.ref 170, vi wg]) 1 (fun _ _ => rfl) ?_
            refine wr_get (v := vl (s20.1 170 22)) rfl rfl rfl (by decide) rfl fun h66 => ?_
            show wr (n + 400) tb_M155 221 [(27, vi wg), (25, vl ((cc : Int))), (23, vl R), (21, vl S), (19, vl U), (17, vl A), (15, vl (s.1 170 26)), (13, vl r0), (11, vl v0), (9, vl u0), (7, vl a0), (6, vi (((m + 1 + 1 + 1 + 1 + 1 + 1 + 1 + 1 + 1 + 1 : Nat) : Int))), (5, vi ((q : Int))), (4, vi (((m + 1 + 1 + 1 : Nat) : Int))), (3, vi (((m + 1 + 1 : Nat) : Int))), (2, vi (s.1 170 5)), (0, .ref 170), (1, vi deep)] [vl (s20.1 170 22), vi wg] s20 _
            refine wr_n (pc2 := 225) (lv2 := [(27, vi wg), (25, vl ((cc : Int))), (23, vl R), (21, vl S), (19, vl U), (17, vl A), (15, vl (s.1 170 26)), (13, vl r0), (11, vl v0), (9, vl u0), (7, vl a0), (6, vi (((m + 1 + 1 + 1 + 1 + 1 + 1 + 1 + 1 + 1 + 1 : Nat) : Int))), (5, vi ((q : Int))), (4, vi (((m + 1 + 1 + 1 : Nat) : Int))), (3, vi (((m + 1 + 1 : Nat) : Int))), (2, vi (s.1 170 5)), (0, .ref 170), (1, vi deep)]) (st2 := [vl A, vl U, vl (s20.1 170 22), vi wg]) 2 (fun _ _ => rfl) ?_
            refine wr_lor (a := U) (b := A) rfl fun z67 h68 h69 => ?_
            show wr (n + 400) tb_M155 226 [(27, vi wg), (25, vl ((cc : Int))), (23, vl R), (21, vl S), (19, vl U), (17, vl A), (15, vl (s.1 170 26)), (13, vl r0), (11, vl v0), (9, vl u0), (7, vl a0), (6, vi (((m + 1 + 1 + 1 + 1 + 1 + 1 + 1 + 1 + 1 + 1 : Nat) : Int))), (5, vi ((q : Int))), (4, vi (((m + 1 + 1 + 1 : Nat) : Int))), (3, vi (((m + 1 + 1 : Nat) : Int))), (2, vi (s.1 170 5)), (0, .ref 170), (1, vi deep)] [vl z67, vl (s20.1 170 22), vi wg] s20 _
            refine wr_land (a := s20.1 170 22) (b := z67) rfl fun z70 h71 h72 => ?_
            show wr (n + 400) tb_M155 227 [(27, vi wg), (25, vl ((cc : Int))), (23, vl R), (21, vl S), (19, vl U), (17, vl A), (15, vl (s.1 170 26)), (13, vl r0), (11, vl v0), (9, vl u0), (7, vl a0), (6, vi (((m + 1 + 1 + 1 + 1 + 1 + 1 + 1 + 1 + 1 + 1 : Nat) : Int))), (5, vi ((q : Int))), (4, vi (((m + 1 + 1 + 1 : Nat) : Int))), (3, vi (((m + 1 + 1 : Nat) : Int))), (2, vi (s.1 170 5)), (0, .ref 170), (1, vi deep)] [vl z70, vi wg] s20 _
            refine wr_n (pc2 := 228) (lv2 := [(27, vi wg), (25, vl ((cc : Int))), (23, vl R), (21, vl S), (19, vl U), (17, vl A), (15, vl (s.1 170 26)), (13, vl r0), (11, vl v0), (9, vl u0), (7, vl a0), (6, vi (((m + 1 + 1 + 1 + 1 + 1 + 1 + 1 + 1 + 1 + 1 : Nat) : Int))), (5, vi ((q : Int))), (4, vi (((m + 1 + 1 + 1 : Nat) : Int))), (3, vi (((m + 1 + 1 : Nat) : Int))), (2, vi (s.1 170 5)), (0, .ref 170), (1, vi deep)]) (st2 := [vl 0, vl z70, vi wg]) 1 (fun _ _ => rfl) ?_
            refine wr_lcmp (a := z70) (b := 0) rfl h71 (by unfold i64; omega) fun z73 h74 => ?_
            show wr (n + 400) tb_M155 229 [(27, vi wg), (25, vl ((cc : Int))), (23, vl R), (21, vl S), (19, vl U), (17, vl A), (15, vl (s.1 170 26)), (13, vl r0), (11, vl v0), (9, vl u0), (7, vl a0), (6, vi (((m + 1 + 1 + 1 + 1 + 1 + 1 + 1 + 1 + 1 + 1 : Nat) : Int))), (5, vi ((q : Int))), (4, vi (((m + 1 + 1 + 1 : Nat) : Int))), (3, vi (((m + 1 + 1 : Nat) : Int))), (2, vi (s.1 170 5)), (0, .ref 170), (1, vi deep)] [vi z73, vi wg] s20 _
            by_cases h75 : z73 ≠ 0
            · refine wr_if1t rfl rfl (by unfold i32; omega) h75 ?_
              refine wr_n (pc2 := 273) (lv2 := [(27, vi wg), (25, vl ((cc : Int))), (23, vl R), (21, vl S), (19, vl U), (17, vl A), (15, vl (s.1 170 26)), (13, vl r0), (11, vl v0), (9, vl u0), (7, vl a0), (6, vi (((m + 1 + 1 + 1 + 1 + 1 + 1 + 1 + 1 + 1 + 1 : Nat) : Int))), (5, vi ((q : Int))), (4, vi (((m + 1 + 1 + 1 : Nat) : Int))), (3, vi (((m + 1 + 1 : Nat) : Int))), (2, vi (s.1 170 5)), (0, .ref 170), (1, vi deep)]) (st2 := [vi 1, vi wg]) 2 (fun _ _ => rfl) ?_
              refine wr_ior01 (a := wg) (b := 1) rfl (by omega) (by omega) fun z76 h77 => ?_
              show wr (n + 400) tb_M155 274 [(27, vi wg), (25, vl ((cc : Int))), (23, vl R), (21, vl S), (19, vl U), (17, vl A), (15, vl (s.1 170 26)), (13, vl r0), (11, vl v0), (9, vl u0), (7, vl a0), (6, vi (((m + 1 + 1 + 1 + 1 + 1 + 1 + 1 + 1 + 1 + 1 : Nat) : Int))), (5, vi ((q : Int))), (4, vi (((m + 1 + 1 + 1 : Nat) : Int))), (3, vi (((m + 1 + 1 : Nat) : Int))), (2, vi (s.1 170 5)), (0, .ref 170), (1, vi deep)] [vi z76] s20 _
              refine wr_n (pc2 := 276) (lv2 := [(27, vi z76), (25, vl ((cc : Int))), (23, vl R), (21, vl S), (19, vl U), (17, vl A), (15, vl (s.1 170 26)), (13, vl r0), (11, vl v0), (9, vl u0), (7, vl a0), (6, vi (((m + 1 + 1 + 1 + 1 + 1 + 1 + 1 + 1 + 1 + 1 : Nat) : Int))), (5, vi ((q : Int))), (4, vi (((m + 1 + 1 + 1 : Nat) : Int))), (3, vi (((m + 1 + 1 : Nat) : Int))), (2, vi (s.1 170 5)), (0, .ref 170), (1, vi deep)]) (st2 := []) 1 (fun _ _ => rfl) ?_
              exact j276 _ ⟨by omega, fun h9 => absurd h9 (by omega)⟩
            · refine wr_if1f rfl rfl (by unfold i32; omega) h75 ?_
              refine wr_n (pc2 := 235) (lv2 := [(27, vi wg), (25, vl ((cc : Int))), (23, vl R), (21, vl S), (19, vl U), (17, vl A), (15, vl (s.1 170 26)), (13, vl r0), (11, vl v0), (9, vl u0), (7, vl a0), (6, vi (((m + 1 + 1 + 1 + 1 + 1 + 1 + 1 + 1 + 1 + 1 : Nat) : Int))), (5, vi ((q : Int))), (4, vi (((m + 1 + 1 + 1 : Nat) : Int))), (3, vi (((m + 1 + 1 : Nat) : Int))), (2, vi (s.1 170 5)), (0, .ref 170), (1, vi deep)]) (st2 := [.ref 170, vl S, vi wg]) 2 (fun _ _ => rfl) ?_
              refine wr_get (v := vl (s20.1 170 24)) rfl rfl rfl (by decide) rfl fun h78 => ?_
              show wr (n + 400) tb_M155 238 [(27, vi wg), (25, vl ((cc : Int))), (23, vl R), (21, vl S), (19, vl U), (17, vl A), (15, vl (s.1 170 26)), (13, vl r0), (11, vl v0), (9, vl u0), (7, vl a0), (6, vi (((m + 1 + 1 + 1 + 1 + 1 + 1 + 1 + 1 + 1 + 1 : Nat) : Int))), (5, vi ((q : Int))), (4, vi (((m + 1 + 1 + 1 : Nat) : Int))), (3, vi (((m + 1 + 1 : Nat) : Int))), (2, vi (s.1 170 5)), (0, .ref 170), (1, vi deep)] [vl (s20.1 170 24), vl S, vi wg] s20 _
              refine wr_land (a := S) (b := s20.1 170 24) rfl fun z79 h80 h81 => ?_
              show wr (n + 400) tb_M155 239 [(27, vi wg), (25, vl ((cc : Int))), (23, vl R), (21, vl S), (19, vl U), (17, vl A), (15, vl (s.1 170 26)), (13, vl r0), (11, vl v0), (9, vl u0), (7, vl a0), (6, vi (((m + 1 + 1 + 1 + 1 + 1 + 1 + 1 + 1 + 1 + 1 : Nat) : Int))), (5, vi ((q : Int))), (4, vi (((m + 1 + 1 + 1 : Nat) : Int))), (3, vi (((m + 1 + 1 : Nat) : Int))), (2, vi (s.1 170 5)), (0, .ref 170), (1, vi deep)] [vl z79, vi wg] s20 _
              refine wr_n (pc2 := 240) (lv2 := [(27, vi wg), (25, vl ((cc : Int))), (23, vl R), (21, vl S), (19, vl U), (17, vl A), (15, vl (s.1 170 26)), (13, vl r0), (11, vl v0), (9, vl u0), (7, vl a0), (6, vi (((m + 1 + 1 + 1 + 1 + 1 + 1 + 1 + 1 + 1 + 1 : Nat) : Int))), (5, vi ((q : Int))), (4, vi (((m + 1 + 1 + 1 : Nat) : Int))), (3, vi (((m + 1 + 1 : Nat) : Int))), (2, vi (s.1 170 5)), (0, .ref 170), (1, vi deep)]) (st2 := [vl 0, vl z79, vi wg]) 1 (fun _ _ => rfl) ?_
              refine wr_lcmp (a := z79) (b := 0) rfl h80 (by unfold i64; omega) fun z82 h83 => ?_
              show wr (n + 400) tb_M155 241 [(27, vi wg), (25, vl ((cc : Int))), (23, vl R), (21, vl S), (19, vl U), (17, vl A), (15, vl (s.1 170 26)), (13, vl r0), (11, vl v0), (9, vl u0), (7, vl a0), (6, vi (((m + 1 + 1 + 1 + 1 + 1 + 1 + 1 + 1 + 1 + 1 : Nat) : Int))), (5, vi ((q : Int))), (4, vi (((m + 1 + 1 + 1 : Nat) : Int))), (3, vi (((m + 1 + 1 : Nat) : Int))), (2, vi (s.1 170 5)), (0, .ref 170), (1, vi deep)] [vi z82, vi wg] s20 _
              by_cases h84 : z82 ≠ 0
              · refine wr_if1t rfl rfl (by unfold i32; omega) h84 ?_
                refine wr_n (pc2 := 273) (lv2 := [(27, vi wg), (25, vl ((cc : Int))), (23, vl R), (21, vl S), (19, vl U), (17, vl A), (15, vl (s.1 170 26)), (13, vl r0), (11, vl v0), (9, vl u0), (7, vl a0), (6, vi (((m + 1 + 1 + 1 + 1 + 1 + 1 + 1 + 1 + 1 + 1 : Nat) : Int))), (5, vi ((q : Int))), (4, vi (((m + 1 + 1 + 1 : Nat) : Int))), (3, vi (((m + 1 + 1 : Nat) : Int))), (2, vi (s.1 170 5)), (0, .ref 170), (1, vi deep)]) (st2 := [vi 1, vi wg]) 2 (fun _ _ => rfl) ?_
                refine wr_ior01 (a := wg) (b := 1) rfl (by omega) (by omega) fun z85 h86 => ?_
                show wr (n + 400) tb_M155 274 [(27, vi wg), (25, vl ((cc : Int))), (23, vl R), (21, vl S), (19, vl U), (17, vl A), (15, vl (s.1 170 26)), (13, vl r0), (11, vl v0), (9, vl u0), (7, vl a0), (6, vi (((m + 1 + 1 + 1 + 1 + 1 + 1 + 1 + 1 + 1 + 1 : Nat) : Int))), (5, vi ((q : Int))), (4, vi (((m + 1 + 1 + 1 : Nat) : Int))), (3, vi (((m + 1 + 1 : Nat) : Int))), (2, vi (s.1 170 5)), (0, .ref 170), (1, vi deep)] [vi z85] s20 _
                refine wr_n (pc2 := 276) (lv2 := [(27, vi z85), (25, vl ((cc : Int))), (23, vl R), (21, vl S), (19, vl U), (17, vl A), (15, vl (s.1 170 26)), (13, vl r0), (11, vl v0), (9, vl u0), (7, vl a0), (6, vi (((m + 1 + 1 + 1 + 1 + 1 + 1 + 1 + 1 + 1 + 1 : Nat) : Int))), (5, vi ((q : Int))), (4, vi (((m + 1 + 1 + 1 : Nat) : Int))), (3, vi (((m + 1 + 1 : Nat) : Int))), (2, vi (s.1 170 5)), (0, .ref 170), (1, vi deep)]) (st2 := []) 1 (fun _ _ => rfl) ?_
                exact j276 _ ⟨by omega, fun h9 => absurd h9 (by omega)⟩
              · refine wr_if1f rfl rfl (by unfold i32; omega) h84 ?_
                refine wr_n (pc2 := 247) (lv2 := [(27, vi wg), (25, vl ((cc : Int))), (23, vl R), (21, vl S), (19, vl U), (17, vl A), (15, vl (s.1 170 26)), (13, vl r0), (11, vl v0), (9, vl u0), (7, vl a0), (6, vi (((m + 1 + 1 + 1 + 1 + 1 + 1 + 1 + 1 + 1 + 1 : Nat) : Int))), (5, vi ((q : Int))), (4, vi (((m + 1 + 1 + 1 : Nat) : Int))), (3, vi (((m + 1 + 1 : Nat) : Int))), (2, vi (s.1 170 5)), (0, .ref 170), (1, vi deep)]) (st2 := [.ref 170, vl R, vi wg]) 2 (fun _ _ => rfl) ?_
                refine wr_get (v := vl (s20.1 170 25)) rfl rfl rfl (by decide) rfl fun h87 => ?_
                show wr (n + 400) tb_M155 250 [(27, vi wg), (25, vl ((cc : Int))), (23, vl R), (21, vl S), (19, vl U), (17, vl A), (15, vl (s.1 170 26)), (13, vl r0), (11, vl v0), (9, vl u0), (7, vl a0), (6, vi (((m + 1 + 1 + 1 + 1 + 1 + 1 + 1 + 1 + 1 + 1 : Nat) : Int))), (5, vi ((q : Int))), (4, vi (((m + 1 + 1 + 1 : Nat) : Int))), (3, vi (((m + 1 + 1 : Nat) : Int))), (2, vi (s.1 170 5)), (0, .ref 170), (1, vi deep)] [vl (s20.1 170 25), vl R, vi wg] s20 _
                refine wr_land (a := R) (b := s20.1 170 25) rfl fun z88 h89 h90 => ?_
                show wr (n + 400) tb_M155 251 [(27, vi wg), (25, vl ((cc : Int))), (23, vl R), (21, vl S), (19, vl U), (17, vl A), (15, vl (s.1 170 26)), (13, vl r0), (11, vl v0), (9, vl u0), (7, vl a0), (6, vi (((m + 1 + 1 + 1 + 1 + 1 + 1 + 1 + 1 + 1 + 1 : Nat) : Int))), (5, vi ((q : Int))), (4, vi (((m + 1 + 1 + 1 : Nat) : Int))), (3, vi (((m + 1 + 1 : Nat) : Int))), (2, vi (s.1 170 5)), (0, .ref 170), (1, vi deep)] [vl z88, vi wg] s20 _
                refine wr_n (pc2 := 252) (lv2 := [(27, vi wg), (25, vl ((cc : Int))), (23, vl R), (21, vl S), (19, vl U), (17, vl A), (15, vl (s.1 170 26)), (13, vl r0), (11, vl v0), (9, vl u0), (7, vl a0), (6, vi (((m + 1 + 1 + 1 + 1 + 1 + 1 + 1 + 1 + 1 + 1 : Nat) : Int))), (5, vi ((q : Int))), (4, vi (((m + 1 + 1 + 1 : Nat) : Int))), (3, vi (((m + 1 + 1 : Nat) : Int))), (2, vi (s.1 170 5)), (0, .ref 170), (1, vi deep)]) (st2 := [vl 0, vl z88, vi wg]) 1 (fun _ _ => rfl) ?_
                refine wr_lcmp (a := z88) (b := 0) rfl h89 (by unfold i64; omega) fun z91 h92 => ?_
                show wr (n + 400) tb_M155 253 [(27, vi wg), (25, vl ((cc : Int))), (23, vl R), (21, vl S), (19, vl U), (17, vl A), (15, vl (s.1 170 26)), (13, vl r0), (11, vl v0), (9, vl u0), (7, vl a0), (6, vi (((m + 1 + 1 + 1 + 1 + 1 + 1 + 1 + 1 + 1 + 1 : Nat) : Int))), (5, vi ((q : Int))), (4, vi (((m + 1 + 1 + 1 : Nat) : Int))), (3, vi (((m + 1 + 1 : Nat) : Int))), (2, vi (s.1 170 5)), (0, .ref 170), (1, vi deep)] [vi z91, vi wg] s20 _
                by_cases h93 : z91 ≠ 0
                · refine wr_if1t rfl rfl (by unfold i32; omega) h93 ?_
                  refine wr_n (pc2 := 273) (lv2 := [(27, vi wg), (25, vl ((cc : Int))), (23, vl R), (21, vl S), (19, vl U), (17, vl A), (15, vl (s.1 170 26)), (13, vl r0), (11, vl v0), (9, vl u0), (7, vl a0), (6, vi (((m + 1 + 1 + 1 + 1 + 1 + 1 + 1 + 1 + 1 + 1 : Nat) : Int))), (5, vi ((q : Int))), (4, vi (((m + 1 + 1 + 1 : Nat) : Int))), (3, vi (((m + 1 + 1 : Nat) : Int))), (2, vi (s.1 170 5)), (0, .ref 170), (1, vi deep)]) (st2 := [vi 1, vi wg]) 2 (fun _ _ => rfl) ?_
                  refine wr_ior01 (a := wg) (b := 1) rfl (by omega) (by omega) fun z94 h95 => ?_
                  show wr (n + 400) tb_M155 274 [(27, vi wg), (25, vl ((cc : Int))), (23, vl R), (21, vl S), (19, vl U), (17, vl A), (15, vl (s.1 170 26)), (13, vl r0), (11, vl v0), (9, vl u0), (7, vl a0), (6, vi (((m + 1 + 1 + 1 + 1 + 1 + 1 + 1 + 1 + 1 + 1 : Nat) : Int))), (5, vi ((q : Int))), (4, vi (((m + 1 + 1 + 1 : Nat) : Int))), (3, vi (((m + 1 + 1 : Nat) : Int))), (2, vi (s.1 170 5)), (0, .ref 170), (1, vi deep)] [vi z94] s20 _
                  refine wr_n (pc2 := 276) (lv2 := [(27, vi z94), (25, vl ((cc : Int))), (23, vl R), (21, vl S), (19, vl U), (17, vl A), (15, vl (s.1 170 26)), (13, vl r0), (11, vl v0), (9, vl u0), (7, vl a0), (6, vi (((m + 1 + 1 + 1 + 1 + 1 + 1 + 1 + 1 + 1 + 1 : Nat) : Int))), (5, vi ((q : Int))), (4, vi (((m + 1 + 1 + 1 : Nat) : Int))), (3, vi (((m + 1 + 1 : Nat) : Int))), (2, vi (s.1 170 5)), (0, .ref 170), (1, vi deep)]) (st2 := []) 1 (fun _ _ => rfl) ?_
                  exact j276 _ ⟨by omega, fun h9 => absurd h9 (by omega)⟩
                · refine wr_if1f rfl rfl (by unfold i32; omega) h93 ?_
                  refine wr_n (pc2 := 259) (lv2 := [(27, vi wg), (25, vl ((cc : Int))), (23, vl R), (21, vl S), (19, vl U), (17, vl A), (15, vl (s.1 170 26)), (13, vl r0), (11, vl v0), (9, vl u0), (7, vl a0), (6, vi (((m + 1 + 1 + 1 + 1 + 1 + 1 + 1 + 1 + 1 + 1 : Nat) : Int))), (5, vi ((q : Int))), (4, vi (((m + 1 + 1 + 1 : Nat) : Int))), (3, vi (((m + 1 + 1 : Nat) : Int))), (2, vi (s.1 170 5)), (0, .ref 170), (1, vi deep)]) (st2 := [.ref 170, vl ((cc : Int)), vi wg]) 2 (fun _ _ => rfl) ?_
                  refine wr_get (v := vl (s20.1 170 26)) rfl rfl rfl (by decide) rfl fun h96 => ?_
                  show wr (n + 400) tb_M155 262 [(27, vi wg), (25, vl ((cc : Int))), (23, vl R), (21, vl S), (19, vl U), (17, vl A), (15, vl (s.1 170 26)), (13, vl r0), (11, vl v0), (9, vl u0), (7, vl a0), (6, vi (((m + 1 + 1 + 1 + 1 + 1 + 1 + 1 + 1 + 1 + 1 : Nat) : Int))), (5, vi ((q : Int))), (4, vi (((m + 1 + 1 + 1 : Nat) : Int))), (3, vi (((m + 1 + 1 : Nat) : Int))), (2, vi (s.1 170 5)), (0, .ref 170), (1, vi deep)] [vl (s20.1 170 26), vl ((cc : Int)), vi wg] s20 _
                  refine wr_land (a := (cc : Int)) (b := s20.1 170 26) rfl fun z97 h98 h99 => ?_
                  show wr (n + 400) tb_M155 263 [(27, vi wg), (25, vl ((cc : Int))), (23, vl R), (21, vl S), (19, vl U), (17, vl A), (15, vl (s.1 170 26)), (13, vl r0), (11, vl v0), (9, vl u0), (7, vl a0), (6, vi (((m + 1 + 1 + 1 + 1 + 1 + 1 + 1 + 1 + 1 + 1 : Nat) : Int))), (5, vi ((q : Int))), (4, vi (((m + 1 + 1 + 1 : Nat) : Int))), (3, vi (((m + 1 + 1 : Nat) : Int))), (2, vi (s.1 170 5)), (0, .ref 170), (1, vi deep)] [vl z97, vi wg] s20 _
                  refine wr_n (pc2 := 264) (lv2 := [(27, vi wg), (25, vl ((cc : Int))), (23, vl R), (21, vl S), (19, vl U), (17, vl A), (15, vl (s.1 170 26)), (13, vl r0), (11, vl v0), (9, vl u0), (7, vl a0), (6, vi (((m + 1 + 1 + 1 + 1 + 1 + 1 + 1 + 1 + 1 + 1 : Nat) : Int))), (5, vi ((q : Int))), (4, vi (((m + 1 + 1 + 1 : Nat) : Int))), (3, vi (((m + 1 + 1 : Nat) : Int))), (2, vi (s.1 170 5)), (0, .ref 170), (1, vi deep)]) (st2 := [vl 0, vl z97, vi wg]) 1 (fun _ _ => rfl) ?_
                  refine wr_lcmp (a := z97) (b := 0) rfl h98 (by unfold i64; omega) fun z100 h101 => ?_
                  show wr (n + 400) tb_M155 265 [(27, vi wg), (25, vl ((cc : Int))), (23, vl R), (21, vl S), (19, vl U), (17, vl A), (15, vl (s.1 170 26)), (13, vl r0), (11, vl v0), (9, vl u0), (7, vl a0), (6, vi (((m + 1 + 1 + 1 + 1 + 1 + 1 + 1 + 1 + 1 + 1 : Nat) : Int))), (5, vi ((q : Int))), (4, vi (((m + 1 + 1 + 1 : Nat) : Int))), (3, vi (((m + 1 + 1 : Nat) : Int))), (2, vi (s.1 170 5)), (0, .ref 170), (1, vi deep)] [vi z100, vi wg] s20 _
                  by_cases h102 : z100 = 0
                  · refine wr_if1t rfl rfl (by unfold i32; omega) h102 ?_
                    obtain ⟨cm, hcm1, hcm2, -⟩ := MB_lt (BX_mb (BX_tr hC hBk14 hBk19) (by rw [hU12 170 26 (by omega)]; exact hst)) hnr
                    have hand : cc &&& (s20.1 170 26).toNat = 0 := by have h8 := h99 cc cm rfl hcm1 (by omega) hcm2; rw [hcm1, Int.toNat_natCast]; omega
                    refine wr_n (pc2 := 273) (lv2 := [(27, vi wg), (25, vl ((cc : Int))), (23, vl R), (21, vl S), (19, vl U), (17, vl A), (15, vl (s.1 170 26)), (13, vl r0), (11, vl v0), (9, vl u0), (7, vl a0), (6, vi (((m + 1 + 1 + 1 + 1 + 1 + 1 + 1 + 1 + 1 + 1 : Nat) : Int))), (5, vi ((q : Int))), (4, vi (((m + 1 + 1 + 1 : Nat) : Int))), (3, vi (((m + 1 + 1 : Nat) : Int))), (2, vi (s.1 170 5)), (0, .ref 170), (1, vi deep)]) (st2 := [vi 0, vi wg]) 1 (fun _ _ => rfl) ?_
                    refine wr_ior01 (a := wg) (b := 0) rfl (by omega) (by omega) fun z103 h104 => ?_
                    show wr (n + 400) tb_M155 274 [(27, vi wg), (25, vl ((cc : Int))), (23, vl R), (21, vl S), (19, vl U), (17, vl A), (15, vl (s.1 170 26)), (13, vl r0), (11, vl v0), (9, vl u0), (7, vl a0), (6, vi (((m + 1 + 1 + 1 + 1 + 1 + 1 + 1 + 1 + 1 + 1 : Nat) : Int))), (5, vi ((q : Int))), (4, vi (((m + 1 + 1 + 1 : Nat) : Int))), (3, vi (((m + 1 + 1 : Nat) : Int))), (2, vi (s.1 170 5)), (0, .ref 170), (1, vi deep)] [vi z103] s20 _
                    refine wr_n (pc2 := 276) (lv2 := [(27, vi z103), (25, vl ((cc : Int))), (23, vl R), (21, vl S), (19, vl U), (17, vl A), (15, vl (s.1 170 26)), (13, vl r0), (11, vl v0), (9, vl u0), (7, vl a0), (6, vi (((m + 1 + 1 + 1 + 1 + 1 + 1 + 1 + 1 + 1 + 1 : Nat) : Int))), (5, vi ((q : Int))), (4, vi (((m + 1 + 1 + 1 : Nat) : Int))), (3, vi (((m + 1 + 1 : Nat) : Int))), (2, vi (s.1 170 5)), (0, .ref 170), (1, vi deep)]) (st2 := []) 1 (fun _ _ => rfl) ?_
                    exact j276 _ ⟨by omega, fun h9 => ⟨by omega, hand⟩⟩
                  · refine wr_if1f rfl rfl (by unfold i32; omega) h102 ?_
                    refine wr_n (pc2 := 273) (lv2 := [(27, vi wg), (25, vl ((cc : Int))), (23, vl R), (21, vl S), (19, vl U), (17, vl A), (15, vl (s.1 170 26)), (13, vl r0), (11, vl v0), (9, vl u0), (7, vl a0), (6, vi (((m + 1 + 1 + 1 + 1 + 1 + 1 + 1 + 1 + 1 + 1 : Nat) : Int))), (5, vi ((q : Int))), (4, vi (((m + 1 + 1 + 1 : Nat) : Int))), (3, vi (((m + 1 + 1 : Nat) : Int))), (2, vi (s.1 170 5)), (0, .ref 170), (1, vi deep)]) (st2 := [vi 1, vi wg]) 2 (fun _ _ => rfl) ?_
                    refine wr_ior01 (a := wg) (b := 1) rfl (by omega) (by omega) fun z105 h106 => ?_
                    show wr (n + 400) tb_M155 274 [(27, vi wg), (25, vl ((cc : Int))), (23, vl R), (21, vl S), (19, vl U), (17, vl A), (15, vl (s.1 170 26)), (13, vl r0), (11, vl v0), (9, vl u0), (7, vl a0), (6, vi (((m + 1 + 1 + 1 + 1 + 1 + 1 + 1 + 1 + 1 + 1 : Nat) : Int))), (5, vi ((q : Int))), (4, vi (((m + 1 + 1 + 1 : Nat) : Int))), (3, vi (((m + 1 + 1 : Nat) : Int))), (2, vi (s.1 170 5)), (0, .ref 170), (1, vi deep)] [vi z105] s20 _
                    refine wr_n (pc2 := 276) (lv2 := [(27, vi z105), (25, vl ((cc : Int))), (23, vl R), (21, vl S), (19, vl U), (17, vl A), (15, vl (s.1 170 26)), (13, vl r0), (11, vl v0), (9, vl u0), (7, vl a0), (6, vi (((m + 1 + 1 + 1 + 1 + 1 + 1 + 1 + 1 + 1 + 1 : Nat) : Int))), (5, vi ((q : Int))), (4, vi (((m + 1 + 1 + 1 : Nat) : Int))), (3, vi (((m + 1 + 1 : Nat) : Int))), (2, vi (s.1 170 5)), (0, .ref 170), (1, vi deep)]) (st2 := []) 1 (fun _ _ => rfl) ?_
                    exact j276 _ ⟨by omega, fun h9 => absurd h9 (by omega)⟩
    · refine wr_if2f rfl rfl (by unfold i32; omega) (by unfold i32; omega) h1 ?_
      refine wr_n (pc2 := 142) (lv2 := [(27, vi wg), (25, vl ((cc : Int))), (23, vl R), (21, vl S), (19, vl U), (17, vl A), (15, vl (s.1 170 26)), (13, vl r0), (11, vl v0), (9, vl u0), (7, vl a0), (6, vi (((m + 1 + 1 + 1 + 1 + 1 + 1 + 1 + 1 + 1 + 1 : Nat) : Int))), (5, vi ((q : Int))), (4, vi (((m + 1 + 1 + 1 : Nat) : Int))), (3, vi (((m + 1 + 1 : Nat) : Int))), (2, vi (s.1 170 5)), (0, .ref 170), (1, vi deep)]) (st2 := [.ref 170]) 1 (fun _ _ => rfl) ?_
      refine wr_call1 (args := []) (rest := []) rfl rfl rfl rfl (Nat.le_of_ble_eq_true rfl) (cr_mono (x_bad0 (C := C) (d := n + 398) _ htR) ?_)
      rintro s108 out ⟨rfl, hc107, hF107⟩
      · refine ⟨_, rfl, ?_⟩
        show wr (n + 400) tb_M155 145 [(27, vi wg), (25, vl ((cc : Int))), (23, vl R), (21, vl S), (19, vl U), (17, vl A), (15, vl (s.1 170 26)), (13, vl r0), (11, vl v0), (9, vl u0), (7, vl a0), (6, vi (((m + 1 + 1 + 1 + 1 + 1 + 1 + 1 + 1 + 1 + 1 : Nat) : Int))), (5, vi ((q : Int))), (4, vi (((m + 1 + 1 + 1 : Nat) : Int))), (3, vi (((m + 1 + 1 : Nat) : Int))), (2, vi (s.1 170 5)), (0, .ref 170), (1, vi deep)] [vi 0] s108 _
        refine wr_end (fun _ _ => rfl) ?_
        exact ⟨0, rfl, hc107.trans ht2, Or.inl ⟨rfl, FR_tr (BX_FR htB) hF107⟩⟩
  refine cr_of (M := tb_M155) rfl (Nat.le_of_ble_eq_true rfl) ?_
  show wr (n + 400) tb_M155 0 [(0, .ref 170), (1, vi deep)] [] s _
  refine wr_n (pc2 := 1) (lv2 := [(0, .ref 170), (1, vi deep)]) (st2 := [.ref 170]) 1 (fun _ _ => rfl) ?_
  refine wr_call1 (args := []) (rest := []) rfl rfl rfl rfl (Nat.le_of_ble_eq_true rfl) (cr_mono (x_part (d := n + 398) (m := m) hC _ hR hP hm (by omega) (by omega)) ?_)
  rintro s2 out ⟨rfl, hc1, hR1, hBk1, hK1, hm1, hp1, hda1⟩
  · refine ⟨_, rfl, ?_⟩
    show wr (n + 400) tb_M155 4 [(0, .ref 170), (1, vi deep)] [] s2 _
    obtain ⟨hu1, hk1⟩ := id hK1
    have hB4 : BX C (gn y) s.1 s2.1 := BX_tr hC (PI_rf hP) hBk1
    have hP4 : PI C y s2.1 := PI_BX hC hP hB4
    have hQ4 : CS s.1 s2.1 := CS_tr (CS_rf (r := s.1)) (KC_CS hK1)
    have hz4 : s2.2 = s.2 := hc1.trans rfl
    have hF4 : s2.1 170 4 = s.1 170 4 ∧ s2.1 170 5 = s.1 170 5 ∧ s2.1 170 6 = s.1 170 6 ∧ s2.1 170 7 = s.1 170 7 ∧ s2.1 170 14 = s.1 170 14 ∧ s2.1 170 16 = s.1 170 16 ∧ s2.1 170 21 = s.1 170 21 ∧ s2.1 C 3 = s.1 C 3 + 1 ∧ s2.1 C 10 = s.1 C 10 ∧ s.1 170 5 + 0 ≤ s2.1 170 5 ∧ 0 ≤ s2.1 170 5 ∧ s2.1 170 5 ≤ s2.1 170 6 ∧ s2.1 170 6 ≤ 2000 := by omega
    clear hk1 hp1
    refine wr_n (pc2 := 5) (lv2 := [(0, .ref 170), (1, vi deep)]) (st2 := [.ref 170]) 1 (fun _ _ => rfl) ?_
    refine wr_get (v := vi (s2.1 170 5)) rfl rfl rfl (by decide) rfl fun h5 => ?_
    have h5 : -2147483648 ≤ s2.1 170 5 ∧ s2.1 170 5 ≤ 2147483647 := h5
    show wr (n + 400) tb_M155 8 [(0, .ref 170), (1, vi deep)] [vi (s2.1 170 5)] s2 _
    rw [show s2.1 170 5 = s.1 170 5 by omega]
    show wr (n + 400) tb_M155 8 [(0, .ref 170), (1, vi deep)] [vi (s.1 170 5)] s2 _
    refine wr_n (pc2 := 10) (lv2 := [(2, vi (s.1 170 5)), (0, .ref 170), (1, vi deep)]) (st2 := [.ref 170]) 2 (fun _ _ => rfl) ?_
    refine wr_call1 (args := []) (rest := []) rfl rfl rfl rfl (Nat.le_of_ble_eq_true rfl) (cr_mono (x_step (d := n + 394) hC _ hR1 hP4) ?_)
    rintro s7 out ⟨rfl, hc6, hR6, hBk6, hK6, hf6⟩
    · refine ⟨_, rfl, ?_⟩
      show wr (n + 400) tb_M155 13 [(2, vi (s.1 170 5)), (0, .ref 170), (1, vi deep)] [] s7 _
      obtain ⟨hu6, hk6⟩ := id hK6
      replace hf6 : s2.1 170 6 ≤ s7.1 170 5 := hf6
      have hm6 : s7.1 C 1 = ((m + 1 : Nat) : Int) := by omega
      have hB9 : BX C (gn y) s.1 s7.1 := BX_tr hC hB4 hBk6
      have hP9 : PI C y s7.1 := PI_BX hC hP hB9
      have hQ9 : CS s.1 s7.1 := CS_tr hQ4 (KL_CS hK6)
      have hz9 : s7.2 = s.2 := hc6.trans hz4
      have hx9 := LX_nums hP9
      have hF9 : s.1 170 5 + 3 ≤ s7.1 170 5 ∧ s7.1 170 14 = s.1 170 14 ∧ s7.1 170 16 = s.1 170 16 ∧ s7.1 170 21 = s.1 170 21 ∧ s7.1 C 3 = s.1 C 3 + 1 ∧ s7.1 C 10 = s.1 C 10 ∧ 0 ≤ s7.1 170 5 ∧ s7.1 170 5 ≤ s7.1 170 6 ∧ s7.1 170 6 ≤ 2000 := by omega
      clear hk6 hf6 hx9 hF4
      refine wr_n (pc2 := 17) (lv2 := [(2, vi (s.1 170 5)), (0, .ref 170), (1, vi deep)]) (st2 := [.ref 28, .ref 170]) 2 (fun _ _ => rfl) ?_
      refine wr_call1 (args := [.ref 28]) (rest := []) rfl rfl rfl rfl (Nat.le_of_ble_eq_true rfl) (cr_mono (x_take (d := n + 393) isT_28 hC _ hR6 hP9) ?_)
      rintro s11 out ⟨b, rfl, hc10, ⟨rfl, hF10⟩ | ⟨rfl, hR10, hBk10, hK10, hf10⟩⟩
      · refine ⟨_, rfl, ?_⟩
        show wr (n + 400) tb_M155 20 [(2, vi (s.1 170 5)), (0, .ref 170), (1, vi deep)] [vi 0] s11 _
        refine wr_n (pc2 := 24) (lv2 := [(2, vi (s.1 170 5)), (0, .ref 170), (1, vi deep)]) (st2 := [vi 0]) 2 (fun _ _ => rfl) ?_
        refine wr_end (fun _ _ => rfl) ?_
        exact ⟨0, rfl, hc10.trans hz9, Or.inl ⟨rfl, FR_tr (BX_FR hB9) hF10⟩⟩
      · refine ⟨_, rfl, ?_⟩
        show wr (n + 400) tb_M155 20 [(2, vi (s.1 170 5)), (0, .ref 170), (1, vi deep)] [vi 1] s11 _
        obtain ⟨hu10, hk10⟩ := id hK10
        replace hf10 : s7.1 170 5 + 1 ≤ s11.1 170 5 := hf10
        have hm10 : s11.1 C 1 = ((m + 1 : Nat) : Int) := by omega
        have hB14 : BX C (gn y) s.1 s11.1 := BX_tr hC hB9 hBk10
        have hP14 : PI C y s11.1 := PI_BX hC hP hB14
        have hQ14 : CS s.1 s11.1 := CS_tr hQ9 (KL_CS hK10)
        have hz14 : s11.2 = s.2 := hc10.trans hz9
        have hx14 := LX_nums hP14
        have hF14 : s.1 170 5 + 4 ≤ s11.1 170 5 ∧ s11.1 170 14 = s.1 170 14 ∧ s11.1 170 16 = s.1 170 16 ∧ s11.1 170 21 = s.1 170 21 ∧ s11.1 C 3 = s.1 C 3 + 1 ∧ s11.1 C 10 = s.1 C 10 ∧ 0 ≤ s11.1 170 5 ∧ s11.1 170 5 ≤ s11.1 170 6 ∧ s11.1 170 6 ≤ 2000 := by omega
        clear hk10 hf10 hx14 hF9
        refine wr_n (pc2 := 28) (lv2 := [(2, vi (s.1 170 5)), (0, .ref 170), (1, vi deep)]) (st2 := [vi 19, .ref 170]) 3 (fun _ _ => rfl) ?_
        refine wr_call1 (args := [vi 19]) (rest := []) rfl rfl rfl rfl (Nat.le_of_ble_eq_true rfl) (cr_mono (x_put (d := n + 399) (m := m + 1) (v := 19) hC _ hR10 hP14 (by unfold i32; omega) hm10 (by omega)) ?_)
        rintro s16 out ⟨rfl, hc15, hR15, hBk15, hK15, hm15, hp15, hda15⟩
        · refine ⟨_, rfl, ?_⟩
          show wr (n + 400) tb_M155 31 [(2, vi (s.1 170 5)), (0, .ref 170), (1, vi deep)] [vi (((m + 1 : Nat) : Int))] s16 _
          obtain ⟨hu15, hk15⟩ := id hK15
          have hB18 : BX C (gn y) s.1 s16.1 := BX_tr hC hB14 hBk15
          have hP18 : PI C y s16.1 := PI_BX hC hP hB18
          have hQ18 : CS s.1 s16.1 := CS_tr hQ14 (KC_CS hK15)
          have hz18 : s16.2 = s.2 := hc15.trans hz14
          have hF18 : s16.1 170 4 = s11.1 170 4 ∧ s16.1 170 5 = s11.1 170 5 ∧ s16.1 170 6 = s11.1 170 6 ∧ s16.1 170 7 = s11.1 170 7 ∧ s16.1 170 14 = s.1 170 14 ∧ s16.1 170 16 = s.1 170 16 ∧ s16.1 170 21 = s.1 170 21 ∧ s16.1 C 3 = s.1 C 3 + 1 ∧ s16.1 C 10 = s.1 C 10 ∧ s.1 170 5 + 4 ≤ s16.1 170 5 ∧ 0 ≤ s16.1 170 5 ∧ s16.1 170 5 ≤ s16.1 170 6 ∧ s16.1 170 6 ≤ 2000 := by omega
          clear hk15 hp15 hF14
          refine wr_n (pc2 := 34) (lv2 := [(2, vi (s.1 170 5)), (0, .ref 170), (1, vi deep)]) (st2 := [vi 0, .ref 170]) 3 (fun _ _ => rfl) ?_
          refine wr_call1 (args := [vi 0]) (rest := []) rfl rfl rfl rfl (Nat.le_of_ble_eq_true rfl) (cr_mono (x_put (d := n + 399) (m := m + 1 + 1) (v := 0) hC _ hR15 hP18 (by unfold i32; omega) hm15 (by omega)) ?_)
          rintro s20 out ⟨rfl, hc19, hR19, hBk19, hK19, hm19, hp19, hda19⟩
          · refine ⟨_, rfl, ?_⟩
            show wr (n + 400) tb_M155 37 [(2, vi (s.1 170 5)), (0, .ref 170), (1, vi deep)] [vi (((m + 1 + 1 : Nat) : Int))] s20 _
            obtain ⟨hu19, hk19⟩ := id hK19
            have hB22 : BX C (gn y) s.1 s20.1 := BX_tr hC hB18 hBk19
            have hP22 : PI C y s20.1 := PI_BX hC hP hB22
            have hQ22 : CS s.1 s20.1 := CS_tr hQ18 (KC_CS hK19)
            have hz22 : s20.2 = s.2 := hc19.trans hz18
            have hF22 : s20.1 170 4 = s11.1 170 4 ∧ s20.1 170 5 = s11.1 170 5 ∧ s20.1 170 6 = s11.1 170 6 ∧ s20.1 170 7 = s11.1 170 7 ∧ s20.1 170 14 = s.1 170 14 ∧ s20.1 170 16 = s.1 170 16 ∧ s20.1 170 21 = s.1 170 21 ∧ s20.1 C 3 = s.1 C 3 + 1 ∧ s20.1 C 10 = s.1 C 10 ∧ s.1 170 5 + 4 ≤ s20.1 170 5 ∧ 0 ≤ s20.1 170 5 ∧ s20.1 170 5 ≤ s20.1 170 6 ∧ s20.1 170 6 ≤ 2000 := by omega
            clear hk19 hp19 hF18
            refine wr_n (pc2 := 39) (lv2 := [(3, vi (((m + 1 + 1 : Nat) : Int))), (2, vi (s.1 170 5)), (0, .ref 170), (1, vi deep)]) (st2 := [.ref 170]) 2 (fun _ _ => rfl) ?_
            refine wr_get (v := .ref C) rfl rfl rfl (by decide) (rv_ref (show s20.1 170 19 = ((C : Nat) : Int) from hP22.1)) fun h23 => ?_
            show wr (n + 400) tb_M155 42 [(3, vi (((m + 1 + 1 : Nat) : Int))), (2, vi (s.1 170 5)), (0, .ref 170), (1, vi deep)] [.ref C] s20 _
            refine wr_get (v := vi (s20.1 C 1)) rfl rfl (TG_C hC) (by decide) rfl fun h24 => ?_
            have h24 : -2147483648 ≤ s20.1 C 1 ∧ s20.1 C 1 ≤ 2147483647 := h24
            show wr (n + 400) tb_M155 45 [(3, vi (((m + 1 + 1 : Nat) : Int))), (2, vi (s.1 170 5)), (0, .ref 170), (1, vi deep)] [vi (s20.1 C 1)] s20 _
            rw [hm19]
            show wr (n + 400) tb_M155 45 [(3, vi (((m + 1 + 1 : Nat) : Int))), (2, vi (s.1 170 5)), (0, .ref 170), (1, vi deep)] [vi (((m + 1 + 1 + 1 : Nat) : Int))] s20 _
            refine wr_n (pc2 := 62) (lv2 := [(6, vi 0), (5, vi 0), (4, vi (((m + 1 + 1 + 1 : Nat) : Int))), (3, vi (((m + 1 + 1 : Nat) : Int))), (2, vi (s.1 170 5)), (0, .ref 170), (1, vi deep)]) (st2 := [vi 0, .ref 170]) 10 (fun _ _ => rfl) ?_
            refine wr_call1 (args := [vi 0]) (rest := []) rfl rfl rfl rfl (Nat.le_of_ble_eq_true rfl) (cr_mono (x_put (d := n + 399) (m := m + 1 + 1 + 1) (v := 0) hC _ hR19 hP22 (by unfold i32; omega) hm19 (by omega)) ?_)
            rintro s26 out ⟨rfl, hc25, hR25, hBk25, hK25, hm25, hp25, hda25⟩
            · refine ⟨_, rfl, ?_⟩
              show wr (n + 400) tb_M155 65 [(6, vi 0), (5, vi 0), (4, vi (((m + 1 + 1 + 1 : Nat) : Int))), (3, vi (((m + 1 + 1 : Nat) : Int))), (2, vi (s.1 170 5)), (0, .ref 170), (1, vi deep)] [vi (((m + 1 + 1 + 1 : Nat) : Int))] s26 _
              obtain ⟨hu25, hk25⟩ := id hK25
              have hB28 : BX C (gn y) s.1 s26.1 := BX_tr hC hB22 hBk25
              have hP28 : PI C y s26.1 := PI_BX hC hP hB28
              have hQ28 : CS s.1 s26.1 := CS_tr hQ22 (KC_CS hK25)
              have hz28 : s26.2 = s.2 := hc25.trans hz22
              have hF28 : s26.1 170 4 = s11.1 170 4 ∧ s26.1 170 5 = s11.1 170 5 ∧ s26.1 170 6 = s11.1 170 6 ∧ s26.1 170 7 = s11.1 170 7 ∧ s26.1 170 14 = s.1 170 14 ∧ s26.1 170 16 = s.1 170 16 ∧ s26.1 170 21 = s.1 170 21 ∧ s26.1 C 3 = s.1 C 3 + 1 ∧ s26.1 C 10 = s.1 C 10 ∧ s.1 170 5 + 4 ≤ s26.1 170 5 ∧ 0 ≤ s26.1 170 5 ∧ s26.1 170 5 ≤ s26.1 170 6 ∧ s26.1 170 6 ≤ 2000 := by omega
              clear hk25 hp25 hF22
              refine wr_n (pc2 := 66) (lv2 := [(6, vi 0), (5, vi 0), (4, vi (((m + 1 + 1 + 1 : Nat) : Int))), (3, vi (((m + 1 + 1 : Nat) : Int))), (2, vi (s.1 170 5)), (0, .ref 170), (1, vi deep)]) (st2 := []) 1 (fun _ _ => rfl) ?_
              refine wr_inc (a := 0) rfl rfl ?_
              show wr (n + 400) tb_M155 69 [(6, vi 1), (5, vi 0), (4, vi (((m + 1 + 1 + 1 : Nat) : Int))), (3, vi (((m + 1 + 1 : Nat) : Int))), (2, vi (s.1 170 5)), (0, .ref 170), (1, vi deep)] [] s26 _
              refine wr_n (pc2 := 62) (lv2 := [(6, vi 1), (5, vi 0), (4, vi (((m + 1 + 1 + 1 : Nat) : Int))), (3, vi (((m + 1 + 1 : Nat) : Int))), (2, vi (s.1 170 5)), (0, .ref 170), (1, vi deep)]) (st2 := [vi 0, .ref 170]) 6 (fun _ _ => rfl) ?_
              refine wr_call1 (args := [vi 0]) (rest := []) rfl rfl rfl rfl (Nat.le_of_ble_eq_true rfl) (cr_mono (x_put (d := n + 399) (m := m + 1 + 1 + 1 + 1) (v := 0) hC _ hR25 hP28 (by unfold i32; omega) hm25 (by omega)) ?_)
              rintro s30 out ⟨rfl, hc29, hR29, hBk29, hK29, hm29, hp29, hda29⟩
              · refine ⟨_, rfl, ?_⟩
                show wr (n + 400) tb_M155 65 [(6, vi 1), (5, vi 0), (4, vi (((m + 1 + 1 + 1 : Nat) : Int))), (3, vi (((m + 1 + 1 : Nat) : Int))), (2, vi (s.1 170 5)), (0, .ref 170), (1, vi deep)] [vi (((m + 1 + 1 + 1 + 1 : Nat) : Int))] s30 _
                obtain ⟨hu29, hk29⟩ := id hK29
                have hB32 : BX C (gn y) s.1 s30.1 := BX_tr hC hB28 hBk29
                have hP32 : PI C y s30.1 := PI_BX hC hP hB32
                have hQ32 : CS s.1 s30.1 := CS_tr hQ28 (KC_CS hK29)
                have hz32 : s30.2 = s.2 := hc29.trans hz28
                have hF32 : s30.1 170 4 = s11.1 170 4 ∧ s30.1 170 5 = s11.1 170 5 ∧ s30.1 170 6 = s11.1 170 6 ∧ s30.1 170 7 = s11.1 170 7 ∧ s30.1 170 14 = s.1 170 14 ∧ s30.1 170 16 = s.1 170 16 ∧ s30.1 170 21 = s.1 170 21 ∧ s30.1 C 3 = s.1 C 3 + 1 ∧ s30.1 C 10 = s.1 C 10 ∧ s.1 170 5 + 4 ≤ s30.1 170 5 ∧ 0 ≤ s30.1 170 5 ∧ s30.1 170 5 ≤ s30.1 170 6 ∧ s30.1 170 6 ≤ 2000 := by omega
                clear hk29 hp29 hF28
                refine wr_n (pc2 := 66) (lv2 := [(6, vi 1), (5, vi 0), (4, vi (((m + 1 + 1 + 1 : Nat) : Int))), (3, vi (((m + 1 + 1 : Nat) : Int))), (2, vi (s.1 170 5)), (0, .ref 170), (1, vi deep)]) (st2 := []) 1 (fun _ _ => rfl) ?_
                refine wr_inc (a := 1) rfl rfl ?_
                show wr (n + 400) tb_M155 69 [(6, vi 2), (5, vi 0), (4, vi (((m + 1 + 1 + 1 : Nat) : Int))), (3, vi (((m + 1 + 1 : Nat) : Int))), (2, vi (s.1 170 5)), (0, .ref 170), (1, vi deep)] [] s30 _
                refine wr_n (pc2 := 62) (lv2 := [(6, vi 2), (5, vi 0), (4, vi (((m + 1 + 1 + 1 : Nat) : Int))), (3, vi (((m + 1 + 1 : Nat) : Int))), (2, vi (s.1 170 5)), (0, .ref 170), (1, vi deep)]) (st2 := [vi 0, .ref 170]) 6 (fun _ _ => rfl) ?_
                refine wr_call1 (args := [vi 0]) (rest := []) rfl rfl rfl rfl (Nat.le_of_ble_eq_true rfl) (cr_mono (x_put (d := n + 399) (m := m + 1 + 1 + 1 + 1 + 1) (v := 0) hC _ hR29 hP32 (by unfold i32; omega) hm29 (by omega)) ?_)
                rintro s34 out ⟨rfl, hc33, hR33, hBk33, hK33, hm33, hp33, hda33⟩
                · refine ⟨_, rfl, ?_⟩
                  show wr (n + 400) tb_M155 65 [(6, vi 2), (5, vi 0), (4, vi (((m + 1 + 1 + 1 : Nat) : Int))), (3, vi (((m + 1 + 1 : Nat) : Int))), (2, vi (s.1 170 5)), (0, .ref 170), (1, vi deep)] [vi (((m + 1 + 1 + 1 + 1 + 1 : Nat) : Int))] s34 _
                  obtain ⟨hu33, hk33⟩ := id hK33
                  have hB36 : BX C (gn y) s.1 s34.1 := BX_tr hC hB32 hBk33
                  have hP36 : PI C y s34.1 := PI_BX hC hP hB36
                  have hQ36 : CS s.1 s34.1 := CS_tr hQ32 (KC_CS hK33)
                  have hz36 : s34.2 = s.2 := hc33.trans hz32
                  have hF36 : s34.1 170 4 = s11.1 170 4 ∧ s34.1 170 5 = s11.1 170 5 ∧ s34.1 170 6 = s11.1 170 6 ∧ s34.1 170 7 = s11.1 170 7 ∧ s34.1 170 14 = s.1 170 14 ∧ s34.1 170 16 = s.1 170 16 ∧ s34.1 170 21 = s.1 170 21 ∧ s34.1 C 3 = s.1 C 3 + 1 ∧ s34.1 C 10 = s.1 C 10 ∧ s.1 170 5 + 4 ≤ s34.1 170 5 ∧ 0 ≤ s34.1 170 5 ∧ s34.1 170 5 ≤ s34.1 170 6 ∧ s34.1 170 6 ≤ 2000 := by omega
                  clear hk33 hp33 hF32
                  refine wr_n (pc2 := 66) (lv2 := [(6, vi 2), (5, vi 0), (4, vi (((m + 1 + 1 + 1 : Nat) : Int))), (3, vi (((m + 1 + 1 : Nat) : Int))), (2, vi (s.1 170 5)), (0, .ref 170), (1, vi deep)]) (st2 := []) 1 (fun _ _ => rfl) ?_
                  refine wr_inc (a := 2) rfl rfl ?_
                  show wr (n + 400) tb_M155 69 [(6, vi 3), (5, vi 0), (4, vi (((m + 1 + 1 + 1 : Nat) : Int))), (3, vi (((m + 1 + 1 : Nat) : Int))), (2, vi (s.1 170 5)), (0, .ref 170), (1, vi deep)] [] s34 _
                  refine wr_n (pc2 := 62) (lv2 := [(6, vi 3), (5, vi 0), (4, vi (((m + 1 + 1 + 1 : Nat) : Int))), (3, vi (((m + 1 + 1 : Nat) : Int))), (2, vi (s.1 170 5)), (0, .ref 170), (1, vi deep)]) (st2 := [vi 0, .ref 170]) 6 (fun _ _ => rfl) ?_
                  refine wr_call1 (args := [vi 0]) (rest := []) rfl rfl rfl rfl (Nat.le_of_ble_eq_true rfl) (cr_mono (x_put (d := n + 399) (m := m + 1 + 1 + 1 + 1 + 1 + 1) (v := 0) hC _ hR33 hP36 (by unfold i32; omega) hm33 (by omega)) ?_)
                  rintro s38 out ⟨rfl, hc37, hR37, hBk37, hK37, hm37, hp37, hda37⟩
                  · refine ⟨_, rfl, ?_⟩
                    show wr (n + 400) tb_M155 65 [(6, vi 3), (5, vi 0), (4, vi (((m + 1 + 1 + 1 : Nat) : Int))), (3, vi (((m + 1 + 1 : Nat) : Int))), (2, vi (s.1 170 5)), (0, .ref 170), (1, vi deep)] [vi (((m + 1 + 1 + 1 + 1 + 1 + 1 : Nat) : Int))] s38 _
                    obtain ⟨hu37, hk37⟩ := id hK37
                    have hB40 : BX C (gn y) s.1 s38.1 := BX_tr hC hB36 hBk37
                    have hP40 : PI C y s38.1 := PI_BX hC hP hB40
                    have hQ40 : CS s.1 s38.1 := CS_tr hQ36 (KC_CS hK37)
                    have hz40 : s38.2 = s.2 := hc37.trans hz36
                    have hF40 : s38.1 170 4 = s11.1 170 4 ∧ s38.1 170 5 = s11.1 170 5 ∧ s38.1 170 6 = s11.1 170 6 ∧ s38.1 170 7 = s11.1 170 7 ∧ s38.1 170 14 = s.1 170 14 ∧ s38.1 170 16 = s.1 170 16 ∧ s38.1 170 21 = s.1 170 21 ∧ s38.1 C 3 = s.1 C 3 + 1 ∧ s38.1 C 10 = s.1 C 10 ∧ s.1 170 5 + 4 ≤ s38.1 170 5 ∧ 0 ≤ s38.1 170 5 ∧ s38.1 170 5 ≤ s38.1 170 6 ∧ s38.1 170 6 ≤ 2000 := by omega
                    clear hk37 hp37 hF36
                    refine wr_n (pc2 := 66) (lv2 := [(6, vi 3), (5, vi 0), (4, vi (((m + 1 + 1 + 1 : Nat) : Int))), (3, vi (((m + 1 + 1 : Nat) : Int))), (2, vi (s.1 170 5)), (0, .ref 170), (1, vi deep)]) (st2 := []) 1 (fun _ _ => rfl) ?_
                    refine wr_inc (a := 3) rfl rfl ?_
                    show wr (n + 400) tb_M155 69 [(6, vi 4), (5, vi 0), (4, vi (((m + 1 + 1 + 1 : Nat) : Int))), (3, vi (((m + 1 + 1 : Nat) : Int))), (2, vi (s.1 170 5)), (0, .ref 170), (1, vi deep)] [] s38 _
                    refine wr_n (pc2 := 62) (lv2 := [(6, vi 4), (5, vi 0), (4, vi (((m + 1 + 1 + 1 : Nat) : Int))), (3, vi (((m + 1 + 1 : Nat) : Int))), (2, vi (s.1 170 5)), (0, .ref 170), (1, vi deep)]) (st2 := [vi 0, .ref 170]) 6 (fun _ _ => rfl) ?_
                    refine wr_call1 (args := [vi 0]) (rest := []) rfl rfl rfl rfl (Nat.le_of_ble_eq_true rfl) (cr_mono (x_put (d := n + 399) (m := m + 1 + 1 + 1 + 1 + 1 + 1 + 1) (v := 0) hC _ hR37 hP40 (by unfold i32; omega) hm37 (by omega)) ?_)
                    rintro s42 out ⟨rfl, hc41, hR41, hBk41, hK41, hm41, hp41, hda41⟩
                    · refine ⟨_, rfl, ?_⟩
                      show wr (n + 400) tb_M155 65 [(6, vi 4), (5, vi 0), (4, vi (((m + 1 + 1 + 1 : Nat) : Int))), (3, vi (((m + 1 + 1 : Nat) : Int))), (2, vi (s.1 170 5)), (0, .ref 170), (1, vi deep)] [vi (((m + 1 + 1 + 1 + 1 + 1 + 1 + 1 : Nat) : Int))] s42 _
                      obtain ⟨hu41, hk41⟩ := id hK41
                      have hB44 : BX C (gn y) s.1 s42.1 := BX_tr hC hB40 hBk41
                      have hP44 : PI C y s42.1 := PI_BX hC hP hB44
                      have hQ44 : CS s.1 s42.1 := CS_tr hQ40 (KC_CS hK41)
                      have hz44 : s42.2 = s.2 := hc41.trans hz40
                      have hF44 : s42.1 170 4 = s11.1 170 4 ∧ s42.1 170 5 = s11.1 170 5 ∧ s42.1 170 6 = s11.1 170 6 ∧ s42.1 170 7 = s11.1 170 7 ∧ s42.1 170 14 = s.1 170 14 ∧ s42.1 170 16 = s.1 170 16 ∧ s42.1 170 21 = s.1 170 21 ∧ s42.1 C 3 = s.1 C 3 + 1 ∧ s42.1 C 10 = s.1 C 10 ∧ s.1 170 5 + 4 ≤ s42.1 170 5 ∧ 0 ≤ s42.1 170 5 ∧ s42.1 170 5 ≤ s42.1 170 6 ∧ s42.1 170 6 ≤ 2000 := by omega
                      clear hk41 hp41 hF40
                      refine wr_n (pc2 := 66) (lv2 := [(6, vi 4), (5, vi 0), (4, vi (((m + 1 + 1 + 1 : Nat) : Int))), (3, vi (((m + 1 + 1 : Nat) : Int))), (2, vi (s.1 170 5)), (0, .ref 170), (1, vi deep)]) (st2 := []) 1 (fun _ _ => rfl) ?_
                      refine wr_inc (a := 4) rfl rfl ?_
                      show wr (n + 400) tb_M155 69 [(6, vi 5), (5, vi 0), (4, vi (((m + 1 + 1 + 1 : Nat) : Int))), (3, vi (((m + 1 + 1 : Nat) : Int))), (2, vi (s.1 170 5)), (0, .ref 170), (1, vi deep)] [] s42 _
                      refine wr_n (pc2 := 62) (lv2 := [(6, vi 5), (5, vi 0), (4, vi (((m + 1 + 1 + 1 : Nat) : Int))), (3, vi (((m + 1 + 1 : Nat) : Int))), (2, vi (s.1 170 5)), (0, .ref 170), (1, vi deep)]) (st2 := [vi 0, .ref 170]) 6 (fun _ _ => rfl) ?_
                      refine wr_call1 (args := [vi 0]) (rest := []) rfl rfl rfl rfl (Nat.le_of_ble_eq_true rfl) (cr_mono (x_put (d := n + 399) (m := m + 1 + 1 + 1 + 1 + 1 + 1 + 1 + 1) (v := 0) hC _ hR41 hP44 (by unfold i32; omega) hm41 (by omega)) ?_)
                      rintro s46 out ⟨rfl, hc45, hR45, hBk45, hK45, hm45, hp45, hda45⟩
                      · refine ⟨_, rfl, ?_⟩
                        show wr (n + 400) tb_M155 65 [(6, vi 5), (5, vi 0), (4, vi (((m + 1 + 1 + 1 : Nat) : Int))), (3, vi (((m + 1 + 1 : Nat) : Int))), (2, vi (s.1 170 5)), (0, .ref 170), (1, vi deep)] [vi (((m + 1 + 1 + 1 + 1 + 1 + 1 + 1 + 1 : Nat) : Int))] s46 _
                        obtain ⟨hu45, hk45⟩ := id hK45
                        have hB48 : BX C (gn y) s.1 s46.1 := BX_tr hC hB44 hBk45
                        have hP48 : PI C y s46.1 := PI_BX hC hP hB48
                        have hQ48 : CS s.1 s46.1 := CS_tr hQ44 (KC_CS hK45)
                        have hz48 : s46.2 = s.2 := hc45.trans hz44
                        have hF48 : s46.1 170 4 = s11.1 170 4 ∧ s46.1 170 5 = s11.1 170 5 ∧ s46.1 170 6 = s11.1 170 6 ∧ s46.1 170 7 = s11.1 170 7 ∧ s46.1 170 14 = s.1 170 14 ∧ s46.1 170 16 = s.1 170 16 ∧ s46.1 170 21 = s.1 170 21 ∧ s46.1 C 3 = s.1 C 3 + 1 ∧ s46.1 C 10 = s.1 C 10 ∧ s.1 170 5 + 4 ≤ s46.1 170 5 ∧ 0 ≤ s46.1 170 5 ∧ s46.1 170 5 ≤ s46.1 170 6 ∧ s46.1 170 6 ≤ 2000 := by omega
                        clear hk45 hp45 hF44
                        refine wr_n (pc2 := 66) (lv2 := [(6, vi 5), (5, vi 0), (4, vi (((m + 1 + 1 + 1 : Nat) : Int))), (3, vi (((m + 1 + 1 : Nat) : Int))), (2, vi (s.1 170 5)), (0, .ref 170), (1, vi deep)]) (st2 := []) 1 (fun _ _ => rfl) ?_
                        refine wr_inc (a := 5) rfl rfl ?_
                        show wr (n + 400) tb_M155 69 [(6, vi 6), (5, vi 0), (4, vi (((m + 1 + 1 + 1 : Nat) : Int))), (3, vi (((m + 1 + 1 : Nat) : Int))), (2, vi (s.1 170 5)), (0, .ref 170), (1, vi deep)] [] s46 _
                        refine wr_n (pc2 := 75) (lv2 := [(6, vi 6), (5, vi 0), (4, vi (((m + 1 + 1 + 1 : Nat) : Int))), (3, vi (((m + 1 + 1 : Nat) : Int))), (2, vi (s.1 170 5)), (0, .ref 170), (1, vi deep)]) (st2 := [vi 9, .ref 170]) 6 (fun _ _ => rfl) ?_
                        refine wr_call1 (args := [vi 9]) (rest := []) rfl rfl rfl rfl (Nat.le_of_ble_eq_true rfl) (cr_mono (x_put (d := n + 399) (m := m + 1 + 1 + 1 + 1 + 1 + 1 + 1 + 1 + 1) (v := 9) hC _ hR45 hP48 (by unfold i32; omega) hm45 (by omega)) ?_)
                        rintro s50 out ⟨rfl, hc49, hR49, hBk49, hK49, hm49, hp49, hda49⟩
                        · refine ⟨_, rfl, ?_⟩
                          show wr (n + 400) tb_M155 78 [(6, vi 6), (5, vi 0), (4, vi (((m + 1 + 1 + 1 : Nat) : Int))), (3, vi (((m + 1 + 1 : Nat) : Int))), (2, vi (s.1 170 5)), (0, .ref 170), (1, vi deep)] [vi (((m + 1 + 1 + 1 + 1 + 1 + 1 + 1 + 1 + 1 : Nat) : Int))] s50 _
                          obtain ⟨hu49, hk49⟩ := id hK49
                          have hB52 : BX C (gn y) s.1 s50.1 := BX_tr hC hB48 hBk49
                          have hP52 : PI C y s50.1 := PI_BX hC hP hB52
                          have hQ52 : CS s.1 s50.1 := CS_tr hQ48 (KC_CS hK49)
                          have hz52 : s50.2 = s.2 := hc49.trans hz48
                          have hF52 : s50.1 170 4 = s11.1 170 4 ∧ s50.1 170 5 = s11.1 170 5 ∧ s50.1 170 6 = s11.1 170 6 ∧ s50.1 170 7 = s11.1 170 7 ∧ s50.1 170 14 = s.1 170 14 ∧ s50.1 170 16 = s.1 170 16 ∧ s50.1 170 21 = s.1 170 21 ∧ s50.1 C 3 = s.1 C 3 + 1 ∧ s50.1 C 10 = s.1 C 10 ∧ s.1 170 5 + 4 ≤ s50.1 170 5 ∧ 0 ≤ s50.1 170 5 ∧ s50.1 170 5 ≤ s50.1 170 6 ∧ s50.1 170 6 ≤ 2000 := by omega
                          clear hk49 hp49 hF48
                          refine wr_n (pc2 := 81) (lv2 := [(6, vi 6), (5, vi 0), (4, vi (((m + 1 + 1 + 1 : Nat) : Int))), (3, vi (((m + 1 + 1 : Nat) : Int))), (2, vi (s.1 170 5)), (0, .ref 170), (1, vi deep)]) (st2 := [vi 0, .ref 170]) 3 (fun _ _ => rfl) ?_
                          refine wr_call1 (args := [vi 0]) (rest := []) rfl rfl rfl rfl (Nat.le_of_ble_eq_true rfl) (cr_mono (x_put (d := n + 399) (m := m + 1 + 1 + 1 + 1 + 1 + 1 + 1 + 1 + 1 + 1) (v := 0) hC _ hR49 hP52 (by unfold i32; omega) hm49 (by omega)) ?_)
                          rintro s54 out ⟨rfl, hc53, hR53, hBk53, hK53, hm53, hp53, hda53⟩
                          · refine ⟨_, rfl, ?_⟩
                            show wr (n + 400) tb_M155 84 [(6, vi 6), (5, vi 0), (4, vi (((m + 1 + 1 + 1 : Nat) : Int))), (3, vi (((m + 1 + 1 : Nat) : Int))), (2, vi (s.1 170 5)), (0, .ref 170), (1, vi deep)] [vi (((m + 1 + 1 + 1 + 1 + 1 + 1 + 1 + 1 + 1 + 1 : Nat) : Int))] s54 _
                            obtain ⟨hu53, hk53⟩ := id hK53
                            have hB56 : BX C (gn y) s.1 s54.1 := BX_tr hC hB52 hBk53
                            have hP56 : PI C y s54.1 := PI_BX hC hP hB56
                            have hQ56 : CS s.1 s54.1 := CS_tr hQ52 (KC_CS hK53)
                            have hz56 : s54.2 = s.2 := hc53.trans hz52
                            have hF56 : s54.1 170 4 = s11.1 170 4 ∧ s54.1 170 5 = s11.1 170 5 ∧ s54.1 170 6 = s11.1 170 6 ∧ s54.1 170 7 = s11.1 170 7 ∧ s54.1 170 14 = s.1 170 14 ∧ s54.1 170 16 = s.1 170 16 ∧ s54.1 170 21 = s.1 170 21 ∧ s54.1 C 3 = s.1 C 3 + 1 ∧ s54.1 C 10 = s.1 C 10 ∧ s.1 170 5 + 4 ≤ s54.1 170 5 ∧ 0 ≤ s54.1 170 5 ∧ s54.1 170 5 ≤ s54.1 170 6 ∧ s54.1 170 6 ≤ 2000 := by omega
                            clear hk53 hp53 hF52
                            refine wr_n (pc2 := 87) (lv2 := [(6, vi (((m + 1 + 1 + 1 + 1 + 1 + 1 + 1 + 1 + 1 + 1 : Nat) : Int))), (5, vi 0), (4, vi (((m + 1 + 1 + 1 : Nat) : Int))), (3, vi (((m + 1 + 1 : Nat) : Int))), (2, vi (s.1 170 5)), (0, .ref 170), (1, vi deep)]) (st2 := [.ref 170]) 2 (fun _ _ => rfl) ?_
                            refine wr_get (v := vl (s54.1 170 22)) rfl rfl rfl (by decide) rfl fun h57 => ?_
                            show wr (n + 400) tb_M155 90 [(6, vi (((m + 1 + 1 + 1 + 1 + 1 + 1 + 1 + 1 + 1 + 1 : Nat) : Int))), (5, vi 0), (4, vi (((m + 1 + 1 + 1 : Nat) : Int))), (3, vi (((m + 1 + 1 : Nat) : Int))), (2, vi (s.1 170 5)), (0, .ref 170), (1, vi deep)] [vl (s54.1 170 22)] s54 _
                            refine wr_n (pc2 := 93) (lv2 := [(7, vl (s54.1 170 22)), (6, vi (((m + 1 + 1 + 1 + 1 + 1 + 1 + 1 + 1 + 1 + 1 : Nat) : Int))), (5, vi 0), (4, vi (((m + 1 + 1 + 1 : Nat) : Int))), (3, vi (((m + 1 + 1 : Nat) : Int))), (2, vi (s.1 170 5)), (0, .ref 170), (1, vi deep)]) (st2 := [.ref 170]) 2 (fun _ _ => rfl) ?_
                            refine wr_get (v := vl (s54.1 170 23)) rfl rfl rfl (by decide) rfl fun h58 => ?_
                            show wr (n + 400) tb_M155 96 [(7, vl (s54.1 170 22)), (6, vi (((m + 1 + 1 + 1 + 1 + 1 + 1 + 1 + 1 + 1 + 1 : Nat) : Int))), (5, vi 0), (4, vi (((m + 1 + 1 + 1 : Nat) : Int))), (3, vi (((m + 1 + 1 : Nat) : Int))), (2, vi (s.1 170 5)), (0, .ref 170), (1, vi deep)] [vl (s54.1 170 23)] s54 _
                            refine wr_n (pc2 := 99) (lv2 := [(9, vl (s54.1 170 23)), (7, vl (s54.1 170 22)), (6, vi (((m + 1 + 1 + 1 + 1 + 1 + 1 + 1 + 1 + 1 + 1 : Nat) : Int))), (5, vi 0), (4, vi (((m + 1 + 1 + 1 : Nat) : Int))), (3, vi (((m + 1 + 1 : Nat) : Int))), (2, vi (s.1 170 5)), (0, .ref 170), (1, vi deep)]) (st2 := [.ref 170]) 2 (fun _ _ => rfl) ?_
                            refine wr_get (v := vl (s54.1 170 24)) rfl rfl rfl (by decide) rfl fun h59 => ?_
                            show wr (n + 400) tb_M155 102 [(9, vl (s54.1 170 23)), (7, vl (s54.1 170 22)), (6, vi (((m + 1 + 1 + 1 + 1 + 1 + 1 + 1 + 1 + 1 + 1 : Nat) : Int))), (5, vi 0), (4, vi (((m + 1 + 1 + 1 : Nat) : Int))), (3, vi (((m + 1 + 1 : Nat) : Int))), (2, vi (s.1 170 5)), (0, .ref 170), (1, vi deep)] [vl (s54.1 170 24)] s54 _
                            refine wr_n (pc2 := 105) (lv2 := [(11, vl (s54.1 170 24)), (9, vl (s54.1 170 23)), (7, vl (s54.1 170 22)), (6, vi (((m + 1 + 1 + 1 + 1 + 1 + 1 + 1 + 1 + 1 + 1 : Nat) : Int))), (5, vi 0), (4, vi (((m + 1 + 1 + 1 : Nat) : Int))), (3, vi (((m + 1 + 1 : Nat) : Int))), (2, vi (s.1 170 5)), (0, .ref 170), (1, vi deep)]) (st2 := [.ref 170]) 2 (fun _ _ => rfl) ?_
                            refine wr_get (v := vl (s54.1 170 25)) rfl rfl rfl (by decide) rfl fun h60 => ?_
                            show wr (n + 400) tb_M155 108 [(11, vl (s54.1 170 24)), (9, vl (s54.1 170 23)), (7, vl (s54.1 170 22)), (6, vi (((m + 1 + 1 + 1 + 1 + 1 + 1 + 1 + 1 + 1 + 1 : Nat) : Int))), (5, vi 0), (4, vi (((m + 1 + 1 + 1 : Nat) : Int))), (3, vi (((m + 1 + 1 : Nat) : Int))), (2, vi (s.1 170 5)), (0, .ref 170), (1, vi deep)] [vl (s54.1 170 25)] s54 _
                            refine wr_n (pc2 := 111) (lv2 := [(13, vl (s54.1 170 25)), (11, vl (s54.1 170 24)), (9, vl (s54.1 170 23)), (7, vl (s54.1 170 22)), (6, vi (((m + 1 + 1 + 1 + 1 + 1 + 1 + 1 + 1 + 1 + 1 : Nat) : Int))), (5, vi 0), (4, vi (((m + 1 + 1 + 1 : Nat) : Int))), (3, vi (((m + 1 + 1 : Nat) : Int))), (2, vi (s.1 170 5)), (0, .ref 170), (1, vi deep)]) (st2 := [.ref 170]) 2 (fun _ _ => rfl) ?_
                            refine wr_get (v := vl (s54.1 170 26)) rfl rfl rfl (by decide) rfl fun h61 => ?_
                            show wr (n + 400) tb_M155 114 [(13, vl (s54.1 170 25)), (11, vl (s54.1 170 24)), (9, vl (s54.1 170 23)), (7, vl (s54.1 170 22)), (6, vi (((m + 1 + 1 + 1 + 1 + 1 + 1 + 1 + 1 + 1 + 1 : Nat) : Int))), (5, vi 0), (4, vi (((m + 1 + 1 + 1 : Nat) : Int))), (3, vi (((m + 1 + 1 : Nat) : Int))), (2, vi (s.1 170 5)), (0, .ref 170), (1, vi deep)] [vl (s54.1 170 26)] s54 _
                            have h26 : s54.1 170 26 = s.1 170 26 := (hK53.2.2.2.2.2.2.2.2.2.trans (hK49.2.2.2.2.2.2.2.2.2.trans (hK45.2.2.2.2.2.2.2.2.2.trans (hK41.2.2.2.2.2.2.2.2.2.trans (hK37.2.2.2.2.2.2.2.2.2.trans (hK33.2.2.2.2.2.2.2.2.2.trans (hK29.2.2.2.2.2.2.2.2.2.trans (hK25.2.2.2.2.2.2.2.2.2.trans (hK19.2.2.2.2.2.2.2.2.2.trans (hK15.2.2.2.2.2.2.2.2.2.trans (hK10.2.2.2.2.2.2.2.trans (hK6.2.2.2.2.2.2.2.trans hK1.2.2.2.2.2.2.2.2.2))))))))))))
                            rw [h26]
                            show wr (n + 400) tb_M155 114 [(13, vl (s54.1 170 25)), (11, vl (s54.1 170 24)), (9, vl (s54.1 170 23)), (7, vl (s54.1 170 22)), (6, vi (((m + 1 + 1 + 1 + 1 + 1 + 1 + 1 + 1 + 1 + 1 : Nat) : Int))), (5, vi 0), (4, vi (((m + 1 + 1 + 1 : Nat) : Int))), (3, vi (((m + 1 + 1 : Nat) : Int))), (2, vi (s.1 170 5)), (0, .ref 170), (1, vi deep)] [vl (s.1 170 26)] s54 _
                            refine wr_n (pc2 := 134) (lv2 := [(27, vi 0), (25, vl 0), (23, vl 0), (21, vl 0), (19, vl 0), (17, vl 0), (15, vl (s.1 170 26)), (13, vl (s54.1 170 25)), (11, vl (s54.1 170 24)), (9, vl (s54.1 170 23)), (7, vl (s54.1 170 22)), (6, vi (((m + 1 + 1 + 1 + 1 + 1 + 1 + 1 + 1 + 1 + 1 : Nat) : Int))), (5, vi 0), (4, vi (((m + 1 + 1 + 1 : Nat) : Int))), (3, vi (((m + 1 + 1 : Nat) : Int))), (2, vi (s.1 170 5)), (0, .ref 170), (1, vi deep)]) (st2 := []) 13 (fun _ _ => rfl) ?_
                            refine lpA _ _ k0 0 0 0 0 0 0 _ _ _ _ 0 hR53 hP56 hB56 hz56 hm53 (by omega) ⟨⟨by omega, by omega⟩, ⟨by omega, by omega⟩, ⟨by omega, by omega⟩, ⟨by omega, by omega⟩, h57, h58, h59, h60⟩ (fun b hb => by simp at hb) ⟨((BX_code hC (BX_tr hC (BX_tr hC (BX_tr hC (BX_tr hC (BX_tr hC (BX_tr hC (BX_tr hC (BX_tr hC (BX_tr hC (BX_tr hC (BX_tr hC hBk6 hBk10) hBk15) hBk19) hBk25) hBk29) hBk33) hBk37) hBk41) hBk45) hBk49) hBk53) (by omega)).trans hda1), ((BX_code hC (BX_tr hC (BX_tr hC (BX_tr hC (BX_tr hC (BX_tr hC (BX_tr hC (BX_tr hC (BX_tr hC hBk19 hBk25) hBk29) hBk33) hBk37) hBk41) hBk45) hBk49) hBk53) (by omega)).trans hda15), ((BX_code hC hBk53 (by omega)).trans hda49)⟩ (fun _ _ => PB_nil) (by omega)
