set_option maxHeartbeats 20000000 in
set_option maxRecDepth 100000 in
theorem mv_19 {d C b p na : Nat} {F : Ph} {G : Nat → gB} {own : Nat → Nat → Prop} {s s1 : rS} (hC : C = 177 ∨ C = 186) (hR : RF s.1) (hM : MC C F na s.1) (hI : RI F s.1 G own) (hb7 : b < 700) (hb : (b : Int) < s.1 170 55) (hg : s.1 206 b = 1) (hst : s.1 170 52 = 2) (hsteps : 0 ≤ s.1 170 53 ∧ s.1 170 53 ≤ s.1 170 54 ∧ s.1 170 54 ≤ 20000) (hp5 : s.1 205 b = (p : Int)) (ht0 : s.1 208 b = (bb (G b) (bn (G b)) : Int) + bh (G b) (bn (G b)) ∧ 0 ≤ s.1 208 b ∧ s.1 208 b ≤ 1000) (hrm : bb (G b) (bn (G b)) + frm (bx (G b) (bn (G b))) ≤ 1000) (hD1 : LD b s.1 s1.1) (hz1 : s1.2 = s.2) (hp1 : s1.1 205 b = ((p + 1 : Nat) : Int)) (ht1 : s1.1 208 b = s.1 208 b) (hik : ik na (s.1 (C + 1)) F p (bh (G b) (bn (G b))) (bw (G b) (bn (G b))) (bx (G b) (bn (G b))) 19) : cr (d + 4) 169 [.ref 170, vi ((b : Int))] s1 (ON F G b s) := by
  obtain ⟨a, n, w2, t, u, y, q1, n1, n6, hw, c, hc, hpp⟩ := hik
  have hR1 : RF s1.1 := LD_RF hb7 hD1 hR
  refine cr_of (M := tb_M169) rfl (Nat.le_of_ble_eq_true rfl) ?_
  show wr (d + 3) tb_M169 0 [(0, .ref 170), (1, vi ((b : Int)))] [] s1 _
  refine wr_n (pc2 := 2) (lv2 := [(0, .ref 170), (1, vi ((b : Int)))]) (st2 := [vi ((b : Int)), .ref 170]) 2 (fun _ _ => rfl) ?_
  refine wr_call1 (args := [vi ((b : Int))]) (rest := []) rfl rfl rfl rfl (Nat.le_of_ble_eq_true rfl) (cr_mono (x_readb (d := d + 2) (p := p + 1) hC _ hR1 ((hD1 170 17 (by omega) (by omega) (by omega)).trans hM.1) hb7 hp1 (by omega)) ?_)
  rintro s2 out ⟨rfl, hv1, hc1, hDk1, hp1, ht1⟩
  · refine ⟨_, rfl, ?_⟩
    show wr (d + 3) tb_M169 5 [(0, .ref 170), (1, vi ((b : Int)))] [vi (s1.1 (C + 1) (p + 1))] s2 _
    have hcd1 : s1.1 (C + 1) (p + 1) = s.1 (C + 1) (p + 1) := hD1 (C + 1) _ (by omega) (by omega) (by omega)
    rw [hcd1] at hv1
    unfold i32 at hv1
    rw [hcd1]
    have hD1 : LD b s.1 s2.1 := LD_tr hD1 hDk1
    have hR1 : RF s2.1 := LD_RF hb7 hD1 hR
    have hz1 : s2.2 = s.2 := hc1.trans hz1
    show wr (d + 3) tb_M169 5 [(0, .ref 170), (1, vi ((b : Int)))] [vi (s.1 (C + 1) (p + 1))] s2 _
    rw [q1]
    show wr (d + 3) tb_M169 5 [(0, .ref 170), (1, vi ((b : Int)))] [vi ((n : Int))] s2 _
    refine wr_n (pc2 := 7) (lv2 := [(2, vi ((n : Int))), (0, .ref 170), (1, vi ((b : Int)))]) (st2 := [.ref 170]) 2 (fun _ _ => rfl) ?_
    refine wr_get (v := .ref 205) rfl rfl rfl (by decide) (rv_ref (hR1 170 40 205 rfl)) fun h4 => ?_
    show wr (d + 3) tb_M169 10 [(2, vi ((n : Int))), (0, .ref 170), (1, vi ((b : Int)))] [.ref 205] s2 _
    refine wr_n (pc2 := 11) (lv2 := [(2, vi ((n : Int))), (0, .ref 170), (1, vi ((b : Int)))]) (st2 := [vi ((b : Int)), .ref 205]) 1 (fun _ _ => rfl) ?_
    refine wr_ald (a := (b : Int)) (v := vi (s2.1 205 b)) rfl rfl rfl (by omega) (by omega) (by decide) rfl fun h5 => ?_
    have h5 : -2147483648 ≤ s2.1 205 b ∧ s2.1 205 b ≤ 2147483647 := h5
    show wr (d + 3) tb_M169 12 [(2, vi ((n : Int))), (0, .ref 170), (1, vi ((b : Int)))] [vi (s2.1 205 b)] s2 _
    rw [hp1]
    show wr (d + 3) tb_M169 12 [(2, vi ((n : Int))), (0, .ref 170), (1, vi ((b : Int)))] [vi (((p + 2 : Nat) : Int))] s2 _
    refine wr_n (pc2 := 14) (lv2 := [(3, vi (((p + 2 : Nat) : Int))), (2, vi ((n : Int))), (0, .ref 170), (1, vi ((b : Int)))]) (st2 := [.ref 170]) 2 (fun _ _ => rfl) ?_
    refine wr_get (v := .ref 205) rfl rfl rfl (by decide) (rv_ref (hR1 170 40 205 rfl)) fun h6 => ?_
    show wr (d + 3) tb_M169 17 [(3, vi (((p + 2 : Nat) : Int))), (2, vi ((n : Int))), (0, .ref 170), (1, vi ((b : Int)))] [.ref 205] s2 _
    refine wr_n (pc2 := 19) (lv2 := [(3, vi (((p + 2 : Nat) : Int))), (2, vi ((n : Int))), (0, .ref 170), (1, vi ((b : Int)))]) (st2 := [vi ((b : Int)), .ref 205, vi ((b : Int)), .ref 205]) 2 (fun _ _ => rfl) ?_
    refine wr_ald (a := (b : Int)) (v := vi (s2.1 205 b)) rfl rfl rfl (by omega) (by omega) (by decide) rfl fun h7 => ?_
    have h7 : -2147483648 ≤ s2.1 205 b ∧ s2.1 205 b ≤ 2147483647 := h7
    show wr (d + 3) tb_M169 20 [(3, vi (((p + 2 : Nat) : Int))), (2, vi ((n : Int))), (0, .ref 170), (1, vi ((b : Int)))] [vi (s2.1 205 b), vi ((b : Int)), .ref 205] s2 _
    rw [hp1]
    show wr (d + 3) tb_M169 20 [(3, vi (((p + 2 : Nat) : Int))), (2, vi ((n : Int))), (0, .ref 170), (1, vi ((b : Int)))] [vi (((p + 2 : Nat) : Int)), vi ((b : Int)), .ref 205] s2 _
    refine wr_n (pc2 := 22) (lv2 := [(3, vi (((p + 2 : Nat) : Int))), (2, vi ((n : Int))), (0, .ref 170), (1, vi ((b : Int)))]) (st2 := [vi 6, vi (((p + 2 : Nat) : Int)), vi ((b : Int)), .ref 205]) 1 (fun _ _ => rfl) ?_
    refine wr_add (a := ((p + 2 : Nat) : Int)) (b := 6) rfl ?_
    show wr (d + 3) tb_M169 23 [(3, vi (((p + 2 : Nat) : Int))), (2, vi ((n : Int))), (0, .ref 170), (1, vi ((b : Int)))] [vi (((p + 2 : Nat) : Int) + 6), vi ((b : Int)), .ref 205] s2 _
    refine wr_ast (a := (b : Int)) (z := ((p + 2 : Nat) : Int) + 6) rfl (by decide) rfl rfl (by omega) (by omega) (by decide) rfl (show -2147483648 ≤ ((p + 2 : Nat) : Int) + 6 ∧ ((p + 2 : Nat) : Int) + 6 ≤ 2147483647 by omega) ?_
    show wr (d + 3) tb_M169 24 [(3, vi (((p + 2 : Nat) : Int))), (2, vi ((n : Int))), (0, .ref 170), (1, vi ((b : Int)))] [] (up2 s2.1 205 b (((p + 2 : Nat) : Int) + 6), s2.2) _
    have hR8 : RF (up2 s2.1 205 b (((p + 2 : Nat) : Int) + 6)) := (RF_up hR1 rfl)
    refine wr_n (pc2 := 30) (lv2 := [(4, vi 0), (3, vi (((p + 2 : Nat) : Int))), (2, vi ((n : Int))), (0, .ref 170), (1, vi ((b : Int)))]) (st2 := [vi ((n : Int)), vi 0]) 4 (fun _ _ => rfl) ?_
    by_cases h9 : (n : Int) ≤ 0
    · refine wr_if2t rfl rfl (by unfold i32; omega) (by unfold i32; omega) h9 ?_
      refine wr_n (pc2 := 106) (lv2 := [(4, vi 0), (3, vi (((p + 2 : Nat) : Int))), (2, vi ((n : Int))), (0, .ref 170), (1, vi ((b : Int)))]) (st2 := [.ref 170]) 1 (fun _ _ => rfl) ?_
      refine wr_get (v := .ref 211) rfl rfl rfl (by decide) (rv_ref (hR8 170 46 211 rfl)) fun h10 => ?_
      show wr (d + 3) tb_M169 109 [(4, vi 0), (3, vi (((p + 2 : Nat) : Int))), (2, vi ((n : Int))), (0, .ref 170), (1, vi ((b : Int)))] [.ref 211] (up2 s2.1 205 b (((p + 2 : Nat) : Int) + 6), s2.2) _
      refine wr_n (pc2 := 111) (lv2 := [(4, vi 0), (3, vi (((p + 2 : Nat) : Int))), (2, vi ((n : Int))), (0, .ref 170), (1, vi ((b : Int)))]) (st2 := [vi ((n : Int)), vi ((b : Int)), .ref 211]) 2 (fun _ _ => rfl) ?_
      refine wr_ast (a := (b : Int)) (z := (n : Int)) rfl (by decide) rfl rfl (by omega) (by omega) (by decide) rfl (show -2147483648 ≤ (n : Int) ∧ (n : Int) ≤ 2147483647 by omega) ?_
      show wr (d + 3) tb_M169 112 [(4, vi 0), (3, vi (((p + 2 : Nat) : Int))), (2, vi ((n : Int))), (0, .ref 170), (1, vi ((b : Int)))] [] (up2 (up2 s2.1 205 b (((p + 2 : Nat) : Int) + 6)) 211 b ((n : Int)), s2.2) _
      have hR11 : RF (up2 (up2 s2.1 205 b (((p + 2 : Nat) : Int) + 6)) 211 b ((n : Int))) := (RF_up (RF_up hR1 rfl) rfl)
      refine wr_n (pc2 := 113) (lv2 := [(4, vi 0), (3, vi (((p + 2 : Nat) : Int))), (2, vi ((n : Int))), (0, .ref 170), (1, vi ((b : Int)))]) (st2 := [.ref 170]) 1 (fun _ _ => rfl) ?_
      refine wr_get (v := .ref 206) rfl rfl rfl (by decide) (rv_ref (hR11 170 41 206 rfl)) fun h12 => ?_
      show wr (d + 3) tb_M169 116 [(4, vi 0), (3, vi (((p + 2 : Nat) : Int))), (2, vi ((n : Int))), (0, .ref 170), (1, vi ((b : Int)))] [.ref 206] (up2 (up2 s2.1 205 b (((p + 2 : Nat) : Int) + 6)) 211 b ((n : Int)), s2.2) _
      refine wr_n (pc2 := 119) (lv2 := [(4, vi 0), (3, vi (((p + 2 : Nat) : Int))), (2, vi ((n : Int))), (0, .ref 170), (1, vi ((b : Int)))]) (st2 := [vi 6, vi ((b : Int)), .ref 206]) 2 (fun _ _ => rfl) ?_
      refine wr_ast (a := (b : Int)) (z := 6) rfl (by decide) rfl rfl (by omega) (by omega) (by decide) rfl (show -2147483648 ≤ 6 ∧ 6 ≤ 2147483647 by omega) ?_
      show wr (d + 3) tb_M169 120 [(4, vi 0), (3, vi (((p + 2 : Nat) : Int))), (2, vi ((n : Int))), (0, .ref 170), (1, vi ((b : Int)))] [] (up2 (up2 (up2 s2.1 205 b (((p + 2 : Nat) : Int) + 6)) 211 b ((n : Int))) 206 b 6, s2.2) _
      have hR13 : RF (up2 (up2 (up2 s2.1 205 b (((p + 2 : Nat) : Int) + 6)) 211 b ((n : Int))) 206 b 6) := (RF_up (RF_up (RF_up hR1 rfl) rfl) rfl)
      refine wr_end (fun _ _ => rfl) ?_
      exfalso; omega
    · refine wr_if2f rfl rfl (by unfold i32; omega) (by unfold i32; omega) h9 ?_
      refine wr_n (pc2 := 36) (lv2 := [(5, vi 0), (4, vi 0), (3, vi (((p + 2 : Nat) : Int))), (2, vi ((n : Int))), (0, .ref 170), (1, vi ((b : Int)))]) (st2 := []) 2 (fun _ _ => rfl) ?_
      obtain ⟨sC, hsC⟩ : ∃ qq9 : rS, qq9 = (up2 s2.1 205 b (((p + 2 : Nat) : Int) + 6), s2.2) := ⟨_, rfl⟩
      rw [← hsC]
      have hCu : ∀ k j, ¬ (k = 205 ∧ j = b) → sC.1 k j = s2.1 k j := by rw [hsC]; intro k j e1; exact if_neg e1
      have hC5 : sC.1 205 b = ((p + 8 : Nat) : Int) := by rw [hsC]; show up2 s2.1 205 b _ 205 b = _; rw [up_self]; omega
      have hCD : LD b s.1 sC.1 := fun k j e1 e2 e3 => (hCu k j (by omega)).trans (hD1 k j e1 e2 e3)
      have hC8 : sC.1 208 b = s.1 208 b := (hCu 208 b (by omega)).trans (by omega)
      have hCc : sC.2 = s.2 := by rw [hsC]; exact hz1
      obtain ⟨hY, M, hL, hMM⟩ := FL_0 (r := sC.1) (q := p + 2) (p2 := p + 8) hb7 hI hb hg hCD hC5 hC8 c hc hpp
      exact l_fork hC hR hM hb7 hst ⟨n1, n6⟩ a hY (fun i hi => (hc i hi).1) (fun i hi => (hc i hi).2.1) hMM hw _ 0 sC rfl (by omega) (LD_RF hb7 hCD hR) (LD_RX hb7 hCD) (HD_at hM.2.2.2.2 (fun i => (hCD 1630 i (by omega) (by omega) (by omega)))) hCc ⟨(hCD 170 52 (by omega) (by omega) (by omega)), (hCD 170 53 (by omega) (by omega) (by omega)), (hCD 170 54 (by omega) (by omega) (by omega))⟩ (by rw [(hCD 170 55 (by omega) (by omega) (by omega))]; omega) ((hCD 206 b (by omega) (by omega) (by omega)).trans hg) hL
set_option maxHeartbeats 20000000 in
set_option maxRecDepth 100000 in
theorem w1_19 {d C b p na : Nat} {F : Ph} {G : Nat → gB} {own : Nat → Nat → Prop} {s : rS} (hC : C = 177 ∨ C = 186) (hR : RF s.1) (hM : MC C F na s.1) (hI : RI F s.1 G own) (hb7 : b < 700) (hb : (b : Int) < s.1 170 55) (hg : s.1 206 b = 1) (hst : s.1 170 52 = 2) (hsteps : 0 ≤ s.1 170 53 ∧ s.1 170 53 ≤ s.1 170 54 ∧ s.1 170 54 ≤ 20000) (hp5 : s.1 205 b = (p : Int)) (ht0 : s.1 208 b = (bb (G b) (bn (G b)) : Int) + bh (G b) (bn (G b)) ∧ 0 ≤ s.1 208 b ∧ s.1 208 b ≤ 1000) (hrm : bb (G b) (bn (G b)) + frm (bx (G b) (bn (G b))) ≤ 1000) (hk : s.1 (C + 1) p = 19) (hik : ik na (s.1 (C + 1)) F p (bh (G b) (bn (G b))) (bw (G b) (bn (G b))) (bx (G b) (bn (G b))) 19) : wr (d + 5) tb_M165 0 [(0, .ref 170), (1, vi ((b : Int)))] [] s (ON F G b s) := by
  have ha8 : p + 8 ≤ 24000 := hik.1
  refine wr_n (pc2 := 1) (lv2 := [(0, .ref 170), (1, vi ((b : Int)))]) (st2 := [.ref 170]) 1 (fun _ _ => rfl) ?_
  refine wr_get (v := .ref 205) rfl rfl rfl (by decide) (rv_ref (hR 170 40 205 rfl)) fun h1 => ?_
  show wr (d + 5) tb_M165 4 [(0, .ref 170), (1, vi ((b : Int)))] [.ref 205] s _
  refine wr_n (pc2 := 5) (lv2 := [(0, .ref 170), (1, vi ((b : Int)))]) (st2 := [vi ((b : Int)), .ref 205]) 1 (fun _ _ => rfl) ?_
  refine wr_ald (a := (b : Int)) (v := vi (s.1 205 b)) rfl rfl rfl (by omega) (by omega) (by decide) rfl fun h2 => ?_
  have h2 : -2147483648 ≤ s.1 205 b ∧ s.1 205 b ≤ 2147483647 := h2
  show wr (d + 5) tb_M165 6 [(0, .ref 170), (1, vi ((b : Int)))] [vi (s.1 205 b)] s _
  refine wr_n (pc2 := 9) (lv2 := [(2, vi (s.1 205 b)), (0, .ref 170), (1, vi ((b : Int)))]) (st2 := [vi ((b : Int)), .ref 170]) 3 (fun _ _ => rfl) ?_
  refine wr_call1 (args := [vi ((b : Int))]) (rest := []) rfl rfl rfl rfl (Nat.le_of_ble_eq_true rfl) (cr_mono (x_readb (d := d + 4) (p := p) hC _ hR hM.1 hb7 hp5 (by omega)) ?_)
  rintro s4 out ⟨rfl, hv3, hc3, hDk3, hp3, ht3⟩
  · refine ⟨_, rfl, ?_⟩
    show wr (d + 5) tb_M165 12 [(2, vi (s.1 205 b)), (0, .ref 170), (1, vi ((b : Int)))] [vi (s.1 (C + 1) (p))] s4 _
    have hcd3 : s.1 (C + 1) (p) = s.1 (C + 1) p := rfl
    rw [hcd3] at hv3
    unfold i32 at hv3
    rw [hk]
    have hD3 : LD b s.1 s4.1 := LD_tr LD_rf hDk3
    have hR3 : RF s4.1 := LD_RF hb7 hD3 hR
    have hz3 : s4.2 = s.2 := hc3.trans rfl
    show wr (d + 5) tb_M165 12 [(2, vi (s.1 205 b)), (0, .ref 170), (1, vi ((b : Int)))] [vi 19] s4 _
    refine wr_n (pc2 := 590) (lv2 := [(3, vi 19), (2, vi (s.1 205 b)), (0, .ref 170), (1, vi ((b : Int)))]) (st2 := [vi ((b : Int)), .ref 170]) 5 (fun _ _ => rfl) ?_
    refine wr_call1 (args := [vi ((b : Int))]) (rest := []) rfl rfl rfl rfl (Nat.le_of_ble_eq_true rfl) (cr_mono (mv_19 (d := d + 1) hC hR hM hI hb7 hb hg hst hsteps hp5 ht0 hrm hD3 hz3 hp3 (by omega) hik) ?_)
    rintro s7 out ⟨rfl, hO6⟩
    · refine ⟨_, rfl, ?_⟩
      show wr (d + 5) tb_M165 593 [(3, vi 19), (2, vi (s.1 205 b)), (0, .ref 170), (1, vi ((b : Int)))] [] s7 _
      refine wr_end (fun _ _ => rfl) ?_
      exact ⟨rfl, hO6⟩
