set_option maxHeartbeats 20000000 in
set_option maxRecDepth 100000 in
theorem w1_13 {d C b p na : Nat} {F : Ph} {G : Nat → gB} {own : Nat → Nat → Prop} {s : rS} (hC : C = 177 ∨ C = 186) (hR : RF s.1) (hM : MC C F na s.1) (hI : RI F s.1 G own) (hb7 : b < 700) (hb : (b : Int) < s.1 170 55) (hg : s.1 206 b = 1) (hst : s.1 170 52 = 2) (hsteps : 0 ≤ s.1 170 53 ∧ s.1 170 53 ≤ s.1 170 54 ∧ s.1 170 54 ≤ 20000) (hp5 : s.1 205 b = (p : Int)) (ht0 : s.1 208 b = (bb (G b) (bn (G b)) : Int) + bh (G b) (bn (G b)) ∧ 0 ≤ s.1 208 b ∧ s.1 208 b ≤ 1000) (hrm : bb (G b) (bn (G b)) + frm (bx (G b) (bn (G b))) ≤ 1000) (hF0 : F p (bh (G b) (bn (G b))) (bw (G b) (bn (G b))) (bx (G b) (bn (G b)))) (hk : s.1 (C + 1) p = 13) (hik : ik na (s.1 (C + 1)) F p (bh (G b) (bn (G b))) (bw (G b) (bn (G b))) (bx (G b) (bn (G b))) 13) : wr (d + 5) tb_M165 0 [(0, .ref 170), (1, vi ((b : Int)))] [] s (ON F G b s) := by
  have hik9 := hik
  obtain ⟨a, g, w2, g1, c1, c⟩ := hik
  refine wr_n (pc2 := 1) (lv2 := [(0, .ref 170), (1, vi ((b : Int)))]) (st2 := [.ref 170]) 1 (fun _ _ => rfl) ?_
  refine wr_get (v := .ref 205) rfl rfl rfl (by decide) (rv_ref (hR 170 40 205 rfl)) fun h1 => ?_
  show wr (d + 5) tb_M165 4 [(0, .ref 170), (1, vi ((b : Int)))] [.ref 205] s _
  refine wr_n (pc2 := 5) (lv2 := [(0, .ref 170), (1, vi ((b : Int)))]) (st2 := [vi ((b : Int)), .ref 205]) 1 (fun _ _ => rfl) ?_
  refine wr_ald (a := (b : Int)) (v := vi (s.1 205 b)) rfl rfl rfl (by omega) (by omega) (by decide) rfl fun h2 => ?_
  have h2 : -2147483648 ≤ s.1 205 b ∧ s.1 205 b ≤ 2147483647 := h2
  show wr (d + 5) tb_M165 6 [(0, .ref 170), (1, vi ((b : Int)))] [vi (s.1 205 b)] s _
  rw [hp5]
  show wr (d + 5) tb_M165 6 [(0, .ref 170), (1, vi ((b : Int)))] [vi ((p : Int))] s _
  refine wr_n (pc2 := 9) (lv2 := [(2, vi ((p : Int))), (0, .ref 170), (1, vi ((b : Int)))]) (st2 := [vi ((b : Int)), .ref 170]) 3 (fun _ _ => rfl) ?_
  refine wr_call1 (args := [vi ((b : Int))]) (rest := []) rfl rfl rfl rfl (Nat.le_of_ble_eq_true rfl) (cr_mono (x_readb (d := d + 4) (p := p) hC _ hR hM.1 hb7 hp5 (by omega)) ?_)
  rintro s4 out ⟨rfl, hv3, hc3, hDk3, hp3, ht3⟩
  · refine ⟨_, rfl, ?_⟩
    show wr (d + 5) tb_M165 12 [(2, vi ((p : Int))), (0, .ref 170), (1, vi ((b : Int)))] [vi (s.1 (C + 1) (p))] s4 _
    have hcd3 : s.1 (C + 1) (p) = s.1 (C + 1) p := rfl
    rw [hcd3] at hv3
    unfold i32 at hv3
    rw [hk]
    have hD3 : LD b s.1 s4.1 := LD_tr LD_rf hDk3
    have hR3 : RF s4.1 := LD_RF hb7 hD3 hR
    have hz3 : s4.2 = s.2 := hc3.trans rfl
    show wr (d + 5) tb_M165 12 [(2, vi ((p : Int))), (0, .ref 170), (1, vi ((b : Int)))] [vi 13] s4 _
    refine wr_n (pc2 := 657) (lv2 := [(3, vi 13), (2, vi ((p : Int))), (0, .ref 170), (1, vi ((b : Int)))]) (st2 := [vi ((b : Int)), .ref 170, vi 13, vi ((b : Int)), .ref 170]) 8 (fun _ _ => rfl) ?_
    refine wr_call1 (args := [vi ((b : Int))]) (rest := [vi 13, vi ((b : Int)), .ref 170]) rfl rfl rfl rfl (Nat.le_of_ble_eq_true rfl) (cr_mono (x_readb (d := d + 4) (p := p + 1) hC _ hR3 ((hD3 170 17 (by omega) (by omega) (by omega)).trans hM.1) hb7 hp3 (by omega)) ?_)
    rintro s7 out ⟨rfl, hv6, hc6, hDk6, hp6, ht6⟩
    · refine ⟨_, rfl, ?_⟩
      show wr (d + 5) tb_M165 660 [(3, vi 13), (2, vi ((p : Int))), (0, .ref 170), (1, vi ((b : Int)))] [vi (s4.1 (C + 1) (p + 1)), vi 13, vi ((b : Int)), .ref 170] s7 _
      have hcd6 : s4.1 (C + 1) (p + 1) = s.1 (C + 1) (p + 1) := hD3 (C + 1) _ (by omega) (by omega) (by omega)
      rw [hcd6] at hv6
      unfold i32 at hv6
      rw [hcd6]
      have hD6 : LD b s.1 s7.1 := LD_tr hD3 hDk6
      have hR6 : RF s7.1 := LD_RF hb7 hD6 hR
      have hz6 : s7.2 = s.2 := hc6.trans hz3
      show wr (d + 5) tb_M165 660 [(3, vi 13), (2, vi ((p : Int))), (0, .ref 170), (1, vi ((b : Int)))] [vi (s.1 (C + 1) (p + 1)), vi 13, vi ((b : Int)), .ref 170] s7 _
      refine wr_n (pc2 := 661) (lv2 := [(3, vi 13), (2, vi ((p : Int))), (0, .ref 170), (1, vi ((b : Int)))]) (st2 := [vi ((p : Int)), vi (s.1 (C + 1) (p + 1)), vi 13, vi ((b : Int)), .ref 170]) 1 (fun _ _ => rfl) ?_
      refine wr_call1 (args := [vi ((b : Int)), vi 13, vi (s.1 (C + 1) (p + 1)), vi ((p : Int))]) (rest := []) rfl rfl rfl rfl (Nat.le_of_ble_eq_true rfl) (cr_mono (mv_13 (d := d + 1) hC hR hM hI hb7 hb hg hst hsteps hp5 ht0 hrm hD6 hz6 hp6 (by omega) hF0 (by omega) (by unfold i32; omega) hik9 rfl) ?_)
      rintro s10 out ⟨rfl, hO9⟩
      · refine ⟨_, rfl, ?_⟩
        show wr (d + 5) tb_M165 664 [(3, vi 13), (2, vi ((p : Int))), (0, .ref 170), (1, vi ((b : Int)))] [] s10 _
        refine wr_end (fun _ _ => rfl) ?_
        exact ⟨rfl, hO9⟩
set_option maxHeartbeats 20000000 in
set_option maxRecDepth 100000 in
theorem w1_14 {d C b p na : Nat} {F : Ph} {G : Nat → gB} {own : Nat → Nat → Prop} {s : rS} (hC : C = 177 ∨ C = 186) (hR : RF s.1) (hM : MC C F na s.1) (hI : RI F s.1 G own) (hb7 : b < 700) (hb : (b : Int) < s.1 170 55) (hg : s.1 206 b = 1) (hst : s.1 170 52 = 2) (hsteps : 0 ≤ s.1 170 53 ∧ s.1 170 53 ≤ s.1 170 54 ∧ s.1 170 54 ≤ 20000) (hp5 : s.1 205 b = (p : Int)) (ht0 : s.1 208 b = (bb (G b) (bn (G b)) : Int) + bh (G b) (bn (G b)) ∧ 0 ≤ s.1 208 b ∧ s.1 208 b ≤ 1000) (hrm : bb (G b) (bn (G b)) + frm (bx (G b) (bn (G b))) ≤ 1000) (hF0 : F p (bh (G b) (bn (G b))) (bw (G b) (bn (G b))) (bx (G b) (bn (G b)))) (hk : s.1 (C + 1) p = 14) (hik : ik na (s.1 (C + 1)) F p (bh (G b) (bn (G b))) (bw (G b) (bn (G b))) (bx (G b) (bn (G b))) 14) : wr (d + 5) tb_M165 0 [(0, .ref 170), (1, vi ((b : Int)))] [] s (ON F G b s) := by
  have hik9 := hik
  obtain ⟨a, e, w2, c1, c⟩ := hik
  refine wr_n (pc2 := 1) (lv2 := [(0, .ref 170), (1, vi ((b : Int)))]) (st2 := [.ref 170]) 1 (fun _ _ => rfl) ?_
  refine wr_get (v := .ref 205) rfl rfl rfl (by decide) (rv_ref (hR 170 40 205 rfl)) fun h1 => ?_
  show wr (d + 5) tb_M165 4 [(0, .ref 170), (1, vi ((b : Int)))] [.ref 205] s _
  refine wr_n (pc2 := 5) (lv2 := [(0, .ref 170), (1, vi ((b : Int)))]) (st2 := [vi ((b : Int)), .ref 205]) 1 (fun _ _ => rfl) ?_
  refine wr_ald (a := (b : Int)) (v := vi (s.1 205 b)) rfl rfl rfl (by omega) (by omega) (by decide) rfl fun h2 => ?_
  have h2 : -2147483648 ≤ s.1 205 b ∧ s.1 205 b ≤ 2147483647 := h2
  show wr (d + 5) tb_M165 6 [(0, .ref 170), (1, vi ((b : Int)))] [vi (s.1 205 b)] s _
  rw [hp5]
  show wr (d + 5) tb_M165 6 [(0, .ref 170), (1, vi ((b : Int)))] [vi ((p : Int))] s _
  refine wr_n (pc2 := 9) (lv2 := [(2, vi ((p : Int))), (0, .ref 170), (1, vi ((b : Int)))]) (st2 := [vi ((b : Int)), .ref 170]) 3 (fun _ _ => rfl) ?_
  refine wr_call1 (args := [vi ((b : Int))]) (rest := []) rfl rfl rfl rfl (Nat.le_of_ble_eq_true rfl) (cr_mono (x_readb (d := d + 4) (p := p) hC _ hR hM.1 hb7 hp5 (by omega)) ?_)
  rintro s4 out ⟨rfl, hv3, hc3, hDk3, hp3, ht3⟩
  · refine ⟨_, rfl, ?_⟩
    show wr (d + 5) tb_M165 12 [(2, vi ((p : Int))), (0, .ref 170), (1, vi ((b : Int)))] [vi (s.1 (C + 1) (p))] s4 _
    have hcd3 : s.1 (C + 1) (p) = s.1 (C + 1) p := rfl
    rw [hcd3] at hv3
    unfold i32 at hv3
    rw [hk]
    have hD3 : LD b s.1 s4.1 := LD_tr LD_rf hDk3
    have hR3 : RF s4.1 := LD_RF hb7 hD3 hR
    have hz3 : s4.2 = s.2 := hc3.trans rfl
    show wr (d + 5) tb_M165 12 [(2, vi ((p : Int))), (0, .ref 170), (1, vi ((b : Int)))] [vi 14] s4 _
    refine wr_n (pc2 := 657) (lv2 := [(3, vi 14), (2, vi ((p : Int))), (0, .ref 170), (1, vi ((b : Int)))]) (st2 := [vi ((b : Int)), .ref 170, vi 14, vi ((b : Int)), .ref 170]) 8 (fun _ _ => rfl) ?_
    refine wr_call1 (args := [vi ((b : Int))]) (rest := [vi 14, vi ((b : Int)), .ref 170]) rfl rfl rfl rfl (Nat.le_of_ble_eq_true rfl) (cr_mono (x_readb (d := d + 4) (p := p + 1) hC _ hR3 ((hD3 170 17 (by omega) (by omega) (by omega)).trans hM.1) hb7 hp3 (by omega)) ?_)
    rintro s7 out ⟨rfl, hv6, hc6, hDk6, hp6, ht6⟩
    · refine ⟨_, rfl, ?_⟩
      show wr (d + 5) tb_M165 660 [(3, vi 14), (2, vi ((p : Int))), (0, .ref 170), (1, vi ((b : Int)))] [vi (s4.1 (C + 1) (p + 1)), vi 14, vi ((b : Int)), .ref 170] s7 _
      have hcd6 : s4.1 (C + 1) (p + 1) = s.1 (C + 1) (p + 1) := hD3 (C + 1) _ (by omega) (by omega) (by omega)
      rw [hcd6] at hv6
      unfold i32 at hv6
      rw [hcd6]
      have hD6 : LD b s.1 s7.1 := LD_tr hD3 hDk6
      have hR6 : RF s7.1 := LD_RF hb7 hD6 hR
      have hz6 : s7.2 = s.2 := hc6.trans hz3
      show wr (d + 5) tb_M165 660 [(3, vi 14), (2, vi ((p : Int))), (0, .ref 170), (1, vi ((b : Int)))] [vi (s.1 (C + 1) (p + 1)), vi 14, vi ((b : Int)), .ref 170] s7 _
      refine wr_n (pc2 := 661) (lv2 := [(3, vi 14), (2, vi ((p : Int))), (0, .ref 170), (1, vi ((b : Int)))]) (st2 := [vi ((p : Int)), vi (s.1 (C + 1) (p + 1)), vi 14, vi ((b : Int)), .ref 170]) 1 (fun _ _ => rfl) ?_
      refine wr_call1 (args := [vi ((b : Int)), vi 14, vi (s.1 (C + 1) (p + 1)), vi ((p : Int))]) (rest := []) rfl rfl rfl rfl (Nat.le_of_ble_eq_true rfl) (cr_mono (mv_14 (d := d + 1) hC hR hM hI hb7 hb hg hst hsteps hp5 ht0 hrm hD6 hz6 hp6 (by omega) hF0 (by omega) (by unfold i32; omega) hik9 rfl) ?_)
      rintro s10 out ⟨rfl, hO9⟩
      · refine ⟨_, rfl, ?_⟩
        show wr (d + 5) tb_M165 664 [(3, vi 14), (2, vi ((p : Int))), (0, .ref 170), (1, vi ((b : Int)))] [] s10 _
        refine wr_end (fun _ _ => rfl) ?_
        exact ⟨rfl, hO9⟩
set_option maxHeartbeats 20000000 in
set_option maxRecDepth 100000 in
theorem w1_15 {d C b p na : Nat} {F : Ph} {G : Nat → gB} {own : Nat → Nat → Prop} {s : rS} (hC : C = 177 ∨ C = 186) (hR : RF s.1) (hM : MC C F na s.1) (hI : RI F s.1 G own) (hb7 : b < 700) (hb : (b : Int) < s.1 170 55) (hg : s.1 206 b = 1) (hst : s.1 170 52 = 2) (hsteps : 0 ≤ s.1 170 53 ∧ s.1 170 53 ≤ s.1 170 54 ∧ s.1 170 54 ≤ 20000) (hp5 : s.1 205 b = (p : Int)) (ht0 : s.1 208 b = (bb (G b) (bn (G b)) : Int) + bh (G b) (bn (G b)) ∧ 0 ≤ s.1 208 b ∧ s.1 208 b ≤ 1000) (hrm : bb (G b) (bn (G b)) + frm (bx (G b) (bn (G b))) ≤ 1000) (hF0 : F p (bh (G b) (bn (G b))) (bw (G b) (bn (G b))) (bx (G b) (bn (G b)))) (hk : s.1 (C + 1) p = 15) (hik : ik na (s.1 (C + 1)) F p (bh (G b) (bn (G b))) (bw (G b) (bn (G b))) (bx (G b) (bn (G b))) 15) : wr (d + 5) tb_M165 0 [(0, .ref 170), (1, vi ((b : Int)))] [] s (ON F G b s) := by
  have hik9 := hik
  obtain ⟨a, ⟨q, q1, q2⟩, g, w2, g1, c1, c⟩ := hik
  refine wr_n (pc2 := 1) (lv2 := [(0, .ref 170), (1, vi ((b : Int)))]) (st2 := [.ref 170]) 1 (fun _ _ => rfl) ?_
  refine wr_get (v := .ref 205) rfl rfl rfl (by decide) (rv_ref (hR 170 40 205 rfl)) fun h1 => ?_
  show wr (d + 5) tb_M165 4 [(0, .ref 170), (1, vi ((b : Int)))] [.ref 205] s _
  refine wr_n (pc2 := 5) (lv2 := [(0, .ref 170), (1, vi ((b : Int)))]) (st2 := [vi ((b : Int)), .ref 205]) 1 (fun _ _ => rfl) ?_
  refine wr_ald (a := (b : Int)) (v := vi (s.1 205 b)) rfl rfl rfl (by omega) (by omega) (by decide) rfl fun h2 => ?_
  have h2 : -2147483648 ≤ s.1 205 b ∧ s.1 205 b ≤ 2147483647 := h2
  show wr (d + 5) tb_M165 6 [(0, .ref 170), (1, vi ((b : Int)))] [vi (s.1 205 b)] s _
  rw [hp5]
  show wr (d + 5) tb_M165 6 [(0, .ref 170), (1, vi ((b : Int)))] [vi ((p : Int))] s _
  refine wr_n (pc2 := 9) (lv2 := [(2, vi ((p : Int))), (0, .ref 170), (1, vi ((b : Int)))]) (st2 := [vi ((b : Int)), .ref 170]) 3 (fun _ _ => rfl) ?_
  refine wr_call1 (args := [vi ((b : Int))]) (rest := []) rfl rfl rfl rfl (Nat.le_of_ble_eq_true rfl) (cr_mono (x_readb (d := d + 4) (p := p) hC _ hR hM.1 hb7 hp5 (by omega)) ?_)
  rintro s4 out ⟨rfl, hv3, hc3, hDk3, hp3, ht3⟩
  · refine ⟨_, rfl, ?_⟩
    show wr (d + 5) tb_M165 12 [(2, vi ((p : Int))), (0, .ref 170), (1, vi ((b : Int)))] [vi (s.1 (C + 1) (p))] s4 _
    have hcd3 : s.1 (C + 1) (p) = s.1 (C + 1) p := rfl
    rw [hcd3] at hv3
    unfold i32 at hv3
    rw [hk]
    have hD3 : LD b s.1 s4.1 := LD_tr LD_rf hDk3
    have hR3 : RF s4.1 := LD_RF hb7 hD3 hR
    have hz3 : s4.2 = s.2 := hc3.trans rfl
    show wr (d + 5) tb_M165 12 [(2, vi ((p : Int))), (0, .ref 170), (1, vi ((b : Int)))] [vi 15] s4 _
    refine wr_n (pc2 := 657) (lv2 := [(3, vi 15), (2, vi ((p : Int))), (0, .ref 170), (1, vi ((b : Int)))]) (st2 := [vi ((b : Int)), .ref 170, vi 15, vi ((b : Int)), .ref 170]) 8 (fun _ _ => rfl) ?_
    refine wr_call1 (args := [vi ((b : Int))]) (rest := [vi 15, vi ((b : Int)), .ref 170]) rfl rfl rfl rfl (Nat.le_of_ble_eq_true rfl) (cr_mono (x_readb (d := d + 4) (p := p + 1) hC _ hR3 ((hD3 170 17 (by omega) (by omega) (by omega)).trans hM.1) hb7 hp3 (by omega)) ?_)
    rintro s7 out ⟨rfl, hv6, hc6, hDk6, hp6, ht6⟩
    · refine ⟨_, rfl, ?_⟩
      show wr (d + 5) tb_M165 660 [(3, vi 15), (2, vi ((p : Int))), (0, .ref 170), (1, vi ((b : Int)))] [vi (s4.1 (C + 1) (p + 1)), vi 15, vi ((b : Int)), .ref 170] s7 _
      have hcd6 : s4.1 (C + 1) (p + 1) = s.1 (C + 1) (p + 1) := hD3 (C + 1) _ (by omega) (by omega) (by omega)
      rw [hcd6] at hv6
      unfold i32 at hv6
      rw [hcd6]
      have hD6 : LD b s.1 s7.1 := LD_tr hD3 hDk6
      have hR6 : RF s7.1 := LD_RF hb7 hD6 hR
      have hz6 : s7.2 = s.2 := hc6.trans hz3
      show wr (d + 5) tb_M165 660 [(3, vi 15), (2, vi ((p : Int))), (0, .ref 170), (1, vi ((b : Int)))] [vi (s.1 (C + 1) (p + 1)), vi 15, vi ((b : Int)), .ref 170] s7 _
      rw [q1]
      show wr (d + 5) tb_M165 660 [(3, vi 15), (2, vi ((p : Int))), (0, .ref 170), (1, vi ((b : Int)))] [vi ((q : Int)), vi 15, vi ((b : Int)), .ref 170] s7 _
      refine wr_n (pc2 := 661) (lv2 := [(3, vi 15), (2, vi ((p : Int))), (0, .ref 170), (1, vi ((b : Int)))]) (st2 := [vi ((p : Int)), vi ((q : Int)), vi 15, vi ((b : Int)), .ref 170]) 1 (fun _ _ => rfl) ?_
      refine wr_call1 (args := [vi ((b : Int)), vi 15, vi ((q : Int)), vi ((p : Int))]) (rest := []) rfl rfl rfl rfl (Nat.le_of_ble_eq_true rfl) (cr_mono (mv_15 (d := d + 1) hC hR hM hI hb7 hb hg hst hsteps hp5 ht0 hrm hD6 hz6 hp6 (by omega) hF0 (by omega) hik9 q1) ?_)
      rintro s10 out ⟨rfl, hO9⟩
      · refine ⟨_, rfl, ?_⟩
        show wr (d + 5) tb_M165 664 [(3, vi 15), (2, vi ((p : Int))), (0, .ref 170), (1, vi ((b : Int)))] [] s10 _
        refine wr_end (fun _ _ => rfl) ?_
        exact ⟨rfl, hO9⟩
set_option maxHeartbeats 20000000 in
set_option maxRecDepth 100000 in
theorem w1_16 {d C b p na : Nat} {F : Ph} {G : Nat → gB} {own : Nat → Nat → Prop} {s : rS} (hC : C = 177 ∨ C = 186) (hR : RF s.1) (hM : MC C F na s.1) (hI : RI F s.1 G own) (hb7 : b < 700) (hb : (b : Int) < s.1 170 55) (hg : s.1 206 b = 1) (hst : s.1 170 52 = 2) (hsteps : 0 ≤ s.1 170 53 ∧ s.1 170 53 ≤ s.1 170 54 ∧ s.1 170 54 ≤ 20000) (hp5 : s.1 205 b = (p : Int)) (ht0 : s.1 208 b = (bb (G b) (bn (G b)) : Int) + bh (G b) (bn (G b)) ∧ 0 ≤ s.1 208 b ∧ s.1 208 b ≤ 1000) (hrm : bb (G b) (bn (G b)) + frm (bx (G b) (bn (G b))) ≤ 1000) (hF0 : F p (bh (G b) (bn (G b))) (bw (G b) (bn (G b))) (bx (G b) (bn (G b)))) (hk : s.1 (C + 1) p = 16) (hik : ik na (s.1 (C + 1)) F p (bh (G b) (bn (G b))) (bw (G b) (bn (G b))) (bx (G b) (bn (G b))) 16) : wr (d + 5) tb_M165 0 [(0, .ref 170), (1, vi ((b : Int)))] [] s (ON F G b s) := by
  have hik9 := hik
  obtain ⟨a, e, ⟨q, q1, q2⟩, w2, c1, c⟩ := hik
  refine wr_n (pc2 := 1) (lv2 := [(0, .ref 170), (1, vi ((b : Int)))]) (st2 := [.ref 170]) 1 (fun _ _ => rfl) ?_
  refine wr_get (v := .ref 205) rfl rfl rfl (by decide) (rv_ref (hR 170 40 205 rfl)) fun h1 => ?_
  show wr (d + 5) tb_M165 4 [(0, .ref 170), (1, vi ((b : Int)))] [.ref 205] s _
  refine wr_n (pc2 := 5) (lv2 := [(0, .ref 170), (1, vi ((b : Int)))]) (st2 := [vi ((b : Int)), .ref 205]) 1 (fun _ _ => rfl) ?_
  refine wr_ald (a := (b : Int)) (v := vi (s.1 205 b)) rfl rfl rfl (by omega) (by omega) (by decide) rfl fun h2 => ?_
  have h2 : -2147483648 ≤ s.1 205 b ∧ s.1 205 b ≤ 2147483647 := h2
  show wr (d + 5) tb_M165 6 [(0, .ref 170), (1, vi ((b : Int)))] [vi (s.1 205 b)] s _
  rw [hp5]
  show wr (d + 5) tb_M165 6 [(0, .ref 170), (1, vi ((b : Int)))] [vi ((p : Int))] s _
  refine wr_n (pc2 := 9) (lv2 := [(2, vi ((p : Int))), (0, .ref 170), (1, vi ((b : Int)))]) (st2 := [vi ((b : Int)), .ref 170]) 3 (fun _ _ => rfl) ?_
  refine wr_call1 (args := [vi ((b : Int))]) (rest := []) rfl rfl rfl rfl (Nat.le_of_ble_eq_true rfl) (cr_mono (x_readb (d := d + 4) (p := p) hC _ hR hM.1 hb7 hp5 (by omega)) ?_)
  rintro s4 out ⟨rfl, hv3, hc3, hDk3, hp3, ht3⟩
  · refine ⟨_, rfl, ?_⟩
    show wr (d + 5) tb_M165 12 [(2, vi ((p : Int))), (0, .ref 170), (1, vi ((b : Int)))] [vi (s.1 (C + 1) (p))] s4 _
    have hcd3 : s.1 (C + 1) (p) = s.1 (C + 1) p := rfl
    rw [hcd3] at hv3
    unfold i32 at hv3
    rw [hk]
    have hD3 : LD b s.1 s4.1 := LD_tr LD_rf hDk3
    have hR3 : RF s4.1 := LD_RF hb7 hD3 hR
    have hz3 : s4.2 = s.2 := hc3.trans rfl
    show wr (d + 5) tb_M165 12 [(2, vi ((p : Int))), (0, .ref 170), (1, vi ((b : Int)))] [vi 16] s4 _
    refine wr_n (pc2 := 657) (lv2 := [(3, vi 16), (2, vi ((p : Int))), (0, .ref 170), (1, vi ((b : Int)))]) (st2 := [vi ((b : Int)), .ref 170, vi 16, vi ((b : Int)), .ref 170]) 8 (fun _ _ => rfl) ?_
    refine wr_call1 (args := [vi ((b : Int))]) (rest := [vi 16, vi ((b : Int)), .ref 170]) rfl rfl rfl rfl (Nat.le_of_ble_eq_true rfl) (cr_mono (x_readb (d := d + 4) (p := p + 1) hC _ hR3 ((hD3 170 17 (by omega) (by omega) (by omega)).trans hM.1) hb7 hp3 (by omega)) ?_)
    rintro s7 out ⟨rfl, hv6, hc6, hDk6, hp6, ht6⟩
    · refine ⟨_, rfl, ?_⟩
      show wr (d + 5) tb_M165 660 [(3, vi 16), (2, vi ((p : Int))), (0, .ref 170), (1, vi ((b : Int)))] [vi (s4.1 (C + 1) (p + 1)), vi 16, vi ((b : Int)), .ref 170] s7 _
      have hcd6 : s4.1 (C + 1) (p + 1) = s.1 (C + 1) (p + 1) := hD3 (C + 1) _ (by omega) (by omega) (by omega)
      rw [hcd6] at hv6
      unfold i32 at hv6
      rw [hcd6]
      have hD6 : LD b s.1 s7.1 := LD_tr hD3 hDk6
      have hR6 : RF s7.1 := LD_RF hb7 hD6 hR
      have hz6 : s7.2 = s.2 := hc6.trans hz3
      show wr (d + 5) tb_M165 660 [(3, vi 16), (2, vi ((p : Int))), (0, .ref 170), (1, vi ((b : Int)))] [vi (s.1 (C + 1) (p + 1)), vi 16, vi ((b : Int)), .ref 170] s7 _
      rw [q1]
      show wr (d + 5) tb_M165 660 [(3, vi 16), (2, vi ((p : Int))), (0, .ref 170), (1, vi ((b : Int)))] [vi ((q : Int)), vi 16, vi ((b : Int)), .ref 170] s7 _
      refine wr_n (pc2 := 661) (lv2 := [(3, vi 16), (2, vi ((p : Int))), (0, .ref 170), (1, vi ((b : Int)))]) (st2 := [vi ((p : Int)), vi ((q : Int)), vi 16, vi ((b : Int)), .ref 170]) 1 (fun _ _ => rfl) ?_
      refine wr_call1 (args := [vi ((b : Int)), vi 16, vi ((q : Int)), vi ((p : Int))]) (rest := []) rfl rfl rfl rfl (Nat.le_of_ble_eq_true rfl) (cr_mono (mv_16 (d := d + 1) hC hR hM hI hb7 hb hg hst hsteps hp5 ht0 hrm hD6 hz6 hp6 (by omega) hF0 (by omega) hik9 q1) ?_)
      rintro s10 out ⟨rfl, hO9⟩
      · refine ⟨_, rfl, ?_⟩
        show wr (d + 5) tb_M165 664 [(3, vi 16), (2, vi ((p : Int))), (0, .ref 170), (1, vi ((b : Int)))] [] s10 _
        refine wr_end (fun _ _ => rfl) ?_
        exact ⟨rfl, hO9⟩
