set_option maxHeartbeats 20000000 in
set_option maxRecDepth 100000 in
theorem w1_1 {d C b p na : Nat} {F : Ph} {G : Nat → gB} {own : Nat → Nat → Prop} {s : rS} (hC : C = 177 ∨ C = 186) (hR : RF s.1) (hM : MC C F na s.1) (hI : RI F s.1 G own) (hb7 : b < 700) (hb : (b : Int) < s.1 170 55) (hg : s.1 206 b = 1) (hst : s.1 170 52 = 2) (hsteps : 0 ≤ s.1 170 53 ∧ s.1 170 53 ≤ s.1 170 54 ∧ s.1 170 54 ≤ 20000) (hp5 : s.1 205 b = (p : Int)) (ht0 : s.1 208 b = (bb (G b) (bn (G b)) : Int) + bh (G b) (bn (G b)) ∧ 0 ≤ s.1 208 b ∧ s.1 208 b ≤ 1000) (hrm : bb (G b) (bn (G b)) + frm (bx (G b) (bn (G b))) ≤ 1000) (hk : s.1 (C + 1) p = 1) (hik : ik na (s.1 (C + 1)) F p (bh (G b) (bn (G b))) (bw (G b) (bn (G b))) (bx (G b) (bn (G b))) 1) : wr (d + 5) tb_M165 0 [(0, .ref 170), (1, vi ((b : Int)))] [] s (ON F G b s) := by
  obtain ⟨a, w2, c1, c⟩ := hik
  refine wr_n (pc2 := 1) (lv2 := [(0, .ref 170), (1, vi ((b : Int)))]) (st2 := [.ref 170]) 1 (fun _ _ => rfl) ?_
  refine wr_get (v := .ref 205) rfl rfl rfl (by decide) (rv_ref (hR 170 40 205 rfl)) fun h1 => ?_
  show wr (d + 5) tb_M165 4 [(0, .ref 170), (1, vi ((b : Int)))] [.ref 205] s _
  refine wr_n (pc2 := 5) (lv2 := [(0, .ref 170), (1, vi ((b : Int)))]) (st2 := [vi ((b : Int)), .ref 205]) 1 (fun _ _ => rfl) ?_
  refine wr_ald (a := (b : Int)) (v := vi (s.1 205 b)) rfl rfl rfl (by omega) (by omega) (by decide) rfl fun h2 => ?_
  have h2 : -2147483648 ≤ s.1 205 b ∧ s.1 205 b ≤ 2147483647 := h2
  show wr (d + 5) tb_M165 6 [(0, .ref 170), (1, vi ((b : Int)))] [vi (s.1 205 b)] s _
  refine wr_n (pc2 := 9) (lv2 := [(2, vi (s.1 205 b)), (0, .ref 170), (1, vi ((b : Int)))]) (st2 := [vi ((b : Int)), .ref 170]) 3 (fun _ _ => rfl) ?_
  refine wr_call1 (args := [vi ((b : Int))]) (rest := []) rfl rfl rfl rfl (Nat.le_of_ble_eq_true rfl) (cr_mono (x_readb (d := d + 4) (p := p) hC _ hR hM.1 hb7 hp5 (by omega)) ?_)
  rintro s4 out ⟨rfl, hv3, hc3, hDk3, hp3, ht3⟩
  · refine ⟨_, rfl, ?_⟩
    show wr (d + 5) tb_M165 12 [(2, vi (s.1 205 b)), (0, .ref 170), (1, vi ((b : Int)))] [vi (s.1 (C + 1) (p))] s4 _
    have hcd3 : s.1 (C + 1) (p) = s.1 (C + 1) p := rfl
    rw [hcd3] at hv3
    unfold i32 at hv3
    rw [hk]
    have hD3 : LD b s.1 s4.1 := LD_tr LD_rf hDk3
    have hR3 : RF s4.1 := LD_RF hb7 hD3 hR
    have hz3 : s4.2 = s.2 := hc3.trans rfl
    show wr (d + 5) tb_M165 12 [(2, vi (s.1 205 b)), (0, .ref 170), (1, vi ((b : Int)))] [vi 1] s4 _
    refine wr_n (pc2 := 146) (lv2 := [(3, vi 1), (2, vi (s.1 205 b)), (0, .ref 170), (1, vi ((b : Int)))]) (st2 := []) 3 (fun _ _ => rfl) ?_
    refine wr_end (fun _ _ => rfl) ?_
    exact ST_cur (own := own) (p2 := p + 1) (h2 := bh (G b) (bn (G b))) hb7 hR hI hb hg hst (LD_LC hD3) (HD_at hM.2.2.2.2 (fun i => (hD3 1630 i (by omega) (by omega) (by omega)))) hz3 (hD3 170 52 (by omega) (by omega) (by omega)) (hD3 170 53 (by omega) (by omega) (by omega)) (hD3 206 b (by omega) (by omega) (by omega)) (hD3 209 b (by omega) (by omega) (by omega)) (fun i => (hD3 (921 + b) i (by omega) (by omega) (by omega))) hp3 (by omega) (by omega) c (by omega)
set_option maxHeartbeats 20000000 in
set_option maxRecDepth 100000 in
theorem w1_2 {d C b p na : Nat} {F : Ph} {G : Nat → gB} {own : Nat → Nat → Prop} {s : rS} (hC : C = 177 ∨ C = 186) (hR : RF s.1) (hM : MC C F na s.1) (hI : RI F s.1 G own) (hb7 : b < 700) (hb : (b : Int) < s.1 170 55) (hg : s.1 206 b = 1) (hst : s.1 170 52 = 2) (hsteps : 0 ≤ s.1 170 53 ∧ s.1 170 53 ≤ s.1 170 54 ∧ s.1 170 54 ≤ 20000) (hp5 : s.1 205 b = (p : Int)) (ht0 : s.1 208 b = (bb (G b) (bn (G b)) : Int) + bh (G b) (bn (G b)) ∧ 0 ≤ s.1 208 b ∧ s.1 208 b ≤ 1000) (hrm : bb (G b) (bn (G b)) + frm (bx (G b) (bn (G b))) ≤ 1000) (hk : s.1 (C + 1) p = 2) (hik : ik na (s.1 (C + 1)) F p (bh (G b) (bn (G b))) (bw (G b) (bn (G b))) (bx (G b) (bn (G b))) 2) : wr (d + 5) tb_M165 0 [(0, .ref 170), (1, vi ((b : Int)))] [] s (ON F G b s) := by
  obtain ⟨a, e, w2, c1, c⟩ := hik
  refine wr_n (pc2 := 1) (lv2 := [(0, .ref 170), (1, vi ((b : Int)))]) (st2 := [.ref 170]) 1 (fun _ _ => rfl) ?_
  refine wr_get (v := .ref 205) rfl rfl rfl (by decide) (rv_ref (hR 170 40 205 rfl)) fun h1 => ?_
  show wr (d + 5) tb_M165 4 [(0, .ref 170), (1, vi ((b : Int)))] [.ref 205] s _
  refine wr_n (pc2 := 5) (lv2 := [(0, .ref 170), (1, vi ((b : Int)))]) (st2 := [vi ((b : Int)), .ref 205]) 1 (fun _ _ => rfl) ?_
  refine wr_ald (a := (b : Int)) (v := vi (s.1 205 b)) rfl rfl rfl (by omega) (by omega) (by decide) rfl fun h2 => ?_
  have h2 : -2147483648 ≤ s.1 205 b ∧ s.1 205 b ≤ 2147483647 := h2
  show wr (d + 5) tb_M165 6 [(0, .ref 170), (1, vi ((b : Int)))] [vi (s.1 205 b)] s _
  refine wr_n (pc2 := 9) (lv2 := [(2, vi (s.1 205 b)), (0, .ref 170), (1, vi ((b : Int)))]) (st2 := [vi ((b : Int)), .ref 170]) 3 (fun _ _ => rfl) ?_
  refine wr_call1 (args := [vi ((b : Int))]) (rest := []) rfl rfl rfl rfl (Nat.le_of_ble_eq_true rfl) (cr_mono (x_readb (d := d + 4) (p := p) hC _ hR hM.1 hb7 hp5 (by omega)) ?_)
  rintro s4 out ⟨rfl, hv3, hc3, hDk3, hp3, ht3⟩
  · refine ⟨_, rfl, ?_⟩
    show wr (d + 5) tb_M165 12 [(2, vi (s.1 205 b)), (0, .ref 170), (1, vi ((b : Int)))] [vi (s.1 (C + 1) (p))] s4 _
    have hcd3 : s.1 (C + 1) (p) = s.1 (C + 1) p := rfl
    rw [hcd3] at hv3
    unfold i32 at hv3
    rw [hk]
    have hD3 : LD b s.1 s4.1 := LD_tr LD_rf hDk3
    have hR3 : RF s4.1 := LD_RF hb7 hD3 hR
    have hz3 : s4.2 = s.2 := hc3.trans rfl
    show wr (d + 5) tb_M165 12 [(2, vi (s.1 205 b)), (0, .ref 170), (1, vi ((b : Int)))] [vi 2] s4 _
    refine wr_n (pc2 := 151) (lv2 := [(3, vi 2), (2, vi (s.1 205 b)), (0, .ref 170), (1, vi ((b : Int)))]) (st2 := [vi ((b : Int)), .ref 170, vi ((b : Int)), .ref 170]) 7 (fun _ _ => rfl) ?_
    refine wr_call1 (args := [vi ((b : Int))]) (rest := [vi ((b : Int)), .ref 170]) rfl rfl rfl rfl (Nat.le_of_ble_eq_true rfl) (cr_mono (x_readb (d := d + 4) (p := p + 1) hC _ hR3 ((hD3 170 17 (by omega) (by omega) (by omega)).trans hM.1) hb7 hp3 (by omega)) ?_)
    rintro s7 out ⟨rfl, hv6, hc6, hDk6, hp6, ht6⟩
    · refine ⟨_, rfl, ?_⟩
      show wr (d + 5) tb_M165 154 [(3, vi 2), (2, vi (s.1 205 b)), (0, .ref 170), (1, vi ((b : Int)))] [vi (s4.1 (C + 1) (p + 1)), vi ((b : Int)), .ref 170] s7 _
      have hcd6 : s4.1 (C + 1) (p + 1) = s.1 (C + 1) (p + 1) := hD3 (C + 1) _ (by omega) (by omega) (by omega)
      rw [hcd6] at hv6
      unfold i32 at hv6
      rw [hcd6]
      have hD6 : LD b s.1 s7.1 := LD_tr hD3 hDk6
      have hR6 : RF s7.1 := LD_RF hb7 hD6 hR
      have hz6 : s7.2 = s.2 := hc6.trans hz3
      show wr (d + 5) tb_M165 154 [(3, vi 2), (2, vi (s.1 205 b)), (0, .ref 170), (1, vi ((b : Int)))] [vi (s.1 (C + 1) (p + 1)), vi ((b : Int)), .ref 170] s7 _
      refine wr_call1 (args := [vi ((b : Int)), vi (s.1 (C + 1) (p + 1))]) (rest := []) rfl rfl rfl rfl (Nat.le_of_ble_eq_true rfl) (cr_mono (x_push (d := d + 4) (v := s.1 (C + 1) (p + 1)) _ hR6 hb7 (by unfold i32; omega) (by omega)) ?_)
      rintro s10 out ⟨rfl, hc9, hDk9, hq9, ht9⟩
      · refine ⟨_, rfl, ?_⟩
        show wr (d + 5) tb_M165 157 [(3, vi 2), (2, vi (s.1 205 b)), (0, .ref 170), (1, vi ((b : Int)))] [] s10 _
        have hD9 : LD b s.1 s10.1 := LD_tr hD6 hDk9
        have hR9 : RF s10.1 := LD_RF hb7 hD9 hR
        have hz9 : s10.2 = s.2 := hc9.trans hz6
        refine wr_end (fun _ _ => rfl) ?_
        exact ST_cur (own := own) (p2 := p + 2) (h2 := bh (G b) (bn (G b)) + 1) hb7 hR hI hb hg hst (LD_LC hD9) (HD_at hM.2.2.2.2 (fun i => (hD9 1630 i (by omega) (by omega) (by omega)))) hz9 (hD9 170 52 (by omega) (by omega) (by omega)) (hD9 170 53 (by omega) (by omega) (by omega)) (hD9 206 b (by omega) (by omega) (by omega)) (hD9 209 b (by omega) (by omega) (by omega)) (fun i => (hD9 (921 + b) i (by omega) (by omega) (by omega))) (hq9.trans hp6) (by omega) (by omega) c (by omega)
set_option maxHeartbeats 20000000 in
set_option maxRecDepth 100000 in
theorem w1_3 {d C b p na : Nat} {F : Ph} {G : Nat → gB} {own : Nat → Nat → Prop} {s : rS} (hC : C = 177 ∨ C = 186) (hR : RF s.1) (hM : MC C F na s.1) (hI : RI F s.1 G own) (hb7 : b < 700) (hb : (b : Int) < s.1 170 55) (hg : s.1 206 b = 1) (hst : s.1 170 52 = 2) (hsteps : 0 ≤ s.1 170 53 ∧ s.1 170 53 ≤ s.1 170 54 ∧ s.1 170 54 ≤ 20000) (hp5 : s.1 205 b = (p : Int)) (ht0 : s.1 208 b = (bb (G b) (bn (G b)) : Int) + bh (G b) (bn (G b)) ∧ 0 ≤ s.1 208 b ∧ s.1 208 b ≤ 1000) (hrm : bb (G b) (bn (G b)) + frm (bx (G b) (bn (G b))) ≤ 1000) (hk : s.1 (C + 1) p = 3) (hik : ik na (s.1 (C + 1)) F p (bh (G b) (bn (G b))) (bw (G b) (bn (G b))) (bx (G b) (bn (G b))) 3) : wr (d + 5) tb_M165 0 [(0, .ref 170), (1, vi ((b : Int)))] [] s (ON F G b s) := by
  obtain ⟨a, e, ⟨q, q1, q2⟩, w2, c1, c⟩ := hik
  refine wr_n (pc2 := 1) (lv2 := [(0, .ref 170), (1, vi ((b : Int)))]) (st2 := [.ref 170]) 1 (fun _ _ => rfl) ?_
  refine wr_get (v := .ref 205) rfl rfl rfl (by decide) (rv_ref (hR 170 40 205 rfl)) fun h1 => ?_
  show wr (d + 5) tb_M165 4 [(0, .ref 170), (1, vi ((b : Int)))] [.ref 205] s _
  refine wr_n (pc2 := 5) (lv2 := [(0, .ref 170), (1, vi ((b : Int)))]) (st2 := [vi ((b : Int)), .ref 205]) 1 (fun _ _ => rfl) ?_
  refine wr_ald (a := (b : Int)) (v := vi (s.1 205 b)) rfl rfl rfl (by omega) (by omega) (by decide) rfl fun h2 => ?_
  have h2 : -2147483648 ≤ s.1 205 b ∧ s.1 205 b ≤ 2147483647 := h2
  show wr (d + 5) tb_M165 6 [(0, .ref 170), (1, vi ((b : Int)))] [vi (s.1 205 b)] s _
  refine wr_n (pc2 := 9) (lv2 := [(2, vi (s.1 205 b)), (0, .ref 170), (1, vi ((b : Int)))]) (st2 := [vi ((b : Int)), .ref 170]) 3 (fun _ _ => rfl) ?_
  refine wr_call1 (args := [vi ((b : Int))]) (rest := []) rfl rfl rfl rfl (Nat.le_of_ble_eq_true rfl) (cr_mono (x_readb (d := d + 4) (p := p) hC _ hR hM.1 hb7 hp5 (by omega)) ?_)
  rintro s4 out ⟨rfl, hv3, hc3, hDk3, hp3, ht3⟩
  · refine ⟨_, rfl, ?_⟩
    show wr (d + 5) tb_M165 12 [(2, vi (s.1 205 b)), (0, .ref 170), (1, vi ((b : Int)))] [vi (s.1 (C + 1) (p))] s4 _
    have hcd3 : s.1 (C + 1) (p) = s.1 (C + 1) p := rfl
    rw [hcd3] at hv3
    unfold i32 at hv3
    rw [hk]
    have hD3 : LD b s.1 s4.1 := LD_tr LD_rf hDk3
    have hR3 : RF s4.1 := LD_RF hb7 hD3 hR
    have hz3 : s4.2 = s.2 := hc3.trans rfl
    show wr (d + 5) tb_M165 12 [(2, vi (s.1 205 b)), (0, .ref 170), (1, vi ((b : Int)))] [vi 3] s4 _
    refine wr_n (pc2 := 161) (lv2 := [(3, vi 3), (2, vi (s.1 205 b)), (0, .ref 170), (1, vi ((b : Int)))]) (st2 := [.ref 170, vi ((b : Int)), .ref 170]) 6 (fun _ _ => rfl) ?_
    refine wr_get (v := .ref 203) rfl rfl rfl (by decide) (rv_ref (hR3 170 38 203 rfl)) fun h6 => ?_
    show wr (d + 5) tb_M165 164 [(3, vi 3), (2, vi (s.1 205 b)), (0, .ref 170), (1, vi ((b : Int)))] [.ref 203, vi ((b : Int)), .ref 170] s4 _
    refine wr_n (pc2 := 166) (lv2 := [(3, vi 3), (2, vi (s.1 205 b)), (0, .ref 170), (1, vi ((b : Int)))]) (st2 := [vi ((b : Int)), .ref 170, .ref 203, vi ((b : Int)), .ref 170]) 2 (fun _ _ => rfl) ?_
    refine wr_call1 (args := [vi ((b : Int))]) (rest := [.ref 203, vi ((b : Int)), .ref 170]) rfl rfl rfl rfl (Nat.le_of_ble_eq_true rfl) (cr_mono (x_readb (d := d + 4) (p := p + 1) hC _ hR3 ((hD3 170 17 (by omega) (by omega) (by omega)).trans hM.1) hb7 hp3 (by omega)) ?_)
    rintro s8 out ⟨rfl, hv7, hc7, hDk7, hp7, ht7⟩
    · refine ⟨_, rfl, ?_⟩
      show wr (d + 5) tb_M165 169 [(3, vi 3), (2, vi (s.1 205 b)), (0, .ref 170), (1, vi ((b : Int)))] [vi (s4.1 (C + 1) (p + 1)), .ref 203, vi ((b : Int)), .ref 170] s8 _
      have hcd7 : s4.1 (C + 1) (p + 1) = s.1 (C + 1) (p + 1) := hD3 (C + 1) _ (by omega) (by omega) (by omega)
      rw [hcd7] at hv7
      unfold i32 at hv7
      rw [hcd7]
      have hD7 : LD b s.1 s8.1 := LD_tr hD3 hDk7
      have hR7 : RF s8.1 := LD_RF hb7 hD7 hR
      have hz7 : s8.2 = s.2 := hc7.trans hz3
      show wr (d + 5) tb_M165 169 [(3, vi 3), (2, vi (s.1 205 b)), (0, .ref 170), (1, vi ((b : Int)))] [vi (s.1 (C + 1) (p + 1)), .ref 203, vi ((b : Int)), .ref 170] s8 _
      rw [q1]
      show wr (d + 5) tb_M165 169 [(3, vi 3), (2, vi (s.1 205 b)), (0, .ref 170), (1, vi ((b : Int)))] [vi ((q : Int)), .ref 203, vi ((b : Int)), .ref 170] s8 _
      refine wr_ald (a := (q : Int)) (v := vi (s8.1 203 q)) rfl rfl rfl (by omega) (by omega) (by decide) rfl fun h10 => ?_
      have h10 : -2147483648 ≤ s8.1 203 q ∧ s8.1 203 q ≤ 2147483647 := h10
      show wr (d + 5) tb_M165 170 [(3, vi 3), (2, vi (s.1 205 b)), (0, .ref 170), (1, vi ((b : Int)))] [vi (s8.1 203 q), vi ((b : Int)), .ref 170] s8 _
      refine wr_call1 (args := [vi ((b : Int)), vi (s8.1 203 q)]) (rest := []) rfl rfl rfl rfl (Nat.le_of_ble_eq_true rfl) (cr_mono (x_push (d := d + 4) (v := s8.1 203 q) _ hR7 hb7 (by unfold i32; omega) (by omega)) ?_)
      rintro s12 out ⟨rfl, hc11, hDk11, hq11, ht11⟩
      · refine ⟨_, rfl, ?_⟩
        show wr (d + 5) tb_M165 173 [(3, vi 3), (2, vi (s.1 205 b)), (0, .ref 170), (1, vi ((b : Int)))] [] s12 _
        have hD11 : LD b s.1 s12.1 := LD_tr hD7 hDk11
        have hR11 : RF s12.1 := LD_RF hb7 hD11 hR
        have hz11 : s12.2 = s.2 := hc11.trans hz7
        refine wr_end (fun _ _ => rfl) ?_
        exact ST_cur (own := own) (p2 := p + 2) (h2 := bh (G b) (bn (G b)) + 1) hb7 hR hI hb hg hst (LD_LC hD11) (HD_at hM.2.2.2.2 (fun i => (hD11 1630 i (by omega) (by omega) (by omega)))) hz11 (hD11 170 52 (by omega) (by omega) (by omega)) (hD11 170 53 (by omega) (by omega) (by omega)) (hD11 206 b (by omega) (by omega) (by omega)) (hD11 209 b (by omega) (by omega) (by omega)) (fun i => (hD11 (921 + b) i (by omega) (by omega) (by omega))) (hq11.trans hp7) (by omega) (by omega) c (by omega)
set_option maxHeartbeats 20000000 in
set_option maxRecDepth 100000 in
theorem w1_7 {d C b p na : Nat} {F : Ph} {G : Nat → gB} {own : Nat → Nat → Prop} {s : rS} (hC : C = 177 ∨ C = 186) (hR : RF s.1) (hM : MC C F na s.1) (hI : RI F s.1 G own) (hb7 : b < 700) (hb : (b : Int) < s.1 170 55) (hg : s.1 206 b = 1) (hst : s.1 170 52 = 2) (hsteps : 0 ≤ s.1 170 53 ∧ s.1 170 53 ≤ s.1 170 54 ∧ s.1 170 54 ≤ 20000) (hp5 : s.1 205 b = (p : Int)) (ht0 : s.1 208 b = (bb (G b) (bn (G b)) : Int) + bh (G b) (bn (G b)) ∧ 0 ≤ s.1 208 b ∧ s.1 208 b ≤ 1000) (hrm : bb (G b) (bn (G b)) + frm (bx (G b) (bn (G b))) ≤ 1000) (hk : s.1 (C + 1) p = 7) (hik : ik na (s.1 (C + 1)) F p (bh (G b) (bn (G b))) (bw (G b) (bn (G b))) (bx (G b) (bn (G b))) 7) : wr (d + 5) tb_M165 0 [(0, .ref 170), (1, vi ((b : Int)))] [] s (ON F G b s) := by
  obtain ⟨a, g, w2, g1, c1, c⟩ := hik
  refine wr_n (pc2 := 1) (lv2 := [(0, .ref 170), (1, vi ((b : Int)))]) (st2 := [.ref 170]) 1 (fun _ _ => rfl) ?_
  refine wr_get (v := .ref 205) rfl rfl rfl (by decide) (rv_ref (hR 170 40 205 rfl)) fun h1 => ?_
  show wr (d + 5) tb_M165 4 [(0, .ref 170), (1, vi ((b : Int)))] [.ref 205] s _
  refine wr_n (pc2 := 5) (lv2 := [(0, .ref 170), (1, vi ((b : Int)))]) (st2 := [vi ((b : Int)), .ref 205]) 1 (fun _ _ => rfl) ?_
  refine wr_ald (a := (b : Int)) (v := vi (s.1 205 b)) rfl rfl rfl (by omega) (by omega) (by decide) rfl fun h2 => ?_
  have h2 : -2147483648 ≤ s.1 205 b ∧ s.1 205 b ≤ 2147483647 := h2
  show wr (d + 5) tb_M165 6 [(0, .ref 170), (1, vi ((b : Int)))] [vi (s.1 205 b)] s _
  refine wr_n (pc2 := 9) (lv2 := [(2, vi (s.1 205 b)), (0, .ref 170), (1, vi ((b : Int)))]) (st2 := [vi ((b : Int)), .ref 170]) 3 (fun _ _ => rfl) ?_
  refine wr_call1 (args := [vi ((b : Int))]) (rest := []) rfl rfl rfl rfl (Nat.le_of_ble_eq_true rfl) (cr_mono (x_readb (d := d + 4) (p := p) hC _ hR hM.1 hb7 hp5 (by omega)) ?_)
  rintro s4 out ⟨rfl, hv3, hc3, hDk3, hp3, ht3⟩
  · refine ⟨_, rfl, ?_⟩
    show wr (d + 5) tb_M165 12 [(2, vi (s.1 205 b)), (0, .ref 170), (1, vi ((b : Int)))] [vi (s.1 (C + 1) (p))] s4 _
    have hcd3 : s.1 (C + 1) (p) = s.1 (C + 1) p := rfl
    rw [hcd3] at hv3
    unfold i32 at hv3
    rw [hk]
    have hD3 : LD b s.1 s4.1 := LD_tr LD_rf hDk3
    have hR3 : RF s4.1 := LD_RF hb7 hD3 hR
    have hz3 : s4.2 = s.2 := hc3.trans rfl
    show wr (d + 5) tb_M165 12 [(2, vi (s.1 205 b)), (0, .ref 170), (1, vi ((b : Int)))] [vi 7] s4 _
    refine wr_n (pc2 := 317) (lv2 := [(3, vi 7), (2, vi (s.1 205 b)), (0, .ref 170), (1, vi ((b : Int)))]) (st2 := [vi ((b : Int)), .ref 170]) 5 (fun _ _ => rfl) ?_
    refine wr_call1 (args := [vi ((b : Int))]) (rest := []) rfl rfl rfl rfl (Nat.le_of_ble_eq_true rfl) (cr_mono (x_readb (d := d + 4) (p := p + 1) hC _ hR3 ((hD3 170 17 (by omega) (by omega) (by omega)).trans hM.1) hb7 hp3 (by omega)) ?_)
    rintro s7 out ⟨rfl, hv6, hc6, hDk6, hp6, ht6⟩
    · refine ⟨_, rfl, ?_⟩
      show wr (d + 5) tb_M165 320 [(3, vi 7), (2, vi (s.1 205 b)), (0, .ref 170), (1, vi ((b : Int)))] [vi (s4.1 (C + 1) (p + 1))] s7 _
      have hcd6 : s4.1 (C + 1) (p + 1) = s.1 (C + 1) (p + 1) := hD3 (C + 1) _ (by omega) (by omega) (by omega)
      rw [hcd6] at hv6
      unfold i32 at hv6
      rw [hcd6]
      have hD6 : LD b s.1 s7.1 := LD_tr hD3 hDk6
      have hR6 : RF s7.1 := LD_RF hb7 hD6 hR
      have hz6 : s7.2 = s.2 := hc6.trans hz3
      show wr (d + 5) tb_M165 320 [(3, vi 7), (2, vi (s.1 205 b)), (0, .ref 170), (1, vi ((b : Int)))] [vi (s.1 (C + 1) (p + 1))] s7 _
      refine wr_n (pc2 := 324) (lv2 := [(4, vi (s.1 (C + 1) (p + 1))), (3, vi 7), (2, vi (s.1 205 b)), (0, .ref 170), (1, vi ((b : Int)))]) (st2 := [vi ((b : Int)), .ref 170]) 3 (fun _ _ => rfl) ?_
      refine wr_call1 (args := [vi ((b : Int))]) (rest := []) rfl rfl rfl rfl (Nat.le_of_ble_eq_true rfl) (cr_mono (x_pop (d := d + 4) _ hR6 hb7 (by omega)) ?_)
      rintro s10 out ⟨v9, rfl, hv9, hc9, hDk9, hq9, ht9⟩
      · refine ⟨_, rfl, ?_⟩
        show wr (d + 5) tb_M165 327 [(4, vi (s.1 (C + 1) (p + 1))), (3, vi 7), (2, vi (s.1 205 b)), (0, .ref 170), (1, vi ((b : Int)))] [vi v9] s10 _
        unfold i32 at hv9
        have hD9 : LD b s.1 s10.1 := LD_tr hD6 hDk9
        have hR9 : RF s10.1 := LD_RF hb7 hD9 hR
        have hz9 : s10.2 = s.2 := hc9.trans hz6
        refine wr_n (pc2 := 335) (lv2 := [(5, vi v9), (4, vi (s.1 (C + 1) (p + 1))), (3, vi 7), (2, vi (s.1 205 b)), (0, .ref 170), (1, vi ((b : Int)))]) (st2 := [vi ((b : Int)), .ref 170, vi (s.1 (C + 1) (p + 1)), vi ((b : Int)), .ref 170]) 6 (fun _ _ => rfl) ?_
        refine wr_call1 (args := [vi ((b : Int))]) (rest := [vi (s.1 (C + 1) (p + 1)), vi ((b : Int)), .ref 170]) rfl rfl rfl rfl (Nat.le_of_ble_eq_true rfl) (cr_mono (x_pop (d := d + 4) _ hR9 hb7 (by omega)) ?_)
        rintro s13 out ⟨v12, rfl, hv12, hc12, hDk12, hq12, ht12⟩
        · refine ⟨_, rfl, ?_⟩
          show wr (d + 5) tb_M165 338 [(5, vi v9), (4, vi (s.1 (C + 1) (p + 1))), (3, vi 7), (2, vi (s.1 205 b)), (0, .ref 170), (1, vi ((b : Int)))] [vi v12, vi (s.1 (C + 1) (p + 1)), vi ((b : Int)), .ref 170] s13 _
          unfold i32 at hv12
          have hD12 : LD b s.1 s13.1 := LD_tr hD9 hDk12
          have hR12 : RF s13.1 := LD_RF hb7 hD12 hR
          have hz12 : s13.2 = s.2 := hc12.trans hz9
          refine wr_n (pc2 := 340) (lv2 := [(5, vi v9), (4, vi (s.1 (C + 1) (p + 1))), (3, vi 7), (2, vi (s.1 205 b)), (0, .ref 170), (1, vi ((b : Int)))]) (st2 := [vi v9, vi v12, vi (s.1 (C + 1) (p + 1)), vi ((b : Int)), .ref 170]) 1 (fun _ _ => rfl) ?_
          refine wr_call0 (args := [vi (s.1 (C + 1) (p + 1)), vi v12, vi v9]) (rest := [vi ((b : Int)), .ref 170]) rfl rfl rfl (Nat.le_of_ble_eq_true rfl) (cr_mono (c_together (d := d + 4) _ (by unfold i32; omega) (by unfold i32; omega)) ?_)
          rintro s18 out ⟨z15, rfl, h16, e17⟩
          refine ⟨_, rfl, ?_⟩
          rw [e17]
          show wr (d + 5) tb_M165 343 [(5, vi v9), (4, vi (s.1 (C + 1) (p + 1))), (3, vi 7), (2, vi (s.1 205 b)), (0, .ref 170), (1, vi ((b : Int)))] [vi z15, vi ((b : Int)), .ref 170] s13 _
          unfold i32 at h16
          refine wr_call1 (args := [vi ((b : Int)), vi z15]) (rest := []) rfl rfl rfl rfl (Nat.le_of_ble_eq_true rfl) (cr_mono (x_push (d := d + 4) (v := z15) _ hR12 hb7 (by unfold i32; omega) (by omega)) ?_)
          rintro s20 out ⟨rfl, hc19, hDk19, hq19, ht19⟩
          · refine ⟨_, rfl, ?_⟩
            show wr (d + 5) tb_M165 346 [(5, vi v9), (4, vi (s.1 (C + 1) (p + 1))), (3, vi 7), (2, vi (s.1 205 b)), (0, .ref 170), (1, vi ((b : Int)))] [] s20 _
            have hD19 : LD b s.1 s20.1 := LD_tr hD12 hDk19
            have hR19 : RF s20.1 := LD_RF hb7 hD19 hR
            have hz19 : s20.2 = s.2 := hc19.trans hz12
            refine wr_end (fun _ _ => rfl) ?_
            exact ST_cur (own := own) (p2 := p + 2) (h2 := g + 1) hb7 hR hI hb hg hst (LD_LC hD19) (HD_at hM.2.2.2.2 (fun i => (hD19 1630 i (by omega) (by omega) (by omega)))) hz19 (hD19 170 52 (by omega) (by omega) (by omega)) (hD19 170 53 (by omega) (by omega) (by omega)) (hD19 206 b (by omega) (by omega) (by omega)) (hD19 209 b (by omega) (by omega) (by omega)) (fun i => (hD19 (921 + b) i (by omega) (by omega) (by omega))) (hq19.trans (hq12.trans (hq9.trans hp6))) (by omega) (by omega) c (by omega)
set_option maxHeartbeats 20000000 in
set_option maxRecDepth 100000 in
theorem w1_8 {d C b p na : Nat} {F : Ph} {G : Nat → gB} {own : Nat → Nat → Prop} {s : rS} (hC : C = 177 ∨ C = 186) (hR : RF s.1) (hM : MC C F na s.1) (hI : RI F s.1 G own) (hb7 : b < 700) (hb : (b : Int) < s.1 170 55) (hg : s.1 206 b = 1) (hst : s.1 170 52 = 2) (hsteps : 0 ≤ s.1 170 53 ∧ s.1 170 53 ≤ s.1 170 54 ∧ s.1 170 54 ≤ 20000) (hp5 : s.1 205 b = (p : Int)) (ht0 : s.1 208 b = (bb (G b) (bn (G b)) : Int) + bh (G b) (bn (G b)) ∧ 0 ≤ s.1 208 b ∧ s.1 208 b ≤ 1000) (hrm : bb (G b) (bn (G b)) + frm (bx (G b) (bn (G b))) ≤ 1000) (hk : s.1 (C + 1) p = 8) (hik : ik na (s.1 (C + 1)) F p (bh (G b) (bn (G b))) (bw (G b) (bn (G b))) (bx (G b) (bn (G b))) 8) : wr (d + 5) tb_M165 0 [(0, .ref 170), (1, vi ((b : Int)))] [] s (ON F G b s) := by
  obtain ⟨a, e, w2, c1, c⟩ := hik
  refine wr_n (pc2 := 1) (lv2 := [(0, .ref 170), (1, vi ((b : Int)))]) (st2 := [.ref 170]) 1 (fun _ _ => rfl) ?_
  refine wr_get (v := .ref 205) rfl rfl rfl (by decide) (rv_ref (hR 170 40 205 rfl)) fun h1 => ?_
  show wr (d + 5) tb_M165 4 [(0, .ref 170), (1, vi ((b : Int)))] [.ref 205] s _
  refine wr_n (pc2 := 5) (lv2 := [(0, .ref 170), (1, vi ((b : Int)))]) (st2 := [vi ((b : Int)), .ref 205]) 1 (fun _ _ => rfl) ?_
  refine wr_ald (a := (b : Int)) (v := vi (s.1 205 b)) rfl rfl rfl (by omega) (by omega) (by decide) rfl fun h2 => ?_
  have h2 : -2147483648 ≤ s.1 205 b ∧ s.1 205 b ≤ 2147483647 := h2
  show wr (d + 5) tb_M165 6 [(0, .ref 170), (1, vi ((b : Int)))] [vi (s.1 205 b)] s _
  refine wr_n (pc2 := 9) (lv2 := [(2, vi (s.1 205 b)), (0, .ref 170), (1, vi ((b : Int)))]) (st2 := [vi ((b : Int)), .ref 170]) 3 (fun _ _ => rfl) ?_
  refine wr_call1 (args := [vi ((b : Int))]) (rest := []) rfl rfl rfl rfl (Nat.le_of_ble_eq_true rfl) (cr_mono (x_readb (d := d + 4) (p := p) hC _ hR hM.1 hb7 hp5 (by omega)) ?_)
  rintro s4 out ⟨rfl, hv3, hc3, hDk3, hp3, ht3⟩
  · refine ⟨_, rfl, ?_⟩
    show wr (d + 5) tb_M165 12 [(2, vi (s.1 205 b)), (0, .ref 170), (1, vi ((b : Int)))] [vi (s.1 (C + 1) (p))] s4 _
    have hcd3 : s.1 (C + 1) (p) = s.1 (C + 1) p := rfl
    rw [hcd3] at hv3
    unfold i32 at hv3
    rw [hk]
    have hD3 : LD b s.1 s4.1 := LD_tr LD_rf hDk3
    have hR3 : RF s4.1 := LD_RF hb7 hD3 hR
    have hz3 : s4.2 = s.2 := hc3.trans rfl
    show wr (d + 5) tb_M165 12 [(2, vi (s.1 205 b)), (0, .ref 170), (1, vi ((b : Int)))] [vi 8] s4 _
    refine wr_n (pc2 := 349) (lv2 := [(3, vi 8), (2, vi (s.1 205 b)), (0, .ref 170), (1, vi ((b : Int)))]) (st2 := [vi ((b : Int)), .ref 170]) 5 (fun _ _ => rfl) ?_
    refine wr_call1 (args := [vi ((b : Int))]) (rest := []) rfl rfl rfl rfl (Nat.le_of_ble_eq_true rfl) (cr_mono (x_readb (d := d + 4) (p := p + 1) hC _ hR3 ((hD3 170 17 (by omega) (by omega) (by omega)).trans hM.1) hb7 hp3 (by omega)) ?_)
    rintro s7 out ⟨rfl, hv6, hc6, hDk6, hp6, ht6⟩
    · refine ⟨_, rfl, ?_⟩
      show wr (d + 5) tb_M165 352 [(3, vi 8), (2, vi (s.1 205 b)), (0, .ref 170), (1, vi ((b : Int)))] [vi (s4.1 (C + 1) (p + 1))] s7 _
      have hcd6 : s4.1 (C + 1) (p + 1) = s.1 (C + 1) (p + 1) := hD3 (C + 1) _ (by omega) (by omega) (by omega)
      rw [hcd6] at hv6
      unfold i32 at hv6
      rw [hcd6]
      have hD6 : LD b s.1 s7.1 := LD_tr hD3 hDk6
      have hR6 : RF s7.1 := LD_RF hb7 hD6 hR
      have hz6 : s7.2 = s.2 := hc6.trans hz3
      show wr (d + 5) tb_M165 352 [(3, vi 8), (2, vi (s.1 205 b)), (0, .ref 170), (1, vi ((b : Int)))] [vi (s.1 (C + 1) (p + 1))] s7 _
      refine wr_n (pc2 := 356) (lv2 := [(4, vi (s.1 (C + 1) (p + 1))), (3, vi 8), (2, vi (s.1 205 b)), (0, .ref 170), (1, vi ((b : Int)))]) (st2 := [vi ((b : Int)), .ref 170]) 3 (fun _ _ => rfl) ?_
      refine wr_call1 (args := [vi ((b : Int))]) (rest := []) rfl rfl rfl rfl (Nat.le_of_ble_eq_true rfl) (cr_mono (x_pop (d := d + 4) _ hR6 hb7 (by omega)) ?_)
      rintro s10 out ⟨v9, rfl, hv9, hc9, hDk9, hq9, ht9⟩
      · refine ⟨_, rfl, ?_⟩
        show wr (d + 5) tb_M165 359 [(4, vi (s.1 (C + 1) (p + 1))), (3, vi 8), (2, vi (s.1 205 b)), (0, .ref 170), (1, vi ((b : Int)))] [vi v9] s10 _
        unfold i32 at hv9
        have hD9 : LD b s.1 s10.1 := LD_tr hD6 hDk9
        have hR9 : RF s10.1 := LD_RF hb7 hD9 hR
        have hz9 : s10.2 = s.2 := hc9.trans hz6
        refine wr_n (pc2 := 367) (lv2 := [(5, vi v9), (4, vi (s.1 (C + 1) (p + 1))), (3, vi 8), (2, vi (s.1 205 b)), (0, .ref 170), (1, vi ((b : Int)))]) (st2 := [vi 45, vi (s.1 (C + 1) (p + 1)), vi ((b : Int)), .ref 170]) 5 (fun _ _ => rfl) ?_
        by_cases h12 : s.1 (C + 1) (p + 1) ≠ 45
        · refine wr_if2t rfl rfl (by unfold i32; omega) (by unfold i32; omega) h12 ?_
          refine wr_n (pc2 := 380) (lv2 := [(5, vi v9), (4, vi (s.1 (C + 1) (p + 1))), (3, vi 8), (2, vi (s.1 205 b)), (0, .ref 170), (1, vi ((b : Int)))]) (st2 := [vi 126, vi (s.1 (C + 1) (p + 1)), vi ((b : Int)), .ref 170]) 2 (fun _ _ => rfl) ?_
          by_cases h13 : s.1 (C + 1) (p + 1) ≠ 126
          · refine wr_if2t rfl rfl (by unfold i32; omega) (by unfold i32; omega) h13 ?_
            refine wr_n (pc2 := 392) (lv2 := [(5, vi v9), (4, vi (s.1 (C + 1) (p + 1))), (3, vi 8), (2, vi (s.1 205 b)), (0, .ref 170), (1, vi ((b : Int)))]) (st2 := [vi v9, vi ((b : Int)), .ref 170]) 1 (fun _ _ => rfl) ?_
            by_cases h14 : v9 ≠ 0
            · refine wr_if1t rfl rfl (by unfold i32; omega) h14 ?_
              refine wr_n (pc2 := 400) (lv2 := [(5, vi v9), (4, vi (s.1 (C + 1) (p + 1))), (3, vi 8), (2, vi (s.1 205 b)), (0, .ref 170), (1, vi ((b : Int)))]) (st2 := [vi 0, vi ((b : Int)), .ref 170]) 1 (fun _ _ => rfl) ?_
              refine wr_call1 (args := [vi ((b : Int)), vi 0]) (rest := []) rfl rfl rfl rfl (Nat.le_of_ble_eq_true rfl) (cr_mono (x_push (d := d + 4) (v := 0) _ hR9 hb7 (by unfold i32; omega) (by omega)) ?_)
              rintro s16 out ⟨rfl, hc15, hDk15, hq15, ht15⟩
              · refine ⟨_, rfl, ?_⟩
                show wr (d + 5) tb_M165 403 [(5, vi v9), (4, vi (s.1 (C + 1) (p + 1))), (3, vi 8), (2, vi (s.1 205 b)), (0, .ref 170), (1, vi ((b : Int)))] [] s16 _
                have hD15 : LD b s.1 s16.1 := LD_tr hD9 hDk15
                have hR15 : RF s16.1 := LD_RF hb7 hD15 hR
                have hz15 : s16.2 = s.2 := hc15.trans hz9
                refine wr_end (fun _ _ => rfl) ?_
                exact ST_cur (own := own) (p2 := p + 2) (h2 := bh (G b) (bn (G b))) hb7 hR hI hb hg hst (LD_LC hD15) (HD_at hM.2.2.2.2 (fun i => (hD15 1630 i (by omega) (by omega) (by omega)))) hz15 (hD15 170 52 (by omega) (by omega) (by omega)) (hD15 170 53 (by omega) (by omega) (by omega)) (hD15 206 b (by omega) (by omega) (by omega)) (hD15 209 b (by omega) (by omega) (by omega)) (fun i => (hD15 (921 + b) i (by omega) (by omega) (by omega))) (hq15.trans (hq9.trans hp6)) (by omega) (by omega) c (by omega)
            · refine wr_if1f rfl rfl (by unfold i32; omega) h14 ?_
              refine wr_n (pc2 := 400) (lv2 := [(5, vi v9), (4, vi (s.1 (C + 1) (p + 1))), (3, vi 8), (2, vi (s.1 205 b)), (0, .ref 170), (1, vi ((b : Int)))]) (st2 := [vi 1, vi ((b : Int)), .ref 170]) 2 (fun _ _ => rfl) ?_
              refine wr_call1 (args := [vi ((b : Int)), vi 1]) (rest := []) rfl rfl rfl rfl (Nat.le_of_ble_eq_true rfl) (cr_mono (x_push (d := d + 4) (v := 1) _ hR9 hb7 (by unfold i32; omega) (by omega)) ?_)
              rintro s19 out ⟨rfl, hc18, hDk18, hq18, ht18⟩
              · refine ⟨_, rfl, ?_⟩
                show wr (d + 5) tb_M165 403 [(5, vi v9), (4, vi (s.1 (C + 1) (p + 1))), (3, vi 8), (2, vi (s.1 205 b)), (0, .ref 170), (1, vi ((b : Int)))] [] s19 _
                have hD18 : LD b s.1 s19.1 := LD_tr hD9 hDk18
                have hR18 : RF s19.1 := LD_RF hb7 hD18 hR
                have hz18 : s19.2 = s.2 := hc18.trans hz9
                refine wr_end (fun _ _ => rfl) ?_
                exact ST_cur (own := own) (p2 := p + 2) (h2 := bh (G b) (bn (G b))) hb7 hR hI hb hg hst (LD_LC hD18) (HD_at hM.2.2.2.2 (fun i => (hD18 1630 i (by omega) (by omega) (by omega)))) hz18 (hD18 170 52 (by omega) (by omega) (by omega)) (hD18 170 53 (by omega) (by omega) (by omega)) (hD18 206 b (by omega) (by omega) (by omega)) (hD18 209 b (by omega) (by omega) (by omega)) (fun i => (hD18 (921 + b) i (by omega) (by omega) (by omega))) (hq18.trans (hq9.trans hp6)) (by omega) (by omega) c (by omega)
          · refine wr_if2f rfl rfl (by unfold i32; omega) (by unfold i32; omega) h13 ?_
            refine wr_n (pc2 := 386) (lv2 := [(5, vi v9), (4, vi (s.1 (C + 1) (p + 1))), (3, vi 8), (2, vi (s.1 205 b)), (0, .ref 170), (1, vi ((b : Int)))]) (st2 := [vi ((-1)), vi v9, vi ((b : Int)), .ref 170]) 2 (fun _ _ => rfl) ?_
            refine wr_any2 rfl rfl fun z21 h22 => ?_
            unfold i32 at h22
            show wr (d + 5) tb_M165 387 [(5, vi v9), (4, vi (s.1 (C + 1) (p + 1))), (3, vi 8), (2, vi (s.1 205 b)), (0, .ref 170), (1, vi ((b : Int)))] [vi z21, vi ((b : Int)), .ref 170] s10 _
            refine wr_n (pc2 := 400) (lv2 := [(5, vi v9), (4, vi (s.1 (C + 1) (p + 1))), (3, vi 8), (2, vi (s.1 205 b)), (0, .ref 170), (1, vi ((b : Int)))]) (st2 := [vi z21, vi ((b : Int)), .ref 170]) 1 (fun _ _ => rfl) ?_
            refine wr_call1 (args := [vi ((b : Int)), vi z21]) (rest := []) rfl rfl rfl rfl (Nat.le_of_ble_eq_true rfl) (cr_mono (x_push (d := d + 4) (v := z21) _ hR9 hb7 (by unfold i32; omega) (by omega)) ?_)
            rintro s24 out ⟨rfl, hc23, hDk23, hq23, ht23⟩
            · refine ⟨_, rfl, ?_⟩
              show wr (d + 5) tb_M165 403 [(5, vi v9), (4, vi (s.1 (C + 1) (p + 1))), (3, vi 8), (2, vi (s.1 205 b)), (0, .ref 170), (1, vi ((b : Int)))] [] s24 _
              have hD23 : LD b s.1 s24.1 := LD_tr hD9 hDk23
              have hR23 : RF s24.1 := LD_RF hb7 hD23 hR
              have hz23 : s24.2 = s.2 := hc23.trans hz9
              refine wr_end (fun _ _ => rfl) ?_
              exact ST_cur (own := own) (p2 := p + 2) (h2 := bh (G b) (bn (G b))) hb7 hR hI hb hg hst (LD_LC hD23) (HD_at hM.2.2.2.2 (fun i => (hD23 1630 i (by omega) (by omega) (by omega)))) hz23 (hD23 170 52 (by omega) (by omega) (by omega)) (hD23 170 53 (by omega) (by omega) (by omega)) (hD23 206 b (by omega) (by omega) (by omega)) (hD23 209 b (by omega) (by omega) (by omega)) (fun i => (hD23 (921 + b) i (by omega) (by omega) (by omega))) (hq23.trans (hq9.trans hp6)) (by omega) (by omega) c (by omega)
        · refine wr_if2f rfl rfl (by unfold i32; omega) (by unfold i32; omega) h12 ?_
          refine wr_n (pc2 := 372) (lv2 := [(5, vi v9), (4, vi (s.1 (C + 1) (p + 1))), (3, vi 8), (2, vi (s.1 205 b)), (0, .ref 170), (1, vi ((b : Int)))]) (st2 := [vi v9, vi ((b : Int)), .ref 170]) 1 (fun _ _ => rfl) ?_
          refine wr_anyu rfl (fun x => ⟨_, rfl⟩) fun z26 h27 => ?_
          unfold i32 at h27
          show wr (d + 5) tb_M165 373 [(5, vi v9), (4, vi (s.1 (C + 1) (p + 1))), (3, vi 8), (2, vi (s.1 205 b)), (0, .ref 170), (1, vi ((b : Int)))] [vi z26, vi ((b : Int)), .ref 170] s10 _
          refine wr_n (pc2 := 400) (lv2 := [(5, vi v9), (4, vi (s.1 (C + 1) (p + 1))), (3, vi 8), (2, vi (s.1 205 b)), (0, .ref 170), (1, vi ((b : Int)))]) (st2 := [vi z26, vi ((b : Int)), .ref 170]) 1 (fun _ _ => rfl) ?_
          refine wr_call1 (args := [vi ((b : Int)), vi z26]) (rest := []) rfl rfl rfl rfl (Nat.le_of_ble_eq_true rfl) (cr_mono (x_push (d := d + 4) (v := z26) _ hR9 hb7 (by unfold i32; omega) (by omega)) ?_)
          rintro s29 out ⟨rfl, hc28, hDk28, hq28, ht28⟩
          · refine ⟨_, rfl, ?_⟩
            show wr (d + 5) tb_M165 403 [(5, vi v9), (4, vi (s.1 (C + 1) (p + 1))), (3, vi 8), (2, vi (s.1 205 b)), (0, .ref 170), (1, vi ((b : Int)))] [] s29 _
            have hD28 : LD b s.1 s29.1 := LD_tr hD9 hDk28
            have hR28 : RF s29.1 := LD_RF hb7 hD28 hR
            have hz28 : s29.2 = s.2 := hc28.trans hz9
            refine wr_end (fun _ _ => rfl) ?_
            exact ST_cur (own := own) (p2 := p + 2) (h2 := bh (G b) (bn (G b))) hb7 hR hI hb hg hst (LD_LC hD28) (HD_at hM.2.2.2.2 (fun i => (hD28 1630 i (by omega) (by omega) (by omega)))) hz28 (hD28 170 52 (by omega) (by omega) (by omega)) (hD28 170 53 (by omega) (by omega) (by omega)) (hD28 206 b (by omega) (by omega) (by omega)) (hD28 209 b (by omega) (by omega) (by omega)) (fun i => (hD28 (921 + b) i (by omega) (by omega) (by omega))) (hq28.trans (hq9.trans hp6)) (by omega) (by omega) c (by omega)
