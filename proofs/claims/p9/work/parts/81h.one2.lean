set_option maxHeartbeats 20000000 in
set_option maxRecDepth 100000 in
theorem w1_4 {d C b p na : Nat} {F : Ph} {G : Nat → gB} {own : Nat → Nat → Prop} {s : rS} (hC : C = 177 ∨ C = 186) (hR : RF s.1) (hM : MC C F na s.1) (hI : RI F s.1 G own) (hb7 : b < 700) (hb : (b : Int) < s.1 170 55) (hg : s.1 206 b = 1) (hst : s.1 170 52 = 2) (hsteps : 0 ≤ s.1 170 53 ∧ s.1 170 53 ≤ s.1 170 54 ∧ s.1 170 54 ≤ 20000) (hp5 : s.1 205 b = (p : Int)) (ht0 : s.1 208 b = (bb (G b) (bn (G b)) : Int) + bh (G b) (bn (G b)) ∧ 0 ≤ s.1 208 b ∧ s.1 208 b ≤ 1000) (hrm : bb (G b) (bn (G b)) + frm (bx (G b) (bn (G b))) ≤ 1000) (hk : s.1 (C + 1) p = 4) (hik : ik na (s.1 (C + 1)) F p (bh (G b) (bn (G b))) (bw (G b) (bn (G b))) (bx (G b) (bn (G b))) 4) : wr (d + 5) tb_M165 0 [(0, .ref 170), (1, vi ((b : Int)))] [] s (ON F G b s) := by
  obtain ⟨a, e, ⟨q, q1, q2⟩, w2, c1, c⟩ := hik
  have hna := hM.2.2.1
  refine wr_n (pc2 := 1) (lv2 := [(0, .ref 170), (1, vi ((b : Int)))]) (st2 := [.ref 170]) 1 (fun _ _ => rfl) ?_
  refine wr_get (v := .ref 205) rfl rfl rfl (by decide) (rv_ref (hR 170 40 205 rfl)) fun h1 => ?_
  show wr (d + 5) tb_M165 4 [(0, .ref 170), (1, vi ((b : Int)))] [.ref 205] s _
  refine wr_n (pc2 := 5) (lv2 := [(0, .ref 170), (1, vi ((b : Int)))]) (st2 := [vi ((b : Int)), .ref 205]) 1 (fun _ _ => rfl) ?_
  refine wr_ald (a := (b : Int)) (v := vi (s.1 205 b)) rfl rfl rfl (by omega) (by omega) (by decide) rfl fun h2 => ?_
  have h2 : -2147483648 ≤ s.1 205 b ∧ s.1 205 b ≤ 2147483647 := h2
  show wr (d + 5) tb_M165 6 [(0, .ref 170), (1, vi ((b : Int)))] [vi (s.1 205 b)] s _
  refine wr_n (pc2 := 9) (lv2 := [(2, vi (s.1 205 b)), (0, .ref 170), (1, vi ((b : Int)))]) (st2 := [vi ((b : Int)), .ref 170]) 3 (fun _ _ => rfl) ?_
  refine wr_call1 (args := [vi ((b : Int))]) (rest := []) rfl rfl rfl rfl (Nat.le_of_ble_eq_true rfl) (cr_mono (x_readb (d := d + 4) (p := p) hC _ hR hM.1 hb7 hp5 (by omega)) ?_)
  rintro s4 out ⟨rfl, hv3, hc3, hDk3, hp3, ht3⟩
  · refine ⟨_, rfl, ?_⟩
    show wr (d + 5) tb_M165 12 [(2, vi (s.1 205 b)), (0, .ref 170), (1, vi ((b : Int)))] [vi (s.1 (C + 1) (p))] s4 _
    have hcd3 : s.1 (C + 1) (p) = s.1 (C + 1) p := rfl
    rw [hcd3] at hv3
    unfold i32 at hv3
    rw [hk]
    have hD3 : LD b s.1 s4.1 := LD_tr LD_rf hDk3
    have hR3 : RF s4.1 := LD_RF hb7 hD3 hR
    have hz3 : s4.2 = s.2 := hc3.trans rfl
    show wr (d + 5) tb_M165 12 [(2, vi (s.1 205 b)), (0, .ref 170), (1, vi ((b : Int)))] [vi 4] s4 _
    refine wr_n (pc2 := 176) (lv2 := [(3, vi 4), (2, vi (s.1 205 b)), (0, .ref 170), (1, vi ((b : Int)))]) (st2 := [vi ((b : Int)), .ref 170]) 5 (fun _ _ => rfl) ?_
    refine wr_call1 (args := [vi ((b : Int))]) (rest := []) rfl rfl rfl rfl (Nat.le_of_ble_eq_true rfl) (cr_mono (x_readb (d := d + 4) (p := p + 1) hC _ hR3 ((hD3 170 17 (by omega) (by omega) (by omega)).trans hM.1) hb7 hp3 (by omega)) ?_)
    rintro s7 out ⟨rfl, hv6, hc6, hDk6, hp6, ht6⟩
    · refine ⟨_, rfl, ?_⟩
      show wr (d + 5) tb_M165 179 [(3, vi 4), (2, vi (s.1 205 b)), (0, .ref 170), (1, vi ((b : Int)))] [vi (s4.1 (C + 1) (p + 1))] s7 _
      have hcd6 : s4.1 (C + 1) (p + 1) = s.1 (C + 1) (p + 1) := hD3 (C + 1) _ (by omega) (by omega) (by omega)
      rw [hcd6] at hv6
      unfold i32 at hv6
      rw [hcd6]
      have hD6 : LD b s.1 s7.1 := LD_tr hD3 hDk6
      have hR6 : RF s7.1 := LD_RF hb7 hD6 hR
      have hz6 : s7.2 = s.2 := hc6.trans hz3
      show wr (d + 5) tb_M165 179 [(3, vi 4), (2, vi (s.1 205 b)), (0, .ref 170), (1, vi ((b : Int)))] [vi (s.1 (C + 1) (p + 1))] s7 _
      rw [q1]
      show wr (d + 5) tb_M165 179 [(3, vi 4), (2, vi (s.1 205 b)), (0, .ref 170), (1, vi ((b : Int)))] [vi ((q : Int))] s7 _
      refine wr_n (pc2 := 184) (lv2 := [(4, vi ((q : Int))), (3, vi 4), (2, vi (s.1 205 b)), (0, .ref 170), (1, vi ((b : Int)))]) (st2 := [.ref 170, vi ((b : Int)), .ref 170]) 4 (fun _ _ => rfl) ?_
      refine wr_get (v := .ref 212) rfl rfl rfl (by decide) (rv_ref (hR6 170 47 212 rfl)) fun h9 => ?_
      show wr (d + 5) tb_M165 187 [(4, vi ((q : Int))), (3, vi 4), (2, vi (s.1 205 b)), (0, .ref 170), (1, vi ((b : Int)))] [.ref 212, vi ((b : Int)), .ref 170] s7 _
      refine wr_n (pc2 := 189) (lv2 := [(4, vi ((q : Int))), (3, vi 4), (2, vi (s.1 205 b)), (0, .ref 170), (1, vi ((b : Int)))]) (st2 := [vi ((q : Int)), .ref 212, vi ((b : Int)), .ref 170]) 1 (fun _ _ => rfl) ?_
      refine wr_ald (a := (q : Int)) (v := .ref (213 + q)) rfl rfl rfl (by omega) (by omega) (by decide) (rv_ref (hR6 212 q (213 + q) (rc_it (by omega)))) fun h10 => ?_
      show wr (d + 5) tb_M165 190 [(4, vi ((q : Int))), (3, vi 4), (2, vi (s.1 205 b)), (0, .ref 170), (1, vi ((b : Int)))] [.ref (213 + q), vi ((b : Int)), .ref 170] s7 _
      refine wr_n (pc2 := 192) (lv2 := [(4, vi ((q : Int))), (3, vi 4), (2, vi (s.1 205 b)), (0, .ref 170), (1, vi ((b : Int)))]) (st2 := [vi ((b : Int)), .ref 170, .ref (213 + q), vi ((b : Int)), .ref 170]) 2 (fun _ _ => rfl) ?_
      refine wr_call1 (args := [vi ((b : Int))]) (rest := [.ref (213 + q), vi ((b : Int)), .ref 170]) rfl rfl rfl rfl (Nat.le_of_ble_eq_true rfl) (cr_mono (x_pop (d := d + 4) _ hR6 hb7 (by omega)) ?_)
      rintro s12 out ⟨v11, rfl, hv11, hc11, hDk11, hq11, ht11⟩
      · refine ⟨_, rfl, ?_⟩
        show wr (d + 5) tb_M165 195 [(4, vi ((q : Int))), (3, vi 4), (2, vi (s.1 205 b)), (0, .ref 170), (1, vi ((b : Int)))] [vi v11, .ref (213 + q), vi ((b : Int)), .ref 170] s12 _
        unfold i32 at hv11
        have hD11 : LD b s.1 s12.1 := LD_tr hD6 hDk11
        have hR11 : RF s12.1 := LD_RF hb7 hD11 hR
        have hz11 : s12.2 = s.2 := hc11.trans hz6
        refine wr_n (pc2 := 196) (lv2 := [(4, vi ((q : Int))), (3, vi 4), (2, vi (s.1 205 b)), (0, .ref 170), (1, vi ((b : Int)))]) (st2 := [.ref 170, vi v11, .ref (213 + q), vi ((b : Int)), .ref 170]) 1 (fun _ _ => rfl) ?_
        refine wr_get (v := .ref C) rfl rfl rfl (by decide) (rv_ref (show s12.1 170 17 = ((C : Nat) : Int) from ((hD11 170 17 (by omega) (by omega) (by omega)).trans hM.1))) fun h14 => ?_
        show wr (d + 5) tb_M165 199 [(4, vi ((q : Int))), (3, vi 4), (2, vi (s.1 205 b)), (0, .ref 170), (1, vi ((b : Int)))] [.ref C, vi v11, .ref (213 + q), vi ((b : Int)), .ref 170] s12 _
        refine wr_get (v := .ref (C + 3)) rfl rfl (TG_C hC) (by decide) (rv_ref (hR11 C 12 (C + 3) (rc_C12 hC))) fun h15 => ?_
        show wr (d + 5) tb_M165 202 [(4, vi ((q : Int))), (3, vi 4), (2, vi (s.1 205 b)), (0, .ref 170), (1, vi ((b : Int)))] [.ref (C + 3), vi v11, .ref (213 + q), vi ((b : Int)), .ref 170] s12 _
        refine wr_n (pc2 := 204) (lv2 := [(4, vi ((q : Int))), (3, vi 4), (2, vi (s.1 205 b)), (0, .ref 170), (1, vi ((b : Int)))]) (st2 := [vi ((q : Int)), .ref (C + 3), vi v11, .ref (213 + q), vi ((b : Int)), .ref 170]) 1 (fun _ _ => rfl) ?_
        refine wr_ald (a := (q : Int)) (v := vi (s12.1 (C + 3) q)) rfl (TG_C3 hC) rfl (by omega) (by omega) (by decide) rfl fun h16 => ?_
        have h16 : -2147483648 ≤ s12.1 (C + 3) q ∧ s12.1 (C + 3) q ≤ 2147483647 := h16
        show wr (d + 5) tb_M165 205 [(4, vi ((q : Int))), (3, vi 4), (2, vi (s.1 205 b)), (0, .ref 170), (1, vi ((b : Int)))] [vi (s12.1 (C + 3) q), vi v11, .ref (213 + q), vi ((b : Int)), .ref 170] s12 _
        have hsz : 1 ≤ s12.1 (C + 3) q ∧ s12.1 (C + 3) q ≤ 64 := by rw [hD11 (C + 3) q (by omega) (by omega) (by omega)]; exact hM.2.2.2.1 q q2
        refine wr_n (pc2 := 206) (lv2 := [(4, vi ((q : Int))), (3, vi 4), (2, vi (s.1 205 b)), (0, .ref 170), (1, vi ((b : Int)))]) (st2 := [vi 1, vi (s12.1 (C + 3) q), vi v11, .ref (213 + q), vi ((b : Int)), .ref 170]) 1 (fun _ _ => rfl) ?_
        refine wr_sub (a := s12.1 (C + 3) q) (b := 1) rfl ?_
        show wr (d + 5) tb_M165 207 [(4, vi ((q : Int))), (3, vi 4), (2, vi (s.1 205 b)), (0, .ref 170), (1, vi ((b : Int)))] [vi ((s12.1 (C + 3) q) - 1), vi v11, .ref (213 + q), vi ((b : Int)), .ref 170] s12 _
        refine wr_and (b := (s12.1 (C + 3) q) - 1) rfl (by omega) fun z17 h18 => ?_
        show wr (d + 5) tb_M165 208 [(4, vi ((q : Int))), (3, vi 4), (2, vi (s.1 205 b)), (0, .ref 170), (1, vi ((b : Int)))] [vi z17, .ref (213 + q), vi ((b : Int)), .ref 170] s12 _
        refine wr_ald (a := z17) (v := vi (s12.1 (213 + q) z17.toNat)) rfl (TG_it (by omega)) rfl (by omega) (by omega) (by decide) rfl fun h19 => ?_
        have h19 : -2147483648 ≤ s12.1 (213 + q) z17.toNat ∧ s12.1 (213 + q) z17.toNat ≤ 2147483647 := h19
        show wr (d + 5) tb_M165 209 [(4, vi ((q : Int))), (3, vi 4), (2, vi (s.1 205 b)), (0, .ref 170), (1, vi ((b : Int)))] [vi (s12.1 (213 + q) z17.toNat), vi ((b : Int)), .ref 170] s12 _
        refine wr_call1 (args := [vi ((b : Int)), vi (s12.1 (213 + q) z17.toNat)]) (rest := []) rfl rfl rfl rfl (Nat.le_of_ble_eq_true rfl) (cr_mono (x_push (d := d + 4) (v := s12.1 (213 + q) z17.toNat) _ hR11 hb7 (by unfold i32; omega) (by omega)) ?_)
        rintro s21 out ⟨rfl, hc20, hDk20, hq20, ht20⟩
        · refine ⟨_, rfl, ?_⟩
          show wr (d + 5) tb_M165 212 [(4, vi ((q : Int))), (3, vi 4), (2, vi (s.1 205 b)), (0, .ref 170), (1, vi ((b : Int)))] [] s21 _
          have hD20 : LD b s.1 s21.1 := LD_tr hD11 hDk20
          have hR20 : RF s21.1 := LD_RF hb7 hD20 hR
          have hz20 : s21.2 = s.2 := hc20.trans hz11
          refine wr_end (fun _ _ => rfl) ?_
          exact ST_cur (own := own) (p2 := p + 2) (h2 := bh (G b) (bn (G b))) hb7 hR hI hb hg hst (LD_LC hD20) (HD_at hM.2.2.2.2 (fun i => (hD20 1630 i (by omega) (by omega) (by omega)))) hz20 (hD20 170 52 (by omega) (by omega) (by omega)) (hD20 170 53 (by omega) (by omega) (by omega)) (hD20 206 b (by omega) (by omega) (by omega)) (hD20 209 b (by omega) (by omega) (by omega)) (fun i => (hD20 (921 + b) i (by omega) (by omega) (by omega))) (hq20.trans (hq11.trans hp6)) (by omega) (by omega) c (by omega)
set_option maxHeartbeats 20000000 in
set_option maxRecDepth 100000 in
theorem w1_5 {d C b p na : Nat} {F : Ph} {G : Nat → gB} {own : Nat → Nat → Prop} {s : rS} (hC : C = 177 ∨ C = 186) (hR : RF s.1) (hM : MC C F na s.1) (hI : RI F s.1 G own) (hb7 : b < 700) (hb : (b : Int) < s.1 170 55) (hg : s.1 206 b = 1) (hst : s.1 170 52 = 2) (hsteps : 0 ≤ s.1 170 53 ∧ s.1 170 53 ≤ s.1 170 54 ∧ s.1 170 54 ≤ 20000) (hp5 : s.1 205 b = (p : Int)) (ht0 : s.1 208 b = (bb (G b) (bn (G b)) : Int) + bh (G b) (bn (G b)) ∧ 0 ≤ s.1 208 b ∧ s.1 208 b ≤ 1000) (hrm : bb (G b) (bn (G b)) + frm (bx (G b) (bn (G b))) ≤ 1000) (hk : s.1 (C + 1) p = 5) (hik : ik na (s.1 (C + 1)) F p (bh (G b) (bn (G b))) (bw (G b) (bn (G b))) (bx (G b) (bn (G b))) 5) : wr (d + 5) tb_M165 0 [(0, .ref 170), (1, vi ((b : Int)))] [] s (ON F G b s) := by
  obtain ⟨a, ⟨q, q1, q2⟩, g, w2, g1, c1, c⟩ := hik
  refine wr_n (pc2 := 1) (lv2 := [(0, .ref 170), (1, vi ((b : Int)))]) (st2 := [.ref 170]) 1 (fun _ _ => rfl) ?_
  refine wr_get (v := .ref 205) rfl rfl rfl (by decide) (rv_ref (hR 170 40 205 rfl)) fun h1 => ?_
  show wr (d + 5) tb_M165 4 [(0, .ref 170), (1, vi ((b : Int)))] [.ref 205] s _
  refine wr_n (pc2 := 5) (lv2 := [(0, .ref 170), (1, vi ((b : Int)))]) (st2 := [vi ((b : Int)), .ref 205]) 1 (fun _ _ => rfl) ?_
  refine wr_ald (a := (b : Int)) (v := vi (s.1 205 b)) rfl rfl rfl (by omega) (by omega) (by decide) rfl fun h2 => ?_
  have h2 : -2147483648 ≤ s.1 205 b ∧ s.1 205 b ≤ 2147483647 := h2
  show wr (d + 5) tb_M165 6 [(0, .ref 170), (1, vi ((b : Int)))] [vi (s.1 205 b)] s _
  refine wr_n (pc2 := 9) (lv2 := [(2, vi (s.1 205 b)), (0, .ref 170), (1, vi ((b : Int)))]) (st2 := [vi ((b : Int)), .ref 170]) 3 (fun _ _ => rfl) ?_
  refine wr_call1 (args := [vi ((b : Int))]) (rest := []) rfl rfl rfl rfl (Nat.le_of_ble_eq_true rfl) (cr_mono (x_readb (d := d + 4) (p := p) hC _ hR hM.1 hb7 hp5 (by omega)) ?_)
  rintro s4 out ⟨rfl, hv3, hc3, hDk3, hp3, ht3⟩
  · refine ⟨_, rfl, ?_⟩
    show wr (d + 5) tb_M165 12 [(2, vi (s.1 205 b)), (0, .ref 170), (1, vi ((b : Int)))] [vi (s.1 (C + 1) (p))] s4 _
    have hcd3 : s.1 (C + 1) (p) = s.1 (C + 1) p := rfl
    rw [hcd3] at hv3
    unfold i32 at hv3
    rw [hk]
    have hD3 : LD b s.1 s4.1 := LD_tr LD_rf hDk3
    have hR3 : RF s4.1 := LD_RF hb7 hD3 hR
    have hz3 : s4.2 = s.2 := hc3.trans rfl
    show wr (d + 5) tb_M165 12 [(2, vi (s.1 205 b)), (0, .ref 170), (1, vi ((b : Int)))] [vi 5] s4 _
    refine wr_n (pc2 := 215) (lv2 := [(3, vi 5), (2, vi (s.1 205 b)), (0, .ref 170), (1, vi ((b : Int)))]) (st2 := [vi ((b : Int)), .ref 170]) 5 (fun _ _ => rfl) ?_
    refine wr_call1 (args := [vi ((b : Int))]) (rest := []) rfl rfl rfl rfl (Nat.le_of_ble_eq_true rfl) (cr_mono (x_readb (d := d + 4) (p := p + 1) hC _ hR3 ((hD3 170 17 (by omega) (by omega) (by omega)).trans hM.1) hb7 hp3 (by omega)) ?_)
    rintro s7 out ⟨rfl, hv6, hc6, hDk6, hp6, ht6⟩
    · refine ⟨_, rfl, ?_⟩
      show wr (d + 5) tb_M165 218 [(3, vi 5), (2, vi (s.1 205 b)), (0, .ref 170), (1, vi ((b : Int)))] [vi (s4.1 (C + 1) (p + 1))] s7 _
      have hcd6 : s4.1 (C + 1) (p + 1) = s.1 (C + 1) (p + 1) := hD3 (C + 1) _ (by omega) (by omega) (by omega)
      rw [hcd6] at hv6
      unfold i32 at hv6
      rw [hcd6]
      have hD6 : LD b s.1 s7.1 := LD_tr hD3 hDk6
      have hR6 : RF s7.1 := LD_RF hb7 hD6 hR
      have hz6 : s7.2 = s.2 := hc6.trans hz3
      show wr (d + 5) tb_M165 218 [(3, vi 5), (2, vi (s.1 205 b)), (0, .ref 170), (1, vi ((b : Int)))] [vi (s.1 (C + 1) (p + 1))] s7 _
      rw [q1]
      show wr (d + 5) tb_M165 218 [(3, vi 5), (2, vi (s.1 205 b)), (0, .ref 170), (1, vi ((b : Int)))] [vi ((q : Int))] s7 _
      refine wr_n (pc2 := 222) (lv2 := [(4, vi ((q : Int))), (3, vi 5), (2, vi (s.1 205 b)), (0, .ref 170), (1, vi ((b : Int)))]) (st2 := [vi ((b : Int)), .ref 170]) 3 (fun _ _ => rfl) ?_
      refine wr_call1 (args := [vi ((b : Int))]) (rest := []) rfl rfl rfl rfl (Nat.le_of_ble_eq_true rfl) (cr_mono (x_pop (d := d + 4) _ hR6 hb7 (by omega)) ?_)
      rintro s10 out ⟨v9, rfl, hv9, hc9, hDk9, hq9, ht9⟩
      · refine ⟨_, rfl, ?_⟩
        show wr (d + 5) tb_M165 225 [(4, vi ((q : Int))), (3, vi 5), (2, vi (s.1 205 b)), (0, .ref 170), (1, vi ((b : Int)))] [vi v9] s10 _
        unfold i32 at hv9
        have hD9 : LD b s.1 s10.1 := LD_tr hD6 hDk9
        have hR9 : RF s10.1 := LD_RF hb7 hD9 hR
        have hz9 : s10.2 = s.2 := hc9.trans hz6
        refine wr_n (pc2 := 228) (lv2 := [(5, vi v9), (4, vi ((q : Int))), (3, vi 5), (2, vi (s.1 205 b)), (0, .ref 170), (1, vi ((b : Int)))]) (st2 := [.ref 170]) 2 (fun _ _ => rfl) ?_
        refine wr_get (v := .ref 203) rfl rfl rfl (by decide) (rv_ref (hR9 170 38 203 rfl)) fun h12 => ?_
        show wr (d + 5) tb_M165 231 [(5, vi v9), (4, vi ((q : Int))), (3, vi 5), (2, vi (s.1 205 b)), (0, .ref 170), (1, vi ((b : Int)))] [.ref 203] s10 _
        refine wr_n (pc2 := 234) (lv2 := [(5, vi v9), (4, vi ((q : Int))), (3, vi 5), (2, vi (s.1 205 b)), (0, .ref 170), (1, vi ((b : Int)))]) (st2 := [.ref 170, vi ((q : Int)), .ref 203]) 2 (fun _ _ => rfl) ?_
        refine wr_get (v := .ref C) rfl rfl rfl (by decide) (rv_ref (show s10.1 170 17 = ((C : Nat) : Int) from ((hD9 170 17 (by omega) (by omega) (by omega)).trans hM.1))) fun h13 => ?_
        show wr (d + 5) tb_M165 237 [(5, vi v9), (4, vi ((q : Int))), (3, vi 5), (2, vi (s.1 205 b)), (0, .ref 170), (1, vi ((b : Int)))] [.ref C, vi ((q : Int)), .ref 203] s10 _
        refine wr_get (v := .ref (C + 2)) rfl rfl (TG_C hC) (by decide) (rv_ref (hR9 C 11 (C + 2) (rc_C11 hC))) fun h14 => ?_
        show wr (d + 5) tb_M165 240 [(5, vi v9), (4, vi ((q : Int))), (3, vi 5), (2, vi (s.1 205 b)), (0, .ref 170), (1, vi ((b : Int)))] [.ref (C + 2), vi ((q : Int)), .ref 203] s10 _
        refine wr_n (pc2 := 242) (lv2 := [(5, vi v9), (4, vi ((q : Int))), (3, vi 5), (2, vi (s.1 205 b)), (0, .ref 170), (1, vi ((b : Int)))]) (st2 := [vi ((q : Int)), .ref (C + 2), vi ((q : Int)), .ref 203]) 1 (fun _ _ => rfl) ?_
        refine wr_ald (a := (q : Int)) (v := vi (s10.1 (C + 2) q)) rfl (TG_C2 hC) rfl (by omega) (by omega) (by decide) rfl fun h15 => ?_
        have h15 : -2147483648 ≤ s10.1 (C + 2) q ∧ s10.1 (C + 2) q ≤ 2147483647 := h15
        show wr (d + 5) tb_M165 243 [(5, vi v9), (4, vi ((q : Int))), (3, vi 5), (2, vi (s.1 205 b)), (0, .ref 170), (1, vi ((b : Int)))] [vi (s10.1 (C + 2) q), vi ((q : Int)), .ref 203] s10 _
        by_cases h16 : s10.1 (C + 2) q ≠ 0
        · refine wr_if1t rfl rfl (by unfold i32; omega) h16 ?_
          refine wr_n (pc2 := 256) (lv2 := [(5, vi v9), (4, vi ((q : Int))), (3, vi 5), (2, vi (s.1 205 b)), (0, .ref 170), (1, vi ((b : Int)))]) (st2 := [.ref 170, vi 1, vi v9, vi ((q : Int)), .ref 203]) 3 (fun _ _ => rfl) ?_
          refine wr_get (v := .ref C) rfl rfl rfl (by decide) (rv_ref (show s10.1 170 17 = ((C : Nat) : Int) from ((hD9 170 17 (by omega) (by omega) (by omega)).trans hM.1))) fun h17 => ?_
          show wr (d + 5) tb_M165 259 [(5, vi v9), (4, vi ((q : Int))), (3, vi 5), (2, vi (s.1 205 b)), (0, .ref 170), (1, vi ((b : Int)))] [.ref C, vi 1, vi v9, vi ((q : Int)), .ref 203] s10 _
          refine wr_get (v := .ref (C + 2)) rfl rfl (TG_C hC) (by decide) (rv_ref (hR9 C 11 (C + 2) (rc_C11 hC))) fun h18 => ?_
          show wr (d + 5) tb_M165 262 [(5, vi v9), (4, vi ((q : Int))), (3, vi 5), (2, vi (s.1 205 b)), (0, .ref 170), (1, vi ((b : Int)))] [.ref (C + 2), vi 1, vi v9, vi ((q : Int)), .ref 203] s10 _
          refine wr_n (pc2 := 264) (lv2 := [(5, vi v9), (4, vi ((q : Int))), (3, vi 5), (2, vi (s.1 205 b)), (0, .ref 170), (1, vi ((b : Int)))]) (st2 := [vi ((q : Int)), .ref (C + 2), vi 1, vi v9, vi ((q : Int)), .ref 203]) 1 (fun _ _ => rfl) ?_
          refine wr_ald (a := (q : Int)) (v := vi (s10.1 (C + 2) q)) rfl (TG_C2 hC) rfl (by omega) (by omega) (by decide) rfl fun h19 => ?_
          have h19 : -2147483648 ≤ s10.1 (C + 2) q ∧ s10.1 (C + 2) q ≤ 2147483647 := h19
          show wr (d + 5) tb_M165 265 [(5, vi v9), (4, vi ((q : Int))), (3, vi 5), (2, vi (s.1 205 b)), (0, .ref 170), (1, vi ((b : Int)))] [vi (s10.1 (C + 2) q), vi 1, vi v9, vi ((q : Int)), .ref 203] s10 _
          refine wr_any2 rfl rfl fun z20 h21 => ?_
          unfold i32 at h21
          show wr (d + 5) tb_M165 266 [(5, vi v9), (4, vi ((q : Int))), (3, vi 5), (2, vi (s.1 205 b)), (0, .ref 170), (1, vi ((b : Int)))] [vi z20, vi v9, vi ((q : Int)), .ref 203] s10 _
          refine wr_n (pc2 := 267) (lv2 := [(5, vi v9), (4, vi ((q : Int))), (3, vi 5), (2, vi (s.1 205 b)), (0, .ref 170), (1, vi ((b : Int)))]) (st2 := [vi 1, vi z20, vi v9, vi ((q : Int)), .ref 203]) 1 (fun _ _ => rfl) ?_
          refine wr_sub (a := z20) (b := 1) rfl ?_
          show wr (d + 5) tb_M165 268 [(5, vi v9), (4, vi ((q : Int))), (3, vi 5), (2, vi (s.1 205 b)), (0, .ref 170), (1, vi ((b : Int)))] [vi (z20 - 1), vi v9, vi ((q : Int)), .ref 203] s10 _
          refine wr_any2 rfl rfl fun z22 h23 => ?_
          unfold i32 at h23
          show wr (d + 5) tb_M165 269 [(5, vi v9), (4, vi ((q : Int))), (3, vi 5), (2, vi (s.1 205 b)), (0, .ref 170), (1, vi ((b : Int)))] [vi z22, vi ((q : Int)), .ref 203] s10 _
          refine wr_ast (a := (q : Int)) (z := z22) rfl (by decide) rfl rfl (by omega) (by omega) (by decide) rfl (show -2147483648 ≤ z22 ∧ z22 ≤ 2147483647 by omega) ?_
          show wr (d + 5) tb_M165 270 [(5, vi v9), (4, vi ((q : Int))), (3, vi 5), (2, vi (s.1 205 b)), (0, .ref 170), (1, vi ((b : Int)))] [] (up2 s10.1 203 q z22, s10.2) _
          have hR24 : RF (up2 s10.1 203 q z22) := (RF_up hR9 rfl)
          obtain ⟨s25, hs25⟩ : ∃ qq9 : rS, qq9 = (up2 s10.1 203 q z22, s10.2) := ⟨_, rfl⟩
          rw [← hs25]
          have hU25 : U1 203 q s10.1 s25.1 := by rw [hs25]; exact U1_up
          have hDk25 : LD b s10.1 s25.1 := by rw [hs25]; exact LD_up LD_rf (by omega)
          have hc25 : s25.2 = s10.2 := by rw [hs25]
          have hp25 : s25.1 205 b = ((p + 2 : Nat) : Int) := (hU25 205 b (by omega)).trans (hq9.trans hp6)
          have ht25 : s25.1 208 b = s10.1 208 b := hU25 208 b (by omega)
          have hD25 : LD b s.1 s25.1 := LD_tr hD9 hDk25
          have hR25 : RF s25.1 := LD_RF hb7 hD25 hR
          have hz25 : s25.2 = s.2 := hc25.trans hz9
          show wr (d + 5) tb_M165 270 [(5, vi v9), (4, vi ((q : Int))), (3, vi 5), (2, vi (s.1 205 b)), (0, .ref 170), (1, vi ((b : Int)))] [] s25 _
          refine wr_end (fun _ _ => rfl) ?_
          exact ST_cur (own := own) (p2 := p + 2) (h2 := g) hb7 hR hI hb hg hst (LD_LC hD25) (HD_at hM.2.2.2.2 (fun i => (hD25 1630 i (by omega) (by omega) (by omega)))) hz25 (hD25 170 52 (by omega) (by omega) (by omega)) (hD25 170 53 (by omega) (by omega) (by omega)) (hD25 206 b (by omega) (by omega) (by omega)) (hD25 209 b (by omega) (by omega) (by omega)) (fun i => (hD25 (921 + b) i (by omega) (by omega) (by omega))) hp25 (by omega) (by omega) c (by omega)
        · refine wr_if1f rfl rfl (by unfold i32; omega) h16 ?_
          refine wr_n (pc2 := 248) (lv2 := [(5, vi v9), (4, vi ((q : Int))), (3, vi 5), (2, vi (s.1 205 b)), (0, .ref 170), (1, vi ((b : Int)))]) (st2 := [vi v9, vi ((q : Int)), .ref 203]) 1 (fun _ _ => rfl) ?_
          refine wr_anyu rfl (fun x => ⟨_, rfl⟩) fun z26 h27 => ?_
          unfold i32 at h27
          show wr (d + 5) tb_M165 249 [(5, vi v9), (4, vi ((q : Int))), (3, vi 5), (2, vi (s.1 205 b)), (0, .ref 170), (1, vi ((b : Int)))] [vi z26, vi ((q : Int)), .ref 203] s10 _
          refine wr_n (pc2 := 269) (lv2 := [(5, vi v9), (4, vi ((q : Int))), (3, vi 5), (2, vi (s.1 205 b)), (0, .ref 170), (1, vi ((b : Int)))]) (st2 := [vi z26, vi ((q : Int)), .ref 203]) 1 (fun _ _ => rfl) ?_
          refine wr_ast (a := (q : Int)) (z := z26) rfl (by decide) rfl rfl (by omega) (by omega) (by decide) rfl (show -2147483648 ≤ z26 ∧ z26 ≤ 2147483647 by omega) ?_
          show wr (d + 5) tb_M165 270 [(5, vi v9), (4, vi ((q : Int))), (3, vi 5), (2, vi (s.1 205 b)), (0, .ref 170), (1, vi ((b : Int)))] [] (up2 s10.1 203 q z26, s10.2) _
          have hR28 : RF (up2 s10.1 203 q z26) := (RF_up hR9 rfl)
          obtain ⟨s29, hs29⟩ : ∃ qq9 : rS, qq9 = (up2 s10.1 203 q z26, s10.2) := ⟨_, rfl⟩
          rw [← hs29]
          have hU29 : U1 203 q s10.1 s29.1 := by rw [hs29]; exact U1_up
          have hDk29 : LD b s10.1 s29.1 := by rw [hs29]; exact LD_up LD_rf (by omega)
          have hc29 : s29.2 = s10.2 := by rw [hs29]
          have hp29 : s29.1 205 b = ((p + 2 : Nat) : Int) := (hU29 205 b (by omega)).trans (hq9.trans hp6)
          have ht29 : s29.1 208 b = s10.1 208 b := hU29 208 b (by omega)
          have hD29 : LD b s.1 s29.1 := LD_tr hD9 hDk29
          have hR29 : RF s29.1 := LD_RF hb7 hD29 hR
          have hz29 : s29.2 = s.2 := hc29.trans hz9
          show wr (d + 5) tb_M165 270 [(5, vi v9), (4, vi ((q : Int))), (3, vi 5), (2, vi (s.1 205 b)), (0, .ref 170), (1, vi ((b : Int)))] [] s29 _
          refine wr_end (fun _ _ => rfl) ?_
          exact ST_cur (own := own) (p2 := p + 2) (h2 := g) hb7 hR hI hb hg hst (LD_LC hD29) (HD_at hM.2.2.2.2 (fun i => (hD29 1630 i (by omega) (by omega) (by omega)))) hz29 (hD29 170 52 (by omega) (by omega) (by omega)) (hD29 170 53 (by omega) (by omega) (by omega)) (hD29 206 b (by omega) (by omega) (by omega)) (hD29 209 b (by omega) (by omega) (by omega)) (fun i => (hD29 (921 + b) i (by omega) (by omega) (by omega))) hp29 (by omega) (by omega) c (by omega)
set_option maxHeartbeats 20000000 in
set_option maxRecDepth 100000 in
theorem w1_6 {d C b p na : Nat} {F : Ph} {G : Nat → gB} {own : Nat → Nat → Prop} {s : rS} (hC : C = 177 ∨ C = 186) (hR : RF s.1) (hM : MC C F na s.1) (hI : RI F s.1 G own) (hb7 : b < 700) (hb : (b : Int) < s.1 170 55) (hg : s.1 206 b = 1) (hst : s.1 170 52 = 2) (hsteps : 0 ≤ s.1 170 53 ∧ s.1 170 53 ≤ s.1 170 54 ∧ s.1 170 54 ≤ 20000) (hp5 : s.1 205 b = (p : Int)) (ht0 : s.1 208 b = (bb (G b) (bn (G b)) : Int) + bh (G b) (bn (G b)) ∧ 0 ≤ s.1 208 b ∧ s.1 208 b ≤ 1000) (hrm : bb (G b) (bn (G b)) + frm (bx (G b) (bn (G b))) ≤ 1000) (hk : s.1 (C + 1) p = 6) (hik : ik na (s.1 (C + 1)) F p (bh (G b) (bn (G b))) (bw (G b) (bn (G b))) (bx (G b) (bn (G b))) 6) : wr (d + 5) tb_M165 0 [(0, .ref 170), (1, vi ((b : Int)))] [] s (ON F G b s) := by
  obtain ⟨a, ⟨q, q1, q2⟩, g, w2, g1, c1, c⟩ := hik
  have hna := hM.2.2.1
  refine wr_n (pc2 := 1) (lv2 := [(0, .ref 170), (1, vi ((b : Int)))]) (st2 := [.ref 170]) 1 (fun _ _ => rfl) ?_
  refine wr_get (v := .ref 205) rfl rfl rfl (by decide) (rv_ref (hR 170 40 205 rfl)) fun h1 => ?_
  show wr (d + 5) tb_M165 4 [(0, .ref 170), (1, vi ((b : Int)))] [.ref 205] s _
  refine wr_n (pc2 := 5) (lv2 := [(0, .ref 170), (1, vi ((b : Int)))]) (st2 := [vi ((b : Int)), .ref 205]) 1 (fun _ _ => rfl) ?_
  refine wr_ald (a := (b : Int)) (v := vi (s.1 205 b)) rfl rfl rfl (by omega) (by omega) (by decide) rfl fun h2 => ?_
  have h2 : -2147483648 ≤ s.1 205 b ∧ s.1 205 b ≤ 2147483647 := h2
  show wr (d + 5) tb_M165 6 [(0, .ref 170), (1, vi ((b : Int)))] [vi (s.1 205 b)] s _
  refine wr_n (pc2 := 9) (lv2 := [(2, vi (s.1 205 b)), (0, .ref 170), (1, vi ((b : Int)))]) (st2 := [vi ((b : Int)), .ref 170]) 3 (fun _ _ => rfl) ?_
  refine wr_call1 (args := [vi ((b : Int))]) (rest := []) rfl rfl rfl rfl (Nat.le_of_ble_eq_true rfl) (cr_mono (x_readb (d := d + 4) (p := p) hC _ hR hM.1 hb7 hp5 (by omega)) ?_)
  rintro s4 out ⟨rfl, hv3, hc3, hDk3, hp3, ht3⟩
  · refine ⟨_, rfl, ?_⟩
    show wr (d + 5) tb_M165 12 [(2, vi (s.1 205 b)), (0, .ref 170), (1, vi ((b : Int)))] [vi (s.1 (C + 1) (p))] s4 _
    have hcd3 : s.1 (C + 1) (p) = s.1 (C + 1) p := rfl
    rw [hcd3] at hv3
    unfold i32 at hv3
    rw [hk]
    have hD3 : LD b s.1 s4.1 := LD_tr LD_rf hDk3
    have hR3 : RF s4.1 := LD_RF hb7 hD3 hR
    have hz3 : s4.2 = s.2 := hc3.trans rfl
    show wr (d + 5) tb_M165 12 [(2, vi (s.1 205 b)), (0, .ref 170), (1, vi ((b : Int)))] [vi 6] s4 _
    refine wr_n (pc2 := 273) (lv2 := [(3, vi 6), (2, vi (s.1 205 b)), (0, .ref 170), (1, vi ((b : Int)))]) (st2 := [vi ((b : Int)), .ref 170]) 5 (fun _ _ => rfl) ?_
    refine wr_call1 (args := [vi ((b : Int))]) (rest := []) rfl rfl rfl rfl (Nat.le_of_ble_eq_true rfl) (cr_mono (x_readb (d := d + 4) (p := p + 1) hC _ hR3 ((hD3 170 17 (by omega) (by omega) (by omega)).trans hM.1) hb7 hp3 (by omega)) ?_)
    rintro s7 out ⟨rfl, hv6, hc6, hDk6, hp6, ht6⟩
    · refine ⟨_, rfl, ?_⟩
      show wr (d + 5) tb_M165 276 [(3, vi 6), (2, vi (s.1 205 b)), (0, .ref 170), (1, vi ((b : Int)))] [vi (s4.1 (C + 1) (p + 1))] s7 _
      have hcd6 : s4.1 (C + 1) (p + 1) = s.1 (C + 1) (p + 1) := hD3 (C + 1) _ (by omega) (by omega) (by omega)
      rw [hcd6] at hv6
      unfold i32 at hv6
      rw [hcd6]
      have hD6 : LD b s.1 s7.1 := LD_tr hD3 hDk6
      have hR6 : RF s7.1 := LD_RF hb7 hD6 hR
      have hz6 : s7.2 = s.2 := hc6.trans hz3
      show wr (d + 5) tb_M165 276 [(3, vi 6), (2, vi (s.1 205 b)), (0, .ref 170), (1, vi ((b : Int)))] [vi (s.1 (C + 1) (p + 1))] s7 _
      rw [q1]
      show wr (d + 5) tb_M165 276 [(3, vi 6), (2, vi (s.1 205 b)), (0, .ref 170), (1, vi ((b : Int)))] [vi ((q : Int))] s7 _
      refine wr_n (pc2 := 280) (lv2 := [(4, vi ((q : Int))), (3, vi 6), (2, vi (s.1 205 b)), (0, .ref 170), (1, vi ((b : Int)))]) (st2 := [vi ((b : Int)), .ref 170]) 3 (fun _ _ => rfl) ?_
      refine wr_call1 (args := [vi ((b : Int))]) (rest := []) rfl rfl rfl rfl (Nat.le_of_ble_eq_true rfl) (cr_mono (x_pop (d := d + 4) _ hR6 hb7 (by omega)) ?_)
      rintro s10 out ⟨v9, rfl, hv9, hc9, hDk9, hq9, ht9⟩
      · refine ⟨_, rfl, ?_⟩
        show wr (d + 5) tb_M165 283 [(4, vi ((q : Int))), (3, vi 6), (2, vi (s.1 205 b)), (0, .ref 170), (1, vi ((b : Int)))] [vi v9] s10 _
        unfold i32 at hv9
        have hD9 : LD b s.1 s10.1 := LD_tr hD6 hDk9
        have hR9 : RF s10.1 := LD_RF hb7 hD9 hR
        have hz9 : s10.2 = s.2 := hc9.trans hz6
        refine wr_n (pc2 := 286) (lv2 := [(5, vi v9), (4, vi ((q : Int))), (3, vi 6), (2, vi (s.1 205 b)), (0, .ref 170), (1, vi ((b : Int)))]) (st2 := [.ref 170]) 2 (fun _ _ => rfl) ?_
        refine wr_get (v := .ref 212) rfl rfl rfl (by decide) (rv_ref (hR9 170 47 212 rfl)) fun h12 => ?_
        show wr (d + 5) tb_M165 289 [(5, vi v9), (4, vi ((q : Int))), (3, vi 6), (2, vi (s.1 205 b)), (0, .ref 170), (1, vi ((b : Int)))] [.ref 212] s10 _
        refine wr_n (pc2 := 291) (lv2 := [(5, vi v9), (4, vi ((q : Int))), (3, vi 6), (2, vi (s.1 205 b)), (0, .ref 170), (1, vi ((b : Int)))]) (st2 := [vi ((q : Int)), .ref 212]) 1 (fun _ _ => rfl) ?_
        refine wr_ald (a := (q : Int)) (v := .ref (213 + q)) rfl rfl rfl (by omega) (by omega) (by decide) (rv_ref (hR9 212 q (213 + q) (rc_it (by omega)))) fun h13 => ?_
        show wr (d + 5) tb_M165 292 [(5, vi v9), (4, vi ((q : Int))), (3, vi 6), (2, vi (s.1 205 b)), (0, .ref 170), (1, vi ((b : Int)))] [.ref (213 + q)] s10 _
        refine wr_n (pc2 := 294) (lv2 := [(5, vi v9), (4, vi ((q : Int))), (3, vi 6), (2, vi (s.1 205 b)), (0, .ref 170), (1, vi ((b : Int)))]) (st2 := [vi ((b : Int)), .ref 170, .ref (213 + q)]) 2 (fun _ _ => rfl) ?_
        refine wr_call1 (args := [vi ((b : Int))]) (rest := [.ref (213 + q)]) rfl rfl rfl rfl (Nat.le_of_ble_eq_true rfl) (cr_mono (x_pop (d := d + 4) _ hR9 hb7 (by omega)) ?_)
        rintro s15 out ⟨v14, rfl, hv14, hc14, hDk14, hq14, ht14⟩
        · refine ⟨_, rfl, ?_⟩
          show wr (d + 5) tb_M165 297 [(5, vi v9), (4, vi ((q : Int))), (3, vi 6), (2, vi (s.1 205 b)), (0, .ref 170), (1, vi ((b : Int)))] [vi v14, .ref (213 + q)] s15 _
          unfold i32 at hv14
          have hD14 : LD b s.1 s15.1 := LD_tr hD9 hDk14
          have hR14 : RF s15.1 := LD_RF hb7 hD14 hR
          have hz14 : s15.2 = s.2 := hc14.trans hz9
          refine wr_n (pc2 := 298) (lv2 := [(5, vi v9), (4, vi ((q : Int))), (3, vi 6), (2, vi (s.1 205 b)), (0, .ref 170), (1, vi ((b : Int)))]) (st2 := [.ref 170, vi v14, .ref (213 + q)]) 1 (fun _ _ => rfl) ?_
          refine wr_get (v := .ref C) rfl rfl rfl (by decide) (rv_ref (show s15.1 170 17 = ((C : Nat) : Int) from ((hD14 170 17 (by omega) (by omega) (by omega)).trans hM.1))) fun h17 => ?_
          show wr (d + 5) tb_M165 301 [(5, vi v9), (4, vi ((q : Int))), (3, vi 6), (2, vi (s.1 205 b)), (0, .ref 170), (1, vi ((b : Int)))] [.ref C, vi v14, .ref (213 + q)] s15 _
          refine wr_get (v := .ref (C + 3)) rfl rfl (TG_C hC) (by decide) (rv_ref (hR14 C 12 (C + 3) (rc_C12 hC))) fun h18 => ?_
          show wr (d + 5) tb_M165 304 [(5, vi v9), (4, vi ((q : Int))), (3, vi 6), (2, vi (s.1 205 b)), (0, .ref 170), (1, vi ((b : Int)))] [.ref (C + 3), vi v14, .ref (213 + q)] s15 _
          refine wr_n (pc2 := 306) (lv2 := [(5, vi v9), (4, vi ((q : Int))), (3, vi 6), (2, vi (s.1 205 b)), (0, .ref 170), (1, vi ((b : Int)))]) (st2 := [vi ((q : Int)), .ref (C + 3), vi v14, .ref (213 + q)]) 1 (fun _ _ => rfl) ?_
          refine wr_ald (a := (q : Int)) (v := vi (s15.1 (C + 3) q)) rfl (TG_C3 hC) rfl (by omega) (by omega) (by decide) rfl fun h19 => ?_
          have h19 : -2147483648 ≤ s15.1 (C + 3) q ∧ s15.1 (C + 3) q ≤ 2147483647 := h19
          show wr (d + 5) tb_M165 307 [(5, vi v9), (4, vi ((q : Int))), (3, vi 6), (2, vi (s.1 205 b)), (0, .ref 170), (1, vi ((b : Int)))] [vi (s15.1 (C + 3) q), vi v14, .ref (213 + q)] s15 _
          have hsz : 1 ≤ s15.1 (C + 3) q ∧ s15.1 (C + 3) q ≤ 64 := by rw [hD14 (C + 3) q (by omega) (by omega) (by omega)]; exact hM.2.2.2.1 q q2
          refine wr_n (pc2 := 308) (lv2 := [(5, vi v9), (4, vi ((q : Int))), (3, vi 6), (2, vi (s.1 205 b)), (0, .ref 170), (1, vi ((b : Int)))]) (st2 := [vi 1, vi (s15.1 (C + 3) q), vi v14, .ref (213 + q)]) 1 (fun _ _ => rfl) ?_
          refine wr_sub (a := s15.1 (C + 3) q) (b := 1) rfl ?_
          show wr (d + 5) tb_M165 309 [(5, vi v9), (4, vi ((q : Int))), (3, vi 6), (2, vi (s.1 205 b)), (0, .ref 170), (1, vi ((b : Int)))] [vi ((s15.1 (C + 3) q) - 1), vi v14, .ref (213 + q)] s15 _
          refine wr_and (b := (s15.1 (C + 3) q) - 1) rfl (by omega) fun z20 h21 => ?_
          show wr (d + 5) tb_M165 310 [(5, vi v9), (4, vi ((q : Int))), (3, vi 6), (2, vi (s.1 205 b)), (0, .ref 170), (1, vi ((b : Int)))] [vi z20, .ref (213 + q)] s15 _
          refine wr_n (pc2 := 312) (lv2 := [(5, vi v9), (4, vi ((q : Int))), (3, vi 6), (2, vi (s.1 205 b)), (0, .ref 170), (1, vi ((b : Int)))]) (st2 := [vi v9, vi z20, .ref (213 + q)]) 1 (fun _ _ => rfl) ?_
          refine wr_anyu rfl (fun x => ⟨_, rfl⟩) fun z22 h23 => ?_
          unfold i32 at h23
          show wr (d + 5) tb_M165 313 [(5, vi v9), (4, vi ((q : Int))), (3, vi 6), (2, vi (s.1 205 b)), (0, .ref 170), (1, vi ((b : Int)))] [vi z22, vi z20, .ref (213 + q)] s15 _
          refine wr_ast (a := z20) (z := z22) rfl (show 96 ≤ 213 + q by omega) (TG_it (by omega)) rfl (by omega) (by omega) (by decide) rfl (show -2147483648 ≤ z22 ∧ z22 ≤ 2147483647 by omega) ?_
          show wr (d + 5) tb_M165 314 [(5, vi v9), (4, vi ((q : Int))), (3, vi 6), (2, vi (s.1 205 b)), (0, .ref 170), (1, vi ((b : Int)))] [] (up2 s15.1 (213 + q) z20.toNat z22, s15.2) _
          have hR24 : RF (up2 s15.1 (213 + q) z20.toNat z22) := (RF_up hR14 (RS_rc (by unfold RS; omega)))
          obtain ⟨s25, hs25⟩ : ∃ qq9 : rS, qq9 = (up2 s15.1 (213 + q) z20.toNat z22, s15.2) := ⟨_, rfl⟩
          rw [← hs25]
          have hU25 : U1 (213 + q) z20.toNat s15.1 s25.1 := by rw [hs25]; exact U1_up
          have hDk25 : LD b s15.1 s25.1 := by rw [hs25]; exact LD_up LD_rf (by omega)
          have hc25 : s25.2 = s15.2 := by rw [hs25]
          have hp25 : s25.1 205 b = ((p + 2 : Nat) : Int) := (hU25 205 b (by omega)).trans (hq14.trans (hq9.trans hp6))
          have ht25 : s25.1 208 b = s15.1 208 b := hU25 208 b (by omega)
          have hD25 : LD b s.1 s25.1 := LD_tr hD14 hDk25
          have hR25 : RF s25.1 := LD_RF hb7 hD25 hR
          have hz25 : s25.2 = s.2 := hc25.trans hz14
          show wr (d + 5) tb_M165 314 [(5, vi v9), (4, vi ((q : Int))), (3, vi 6), (2, vi (s.1 205 b)), (0, .ref 170), (1, vi ((b : Int)))] [] s25 _
          refine wr_end (fun _ _ => rfl) ?_
          exact ST_cur (own := own) (p2 := p + 2) (h2 := g) hb7 hR hI hb hg hst (LD_LC hD25) (HD_at hM.2.2.2.2 (fun i => (hD25 1630 i (by omega) (by omega) (by omega)))) hz25 (hD25 170 52 (by omega) (by omega) (by omega)) (hD25 170 53 (by omega) (by omega) (by omega)) (hD25 206 b (by omega) (by omega) (by omega)) (hD25 209 b (by omega) (by omega) (by omega)) (fun i => (hD25 (921 + b) i (by omega) (by omega) (by omega))) hp25 (by omega) (by omega) c (by omega)
set_option maxHeartbeats 20000000 in
set_option maxRecDepth 100000 in
theorem w1_9 {d C b p na : Nat} {F : Ph} {G : Nat → gB} {own : Nat → Nat → Prop} {s : rS} (hC : C = 177 ∨ C = 186) (hR : RF s.1) (hM : MC C F na s.1) (hI : RI F s.1 G own) (hb7 : b < 700) (hb : (b : Int) < s.1 170 55) (hg : s.1 206 b = 1) (hst : s.1 170 52 = 2) (hsteps : 0 ≤ s.1 170 53 ∧ s.1 170 53 ≤ s.1 170 54 ∧ s.1 170 54 ≤ 20000) (hp5 : s.1 205 b = (p : Int)) (ht0 : s.1 208 b = (bb (G b) (bn (G b)) : Int) + bh (G b) (bn (G b)) ∧ 0 ≤ s.1 208 b ∧ s.1 208 b ≤ 1000) (hrm : bb (G b) (bn (G b)) + frm (bx (G b) (bn (G b))) ≤ 1000) (hk : s.1 (C + 1) p = 9) (hik : ik na (s.1 (C + 1)) F p (bh (G b) (bn (G b))) (bw (G b) (bn (G b))) (bx (G b) (bn (G b))) 9) : wr (d + 5) tb_M165 0 [(0, .ref 170), (1, vi ((b : Int)))] [] s (ON F G b s) := by
  obtain ⟨a, t, w2, q1, c1, c⟩ := hik
  refine wr_n (pc2 := 1) (lv2 := [(0, .ref 170), (1, vi ((b : Int)))]) (st2 := [.ref 170]) 1 (fun _ _ => rfl) ?_
  refine wr_get (v := .ref 205) rfl rfl rfl (by decide) (rv_ref (hR 170 40 205 rfl)) fun h1 => ?_
  show wr (d + 5) tb_M165 4 [(0, .ref 170), (1, vi ((b : Int)))] [.ref 205] s _
  refine wr_n (pc2 := 5) (lv2 := [(0, .ref 170), (1, vi ((b : Int)))]) (st2 := [vi ((b : Int)), .ref 205]) 1 (fun _ _ => rfl) ?_
  refine wr_ald (a := (b : Int)) (v := vi (s.1 205 b)) rfl rfl rfl (by omega) (by omega) (by decide) rfl fun h2 => ?_
  have h2 : -2147483648 ≤ s.1 205 b ∧ s.1 205 b ≤ 2147483647 := h2
  show wr (d + 5) tb_M165 6 [(0, .ref 170), (1, vi ((b : Int)))] [vi (s.1 205 b)] s _
  refine wr_n (pc2 := 9) (lv2 := [(2, vi (s.1 205 b)), (0, .ref 170), (1, vi ((b : Int)))]) (st2 := [vi ((b : Int)), .ref 170]) 3 (fun _ _ => rfl) ?_
  refine wr_call1 (args := [vi ((b : Int))]) (rest := []) rfl rfl rfl rfl (Nat.le_of_ble_eq_true rfl) (cr_mono (x_readb (d := d + 4) (p := p) hC _ hR hM.1 hb7 hp5 (by omega)) ?_)
  rintro s4 out ⟨rfl, hv3, hc3, hDk3, hp3, ht3⟩
  · refine ⟨_, rfl, ?_⟩
    show wr (d + 5) tb_M165 12 [(2, vi (s.1 205 b)), (0, .ref 170), (1, vi ((b : Int)))] [vi (s.1 (C + 1) (p))] s4 _
    have hcd3 : s.1 (C + 1) (p) = s.1 (C + 1) p := rfl
    rw [hcd3] at hv3
    unfold i32 at hv3
    rw [hk]
    have hD3 : LD b s.1 s4.1 := LD_tr LD_rf hDk3
    have hR3 : RF s4.1 := LD_RF hb7 hD3 hR
    have hz3 : s4.2 = s.2 := hc3.trans rfl
    show wr (d + 5) tb_M165 12 [(2, vi (s.1 205 b)), (0, .ref 170), (1, vi ((b : Int)))] [vi 9] s4 _
    refine wr_n (pc2 := 405) (lv2 := [(3, vi 9), (2, vi (s.1 205 b)), (0, .ref 170), (1, vi ((b : Int)))]) (st2 := [.ref 170]) 4 (fun _ _ => rfl) ?_
    refine wr_get (v := .ref 205) rfl rfl rfl (by decide) (rv_ref (hR3 170 40 205 rfl)) fun h6 => ?_
    show wr (d + 5) tb_M165 408 [(3, vi 9), (2, vi (s.1 205 b)), (0, .ref 170), (1, vi ((b : Int)))] [.ref 205] s4 _
    refine wr_n (pc2 := 410) (lv2 := [(3, vi 9), (2, vi (s.1 205 b)), (0, .ref 170), (1, vi ((b : Int)))]) (st2 := [.ref 170, vi ((b : Int)), .ref 205]) 2 (fun _ _ => rfl) ?_
    refine wr_get (v := .ref C) rfl rfl rfl (by decide) (rv_ref (show s4.1 170 17 = ((C : Nat) : Int) from ((hD3 170 17 (by omega) (by omega) (by omega)).trans hM.1))) fun h7 => ?_
    show wr (d + 5) tb_M165 413 [(3, vi 9), (2, vi (s.1 205 b)), (0, .ref 170), (1, vi ((b : Int)))] [.ref C, vi ((b : Int)), .ref 205] s4 _
    refine wr_get (v := .ref (C + 1)) rfl rfl (TG_C hC) (by decide) (rv_ref (hR3 C 0 (C + 1) (rc_C0 hC))) fun h8 => ?_
    show wr (d + 5) tb_M165 416 [(3, vi 9), (2, vi (s.1 205 b)), (0, .ref 170), (1, vi ((b : Int)))] [.ref (C + 1), vi ((b : Int)), .ref 205] s4 _
    refine wr_n (pc2 := 417) (lv2 := [(3, vi 9), (2, vi (s.1 205 b)), (0, .ref 170), (1, vi ((b : Int)))]) (st2 := [.ref 170, .ref (C + 1), vi ((b : Int)), .ref 205]) 1 (fun _ _ => rfl) ?_
    refine wr_get (v := .ref 205) rfl rfl rfl (by decide) (rv_ref (hR3 170 40 205 rfl)) fun h9 => ?_
    show wr (d + 5) tb_M165 420 [(3, vi 9), (2, vi (s.1 205 b)), (0, .ref 170), (1, vi ((b : Int)))] [.ref 205, .ref (C + 1), vi ((b : Int)), .ref 205] s4 _
    refine wr_n (pc2 := 421) (lv2 := [(3, vi 9), (2, vi (s.1 205 b)), (0, .ref 170), (1, vi ((b : Int)))]) (st2 := [vi ((b : Int)), .ref 205, .ref (C + 1), vi ((b : Int)), .ref 205]) 1 (fun _ _ => rfl) ?_
    refine wr_ald (a := (b : Int)) (v := vi (s4.1 205 b)) rfl rfl rfl (by omega) (by omega) (by decide) rfl fun h10 => ?_
    have h10 : -2147483648 ≤ s4.1 205 b ∧ s4.1 205 b ≤ 2147483647 := h10
    show wr (d + 5) tb_M165 422 [(3, vi 9), (2, vi (s.1 205 b)), (0, .ref 170), (1, vi ((b : Int)))] [vi (s4.1 205 b), .ref (C + 1), vi ((b : Int)), .ref 205] s4 _
    rw [hp3]
    show wr (d + 5) tb_M165 422 [(3, vi 9), (2, vi (s.1 205 b)), (0, .ref 170), (1, vi ((b : Int)))] [vi (((p + 1 : Nat) : Int)), .ref (C + 1), vi ((b : Int)), .ref 205] s4 _
    refine wr_ald (a := ((p + 1 : Nat) : Int)) (v := vi (s4.1 (C + 1) (p + 1))) rfl (TG_C1 hC) rfl (by omega) (by omega) (by decide) rfl fun h11 => ?_
    have h11 : -2147483648 ≤ s4.1 (C + 1) (p + 1) ∧ s4.1 (C + 1) (p + 1) ≤ 2147483647 := h11
    show wr (d + 5) tb_M165 423 [(3, vi 9), (2, vi (s.1 205 b)), (0, .ref 170), (1, vi ((b : Int)))] [vi (s4.1 (C + 1) (p + 1)), vi ((b : Int)), .ref 205] s4 _
    have h8c := hD3 (C + 1) (p + 1) (by omega) (by omega) (by omega)
    rw [h8c, q1]
    show wr (d + 5) tb_M165 423 [(3, vi 9), (2, vi (s.1 205 b)), (0, .ref 170), (1, vi ((b : Int)))] [vi (((t : Nat) : Int)), vi ((b : Int)), .ref 205] s4 _
    refine wr_ast (a := (b : Int)) (z := ((t : Nat) : Int)) rfl (by decide) rfl rfl (by omega) (by omega) (by decide) rfl (show -2147483648 ≤ ((t : Nat) : Int) ∧ ((t : Nat) : Int) ≤ 2147483647 by omega) ?_
    show wr (d + 5) tb_M165 424 [(3, vi 9), (2, vi (s.1 205 b)), (0, .ref 170), (1, vi ((b : Int)))] [] (up2 s4.1 205 b (((t : Nat) : Int)), s4.2) _
    have hR12 : RF (up2 s4.1 205 b (((t : Nat) : Int))) := (RF_up hR3 rfl)
    obtain ⟨s13, hs13⟩ : ∃ qq9 : rS, qq9 = (up2 s4.1 205 b (((t : Nat) : Int)), s4.2) := ⟨_, rfl⟩
    rw [← hs13]
    have hU13 : U1 205 b s4.1 s13.1 := by rw [hs13]; exact U1_up
    have hDk13 : LD b s4.1 s13.1 := by rw [hs13]; exact LD_up LD_rf (by omega)
    have hc13 : s13.2 = s4.2 := by rw [hs13]
    have hp13 : s13.1 205 b = ((t : Nat) : Int) := by rw [hs13]; show up2 s4.1 205 b (((t : Nat) : Int)) 205 b = _; exact up_self
    have ht13 : s13.1 208 b = s4.1 208 b := hU13 208 b (by omega)
    have hD13 : LD b s.1 s13.1 := LD_tr hD3 hDk13
    have hR13 : RF s13.1 := LD_RF hb7 hD13 hR
    have hz13 : s13.2 = s.2 := hc13.trans hz3
    show wr (d + 5) tb_M165 424 [(3, vi 9), (2, vi (s.1 205 b)), (0, .ref 170), (1, vi ((b : Int)))] [] s13 _
    refine wr_end (fun _ _ => rfl) ?_
    exact ST_cur (own := own) (p2 := t) (h2 := bh (G b) (bn (G b))) hb7 hR hI hb hg hst (LD_LC hD13) (HD_at hM.2.2.2.2 (fun i => (hD13 1630 i (by omega) (by omega) (by omega)))) hz13 (hD13 170 52 (by omega) (by omega) (by omega)) (hD13 170 53 (by omega) (by omega) (by omega)) (hD13 206 b (by omega) (by omega) (by omega)) (hD13 209 b (by omega) (by omega) (by omega)) (fun i => (hD13 (921 + b) i (by omega) (by omega) (by omega))) hp13 (by omega) (by omega) c (by omega)
set_option maxHeartbeats 20000000 in
set_option maxRecDepth 100000 in
theorem w1_10 {d C b p na : Nat} {F : Ph} {G : Nat → gB} {own : Nat → Nat → Prop} {s : rS} (hC : C = 177 ∨ C = 186) (hR : RF s.1) (hM : MC C F na s.1) (hI : RI F s.1 G own) (hb7 : b < 700) (hb : (b : Int) < s.1 170 55) (hg : s.1 206 b = 1) (hst : s.1 170 52 = 2) (hsteps : 0 ≤ s.1 170 53 ∧ s.1 170 53 ≤ s.1 170 54 ∧ s.1 170 54 ≤ 20000) (hp5 : s.1 205 b = (p : Int)) (ht0 : s.1 208 b = (bb (G b) (bn (G b)) : Int) + bh (G b) (bn (G b)) ∧ 0 ≤ s.1 208 b ∧ s.1 208 b ≤ 1000) (hrm : bb (G b) (bn (G b)) + frm (bx (G b) (bn (G b))) ≤ 1000) (hk : s.1 (C + 1) p = 10) (hik : ik na (s.1 (C + 1)) F p (bh (G b) (bn (G b))) (bw (G b) (bn (G b))) (bx (G b) (bn (G b))) 10) : wr (d + 5) tb_M165 0 [(0, .ref 170), (1, vi ((b : Int)))] [] s (ON F G b s) := by
  obtain ⟨a, t, g, w2, w3, q1, g1, c1, c2, c, cj⟩ := hik
  refine wr_n (pc2 := 1) (lv2 := [(0, .ref 170), (1, vi ((b : Int)))]) (st2 := [.ref 170]) 1 (fun _ _ => rfl) ?_
  refine wr_get (v := .ref 205) rfl rfl rfl (by decide) (rv_ref (hR 170 40 205 rfl)) fun h1 => ?_
  show wr (d + 5) tb_M165 4 [(0, .ref 170), (1, vi ((b : Int)))] [.ref 205] s _
  refine wr_n (pc2 := 5) (lv2 := [(0, .ref 170), (1, vi ((b : Int)))]) (st2 := [vi ((b : Int)), .ref 205]) 1 (fun _ _ => rfl) ?_
  refine wr_ald (a := (b : Int)) (v := vi (s.1 205 b)) rfl rfl rfl (by omega) (by omega) (by decide) rfl fun h2 => ?_
  have h2 : -2147483648 ≤ s.1 205 b ∧ s.1 205 b ≤ 2147483647 := h2
  show wr (d + 5) tb_M165 6 [(0, .ref 170), (1, vi ((b : Int)))] [vi (s.1 205 b)] s _
  refine wr_n (pc2 := 9) (lv2 := [(2, vi (s.1 205 b)), (0, .ref 170), (1, vi ((b : Int)))]) (st2 := [vi ((b : Int)), .ref 170]) 3 (fun _ _ => rfl) ?_
  refine wr_call1 (args := [vi ((b : Int))]) (rest := []) rfl rfl rfl rfl (Nat.le_of_ble_eq_true rfl) (cr_mono (x_readb (d := d + 4) (p := p) hC _ hR hM.1 hb7 hp5 (by omega)) ?_)
  rintro s4 out ⟨rfl, hv3, hc3, hDk3, hp3, ht3⟩
  · refine ⟨_, rfl, ?_⟩
    show wr (d + 5) tb_M165 12 [(2, vi (s.1 205 b)), (0, .ref 170), (1, vi ((b : Int)))] [vi (s.1 (C + 1) (p))] s4 _
    have hcd3 : s.1 (C + 1) (p) = s.1 (C + 1) p := rfl
    rw [hcd3] at hv3
    unfold i32 at hv3
    rw [hk]
    have hD3 : LD b s.1 s4.1 := LD_tr LD_rf hDk3
    have hR3 : RF s4.1 := LD_RF hb7 hD3 hR
    have hz3 : s4.2 = s.2 := hc3.trans rfl
    show wr (d + 5) tb_M165 12 [(2, vi (s.1 205 b)), (0, .ref 170), (1, vi ((b : Int)))] [vi 10] s4 _
    refine wr_n (pc2 := 427) (lv2 := [(3, vi 10), (2, vi (s.1 205 b)), (0, .ref 170), (1, vi ((b : Int)))]) (st2 := [vi ((b : Int)), .ref 170]) 5 (fun _ _ => rfl) ?_
    refine wr_call1 (args := [vi ((b : Int))]) (rest := []) rfl rfl rfl rfl (Nat.le_of_ble_eq_true rfl) (cr_mono (x_readb (d := d + 4) (p := p + 1) hC _ hR3 ((hD3 170 17 (by omega) (by omega) (by omega)).trans hM.1) hb7 hp3 (by omega)) ?_)
    rintro s7 out ⟨rfl, hv6, hc6, hDk6, hp6, ht6⟩
    · refine ⟨_, rfl, ?_⟩
      show wr (d + 5) tb_M165 430 [(3, vi 10), (2, vi (s.1 205 b)), (0, .ref 170), (1, vi ((b : Int)))] [vi (s4.1 (C + 1) (p + 1))] s7 _
      have hcd6 : s4.1 (C + 1) (p + 1) = s.1 (C + 1) (p + 1) := hD3 (C + 1) _ (by omega) (by omega) (by omega)
      rw [hcd6] at hv6
      unfold i32 at hv6
      rw [hcd6]
      have hD6 : LD b s.1 s7.1 := LD_tr hD3 hDk6
      have hR6 : RF s7.1 := LD_RF hb7 hD6 hR
      have hz6 : s7.2 = s.2 := hc6.trans hz3
      show wr (d + 5) tb_M165 430 [(3, vi 10), (2, vi (s.1 205 b)), (0, .ref 170), (1, vi ((b : Int)))] [vi (s.1 (C + 1) (p + 1))] s7 _
      rw [q1]
      show wr (d + 5) tb_M165 430 [(3, vi 10), (2, vi (s.1 205 b)), (0, .ref 170), (1, vi ((b : Int)))] [vi (((t : Nat) : Int))] s7 _
      refine wr_n (pc2 := 434) (lv2 := [(4, vi (((t : Nat) : Int))), (3, vi 10), (2, vi (s.1 205 b)), (0, .ref 170), (1, vi ((b : Int)))]) (st2 := [vi ((b : Int)), .ref 170]) 3 (fun _ _ => rfl) ?_
      refine wr_call1 (args := [vi ((b : Int))]) (rest := []) rfl rfl rfl rfl (Nat.le_of_ble_eq_true rfl) (cr_mono (x_pop (d := d + 4) _ hR6 hb7 (by omega)) ?_)
      rintro s10 out ⟨v9, rfl, hv9, hc9, hDk9, hq9, ht9⟩
      · refine ⟨_, rfl, ?_⟩
        show wr (d + 5) tb_M165 437 [(4, vi (((t : Nat) : Int))), (3, vi 10), (2, vi (s.1 205 b)), (0, .ref 170), (1, vi ((b : Int)))] [vi v9] s10 _
        unfold i32 at hv9
        have hD9 : LD b s.1 s10.1 := LD_tr hD6 hDk9
        have hR9 : RF s10.1 := LD_RF hb7 hD9 hR
        have hz9 : s10.2 = s.2 := hc9.trans hz6
        by_cases h12 : v9 ≠ 0
        · refine wr_if1t rfl rfl (by unfold i32; omega) h12 ?_
          refine wr_end (fun _ _ => rfl) ?_
          exact ST_cur (own := own) (p2 := p + 2) (h2 := g) hb7 hR hI hb hg hst (LD_LC hD9) (HD_at hM.2.2.2.2 (fun i => (hD9 1630 i (by omega) (by omega) (by omega)))) hz9 (hD9 170 52 (by omega) (by omega) (by omega)) (hD9 170 53 (by omega) (by omega) (by omega)) (hD9 206 b (by omega) (by omega) (by omega)) (hD9 209 b (by omega) (by omega) (by omega)) (fun i => (hD9 (921 + b) i (by omega) (by omega) (by omega))) (hq9.trans hp6) (by omega) (by omega) c (by omega)
        · refine wr_if1f rfl rfl (by unfold i32; omega) h12 ?_
          refine wr_n (pc2 := 441) (lv2 := [(4, vi (((t : Nat) : Int))), (3, vi 10), (2, vi (s.1 205 b)), (0, .ref 170), (1, vi ((b : Int)))]) (st2 := [.ref 170]) 1 (fun _ _ => rfl) ?_
          refine wr_get (v := .ref 205) rfl rfl rfl (by decide) (rv_ref (hR9 170 40 205 rfl)) fun h13 => ?_
          show wr (d + 5) tb_M165 444 [(4, vi (((t : Nat) : Int))), (3, vi 10), (2, vi (s.1 205 b)), (0, .ref 170), (1, vi ((b : Int)))] [.ref 205] s10 _
          refine wr_n (pc2 := 447) (lv2 := [(4, vi (((t : Nat) : Int))), (3, vi 10), (2, vi (s.1 205 b)), (0, .ref 170), (1, vi ((b : Int)))]) (st2 := [vi (((t : Nat) : Int)), vi ((b : Int)), .ref 205]) 2 (fun _ _ => rfl) ?_
          refine wr_ast (a := (b : Int)) (z := ((t : Nat) : Int)) rfl (by decide) rfl rfl (by omega) (by omega) (by decide) rfl (show -2147483648 ≤ ((t : Nat) : Int) ∧ ((t : Nat) : Int) ≤ 2147483647 by omega) ?_
          show wr (d + 5) tb_M165 448 [(4, vi (((t : Nat) : Int))), (3, vi 10), (2, vi (s.1 205 b)), (0, .ref 170), (1, vi ((b : Int)))] [] (up2 s10.1 205 b (((t : Nat) : Int)), s10.2) _
          have hR14 : RF (up2 s10.1 205 b (((t : Nat) : Int))) := (RF_up hR9 rfl)
          obtain ⟨s15, hs15⟩ : ∃ qq9 : rS, qq9 = (up2 s10.1 205 b (((t : Nat) : Int)), s10.2) := ⟨_, rfl⟩
          rw [← hs15]
          have hU15 : U1 205 b s10.1 s15.1 := by rw [hs15]; exact U1_up
          have hDk15 : LD b s10.1 s15.1 := by rw [hs15]; exact LD_up LD_rf (by omega)
          have hc15 : s15.2 = s10.2 := by rw [hs15]
          have hp15 : s15.1 205 b = ((t : Nat) : Int) := by rw [hs15]; show up2 s10.1 205 b (((t : Nat) : Int)) 205 b = _; exact up_self
          have ht15 : s15.1 208 b = s10.1 208 b := hU15 208 b (by omega)
          have hD15 : LD b s.1 s15.1 := LD_tr hD9 hDk15
          have hR15 : RF s15.1 := LD_RF hb7 hD15 hR
          have hz15 : s15.2 = s.2 := hc15.trans hz9
          show wr (d + 5) tb_M165 448 [(4, vi (((t : Nat) : Int))), (3, vi 10), (2, vi (s.1 205 b)), (0, .ref 170), (1, vi ((b : Int)))] [] s15 _
          refine wr_end (fun _ _ => rfl) ?_
          exact ST_cur (own := own) (p2 := t) (h2 := g) hb7 hR hI hb hg hst (LD_LC hD15) (HD_at hM.2.2.2.2 (fun i => (hD15 1630 i (by omega) (by omega) (by omega)))) hz15 (hD15 170 52 (by omega) (by omega) (by omega)) (hD15 170 53 (by omega) (by omega) (by omega)) (hD15 206 b (by omega) (by omega) (by omega)) (hD15 209 b (by omega) (by omega) (by omega)) (fun i => (hD15 (921 + b) i (by omega) (by omega) (by omega))) hp15 (by omega) (by omega) cj (by omega)
set_option maxHeartbeats 20000000 in
set_option maxRecDepth 100000 in
theorem w1_17 {d C b p na : Nat} {F : Ph} {G : Nat → gB} {own : Nat → Nat → Prop} {s : rS} (hC : C = 177 ∨ C = 186) (hR : RF s.1) (hM : MC C F na s.1) (hI : RI F s.1 G own) (hb7 : b < 700) (hb : (b : Int) < s.1 170 55) (hg : s.1 206 b = 1) (hst : s.1 170 52 = 2) (hsteps : 0 ≤ s.1 170 53 ∧ s.1 170 53 ≤ s.1 170 54 ∧ s.1 170 54 ≤ 20000) (hp5 : s.1 205 b = (p : Int)) (ht0 : s.1 208 b = (bb (G b) (bn (G b)) : Int) + bh (G b) (bn (G b)) ∧ 0 ≤ s.1 208 b ∧ s.1 208 b ≤ 1000) (hrm : bb (G b) (bn (G b)) + frm (bx (G b) (bn (G b))) ≤ 1000) (hk : s.1 (C + 1) p = 17) (hik : ik na (s.1 (C + 1)) F p (bh (G b) (bn (G b))) (bw (G b) (bn (G b))) (bx (G b) (bn (G b))) 17) : wr (d + 5) tb_M165 0 [(0, .ref 170), (1, vi ((b : Int)))] [] s (ON F G b s) := by
  obtain ⟨a, ⟨q, q1, q2⟩, w2, c1, c⟩ := hik
  refine wr_n (pc2 := 1) (lv2 := [(0, .ref 170), (1, vi ((b : Int)))]) (st2 := [.ref 170]) 1 (fun _ _ => rfl) ?_
  refine wr_get (v := .ref 205) rfl rfl rfl (by decide) (rv_ref (hR 170 40 205 rfl)) fun h1 => ?_
  show wr (d + 5) tb_M165 4 [(0, .ref 170), (1, vi ((b : Int)))] [.ref 205] s _
  refine wr_n (pc2 := 5) (lv2 := [(0, .ref 170), (1, vi ((b : Int)))]) (st2 := [vi ((b : Int)), .ref 205]) 1 (fun _ _ => rfl) ?_
  refine wr_ald (a := (b : Int)) (v := vi (s.1 205 b)) rfl rfl rfl (by omega) (by omega) (by decide) rfl fun h2 => ?_
  have h2 : -2147483648 ≤ s.1 205 b ∧ s.1 205 b ≤ 2147483647 := h2
  show wr (d + 5) tb_M165 6 [(0, .ref 170), (1, vi ((b : Int)))] [vi (s.1 205 b)] s _
  refine wr_n (pc2 := 9) (lv2 := [(2, vi (s.1 205 b)), (0, .ref 170), (1, vi ((b : Int)))]) (st2 := [vi ((b : Int)), .ref 170]) 3 (fun _ _ => rfl) ?_
  refine wr_call1 (args := [vi ((b : Int))]) (rest := []) rfl rfl rfl rfl (Nat.le_of_ble_eq_true rfl) (cr_mono (x_readb (d := d + 4) (p := p) hC _ hR hM.1 hb7 hp5 (by omega)) ?_)
  rintro s4 out ⟨rfl, hv3, hc3, hDk3, hp3, ht3⟩
  · refine ⟨_, rfl, ?_⟩
    show wr (d + 5) tb_M165 12 [(2, vi (s.1 205 b)), (0, .ref 170), (1, vi ((b : Int)))] [vi (s.1 (C + 1) (p))] s4 _
    have hcd3 : s.1 (C + 1) (p) = s.1 (C + 1) p := rfl
    rw [hcd3] at hv3
    unfold i32 at hv3
    rw [hk]
    have hD3 : LD b s.1 s4.1 := LD_tr LD_rf hDk3
    have hR3 : RF s4.1 := LD_RF hb7 hD3 hR
    have hz3 : s4.2 = s.2 := hc3.trans rfl
    show wr (d + 5) tb_M165 12 [(2, vi (s.1 205 b)), (0, .ref 170), (1, vi ((b : Int)))] [vi 17] s4 _
    refine wr_n (pc2 := 526) (lv2 := [(3, vi 17), (2, vi (s.1 205 b)), (0, .ref 170), (1, vi ((b : Int)))]) (st2 := [vi ((b : Int)), .ref 170]) 5 (fun _ _ => rfl) ?_
    refine wr_call1 (args := [vi ((b : Int))]) (rest := []) rfl rfl rfl rfl (Nat.le_of_ble_eq_true rfl) (cr_mono (x_readb (d := d + 4) (p := p + 1) hC _ hR3 ((hD3 170 17 (by omega) (by omega) (by omega)).trans hM.1) hb7 hp3 (by omega)) ?_)
    rintro s7 out ⟨rfl, hv6, hc6, hDk6, hp6, ht6⟩
    · refine ⟨_, rfl, ?_⟩
      show wr (d + 5) tb_M165 529 [(3, vi 17), (2, vi (s.1 205 b)), (0, .ref 170), (1, vi ((b : Int)))] [vi (s4.1 (C + 1) (p + 1))] s7 _
      have hcd6 : s4.1 (C + 1) (p + 1) = s.1 (C + 1) (p + 1) := hD3 (C + 1) _ (by omega) (by omega) (by omega)
      rw [hcd6] at hv6
      unfold i32 at hv6
      rw [hcd6]
      have hD6 : LD b s.1 s7.1 := LD_tr hD3 hDk6
      have hR6 : RF s7.1 := LD_RF hb7 hD6 hR
      have hz6 : s7.2 = s.2 := hc6.trans hz3
      show wr (d + 5) tb_M165 529 [(3, vi 17), (2, vi (s.1 205 b)), (0, .ref 170), (1, vi ((b : Int)))] [vi (s.1 (C + 1) (p + 1))] s7 _
      rw [q1]
      show wr (d + 5) tb_M165 529 [(3, vi 17), (2, vi (s.1 205 b)), (0, .ref 170), (1, vi ((b : Int)))] [vi ((q : Int))] s7 _
      refine wr_n (pc2 := 532) (lv2 := [(4, vi ((q : Int))), (3, vi 17), (2, vi (s.1 205 b)), (0, .ref 170), (1, vi ((b : Int)))]) (st2 := [.ref 170]) 2 (fun _ _ => rfl) ?_
      refine wr_get (v := .ref 204) rfl rfl rfl (by decide) (rv_ref (hR6 170 39 204 rfl)) fun h9 => ?_
      show wr (d + 5) tb_M165 535 [(4, vi ((q : Int))), (3, vi 17), (2, vi (s.1 205 b)), (0, .ref 170), (1, vi ((b : Int)))] [.ref 204] s7 _
      refine wr_n (pc2 := 539) (lv2 := [(4, vi ((q : Int))), (3, vi 17), (2, vi (s.1 205 b)), (0, .ref 170), (1, vi ((b : Int)))]) (st2 := [vi ((b : Int)), .ref 170, vi ((q : Int)), .ref 204]) 3 (fun _ _ => rfl) ?_
      refine wr_call1 (args := [vi ((b : Int))]) (rest := [vi ((q : Int)), .ref 204]) rfl rfl rfl rfl (Nat.le_of_ble_eq_true rfl) (cr_mono (x_readb (d := d + 4) (p := p + 2) hC _ hR6 ((hD6 170 17 (by omega) (by omega) (by omega)).trans hM.1) hb7 hp6 (by omega)) ?_)
      rintro s11 out ⟨rfl, hv10, hc10, hDk10, hp10, ht10⟩
      · refine ⟨_, rfl, ?_⟩
        show wr (d + 5) tb_M165 542 [(4, vi ((q : Int))), (3, vi 17), (2, vi (s.1 205 b)), (0, .ref 170), (1, vi ((b : Int)))] [vi (s7.1 (C + 1) (p + 2)), vi ((q : Int)), .ref 204] s11 _
        have hcd10 : s7.1 (C + 1) (p + 2) = s.1 (C + 1) (p + 2) := hD6 (C + 1) _ (by omega) (by omega) (by omega)
        rw [hcd10] at hv10
        unfold i32 at hv10
        rw [hcd10]
        have hD10 : LD b s.1 s11.1 := LD_tr hD6 hDk10
        have hR10 : RF s11.1 := LD_RF hb7 hD10 hR
        have hz10 : s11.2 = s.2 := hc10.trans hz6
        show wr (d + 5) tb_M165 542 [(4, vi ((q : Int))), (3, vi 17), (2, vi (s.1 205 b)), (0, .ref 170), (1, vi ((b : Int)))] [vi (s.1 (C + 1) (p + 2)), vi ((q : Int)), .ref 204] s11 _
        refine wr_ast (a := (q : Int)) (z := s.1 (C + 1) (p + 2)) rfl (by decide) rfl rfl (by omega) (by omega) (by decide) rfl (show -2147483648 ≤ s.1 (C + 1) (p + 2) ∧ s.1 (C + 1) (p + 2) ≤ 2147483647 by omega) ?_
        show wr (d + 5) tb_M165 543 [(4, vi ((q : Int))), (3, vi 17), (2, vi (s.1 205 b)), (0, .ref 170), (1, vi ((b : Int)))] [] (up2 s11.1 204 q (s.1 (C + 1) (p + 2)), s11.2) _
        have hR13 : RF (up2 s11.1 204 q (s.1 (C + 1) (p + 2))) := (RF_up hR10 rfl)
        obtain ⟨s14, hs14⟩ : ∃ qq9 : rS, qq9 = (up2 s11.1 204 q (s.1 (C + 1) (p + 2)), s11.2) := ⟨_, rfl⟩
        rw [← hs14]
        have hU14 : U1 204 q s11.1 s14.1 := by rw [hs14]; exact U1_up
        have hDk14 : LD b s11.1 s14.1 := by rw [hs14]; exact LD_up LD_rf (by omega)
        have hc14 : s14.2 = s11.2 := by rw [hs14]
        have hp14 : s14.1 205 b = ((p + 3 : Nat) : Int) := (hU14 205 b (by omega)).trans hp10
        have ht14 : s14.1 208 b = s11.1 208 b := hU14 208 b (by omega)
        have hD14 : LD b s.1 s14.1 := LD_tr hD10 hDk14
        have hR14 : RF s14.1 := LD_RF hb7 hD14 hR
        have hz14 : s14.2 = s.2 := hc14.trans hz10
        show wr (d + 5) tb_M165 543 [(4, vi ((q : Int))), (3, vi 17), (2, vi (s.1 205 b)), (0, .ref 170), (1, vi ((b : Int)))] [] s14 _
        refine wr_end (fun _ _ => rfl) ?_
        exact ST_cur (own := own) (p2 := p + 3) (h2 := bh (G b) (bn (G b))) hb7 hR hI hb hg hst (LD_LC hD14) (HD_at hM.2.2.2.2 (fun i => (hD14 1630 i (by omega) (by omega) (by omega)))) hz14 (hD14 170 52 (by omega) (by omega) (by omega)) (hD14 170 53 (by omega) (by omega) (by omega)) (hD14 206 b (by omega) (by omega) (by omega)) (hD14 209 b (by omega) (by omega) (by omega)) (fun i => (hD14 (921 + b) i (by omega) (by omega) (by omega))) hp14 (by omega) (by omega) c (by omega)
set_option maxHeartbeats 20000000 in
set_option maxRecDepth 100000 in
theorem w1_18 {d C b p na : Nat} {F : Ph} {G : Nat → gB} {own : Nat → Nat → Prop} {s : rS} (hC : C = 177 ∨ C = 186) (hR : RF s.1) (hM : MC C F na s.1) (hI : RI F s.1 G own) (hb7 : b < 700) (hb : (b : Int) < s.1 170 55) (hg : s.1 206 b = 1) (hst : s.1 170 52 = 2) (hsteps : 0 ≤ s.1 170 53 ∧ s.1 170 53 ≤ s.1 170 54 ∧ s.1 170 54 ≤ 20000) (hp5 : s.1 205 b = (p : Int)) (ht0 : s.1 208 b = (bb (G b) (bn (G b)) : Int) + bh (G b) (bn (G b)) ∧ 0 ≤ s.1 208 b ∧ s.1 208 b ≤ 1000) (hrm : bb (G b) (bn (G b)) + frm (bx (G b) (bn (G b))) ≤ 1000) (hk : s.1 (C + 1) p = 18) (hik : ik na (s.1 (C + 1)) F p (bh (G b) (bn (G b))) (bw (G b) (bn (G b))) (bx (G b) (bn (G b))) 18) : wr (d + 5) tb_M165 0 [(0, .ref 170), (1, vi ((b : Int)))] [] s (ON F G b s) := by
  obtain ⟨a, ⟨q, q1, q2⟩, t, w2, w3, q3, c1, c2, c, cj⟩ := hik
  refine wr_n (pc2 := 1) (lv2 := [(0, .ref 170), (1, vi ((b : Int)))]) (st2 := [.ref 170]) 1 (fun _ _ => rfl) ?_
  refine wr_get (v := .ref 205) rfl rfl rfl (by decide) (rv_ref (hR 170 40 205 rfl)) fun h1 => ?_
  show wr (d + 5) tb_M165 4 [(0, .ref 170), (1, vi ((b : Int)))] [.ref 205] s _
  refine wr_n (pc2 := 5) (lv2 := [(0, .ref 170), (1, vi ((b : Int)))]) (st2 := [vi ((b : Int)), .ref 205]) 1 (fun _ _ => rfl) ?_
  refine wr_ald (a := (b : Int)) (v := vi (s.1 205 b)) rfl rfl rfl (by omega) (by omega) (by decide) rfl fun h2 => ?_
  have h2 : -2147483648 ≤ s.1 205 b ∧ s.1 205 b ≤ 2147483647 := h2
  show wr (d + 5) tb_M165 6 [(0, .ref 170), (1, vi ((b : Int)))] [vi (s.1 205 b)] s _
  refine wr_n (pc2 := 9) (lv2 := [(2, vi (s.1 205 b)), (0, .ref 170), (1, vi ((b : Int)))]) (st2 := [vi ((b : Int)), .ref 170]) 3 (fun _ _ => rfl) ?_
  refine wr_call1 (args := [vi ((b : Int))]) (rest := []) rfl rfl rfl rfl (Nat.le_of_ble_eq_true rfl) (cr_mono (x_readb (d := d + 4) (p := p) hC _ hR hM.1 hb7 hp5 (by omega)) ?_)
  rintro s4 out ⟨rfl, hv3, hc3, hDk3, hp3, ht3⟩
  · refine ⟨_, rfl, ?_⟩
    show wr (d + 5) tb_M165 12 [(2, vi (s.1 205 b)), (0, .ref 170), (1, vi ((b : Int)))] [vi (s.1 (C + 1) (p))] s4 _
    have hcd3 : s.1 (C + 1) (p) = s.1 (C + 1) p := rfl
    rw [hcd3] at hv3
    unfold i32 at hv3
    rw [hk]
    have hD3 : LD b s.1 s4.1 := LD_tr LD_rf hDk3
    have hR3 : RF s4.1 := LD_RF hb7 hD3 hR
    have hz3 : s4.2 = s.2 := hc3.trans rfl
    show wr (d + 5) tb_M165 12 [(2, vi (s.1 205 b)), (0, .ref 170), (1, vi ((b : Int)))] [vi 18] s4 _
    refine wr_n (pc2 := 546) (lv2 := [(3, vi 18), (2, vi (s.1 205 b)), (0, .ref 170), (1, vi ((b : Int)))]) (st2 := [vi ((b : Int)), .ref 170]) 5 (fun _ _ => rfl) ?_
    refine wr_call1 (args := [vi ((b : Int))]) (rest := []) rfl rfl rfl rfl (Nat.le_of_ble_eq_true rfl) (cr_mono (x_readb (d := d + 4) (p := p + 1) hC _ hR3 ((hD3 170 17 (by omega) (by omega) (by omega)).trans hM.1) hb7 hp3 (by omega)) ?_)
    rintro s7 out ⟨rfl, hv6, hc6, hDk6, hp6, ht6⟩
    · refine ⟨_, rfl, ?_⟩
      show wr (d + 5) tb_M165 549 [(3, vi 18), (2, vi (s.1 205 b)), (0, .ref 170), (1, vi ((b : Int)))] [vi (s4.1 (C + 1) (p + 1))] s7 _
      have hcd6 : s4.1 (C + 1) (p + 1) = s.1 (C + 1) (p + 1) := hD3 (C + 1) _ (by omega) (by omega) (by omega)
      rw [hcd6] at hv6
      unfold i32 at hv6
      rw [hcd6]
      have hD6 : LD b s.1 s7.1 := LD_tr hD3 hDk6
      have hR6 : RF s7.1 := LD_RF hb7 hD6 hR
      have hz6 : s7.2 = s.2 := hc6.trans hz3
      show wr (d + 5) tb_M165 549 [(3, vi 18), (2, vi (s.1 205 b)), (0, .ref 170), (1, vi ((b : Int)))] [vi (s.1 (C + 1) (p + 1))] s7 _
      rw [q1]
      show wr (d + 5) tb_M165 549 [(3, vi 18), (2, vi (s.1 205 b)), (0, .ref 170), (1, vi ((b : Int)))] [vi ((q : Int))] s7 _
      refine wr_n (pc2 := 553) (lv2 := [(4, vi ((q : Int))), (3, vi 18), (2, vi (s.1 205 b)), (0, .ref 170), (1, vi ((b : Int)))]) (st2 := [vi ((b : Int)), .ref 170]) 3 (fun _ _ => rfl) ?_
      refine wr_call1 (args := [vi ((b : Int))]) (rest := []) rfl rfl rfl rfl (Nat.le_of_ble_eq_true rfl) (cr_mono (x_readb (d := d + 4) (p := p + 2) hC _ hR6 ((hD6 170 17 (by omega) (by omega) (by omega)).trans hM.1) hb7 hp6 (by omega)) ?_)
      rintro s10 out ⟨rfl, hv9, hc9, hDk9, hp9, ht9⟩
      · refine ⟨_, rfl, ?_⟩
        show wr (d + 5) tb_M165 556 [(4, vi ((q : Int))), (3, vi 18), (2, vi (s.1 205 b)), (0, .ref 170), (1, vi ((b : Int)))] [vi (s7.1 (C + 1) (p + 2))] s10 _
        have hcd9 : s7.1 (C + 1) (p + 2) = s.1 (C + 1) (p + 2) := hD6 (C + 1) _ (by omega) (by omega) (by omega)
        rw [hcd9] at hv9
        unfold i32 at hv9
        rw [hcd9]
        have hD9 : LD b s.1 s10.1 := LD_tr hD6 hDk9
        have hR9 : RF s10.1 := LD_RF hb7 hD9 hR
        have hz9 : s10.2 = s.2 := hc9.trans hz6
        show wr (d + 5) tb_M165 556 [(4, vi ((q : Int))), (3, vi 18), (2, vi (s.1 205 b)), (0, .ref 170), (1, vi ((b : Int)))] [vi (s.1 (C + 1) (p + 2))] s10 _
        rw [q3]
        show wr (d + 5) tb_M165 556 [(4, vi ((q : Int))), (3, vi 18), (2, vi (s.1 205 b)), (0, .ref 170), (1, vi ((b : Int)))] [vi (((t : Nat) : Int))] s10 _
        refine wr_n (pc2 := 559) (lv2 := [(5, vi (((t : Nat) : Int))), (4, vi ((q : Int))), (3, vi 18), (2, vi (s.1 205 b)), (0, .ref 170), (1, vi ((b : Int)))]) (st2 := [.ref 170]) 2 (fun _ _ => rfl) ?_
        refine wr_get (v := .ref 204) rfl rfl rfl (by decide) (rv_ref (hR9 170 39 204 rfl)) fun h12 => ?_
        show wr (d + 5) tb_M165 562 [(5, vi (((t : Nat) : Int))), (4, vi ((q : Int))), (3, vi 18), (2, vi (s.1 205 b)), (0, .ref 170), (1, vi ((b : Int)))] [.ref 204] s10 _
        refine wr_n (pc2 := 565) (lv2 := [(5, vi (((t : Nat) : Int))), (4, vi ((q : Int))), (3, vi 18), (2, vi (s.1 205 b)), (0, .ref 170), (1, vi ((b : Int)))]) (st2 := [vi ((q : Int)), .ref 204, vi ((q : Int)), .ref 204]) 2 (fun _ _ => rfl) ?_
        refine wr_ald (a := (q : Int)) (v := vi (s10.1 204 q)) rfl rfl rfl (by omega) (by omega) (by decide) rfl fun h13 => ?_
        have h13 : -2147483648 ≤ s10.1 204 q ∧ s10.1 204 q ≤ 2147483647 := h13
        show wr (d + 5) tb_M165 566 [(5, vi (((t : Nat) : Int))), (4, vi ((q : Int))), (3, vi 18), (2, vi (s.1 205 b)), (0, .ref 170), (1, vi ((b : Int)))] [vi (s10.1 204 q), vi ((q : Int)), .ref 204] s10 _
        refine wr_n (pc2 := 567) (lv2 := [(5, vi (((t : Nat) : Int))), (4, vi ((q : Int))), (3, vi 18), (2, vi (s.1 205 b)), (0, .ref 170), (1, vi ((b : Int)))]) (st2 := [vi 1, vi (s10.1 204 q), vi ((q : Int)), .ref 204]) 1 (fun _ _ => rfl) ?_
        refine wr_any2 rfl rfl fun z14 h15 => ?_
        unfold i32 at h15
        show wr (d + 5) tb_M165 568 [(5, vi (((t : Nat) : Int))), (4, vi ((q : Int))), (3, vi 18), (2, vi (s.1 205 b)), (0, .ref 170), (1, vi ((b : Int)))] [vi z14, vi ((q : Int)), .ref 204] s10 _
        refine wr_ast (a := (q : Int)) (z := z14) rfl (by decide) rfl rfl (by omega) (by omega) (by decide) rfl (show -2147483648 ≤ z14 ∧ z14 ≤ 2147483647 by omega) ?_
        show wr (d + 5) tb_M165 569 [(5, vi (((t : Nat) : Int))), (4, vi ((q : Int))), (3, vi 18), (2, vi (s.1 205 b)), (0, .ref 170), (1, vi ((b : Int)))] [] (up2 s10.1 204 q z14, s10.2) _
        have hR16 : RF (up2 s10.1 204 q z14) := (RF_up hR9 rfl)
        obtain ⟨s17, hs17⟩ : ∃ qq9 : rS, qq9 = (up2 s10.1 204 q z14, s10.2) := ⟨_, rfl⟩
        rw [← hs17]
        have hU17 : U1 204 q s10.1 s17.1 := by rw [hs17]; exact U1_up
        have hDk17 : LD b s10.1 s17.1 := by rw [hs17]; exact LD_up LD_rf (by omega)
        have hc17 : s17.2 = s10.2 := by rw [hs17]
        have hp17 : s17.1 205 b = ((p + 3 : Nat) : Int) := (hU17 205 b (by omega)).trans hp9
        have ht17 : s17.1 208 b = s10.1 208 b := hU17 208 b (by omega)
        have hD17 : LD b s.1 s17.1 := LD_tr hD9 hDk17
        have hR17 : RF s17.1 := LD_RF hb7 hD17 hR
        have hz17 : s17.2 = s.2 := hc17.trans hz9
        show wr (d + 5) tb_M165 569 [(5, vi (((t : Nat) : Int))), (4, vi ((q : Int))), (3, vi 18), (2, vi (s.1 205 b)), (0, .ref 170), (1, vi ((b : Int)))] [] s17 _
        refine wr_n (pc2 := 570) (lv2 := [(5, vi (((t : Nat) : Int))), (4, vi ((q : Int))), (3, vi 18), (2, vi (s.1 205 b)), (0, .ref 170), (1, vi ((b : Int)))]) (st2 := [.ref 170]) 1 (fun _ _ => rfl) ?_
        refine wr_get (v := .ref 204) rfl rfl rfl (by decide) (rv_ref (hR17 170 39 204 rfl)) fun h18 => ?_
        show wr (d + 5) tb_M165 573 [(5, vi (((t : Nat) : Int))), (4, vi ((q : Int))), (3, vi 18), (2, vi (s.1 205 b)), (0, .ref 170), (1, vi ((b : Int)))] [.ref 204] s17 _
        refine wr_n (pc2 := 575) (lv2 := [(5, vi (((t : Nat) : Int))), (4, vi ((q : Int))), (3, vi 18), (2, vi (s.1 205 b)), (0, .ref 170), (1, vi ((b : Int)))]) (st2 := [vi ((q : Int)), .ref 204]) 1 (fun _ _ => rfl) ?_
        refine wr_ald (a := (q : Int)) (v := vi (s17.1 204 q)) rfl rfl rfl (by omega) (by omega) (by decide) rfl fun h19 => ?_
        have h19 : -2147483648 ≤ s17.1 204 q ∧ s17.1 204 q ≤ 2147483647 := h19
        show wr (d + 5) tb_M165 576 [(5, vi (((t : Nat) : Int))), (4, vi ((q : Int))), (3, vi 18), (2, vi (s.1 205 b)), (0, .ref 170), (1, vi ((b : Int)))] [vi (s17.1 204 q)] s17 _
        by_cases h20 : 0 ≤ s17.1 204 q
        · refine wr_if1t rfl rfl (by unfold i32; omega) h20 ?_
          refine wr_end (fun _ _ => rfl) ?_
          exact ST_cur (own := own) (p2 := p + 3) (h2 := bh (G b) (bn (G b))) hb7 hR hI hb hg hst (LD_LC hD17) (HD_at hM.2.2.2.2 (fun i => (hD17 1630 i (by omega) (by omega) (by omega)))) hz17 (hD17 170 52 (by omega) (by omega) (by omega)) (hD17 170 53 (by omega) (by omega) (by omega)) (hD17 206 b (by omega) (by omega) (by omega)) (hD17 209 b (by omega) (by omega) (by omega)) (fun i => (hD17 (921 + b) i (by omega) (by omega) (by omega))) hp17 (by omega) (by omega) c (by omega)
        · refine wr_if1f rfl rfl (by unfold i32; omega) h20 ?_
          refine wr_n (pc2 := 580) (lv2 := [(5, vi (((t : Nat) : Int))), (4, vi ((q : Int))), (3, vi 18), (2, vi (s.1 205 b)), (0, .ref 170), (1, vi ((b : Int)))]) (st2 := [.ref 170]) 1 (fun _ _ => rfl) ?_
          refine wr_get (v := .ref 205) rfl rfl rfl (by decide) (rv_ref (hR17 170 40 205 rfl)) fun h21 => ?_
          show wr (d + 5) tb_M165 583 [(5, vi (((t : Nat) : Int))), (4, vi ((q : Int))), (3, vi 18), (2, vi (s.1 205 b)), (0, .ref 170), (1, vi ((b : Int)))] [.ref 205] s17 _
          refine wr_n (pc2 := 586) (lv2 := [(5, vi (((t : Nat) : Int))), (4, vi ((q : Int))), (3, vi 18), (2, vi (s.1 205 b)), (0, .ref 170), (1, vi ((b : Int)))]) (st2 := [vi (((t : Nat) : Int)), vi ((b : Int)), .ref 205]) 2 (fun _ _ => rfl) ?_
          refine wr_ast (a := (b : Int)) (z := ((t : Nat) : Int)) rfl (by decide) rfl rfl (by omega) (by omega) (by decide) rfl (show -2147483648 ≤ ((t : Nat) : Int) ∧ ((t : Nat) : Int) ≤ 2147483647 by omega) ?_
          show wr (d + 5) tb_M165 587 [(5, vi (((t : Nat) : Int))), (4, vi ((q : Int))), (3, vi 18), (2, vi (s.1 205 b)), (0, .ref 170), (1, vi ((b : Int)))] [] (up2 s17.1 205 b (((t : Nat) : Int)), s17.2) _
          have hR22 : RF (up2 s17.1 205 b (((t : Nat) : Int))) := (RF_up hR17 rfl)
          obtain ⟨s23, hs23⟩ : ∃ qq9 : rS, qq9 = (up2 s17.1 205 b (((t : Nat) : Int)), s17.2) := ⟨_, rfl⟩
          rw [← hs23]
          have hU23 : U1 205 b s17.1 s23.1 := by rw [hs23]; exact U1_up
          have hDk23 : LD b s17.1 s23.1 := by rw [hs23]; exact LD_up LD_rf (by omega)
          have hc23 : s23.2 = s17.2 := by rw [hs23]
          have hp23 : s23.1 205 b = ((t : Nat) : Int) := by rw [hs23]; show up2 s17.1 205 b (((t : Nat) : Int)) 205 b = _; exact up_self
          have ht23 : s23.1 208 b = s17.1 208 b := hU23 208 b (by omega)
          have hD23 : LD b s.1 s23.1 := LD_tr hD17 hDk23
          have hR23 : RF s23.1 := LD_RF hb7 hD23 hR
          have hz23 : s23.2 = s.2 := hc23.trans hz17
          show wr (d + 5) tb_M165 587 [(5, vi (((t : Nat) : Int))), (4, vi ((q : Int))), (3, vi 18), (2, vi (s.1 205 b)), (0, .ref 170), (1, vi ((b : Int)))] [] s23 _
          refine wr_end (fun _ _ => rfl) ?_
          exact ST_cur (own := own) (p2 := t) (h2 := bh (G b) (bn (G b))) hb7 hR hI hb hg hst (LD_LC hD23) (HD_at hM.2.2.2.2 (fun i => (hD23 1630 i (by omega) (by omega) (by omega)))) hz23 (hD23 170 52 (by omega) (by omega) (by omega)) (hD23 170 53 (by omega) (by omega) (by omega)) (hD23 206 b (by omega) (by omega) (by omega)) (hD23 209 b (by omega) (by omega) (by omega)) (fun i => (hD23 (921 + b) i (by omega) (by omega) (by omega))) hp23 (by omega) (by omega) cj (by omega)
set_option maxHeartbeats 20000000 in
set_option maxRecDepth 100000 in
theorem w1_0 {d C b p na : Nat} {F : Ph} {G : Nat → gB} {own : Nat → Nat → Prop} {s : rS} (hC : C = 177 ∨ C = 186) (hR : RF s.1) (hM : MC C F na s.1) (hI : RI F s.1 G own) (hb7 : b < 700) (hb : (b : Int) < s.1 170 55) (hg : s.1 206 b = 1) (hst : s.1 170 52 = 2) (hsteps : 0 ≤ s.1 170 53 ∧ s.1 170 53 ≤ s.1 170 54 ∧ s.1 170 54 ≤ 20000) (hp5 : s.1 205 b = (p : Int)) (ht0 : s.1 208 b = (bb (G b) (bn (G b)) : Int) + bh (G b) (bn (G b)) ∧ 0 ≤ s.1 208 b ∧ s.1 208 b ≤ 1000) (hrm : bb (G b) (bn (G b)) + frm (bx (G b) (bn (G b))) ≤ 1000) (hk : s.1 (C + 1) p = 0) (hik : ik na (s.1 (C + 1)) F p (bh (G b) (bn (G b))) (bw (G b) (bn (G b))) (bx (G b) (bn (G b))) 0) : wr (d + 5) tb_M165 0 [(0, .ref 170), (1, vi ((b : Int)))] [] s (ON F G b s) := by
  obtain ⟨a, w2, c⟩ := hik
  refine wr_n (pc2 := 1) (lv2 := [(0, .ref 170), (1, vi ((b : Int)))]) (st2 := [.ref 170]) 1 (fun _ _ => rfl) ?_
  refine wr_get (v := .ref 205) rfl rfl rfl (by decide) (rv_ref (hR 170 40 205 rfl)) fun h1 => ?_
  show wr (d + 5) tb_M165 4 [(0, .ref 170), (1, vi ((b : Int)))] [.ref 205] s _
  refine wr_n (pc2 := 5) (lv2 := [(0, .ref 170), (1, vi ((b : Int)))]) (st2 := [vi ((b : Int)), .ref 205]) 1 (fun _ _ => rfl) ?_
  refine wr_ald (a := (b : Int)) (v := vi (s.1 205 b)) rfl rfl rfl (by omega) (by omega) (by decide) rfl fun h2 => ?_
  have h2 : -2147483648 ≤ s.1 205 b ∧ s.1 205 b ≤ 2147483647 := h2
  show wr (d + 5) tb_M165 6 [(0, .ref 170), (1, vi ((b : Int)))] [vi (s.1 205 b)] s _
  refine wr_n (pc2 := 9) (lv2 := [(2, vi (s.1 205 b)), (0, .ref 170), (1, vi ((b : Int)))]) (st2 := [vi ((b : Int)), .ref 170]) 3 (fun _ _ => rfl) ?_
  refine wr_call1 (args := [vi ((b : Int))]) (rest := []) rfl rfl rfl rfl (Nat.le_of_ble_eq_true rfl) (cr_mono (x_readb (d := d + 4) (p := p) hC _ hR hM.1 hb7 hp5 (by omega)) ?_)
  rintro s4 out ⟨rfl, hv3, hc3, hDk3, hp3, ht3⟩
  · refine ⟨_, rfl, ?_⟩
    show wr (d + 5) tb_M165 12 [(2, vi (s.1 205 b)), (0, .ref 170), (1, vi ((b : Int)))] [vi (s.1 (C + 1) (p))] s4 _
    have hcd3 : s.1 (C + 1) (p) = s.1 (C + 1) p := rfl
    rw [hcd3] at hv3
    unfold i32 at hv3
    rw [hk]
    have hD3 : LD b s.1 s4.1 := LD_tr LD_rf hDk3
    have hR3 : RF s4.1 := LD_RF hb7 hD3 hR
    have hz3 : s4.2 = s.2 := hc3.trans rfl
    show wr (d + 5) tb_M165 12 [(2, vi (s.1 205 b)), (0, .ref 170), (1, vi ((b : Int)))] [vi 0] s4 _
    refine wr_n (pc2 := 117) (lv2 := [(3, vi 0), (2, vi (s.1 205 b)), (0, .ref 170), (1, vi ((b : Int)))]) (st2 := [.ref 170]) 4 (fun _ _ => rfl) ?_
    refine wr_get (v := vi (s4.1 170 53)) rfl rfl rfl (by decide) rfl fun h6 => ?_
    have h6 : -2147483648 ≤ s4.1 170 53 ∧ s4.1 170 53 ≤ 2147483647 := h6
    show wr (d + 5) tb_M165 120 [(3, vi 0), (2, vi (s.1 205 b)), (0, .ref 170), (1, vi ((b : Int)))] [vi (s4.1 170 53)] s4 _
    refine wr_n (pc2 := 121) (lv2 := [(3, vi 0), (2, vi (s.1 205 b)), (0, .ref 170), (1, vi ((b : Int)))]) (st2 := [.ref 170, vi (s4.1 170 53)]) 1 (fun _ _ => rfl) ?_
    refine wr_get (v := vi (s4.1 170 54)) rfl rfl rfl (by decide) rfl fun h7 => ?_
    have h7 : -2147483648 ≤ s4.1 170 54 ∧ s4.1 170 54 ≤ 2147483647 := h7
    show wr (d + 5) tb_M165 124 [(3, vi 0), (2, vi (s.1 205 b)), (0, .ref 170), (1, vi ((b : Int)))] [vi (s4.1 170 54), vi (s4.1 170 53)] s4 _
    have hm54 : s4.1 170 54 = s.1 170 54 := hD3 170 54 (by omega) (by omega) (by omega)
    have hm53 : s4.1 170 53 = s.1 170 53 := hD3 170 53 (by omega) (by omega) (by omega)
    by_cases h8 : s4.1 170 53 ≠ s4.1 170 54
    · refine wr_if2t rfl rfl (by unfold i32; omega) (by unfold i32; omega) h8 ?_
      refine wr_n (pc2 := 137) (lv2 := [(3, vi 0), (2, vi (s.1 205 b)), (0, .ref 170), (1, vi ((b : Int)))]) (st2 := [.ref 170, .ref 170]) 2 (fun _ _ => rfl) ?_
      refine wr_get (v := vi (s4.1 170 53)) rfl rfl rfl (by decide) rfl fun h9 => ?_
      have h9 : -2147483648 ≤ s4.1 170 53 ∧ s4.1 170 53 ≤ 2147483647 := h9
      show wr (d + 5) tb_M165 140 [(3, vi 0), (2, vi (s.1 205 b)), (0, .ref 170), (1, vi ((b : Int)))] [vi (s4.1 170 53), .ref 170] s4 _
      refine wr_n (pc2 := 141) (lv2 := [(3, vi 0), (2, vi (s.1 205 b)), (0, .ref 170), (1, vi ((b : Int)))]) (st2 := [vi 1, vi (s4.1 170 53), .ref 170]) 1 (fun _ _ => rfl) ?_
      refine wr_add (a := s4.1 170 53) (b := 1) rfl ?_
      show wr (d + 5) tb_M165 142 [(3, vi 0), (2, vi (s.1 205 b)), (0, .ref 170), (1, vi ((b : Int)))] [vi (s4.1 170 53 + 1), .ref 170] s4 _
      refine wr_put (z := s4.1 170 53 + 1) rfl rfl rfl rfl (by decide) rfl (by decide) rfl (show -2147483648 ≤ s4.1 170 53 + 1 ∧ s4.1 170 53 + 1 ≤ 2147483647 by omega) (hf_int' _) ?_
      show wr (d + 5) tb_M165 145 [(3, vi 0), (2, vi (s.1 205 b)), (0, .ref 170), (1, vi ((b : Int)))] [] (up2 s4.1 170 53 (s4.1 170 53 + 1), s4.2) _
      have hR10 : RF (up2 s4.1 170 53 (s4.1 170 53 + 1)) := (RF_up hR3 rfl)
      refine wr_end (fun _ _ => rfl) ?_
      obtain ⟨sn, hsn⟩ : ∃ qq9 : rS, qq9 = (up2 s4.1 170 53 (s4.1 170 53 + 1), s4.2) := ⟨_, rfl⟩
      rw [← hsn]
      have hu : U1 170 53 s4.1 sn.1 := by rw [hsn]; exact U1_up
      have hv : sn.1 170 53 = s4.1 170 53 + 1 := by rw [hsn]; show up2 s4.1 170 53 (s4.1 170 53 + 1) 170 53 = _; exact up_self
      have hfr : ∀ k j, ¬ ((k = 205 ∨ k = 208) ∧ j = b) → ¬ (k = 220 + b) → ¬ (k = 203 ∨ k = 204 ∨ 213 ≤ k ∧ k ≤ 218) → ¬ (k = 170 ∧ j = 53) → sn.1 k j = s.1 k j := fun k j e1 e2 e3 e4 => (hu k j e4).trans (hD3 k j e1 e2 e3)
      have hz : sn.2 = s.2 := by rw [hsn]; exact hz3
      have h53 : s4.1 170 53 + 1 = s.1 170 53 + 1 := by rw [hD3 170 53 (by omega) (by omega) (by omega)]
      have h54 : s4.1 170 54 = s.1 170 54 := hD3 170 54 (by omega) (by omega) (by omega)
      have h53b : s4.1 170 53 = s.1 170 53 := hD3 170 53 (by omega) (by omega) (by omega)
      exact ST_part (own := own) (p2 := p + 1) (h2 := bh (G b) (bn (G b))) hb7 hR hI hb hg hst (fun k j e1 e2 e3 e4 e5 => hfr k j (by omega) e2 (by omega) (by omega)) (HD_at hM.2.2.2.2 (fun i => hfr 1630 i (by omega) (by omega) (by omega) (by omega))) hz (hfr 170 52 (by omega) (by omega) (by omega) (by omega)) (hv.trans h53) (by omega) (hfr 206 b (by omega) (by omega) (by omega) (by omega)) (hfr 209 b (by omega) (by omega) (by omega) (by omega)) (fun i => (hfr (921 + b) i (by omega) (by omega) (by omega) (by omega))) ((hu 205 b (by omega)).trans hp3) (by have h8 := hu 208 b (by omega); omega) (by omega) c
    · refine wr_if2f rfl rfl (by unfold i32; omega) (by unfold i32; omega) h8 ?_
      refine wr_n (pc2 := 129) (lv2 := [(3, vi 0), (2, vi (s.1 205 b)), (0, .ref 170), (1, vi ((b : Int)))]) (st2 := [vi 3, .ref 170]) 2 (fun _ _ => rfl) ?_
      refine wr_put (z := 3) rfl rfl rfl rfl (by decide) rfl (by decide) rfl (show -2147483648 ≤ 3 ∧ 3 ≤ 2147483647 by omega) (hf_int' _) ?_
      show wr (d + 5) tb_M165 132 [(3, vi 0), (2, vi (s.1 205 b)), (0, .ref 170), (1, vi ((b : Int)))] [] (up2 s4.1 170 52 3, s4.2) _
      have hR11 : RF (up2 s4.1 170 52 3) := (RF_up hR3 rfl)
      refine wr_n (pc2 := 145) (lv2 := [(3, vi 0), (2, vi (s.1 205 b)), (0, .ref 170), (1, vi ((b : Int)))]) (st2 := []) 1 (fun _ _ => rfl) ?_
      refine wr_end (fun _ _ => rfl) ?_
      obtain ⟨sn, hsn⟩ : ∃ qq9 : rS, qq9 = (up2 s4.1 170 52 3, s4.2) := ⟨_, rfl⟩
      rw [← hsn]
      have hu : U1 170 52 s4.1 sn.1 := by rw [hsn]; exact U1_up
      have hv : sn.1 170 52 = 3 := by rw [hsn]; show up2 s4.1 170 52 3 170 52 = _; exact up_self
      have hfr : ∀ k j, ¬ ((k = 205 ∨ k = 208) ∧ j = b) → ¬ (k = 220 + b) → ¬ (k = 203 ∨ k = 204 ∨ 213 ≤ k ∧ k ≤ 218) → ¬ (k = 170 ∧ j = 52) → sn.1 k j = s.1 k j := fun k j e1 e2 e3 e4 => (hu k j e4).trans (hD3 k j e1 e2 e3)
      have hz : sn.2 = s.2 := by rw [hsn]; exact hz3
      exact ST_fin hR (fun k j hn => hfr k j (fun q => hn (by unfold RS; omega)) (fun q => hn (by unfold RS; omega)) (fun q => hn (by unfold RS; omega)) (fun q => hn (by unfold RS; omega))) (HD_at hM.2.2.2.2 (fun i => hfr 1630 i (by omega) (by omega) (by omega) (by omega))) hz (.inl hv)
set_option maxHeartbeats 20000000 in
set_option maxRecDepth 100000 in
theorem w1_21 {d C b p na : Nat} {F : Ph} {G : Nat → gB} {own : Nat → Nat → Prop} {s : rS} (hC : C = 177 ∨ C = 186) (hR : RF s.1) (hM : MC C F na s.1) (hI : RI F s.1 G own) (hb7 : b < 700) (hb : (b : Int) < s.1 170 55) (hg : s.1 206 b = 1) (hst : s.1 170 52 = 2) (hsteps : 0 ≤ s.1 170 53 ∧ s.1 170 53 ≤ s.1 170 54 ∧ s.1 170 54 ≤ 20000) (hp5 : s.1 205 b = (p : Int)) (ht0 : s.1 208 b = (bb (G b) (bn (G b)) : Int) + bh (G b) (bn (G b)) ∧ 0 ≤ s.1 208 b ∧ s.1 208 b ≤ 1000) (hrm : bb (G b) (bn (G b)) + frm (bx (G b) (bn (G b))) ≤ 1000) (hk : s.1 (C + 1) p = 21) (hik : ik na (s.1 (C + 1)) F p (bh (G b) (bn (G b))) (bw (G b) (bn (G b))) (bx (G b) (bn (G b))) 21) : wr (d + 5) tb_M165 0 [(0, .ref 170), (1, vi ((b : Int)))] [] s (ON F G b s) := by
  obtain ⟨a, c⟩ := hik
  refine wr_n (pc2 := 1) (lv2 := [(0, .ref 170), (1, vi ((b : Int)))]) (st2 := [.ref 170]) 1 (fun _ _ => rfl) ?_
  refine wr_get (v := .ref 205) rfl rfl rfl (by decide) (rv_ref (hR 170 40 205 rfl)) fun h1 => ?_
  show wr (d + 5) tb_M165 4 [(0, .ref 170), (1, vi ((b : Int)))] [.ref 205] s _
  refine wr_n (pc2 := 5) (lv2 := [(0, .ref 170), (1, vi ((b : Int)))]) (st2 := [vi ((b : Int)), .ref 205]) 1 (fun _ _ => rfl) ?_
  refine wr_ald (a := (b : Int)) (v := vi (s.1 205 b)) rfl rfl rfl (by omega) (by omega) (by decide) rfl fun h2 => ?_
  have h2 : -2147483648 ≤ s.1 205 b ∧ s.1 205 b ≤ 2147483647 := h2
  show wr (d + 5) tb_M165 6 [(0, .ref 170), (1, vi ((b : Int)))] [vi (s.1 205 b)] s _
  refine wr_n (pc2 := 9) (lv2 := [(2, vi (s.1 205 b)), (0, .ref 170), (1, vi ((b : Int)))]) (st2 := [vi ((b : Int)), .ref 170]) 3 (fun _ _ => rfl) ?_
  refine wr_call1 (args := [vi ((b : Int))]) (rest := []) rfl rfl rfl rfl (Nat.le_of_ble_eq_true rfl) (cr_mono (x_readb (d := d + 4) (p := p) hC _ hR hM.1 hb7 hp5 (by omega)) ?_)
  rintro s4 out ⟨rfl, hv3, hc3, hDk3, hp3, ht3⟩
  · refine ⟨_, rfl, ?_⟩
    show wr (d + 5) tb_M165 12 [(2, vi (s.1 205 b)), (0, .ref 170), (1, vi ((b : Int)))] [vi (s.1 (C + 1) (p))] s4 _
    have hcd3 : s.1 (C + 1) (p) = s.1 (C + 1) p := rfl
    rw [hcd3] at hv3
    unfold i32 at hv3
    rw [hk]
    have hD3 : LD b s.1 s4.1 := LD_tr LD_rf hDk3
    have hR3 : RF s4.1 := LD_RF hb7 hD3 hR
    have hz3 : s4.2 = s.2 := hc3.trans rfl
    show wr (d + 5) tb_M165 12 [(2, vi (s.1 205 b)), (0, .ref 170), (1, vi ((b : Int)))] [vi 21] s4 _
    refine wr_n (pc2 := 640) (lv2 := [(3, vi 21), (2, vi (s.1 205 b)), (0, .ref 170), (1, vi ((b : Int)))]) (st2 := [.ref 170]) 4 (fun _ _ => rfl) ?_
    refine wr_get (v := .ref 206) rfl rfl rfl (by decide) (rv_ref (hR3 170 41 206 rfl)) fun h6 => ?_
    show wr (d + 5) tb_M165 643 [(3, vi 21), (2, vi (s.1 205 b)), (0, .ref 170), (1, vi ((b : Int)))] [.ref 206] s4 _
    refine wr_n (pc2 := 645) (lv2 := [(3, vi 21), (2, vi (s.1 205 b)), (0, .ref 170), (1, vi ((b : Int)))]) (st2 := [vi 0, vi ((b : Int)), .ref 206]) 2 (fun _ _ => rfl) ?_
    refine wr_ast (a := (b : Int)) (z := 0) rfl (by decide) rfl rfl (by omega) (by omega) (by decide) rfl (show -2147483648 ≤ 0 ∧ 0 ≤ 2147483647 by omega) ?_
    show wr (d + 5) tb_M165 646 [(3, vi 21), (2, vi (s.1 205 b)), (0, .ref 170), (1, vi ((b : Int)))] [] (up2 s4.1 206 b 0, s4.2) _
    have hR7 : RF (up2 s4.1 206 b 0) := (RF_up hR3 rfl)
    refine wr_n (pc2 := 648) (lv2 := [(3, vi 21), (2, vi (s.1 205 b)), (0, .ref 170), (1, vi ((b : Int)))]) (st2 := [vi 1, .ref 170]) 2 (fun _ _ => rfl) ?_
    refine wr_put (z := 1) rfl rfl rfl rfl (by decide) rfl (by decide) rfl (show -2147483648 ≤ 1 ∧ 1 ≤ 2147483647 by omega) (hf_int' _) ?_
    show wr (d + 5) tb_M165 651 [(3, vi 21), (2, vi (s.1 205 b)), (0, .ref 170), (1, vi ((b : Int)))] [] (up2 (up2 s4.1 206 b 0) 170 52 1, s4.2) _
    have hR8 : RF (up2 (up2 s4.1 206 b 0) 170 52 1) := (RF_up (RF_up hR3 rfl) rfl)
    refine wr_end (fun _ _ => rfl) ?_
    have hX : RX s.1 (up2 (up2 s4.1 206 b 0) 170 52 1) := (RX_up (RX_up (LD_RX hb7 hD3) (by unfold RS; omega)) (by unfold RS; omega))
    refine ST_fin (s2 := (up2 (up2 s4.1 206 b 0) 170 52 1, s4.2)) hR hX (HD_at hM.2.2.2.2 (fun i => ?_)) hz3 (.inr ?_)
    · show (up2 (up2 s4.1 206 b 0) 170 52 1) 1630 i = _
      rw [up_nk (by omega), up_nk (by omega)]; exact hD3 1630 i (by omega) (by omega) (by omega)
    · show (up2 (up2 s4.1 206 b 0) 170 52 1) 170 52 = 1
      rfl
