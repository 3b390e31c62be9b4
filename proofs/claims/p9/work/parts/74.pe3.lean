set_option maxRecDepth 100000 in
theorem p_call {n : Nat} (hX : CX n) : CC (n + 1) := by
  intro C y m s k i a deep inside hC hR hP hMB hm hN hd
  unfold NE at hN
  have hx0 := LX_nums hP
  have hgt := gt_of hP
  have hnr := nr_of hP
  have hd4 := hd.2.2.2.2.1
  unfold i32 at hd4
  have hi9 : i < 12 := by omega
  have hnm := (NM_of hP).2.1
  have hlt := LX_lt hP (by omega)
  have fin : ∀ (t : rS) (mt : Nat) (e6 e7 : Int), RF t.1 → PI C y t.1 → BX C (gn y) s.1 t.1 → CS s.1 t.1 → t.2 = s.2 → t.1 C 1 = (mt : Int) → (s.1 C 3 ≤ t.1 C 3 ∧ t.1 C 3 - s.1 C 3 ≤ t.1 C 1 - s.1 C 1 ∧ t.1 C 10 = s.1 C 10 ∧ t.1 170 14 = s.1 170 14 ∧ t.1 170 16 = s.1 170 16 ∧ t.1 170 21 = s.1 170 21) → (s.1 170 5 + 3 ≤ t.1 170 5 ∧ (mt : Int) + 21 ≤ m + 12 * (t.1 170 5 - s.1 170 5)) → EC C y m mt 0 0 s.1 t.1 → wr (n + 20) tb_M150 154 [(7, vi e7), (6, vi e6), (5, vi ((i : Int))), (0, .ref 170), (1, vi ((k : Int))), (2, vi a), (3, vi deep), (4, vi inside)] [] t (EP C y m (fk (gd y i) - 2) 0 s) := by
    intro t mt e6 e7 htR htP htB htC ht2 htm htn hnn htE
    have hx1 := LX_nums htP
    have hr1 := R1_call htP hd.2.1
    refine wr_n (pc2 := 158) (lv2 := [(7, vi e7), (6, vi e6), (5, vi ((i : Int))), (0, .ref 170), (1, vi ((k : Int))), (2, vi a), (3, vi deep), (4, vi inside)]) (st2 := [.ref 170, vi 11, .ref 170]) 3 (fun _ _ => rfl) ?_
    refine wr_get (v := .ref 200) rfl rfl rfl (by decide) (rv_ref (htR 170 32 200 rfl)) fun h1 => ?_
    show wr (n + 20) tb_M150 161 [(7, vi e7), (6, vi e6), (5, vi ((i : Int))), (0, .ref 170), (1, vi ((k : Int))), (2, vi a), (3, vi deep), (4, vi inside)] [.ref 200, vi 11, .ref 170] t _
    refine wr_n (pc2 := 163) (lv2 := [(7, vi e7), (6, vi e6), (5, vi ((i : Int))), (0, .ref 170), (1, vi ((k : Int))), (2, vi a), (3, vi deep), (4, vi inside)]) (st2 := [vi ((i : Int)), .ref 200, vi 11, .ref 170]) 1 (fun _ _ => rfl) ?_
    refine wr_ald (a := (i : Int)) (v := vi (t.1 200 i)) rfl rfl rfl (by omega) (by omega) (by decide) rfl fun h2 => ?_
    have h2 : -2147483648 ≤ t.1 200 i ∧ t.1 200 i ≤ 2147483647 := h2
    show wr (n + 20) tb_M150 164 [(7, vi e7), (6, vi e6), (5, vi ((i : Int))), (0, .ref 170), (1, vi ((k : Int))), (2, vi a), (3, vi deep), (4, vi inside)] [vi (t.1 200 i), vi 11, .ref 170] t _
    refine wr_call1 (args := [vi 11, vi (t.1 200 i)]) (rest := []) rfl rfl rfl rfl (Nat.le_of_ble_eq_true rfl) (cr_mono (x_put2 (d := n + 18) (m := mt) (op := 11) (v := t.1 200 i) hC _ htR htP (by unfold i32; omega) (by unfold i32; omega) htm (by omega)) ?_)
    rintro s4 out ⟨rfl, hc3, hR3, hBk3, hK3, hm3, hp3, hda3, hdb3⟩
    · refine ⟨_, rfl, ?_⟩
      show wr (n + 20) tb_M150 167 [(7, vi e7), (6, vi e6), (5, vi ((i : Int))), (0, .ref 170), (1, vi ((k : Int))), (2, vi a), (3, vi deep), (4, vi inside)] [] s4 _
      obtain ⟨hu3, hk3⟩ := id hK3
      have hP6 : PI C y s4.1 := PI_BX hC htP hBk3
      have hB6 : BX C (gn y) s.1 s4.1 := BX_tr hC htB hBk3
      have hQ6 : CS s.1 s4.1 := CS_tr htC (KC_CS hK3)
      have hz6 : s4.2 = s.2 := hc3.trans ht2
      have hx6 := LX_nums hP6
      refine wr_n (pc2 := 169) (lv2 := [(7, vi e7), (6, vi e6), (5, vi ((i : Int))), (0, .ref 170), (1, vi ((k : Int))), (2, vi a), (3, vi deep), (4, vi inside)]) (st2 := [.ref 170, .ref 170]) 2 (fun _ _ => rfl) ?_
      refine wr_get (v := vl (s4.1 170 22)) rfl rfl rfl (by decide) rfl fun h7 => ?_
      show wr (n + 20) tb_M150 172 [(7, vi e7), (6, vi e6), (5, vi ((i : Int))), (0, .ref 170), (1, vi ((k : Int))), (2, vi a), (3, vi deep), (4, vi inside)] [vl (s4.1 170 22), .ref 170] s4 _
      refine wr_n (pc2 := 173) (lv2 := [(7, vi e7), (6, vi e6), (5, vi ((i : Int))), (0, .ref 170), (1, vi ((k : Int))), (2, vi a), (3, vi deep), (4, vi inside)]) (st2 := [.ref 170, vl (s4.1 170 22), .ref 170]) 1 (fun _ _ => rfl) ?_
      refine wr_get (v := .ref 195) rfl rfl rfl (by decide) (rv_ref (hR3 170 27 195 rfl)) fun h8 => ?_
      show wr (n + 20) tb_M150 176 [(7, vi e7), (6, vi e6), (5, vi ((i : Int))), (0, .ref 170), (1, vi ((k : Int))), (2, vi a), (3, vi deep), (4, vi inside)] [.ref 195, vl (s4.1 170 22), .ref 170] s4 _
      refine wr_n (pc2 := 178) (lv2 := [(7, vi e7), (6, vi e6), (5, vi ((i : Int))), (0, .ref 170), (1, vi ((k : Int))), (2, vi a), (3, vi deep), (4, vi inside)]) (st2 := [vi ((i : Int)), .ref 195, vl (s4.1 170 22), .ref 170]) 1 (fun _ _ => rfl) ?_
      refine wr_ald (a := (i : Int)) (v := vl (s4.1 195 i)) rfl rfl rfl (by omega) (by omega) (by decide) rfl fun h9 => ?_
      show wr (n + 20) tb_M150 179 [(7, vi e7), (6, vi e6), (5, vi ((i : Int))), (0, .ref 170), (1, vi ((k : Int))), (2, vi a), (3, vi deep), (4, vi inside)] [vl (s4.1 195 i), vl (s4.1 170 22), .ref 170] s4 _
      refine wr_lor (a := s4.1 170 22) (b := s4.1 195 i) rfl fun z10 h11 h12 => ?_
      show wr (n + 20) tb_M150 180 [(7, vi e7), (6, vi e6), (5, vi ((i : Int))), (0, .ref 170), (1, vi ((k : Int))), (2, vi a), (3, vi deep), (4, vi inside)] [vl z10, .ref 170] s4 _
      refine wr_put (z := z10) rfl rfl rfl rfl (by decide) rfl (by decide) rfl h11 (fit_l _) ?_
      show wr (n + 20) tb_M150 183 [(7, vi e7), (6, vi e6), (5, vi ((i : Int))), (0, .ref 170), (1, vi ((k : Int))), (2, vi a), (3, vi deep), (4, vi inside)] [] (up2 s4.1 170 22 z10, s4.2) _
      have hR13 : RF (up2 s4.1 170 22 z10) := (RF_up hR3 rfl)
      refine wr_n (pc2 := 185) (lv2 := [(7, vi e7), (6, vi e6), (5, vi ((i : Int))), (0, .ref 170), (1, vi ((k : Int))), (2, vi a), (3, vi deep), (4, vi inside)]) (st2 := [.ref 170, .ref 170]) 2 (fun _ _ => rfl) ?_
      refine wr_get (v := vl (s4.1 170 23)) rfl rfl rfl (by decide) rfl fun h14 => ?_
      show wr (n + 20) tb_M150 188 [(7, vi e7), (6, vi e6), (5, vi ((i : Int))), (0, .ref 170), (1, vi ((k : Int))), (2, vi a), (3, vi deep), (4, vi inside)] [vl (s4.1 170 23), .ref 170] (up2 s4.1 170 22 z10, s4.2) _
      refine wr_n (pc2 := 189) (lv2 := [(7, vi e7), (6, vi e6), (5, vi ((i : Int))), (0, .ref 170), (1, vi ((k : Int))), (2, vi a), (3, vi deep), (4, vi inside)]) (st2 := [.ref 170, vl (s4.1 170 23), .ref 170]) 1 (fun _ _ => rfl) ?_
      refine wr_get (v := .ref 196) rfl rfl rfl (by decide) (rv_ref (hR13 170 28 196 rfl)) fun h15 => ?_
      show wr (n + 20) tb_M150 192 [(7, vi e7), (6, vi e6), (5, vi ((i : Int))), (0, .ref 170), (1, vi ((k : Int))), (2, vi a), (3, vi deep), (4, vi inside)] [.ref 196, vl (s4.1 170 23), .ref 170] (up2 s4.1 170 22 z10, s4.2) _
      refine wr_n (pc2 := 194) (lv2 := [(7, vi e7), (6, vi e6), (5, vi ((i : Int))), (0, .ref 170), (1, vi ((k : Int))), (2, vi a), (3, vi deep), (4, vi inside)]) (st2 := [vi ((i : Int)), .ref 196, vl (s4.1 170 23), .ref 170]) 1 (fun _ _ => rfl) ?_
      refine wr_ald (a := (i : Int)) (v := vl (s4.1 196 i)) rfl rfl rfl (by omega) (by omega) (by decide) rfl fun h16 => ?_
      show wr (n + 20) tb_M150 195 [(7, vi e7), (6, vi e6), (5, vi ((i : Int))), (0, .ref 170), (1, vi ((k : Int))), (2, vi a), (3, vi deep), (4, vi inside)] [vl (s4.1 196 i), vl (s4.1 170 23), .ref 170] (up2 s4.1 170 22 z10, s4.2) _
      refine wr_lor (a := s4.1 170 23) (b := s4.1 196 i) rfl fun z17 h18 h19 => ?_
      show wr (n + 20) tb_M150 196 [(7, vi e7), (6, vi e6), (5, vi ((i : Int))), (0, .ref 170), (1, vi ((k : Int))), (2, vi a), (3, vi deep), (4, vi inside)] [vl z17, .ref 170] (up2 s4.1 170 22 z10, s4.2) _
      refine wr_put (z := z17) rfl rfl rfl rfl (by decide) rfl (by decide) rfl h18 (fit_l _) ?_
      show wr (n + 20) tb_M150 199 [(7, vi e7), (6, vi e6), (5, vi ((i : Int))), (0, .ref 170), (1, vi ((k : Int))), (2, vi a), (3, vi deep), (4, vi inside)] [] (up2 (up2 s4.1 170 22 z10) 170 23 z17, s4.2) _
      have hR20 : RF (up2 (up2 s4.1 170 22 z10) 170 23 z17) := (RF_up (RF_up hR3 rfl) rfl)
      refine wr_n (pc2 := 201) (lv2 := [(7, vi e7), (6, vi e6), (5, vi ((i : Int))), (0, .ref 170), (1, vi ((k : Int))), (2, vi a), (3, vi deep), (4, vi inside)]) (st2 := [.ref 170, .ref 170]) 2 (fun _ _ => rfl) ?_
      refine wr_get (v := vl (s4.1 170 24)) rfl rfl rfl (by decide) rfl fun h21 => ?_
      show wr (n + 20) tb_M150 204 [(7, vi e7), (6, vi e6), (5, vi ((i : Int))), (0, .ref 170), (1, vi ((k : Int))), (2, vi a), (3, vi deep), (4, vi inside)] [vl (s4.1 170 24), .ref 170] (up2 (up2 s4.1 170 22 z10) 170 23 z17, s4.2) _
      refine wr_n (pc2 := 205) (lv2 := [(7, vi e7), (6, vi e6), (5, vi ((i : Int))), (0, .ref 170), (1, vi ((k : Int))), (2, vi a), (3, vi deep), (4, vi inside)]) (st2 := [.ref 170, vl (s4.1 170 24), .ref 170]) 1 (fun _ _ => rfl) ?_
      refine wr_get (v := .ref 197) rfl rfl rfl (by decide) (rv_ref (hR20 170 29 197 rfl)) fun h22 => ?_
      show wr (n + 20) tb_M150 208 [(7, vi e7), (6, vi e6), (5, vi ((i : Int))), (0, .ref 170), (1, vi ((k : Int))), (2, vi a), (3, vi deep), (4, vi inside)] [.ref 197, vl (s4.1 170 24), .ref 170] (up2 (up2 s4.1 170 22 z10) 170 23 z17, s4.2) _
      refine wr_n (pc2 := 210) (lv2 := [(7, vi e7), (6, vi e6), (5, vi ((i : Int))), (0, .ref 170), (1, vi ((k : Int))), (2, vi a), (3, vi deep), (4, vi inside)]) (st2 := [vi ((i : Int)), .ref 197, vl (s4.1 170 24), .ref 170]) 1 (fun _ _ => rfl) ?_
      refine wr_ald (a := (i : Int)) (v := vl (s4.1 197 i)) rfl rfl rfl (by omega) (by omega) (by decide) rfl fun h23 => ?_
      show wr (n + 20) tb_M150 211 [(7, vi e7), (6, vi e6), (5, vi ((i : Int))), (0, .ref 170), (1, vi ((k : Int))), (2, vi a), (3, vi deep), (4, vi inside)] [vl (s4.1 197 i), vl (s4.1 170 24), .ref 170] (up2 (up2 s4.1 170 22 z10) 170 23 z17, s4.2) _
      refine wr_lor (a := s4.1 170 24) (b := s4.1 197 i) rfl fun z24 h25 h26 => ?_
      show wr (n + 20) tb_M150 212 [(7, vi e7), (6, vi e6), (5, vi ((i : Int))), (0, .ref 170), (1, vi ((k : Int))), (2, vi a), (3, vi deep), (4, vi inside)] [vl z24, .ref 170] (up2 (up2 s4.1 170 22 z10) 170 23 z17, s4.2) _
      refine wr_put (z := z24) rfl rfl rfl rfl (by decide) rfl (by decide) rfl h25 (fit_l _) ?_
      show wr (n + 20) tb_M150 215 [(7, vi e7), (6, vi e6), (5, vi ((i : Int))), (0, .ref 170), (1, vi ((k : Int))), (2, vi a), (3, vi deep), (4, vi inside)] [] (up2 (up2 (up2 s4.1 170 22 z10) 170 23 z17) 170 24 z24, s4.2) _
      have hR27 : RF (up2 (up2 (up2 s4.1 170 22 z10) 170 23 z17) 170 24 z24) := (RF_up (RF_up (RF_up hR3 rfl) rfl) rfl)
      refine wr_n (pc2 := 217) (lv2 := [(7, vi e7), (6, vi e6), (5, vi ((i : Int))), (0, .ref 170), (1, vi ((k : Int))), (2, vi a), (3, vi deep), (4, vi inside)]) (st2 := [.ref 170, .ref 170]) 2 (fun _ _ => rfl) ?_
      refine wr_get (v := vl (s4.1 170 25)) rfl rfl rfl (by decide) rfl fun h28 => ?_
      show wr (n + 20) tb_M150 220 [(7, vi e7), (6, vi e6), (5, vi ((i : Int))), (0, .ref 170), (1, vi ((k : Int))), (2, vi a), (3, vi deep), (4, vi inside)] [vl (s4.1 170 25), .ref 170] (up2 (up2 (up2 s4.1 170 22 z10) 170 23 z17) 170 24 z24, s4.2) _
      refine wr_n (pc2 := 221) (lv2 := [(7, vi e7), (6, vi e6), (5, vi ((i : Int))), (0, .ref 170), (1, vi ((k : Int))), (2, vi a), (3, vi deep), (4, vi inside)]) (st2 := [.ref 170, vl (s4.1 170 25), .ref 170]) 1 (fun _ _ => rfl) ?_
      refine wr_get (v := .ref 198) rfl rfl rfl (by decide) (rv_ref (hR27 170 30 198 rfl)) fun h29 => ?_
      show wr (n + 20) tb_M150 224 [(7, vi e7), (6, vi e6), (5, vi ((i : Int))), (0, .ref 170), (1, vi ((k : Int))), (2, vi a), (3, vi deep), (4, vi inside)] [.ref 198, vl (s4.1 170 25), .ref 170] (up2 (up2 (up2 s4.1 170 22 z10) 170 23 z17) 170 24 z24, s4.2) _
      refine wr_n (pc2 := 226) (lv2 := [(7, vi e7), (6, vi e6), (5, vi ((i : Int))), (0, .ref 170), (1, vi ((k : Int))), (2, vi a), (3, vi deep), (4, vi inside)]) (st2 := [vi ((i : Int)), .ref 198, vl (s4.1 170 25), .ref 170]) 1 (fun _ _ => rfl) ?_
      refine wr_ald (a := (i : Int)) (v := vl (s4.1 198 i)) rfl rfl rfl (by omega) (by omega) (by decide) rfl fun h30 => ?_
      show wr (n + 20) tb_M150 227 [(7, vi e7), (6, vi e6), (5, vi ((i : Int))), (0, .ref 170), (1, vi ((k : Int))), (2, vi a), (3, vi deep), (4, vi inside)] [vl (s4.1 198 i), vl (s4.1 170 25), .ref 170] (up2 (up2 (up2 s4.1 170 22 z10) 170 23 z17) 170 24 z24, s4.2) _
      refine wr_lor (a := s4.1 170 25) (b := s4.1 198 i) rfl fun z31 h32 h33 => ?_
      show wr (n + 20) tb_M150 228 [(7, vi e7), (6, vi e6), (5, vi ((i : Int))), (0, .ref 170), (1, vi ((k : Int))), (2, vi a), (3, vi deep), (4, vi inside)] [vl z31, .ref 170] (up2 (up2 (up2 s4.1 170 22 z10) 170 23 z17) 170 24 z24, s4.2) _
      refine wr_put (z := z31) rfl rfl rfl rfl (by decide) rfl (by decide) rfl h32 (fit_l _) ?_
      show wr (n + 20) tb_M150 231 [(7, vi e7), (6, vi e6), (5, vi ((i : Int))), (0, .ref 170), (1, vi ((k : Int))), (2, vi a), (3, vi deep), (4, vi inside)] [] (up2 (up2 (up2 (up2 s4.1 170 22 z10) 170 23 z17) 170 24 z24) 170 25 z31, s4.2) _
      have hR34 : RF (up2 (up2 (up2 (up2 s4.1 170 22 z10) 170 23 z17) 170 24 z24) 170 25 z31) := (RF_up (RF_up (RF_up (RF_up hR3 rfl) rfl) rfl) rfl)
      refine wr_n (pc2 := 233) (lv2 := [(7, vi e7), (6, vi e6), (5, vi ((i : Int))), (0, .ref 170), (1, vi ((k : Int))), (2, vi a), (3, vi deep), (4, vi inside)]) (st2 := [.ref 170, .ref 170]) 2 (fun _ _ => rfl) ?_
      refine wr_get (v := vl (s4.1 170 26)) rfl rfl rfl (by decide) rfl fun h35 => ?_
      show wr (n + 20) tb_M150 236 [(7, vi e7), (6, vi e6), (5, vi ((i : Int))), (0, .ref 170), (1, vi ((k : Int))), (2, vi a), (3, vi deep), (4, vi inside)] [vl (s4.1 170 26), .ref 170] (up2 (up2 (up2 (up2 s4.1 170 22 z10) 170 23 z17) 170 24 z24) 170 25 z31, s4.2) _
      refine wr_n (pc2 := 237) (lv2 := [(7, vi e7), (6, vi e6), (5, vi ((i : Int))), (0, .ref 170), (1, vi ((k : Int))), (2, vi a), (3, vi deep), (4, vi inside)]) (st2 := [.ref 170, vl (s4.1 170 26), .ref 170]) 1 (fun _ _ => rfl) ?_
      refine wr_get (v := .ref 199) rfl rfl rfl (by decide) (rv_ref (hR34 170 31 199 rfl)) fun h36 => ?_
      show wr (n + 20) tb_M150 240 [(7, vi e7), (6, vi e6), (5, vi ((i : Int))), (0, .ref 170), (1, vi ((k : Int))), (2, vi a), (3, vi deep), (4, vi inside)] [.ref 199, vl (s4.1 170 26), .ref 170] (up2 (up2 (up2 (up2 s4.1 170 22 z10) 170 23 z17) 170 24 z24) 170 25 z31, s4.2) _
      refine wr_n (pc2 := 242) (lv2 := [(7, vi e7), (6, vi e6), (5, vi ((i : Int))), (0, .ref 170), (1, vi ((k : Int))), (2, vi a), (3, vi deep), (4, vi inside)]) (st2 := [vi ((i : Int)), .ref 199, vl (s4.1 170 26), .ref 170]) 1 (fun _ _ => rfl) ?_
      refine wr_ald (a := (i : Int)) (v := vl (s4.1 199 i)) rfl rfl rfl (by omega) (by omega) (by decide) rfl fun h37 => ?_
      show wr (n + 20) tb_M150 243 [(7, vi e7), (6, vi e6), (5, vi ((i : Int))), (0, .ref 170), (1, vi ((k : Int))), (2, vi a), (3, vi deep), (4, vi inside)] [vl (s4.1 199 i), vl (s4.1 170 26), .ref 170] (up2 (up2 (up2 (up2 s4.1 170 22 z10) 170 23 z17) 170 24 z24) 170 25 z31, s4.2) _
      refine wr_lor (a := s4.1 170 26) (b := s4.1 199 i) rfl fun z38 h39 h40 => ?_
      show wr (n + 20) tb_M150 244 [(7, vi e7), (6, vi e6), (5, vi ((i : Int))), (0, .ref 170), (1, vi ((k : Int))), (2, vi a), (3, vi deep), (4, vi inside)] [vl z38, .ref 170] (up2 (up2 (up2 (up2 s4.1 170 22 z10) 170 23 z17) 170 24 z24) 170 25 z31, s4.2) _
      refine wr_put (z := z38) rfl rfl rfl rfl (by decide) rfl (by decide) rfl h39 (fit_l _) ?_
      show wr (n + 20) tb_M150 247 [(7, vi e7), (6, vi e6), (5, vi ((i : Int))), (0, .ref 170), (1, vi ((k : Int))), (2, vi a), (3, vi deep), (4, vi inside)] [] (up2 (up2 (up2 (up2 (up2 s4.1 170 22 z10) 170 23 z17) 170 24 z24) 170 25 z31) 170 26 z38, s4.2) _
      have hR41 : RF (up2 (up2 (up2 (up2 (up2 s4.1 170 22 z10) 170 23 z17) 170 24 z24) 170 25 z31) 170 26 z38) := (RF_up (RF_up (RF_up (RF_up (RF_up hR3 rfl) rfl) rfl) rfl) rfl)
      have hor := MB_or (BX_mb hB6 hMB) (R1_mask hP6 hd.2.1).1 hnr h40
      obtain ⟨s42, hs42⟩ : ∃ qq9 : rS, qq9 = (up2 (up2 (up2 (up2 (up2 s4.1 170 22 z10) 170 23 z17) 170 24 z24) 170 25 z31) 170 26 z38, s4.2) := ⟨_, rfl⟩
      rw [← hs42]
      have hK42 : KM s4.1 s42.1 := by rw [hs42]; exact (KM_up (KM_up (KM_up (KM_up (KM_up KM_rf (by omega)) (by omega)) (by omega)) (by omega)) (by omega))
      have hk42 := KM_nums hC hK42
      have hM42 : True ∧ (MB (gn y) (s4.1 170 26) → MB (gn y) (s42.1 170 26)) := by rw [hs42]; exact ⟨trivial, fun _ => hor.1⟩
      have hBk42 : BX C (gn y) s4.1 s42.1 := BX_KM hC hP6 hK42 hM42
      have hS42 : CS s4.1 s42.1 := by rw [hs42]; exact hor.2.1
      have hR42 : RF s42.1 := BX_RF hC hBk42 hR3
      have hc42 : s42.2 = s4.2 := by rw [hs42]
      have hm42 : s42.1 C 1 = ((mt + 2 : Nat) : Int) := by omega
      have hP43 : PI C y s42.1 := PI_BX hC hP6 hBk42
      have hB43 : BX C (gn y) s.1 s42.1 := BX_tr hC hB6 hBk42
      have hQ43 : CS s.1 s42.1 := CS_tr hQ6 hS42
      have hz43 : s42.2 = s.2 := hc42.trans hz6
      have hx43 := LX_nums hP43
      show wr (n + 20) tb_M150 247 [(7, vi e7), (6, vi e6), (5, vi ((i : Int))), (0, .ref 170), (1, vi ((k : Int))), (2, vi a), (3, vi deep), (4, vi inside)] [] s42 _
      have hzz : ∀ x, fz (gd y i) x → ZM (gk y) (s42.1 170 26).toNat x := by rw [hs42]; exact fun x hx => ZM_bits hor.2.2 x ((R1_mask hP6 hd.2.1).2 x hx)
      refine wr_n (pc2 := 249) (lv2 := [(7, vi e7), (6, vi e6), (5, vi ((i : Int))), (0, .ref 170), (1, vi ((k : Int))), (2, vi a), (3, vi deep), (4, vi inside)]) (st2 := [vi inside]) 1 (fun _ _ => rfl) ?_
      by_cases h44 : inside ≠ 0
      · refine wr_if1t rfl rfl (by unfold i32; omega) h44 ?_
        refine wr_n (pc2 := 266) (lv2 := [(7, vi e7), (6, vi e6), (5, vi ((i : Int))), (0, .ref 170), (1, vi ((k : Int))), (2, vi a), (3, vi deep), (4, vi inside)]) (st2 := [vi 1]) 2 (fun _ _ => rfl) ?_
        refine wr_end (fun _ _ => rfl) ?_
        refine ⟨1, rfl, hz43, Or.inr ⟨rfl, hR42, hB43, hQ43, by unfold NXE; omega, by omega, mt + 2, hm42, ?_⟩⟩
        intro h0 hh0
        exact (SG_seq (by omega) (by omega) (SG_mono (by omega) (ZM_CS (CS_tr (KC_CS hK3) hS42)) (SG_agr (fun p _ hp => BX_code hC (BX_tr hC hBk3 hBk42) (by omega)) (htE h0 hh0))) (SH_call (t := ge y i) (wt := gw y i) (y := gd y i) ((BX_code hC hBk42 (by omega)).trans hda3) (((BX_code hC hBk42 (by omega)).trans hdb3).trans hr1.2.2.2) ⟨i, hd.2.1, rfl, rfl, rfl, rfl⟩ hr1.1 hr1.2.1 (by omega) (fun x hx => ZM_CS (CS_rf (r := s42.1)) x (hzz x hx)) (by omega)))
      · refine wr_if1f rfl rfl (by unfold i32; omega) h44 ?_
        refine wr_n (pc2 := 255) (lv2 := [(7, vi e7), (6, vi e6), (5, vi ((i : Int))), (0, .ref 170), (1, vi ((k : Int))), (2, vi a), (3, vi deep), (4, vi inside)]) (st2 := [.ref 30, .ref 170]) 2 (fun _ _ => rfl) ?_
        refine wr_call1 (args := [.ref 30]) (rest := []) rfl rfl rfl rfl (Nat.le_of_ble_eq_true rfl) (cr_mono (x_take (d := n + 13) isT_30 hC _ hR42 hP43) ?_)
        rintro s46 out ⟨b, rfl, hc45, ⟨rfl, hF45⟩ | ⟨rfl, hR45, hBk45, hK45, hf45⟩⟩
        · refine ⟨_, rfl, ?_⟩
          show wr (n + 20) tb_M150 258 [(7, vi e7), (6, vi e6), (5, vi ((i : Int))), (0, .ref 170), (1, vi ((k : Int))), (2, vi a), (3, vi deep), (4, vi inside)] [vi 0] s46 _
          refine wr_n (pc2 := 266) (lv2 := [(7, vi e7), (6, vi e6), (5, vi ((i : Int))), (0, .ref 170), (1, vi ((k : Int))), (2, vi a), (3, vi deep), (4, vi inside)]) (st2 := [vi 0]) 2 (fun _ _ => rfl) ?_
          refine wr_end (fun _ _ => rfl) ?_
          exact ⟨0, rfl, hc45.trans hz43, Or.inl ⟨rfl, FR_tr (BX_FR hB43) hF45⟩⟩
        · refine ⟨_, rfl, ?_⟩
          show wr (n + 20) tb_M150 258 [(7, vi e7), (6, vi e6), (5, vi ((i : Int))), (0, .ref 170), (1, vi ((k : Int))), (2, vi a), (3, vi deep), (4, vi inside)] [vi 1] s46 _
          obtain ⟨hu45, hk45⟩ := id hK45
          replace hf45 : s42.1 170 5 + 1 ≤ s46.1 170 5 := hf45
          have hm45 : s46.1 C 1 = ((mt + 2 : Nat) : Int) := by omega
          have hP49 : PI C y s46.1 := PI_BX hC hP43 hBk45
          have hB49 : BX C (gn y) s.1 s46.1 := BX_tr hC hB43 hBk45
          have hQ49 : CS s.1 s46.1 := CS_tr hQ43 (KL_CS hK45)
          have hz49 : s46.2 = s.2 := hc45.trans hz43
          have hx49 := LX_nums hP49
          refine wr_n (pc2 := 266) (lv2 := [(7, vi e7), (6, vi e6), (5, vi ((i : Int))), (0, .ref 170), (1, vi ((k : Int))), (2, vi a), (3, vi deep), (4, vi inside)]) (st2 := [vi 1]) 3 (fun _ _ => rfl) ?_
          refine wr_end (fun _ _ => rfl) ?_
          refine ⟨1, rfl, hz49, Or.inr ⟨rfl, hR45, hB49, hQ49, by unfold NXE; omega, by omega, mt + 2, hm45, ?_⟩⟩
          intro h0 hh0
          exact (SG_seq (by omega) (by omega) (SG_mono (by omega) (ZM_CS (CS_tr (CS_tr (KC_CS hK3) hS42) (KL_CS hK45))) (SG_agr (fun p _ hp => BX_code hC (BX_tr hC (BX_tr hC hBk3 hBk42) hBk45) (by omega)) (htE h0 hh0))) (SH_call (t := ge y i) (wt := gw y i) (y := gd y i) ((BX_code hC (BX_tr hC hBk42 hBk45) (by omega)).trans hda3) (((BX_code hC (BX_tr hC hBk42 hBk45) (by omega)).trans hdb3).trans hr1.2.2.2) ⟨i, hd.2.1, rfl, rfl, rfl, rfl⟩ hr1.1 hr1.2.1 (by omega) (fun x hx => ZM_CS (KL_CS hK45) x (hzz x hx)) (by omega)))
  have lpB : ∀ (q : Nat) (t : rS) (mt : Nat) (e6 : Int), RF t.1 → PI C y t.1 → BX C (gn y) s.1 t.1 → CS s.1 t.1 → t.2 = s.2 → t.1 C 1 = (mt : Int) → (s.1 C 3 ≤ t.1 C 3 ∧ t.1 C 3 - s.1 C 3 ≤ t.1 C 1 - s.1 C 1 ∧ t.1 C 10 = s.1 C 10 ∧ t.1 170 14 = s.1 170 14 ∧ t.1 170 16 = s.1 170 16 ∧ t.1 170 21 = s.1 170 21) → (s.1 170 5 + 3 ≤ t.1 170 5 ∧ (mt : Int) + 2 * q + 21 ≤ m + 12 * (t.1 170 5 - s.1 170 5)) → (q : Int) ≤ t.1 201 i → EC C y m mt q 0 s.1 t.1 → wr (n + 20) tb_M150 128 [(7, vi (((q : Nat) : Int) - 1)), (6, vi e6), (5, vi ((i : Int))), (0, .ref 170), (1, vi ((k : Int))), (2, vi a), (3, vi deep), (4, vi inside)] [] t (EP C y m (fk (gd y i) - 2) 0 s) := by
    intro q
    induction q using Nat.strongRecOn with | ind q ih => ?_
    intro t mt e6 htR htP htB htC ht2 htm htn hnn hq1 htE
    have hx1 := LX_nums htP
    refine wr_n (pc2 := 130) (lv2 := [(7, vi (((q : Nat) : Int) - 1)), (6, vi e6), (5, vi ((i : Int))), (0, .ref 170), (1, vi ((k : Int))), (2, vi a), (3, vi deep), (4, vi inside)]) (st2 := [vi (((q : Nat) : Int) - 1)]) 1 (fun _ _ => rfl) ?_
    by_cases h1 : ((q : Nat) : Int) - 1 < 0
    · refine wr_if1t rfl rfl (by unfold i32; omega) h1 ?_
      have hq0 : q = 0 := by omega
      subst hq0
      exact fin _ _ _ _ htR htP htB htC ht2 htm (by omega) (by omega) htE
    · refine wr_if1f rfl rfl (by unfold i32; omega) h1 ?_
      have hr2 := R1_par htP hd.2.1
      refine wr_n (pc2 := 136) (lv2 := [(7, vi (((q : Nat) : Int) - 1)), (6, vi e6), (5, vi ((i : Int))), (0, .ref 170), (1, vi ((k : Int))), (2, vi a), (3, vi deep), (4, vi inside)]) (st2 := [.ref 170, vi 5, .ref 170]) 3 (fun _ _ => rfl) ?_
      refine wr_get (v := .ref 202) rfl rfl rfl (by decide) (rv_ref (htR 170 34 202 rfl)) fun h2 => ?_
      show wr (n + 20) tb_M150 139 [(7, vi (((q : Nat) : Int) - 1)), (6, vi e6), (5, vi ((i : Int))), (0, .ref 170), (1, vi ((k : Int))), (2, vi a), (3, vi deep), (4, vi inside)] [.ref 202, vi 5, .ref 170] t _
      refine wr_n (pc2 := 141) (lv2 := [(7, vi (((q : Nat) : Int) - 1)), (6, vi e6), (5, vi ((i : Int))), (0, .ref 170), (1, vi ((k : Int))), (2, vi a), (3, vi deep), (4, vi inside)]) (st2 := [vi ((i : Int)), .ref 202, vi 5, .ref 170]) 1 (fun _ _ => rfl) ?_
      refine wr_ald (a := (i : Int)) (v := vi (t.1 202 i)) rfl rfl rfl (by omega) (by omega) (by decide) rfl fun h3 => ?_
      have h3 : -2147483648 ≤ t.1 202 i ∧ t.1 202 i ≤ 2147483647 := h3
      show wr (n + 20) tb_M150 142 [(7, vi (((q : Nat) : Int) - 1)), (6, vi e6), (5, vi ((i : Int))), (0, .ref 170), (1, vi ((k : Int))), (2, vi a), (3, vi deep), (4, vi inside)] [vi (t.1 202 i), vi 5, .ref 170] t _
      refine wr_n (pc2 := 144) (lv2 := [(7, vi (((q : Nat) : Int) - 1)), (6, vi e6), (5, vi ((i : Int))), (0, .ref 170), (1, vi ((k : Int))), (2, vi a), (3, vi deep), (4, vi inside)]) (st2 := [vi (((q : Nat) : Int) - 1), vi (t.1 202 i), vi 5, .ref 170]) 1 (fun _ _ => rfl) ?_
      refine wr_add (a := t.1 202 i) (b := ((q : Nat) : Int) - 1) rfl ?_
      show wr (n + 20) tb_M150 145 [(7, vi (((q : Nat) : Int) - 1)), (6, vi e6), (5, vi ((i : Int))), (0, .ref 170), (1, vi ((k : Int))), (2, vi a), (3, vi deep), (4, vi inside)] [vi (t.1 202 i + (((q : Nat) : Int) - 1)), vi 5, .ref 170] t _
      refine wr_call1 (args := [vi 5, vi (t.1 202 i + (((q : Nat) : Int) - 1))]) (rest := []) rfl rfl rfl rfl (Nat.le_of_ble_eq_true rfl) (cr_mono (x_put2 (d := n + 18) (m := mt) (op := 5) (v := t.1 202 i + (((q : Nat) : Int) - 1)) hC _ htR htP (by unfold i32; omega) (by unfold i32; omega) htm (by omega)) ?_)
      rintro s5 out ⟨rfl, hc4, hR4, hBk4, hK4, hm4, hp4, hda4, hdb4⟩
      · refine ⟨_, rfl, ?_⟩
        show wr (n + 20) tb_M150 148 [(7, vi (((q : Nat) : Int) - 1)), (6, vi e6), (5, vi ((i : Int))), (0, .ref 170), (1, vi ((k : Int))), (2, vi a), (3, vi deep), (4, vi inside)] [] s5 _
        obtain ⟨hu4, hk4⟩ := id hK4
        have hP7 : PI C y s5.1 := PI_BX hC htP hBk4
        have hB7 : BX C (gn y) s.1 s5.1 := BX_tr hC htB hBk4
        have hQ7 : CS s.1 s5.1 := CS_tr htC (KC_CS hK4)
        have hz7 : s5.2 = s.2 := hc4.trans ht2
        have hx7 := LX_nums hP7
        refine wr_inc (a := ((q : Nat) : Int) - 1) rfl rfl ?_
        show wr (n + 20) tb_M150 151 [(7, vi (((q : Nat) : Int) - 1 + (-1))), (6, vi e6), (5, vi ((i : Int))), (0, .ref 170), (1, vi ((k : Int))), (2, vi a), (3, vi deep), (4, vi inside)] [] s5 _
        refine wr_n (pc2 := 128) (lv2 := [(7, vi (((q : Nat) : Int) - 1 + (-1))), (6, vi e6), (5, vi ((i : Int))), (0, .ref 170), (1, vi ((k : Int))), (2, vi a), (3, vi deep), (4, vi inside)]) (st2 := []) 1 (fun _ _ => rfl) ?_
        obtain ⟨q2, rfl⟩ : ∃ q2, q = q2 + 1 := ⟨q - 1, by omega⟩
        rw [show (((q2 + 1 : Nat) : Int) - 1 + -1) = ((q2 : Nat) : Int) - 1 by omega]
        have hz201 : s5.1 201 i = t.1 201 i := hBk4.1 201 i (by unfold SS; omega)
        refine ih q2 (by omega) _ _ _ hR4 hP7 hB7 hQ7 hz7 hm4 (by omega) (by omega) (by omega) ?_
        intro h0 hh0
        exact (SG_seq (by omega) (by omega) (SG_mono (by omega) (ZM_CS (KC_CS hK4)) (SG_agr (fun p _ hp => BX_code hC hBk4 (by omega)) (htE h0 hh0))) (SH_store (h0 := h0 + q2) (v := (t.1 202 i + (((q2 + 1 : Nat) : Int) - 1)).toNat) hda4 (hdb4.trans (Int.toNat_of_nonneg (by omega)).symm) (by omega) (by omega)))
  have exA : ∀ (t : rS) (mt j : Nat), RF t.1 → PI C y t.1 → BX C (gn y) s.1 t.1 → CS s.1 t.1 → t.2 = s.2 → t.1 C 1 = (mt : Int) → (s.1 C 3 ≤ t.1 C 3 ∧ t.1 C 3 - s.1 C 3 ≤ t.1 C 1 - s.1 C 1 ∧ t.1 C 10 = s.1 C 10 ∧ t.1 170 14 = s.1 170 14 ∧ t.1 170 16 = s.1 170 16 ∧ t.1 170 21 = s.1 170 21) → (s.1 170 5 + 2 * j + 1 ≤ t.1 170 5 ∧ (mt : Int) + 2 * j + 21 ≤ m + 12 * (t.1 170 5 - s.1 170 5) ∧ s.1 170 5 + 2 ≤ t.1 170 5) → EC C y m mt j 1 s.1 t.1 → wr (n + 20) tb_M150 85 [(6, vi ((j : Int))), (5, vi ((i : Int))), (0, .ref 170), (1, vi ((k : Int))), (2, vi a), (3, vi deep), (4, vi inside)] [] t (EP C y m (fk (gd y i) - 2) 0 s) := by
    intro t mt j htR htP htB htC ht2 htm htn hnn htE
    have hx1 := LX_nums htP
    refine wr_n (pc2 := 89) (lv2 := [(6, vi ((j : Int))), (5, vi ((i : Int))), (0, .ref 170), (1, vi ((k : Int))), (2, vi a), (3, vi deep), (4, vi inside)]) (st2 := [.ref 24, .ref 170]) 2 (fun _ _ => rfl) ?_
    refine wr_call1 (args := [.ref 24]) (rest := []) rfl rfl rfl rfl (Nat.le_of_ble_eq_true rfl) (cr_mono (c_is (d := n + 15) isT_24 _ htR (LX_of htP)) ?_)
    rintro s2 out ⟨b, rfl, rfl | ⟨rfl, hj1, hl1⟩, he1⟩
    · refine ⟨_, rfl, ?_⟩
      rw [he1]
      show wr (n + 20) tb_M150 92 [(6, vi ((j : Int))), (5, vi ((i : Int))), (0, .ref 170), (1, vi ((k : Int))), (2, vi a), (3, vi deep), (4, vi inside)] [vi 0] t _
      refine wr_n (pc2 := 96) (lv2 := [(6, vi ((j : Int))), (5, vi ((i : Int))), (0, .ref 170), (1, vi ((k : Int))), (2, vi a), (3, vi deep), (4, vi inside)]) (st2 := [.ref 170]) 2 (fun _ _ => rfl) ?_
      refine wr_call1 (args := []) (rest := []) rfl rfl rfl rfl (Nat.le_of_ble_eq_true rfl) (cr_mono (x_bad0 (C := C) (d := n + 18) _ htR) ?_)
      rintro s4 out ⟨rfl, hc3, hF3⟩
      · refine ⟨_, rfl, ?_⟩
        show wr (n + 20) tb_M150 99 [(6, vi ((j : Int))), (5, vi ((i : Int))), (0, .ref 170), (1, vi ((k : Int))), (2, vi a), (3, vi deep), (4, vi inside)] [vi 0] s4 _
        refine wr_end (fun _ _ => rfl) ?_
        exact ⟨0, rfl, hc3.trans ht2, Or.inl ⟨rfl, FR_tr (BX_FR htB) hF3⟩⟩
    · refine ⟨_, rfl, ?_⟩
      rw [he1]
      show wr (n + 20) tb_M150 92 [(6, vi ((j : Int))), (5, vi ((i : Int))), (0, .ref 170), (1, vi ((k : Int))), (2, vi a), (3, vi deep), (4, vi inside)] [vi 1] t _
      have hg1 : 1 ≤ t.1 170 4 ∧ t.1 170 5 + 1 = t.1 170 6 := ⟨by omega, hl1⟩
      clear hj1 hl1
      refine wr_n (pc2 := 100) (lv2 := [(6, vi ((j : Int))), (5, vi ((i : Int))), (0, .ref 170), (1, vi ((k : Int))), (2, vi a), (3, vi deep), (4, vi inside)]) (st2 := []) 1 (fun _ _ => rfl) ?_
      have hr3 := R1_par htP hd.2.1
      refine wr_n (pc2 := 103) (lv2 := [(6, vi ((j : Int))), (5, vi ((i : Int))), (0, .ref 170), (1, vi ((k : Int))), (2, vi a), (3, vi deep), (4, vi inside)]) (st2 := [.ref 170, vi ((j : Int))]) 2 (fun _ _ => rfl) ?_
      refine wr_get (v := .ref 201) rfl rfl rfl (by decide) (rv_ref (htR 170 33 201 rfl)) fun h6 => ?_
      show wr (n + 20) tb_M150 106 [(6, vi ((j : Int))), (5, vi ((i : Int))), (0, .ref 170), (1, vi ((k : Int))), (2, vi a), (3, vi deep), (4, vi inside)] [.ref 201, vi ((j : Int))] t _
      refine wr_n (pc2 := 108) (lv2 := [(6, vi ((j : Int))), (5, vi ((i : Int))), (0, .ref 170), (1, vi ((k : Int))), (2, vi a), (3, vi deep), (4, vi inside)]) (st2 := [vi ((i : Int)), .ref 201, vi ((j : Int))]) 1 (fun _ _ => rfl) ?_
      refine wr_ald (a := (i : Int)) (v := vi (t.1 201 i)) rfl rfl rfl (by omega) (by omega) (by decide) rfl fun h7 => ?_
      have h7 : -2147483648 ≤ t.1 201 i ∧ t.1 201 i ≤ 2147483647 := h7
      show wr (n + 20) tb_M150 109 [(6, vi ((j : Int))), (5, vi ((i : Int))), (0, .ref 170), (1, vi ((k : Int))), (2, vi a), (3, vi deep), (4, vi inside)] [vi (t.1 201 i), vi ((j : Int))] t _
      by_cases h8 : (j : Int) = t.1 201 i
      · refine wr_if2t rfl rfl (by unfold i32; omega) (by unfold i32; omega) h8 ?_
        refine wr_n (pc2 := 119) (lv2 := [(6, vi ((j : Int))), (5, vi ((i : Int))), (0, .ref 170), (1, vi ((k : Int))), (2, vi a), (3, vi deep), (4, vi inside)]) (st2 := [.ref 170]) 1 (fun _ _ => rfl) ?_
        refine wr_call1 (args := []) (rest := []) rfl rfl rfl rfl (Nat.le_of_ble_eq_true rfl) (cr_mono (x_step (d := n + 14) hC _ htR htP) ?_)
        rintro s10 out ⟨rfl, hc9, hR9, hBk9, hK9, hf9⟩
        · refine ⟨_, rfl, ?_⟩
          show wr (n + 20) tb_M150 122 [(6, vi ((j : Int))), (5, vi ((i : Int))), (0, .ref 170), (1, vi ((k : Int))), (2, vi a), (3, vi deep), (4, vi inside)] [] s10 _
          obtain ⟨hu9, hk9⟩ := id hK9
          replace hf9 : t.1 170 6 ≤ s10.1 170 5 := hf9
          have hm9 : s10.1 C 1 = ((mt : Nat) : Int) := by omega
          have hP12 : PI C y s10.1 := PI_BX hC htP hBk9
          have hB12 : BX C (gn y) s.1 s10.1 := BX_tr hC htB hBk9
          have hQ12 : CS s.1 s10.1 := CS_tr htC (KL_CS hK9)
          have hz12 : s10.2 = s.2 := hc9.trans ht2
          have hx12 := LX_nums hP12
          refine wr_n (pc2 := 125) (lv2 := [(6, vi ((j : Int))), (5, vi ((i : Int))), (0, .ref 170), (1, vi ((k : Int))), (2, vi a), (3, vi deep), (4, vi inside)]) (st2 := [vi 1, vi ((j : Int))]) 2 (fun _ _ => rfl) ?_
          refine wr_sub (a := (j : Int)) (b := 1) rfl ?_
          show wr (n + 20) tb_M150 126 [(6, vi ((j : Int))), (5, vi ((i : Int))), (0, .ref 170), (1, vi ((k : Int))), (2, vi a), (3, vi deep), (4, vi inside)] [vi (((j : Int)) - 1)] s10 _
          refine wr_n (pc2 := 128) (lv2 := [(7, vi (((j : Int)) - 1)), (6, vi ((j : Int))), (5, vi ((i : Int))), (0, .ref 170), (1, vi ((k : Int))), (2, vi a), (3, vi deep), (4, vi inside)]) (st2 := []) 1 (fun _ _ => rfl) ?_
          refine lpB j _ _ _ hR9 hP12 hB12 hQ12 hz12 hm9 (by omega) (by omega) ?_ ?_
          · rw [hBk9.1 201 i (by unfold SS; omega)]; omega
          · intro h0 hh0
            exact (SG_mono (by omega) (ZM_CS (KL_CS hK9)) (SG_agr (fun p _ hp => BX_code hC hBk9 (by omega)) (htE h0 hh0)))
      · refine wr_if2f rfl rfl (by unfold i32; omega) (by unfold i32; omega) h8 ?_
        refine wr_n (pc2 := 114) (lv2 := [(6, vi ((j : Int))), (5, vi ((i : Int))), (0, .ref 170), (1, vi ((k : Int))), (2, vi a), (3, vi deep), (4, vi inside)]) (st2 := [vi a, .ref 170]) 2 (fun _ _ => rfl) ?_
        refine wr_call1 (args := [vi a]) (rest := []) rfl rfl rfl rfl (Nat.le_of_ble_eq_true rfl) (cr_mono (x_bad1 (C := C) (d := n + 19) (a := a) _ htR (by unfold i32; omega)) ?_)
        rintro s14 out ⟨rfl, hc13, hF13⟩
        · refine ⟨_, rfl, ?_⟩
          show wr (n + 20) tb_M150 117 [(6, vi ((j : Int))), (5, vi ((i : Int))), (0, .ref 170), (1, vi ((k : Int))), (2, vi a), (3, vi deep), (4, vi inside)] [vi 0] s14 _
          refine wr_end (fun _ _ => rfl) ?_
          exact ⟨0, rfl, hc13.trans ht2, Or.inl ⟨rfl, FR_tr (BX_FR htB) hF13⟩⟩
  have lpA : ∀ (q : Nat) (t : rS) (mt j : Nat), (2000 - t.1 170 5).toNat = q → RF t.1 → PI C y t.1 → BX C (gn y) s.1 t.1 → CS s.1 t.1 → t.2 = s.2 → t.1 C 1 = (mt : Int) → (s.1 C 3 ≤ t.1 C 3 ∧ t.1 C 3 - s.1 C 3 ≤ t.1 C 1 - s.1 C 1 ∧ t.1 C 10 = s.1 C 10 ∧ t.1 170 14 = s.1 170 14 ∧ t.1 170 16 = s.1 170 16 ∧ t.1 170 21 = s.1 170 21) → (s.1 170 5 + 2 * j + 1 ≤ t.1 170 5 ∧ (mt : Int) + 2 * j + 21 ≤ m + 12 * (t.1 170 5 - s.1 170 5) ∧ s.1 170 5 + 2 ≤ t.1 170 5) → EC C y m mt j 1 s.1 t.1 → wr (n + 20) tb_M150 31 [(6, vi ((j : Int))), (5, vi ((i : Int))), (0, .ref 170), (1, vi ((k : Int))), (2, vi a), (3, vi deep), (4, vi inside)] [] t (EP C y m (fk (gd y i) - 2) 0 s) := by
    intro q
    induction q using Nat.strongRecOn with | ind q ih => ?_
    intro t mt j hq htR htP htB htC ht2 htm htn hnn htE
    have hx1 := LX_nums htP
    refine wr_n (pc2 := 33) (lv2 := [(6, vi ((j : Int))), (5, vi ((i : Int))), (0, .ref 170), (1, vi ((k : Int))), (2, vi a), (3, vi deep), (4, vi inside)]) (st2 := [vi ((j : Int))]) 1 (fun _ _ => rfl) ?_
    by_cases h1 : (j : Int) ≠ 0
    · refine wr_if1t rfl rfl (by unfold i32; omega) h1 ?_
      refine wr_n (pc2 := 53) (lv2 := [(6, vi ((j : Int))), (5, vi ((i : Int))), (0, .ref 170), (1, vi ((k : Int))), (2, vi a), (3, vi deep), (4, vi inside)]) (st2 := [.ref 26, .ref 170]) 2 (fun _ _ => rfl) ?_
      refine wr_call1 (args := [.ref 26]) (rest := []) rfl rfl rfl rfl (Nat.le_of_ble_eq_true rfl) (cr_mono (c_is (d := n + 15) isT_26 _ htR (LX_of htP)) ?_)
      rintro s3 out ⟨b, rfl, rfl | ⟨rfl, hj2, hl2⟩, he2⟩
      · refine ⟨_, rfl, ?_⟩
        rw [he2]
        show wr (n + 20) tb_M150 56 [(6, vi ((j : Int))), (5, vi ((i : Int))), (0, .ref 170), (1, vi ((k : Int))), (2, vi a), (3, vi deep), (4, vi inside)] [vi 0] t _
        refine wr_n (pc2 := 85) (lv2 := [(6, vi ((j : Int))), (5, vi ((i : Int))), (0, .ref 170), (1, vi ((k : Int))), (2, vi a), (3, vi deep), (4, vi inside)]) (st2 := []) 1 (fun _ _ => rfl) ?_
        exact exA _ _ _ htR htP htB htC ht2 htm (by omega) (by omega) htE
      · refine ⟨_, rfl, ?_⟩
        rw [he2]
        show wr (n + 20) tb_M150 56 [(6, vi ((j : Int))), (5, vi ((i : Int))), (0, .ref 170), (1, vi ((k : Int))), (2, vi a), (3, vi deep), (4, vi inside)] [vi 1] t _
        have hg2 : 1 ≤ t.1 170 4 ∧ t.1 170 5 + 1 = t.1 170 6 := ⟨by omega, hl2⟩
        clear hj2 hl2
        refine wr_n (pc2 := 61) (lv2 := [(6, vi ((j : Int))), (5, vi ((i : Int))), (0, .ref 170), (1, vi ((k : Int))), (2, vi a), (3, vi deep), (4, vi inside)]) (st2 := [vi ((j : Int))]) 2 (fun _ _ => rfl) ?_
        refine wr_if1f rfl rfl (by unfold i32; omega) (by show ¬ ((j : Int) ≤ 0); omega) ?_
        show wr (n + 20) tb_M150 64 [(6, vi ((j : Int))), (5, vi ((i : Int))), (0, .ref 170), (1, vi ((k : Int))), (2, vi a), (3, vi deep), (4, vi inside)] [] t _
        refine wr_n (pc2 := 65) (lv2 := [(6, vi ((j : Int))), (5, vi ((i : Int))), (0, .ref 170), (1, vi ((k : Int))), (2, vi a), (3, vi deep), (4, vi inside)]) (st2 := [.ref 170]) 1 (fun _ _ => rfl) ?_
        refine wr_call1 (args := []) (rest := []) rfl rfl rfl rfl (Nat.le_of_ble_eq_true rfl) (cr_mono (x_step (d := n + 14) hC _ htR htP) ?_)
        rintro s5 out ⟨rfl, hc4, hR4, hBk4, hK4, hf4⟩
        · refine ⟨_, rfl, ?_⟩
          show wr (n + 20) tb_M150 68 [(6, vi ((j : Int))), (5, vi ((i : Int))), (0, .ref 170), (1, vi ((k : Int))), (2, vi a), (3, vi deep), (4, vi inside)] [] s5 _
          obtain ⟨hu4, hk4⟩ := id hK4
          replace hf4 : t.1 170 6 ≤ s5.1 170 5 := hf4
          have hm4 : s5.1 C 1 = ((mt : Nat) : Int) := by omega
          have hP7 : PI C y s5.1 := PI_BX hC htP hBk4
          have hB7 : BX C (gn y) s.1 s5.1 := BX_tr hC htB hBk4
          have hQ7 : CS s.1 s5.1 := CS_tr htC (KL_CS hK4)
          have hz7 : s5.2 = s.2 := hc4.trans ht2
          have hx7 := LX_nums hP7
          refine wr_n (pc2 := 71) (lv2 := [(6, vi ((j : Int))), (5, vi ((i : Int))), (0, .ref 170), (1, vi ((k : Int))), (2, vi a), (3, vi deep), (4, vi inside)]) (st2 := [vi deep, vi 0, .ref 170]) 3 (fun _ _ => rfl) ?_
          refine wr_call1 (args := [vi 0, vi deep]) (rest := []) rfl rfl rfl rfl (Nat.le_of_ble_eq_true rfl) (cr_mono (hX C y mt _ 0 deep hC hR4 hP7 (BX_mb hB7 hMB) hm4 (by unfold NE; omega) (by omega)) ?_)
          rintro s9 out ⟨b, rfl, hc8, ⟨rfl, hF8⟩ | ⟨rfl, hR8, hBk8, hS8, hN8, hV8, w8, hm8, hE8⟩⟩
          · refine ⟨_, rfl, ?_⟩
            show wr (n + 20) tb_M150 74 [(6, vi ((j : Int))), (5, vi ((i : Int))), (0, .ref 170), (1, vi ((k : Int))), (2, vi a), (3, vi deep), (4, vi inside)] [vi 0] s9 _
            refine wr_n (pc2 := 78) (lv2 := [(6, vi ((j : Int))), (5, vi ((i : Int))), (0, .ref 170), (1, vi ((k : Int))), (2, vi a), (3, vi deep), (4, vi inside)]) (st2 := [vi 0]) 2 (fun _ _ => rfl) ?_
            refine wr_end (fun _ _ => rfl) ?_
            exact ⟨0, rfl, hc8.trans hz7, Or.inl ⟨rfl, FR_tr (BX_FR hB7) hF8⟩⟩
          · refine ⟨_, rfl, ?_⟩
            show wr (n + 20) tb_M150 74 [(6, vi ((j : Int))), (5, vi ((i : Int))), (0, .ref 170), (1, vi ((k : Int))), (2, vi a), (3, vi deep), (4, vi inside)] [vi 1] s9 _
            unfold NXE at hN8
            have hP12 : PI C y s9.1 := PI_BX hC hP7 hBk8
            have hB12 : BX C (gn y) s.1 s9.1 := BX_tr hC hB7 hBk8
            have hQ12 : CS s.1 s9.1 := CS_tr hQ7 hS8
            have hz12 : s9.2 = s.2 := hc8.trans hz7
            have hx12 := LX_nums hP12
            refine wr_n (pc2 := 79) (lv2 := [(6, vi ((j : Int))), (5, vi ((i : Int))), (0, .ref 170), (1, vi ((k : Int))), (2, vi a), (3, vi deep), (4, vi inside)]) (st2 := []) 1 (fun _ _ => rfl) ?_
            refine wr_inc (a := (j : Int)) rfl rfl ?_
            show wr (n + 20) tb_M150 82 [(6, vi ((j : Int) + 1)), (5, vi ((i : Int))), (0, .ref 170), (1, vi ((k : Int))), (2, vi a), (3, vi deep), (4, vi inside)] [] s9 _
            refine wr_n (pc2 := 31) (lv2 := [(6, vi ((j : Int) + 1)), (5, vi ((i : Int))), (0, .ref 170), (1, vi ((k : Int))), (2, vi a), (3, vi deep), (4, vi inside)]) (st2 := []) 1 (fun _ _ => rfl) ?_
            rw [show (j : Int) + 1 = ((j + 1 : Nat) : Int) by omega]
            refine ih _ ?_ _ _ _ rfl hR8 hP12 hB12 hQ12 hz12 hm8 (by omega) (by omega) ?_
            · omega
            · intro h0 hh0
              exact (SG_seq (by omega) (by omega) (SG_mono (by omega) (ZM_CS (CS_tr (KL_CS hK4) hS8)) (SG_agr (fun p _ hp => BX_code hC (BX_tr hC hBk4 hBk8) (by omega)) (htE h0 hh0))) (SG_SH (SG_mono (by omega) (ZM_CS (CS_rf (r := s9.1))) (hE8 (h0 + j) (by omega)))))
    · refine wr_if1f rfl rfl (by unfold i32; omega) h1 ?_
      refine wr_n (pc2 := 40) (lv2 := [(6, vi ((j : Int))), (5, vi ((i : Int))), (0, .ref 170), (1, vi ((k : Int))), (2, vi a), (3, vi deep), (4, vi inside)]) (st2 := [.ref 24, .ref 170]) 2 (fun _ _ => rfl) ?_
      refine wr_call1 (args := [.ref 24]) (rest := []) rfl rfl rfl rfl (Nat.le_of_ble_eq_true rfl) (cr_mono (c_is (d := n + 15) isT_24 _ htR (LX_of htP)) ?_)
      rintro s14 out ⟨b, rfl, rfl | ⟨rfl, hj13, hl13⟩, he13⟩
      · refine ⟨_, rfl, ?_⟩
        rw [he13]
        show wr (n + 20) tb_M150 43 [(6, vi ((j : Int))), (5, vi ((i : Int))), (0, .ref 170), (1, vi ((k : Int))), (2, vi a), (3, vi deep), (4, vi inside)] [vi 0] t _
        refine wr_n (pc2 := 61) (lv2 := [(6, vi ((j : Int))), (5, vi ((i : Int))), (0, .ref 170), (1, vi ((k : Int))), (2, vi a), (3, vi deep), (4, vi inside)]) (st2 := [vi ((j : Int))]) 3 (fun _ _ => rfl) ?_
        refine wr_if1t rfl rfl (by unfold i32; omega) (by show (j : Int) ≤ 0; omega) ?_
        show wr (n + 20) tb_M150 68 [(6, vi ((j : Int))), (5, vi ((i : Int))), (0, .ref 170), (1, vi ((k : Int))), (2, vi a), (3, vi deep), (4, vi inside)] [] t _
        refine wr_n (pc2 := 71) (lv2 := [(6, vi ((j : Int))), (5, vi ((i : Int))), (0, .ref 170), (1, vi ((k : Int))), (2, vi a), (3, vi deep), (4, vi inside)]) (st2 := [vi deep, vi 0, .ref 170]) 3 (fun _ _ => rfl) ?_
        refine wr_call1 (args := [vi 0, vi deep]) (rest := []) rfl rfl rfl rfl (Nat.le_of_ble_eq_true rfl) (cr_mono (hX C y mt _ 0 deep hC htR htP (BX_mb htB hMB) htm (by unfold NE; omega) (by omega)) ?_)
        rintro s16 out ⟨b, rfl, hc15, ⟨rfl, hF15⟩ | ⟨rfl, hR15, hBk15, hS15, hN15, hV15, w15, hm15, hE15⟩⟩
        · refine ⟨_, rfl, ?_⟩
          show wr (n + 20) tb_M150 74 [(6, vi ((j : Int))), (5, vi ((i : Int))), (0, .ref 170), (1, vi ((k : Int))), (2, vi a), (3, vi deep), (4, vi inside)] [vi 0] s16 _
          refine wr_n (pc2 := 78) (lv2 := [(6, vi ((j : Int))), (5, vi ((i : Int))), (0, .ref 170), (1, vi ((k : Int))), (2, vi a), (3, vi deep), (4, vi inside)]) (st2 := [vi 0]) 2 (fun _ _ => rfl) ?_
          refine wr_end (fun _ _ => rfl) ?_
          exact ⟨0, rfl, hc15.trans ht2, Or.inl ⟨rfl, FR_tr (BX_FR htB) hF15⟩⟩
        · refine ⟨_, rfl, ?_⟩
          show wr (n + 20) tb_M150 74 [(6, vi ((j : Int))), (5, vi ((i : Int))), (0, .ref 170), (1, vi ((k : Int))), (2, vi a), (3, vi deep), (4, vi inside)] [vi 1] s16 _
          unfold NXE at hN15
          have hP19 : PI C y s16.1 := PI_BX hC htP hBk15
          have hB19 : BX C (gn y) s.1 s16.1 := BX_tr hC htB hBk15
          have hQ19 : CS s.1 s16.1 := CS_tr htC hS15
          have hz19 : s16.2 = s.2 := hc15.trans ht2
          have hx19 := LX_nums hP19
          refine wr_n (pc2 := 79) (lv2 := [(6, vi ((j : Int))), (5, vi ((i : Int))), (0, .ref 170), (1, vi ((k : Int))), (2, vi a), (3, vi deep), (4, vi inside)]) (st2 := []) 1 (fun _ _ => rfl) ?_
          refine wr_inc (a := (j : Int)) rfl rfl ?_
          show wr (n + 20) tb_M150 82 [(6, vi ((j : Int) + 1)), (5, vi ((i : Int))), (0, .ref 170), (1, vi ((k : Int))), (2, vi a), (3, vi deep), (4, vi inside)] [] s16 _
          refine wr_n (pc2 := 31) (lv2 := [(6, vi ((j : Int) + 1)), (5, vi ((i : Int))), (0, .ref 170), (1, vi ((k : Int))), (2, vi a), (3, vi deep), (4, vi inside)]) (st2 := []) 1 (fun _ _ => rfl) ?_
          rw [show (j : Int) + 1 = ((j + 1 : Nat) : Int) by omega]
          refine ih _ ?_ _ _ _ rfl hR15 hP19 hB19 hQ19 hz19 hm15 (by omega) (by omega) ?_
          · omega
          · intro h0 hh0
            exact (SG_seq (by omega) (by omega) (SG_mono (by omega) (ZM_CS hS15) (SG_agr (fun p _ hp => BX_code hC hBk15 (by omega)) (htE h0 hh0))) (SG_SH (SG_mono (by omega) (ZM_CS (CS_rf (r := s16.1))) (hE15 (h0 + j) (by omega)))))
      · refine ⟨_, rfl, ?_⟩
        rw [he13]
        show wr (n + 20) tb_M150 43 [(6, vi ((j : Int))), (5, vi ((i : Int))), (0, .ref 170), (1, vi ((k : Int))), (2, vi a), (3, vi deep), (4, vi inside)] [vi 1] t _
        have hg13 : 1 ≤ t.1 170 4 ∧ t.1 170 5 + 1 = t.1 170 6 := ⟨by omega, hl13⟩
        clear hj13 hl13
        refine wr_n (pc2 := 85) (lv2 := [(6, vi ((j : Int))), (5, vi ((i : Int))), (0, .ref 170), (1, vi ((k : Int))), (2, vi a), (3, vi deep), (4, vi inside)]) (st2 := []) 1 (fun _ _ => rfl) ?_
        exact exA _ _ _ htR htP htB htC ht2 htm (by omega) (by omega) htE
  refine cr_of (M := tb_M150) rfl (Nat.le_of_ble_eq_true rfl) ?_
  show wr (n + 20) tb_M150 0 [(0, .ref 170), (1, vi ((k : Int))), (2, vi a), (3, vi deep), (4, vi inside)] [] s _
  refine wr_n (pc2 := 1) (lv2 := [(0, .ref 170), (1, vi ((k : Int))), (2, vi a), (3, vi deep), (4, vi inside)]) (st2 := [.ref 170]) 1 (fun _ _ => rfl) ?_
  refine wr_get (v := .ref 175) rfl rfl rfl (by decide) (rv_ref (hR 170 12 175 rfl)) fun h1 => ?_
  show wr (n + 20) tb_M150 4 [(0, .ref 170), (1, vi ((k : Int))), (2, vi a), (3, vi deep), (4, vi inside)] [.ref 175] s _
  refine wr_n (pc2 := 5) (lv2 := [(0, .ref 170), (1, vi ((k : Int))), (2, vi a), (3, vi deep), (4, vi inside)]) (st2 := [vi ((k : Int)), .ref 175]) 1 (fun _ _ => rfl) ?_
  refine wr_ald (a := (k : Int)) (v := vi (s.1 175 k)) rfl rfl rfl (by omega) (by omega) (by decide) rfl fun h2 => ?_
  have h2 : -2147483648 ≤ s.1 175 k ∧ s.1 175 k ≤ 2147483647 := h2
  show wr (n + 20) tb_M150 6 [(0, .ref 170), (1, vi ((k : Int))), (2, vi a), (3, vi deep), (4, vi inside)] [vi (s.1 175 k)] s _
  rw [hd.2.2.1]
  show wr (n + 20) tb_M150 6 [(0, .ref 170), (1, vi ((k : Int))), (2, vi a), (3, vi deep), (4, vi inside)] [vi ((i : Int))] s _
  refine wr_n (pc2 := 12) (lv2 := [(6, vi 0), (5, vi ((i : Int))), (0, .ref 170), (1, vi ((k : Int))), (2, vi a), (3, vi deep), (4, vi inside)]) (st2 := [.ref 170]) 4 (fun _ _ => rfl) ?_
  refine wr_call1 (args := []) (rest := []) rfl rfl rfl rfl (Nat.le_of_ble_eq_true rfl) (cr_mono (x_part (d := n + 18) (m := m) hC _ hR hP hm (by omega) (by omega)) ?_)
  rintro s4 out ⟨rfl, hc3, hR3, hBk3, hK3, hm3, hp3, hda3⟩
  · refine ⟨_, rfl, ?_⟩
    show wr (n + 20) tb_M150 15 [(6, vi 0), (5, vi ((i : Int))), (0, .ref 170), (1, vi ((k : Int))), (2, vi a), (3, vi deep), (4, vi inside)] [] s4 _
    obtain ⟨hu3, hk3⟩ := id hK3
    have hP6 : PI C y s4.1 := PI_BX hC hP hBk3
    have hB6 : BX C (gn y) s.1 s4.1 := BX_tr hC (PI_rf hP) hBk3
    have hQ6 : CS s.1 s4.1 := CS_tr (CS_rf (r := s.1)) (KC_CS hK3)
    have hz6 : s4.2 = s.2 := hc3.trans rfl
    have hx6 := LX_nums hP6
    refine wr_n (pc2 := 16) (lv2 := [(6, vi 0), (5, vi ((i : Int))), (0, .ref 170), (1, vi ((k : Int))), (2, vi a), (3, vi deep), (4, vi inside)]) (st2 := [.ref 170]) 1 (fun _ _ => rfl) ?_
    refine wr_call1 (args := []) (rest := []) rfl rfl rfl rfl (Nat.le_of_ble_eq_true rfl) (cr_mono (x_step (d := n + 14) hC _ hR3 hP6) ?_)
    rintro s8 out ⟨rfl, hc7, hR7, hBk7, hK7, hf7⟩
    · refine ⟨_, rfl, ?_⟩
      show wr (n + 20) tb_M150 19 [(6, vi 0), (5, vi ((i : Int))), (0, .ref 170), (1, vi ((k : Int))), (2, vi a), (3, vi deep), (4, vi inside)] [] s8 _
      obtain ⟨hu7, hk7⟩ := id hK7
      replace hf7 : s4.1 170 5 + 1 ≤ s8.1 170 5 := Int.le_trans (LX_lt hP6 (by omega)) hf7
      have hm7 : s8.1 C 1 = ((m + 1 : Nat) : Int) := by omega
      have hP10 : PI C y s8.1 := PI_BX hC hP6 hBk7
      have hB10 : BX C (gn y) s.1 s8.1 := BX_tr hC hB6 hBk7
      have hQ10 : CS s.1 s8.1 := CS_tr hQ6 (KL_CS hK7)
      have hz10 : s8.2 = s.2 := hc7.trans hz6
      have hx10 := LX_nums hP10
      refine wr_n (pc2 := 23) (lv2 := [(6, vi 0), (5, vi ((i : Int))), (0, .ref 170), (1, vi ((k : Int))), (2, vi a), (3, vi deep), (4, vi inside)]) (st2 := [.ref 22, .ref 170]) 2 (fun _ _ => rfl) ?_
      refine wr_call1 (args := [.ref 22]) (rest := []) rfl rfl rfl rfl (Nat.le_of_ble_eq_true rfl) (cr_mono (x_take (d := n + 13) isT_22 hC _ hR7 hP10) ?_)
      rintro s12 out ⟨b, rfl, hc11, ⟨rfl, hF11⟩ | ⟨rfl, hR11, hBk11, hK11, hf11⟩⟩
      · refine ⟨_, rfl, ?_⟩
        show wr (n + 20) tb_M150 26 [(6, vi 0), (5, vi ((i : Int))), (0, .ref 170), (1, vi ((k : Int))), (2, vi a), (3, vi deep), (4, vi inside)] [vi 0] s12 _
        refine wr_n (pc2 := 30) (lv2 := [(6, vi 0), (5, vi ((i : Int))), (0, .ref 170), (1, vi ((k : Int))), (2, vi a), (3, vi deep), (4, vi inside)]) (st2 := [vi 0]) 2 (fun _ _ => rfl) ?_
        refine wr_end (fun _ _ => rfl) ?_
        exact ⟨0, rfl, hc11.trans hz10, Or.inl ⟨rfl, FR_tr (BX_FR hB10) hF11⟩⟩
      · refine ⟨_, rfl, ?_⟩
        show wr (n + 20) tb_M150 26 [(6, vi 0), (5, vi ((i : Int))), (0, .ref 170), (1, vi ((k : Int))), (2, vi a), (3, vi deep), (4, vi inside)] [vi 1] s12 _
        obtain ⟨hu11, hk11⟩ := id hK11
        replace hf11 : s8.1 170 5 + 1 ≤ s12.1 170 5 := hf11
        have hm11 : s12.1 C 1 = ((m + 1 : Nat) : Int) := by omega
        have hP15 : PI C y s12.1 := PI_BX hC hP10 hBk11
        have hB15 : BX C (gn y) s.1 s12.1 := BX_tr hC hB10 hBk11
        have hQ15 : CS s.1 s12.1 := CS_tr hQ10 (KL_CS hK11)
        have hz15 : s12.2 = s.2 := hc11.trans hz10
        have hx15 := LX_nums hP15
        refine wr_n (pc2 := 31) (lv2 := [(6, vi 0), (5, vi ((i : Int))), (0, .ref 170), (1, vi ((k : Int))), (2, vi a), (3, vi deep), (4, vi inside)]) (st2 := []) 1 (fun _ _ => rfl) ?_
        refine lpA _ _ _ 0 rfl hR11 hP15 hB15 hQ15 hz15 hm11 (by omega) (by omega) ?_
        intro h0 hh0
        exact (SG_part ((BX_code hC (BX_tr hC hBk7 hBk11) (by omega)).trans hda3) (by omega))
