set_option maxHeartbeats 20000000 in
set_option maxRecDepth 100000 in
theorem rt_fin {d C mr N kd e m k1 : Nat} {y : gH} {p z3 : Int} {s0 s : rS} (hC : C = 177 ∨ C = 186) (hR : RF s.1) (hF0 : FR C s0.1 s.1) (hc0 : s.2 = s0.2) (hf0 : s0.1 170 5 + 1 ≤ s.1 170 5) (hp01 : pk p kd) (hz3 : i32 z3) {i5 : Int} (hI : RE C y mr e m k1 N kd s.1) : wr (d + 489) tb_M129 314 [(5, vi i5), (4, vi ((N : Int) + 1)), (3, vi z3), (2, vi (((gn y : Nat) : Int))), (0, .ref 170), (1, vi p)] [] s (DP C s0) := by
  have hP := hI.1
  have hnr := nr_of hP
  have hx0 := LX_nums hP
  have hgt := gt_of hP
  unfold i32 at hz3
  have hg12 : gn y < 12 := by have h8 := hP.2.2.2.1; have h9 := hP.2.2.2.2.2.1; unfold CT at h8; have h7 := hI.2.1; omega
  have hno14 := hI.2.2.1.2.2.2
  have hn100 := (NM_of hP).2.1
  refine wr_n (pc2 := 315) (lv2 := [(5, vi i5), (4, vi ((N : Int) + 1)), (3, vi z3), (2, vi (((gn y : Nat) : Int))), (0, .ref 170), (1, vi p)]) (st2 := [.ref 170]) 1 (fun _ _ => rfl) ?_
  refine wr_get (v := .ref 195) rfl rfl rfl (by decide) (rv_ref (hR 170 27 195 rfl)) fun h1 => ?_
  show wr (d + 489) tb_M129 318 [(5, vi i5), (4, vi ((N : Int) + 1)), (3, vi z3), (2, vi (((gn y : Nat) : Int))), (0, .ref 170), (1, vi p)] [.ref 195] s _
  refine wr_n (pc2 := 320) (lv2 := [(5, vi i5), (4, vi ((N : Int) + 1)), (3, vi z3), (2, vi (((gn y : Nat) : Int))), (0, .ref 170), (1, vi p)]) (st2 := [.ref 170, vi (((gn y : Nat) : Int)), .ref 195]) 2 (fun _ _ => rfl) ?_
  refine wr_get (v := vl (s.1 170 22)) rfl rfl rfl (by decide) rfl fun h2 => ?_
  show wr (d + 489) tb_M129 323 [(5, vi i5), (4, vi ((N : Int) + 1)), (3, vi z3), (2, vi (((gn y : Nat) : Int))), (0, .ref 170), (1, vi p)] [vl (s.1 170 22), vi (((gn y : Nat) : Int)), .ref 195] s _
  refine wr_ast (a := ((gn y : Nat) : Int)) (z := s.1 170 22) rfl (by decide) rfl rfl (by omega) (by omega) (by decide) rfl h2 ?_
  show wr (d + 489) tb_M129 324 [(5, vi i5), (4, vi ((N : Int) + 1)), (3, vi z3), (2, vi (((gn y : Nat) : Int))), (0, .ref 170), (1, vi p)] [] (up2 s.1 195 (gn y) (s.1 170 22), s.2) _
  have hR3 : RF (up2 s.1 195 (gn y) (s.1 170 22)) := (RF_up hR rfl)
  refine wr_n (pc2 := 325) (lv2 := [(5, vi i5), (4, vi ((N : Int) + 1)), (3, vi z3), (2, vi (((gn y : Nat) : Int))), (0, .ref 170), (1, vi p)]) (st2 := [.ref 170]) 1 (fun _ _ => rfl) ?_
  refine wr_get (v := .ref 196) rfl rfl rfl (by decide) (rv_ref (hR3 170 28 196 rfl)) fun h4 => ?_
  show wr (d + 489) tb_M129 328 [(5, vi i5), (4, vi ((N : Int) + 1)), (3, vi z3), (2, vi (((gn y : Nat) : Int))), (0, .ref 170), (1, vi p)] [.ref 196] (up2 s.1 195 (gn y) (s.1 170 22), s.2) _
  refine wr_n (pc2 := 330) (lv2 := [(5, vi i5), (4, vi ((N : Int) + 1)), (3, vi z3), (2, vi (((gn y : Nat) : Int))), (0, .ref 170), (1, vi p)]) (st2 := [.ref 170, vi (((gn y : Nat) : Int)), .ref 196]) 2 (fun _ _ => rfl) ?_
  refine wr_get (v := vl (s.1 170 23)) rfl rfl rfl (by decide) rfl fun h5 => ?_
  show wr (d + 489) tb_M129 333 [(5, vi i5), (4, vi ((N : Int) + 1)), (3, vi z3), (2, vi (((gn y : Nat) : Int))), (0, .ref 170), (1, vi p)] [vl (s.1 170 23), vi (((gn y : Nat) : Int)), .ref 196] (up2 s.1 195 (gn y) (s.1 170 22), s.2) _
  refine wr_ast (a := ((gn y : Nat) : Int)) (z := s.1 170 23) rfl (by decide) rfl rfl (by omega) (by omega) (by decide) rfl h5 ?_
  show wr (d + 489) tb_M129 334 [(5, vi i5), (4, vi ((N : Int) + 1)), (3, vi z3), (2, vi (((gn y : Nat) : Int))), (0, .ref 170), (1, vi p)] [] (up2 (up2 s.1 195 (gn y) (s.1 170 22)) 196 (gn y) (s.1 170 23), s.2) _
  have hR6 : RF (up2 (up2 s.1 195 (gn y) (s.1 170 22)) 196 (gn y) (s.1 170 23)) := (RF_up (RF_up hR rfl) rfl)
  refine wr_n (pc2 := 335) (lv2 := [(5, vi i5), (4, vi ((N : Int) + 1)), (3, vi z3), (2, vi (((gn y : Nat) : Int))), (0, .ref 170), (1, vi p)]) (st2 := [.ref 170]) 1 (fun _ _ => rfl) ?_
  refine wr_get (v := .ref 197) rfl rfl rfl (by decide) (rv_ref (hR6 170 29 197 rfl)) fun h7 => ?_
  show wr (d + 489) tb_M129 338 [(5, vi i5), (4, vi ((N : Int) + 1)), (3, vi z3), (2, vi (((gn y : Nat) : Int))), (0, .ref 170), (1, vi p)] [.ref 197] (up2 (up2 s.1 195 (gn y) (s.1 170 22)) 196 (gn y) (s.1 170 23), s.2) _
  refine wr_n (pc2 := 340) (lv2 := [(5, vi i5), (4, vi ((N : Int) + 1)), (3, vi z3), (2, vi (((gn y : Nat) : Int))), (0, .ref 170), (1, vi p)]) (st2 := [.ref 170, vi (((gn y : Nat) : Int)), .ref 197]) 2 (fun _ _ => rfl) ?_
  refine wr_get (v := vl (s.1 170 24)) rfl rfl rfl (by decide) rfl fun h8 => ?_
  show wr (d + 489) tb_M129 343 [(5, vi i5), (4, vi ((N : Int) + 1)), (3, vi z3), (2, vi (((gn y : Nat) : Int))), (0, .ref 170), (1, vi p)] [vl (s.1 170 24), vi (((gn y : Nat) : Int)), .ref 197] (up2 (up2 s.1 195 (gn y) (s.1 170 22)) 196 (gn y) (s.1 170 23), s.2) _
  refine wr_ast (a := ((gn y : Nat) : Int)) (z := s.1 170 24) rfl (by decide) rfl rfl (by omega) (by omega) (by decide) rfl h8 ?_
  show wr (d + 489) tb_M129 344 [(5, vi i5), (4, vi ((N : Int) + 1)), (3, vi z3), (2, vi (((gn y : Nat) : Int))), (0, .ref 170), (1, vi p)] [] (up2 (up2 (up2 s.1 195 (gn y) (s.1 170 22)) 196 (gn y) (s.1 170 23)) 197 (gn y) (s.1 170 24), s.2) _
  have hR9 : RF (up2 (up2 (up2 s.1 195 (gn y) (s.1 170 22)) 196 (gn y) (s.1 170 23)) 197 (gn y) (s.1 170 24)) := (RF_up (RF_up (RF_up hR rfl) rfl) rfl)
  refine wr_n (pc2 := 345) (lv2 := [(5, vi i5), (4, vi ((N : Int) + 1)), (3, vi z3), (2, vi (((gn y : Nat) : Int))), (0, .ref 170), (1, vi p)]) (st2 := [.ref 170]) 1 (fun _ _ => rfl) ?_
  refine wr_get (v := .ref 198) rfl rfl rfl (by decide) (rv_ref (hR9 170 30 198 rfl)) fun h10 => ?_
  show wr (d + 489) tb_M129 348 [(5, vi i5), (4, vi ((N : Int) + 1)), (3, vi z3), (2, vi (((gn y : Nat) : Int))), (0, .ref 170), (1, vi p)] [.ref 198] (up2 (up2 (up2 s.1 195 (gn y) (s.1 170 22)) 196 (gn y) (s.1 170 23)) 197 (gn y) (s.1 170 24), s.2) _
  refine wr_n (pc2 := 350) (lv2 := [(5, vi i5), (4, vi ((N : Int) + 1)), (3, vi z3), (2, vi (((gn y : Nat) : Int))), (0, .ref 170), (1, vi p)]) (st2 := [.ref 170, vi (((gn y : Nat) : Int)), .ref 198]) 2 (fun _ _ => rfl) ?_
  refine wr_get (v := vl (s.1 170 25)) rfl rfl rfl (by decide) rfl fun h11 => ?_
  show wr (d + 489) tb_M129 353 [(5, vi i5), (4, vi ((N : Int) + 1)), (3, vi z3), (2, vi (((gn y : Nat) : Int))), (0, .ref 170), (1, vi p)] [vl (s.1 170 25), vi (((gn y : Nat) : Int)), .ref 198] (up2 (up2 (up2 s.1 195 (gn y) (s.1 170 22)) 196 (gn y) (s.1 170 23)) 197 (gn y) (s.1 170 24), s.2) _
  refine wr_ast (a := ((gn y : Nat) : Int)) (z := s.1 170 25) rfl (by decide) rfl rfl (by omega) (by omega) (by decide) rfl h11 ?_
  show wr (d + 489) tb_M129 354 [(5, vi i5), (4, vi ((N : Int) + 1)), (3, vi z3), (2, vi (((gn y : Nat) : Int))), (0, .ref 170), (1, vi p)] [] (up2 (up2 (up2 (up2 s.1 195 (gn y) (s.1 170 22)) 196 (gn y) (s.1 170 23)) 197 (gn y) (s.1 170 24)) 198 (gn y) (s.1 170 25), s.2) _
  have hR12 : RF (up2 (up2 (up2 (up2 s.1 195 (gn y) (s.1 170 22)) 196 (gn y) (s.1 170 23)) 197 (gn y) (s.1 170 24)) 198 (gn y) (s.1 170 25)) := (RF_up (RF_up (RF_up (RF_up hR rfl) rfl) rfl) rfl)
  refine wr_n (pc2 := 355) (lv2 := [(5, vi i5), (4, vi ((N : Int) + 1)), (3, vi z3), (2, vi (((gn y : Nat) : Int))), (0, .ref 170), (1, vi p)]) (st2 := [.ref 170]) 1 (fun _ _ => rfl) ?_
  refine wr_get (v := .ref 199) rfl rfl rfl (by decide) (rv_ref (hR12 170 31 199 rfl)) fun h13 => ?_
  show wr (d + 489) tb_M129 358 [(5, vi i5), (4, vi ((N : Int) + 1)), (3, vi z3), (2, vi (((gn y : Nat) : Int))), (0, .ref 170), (1, vi p)] [.ref 199] (up2 (up2 (up2 (up2 s.1 195 (gn y) (s.1 170 22)) 196 (gn y) (s.1 170 23)) 197 (gn y) (s.1 170 24)) 198 (gn y) (s.1 170 25), s.2) _
  refine wr_n (pc2 := 360) (lv2 := [(5, vi i5), (4, vi ((N : Int) + 1)), (3, vi z3), (2, vi (((gn y : Nat) : Int))), (0, .ref 170), (1, vi p)]) (st2 := [.ref 170, vi (((gn y : Nat) : Int)), .ref 199]) 2 (fun _ _ => rfl) ?_
  refine wr_get (v := vl (s.1 170 26)) rfl rfl rfl (by decide) rfl fun h14 => ?_
  show wr (d + 489) tb_M129 363 [(5, vi i5), (4, vi ((N : Int) + 1)), (3, vi z3), (2, vi (((gn y : Nat) : Int))), (0, .ref 170), (1, vi p)] [vl (s.1 170 26), vi (((gn y : Nat) : Int)), .ref 199] (up2 (up2 (up2 (up2 s.1 195 (gn y) (s.1 170 22)) 196 (gn y) (s.1 170 23)) 197 (gn y) (s.1 170 24)) 198 (gn y) (s.1 170 25), s.2) _
  refine wr_n (pc2 := 365) (lv2 := [(5, vi i5), (4, vi ((N : Int) + 1)), (3, vi z3), (2, vi (((gn y : Nat) : Int))), (0, .ref 170), (1, vi p)]) (st2 := [vi (((gn y : Nat) : Int)), vl 1, vl (s.1 170 26), vi (((gn y : Nat) : Int)), .ref 199]) 2 (fun _ _ => rfl) ?_
  refine wr_lshl (a := 1) (b := ((gn y : Nat) : Int)) rfl fun z15 h16 h17 => ?_
  show wr (d + 489) tb_M129 366 [(5, vi i5), (4, vi ((N : Int) + 1)), (3, vi z3), (2, vi (((gn y : Nat) : Int))), (0, .ref 170), (1, vi p)] [vl z15, vl (s.1 170 26), vi (((gn y : Nat) : Int)), .ref 199] (up2 (up2 (up2 (up2 s.1 195 (gn y) (s.1 170 22)) 196 (gn y) (s.1 170 23)) 197 (gn y) (s.1 170 24)) 198 (gn y) (s.1 170 25), s.2) _
  refine wr_lor (a := s.1 170 26) (b := z15) rfl fun z18 h19 h20 => ?_
  show wr (d + 489) tb_M129 367 [(5, vi i5), (4, vi ((N : Int) + 1)), (3, vi z3), (2, vi (((gn y : Nat) : Int))), (0, .ref 170), (1, vi p)] [vl z18, vi (((gn y : Nat) : Int)), .ref 199] (up2 (up2 (up2 (up2 s.1 195 (gn y) (s.1 170 22)) 196 (gn y) (s.1 170 23)) 197 (gn y) (s.1 170 24)) 198 (gn y) (s.1 170 25), s.2) _
  refine wr_ast (a := ((gn y : Nat) : Int)) (z := z18) rfl (by decide) rfl rfl (by omega) (by omega) (by decide) rfl h19 ?_
  show wr (d + 489) tb_M129 368 [(5, vi i5), (4, vi ((N : Int) + 1)), (3, vi z3), (2, vi (((gn y : Nat) : Int))), (0, .ref 170), (1, vi p)] [] (up2 (up2 (up2 (up2 (up2 s.1 195 (gn y) (s.1 170 22)) 196 (gn y) (s.1 170 23)) 197 (gn y) (s.1 170 24)) 198 (gn y) (s.1 170 25)) 199 (gn y) z18, s.2) _
  have hR21 : RF (up2 (up2 (up2 (up2 (up2 s.1 195 (gn y) (s.1 170 22)) 196 (gn y) (s.1 170 23)) 197 (gn y) (s.1 170 24)) 198 (gn y) (s.1 170 25)) 199 (gn y) z18) := (RF_up (RF_up (RF_up (RF_up (RF_up hR rfl) rfl) rfl) rfl) rfl)
  refine wr_n (pc2 := 371) (lv2 := [(5, vi i5), (4, vi ((N : Int) + 1)), (3, vi z3), (2, vi (((gn y : Nat) : Int))), (0, .ref 170), (1, vi p)]) (st2 := [vi ((N : Int) + 1), .ref 170]) 2 (fun _ _ => rfl) ?_
  refine wr_put (z := (N : Int) + 1) rfl rfl rfl rfl (by decide) rfl (by decide) rfl (show -2147483648 ≤ (N : Int) + 1 ∧ (N : Int) + 1 ≤ 2147483647 by omega) (hf_int' _) ?_
  show wr (d + 489) tb_M129 374 [(5, vi i5), (4, vi ((N : Int) + 1)), (3, vi z3), (2, vi (((gn y : Nat) : Int))), (0, .ref 170), (1, vi p)] [] (up2 (up2 (up2 (up2 (up2 (up2 s.1 195 (gn y) (s.1 170 22)) 196 (gn y) (s.1 170 23)) 197 (gn y) (s.1 170 24)) 198 (gn y) (s.1 170 25)) 199 (gn y) z18) 170 14 ((N : Int) + 1), s.2) _
  have hR22 : RF (up2 (up2 (up2 (up2 (up2 (up2 s.1 195 (gn y) (s.1 170 22)) 196 (gn y) (s.1 170 23)) 197 (gn y) (s.1 170 24)) 198 (gn y) (s.1 170 25)) 199 (gn y) z18) 170 14 ((N : Int) + 1)) := (RF_up (RF_up (RF_up (RF_up (RF_up (RF_up hR rfl) rfl) rfl) rfl) rfl) rfl)
  refine wr_n (pc2 := 376) (lv2 := [(5, vi i5), (4, vi ((N : Int) + 1)), (3, vi z3), (2, vi (((gn y : Nat) : Int))), (0, .ref 170), (1, vi p)]) (st2 := [vi z3, .ref 170]) 2 (fun _ _ => rfl) ?_
  refine wr_put (z := z3) rfl rfl rfl rfl (by decide) rfl (by decide) rfl (show -2147483648 ≤ z3 ∧ z3 ≤ 2147483647 by omega) (hf_int' _) ?_
  show wr (d + 489) tb_M129 379 [(5, vi i5), (4, vi ((N : Int) + 1)), (3, vi z3), (2, vi (((gn y : Nat) : Int))), (0, .ref 170), (1, vi p)] [] (up2 (up2 (up2 (up2 (up2 (up2 (up2 s.1 195 (gn y) (s.1 170 22)) 196 (gn y) (s.1 170 23)) 197 (gn y) (s.1 170 24)) 198 (gn y) (s.1 170 25)) 199 (gn y) z18) 170 14 ((N : Int) + 1)) 170 15 z3, s.2) _
  have hR23 : RF (up2 (up2 (up2 (up2 (up2 (up2 (up2 s.1 195 (gn y) (s.1 170 22)) 196 (gn y) (s.1 170 23)) 197 (gn y) (s.1 170 24)) 198 (gn y) (s.1 170 25)) 199 (gn y) z18) 170 14 ((N : Int) + 1)) 170 15 z3) := (RF_up (RF_up (RF_up (RF_up (RF_up (RF_up (RF_up hR rfl) rfl) rfl) rfl) rfl) rfl) rfl)
  refine wr_n (pc2 := 381) (lv2 := [(5, vi i5), (4, vi ((N : Int) + 1)), (3, vi z3), (2, vi (((gn y : Nat) : Int))), (0, .ref 170), (1, vi p)]) (st2 := [vi ((-1)), .ref 170]) 2 (fun _ _ => rfl) ?_
  refine wr_put (z := (-1)) rfl rfl rfl rfl (by decide) rfl (by decide) rfl (show -2147483648 ≤ (-1) ∧ (-1) ≤ 2147483647 by omega) (hf_int' _) ?_
  show wr (d + 489) tb_M129 384 [(5, vi i5), (4, vi ((N : Int) + 1)), (3, vi z3), (2, vi (((gn y : Nat) : Int))), (0, .ref 170), (1, vi p)] [] (up2 (up2 (up2 (up2 (up2 (up2 (up2 (up2 s.1 195 (gn y) (s.1 170 22)) 196 (gn y) (s.1 170 23)) 197 (gn y) (s.1 170 24)) 198 (gn y) (s.1 170 25)) 199 (gn y) z18) 170 14 ((N : Int) + 1)) 170 15 z3) 170 35 ((-1)), s.2) _
  have hR24 : RF (up2 (up2 (up2 (up2 (up2 (up2 (up2 (up2 s.1 195 (gn y) (s.1 170 22)) 196 (gn y) (s.1 170 23)) 197 (gn y) (s.1 170 24)) 198 (gn y) (s.1 170 25)) 199 (gn y) z18) 170 14 ((N : Int) + 1)) 170 15 z3) 170 35 ((-1))) := (RF_up (RF_up (RF_up (RF_up (RF_up (RF_up (RF_up (RF_up hR rfl) rfl) rfl) rfl) rfl) rfl) rfl) rfl)
  refine wr_n (pc2 := 386) (lv2 := [(5, vi i5), (4, vi ((N : Int) + 1)), (3, vi z3), (2, vi (((gn y : Nat) : Int))), (0, .ref 170), (1, vi p)]) (st2 := [vi 0, .ref 170]) 2 (fun _ _ => rfl) ?_
  refine wr_put (z := 0) rfl rfl rfl rfl (by decide) rfl (by decide) rfl (show 0 ≤ 0 ∧ 0 ≤ 1 by omega) (fit_i (.inr (.inl rfl)) (show 0 ≤ 0 ∧ 0 ≤ 1 by omega)) ?_
  show wr (d + 489) tb_M129 389 [(5, vi i5), (4, vi ((N : Int) + 1)), (3, vi z3), (2, vi (((gn y : Nat) : Int))), (0, .ref 170), (1, vi p)] [] (up2 (up2 (up2 (up2 (up2 (up2 (up2 (up2 (up2 s.1 195 (gn y) (s.1 170 22)) 196 (gn y) (s.1 170 23)) 197 (gn y) (s.1 170 24)) 198 (gn y) (s.1 170 25)) 199 (gn y) z18) 170 14 ((N : Int) + 1)) 170 15 z3) 170 35 ((-1))) 170 37 0, s.2) _
  have hR25 : RF (up2 (up2 (up2 (up2 (up2 (up2 (up2 (up2 (up2 s.1 195 (gn y) (s.1 170 22)) 196 (gn y) (s.1 170 23)) 197 (gn y) (s.1 170 24)) 198 (gn y) (s.1 170 25)) 199 (gn y) z18) 170 14 ((N : Int) + 1)) 170 15 z3) 170 35 ((-1))) 170 37 0) := (RF_up (RF_up (RF_up (RF_up (RF_up (RF_up (RF_up (RF_up (RF_up hR rfl) rfl) rfl) rfl) rfl) rfl) rfl) rfl) rfl)
  refine wr_n (pc2 := 390) (lv2 := [(5, vi i5), (4, vi ((N : Int) + 1)), (3, vi z3), (2, vi (((gn y : Nat) : Int))), (0, .ref 170), (1, vi p)]) (st2 := [vi 1]) 1 (fun _ _ => rfl) ?_
  refine wr_end (fun _ _ => rfl) ?_
  have hfr : FR C s.1 (up2 (up2 (up2 (up2 (up2 (up2 (up2 (up2 (up2 s.1 195 (gn y) (s.1 170 22)) 196 (gn y) (s.1 170 23)) 197 (gn y) (s.1 170 24)) 198 (gn y) (s.1 170 25)) 199 (gn y) z18) 170 14 ((N : Int) + 1)) 170 15 z3) 170 35 ((-1))) 170 37 0) := (FR_up (FR_up (FR_up (FR_up (FR_up (FR_up (FR_up (FR_up (FR_up FR_rf (by unfold PS; omega)) (by unfold PS; omega)) (by unfold PS; omega)) (by unfold PS; omega)) (by unfold PS; omega)) (by unfold PS; omega)) (by unfold PS; omega)) (by unfold PS; omega)) (by unfold PS; omega))
  have h2p : 2 ^ gn y < 4096 := by have h8 : 2 ^ gn y < 2 ^ 12 := Nat.pow_lt_pow_right (by omega) hg12; omega
  obtain ⟨y2, hy2⟩ := DI_end (r2 := up2 (up2 (up2 (up2 (up2 (up2 (up2 (up2 (up2 s.1 195 (gn y) (s.1 170 22)) 196 (gn y) (s.1 170 23)) 197 (gn y) (s.1 170 24)) 198 (gn y) (s.1 170 25)) 199 (gn y) z18) 170 14 ((N : Int) + 1)) 170 15 z3) 170 35 ((-1))) 170 37 0) hC hP hI.2.2.2.2.2.2.2.2 hI.2.1 (fun k j e1 e2 => ((if_neg (by omega)).trans ((if_neg (by omega)).trans ((if_neg (by omega)).trans ((if_neg (by omega)).trans ((if_neg (by omega)).trans ((if_neg (by omega)).trans ((if_neg (by omega)).trans ((if_neg (by omega)).trans ((if_neg (by omega)).trans rfl)))))))))) (fun cm h1 h2 => (((if_neg (by omega)).trans ((if_neg (by omega)).trans ((if_neg (by omega)).trans ((if_neg (by omega)).trans up_self))))).trans (h20 cm (2 ^ gn y) h1 (h17 (gn y) rfl rfl hg12) h2 h2p)) (((if_neg (by omega)).trans ((if_neg (by omega)).trans ((if_neg (by omega)).trans up_self)))) (((if_neg (by omega)).trans up_self)) (by rcases hp01 with h8 | h8 <;> omega) hI.2.2.1 hI.2.2.2.1.1 ⟨hI.2.2.2.1.2.1, hI.2.2.2.1.2.2.1, hI.2.2.2.1.2.2.2.1, hI.2.2.2.1.2.2.2.2.1⟩ hI.2.2.2.1.2.2.2.2.2.1 hI.2.2.2.1.2.2.2.2.2.2.1 hI.2.2.2.1.2.2.2.2.2.2.2.1 hI.2.2.2.1.2.2.2.2.2.2.2.2 hI.2.2.2.2.1 hI.2.2.2.2.2.1 hI.2.2.2.2.2.2.1 hI.2.2.2.2.2.2.2.1
  exact ⟨1, rfl, hc0, Or.inr ⟨rfl, FR_RF hC hfr hR, FR_tr hF0 hfr, hf0, y2, _, hy2⟩⟩
set_option maxHeartbeats 20000000 in
set_option maxRecDepth 100000 in
theorem rt_loop {d C mr N kd e m k1 : Nat} {y : gH} {p z3 : Int} {s0 : rS} (hC : C = 177 ∨ C = 186) (hp01 : pk p kd) (hz3 : i32 z3) : ∀ (w : Nat) (i : Int) (s : rS), (5 - i).toNat = w → RF s.1 → FR C s0.1 s.1 → s.2 = s0.2 → s0.1 170 5 + 1 ≤ s.1 170 5 → RE C y mr e m k1 N kd s.1 → (0 ≤ i ∧ i ≤ 4) → wr (d + 489) tb_M129 277 [(5, vi i), (4, vi ((N : Int) + 1)), (3, vi z3), (2, vi (((gn y : Nat) : Int))), (0, .ref 170), (1, vi p)] [] s (DP C s0) := by
  intro w
  induction w using Nat.strongRecOn with | ind w ih => ?_
  intro i s hw hR hF0 hc0 hf0 hI hi
  have hP := hI.1
  have hnr := nr_of hP
  have hq := hI.2.2.2.1
  have hg12 : gn y < 12 := by have h8 := hP.2.2.2.1; have h9 := hP.2.2.2.2.2.1; unfold CT at h8; have h7 := hI.2.1; omega
  refine wr_n (pc2 := 280) (lv2 := [(5, vi i), (4, vi ((N : Int) + 1)), (3, vi z3), (2, vi (((gn y : Nat) : Int))), (0, .ref 170), (1, vi p)]) (st2 := [.ref 170, vi i]) 2 (fun _ _ => rfl) ?_
  refine wr_get (v := .ref 201) rfl rfl rfl (by decide) (rv_ref (hR 170 33 201 rfl)) fun h1 => ?_
  show wr (d + 489) tb_M129 283 [(5, vi i), (4, vi ((N : Int) + 1)), (3, vi z3), (2, vi (((gn y : Nat) : Int))), (0, .ref 170), (1, vi p)] [.ref 201, vi i] s _
  refine wr_n (pc2 := 284) (lv2 := [(5, vi i), (4, vi ((N : Int) + 1)), (3, vi z3), (2, vi (((gn y : Nat) : Int))), (0, .ref 170), (1, vi p)]) (st2 := [vi (((gn y : Nat) : Int)), .ref 201, vi i]) 1 (fun _ _ => rfl) ?_
  refine wr_ald (a := ((gn y : Nat) : Int)) (v := vi (s.1 201 (gn y))) rfl rfl rfl (by omega) (by omega) (by decide) rfl fun h2 => ?_
  have h2 : -2147483648 ≤ s.1 201 (gn y) ∧ s.1 201 (gn y) ≤ 2147483647 := h2
  show wr (d + 489) tb_M129 285 [(5, vi i), (4, vi ((N : Int) + 1)), (3, vi z3), (2, vi (((gn y : Nat) : Int))), (0, .ref 170), (1, vi p)] [vi (s.1 201 (gn y)), vi i] s _
  by_cases h3 : s.1 201 (gn y) ≤ i
  · refine wr_if2t rfl rfl (by unfold i32; omega) (by unfold i32; omega) h3 ?_
    exact rt_fin hC hR hF0 hc0 hf0 hp01 hz3 hI
  · refine wr_if2f rfl rfl (by unfold i32; omega) (by unfold i32; omega) h3 ?_
    refine wr_n (pc2 := 290) (lv2 := [(5, vi i), (4, vi ((N : Int) + 1)), (3, vi z3), (2, vi (((gn y : Nat) : Int))), (0, .ref 170), (1, vi p)]) (st2 := [.ref 170, .ref 170]) 2 (fun _ _ => rfl) ?_
    refine wr_get (v := vl (s.1 170 22)) rfl rfl rfl (by decide) rfl fun h4 => ?_
    show wr (d + 489) tb_M129 293 [(5, vi i), (4, vi ((N : Int) + 1)), (3, vi z3), (2, vi (((gn y : Nat) : Int))), (0, .ref 170), (1, vi p)] [vl (s.1 170 22), .ref 170] s _
    refine wr_n (pc2 := 295) (lv2 := [(5, vi i), (4, vi ((N : Int) + 1)), (3, vi z3), (2, vi (((gn y : Nat) : Int))), (0, .ref 170), (1, vi p)]) (st2 := [.ref 170, vl 1, vl (s.1 170 22), .ref 170]) 2 (fun _ _ => rfl) ?_
    refine wr_get (v := .ref 202) rfl rfl rfl (by decide) (rv_ref (hR 170 34 202 rfl)) fun h5 => ?_
    show wr (d + 489) tb_M129 298 [(5, vi i), (4, vi ((N : Int) + 1)), (3, vi z3), (2, vi (((gn y : Nat) : Int))), (0, .ref 170), (1, vi p)] [.ref 202, vl 1, vl (s.1 170 22), .ref 170] s _
    refine wr_n (pc2 := 299) (lv2 := [(5, vi i), (4, vi ((N : Int) + 1)), (3, vi z3), (2, vi (((gn y : Nat) : Int))), (0, .ref 170), (1, vi p)]) (st2 := [vi (((gn y : Nat) : Int)), .ref 202, vl 1, vl (s.1 170 22), .ref 170]) 1 (fun _ _ => rfl) ?_
    refine wr_ald (a := ((gn y : Nat) : Int)) (v := vi (s.1 202 (gn y))) rfl rfl rfl (by omega) (by omega) (by decide) rfl fun h6 => ?_
    have h6 : -2147483648 ≤ s.1 202 (gn y) ∧ s.1 202 (gn y) ≤ 2147483647 := h6
    show wr (d + 489) tb_M129 300 [(5, vi i), (4, vi ((N : Int) + 1)), (3, vi z3), (2, vi (((gn y : Nat) : Int))), (0, .ref 170), (1, vi p)] [vi (s.1 202 (gn y)), vl 1, vl (s.1 170 22), .ref 170] s _
    refine wr_n (pc2 := 302) (lv2 := [(5, vi i), (4, vi ((N : Int) + 1)), (3, vi z3), (2, vi (((gn y : Nat) : Int))), (0, .ref 170), (1, vi p)]) (st2 := [vi i, vi (s.1 202 (gn y)), vl 1, vl (s.1 170 22), .ref 170]) 1 (fun _ _ => rfl) ?_
    refine wr_add (a := s.1 202 (gn y)) (b := i) rfl ?_
    show wr (d + 489) tb_M129 303 [(5, vi i), (4, vi ((N : Int) + 1)), (3, vi z3), (2, vi (((gn y : Nat) : Int))), (0, .ref 170), (1, vi p)] [vi (s.1 202 (gn y) + i), vl 1, vl (s.1 170 22), .ref 170] s _
    refine wr_lshl (a := 1) (b := s.1 202 (gn y) + i) rfl fun z7 h8 h9 => ?_
    show wr (d + 489) tb_M129 304 [(5, vi i), (4, vi ((N : Int) + 1)), (3, vi z3), (2, vi (((gn y : Nat) : Int))), (0, .ref 170), (1, vi p)] [vl z7, vl (s.1 170 22), .ref 170] s _
    refine wr_lor (a := s.1 170 22) (b := z7) rfl fun z10 h11 h12 => ?_
    show wr (d + 489) tb_M129 305 [(5, vi i), (4, vi ((N : Int) + 1)), (3, vi z3), (2, vi (((gn y : Nat) : Int))), (0, .ref 170), (1, vi p)] [vl z10, .ref 170] s _
    refine wr_put (z := z10) rfl rfl rfl rfl (by decide) rfl (by decide) rfl h11 (fit_l _) ?_
    show wr (d + 489) tb_M129 308 [(5, vi i), (4, vi ((N : Int) + 1)), (3, vi z3), (2, vi (((gn y : Nat) : Int))), (0, .ref 170), (1, vi p)] [] (up2 s.1 170 22 z10, s.2) _
    have hR13 : RF (up2 s.1 170 22 z10) := (RF_up hR rfl)
    refine wr_inc (a := i) rfl rfl ?_
    show wr (d + 489) tb_M129 311 [(5, vi (i + 1)), (4, vi ((N : Int) + 1)), (3, vi z3), (2, vi (((gn y : Nat) : Int))), (0, .ref 170), (1, vi p)] [] (up2 s.1 170 22 z10, s.2) _
    refine wr_n (pc2 := 277) (lv2 := [(5, vi (i + 1)), (4, vi ((N : Int) + 1)), (3, vi z3), (2, vi (((gn y : Nat) : Int))), (0, .ref 170), (1, vi p)]) (st2 := []) 1 (fun _ _ => rfl) ?_
    obtain ⟨sn, hsn⟩ : ∃ qq9 : rS, qq9 = (up2 s.1 170 22 z10, s.2) := ⟨_, rfl⟩
    rw [← hsn]
    have hu : U1 170 22 s.1 sn.1 := by rw [hsn]; exact U1_up
    have hfr : FR C s.1 sn.1 := fun k j hn => hu k j (fun q => hn (by unfold PS; omega))
    exact ih _ (by omega) _ _ rfl (FR_RF hC hfr hR) (FR_tr hF0 hfr) (by rw [hsn]; exact hc0) (by rw [hu 170 5 (by omega)]; exact hf0) (RE_22 hC hI hu) (by omega)
set_option maxHeartbeats 20000000 in
set_option maxRecDepth 100000 in
theorem rt_back {d C mr N kd e m k1 : Nat} {y : gH} {p z3 : Int} {s0 s : rS} (hC : C = 177 ∨ C = 186) (hR : RF s.1) (hF0 : FR C s0.1 s.1) (hc0 : s.2 = s0.2) (hf0 : s0.1 170 5 + 1 ≤ s.1 170 5) (hp01 : pk p kd) (hz3 : i32 z3) (hmb : MB (gn y) (s.1 170 26)) (hI : RQ C y mr N kd s.1) (he : s.1 200 (gn y) = (e : Int)) (hpp : 0 ≤ s.1 201 (gn y) ∧ s.1 201 (gn y) ≤ 4 ∧ 0 ≤ s.1 202 (gn y) ∧ s.1 202 (gn y) + s.1 201 (gn y) ≤ 24) (hmr : mr ≤ e) (hem : e ≤ m) (hm : s.1 C 1 = (m : Int)) (hnum : s.1 C 1 + 9 ≤ 12 * s.1 170 5 ∧ gk y (gn y) ≤ k1 ∧ 3 * (k1 : Int) ≤ s.1 170 5) (hSG : s.1 170 21 < 0 → SG (ga y) (s.1 (C + 1)) (gG y) e m 0 (kd - 2) ((s.1 170 5).toNat - 1) (gn y) (SZ (gk y) (s.1 170 26).toNat (gk y (gn y)) k1)) : wr (d + 489) tb_M129 267 [(4, vi ((N : Int) + 1)), (3, vi z3), (2, vi (((gn y : Nat) : Int))), (0, .ref 170), (1, vi p)] [] s (DP C s0) := by
  have hP := hI.1
  have hnr := nr_of hP
  have hx0 := LX_nums hP
  have hgt := gt_of hP
  unfold i32 at hz3
  have hN := hI.2.2.2.1
  unfold RQn at hN
  refine wr_n (pc2 := 270) (lv2 := [(4, vi ((N : Int) + 1)), (3, vi z3), (2, vi (((gn y : Nat) : Int))), (0, .ref 170), (1, vi p)]) (st2 := [vi 12, .ref 170]) 2 (fun _ _ => rfl) ?_
  refine wr_call1 (args := [vi 12]) (rest := []) rfl rfl rfl rfl (Nat.le_of_ble_eq_true rfl) (cr_mono (x_put (d := d + 488) (m := m) (v := 12) hC _ hR hP (by unfold i32; omega) hm (by omega)) ?_)
  rintro s2 out ⟨rfl, hc1, hR1, hBk1, hK1, hm1, hp1, hda1⟩
  · refine ⟨_, rfl, ?_⟩
    show wr (d + 489) tb_M129 273 [(4, vi ((N : Int) + 1)), (3, vi z3), (2, vi (((gn y : Nat) : Int))), (0, .ref 170), (1, vi p)] [vi (((m : Nat) : Int))] s2 _
    obtain ⟨hu1, hk1⟩ := id hK1
    have hB4 : BX C (gn y) s.1 s2.1 := BX_tr hC (PI_rf hP) hBk1
    have hP4 : PI C y s2.1 := PI_BX hC hP hB4
    have hQ4 : CS s.1 s2.1 := CS_tr (CS_rf (r := s.1)) (KC_CS hK1)
    have hz4 : s2.2 = s.2 := hc1.trans rfl
    have hF4 : s2.1 170 4 = s.1 170 4 ∧ s2.1 170 5 = s.1 170 5 ∧ s2.1 170 6 = s.1 170 6 ∧ s2.1 170 7 = s.1 170 7 ∧ s2.1 170 14 = s.1 170 14 ∧ s2.1 170 16 = s.1 170 16 ∧ s2.1 170 21 = s.1 170 21 ∧ s2.1 C 3 = s.1 C 3 ∧ s2.1 C 10 = s.1 C 10 ∧ s.1 170 5 + 0 ≤ s2.1 170 5 ∧ 0 ≤ s2.1 170 5 ∧ s2.1 170 5 ≤ s2.1 170 6 ∧ s2.1 170 6 ≤ 2000 := by omega
    clear hk1 hp1
    refine wr_n (pc2 := 277) (lv2 := [(5, vi 0), (4, vi ((N : Int) + 1)), (3, vi z3), (2, vi (((gn y : Nat) : Int))), (0, .ref 170), (1, vi p)]) (st2 := []) 3 (fun _ _ => rfl) ?_
    have hRE : RE C y mr e m k1 N kd s2.1 := ⟨hP4, (hBk1.1 170 35 (by unfold SS; omega)).trans hI.2.1, NO_BX hC hI.2.2.1 hBk1, ⟨(hBk1.1 200 _ (by unfold SS; omega)).trans he, by rw [hBk1.1 201 _ (by unfold SS; omega), hBk1.1 202 _ (by unfold SS; omega)]; exact ⟨hpp.1, hpp.2.1, hpp.2.2.1, hpp.2.2.2, hmr, hem, hm1, hda1⟩⟩, by omega, hI.2.2.2.2.1, fun hpar => EV_agr (fun p hp => BX_code hC hBk1 (by omega)) (hI.2.2.2.2.2 (BX_po hBk1 hpar)), fun hpar => ?_, BX_mb hBk1 hmb⟩
    · exact rt_loop hC hp01 hz3 _ _ _ rfl hR1 (FR_tr hF0 (BX_FR hBk1)) (hz4.trans hc0) (by omega) hRE (by omega)
    · have h26 : s2.1 170 26 = s.1 170 26 := hK1.2.2.2.2.2.2.2.2.2
      rw [h26]
      exact SG_mono (by omega) (fun _ q => q) (SG_agr (fun p _ hp => BX_code hC hBk1 (by omega)) (hSG (BX_po hBk1 hpar)))
set_option maxHeartbeats 20000000 in
set_option maxRecDepth 100000 in
theorem rt_code {d C mr N kd m : Nat} {y : gH} {p z3 : Int} {s0 s : rS} (hC : C = 177 ∨ C = 186) (hR : RF s.1) (hF0 : FR C s0.1 s.1) (hc0 : s.2 = s0.2) (hf0 : s0.1 170 5 + 1 ≤ s.1 170 5) (hp01 : pk p kd) (hz3 : i32 z3) (hBl : CBl 63) (hBo : CBo 0) (hmb : MB (gn y) (s.1 170 26)) (hI : RQ C y mr N kd s.1) (he : s.1 200 (gn y) = (m : Int)) (hpp : RQp C y s.1) (hm : s.1 C 1 = (m : Int)) : wr (d + 489) tb_M129 243 [(4, vi ((N : Int) + 1)), (3, vi z3), (2, vi (((gn y : Nat) : Int))), (0, .ref 170), (1, vi p)] [] s (DP C s0) := by
  have hP := hI.1
  have hnr := nr_of hP
  have hx0 := LX_nums hP
  have hgt := gt_of hP
  unfold i32 at hz3
  have hN := hI.2.2.2.1
  unfold RQn at hN
  have hko := hI.2.2.2.2.1
  have hp2 : 0 ≤ p ∧ p ≤ 1 := by unfold pk at hp01; omega
  refine wr_n (pc2 := 244) (lv2 := [(4, vi ((N : Int) + 1)), (3, vi z3), (2, vi (((gn y : Nat) : Int))), (0, .ref 170), (1, vi p)]) (st2 := [vi p]) 1 (fun _ _ => rfl) ?_
  by_cases h1 : p = 0
  · refine wr_if1t rfl rfl (by unfold i32; omega) h1 ?_
    refine wr_n (pc2 := 259) (lv2 := [(4, vi ((N : Int) + 1)), (3, vi z3), (2, vi (((gn y : Nat) : Int))), (0, .ref 170), (1, vi p)]) (st2 := [.ref 170]) 1 (fun _ _ => rfl) ?_
    refine wr_call1 (args := []) (rest := []) rfl rfl rfl rfl (Nat.le_of_ble_eq_true rfl) (cr_mono (cr_up (d := 470) (by omega) (hBo C y m ((gk y (gn y))) _ hC hR hP hmb hm (by unfold NS; omega) (by omega) hko)) ?_)
    rintro s3 out ⟨b, rfl, hc2, ⟨rfl, hF2⟩ | ⟨rfl, hR2, hBk2, hS2, hN2, w2, k2, hm2, hkk2, hE2⟩⟩
    · refine ⟨_, rfl, ?_⟩
      show wr (d + 489) tb_M129 262 [(4, vi ((N : Int) + 1)), (3, vi z3), (2, vi (((gn y : Nat) : Int))), (0, .ref 170), (1, vi p)] [vi 0] s3 _
      refine wr_n (pc2 := 266) (lv2 := [(4, vi ((N : Int) + 1)), (3, vi z3), (2, vi (((gn y : Nat) : Int))), (0, .ref 170), (1, vi p)]) (st2 := [vi 0]) 2 (fun _ _ => rfl) ?_
      refine wr_end (fun _ _ => rfl) ?_
      exact ⟨0, rfl, (hc2.trans rfl).trans hc0, Or.inl ⟨rfl, FR_tr hF0 (FR_tr (BX_FR (PI_rf hP)) hF2)⟩⟩
    · refine ⟨_, rfl, ?_⟩
      show wr (d + 489) tb_M129 262 [(4, vi ((N : Int) + 1)), (3, vi z3), (2, vi (((gn y : Nat) : Int))), (0, .ref 170), (1, vi p)] [vi 1] s3 _
      unfold NXB at hN2
      have hB6 : BX C (gn y) s.1 s3.1 := BX_tr hC (PI_rf hP) hBk2
      have hP6 : PI C y s3.1 := PI_BX hC hP hB6
      have hQ6 : CS s.1 s3.1 := CS_tr (CS_rf (r := s.1)) hS2
      have hz6 : s3.2 = s.2 := hc2.trans rfl
      have hF6 := LX_nums hP6
      refine wr_n (pc2 := 267) (lv2 := [(4, vi ((N : Int) + 1)), (3, vi z3), (2, vi (((gn y : Nat) : Int))), (0, .ref 170), (1, vi p)]) (st2 := []) 1 (fun _ _ => rfl) ?_
      have hRQ : RQ C y mr N kd s3.1 := RQ_BX hC hI hBk2 (by unfold RQn; omega)
      have hkd : kd = 3 := by unfold pk at hp01; omega
      have hC4 := PI_C4 hP
      unfold RQp at hpp
      refine rt_back (k1 := k2) hC hR2 (FR_tr hF0 (BX_FR hBk2)) (hz6.trans hc0) (by omega) hp01 (by unfold i32; omega) (BX_mb hBk2 hmb) hRQ ((hBk2.1 200 _ (by unfold SS; omega)).trans he) (by rw [hBk2.1 201 _ (by unfold SS; omega), hBk2.1 202 _ (by unfold SS; omega)]; omega) (by omega) (by omega) hm2 (by omega) ?_
      intro hpar
      subst hkd
      exact hE2 hpar
  · refine wr_if1f rfl rfl (by unfold i32; omega) h1 ?_
    refine wr_n (pc2 := 249) (lv2 := [(4, vi ((N : Int) + 1)), (3, vi z3), (2, vi (((gn y : Nat) : Int))), (0, .ref 170), (1, vi p)]) (st2 := [vi 0, .ref 170]) 2 (fun _ _ => rfl) ?_
    refine wr_call1 (args := [vi 0]) (rest := []) rfl rfl rfl rfl (Nat.le_of_ble_eq_true rfl) (cr_mono ((cr_up (d := 463) (by omega) (hBl C y m ((gk y (gn y))) _ 0 hC hR hP hmb hm (by unfold NS; omega) (by omega) (by omega) hko))) ?_)
    rintro s8 out ⟨b, rfl, hc7, ⟨rfl, hF7⟩ | ⟨rfl, hR7, hBk7, hS7, hN7, w7, k7, hm7, hkk7, hE7⟩⟩
    · refine ⟨_, rfl, ?_⟩
      show wr (d + 489) tb_M129 252 [(4, vi ((N : Int) + 1)), (3, vi z3), (2, vi (((gn y : Nat) : Int))), (0, .ref 170), (1, vi p)] [vi 0] s8 _
      refine wr_n (pc2 := 266) (lv2 := [(4, vi ((N : Int) + 1)), (3, vi z3), (2, vi (((gn y : Nat) : Int))), (0, .ref 170), (1, vi p)]) (st2 := [vi 0]) 2 (fun _ _ => rfl) ?_
      refine wr_end (fun _ _ => rfl) ?_
      exact ⟨0, rfl, (hc7.trans rfl).trans hc0, Or.inl ⟨rfl, FR_tr hF0 (FR_tr (BX_FR (PI_rf hP)) hF7)⟩⟩
    · refine ⟨_, rfl, ?_⟩
      show wr (d + 489) tb_M129 252 [(4, vi ((N : Int) + 1)), (3, vi z3), (2, vi (((gn y : Nat) : Int))), (0, .ref 170), (1, vi p)] [vi 1] s8 _
      unfold NXS at hN7
      have hB11 : BX C (gn y) s.1 s8.1 := BX_tr hC (PI_rf hP) hBk7
      have hP11 : PI C y s8.1 := PI_BX hC hP hB11
      have hQ11 : CS s.1 s8.1 := CS_tr (CS_rf (r := s.1)) hS7
      have hz11 : s8.2 = s.2 := hc7.trans rfl
      have hF11 := LX_nums hP11
      refine wr_n (pc2 := 267) (lv2 := [(4, vi ((N : Int) + 1)), (3, vi z3), (2, vi (((gn y : Nat) : Int))), (0, .ref 170), (1, vi p)]) (st2 := []) 2 (fun _ _ => rfl) ?_
      have hRQ : RQ C y mr N kd s8.1 := RQ_BX hC hI hBk7 (by unfold RQn; omega)
      have hkd : kd = 2 := by unfold pk at hp01; omega
      have hC4 := PI_C4 hP
      unfold RQp at hpp
      refine rt_back (k1 := k7) hC hR7 (FR_tr hF0 (BX_FR hBk7)) (hz11.trans hc0) (by omega) hp01 (by unfold i32; omega) (BX_mb hBk7 hmb) hRQ ((hBk7.1 200 _ (by unfold SS; omega)).trans he) (by rw [hBk7.1 201 _ (by unfold SS; omega), hBk7.1 202 _ (by unfold SS; omega)]; omega) (by omega) (by omega) hm7 (by omega) ?_
      intro hpar
      subst hkd
      exact hE7 hpar
