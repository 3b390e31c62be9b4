set_option maxHeartbeats 20000000 in
set_option maxRecDepth 100000 in
theorem w1_11 {d C b p na : Nat} {F : Ph} {G : Nat → gB} {own : Nat → Nat → Prop} {s : rS} (hC : C = 177 ∨ C = 186) (hR : RF s.1) (hM : MC C F na s.1) (hI : RI F s.1 G own) (hb7 : b < 700) (hb : (b : Int) < s.1 170 55) (hg : s.1 206 b = 1) (hst : s.1 170 52 = 2) (hsteps : 0 ≤ s.1 170 53 ∧ s.1 170 53 ≤ s.1 170 54 ∧ s.1 170 54 ≤ 20000) (hp5 : s.1 205 b = (p : Int)) (ht0 : s.1 208 b = (bb (G b) (bn (G b)) : Int) + bh (G b) (bn (G b)) ∧ 0 ≤ s.1 208 b ∧ s.1 208 b ≤ 1000) (hrm : bb (G b) (bn (G b)) + frm (bx (G b) (bn (G b))) ≤ 1000) (hk : s.1 (C + 1) p = 11) (hik : ik na (s.1 (C + 1)) F p (bh (G b) (bn (G b))) (bw (G b) (bn (G b))) (bx (G b) (bn (G b))) 11) : wr (d + 5) tb_M165 0 [(0, .ref 170), (1, vi ((b : Int)))] [] s (ON F G b s) := by
  obtain ⟨a, t, w2, w3, y, q1, y0, y1, y2, y3, y4, y5, k1, k2⟩ := hik
  have hB0 := (hI.2.1 b ⟨hb, by omega⟩).1
  rw [hg] at hB0
  have hb1 := hB0.2.1 (bn (G b)) (Nat.le_refl _)
  unfold B1 at hb1
  obtain ⟨n, hnn⟩ : ∃ n, bn (G b) = n := ⟨_, rfl⟩
  have hn9 : s.1 209 b = (n : Int) := by rw [← hnn]; exact hB0.1
  refine wr_n (pc2 := 1) (lv2 := [(0, .ref 170), (1, vi ((b : Int)))]) (st2 := [.ref 170]) 1 (fun _ _ => rfl) ?_
  refine wr_get (v := .ref 205) rfl rfl rfl (by decide) (rv_ref (hR 170 40 205 rfl)) fun h1 => ?_
  show wr (d + 5) tb_M165 4 [(0, .ref 170), (1, vi ((b : Int)))] [.ref 205] s _
  refine wr_n (pc2 := 5) (lv2 := [(0, .ref 170), (1, vi ((b : Int)))]) (st2 := [vi ((b : Int)), .ref 205]) 1 (fun _ _ => rfl) ?_
  refine wr_ald (a := (b : Int)) (v := vi (s.1 205 b)) rfl rfl rfl (by omega) (by omega) (by decide) rfl fun h2 => ?_
  have h2 : -2147483648 ≤ s.1 205 b ∧ s.1 205 b ≤ 2147483647 := h2
  show wr (d + 5) tb_M165 6 [(0, .ref 170), (1, vi ((b : Int)))] [vi (s.1 205 b)] s _
  refine wr_n (pc2 := 9) (lv2 := [(2, vi (s.1 205 b)), (0, .ref 170), (1, vi ((b : Int)))]) (st2 := [vi ((b : Int)), .ref 170]) 3 (fun _ _ => rfl) ?_
  refine wr_call1 (args := [vi ((b : Int))]) (rest := []) rfl rfl rfl rfl (Nat.le_of_ble_eq_true rfl) (cr_mono (x_readb (d := d + 4) (p := p) hC _ hR hM.1 hb7 hp5 (by omega)) ?_)
  rintro s4 out ⟨rfl, hv3, hc3, hDk3, hp3, ht3⟩
  · refine ⟨_, rfl, ?_⟩
    show wr (d + 5) tb_M165 12 [(2, vi (s.1 205 b)), (0, .ref 170), (1, vi ((b : Int)))] [vi (s.1 (C + 1) (p))] s4 _
    have hcd3 : s.1 (C + 1) (p) = s.1 (C + 1) p := rfl
    rw [hcd3] at hv3
    unfold i32 at hv3
    rw [hk]
    have hD3 : LD b s.1 s4.1 := LD_tr LD_rf hDk3
    have hR3 : RF s4.1 := LD_RF hb7 hD3 hR
    have hz3 : s4.2 = s.2 := hc3.trans rfl
    show wr (d + 5) tb_M165 12 [(2, vi (s.1 205 b)), (0, .ref 170), (1, vi ((b : Int)))] [vi 11] s4 _
    refine wr_n (pc2 := 451) (lv2 := [(3, vi 11), (2, vi (s.1 205 b)), (0, .ref 170), (1, vi ((b : Int)))]) (st2 := [vi ((b : Int)), .ref 170]) 5 (fun _ _ => rfl) ?_
    refine wr_call1 (args := [vi ((b : Int))]) (rest := []) rfl rfl rfl rfl (Nat.le_of_ble_eq_true rfl) (cr_mono (x_readb (d := d + 4) (p := p + 1) hC _ hR3 ((hD3 170 17 (by omega) (by omega) (by omega)).trans hM.1) hb7 hp3 (by omega)) ?_)
    rintro s7 out ⟨rfl, hv6, hc6, hDk6, hp6, ht6⟩
    · refine ⟨_, rfl, ?_⟩
      show wr (d + 5) tb_M165 454 [(3, vi 11), (2, vi (s.1 205 b)), (0, .ref 170), (1, vi ((b : Int)))] [vi (s4.1 (C + 1) (p + 1))] s7 _
      have hcd6 : s4.1 (C + 1) (p + 1) = s.1 (C + 1) (p + 1) := hD3 (C + 1) _ (by omega) (by omega) (by omega)
      rw [hcd6] at hv6
      unfold i32 at hv6
      rw [hcd6]
      have hD6 : LD b s.1 s7.1 := LD_tr hD3 hDk6
      have hR6 : RF s7.1 := LD_RF hb7 hD6 hR
      have hz6 : s7.2 = s.2 := hc6.trans hz3
      show wr (d + 5) tb_M165 454 [(3, vi 11), (2, vi (s.1 205 b)), (0, .ref 170), (1, vi ((b : Int)))] [vi (s.1 (C + 1) (p + 1))] s7 _
      rw [q1]
      show wr (d + 5) tb_M165 454 [(3, vi 11), (2, vi (s.1 205 b)), (0, .ref 170), (1, vi ((b : Int)))] [vi (((t : Nat) : Int))] s7 _
      refine wr_n (pc2 := 457) (lv2 := [(4, vi (((t : Nat) : Int))), (3, vi 11), (2, vi (s.1 205 b)), (0, .ref 170), (1, vi ((b : Int)))]) (st2 := [.ref 170]) 2 (fun _ _ => rfl) ?_
      refine wr_get (v := .ref 920) rfl rfl rfl (by decide) (rv_ref (hR6 170 49 920 rfl)) fun h9 => ?_
      show wr (d + 5) tb_M165 460 [(4, vi (((t : Nat) : Int))), (3, vi 11), (2, vi (s.1 205 b)), (0, .ref 170), (1, vi ((b : Int)))] [.ref 920] s7 _
      refine wr_n (pc2 := 461) (lv2 := [(4, vi (((t : Nat) : Int))), (3, vi 11), (2, vi (s.1 205 b)), (0, .ref 170), (1, vi ((b : Int)))]) (st2 := [vi ((b : Int)), .ref 920]) 1 (fun _ _ => rfl) ?_
      refine wr_ald (a := (b : Int)) (v := .ref (921 + b)) rfl rfl rfl (by omega) (by omega) (by decide) (rv_ref (hR6 920 b (921 + b) (rc_bk (by omega)))) fun h10 => ?_
      show wr (d + 5) tb_M165 462 [(4, vi (((t : Nat) : Int))), (3, vi 11), (2, vi (s.1 205 b)), (0, .ref 170), (1, vi ((b : Int)))] [.ref (921 + b)] s7 _
      refine wr_n (pc2 := 463) (lv2 := [(4, vi (((t : Nat) : Int))), (3, vi 11), (2, vi (s.1 205 b)), (0, .ref 170), (1, vi ((b : Int)))]) (st2 := [.ref 170, .ref (921 + b)]) 1 (fun _ _ => rfl) ?_
      refine wr_get (v := .ref 209) rfl rfl rfl (by decide) (rv_ref (hR6 170 44 209 rfl)) fun h11 => ?_
      show wr (d + 5) tb_M165 466 [(4, vi (((t : Nat) : Int))), (3, vi 11), (2, vi (s.1 205 b)), (0, .ref 170), (1, vi ((b : Int)))] [.ref 209, .ref (921 + b)] s7 _
      refine wr_n (pc2 := 467) (lv2 := [(4, vi (((t : Nat) : Int))), (3, vi 11), (2, vi (s.1 205 b)), (0, .ref 170), (1, vi ((b : Int)))]) (st2 := [vi ((b : Int)), .ref 209, .ref (921 + b)]) 1 (fun _ _ => rfl) ?_
      refine wr_ald (a := (b : Int)) (v := vi (s7.1 209 b)) rfl rfl rfl (by omega) (by omega) (by decide) rfl fun h12 => ?_
      have h12 : -2147483648 ≤ s7.1 209 b ∧ s7.1 209 b ≤ 2147483647 := h12
      show wr (d + 5) tb_M165 468 [(4, vi (((t : Nat) : Int))), (3, vi 11), (2, vi (s.1 205 b)), (0, .ref 170), (1, vi ((b : Int)))] [vi (s7.1 209 b), .ref (921 + b)] s7 _
      rw [hD6 209 b (by omega) (by omega) (by omega), hn9]
      show wr (d + 5) tb_M165 468 [(4, vi (((t : Nat) : Int))), (3, vi 11), (2, vi (s.1 205 b)), (0, .ref 170), (1, vi ((b : Int)))] [vi ((n : Int)), .ref (921 + b)] s7 _
      refine wr_n (pc2 := 469) (lv2 := [(4, vi (((t : Nat) : Int))), (3, vi 11), (2, vi (s.1 205 b)), (0, .ref 170), (1, vi ((b : Int)))]) (st2 := [.ref 170, vi ((n : Int)), .ref (921 + b)]) 1 (fun _ _ => rfl) ?_
      refine wr_get (v := .ref 205) rfl rfl rfl (by decide) (rv_ref (hR6 170 40 205 rfl)) fun h13 => ?_
      show wr (d + 5) tb_M165 472 [(4, vi (((t : Nat) : Int))), (3, vi 11), (2, vi (s.1 205 b)), (0, .ref 170), (1, vi ((b : Int)))] [.ref 205, vi ((n : Int)), .ref (921 + b)] s7 _
      refine wr_n (pc2 := 473) (lv2 := [(4, vi (((t : Nat) : Int))), (3, vi 11), (2, vi (s.1 205 b)), (0, .ref 170), (1, vi ((b : Int)))]) (st2 := [vi ((b : Int)), .ref 205, vi ((n : Int)), .ref (921 + b)]) 1 (fun _ _ => rfl) ?_
      refine wr_ald (a := (b : Int)) (v := vi (s7.1 205 b)) rfl rfl rfl (by omega) (by omega) (by decide) rfl fun h14 => ?_
      have h14 : -2147483648 ≤ s7.1 205 b ∧ s7.1 205 b ≤ 2147483647 := h14
      show wr (d + 5) tb_M165 474 [(4, vi (((t : Nat) : Int))), (3, vi 11), (2, vi (s.1 205 b)), (0, .ref 170), (1, vi ((b : Int)))] [vi (s7.1 205 b), vi ((n : Int)), .ref (921 + b)] s7 _
      rw [hp6]
      show wr (d + 5) tb_M165 474 [(4, vi (((t : Nat) : Int))), (3, vi 11), (2, vi (s.1 205 b)), (0, .ref 170), (1, vi ((b : Int)))] [vi (((p + 2 : Nat) : Int)), vi ((n : Int)), .ref (921 + b)] s7 _
      refine wr_ast (a := (n : Int)) (z := ((p + 2 : Nat) : Int)) rfl (show 96 ≤ 921 + b by omega) (TG_bk (by omega)) rfl (by omega) (by omega) (by decide) rfl (show -2147483648 ≤ ((p + 2 : Nat) : Int) ∧ ((p + 2 : Nat) : Int) ≤ 2147483647 by omega) ?_
      show wr (d + 5) tb_M165 475 [(4, vi (((t : Nat) : Int))), (3, vi 11), (2, vi (s.1 205 b)), (0, .ref 170), (1, vi ((b : Int)))] [] (up2 s7.1 (921 + b) n (((p + 2 : Nat) : Int)), s7.2) _
      have hR15 : RF (up2 s7.1 (921 + b) n (((p + 2 : Nat) : Int))) := (RF_up hR6 (RS_rc (by unfold RS; omega)))
      refine wr_n (pc2 := 476) (lv2 := [(4, vi (((t : Nat) : Int))), (3, vi 11), (2, vi (s.1 205 b)), (0, .ref 170), (1, vi ((b : Int)))]) (st2 := [.ref 170]) 1 (fun _ _ => rfl) ?_
      refine wr_get (v := .ref 209) rfl rfl rfl (by decide) (rv_ref (hR15 170 44 209 rfl)) fun h16 => ?_
      show wr (d + 5) tb_M165 479 [(4, vi (((t : Nat) : Int))), (3, vi 11), (2, vi (s.1 205 b)), (0, .ref 170), (1, vi ((b : Int)))] [.ref 209] (up2 s7.1 (921 + b) n (((p + 2 : Nat) : Int)), s7.2) _
      refine wr_n (pc2 := 481) (lv2 := [(4, vi (((t : Nat) : Int))), (3, vi 11), (2, vi (s.1 205 b)), (0, .ref 170), (1, vi ((b : Int)))]) (st2 := [vi ((b : Int)), .ref 209, vi ((b : Int)), .ref 209]) 2 (fun _ _ => rfl) ?_
      refine wr_ald (a := (b : Int)) (v := vi (s7.1 209 b)) rfl rfl rfl (by omega) (by omega) (by decide) (by show rv _ ((up2 s7.1 (921 + b) n (((p + 2 : Nat) : Int))) 209 b) = _; rw [up_nk (by omega)]; rfl) fun h17 => ?_
      have h17 : rg _ ((up2 s7.1 (921 + b) n (((p + 2 : Nat) : Int))) 209 b) := h17
      rw [up_nk (by omega)] at h17
      have h17 : -2147483648 ≤ s7.1 209 b ∧ s7.1 209 b ≤ 2147483647 := h17
      show wr (d + 5) tb_M165 482 [(4, vi (((t : Nat) : Int))), (3, vi 11), (2, vi (s.1 205 b)), (0, .ref 170), (1, vi ((b : Int)))] [vi (s7.1 209 b), vi ((b : Int)), .ref 209] (up2 s7.1 (921 + b) n (((p + 2 : Nat) : Int)), s7.2) _
      rw [hD6 209 b (by omega) (by omega) (by omega), hn9]
      show wr (d + 5) tb_M165 482 [(4, vi (((t : Nat) : Int))), (3, vi 11), (2, vi (s.1 205 b)), (0, .ref 170), (1, vi ((b : Int)))] [vi ((n : Int)), vi ((b : Int)), .ref 209] (up2 s7.1 (921 + b) n (((p + 2 : Nat) : Int)), s7.2) _
      refine wr_n (pc2 := 483) (lv2 := [(4, vi (((t : Nat) : Int))), (3, vi 11), (2, vi (s.1 205 b)), (0, .ref 170), (1, vi ((b : Int)))]) (st2 := [vi 1, vi ((n : Int)), vi ((b : Int)), .ref 209]) 1 (fun _ _ => rfl) ?_
      refine wr_add (a := (n : Int)) (b := 1) rfl ?_
      show wr (d + 5) tb_M165 484 [(4, vi (((t : Nat) : Int))), (3, vi 11), (2, vi (s.1 205 b)), (0, .ref 170), (1, vi ((b : Int)))] [vi ((n : Int) + 1), vi ((b : Int)), .ref 209] (up2 s7.1 (921 + b) n (((p + 2 : Nat) : Int)), s7.2) _
      refine wr_ast (a := (b : Int)) (z := (n : Int) + 1) rfl (by decide) rfl rfl (by omega) (by omega) (by decide) rfl (show -2147483648 ≤ (n : Int) + 1 ∧ (n : Int) + 1 ≤ 2147483647 by omega) ?_
      show wr (d + 5) tb_M165 485 [(4, vi (((t : Nat) : Int))), (3, vi 11), (2, vi (s.1 205 b)), (0, .ref 170), (1, vi ((b : Int)))] [] (up2 (up2 s7.1 (921 + b) n (((p + 2 : Nat) : Int))) 209 b ((n : Int) + 1), s7.2) _
      have hR18 : RF (up2 (up2 s7.1 (921 + b) n (((p + 2 : Nat) : Int))) 209 b ((n : Int) + 1)) := (RF_up (RF_up hR6 (RS_rc (by unfold RS; omega))) rfl)
      refine wr_n (pc2 := 486) (lv2 := [(4, vi (((t : Nat) : Int))), (3, vi 11), (2, vi (s.1 205 b)), (0, .ref 170), (1, vi ((b : Int)))]) (st2 := [.ref 170]) 1 (fun _ _ => rfl) ?_
      refine wr_get (v := .ref 205) rfl rfl rfl (by decide) (rv_ref (hR18 170 40 205 rfl)) fun h19 => ?_
      show wr (d + 5) tb_M165 489 [(4, vi (((t : Nat) : Int))), (3, vi 11), (2, vi (s.1 205 b)), (0, .ref 170), (1, vi ((b : Int)))] [.ref 205] (up2 (up2 s7.1 (921 + b) n (((p + 2 : Nat) : Int))) 209 b ((n : Int) + 1), s7.2) _
      refine wr_n (pc2 := 492) (lv2 := [(4, vi (((t : Nat) : Int))), (3, vi 11), (2, vi (s.1 205 b)), (0, .ref 170), (1, vi ((b : Int)))]) (st2 := [vi (((t : Nat) : Int)), vi ((b : Int)), .ref 205]) 2 (fun _ _ => rfl) ?_
      refine wr_ast (a := (b : Int)) (z := ((t : Nat) : Int)) rfl (by decide) rfl rfl (by omega) (by omega) (by decide) rfl (show -2147483648 ≤ ((t : Nat) : Int) ∧ ((t : Nat) : Int) ≤ 2147483647 by omega) ?_
      show wr (d + 5) tb_M165 493 [(4, vi (((t : Nat) : Int))), (3, vi 11), (2, vi (s.1 205 b)), (0, .ref 170), (1, vi ((b : Int)))] [] (up2 (up2 (up2 s7.1 (921 + b) n (((p + 2 : Nat) : Int))) 209 b ((n : Int) + 1)) 205 b (((t : Nat) : Int)), s7.2) _
      have hR20 : RF (up2 (up2 (up2 s7.1 (921 + b) n (((p + 2 : Nat) : Int))) 209 b ((n : Int) + 1)) 205 b (((t : Nat) : Int))) := (RF_up (RF_up (RF_up hR6 (RS_rc (by unfold RS; omega))) rfl) rfl)
      refine wr_end (fun _ _ => rfl) ?_
      obtain ⟨sn, hsn⟩ : ∃ qq9 : rS, qq9 = (up2 (up2 (up2 s7.1 (921 + b) n (((p + 2 : Nat) : Int))) 209 b ((n : Int) + 1)) 205 b (((t : Nat) : Int)), s7.2) := ⟨_, rfl⟩
      rw [← hsn]
      have hf1 : ∀ k j, ¬ ((k = 205 ∨ k = 209) ∧ j = b) → ¬ (k = 921 + b) → sn.1 k j = s7.1 k j := by rw [hsn]; intro k j e1 e2; exact ((if_neg (by omega)).trans ((if_neg (by omega)).trans ((if_neg (by omega)).trans rfl)))
      have hfr : ∀ k j, ¬ ((k = 205 ∨ k = 208 ∨ k = 209) ∧ j = b) → ¬ (k = 220 + b) → ¬ (k = 921 + b) → ¬ (k = 203 ∨ k = 204 ∨ 213 ≤ k ∧ k ≤ 218) → sn.1 k j = s.1 k j := fun k j e1 e2 e3 e4 => (hf1 k j (by omega) e3).trans (hD6 k j (by omega) e2 e4)
      have hz : sn.2 = s.2 := by rw [hsn]; exact hz6
      have hv0 : sn.1 (921 + b) n = ((p + 2 : Nat) : Int) := by rw [hsn]; show (up2 (up2 (up2 s7.1 (921 + b) n (((p + 2 : Nat) : Int))) 209 b ((n : Int) + 1)) 205 b (((t : Nat) : Int))) (921 + b) n = _; rw [up_nk (by omega), up_nk (by omega)]; exact up_self
      have hv1 : sn.1 209 b = (n : Int) + 1 := by rw [hsn]; show (up2 (up2 (up2 s7.1 (921 + b) n (((p + 2 : Nat) : Int))) 209 b ((n : Int) + 1)) 205 b (((t : Nat) : Int))) 209 b = _; rw [up_nk (by omega)]; exact up_self
      have hv2 : sn.1 205 b = ((t : Nat) : Int) := by rw [hsn]; show (up2 (up2 (up2 s7.1 (921 + b) n (((p + 2 : Nat) : Int))) 209 b ((n : Int) + 1)) 205 b (((t : Nat) : Int))) 205 b = _; exact up_self
      have hbk9 : ∀ i, i ≠ n → sn.1 (921 + b) i = s.1 (921 + b) i := fun i hi => (show sn.1 (921 + b) i = s7.1 (921 + b) i by rw [hsn]; show (up2 (up2 (up2 s7.1 (921 + b) n (((p + 2 : Nat) : Int))) 209 b ((n : Int) + 1)) 205 b (((t : Nat) : Int))) (921 + b) i = _; rw [up_nk (by omega), up_nk (by omega), up_nj hi]).trans (hD6 (921 + b) i (by omega) (by omega) (by omega))
      have h8s : sn.1 208 b = s.1 208 b := (hf1 208 b (by omega) (by omega)).trans (by omega)
      exact ST_call (own := own) (p := p + 2) (t := t) (y := y) hb7 hR hI hb hg hst (fun k j e1 e2 e3 e4 e5 => hfr k j (by omega) e2 e3 (by omega)) (HD_at hM.2.2.2.2 (fun i => (hfr 1630 i (by omega) (by omega) (by omega) (by omega)))) hz (hfr 170 52 (by omega) (by omega) (by omega) (by omega)) (hfr 170 53 (by omega) (by omega) (by omega) (by omega)) (hfr 206 b (by omega) (by omega) (by omega) (by omega)) (hv1.trans (by rw [hn9])) (fun i hi => hbk9 i (by omega)) (by rw [hnn]; exact hv0) hv2 h8s ⟨y1, y2⟩ y3 y4 y5 k1 k2 (by omega)
set_option maxHeartbeats 20000000 in
set_option maxRecDepth 100000 in
theorem w1_12 {d C b p na : Nat} {F : Ph} {G : Nat → gB} {own : Nat → Nat → Prop} {s : rS} (hC : C = 177 ∨ C = 186) (hR : RF s.1) (hM : MC C F na s.1) (hI : RI F s.1 G own) (hb7 : b < 700) (hb : (b : Int) < s.1 170 55) (hg : s.1 206 b = 1) (hst : s.1 170 52 = 2) (hsteps : 0 ≤ s.1 170 53 ∧ s.1 170 53 ≤ s.1 170 54 ∧ s.1 170 54 ≤ 20000) (hp5 : s.1 205 b = (p : Int)) (ht0 : s.1 208 b = (bb (G b) (bn (G b)) : Int) + bh (G b) (bn (G b)) ∧ 0 ≤ s.1 208 b ∧ s.1 208 b ≤ 1000) (hrm : bb (G b) (bn (G b)) + frm (bx (G b) (bn (G b))) ≤ 1000) (hk : s.1 (C + 1) p = 12) (hik : ik na (s.1 (C + 1)) F p (bh (G b) (bn (G b))) (bw (G b) (bn (G b))) (bx (G b) (bn (G b))) 12) : wr (d + 5) tb_M165 0 [(0, .ref 170), (1, vi ((b : Int)))] [] s (ON F G b s) := by
  obtain ⟨a, w0, e, hh⟩ := hik
  have hB0 := (hI.2.1 b ⟨hb, by omega⟩).1
  rw [hg] at hB0
  have hb1 := hB0.2.1 (bn (G b)) (Nat.le_refl _)
  unfold B1 at hb1
  obtain ⟨m, hmm⟩ : ∃ m, bn (G b) = m + 1 := by
    by_cases h0 : bn (G b) = 0
    · rw [h0] at e
      have h7 := hB0.2.2.2.2.2.2
      omega
    · exact ⟨bn (G b) - 1, by omega⟩
  have hn9 : s.1 209 b = ((m + 1 : Nat) : Int) := by rw [← hmm]; exact hB0.1
  refine wr_n (pc2 := 1) (lv2 := [(0, .ref 170), (1, vi ((b : Int)))]) (st2 := [.ref 170]) 1 (fun _ _ => rfl) ?_
  refine wr_get (v := .ref 205) rfl rfl rfl (by decide) (rv_ref (hR 170 40 205 rfl)) fun h1 => ?_
  show wr (d + 5) tb_M165 4 [(0, .ref 170), (1, vi ((b : Int)))] [.ref 205] s _
  refine wr_n (pc2 := 5) (lv2 := [(0, .ref 170), (1, vi ((b : Int)))]) (st2 := [vi ((b : Int)), .ref 205]) 1 (fun _ _ => rfl) ?_
  refine wr_ald (a := (b : Int)) (v := vi (s.1 205 b)) rfl rfl rfl (by omega) (by omega) (by decide) rfl fun h2 => ?_
  have h2 : -2147483648 ≤ s.1 205 b ∧ s.1 205 b ≤ 2147483647 := h2
  show wr (d + 5) tb_M165 6 [(0, .ref 170), (1, vi ((b : Int)))] [vi (s.1 205 b)] s _
  refine wr_n (pc2 := 9) (lv2 := [(2, vi (s.1 205 b)), (0, .ref 170), (1, vi ((b : Int)))]) (st2 := [vi ((b : Int)), .ref 170]) 3 (fun _ _ => rfl) ?_
  refine wr_call1 (args := [vi ((b : Int))]) (rest := []) rfl rfl rfl rfl (Nat.le_of_ble_eq_true rfl) (cr_mono (x_readb (d := d + 4) (p := p) hC _ hR hM.1 hb7 hp5 (by omega)) ?_)
  rintro s4 out ⟨rfl, hv3, hc3, hDk3, hp3, ht3⟩
  · refine ⟨_, rfl, ?_⟩
    show wr (d + 5) tb_M165 12 [(2, vi (s.1 205 b)), (0, .ref 170), (1, vi ((b : Int)))] [vi (s.1 (C + 1) (p))] s4 _
    have hcd3 : s.1 (C + 1) (p) = s.1 (C + 1) p := rfl
    rw [hcd3] at hv3
    unfold i32 at hv3
    rw [hk]
    have hD3 : LD b s.1 s4.1 := LD_tr LD_rf hDk3
    have hR3 : RF s4.1 := LD_RF hb7 hD3 hR
    have hz3 : s4.2 = s.2 := hc3.trans rfl
    show wr (d + 5) tb_M165 12 [(2, vi (s.1 205 b)), (0, .ref 170), (1, vi ((b : Int)))] [vi 12] s4 _
    refine wr_n (pc2 := 495) (lv2 := [(3, vi 12), (2, vi (s.1 205 b)), (0, .ref 170), (1, vi ((b : Int)))]) (st2 := [.ref 170]) 4 (fun _ _ => rfl) ?_
    refine wr_get (v := .ref 209) rfl rfl rfl (by decide) (rv_ref (hR3 170 44 209 rfl)) fun h6 => ?_
    show wr (d + 5) tb_M165 498 [(3, vi 12), (2, vi (s.1 205 b)), (0, .ref 170), (1, vi ((b : Int)))] [.ref 209] s4 _
    refine wr_n (pc2 := 500) (lv2 := [(3, vi 12), (2, vi (s.1 205 b)), (0, .ref 170), (1, vi ((b : Int)))]) (st2 := [vi ((b : Int)), .ref 209, vi ((b : Int)), .ref 209]) 2 (fun _ _ => rfl) ?_
    refine wr_ald (a := (b : Int)) (v := vi (s4.1 209 b)) rfl rfl rfl (by omega) (by omega) (by decide) rfl fun h7 => ?_
    have h7 : -2147483648 ≤ s4.1 209 b ∧ s4.1 209 b ≤ 2147483647 := h7
    show wr (d + 5) tb_M165 501 [(3, vi 12), (2, vi (s.1 205 b)), (0, .ref 170), (1, vi ((b : Int)))] [vi (s4.1 209 b), vi ((b : Int)), .ref 209] s4 _
    rw [hD3 209 b (by omega) (by omega) (by omega), hn9]
    show wr (d + 5) tb_M165 501 [(3, vi 12), (2, vi (s.1 205 b)), (0, .ref 170), (1, vi ((b : Int)))] [vi (((m + 1 : Nat) : Int)), vi ((b : Int)), .ref 209] s4 _
    refine wr_n (pc2 := 502) (lv2 := [(3, vi 12), (2, vi (s.1 205 b)), (0, .ref 170), (1, vi ((b : Int)))]) (st2 := [vi 1, vi (((m + 1 : Nat) : Int)), vi ((b : Int)), .ref 209]) 1 (fun _ _ => rfl) ?_
    refine wr_sub (a := ((m + 1 : Nat) : Int)) (b := 1) rfl ?_
    show wr (d + 5) tb_M165 503 [(3, vi 12), (2, vi (s.1 205 b)), (0, .ref 170), (1, vi ((b : Int)))] [vi ((((m + 1 : Nat) : Int)) - 1), vi ((b : Int)), .ref 209] s4 _
    rw [show ((m + 1 : Nat) : Int) - 1 = (m : Int) by omega]
    show wr (d + 5) tb_M165 503 [(3, vi 12), (2, vi (s.1 205 b)), (0, .ref 170), (1, vi ((b : Int)))] [vi ((m : Int)), vi ((b : Int)), .ref 209] s4 _
    refine wr_ast (a := (b : Int)) (z := (m : Int)) rfl (by decide) rfl rfl (by omega) (by omega) (by decide) rfl (show -2147483648 ≤ (m : Int) ∧ (m : Int) ≤ 2147483647 by omega) ?_
    show wr (d + 5) tb_M165 504 [(3, vi 12), (2, vi (s.1 205 b)), (0, .ref 170), (1, vi ((b : Int)))] [] (up2 s4.1 209 b ((m : Int)), s4.2) _
    have hR8 : RF (up2 s4.1 209 b ((m : Int))) := (RF_up hR3 rfl)
    refine wr_n (pc2 := 505) (lv2 := [(3, vi 12), (2, vi (s.1 205 b)), (0, .ref 170), (1, vi ((b : Int)))]) (st2 := [.ref 170]) 1 (fun _ _ => rfl) ?_
    refine wr_get (v := .ref 205) rfl rfl rfl (by decide) (rv_ref (hR8 170 40 205 rfl)) fun h9 => ?_
    show wr (d + 5) tb_M165 508 [(3, vi 12), (2, vi (s.1 205 b)), (0, .ref 170), (1, vi ((b : Int)))] [.ref 205] (up2 s4.1 209 b ((m : Int)), s4.2) _
    refine wr_n (pc2 := 510) (lv2 := [(3, vi 12), (2, vi (s.1 205 b)), (0, .ref 170), (1, vi ((b : Int)))]) (st2 := [.ref 170, vi ((b : Int)), .ref 205]) 2 (fun _ _ => rfl) ?_
    refine wr_get (v := .ref 920) rfl rfl rfl (by decide) (rv_ref (hR8 170 49 920 rfl)) fun h10 => ?_
    show wr (d + 5) tb_M165 513 [(3, vi 12), (2, vi (s.1 205 b)), (0, .ref 170), (1, vi ((b : Int)))] [.ref 920, vi ((b : Int)), .ref 205] (up2 s4.1 209 b ((m : Int)), s4.2) _
    refine wr_n (pc2 := 514) (lv2 := [(3, vi 12), (2, vi (s.1 205 b)), (0, .ref 170), (1, vi ((b : Int)))]) (st2 := [vi ((b : Int)), .ref 920, vi ((b : Int)), .ref 205]) 1 (fun _ _ => rfl) ?_
    refine wr_ald (a := (b : Int)) (v := .ref (921 + b)) rfl rfl rfl (by omega) (by omega) (by decide) (rv_ref (hR8 920 b (921 + b) (rc_bk (by omega)))) fun h11 => ?_
    show wr (d + 5) tb_M165 515 [(3, vi 12), (2, vi (s.1 205 b)), (0, .ref 170), (1, vi ((b : Int)))] [.ref (921 + b), vi ((b : Int)), .ref 205] (up2 s4.1 209 b ((m : Int)), s4.2) _
    refine wr_n (pc2 := 516) (lv2 := [(3, vi 12), (2, vi (s.1 205 b)), (0, .ref 170), (1, vi ((b : Int)))]) (st2 := [.ref 170, .ref (921 + b), vi ((b : Int)), .ref 205]) 1 (fun _ _ => rfl) ?_
    refine wr_get (v := .ref 209) rfl rfl rfl (by decide) (rv_ref (hR8 170 44 209 rfl)) fun h12 => ?_
    show wr (d + 5) tb_M165 519 [(3, vi 12), (2, vi (s.1 205 b)), (0, .ref 170), (1, vi ((b : Int)))] [.ref 209, .ref (921 + b), vi ((b : Int)), .ref 205] (up2 s4.1 209 b ((m : Int)), s4.2) _
    refine wr_n (pc2 := 520) (lv2 := [(3, vi 12), (2, vi (s.1 205 b)), (0, .ref 170), (1, vi ((b : Int)))]) (st2 := [vi ((b : Int)), .ref 209, .ref (921 + b), vi ((b : Int)), .ref 205]) 1 (fun _ _ => rfl) ?_
    refine wr_ald (a := (b : Int)) (v := vi ((m : Int))) rfl rfl rfl (by omega) (by omega) (by decide) (by show rv _ ((up2 s4.1 209 b ((m : Int))) 209 b) = _; rw [up_self]; rfl) fun h13 => ?_
    have h13 : rg _ ((up2 s4.1 209 b ((m : Int))) 209 b) := h13
    rw [up_self] at h13
    have h13 : -2147483648 ≤ (m : Int) ∧ (m : Int) ≤ 2147483647 := h13
    show wr (d + 5) tb_M165 521 [(3, vi 12), (2, vi (s.1 205 b)), (0, .ref 170), (1, vi ((b : Int)))] [vi ((m : Int)), .ref (921 + b), vi ((b : Int)), .ref 205] (up2 s4.1 209 b ((m : Int)), s4.2) _
    refine wr_ald (a := (m : Int)) (v := vi (s4.1 (921 + b) m)) rfl (TG_bk (by omega)) rfl (by omega) (by omega) (by decide) (by show rv _ ((up2 s4.1 209 b ((m : Int))) (921 + b) m) = _; rw [up_nk (by omega)]; rfl) fun h14 => ?_
    have h14 : rg _ ((up2 s4.1 209 b ((m : Int))) (921 + b) m) := h14
    rw [up_nk (by omega)] at h14
    have h14 : -2147483648 ≤ s4.1 (921 + b) m ∧ s4.1 (921 + b) m ≤ 2147483647 := h14
    show wr (d + 5) tb_M165 522 [(3, vi 12), (2, vi (s.1 205 b)), (0, .ref 170), (1, vi ((b : Int)))] [vi (s4.1 (921 + b) m), vi ((b : Int)), .ref 205] (up2 s4.1 209 b ((m : Int)), s4.2) _
    refine wr_ast (a := (b : Int)) (z := s4.1 (921 + b) m) rfl (by decide) rfl rfl (by omega) (by omega) (by decide) rfl (show -2147483648 ≤ s4.1 (921 + b) m ∧ s4.1 (921 + b) m ≤ 2147483647 by omega) ?_
    show wr (d + 5) tb_M165 523 [(3, vi 12), (2, vi (s.1 205 b)), (0, .ref 170), (1, vi ((b : Int)))] [] (up2 (up2 s4.1 209 b ((m : Int))) 205 b (s4.1 (921 + b) m), s4.2) _
    have hR15 : RF (up2 (up2 s4.1 209 b ((m : Int))) 205 b (s4.1 (921 + b) m)) := (RF_up (RF_up hR3 rfl) rfl)
    refine wr_end (fun _ _ => rfl) ?_
    obtain ⟨sn, hsn⟩ : ∃ qq9 : rS, qq9 = (up2 (up2 s4.1 209 b ((m : Int))) 205 b (s4.1 (921 + b) m), s4.2) := ⟨_, rfl⟩
    rw [← hsn]
    have hf1 : ∀ k j, ¬ ((k = 205 ∨ k = 209) ∧ j = b) → ¬ (k = 921 + b) → sn.1 k j = s4.1 k j := by rw [hsn]; intro k j e1 e2; exact ((if_neg (by omega)).trans ((if_neg (by omega)).trans rfl))
    have hfr : ∀ k j, ¬ ((k = 205 ∨ k = 208 ∨ k = 209) ∧ j = b) → ¬ (k = 220 + b) → ¬ (k = 921 + b) → ¬ (k = 203 ∨ k = 204 ∨ 213 ≤ k ∧ k ≤ 218) → sn.1 k j = s.1 k j := fun k j e1 e2 e3 e4 => (hf1 k j (by omega) e3).trans (hD3 k j (by omega) e2 e4)
    have hz : sn.2 = s.2 := by rw [hsn]; exact hz3
    have hv0 : sn.1 209 b = (m : Int) := by rw [hsn]; show (up2 (up2 s4.1 209 b ((m : Int))) 205 b (s4.1 (921 + b) m)) 209 b = _; rw [up_nk (by omega)]; exact up_self
    have hv1 : sn.1 205 b = s4.1 (921 + b) m := by rw [hsn]; show (up2 (up2 s4.1 209 b ((m : Int))) 205 b (s4.1 (921 + b) m)) 205 b = _; exact up_self
    have hf9 : ∀ i, sn.1 (921 + b) i = s4.1 (921 + b) i := fun i => by rw [hsn]; show (up2 (up2 s4.1 209 b ((m : Int))) 205 b (s4.1 (921 + b) m)) (921 + b) i = _; rw [up_nk (by omega), up_nk (by omega)]
    have h8s : sn.1 208 b = s.1 208 b := (hf1 208 b (by omega) (by omega)).trans (by omega)
    exact ST_back (own := own) (m := m) hb7 hR hI hb hg hst (fun k j e1 e2 e3 e4 e5 => hfr k j (by omega) e2 e3 (by omega)) (HD_at hM.2.2.2.2 (fun i => (hfr 1630 i (by omega) (by omega) (by omega) (by omega)))) hz (hfr 170 52 (by omega) (by omega) (by omega) (by omega)) (hfr 170 53 (by omega) (by omega) (by omega) (by omega)) (hfr 206 b (by omega) (by omega) (by omega) (by omega)) hmm (by rw [← hmm]; exact hh) hv0 (fun i => (hf9 i).trans (hD3 (921 + b) i (by omega) (by omega) (by omega))) (hv1.trans (hD3 (921 + b) m (by omega) (by omega) (by omega))) h8s (by rw [← hmm]; exact w0)
