set_option maxHeartbeats 20000000 in
set_option maxRecDepth 100000 in
theorem w1_20 {d C b p na : Nat} {F : Ph} {G : Nat → gB} {own : Nat → Nat → Prop} {s : rS} (hC : C = 177 ∨ C = 186) (hR : RF s.1) (hM : MC C F na s.1) (hI : RI F s.1 G own) (hb7 : b < 700) (hb : (b : Int) < s.1 170 55) (hg : s.1 206 b = 1) (hst : s.1 170 52 = 2) (hsteps : 0 ≤ s.1 170 53 ∧ s.1 170 53 ≤ s.1 170 54 ∧ s.1 170 54 ≤ 20000) (hp5 : s.1 205 b = (p : Int)) (ht0 : s.1 208 b = (bb (G b) (bn (G b)) : Int) + bh (G b) (bn (G b)) ∧ 0 ≤ s.1 208 b ∧ s.1 208 b ≤ 1000) (hrm : bb (G b) (bn (G b)) + frm (bx (G b) (bn (G b))) ≤ 1000) (hk : s.1 (C + 1) p = 20) (hik : ik na (s.1 (C + 1)) F p (bh (G b) (bn (G b))) (bw (G b) (bn (G b))) (bx (G b) (bn (G b))) 20) : wr (d + 5) tb_M165 0 [(0, .ref 170), (1, vi ((b : Int)))] [] s (ON F G b s) := by
  obtain ⟨a0, w0, e⟩ := hik
  obtain ⟨hb1, hn0, a, ha, hla, h6a, h11, hkd⟩ := OV_par hI hb hg e
  have ha7 : (a : Int) < 700 := by have h1 := hla.1; have h2 := hI.1; omega
  have hab : b ≠ a := fun q => by rw [← q] at h6a; omega
  refine wr_n (pc2 := 1) (lv2 := [(0, .ref 170), (1, vi ((b : Int)))]) (st2 := [.ref 170]) 1 (fun _ _ => rfl) ?_
  refine wr_get (v := .ref 205) rfl rfl rfl (by decide) (rv_ref (hR 170 40 205 rfl)) fun h1 => ?_
  show wr (d + 5) tb_M165 4 [(0, .ref 170), (1, vi ((b : Int)))] [.ref 205] s _
  refine wr_n (pc2 := 5) (lv2 := [(0, .ref 170), (1, vi ((b : Int)))]) (st2 := [vi ((b : Int)), .ref 205]) 1 (fun _ _ => rfl) ?_
  refine wr_ald (a := (b : Int)) (v := vi (s.1 205 b)) rfl rfl rfl (by omega) (by omega) (by decide) rfl fun h2 => ?_
  have h2 : -2147483648 ≤ s.1 205 b ∧ s.1 205 b ≤ 2147483647 := h2
  show wr (d + 5) tb_M165 6 [(0, .ref 170), (1, vi ((b : Int)))] [vi (s.1 205 b)] s _
  refine wr_n (pc2 := 9) (lv2 := [(2, vi (s.1 205 b)), (0, .ref 170), (1, vi ((b : Int)))]) (st2 := [vi ((b : Int)), .ref 170]) 3 (fun _ _ => rfl) ?_
  refine wr_call1 (args := [vi ((b : Int))]) (rest := []) rfl rfl rfl rfl (Nat.le_of_ble_eq_true rfl) (cr_mono (x_readb (d := d + 4) (p := p) hC _ hR hM.1 hb7 hp5 (by omega)) ?_)
  rintro s4 out ⟨rfl, hv3, hc3, hDk3, hp3, ht3⟩
  · refine ⟨_, rfl, ?_⟩
    show wr (d + 5) tb_M165 12 [(2, vi (s.1 205 b)), (0, .ref 170), (1, vi ((b : Int)))] [vi (s.1 (C + 1) (p))] s4 _
    have hcd3 : s.1 (C + 1) (p) = s.1 (C + 1) p := rfl
    rw [hcd3] at hv3
    unfold i32 at hv3
    rw [hk]
    have hD3 : LD b s.1 s4.1 := LD_tr LD_rf hDk3
    have hR3 : RF s4.1 := LD_RF hb7 hD3 hR
    have hz3 : s4.2 = s.2 := hc3.trans rfl
    show wr (d + 5) tb_M165 12 [(2, vi (s.1 205 b)), (0, .ref 170), (1, vi ((b : Int)))] [vi 20] s4 _
    refine wr_n (pc2 := 595) (lv2 := [(3, vi 20), (2, vi (s.1 205 b)), (0, .ref 170), (1, vi ((b : Int)))]) (st2 := [.ref 170]) 4 (fun _ _ => rfl) ?_
    refine wr_get (v := .ref 206) rfl rfl rfl (by decide) (rv_ref (hR3 170 41 206 rfl)) fun h6 => ?_
    show wr (d + 5) tb_M165 598 [(3, vi 20), (2, vi (s.1 205 b)), (0, .ref 170), (1, vi ((b : Int)))] [.ref 206] s4 _
    refine wr_n (pc2 := 600) (lv2 := [(3, vi 20), (2, vi (s.1 205 b)), (0, .ref 170), (1, vi ((b : Int)))]) (st2 := [vi 0, vi ((b : Int)), .ref 206]) 2 (fun _ _ => rfl) ?_
    refine wr_ast (a := (b : Int)) (z := 0) rfl (by decide) rfl rfl (by omega) (by omega) (by decide) rfl (show -2147483648 ≤ 0 ∧ 0 ≤ 2147483647 by omega) ?_
    show wr (d + 5) tb_M165 601 [(3, vi 20), (2, vi (s.1 205 b)), (0, .ref 170), (1, vi ((b : Int)))] [] (up2 s4.1 206 b 0, s4.2) _
    have hR7 : RF (up2 s4.1 206 b 0) := (RF_up hR3 rfl)
    refine wr_n (pc2 := 602) (lv2 := [(3, vi 20), (2, vi (s.1 205 b)), (0, .ref 170), (1, vi ((b : Int)))]) (st2 := [.ref 170]) 1 (fun _ _ => rfl) ?_
    refine wr_get (v := .ref 210) rfl rfl rfl (by decide) (rv_ref (hR7 170 45 210 rfl)) fun h8 => ?_
    show wr (d + 5) tb_M165 605 [(3, vi 20), (2, vi (s.1 205 b)), (0, .ref 170), (1, vi ((b : Int)))] [.ref 210] (up2 s4.1 206 b 0, s4.2) _
    refine wr_n (pc2 := 606) (lv2 := [(3, vi 20), (2, vi (s.1 205 b)), (0, .ref 170), (1, vi ((b : Int)))]) (st2 := [vi ((b : Int)), .ref 210]) 1 (fun _ _ => rfl) ?_
    refine wr_ald (a := (b : Int)) (v := vi (s4.1 210 b)) rfl rfl rfl (by omega) (by omega) (by decide) rfl fun h9 => ?_
    have h9 : -2147483648 ≤ s4.1 210 b ∧ s4.1 210 b ≤ 2147483647 := h9
    show wr (d + 5) tb_M165 607 [(3, vi 20), (2, vi (s.1 205 b)), (0, .ref 170), (1, vi ((b : Int)))] [vi (s4.1 210 b)] (up2 s4.1 206 b 0, s4.2) _
    rw [hD3 210 b (by omega) (by omega) (by omega), ha]
    show wr (d + 5) tb_M165 607 [(3, vi 20), (2, vi (s.1 205 b)), (0, .ref 170), (1, vi ((b : Int)))] [vi ((a : Int))] (up2 s4.1 206 b 0, s4.2) _
    refine wr_n (pc2 := 610) (lv2 := [(4, vi ((a : Int))), (3, vi 20), (2, vi (s.1 205 b)), (0, .ref 170), (1, vi ((b : Int)))]) (st2 := [.ref 170]) 2 (fun _ _ => rfl) ?_
    refine wr_get (v := .ref 211) rfl rfl rfl (by decide) (rv_ref (hR7 170 46 211 rfl)) fun h10 => ?_
    show wr (d + 5) tb_M165 613 [(4, vi ((a : Int))), (3, vi 20), (2, vi (s.1 205 b)), (0, .ref 170), (1, vi ((b : Int)))] [.ref 211] (up2 s4.1 206 b 0, s4.2) _
    refine wr_n (pc2 := 616) (lv2 := [(4, vi ((a : Int))), (3, vi 20), (2, vi (s.1 205 b)), (0, .ref 170), (1, vi ((b : Int)))]) (st2 := [vi ((a : Int)), .ref 211, vi ((a : Int)), .ref 211]) 2 (fun _ _ => rfl) ?_
    refine wr_ald (a := (a : Int)) (v := vi (s4.1 211 a)) rfl rfl rfl (by omega) (by omega) (by decide) rfl fun h11 => ?_
    have h11 : -2147483648 ≤ s4.1 211 a ∧ s4.1 211 a ≤ 2147483647 := h11
    show wr (d + 5) tb_M165 617 [(4, vi ((a : Int))), (3, vi 20), (2, vi (s.1 205 b)), (0, .ref 170), (1, vi ((b : Int)))] [vi (s4.1 211 a), vi ((a : Int)), .ref 211] (up2 s4.1 206 b 0, s4.2) _
    have h11b := hD3 211 a (by omega) (by omega) (by omega)
    rw [h11b]
    show wr (d + 5) tb_M165 617 [(4, vi ((a : Int))), (3, vi 20), (2, vi (s.1 205 b)), (0, .ref 170), (1, vi ((b : Int)))] [vi (s.1 211 a), vi ((a : Int)), .ref 211] (up2 s4.1 206 b 0, s4.2) _
    refine wr_n (pc2 := 618) (lv2 := [(4, vi ((a : Int))), (3, vi 20), (2, vi (s.1 205 b)), (0, .ref 170), (1, vi ((b : Int)))]) (st2 := [vi 1, vi (s.1 211 a), vi ((a : Int)), .ref 211]) 1 (fun _ _ => rfl) ?_
    refine wr_sub (a := s.1 211 a) (b := 1) rfl ?_
    show wr (d + 5) tb_M165 619 [(4, vi ((a : Int))), (3, vi 20), (2, vi (s.1 205 b)), (0, .ref 170), (1, vi ((b : Int)))] [vi ((s.1 211 a) - 1), vi ((a : Int)), .ref 211] (up2 s4.1 206 b 0, s4.2) _
    refine wr_ast (a := (a : Int)) (z := (s.1 211 a) - 1) rfl (by decide) rfl rfl (by omega) (by omega) (by decide) rfl (show -2147483648 ≤ (s.1 211 a) - 1 ∧ (s.1 211 a) - 1 ≤ 2147483647 by omega) ?_
    show wr (d + 5) tb_M165 620 [(4, vi ((a : Int))), (3, vi 20), (2, vi (s.1 205 b)), (0, .ref 170), (1, vi ((b : Int)))] [] (up2 (up2 s4.1 206 b 0) 211 a ((s.1 211 a) - 1), s4.2) _
    have hR12 : RF (up2 (up2 s4.1 206 b 0) 211 a ((s.1 211 a) - 1)) := (RF_up (RF_up hR3 rfl) rfl)
    refine wr_n (pc2 := 621) (lv2 := [(4, vi ((a : Int))), (3, vi 20), (2, vi (s.1 205 b)), (0, .ref 170), (1, vi ((b : Int)))]) (st2 := [.ref 170]) 1 (fun _ _ => rfl) ?_
    refine wr_get (v := .ref 211) rfl rfl rfl (by decide) (rv_ref (hR12 170 46 211 rfl)) fun h13 => ?_
    show wr (d + 5) tb_M165 624 [(4, vi ((a : Int))), (3, vi 20), (2, vi (s.1 205 b)), (0, .ref 170), (1, vi ((b : Int)))] [.ref 211] (up2 (up2 s4.1 206 b 0) 211 a ((s.1 211 a) - 1), s4.2) _
    refine wr_n (pc2 := 626) (lv2 := [(4, vi ((a : Int))), (3, vi 20), (2, vi (s.1 205 b)), (0, .ref 170), (1, vi ((b : Int)))]) (st2 := [vi ((a : Int)), .ref 211]) 1 (fun _ _ => rfl) ?_
    refine wr_ald (a := (a : Int)) (v := vi ((s.1 211 a) - 1)) rfl rfl rfl (by omega) (by omega) (by decide) (by show rv _ ((up2 (up2 s4.1 206 b 0) 211 a ((s.1 211 a) - 1)) 211 a) = _; rw [up_self]; rfl) fun h14 => ?_
    have h14 : rg _ ((up2 (up2 s4.1 206 b 0) 211 a ((s.1 211 a) - 1)) 211 a) := h14
    rw [up_self] at h14
    have h14 : -2147483648 ≤ (s.1 211 a) - 1 ∧ (s.1 211 a) - 1 ≤ 2147483647 := h14
    show wr (d + 5) tb_M165 627 [(4, vi ((a : Int))), (3, vi 20), (2, vi (s.1 205 b)), (0, .ref 170), (1, vi ((b : Int)))] [vi ((s.1 211 a) - 1)] (up2 (up2 s4.1 206 b 0) 211 a ((s.1 211 a) - 1), s4.2) _
    by_cases h15 : (s.1 211 a) - 1 ≠ 0
    · refine wr_if1t rfl rfl (by unfold i32; omega) h15 ?_
      refine wr_end (fun _ _ => rfl) ?_
      obtain ⟨sn, hsn⟩ : ∃ qq9 : rS, qq9 = (up2 (up2 s4.1 206 b 0) 211 a ((s.1 211 a) - 1), s4.2) := ⟨_, rfl⟩
      rw [← hsn]
      have hf1 : ∀ k j, ¬ (k = 206 ∧ (j = b ∨ j = a)) → ¬ (k = 211 ∧ j = a) → sn.1 k j = s4.1 k j := by rw [hsn]; intro k j e1 e2; exact ((if_neg (by omega)).trans ((if_neg (by omega)).trans rfl))
      have hf : ∀ k j, ¬ ((k = 205 ∨ k = 208) ∧ j = b) → ¬ (k = 220 + b) → ¬ (k = 203 ∨ k = 204 ∨ 213 ≤ k ∧ k ≤ 218) → ¬ (k = 206 ∧ (j = b ∨ j = a)) → ¬ (k = 211 ∧ j = a) → sn.1 k j = s.1 k j := fun k j e1 e2 e3 e4 e5 => (hf1 k j e4 e5).trans (hD3 k j e1 e2 e3)
      have hz : sn.2 = s.2 := by rw [hsn]; exact hz3
      have v0 : sn.1 206 b = 0 := by rw [hsn]; show (up2 (up2 s4.1 206 b 0) 211 a ((s.1 211 a) - 1)) 206 b = _; rw [up_nk (by omega)]; exact up_self
      have v1 : sn.1 211 a = s.1 211 a - 1 := by rw [hsn]; show (up2 (up2 s4.1 206 b 0) 211 a ((s.1 211 a) - 1)) 211 a = _; exact up_self
      have v2 : sn.1 206 a = if s.1 211 a - 1 = 0 then 1 else 6 := by rw [hsn, if_neg (by omega)]; show (up2 (up2 s4.1 206 b 0) 211 a ((s.1 211 a) - 1)) 206 a = _; rw [up_nk (by omega), up_nj (fun e => hab e.symm)]; exact (hD3 206 a (by omega) (by omega) (by omega)).trans h6a
      exact ST_over (a := a) hb7 hR hI hb hg hst e w0 ha hla h6a (fun k j hn => hf k j (fun q => hn (by unfold RS; omega)) (fun q => hn (by unfold RS; omega)) (fun q => hn (by unfold RS; omega)) (fun q => hn (by unfold RS; omega)) (fun q => hn (by unfold RS; omega))) (HD_at hM.2.2.2.2 (fun i => hf 1630 i (by omega) (by omega) (by omega) (by omega) (by omega))) hz hf v0 v1 v2
    · refine wr_if1f rfl rfl (by unfold i32; omega) h15 ?_
      refine wr_n (pc2 := 631) (lv2 := [(4, vi ((a : Int))), (3, vi 20), (2, vi (s.1 205 b)), (0, .ref 170), (1, vi ((b : Int)))]) (st2 := [.ref 170]) 1 (fun _ _ => rfl) ?_
      refine wr_get (v := .ref 206) rfl rfl rfl (by decide) (rv_ref (hR12 170 41 206 rfl)) fun h16 => ?_
      show wr (d + 5) tb_M165 634 [(4, vi ((a : Int))), (3, vi 20), (2, vi (s.1 205 b)), (0, .ref 170), (1, vi ((b : Int)))] [.ref 206] (up2 (up2 s4.1 206 b 0) 211 a ((s.1 211 a) - 1), s4.2) _
      refine wr_n (pc2 := 637) (lv2 := [(4, vi ((a : Int))), (3, vi 20), (2, vi (s.1 205 b)), (0, .ref 170), (1, vi ((b : Int)))]) (st2 := [vi 1, vi ((a : Int)), .ref 206]) 2 (fun _ _ => rfl) ?_
      refine wr_ast (a := (a : Int)) (z := 1) rfl (by decide) rfl rfl (by omega) (by omega) (by decide) rfl (show -2147483648 ≤ 1 ∧ 1 ≤ 2147483647 by omega) ?_
      show wr (d + 5) tb_M165 638 [(4, vi ((a : Int))), (3, vi 20), (2, vi (s.1 205 b)), (0, .ref 170), (1, vi ((b : Int)))] [] (up2 (up2 (up2 s4.1 206 b 0) 211 a ((s.1 211 a) - 1)) 206 a 1, s4.2) _
      have hR17 : RF (up2 (up2 (up2 s4.1 206 b 0) 211 a ((s.1 211 a) - 1)) 206 a 1) := (RF_up (RF_up (RF_up hR3 rfl) rfl) rfl)
      refine wr_end (fun _ _ => rfl) ?_
      obtain ⟨sn, hsn⟩ : ∃ qq9 : rS, qq9 = (up2 (up2 (up2 s4.1 206 b 0) 211 a ((s.1 211 a) - 1)) 206 a 1, s4.2) := ⟨_, rfl⟩
      rw [← hsn]
      have hf1 : ∀ k j, ¬ (k = 206 ∧ (j = b ∨ j = a)) → ¬ (k = 211 ∧ j = a) → sn.1 k j = s4.1 k j := by rw [hsn]; intro k j e1 e2; exact ((if_neg (by omega)).trans ((if_neg (by omega)).trans ((if_neg (by omega)).trans rfl)))
      have hf : ∀ k j, ¬ ((k = 205 ∨ k = 208) ∧ j = b) → ¬ (k = 220 + b) → ¬ (k = 203 ∨ k = 204 ∨ 213 ≤ k ∧ k ≤ 218) → ¬ (k = 206 ∧ (j = b ∨ j = a)) → ¬ (k = 211 ∧ j = a) → sn.1 k j = s.1 k j := fun k j e1 e2 e3 e4 e5 => (hf1 k j e4 e5).trans (hD3 k j e1 e2 e3)
      have hz : sn.2 = s.2 := by rw [hsn]; exact hz3
      have v0 : sn.1 206 b = 0 := by rw [hsn]; show (up2 (up2 (up2 s4.1 206 b 0) 211 a ((s.1 211 a) - 1)) 206 a 1) 206 b = _; rw [up_nj hab, up_nk (by omega)]; exact up_self
      have v1 : sn.1 211 a = s.1 211 a - 1 := by rw [hsn]; show (up2 (up2 (up2 s4.1 206 b 0) 211 a ((s.1 211 a) - 1)) 206 a 1) 211 a = _; rw [up_nk (by omega)]; exact up_self
      have v2 : sn.1 206 a = if s.1 211 a - 1 = 0 then 1 else 6 := by rw [hsn, if_pos (by omega)]; show (up2 (up2 (up2 s4.1 206 b 0) 211 a ((s.1 211 a) - 1)) 206 a 1) 206 a = _; exact up_self
      exact ST_over (a := a) hb7 hR hI hb hg hst e w0 ha hla h6a (fun k j hn => hf k j (fun q => hn (by unfold RS; omega)) (fun q => hn (by unfold RS; omega)) (fun q => hn (by unfold RS; omega)) (fun q => hn (by unfold RS; omega)) (fun q => hn (by unfold RS; omega))) (HD_at hM.2.2.2.2 (fun i => hf 1630 i (by omega) (by omega) (by omega) (by omega) (by omega))) hz hf v0 v1 v2
