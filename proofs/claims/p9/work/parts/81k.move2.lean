set_option maxHeartbeats 20000000 in
set_option maxRecDepth 100000 in
theorem mv_15 {d C b p na : Nat} {F : Ph} {G : Nat → gB} {own : Nat → Nat → Prop} {s s1 : rS} (hC : C = 177 ∨ C = 186) (hR : RF s.1) (hM : MC C F na s.1) (hI : RI F s.1 G own) (hb7 : b < 700) (hb : (b : Int) < s.1 170 55) (hg : s.1 206 b = 1) (hst : s.1 170 52 = 2) (hsteps : 0 ≤ s.1 170 53 ∧ s.1 170 53 ≤ s.1 170 54 ∧ s.1 170 54 ≤ 20000) (hp5 : s.1 205 b = (p : Int)) (ht0 : s.1 208 b = (bb (G b) (bn (G b)) : Int) + bh (G b) (bn (G b)) ∧ 0 ≤ s.1 208 b ∧ s.1 208 b ≤ 1000) (hrm : bb (G b) (bn (G b)) + frm (bx (G b) (bn (G b))) ≤ 1000) (hD1 : LD b s.1 s1.1) (hz1 : s1.2 = s.2) (hp1 : s1.1 205 b = ((p + 2 : Nat) : Int)) (ht1 : s1.1 208 b = s.1 208 b) (hF0 : F p (bh (G b) (bn (G b))) (bw (G b) (bn (G b))) (bx (G b) (bn (G b)))) (hp24 : p < 24000) {q : Nat} (hik : ik na (s.1 (C + 1)) F p (bh (G b) (bn (G b))) (bw (G b) (bn (G b))) (bx (G b) (bn (G b))) 15) (hop : s.1 (C + 1) (p + 1) = (q : Int)) : cr (d + 4) 170 [.ref 170, vi ((b : Int)), vi 15, vi ((q : Int)), vi ((p : Int))] s1 (ON F G b s) := by
  obtain ⟨a, ⟨q2, q3, q4⟩, g, w2, g1, c1, c⟩ := hik
  have hR1 : RF s1.1 := LD_RF hb7 hD1 hR
  have hqq : q = q2 := by omega
  have q4b : q < 4 := by omega
  have hhd : 0 ≤ s1.1 1630 (4 + q) ∧ s1.1 1630 (4 + q) ≤ 40 := by rw [hD1 1630 _ (by omega) (by omega) (by omega)]; exact hM.2.2.2.2 (4 + q) (by omega)
  have hhs : s1.1 1630 (4 + q) = s.1 1630 (4 + q) := hD1 1630 _ (by omega) (by omega) (by omega)
  refine cr_of (M := tb_M170) rfl (Nat.le_of_ble_eq_true rfl) ?_
  show wr (d + 3) tb_M170 0 [(0, .ref 170), (1, vi ((b : Int))), (2, vi 15), (3, vi ((q : Int))), (4, vi ((p : Int)))] [] s1 _
  refine wr_n (pc2 := 45) (lv2 := [(0, .ref 170), (1, vi ((b : Int))), (2, vi 15), (3, vi ((q : Int))), (4, vi ((p : Int)))]) (st2 := [.ref 170]) 3 (fun _ _ => rfl) ?_
  refine wr_get (v := .ref 1630) rfl rfl rfl (by decide) (rv_ref (hR1 170 51 1630 rfl)) fun h1 => ?_
  show wr (d + 3) tb_M170 48 [(0, .ref 170), (1, vi ((b : Int))), (2, vi 15), (3, vi ((q : Int))), (4, vi ((p : Int)))] [.ref 1630] s1 _
  refine wr_n (pc2 := 50) (lv2 := [(0, .ref 170), (1, vi ((b : Int))), (2, vi 15), (3, vi ((q : Int))), (4, vi ((p : Int)))]) (st2 := [vi ((q : Int)), vi 4, .ref 1630]) 2 (fun _ _ => rfl) ?_
  refine wr_add (a := 4) (b := (q : Int)) rfl ?_
  show wr (d + 3) tb_M170 51 [(0, .ref 170), (1, vi ((b : Int))), (2, vi 15), (3, vi ((q : Int))), (4, vi ((p : Int)))] [vi (4 + ((q : Int))), .ref 1630] s1 _
  rw [show 4 + ((q : Int)) = ((4 + q : Nat) : Int) by omega]
  show wr (d + 3) tb_M170 51 [(0, .ref 170), (1, vi ((b : Int))), (2, vi 15), (3, vi ((q : Int))), (4, vi ((p : Int)))] [vi (((4 + q : Nat) : Int)), .ref 1630] s1 _
  refine wr_ald (a := ((4 + q : Nat) : Int)) (v := vi (s1.1 1630 (4 + q))) rfl rfl rfl (by omega) (by omega) (by decide) rfl fun h2 => ?_
  have h2 : -2147483648 ≤ s1.1 1630 (4 + q) ∧ s1.1 1630 (4 + q) ≤ 2147483647 := h2
  show wr (d + 3) tb_M170 52 [(0, .ref 170), (1, vi ((b : Int))), (2, vi 15), (3, vi ((q : Int))), (4, vi ((p : Int)))] [vi (s1.1 1630 (4 + q))] s1 _
  refine wr_n (pc2 := 54) (lv2 := [(0, .ref 170), (1, vi ((b : Int))), (2, vi 15), (3, vi ((q : Int))), (4, vi ((p : Int)))]) (st2 := [vi 40, vi (s1.1 1630 (4 + q))]) 1 (fun _ _ => rfl) ?_
  by_cases h3 : 40 ≤ s1.1 1630 (4 + q)
  · refine wr_if2t rfl rfl (by unfold i32; omega) (by unfold i32; omega) h3 ?_
    refine wr_n (pc2 := 96) (lv2 := [(0, .ref 170), (1, vi ((b : Int))), (2, vi 15), (3, vi ((q : Int))), (4, vi ((p : Int)))]) (st2 := [.ref 170]) 1 (fun _ _ => rfl) ?_
    refine wr_get (v := .ref 205) rfl rfl rfl (by decide) (rv_ref (hR1 170 40 205 rfl)) fun h4 => ?_
    show wr (d + 3) tb_M170 99 [(0, .ref 170), (1, vi ((b : Int))), (2, vi 15), (3, vi ((q : Int))), (4, vi ((p : Int)))] [.ref 205] s1 _
    refine wr_n (pc2 := 102) (lv2 := [(0, .ref 170), (1, vi ((b : Int))), (2, vi 15), (3, vi ((q : Int))), (4, vi ((p : Int)))]) (st2 := [vi ((p : Int)), vi ((b : Int)), .ref 205]) 2 (fun _ _ => rfl) ?_
    refine wr_ast (a := (b : Int)) (z := (p : Int)) rfl (by decide) rfl rfl (by omega) (by omega) (by decide) rfl (show -2147483648 ≤ (p : Int) ∧ (p : Int) ≤ 2147483647 by omega) ?_
    show wr (d + 3) tb_M170 103 [(0, .ref 170), (1, vi ((b : Int))), (2, vi 15), (3, vi ((q : Int))), (4, vi ((p : Int)))] [] (up2 s1.1 205 b ((p : Int)), s1.2) _
    have hR5 : RF (up2 s1.1 205 b ((p : Int))) := (RF_up hR1 rfl)
    refine wr_n (pc2 := 107) (lv2 := [(0, .ref 170), (1, vi ((b : Int))), (2, vi 15), (3, vi ((q : Int))), (4, vi ((p : Int)))]) (st2 := [vi ((q : Int)), vi 4, vi ((b : Int)), .ref 170]) 4 (fun _ _ => rfl) ?_
    refine wr_call1 (args := [vi ((b : Int)), vi 4, vi ((q : Int))]) (rest := []) rfl rfl rfl rfl (Nat.le_of_ble_eq_true rfl) (cr_mono (c_wait (d := d + 2) _ hR5 hb7 (h := 4) (w := (q : Int)) (by unfold i32; omega) (by unfold i32; omega)) ?_)
    rintro s7 out ⟨rfl, e6⟩
    refine ⟨_, rfl, ?_⟩
    rw [e6]
    show wr (d + 3) tb_M170 110 [(0, .ref 170), (1, vi ((b : Int))), (2, vi 15), (3, vi ((q : Int))), (4, vi ((p : Int)))] [] (up2 (up2 (up2 s1.1 205 b ((p : Int))) 206 b 4) 207 b ((q : Int)), s1.2) _
    have hR8 : RF (up2 (up2 (up2 s1.1 205 b ((p : Int))) 206 b 4) 207 b ((q : Int))) := (RF_up (RF_up (RF_up hR1 rfl) rfl) rfl)
    refine wr_end (fun _ _ => rfl) ?_
    obtain ⟨sn, hsn⟩ : ∃ qq9 : rS, qq9 = (up2 (up2 (up2 s1.1 205 b ((p : Int))) 206 b 4) 207 b ((q : Int)), s1.2) := ⟨_, rfl⟩
    rw [← hsn]
    have hf1 : ∀ k j, ¬ ((k = 205 ∨ k = 206 ∨ k = 207) ∧ j = b) → sn.1 k j = s1.1 k j := by rw [hsn]; intro k j e1; exact ((if_neg (by omega)).trans ((if_neg (by omega)).trans ((if_neg (by omega)).trans rfl)))
    have hfr : ∀ k j, ¬ (205 ≤ k ∧ k ≤ 208 ∧ j = b) → ¬ (k = 220 + b) → ¬ (k = 203 ∨ k = 204 ∨ 213 ≤ k ∧ k ≤ 218) → sn.1 k j = s.1 k j := fun k j e1 e2 e3 => (hf1 k j (by omega)).trans (hD1 k j (by omega) e2 e3)
    have hz : sn.2 = s.2 := by rw [hsn]; exact hz1
    have v6 : sn.1 206 b = 4 := by rw [hsn]; show (up2 (up2 (up2 s1.1 205 b ((p : Int))) 206 b 4) 207 b ((q : Int))) 206 b = _; rw [up_nk (by omega)]; exact up_self
    have v7 : sn.1 207 b = (q : Int) := by rw [hsn]; show (up2 (up2 (up2 s1.1 205 b ((p : Int))) 206 b 4) 207 b ((q : Int))) 207 b = _; exact up_self
    have v5 : sn.1 205 b = (p : Int) := by rw [hsn]; show (up2 (up2 (up2 s1.1 205 b ((p : Int))) 206 b 4) 207 b ((q : Int))) 205 b = _; rw [up_nk (by omega), up_nk (by omega)]; exact up_self
    have h8 : sn.1 208 b = s.1 208 b := (hf1 208 b (by omega)).trans ht1
    exact ST_wait (own := own) (p2 := p) (h2 := bh (G b) (bn (G b))) (w2 := bw (G b) (bn (G b))) hb7 hR hI hb hg hst (fun k j e1 e2 e3 e4 e5 => hfr k j (by omega) e2 (by omega)) (HD_at hM.2.2.2.2 (fun i => (hfr 1630 i (by omega) (by omega) (by omega)))) hz (hfr 170 52 (by omega) (by omega) (by omega)) (hfr 170 53 (by omega) (by omega) (by omega)) v6 (by omega) (fun _ => by omega) (hfr 209 b (by omega) (by omega) (by omega)) (fun i => (hfr (921 + b) i (by omega) (by omega) (by omega))) v5 h8 (by unfold eo; simp; omega) (by omega) hF0 (.inr ⟨by omega, rfl⟩) (fun i => (hfr 1630 i (by omega) (by omega) (by omega))) (.inr ⟨q, v7, .inl ⟨rfl, by omega⟩⟩)
  · refine wr_if2f rfl rfl (by unfold i32; omega) (by unfold i32; omega) h3 ?_
    refine wr_n (pc2 := 58) (lv2 := [(0, .ref 170), (1, vi ((b : Int))), (2, vi 15), (3, vi ((q : Int))), (4, vi ((p : Int)))]) (st2 := [.ref 170]) 1 (fun _ _ => rfl) ?_
    refine wr_get (v := .ref 1621) rfl rfl rfl (by decide) (rv_ref (hR1 170 50 1621 rfl)) fun h9 => ?_
    show wr (d + 3) tb_M170 61 [(0, .ref 170), (1, vi ((b : Int))), (2, vi 15), (3, vi ((q : Int))), (4, vi ((p : Int)))] [.ref 1621] s1 _
    refine wr_n (pc2 := 63) (lv2 := [(0, .ref 170), (1, vi ((b : Int))), (2, vi 15), (3, vi ((q : Int))), (4, vi ((p : Int)))]) (st2 := [vi ((q : Int)), vi 4, .ref 1621]) 2 (fun _ _ => rfl) ?_
    refine wr_add (a := 4) (b := (q : Int)) rfl ?_
    show wr (d + 3) tb_M170 64 [(0, .ref 170), (1, vi ((b : Int))), (2, vi 15), (3, vi ((q : Int))), (4, vi ((p : Int)))] [vi (4 + ((q : Int))), .ref 1621] s1 _
    rw [show 4 + ((q : Int)) = ((4 + q : Nat) : Int) by omega]
    show wr (d + 3) tb_M170 64 [(0, .ref 170), (1, vi ((b : Int))), (2, vi 15), (3, vi ((q : Int))), (4, vi ((p : Int)))] [vi (((4 + q : Nat) : Int)), .ref 1621] s1 _
    refine wr_ald (a := ((4 + q : Nat) : Int)) (v := .ref (1622 + (4 + q))) rfl rfl rfl (by omega) (by omega) (by decide) (rv_ref (hR1 1621 (4 + q) (1622 + (4 + q)) (rc_in (by omega)))) fun h10 => ?_
    show wr (d + 3) tb_M170 65 [(0, .ref 170), (1, vi ((b : Int))), (2, vi 15), (3, vi ((q : Int))), (4, vi ((p : Int)))] [.ref (1622 + (4 + q))] s1 _
    refine wr_n (pc2 := 66) (lv2 := [(0, .ref 170), (1, vi ((b : Int))), (2, vi 15), (3, vi ((q : Int))), (4, vi ((p : Int)))]) (st2 := [.ref 170, .ref (1622 + (4 + q))]) 1 (fun _ _ => rfl) ?_
    refine wr_get (v := .ref 1630) rfl rfl rfl (by decide) (rv_ref (hR1 170 51 1630 rfl)) fun h11 => ?_
    show wr (d + 3) tb_M170 69 [(0, .ref 170), (1, vi ((b : Int))), (2, vi 15), (3, vi ((q : Int))), (4, vi ((p : Int)))] [.ref 1630, .ref (1622 + (4 + q))] s1 _
    refine wr_n (pc2 := 71) (lv2 := [(0, .ref 170), (1, vi ((b : Int))), (2, vi 15), (3, vi ((q : Int))), (4, vi ((p : Int)))]) (st2 := [vi ((q : Int)), vi 4, .ref 1630, .ref (1622 + (4 + q))]) 2 (fun _ _ => rfl) ?_
    refine wr_add (a := 4) (b := (q : Int)) rfl ?_
    show wr (d + 3) tb_M170 72 [(0, .ref 170), (1, vi ((b : Int))), (2, vi 15), (3, vi ((q : Int))), (4, vi ((p : Int)))] [vi (4 + ((q : Int))), .ref 1630, .ref (1622 + (4 + q))] s1 _
    rw [show 4 + ((q : Int)) = ((4 + q : Nat) : Int) by omega]
    show wr (d + 3) tb_M170 72 [(0, .ref 170), (1, vi ((b : Int))), (2, vi 15), (3, vi ((q : Int))), (4, vi ((p : Int)))] [vi (((4 + q : Nat) : Int)), .ref 1630, .ref (1622 + (4 + q))] s1 _
    refine wr_ald (a := ((4 + q : Nat) : Int)) (v := vi (s1.1 1630 (4 + q))) rfl rfl rfl (by omega) (by omega) (by decide) rfl fun h12 => ?_
    have h12 : -2147483648 ≤ s1.1 1630 (4 + q) ∧ s1.1 1630 (4 + q) ≤ 2147483647 := h12
    show wr (d + 3) tb_M170 73 [(0, .ref 170), (1, vi ((b : Int))), (2, vi 15), (3, vi ((q : Int))), (4, vi ((p : Int)))] [vi (s1.1 1630 (4 + q)), .ref (1622 + (4 + q))] s1 _
    refine wr_n (pc2 := 75) (lv2 := [(0, .ref 170), (1, vi ((b : Int))), (2, vi 15), (3, vi ((q : Int))), (4, vi ((p : Int)))]) (st2 := [vi ((b : Int)), .ref 170, vi (s1.1 1630 (4 + q)), .ref (1622 + (4 + q))]) 2 (fun _ _ => rfl) ?_
    refine wr_call1 (args := [vi ((b : Int))]) (rest := [vi (s1.1 1630 (4 + q)), .ref (1622 + (4 + q))]) rfl rfl rfl rfl (Nat.le_of_ble_eq_true rfl) (cr_mono (x_pop (d := d + 2) _ hR1 hb7 (by omega)) ?_)
    rintro s14 out ⟨v13, rfl, hv13, hc13, hDk13, hq13, ht13⟩
    · refine ⟨_, rfl, ?_⟩
      show wr (d + 3) tb_M170 78 [(0, .ref 170), (1, vi ((b : Int))), (2, vi 15), (3, vi ((q : Int))), (4, vi ((p : Int)))] [vi v13, vi (s1.1 1630 (4 + q)), .ref (1622 + (4 + q))] s14 _
      unfold i32 at hv13
      have hD13 : LD b s.1 s14.1 := LD_tr hD1 hDk13
      have hR13 : RF s14.1 := LD_RF hb7 hD13 hR
      have hz13 : s14.2 = s.2 := hc13.trans hz1
      refine wr_anyu rfl (fun x => ⟨_, rfl⟩) fun z16 h17 => ?_
      unfold i32 at h17
      show wr (d + 3) tb_M170 79 [(0, .ref 170), (1, vi ((b : Int))), (2, vi 15), (3, vi ((q : Int))), (4, vi ((p : Int)))] [vi z16, vi (s1.1 1630 (4 + q)), .ref (1622 + (4 + q))] s14 _
      refine wr_ast (a := s1.1 1630 (4 + q)) (z := z16) rfl (show 96 ≤ 1622 + (4 + q) by omega) (TG_in (by omega)) rfl (by omega) (by omega) (by decide) rfl (show -2147483648 ≤ z16 ∧ z16 ≤ 2147483647 by omega) ?_
      show wr (d + 3) tb_M170 80 [(0, .ref 170), (1, vi ((b : Int))), (2, vi 15), (3, vi ((q : Int))), (4, vi ((p : Int)))] [] (up2 s14.1 (1622 + (4 + q)) ((s1.1 1630 (4 + q)).toNat) z16, s14.2) _
      have hR18 : RF (up2 s14.1 (1622 + (4 + q)) ((s1.1 1630 (4 + q)).toNat) z16) := (RF_up hR13 (RS_rc (by unfold RS; omega)))
      refine wr_n (pc2 := 81) (lv2 := [(0, .ref 170), (1, vi ((b : Int))), (2, vi 15), (3, vi ((q : Int))), (4, vi ((p : Int)))]) (st2 := [.ref 170]) 1 (fun _ _ => rfl) ?_
      refine wr_get (v := .ref 1630) rfl rfl rfl (by decide) (rv_ref (hR18 170 51 1630 rfl)) fun h19 => ?_
      show wr (d + 3) tb_M170 84 [(0, .ref 170), (1, vi ((b : Int))), (2, vi 15), (3, vi ((q : Int))), (4, vi ((p : Int)))] [.ref 1630] (up2 s14.1 (1622 + (4 + q)) ((s1.1 1630 (4 + q)).toNat) z16, s14.2) _
      refine wr_n (pc2 := 86) (lv2 := [(0, .ref 170), (1, vi ((b : Int))), (2, vi 15), (3, vi ((q : Int))), (4, vi ((p : Int)))]) (st2 := [vi ((q : Int)), vi 4, .ref 1630]) 2 (fun _ _ => rfl) ?_
      refine wr_add (a := 4) (b := (q : Int)) rfl ?_
      show wr (d + 3) tb_M170 87 [(0, .ref 170), (1, vi ((b : Int))), (2, vi 15), (3, vi ((q : Int))), (4, vi ((p : Int)))] [vi (4 + ((q : Int))), .ref 1630] (up2 s14.1 (1622 + (4 + q)) ((s1.1 1630 (4 + q)).toNat) z16, s14.2) _
      rw [show 4 + ((q : Int)) = ((4 + q : Nat) : Int) by omega]
      show wr (d + 3) tb_M170 87 [(0, .ref 170), (1, vi ((b : Int))), (2, vi 15), (3, vi ((q : Int))), (4, vi ((p : Int)))] [vi (((4 + q : Nat) : Int)), .ref 1630] (up2 s14.1 (1622 + (4 + q)) ((s1.1 1630 (4 + q)).toNat) z16, s14.2) _
      have hhe : s14.1 1630 (4 + q) = s.1 1630 (4 + q) := hD13 1630 _ (by omega) (by omega) (by omega)
      refine wr_n (pc2 := 88) (lv2 := [(0, .ref 170), (1, vi ((b : Int))), (2, vi 15), (3, vi ((q : Int))), (4, vi ((p : Int)))]) (st2 := [vi (((4 + q : Nat) : Int)), .ref 1630, vi (((4 + q : Nat) : Int)), .ref 1630]) 1 (fun _ _ => rfl) ?_
      refine wr_ald (a := ((4 + q : Nat) : Int)) (v := vi (s14.1 1630 (4 + q))) rfl rfl rfl (by omega) (by omega) (by decide) (by show rv _ ((up2 s14.1 (1622 + (4 + q)) ((s1.1 1630 (4 + q)).toNat) z16) 1630 (4 + q)) = _; rw [up_nk (by omega)]; rfl) fun h20 => ?_
      have h20 : rg _ ((up2 s14.1 (1622 + (4 + q)) ((s1.1 1630 (4 + q)).toNat) z16) 1630 (4 + q)) := h20
      rw [up_nk (by omega)] at h20
      have h20 : -2147483648 ≤ s14.1 1630 (4 + q) ∧ s14.1 1630 (4 + q) ≤ 2147483647 := h20
      show wr (d + 3) tb_M170 89 [(0, .ref 170), (1, vi ((b : Int))), (2, vi 15), (3, vi ((q : Int))), (4, vi ((p : Int)))] [vi (s14.1 1630 (4 + q)), vi (((4 + q : Nat) : Int)), .ref 1630] (up2 s14.1 (1622 + (4 + q)) ((s1.1 1630 (4 + q)).toNat) z16, s14.2) _
      refine wr_n (pc2 := 90) (lv2 := [(0, .ref 170), (1, vi ((b : Int))), (2, vi 15), (3, vi ((q : Int))), (4, vi ((p : Int)))]) (st2 := [vi 1, vi (s14.1 1630 (4 + q)), vi (((4 + q : Nat) : Int)), .ref 1630]) 1 (fun _ _ => rfl) ?_
      refine wr_add (a := s14.1 1630 (4 + q)) (b := 1) rfl ?_
      show wr (d + 3) tb_M170 91 [(0, .ref 170), (1, vi ((b : Int))), (2, vi 15), (3, vi ((q : Int))), (4, vi ((p : Int)))] [vi (s14.1 1630 (4 + q) + 1), vi (((4 + q : Nat) : Int)), .ref 1630] (up2 s14.1 (1622 + (4 + q)) ((s1.1 1630 (4 + q)).toNat) z16, s14.2) _
      refine wr_ast (a := ((4 + q : Nat) : Int)) (z := s14.1 1630 (4 + q) + 1) rfl (by decide) rfl rfl (by omega) (by omega) (by decide) rfl (show -2147483648 ≤ s14.1 1630 (4 + q) + 1 ∧ s14.1 1630 (4 + q) + 1 ≤ 2147483647 by omega) ?_
      show wr (d + 3) tb_M170 92 [(0, .ref 170), (1, vi ((b : Int))), (2, vi 15), (3, vi ((q : Int))), (4, vi ((p : Int)))] [] (up2 (up2 s14.1 (1622 + (4 + q)) ((s1.1 1630 (4 + q)).toNat) z16) 1630 (4 + q) (s14.1 1630 (4 + q) + 1), s14.2) _
      have hR21 : RF (up2 (up2 s14.1 (1622 + (4 + q)) ((s1.1 1630 (4 + q)).toNat) z16) 1630 (4 + q) (s14.1 1630 (4 + q) + 1)) := (RF_up (RF_up hR13 (RS_rc (by unfold RS; omega))) rfl)
      refine wr_n (pc2 := 110) (lv2 := [(0, .ref 170), (1, vi ((b : Int))), (2, vi 15), (3, vi ((q : Int))), (4, vi ((p : Int)))]) (st2 := []) 1 (fun _ _ => rfl) ?_
      refine wr_end (fun _ _ => rfl) ?_
      obtain ⟨sn, hsn⟩ : ∃ qq9 : rS, qq9 = (up2 (up2 s14.1 (1622 + (4 + q)) ((s1.1 1630 (4 + q)).toNat) z16) 1630 (4 + q) (s14.1 1630 (4 + q) + 1), s14.2) := ⟨_, rfl⟩
      rw [← hsn]
      have hf1 : ∀ k j, ¬ (1622 ≤ k ∧ k ≤ 1630) → sn.1 k j = s14.1 k j := by rw [hsn]; intro k j e1; exact ((if_neg (by omega)).trans ((if_neg (by omega)).trans rfl))
      have hfr : ∀ k j, ¬ ((k = 205 ∨ k = 208) ∧ j = b) → ¬ (k = 220 + b) → ¬ (k = 203 ∨ k = 204 ∨ 213 ≤ k ∧ k ≤ 218 ∨ 1622 ≤ k ∧ k ≤ 1630) → sn.1 k j = s.1 k j := fun k j e1 e2 e3 => (hf1 k j (by omega)).trans (hD13 k j e1 e2 (by omega))
      have hz : sn.2 = s.2 := by rw [hsn]; exact hz13
      have hHD : HD sn.1 := by
        intro i hi
        by_cases e : i = 4 + q
        · subst e; rw [show sn.1 1630 (4 + q) = s14.1 1630 (4 + q) + 1 by rw [hsn]; show (up2 (up2 s14.1 (1622 + (4 + q)) ((s1.1 1630 (4 + q)).toNat) z16) 1630 (4 + q) (s14.1 1630 (4 + q) + 1)) 1630 (4 + q) = _; exact up_self]; omega
        · rw [show sn.1 1630 i = s.1 1630 i from (show sn.1 1630 i = s14.1 1630 i by rw [hsn]; show (up2 (up2 s14.1 (1622 + (4 + q)) ((s1.1 1630 (4 + q)).toNat) z16) 1630 (4 + q) (s14.1 1630 (4 + q) + 1)) 1630 i = _; rw [up_nj e, up_nk (by omega)]).trans (hD13 1630 i (by omega) (by omega) (by omega))]; exact hM.2.2.2.2 i hi
      exact ST_cur (own := own) (p2 := p + 2) (h2 := g) hb7 hR hI hb hg hst (fun k j e1 e2 e3 e4 e5 => hfr k j (by omega) e2 (by omega)) hHD hz (hfr 170 52 (by omega) (by omega) (by omega)) (hfr 170 53 (by omega) (by omega) (by omega)) (hfr 206 b (by omega) (by omega) (by omega)) (hfr 209 b (by omega) (by omega) (by omega)) (fun i => (hfr (921 + b) i (by omega) (by omega) (by omega))) ((hf1 205 b (by omega)).trans (hq13.trans hp1)) (by have h8 := hf1 208 b (by omega); omega) (by omega) c (by omega)
set_option maxHeartbeats 20000000 in
set_option maxRecDepth 100000 in
theorem mv_16 {d C b p na : Nat} {F : Ph} {G : Nat → gB} {own : Nat → Nat → Prop} {s s1 : rS} (hC : C = 177 ∨ C = 186) (hR : RF s.1) (hM : MC C F na s.1) (hI : RI F s.1 G own) (hb7 : b < 700) (hb : (b : Int) < s.1 170 55) (hg : s.1 206 b = 1) (hst : s.1 170 52 = 2) (hsteps : 0 ≤ s.1 170 53 ∧ s.1 170 53 ≤ s.1 170 54 ∧ s.1 170 54 ≤ 20000) (hp5 : s.1 205 b = (p : Int)) (ht0 : s.1 208 b = (bb (G b) (bn (G b)) : Int) + bh (G b) (bn (G b)) ∧ 0 ≤ s.1 208 b ∧ s.1 208 b ≤ 1000) (hrm : bb (G b) (bn (G b)) + frm (bx (G b) (bn (G b))) ≤ 1000) (hD1 : LD b s.1 s1.1) (hz1 : s1.2 = s.2) (hp1 : s1.1 205 b = ((p + 2 : Nat) : Int)) (ht1 : s1.1 208 b = s.1 208 b) (hF0 : F p (bh (G b) (bn (G b))) (bw (G b) (bn (G b))) (bx (G b) (bn (G b)))) (hp24 : p < 24000) {q : Nat} (hik : ik na (s.1 (C + 1)) F p (bh (G b) (bn (G b))) (bw (G b) (bn (G b))) (bx (G b) (bn (G b))) 16) (hop : s.1 (C + 1) (p + 1) = (q : Int)) : cr (d + 4) 170 [.ref 170, vi ((b : Int)), vi 16, vi ((q : Int)), vi ((p : Int))] s1 (ON F G b s) := by
  obtain ⟨a, e, ⟨q2, q3, q4⟩, w2, c1, c⟩ := hik
  have hR1 : RF s1.1 := LD_RF hb7 hD1 hR
  have hqq : q = q2 := by omega
  have q4b : q < 4 := by omega
  have hhd : 0 ≤ s1.1 1630 q ∧ s1.1 1630 q ≤ 40 := by rw [hD1 1630 _ (by omega) (by omega) (by omega)]; exact hM.2.2.2.2 q (by omega)
  have hhs : s1.1 1630 q = s.1 1630 q := hD1 1630 _ (by omega) (by omega) (by omega)
  refine cr_of (M := tb_M170) rfl (Nat.le_of_ble_eq_true rfl) ?_
  show wr (d + 3) tb_M170 0 [(0, .ref 170), (1, vi ((b : Int))), (2, vi 16), (3, vi ((q : Int))), (4, vi ((p : Int)))] [] s1 _
  refine wr_n (pc2 := 112) (lv2 := [(0, .ref 170), (1, vi ((b : Int))), (2, vi 16), (3, vi ((q : Int))), (4, vi ((p : Int)))]) (st2 := [.ref 170]) 3 (fun _ _ => rfl) ?_
  refine wr_get (v := .ref 1630) rfl rfl rfl (by decide) (rv_ref (hR1 170 51 1630 rfl)) fun h1 => ?_
  show wr (d + 3) tb_M170 115 [(0, .ref 170), (1, vi ((b : Int))), (2, vi 16), (3, vi ((q : Int))), (4, vi ((p : Int)))] [.ref 1630] s1 _
  refine wr_n (pc2 := 116) (lv2 := [(0, .ref 170), (1, vi ((b : Int))), (2, vi 16), (3, vi ((q : Int))), (4, vi ((p : Int)))]) (st2 := [vi ((q : Int)), .ref 1630]) 1 (fun _ _ => rfl) ?_
  refine wr_ald (a := (q : Int)) (v := vi (s1.1 1630 q)) rfl rfl rfl (by omega) (by omega) (by decide) rfl fun h2 => ?_
  have h2 : -2147483648 ≤ s1.1 1630 q ∧ s1.1 1630 q ≤ 2147483647 := h2
  show wr (d + 3) tb_M170 117 [(0, .ref 170), (1, vi ((b : Int))), (2, vi 16), (3, vi ((q : Int))), (4, vi ((p : Int)))] [vi (s1.1 1630 q)] s1 _
  by_cases h3 : s1.1 1630 q ≤ 0
  · refine wr_if1t rfl rfl (by unfold i32; omega) h3 ?_
    refine wr_n (pc2 := 134) (lv2 := [(0, .ref 170), (1, vi ((b : Int))), (2, vi 16), (3, vi ((q : Int))), (4, vi ((p : Int)))]) (st2 := [.ref 170]) 1 (fun _ _ => rfl) ?_
    refine wr_get (v := .ref 205) rfl rfl rfl (by decide) (rv_ref (hR1 170 40 205 rfl)) fun h4 => ?_
    show wr (d + 3) tb_M170 137 [(0, .ref 170), (1, vi ((b : Int))), (2, vi 16), (3, vi ((q : Int))), (4, vi ((p : Int)))] [.ref 205] s1 _
    refine wr_n (pc2 := 140) (lv2 := [(0, .ref 170), (1, vi ((b : Int))), (2, vi 16), (3, vi ((q : Int))), (4, vi ((p : Int)))]) (st2 := [vi ((p : Int)), vi ((b : Int)), .ref 205]) 2 (fun _ _ => rfl) ?_
    refine wr_ast (a := (b : Int)) (z := (p : Int)) rfl (by decide) rfl rfl (by omega) (by omega) (by decide) rfl (show -2147483648 ≤ (p : Int) ∧ (p : Int) ≤ 2147483647 by omega) ?_
    show wr (d + 3) tb_M170 141 [(0, .ref 170), (1, vi ((b : Int))), (2, vi 16), (3, vi ((q : Int))), (4, vi ((p : Int)))] [] (up2 s1.1 205 b ((p : Int)), s1.2) _
    have hR5 : RF (up2 s1.1 205 b ((p : Int))) := (RF_up hR1 rfl)
    refine wr_n (pc2 := 145) (lv2 := [(0, .ref 170), (1, vi ((b : Int))), (2, vi 16), (3, vi ((q : Int))), (4, vi ((p : Int)))]) (st2 := [vi ((q : Int)), vi 5, vi ((b : Int)), .ref 170]) 4 (fun _ _ => rfl) ?_
    refine wr_call1 (args := [vi ((b : Int)), vi 5, vi ((q : Int))]) (rest := []) rfl rfl rfl rfl (Nat.le_of_ble_eq_true rfl) (cr_mono (c_wait (d := d + 2) _ hR5 hb7 (h := 5) (w := (q : Int)) (by unfold i32; omega) (by unfold i32; omega)) ?_)
    rintro s7 out ⟨rfl, e6⟩
    refine ⟨_, rfl, ?_⟩
    rw [e6]
    show wr (d + 3) tb_M170 148 [(0, .ref 170), (1, vi ((b : Int))), (2, vi 16), (3, vi ((q : Int))), (4, vi ((p : Int)))] [] (up2 (up2 (up2 s1.1 205 b ((p : Int))) 206 b 5) 207 b ((q : Int)), s1.2) _
    have hR8 : RF (up2 (up2 (up2 s1.1 205 b ((p : Int))) 206 b 5) 207 b ((q : Int))) := (RF_up (RF_up (RF_up hR1 rfl) rfl) rfl)
    refine wr_end (fun _ _ => rfl) ?_
    obtain ⟨sn, hsn⟩ : ∃ qq9 : rS, qq9 = (up2 (up2 (up2 s1.1 205 b ((p : Int))) 206 b 5) 207 b ((q : Int)), s1.2) := ⟨_, rfl⟩
    rw [← hsn]
    have hf1 : ∀ k j, ¬ ((k = 205 ∨ k = 206 ∨ k = 207) ∧ j = b) → sn.1 k j = s1.1 k j := by rw [hsn]; intro k j e1; exact ((if_neg (by omega)).trans ((if_neg (by omega)).trans ((if_neg (by omega)).trans rfl)))
    have hfr : ∀ k j, ¬ (205 ≤ k ∧ k ≤ 208 ∧ j = b) → ¬ (k = 220 + b) → ¬ (k = 203 ∨ k = 204 ∨ 213 ≤ k ∧ k ≤ 218) → sn.1 k j = s.1 k j := fun k j e1 e2 e3 => (hf1 k j (by omega)).trans (hD1 k j (by omega) e2 e3)
    have hz : sn.2 = s.2 := by rw [hsn]; exact hz1
    have v6 : sn.1 206 b = 5 := by rw [hsn]; show (up2 (up2 (up2 s1.1 205 b ((p : Int))) 206 b 5) 207 b ((q : Int))) 206 b = _; rw [up_nk (by omega)]; exact up_self
    have v7 : sn.1 207 b = (q : Int) := by rw [hsn]; show (up2 (up2 (up2 s1.1 205 b ((p : Int))) 206 b 5) 207 b ((q : Int))) 207 b = _; exact up_self
    have v5 : sn.1 205 b = (p : Int) := by rw [hsn]; show (up2 (up2 (up2 s1.1 205 b ((p : Int))) 206 b 5) 207 b ((q : Int))) 205 b = _; rw [up_nk (by omega), up_nk (by omega)]; exact up_self
    have h8 : sn.1 208 b = s.1 208 b := (hf1 208 b (by omega)).trans ht1
    exact ST_wait (own := own) (p2 := p) (h2 := bh (G b) (bn (G b))) (w2 := bw (G b) (bn (G b))) hb7 hR hI hb hg hst (fun k j e1 e2 e3 e4 e5 => hfr k j (by omega) e2 (by omega)) (HD_at hM.2.2.2.2 (fun i => (hfr 1630 i (by omega) (by omega) (by omega)))) hz (hfr 170 52 (by omega) (by omega) (by omega)) (hfr 170 53 (by omega) (by omega) (by omega)) v6 (by omega) (fun _ => by omega) (hfr 209 b (by omega) (by omega) (by omega)) (fun i => (hfr (921 + b) i (by omega) (by omega) (by omega))) v5 h8 (by unfold eo; simp; omega) (by omega) hF0 (.inr ⟨by omega, rfl⟩) (fun i => (hfr 1630 i (by omega) (by omega) (by omega))) (.inr ⟨q, v7, .inr ⟨rfl, by omega⟩⟩)
  · refine wr_if1f rfl rfl (by unfold i32; omega) h3 ?_
    refine wr_n (pc2 := 124) (lv2 := [(0, .ref 170), (1, vi ((b : Int))), (2, vi 16), (3, vi ((q : Int))), (4, vi ((p : Int)))]) (st2 := [vi ((q : Int)), .ref 170, vi ((b : Int)), .ref 170]) 4 (fun _ _ => rfl) ?_
    refine wr_call1 (args := [vi ((q : Int))]) (rest := [vi ((b : Int)), .ref 170]) rfl rfl rfl rfl (Nat.le_of_ble_eq_true rfl) (cr_mono (c_first (d := d + 2) (by omega) _ hR1 (by omega)) ?_)
    rintro s10 out ⟨v9, rfl, hv9, hc9, hf9, hw9⟩
    · refine ⟨_, rfl, ?_⟩
      show wr (d + 3) tb_M170 127 [(0, .ref 170), (1, vi ((b : Int))), (2, vi 16), (3, vi ((q : Int))), (4, vi ((p : Int)))] [vi v9, vi ((b : Int)), .ref 170] s10 _
      unfold i32 at hv9
      have hR9 : RF s10.1 := RX_RF (fun k j hn => hf9 k j (fun e => hn (by unfold RS; omega)) (fun e => hn (by unfold RS; omega))) hR1
      have ht9 : s10.1 208 b = s1.1 208 b := hf9 208 b (by omega) (by omega)
      refine wr_call1 (args := [vi ((b : Int)), vi v9]) (rest := []) rfl rfl rfl rfl (Nat.le_of_ble_eq_true rfl) (cr_mono (x_push (d := d + 2) (v := v9) _ hR9 hb7 (by unfold i32; omega) (by omega)) ?_)
      rintro s13 out ⟨rfl, hc12, hDk12, hq12, ht12⟩
      · refine ⟨_, rfl, ?_⟩
        show wr (d + 3) tb_M170 130 [(0, .ref 170), (1, vi ((b : Int))), (2, vi 16), (3, vi ((q : Int))), (4, vi ((p : Int)))] [] s13 _
        have hR12 : RF s13.1 := LD_RF hb7 hDk12 hR9
        refine wr_n (pc2 := 148) (lv2 := [(0, .ref 170), (1, vi ((b : Int))), (2, vi 16), (3, vi ((q : Int))), (4, vi ((p : Int)))]) (st2 := []) 1 (fun _ _ => rfl) ?_
        refine wr_end (fun _ _ => rfl) ?_
        have hfr : ∀ k j, ¬ ((k = 205 ∨ k = 208) ∧ j = b) → ¬ (k = 220 + b) → ¬ (k = 203 ∨ k = 204 ∨ 213 ≤ k ∧ k ≤ 218) → ¬ (k = 1622 + q) → ¬ (k = 1630 ∧ j = q) → s13.1 k j = s.1 k j := fun k j e1 e2 e3 e4 e5 => (hDk12 k j e1 e2 e3).trans ((hf9 k j e4 e5).trans (hD1 k j e1 e2 e3))
        have hHD : HD s13.1 := by
          intro i hi
          by_cases e : i = q
          · subst e; rw [hDk12 1630 i (by omega) (by omega) (by omega), hw9]; omega
          · rw [hfr 1630 i (by omega) (by omega) (by omega) (by omega) (by omega)]; exact hM.2.2.2.2 i hi
        exact ST_cur (own := own) (p2 := p + 2) (h2 := bh (G b) (bn (G b)) + 1) hb7 hR hI hb hg hst (fun k j e1 e2 e3 e4 e5 => hfr k j (by omega) e2 (by omega) (by omega) (by omega)) hHD ((hc12.trans hc9).trans hz1) (hfr 170 52 (by omega) (by omega) (by omega) (by omega) (by omega)) (hfr 170 53 (by omega) (by omega) (by omega) (by omega) (by omega)) (hfr 206 b (by omega) (by omega) (by omega) (by omega) (by omega)) (hfr 209 b (by omega) (by omega) (by omega) (by omega) (by omega)) (fun i => (hfr (921 + b) i (by omega) (by omega) (by omega) (by omega) (by omega))) (hq12.trans ((hf9 205 b (by omega) (by omega)).trans hp1)) (by omega) (by omega) c (by omega)
