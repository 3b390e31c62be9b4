set_option maxHeartbeats 20000000 in
set_option maxRecDepth 100000 in
theorem l_first {d q : Nat} {v : Int} {s0 : rS} (hq : q < 8) (hv : i32 v) (hh0 : 1 ≤ s0.1 1630 q ∧ s0.1 1630 q ≤ 40) : ∀ (w : Nat) (i : Int) (s : rS), (40 - i).toNat = w → RF s.1 → s.2 = s0.2 → (∀ k j, ¬ (k = 1622 + q) → ¬ (k = 1630 ∧ j = q) → s.1 k j = s0.1 k j) → s.1 1630 q = s0.1 1630 q - 1 → (0 ≤ i ∧ i ≤ 40) → wr d tb_M172 21 [(3, vi i), (2, vi v), (0, .ref 170), (1, vi ((q : Int)))] [] s (fun s2 out => ∃ z : Int, out = some (some (vi z)) ∧ i32 z ∧ s2.2 = s0.2 ∧ (∀ k j, ¬ (k = 1622 + q) → ¬ (k = 1630 ∧ j = q) → s2.1 k j = s0.1 k j) ∧ s2.1 1630 q = s0.1 1630 q - 1) := by
  intro w
  induction w using Nat.strongRecOn with | ind w ih => ?_
  intro i s hw hR hc hf hh hi
  refine wr_n (pc2 := 23) (lv2 := [(3, vi i), (2, vi v), (0, .ref 170), (1, vi ((q : Int)))]) (st2 := [.ref 170, vi i]) 2 (fun _ _ => rfl) ?_
  refine wr_get (v := .ref 1630) rfl rfl rfl (by decide) (rv_ref (hR 170 51 1630 rfl)) fun h1 => ?_
  show wr d tb_M172 26 [(3, vi i), (2, vi v), (0, .ref 170), (1, vi ((q : Int)))] [.ref 1630, vi i] s _
  refine wr_n (pc2 := 27) (lv2 := [(3, vi i), (2, vi v), (0, .ref 170), (1, vi ((q : Int)))]) (st2 := [vi ((q : Int)), .ref 1630, vi i]) 1 (fun _ _ => rfl) ?_
  refine wr_ald (a := (q : Int)) (v := vi (s.1 1630 q)) rfl rfl rfl (by omega) (by omega) (by decide) rfl fun h2 => ?_
  have h2 : -2147483648 ≤ s.1 1630 q ∧ s.1 1630 q ≤ 2147483647 := h2
  show wr d tb_M172 28 [(3, vi i), (2, vi v), (0, .ref 170), (1, vi ((q : Int)))] [vi (s.1 1630 q), vi i] s _
  by_cases h3 : s.1 1630 q ≤ i
  · refine wr_if2t rfl rfl (by unfold i32; omega) (by unfold i32; omega) h3 ?_
    refine wr_n (pc2 := 56) (lv2 := [(3, vi i), (2, vi v), (0, .ref 170), (1, vi ((q : Int)))]) (st2 := [vi v]) 1 (fun _ _ => rfl) ?_
    refine wr_reti rfl rfl ?_
    exact ⟨v, rfl, hv, hc, hf, hh⟩
  · refine wr_if2f rfl rfl (by unfold i32; omega) (by unfold i32; omega) h3 ?_
    refine wr_n (pc2 := 32) (lv2 := [(3, vi i), (2, vi v), (0, .ref 170), (1, vi ((q : Int)))]) (st2 := [.ref 170]) 1 (fun _ _ => rfl) ?_
    refine wr_get (v := .ref 1621) rfl rfl rfl (by decide) (rv_ref (hR 170 50 1621 rfl)) fun h4 => ?_
    show wr d tb_M172 35 [(3, vi i), (2, vi v), (0, .ref 170), (1, vi ((q : Int)))] [.ref 1621] s _
    refine wr_n (pc2 := 36) (lv2 := [(3, vi i), (2, vi v), (0, .ref 170), (1, vi ((q : Int)))]) (st2 := [vi ((q : Int)), .ref 1621]) 1 (fun _ _ => rfl) ?_
    refine wr_ald (a := (q : Int)) (v := .ref (1622 + q)) rfl rfl rfl (by omega) (by omega) (by decide) (rv_ref (hR 1621 q (1622 + q) (rc_in (by omega)))) fun h5 => ?_
    show wr d tb_M172 37 [(3, vi i), (2, vi v), (0, .ref 170), (1, vi ((q : Int)))] [.ref (1622 + q)] s _
    refine wr_n (pc2 := 39) (lv2 := [(3, vi i), (2, vi v), (0, .ref 170), (1, vi ((q : Int)))]) (st2 := [.ref 170, vi i, .ref (1622 + q)]) 2 (fun _ _ => rfl) ?_
    refine wr_get (v := .ref 1621) rfl rfl rfl (by decide) (rv_ref (hR 170 50 1621 rfl)) fun h6 => ?_
    show wr d tb_M172 42 [(3, vi i), (2, vi v), (0, .ref 170), (1, vi ((q : Int)))] [.ref 1621, vi i, .ref (1622 + q)] s _
    refine wr_n (pc2 := 43) (lv2 := [(3, vi i), (2, vi v), (0, .ref 170), (1, vi ((q : Int)))]) (st2 := [vi ((q : Int)), .ref 1621, vi i, .ref (1622 + q)]) 1 (fun _ _ => rfl) ?_
    refine wr_ald (a := (q : Int)) (v := .ref (1622 + q)) rfl rfl rfl (by omega) (by omega) (by decide) (rv_ref (hR 1621 q (1622 + q) (rc_in (by omega)))) fun h7 => ?_
    show wr d tb_M172 44 [(3, vi i), (2, vi v), (0, .ref 170), (1, vi ((q : Int)))] [.ref (1622 + q), vi i, .ref (1622 + q)] s _
    refine wr_n (pc2 := 46) (lv2 := [(3, vi i), (2, vi v), (0, .ref 170), (1, vi ((q : Int)))]) (st2 := [vi 1, vi i, .ref (1622 + q), vi i, .ref (1622 + q)]) 2 (fun _ _ => rfl) ?_
    refine wr_add (a := i) (b := 1) rfl ?_
    show wr d tb_M172 47 [(3, vi i), (2, vi v), (0, .ref 170), (1, vi ((q : Int)))] [vi (i + 1), .ref (1622 + q), vi i, .ref (1622 + q)] s _
    refine wr_ald (a := i + 1) (v := vi (s.1 (1622 + q) ((i + 1).toNat))) rfl (TG_in (by omega)) rfl (by omega) (by omega) (by decide) rfl fun h8 => ?_
    have h8 : -2147483648 ≤ s.1 (1622 + q) ((i + 1).toNat) ∧ s.1 (1622 + q) ((i + 1).toNat) ≤ 2147483647 := h8
    show wr d tb_M172 48 [(3, vi i), (2, vi v), (0, .ref 170), (1, vi ((q : Int)))] [vi (s.1 (1622 + q) ((i + 1).toNat)), vi i, .ref (1622 + q)] s _
    refine wr_ast (a := i) (z := s.1 (1622 + q) ((i + 1).toNat)) rfl (show 96 ≤ 1622 + q by omega) (TG_in (by omega)) rfl (by omega) (by omega) (by decide) rfl (show -2147483648 ≤ s.1 (1622 + q) ((i + 1).toNat) ∧ s.1 (1622 + q) ((i + 1).toNat) ≤ 2147483647 by omega) ?_
    show wr d tb_M172 49 [(3, vi i), (2, vi v), (0, .ref 170), (1, vi ((q : Int)))] [] (up2 s.1 (1622 + q) i.toNat (s.1 (1622 + q) ((i + 1).toNat)), s.2) _
    have hR9 : RF (up2 s.1 (1622 + q) i.toNat (s.1 (1622 + q) ((i + 1).toNat))) := (RF_up hR (RS_rc (by unfold RS; omega)))
    refine wr_inc (a := i) rfl rfl ?_
    show wr d tb_M172 52 [(3, vi (i + 1)), (2, vi v), (0, .ref 170), (1, vi ((q : Int)))] [] (up2 s.1 (1622 + q) i.toNat (s.1 (1622 + q) ((i + 1).toNat)), s.2) _
    refine wr_n (pc2 := 21) (lv2 := [(3, vi (i + 1)), (2, vi v), (0, .ref 170), (1, vi ((q : Int)))]) (st2 := []) 1 (fun _ _ => rfl) ?_
    obtain ⟨sn, hsn⟩ : ∃ qq9 : rS, qq9 = (up2 s.1 (1622 + q) i.toNat (s.1 (1622 + q) ((i + 1).toNat)), s.2) := ⟨_, rfl⟩
    rw [← hsn]
    have hu : ∀ k j, ¬ (k = 1622 + q) → sn.1 k j = s.1 k j := by rw [hsn]; intro k j e1; exact up_nk e1
    exact ih _ (by omega) _ sn rfl (RX_RF (fun k j hn => hu k j (fun e => hn (by unfold RS; omega))) hR) (by rw [hsn]; exact hc) (fun k j e1 e2 => (hu k j e1).trans (hf k j e1 e2)) ((hu 1630 q (by omega)).trans hh) (by omega)
set_option maxRecDepth 100000 in
theorem c_first {d q : Nat} (hq : q < 8) (s : rS) (hR : RF s.1) (hh0 : 1 ≤ s.1 1630 q ∧ s.1 1630 q ≤ 40) : cr (d + 1) 172 [.ref 170, vi (q : Int)] s (fun s2 out => ∃ z : Int, out = some (some (vi z)) ∧ i32 z ∧ s2.2 = s.2 ∧ (∀ k j, ¬ (k = 1622 + q) → ¬ (k = 1630 ∧ j = q) → s2.1 k j = s.1 k j) ∧ s2.1 1630 q = s.1 1630 q - 1) := by
  refine cr_of (M := tb_M172) rfl (Nat.le_of_ble_eq_true rfl) ?_
  show wr d tb_M172 0 [(0, .ref 170), (1, vi ((q : Int)))] [] s _
  refine wr_n (pc2 := 1) (lv2 := [(0, .ref 170), (1, vi ((q : Int)))]) (st2 := [.ref 170]) 1 (fun _ _ => rfl) ?_
  refine wr_get (v := .ref 1621) rfl rfl rfl (by decide) (rv_ref (hR 170 50 1621 rfl)) fun h1 => ?_
  show wr d tb_M172 4 [(0, .ref 170), (1, vi ((q : Int)))] [.ref 1621] s _
  refine wr_n (pc2 := 5) (lv2 := [(0, .ref 170), (1, vi ((q : Int)))]) (st2 := [vi ((q : Int)), .ref 1621]) 1 (fun _ _ => rfl) ?_
  refine wr_ald (a := (q : Int)) (v := .ref (1622 + q)) rfl rfl rfl (by omega) (by omega) (by decide) (rv_ref (hR 1621 q (1622 + q) (rc_in (by omega)))) fun h2 => ?_
  show wr d tb_M172 6 [(0, .ref 170), (1, vi ((q : Int)))] [.ref (1622 + q)] s _
  refine wr_n (pc2 := 7) (lv2 := [(0, .ref 170), (1, vi ((q : Int)))]) (st2 := [vi 0, .ref (1622 + q)]) 1 (fun _ _ => rfl) ?_
  refine wr_ald (a := 0) (v := vi (s.1 (1622 + q) 0)) rfl (TG_in (by omega)) rfl (by omega) (by omega) (by decide) rfl fun h3 => ?_
  have h3 : -2147483648 ≤ s.1 (1622 + q) 0 ∧ s.1 (1622 + q) 0 ≤ 2147483647 := h3
  show wr d tb_M172 8 [(0, .ref 170), (1, vi ((q : Int)))] [vi (s.1 (1622 + q) 0)] s _
  refine wr_n (pc2 := 10) (lv2 := [(2, vi (s.1 (1622 + q) 0)), (0, .ref 170), (1, vi ((q : Int)))]) (st2 := [.ref 170]) 2 (fun _ _ => rfl) ?_
  refine wr_get (v := .ref 1630) rfl rfl rfl (by decide) (rv_ref (hR 170 51 1630 rfl)) fun h4 => ?_
  show wr d tb_M172 13 [(2, vi (s.1 (1622 + q) 0)), (0, .ref 170), (1, vi ((q : Int)))] [.ref 1630] s _
  refine wr_n (pc2 := 15) (lv2 := [(2, vi (s.1 (1622 + q) 0)), (0, .ref 170), (1, vi ((q : Int)))]) (st2 := [vi ((q : Int)), .ref 1630, vi ((q : Int)), .ref 1630]) 2 (fun _ _ => rfl) ?_
  refine wr_ald (a := (q : Int)) (v := vi (s.1 1630 q)) rfl rfl rfl (by omega) (by omega) (by decide) rfl fun h5 => ?_
  have h5 : -2147483648 ≤ s.1 1630 q ∧ s.1 1630 q ≤ 2147483647 := h5
  show wr d tb_M172 16 [(2, vi (s.1 (1622 + q) 0)), (0, .ref 170), (1, vi ((q : Int)))] [vi (s.1 1630 q), vi ((q : Int)), .ref 1630] s _
  refine wr_n (pc2 := 17) (lv2 := [(2, vi (s.1 (1622 + q) 0)), (0, .ref 170), (1, vi ((q : Int)))]) (st2 := [vi 1, vi (s.1 1630 q), vi ((q : Int)), .ref 1630]) 1 (fun _ _ => rfl) ?_
  refine wr_sub (a := s.1 1630 q) (b := 1) rfl ?_
  show wr d tb_M172 18 [(2, vi (s.1 (1622 + q) 0)), (0, .ref 170), (1, vi ((q : Int)))] [vi ((s.1 1630 q) - 1), vi ((q : Int)), .ref 1630] s _
  refine wr_ast (a := (q : Int)) (z := (s.1 1630 q) - 1) rfl (by decide) rfl rfl (by omega) (by omega) (by decide) rfl (show -2147483648 ≤ (s.1 1630 q) - 1 ∧ (s.1 1630 q) - 1 ≤ 2147483647 by omega) ?_
  show wr d tb_M172 19 [(2, vi (s.1 (1622 + q) 0)), (0, .ref 170), (1, vi ((q : Int)))] [] (up2 s.1 1630 q ((s.1 1630 q) - 1), s.2) _
  have hR6 : RF (up2 s.1 1630 q ((s.1 1630 q) - 1)) := (RF_up hR rfl)
  refine wr_n (pc2 := 21) (lv2 := [(3, vi 0), (2, vi (s.1 (1622 + q) 0)), (0, .ref 170), (1, vi ((q : Int)))]) (st2 := []) 2 (fun _ _ => rfl) ?_
  obtain ⟨sn, hsn⟩ : ∃ qq9 : rS, qq9 = (up2 s.1 1630 q ((s.1 1630 q) - 1), s.2) := ⟨_, rfl⟩
  rw [← hsn]
  have hu : U1 1630 q s.1 sn.1 := by rw [hsn]; exact U1_up
  have hv9 : sn.1 1630 q = (s.1 1630 q) - 1 := by rw [hsn]; show up2 s.1 1630 q _ 1630 q = _; exact up_self
  exact l_first hq (by unfold i32; omega) hh0 _ _ _ rfl (RX_RF (fun k j hn => hu k j (fun e => hn (by unfold RS; omega))) hR) (by rw [hsn]) (fun k j e1 e2 => hu k j e2) hv9 (by omega)
set_option maxHeartbeats 20000000 in
set_option maxRecDepth 100000 in
theorem mv_13 {d C b p na : Nat} {F : Ph} {G : Nat → gB} {own : Nat → Nat → Prop} {s s1 : rS} (hC : C = 177 ∨ C = 186) (hR : RF s.1) (hM : MC C F na s.1) (hI : RI F s.1 G own) (hb7 : b < 700) (hb : (b : Int) < s.1 170 55) (hg : s.1 206 b = 1) (hst : s.1 170 52 = 2) (hsteps : 0 ≤ s.1 170 53 ∧ s.1 170 53 ≤ s.1 170 54 ∧ s.1 170 54 ≤ 20000) (hp5 : s.1 205 b = (p : Int)) (ht0 : s.1 208 b = (bb (G b) (bn (G b)) : Int) + bh (G b) (bn (G b)) ∧ 0 ≤ s.1 208 b ∧ s.1 208 b ≤ 1000) (hrm : bb (G b) (bn (G b)) + frm (bx (G b) (bn (G b))) ≤ 1000) (hD1 : LD b s.1 s1.1) (hz1 : s1.2 = s.2) (hp1 : s1.1 205 b = ((p + 2 : Nat) : Int)) (ht1 : s1.1 208 b = s.1 208 b) (hF0 : F p (bh (G b) (bn (G b))) (bw (G b) (bn (G b))) (bx (G b) (bn (G b)))) (hp24 : p < 24000) {u : Int} (hu : i32 u) (hik : ik na (s.1 (C + 1)) F p (bh (G b) (bn (G b))) (bw (G b) (bn (G b))) (bx (G b) (bn (G b))) 13) (hop : s.1 (C + 1) (p + 1) = u) : cr (d + 4) 170 [.ref 170, vi ((b : Int)), vi 13, vi u, vi ((p : Int))] s1 (ON F G b s) := by
  obtain ⟨a, g, w2, g1, c1, c⟩ := hik
  have hR1 : RF s1.1 := LD_RF hb7 hD1 hR
  unfold i32 at hu
  refine cr_of (M := tb_M170) rfl (Nat.le_of_ble_eq_true rfl) ?_
  show wr (d + 3) tb_M170 0 [(0, .ref 170), (1, vi ((b : Int))), (2, vi 13), (3, vi u), (4, vi ((p : Int)))] [] s1 _
  refine wr_n (pc2 := 32) (lv2 := [(0, .ref 170), (1, vi ((b : Int))), (2, vi 13), (3, vi u), (4, vi ((p : Int)))]) (st2 := [vi u, vi 2, vi ((b : Int)), .ref 170]) 6 (fun _ _ => rfl) ?_
  refine wr_call1 (args := [vi ((b : Int)), vi 2, vi u]) (rest := []) rfl rfl rfl rfl (Nat.le_of_ble_eq_true rfl) (cr_mono (c_wait (d := d + 2) _ hR1 hb7 (h := 2) (w := u) (by unfold i32; omega) (by unfold i32; omega)) ?_)
  rintro s2 out ⟨rfl, e1⟩
  refine ⟨_, rfl, ?_⟩
  rw [e1]
  show wr (d + 3) tb_M170 35 [(0, .ref 170), (1, vi ((b : Int))), (2, vi 13), (3, vi u), (4, vi ((p : Int)))] [] (up2 (up2 s1.1 206 b 2) 207 b u, s1.2) _
  have hR3 : RF (up2 (up2 s1.1 206 b 2) 207 b u) := (RF_up (RF_up hR1 rfl) rfl)
  refine wr_end (fun _ _ => rfl) ?_
  obtain ⟨sn, hsn⟩ : ∃ qq9 : rS, qq9 = (up2 (up2 s1.1 206 b 2) 207 b u, s1.2) := ⟨_, rfl⟩
  rw [← hsn]
  have hf1 : ∀ k j, ¬ ((k = 205 ∨ k = 206 ∨ k = 207) ∧ j = b) → sn.1 k j = s1.1 k j := by rw [hsn]; intro k j e1; exact ((if_neg (by omega)).trans ((if_neg (by omega)).trans rfl))
  have hfr : ∀ k j, ¬ (205 ≤ k ∧ k ≤ 208 ∧ j = b) → ¬ (k = 220 + b) → ¬ (k = 203 ∨ k = 204 ∨ 213 ≤ k ∧ k ≤ 218) → sn.1 k j = s.1 k j := fun k j e1 e2 e3 => (hf1 k j (by omega)).trans (hD1 k j (by omega) e2 e3)
  have hz : sn.2 = s.2 := by rw [hsn]; exact hz1
  have v6 : sn.1 206 b = 2 := by rw [hsn]; show (up2 (up2 s1.1 206 b 2) 207 b u) 206 b = _; rw [up_nk (by omega)]; exact up_self
  have v7 : sn.1 207 b = u := by rw [hsn]; show (up2 (up2 s1.1 206 b 2) 207 b u) 207 b = _; exact up_self
  have v5 : sn.1 205 b = ((p + 2 : Nat) : Int) := (show sn.1 205 b = s1.1 205 b by rw [hsn]; show (up2 (up2 s1.1 206 b 2) 207 b u) 205 b = _; rw [up_nk (by omega), up_nk (by omega)]).trans hp1
  have h8 : sn.1 208 b = s.1 208 b := (hf1 208 b (by omega)).trans ht1
  exact ST_wait (own := own) (p2 := p + 2) (h2 := g) (w2 := w2) hb7 hR hI hb hg hst (fun k j e1 e2 e3 e4 e5 => hfr k j (by omega) e2 (by omega)) (HD_at hM.2.2.2.2 (fun i => (hfr 1630 i (by omega) (by omega) (by omega)))) hz (hfr 170 52 (by omega) (by omega) (by omega)) (hfr 170 53 (by omega) (by omega) (by omega)) v6 (by omega) (fun h9 => absurd h9 (by omega)) (hfr 209 b (by omega) (by omega) (by omega)) (fun i => (hfr (921 + b) i (by omega) (by omega) (by omega))) v5 h8 (by unfold eo; simp; omega) (by omega) c (.inl ⟨by omega, by omega⟩) (fun i => (hfr 1630 i (by omega) (by omega) (by omega))) (.inl (by omega))
set_option maxHeartbeats 20000000 in
set_option maxRecDepth 100000 in
theorem mv_14 {d C b p na : Nat} {F : Ph} {G : Nat → gB} {own : Nat → Nat → Prop} {s s1 : rS} (hC : C = 177 ∨ C = 186) (hR : RF s.1) (hM : MC C F na s.1) (hI : RI F s.1 G own) (hb7 : b < 700) (hb : (b : Int) < s.1 170 55) (hg : s.1 206 b = 1) (hst : s.1 170 52 = 2) (hsteps : 0 ≤ s.1 170 53 ∧ s.1 170 53 ≤ s.1 170 54 ∧ s.1 170 54 ≤ 20000) (hp5 : s.1 205 b = (p : Int)) (ht0 : s.1 208 b = (bb (G b) (bn (G b)) : Int) + bh (G b) (bn (G b)) ∧ 0 ≤ s.1 208 b ∧ s.1 208 b ≤ 1000) (hrm : bb (G b) (bn (G b)) + frm (bx (G b) (bn (G b))) ≤ 1000) (hD1 : LD b s.1 s1.1) (hz1 : s1.2 = s.2) (hp1 : s1.1 205 b = ((p + 2 : Nat) : Int)) (ht1 : s1.1 208 b = s.1 208 b) (hF0 : F p (bh (G b) (bn (G b))) (bw (G b) (bn (G b))) (bx (G b) (bn (G b)))) (hp24 : p < 24000) {u : Int} (hu : i32 u) (hik : ik na (s.1 (C + 1)) F p (bh (G b) (bn (G b))) (bw (G b) (bn (G b))) (bx (G b) (bn (G b))) 14) (hop : s.1 (C + 1) (p + 1) = u) : cr (d + 4) 170 [.ref 170, vi ((b : Int)), vi 14, vi u, vi ((p : Int))] s1 (ON F G b s) := by
  obtain ⟨a, e, w2, c1, c⟩ := hik
  have hR1 : RF s1.1 := LD_RF hb7 hD1 hR
  unfold i32 at hu
  refine cr_of (M := tb_M170) rfl (Nat.le_of_ble_eq_true rfl) ?_
  show wr (d + 3) tb_M170 0 [(0, .ref 170), (1, vi ((b : Int))), (2, vi 14), (3, vi u), (4, vi ((p : Int)))] [] s1 _
  refine wr_n (pc2 := 40) (lv2 := [(0, .ref 170), (1, vi ((b : Int))), (2, vi 14), (3, vi u), (4, vi ((p : Int)))]) (st2 := [vi u, vi 3, vi ((b : Int)), .ref 170]) 6 (fun _ _ => rfl) ?_
  refine wr_call1 (args := [vi ((b : Int)), vi 3, vi u]) (rest := []) rfl rfl rfl rfl (Nat.le_of_ble_eq_true rfl) (cr_mono (c_wait (d := d + 2) _ hR1 hb7 (h := 3) (w := u) (by unfold i32; omega) (by unfold i32; omega)) ?_)
  rintro s2 out ⟨rfl, e1⟩
  refine ⟨_, rfl, ?_⟩
  rw [e1]
  show wr (d + 3) tb_M170 43 [(0, .ref 170), (1, vi ((b : Int))), (2, vi 14), (3, vi u), (4, vi ((p : Int)))] [] (up2 (up2 s1.1 206 b 3) 207 b u, s1.2) _
  have hR3 : RF (up2 (up2 s1.1 206 b 3) 207 b u) := (RF_up (RF_up hR1 rfl) rfl)
  refine wr_end (fun _ _ => rfl) ?_
  obtain ⟨sn, hsn⟩ : ∃ qq9 : rS, qq9 = (up2 (up2 s1.1 206 b 3) 207 b u, s1.2) := ⟨_, rfl⟩
  rw [← hsn]
  have hf1 : ∀ k j, ¬ ((k = 205 ∨ k = 206 ∨ k = 207) ∧ j = b) → sn.1 k j = s1.1 k j := by rw [hsn]; intro k j e1; exact ((if_neg (by omega)).trans ((if_neg (by omega)).trans rfl))
  have hfr : ∀ k j, ¬ (205 ≤ k ∧ k ≤ 208 ∧ j = b) → ¬ (k = 220 + b) → ¬ (k = 203 ∨ k = 204 ∨ 213 ≤ k ∧ k ≤ 218) → sn.1 k j = s.1 k j := fun k j e1 e2 e3 => (hf1 k j (by omega)).trans (hD1 k j (by omega) e2 e3)
  have hz : sn.2 = s.2 := by rw [hsn]; exact hz1
  have v6 : sn.1 206 b = 3 := by rw [hsn]; show (up2 (up2 s1.1 206 b 3) 207 b u) 206 b = _; rw [up_nk (by omega)]; exact up_self
  have v7 : sn.1 207 b = u := by rw [hsn]; show (up2 (up2 s1.1 206 b 3) 207 b u) 207 b = _; exact up_self
  have v5 : sn.1 205 b = ((p + 2 : Nat) : Int) := (show sn.1 205 b = s1.1 205 b by rw [hsn]; show (up2 (up2 s1.1 206 b 3) 207 b u) 205 b = _; rw [up_nk (by omega), up_nk (by omega)]).trans hp1
  have h8 : sn.1 208 b = s.1 208 b := (hf1 208 b (by omega)).trans ht1
  exact ST_wait (own := own) (p2 := p + 2) (h2 := bh (G b) (bn (G b)) + 1) (w2 := w2) hb7 hR hI hb hg hst (fun k j e1 e2 e3 e4 e5 => hfr k j (by omega) e2 (by omega)) (HD_at hM.2.2.2.2 (fun i => (hfr 1630 i (by omega) (by omega) (by omega)))) hz (hfr 170 52 (by omega) (by omega) (by omega)) (hfr 170 53 (by omega) (by omega) (by omega)) v6 (by omega) (fun h9 => absurd h9 (by omega)) (hfr 209 b (by omega) (by omega) (by omega)) (fun i => (hfr (921 + b) i (by omega) (by omega) (by omega))) v5 h8 (by unfold eo; simp; omega) (by omega) c (.inl ⟨by omega, by omega⟩) (fun i => (hfr 1630 i (by omega) (by omega) (by omega))) (.inl (by omega))
