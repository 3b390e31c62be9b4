/-! Our own object: feed, with its bytes. -/
def ADX (x : Int) (s : rS) : rS → hm_Out → Prop := fun s2 out => out = some none ∧ KI s2.1 ∧ s2.1 97 1 = s.1 97 1 + 4 ∧ (∀ t : Nat, t < 4 → s2.1 98 ((s.1 97 1).toNat + t) = byt x (24 - 8 * (t : Int))) ∧ (∀ k j, ¬ (k = 98 ∧ (s.1 97 1).toNat ≤ j) → ¬ (k = 97 ∧ j = 1) → s2.1 k j = s.1 k j) ∧ s2.2 = s.2
set_option maxHeartbeats 20000000 in
set_option maxRecDepth 100000 in
theorem k_taddx {d : Nat} {x : Int} (s : rS) (hK : KI s.1) (hx : -2147483648 ≤ x ∧ x ≤ 2147483647) (h44 : s.1 97 1 + 4 ≤ 2000) : cr (d + 1) 17 [.ref 97, vi x] s (ADX x s) := by
  refine cr_of (M := tb_M17) rfl (Nat.le_of_ble_eq_true rfl) ?_
  show wr d tb_M17 0 [(0, .ref 97), (1, vi x)] [] s _
  refine wr_n (pc2 := 8) (lv2 := [(2, vi 24), (0, .ref 97), (1, vi x)]) (st2 := [.ref 97]) 5 (fun _ _ => rfl) ?_
  refine wr_get (v := vi (s.1 97 1)) rfl rfl rfl (by decide) rfl fun h1 => ?_
  have h1 : -2147483648 ≤ s.1 97 1 ∧ s.1 97 1 ≤ 2147483647 := h1
  show wr d tb_M17 11 [(2, vi 24), (0, .ref 97), (1, vi x)] [vi (s.1 97 1)] s _
  have hb2 : 0 ≤ s.1 97 1 ∧ s.1 97 1 ≤ 2000 := kb_to rfl (hK.2 97 1)
  refine wr_n (pc2 := 14) (lv2 := [(2, vi 24), (0, .ref 97), (1, vi x)]) (st2 := [vi 2000, vi (s.1 97 1)]) 1 (fun _ _ => rfl) ?_
  refine wr_if2f rfl rfl (by unfold i32; omega) (by unfold i32; omega) (by show ¬ (2000 ≤ s.1 97 1); omega) ?_
  show wr d tb_M17 17 [(2, vi 24), (0, .ref 97), (1, vi x)] [] s _
  refine wr_n (pc2 := 18) (lv2 := [(2, vi 24), (0, .ref 97), (1, vi x)]) (st2 := [.ref 97]) 1 (fun _ _ => rfl) ?_
  refine wr_get (v := .ref 98) rfl rfl rfl (by decide) (rv_ref (hK.1 97 0 98 rfl)) fun h3 => ?_
  show wr d tb_M17 21 [(2, vi 24), (0, .ref 97), (1, vi x)] [.ref 98] s _
  refine wr_n (pc2 := 22) (lv2 := [(2, vi 24), (0, .ref 97), (1, vi x)]) (st2 := [.ref 97, .ref 98]) 1 (fun _ _ => rfl) ?_
  refine wr_get (v := vi (s.1 97 1)) rfl rfl rfl (by decide) rfl fun h4 => ?_
  have h4 : -2147483648 ≤ s.1 97 1 ∧ s.1 97 1 ≤ 2147483647 := h4
  show wr d tb_M17 25 [(2, vi 24), (0, .ref 97), (1, vi x)] [vi (s.1 97 1), .ref 98] s _
  have hb5 : 0 ≤ s.1 97 1 ∧ s.1 97 1 ≤ 2000 := kb_to rfl (hK.2 97 1)
  refine wr_n (pc2 := 27) (lv2 := [(2, vi 24), (0, .ref 97), (1, vi x)]) (st2 := [vi 24, vi x, vi (s.1 97 1), .ref 98]) 2 (fun _ _ => rfl) ?_
  refine wr_shr rfl ?_
  show wr d tb_M17 28 [(2, vi 24), (0, .ref 97), (1, vi x)] [.int (Int32.ofInt x >>> (Int32.ofInt 24 &&& 31)), vi (s.1 97 1), .ref 98] s _
  refine wr_i2b rfl ?_
  show wr d tb_M17 29 [(2, vi 24), (0, .ref 97), (1, vi x)] [.int ((Int32.ofInt x >>> (Int32.ofInt 24 &&& 31))).toInt8.toInt32, vi (s.1 97 1), .ref 98] s _
  refine wr_bstx (a := s.1 97 1) rfl (by decide) rfl (by omega) (by omega) (by decide) ?_
  show wr d tb_M17 30 [(2, vi 24), (0, .ref 97), (1, vi x)] [] (up2 s.1 98 ((s.1 97 1).toNat) (byt x 24), s.2) _
  have hK6 : KI (up2 s.1 98 ((s.1 97 1).toNat) (byt x 24)) := (KI_up hK (n0 rfl (by omega) (by omega)) (kb_no rfl))
  refine wr_n (pc2 := 32) (lv2 := [(2, vi 24), (0, .ref 97), (1, vi x)]) (st2 := [.ref 97, .ref 97]) 2 (fun _ _ => rfl) ?_
  refine wr_get (v := vi (s.1 97 1)) rfl rfl rfl (by decide) rfl fun h7 => ?_
  have h7 : -2147483648 ≤ s.1 97 1 ∧ s.1 97 1 ≤ 2147483647 := h7
  show wr d tb_M17 35 [(2, vi 24), (0, .ref 97), (1, vi x)] [vi (s.1 97 1), .ref 97] (up2 s.1 98 ((s.1 97 1).toNat) (byt x 24), s.2) _
  have hb8 : 0 ≤ s.1 97 1 ∧ s.1 97 1 ≤ 2000 := kb_to rfl (hK.2 97 1)
  refine wr_n (pc2 := 36) (lv2 := [(2, vi 24), (0, .ref 97), (1, vi x)]) (st2 := [vi 1, vi (s.1 97 1), .ref 97]) 1 (fun _ _ => rfl) ?_
  refine wr_add (a := s.1 97 1) (b := 1) rfl ?_
  show wr d tb_M17 37 [(2, vi 24), (0, .ref 97), (1, vi x)] [vi (s.1 97 1 + 1), .ref 97] (up2 s.1 98 ((s.1 97 1).toNat) (byt x 24), s.2) _
  refine wr_put (z := s.1 97 1 + 1) rfl rfl rfl rfl (by decide) rfl (by decide) rfl (show -2147483648 ≤ s.1 97 1 + 1 ∧ s.1 97 1 + 1 ≤ 2147483647 by omega) (hf_int' _) ?_
  show wr d tb_M17 40 [(2, vi 24), (0, .ref 97), (1, vi x)] [] (up2 (up2 s.1 98 ((s.1 97 1).toNat) (byt x 24)) 97 1 (s.1 97 1 + 1), s.2) _
  have hK9 : KI (up2 (up2 s.1 98 ((s.1 97 1).toNat) (byt x 24)) 97 1 (s.1 97 1 + 1)) := (KI_up (KI_up hK (n0 rfl (by omega) (by omega)) (kb_no rfl)) rfl (kb_of rfl (show 0 ≤ s.1 97 1 + 1 ∧ s.1 97 1 + 1 ≤ 2000 by omega)))
  refine wr_inc (a := 24) rfl rfl ?_
  show wr d tb_M17 43 [(2, vi 16), (0, .ref 97), (1, vi x)] [] (up2 (up2 s.1 98 ((s.1 97 1).toNat) (byt x 24)) 97 1 (s.1 97 1 + 1), s.2) _
  refine wr_n (pc2 := 8) (lv2 := [(2, vi 16), (0, .ref 97), (1, vi x)]) (st2 := [.ref 97]) 4 (fun _ _ => rfl) ?_
  refine wr_get (v := vi (s.1 97 1 + 1)) rfl rfl rfl (by decide) rfl fun h10 => ?_
  have h10 : -2147483648 ≤ s.1 97 1 + 1 ∧ s.1 97 1 + 1 ≤ 2147483647 := h10
  show wr d tb_M17 11 [(2, vi 16), (0, .ref 97), (1, vi x)] [vi (s.1 97 1 + 1)] (up2 (up2 s.1 98 ((s.1 97 1).toNat) (byt x 24)) 97 1 (s.1 97 1 + 1), s.2) _
  refine wr_n (pc2 := 14) (lv2 := [(2, vi 16), (0, .ref 97), (1, vi x)]) (st2 := [vi 2000, vi (s.1 97 1 + 1)]) 1 (fun _ _ => rfl) ?_
  refine wr_if2f rfl rfl (by unfold i32; omega) (by unfold i32; omega) (by show ¬ (2000 ≤ s.1 97 1 + 1); omega) ?_
  show wr d tb_M17 17 [(2, vi 16), (0, .ref 97), (1, vi x)] [] (up2 (up2 s.1 98 ((s.1 97 1).toNat) (byt x 24)) 97 1 (s.1 97 1 + 1), s.2) _
  refine wr_n (pc2 := 18) (lv2 := [(2, vi 16), (0, .ref 97), (1, vi x)]) (st2 := [.ref 97]) 1 (fun _ _ => rfl) ?_
  refine wr_get (v := .ref 98) rfl rfl rfl (by decide) (rv_ref (hK9.1 97 0 98 rfl)) fun h11 => ?_
  show wr d tb_M17 21 [(2, vi 16), (0, .ref 97), (1, vi x)] [.ref 98] (up2 (up2 s.1 98 ((s.1 97 1).toNat) (byt x 24)) 97 1 (s.1 97 1 + 1), s.2) _
  refine wr_n (pc2 := 22) (lv2 := [(2, vi 16), (0, .ref 97), (1, vi x)]) (st2 := [.ref 97, .ref 98]) 1 (fun _ _ => rfl) ?_
  refine wr_get (v := vi (s.1 97 1 + 1)) rfl rfl rfl (by decide) rfl fun h12 => ?_
  have h12 : -2147483648 ≤ s.1 97 1 + 1 ∧ s.1 97 1 + 1 ≤ 2147483647 := h12
  show wr d tb_M17 25 [(2, vi 16), (0, .ref 97), (1, vi x)] [vi (s.1 97 1 + 1), .ref 98] (up2 (up2 s.1 98 ((s.1 97 1).toNat) (byt x 24)) 97 1 (s.1 97 1 + 1), s.2) _
  refine wr_n (pc2 := 27) (lv2 := [(2, vi 16), (0, .ref 97), (1, vi x)]) (st2 := [vi 16, vi x, vi (s.1 97 1 + 1), .ref 98]) 2 (fun _ _ => rfl) ?_
  refine wr_shr rfl ?_
  show wr d tb_M17 28 [(2, vi 16), (0, .ref 97), (1, vi x)] [.int (Int32.ofInt x >>> (Int32.ofInt 16 &&& 31)), vi (s.1 97 1 + 1), .ref 98] (up2 (up2 s.1 98 ((s.1 97 1).toNat) (byt x 24)) 97 1 (s.1 97 1 + 1), s.2) _
  refine wr_i2b rfl ?_
  show wr d tb_M17 29 [(2, vi 16), (0, .ref 97), (1, vi x)] [.int ((Int32.ofInt x >>> (Int32.ofInt 16 &&& 31))).toInt8.toInt32, vi (s.1 97 1 + 1), .ref 98] (up2 (up2 s.1 98 ((s.1 97 1).toNat) (byt x 24)) 97 1 (s.1 97 1 + 1), s.2) _
  refine wr_bstx (a := s.1 97 1 + 1) rfl (by decide) rfl (by omega) (by omega) (by decide) ?_
  show wr d tb_M17 30 [(2, vi 16), (0, .ref 97), (1, vi x)] [] (up2 (up2 (up2 s.1 98 ((s.1 97 1).toNat) (byt x 24)) 97 1 (s.1 97 1 + 1)) 98 ((s.1 97 1 + 1).toNat) (byt x 16), s.2) _
  have hK13 : KI (up2 (up2 (up2 s.1 98 ((s.1 97 1).toNat) (byt x 24)) 97 1 (s.1 97 1 + 1)) 98 ((s.1 97 1 + 1).toNat) (byt x 16)) := (KI_up (KI_up (KI_up hK (n0 rfl (by omega) (by omega)) (kb_no rfl)) rfl (kb_of rfl (show 0 ≤ s.1 97 1 + 1 ∧ s.1 97 1 + 1 ≤ 2000 by omega))) (n0 rfl (by omega) (by omega)) (kb_no rfl))
  refine wr_n (pc2 := 32) (lv2 := [(2, vi 16), (0, .ref 97), (1, vi x)]) (st2 := [.ref 97, .ref 97]) 2 (fun _ _ => rfl) ?_
  refine wr_get (v := vi (s.1 97 1 + 1)) rfl rfl rfl (by decide) rfl fun h14 => ?_
  have h14 : -2147483648 ≤ s.1 97 1 + 1 ∧ s.1 97 1 + 1 ≤ 2147483647 := h14
  show wr d tb_M17 35 [(2, vi 16), (0, .ref 97), (1, vi x)] [vi (s.1 97 1 + 1), .ref 97] (up2 (up2 (up2 s.1 98 ((s.1 97 1).toNat) (byt x 24)) 97 1 (s.1 97 1 + 1)) 98 ((s.1 97 1 + 1).toNat) (byt x 16), s.2) _
  refine wr_n (pc2 := 36) (lv2 := [(2, vi 16), (0, .ref 97), (1, vi x)]) (st2 := [vi 1, vi (s.1 97 1 + 1), .ref 97]) 1 (fun _ _ => rfl) ?_
  refine wr_add (a := s.1 97 1 + 1) (b := 1) rfl ?_
  show wr d tb_M17 37 [(2, vi 16), (0, .ref 97), (1, vi x)] [vi (s.1 97 1 + 1 + 1), .ref 97] (up2 (up2 (up2 s.1 98 ((s.1 97 1).toNat) (byt x 24)) 97 1 (s.1 97 1 + 1)) 98 ((s.1 97 1 + 1).toNat) (byt x 16), s.2) _
  refine wr_put (z := s.1 97 1 + 1 + 1) rfl rfl rfl rfl (by decide) rfl (by decide) rfl (show -2147483648 ≤ s.1 97 1 + 1 + 1 ∧ s.1 97 1 + 1 + 1 ≤ 2147483647 by omega) (hf_int' _) ?_
  show wr d tb_M17 40 [(2, vi 16), (0, .ref 97), (1, vi x)] [] (up2 (up2 (up2 (up2 s.1 98 ((s.1 97 1).toNat) (byt x 24)) 97 1 (s.1 97 1 + 1)) 98 ((s.1 97 1 + 1).toNat) (byt x 16)) 97 1 (s.1 97 1 + 1 + 1), s.2) _
  have hK15 : KI (up2 (up2 (up2 (up2 s.1 98 ((s.1 97 1).toNat) (byt x 24)) 97 1 (s.1 97 1 + 1)) 98 ((s.1 97 1 + 1).toNat) (byt x 16)) 97 1 (s.1 97 1 + 1 + 1)) := (KI_up (KI_up (KI_up (KI_up hK (n0 rfl (by omega) (by omega)) (kb_no rfl)) rfl (kb_of rfl (show 0 ≤ s.1 97 1 + 1 ∧ s.1 97 1 + 1 ≤ 2000 by omega))) (n0 rfl (by omega) (by omega)) (kb_no rfl)) rfl (kb_of rfl (show 0 ≤ s.1 97 1 + 1 + 1 ∧ s.1 97 1 + 1 + 1 ≤ 2000 by omega)))
  refine wr_inc (a := 16) rfl rfl ?_
  show wr d tb_M17 43 [(2, vi 8), (0, .ref 97), (1, vi x)] [] (up2 (up2 (up2 (up2 s.1 98 ((s.1 97 1).toNat) (byt x 24)) 97 1 (s.1 97 1 + 1)) 98 ((s.1 97 1 + 1).toNat) (byt x 16)) 97 1 (s.1 97 1 + 1 + 1), s.2) _
  refine wr_n (pc2 := 8) (lv2 := [(2, vi 8), (0, .ref 97), (1, vi x)]) (st2 := [.ref 97]) 4 (fun _ _ => rfl) ?_
  refine wr_get (v := vi (s.1 97 1 + 1 + 1)) rfl rfl rfl (by decide) rfl fun h16 => ?_
  have h16 : -2147483648 ≤ s.1 97 1 + 1 + 1 ∧ s.1 97 1 + 1 + 1 ≤ 2147483647 := h16
  show wr d tb_M17 11 [(2, vi 8), (0, .ref 97), (1, vi x)] [vi (s.1 97 1 + 1 + 1)] (up2 (up2 (up2 (up2 s.1 98 ((s.1 97 1).toNat) (byt x 24)) 97 1 (s.1 97 1 + 1)) 98 ((s.1 97 1 + 1).toNat) (byt x 16)) 97 1 (s.1 97 1 + 1 + 1), s.2) _
  refine wr_n (pc2 := 14) (lv2 := [(2, vi 8), (0, .ref 97), (1, vi x)]) (st2 := [vi 2000, vi (s.1 97 1 + 1 + 1)]) 1 (fun _ _ => rfl) ?_
  refine wr_if2f rfl rfl (by unfold i32; omega) (by unfold i32; omega) (by show ¬ (2000 ≤ s.1 97 1 + 1 + 1); omega) ?_
  show wr d tb_M17 17 [(2, vi 8), (0, .ref 97), (1, vi x)] [] (up2 (up2 (up2 (up2 s.1 98 ((s.1 97 1).toNat) (byt x 24)) 97 1 (s.1 97 1 + 1)) 98 ((s.1 97 1 + 1).toNat) (byt x 16)) 97 1 (s.1 97 1 + 1 + 1), s.2) _
  refine wr_n (pc2 := 18) (lv2 := [(2, vi 8), (0, .ref 97), (1, vi x)]) (st2 := [.ref 97]) 1 (fun _ _ => rfl) ?_
  refine wr_get (v := .ref 98) rfl rfl rfl (by decide) (rv_ref (hK15.1 97 0 98 rfl)) fun h17 => ?_
  show wr d tb_M17 21 [(2, vi 8), (0, .ref 97), (1, vi x)] [.ref 98] (up2 (up2 (up2 (up2 s.1 98 ((s.1 97 1).toNat) (byt x 24)) 97 1 (s.1 97 1 + 1)) 98 ((s.1 97 1 + 1).toNat) (byt x 16)) 97 1 (s.1 97 1 + 1 + 1), s.2) _
  refine wr_n (pc2 := 22) (lv2 := [(2, vi 8), (0, .ref 97), (1, vi x)]) (st2 := [.ref 97, .ref 98]) 1 (fun _ _ => rfl) ?_
  refine wr_get (v := vi (s.1 97 1 + 1 + 1)) rfl rfl rfl (by decide) rfl fun h18 => ?_
  have h18 : -2147483648 ≤ s.1 97 1 + 1 + 1 ∧ s.1 97 1 + 1 + 1 ≤ 2147483647 := h18
  show wr d tb_M17 25 [(2, vi 8), (0, .ref 97), (1, vi x)] [vi (s.1 97 1 + 1 + 1), .ref 98] (up2 (up2 (up2 (up2 s.1 98 ((s.1 97 1).toNat) (byt x 24)) 97 1 (s.1 97 1 + 1)) 98 ((s.1 97 1 + 1).toNat) (byt x 16)) 97 1 (s.1 97 1 + 1 + 1), s.2) _
  refine wr_n (pc2 := 27) (lv2 := [(2, vi 8), (0, .ref 97), (1, vi x)]) (st2 := [vi 8, vi x, vi (s.1 97 1 + 1 + 1), .ref 98]) 2 (fun _ _ => rfl) ?_
  refine wr_shr rfl ?_
  show wr d tb_M17 28 [(2, vi 8), (0, .ref 97), (1, vi x)] [.int (Int32.ofInt x >>> (Int32.ofInt 8 &&& 31)), vi (s.1 97 1 + 1 + 1), .ref 98] (up2 (up2 (up2 (up2 s.1 98 ((s.1 97 1).toNat) (byt x 24)) 97 1 (s.1 97 1 + 1)) 98 ((s.1 97 1 + 1).toNat) (byt x 16)) 97 1 (s.1 97 1 + 1 + 1), s.2) _
  refine wr_i2b rfl ?_
  show wr d tb_M17 29 [(2, vi 8), (0, .ref 97), (1, vi x)] [.int ((Int32.ofInt x >>> (Int32.ofInt 8 &&& 31))).toInt8.toInt32, vi (s.1 97 1 + 1 + 1), .ref 98] (up2 (up2 (up2 (up2 s.1 98 ((s.1 97 1).toNat) (byt x 24)) 97 1 (s.1 97 1 + 1)) 98 ((s.1 97 1 + 1).toNat) (byt x 16)) 97 1 (s.1 97 1 + 1 + 1), s.2) _
  refine wr_bstx (a := s.1 97 1 + 1 + 1) rfl (by decide) rfl (by omega) (by omega) (by decide) ?_
  show wr d tb_M17 30 [(2, vi 8), (0, .ref 97), (1, vi x)] [] (up2 (up2 (up2 (up2 (up2 s.1 98 ((s.1 97 1).toNat) (byt x 24)) 97 1 (s.1 97 1 + 1)) 98 ((s.1 97 1 + 1).toNat) (byt x 16)) 97 1 (s.1 97 1 + 1 + 1)) 98 ((s.1 97 1 + 1 + 1).toNat) (byt x 8), s.2) _
  have hK19 : KI (up2 (up2 (up2 (up2 (up2 s.1 98 ((s.1 97 1).toNat) (byt x 24)) 97 1 (s.1 97 1 + 1)) 98 ((s.1 97 1 + 1).toNat) (byt x 16)) 97 1 (s.1 97 1 + 1 + 1)) 98 ((s.1 97 1 + 1 + 1).toNat) (byt x 8)) := (KI_up (KI_up (KI_up (KI_up (KI_up hK (n0 rfl (by omega) (by omega)) (kb_no rfl)) rfl (kb_of rfl (show 0 ≤ s.1 97 1 + 1 ∧ s.1 97 1 + 1 ≤ 2000 by omega))) (n0 rfl (by omega) (by omega)) (kb_no rfl)) rfl (kb_of rfl (show 0 ≤ s.1 97 1 + 1 + 1 ∧ s.1 97 1 + 1 + 1 ≤ 2000 by omega))) (n0 rfl (by omega) (by omega)) (kb_no rfl))
  refine wr_n (pc2 := 32) (lv2 := [(2, vi 8), (0, .ref 97), (1, vi x)]) (st2 := [.ref 97, .ref 97]) 2 (fun _ _ => rfl) ?_
  refine wr_get (v := vi (s.1 97 1 + 1 + 1)) rfl rfl rfl (by decide) rfl fun h20 => ?_
  have h20 : -2147483648 ≤ s.1 97 1 + 1 + 1 ∧ s.1 97 1 + 1 + 1 ≤ 2147483647 := h20
  show wr d tb_M17 35 [(2, vi 8), (0, .ref 97), (1, vi x)] [vi (s.1 97 1 + 1 + 1), .ref 97] (up2 (up2 (up2 (up2 (up2 s.1 98 ((s.1 97 1).toNat) (byt x 24)) 97 1 (s.1 97 1 + 1)) 98 ((s.1 97 1 + 1).toNat) (byt x 16)) 97 1 (s.1 97 1 + 1 + 1)) 98 ((s.1 97 1 + 1 + 1).toNat) (byt x 8), s.2) _
  refine wr_n (pc2 := 36) (lv2 := [(2, vi 8), (0, .ref 97), (1, vi x)]) (st2 := [vi 1, vi (s.1 97 1 + 1 + 1), .ref 97]) 1 (fun _ _ => rfl) ?_
  refine wr_add (a := s.1 97 1 + 1 + 1) (b := 1) rfl ?_
  show wr d tb_M17 37 [(2, vi 8), (0, .ref 97), (1, vi x)] [vi (s.1 97 1 + 1 + 1 + 1), .ref 97] (up2 (up2 (up2 (up2 (up2 s.1 98 ((s.1 97 1).toNat) (byt x 24)) 97 1 (s.1 97 1 + 1)) 98 ((s.1 97 1 + 1).toNat) (byt x 16)) 97 1 (s.1 97 1 + 1 + 1)) 98 ((s.1 97 1 + 1 + 1).toNat) (byt x 8), s.2) _
  refine wr_put (z := s.1 97 1 + 1 + 1 + 1) rfl rfl rfl rfl (by decide) rfl (by decide) rfl (show -2147483648 ≤ s.1 97 1 + 1 + 1 + 1 ∧ s.1 97 1 + 1 + 1 + 1 ≤ 2147483647 by omega) (hf_int' _) ?_
  show wr d tb_M17 40 [(2, vi 8), (0, .ref 97), (1, vi x)] [] (up2 (up2 (up2 (up2 (up2 (up2 s.1 98 ((s.1 97 1).toNat) (byt x 24)) 97 1 (s.1 97 1 + 1)) 98 ((s.1 97 1 + 1).toNat) (byt x 16)) 97 1 (s.1 97 1 + 1 + 1)) 98 ((s.1 97 1 + 1 + 1).toNat) (byt x 8)) 97 1 (s.1 97 1 + 1 + 1 + 1), s.2) _
  have hK21 : KI (up2 (up2 (up2 (up2 (up2 (up2 s.1 98 ((s.1 97 1).toNat) (byt x 24)) 97 1 (s.1 97 1 + 1)) 98 ((s.1 97 1 + 1).toNat) (byt x 16)) 97 1 (s.1 97 1 + 1 + 1)) 98 ((s.1 97 1 + 1 + 1).toNat) (byt x 8)) 97 1 (s.1 97 1 + 1 + 1 + 1)) := (KI_up (KI_up (KI_up (KI_up (KI_up (KI_up hK (n0 rfl (by omega) (by omega)) (kb_no rfl)) rfl (kb_of rfl (show 0 ≤ s.1 97 1 + 1 ∧ s.1 97 1 + 1 ≤ 2000 by omega))) (n0 rfl (by omega) (by omega)) (kb_no rfl)) rfl (kb_of rfl (show 0 ≤ s.1 97 1 + 1 + 1 ∧ s.1 97 1 + 1 + 1 ≤ 2000 by omega))) (n0 rfl (by omega) (by omega)) (kb_no rfl)) rfl (kb_of rfl (show 0 ≤ s.1 97 1 + 1 + 1 + 1 ∧ s.1 97 1 + 1 + 1 + 1 ≤ 2000 by omega)))
  refine wr_inc (a := 8) rfl rfl ?_
  show wr d tb_M17 43 [(2, vi 0), (0, .ref 97), (1, vi x)] [] (up2 (up2 (up2 (up2 (up2 (up2 s.1 98 ((s.1 97 1).toNat) (byt x 24)) 97 1 (s.1 97 1 + 1)) 98 ((s.1 97 1 + 1).toNat) (byt x 16)) 97 1 (s.1 97 1 + 1 + 1)) 98 ((s.1 97 1 + 1 + 1).toNat) (byt x 8)) 97 1 (s.1 97 1 + 1 + 1 + 1), s.2) _
  refine wr_n (pc2 := 8) (lv2 := [(2, vi 0), (0, .ref 97), (1, vi x)]) (st2 := [.ref 97]) 4 (fun _ _ => rfl) ?_
  refine wr_get (v := vi (s.1 97 1 + 1 + 1 + 1)) rfl rfl rfl (by decide) rfl fun h22 => ?_
  have h22 : -2147483648 ≤ s.1 97 1 + 1 + 1 + 1 ∧ s.1 97 1 + 1 + 1 + 1 ≤ 2147483647 := h22
  show wr d tb_M17 11 [(2, vi 0), (0, .ref 97), (1, vi x)] [vi (s.1 97 1 + 1 + 1 + 1)] (up2 (up2 (up2 (up2 (up2 (up2 s.1 98 ((s.1 97 1).toNat) (byt x 24)) 97 1 (s.1 97 1 + 1)) 98 ((s.1 97 1 + 1).toNat) (byt x 16)) 97 1 (s.1 97 1 + 1 + 1)) 98 ((s.1 97 1 + 1 + 1).toNat) (byt x 8)) 97 1 (s.1 97 1 + 1 + 1 + 1), s.2) _
  refine wr_n (pc2 := 14) (lv2 := [(2, vi 0), (0, .ref 97), (1, vi x)]) (st2 := [vi 2000, vi (s.1 97 1 + 1 + 1 + 1)]) 1 (fun _ _ => rfl) ?_
  refine wr_if2f rfl rfl (by unfold i32; omega) (by unfold i32; omega) (by show ¬ (2000 ≤ s.1 97 1 + 1 + 1 + 1); omega) ?_
  show wr d tb_M17 17 [(2, vi 0), (0, .ref 97), (1, vi x)] [] (up2 (up2 (up2 (up2 (up2 (up2 s.1 98 ((s.1 97 1).toNat) (byt x 24)) 97 1 (s.1 97 1 + 1)) 98 ((s.1 97 1 + 1).toNat) (byt x 16)) 97 1 (s.1 97 1 + 1 + 1)) 98 ((s.1 97 1 + 1 + 1).toNat) (byt x 8)) 97 1 (s.1 97 1 + 1 + 1 + 1), s.2) _
  refine wr_n (pc2 := 18) (lv2 := [(2, vi 0), (0, .ref 97), (1, vi x)]) (st2 := [.ref 97]) 1 (fun _ _ => rfl) ?_
  refine wr_get (v := .ref 98) rfl rfl rfl (by decide) (rv_ref (hK21.1 97 0 98 rfl)) fun h23 => ?_
  show wr d tb_M17 21 [(2, vi 0), (0, .ref 97), (1, vi x)] [.ref 98] (up2 (up2 (up2 (up2 (up2 (up2 s.1 98 ((s.1 97 1).toNat) (byt x 24)) 97 1 (s.1 97 1 + 1)) 98 ((s.1 97 1 + 1).toNat) (byt x 16)) 97 1 (s.1 97 1 + 1 + 1)) 98 ((s.1 97 1 + 1 + 1).toNat) (byt x 8)) 97 1 (s.1 97 1 + 1 + 1 + 1), s.2) _
  refine wr_n (pc2 := 22) (lv2 := [(2, vi 0), (0, .ref 97), (1, vi x)]) (st2 := [.ref 97, .ref 98]) 1 (fun _ _ => rfl) ?_
  refine wr_get (v := vi (s.1 97 1 + 1 + 1 + 1)) rfl rfl rfl (by decide) rfl fun h24 => ?_
  have h24 : -2147483648 ≤ s.1 97 1 + 1 + 1 + 1 ∧ s.1 97 1 + 1 + 1 + 1 ≤ 2147483647 := h24
  show wr d tb_M17 25 [(2, vi 0), (0, .ref 97), (1, vi x)] [vi (s.1 97 1 + 1 + 1 + 1), .ref 98] (up2 (up2 (up2 (up2 (up2 (up2 s.1 98 ((s.1 97 1).toNat) (byt x 24)) 97 1 (s.1 97 1 + 1)) 98 ((s.1 97 1 + 1).toNat) (byt x 16)) 97 1 (s.1 97 1 + 1 + 1)) 98 ((s.1 97 1 + 1 + 1).toNat) (byt x 8)) 97 1 (s.1 97 1 + 1 + 1 + 1), s.2) _
  refine wr_n (pc2 := 27) (lv2 := [(2, vi 0), (0, .ref 97), (1, vi x)]) (st2 := [vi 0, vi x, vi (s.1 97 1 + 1 + 1 + 1), .ref 98]) 2 (fun _ _ => rfl) ?_
  refine wr_shr rfl ?_
  show wr d tb_M17 28 [(2, vi 0), (0, .ref 97), (1, vi x)] [.int (Int32.ofInt x >>> (Int32.ofInt 0 &&& 31)), vi (s.1 97 1 + 1 + 1 + 1), .ref 98] (up2 (up2 (up2 (up2 (up2 (up2 s.1 98 ((s.1 97 1).toNat) (byt x 24)) 97 1 (s.1 97 1 + 1)) 98 ((s.1 97 1 + 1).toNat) (byt x 16)) 97 1 (s.1 97 1 + 1 + 1)) 98 ((s.1 97 1 + 1 + 1).toNat) (byt x 8)) 97 1 (s.1 97 1 + 1 + 1 + 1), s.2) _
  refine wr_i2b rfl ?_
  show wr d tb_M17 29 [(2, vi 0), (0, .ref 97), (1, vi x)] [.int ((Int32.ofInt x >>> (Int32.ofInt 0 &&& 31))).toInt8.toInt32, vi (s.1 97 1 + 1 + 1 + 1), .ref 98] (up2 (up2 (up2 (up2 (up2 (up2 s.1 98 ((s.1 97 1).toNat) (byt x 24)) 97 1 (s.1 97 1 + 1)) 98 ((s.1 97 1 + 1).toNat) (byt x 16)) 97 1 (s.1 97 1 + 1 + 1)) 98 ((s.1 97 1 + 1 + 1).toNat) (byt x 8)) 97 1 (s.1 97 1 + 1 + 1 + 1), s.2) _
  refine wr_bstx (a := s.1 97 1 + 1 + 1 + 1) rfl (by decide) rfl (by omega) (by omega) (by decide) ?_
  show wr d tb_M17 30 [(2, vi 0), (0, .ref 97), (1, vi x)] [] (up2 (up2 (up2 (up2 (up2 (up2 (up2 s.1 98 ((s.1 97 1).toNat) (byt x 24)) 97 1 (s.1 97 1 + 1)) 98 ((s.1 97 1 + 1).toNat) (byt x 16)) 97 1 (s.1 97 1 + 1 + 1)) 98 ((s.1 97 1 + 1 + 1).toNat) (byt x 8)) 97 1 (s.1 97 1 + 1 + 1 + 1)) 98 ((s.1 97 1 + 1 + 1 + 1).toNat) (byt x 0), s.2) _
  have hK25 : KI (up2 (up2 (up2 (up2 (up2 (up2 (up2 s.1 98 ((s.1 97 1).toNat) (byt x 24)) 97 1 (s.1 97 1 + 1)) 98 ((s.1 97 1 + 1).toNat) (byt x 16)) 97 1 (s.1 97 1 + 1 + 1)) 98 ((s.1 97 1 + 1 + 1).toNat) (byt x 8)) 97 1 (s.1 97 1 + 1 + 1 + 1)) 98 ((s.1 97 1 + 1 + 1 + 1).toNat) (byt x 0)) := (KI_up (KI_up (KI_up (KI_up (KI_up (KI_up (KI_up hK (n0 rfl (by omega) (by omega)) (kb_no rfl)) rfl (kb_of rfl (show 0 ≤ s.1 97 1 + 1 ∧ s.1 97 1 + 1 ≤ 2000 by omega))) (n0 rfl (by omega) (by omega)) (kb_no rfl)) rfl (kb_of rfl (show 0 ≤ s.1 97 1 + 1 + 1 ∧ s.1 97 1 + 1 + 1 ≤ 2000 by omega))) (n0 rfl (by omega) (by omega)) (kb_no rfl)) rfl (kb_of rfl (show 0 ≤ s.1 97 1 + 1 + 1 + 1 ∧ s.1 97 1 + 1 + 1 + 1 ≤ 2000 by omega))) (n0 rfl (by omega) (by omega)) (kb_no rfl))
  refine wr_n (pc2 := 32) (lv2 := [(2, vi 0), (0, .ref 97), (1, vi x)]) (st2 := [.ref 97, .ref 97]) 2 (fun _ _ => rfl) ?_
  refine wr_get (v := vi (s.1 97 1 + 1 + 1 + 1)) rfl rfl rfl (by decide) rfl fun h26 => ?_
  have h26 : -2147483648 ≤ s.1 97 1 + 1 + 1 + 1 ∧ s.1 97 1 + 1 + 1 + 1 ≤ 2147483647 := h26
  show wr d tb_M17 35 [(2, vi 0), (0, .ref 97), (1, vi x)] [vi (s.1 97 1 + 1 + 1 + 1), .ref 97] (up2 (up2 (up2 (up2 (up2 (up2 (up2 s.1 98 ((s.1 97 1).toNat) (byt x 24)) 97 1 (s.1 97 1 + 1)) 98 ((s.1 97 1 + 1).toNat) (byt x 16)) 97 1 (s.1 97 1 + 1 + 1)) 98 ((s.1 97 1 + 1 + 1).toNat) (byt x 8)) 97 1 (s.1 97 1 + 1 + 1 + 1)) 98 ((s.1 97 1 + 1 + 1 + 1).toNat) (byt x 0), s.2) _
  refine wr_n (pc2 := 36) (lv2 := [(2, vi 0), (0, .ref 97), (1, vi x)]) (st2 := [vi 1, vi (s.1 97 1 + 1 + 1 + 1), .ref 97]) 1 (fun _ _ => rfl) ?_
  refine wr_add (a := s.1 97 1 + 1 + 1 + 1) (b := 1) rfl ?_
  show wr d tb_M17 37 [(2, vi 0), (0, .ref 97), (1, vi x)] [vi (s.1 97 1 + 1 + 1 + 1 + 1), .ref 97] (up2 (up2 (up2 (up2 (up2 (up2 (up2 s.1 98 ((s.1 97 1).toNat) (byt x 24)) 97 1 (s.1 97 1 + 1)) 98 ((s.1 97 1 + 1).toNat) (byt x 16)) 97 1 (s.1 97 1 + 1 + 1)) 98 ((s.1 97 1 + 1 + 1).toNat) (byt x 8)) 97 1 (s.1 97 1 + 1 + 1 + 1)) 98 ((s.1 97 1 + 1 + 1 + 1).toNat) (byt x 0), s.2) _
  refine wr_put (z := s.1 97 1 + 1 + 1 + 1 + 1) rfl rfl rfl rfl (by decide) rfl (by decide) rfl (show -2147483648 ≤ s.1 97 1 + 1 + 1 + 1 + 1 ∧ s.1 97 1 + 1 + 1 + 1 + 1 ≤ 2147483647 by omega) (hf_int' _) ?_
  show wr d tb_M17 40 [(2, vi 0), (0, .ref 97), (1, vi x)] [] (up2 (up2 (up2 (up2 (up2 (up2 (up2 (up2 s.1 98 ((s.1 97 1).toNat) (byt x 24)) 97 1 (s.1 97 1 + 1)) 98 ((s.1 97 1 + 1).toNat) (byt x 16)) 97 1 (s.1 97 1 + 1 + 1)) 98 ((s.1 97 1 + 1 + 1).toNat) (byt x 8)) 97 1 (s.1 97 1 + 1 + 1 + 1)) 98 ((s.1 97 1 + 1 + 1 + 1).toNat) (byt x 0)) 97 1 (s.1 97 1 + 1 + 1 + 1 + 1), s.2) _
  have hK27 : KI (up2 (up2 (up2 (up2 (up2 (up2 (up2 (up2 s.1 98 ((s.1 97 1).toNat) (byt x 24)) 97 1 (s.1 97 1 + 1)) 98 ((s.1 97 1 + 1).toNat) (byt x 16)) 97 1 (s.1 97 1 + 1 + 1)) 98 ((s.1 97 1 + 1 + 1).toNat) (byt x 8)) 97 1 (s.1 97 1 + 1 + 1 + 1)) 98 ((s.1 97 1 + 1 + 1 + 1).toNat) (byt x 0)) 97 1 (s.1 97 1 + 1 + 1 + 1 + 1)) := (KI_up (KI_up (KI_up (KI_up (KI_up (KI_up (KI_up (KI_up hK (n0 rfl (by omega) (by omega)) (kb_no rfl)) rfl (kb_of rfl (show 0 ≤ s.1 97 1 + 1 ∧ s.1 97 1 + 1 ≤ 2000 by omega))) (n0 rfl (by omega) (by omega)) (kb_no rfl)) rfl (kb_of rfl (show 0 ≤ s.1 97 1 + 1 + 1 ∧ s.1 97 1 + 1 + 1 ≤ 2000 by omega))) (n0 rfl (by omega) (by omega)) (kb_no rfl)) rfl (kb_of rfl (show 0 ≤ s.1 97 1 + 1 + 1 + 1 ∧ s.1 97 1 + 1 + 1 + 1 ≤ 2000 by omega))) (n0 rfl (by omega) (by omega)) (kb_no rfl)) rfl (kb_of rfl (show 0 ≤ s.1 97 1 + 1 + 1 + 1 + 1 ∧ s.1 97 1 + 1 + 1 + 1 + 1 ≤ 2000 by omega)))
  refine wr_inc (a := 0) rfl rfl ?_
  show wr d tb_M17 43 [(2, vi ((-8))), (0, .ref 97), (1, vi x)] [] (up2 (up2 (up2 (up2 (up2 (up2 (up2 (up2 s.1 98 ((s.1 97 1).toNat) (byt x 24)) 97 1 (s.1 97 1 + 1)) 98 ((s.1 97 1 + 1).toNat) (byt x 16)) 97 1 (s.1 97 1 + 1 + 1)) 98 ((s.1 97 1 + 1 + 1).toNat) (byt x 8)) 97 1 (s.1 97 1 + 1 + 1 + 1)) 98 ((s.1 97 1 + 1 + 1 + 1).toNat) (byt x 0)) 97 1 (s.1 97 1 + 1 + 1 + 1 + 1), s.2) _
  refine wr_n (pc2 := 46) (lv2 := [(2, vi ((-8))), (0, .ref 97), (1, vi x)]) (st2 := []) 3 (fun _ _ => rfl) ?_
  refine wr_end (fun _ _ => rfl) ?_
  refine ⟨rfl, hK27, (by show (up2 (up2 (up2 (up2 (up2 (up2 (up2 (up2 s.1 98 ((s.1 97 1).toNat) (byt x 24)) 97 1 (s.1 97 1 + 1)) 98 ((s.1 97 1 + 1).toNat) (byt x 16)) 97 1 (s.1 97 1 + 1 + 1)) 98 ((s.1 97 1 + 1 + 1).toNat) (byt x 8)) 97 1 (s.1 97 1 + 1 + 1 + 1)) 98 ((s.1 97 1 + 1 + 1 + 1).toNat) (byt x 0)) 97 1 (s.1 97 1 + 1 + 1 + 1 + 1)) 97 1 = _; rw [up_self]; omega), (fun t ht => ?_), (fun k j e1 e2 => (show (up2 (up2 (up2 (up2 (up2 (up2 (up2 (up2 s.1 98 ((s.1 97 1).toNat) (byt x 24)) 97 1 (s.1 97 1 + 1)) 98 ((s.1 97 1 + 1).toNat) (byt x 16)) 97 1 (s.1 97 1 + 1 + 1)) 98 ((s.1 97 1 + 1 + 1).toNat) (byt x 8)) 97 1 (s.1 97 1 + 1 + 1 + 1)) 98 ((s.1 97 1 + 1 + 1 + 1).toNat) (byt x 0)) 97 1 (s.1 97 1 + 1 + 1 + 1 + 1)) k j = s.1 k j from (if_neg (by omega)).trans ((if_neg (by omega)).trans ((if_neg (by omega)).trans ((if_neg (by omega)).trans ((if_neg (by omega)).trans ((if_neg (by omega)).trans ((if_neg (by omega)).trans ((if_neg (by omega)).trans (rfl)))))))))), rfl⟩
  have ht4 : t = 0 ∨ t = 1 ∨ t = 2 ∨ t = 3 := by omega
  rcases ht4 with rfl | rfl | rfl | rfl
  · exact (show (up2 (up2 (up2 (up2 (up2 (up2 (up2 (up2 s.1 98 ((s.1 97 1).toNat) (byt x 24)) 97 1 (s.1 97 1 + 1)) 98 ((s.1 97 1 + 1).toNat) (byt x 16)) 97 1 (s.1 97 1 + 1 + 1)) 98 ((s.1 97 1 + 1 + 1).toNat) (byt x 8)) 97 1 (s.1 97 1 + 1 + 1 + 1)) 98 ((s.1 97 1 + 1 + 1 + 1).toNat) (byt x 0)) 97 1 (s.1 97 1 + 1 + 1 + 1 + 1)) 98 ((s.1 97 1).toNat + 0) = byt x 24 from ((if_neg (by omega)).trans ((if_neg (by omega)).trans ((if_neg (by omega)).trans ((if_neg (by omega)).trans ((if_neg (by omega)).trans ((if_neg (by omega)).trans ((if_neg (by omega)).trans (if_pos ⟨rfl, by omega⟩)))))))))
  · exact (show (up2 (up2 (up2 (up2 (up2 (up2 (up2 (up2 s.1 98 ((s.1 97 1).toNat) (byt x 24)) 97 1 (s.1 97 1 + 1)) 98 ((s.1 97 1 + 1).toNat) (byt x 16)) 97 1 (s.1 97 1 + 1 + 1)) 98 ((s.1 97 1 + 1 + 1).toNat) (byt x 8)) 97 1 (s.1 97 1 + 1 + 1 + 1)) 98 ((s.1 97 1 + 1 + 1 + 1).toNat) (byt x 0)) 97 1 (s.1 97 1 + 1 + 1 + 1 + 1)) 98 ((s.1 97 1).toNat + 1) = byt x 16 from ((if_neg (by omega)).trans ((if_neg (by omega)).trans ((if_neg (by omega)).trans ((if_neg (by omega)).trans ((if_neg (by omega)).trans (if_pos ⟨rfl, by omega⟩)))))))
  · exact (show (up2 (up2 (up2 (up2 (up2 (up2 (up2 (up2 s.1 98 ((s.1 97 1).toNat) (byt x 24)) 97 1 (s.1 97 1 + 1)) 98 ((s.1 97 1 + 1).toNat) (byt x 16)) 97 1 (s.1 97 1 + 1 + 1)) 98 ((s.1 97 1 + 1 + 1).toNat) (byt x 8)) 97 1 (s.1 97 1 + 1 + 1 + 1)) 98 ((s.1 97 1 + 1 + 1 + 1).toNat) (byt x 0)) 97 1 (s.1 97 1 + 1 + 1 + 1 + 1)) 98 ((s.1 97 1).toNat + 2) = byt x 8 from ((if_neg (by omega)).trans ((if_neg (by omega)).trans ((if_neg (by omega)).trans (if_pos ⟨rfl, by omega⟩)))))
  · exact (show (up2 (up2 (up2 (up2 (up2 (up2 (up2 (up2 s.1 98 ((s.1 97 1).toNat) (byt x 24)) 97 1 (s.1 97 1 + 1)) 98 ((s.1 97 1 + 1).toNat) (byt x 16)) 97 1 (s.1 97 1 + 1 + 1)) 98 ((s.1 97 1 + 1 + 1).toNat) (byt x 8)) 97 1 (s.1 97 1 + 1 + 1 + 1)) 98 ((s.1 97 1 + 1 + 1 + 1).toNat) (byt x 0)) 97 1 (s.1 97 1 + 1 + 1 + 1 + 1)) 98 ((s.1 97 1).toNat + 3) = byt x 0 from ((if_neg (by omega)).trans (if_pos ⟨rfl, by omega⟩)))
