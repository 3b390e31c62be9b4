/-! Our own object: feed. -/
def ADP (s : rS) : rS → hm_Out → Prop := fun s2 out => out = some none ∧ KI s2.1 ∧ s2.1 97 1 = s.1 97 1 + 4 ∧ (∀ k j, ¬ k = 98 → ¬ (k = 97 ∧ j = 1) → s2.1 k j = s.1 k j) ∧ s2.2 = s.2
set_option maxHeartbeats 20000000 in
set_option maxRecDepth 100000 in
theorem k_tadd {d : Nat} {x : Int} (s : rS) (hK : KI s.1) (hx : -2147483648 ≤ x ∧ x ≤ 2147483647) (h44 : s.1 97 1 + 4 ≤ 2000) : cr (d + 1) 17 [.ref 97, vi x] s (ADP s) := by
  refine cr_of (M := tb_M17) rfl (Nat.le_of_ble_eq_true rfl) ?_
  show wr d tb_M17 0 [(0, .ref 97), (1, vi x)] [] s _
  refine wr_n (pc2 := 8) (lv2 := [(2, vi 24), (0, .ref 97), (1, vi x)]) (st2 := [.ref 97]) 5 (fun _ _ => rfl) ?_
  refine wr_get (v := vi (s.1 97 1)) rfl rfl rfl (by decide) rfl fun h1 => ?_
  have h1 : -2147483648 ≤ s.1 97 1 ∧ s.1 97 1 ≤ 2147483647 := h1
  show wr d tb_M17 11 [(2, vi 24), (0, .ref 97), (1, vi x)] [vi (s.1 97 1)] s _
  have hb2 : 0 ≤ s.1 97 1 ∧ s.1 97 1 ≤ 2000 := kb_to rfl (hK.2 97 1)
  refine wr_n (pc2 := 14) (lv2 := [(2, vi 24), (0, .ref 97), (1, vi x)]) (st2 := [vi 2000, vi (s.1 97 1)]) 1 (fun _ _ => rfl) ?_
  refine wr_if2f rfl rfl (by unfold i32; omega) (by unfold i32; omega) (by show ¬ (2000 ≤ s.1 97 1); omega) ?_
  show wr d tb_M17 17 [(2, vi 24), (0, .ref 97), (1, vi x)] [] s _
  refine wr_n (pc2 := 18) (lv2 := [(2, vi 24), (0, .ref 97), (1, vi x)]) (st2 := [.ref 97]) 1 (fun _ _ => rfl) ?_
  refine wr_get (v := .ref 98) rfl rfl rfl (by decide) (rv_ref (hK.1 97 0 98 rfl)) fun h3 => ?_
  show wr d tb_M17 21 [(2, vi 24), (0, .ref 97), (1, vi x)] [.ref 98] s _
  refine wr_n (pc2 := 22) (lv2 := [(2, vi 24), (0, .ref 97), (1, vi x)]) (st2 := [.ref 97, .ref 98]) 1 (fun _ _ => rfl) ?_
  refine wr_get (v := vi (s.1 97 1)) rfl rfl rfl (by decide) rfl fun h4 => ?_
  have h4 : -2147483648 ≤ s.1 97 1 ∧ s.1 97 1 ≤ 2147483647 := h4
  show wr d tb_M17 25 [(2, vi 24), (0, .ref 97), (1, vi x)] [vi (s.1 97 1), .ref 98] s _
  have hb5 : 0 ≤ s.1 97 1 ∧ s.1 97 1 ≤ 2000 := kb_to rfl (hK.2 97 1)
  refine wr_n (pc2 := 27) (lv2 := [(2, vi 24), (0, .ref 97), (1, vi x)]) (st2 := [vi 24, vi x, vi (s.1 97 1), .ref 98]) 2 (fun _ _ => rfl) ?_
  refine wr_any2 rfl rfl fun z6 h7 => ?_
  unfold i32 at h7
  show wr d tb_M17 28 [(2, vi 24), (0, .ref 97), (1, vi x)] [vi z6, vi (s.1 97 1), .ref 98] s _
  refine wr_anyu rfl (fun x => ⟨_, rfl⟩) fun z8 h9 => ?_
  unfold i32 at h9
  show wr d tb_M17 29 [(2, vi 24), (0, .ref 97), (1, vi x)] [vi z8, vi (s.1 97 1), .ref 98] s _
  refine wr_bst (a := s.1 97 1) rfl (by decide) rfl (by omega) (by omega) (by decide) fun z10 h11 => ?_
  show wr d tb_M17 30 [(2, vi 24), (0, .ref 97), (1, vi x)] [] (up2 s.1 98 ((s.1 97 1).toNat) z10, s.2) _
  have hK12 : KI (up2 s.1 98 ((s.1 97 1).toNat) z10) := (KI_up hK (n0 rfl (by omega) (by omega)) (kb_no rfl))
  refine wr_n (pc2 := 32) (lv2 := [(2, vi 24), (0, .ref 97), (1, vi x)]) (st2 := [.ref 97, .ref 97]) 2 (fun _ _ => rfl) ?_
  refine wr_get (v := vi (s.1 97 1)) rfl rfl rfl (by decide) rfl fun h13 => ?_
  have h13 : -2147483648 ≤ s.1 97 1 ∧ s.1 97 1 ≤ 2147483647 := h13
  show wr d tb_M17 35 [(2, vi 24), (0, .ref 97), (1, vi x)] [vi (s.1 97 1), .ref 97] (up2 s.1 98 ((s.1 97 1).toNat) z10, s.2) _
  have hb14 : 0 ≤ s.1 97 1 ∧ s.1 97 1 ≤ 2000 := kb_to rfl (hK.2 97 1)
  refine wr_n (pc2 := 36) (lv2 := [(2, vi 24), (0, .ref 97), (1, vi x)]) (st2 := [vi 1, vi (s.1 97 1), .ref 97]) 1 (fun _ _ => rfl) ?_
  refine wr_add (a := s.1 97 1) (b := 1) rfl ?_
  show wr d tb_M17 37 [(2, vi 24), (0, .ref 97), (1, vi x)] [vi (s.1 97 1 + 1), .ref 97] (up2 s.1 98 ((s.1 97 1).toNat) z10, s.2) _
  refine wr_put (z := s.1 97 1 + 1) rfl rfl rfl rfl (by decide) rfl (by decide) rfl (show -2147483648 ≤ s.1 97 1 + 1 ∧ s.1 97 1 + 1 ≤ 2147483647 by omega) (hf_int' _) ?_
  show wr d tb_M17 40 [(2, vi 24), (0, .ref 97), (1, vi x)] [] (up2 (up2 s.1 98 ((s.1 97 1).toNat) z10) 97 1 (s.1 97 1 + 1), s.2) _
  have hK15 : KI (up2 (up2 s.1 98 ((s.1 97 1).toNat) z10) 97 1 (s.1 97 1 + 1)) := (KI_up (KI_up hK (n0 rfl (by omega) (by omega)) (kb_no rfl)) rfl (kb_of rfl (show 0 ≤ s.1 97 1 + 1 ∧ s.1 97 1 + 1 ≤ 2000 by omega)))
  refine wr_inc (a := 24) rfl rfl ?_
  show wr d tb_M17 43 [(2, vi 16), (0, .ref 97), (1, vi x)] [] (up2 (up2 s.1 98 ((s.1 97 1).toNat) z10) 97 1 (s.1 97 1 + 1), s.2) _
  refine wr_n (pc2 := 8) (lv2 := [(2, vi 16), (0, .ref 97), (1, vi x)]) (st2 := [.ref 97]) 4 (fun _ _ => rfl) ?_
  refine wr_get (v := vi (s.1 97 1 + 1)) rfl rfl rfl (by decide) rfl fun h16 => ?_
  have h16 : -2147483648 ≤ s.1 97 1 + 1 ∧ s.1 97 1 + 1 ≤ 2147483647 := h16
  show wr d tb_M17 11 [(2, vi 16), (0, .ref 97), (1, vi x)] [vi (s.1 97 1 + 1)] (up2 (up2 s.1 98 ((s.1 97 1).toNat) z10) 97 1 (s.1 97 1 + 1), s.2) _
  refine wr_n (pc2 := 14) (lv2 := [(2, vi 16), (0, .ref 97), (1, vi x)]) (st2 := [vi 2000, vi (s.1 97 1 + 1)]) 1 (fun _ _ => rfl) ?_
  refine wr_if2f rfl rfl (by unfold i32; omega) (by unfold i32; omega) (by show ¬ (2000 ≤ s.1 97 1 + 1); omega) ?_
  show wr d tb_M17 17 [(2, vi 16), (0, .ref 97), (1, vi x)] [] (up2 (up2 s.1 98 ((s.1 97 1).toNat) z10) 97 1 (s.1 97 1 + 1), s.2) _
  refine wr_n (pc2 := 18) (lv2 := [(2, vi 16), (0, .ref 97), (1, vi x)]) (st2 := [.ref 97]) 1 (fun _ _ => rfl) ?_
  refine wr_get (v := .ref 98) rfl rfl rfl (by decide) (rv_ref (hK15.1 97 0 98 rfl)) fun h17 => ?_
  show wr d tb_M17 21 [(2, vi 16), (0, .ref 97), (1, vi x)] [.ref 98] (up2 (up2 s.1 98 ((s.1 97 1).toNat) z10) 97 1 (s.1 97 1 + 1), s.2) _
  refine wr_n (pc2 := 22) (lv2 := [(2, vi 16), (0, .ref 97), (1, vi x)]) (st2 := [.ref 97, .ref 98]) 1 (fun _ _ => rfl) ?_
  refine wr_get (v := vi (s.1 97 1 + 1)) rfl rfl rfl (by decide) rfl fun h18 => ?_
  have h18 : -2147483648 ≤ s.1 97 1 + 1 ∧ s.1 97 1 + 1 ≤ 2147483647 := h18
  show wr d tb_M17 25 [(2, vi 16), (0, .ref 97), (1, vi x)] [vi (s.1 97 1 + 1), .ref 98] (up2 (up2 s.1 98 ((s.1 97 1).toNat) z10) 97 1 (s.1 97 1 + 1), s.2) _
  refine wr_n (pc2 := 27) (lv2 := [(2, vi 16), (0, .ref 97), (1, vi x)]) (st2 := [vi 16, vi x, vi (s.1 97 1 + 1), .ref 98]) 2 (fun _ _ => rfl) ?_
  refine wr_any2 rfl rfl fun z19 h20 => ?_
  unfold i32 at h20
  show wr d tb_M17 28 [(2, vi 16), (0, .ref 97), (1, vi x)] [vi z19, vi (s.1 97 1 + 1), .ref 98] (up2 (up2 s.1 98 ((s.1 97 1).toNat) z10) 97 1 (s.1 97 1 + 1), s.2) _
  refine wr_anyu rfl (fun x => ⟨_, rfl⟩) fun z21 h22 => ?_
  unfold i32 at h22
  show wr d tb_M17 29 [(2, vi 16), (0, .ref 97), (1, vi x)] [vi z21, vi (s.1 97 1 + 1), .ref 98] (up2 (up2 s.1 98 ((s.1 97 1).toNat) z10) 97 1 (s.1 97 1 + 1), s.2) _
  refine wr_bst (a := s.1 97 1 + 1) rfl (by decide) rfl (by omega) (by omega) (by decide) fun z23 h24 => ?_
  show wr d tb_M17 30 [(2, vi 16), (0, .ref 97), (1, vi x)] [] (up2 (up2 (up2 s.1 98 ((s.1 97 1).toNat) z10) 97 1 (s.1 97 1 + 1)) 98 ((s.1 97 1 + 1).toNat) z23, s.2) _
  have hK25 : KI (up2 (up2 (up2 s.1 98 ((s.1 97 1).toNat) z10) 97 1 (s.1 97 1 + 1)) 98 ((s.1 97 1 + 1).toNat) z23) := (KI_up (KI_up (KI_up hK (n0 rfl (by omega) (by omega)) (kb_no rfl)) rfl (kb_of rfl (show 0 ≤ s.1 97 1 + 1 ∧ s.1 97 1 + 1 ≤ 2000 by omega))) (n0 rfl (by omega) (by omega)) (kb_no rfl))
  refine wr_n (pc2 := 32) (lv2 := [(2, vi 16), (0, .ref 97), (1, vi x)]) (st2 := [.ref 97, .ref 97]) 2 (fun _ _ => rfl) ?_
  refine wr_get (v := vi (s.1 97 1 + 1)) rfl rfl rfl (by decide) rfl fun h26 => ?_
  have h26 : -2147483648 ≤ s.1 97 1 + 1 ∧ s.1 97 1 + 1 ≤ 2147483647 := h26
  show wr d tb_M17 35 [(2, vi 16), (0, .ref 97), (1, vi x)] [vi (s.1 97 1 + 1), .ref 97] (up2 (up2 (up2 s.1 98 ((s.1 97 1).toNat) z10) 97 1 (s.1 97 1 + 1)) 98 ((s.1 97 1 + 1).toNat) z23, s.2) _
  refine wr_n (pc2 := 36) (lv2 := [(2, vi 16), (0, .ref 97), (1, vi x)]) (st2 := [vi 1, vi (s.1 97 1 + 1), .ref 97]) 1 (fun _ _ => rfl) ?_
  refine wr_add (a := s.1 97 1 + 1) (b := 1) rfl ?_
  show wr d tb_M17 37 [(2, vi 16), (0, .ref 97), (1, vi x)] [vi (s.1 97 1 + 1 + 1), .ref 97] (up2 (up2 (up2 s.1 98 ((s.1 97 1).toNat) z10) 97 1 (s.1 97 1 + 1)) 98 ((s.1 97 1 + 1).toNat) z23, s.2) _
  refine wr_put (z := s.1 97 1 + 1 + 1) rfl rfl rfl rfl (by decide) rfl (by decide) rfl (show -2147483648 ≤ s.1 97 1 + 1 + 1 ∧ s.1 97 1 + 1 + 1 ≤ 2147483647 by omega) (hf_int' _) ?_
  show wr d tb_M17 40 [(2, vi 16), (0, .ref 97), (1, vi x)] [] (up2 (up2 (up2 (up2 s.1 98 ((s.1 97 1).toNat) z10) 97 1 (s.1 97 1 + 1)) 98 ((s.1 97 1 + 1).toNat) z23) 97 1 (s.1 97 1 + 1 + 1), s.2) _
  have hK27 : KI (up2 (up2 (up2 (up2 s.1 98 ((s.1 97 1).toNat) z10) 97 1 (s.1 97 1 + 1)) 98 ((s.1 97 1 + 1).toNat) z23) 97 1 (s.1 97 1 + 1 + 1)) := (KI_up (KI_up (KI_up (KI_up hK (n0 rfl (by omega) (by omega)) (kb_no rfl)) rfl (kb_of rfl (show 0 ≤ s.1 97 1 + 1 ∧ s.1 97 1 + 1 ≤ 2000 by omega))) (n0 rfl (by omega) (by omega)) (kb_no rfl)) rfl (kb_of rfl (show 0 ≤ s.1 97 1 + 1 + 1 ∧ s.1 97 1 + 1 + 1 ≤ 2000 by omega)))
  refine wr_inc (a := 16) rfl rfl ?_
  show wr d tb_M17 43 [(2, vi 8), (0, .ref 97), (1, vi x)] [] (up2 (up2 (up2 (up2 s.1 98 ((s.1 97 1).toNat) z10) 97 1 (s.1 97 1 + 1)) 98 ((s.1 97 1 + 1).toNat) z23) 97 1 (s.1 97 1 + 1 + 1), s.2) _
  refine wr_n (pc2 := 8) (lv2 := [(2, vi 8), (0, .ref 97), (1, vi x)]) (st2 := [.ref 97]) 4 (fun _ _ => rfl) ?_
  refine wr_get (v := vi (s.1 97 1 + 1 + 1)) rfl rfl rfl (by decide) rfl fun h28 => ?_
  have h28 : -2147483648 ≤ s.1 97 1 + 1 + 1 ∧ s.1 97 1 + 1 + 1 ≤ 2147483647 := h28
  show wr d tb_M17 11 [(2, vi 8), (0, .ref 97), (1, vi x)] [vi (s.1 97 1 + 1 + 1)] (up2 (up2 (up2 (up2 s.1 98 ((s.1 97 1).toNat) z10) 97 1 (s.1 97 1 + 1)) 98 ((s.1 97 1 + 1).toNat) z23) 97 1 (s.1 97 1 + 1 + 1), s.2) _
  refine wr_n (pc2 := 14) (lv2 := [(2, vi 8), (0, .ref 97), (1, vi x)]) (st2 := [vi 2000, vi (s.1 97 1 + 1 + 1)]) 1 (fun _ _ => rfl) ?_
  refine wr_if2f rfl rfl (by unfold i32; omega) (by unfold i32; omega) (by show ¬ (2000 ≤ s.1 97 1 + 1 + 1); omega) ?_
  show wr d tb_M17 17 [(2, vi 8), (0, .ref 97), (1, vi x)] [] (up2 (up2 (up2 (up2 s.1 98 ((s.1 97 1).toNat) z10) 97 1 (s.1 97 1 + 1)) 98 ((s.1 97 1 + 1).toNat) z23) 97 1 (s.1 97 1 + 1 + 1), s.2) _
  refine wr_n (pc2 := 18) (lv2 := [(2, vi 8), (0, .ref 97), (1, vi x)]) (st2 := [.ref 97]) 1 (fun _ _ => rfl) ?_
  refine wr_get (v := .ref 98) rfl rfl rfl (by decide) (rv_ref (hK27.1 97 0 98 rfl)) fun h29 => ?_
  show wr d tb_M17 21 [(2, vi 8), (0, .ref 97), (1, vi x)] [.ref 98] (up2 (up2 (up2 (up2 s.1 98 ((s.1 97 1).toNat) z10) 97 1 (s.1 97 1 + 1)) 98 ((s.1 97 1 + 1).toNat) z23) 97 1 (s.1 97 1 + 1 + 1), s.2) _
  refine wr_n (pc2 := 22) (lv2 := [(2, vi 8), (0, .ref 97), (1, vi x)]) (st2 := [.ref 97, .ref 98]) 1 (fun _ _ => rfl) ?_
  refine wr_get (v := vi (s.1 97 1 + 1 + 1)) rfl rfl rfl (by decide) rfl fun h30 => ?_
  have h30 : -2147483648 ≤ s.1 97 1 + 1 + 1 ∧ s.1 97 1 + 1 + 1 ≤ 2147483647 := h30
  show wr d tb_M17 25 [(2, vi 8), (0, .ref 97), (1, vi x)] [vi (s.1 97 1 + 1 + 1), .ref 98] (up2 (up2 (up2 (up2 s.1 98 ((s.1 97 1).toNat) z10) 97 1 (s.1 97 1 + 1)) 98 ((s.1 97 1 + 1).toNat) z23) 97 1 (s.1 97 1 + 1 + 1), s.2) _
  refine wr_n (pc2 := 27) (lv2 := [(2, vi 8), (0, .ref 97), (1, vi x)]) (st2 := [vi 8, vi x, vi (s.1 97 1 + 1 + 1), .ref 98]) 2 (fun _ _ => rfl) ?_
  refine wr_any2 rfl rfl fun z31 h32 => ?_
  unfold i32 at h32
  show wr d tb_M17 28 [(2, vi 8), (0, .ref 97), (1, vi x)] [vi z31, vi (s.1 97 1 + 1 + 1), .ref 98] (up2 (up2 (up2 (up2 s.1 98 ((s.1 97 1).toNat) z10) 97 1 (s.1 97 1 + 1)) 98 ((s.1 97 1 + 1).toNat) z23) 97 1 (s.1 97 1 + 1 + 1), s.2) _
  refine wr_anyu rfl (fun x => ⟨_, rfl⟩) fun z33 h34 => ?_
  unfold i32 at h34
  show wr d tb_M17 29 [(2, vi 8), (0, .ref 97), (1, vi x)] [vi z33, vi (s.1 97 1 + 1 + 1), .ref 98] (up2 (up2 (up2 (up2 s.1 98 ((s.1 97 1).toNat) z10) 97 1 (s.1 97 1 + 1)) 98 ((s.1 97 1 + 1).toNat) z23) 97 1 (s.1 97 1 + 1 + 1), s.2) _
  refine wr_bst (a := s.1 97 1 + 1 + 1) rfl (by decide) rfl (by omega) (by omega) (by decide) fun z35 h36 => ?_
  show wr d tb_M17 30 [(2, vi 8), (0, .ref 97), (1, vi x)] [] (up2 (up2 (up2 (up2 (up2 s.1 98 ((s.1 97 1).toNat) z10) 97 1 (s.1 97 1 + 1)) 98 ((s.1 97 1 + 1).toNat) z23) 97 1 (s.1 97 1 + 1 + 1)) 98 ((s.1 97 1 + 1 + 1).toNat) z35, s.2) _
  have hK37 : KI (up2 (up2 (up2 (up2 (up2 s.1 98 ((s.1 97 1).toNat) z10) 97 1 (s.1 97 1 + 1)) 98 ((s.1 97 1 + 1).toNat) z23) 97 1 (s.1 97 1 + 1 + 1)) 98 ((s.1 97 1 + 1 + 1).toNat) z35) := (KI_up (KI_up (KI_up (KI_up (KI_up hK (n0 rfl (by omega) (by omega)) (kb_no rfl)) rfl (kb_of rfl (show 0 ≤ s.1 97 1 + 1 ∧ s.1 97 1 + 1 ≤ 2000 by omega))) (n0 rfl (by omega) (by omega)) (kb_no rfl)) rfl (kb_of rfl (show 0 ≤ s.1 97 1 + 1 + 1 ∧ s.1 97 1 + 1 + 1 ≤ 2000 by omega))) (n0 rfl (by omega) (by omega)) (kb_no rfl))
  refine wr_n (pc2 := 32) (lv2 := [(2, vi 8), (0, .ref 97), (1, vi x)]) (st2 := [.ref 97, .ref 97]) 2 (fun _ _ => rfl) ?_
  refine wr_get (v := vi (s.1 97 1 + 1 + 1)) rfl rfl rfl (by decide) rfl fun h38 => ?_
  have h38 : -2147483648 ≤ s.1 97 1 + 1 + 1 ∧ s.1 97 1 + 1 + 1 ≤ 2147483647 := h38
  show wr d tb_M17 35 [(2, vi 8), (0, .ref 97), (1, vi x)] [vi (s.1 97 1 + 1 + 1), .ref 97] (up2 (up2 (up2 (up2 (up2 s.1 98 ((s.1 97 1).toNat) z10) 97 1 (s.1 97 1 + 1)) 98 ((s.1 97 1 + 1).toNat) z23) 97 1 (s.1 97 1 + 1 + 1)) 98 ((s.1 97 1 + 1 + 1).toNat) z35, s.2) _
  refine wr_n (pc2 := 36) (lv2 := [(2, vi 8), (0, .ref 97), (1, vi x)]) (st2 := [vi 1, vi (s.1 97 1 + 1 + 1), .ref 97]) 1 (fun _ _ => rfl) ?_
  refine wr_add (a := s.1 97 1 + 1 + 1) (b := 1) rfl ?_
  show wr d tb_M17 37 [(2, vi 8), (0, .ref 97), (1, vi x)] [vi (s.1 97 1 + 1 + 1 + 1), .ref 97] (up2 (up2 (up2 (up2 (up2 s.1 98 ((s.1 97 1).toNat) z10) 97 1 (s.1 97 1 + 1)) 98 ((s.1 97 1 + 1).toNat) z23) 97 1 (s.1 97 1 + 1 + 1)) 98 ((s.1 97 1 + 1 + 1).toNat) z35, s.2) _
  refine wr_put (z := s.1 97 1 + 1 + 1 + 1) rfl rfl rfl rfl (by decide) rfl (by decide) rfl (show -2147483648 ≤ s.1 97 1 + 1 + 1 + 1 ∧ s.1 97 1 + 1 + 1 + 1 ≤ 2147483647 by omega) (hf_int' _) ?_
  show wr d tb_M17 40 [(2, vi 8), (0, .ref 97), (1, vi x)] [] (up2 (up2 (up2 (up2 (up2 (up2 s.1 98 ((s.1 97 1).toNat) z10) 97 1 (s.1 97 1 + 1)) 98 ((s.1 97 1 + 1).toNat) z23) 97 1 (s.1 97 1 + 1 + 1)) 98 ((s.1 97 1 + 1 + 1).toNat) z35) 97 1 (s.1 97 1 + 1 + 1 + 1), s.2) _
  have hK39 : KI (up2 (up2 (up2 (up2 (up2 (up2 s.1 98 ((s.1 97 1).toNat) z10) 97 1 (s.1 97 1 + 1)) 98 ((s.1 97 1 + 1).toNat) z23) 97 1 (s.1 97 1 + 1 + 1)) 98 ((s.1 97 1 + 1 + 1).toNat) z35) 97 1 (s.1 97 1 + 1 + 1 + 1)) := (KI_up (KI_up (KI_up (KI_up (KI_up (KI_up hK (n0 rfl (by omega) (by omega)) (kb_no rfl)) rfl (kb_of rfl (show 0 ≤ s.1 97 1 + 1 ∧ s.1 97 1 + 1 ≤ 2000 by omega))) (n0 rfl (by omega) (by omega)) (kb_no rfl)) rfl (kb_of rfl (show 0 ≤ s.1 97 1 + 1 + 1 ∧ s.1 97 1 + 1 + 1 ≤ 2000 by omega))) (n0 rfl (by omega) (by omega)) (kb_no rfl)) rfl (kb_of rfl (show 0 ≤ s.1 97 1 + 1 + 1 + 1 ∧ s.1 97 1 + 1 + 1 + 1 ≤ 2000 by omega)))
  refine wr_inc (a := 8) rfl rfl ?_
  show wr d tb_M17 43 [(2, vi 0), (0, .ref 97), (1, vi x)] [] (up2 (up2 (up2 (up2 (up2 (up2 s.1 98 ((s.1 97 1).toNat) z10) 97 1 (s.1 97 1 + 1)) 98 ((s.1 97 1 + 1).toNat) z23) 97 1 (s.1 97 1 + 1 + 1)) 98 ((s.1 97 1 + 1 + 1).toNat) z35) 97 1 (s.1 97 1 + 1 + 1 + 1), s.2) _
  refine wr_n (pc2 := 8) (lv2 := [(2, vi 0), (0, .ref 97), (1, vi x)]) (st2 := [.ref 97]) 4 (fun _ _ => rfl) ?_
  refine wr_get (v := vi (s.1 97 1 + 1 + 1 + 1)) rfl rfl rfl (by decide) rfl fun h40 => ?_
  have h40 : -2147483648 ≤ s.1 97 1 + 1 + 1 + 1 ∧ s.1 97 1 + 1 + 1 + 1 ≤ 2147483647 := h40
  show wr d tb_M17 11 [(2, vi 0), (0, .ref 97), (1, vi x)] [vi (s.1 97 1 + 1 + 1 + 1)] (up2 (up2 (up2 (up2 (up2 (up2 s.1 98 ((s.1 97 1).toNat) z10) 97 1 (s.1 97 1 + 1)) 98 ((s.1 97 1 + 1).toNat) z23) 97 1 (s.1 97 1 + 1 + 1)) 98 ((s.1 97 1 + 1 + 1).toNat) z35) 97 1 (s.1 97 1 + 1 + 1 + 1), s.2) _
  refine wr_n (pc2 := 14) (lv2 := [(2, vi 0), (0, .ref 97), (1, vi x)]) (st2 := [vi 2000, vi (s.1 97 1 + 1 + 1 + 1)]) 1 (fun _ _ => rfl) ?_
  refine wr_if2f rfl rfl (by unfold i32; omega) (by unfold i32; omega) (by show ¬ (2000 ≤ s.1 97 1 + 1 + 1 + 1); omega) ?_
  show wr d tb_M17 17 [(2, vi 0), (0, .ref 97), (1, vi x)] [] (up2 (up2 (up2 (up2 (up2 (up2 s.1 98 ((s.1 97 1).toNat) z10) 97 1 (s.1 97 1 + 1)) 98 ((s.1 97 1 + 1).toNat) z23) 97 1 (s.1 97 1 + 1 + 1)) 98 ((s.1 97 1 + 1 + 1).toNat) z35) 97 1 (s.1 97 1 + 1 + 1 + 1), s.2) _
  refine wr_n (pc2 := 18) (lv2 := [(2, vi 0), (0, .ref 97), (1, vi x)]) (st2 := [.ref 97]) 1 (fun _ _ => rfl) ?_
  refine wr_get (v := .ref 98) rfl rfl rfl (by decide) (rv_ref (hK39.1 97 0 98 rfl)) fun h41 => ?_
  show wr d tb_M17 21 [(2, vi 0), (0, .ref 97), (1, vi x)] [.ref 98] (up2 (up2 (up2 (up2 (up2 (up2 s.1 98 ((s.1 97 1).toNat) z10) 97 1 (s.1 97 1 + 1)) 98 ((s.1 97 1 + 1).toNat) z23) 97 1 (s.1 97 1 + 1 + 1)) 98 ((s.1 97 1 + 1 + 1).toNat) z35) 97 1 (s.1 97 1 + 1 + 1 + 1), s.2) _
  refine wr_n (pc2 := 22) (lv2 := [(2, vi 0), (0, .ref 97), (1, vi x)]) (st2 := [.ref 97, .ref 98]) 1 (fun _ _ => rfl) ?_
  refine wr_get (v := vi (s.1 97 1 + 1 + 1 + 1)) rfl rfl rfl (by decide) rfl fun h42 => ?_
  have h42 : -2147483648 ≤ s.1 97 1 + 1 + 1 + 1 ∧ s.1 97 1 + 1 + 1 + 1 ≤ 2147483647 := h42
  show wr d tb_M17 25 [(2, vi 0), (0, .ref 97), (1, vi x)] [vi (s.1 97 1 + 1 + 1 + 1), .ref 98] (up2 (up2 (up2 (up2 (up2 (up2 s.1 98 ((s.1 97 1).toNat) z10) 97 1 (s.1 97 1 + 1)) 98 ((s.1 97 1 + 1).toNat) z23) 97 1 (s.1 97 1 + 1 + 1)) 98 ((s.1 97 1 + 1 + 1).toNat) z35) 97 1 (s.1 97 1 + 1 + 1 + 1), s.2) _
  refine wr_n (pc2 := 27) (lv2 := [(2, vi 0), (0, .ref 97), (1, vi x)]) (st2 := [vi 0, vi x, vi (s.1 97 1 + 1 + 1 + 1), .ref 98]) 2 (fun _ _ => rfl) ?_
  refine wr_any2 rfl rfl fun z43 h44 => ?_
  unfold i32 at h44
  show wr d tb_M17 28 [(2, vi 0), (0, .ref 97), (1, vi x)] [vi z43, vi (s.1 97 1 + 1 + 1 + 1), .ref 98] (up2 (up2 (up2 (up2 (up2 (up2 s.1 98 ((s.1 97 1).toNat) z10) 97 1 (s.1 97 1 + 1)) 98 ((s.1 97 1 + 1).toNat) z23) 97 1 (s.1 97 1 + 1 + 1)) 98 ((s.1 97 1 + 1 + 1).toNat) z35) 97 1 (s.1 97 1 + 1 + 1 + 1), s.2) _
  refine wr_anyu rfl (fun x => ⟨_, rfl⟩) fun z45 h46 => ?_
  unfold i32 at h46
  show wr d tb_M17 29 [(2, vi 0), (0, .ref 97), (1, vi x)] [vi z45, vi (s.1 97 1 + 1 + 1 + 1), .ref 98] (up2 (up2 (up2 (up2 (up2 (up2 s.1 98 ((s.1 97 1).toNat) z10) 97 1 (s.1 97 1 + 1)) 98 ((s.1 97 1 + 1).toNat) z23) 97 1 (s.1 97 1 + 1 + 1)) 98 ((s.1 97 1 + 1 + 1).toNat) z35) 97 1 (s.1 97 1 + 1 + 1 + 1), s.2) _
  refine wr_bst (a := s.1 97 1 + 1 + 1 + 1) rfl (by decide) rfl (by omega) (by omega) (by decide) fun z47 h48 => ?_
  show wr d tb_M17 30 [(2, vi 0), (0, .ref 97), (1, vi x)] [] (up2 (up2 (up2 (up2 (up2 (up2 (up2 s.1 98 ((s.1 97 1).toNat) z10) 97 1 (s.1 97 1 + 1)) 98 ((s.1 97 1 + 1).toNat) z23) 97 1 (s.1 97 1 + 1 + 1)) 98 ((s.1 97 1 + 1 + 1).toNat) z35) 97 1 (s.1 97 1 + 1 + 1 + 1)) 98 ((s.1 97 1 + 1 + 1 + 1).toNat) z47, s.2) _
  have hK49 : KI (up2 (up2 (up2 (up2 (up2 (up2 (up2 s.1 98 ((s.1 97 1).toNat) z10) 97 1 (s.1 97 1 + 1)) 98 ((s.1 97 1 + 1).toNat) z23) 97 1 (s.1 97 1 + 1 + 1)) 98 ((s.1 97 1 + 1 + 1).toNat) z35) 97 1 (s.1 97 1 + 1 + 1 + 1)) 98 ((s.1 97 1 + 1 + 1 + 1).toNat) z47) := (KI_up (KI_up (KI_up (KI_up (KI_up (KI_up (KI_up hK (n0 rfl (by omega) (by omega)) (kb_no rfl)) rfl (kb_of rfl (show 0 ≤ s.1 97 1 + 1 ∧ s.1 97 1 + 1 ≤ 2000 by omega))) (n0 rfl (by omega) (by omega)) (kb_no rfl)) rfl (kb_of rfl (show 0 ≤ s.1 97 1 + 1 + 1 ∧ s.1 97 1 + 1 + 1 ≤ 2000 by omega))) (n0 rfl (by omega) (by omega)) (kb_no rfl)) rfl (kb_of rfl (show 0 ≤ s.1 97 1 + 1 + 1 + 1 ∧ s.1 97 1 + 1 + 1 + 1 ≤ 2000 by omega))) (n0 rfl (by omega) (by omega)) (kb_no rfl))
  refine wr_n (pc2 := 32) (lv2 := [(2, vi 0), (0, .ref 97), (1, vi x)]) (st2 := [.ref 97, .ref 97]) 2 (fun _ _ => rfl) ?_
  refine wr_get (v := vi (s.1 97 1 + 1 + 1 + 1)) rfl rfl rfl (by decide) rfl fun h50 => ?_
  have h50 : -2147483648 ≤ s.1 97 1 + 1 + 1 + 1 ∧ s.1 97 1 + 1 + 1 + 1 ≤ 2147483647 := h50
  show wr d tb_M17 35 [(2, vi 0), (0, .ref 97), (1, vi x)] [vi (s.1 97 1 + 1 + 1 + 1), .ref 97] (up2 (up2 (up2 (up2 (up2 (up2 (up2 s.1 98 ((s.1 97 1).toNat) z10) 97 1 (s.1 97 1 + 1)) 98 ((s.1 97 1 + 1).toNat) z23) 97 1 (s.1 97 1 + 1 + 1)) 98 ((s.1 97 1 + 1 + 1).toNat) z35) 97 1 (s.1 97 1 + 1 + 1 + 1)) 98 ((s.1 97 1 + 1 + 1 + 1).toNat) z47, s.2) _
  refine wr_n (pc2 := 36) (lv2 := [(2, vi 0), (0, .ref 97), (1, vi x)]) (st2 := [vi 1, vi (s.1 97 1 + 1 + 1 + 1), .ref 97]) 1 (fun _ _ => rfl) ?_
  refine wr_add (a := s.1 97 1 + 1 + 1 + 1) (b := 1) rfl ?_
  show wr d tb_M17 37 [(2, vi 0), (0, .ref 97), (1, vi x)] [vi (s.1 97 1 + 1 + 1 + 1 + 1), .ref 97] (up2 (up2 (up2 (up2 (up2 (up2 (up2 s.1 98 ((s.1 97 1).toNat) z10) 97 1 (s.1 97 1 + 1)) 98 ((s.1 97 1 + 1).toNat) z23) 97 1 (s.1 97 1 + 1 + 1)) 98 ((s.1 97 1 + 1 + 1).toNat) z35) 97 1 (s.1 97 1 + 1 + 1 + 1)) 98 ((s.1 97 1 + 1 + 1 + 1).toNat) z47, s.2) _
  refine wr_put (z := s.1 97 1 + 1 + 1 + 1 + 1) rfl rfl rfl rfl (by decide) rfl (by decide) rfl (show -2147483648 ≤ s.1 97 1 + 1 + 1 + 1 + 1 ∧ s.1 97 1 + 1 + 1 + 1 + 1 ≤ 2147483647 by omega) (hf_int' _) ?_
  show wr d tb_M17 40 [(2, vi 0), (0, .ref 97), (1, vi x)] [] (up2 (up2 (up2 (up2 (up2 (up2 (up2 (up2 s.1 98 ((s.1 97 1).toNat) z10) 97 1 (s.1 97 1 + 1)) 98 ((s.1 97 1 + 1).toNat) z23) 97 1 (s.1 97 1 + 1 + 1)) 98 ((s.1 97 1 + 1 + 1).toNat) z35) 97 1 (s.1 97 1 + 1 + 1 + 1)) 98 ((s.1 97 1 + 1 + 1 + 1).toNat) z47) 97 1 (s.1 97 1 + 1 + 1 + 1 + 1), s.2) _
  have hK51 : KI (up2 (up2 (up2 (up2 (up2 (up2 (up2 (up2 s.1 98 ((s.1 97 1).toNat) z10) 97 1 (s.1 97 1 + 1)) 98 ((s.1 97 1 + 1).toNat) z23) 97 1 (s.1 97 1 + 1 + 1)) 98 ((s.1 97 1 + 1 + 1).toNat) z35) 97 1 (s.1 97 1 + 1 + 1 + 1)) 98 ((s.1 97 1 + 1 + 1 + 1).toNat) z47) 97 1 (s.1 97 1 + 1 + 1 + 1 + 1)) := (KI_up (KI_up (KI_up (KI_up (KI_up (KI_up (KI_up (KI_up hK (n0 rfl (by omega) (by omega)) (kb_no rfl)) rfl (kb_of rfl (show 0 ≤ s.1 97 1 + 1 ∧ s.1 97 1 + 1 ≤ 2000 by omega))) (n0 rfl (by omega) (by omega)) (kb_no rfl)) rfl (kb_of rfl (show 0 ≤ s.1 97 1 + 1 + 1 ∧ s.1 97 1 + 1 + 1 ≤ 2000 by omega))) (n0 rfl (by omega) (by omega)) (kb_no rfl)) rfl (kb_of rfl (show 0 ≤ s.1 97 1 + 1 + 1 + 1 ∧ s.1 97 1 + 1 + 1 + 1 ≤ 2000 by omega))) (n0 rfl (by omega) (by omega)) (kb_no rfl)) rfl (kb_of rfl (show 0 ≤ s.1 97 1 + 1 + 1 + 1 + 1 ∧ s.1 97 1 + 1 + 1 + 1 + 1 ≤ 2000 by omega)))
  refine wr_inc (a := 0) rfl rfl ?_
  show wr d tb_M17 43 [(2, vi ((-8))), (0, .ref 97), (1, vi x)] [] (up2 (up2 (up2 (up2 (up2 (up2 (up2 (up2 s.1 98 ((s.1 97 1).toNat) z10) 97 1 (s.1 97 1 + 1)) 98 ((s.1 97 1 + 1).toNat) z23) 97 1 (s.1 97 1 + 1 + 1)) 98 ((s.1 97 1 + 1 + 1).toNat) z35) 97 1 (s.1 97 1 + 1 + 1 + 1)) 98 ((s.1 97 1 + 1 + 1 + 1).toNat) z47) 97 1 (s.1 97 1 + 1 + 1 + 1 + 1), s.2) _
  refine wr_n (pc2 := 46) (lv2 := [(2, vi ((-8))), (0, .ref 97), (1, vi x)]) (st2 := []) 3 (fun _ _ => rfl) ?_
  refine wr_end (fun _ _ => rfl) ?_
  exact ⟨rfl, hK51, (by show (up2 (up2 (up2 (up2 (up2 (up2 (up2 (up2 s.1 98 ((s.1 97 1).toNat) z10) 97 1 (s.1 97 1 + 1)) 98 ((s.1 97 1 + 1).toNat) z23) 97 1 (s.1 97 1 + 1 + 1)) 98 ((s.1 97 1 + 1 + 1).toNat) z35) 97 1 (s.1 97 1 + 1 + 1 + 1)) 98 ((s.1 97 1 + 1 + 1 + 1).toNat) z47) 97 1 (s.1 97 1 + 1 + 1 + 1 + 1)) 97 1 = _; rw [up_self]; omega), (fun k j e1 e2 => (show (up2 (up2 (up2 (up2 (up2 (up2 (up2 (up2 s.1 98 ((s.1 97 1).toNat) z10) 97 1 (s.1 97 1 + 1)) 98 ((s.1 97 1 + 1).toNat) z23) 97 1 (s.1 97 1 + 1 + 1)) 98 ((s.1 97 1 + 1 + 1).toNat) z35) 97 1 (s.1 97 1 + 1 + 1 + 1)) 98 ((s.1 97 1 + 1 + 1 + 1).toNat) z47) 97 1 (s.1 97 1 + 1 + 1 + 1 + 1)) k j = s.1 k j from (if_neg (by omega)).trans ((if_neg (by omega)).trans ((if_neg (by omega)).trans ((if_neg (by omega)).trans ((if_neg (by omega)).trans ((if_neg (by omega)).trans ((if_neg (by omega)).trans ((if_neg (by omega)).trans (rfl)))))))))), rfl⟩
set_option maxHeartbeats 20000000 in
set_option maxRecDepth 100000 in
theorem y_feed {d C D E : Nat} {x y u v w : Int} (s : rS) (hXI : XI C D E s.1) (hx : (-2147483648) ≤ x ∧ x ≤ 2147483647) (hy : (-2147483648) ≤ y ∧ y ≤ 2147483647) (hu : (-2147483648) ≤ u ∧ u ≤ 2147483647) (hv : (-2147483648) ≤ v ∧ v ≤ 2147483647) (hw : (-2147483648) ≤ w ∧ w ≤ 2147483647)  : cr (d + 2) 16 [.ref 96, vi x, vi y, vi u, vi v, vi w] s (XZ (fun z r => s.1 97 1 + 20 ≤ 2000 ∧ z = s.1 97 1 + 20 ∧ r 97 1 = s.1 97 1 + 20 ∨ 2000 < s.1 97 1 + 20 ∧ z = -3 ∧ r 97 1 = s.1 97 1) s) := by
  obtain ⟨hK, hC, hD, hE, r1, r2, r3⟩ := hXI
  refine cr_of (M := tb_M16) rfl (Nat.le_of_ble_eq_true rfl) ?_
  show wr (d + 1) tb_M16 0 [(0, .ref 96), (1, vi x), (2, vi y), (3, vi u), (4, vi v), (5, vi w)] [] s _
  refine wr_n (pc2 := 1) (lv2 := [(0, .ref 96), (1, vi x), (2, vi y), (3, vi u), (4, vi v), (5, vi w)]) (st2 := [.ref 96]) 1 (fun _ _ => rfl) ?_
  refine wr_get (v := .ref 97) rfl rfl rfl (by decide) (rv_ref (hK.1 96 0 97 rfl)) fun h1 => ?_
  show wr (d + 1) tb_M16 4 [(0, .ref 96), (1, vi x), (2, vi y), (3, vi u), (4, vi v), (5, vi w)] [.ref 97] s _
  refine wr_get (v := vi (s.1 97 1)) rfl rfl rfl (by decide) rfl fun h2 => ?_
  have h2 : -2147483648 ≤ s.1 97 1 ∧ s.1 97 1 ≤ 2147483647 := h2
  show wr (d + 1) tb_M16 7 [(0, .ref 96), (1, vi x), (2, vi y), (3, vi u), (4, vi v), (5, vi w)] [vi (s.1 97 1)] s _
  have hb3 : 0 ≤ s.1 97 1 ∧ s.1 97 1 ≤ 2000 := kb_to rfl (hK.2 97 1)
  refine wr_n (pc2 := 9) (lv2 := [(0, .ref 96), (1, vi x), (2, vi y), (3, vi u), (4, vi v), (5, vi w)]) (st2 := [vi 20, vi (s.1 97 1)]) 1 (fun _ _ => rfl) ?_
  refine wr_add (a := s.1 97 1) (b := 20) rfl ?_
  show wr (d + 1) tb_M16 10 [(0, .ref 96), (1, vi x), (2, vi y), (3, vi u), (4, vi v), (5, vi w)] [vi (s.1 97 1 + 20)] s _
  refine wr_n (pc2 := 13) (lv2 := [(0, .ref 96), (1, vi x), (2, vi y), (3, vi u), (4, vi v), (5, vi w)]) (st2 := [vi 2000, vi (s.1 97 1 + 20)]) 1 (fun _ _ => rfl) ?_
  by_cases h4 : s.1 97 1 + 20 ≤ 2000
  · refine wr_if2t rfl rfl (by unfold i32; omega) (by unfold i32; omega) h4 ?_
    refine wr_n (pc2 := 20) (lv2 := [(0, .ref 96), (1, vi x), (2, vi y), (3, vi u), (4, vi v), (5, vi w)]) (st2 := [.ref 96]) 1 (fun _ _ => rfl) ?_
    refine wr_get (v := .ref 97) rfl rfl rfl (by decide) (rv_ref (hK.1 96 0 97 rfl)) fun h5 => ?_
    show wr (d + 1) tb_M16 23 [(0, .ref 96), (1, vi x), (2, vi y), (3, vi u), (4, vi v), (5, vi w)] [.ref 97] s _
    refine wr_n (pc2 := 24) (lv2 := [(0, .ref 96), (1, vi x), (2, vi y), (3, vi u), (4, vi v), (5, vi w)]) (st2 := [vi x, .ref 97]) 1 (fun _ _ => rfl) ?_
    refine wr_call1 (args := [vi x]) (rest := []) rfl rfl rfl rfl (Nat.le_of_ble_eq_true rfl) (cr_mono (k_tadd (d := d) s hK (by omega) (by have h9 : s.1 97 1 = s.1 97 1 := rfl; omega)) ?_)
    rintro s6 out ⟨rfl, hK6, h4_6, hf6, hc6⟩
    refine ⟨_, rfl, ?_⟩
    have r1_6 : s6.1 96 1 = (C : Int) := (hf6 96 1 (by omega) (by omega)).trans r1
    have r2_6 : s6.1 96 2 = (D : Int) := (hf6 96 2 (by omega) (by omega)).trans r2
    have r3_6 : s6.1 142 0 = (E : Int) := (hf6 142 0 (by omega) (by omega)).trans r3
    have tp_6 : s6.1 97 1 = s.1 97 1 + 4 := by have h9 : s.1 97 1 = s.1 97 1 := rfl; omega
    have hi_6 : HI s.1 s6.1 := fun k j hk => (hf6 k j (by omega) (by omega)).trans ((fun _ _ _ => rfl : HI s.1 s.1) k j hk)
    have ce_6 : s6.2 = s.2 := hc6.trans rfl
    show wr (d + 1) tb_M16 27 [(0, .ref 96), (1, vi x), (2, vi y), (3, vi u), (4, vi v), (5, vi w)] [] s6 _
    refine wr_n (pc2 := 28) (lv2 := [(0, .ref 96), (1, vi x), (2, vi y), (3, vi u), (4, vi v), (5, vi w)]) (st2 := [.ref 96]) 1 (fun _ _ => rfl) ?_
    refine wr_get (v := .ref 97) rfl rfl rfl (by decide) (rv_ref (hK6.1 96 0 97 rfl)) fun h7 => ?_
    show wr (d + 1) tb_M16 31 [(0, .ref 96), (1, vi x), (2, vi y), (3, vi u), (4, vi v), (5, vi w)] [.ref 97] s6 _
    refine wr_n (pc2 := 32) (lv2 := [(0, .ref 96), (1, vi x), (2, vi y), (3, vi u), (4, vi v), (5, vi w)]) (st2 := [vi y, .ref 97]) 1 (fun _ _ => rfl) ?_
    refine wr_call1 (args := [vi y]) (rest := []) rfl rfl rfl rfl (Nat.le_of_ble_eq_true rfl) (cr_mono (k_tadd (d := d) s6 hK6 (by omega) (by have h9 : s6.1 97 1 = s.1 97 1 + 4 := tp_6; omega)) ?_)
    rintro s8 out ⟨rfl, hK8, h4_8, hf8, hc8⟩
    refine ⟨_, rfl, ?_⟩
    have r1_8 : s8.1 96 1 = (C : Int) := (hf8 96 1 (by omega) (by omega)).trans r1_6
    have r2_8 : s8.1 96 2 = (D : Int) := (hf8 96 2 (by omega) (by omega)).trans r2_6
    have r3_8 : s8.1 142 0 = (E : Int) := (hf8 142 0 (by omega) (by omega)).trans r3_6
    have tp_8 : s8.1 97 1 = s.1 97 1 + 8 := by have h9 : s6.1 97 1 = s.1 97 1 + 4 := tp_6; omega
    have hi_8 : HI s.1 s8.1 := fun k j hk => (hf8 k j (by omega) (by omega)).trans (hi_6 k j hk)
    have ce_8 : s8.2 = s.2 := hc8.trans ce_6
    show wr (d + 1) tb_M16 35 [(0, .ref 96), (1, vi x), (2, vi y), (3, vi u), (4, vi v), (5, vi w)] [] s8 _
    refine wr_n (pc2 := 36) (lv2 := [(0, .ref 96), (1, vi x), (2, vi y), (3, vi u), (4, vi v), (5, vi w)]) (st2 := [.ref 96]) 1 (fun _ _ => rfl) ?_
    refine wr_get (v := .ref 97) rfl rfl rfl (by decide) (rv_ref (hK8.1 96 0 97 rfl)) fun h9 => ?_
    show wr (d + 1) tb_M16 39 [(0, .ref 96), (1, vi x), (2, vi y), (3, vi u), (4, vi v), (5, vi w)] [.ref 97] s8 _
    refine wr_n (pc2 := 40) (lv2 := [(0, .ref 96), (1, vi x), (2, vi y), (3, vi u), (4, vi v), (5, vi w)]) (st2 := [vi u, .ref 97]) 1 (fun _ _ => rfl) ?_
    refine wr_call1 (args := [vi u]) (rest := []) rfl rfl rfl rfl (Nat.le_of_ble_eq_true rfl) (cr_mono (k_tadd (d := d) s8 hK8 (by omega) (by have h9 : s8.1 97 1 = s.1 97 1 + 8 := tp_8; omega)) ?_)
    rintro s10 out ⟨rfl, hK10, h4_10, hf10, hc10⟩
    refine ⟨_, rfl, ?_⟩
    have r1_10 : s10.1 96 1 = (C : Int) := (hf10 96 1 (by omega) (by omega)).trans r1_8
    have r2_10 : s10.1 96 2 = (D : Int) := (hf10 96 2 (by omega) (by omega)).trans r2_8
    have r3_10 : s10.1 142 0 = (E : Int) := (hf10 142 0 (by omega) (by omega)).trans r3_8
    have tp_10 : s10.1 97 1 = s.1 97 1 + 12 := by have h9 : s8.1 97 1 = s.1 97 1 + 8 := tp_8; omega
    have hi_10 : HI s.1 s10.1 := fun k j hk => (hf10 k j (by omega) (by omega)).trans (hi_8 k j hk)
    have ce_10 : s10.2 = s.2 := hc10.trans ce_8
    show wr (d + 1) tb_M16 43 [(0, .ref 96), (1, vi x), (2, vi y), (3, vi u), (4, vi v), (5, vi w)] [] s10 _
    refine wr_n (pc2 := 44) (lv2 := [(0, .ref 96), (1, vi x), (2, vi y), (3, vi u), (4, vi v), (5, vi w)]) (st2 := [.ref 96]) 1 (fun _ _ => rfl) ?_
    refine wr_get (v := .ref 97) rfl rfl rfl (by decide) (rv_ref (hK10.1 96 0 97 rfl)) fun h11 => ?_
    show wr (d + 1) tb_M16 47 [(0, .ref 96), (1, vi x), (2, vi y), (3, vi u), (4, vi v), (5, vi w)] [.ref 97] s10 _
    refine wr_n (pc2 := 49) (lv2 := [(0, .ref 96), (1, vi x), (2, vi y), (3, vi u), (4, vi v), (5, vi w)]) (st2 := [vi v, .ref 97]) 1 (fun _ _ => rfl) ?_
    refine wr_call1 (args := [vi v]) (rest := []) rfl rfl rfl rfl (Nat.le_of_ble_eq_true rfl) (cr_mono (k_tadd (d := d) s10 hK10 (by omega) (by have h9 : s10.1 97 1 = s.1 97 1 + 12 := tp_10; omega)) ?_)
    rintro s12 out ⟨rfl, hK12, h4_12, hf12, hc12⟩
    refine ⟨_, rfl, ?_⟩
    have r1_12 : s12.1 96 1 = (C : Int) := (hf12 96 1 (by omega) (by omega)).trans r1_10
    have r2_12 : s12.1 96 2 = (D : Int) := (hf12 96 2 (by omega) (by omega)).trans r2_10
    have r3_12 : s12.1 142 0 = (E : Int) := (hf12 142 0 (by omega) (by omega)).trans r3_10
    have tp_12 : s12.1 97 1 = s.1 97 1 + 16 := by have h9 : s10.1 97 1 = s.1 97 1 + 12 := tp_10; omega
    have hi_12 : HI s.1 s12.1 := fun k j hk => (hf12 k j (by omega) (by omega)).trans (hi_10 k j hk)
    have ce_12 : s12.2 = s.2 := hc12.trans ce_10
    show wr (d + 1) tb_M16 52 [(0, .ref 96), (1, vi x), (2, vi y), (3, vi u), (4, vi v), (5, vi w)] [] s12 _
    refine wr_n (pc2 := 53) (lv2 := [(0, .ref 96), (1, vi x), (2, vi y), (3, vi u), (4, vi v), (5, vi w)]) (st2 := [.ref 96]) 1 (fun _ _ => rfl) ?_
    refine wr_get (v := .ref 97) rfl rfl rfl (by decide) (rv_ref (hK12.1 96 0 97 rfl)) fun h13 => ?_
    show wr (d + 1) tb_M16 56 [(0, .ref 96), (1, vi x), (2, vi y), (3, vi u), (4, vi v), (5, vi w)] [.ref 97] s12 _
    refine wr_n (pc2 := 58) (lv2 := [(0, .ref 96), (1, vi x), (2, vi y), (3, vi u), (4, vi v), (5, vi w)]) (st2 := [vi w, .ref 97]) 1 (fun _ _ => rfl) ?_
    refine wr_call1 (args := [vi w]) (rest := []) rfl rfl rfl rfl (Nat.le_of_ble_eq_true rfl) (cr_mono (k_tadd (d := d) s12 hK12 (by omega) (by have h9 : s12.1 97 1 = s.1 97 1 + 16 := tp_12; omega)) ?_)
    rintro s14 out ⟨rfl, hK14, h4_14, hf14, hc14⟩
    refine ⟨_, rfl, ?_⟩
    have r1_14 : s14.1 96 1 = (C : Int) := (hf14 96 1 (by omega) (by omega)).trans r1_12
    have r2_14 : s14.1 96 2 = (D : Int) := (hf14 96 2 (by omega) (by omega)).trans r2_12
    have r3_14 : s14.1 142 0 = (E : Int) := (hf14 142 0 (by omega) (by omega)).trans r3_12
    have tp_14 : s14.1 97 1 = s.1 97 1 + 20 := by have h9 : s12.1 97 1 = s.1 97 1 + 16 := tp_12; omega
    have hi_14 : HI s.1 s14.1 := fun k j hk => (hf14 k j (by omega) (by omega)).trans (hi_12 k j hk)
    have ce_14 : s14.2 = s.2 := hc14.trans ce_12
    show wr (d + 1) tb_M16 61 [(0, .ref 96), (1, vi x), (2, vi y), (3, vi u), (4, vi v), (5, vi w)] [] s14 _
    refine wr_n (pc2 := 62) (lv2 := [(0, .ref 96), (1, vi x), (2, vi y), (3, vi u), (4, vi v), (5, vi w)]) (st2 := [.ref 96]) 1 (fun _ _ => rfl) ?_
    refine wr_get (v := .ref 97) rfl rfl rfl (by decide) (rv_ref (hK14.1 96 0 97 rfl)) fun h15 => ?_
    show wr (d + 1) tb_M16 65 [(0, .ref 96), (1, vi x), (2, vi y), (3, vi u), (4, vi v), (5, vi w)] [.ref 97] s14 _
    refine wr_get (v := vi (s14.1 97 1)) rfl rfl rfl (by decide) rfl fun h16 => ?_
    have h16 : -2147483648 ≤ s14.1 97 1 ∧ s14.1 97 1 ≤ 2147483647 := h16
    show wr (d + 1) tb_M16 68 [(0, .ref 96), (1, vi x), (2, vi y), (3, vi u), (4, vi v), (5, vi w)] [vi (s14.1 97 1)] s14 _
    have hb17 : 0 ≤ s14.1 97 1 ∧ s14.1 97 1 ≤ 2000 := kb_to rfl (hK14.2 97 1)
    refine wr_reti rfl rfl ?_
    exact ⟨⟨s14.1 97 1, rfl, (by have h9 : s14.1 97 1 = s.1 97 1 + 20 := tp_14; show s.1 97 1 + 20 ≤ 2000 ∧ s14.1 97 1 = s.1 97 1 + 20 ∧ s14.1 97 1 = s.1 97 1 + 20 ∨ 2000 < s.1 97 1 + 20 ∧ s14.1 97 1 = -3 ∧ s14.1 97 1 = s.1 97 1; omega)⟩, ce_14, ⟨C, D, E, hK14, hC, hD, hE, r1_14, r2_14, r3_14⟩, hi_14⟩
  · refine wr_if2f rfl rfl (by unfold i32; omega) (by unfold i32; omega) h4 ?_
    refine wr_n (pc2 := 18) (lv2 := [(0, .ref 96), (1, vi x), (2, vi y), (3, vi u), (4, vi v), (5, vi w)]) (st2 := [vi ((-3))]) 1 (fun _ _ => rfl) ?_
    refine wr_end (fun _ _ => rfl) ?_
    exact ⟨⟨(-3), rfl, (by have h9 : s.1 97 1 = s.1 97 1 := rfl; show s.1 97 1 + 20 ≤ 2000 ∧ (-3) = s.1 97 1 + 20 ∧ s.1 97 1 = s.1 97 1 + 20 ∨ 2000 < s.1 97 1 + 20 ∧ (-3) = -3 ∧ s.1 97 1 = s.1 97 1; omega)⟩, rfl, ⟨C, D, E, hK, hC, hD, hE, r1, r2, r3⟩, (fun _ _ _ => rfl : HI s.1 s.1)⟩
