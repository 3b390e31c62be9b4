/-! The compiler once more (90c.k2). -/
def KSZq (C : Nat) (P : Int → Prop) (s : rS) : rS → hm_Out → Prop := fun s2 out => KI s2.1 ∧ FXq C s.1 s2.1 ∧ s2.2 = s.2 ∧ s2.1 137 5 = s.1 137 5 ∧ ∃ z : Int, out = some (some (vi z)) ∧ i32 z ∧ P z
set_option maxHeartbeats 20000000 in
set_option maxRecDepth 100000 in
theorem k_stepq {C : Nat} {d : Nat}  (s : rS) (hK : KI s.1)   : cr (d + 1) 35 [.ref 137] s (KVq C s) := by
  refine cr_of (M := tb_M35) rfl (Nat.le_of_ble_eq_true rfl) ?_
  show wr (d) tb_M35 0 [(0, .ref 137)] [] s _
  refine wr_n (pc2 := 1) (lv2 := [(0, .ref 137)]) (st2 := [.ref 137]) 1 (fun _ _ => rfl) ?_
  refine wr_get (v := vi (s.1 137 5)) rfl rfl rfl (by decide) rfl fun h1 => ?_
  have h1 : -2147483648 ≤ s.1 137 5 ∧ s.1 137 5 ≤ 2147483647 := h1
  show wr d tb_M35 4 [(0, .ref 137)] [vi (s.1 137 5)] s _
  by_cases h2 : s.1 137 5 < 0
  · refine wr_if1t rfl rfl (by unfold i32; omega) h2 ?_
    refine wr_end (fun _ _ => rfl) ?_
    exact ⟨hK, FXq_rf, rfl, rfl⟩
  · refine wr_if1f rfl rfl (by unfold i32; omega) h2 ?_
    refine wr_n (pc2 := 8) (lv2 := [(0, .ref 137)]) (st2 := [.ref 137]) 1 (fun _ _ => rfl) ?_
    refine wr_get (v := vi (s.1 137 5)) rfl rfl rfl (by decide) rfl fun h3 => ?_
    have h3 : -2147483648 ≤ s.1 137 5 ∧ s.1 137 5 ≤ 2147483647 := h3
    show wr d tb_M35 11 [(0, .ref 137)] [vi (s.1 137 5)] s _
    refine wr_n (pc2 := 14) (lv2 := [(0, .ref 137)]) (st2 := [vi 2000, vi (s.1 137 5)]) 1 (fun _ _ => rfl) ?_
    by_cases h4 : 2000 ≤ s.1 137 5
    · refine wr_if2t rfl rfl (by unfold i32; omega) (by unfold i32; omega) h4 ?_
      refine wr_end (fun _ _ => rfl) ?_
      exact ⟨hK, FXq_rf, rfl, rfl⟩
    · refine wr_if2f rfl rfl (by unfold i32; omega) (by unfold i32; omega) h4 ?_
      refine wr_n (pc2 := 18) (lv2 := [(0, .ref 137)]) (st2 := [.ref 137]) 1 (fun _ _ => rfl) ?_
      refine wr_get (v := .ref 139) rfl rfl rfl (by decide) (rv_ref (hK.1 137 2 139 rfl)) fun h5 => ?_
      show wr d tb_M35 21 [(0, .ref 137)] [.ref 139] s _
      refine wr_n (pc2 := 22) (lv2 := [(0, .ref 137)]) (st2 := [.ref 137, .ref 139]) 1 (fun _ _ => rfl) ?_
      refine wr_get (v := vi (s.1 137 5)) rfl rfl rfl (by decide) rfl fun h6 => ?_
      have h6 : -2147483648 ≤ s.1 137 5 ∧ s.1 137 5 ≤ 2147483647 := h6
      show wr d tb_M35 25 [(0, .ref 137)] [vi (s.1 137 5), .ref 139] s _
      refine wr_ald (a := s.1 137 5) (v := vi (s.1 139 ((s.1 137 5).toNat))) rfl rfl rfl (by omega) (by omega) (by decide) rfl fun h7 => ?_
      have h7 : -2147483648 ≤ s.1 139 ((s.1 137 5).toNat) ∧ s.1 139 ((s.1 137 5).toNat) ≤ 2147483647 := h7
      show wr d tb_M35 26 [(0, .ref 137)] [vi (s.1 139 ((s.1 137 5).toNat))] s _
      refine wr_n (pc2 := 27) (lv2 := [(0, .ref 137)]) (st2 := [vi 3, vi (s.1 139 ((s.1 137 5).toNat))]) 1 (fun _ _ => rfl) ?_
      by_cases h8 : s.1 139 ((s.1 137 5).toNat) = 3
      · refine wr_if2t rfl rfl (by unfold i32; omega) (by unfold i32; omega) h8 ?_
        refine wr_end (fun _ _ => rfl) ?_
        exact ⟨hK, FXq_rf, rfl, rfl⟩
      · refine wr_if2f rfl rfl (by unfold i32; omega) (by unfold i32; omega) h8 ?_
        refine wr_n (pc2 := 31) (lv2 := [(0, .ref 137)]) (st2 := [.ref 137]) 1 (fun _ _ => rfl) ?_
        refine wr_get (v := .ref 139) rfl rfl rfl (by decide) (rv_ref (hK.1 137 2 139 rfl)) fun h9 => ?_
        show wr d tb_M35 34 [(0, .ref 137)] [.ref 139] s _
        refine wr_n (pc2 := 35) (lv2 := [(0, .ref 137)]) (st2 := [.ref 137, .ref 139]) 1 (fun _ _ => rfl) ?_
        refine wr_get (v := vi (s.1 137 5)) rfl rfl rfl (by decide) rfl fun h10 => ?_
        have h10 : -2147483648 ≤ s.1 137 5 ∧ s.1 137 5 ≤ 2147483647 := h10
        show wr d tb_M35 38 [(0, .ref 137)] [vi (s.1 137 5), .ref 139] s _
        refine wr_ald (a := s.1 137 5) (v := vi (s.1 139 ((s.1 137 5).toNat))) rfl rfl rfl (by omega) (by omega) (by decide) rfl fun h11 => ?_
        have h11 : -2147483648 ≤ s.1 139 ((s.1 137 5).toNat) ∧ s.1 139 ((s.1 137 5).toNat) ≤ 2147483647 := h11
        show wr d tb_M35 39 [(0, .ref 137)] [vi (s.1 139 ((s.1 137 5).toNat))] s _
        refine wr_n (pc2 := 40) (lv2 := [(0, .ref 137)]) (st2 := [vi 4, vi (s.1 139 ((s.1 137 5).toNat))]) 1 (fun _ _ => rfl) ?_
        by_cases h12 : s.1 139 ((s.1 137 5).toNat) = 4
        · refine wr_if2t rfl rfl (by unfold i32; omega) (by unfold i32; omega) h12 ?_
          refine wr_end (fun _ _ => rfl) ?_
          exact ⟨hK, FXq_rf, rfl, rfl⟩
        · refine wr_if2f rfl rfl (by unfold i32; omega) (by unfold i32; omega) h12 ?_
          refine wr_n (pc2 := 45) (lv2 := [(0, .ref 137)]) (st2 := [.ref 137, .ref 137]) 2 (fun _ _ => rfl) ?_
          refine wr_get (v := vi (s.1 137 5)) rfl rfl rfl (by decide) rfl fun h13 => ?_
          have h13 : -2147483648 ≤ s.1 137 5 ∧ s.1 137 5 ≤ 2147483647 := h13
          show wr d tb_M35 48 [(0, .ref 137)] [vi (s.1 137 5), .ref 137] s _
          refine wr_n (pc2 := 49) (lv2 := [(0, .ref 137)]) (st2 := [vi 1, vi (s.1 137 5), .ref 137]) 1 (fun _ _ => rfl) ?_
          refine wr_any2 rfl rfl fun z14 h15 => ?_
          unfold i32 at h15
          show wr d tb_M35 50 [(0, .ref 137)] [vi z14, .ref 137] s _
          refine wr_put (z := z14) rfl rfl rfl rfl (by decide) rfl (by decide) rfl (show -2147483648 ≤ z14 ∧ z14 ≤ 2147483647 by omega) (hf_int' _) ?_
          show wr d tb_M35 53 [(0, .ref 137)] [] (up2 s.1 137 5 z14, s.2) _
          have hK16 : KI (up2 s.1 137 5 z14) := (KI_up hK rfl (kb_no rfl))
          refine wr_end (fun _ _ => rfl) ?_
          exact ⟨hK16, (FXq_up FXq_rf (by unfold fxq fx; omega)), rfl, rfl⟩
set_option maxHeartbeats 20000000 in
set_option maxRecDepth 100000 in
theorem k_scanName_95q {C : Nat} {d : Nat} {s0 : rS}  : ∀ (w : Nat) (l4 : Int) (l2 : Int) (l1 : Int) (s : rS), (15 - l4).toNat = w → KI s.1 → FXq C s0.1 s.1 → s.2 = s0.2 → 0 ≤ l4 ∧ l4 ≤ 15 → i64 l2 → (-2147483648) ≤ l1 ∧ l1 ≤ 2147483647 → s.1 137 5 = s0.1 137 5 → 0 ≤ s0.1 137 5 ∧ s0.1 137 5 ≤ 2000 → wr (d + 2) tb_M28 95 [(4, vi l4), (2, vl l2), (1, vi l1), (0, .ref 137)] [] s (KSZq C (fun z => True) s0) := by
  intro w
  induction w using Nat.strongRecOn with | ind w ih => ?_
  intro l4 l2 l1 s hw hK hX hc hl4 hl2 hl1 hat hat0
  refine wr_n (pc2 := 99) (lv2 := [(4, vi l4), (2, vl l2), (1, vi l1), (0, .ref 137)]) (st2 := [vi 15, vi l4]) 2 (fun _ _ => rfl) ?_
  by_cases h1 : 15 ≤ l4
  · refine wr_if2t rfl rfl (by unfold i32; omega) (by unfold i32; omega) h1 ?_
    refine wr_n (pc2 := 128) (lv2 := [(4, vi l4), (2, vl l2), (1, vi l1), (0, .ref 137)]) (st2 := [vi 1]) 1 (fun _ _ => rfl) ?_
    refine wr_end (fun _ _ => rfl) ?_
    exact ⟨hK, hX, hc, hat, 1, rfl, by unfold i32; omega, trivial⟩
  · refine wr_if2f rfl rfl (by unfold i32; omega) (by unfold i32; omega) h1 ?_
    refine wr_n (pc2 := 103) (lv2 := [(4, vi l4), (2, vl l2), (1, vi l1), (0, .ref 137)]) (st2 := [.ref 137]) 1 (fun _ _ => rfl) ?_
    refine wr_get (v := .ref 138) rfl rfl rfl (by decide) (rv_ref (hK.1 137 1 138 rfl)) fun h2 => ?_
    show wr (d + 2) tb_M28 106 [(4, vi l4), (2, vl l2), (1, vi l1), (0, .ref 137)] [.ref 138] s _
    refine wr_n (pc2 := 108) (lv2 := [(4, vi l4), (2, vl l2), (1, vi l1), (0, .ref 137)]) (st2 := [vi l4, .ref 138]) 1 (fun _ _ => rfl) ?_
    refine wr_ald (a := l4) (v := vl (s.1 138 l4.toNat)) rfl rfl rfl (by omega) (by omega) (by decide) rfl fun h3 => ?_
    show wr (d + 2) tb_M28 109 [(4, vi l4), (2, vl l2), (1, vi l1), (0, .ref 137)] [vl (s.1 138 l4.toNat)] s _
    refine wr_n (pc2 := 110) (lv2 := [(4, vi l4), (2, vl l2), (1, vi l1), (0, .ref 137)]) (st2 := [vl l2, vl (s.1 138 l4.toNat)]) 1 (fun _ _ => rfl) ?_
    refine wr_lcmp (a := s.1 138 l4.toNat) (b := l2) rfl h3 hl2 fun z4 h5 => ?_
    show wr (d + 2) tb_M28 111 [(4, vi l4), (2, vl l2), (1, vi l1), (0, .ref 137)] [vi z4] s _
    by_cases h6 : z4 ≠ 0
    · refine wr_if1t rfl rfl (by unfold i32; omega) h6 ?_
      refine wr_inc (a := l4) rfl rfl ?_
      show wr (d + 2) tb_M28 124 [(4, vi (l4 + 1)), (2, vl l2), (1, vi l1), (0, .ref 137)] [] s _
      refine wr_n (pc2 := 95) (lv2 := [(4, vi (l4 + 1)), (2, vl l2), (1, vi l1), (0, .ref 137)]) (st2 := []) 1 (fun _ _ => rfl) ?_
      exact ih _ (by omega) (l4 + 1) l2 l1 s rfl hK hX hc (by omega) hl2 (by omega)  hat hat0
    · refine wr_if1f rfl rfl (by unfold i32; omega) h6 ?_
      refine wr_n (pc2 := 119) (lv2 := [(4, vi l4), (2, vl l2), (1, vi l1), (0, .ref 137)]) (st2 := [vi l4, vi 300]) 2 (fun _ _ => rfl) ?_
      refine wr_add (a := 300) (b := l4) rfl ?_
      show wr (d + 2) tb_M28 120 [(4, vi l4), (2, vl l2), (1, vi l1), (0, .ref 137)] [vi (300 + l4)] s _
      refine wr_reti rfl rfl ?_
      exact ⟨hK, hX, hc, hat, 300 + l4, rfl, by unfold i32; omega, trivial⟩
set_option maxHeartbeats 20000000 in
set_option maxRecDepth 100000 in
theorem k_scanName_7q {C : Nat} {d : Nat} {s0 : rS}  : ∀ (w : Nat) (l2 : Int) (l1 : Int) (s : rS), (s.1 97 1 - s.1 137 6).toNat = w → KI s.1 → FXq C s0.1 s.1 → s.2 = s0.2 → i64 l2 → (-2147483648) ≤ l1 ∧ l1 ≤ 2147483647 → s.1 137 5 = s0.1 137 5 → 0 ≤ s0.1 137 5 ∧ s0.1 137 5 ≤ 2000 → wr (d + 2) tb_M28 7 [(2, vl l2), (1, vi l1), (0, .ref 137)] [] s (KSZq C (fun z => True) s0) := by
  intro w
  induction w using Nat.strongRecOn with | ind w ih => ?_
  intro l2 l1 s hw hK hX hc hl2 hl1 hat hat0
  refine wr_n (pc2 := 8) (lv2 := [(2, vl l2), (1, vi l1), (0, .ref 137)]) (st2 := [.ref 137]) 1 (fun _ _ => rfl) ?_
  refine wr_get (v := vi (s.1 137 6)) rfl rfl rfl (by decide) rfl fun h1 => ?_
  have h1 : -2147483648 ≤ s.1 137 6 ∧ s.1 137 6 ≤ 2147483647 := h1
  show wr (d + 2) tb_M28 11 [(2, vl l2), (1, vi l1), (0, .ref 137)] [vi (s.1 137 6)] s _
  refine wr_n (pc2 := 12) (lv2 := [(2, vl l2), (1, vi l1), (0, .ref 137)]) (st2 := [.ref 137, vi (s.1 137 6)]) 1 (fun _ _ => rfl) ?_
  refine wr_get (v := .ref 97) rfl rfl rfl (by decide) (rv_ref (hK.1 137 0 97 rfl)) fun h2 => ?_
  show wr (d + 2) tb_M28 15 [(2, vl l2), (1, vi l1), (0, .ref 137)] [.ref 97, vi (s.1 137 6)] s _
  refine wr_get (v := vi (s.1 97 1)) rfl rfl rfl (by decide) rfl fun h3 => ?_
  have h3 : -2147483648 ≤ s.1 97 1 ∧ s.1 97 1 ≤ 2147483647 := h3
  show wr (d + 2) tb_M28 18 [(2, vl l2), (1, vi l1), (0, .ref 137)] [vi (s.1 97 1), vi (s.1 137 6)] s _
  have hb4 : 0 ≤ s.1 97 1 ∧ s.1 97 1 ≤ 2000 := kb_to rfl (hK.2 97 1)
  by_cases h5 : s.1 97 1 ≤ s.1 137 6
  · refine wr_if2t rfl rfl (by unfold i32; omega) (by unfold i32; omega) h5 ?_
    refine wr_n (pc2 := 70) (lv2 := [(2, vl l2), (1, vi l1), (0, .ref 137)]) (st2 := [.ref 137]) 1 (fun _ _ => rfl) ?_
    refine wr_get (v := .ref 141) rfl rfl rfl (by decide) (rv_ref (hK.1 137 4 141 rfl)) fun h6 => ?_
    show wr (d + 2) tb_M28 73 [(2, vl l2), (1, vi l1), (0, .ref 137)] [.ref 141] s _
    refine wr_n (pc2 := 74) (lv2 := [(2, vl l2), (1, vi l1), (0, .ref 137)]) (st2 := [.ref 137, .ref 141]) 1 (fun _ _ => rfl) ?_
    refine wr_get (v := vi (s.1 137 5)) rfl rfl rfl (by decide) rfl fun h7 => ?_
    have h7 : -2147483648 ≤ s.1 137 5 ∧ s.1 137 5 ≤ 2147483647 := h7
    show wr (d + 2) tb_M28 77 [(2, vl l2), (1, vi l1), (0, .ref 137)] [vi (s.1 137 5), .ref 141] s _
    have hb8 : 0 ≤ s.1 137 5 ∧ s.1 137 5 ≤ 2000 := by rw [hat]; exact hat0
    refine wr_n (pc2 := 78) (lv2 := [(2, vl l2), (1, vi l1), (0, .ref 137)]) (st2 := [vl l2, vi (s.1 137 5), .ref 141]) 1 (fun _ _ => rfl) ?_
    refine wr_ast (a := s.1 137 5) (z := l2) rfl (by decide) rfl rfl (by omega) (by omega) (by decide) rfl hl2 ?_
    show wr (d + 2) tb_M28 79 [(2, vl l2), (1, vi l1), (0, .ref 137)] [] (up2 s.1 141 ((s.1 137 5).toNat) l2, s.2) _
    have hK9 : KI (up2 s.1 141 ((s.1 137 5).toNat) l2) := (KI_up hK (n0 rfl (by omega) (by omega)) (kb_no rfl))
    refine wr_n (pc2 := 80) (lv2 := [(2, vl l2), (1, vi l1), (0, .ref 137)]) (st2 := [.ref 137]) 1 (fun _ _ => rfl) ?_
    refine wr_get (v := vi (s.1 137 6)) rfl rfl rfl (by decide) rfl fun h10 => ?_
    have h10 : -2147483648 ≤ s.1 137 6 ∧ s.1 137 6 ≤ 2147483647 := h10
    show wr (d + 2) tb_M28 83 [(2, vl l2), (1, vi l1), (0, .ref 137)] [vi (s.1 137 6)] (up2 s.1 141 ((s.1 137 5).toNat) l2, s.2) _
    refine wr_n (pc2 := 84) (lv2 := [(2, vl l2), (1, vi l1), (0, .ref 137)]) (st2 := [vi l1, vi (s.1 137 6)]) 1 (fun _ _ => rfl) ?_
    refine wr_any2 rfl rfl fun z11 h12 => ?_
    unfold i32 at h12
    show wr (d + 2) tb_M28 85 [(2, vl l2), (1, vi l1), (0, .ref 137)] [vi z11] (up2 s.1 141 ((s.1 137 5).toNat) l2, s.2) _
    refine wr_n (pc2 := 87) (lv2 := [(2, vl l2), (1, vi l1), (0, .ref 137)]) (st2 := [vi 8, vi z11]) 1 (fun _ _ => rfl) ?_
    by_cases h13 : z11 ≤ 8
    · refine wr_if2t rfl rfl (by unfold i32; omega) (by unfold i32; omega) h13 ?_
      refine wr_n (pc2 := 95) (lv2 := [(4, vi 0), (2, vl l2), (1, vi l1), (0, .ref 137)]) (st2 := []) 2 (fun _ _ => rfl) ?_
      obtain ⟨q14, hs14⟩ : ∃ qq9 : rS, qq9 = (up2 s.1 141 ((s.1 137 5).toNat) l2, s.2) := ⟨_, rfl⟩
      rw [← hs14]
      have hK14 : KI q14.1 := by rw [hs14]; exact hK9
      have hX14 : FXq C s0.1 q14.1 := by rw [hs14]; exact (FXq_up hX (by unfold fxq fx; omega))
      have hC14 : q14.2 = s0.2 := by rw [hs14]; exact hc
      have hat14 : q14.1 137 5 = s0.1 137 5 := by rw [hs14]; exact (show (up2 s.1 141 ((s.1 137 5).toNat) l2) 137 5 = s0.1 137 5 from ((if_neg (by omega)).trans hat))
      clear hs14
      exact k_scanName_95q (C := C)  _ 0 l2 l1 q14 rfl hK14 hX14 hC14 (by omega) hl2 (by omega)  hat14 hat0
    · refine wr_if2f rfl rfl (by unfold i32; omega) (by unfold i32; omega) h13 ?_
      refine wr_n (pc2 := 91) (lv2 := [(2, vl l2), (1, vi l1), (0, .ref 137)]) (st2 := [vi 4]) 1 (fun _ _ => rfl) ?_
      refine wr_end (fun _ _ => rfl) ?_
      exact ⟨hK9, (FXq_up hX (by unfold fxq fx; omega)), hc, (show (up2 s.1 141 ((s.1 137 5).toNat) l2) 137 5 = s0.1 137 5 from ((if_neg (by omega)).trans hat)), 4, rfl, by unfold i32; omega, trivial⟩
  · refine wr_if2f rfl rfl (by unfold i32; omega) (by unfold i32; omega) h5 ?_
    refine wr_n (pc2 := 22) (lv2 := [(2, vl l2), (1, vi l1), (0, .ref 137)]) (st2 := [.ref 137]) 1 (fun _ _ => rfl) ?_
    refine wr_get (v := .ref 97) rfl rfl rfl (by decide) (rv_ref (hK.1 137 0 97 rfl)) fun h15 => ?_
    show wr (d + 2) tb_M28 25 [(2, vl l2), (1, vi l1), (0, .ref 137)] [.ref 97] s _
    refine wr_n (pc2 := 26) (lv2 := [(2, vl l2), (1, vi l1), (0, .ref 137)]) (st2 := [.ref 137, .ref 97]) 1 (fun _ _ => rfl) ?_
    refine wr_get (v := vi (s.1 137 6)) rfl rfl rfl (by decide) rfl fun h16 => ?_
    have h16 : -2147483648 ≤ s.1 137 6 ∧ s.1 137 6 ≤ 2147483647 := h16
    show wr (d + 2) tb_M28 29 [(2, vl l2), (1, vi l1), (0, .ref 137)] [vi (s.1 137 6), .ref 97] s _
    refine wr_call1 (args := [vi (s.1 137 6)]) (rest := []) rfl rfl rfl rfl (Nat.le_of_ble_eq_true rfl) (cr_mono (k_at (d := d + 1) (x := s.1 137 6) s hK (by omega)) ?_)
    rintro s17 out ⟨z17, rfl, hz17, hp17, e17⟩
    refine ⟨_, rfl, ?_⟩
    rw [e17]
    unfold i32 at hz17
    clear hp17
    show wr (d + 2) tb_M28 32 [(2, vl l2), (1, vi l1), (0, .ref 137)] [vi z17] s _
    refine wr_call0 (args := [vi z17]) (rest := []) rfl rfl rfl (Nat.le_of_ble_eq_true rfl) (cr_mono (k_inName (d := d + 0) (x := z17) s hK (by omega)) ?_)
    rintro s18 out ⟨z18, rfl, hz18, hp18, e18⟩
    refine ⟨_, rfl, ?_⟩
    rw [e18]
    unfold i32 at hz18
    clear hp18
    show wr (d + 2) tb_M28 35 [(2, vl l2), (1, vi l1), (0, .ref 137)] [vi z18] s _
    by_cases h19 : z18 = 0
    · refine wr_if1t rfl rfl (by unfold i32; omega) h19 ?_
      refine wr_n (pc2 := 70) (lv2 := [(2, vl l2), (1, vi l1), (0, .ref 137)]) (st2 := [.ref 137]) 1 (fun _ _ => rfl) ?_
      refine wr_get (v := .ref 141) rfl rfl rfl (by decide) (rv_ref (hK.1 137 4 141 rfl)) fun h20 => ?_
      show wr (d + 2) tb_M28 73 [(2, vl l2), (1, vi l1), (0, .ref 137)] [.ref 141] s _
      refine wr_n (pc2 := 74) (lv2 := [(2, vl l2), (1, vi l1), (0, .ref 137)]) (st2 := [.ref 137, .ref 141]) 1 (fun _ _ => rfl) ?_
      refine wr_get (v := vi (s.1 137 5)) rfl rfl rfl (by decide) rfl fun h21 => ?_
      have h21 : -2147483648 ≤ s.1 137 5 ∧ s.1 137 5 ≤ 2147483647 := h21
      show wr (d + 2) tb_M28 77 [(2, vl l2), (1, vi l1), (0, .ref 137)] [vi (s.1 137 5), .ref 141] s _
      have hb22 : 0 ≤ s.1 137 5 ∧ s.1 137 5 ≤ 2000 := by rw [hat]; exact hat0
      refine wr_n (pc2 := 78) (lv2 := [(2, vl l2), (1, vi l1), (0, .ref 137)]) (st2 := [vl l2, vi (s.1 137 5), .ref 141]) 1 (fun _ _ => rfl) ?_
      refine wr_ast (a := s.1 137 5) (z := l2) rfl (by decide) rfl rfl (by omega) (by omega) (by decide) rfl hl2 ?_
      show wr (d + 2) tb_M28 79 [(2, vl l2), (1, vi l1), (0, .ref 137)] [] (up2 s.1 141 ((s.1 137 5).toNat) l2, s.2) _
      have hK23 : KI (up2 s.1 141 ((s.1 137 5).toNat) l2) := (KI_up hK (n0 rfl (by omega) (by omega)) (kb_no rfl))
      refine wr_n (pc2 := 80) (lv2 := [(2, vl l2), (1, vi l1), (0, .ref 137)]) (st2 := [.ref 137]) 1 (fun _ _ => rfl) ?_
      refine wr_get (v := vi (s.1 137 6)) rfl rfl rfl (by decide) rfl fun h24 => ?_
      have h24 : -2147483648 ≤ s.1 137 6 ∧ s.1 137 6 ≤ 2147483647 := h24
      show wr (d + 2) tb_M28 83 [(2, vl l2), (1, vi l1), (0, .ref 137)] [vi (s.1 137 6)] (up2 s.1 141 ((s.1 137 5).toNat) l2, s.2) _
      refine wr_n (pc2 := 84) (lv2 := [(2, vl l2), (1, vi l1), (0, .ref 137)]) (st2 := [vi l1, vi (s.1 137 6)]) 1 (fun _ _ => rfl) ?_
      refine wr_any2 rfl rfl fun z25 h26 => ?_
      unfold i32 at h26
      show wr (d + 2) tb_M28 85 [(2, vl l2), (1, vi l1), (0, .ref 137)] [vi z25] (up2 s.1 141 ((s.1 137 5).toNat) l2, s.2) _
      refine wr_n (pc2 := 87) (lv2 := [(2, vl l2), (1, vi l1), (0, .ref 137)]) (st2 := [vi 8, vi z25]) 1 (fun _ _ => rfl) ?_
      by_cases h27 : z25 ≤ 8
      · refine wr_if2t rfl rfl (by unfold i32; omega) (by unfold i32; omega) h27 ?_
        refine wr_n (pc2 := 95) (lv2 := [(4, vi 0), (2, vl l2), (1, vi l1), (0, .ref 137)]) (st2 := []) 2 (fun _ _ => rfl) ?_
        obtain ⟨q28, hs28⟩ : ∃ qq9 : rS, qq9 = (up2 s.1 141 ((s.1 137 5).toNat) l2, s.2) := ⟨_, rfl⟩
        rw [← hs28]
        have hK28 : KI q28.1 := by rw [hs28]; exact hK23
        have hX28 : FXq C s0.1 q28.1 := by rw [hs28]; exact (FXq_up hX (by unfold fxq fx; omega))
        have hC28 : q28.2 = s0.2 := by rw [hs28]; exact hc
        have hat28 : q28.1 137 5 = s0.1 137 5 := by rw [hs28]; exact (show (up2 s.1 141 ((s.1 137 5).toNat) l2) 137 5 = s0.1 137 5 from ((if_neg (by omega)).trans hat))
        clear hs28
        exact k_scanName_95q (C := C)  _ 0 l2 l1 q28 rfl hK28 hX28 hC28 (by omega) hl2 (by omega)  hat28 hat0
      · refine wr_if2f rfl rfl (by unfold i32; omega) (by unfold i32; omega) h27 ?_
        refine wr_n (pc2 := 91) (lv2 := [(2, vl l2), (1, vi l1), (0, .ref 137)]) (st2 := [vi 4]) 1 (fun _ _ => rfl) ?_
        refine wr_end (fun _ _ => rfl) ?_
        exact ⟨hK23, (FXq_up hX (by unfold fxq fx; omega)), hc, (show (up2 s.1 141 ((s.1 137 5).toNat) l2) 137 5 = s0.1 137 5 from ((if_neg (by omega)).trans hat)), 4, rfl, by unfold i32; omega, trivial⟩
    · refine wr_if1f rfl rfl (by unfold i32; omega) h19 ?_
      refine wr_n (pc2 := 41) (lv2 := [(2, vl l2), (1, vi l1), (0, .ref 137)]) (st2 := [vi 8, vl l2]) 2 (fun _ _ => rfl) ?_
      refine wr_lshl (a := l2) (b := 8) rfl fun z29 h30 _ => ?_
      show wr (d + 2) tb_M28 42 [(2, vl l2), (1, vi l1), (0, .ref 137)] [vl z29] s _
      refine wr_n (pc2 := 43) (lv2 := [(2, vl l2), (1, vi l1), (0, .ref 137)]) (st2 := [.ref 137, vl z29]) 1 (fun _ _ => rfl) ?_
      refine wr_get (v := .ref 97) rfl rfl rfl (by decide) (rv_ref (hK.1 137 0 97 rfl)) fun h31 => ?_
      show wr (d + 2) tb_M28 46 [(2, vl l2), (1, vi l1), (0, .ref 137)] [.ref 97, vl z29] s _
      refine wr_n (pc2 := 47) (lv2 := [(2, vl l2), (1, vi l1), (0, .ref 137)]) (st2 := [.ref 137, .ref 97, vl z29]) 1 (fun _ _ => rfl) ?_
      refine wr_get (v := vi (s.1 137 6)) rfl rfl rfl (by decide) rfl fun h32 => ?_
      have h32 : -2147483648 ≤ s.1 137 6 ∧ s.1 137 6 ≤ 2147483647 := h32
      show wr (d + 2) tb_M28 50 [(2, vl l2), (1, vi l1), (0, .ref 137)] [vi (s.1 137 6), .ref 97, vl z29] s _
      refine wr_call1 (args := [vi (s.1 137 6)]) (rest := [vl z29]) rfl rfl rfl rfl (Nat.le_of_ble_eq_true rfl) (cr_mono (k_at (d := d + 1) (x := s.1 137 6) s hK (by omega)) ?_)
      rintro s33 out ⟨z33, rfl, hz33, hp33, e33⟩
      refine ⟨_, rfl, ?_⟩
      rw [e33]
      unfold i32 at hz33
      clear hp33
      show wr (d + 2) tb_M28 53 [(2, vl l2), (1, vi l1), (0, .ref 137)] [vi z33, vl z29] s _
      refine wr_i2l (a := z33) rfl (by unfold i32; omega) ?_
      show wr (d + 2) tb_M28 54 [(2, vl l2), (1, vi l1), (0, .ref 137)] [vl z33, vl z29] s _
      refine wr_anyl (a := z29) (b := z33) rfl rfl fun z34 h35 _ => ?_
      show wr (d + 2) tb_M28 55 [(2, vl l2), (1, vi l1), (0, .ref 137)] [vl z34] s _
      refine wr_n (pc2 := 58) (lv2 := [(2, vl z34), (1, vi l1), (0, .ref 137)]) (st2 := [.ref 137, .ref 137]) 3 (fun _ _ => rfl) ?_
      refine wr_get (v := vi (s.1 137 6)) rfl rfl rfl (by decide) rfl fun h36 => ?_
      have h36 : -2147483648 ≤ s.1 137 6 ∧ s.1 137 6 ≤ 2147483647 := h36
      show wr (d + 2) tb_M28 61 [(2, vl z34), (1, vi l1), (0, .ref 137)] [vi (s.1 137 6), .ref 137] s _
      refine wr_n (pc2 := 62) (lv2 := [(2, vl z34), (1, vi l1), (0, .ref 137)]) (st2 := [vi 1, vi (s.1 137 6), .ref 137]) 1 (fun _ _ => rfl) ?_
      refine wr_add (a := s.1 137 6) (b := 1) rfl ?_
      show wr (d + 2) tb_M28 63 [(2, vl z34), (1, vi l1), (0, .ref 137)] [vi (s.1 137 6 + 1), .ref 137] s _
      refine wr_put (z := s.1 137 6 + 1) rfl rfl rfl rfl (by decide) rfl (by decide) rfl (show -2147483648 ≤ s.1 137 6 + 1 ∧ s.1 137 6 + 1 ≤ 2147483647 by omega) (hf_int' _) ?_
      show wr (d + 2) tb_M28 66 [(2, vl z34), (1, vi l1), (0, .ref 137)] [] (up2 s.1 137 6 (s.1 137 6 + 1), s.2) _
      have hK37 : KI (up2 s.1 137 6 (s.1 137 6 + 1)) := (KI_up hK rfl (kb_no rfl))
      refine wr_n (pc2 := 7) (lv2 := [(2, vl z34), (1, vi l1), (0, .ref 137)]) (st2 := []) 1 (fun _ _ => rfl) ?_
      obtain ⟨q38, hs38⟩ : ∃ qq9 : rS, qq9 = (up2 s.1 137 6 (s.1 137 6 + 1), s.2) := ⟨_, rfl⟩
      rw [← hs38]
      have hK38 : KI q38.1 := by rw [hs38]; exact hK37
      have hX38 : FXq C s0.1 q38.1 := by rw [hs38]; exact (FXq_up hX (by unfold fxq fx; omega))
      have hC38 : q38.2 = s0.2 := by rw [hs38]; exact hc
      have hat38 : q38.1 137 5 = s0.1 137 5 := by rw [hs38]; exact (show (up2 s.1 137 6 (s.1 137 6 + 1)) 137 5 = s0.1 137 5 from ((if_neg (by omega)).trans hat))
      have hv39 : q38.1 137 6 = s.1 137 6 + 1 := by rw [hs38]; show (up2 s.1 137 6 (s.1 137 6 + 1)) 137 6 = _; simp [up2]
      have hv40 : q38.1 97 1 = s.1 97 1 := by rw [hs38]; show (up2 s.1 137 6 (s.1 137 6 + 1)) 97 1 = _; simp [up2]
      clear hs38
      exact ih _ (by omega) z34 l1 q38 rfl hK38 hX38 hC38 h35 (by omega)  hat38 hat0
set_option maxHeartbeats 20000000 in
set_option maxRecDepth 100000 in
theorem k_scanNameq {C : Nat} {d : Nat}  (s : rS) (hK : KI s.1)  (hat0 : 0 ≤ s.1 137 5 ∧ s.1 137 5 ≤ 2000) : cr (d + 3) 28 [.ref 137] s (KSZq C (fun z => True) s) := by
  refine cr_of (M := tb_M28) rfl (Nat.le_of_ble_eq_true rfl) ?_
  show wr (d + 2) tb_M28 0 [(0, .ref 137)] [] s _
  refine wr_n (pc2 := 1) (lv2 := [(0, .ref 137)]) (st2 := [.ref 137]) 1 (fun _ _ => rfl) ?_
  refine wr_get (v := vi (s.1 137 6)) rfl rfl rfl (by decide) rfl fun h1 => ?_
  have h1 : -2147483648 ≤ s.1 137 6 ∧ s.1 137 6 ≤ 2147483647 := h1
  show wr (d + 2) tb_M28 4 [(0, .ref 137)] [vi (s.1 137 6)] s _
  refine wr_n (pc2 := 7) (lv2 := [(2, vl 0), (1, vi (s.1 137 6)), (0, .ref 137)]) (st2 := []) 3 (fun _ _ => rfl) ?_
  exact k_scanName_7q (C := C)  _ 0 (s.1 137 6) s rfl hK FXq_rf rfl ((by unfold i64; omega)) (by omega)  rfl hat0
set_option maxHeartbeats 20000000 in
set_option maxRecDepth 100000 in
theorem k_scanNumber_2q {C : Nat} {d : Nat} {s0 : rS}  : ∀ (w : Nat) (l1 : Int) (s : rS), (s.1 97 1 - s.1 137 6).toNat = w → KI s.1 → FXq C s0.1 s.1 → s.2 = s0.2 → i64 l1 → s.1 137 5 = s0.1 137 5 → 0 ≤ s0.1 137 5 ∧ s0.1 137 5 ≤ 2000 → wr (d + 1) tb_M31 2 [(1, vl l1), (0, .ref 137)] [] s (KSZq C (fun z => True) s0) := by
  intro w
  induction w using Nat.strongRecOn with | ind w ih => ?_
  intro l1 s hw hK hX hc hl1 hat hat0
  refine wr_n (pc2 := 3) (lv2 := [(1, vl l1), (0, .ref 137)]) (st2 := [.ref 137]) 1 (fun _ _ => rfl) ?_
  refine wr_get (v := vi (s.1 137 6)) rfl rfl rfl (by decide) rfl fun h1 => ?_
  have h1 : -2147483648 ≤ s.1 137 6 ∧ s.1 137 6 ≤ 2147483647 := h1
  show wr (d + 1) tb_M31 6 [(1, vl l1), (0, .ref 137)] [vi (s.1 137 6)] s _
  refine wr_n (pc2 := 7) (lv2 := [(1, vl l1), (0, .ref 137)]) (st2 := [.ref 137, vi (s.1 137 6)]) 1 (fun _ _ => rfl) ?_
  refine wr_get (v := .ref 97) rfl rfl rfl (by decide) (rv_ref (hK.1 137 0 97 rfl)) fun h2 => ?_
  show wr (d + 1) tb_M31 10 [(1, vl l1), (0, .ref 137)] [.ref 97, vi (s.1 137 6)] s _
  refine wr_get (v := vi (s.1 97 1)) rfl rfl rfl (by decide) rfl fun h3 => ?_
  have h3 : -2147483648 ≤ s.1 97 1 ∧ s.1 97 1 ≤ 2147483647 := h3
  show wr (d + 1) tb_M31 13 [(1, vl l1), (0, .ref 137)] [vi (s.1 97 1), vi (s.1 137 6)] s _
  have hb4 : 0 ≤ s.1 97 1 ∧ s.1 97 1 ≤ 2000 := kb_to rfl (hK.2 97 1)
  by_cases h5 : s.1 97 1 ≤ s.1 137 6
  · refine wr_if2t rfl rfl (by unfold i32; omega) (by unfold i32; omega) h5 ?_
    refine wr_n (pc2 := 76) (lv2 := [(1, vl l1), (0, .ref 137)]) (st2 := [.ref 137]) 1 (fun _ _ => rfl) ?_
    refine wr_get (v := .ref 141) rfl rfl rfl (by decide) (rv_ref (hK.1 137 4 141 rfl)) fun h6 => ?_
    show wr (d + 1) tb_M31 79 [(1, vl l1), (0, .ref 137)] [.ref 141] s _
    refine wr_n (pc2 := 80) (lv2 := [(1, vl l1), (0, .ref 137)]) (st2 := [.ref 137, .ref 141]) 1 (fun _ _ => rfl) ?_
    refine wr_get (v := vi (s.1 137 5)) rfl rfl rfl (by decide) rfl fun h7 => ?_
    have h7 : -2147483648 ≤ s.1 137 5 ∧ s.1 137 5 ≤ 2147483647 := h7
    show wr (d + 1) tb_M31 83 [(1, vl l1), (0, .ref 137)] [vi (s.1 137 5), .ref 141] s _
    have hb8 : 0 ≤ s.1 137 5 ∧ s.1 137 5 ≤ 2000 := by rw [hat]; exact hat0
    refine wr_n (pc2 := 84) (lv2 := [(1, vl l1), (0, .ref 137)]) (st2 := [vl l1, vi (s.1 137 5), .ref 141]) 1 (fun _ _ => rfl) ?_
    refine wr_ast (a := s.1 137 5) (z := l1) rfl (by decide) rfl rfl (by omega) (by omega) (by decide) rfl hl1 ?_
    show wr (d + 1) tb_M31 85 [(1, vl l1), (0, .ref 137)] [] (up2 s.1 141 ((s.1 137 5).toNat) l1, s.2) _
    have hK9 : KI (up2 s.1 141 ((s.1 137 5).toNat) l1) := (KI_up hK (n0 rfl (by omega) (by omega)) (kb_no rfl))
    refine wr_n (pc2 := 89) (lv2 := [(1, vl l1), (0, .ref 137)]) (st2 := [vl 65535, vl l1]) 2 (fun _ _ => rfl) ?_
    refine wr_lcmp (a := l1) (b := 65535) rfl hl1 (by unfold i64; omega) fun z10 h11 => ?_
    show wr (d + 1) tb_M31 90 [(1, vl l1), (0, .ref 137)] [vi z10] (up2 s.1 141 ((s.1 137 5).toNat) l1, s.2) _
    by_cases h12 : z10 ≤ 0
    · refine wr_if1t rfl rfl (by unfold i32; omega) h12 ?_
      refine wr_n (pc2 := 98) (lv2 := [(1, vl l1), (0, .ref 137)]) (st2 := [vi 2]) 1 (fun _ _ => rfl) ?_
      refine wr_end (fun _ _ => rfl) ?_
      exact ⟨hK9, (FXq_up hX (by unfold fxq fx; omega)), hc, (show (up2 s.1 141 ((s.1 137 5).toNat) l1) 137 5 = s0.1 137 5 from ((if_neg (by omega)).trans hat)), 2, rfl, by unfold i32; omega, trivial⟩
    · refine wr_if1f rfl rfl (by unfold i32; omega) h12 ?_
      refine wr_n (pc2 := 98) (lv2 := [(1, vl l1), (0, .ref 137)]) (st2 := [vi 4]) 2 (fun _ _ => rfl) ?_
      refine wr_end (fun _ _ => rfl) ?_
      exact ⟨hK9, (FXq_up hX (by unfold fxq fx; omega)), hc, (show (up2 s.1 141 ((s.1 137 5).toNat) l1) 137 5 = s0.1 137 5 from ((if_neg (by omega)).trans hat)), 4, rfl, by unfold i32; omega, trivial⟩
  · refine wr_if2f rfl rfl (by unfold i32; omega) (by unfold i32; omega) h5 ?_
    refine wr_n (pc2 := 17) (lv2 := [(1, vl l1), (0, .ref 137)]) (st2 := [.ref 137]) 1 (fun _ _ => rfl) ?_
    refine wr_get (v := .ref 97) rfl rfl rfl (by decide) (rv_ref (hK.1 137 0 97 rfl)) fun h13 => ?_
    show wr (d + 1) tb_M31 20 [(1, vl l1), (0, .ref 137)] [.ref 97] s _
    refine wr_n (pc2 := 21) (lv2 := [(1, vl l1), (0, .ref 137)]) (st2 := [.ref 137, .ref 97]) 1 (fun _ _ => rfl) ?_
    refine wr_get (v := vi (s.1 137 6)) rfl rfl rfl (by decide) rfl fun h14 => ?_
    have h14 : -2147483648 ≤ s.1 137 6 ∧ s.1 137 6 ≤ 2147483647 := h14
    show wr (d + 1) tb_M31 24 [(1, vl l1), (0, .ref 137)] [vi (s.1 137 6), .ref 97] s _
    refine wr_call1 (args := [vi (s.1 137 6)]) (rest := []) rfl rfl rfl rfl (Nat.le_of_ble_eq_true rfl) (cr_mono (k_at (d := d + 0) (x := s.1 137 6) s hK (by omega)) ?_)
    rintro s15 out ⟨z15, rfl, hz15, hp15, e15⟩
    refine ⟨_, rfl, ?_⟩
    rw [e15]
    unfold i32 at hz15
    clear hp15
    show wr (d + 1) tb_M31 27 [(1, vl l1), (0, .ref 137)] [vi z15] s _
    refine wr_call0 (args := [vi z15]) (rest := []) rfl rfl rfl (Nat.le_of_ble_eq_true rfl) (cr_mono (k_isDigit (d := d + 0) (x := z15) s hK (by omega)) ?_)
    rintro s16 out ⟨z16, rfl, hz16, hp16, e16⟩
    refine ⟨_, rfl, ?_⟩
    rw [e16]
    unfold i32 at hz16
    clear hp16
    show wr (d + 1) tb_M31 30 [(1, vl l1), (0, .ref 137)] [vi z16] s _
    by_cases h17 : z16 = 0
    · refine wr_if1t rfl rfl (by unfold i32; omega) h17 ?_
      refine wr_n (pc2 := 76) (lv2 := [(1, vl l1), (0, .ref 137)]) (st2 := [.ref 137]) 1 (fun _ _ => rfl) ?_
      refine wr_get (v := .ref 141) rfl rfl rfl (by decide) (rv_ref (hK.1 137 4 141 rfl)) fun h18 => ?_
      show wr (d + 1) tb_M31 79 [(1, vl l1), (0, .ref 137)] [.ref 141] s _
      refine wr_n (pc2 := 80) (lv2 := [(1, vl l1), (0, .ref 137)]) (st2 := [.ref 137, .ref 141]) 1 (fun _ _ => rfl) ?_
      refine wr_get (v := vi (s.1 137 5)) rfl rfl rfl (by decide) rfl fun h19 => ?_
      have h19 : -2147483648 ≤ s.1 137 5 ∧ s.1 137 5 ≤ 2147483647 := h19
      show wr (d + 1) tb_M31 83 [(1, vl l1), (0, .ref 137)] [vi (s.1 137 5), .ref 141] s _
      have hb20 : 0 ≤ s.1 137 5 ∧ s.1 137 5 ≤ 2000 := by rw [hat]; exact hat0
      refine wr_n (pc2 := 84) (lv2 := [(1, vl l1), (0, .ref 137)]) (st2 := [vl l1, vi (s.1 137 5), .ref 141]) 1 (fun _ _ => rfl) ?_
      refine wr_ast (a := s.1 137 5) (z := l1) rfl (by decide) rfl rfl (by omega) (by omega) (by decide) rfl hl1 ?_
      show wr (d + 1) tb_M31 85 [(1, vl l1), (0, .ref 137)] [] (up2 s.1 141 ((s.1 137 5).toNat) l1, s.2) _
      have hK21 : KI (up2 s.1 141 ((s.1 137 5).toNat) l1) := (KI_up hK (n0 rfl (by omega) (by omega)) (kb_no rfl))
      refine wr_n (pc2 := 89) (lv2 := [(1, vl l1), (0, .ref 137)]) (st2 := [vl 65535, vl l1]) 2 (fun _ _ => rfl) ?_
      refine wr_lcmp (a := l1) (b := 65535) rfl hl1 (by unfold i64; omega) fun z22 h23 => ?_
      show wr (d + 1) tb_M31 90 [(1, vl l1), (0, .ref 137)] [vi z22] (up2 s.1 141 ((s.1 137 5).toNat) l1, s.2) _
      by_cases h24 : z22 ≤ 0
      · refine wr_if1t rfl rfl (by unfold i32; omega) h24 ?_
        refine wr_n (pc2 := 98) (lv2 := [(1, vl l1), (0, .ref 137)]) (st2 := [vi 2]) 1 (fun _ _ => rfl) ?_
        refine wr_end (fun _ _ => rfl) ?_
        exact ⟨hK21, (FXq_up hX (by unfold fxq fx; omega)), hc, (show (up2 s.1 141 ((s.1 137 5).toNat) l1) 137 5 = s0.1 137 5 from ((if_neg (by omega)).trans hat)), 2, rfl, by unfold i32; omega, trivial⟩
      · refine wr_if1f rfl rfl (by unfold i32; omega) h24 ?_
        refine wr_n (pc2 := 98) (lv2 := [(1, vl l1), (0, .ref 137)]) (st2 := [vi 4]) 2 (fun _ _ => rfl) ?_
        refine wr_end (fun _ _ => rfl) ?_
        exact ⟨hK21, (FXq_up hX (by unfold fxq fx; omega)), hc, (show (up2 s.1 141 ((s.1 137 5).toNat) l1) 137 5 = s0.1 137 5 from ((if_neg (by omega)).trans hat)), 4, rfl, by unfold i32; omega, trivial⟩
    · refine wr_if1f rfl rfl (by unfold i32; omega) h17 ?_
      refine wr_n (pc2 := 37) (lv2 := [(1, vl l1), (0, .ref 137)]) (st2 := [vl 10, vl l1]) 2 (fun _ _ => rfl) ?_
      refine wr_anyl (a := l1) (b := 10) rfl rfl fun z25 h26 _ => ?_
      show wr (d + 1) tb_M31 38 [(1, vl l1), (0, .ref 137)] [vl z25] s _
      refine wr_n (pc2 := 39) (lv2 := [(1, vl l1), (0, .ref 137)]) (st2 := [.ref 137, vl z25]) 1 (fun _ _ => rfl) ?_
      refine wr_get (v := .ref 97) rfl rfl rfl (by decide) (rv_ref (hK.1 137 0 97 rfl)) fun h27 => ?_
      show wr (d + 1) tb_M31 42 [(1, vl l1), (0, .ref 137)] [.ref 97, vl z25] s _
      refine wr_n (pc2 := 43) (lv2 := [(1, vl l1), (0, .ref 137)]) (st2 := [.ref 137, .ref 97, vl z25]) 1 (fun _ _ => rfl) ?_
      refine wr_get (v := vi (s.1 137 6)) rfl rfl rfl (by decide) rfl fun h28 => ?_
      have h28 : -2147483648 ≤ s.1 137 6 ∧ s.1 137 6 ≤ 2147483647 := h28
      show wr (d + 1) tb_M31 46 [(1, vl l1), (0, .ref 137)] [vi (s.1 137 6), .ref 97, vl z25] s _
      refine wr_call1 (args := [vi (s.1 137 6)]) (rest := [vl z25]) rfl rfl rfl rfl (Nat.le_of_ble_eq_true rfl) (cr_mono (k_at (d := d + 0) (x := s.1 137 6) s hK (by omega)) ?_)
      rintro s29 out ⟨z29, rfl, hz29, hp29, e29⟩
      refine ⟨_, rfl, ?_⟩
      rw [e29]
      unfold i32 at hz29
      clear hp29
      show wr (d + 1) tb_M31 49 [(1, vl l1), (0, .ref 137)] [vi z29, vl z25] s _
      refine wr_i2l (a := z29) rfl (by unfold i32; omega) ?_
      show wr (d + 1) tb_M31 50 [(1, vl l1), (0, .ref 137)] [vl z29, vl z25] s _
      refine wr_anyl (a := z25) (b := z29) rfl rfl fun z30 h31 _ => ?_
      show wr (d + 1) tb_M31 51 [(1, vl l1), (0, .ref 137)] [vl z30] s _
      refine wr_n (pc2 := 54) (lv2 := [(1, vl l1), (0, .ref 137)]) (st2 := [vl 48, vl z30]) 1 (fun _ _ => rfl) ?_
      refine wr_anyl (a := z30) (b := 48) rfl rfl fun z32 h33 _ => ?_
      show wr (d + 1) tb_M31 55 [(1, vl l1), (0, .ref 137)] [vl z32] s _
      refine wr_n (pc2 := 58) (lv2 := [(1, vl l1), (0, .ref 137)]) (st2 := [vl 65536, vl z32]) 1 (fun _ _ => rfl) ?_
      refine wr_minl (a := z32) (b := 65536) rfl rfl (by decide) fun z34 h35 => ?_
      show wr (d + 1) tb_M31 61 [(1, vl l1), (0, .ref 137)] [vl z34] s _
      refine wr_n (pc2 := 64) (lv2 := [(1, vl z34), (0, .ref 137)]) (st2 := [.ref 137, .ref 137]) 3 (fun _ _ => rfl) ?_
      refine wr_get (v := vi (s.1 137 6)) rfl rfl rfl (by decide) rfl fun h36 => ?_
      have h36 : -2147483648 ≤ s.1 137 6 ∧ s.1 137 6 ≤ 2147483647 := h36
      show wr (d + 1) tb_M31 67 [(1, vl z34), (0, .ref 137)] [vi (s.1 137 6), .ref 137] s _
      refine wr_n (pc2 := 68) (lv2 := [(1, vl z34), (0, .ref 137)]) (st2 := [vi 1, vi (s.1 137 6), .ref 137]) 1 (fun _ _ => rfl) ?_
      refine wr_add (a := s.1 137 6) (b := 1) rfl ?_
      show wr (d + 1) tb_M31 69 [(1, vl z34), (0, .ref 137)] [vi (s.1 137 6 + 1), .ref 137] s _
      refine wr_put (z := s.1 137 6 + 1) rfl rfl rfl rfl (by decide) rfl (by decide) rfl (show -2147483648 ≤ s.1 137 6 + 1 ∧ s.1 137 6 + 1 ≤ 2147483647 by omega) (hf_int' _) ?_
      show wr (d + 1) tb_M31 72 [(1, vl z34), (0, .ref 137)] [] (up2 s.1 137 6 (s.1 137 6 + 1), s.2) _
      have hK37 : KI (up2 s.1 137 6 (s.1 137 6 + 1)) := (KI_up hK rfl (kb_no rfl))
      refine wr_n (pc2 := 2) (lv2 := [(1, vl z34), (0, .ref 137)]) (st2 := []) 1 (fun _ _ => rfl) ?_
      obtain ⟨q38, hs38⟩ : ∃ qq9 : rS, qq9 = (up2 s.1 137 6 (s.1 137 6 + 1), s.2) := ⟨_, rfl⟩
      rw [← hs38]
      have hK38 : KI q38.1 := by rw [hs38]; exact hK37
      have hX38 : FXq C s0.1 q38.1 := by rw [hs38]; exact (FXq_up hX (by unfold fxq fx; omega))
      have hC38 : q38.2 = s0.2 := by rw [hs38]; exact hc
      have hat38 : q38.1 137 5 = s0.1 137 5 := by rw [hs38]; exact (show (up2 s.1 137 6 (s.1 137 6 + 1)) 137 5 = s0.1 137 5 from ((if_neg (by omega)).trans hat))
      have hv39 : q38.1 137 6 = s.1 137 6 + 1 := by rw [hs38]; show (up2 s.1 137 6 (s.1 137 6 + 1)) 137 6 = _; simp [up2]
      have hv40 : q38.1 97 1 = s.1 97 1 := by rw [hs38]; show (up2 s.1 137 6 (s.1 137 6 + 1)) 97 1 = _; simp [up2]
      clear hs38
      exact ih _ (by omega) z34 q38 rfl hK38 hX38 hC38 h35  hat38 hat0
set_option maxHeartbeats 20000000 in
set_option maxRecDepth 100000 in
theorem k_scanNumberq {C : Nat} {d : Nat}  (s : rS) (hK : KI s.1)  (hat0 : 0 ≤ s.1 137 5 ∧ s.1 137 5 ≤ 2000) : cr (d + 2) 31 [.ref 137] s (KSZq C (fun z => True) s) := by
  refine cr_of (M := tb_M31) rfl (Nat.le_of_ble_eq_true rfl) ?_
  show wr (d + 1) tb_M31 0 [(0, .ref 137)] [] s _
  refine wr_n (pc2 := 2) (lv2 := [(1, vl 0), (0, .ref 137)]) (st2 := []) 2 (fun _ _ => rfl) ?_
  exact k_scanNumber_2q (C := C)  _ 0 s rfl hK FXq_rf rfl ((by unfold i64; omega))  rfl hat0
set_option maxHeartbeats 20000000 in
set_option maxRecDepth 100000 in
theorem k_scanSign_84q {C : Nat} {d : Nat} {s0 : rS}  (l3 : Int) (l2 : Int) (l1 : Int) (k0 : Int) (s : rS) (hK : KI s.1) (hX : FXq C s0.1 s.1) (hc : s.2 = s0.2) (hl3 : (-2147483648) ≤ l3 ∧ l3 ≤ 2147483647) (hl2 : (-2147483648) ≤ l2 ∧ l2 ≤ 2147483647) (hl1 : (-2147483648) ≤ l1 ∧ l1 ≤ 2147483647) (hk0 : 0 ≤ k0 ∧ k0 ≤ 1)  (hat : s.1 137 5 = s0.1 137 5) (hat0 : 0 ≤ s0.1 137 5 ∧ s0.1 137 5 ≤ 2000) : wr (d + 1) tb_M32 84 [(3, vi l3), (2, vi l2), (0, .ref 137), (1, vi l1)] [vi k0] s (KSZq C (fun z => True) s0) := by
  refine wr_n (pc2 := 87) (lv2 := [(4, vi k0), (3, vi l3), (2, vi l2), (0, .ref 137), (1, vi l1)]) (st2 := [vi l3]) 2 (fun _ _ => rfl) ?_
  by_cases h1 : l3 ≠ 0
  · refine wr_if1t rfl rfl (by unfold i32; omega) h1 ?_
    refine wr_n (pc2 := 97) (lv2 := [(4, vi k0), (3, vi l3), (2, vi l2), (0, .ref 137), (1, vi l1)]) (st2 := [.ref 137, .ref 137]) 2 (fun _ _ => rfl) ?_
    refine wr_get (v := vi (s.1 137 6)) rfl rfl rfl (by decide) rfl fun h2 => ?_
    have h2 : -2147483648 ≤ s.1 137 6 ∧ s.1 137 6 ≤ 2147483647 := h2
    show wr (d + 1) tb_M32 100 [(4, vi k0), (3, vi l3), (2, vi l2), (0, .ref 137), (1, vi l1)] [vi (s.1 137 6), .ref 137] s _
    refine wr_n (pc2 := 101) (lv2 := [(4, vi k0), (3, vi l3), (2, vi l2), (0, .ref 137), (1, vi l1)]) (st2 := [vi 2, vi (s.1 137 6), .ref 137]) 1 (fun _ _ => rfl) ?_
    refine wr_any2 rfl rfl fun z3 h4 => ?_
    unfold i32 at h4
    show wr (d + 1) tb_M32 102 [(4, vi k0), (3, vi l3), (2, vi l2), (0, .ref 137), (1, vi l1)] [vi z3, .ref 137] s _
    refine wr_put (z := z3) rfl rfl rfl rfl (by decide) rfl (by decide) rfl (show -2147483648 ≤ z3 ∧ z3 ≤ 2147483647 by omega) (hf_int' _) ?_
    show wr (d + 1) tb_M32 105 [(4, vi k0), (3, vi l3), (2, vi l2), (0, .ref 137), (1, vi l1)] [] (up2 s.1 137 6 z3, s.2) _
    have hK5 : KI (up2 s.1 137 6 z3) := (KI_up hK rfl (kb_no rfl))
    refine wr_n (pc2 := 108) (lv2 := [(4, vi k0), (3, vi l3), (2, vi l2), (0, .ref 137), (1, vi l1)]) (st2 := [vi 8, vi l1]) 2 (fun _ _ => rfl) ?_
    refine wr_any2 rfl rfl fun z6 h7 => ?_
    unfold i32 at h7
    show wr (d + 1) tb_M32 109 [(4, vi k0), (3, vi l3), (2, vi l2), (0, .ref 137), (1, vi l1)] [vi z6] (up2 s.1 137 6 z3, s.2) _
    refine wr_n (pc2 := 110) (lv2 := [(4, vi k0), (3, vi l3), (2, vi l2), (0, .ref 137), (1, vi l1)]) (st2 := [vi l2, vi z6]) 1 (fun _ _ => rfl) ?_
    refine wr_any2 rfl rfl fun z8 h9 => ?_
    unfold i32 at h9
    show wr (d + 1) tb_M32 111 [(4, vi k0), (3, vi l3), (2, vi l2), (0, .ref 137), (1, vi l1)] [vi z8] (up2 s.1 137 6 z3, s.2) _
    refine wr_reti rfl rfl ?_
    exact ⟨hK5, (FXq_up hX (by unfold fxq fx; omega)), hc, (show (up2 s.1 137 6 z3) 137 5 = s0.1 137 5 from ((if_neg (by omega)).trans hat)), z8, rfl, by unfold i32; omega, trivial⟩
  · refine wr_if1f rfl rfl (by unfold i32; omega) h1 ?_
    refine wr_n (pc2 := 92) (lv2 := [(4, vi k0), (3, vi l3), (2, vi l2), (0, .ref 137), (1, vi l1)]) (st2 := [vi k0]) 1 (fun _ _ => rfl) ?_
    by_cases h10 : k0 = 0
    · refine wr_if1t rfl rfl (by unfold i32; omega) h10 ?_
      refine wr_n (pc2 := 114) (lv2 := [(4, vi k0), (3, vi l3), (2, vi l2), (0, .ref 137), (1, vi l1)]) (st2 := [.ref 137, .ref 137]) 2 (fun _ _ => rfl) ?_
      refine wr_get (v := vi (s.1 137 6)) rfl rfl rfl (by decide) rfl fun h11 => ?_
      have h11 : -2147483648 ≤ s.1 137 6 ∧ s.1 137 6 ≤ 2147483647 := h11
      show wr (d + 1) tb_M32 117 [(4, vi k0), (3, vi l3), (2, vi l2), (0, .ref 137), (1, vi l1)] [vi (s.1 137 6), .ref 137] s _
      refine wr_n (pc2 := 118) (lv2 := [(4, vi k0), (3, vi l3), (2, vi l2), (0, .ref 137), (1, vi l1)]) (st2 := [vi 1, vi (s.1 137 6), .ref 137]) 1 (fun _ _ => rfl) ?_
      refine wr_any2 rfl rfl fun z12 h13 => ?_
      unfold i32 at h13
      show wr (d + 1) tb_M32 119 [(4, vi k0), (3, vi l3), (2, vi l2), (0, .ref 137), (1, vi l1)] [vi z12, .ref 137] s _
      refine wr_put (z := z12) rfl rfl rfl rfl (by decide) rfl (by decide) rfl (show -2147483648 ≤ z12 ∧ z12 ≤ 2147483647 by omega) (hf_int' _) ?_
      show wr (d + 1) tb_M32 122 [(4, vi k0), (3, vi l3), (2, vi l2), (0, .ref 137), (1, vi l1)] [] (up2 s.1 137 6 z12, s.2) _
      have hK14 : KI (up2 s.1 137 6 z12) := (KI_up hK rfl (kb_no rfl))
      refine wr_n (pc2 := 123) (lv2 := [(4, vi k0), (3, vi l3), (2, vi l2), (0, .ref 137), (1, vi l1)]) (st2 := [vi l1]) 1 (fun _ _ => rfl) ?_
      refine wr_call0 (args := [vi l1]) (rest := []) rfl rfl rfl (Nat.le_of_ble_eq_true rfl) (cr_mono (k_isSign (d := d + 0) (x := l1) (up2 s.1 137 6 z12, s.2) hK14 (by omega)) ?_)
      rintro s15 out ⟨z15, rfl, hz15, hp15, e15⟩
      refine ⟨_, rfl, ?_⟩
      rw [e15]
      unfold i32 at hz15
      clear hp15
      show wr (d + 1) tb_M32 126 [(4, vi k0), (3, vi l3), (2, vi l2), (0, .ref 137), (1, vi l1)] [vi z15] (up2 s.1 137 6 z12, s.2) _
      by_cases h16 : z15 = 0
      · refine wr_if1t rfl rfl (by unfold i32; omega) h16 ?_
        refine wr_n (pc2 := 134) (lv2 := [(4, vi k0), (3, vi l3), (2, vi l2), (0, .ref 137), (1, vi l1)]) (st2 := [vi 4]) 1 (fun _ _ => rfl) ?_
        refine wr_end (fun _ _ => rfl) ?_
        exact ⟨hK14, (FXq_up hX (by unfold fxq fx; omega)), hc, (show (up2 s.1 137 6 z12) 137 5 = s0.1 137 5 from ((if_neg (by omega)).trans hat)), 4, rfl, by unfold i32; omega, trivial⟩
      · refine wr_if1f rfl rfl (by unfold i32; omega) h16 ?_
        refine wr_n (pc2 := 134) (lv2 := [(4, vi k0), (3, vi l3), (2, vi l2), (0, .ref 137), (1, vi l1)]) (st2 := [vi l1]) 2 (fun _ _ => rfl) ?_
        refine wr_reti rfl rfl ?_
        exact ⟨hK14, (FXq_up hX (by unfold fxq fx; omega)), hc, (show (up2 s.1 137 6 z12) 137 5 = s0.1 137 5 from ((if_neg (by omega)).trans hat)), l1, rfl, by unfold i32; omega, trivial⟩
    · refine wr_if1f rfl rfl (by unfold i32; omega) h10 ?_
      refine wr_n (pc2 := 97) (lv2 := [(4, vi k0), (3, vi l3), (2, vi l2), (0, .ref 137), (1, vi l1)]) (st2 := [.ref 137, .ref 137]) 2 (fun _ _ => rfl) ?_
      refine wr_get (v := vi (s.1 137 6)) rfl rfl rfl (by decide) rfl fun h17 => ?_
      have h17 : -2147483648 ≤ s.1 137 6 ∧ s.1 137 6 ≤ 2147483647 := h17
      show wr (d + 1) tb_M32 100 [(4, vi k0), (3, vi l3), (2, vi l2), (0, .ref 137), (1, vi l1)] [vi (s.1 137 6), .ref 137] s _
      refine wr_n (pc2 := 101) (lv2 := [(4, vi k0), (3, vi l3), (2, vi l2), (0, .ref 137), (1, vi l1)]) (st2 := [vi 2, vi (s.1 137 6), .ref 137]) 1 (fun _ _ => rfl) ?_
      refine wr_any2 rfl rfl fun z18 h19 => ?_
      unfold i32 at h19
      show wr (d + 1) tb_M32 102 [(4, vi k0), (3, vi l3), (2, vi l2), (0, .ref 137), (1, vi l1)] [vi z18, .ref 137] s _
      refine wr_put (z := z18) rfl rfl rfl rfl (by decide) rfl (by decide) rfl (show -2147483648 ≤ z18 ∧ z18 ≤ 2147483647 by omega) (hf_int' _) ?_
      show wr (d + 1) tb_M32 105 [(4, vi k0), (3, vi l3), (2, vi l2), (0, .ref 137), (1, vi l1)] [] (up2 s.1 137 6 z18, s.2) _
      have hK20 : KI (up2 s.1 137 6 z18) := (KI_up hK rfl (kb_no rfl))
      refine wr_n (pc2 := 108) (lv2 := [(4, vi k0), (3, vi l3), (2, vi l2), (0, .ref 137), (1, vi l1)]) (st2 := [vi 8, vi l1]) 2 (fun _ _ => rfl) ?_
      refine wr_any2 rfl rfl fun z21 h22 => ?_
      unfold i32 at h22
      show wr (d + 1) tb_M32 109 [(4, vi k0), (3, vi l3), (2, vi l2), (0, .ref 137), (1, vi l1)] [vi z21] (up2 s.1 137 6 z18, s.2) _
      refine wr_n (pc2 := 110) (lv2 := [(4, vi k0), (3, vi l3), (2, vi l2), (0, .ref 137), (1, vi l1)]) (st2 := [vi l2, vi z21]) 1 (fun _ _ => rfl) ?_
      refine wr_any2 rfl rfl fun z23 h24 => ?_
      unfold i32 at h24
      show wr (d + 1) tb_M32 111 [(4, vi k0), (3, vi l3), (2, vi l2), (0, .ref 137), (1, vi l1)] [vi z23] (up2 s.1 137 6 z18, s.2) _
      refine wr_reti rfl rfl ?_
      exact ⟨hK20, (FXq_up hX (by unfold fxq fx; omega)), hc, (show (up2 s.1 137 6 z18) 137 5 = s0.1 137 5 from ((if_neg (by omega)).trans hat)), z23, rfl, by unfold i32; omega, trivial⟩
set_option maxHeartbeats 20000000 in
set_option maxRecDepth 100000 in
theorem k_scanSign_54q {C : Nat} {d : Nat} {s0 : rS}  (l2 : Int) (l1 : Int) (k0 : Int) (s : rS) (hK : KI s.1) (hX : FXq C s0.1 s.1) (hc : s.2 = s0.2) (hl2 : (-2147483648) ≤ l2 ∧ l2 ≤ 2147483647) (hl1 : (-2147483648) ≤ l1 ∧ l1 ≤ 2147483647) (hk0 : 0 ≤ k0 ∧ k0 ≤ 1)  (hat : s.1 137 5 = s0.1 137 5) (hat0 : 0 ≤ s0.1 137 5 ∧ s0.1 137 5 ≤ 2000) : wr (d + 1) tb_M32 54 [(2, vi l2), (0, .ref 137), (1, vi l1)] [vi k0] s (KSZq C (fun z => True) s0) := by
  refine wr_n (pc2 := 58) (lv2 := [(3, vi k0), (2, vi l2), (0, .ref 137), (1, vi l1)]) (st2 := [vi 61, vi l2]) 3 (fun _ _ => rfl) ?_
  by_cases h1 : l2 ≠ 61
  · refine wr_if2t rfl rfl (by unfold i32; omega) (by unfold i32; omega) h1 ?_
    refine wr_n (pc2 := 84) (lv2 := [(3, vi k0), (2, vi l2), (0, .ref 137), (1, vi l1)]) (st2 := [vi 0]) 1 (fun _ _ => rfl) ?_
    exact k_scanSign_84q (C := C)  k0 l2 l1 0 s hK hX hc (by omega) (by omega) (by omega) (by omega)  hat hat0
  · refine wr_if2f rfl rfl (by unfold i32; omega) (by unfold i32; omega) h1 ?_
    refine wr_n (pc2 := 64) (lv2 := [(3, vi k0), (2, vi l2), (0, .ref 137), (1, vi l1)]) (st2 := [vi 33, vi l1]) 2 (fun _ _ => rfl) ?_
    by_cases h2 : l1 = 33
    · refine wr_if2t rfl rfl (by unfold i32; omega) (by unfold i32; omega) h2 ?_
      refine wr_n (pc2 := 84) (lv2 := [(3, vi k0), (2, vi l2), (0, .ref 137), (1, vi l1)]) (st2 := [vi 1]) 2 (fun _ _ => rfl) ?_
      exact k_scanSign_84q (C := C)  k0 l2 l1 1 s hK hX hc (by omega) (by omega) (by omega) (by omega)  hat hat0
    · refine wr_if2f rfl rfl (by unfold i32; omega) (by unfold i32; omega) h2 ?_
      refine wr_n (pc2 := 70) (lv2 := [(3, vi k0), (2, vi l2), (0, .ref 137), (1, vi l1)]) (st2 := [vi 60, vi l1]) 2 (fun _ _ => rfl) ?_
      by_cases h3 : l1 = 60
      · refine wr_if2t rfl rfl (by unfold i32; omega) (by unfold i32; omega) h3 ?_
        refine wr_n (pc2 := 84) (lv2 := [(3, vi k0), (2, vi l2), (0, .ref 137), (1, vi l1)]) (st2 := [vi 1]) 2 (fun _ _ => rfl) ?_
        exact k_scanSign_84q (C := C)  k0 l2 l1 1 s hK hX hc (by omega) (by omega) (by omega) (by omega)  hat hat0
      · refine wr_if2f rfl rfl (by unfold i32; omega) (by unfold i32; omega) h3 ?_
        refine wr_n (pc2 := 76) (lv2 := [(3, vi k0), (2, vi l2), (0, .ref 137), (1, vi l1)]) (st2 := [vi 62, vi l1]) 2 (fun _ _ => rfl) ?_
        by_cases h4 : l1 ≠ 62
        · refine wr_if2t rfl rfl (by unfold i32; omega) (by unfold i32; omega) h4 ?_
          refine wr_n (pc2 := 84) (lv2 := [(3, vi k0), (2, vi l2), (0, .ref 137), (1, vi l1)]) (st2 := [vi 0]) 1 (fun _ _ => rfl) ?_
          exact k_scanSign_84q (C := C)  k0 l2 l1 0 s hK hX hc (by omega) (by omega) (by omega) (by omega)  hat hat0
        · refine wr_if2f rfl rfl (by unfold i32; omega) (by unfold i32; omega) h4 ?_
          refine wr_n (pc2 := 84) (lv2 := [(3, vi k0), (2, vi l2), (0, .ref 137), (1, vi l1)]) (st2 := [vi 1]) 2 (fun _ _ => rfl) ?_
          exact k_scanSign_84q (C := C)  k0 l2 l1 1 s hK hX hc (by omega) (by omega) (by omega) (by omega)  hat hat0
set_option maxHeartbeats 20000000 in
set_option maxRecDepth 100000 in
theorem k_scanSignq {C : Nat} {d : Nat}  {x : Int} (s : rS) (hK : KI s.1) (hx : (-2147483648) ≤ x ∧ x ≤ 2147483647) (hat0 : 0 ≤ s.1 137 5 ∧ s.1 137 5 ≤ 2000) : cr (d + 2) 32 [.ref 137, vi x] s (KSZq C (fun z => True) s) := by
  refine cr_of (M := tb_M32) rfl (Nat.le_of_ble_eq_true rfl) ?_
  show wr (d + 1) tb_M32 0 [(0, .ref 137), (1, vi x)] [] s _
  refine wr_n (pc2 := 1) (lv2 := [(0, .ref 137), (1, vi x)]) (st2 := [.ref 137]) 1 (fun _ _ => rfl) ?_
  refine wr_get (v := .ref 97) rfl rfl rfl (by decide) (rv_ref (hK.1 137 0 97 rfl)) fun h1 => ?_
  show wr (d + 1) tb_M32 4 [(0, .ref 137), (1, vi x)] [.ref 97] s _
  refine wr_n (pc2 := 5) (lv2 := [(0, .ref 137), (1, vi x)]) (st2 := [.ref 137, .ref 97]) 1 (fun _ _ => rfl) ?_
  refine wr_get (v := vi (s.1 137 6)) rfl rfl rfl (by decide) rfl fun h2 => ?_
  have h2 : -2147483648 ≤ s.1 137 6 ∧ s.1 137 6 ≤ 2147483647 := h2
  show wr (d + 1) tb_M32 8 [(0, .ref 137), (1, vi x)] [vi (s.1 137 6), .ref 97] s _
  refine wr_n (pc2 := 9) (lv2 := [(0, .ref 137), (1, vi x)]) (st2 := [vi 1, vi (s.1 137 6), .ref 97]) 1 (fun _ _ => rfl) ?_
  refine wr_any2 rfl rfl fun z3 h4 => ?_
  unfold i32 at h4
  show wr (d + 1) tb_M32 10 [(0, .ref 137), (1, vi x)] [vi z3, .ref 97] s _
  refine wr_call1 (args := [vi z3]) (rest := []) rfl rfl rfl rfl (Nat.le_of_ble_eq_true rfl) (cr_mono (k_at (d := d + 0) (x := z3) s hK (by omega)) ?_)
  rintro s5 out ⟨z5, rfl, hz5, hp5, e5⟩
  refine ⟨_, rfl, ?_⟩
  rw [e5]
  unfold i32 at hz5
  clear hp5
  show wr (d + 1) tb_M32 13 [(0, .ref 137), (1, vi x)] [vi z5] s _
  refine wr_n (pc2 := 16) (lv2 := [(2, vi z5), (0, .ref 137), (1, vi x)]) (st2 := [vi x, vi z5]) 3 (fun _ _ => rfl) ?_
  by_cases h6 : z5 ≠ x
  · refine wr_if2t rfl rfl (by unfold i32; omega) (by unfold i32; omega) h6 ?_
    refine wr_n (pc2 := 54) (lv2 := [(2, vi z5), (0, .ref 137), (1, vi x)]) (st2 := [vi 0]) 1 (fun _ _ => rfl) ?_
    exact k_scanSign_54q (C := C)  z5 x 0 s hK FXq_rf rfl (by omega) (by omega) (by omega)  rfl hat0
  · refine wr_if2f rfl rfl (by unfold i32; omega) (by unfold i32; omega) h6 ?_
    refine wr_n (pc2 := 22) (lv2 := [(2, vi z5), (0, .ref 137), (1, vi x)]) (st2 := [vi 38, vi x]) 2 (fun _ _ => rfl) ?_
    by_cases h7 : x = 38
    · refine wr_if2t rfl rfl (by unfold i32; omega) (by unfold i32; omega) h7 ?_
      refine wr_n (pc2 := 54) (lv2 := [(2, vi z5), (0, .ref 137), (1, vi x)]) (st2 := [vi 1]) 2 (fun _ _ => rfl) ?_
      exact k_scanSign_54q (C := C)  z5 x 1 s hK FXq_rf rfl (by omega) (by omega) (by omega)  rfl hat0
    · refine wr_if2f rfl rfl (by unfold i32; omega) (by unfold i32; omega) h7 ?_
      refine wr_n (pc2 := 28) (lv2 := [(2, vi z5), (0, .ref 137), (1, vi x)]) (st2 := [vi 124, vi x]) 2 (fun _ _ => rfl) ?_
      by_cases h8 : x = 124
      · refine wr_if2t rfl rfl (by unfold i32; omega) (by unfold i32; omega) h8 ?_
        refine wr_n (pc2 := 54) (lv2 := [(2, vi z5), (0, .ref 137), (1, vi x)]) (st2 := [vi 1]) 2 (fun _ _ => rfl) ?_
        exact k_scanSign_54q (C := C)  z5 x 1 s hK FXq_rf rfl (by omega) (by omega) (by omega)  rfl hat0
      · refine wr_if2f rfl rfl (by unfold i32; omega) (by unfold i32; omega) h8 ?_
        refine wr_n (pc2 := 34) (lv2 := [(2, vi z5), (0, .ref 137), (1, vi x)]) (st2 := [vi 61, vi x]) 2 (fun _ _ => rfl) ?_
        by_cases h9 : x = 61
        · refine wr_if2t rfl rfl (by unfold i32; omega) (by unfold i32; omega) h9 ?_
          refine wr_n (pc2 := 54) (lv2 := [(2, vi z5), (0, .ref 137), (1, vi x)]) (st2 := [vi 1]) 2 (fun _ _ => rfl) ?_
          exact k_scanSign_54q (C := C)  z5 x 1 s hK FXq_rf rfl (by omega) (by omega) (by omega)  rfl hat0
        · refine wr_if2f rfl rfl (by unfold i32; omega) (by unfold i32; omega) h9 ?_
          refine wr_n (pc2 := 40) (lv2 := [(2, vi z5), (0, .ref 137), (1, vi x)]) (st2 := [vi 60, vi x]) 2 (fun _ _ => rfl) ?_
          by_cases h10 : x = 60
          · refine wr_if2t rfl rfl (by unfold i32; omega) (by unfold i32; omega) h10 ?_
            refine wr_n (pc2 := 54) (lv2 := [(2, vi z5), (0, .ref 137), (1, vi x)]) (st2 := [vi 1]) 2 (fun _ _ => rfl) ?_
            exact k_scanSign_54q (C := C)  z5 x 1 s hK FXq_rf rfl (by omega) (by omega) (by omega)  rfl hat0
          · refine wr_if2f rfl rfl (by unfold i32; omega) (by unfold i32; omega) h10 ?_
            refine wr_n (pc2 := 46) (lv2 := [(2, vi z5), (0, .ref 137), (1, vi x)]) (st2 := [vi 62, vi x]) 2 (fun _ _ => rfl) ?_
            by_cases h11 : x ≠ 62
            · refine wr_if2t rfl rfl (by unfold i32; omega) (by unfold i32; omega) h11 ?_
              refine wr_n (pc2 := 54) (lv2 := [(2, vi z5), (0, .ref 137), (1, vi x)]) (st2 := [vi 0]) 1 (fun _ _ => rfl) ?_
              exact k_scanSign_54q (C := C)  z5 x 0 s hK FXq_rf rfl (by omega) (by omega) (by omega)  rfl hat0
            · refine wr_if2f rfl rfl (by unfold i32; omega) (by unfold i32; omega) h11 ?_
              refine wr_n (pc2 := 54) (lv2 := [(2, vi z5), (0, .ref 137), (1, vi x)]) (st2 := [vi 1]) 2 (fun _ _ => rfl) ?_
              exact k_scanSign_54q (C := C)  z5 x 1 s hK FXq_rf rfl (by omega) (by omega) (by omega)  rfl hat0
set_option maxHeartbeats 20000000 in
set_option maxRecDepth 100000 in
theorem k_scanToken_59q {C : Nat} {d : Nat} {s0 : rS}   (s : rS) (hK : KI s.1) (hX : FXq C s0.1 s.1) (hc : s.2 = s0.2)   (hat : s.1 137 5 = s0.1 137 5) (hat0 : 0 ≤ s0.1 137 5 ∧ s0.1 137 5 ≤ 2000) : wr (d + 3) tb_M25 59 [(0, .ref 137)] [] s (KSZq C (fun z => True) s0) := by
  refine wr_n (pc2 := 60) (lv2 := [(0, .ref 137)]) (st2 := [.ref 137]) 1 (fun _ _ => rfl) ?_
  refine wr_get (v := .ref 140) rfl rfl rfl (by decide) (rv_ref (hK.1 137 3 140 rfl)) fun h1 => ?_
  show wr (d + 3) tb_M25 63 [(0, .ref 137)] [.ref 140] s _
  refine wr_n (pc2 := 64) (lv2 := [(0, .ref 137)]) (st2 := [.ref 137, .ref 140]) 1 (fun _ _ => rfl) ?_
  refine wr_get (v := vi (s.1 137 5)) rfl rfl rfl (by decide) rfl fun h2 => ?_
  have h2 : -2147483648 ≤ s.1 137 5 ∧ s.1 137 5 ≤ 2147483647 := h2
  show wr (d + 3) tb_M25 67 [(0, .ref 137)] [vi (s.1 137 5), .ref 140] s _
  have hb3 : 0 ≤ s.1 137 5 ∧ s.1 137 5 ≤ 2000 := by rw [hat]; exact hat0
  refine wr_n (pc2 := 68) (lv2 := [(0, .ref 137)]) (st2 := [.ref 137, vi (s.1 137 5), .ref 140]) 1 (fun _ _ => rfl) ?_
  refine wr_get (v := vi (s.1 137 6)) rfl rfl rfl (by decide) rfl fun h4 => ?_
  have h4 : -2147483648 ≤ s.1 137 6 ∧ s.1 137 6 ≤ 2147483647 := h4
  show wr (d + 3) tb_M25 71 [(0, .ref 137)] [vi (s.1 137 6), vi (s.1 137 5), .ref 140] s _
  refine wr_ast (a := s.1 137 5) (z := s.1 137 6) rfl (by decide) rfl rfl (by omega) (by omega) (by decide) rfl (show -2147483648 ≤ s.1 137 6 ∧ s.1 137 6 ≤ 2147483647 by omega) ?_
  show wr (d + 3) tb_M25 72 [(0, .ref 137)] [] (up2 s.1 140 ((s.1 137 5).toNat) (s.1 137 6), s.2) _
  have hK5 : KI (up2 s.1 140 ((s.1 137 5).toNat) (s.1 137 6)) := (KI_up hK (n0 rfl (by omega) (by omega)) (kb_no rfl))
  refine wr_n (pc2 := 73) (lv2 := [(0, .ref 137)]) (st2 := [.ref 137]) 1 (fun _ _ => rfl) ?_
  refine wr_get (v := .ref 97) rfl rfl rfl (by decide) (rv_ref (hK5.1 137 0 97 rfl)) fun h6 => ?_
  show wr (d + 3) tb_M25 76 [(0, .ref 137)] [.ref 97] (up2 s.1 140 ((s.1 137 5).toNat) (s.1 137 6), s.2) _
  refine wr_n (pc2 := 77) (lv2 := [(0, .ref 137)]) (st2 := [.ref 137, .ref 97]) 1 (fun _ _ => rfl) ?_
  refine wr_get (v := vi (s.1 137 6)) rfl rfl rfl (by decide) rfl fun h7 => ?_
  have h7 : -2147483648 ≤ s.1 137 6 ∧ s.1 137 6 ≤ 2147483647 := h7
  show wr (d + 3) tb_M25 80 [(0, .ref 137)] [vi (s.1 137 6), .ref 97] (up2 s.1 140 ((s.1 137 5).toNat) (s.1 137 6), s.2) _
  refine wr_call1 (args := [vi (s.1 137 6)]) (rest := []) rfl rfl rfl rfl (Nat.le_of_ble_eq_true rfl) (cr_mono (k_at (d := d + 2) (x := s.1 137 6) (up2 s.1 140 ((s.1 137 5).toNat) (s.1 137 6), s.2) hK5 (by omega)) ?_)
  rintro s8 out ⟨z8, rfl, hz8, hp8, e8⟩
  refine ⟨_, rfl, ?_⟩
  rw [e8]
  unfold i32 at hz8
  clear hp8
  show wr (d + 3) tb_M25 83 [(0, .ref 137)] [vi z8] (up2 s.1 140 ((s.1 137 5).toNat) (s.1 137 6), s.2) _
  refine wr_n (pc2 := 85) (lv2 := [(1, vi z8), (0, .ref 137)]) (st2 := [vi z8]) 2 (fun _ _ => rfl) ?_
  by_cases h9 : 0 ≤ z8
  · refine wr_if1t rfl rfl (by unfold i32; omega) h9 ?_
    refine wr_n (pc2 := 91) (lv2 := [(1, vi z8), (0, .ref 137)]) (st2 := [vi z8]) 1 (fun _ _ => rfl) ?_
    refine wr_call0 (args := [vi z8]) (rest := []) rfl rfl rfl (Nat.le_of_ble_eq_true rfl) (cr_mono (k_isLetter (d := d + 2) (x := z8) (up2 s.1 140 ((s.1 137 5).toNat) (s.1 137 6), s.2) hK5 (by omega)) ?_)
    rintro s10 out ⟨z10, rfl, hz10, hp10, e10⟩
    refine ⟨_, rfl, ?_⟩
    rw [e10]
    unfold i32 at hz10
    clear hp10
    show wr (d + 3) tb_M25 94 [(1, vi z8), (0, .ref 137)] [vi z10] (up2 s.1 140 ((s.1 137 5).toNat) (s.1 137 6), s.2) _
    by_cases h11 : z10 = 0
    · refine wr_if1t rfl rfl (by unfold i32; omega) h11 ?_
      refine wr_n (pc2 := 103) (lv2 := [(1, vi z8), (0, .ref 137)]) (st2 := [vi z8]) 1 (fun _ _ => rfl) ?_
      refine wr_call0 (args := [vi z8]) (rest := []) rfl rfl rfl (Nat.le_of_ble_eq_true rfl) (cr_mono (k_isDigit (d := d + 2) (x := z8) (up2 s.1 140 ((s.1 137 5).toNat) (s.1 137 6), s.2) hK5 (by omega)) ?_)
      rintro s12 out ⟨z12, rfl, hz12, hp12, e12⟩
      refine ⟨_, rfl, ?_⟩
      rw [e12]
      unfold i32 at hz12
      clear hp12
      show wr (d + 3) tb_M25 106 [(1, vi z8), (0, .ref 137)] [vi z12] (up2 s.1 140 ((s.1 137 5).toNat) (s.1 137 6), s.2) _
      by_cases h13 : z12 = 0
      · refine wr_if1t rfl rfl (by unfold i32; omega) h13 ?_
        refine wr_n (pc2 := 118) (lv2 := [(1, vi z8), (0, .ref 137)]) (st2 := [vi z8, .ref 137]) 2 (fun _ _ => rfl) ?_
        refine wr_call1 (args := [vi z8]) (rest := []) rfl rfl rfl rfl (Nat.le_of_ble_eq_true rfl) (cr_mono (k_scanSignq (C := C) (d := d + 1) (x := z8) (up2 s.1 140 ((s.1 137 5).toNat) (s.1 137 6), s.2) hK5 (by omega) (by show 0 ≤ (up2 s.1 140 ((s.1 137 5).toNat) (s.1 137 6)) 137 5 ∧ (up2 s.1 140 ((s.1 137 5).toNat) (s.1 137 6)) 137 5 ≤ 2000; rw [(show (up2 s.1 140 ((s.1 137 5).toNat) (s.1 137 6)) 137 5 = s0.1 137 5 from ((if_neg (by omega)).trans hat))]; exact hat0)) ?_)
        rintro s14 out ⟨hK14, hY14, hc14, ha14, z14, rfl, hz14, hp14⟩
        refine ⟨_, rfl, ?_⟩
        have hX14 : FXq C s0.1 s14.1 := FXq_tr (FXq_up hX (by unfold fxq fx; omega)) hY14
        have hC14 : s14.2 = s0.2 := hc14.trans hc
        have hat14 : s14.1 137 5 = s0.1 137 5 := ha14.trans (show (up2 s.1 140 ((s.1 137 5).toNat) (s.1 137 6)) 137 5 = s0.1 137 5 from ((if_neg (by omega)).trans hat))
        unfold i32 at hz14
        clear hp14
        show wr (d + 3) tb_M25 121 [(1, vi z8), (0, .ref 137)] [vi z14] s14 _
        refine wr_reti rfl rfl ?_
        exact ⟨hK14, hX14, hC14, hat14, z14, rfl, by unfold i32; omega, trivial⟩
      · refine wr_if1f rfl rfl (by unfold i32; omega) h13 ?_
        refine wr_n (pc2 := 110) (lv2 := [(1, vi z8), (0, .ref 137)]) (st2 := [.ref 137]) 1 (fun _ _ => rfl) ?_
        refine wr_call1 (args := []) (rest := []) rfl rfl rfl rfl (Nat.le_of_ble_eq_true rfl) (cr_mono (k_scanNumberq (C := C) (d := d + 1) (up2 s.1 140 ((s.1 137 5).toNat) (s.1 137 6), s.2) hK5 (by show 0 ≤ (up2 s.1 140 ((s.1 137 5).toNat) (s.1 137 6)) 137 5 ∧ (up2 s.1 140 ((s.1 137 5).toNat) (s.1 137 6)) 137 5 ≤ 2000; rw [(show (up2 s.1 140 ((s.1 137 5).toNat) (s.1 137 6)) 137 5 = s0.1 137 5 from ((if_neg (by omega)).trans hat))]; exact hat0)) ?_)
        rintro s15 out ⟨hK15, hY15, hc15, ha15, z15, rfl, hz15, hp15⟩
        refine ⟨_, rfl, ?_⟩
        have hX15 : FXq C s0.1 s15.1 := FXq_tr (FXq_up hX (by unfold fxq fx; omega)) hY15
        have hC15 : s15.2 = s0.2 := hc15.trans hc
        have hat15 : s15.1 137 5 = s0.1 137 5 := ha15.trans (show (up2 s.1 140 ((s.1 137 5).toNat) (s.1 137 6)) 137 5 = s0.1 137 5 from ((if_neg (by omega)).trans hat))
        unfold i32 at hz15
        clear hp15
        show wr (d + 3) tb_M25 113 [(1, vi z8), (0, .ref 137)] [vi z15] s15 _
        refine wr_n (pc2 := 121) (lv2 := [(1, vi z8), (0, .ref 137)]) (st2 := [vi z15]) 1 (fun _ _ => rfl) ?_
        refine wr_reti rfl rfl ?_
        exact ⟨hK15, hX15, hC15, hat15, z15, rfl, by unfold i32; omega, trivial⟩
    · refine wr_if1f rfl rfl (by unfold i32; omega) h11 ?_
      refine wr_n (pc2 := 98) (lv2 := [(1, vi z8), (0, .ref 137)]) (st2 := [.ref 137]) 1 (fun _ _ => rfl) ?_
      refine wr_call1 (args := []) (rest := []) rfl rfl rfl rfl (Nat.le_of_ble_eq_true rfl) (cr_mono (k_scanNameq (C := C) (d := d + 0) (up2 s.1 140 ((s.1 137 5).toNat) (s.1 137 6), s.2) hK5 (by show 0 ≤ (up2 s.1 140 ((s.1 137 5).toNat) (s.1 137 6)) 137 5 ∧ (up2 s.1 140 ((s.1 137 5).toNat) (s.1 137 6)) 137 5 ≤ 2000; rw [(show (up2 s.1 140 ((s.1 137 5).toNat) (s.1 137 6)) 137 5 = s0.1 137 5 from ((if_neg (by omega)).trans hat))]; exact hat0)) ?_)
      rintro s16 out ⟨hK16, hY16, hc16, ha16, z16, rfl, hz16, hp16⟩
      refine ⟨_, rfl, ?_⟩
      have hX16 : FXq C s0.1 s16.1 := FXq_tr (FXq_up hX (by unfold fxq fx; omega)) hY16
      have hC16 : s16.2 = s0.2 := hc16.trans hc
      have hat16 : s16.1 137 5 = s0.1 137 5 := ha16.trans (show (up2 s.1 140 ((s.1 137 5).toNat) (s.1 137 6)) 137 5 = s0.1 137 5 from ((if_neg (by omega)).trans hat))
      unfold i32 at hz16
      clear hp16
      show wr (d + 3) tb_M25 101 [(1, vi z8), (0, .ref 137)] [vi z16] s16 _
      refine wr_reti rfl rfl ?_
      exact ⟨hK16, hX16, hC16, hat16, z16, rfl, by unfold i32; omega, trivial⟩
  · refine wr_if1f rfl rfl (by unfold i32; omega) h9 ?_
    refine wr_n (pc2 := 89) (lv2 := [(1, vi z8), (0, .ref 137)]) (st2 := [vi 3]) 1 (fun _ _ => rfl) ?_
    refine wr_end (fun _ _ => rfl) ?_
    exact ⟨hK5, (FXq_up hX (by unfold fxq fx; omega)), hc, (show (up2 s.1 140 ((s.1 137 5).toNat) (s.1 137 6)) 137 5 = s0.1 137 5 from ((if_neg (by omega)).trans hat)), 3, rfl, by unfold i32; omega, trivial⟩
set_option maxHeartbeats 20000000 in
set_option maxRecDepth 100000 in
theorem k_scanToken_0q {C : Nat} {d : Nat} {s0 : rS}  : ∀ (w : Nat)  (s : rS), (s.1 97 1 - s.1 137 6).toNat = w → KI s.1 → FXq C s0.1 s.1 → s.2 = s0.2 → s.1 137 5 = s0.1 137 5 → 0 ≤ s0.1 137 5 ∧ s0.1 137 5 ≤ 2000 → wr (d + 3) tb_M25 0 [(0, .ref 137)] [] s (KSZq C (fun z => True) s0) := by
  intro w
  induction w using Nat.strongRecOn with | ind w ih => ?_
  intro  s hw hK hX hc hat hat0
  refine wr_n (pc2 := 1) (lv2 := [(0, .ref 137)]) (st2 := [.ref 137]) 1 (fun _ _ => rfl) ?_
  refine wr_get (v := vi (s.1 137 6)) rfl rfl rfl (by decide) rfl fun h1 => ?_
  have h1 : -2147483648 ≤ s.1 137 6 ∧ s.1 137 6 ≤ 2147483647 := h1
  show wr (d + 3) tb_M25 4 [(0, .ref 137)] [vi (s.1 137 6)] s _
  refine wr_n (pc2 := 5) (lv2 := [(0, .ref 137)]) (st2 := [.ref 137, vi (s.1 137 6)]) 1 (fun _ _ => rfl) ?_
  refine wr_get (v := .ref 97) rfl rfl rfl (by decide) (rv_ref (hK.1 137 0 97 rfl)) fun h2 => ?_
  show wr (d + 3) tb_M25 8 [(0, .ref 137)] [.ref 97, vi (s.1 137 6)] s _
  refine wr_get (v := vi (s.1 97 1)) rfl rfl rfl (by decide) rfl fun h3 => ?_
  have h3 : -2147483648 ≤ s.1 97 1 ∧ s.1 97 1 ≤ 2147483647 := h3
  show wr (d + 3) tb_M25 11 [(0, .ref 137)] [vi (s.1 97 1), vi (s.1 137 6)] s _
  have hb4 : 0 ≤ s.1 97 1 ∧ s.1 97 1 ≤ 2000 := kb_to rfl (hK.2 97 1)
  by_cases h5 : s.1 97 1 ≤ s.1 137 6
  · refine wr_if2t rfl rfl (by unfold i32; omega) (by unfold i32; omega) h5 ?_
    exact k_scanToken_59q (C := C)   s hK hX hc   hat hat0
  · refine wr_if2f rfl rfl (by unfold i32; omega) (by unfold i32; omega) h5 ?_
    refine wr_n (pc2 := 15) (lv2 := [(0, .ref 137)]) (st2 := [.ref 137]) 1 (fun _ _ => rfl) ?_
    refine wr_get (v := .ref 97) rfl rfl rfl (by decide) (rv_ref (hK.1 137 0 97 rfl)) fun h6 => ?_
    show wr (d + 3) tb_M25 18 [(0, .ref 137)] [.ref 97] s _
    refine wr_n (pc2 := 19) (lv2 := [(0, .ref 137)]) (st2 := [.ref 137, .ref 97]) 1 (fun _ _ => rfl) ?_
    refine wr_get (v := vi (s.1 137 6)) rfl rfl rfl (by decide) rfl fun h7 => ?_
    have h7 : -2147483648 ≤ s.1 137 6 ∧ s.1 137 6 ≤ 2147483647 := h7
    show wr (d + 3) tb_M25 22 [(0, .ref 137)] [vi (s.1 137 6), .ref 97] s _
    refine wr_call1 (args := [vi (s.1 137 6)]) (rest := []) rfl rfl rfl rfl (Nat.le_of_ble_eq_true rfl) (cr_mono (k_at (d := d + 2) (x := s.1 137 6) s hK (by omega)) ?_)
    rintro s8 out ⟨z8, rfl, hz8, hp8, e8⟩
    refine ⟨_, rfl, ?_⟩
    rw [e8]
    unfold i32 at hz8
    clear hp8
    show wr (d + 3) tb_M25 25 [(0, .ref 137)] [vi z8] s _
    refine wr_n (pc2 := 27) (lv2 := [(0, .ref 137)]) (st2 := [vi 32, vi z8]) 1 (fun _ _ => rfl) ?_
    by_cases h9 : z8 = 32
    · refine wr_if2t rfl rfl (by unfold i32; omega) (by unfold i32; omega) h9 ?_
      refine wr_n (pc2 := 48) (lv2 := [(0, .ref 137)]) (st2 := [.ref 137, .ref 137]) 2 (fun _ _ => rfl) ?_
      refine wr_get (v := vi (s.1 137 6)) rfl rfl rfl (by decide) rfl fun h10 => ?_
      have h10 : -2147483648 ≤ s.1 137 6 ∧ s.1 137 6 ≤ 2147483647 := h10
      show wr (d + 3) tb_M25 51 [(0, .ref 137)] [vi (s.1 137 6), .ref 137] s _
      refine wr_n (pc2 := 52) (lv2 := [(0, .ref 137)]) (st2 := [vi 1, vi (s.1 137 6), .ref 137]) 1 (fun _ _ => rfl) ?_
      refine wr_add (a := s.1 137 6) (b := 1) rfl ?_
      show wr (d + 3) tb_M25 53 [(0, .ref 137)] [vi (s.1 137 6 + 1), .ref 137] s _
      refine wr_put (z := s.1 137 6 + 1) rfl rfl rfl rfl (by decide) rfl (by decide) rfl (show -2147483648 ≤ s.1 137 6 + 1 ∧ s.1 137 6 + 1 ≤ 2147483647 by omega) (hf_int' _) ?_
      show wr (d + 3) tb_M25 56 [(0, .ref 137)] [] (up2 s.1 137 6 (s.1 137 6 + 1), s.2) _
      have hK11 : KI (up2 s.1 137 6 (s.1 137 6 + 1)) := (KI_up hK rfl (kb_no rfl))
      refine wr_n (pc2 := 0) (lv2 := [(0, .ref 137)]) (st2 := []) 1 (fun _ _ => rfl) ?_
      obtain ⟨q12, hs12⟩ : ∃ qq9 : rS, qq9 = (up2 s.1 137 6 (s.1 137 6 + 1), s.2) := ⟨_, rfl⟩
      rw [← hs12]
      have hK12 : KI q12.1 := by rw [hs12]; exact hK11
      have hX12 : FXq C s0.1 q12.1 := by rw [hs12]; exact (FXq_up hX (by unfold fxq fx; omega))
      have hC12 : q12.2 = s0.2 := by rw [hs12]; exact hc
      have hat12 : q12.1 137 5 = s0.1 137 5 := by rw [hs12]; exact (show (up2 s.1 137 6 (s.1 137 6 + 1)) 137 5 = s0.1 137 5 from ((if_neg (by omega)).trans hat))
      have hv13 : q12.1 137 6 = s.1 137 6 + 1 := by rw [hs12]; show (up2 s.1 137 6 (s.1 137 6 + 1)) 137 6 = _; simp [up2]
      have hv14 : q12.1 97 1 = s.1 97 1 := by rw [hs12]; show (up2 s.1 137 6 (s.1 137 6 + 1)) 97 1 = _; simp [up2]
      clear hs12
      exact ih _ (by omega)  q12 rfl hK12 hX12 hC12   hat12 hat0
    · refine wr_if2f rfl rfl (by unfold i32; omega) (by unfold i32; omega) h9 ?_
      refine wr_n (pc2 := 31) (lv2 := [(0, .ref 137)]) (st2 := [.ref 137]) 1 (fun _ _ => rfl) ?_
      refine wr_get (v := .ref 97) rfl rfl rfl (by decide) (rv_ref (hK.1 137 0 97 rfl)) fun h15 => ?_
      show wr (d + 3) tb_M25 34 [(0, .ref 137)] [.ref 97] s _
      refine wr_n (pc2 := 35) (lv2 := [(0, .ref 137)]) (st2 := [.ref 137, .ref 97]) 1 (fun _ _ => rfl) ?_
      refine wr_get (v := vi (s.1 137 6)) rfl rfl rfl (by decide) rfl fun h16 => ?_
      have h16 : -2147483648 ≤ s.1 137 6 ∧ s.1 137 6 ≤ 2147483647 := h16
      show wr (d + 3) tb_M25 38 [(0, .ref 137)] [vi (s.1 137 6), .ref 97] s _
      refine wr_call1 (args := [vi (s.1 137 6)]) (rest := []) rfl rfl rfl rfl (Nat.le_of_ble_eq_true rfl) (cr_mono (k_at (d := d + 2) (x := s.1 137 6) s hK (by omega)) ?_)
      rintro s17 out ⟨z17, rfl, hz17, hp17, e17⟩
      refine ⟨_, rfl, ?_⟩
      rw [e17]
      unfold i32 at hz17
      clear hp17
      show wr (d + 3) tb_M25 41 [(0, .ref 137)] [vi z17] s _
      refine wr_n (pc2 := 43) (lv2 := [(0, .ref 137)]) (st2 := [vi 10, vi z17]) 1 (fun _ _ => rfl) ?_
      by_cases h18 : z17 ≠ 10
      · refine wr_if2t rfl rfl (by unfold i32; omega) (by unfold i32; omega) h18 ?_
        exact k_scanToken_59q (C := C)   s hK hX hc   hat hat0
      · refine wr_if2f rfl rfl (by unfold i32; omega) (by unfold i32; omega) h18 ?_
        refine wr_n (pc2 := 48) (lv2 := [(0, .ref 137)]) (st2 := [.ref 137, .ref 137]) 2 (fun _ _ => rfl) ?_
        refine wr_get (v := vi (s.1 137 6)) rfl rfl rfl (by decide) rfl fun h19 => ?_
        have h19 : -2147483648 ≤ s.1 137 6 ∧ s.1 137 6 ≤ 2147483647 := h19
        show wr (d + 3) tb_M25 51 [(0, .ref 137)] [vi (s.1 137 6), .ref 137] s _
        refine wr_n (pc2 := 52) (lv2 := [(0, .ref 137)]) (st2 := [vi 1, vi (s.1 137 6), .ref 137]) 1 (fun _ _ => rfl) ?_
        refine wr_add (a := s.1 137 6) (b := 1) rfl ?_
        show wr (d + 3) tb_M25 53 [(0, .ref 137)] [vi (s.1 137 6 + 1), .ref 137] s _
        refine wr_put (z := s.1 137 6 + 1) rfl rfl rfl rfl (by decide) rfl (by decide) rfl (show -2147483648 ≤ s.1 137 6 + 1 ∧ s.1 137 6 + 1 ≤ 2147483647 by omega) (hf_int' _) ?_
        show wr (d + 3) tb_M25 56 [(0, .ref 137)] [] (up2 s.1 137 6 (s.1 137 6 + 1), s.2) _
        have hK20 : KI (up2 s.1 137 6 (s.1 137 6 + 1)) := (KI_up hK rfl (kb_no rfl))
        refine wr_n (pc2 := 0) (lv2 := [(0, .ref 137)]) (st2 := []) 1 (fun _ _ => rfl) ?_
        obtain ⟨q21, hs21⟩ : ∃ qq9 : rS, qq9 = (up2 s.1 137 6 (s.1 137 6 + 1), s.2) := ⟨_, rfl⟩
        rw [← hs21]
        have hK21 : KI q21.1 := by rw [hs21]; exact hK20
        have hX21 : FXq C s0.1 q21.1 := by rw [hs21]; exact (FXq_up hX (by unfold fxq fx; omega))
        have hC21 : q21.2 = s0.2 := by rw [hs21]; exact hc
        have hat21 : q21.1 137 5 = s0.1 137 5 := by rw [hs21]; exact (show (up2 s.1 137 6 (s.1 137 6 + 1)) 137 5 = s0.1 137 5 from ((if_neg (by omega)).trans hat))
        have hv22 : q21.1 137 6 = s.1 137 6 + 1 := by rw [hs21]; show (up2 s.1 137 6 (s.1 137 6 + 1)) 137 6 = _; simp [up2]
        have hv23 : q21.1 97 1 = s.1 97 1 := by rw [hs21]; show (up2 s.1 137 6 (s.1 137 6 + 1)) 97 1 = _; simp [up2]
        clear hs21
        exact ih _ (by omega)  q21 rfl hK21 hX21 hC21   hat21 hat0
set_option maxHeartbeats 20000000 in
set_option maxRecDepth 100000 in
theorem k_scanTokenq {C : Nat} {d : Nat}  (s : rS) (hK : KI s.1)  (hat0 : 0 ≤ s.1 137 5 ∧ s.1 137 5 ≤ 2000) : cr (d + 4) 25 [.ref 137] s (KSZq C (fun z => True) s) := by
  refine cr_of (M := tb_M25) rfl (Nat.le_of_ble_eq_true rfl) ?_
  show wr (d + 3) tb_M25 0 [(0, .ref 137)] [] s _
  exact k_scanToken_0q (C := C)  _  s rfl hK FXq_rf rfl   rfl hat0
set_option maxHeartbeats 20000000 in
set_option maxRecDepth 100000 in
theorem k_scan_12q {C : Nat} {d : Nat} {s0 : rS}  : ∀ (w : Nat) (l1 : Int) (s : rS), (2001 - s.1 137 5).toNat = w → KI s.1 → FXq C s0.1 s.1 → s.2 = s0.2 → (-2147483648) ≤ l1 ∧ l1 ≤ 2147483647 → 0 ≤ s.1 137 5 ∧ s.1 137 5 ≤ 2001 → wr (d + 4) tb_M24 12 [(1, vi l1), (0, .ref 137)] [] s (KVq C s0) := by
  intro w
  induction w using Nat.strongRecOn with | ind w ih => ?_
  intro l1 s hw hK hX hc hl1 hx0
  refine wr_n (pc2 := 13) (lv2 := [(1, vi l1), (0, .ref 137)]) (st2 := [.ref 137]) 1 (fun _ _ => rfl) ?_
  refine wr_get (v := vi (s.1 137 5)) rfl rfl rfl (by decide) rfl fun h1 => ?_
  have h1 : -2147483648 ≤ s.1 137 5 ∧ s.1 137 5 ≤ 2147483647 := h1
  show wr (d + 4) tb_M24 16 [(1, vi l1), (0, .ref 137)] [vi (s.1 137 5)] s _
  refine wr_n (pc2 := 19) (lv2 := [(1, vi l1), (0, .ref 137)]) (st2 := [vi 2000, vi (s.1 137 5)]) 1 (fun _ _ => rfl) ?_
  by_cases h2 : 2000 < s.1 137 5
  · refine wr_if2t rfl rfl (by unfold i32; omega) (by unfold i32; omega) h2 ?_
    refine wr_n (pc2 := 62) (lv2 := [(1, vi l1), (0, .ref 137)]) (st2 := [vi 0, .ref 137]) 2 (fun _ _ => rfl) ?_
    refine wr_put (z := 0) rfl rfl rfl rfl (by decide) rfl (by decide) rfl (show -2147483648 ≤ 0 ∧ 0 ≤ 2147483647 by omega) (hf_int' _) ?_
    show wr (d + 4) tb_M24 65 [(1, vi l1), (0, .ref 137)] [] (up2 s.1 137 5 0, s.2) _
    have hK3 : KI (up2 s.1 137 5 0) := (KI_up hK rfl (kb_no rfl))
    refine wr_end (fun _ _ => rfl) ?_
    exact ⟨hK3, (FXq_up hX (by unfold fxq fx; omega)), hc, rfl⟩
  · refine wr_if2f rfl rfl (by unfold i32; omega) (by unfold i32; omega) h2 ?_
    refine wr_n (pc2 := 24) (lv2 := [(1, vi l1), (0, .ref 137)]) (st2 := [vi 3, vi l1]) 2 (fun _ _ => rfl) ?_
    by_cases h4 : l1 = 3
    · refine wr_if2t rfl rfl (by unfold i32; omega) (by unfold i32; omega) h4 ?_
      refine wr_n (pc2 := 62) (lv2 := [(1, vi l1), (0, .ref 137)]) (st2 := [vi 0, .ref 137]) 2 (fun _ _ => rfl) ?_
      refine wr_put (z := 0) rfl rfl rfl rfl (by decide) rfl (by decide) rfl (show -2147483648 ≤ 0 ∧ 0 ≤ 2147483647 by omega) (hf_int' _) ?_
      show wr (d + 4) tb_M24 65 [(1, vi l1), (0, .ref 137)] [] (up2 s.1 137 5 0, s.2) _
      have hK5 : KI (up2 s.1 137 5 0) := (KI_up hK rfl (kb_no rfl))
      refine wr_end (fun _ _ => rfl) ?_
      exact ⟨hK5, (FXq_up hX (by unfold fxq fx; omega)), hc, rfl⟩
    · refine wr_if2f rfl rfl (by unfold i32; omega) (by unfold i32; omega) h4 ?_
      refine wr_n (pc2 := 29) (lv2 := [(1, vi l1), (0, .ref 137)]) (st2 := [vi 4, vi l1]) 2 (fun _ _ => rfl) ?_
      by_cases h6 : l1 = 4
      · refine wr_if2t rfl rfl (by unfold i32; omega) (by unfold i32; omega) h6 ?_
        refine wr_n (pc2 := 62) (lv2 := [(1, vi l1), (0, .ref 137)]) (st2 := [vi 0, .ref 137]) 2 (fun _ _ => rfl) ?_
        refine wr_put (z := 0) rfl rfl rfl rfl (by decide) rfl (by decide) rfl (show -2147483648 ≤ 0 ∧ 0 ≤ 2147483647 by omega) (hf_int' _) ?_
        show wr (d + 4) tb_M24 65 [(1, vi l1), (0, .ref 137)] [] (up2 s.1 137 5 0, s.2) _
        have hK7 : KI (up2 s.1 137 5 0) := (KI_up hK rfl (kb_no rfl))
        refine wr_end (fun _ _ => rfl) ?_
        exact ⟨hK7, (FXq_up hX (by unfold fxq fx; omega)), hc, rfl⟩
      · refine wr_if2f rfl rfl (by unfold i32; omega) (by unfold i32; omega) h6 ?_
        refine wr_n (pc2 := 33) (lv2 := [(1, vi l1), (0, .ref 137)]) (st2 := [.ref 137]) 1 (fun _ _ => rfl) ?_
        refine wr_call1 (args := []) (rest := []) rfl rfl rfl rfl (Nat.le_of_ble_eq_true rfl) (cr_mono (k_scanTokenq (C := C) (d := d + 0) s hK (by show 0 ≤ (s.1) 137 5 ∧ (s.1) 137 5 ≤ 2000; omega)) ?_)
        rintro s8 out ⟨hK8, hY8, hc8, ha8, z8, rfl, hz8, hp8⟩
        refine ⟨_, rfl, ?_⟩
        have hX8 : FXq C s0.1 s8.1 := FXq_tr hX hY8
        have hC8 : s8.2 = s0.2 := hc8.trans hc
        unfold i32 at hz8
        clear hp8
        have hv8 : s8.1 137 5 = s.1 137 5 := ha8
        show wr (d + 4) tb_M24 36 [(1, vi l1), (0, .ref 137)] [vi z8] s8 _
        refine wr_n (pc2 := 38) (lv2 := [(1, vi z8), (0, .ref 137)]) (st2 := [.ref 137]) 2 (fun _ _ => rfl) ?_
        refine wr_get (v := .ref 139) rfl rfl rfl (by decide) (rv_ref (hK8.1 137 2 139 rfl)) fun h9 => ?_
        show wr (d + 4) tb_M24 41 [(1, vi z8), (0, .ref 137)] [.ref 139] s8 _
        refine wr_n (pc2 := 42) (lv2 := [(1, vi z8), (0, .ref 137)]) (st2 := [.ref 137, .ref 139]) 1 (fun _ _ => rfl) ?_
        refine wr_get (v := vi (s8.1 137 5)) rfl rfl rfl (by decide) rfl fun h10 => ?_
        have h10 : -2147483648 ≤ s8.1 137 5 ∧ s8.1 137 5 ≤ 2147483647 := h10
        show wr (d + 4) tb_M24 45 [(1, vi z8), (0, .ref 137)] [vi (s8.1 137 5), .ref 139] s8 _
        refine wr_n (pc2 := 46) (lv2 := [(1, vi z8), (0, .ref 137)]) (st2 := [vi z8, vi (s8.1 137 5), .ref 139]) 1 (fun _ _ => rfl) ?_
        refine wr_ast (a := s8.1 137 5) (z := z8) rfl (by decide) rfl rfl (by omega) (by omega) (by decide) rfl (show -2147483648 ≤ z8 ∧ z8 ≤ 2147483647 by omega) ?_
        show wr (d + 4) tb_M24 47 [(1, vi z8), (0, .ref 137)] [] (up2 s8.1 139 ((s8.1 137 5).toNat) z8, s8.2) _
        have hK11 : KI (up2 s8.1 139 ((s8.1 137 5).toNat) z8) := (KI_up hK8 (n0 rfl (by omega) (by omega)) (kb_no rfl))
        refine wr_n (pc2 := 49) (lv2 := [(1, vi z8), (0, .ref 137)]) (st2 := [.ref 137, .ref 137]) 2 (fun _ _ => rfl) ?_
        refine wr_get (v := vi (s8.1 137 5)) rfl rfl rfl (by decide) rfl fun h12 => ?_
        have h12 : -2147483648 ≤ s8.1 137 5 ∧ s8.1 137 5 ≤ 2147483647 := h12
        show wr (d + 4) tb_M24 52 [(1, vi z8), (0, .ref 137)] [vi (s8.1 137 5), .ref 137] (up2 s8.1 139 ((s8.1 137 5).toNat) z8, s8.2) _
        refine wr_n (pc2 := 53) (lv2 := [(1, vi z8), (0, .ref 137)]) (st2 := [vi 1, vi (s8.1 137 5), .ref 137]) 1 (fun _ _ => rfl) ?_
        refine wr_add (a := s8.1 137 5) (b := 1) rfl ?_
        show wr (d + 4) tb_M24 54 [(1, vi z8), (0, .ref 137)] [vi (s8.1 137 5 + 1), .ref 137] (up2 s8.1 139 ((s8.1 137 5).toNat) z8, s8.2) _
        refine wr_put (z := s8.1 137 5 + 1) rfl rfl rfl rfl (by decide) rfl (by decide) rfl (show -2147483648 ≤ s8.1 137 5 + 1 ∧ s8.1 137 5 + 1 ≤ 2147483647 by omega) (hf_int' _) ?_
        show wr (d + 4) tb_M24 57 [(1, vi z8), (0, .ref 137)] [] (up2 (up2 s8.1 139 ((s8.1 137 5).toNat) z8) 137 5 (s8.1 137 5 + 1), s8.2) _
        have hK13 : KI (up2 (up2 s8.1 139 ((s8.1 137 5).toNat) z8) 137 5 (s8.1 137 5 + 1)) := (KI_up (KI_up hK8 (n0 rfl (by omega) (by omega)) (kb_no rfl)) rfl (kb_no rfl))
        refine wr_n (pc2 := 12) (lv2 := [(1, vi z8), (0, .ref 137)]) (st2 := []) 1 (fun _ _ => rfl) ?_
        obtain ⟨q14, hs14⟩ : ∃ qq9 : rS, qq9 = (up2 (up2 s8.1 139 ((s8.1 137 5).toNat) z8) 137 5 (s8.1 137 5 + 1), s8.2) := ⟨_, rfl⟩
        rw [← hs14]
        have hK14 : KI q14.1 := by rw [hs14]; exact hK13
        have hX14 : FXq C s0.1 q14.1 := by rw [hs14]; exact (FXq_up (FXq_up hX8 (by unfold fxq fx; omega)) (by unfold fxq fx; omega))
        have hC14 : q14.2 = s0.2 := by rw [hs14]; exact hC8
        have hv15 : q14.1 137 5 = s8.1 137 5 + 1 := by rw [hs14]; show (up2 (up2 s8.1 139 ((s8.1 137 5).toNat) z8) 137 5 (s8.1 137 5 + 1)) 137 5 = _; simp [up2]
        clear hs14
        exact ih _ (by omega) z8 q14 rfl hK14 hX14 hC14 (by omega) (by omega) 
set_option maxHeartbeats 20000000 in
set_option maxRecDepth 100000 in
theorem k_scanq {C : Nat} {d : Nat}  (s : rS) (hK : KI s.1)   : cr (d + 5) 24 [.ref 137] s (KVq C s) := by
  refine cr_of (M := tb_M24) rfl (Nat.le_of_ble_eq_true rfl) ?_
  show wr (d + 4) tb_M24 0 [(0, .ref 137)] [] s _
  refine wr_n (pc2 := 2) (lv2 := [(0, .ref 137)]) (st2 := [vi 0, .ref 137]) 2 (fun _ _ => rfl) ?_
  refine wr_put (z := 0) rfl rfl rfl rfl (by decide) rfl (by decide) rfl (show -2147483648 ≤ 0 ∧ 0 ≤ 2147483647 by omega) (hf_int' _) ?_
  show wr (d + 4) tb_M24 5 [(0, .ref 137)] [] (up2 s.1 137 6 0, s.2) _
  have hK1 : KI (up2 s.1 137 6 0) := (KI_up hK rfl (kb_no rfl))
  refine wr_n (pc2 := 9) (lv2 := [(1, vi 1), (0, .ref 137)]) (st2 := [vi 0, .ref 137]) 4 (fun _ _ => rfl) ?_
  refine wr_put (z := 0) rfl rfl rfl rfl (by decide) rfl (by decide) rfl (show -2147483648 ≤ 0 ∧ 0 ≤ 2147483647 by omega) (hf_int' _) ?_
  show wr (d + 4) tb_M24 12 [(1, vi 1), (0, .ref 137)] [] (up2 (up2 s.1 137 6 0) 137 5 0, s.2) _
  have hK2 : KI (up2 (up2 s.1 137 6 0) 137 5 0) := (KI_up (KI_up hK rfl (kb_no rfl)) rfl (kb_no rfl))
  obtain ⟨q3, hs3⟩ : ∃ qq9 : rS, qq9 = (up2 (up2 s.1 137 6 0) 137 5 0, s.2) := ⟨_, rfl⟩
  rw [← hs3]
  have hK3 : KI q3.1 := by rw [hs3]; exact hK2
  have hX3 : FXq C s.1 q3.1 := by rw [hs3]; exact (FXq_up (FXq_up FXq_rf (by unfold fxq fx; omega)) (by unfold fxq fx; omega))
  have hC3 : q3.2 = s.2 := by rw [hs3]
  have hv4 : q3.1 137 5 = 0 := by rw [hs3]; show (up2 (up2 s.1 137 6 0) 137 5 0) 137 5 = _; simp [up2]
  clear hs3
  exact k_scan_12q (C := C)  _ 1 q3 rfl hK3 hX3 hC3 (by omega) (by omega) 
