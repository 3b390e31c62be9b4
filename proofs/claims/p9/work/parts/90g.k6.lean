/-! Our own objects at work. -/
theorem wr_or01 {d pc row : Nat} {M : hm_M} {lv : List (Nat × Value)} {st : List Value} {s : rS} {Q : rS → hm_Out → Prop} {a b : Int} (ho : (hm_Mi M)[pc]? = some (some (.ior, 1, 3, row))) (ha : 0 ≤ a ∧ a ≤ 1) (hb : 0 ≤ b ∧ b ≤ 1) (kk : ∀ z, 0 ≤ z ∧ z ≤ 1 → wr d M (pc + 1) lv (vi z :: st) s Q) : wr d M pc lv (vi b :: vi a :: st) s Q := by
  have ha2 : a = 0 ∨ a = 1 := by omega
  have hb2 : b = 0 ∨ b = 1 := by omega
  rcases ha2 with rfl | rfl <;> rcases hb2 with rfl | rfl
  · exact wr_go (fun call g => by rw [hs_of ho]; rfl) (kk 0 (by omega))
  · exact wr_go (fun call g => by rw [hs_of ho]; rfl) (kk 1 (by omega))
  · exact wr_go (fun call g => by rw [hs_of ho]; rfl) (kk 1 (by omega))
  · exact wr_go (fun call g => by rw [hs_of ho]; rfl) (kk 1 (by omega))
set_option maxHeartbeats 20000000 in
set_option maxRecDepth 100000 in
theorem k_qclear {d : Nat} {Q : Nat} (hQ : isQ Q)  (s : rS) (hK : KI s.1)   : cr (d + 1) 79 [.ref Q] s (KV s) := by
  have hQr : 154 ≤ Q ∧ Q ≤ 168 := by unfold isQ at hQ; omega
  refine cr_of (M := tb_M79) rfl (Nat.le_of_ble_eq_true rfl) ?_
  show wr (d) tb_M79 0 [(0, .ref Q)] [] s _
  refine wr_n (pc2 := 2) (lv2 := [(0, .ref Q)]) (st2 := [vi 0, .ref Q]) 2 (fun _ _ => rfl) ?_
  refine wr_put (z := 0) rfl rfl rfl rfl (show 96 ≤ Q by omega) (TQ0 hQ) (by decide) rfl (show -2147483648 ≤ 0 ∧ 0 ≤ 2147483647 by omega) (hf_int' _) ?_
  show wr d tb_M79 5 [(0, .ref Q)] [] (up2 s.1 Q 1 0, s.2) _
  have hK1 : KI (up2 s.1 Q 1 0) := (KI_up hK (nQ hQ (by omega)) (kb_of (kQ_1 hQ) (show 0 ≤ 0 ∧ 0 ≤ 39 by omega)))
  refine wr_n (pc2 := 7) (lv2 := [(0, .ref Q)]) (st2 := [vi 0, .ref Q]) 2 (fun _ _ => rfl) ?_
  refine wr_put (z := 0) rfl rfl rfl rfl (show 96 ≤ Q by omega) (TQ0 hQ) (by decide) rfl (show -2147483648 ≤ 0 ∧ 0 ≤ 2147483647 by omega) (hf_int' _) ?_
  show wr d tb_M79 10 [(0, .ref Q)] [] (up2 (up2 s.1 Q 1 0) Q 2 0, s.2) _
  have hK2 : KI (up2 (up2 s.1 Q 1 0) Q 2 0) := (KI_up (KI_up hK (nQ hQ (by omega)) (kb_of (kQ_1 hQ) (show 0 ≤ 0 ∧ 0 ≤ 39 by omega))) (nQ hQ (by omega)) (kb_of (kQ_2 hQ) (show 0 ≤ 0 ∧ 0 ≤ 40 by omega)))
  refine wr_end (fun _ _ => rfl) ?_
  exact ⟨hK2, (FX_up (FX_up FX_rf (by unfold fx; omega)) (by unfold fx; omega)), rfl, rfl⟩
set_option maxHeartbeats 20000000 in
set_option maxRecDepth 100000 in
theorem k_qadd {d : Nat} {Q : Nat} (hQ : isQ Q)  {x : Int} (s : rS) (hK : KI s.1) (hx : (-2147483648) ≤ x ∧ x ≤ 2147483647)  : cr (d + 1) 105 [.ref Q, vi x] s (KZ (fun z => True) s) := by
  have hQr : 154 ≤ Q ∧ Q ≤ 168 := by unfold isQ at hQ; omega
  refine cr_of (M := tb_M105) rfl (Nat.le_of_ble_eq_true rfl) ?_
  show wr (d) tb_M105 0 [(0, .ref Q), (1, vi x)] [] s _
  refine wr_n (pc2 := 1) (lv2 := [(0, .ref Q), (1, vi x)]) (st2 := [.ref Q]) 1 (fun _ _ => rfl) ?_
  refine wr_get (v := vi (s.1 Q 2)) rfl rfl (TQ0 hQ) (by decide) rfl fun h1 => ?_
  have h1 : -2147483648 ≤ s.1 Q 2 ∧ s.1 Q 2 ≤ 2147483647 := h1
  show wr d tb_M105 4 [(0, .ref Q), (1, vi x)] [vi (s.1 Q 2)] s _
  have hb2 : 0 ≤ s.1 Q 2 ∧ s.1 Q 2 ≤ 40 := kb_to (kQ_2 hQ) (hK.2 Q 2)
  refine wr_n (pc2 := 6) (lv2 := [(0, .ref Q), (1, vi x)]) (st2 := [vi 40, vi (s.1 Q 2)]) 1 (fun _ _ => rfl) ?_
  by_cases h3 : s.1 Q 2 < 40
  · refine wr_if2t rfl rfl (by unfold i32; omega) (by unfold i32; omega) h3 ?_
    refine wr_n (pc2 := 12) (lv2 := [(0, .ref Q), (1, vi x)]) (st2 := [.ref Q]) 1 (fun _ _ => rfl) ?_
    refine wr_get (v := .ref (Q + 1)) rfl rfl (TQ0 hQ) (by decide) (rv_ref (hK.1 Q 0 (Q + 1) (rQ hQ))) fun h4 => ?_
    show wr d tb_M105 15 [(0, .ref Q), (1, vi x)] [.ref (Q + 1)] s _
    refine wr_n (pc2 := 16) (lv2 := [(0, .ref Q), (1, vi x)]) (st2 := [.ref Q, .ref (Q + 1)]) 1 (fun _ _ => rfl) ?_
    refine wr_get (v := vi (s.1 Q 1)) rfl rfl (TQ0 hQ) (by decide) rfl fun h5 => ?_
    have h5 : -2147483648 ≤ s.1 Q 1 ∧ s.1 Q 1 ≤ 2147483647 := h5
    show wr d tb_M105 19 [(0, .ref Q), (1, vi x)] [vi (s.1 Q 1), .ref (Q + 1)] s _
    have hb6 : 0 ≤ s.1 Q 1 ∧ s.1 Q 1 ≤ 39 := kb_to (kQ_1 hQ) (hK.2 Q 1)
    refine wr_n (pc2 := 20) (lv2 := [(0, .ref Q), (1, vi x)]) (st2 := [.ref Q, vi (s.1 Q 1), .ref (Q + 1)]) 1 (fun _ _ => rfl) ?_
    refine wr_get (v := vi (s.1 Q 2)) rfl rfl (TQ0 hQ) (by decide) rfl fun h7 => ?_
    have h7 : -2147483648 ≤ s.1 Q 2 ∧ s.1 Q 2 ≤ 2147483647 := h7
    show wr d tb_M105 23 [(0, .ref Q), (1, vi x)] [vi (s.1 Q 2), vi (s.1 Q 1), .ref (Q + 1)] s _
    have hb8 : 0 ≤ s.1 Q 2 ∧ s.1 Q 2 ≤ 40 := kb_to (kQ_2 hQ) (hK.2 Q 2)
    refine wr_add (a := s.1 Q 1) (b := s.1 Q 2) rfl ?_
    show wr d tb_M105 24 [(0, .ref Q), (1, vi x)] [vi (s.1 Q 1 + (s.1 Q 2)), .ref (Q + 1)] s _
    refine wr_n (pc2 := 26) (lv2 := [(0, .ref Q), (1, vi x)]) (st2 := [vi 40, vi (s.1 Q 1 + (s.1 Q 2)), .ref (Q + 1)]) 1 (fun _ _ => rfl) ?_
    refine wr_remr (a := s.1 Q 1 + (s.1 Q 2)) (b := 40) rfl (by omega) (by omega) ?_
    obtain ⟨z9, h10⟩ : ∃ qq9 : Int, qq9 = (s.1 Q 1 + (s.1 Q 2)) - (s.1 Q 1 + (s.1 Q 2)) / 40 * 40 := ⟨_, rfl⟩
    rw [← h10]
    replace h10 : 0 ≤ z9 ∧ z9 ≤ 39 := by omega
    show wr d tb_M105 27 [(0, .ref Q), (1, vi x)] [vi z9, .ref (Q + 1)] s _
    refine wr_n (pc2 := 28) (lv2 := [(0, .ref Q), (1, vi x)]) (st2 := [vi x, vi z9, .ref (Q + 1)]) 1 (fun _ _ => rfl) ?_
    refine wr_ast (a := z9) (z := x) rfl (show 96 ≤ Q + 1 by omega) (TQ1 hQ) rfl (by omega) (by omega) (by decide) rfl (show -2147483648 ≤ x ∧ x ≤ 2147483647 by omega) ?_
    show wr d tb_M105 29 [(0, .ref Q), (1, vi x)] [] (up2 s.1 (Q + 1) z9.toNat x, s.2) _
    have hK11 : KI (up2 s.1 (Q + 1) z9.toNat x) := (KI_up hK (nQ1 hQ) (kb_no (kQ1 hQ)))
    refine wr_n (pc2 := 31) (lv2 := [(0, .ref Q), (1, vi x)]) (st2 := [.ref Q, .ref Q]) 2 (fun _ _ => rfl) ?_
    refine wr_get (v := vi (s.1 Q 2)) rfl rfl (TQ0 hQ) (by decide) (by show rv _ ((up2 s.1 (Q + 1) z9.toNat x) Q 2) = _; rw [up_nk (by omega)]; rfl) fun h12 => ?_
    replace h12 : rg _ ((up2 s.1 (Q + 1) z9.toNat x) Q 2) := h12
    rw [up_nk (by omega)] at h12
    have h12 : -2147483648 ≤ s.1 Q 2 ∧ s.1 Q 2 ≤ 2147483647 := h12
    show wr d tb_M105 34 [(0, .ref Q), (1, vi x)] [vi (s.1 Q 2), .ref Q] (up2 s.1 (Q + 1) z9.toNat x, s.2) _
    have hb13 : 0 ≤ s.1 Q 2 ∧ s.1 Q 2 ≤ 40 := kb_to (kQ_2 hQ) (hK.2 Q 2)
    refine wr_n (pc2 := 35) (lv2 := [(0, .ref Q), (1, vi x)]) (st2 := [vi 1, vi (s.1 Q 2), .ref Q]) 1 (fun _ _ => rfl) ?_
    refine wr_add (a := s.1 Q 2) (b := 1) rfl ?_
    show wr d tb_M105 36 [(0, .ref Q), (1, vi x)] [vi (s.1 Q 2 + 1), .ref Q] (up2 s.1 (Q + 1) z9.toNat x, s.2) _
    refine wr_put (z := s.1 Q 2 + 1) rfl rfl rfl rfl (show 96 ≤ Q by omega) (TQ0 hQ) (by decide) rfl (show -2147483648 ≤ s.1 Q 2 + 1 ∧ s.1 Q 2 + 1 ≤ 2147483647 by omega) (hf_int' _) ?_
    show wr d tb_M105 39 [(0, .ref Q), (1, vi x)] [] (up2 (up2 s.1 (Q + 1) z9.toNat x) Q 2 (s.1 Q 2 + 1), s.2) _
    have hK14 : KI (up2 (up2 s.1 (Q + 1) z9.toNat x) Q 2 (s.1 Q 2 + 1)) := (KI_up (KI_up hK (nQ1 hQ) (kb_no (kQ1 hQ))) (nQ hQ (by omega)) (kb_of (kQ_2 hQ) (show 0 ≤ s.1 Q 2 + 1 ∧ s.1 Q 2 + 1 ≤ 40 by omega)))
    refine wr_n (pc2 := 40) (lv2 := [(0, .ref Q), (1, vi x)]) (st2 := [vi 1]) 1 (fun _ _ => rfl) ?_
    refine wr_end (fun _ _ => rfl) ?_
    exact ⟨hK14, (FX_up (FX_up FX_rf (by unfold fx; omega)) (by unfold fx; omega)), rfl, 1, rfl, by unfold i32; omega, trivial⟩
  · refine wr_if2f rfl rfl (by unfold i32; omega) (by unfold i32; omega) h3 ?_
    refine wr_n (pc2 := 10) (lv2 := [(0, .ref Q), (1, vi x)]) (st2 := [vi 0]) 1 (fun _ _ => rfl) ?_
    refine wr_end (fun _ _ => rfl) ?_
    exact ⟨hK, FX_rf, rfl, 0, rfl, by unfold i32; omega, trivial⟩
set_option maxHeartbeats 20000000 in
set_option maxRecDepth 100000 in
theorem k_qremove {d : Nat} {Q : Nat} (hQ : isQ Q)  (s : rS) (hK : KI s.1)   : cr (d + 1) 108 [.ref Q] s (KZ (fun z => True) s) := by
  have hQr : 154 ≤ Q ∧ Q ≤ 168 := by unfold isQ at hQ; omega
  refine cr_of (M := tb_M108) rfl (Nat.le_of_ble_eq_true rfl) ?_
  show wr (d) tb_M108 0 [(0, .ref Q)] [] s _
  refine wr_n (pc2 := 1) (lv2 := [(0, .ref Q)]) (st2 := [.ref Q]) 1 (fun _ _ => rfl) ?_
  refine wr_get (v := vi (s.1 Q 2)) rfl rfl (TQ0 hQ) (by decide) rfl fun h1 => ?_
  have h1 : -2147483648 ≤ s.1 Q 2 ∧ s.1 Q 2 ≤ 2147483647 := h1
  show wr d tb_M108 4 [(0, .ref Q)] [vi (s.1 Q 2)] s _
  have hb2 : 0 ≤ s.1 Q 2 ∧ s.1 Q 2 ≤ 40 := kb_to (kQ_2 hQ) (hK.2 Q 2)
  by_cases h3 : 0 < s.1 Q 2
  · refine wr_if1t rfl rfl (by unfold i32; omega) h3 ?_
    refine wr_n (pc2 := 10) (lv2 := [(0, .ref Q)]) (st2 := [.ref Q]) 1 (fun _ _ => rfl) ?_
    refine wr_get (v := .ref (Q + 1)) rfl rfl (TQ0 hQ) (by decide) (rv_ref (hK.1 Q 0 (Q + 1) (rQ hQ))) fun h4 => ?_
    show wr d tb_M108 13 [(0, .ref Q)] [.ref (Q + 1)] s _
    refine wr_n (pc2 := 14) (lv2 := [(0, .ref Q)]) (st2 := [.ref Q, .ref (Q + 1)]) 1 (fun _ _ => rfl) ?_
    refine wr_get (v := vi (s.1 Q 1)) rfl rfl (TQ0 hQ) (by decide) rfl fun h5 => ?_
    have h5 : -2147483648 ≤ s.1 Q 1 ∧ s.1 Q 1 ≤ 2147483647 := h5
    show wr d tb_M108 17 [(0, .ref Q)] [vi (s.1 Q 1), .ref (Q + 1)] s _
    have hb6 : 0 ≤ s.1 Q 1 ∧ s.1 Q 1 ≤ 39 := kb_to (kQ_1 hQ) (hK.2 Q 1)
    refine wr_ald (a := s.1 Q 1) (v := vi (s.1 (Q + 1) ((s.1 Q 1).toNat))) rfl (TQ1 hQ) rfl (by omega) (by omega) (by decide) rfl fun h7 => ?_
    have h7 : -2147483648 ≤ s.1 (Q + 1) ((s.1 Q 1).toNat) ∧ s.1 (Q + 1) ((s.1 Q 1).toNat) ≤ 2147483647 := h7
    show wr d tb_M108 18 [(0, .ref Q)] [vi (s.1 (Q + 1) ((s.1 Q 1).toNat))] s _
    refine wr_n (pc2 := 21) (lv2 := [(1, vi (s.1 (Q + 1) ((s.1 Q 1).toNat))), (0, .ref Q)]) (st2 := [.ref Q, .ref Q]) 3 (fun _ _ => rfl) ?_
    refine wr_get (v := vi (s.1 Q 1)) rfl rfl (TQ0 hQ) (by decide) rfl fun h8 => ?_
    have h8 : -2147483648 ≤ s.1 Q 1 ∧ s.1 Q 1 ≤ 2147483647 := h8
    show wr d tb_M108 24 [(1, vi (s.1 (Q + 1) ((s.1 Q 1).toNat))), (0, .ref Q)] [vi (s.1 Q 1), .ref Q] s _
    have hb9 : 0 ≤ s.1 Q 1 ∧ s.1 Q 1 ≤ 39 := kb_to (kQ_1 hQ) (hK.2 Q 1)
    refine wr_n (pc2 := 25) (lv2 := [(1, vi (s.1 (Q + 1) ((s.1 Q 1).toNat))), (0, .ref Q)]) (st2 := [vi 1, vi (s.1 Q 1), .ref Q]) 1 (fun _ _ => rfl) ?_
    refine wr_add (a := s.1 Q 1) (b := 1) rfl ?_
    show wr d tb_M108 26 [(1, vi (s.1 (Q + 1) ((s.1 Q 1).toNat))), (0, .ref Q)] [vi (s.1 Q 1 + 1), .ref Q] s _
    refine wr_n (pc2 := 28) (lv2 := [(1, vi (s.1 (Q + 1) ((s.1 Q 1).toNat))), (0, .ref Q)]) (st2 := [vi 40, vi (s.1 Q 1 + 1), .ref Q]) 1 (fun _ _ => rfl) ?_
    refine wr_remr (a := s.1 Q 1 + 1) (b := 40) rfl (by omega) (by omega) ?_
    obtain ⟨z10, h11⟩ : ∃ qq9 : Int, qq9 = (s.1 Q 1 + 1) - (s.1 Q 1 + 1) / 40 * 40 := ⟨_, rfl⟩
    rw [← h11]
    replace h11 : 0 ≤ z10 ∧ z10 ≤ 39 := by omega
    show wr d tb_M108 29 [(1, vi (s.1 (Q + 1) ((s.1 Q 1).toNat))), (0, .ref Q)] [vi z10, .ref Q] s _
    refine wr_put (z := z10) rfl rfl rfl rfl (show 96 ≤ Q by omega) (TQ0 hQ) (by decide) rfl (show -2147483648 ≤ z10 ∧ z10 ≤ 2147483647 by omega) (hf_int' _) ?_
    show wr d tb_M108 32 [(1, vi (s.1 (Q + 1) ((s.1 Q 1).toNat))), (0, .ref Q)] [] (up2 s.1 Q 1 z10, s.2) _
    have hK12 : KI (up2 s.1 Q 1 z10) := (KI_up hK (nQ hQ (by omega)) (kb_of (kQ_1 hQ) (show 0 ≤ z10 ∧ z10 ≤ 39 by omega)))
    refine wr_n (pc2 := 34) (lv2 := [(1, vi (s.1 (Q + 1) ((s.1 Q 1).toNat))), (0, .ref Q)]) (st2 := [.ref Q, .ref Q]) 2 (fun _ _ => rfl) ?_
    refine wr_get (v := vi (s.1 Q 2)) rfl rfl (TQ0 hQ) (by decide) (by show rv _ ((up2 s.1 Q 1 z10) Q 2) = _; rw [up_nj (by decide)]; rfl) fun h13 => ?_
    replace h13 : rg _ ((up2 s.1 Q 1 z10) Q 2) := h13
    rw [up_nj (by decide)] at h13
    have h13 : -2147483648 ≤ s.1 Q 2 ∧ s.1 Q 2 ≤ 2147483647 := h13
    show wr d tb_M108 37 [(1, vi (s.1 (Q + 1) ((s.1 Q 1).toNat))), (0, .ref Q)] [vi (s.1 Q 2), .ref Q] (up2 s.1 Q 1 z10, s.2) _
    have hb14 : 0 ≤ s.1 Q 2 ∧ s.1 Q 2 ≤ 40 := kb_to (kQ_2 hQ) (hK.2 Q 2)
    refine wr_n (pc2 := 38) (lv2 := [(1, vi (s.1 (Q + 1) ((s.1 Q 1).toNat))), (0, .ref Q)]) (st2 := [vi 1, vi (s.1 Q 2), .ref Q]) 1 (fun _ _ => rfl) ?_
    refine wr_sub (a := s.1 Q 2) (b := 1) rfl ?_
    show wr d tb_M108 39 [(1, vi (s.1 (Q + 1) ((s.1 Q 1).toNat))), (0, .ref Q)] [vi ((s.1 Q 2) - 1), .ref Q] (up2 s.1 Q 1 z10, s.2) _
    refine wr_put (z := (s.1 Q 2) - 1) rfl rfl rfl rfl (show 96 ≤ Q by omega) (TQ0 hQ) (by decide) rfl (show -2147483648 ≤ (s.1 Q 2) - 1 ∧ (s.1 Q 2) - 1 ≤ 2147483647 by omega) (hf_int' _) ?_
    show wr d tb_M108 42 [(1, vi (s.1 (Q + 1) ((s.1 Q 1).toNat))), (0, .ref Q)] [] (up2 (up2 s.1 Q 1 z10) Q 2 ((s.1 Q 2) - 1), s.2) _
    have hK15 : KI (up2 (up2 s.1 Q 1 z10) Q 2 ((s.1 Q 2) - 1)) := (KI_up (KI_up hK (nQ hQ (by omega)) (kb_of (kQ_1 hQ) (show 0 ≤ z10 ∧ z10 ≤ 39 by omega))) (nQ hQ (by omega)) (kb_of (kQ_2 hQ) (show 0 ≤ (s.1 Q 2) - 1 ∧ (s.1 Q 2) - 1 ≤ 40 by omega)))
    refine wr_n (pc2 := 43) (lv2 := [(1, vi (s.1 (Q + 1) ((s.1 Q 1).toNat))), (0, .ref Q)]) (st2 := [vi (s.1 (Q + 1) ((s.1 Q 1).toNat))]) 1 (fun _ _ => rfl) ?_
    refine wr_reti rfl rfl ?_
    exact ⟨hK15, (FX_up (FX_up FX_rf (by unfold fx; omega)) (by unfold fx; omega)), rfl, s.1 (Q + 1) ((s.1 Q 1).toNat), rfl, by unfold i32; omega, trivial⟩
  · refine wr_if1f rfl rfl (by unfold i32; omega) h3 ?_
    refine wr_n (pc2 := 8) (lv2 := [(0, .ref Q)]) (st2 := [vi 0]) 1 (fun _ _ => rfl) ?_
    refine wr_end (fun _ _ => rfl) ?_
    exact ⟨hK, FX_rf, rfl, 0, rfl, by unfold i32; omega, trivial⟩
set_option maxHeartbeats 20000000 in
set_option maxRecDepth 100000 in
theorem k_push {d : Nat}  {x : Int} (s : rS) (hK : KI s.1) (hx : (-2147483648) ≤ x ∧ x ≤ 2147483647)  : cr (d + 1) 84 [.ref 142, vi x] s (KV s) := by
  refine cr_of (M := tb_M84) rfl (Nat.le_of_ble_eq_true rfl) ?_
  show wr (d) tb_M84 0 [(0, .ref 142), (1, vi x)] [] s _
  refine wr_n (pc2 := 1) (lv2 := [(0, .ref 142), (1, vi x)]) (st2 := [vi x]) 1 (fun _ _ => rfl) ?_
  by_cases h1 : x < 0
  · refine wr_if1t rfl rfl (by unfold i32; omega) h1 ?_
    refine wr_end (fun _ _ => rfl) ?_
    exact ⟨hK, FX_rf, rfl, rfl⟩
  · refine wr_if1f rfl rfl (by unfold i32; omega) h1 ?_
    refine wr_n (pc2 := 8) (lv2 := [(0, .ref 142), (1, vi x)]) (st2 := [vi 2000, vi x]) 2 (fun _ _ => rfl) ?_
    by_cases h2 : 2000 ≤ x
    · refine wr_if2t rfl rfl (by unfold i32; omega) (by unfold i32; omega) h2 ?_
      refine wr_end (fun _ _ => rfl) ?_
      exact ⟨hK, FX_rf, rfl, rfl⟩
    · refine wr_if2f rfl rfl (by unfold i32; omega) (by unfold i32; omega) h2 ?_
      refine wr_n (pc2 := 12) (lv2 := [(0, .ref 142), (1, vi x)]) (st2 := [.ref 142]) 1 (fun _ _ => rfl) ?_
      refine wr_get (v := vi (s.1 142 6)) rfl rfl rfl (by decide) rfl fun h3 => ?_
      have h3 : -2147483648 ≤ s.1 142 6 ∧ s.1 142 6 ≤ 2147483647 := h3
      show wr d tb_M84 15 [(0, .ref 142), (1, vi x)] [vi (s.1 142 6)] s _
      have hb4 : 0 ≤ s.1 142 6 ∧ s.1 142 6 ≤ 2000 := kb_to rfl (hK.2 142 6)
      by_cases h5 : s.1 142 6 < 0
      · refine wr_if1t rfl rfl (by unfold i32; omega) h5 ?_
        refine wr_end (fun _ _ => rfl) ?_
        exact ⟨hK, FX_rf, rfl, rfl⟩
      · refine wr_if1f rfl rfl (by unfold i32; omega) h5 ?_
        refine wr_n (pc2 := 19) (lv2 := [(0, .ref 142), (1, vi x)]) (st2 := [.ref 142]) 1 (fun _ _ => rfl) ?_
        refine wr_get (v := vi (s.1 142 6)) rfl rfl rfl (by decide) rfl fun h6 => ?_
        have h6 : -2147483648 ≤ s.1 142 6 ∧ s.1 142 6 ≤ 2147483647 := h6
        show wr d tb_M84 22 [(0, .ref 142), (1, vi x)] [vi (s.1 142 6)] s _
        have hb7 : 0 ≤ s.1 142 6 ∧ s.1 142 6 ≤ 2000 := kb_to rfl (hK.2 142 6)
        refine wr_n (pc2 := 25) (lv2 := [(0, .ref 142), (1, vi x)]) (st2 := [vi 2000, vi (s.1 142 6)]) 1 (fun _ _ => rfl) ?_
        by_cases h8 : 2000 ≤ s.1 142 6
        · refine wr_if2t rfl rfl (by unfold i32; omega) (by unfold i32; omega) h8 ?_
          refine wr_end (fun _ _ => rfl) ?_
          exact ⟨hK, FX_rf, rfl, rfl⟩
        · refine wr_if2f rfl rfl (by unfold i32; omega) (by unfold i32; omega) h8 ?_
          refine wr_n (pc2 := 29) (lv2 := [(0, .ref 142), (1, vi x)]) (st2 := [.ref 142]) 1 (fun _ _ => rfl) ?_
          refine wr_get (v := .ref 147) rfl rfl rfl (by decide) (rv_ref (hK.1 142 5 147 rfl)) fun h9 => ?_
          show wr d tb_M84 32 [(0, .ref 142), (1, vi x)] [.ref 147] s _
          refine wr_n (pc2 := 33) (lv2 := [(0, .ref 142), (1, vi x)]) (st2 := [.ref 142, .ref 147]) 1 (fun _ _ => rfl) ?_
          refine wr_get (v := vi (s.1 142 6)) rfl rfl rfl (by decide) rfl fun h10 => ?_
          have h10 : -2147483648 ≤ s.1 142 6 ∧ s.1 142 6 ≤ 2147483647 := h10
          show wr d tb_M84 36 [(0, .ref 142), (1, vi x)] [vi (s.1 142 6), .ref 147] s _
          have hb11 : 0 ≤ s.1 142 6 ∧ s.1 142 6 ≤ 2000 := kb_to rfl (hK.2 142 6)
          refine wr_n (pc2 := 37) (lv2 := [(0, .ref 142), (1, vi x)]) (st2 := [vi x, vi (s.1 142 6), .ref 147]) 1 (fun _ _ => rfl) ?_
          refine wr_ast (a := s.1 142 6) (z := x) rfl (by decide) rfl rfl (by omega) (by omega) (by decide) rfl (show -2147483648 ≤ x ∧ x ≤ 2147483647 by omega) ?_
          show wr d tb_M84 38 [(0, .ref 142), (1, vi x)] [] (up2 s.1 147 ((s.1 142 6).toNat) x, s.2) _
          have hK12 : KI (up2 s.1 147 ((s.1 142 6).toNat) x) := (KI_up hK (n0 rfl (by omega) (by omega)) (kb_of rfl (show 0 ≤ x ∧ x ≤ 1999 by omega)))
          refine wr_n (pc2 := 40) (lv2 := [(0, .ref 142), (1, vi x)]) (st2 := [.ref 142, .ref 142]) 2 (fun _ _ => rfl) ?_
          refine wr_get (v := vi (s.1 142 6)) rfl rfl rfl (by decide) rfl fun h13 => ?_
          have h13 : -2147483648 ≤ s.1 142 6 ∧ s.1 142 6 ≤ 2147483647 := h13
          show wr d tb_M84 43 [(0, .ref 142), (1, vi x)] [vi (s.1 142 6), .ref 142] (up2 s.1 147 ((s.1 142 6).toNat) x, s.2) _
          have hb14 : 0 ≤ s.1 142 6 ∧ s.1 142 6 ≤ 2000 := kb_to rfl (hK.2 142 6)
          refine wr_n (pc2 := 44) (lv2 := [(0, .ref 142), (1, vi x)]) (st2 := [vi 1, vi (s.1 142 6), .ref 142]) 1 (fun _ _ => rfl) ?_
          refine wr_add (a := s.1 142 6) (b := 1) rfl ?_
          show wr d tb_M84 45 [(0, .ref 142), (1, vi x)] [vi (s.1 142 6 + 1), .ref 142] (up2 s.1 147 ((s.1 142 6).toNat) x, s.2) _
          refine wr_put (z := s.1 142 6 + 1) rfl rfl rfl rfl (by decide) rfl (by decide) rfl (show -2147483648 ≤ s.1 142 6 + 1 ∧ s.1 142 6 + 1 ≤ 2147483647 by omega) (hf_int' _) ?_
          show wr d tb_M84 48 [(0, .ref 142), (1, vi x)] [] (up2 (up2 s.1 147 ((s.1 142 6).toNat) x) 142 6 (s.1 142 6 + 1), s.2) _
          have hK15 : KI (up2 (up2 s.1 147 ((s.1 142 6).toNat) x) 142 6 (s.1 142 6 + 1)) := (KI_up (KI_up hK (n0 rfl (by omega) (by omega)) (kb_of rfl (show 0 ≤ x ∧ x ≤ 1999 by omega))) rfl (kb_of rfl (show 0 ≤ s.1 142 6 + 1 ∧ s.1 142 6 + 1 ≤ 2000 by omega)))
          refine wr_end (fun _ _ => rfl) ?_
          exact ⟨hK15, (FX_up (FX_up FX_rf (by unfold fx; omega)) (by unfold fx; omega)), rfl, rfl⟩
set_option maxHeartbeats 20000000 in
set_option maxRecDepth 100000 in
theorem k_ask {d : Nat} {C : Nat} (hC : C = 99 ∨ C = 115)  {x y : Int} (s : rS) (hK : KI s.1) (hq : s.1 142 0 = (C : Int)) (hx : (-2147483648) ≤ x ∧ x ≤ 2147483647) (hy : (-2147483648) ≤ y ∧ y ≤ 2147483647)  : cr (d + 2) 83 [.ref 142, vi x, vi y] s (KV s) := by
  refine cr_of (M := tb_M83) rfl (Nat.le_of_ble_eq_true rfl) ?_
  show wr (d + 1) tb_M83 0 [(0, .ref 142), (1, vi x), (2, vi y)] [] s _
  refine wr_n (pc2 := 1) (lv2 := [(0, .ref 142), (1, vi x), (2, vi y)]) (st2 := [.ref 142]) 1 (fun _ _ => rfl) ?_
  refine wr_get (v := .ref C) rfl rfl rfl (by decide) (rv_ref (show (s.1) 142 0 = ((C : Nat) : Int) from hq)) fun h1 => ?_
  show wr (d + 1) tb_M83 4 [(0, .ref 142), (1, vi x), (2, vi y)] [.ref C] s _
  refine wr_n (pc2 := 5) (lv2 := [(0, .ref 142), (1, vi x), (2, vi y)]) (st2 := [vi x, .ref C]) 1 (fun _ _ => rfl) ?_
  refine wr_call1 (args := [vi x]) (rest := []) rfl rfl rfl (TK0 hC) (Nat.le_of_ble_eq_true rfl) (cr_mono (k_has (d := d + 0) (C := C) hC (x := x) s hK (by omega)) ?_)
  rintro s2 out ⟨z2, rfl, hz2, hp2, e2⟩
  refine ⟨_, rfl, ?_⟩
  rw [e2]
  unfold i32 at hz2
  replace hp2 : z2 = 0 ∨ z2 = 1 ∧ 0 ≤ x ∧ x ≤ 1999 := hp2
  show wr (d + 1) tb_M83 8 [(0, .ref 142), (1, vi x), (2, vi y)] [vi z2] s _
  by_cases h3 : z2 = 0
  · refine wr_if1t rfl rfl (by unfold i32; omega) h3 ?_
    refine wr_end (fun _ _ => rfl) ?_
    exact ⟨hK, FX_rf, rfl, rfl⟩
  · refine wr_if1f rfl rfl (by unfold i32; omega) h3 ?_
    refine wr_n (pc2 := 12) (lv2 := [(0, .ref 142), (1, vi x), (2, vi y)]) (st2 := [.ref 142]) 1 (fun _ _ => rfl) ?_
    refine wr_get (v := .ref 143) rfl rfl rfl (by decide) (rv_ref (hK.1 142 1 143 rfl)) fun h4 => ?_
    show wr (d + 1) tb_M83 15 [(0, .ref 142), (1, vi x), (2, vi y)] [.ref 143] s _
    refine wr_n (pc2 := 17) (lv2 := [(0, .ref 142), (1, vi x), (2, vi y)]) (st2 := [vi y, vi x, .ref 143]) 2 (fun _ _ => rfl) ?_
    refine wr_ast (a := x) (z := y) rfl (by decide) rfl rfl (by omega) (by omega) (by decide) rfl (show -2147483648 ≤ y ∧ y ≤ 2147483647 by omega) ?_
    show wr (d + 1) tb_M83 18 [(0, .ref 142), (1, vi x), (2, vi y)] [] (up2 s.1 143 x.toNat y, s.2) _
    have hK5 : KI (up2 s.1 143 x.toNat y) := (KI_up hK (n0 rfl (by omega) (by omega)) (kb_no rfl))
    refine wr_n (pc2 := 19) (lv2 := [(0, .ref 142), (1, vi x), (2, vi y)]) (st2 := [.ref 142]) 1 (fun _ _ => rfl) ?_
    refine wr_get (v := .ref 144) rfl rfl rfl (by decide) (rv_ref (hK5.1 142 2 144 rfl)) fun h6 => ?_
    show wr (d + 1) tb_M83 22 [(0, .ref 142), (1, vi x), (2, vi y)] [.ref 144] (up2 s.1 143 x.toNat y, s.2) _
    refine wr_n (pc2 := 24) (lv2 := [(0, .ref 142), (1, vi x), (2, vi y)]) (st2 := [vi ((-1)), vi x, .ref 144]) 2 (fun _ _ => rfl) ?_
    refine wr_ast (a := x) (z := (-1)) rfl (by decide) rfl rfl (by omega) (by omega) (by decide) rfl (show -2147483648 ≤ (-1) ∧ (-1) ≤ 2147483647 by omega) ?_
    show wr (d + 1) tb_M83 25 [(0, .ref 142), (1, vi x), (2, vi y)] [] (up2 (up2 s.1 143 x.toNat y) 144 x.toNat ((-1)), s.2) _
    have hK7 : KI (up2 (up2 s.1 143 x.toNat y) 144 x.toNat ((-1))) := (KI_up (KI_up hK (n0 rfl (by omega) (by omega)) (kb_no rfl)) (n0 rfl (by omega) (by omega)) (kb_no rfl))
    refine wr_n (pc2 := 27) (lv2 := [(0, .ref 142), (1, vi x), (2, vi y)]) (st2 := [vi x, .ref 142]) 2 (fun _ _ => rfl) ?_
    refine wr_call1 (args := [vi x]) (rest := []) rfl rfl rfl rfl (Nat.le_of_ble_eq_true rfl) (cr_mono (k_push (d := d + 0) (x := x) (up2 (up2 s.1 143 x.toNat y) 144 x.toNat ((-1)), s.2) hK7 (by omega)) ?_)
    rintro s8 out ⟨hK8, hY8, hc8, rfl⟩
    refine ⟨_, rfl, ?_⟩
    have hX8 : FX s.1 s8.1 := FX_tr (FX_up (FX_up FX_rf (by unfold fx; omega)) (by unfold fx; omega)) hY8
    have hC8 : s8.2 = s.2 := hc8.trans rfl
    have hq8 : s8.1 142 0 = (C : Int) := (hY8 142 0 (by unfold fx; omega)).trans (show (up2 (up2 s.1 143 x.toNat y) 144 x.toNat ((-1))) 142 0 = ((C : Nat) : Int) from ((if_neg (by omega)).trans ((if_neg (by omega)).trans hq)))
    show wr (d + 1) tb_M83 30 [(0, .ref 142), (1, vi x), (2, vi y)] [] s8 _
    refine wr_end (fun _ _ => rfl) ?_
    exact ⟨hK8, hX8, hC8, rfl⟩
set_option maxHeartbeats 20000000 in
set_option maxRecDepth 100000 in
theorem k_tell {d : Nat} {C : Nat} (hC : C = 99 ∨ C = 115)  {x y : Int} (s : rS) (hK : KI s.1) (hq : s.1 142 0 = (C : Int)) (hx : (-2147483648) ≤ x ∧ x ≤ 2147483647) (hy : (-2147483648) ≤ y ∧ y ≤ 2147483647)  : cr (d + 2) 88 [.ref 142, vi x, vi y] s (KV s) := by
  refine cr_of (M := tb_M88) rfl (Nat.le_of_ble_eq_true rfl) ?_
  show wr (d + 1) tb_M88 0 [(0, .ref 142), (1, vi x), (2, vi y)] [] s _
  refine wr_n (pc2 := 1) (lv2 := [(0, .ref 142), (1, vi x), (2, vi y)]) (st2 := [.ref 142]) 1 (fun _ _ => rfl) ?_
  refine wr_get (v := .ref C) rfl rfl rfl (by decide) (rv_ref (show (s.1) 142 0 = ((C : Nat) : Int) from hq)) fun h1 => ?_
  show wr (d + 1) tb_M88 4 [(0, .ref 142), (1, vi x), (2, vi y)] [.ref C] s _
  refine wr_n (pc2 := 5) (lv2 := [(0, .ref 142), (1, vi x), (2, vi y)]) (st2 := [vi x, .ref C]) 1 (fun _ _ => rfl) ?_
  refine wr_call1 (args := [vi x]) (rest := []) rfl rfl rfl (TK0 hC) (Nat.le_of_ble_eq_true rfl) (cr_mono (k_has (d := d + 0) (C := C) hC (x := x) s hK (by omega)) ?_)
  rintro s2 out ⟨z2, rfl, hz2, hp2, e2⟩
  refine ⟨_, rfl, ?_⟩
  rw [e2]
  unfold i32 at hz2
  replace hp2 : z2 = 0 ∨ z2 = 1 ∧ 0 ≤ x ∧ x ≤ 1999 := hp2
  show wr (d + 1) tb_M88 8 [(0, .ref 142), (1, vi x), (2, vi y)] [vi z2] s _
  by_cases h3 : z2 = 0
  · refine wr_if1t rfl rfl (by unfold i32; omega) h3 ?_
    refine wr_end (fun _ _ => rfl) ?_
    exact ⟨hK, FX_rf, rfl, rfl⟩
  · refine wr_if1f rfl rfl (by unfold i32; omega) h3 ?_
    refine wr_n (pc2 := 12) (lv2 := [(0, .ref 142), (1, vi x), (2, vi y)]) (st2 := [.ref 142]) 1 (fun _ _ => rfl) ?_
    refine wr_get (v := .ref 145) rfl rfl rfl (by decide) (rv_ref (hK.1 142 3 145 rfl)) fun h4 => ?_
    show wr (d + 1) tb_M88 15 [(0, .ref 142), (1, vi x), (2, vi y)] [.ref 145] s _
    refine wr_n (pc2 := 17) (lv2 := [(0, .ref 142), (1, vi x), (2, vi y)]) (st2 := [vi y, vi x, .ref 145]) 2 (fun _ _ => rfl) ?_
    refine wr_ast (a := x) (z := y) rfl (by decide) rfl rfl (by omega) (by omega) (by decide) rfl (show -2147483648 ≤ y ∧ y ≤ 2147483647 by omega) ?_
    show wr (d + 1) tb_M88 18 [(0, .ref 142), (1, vi x), (2, vi y)] [] (up2 s.1 145 x.toNat y, s.2) _
    have hK5 : KI (up2 s.1 145 x.toNat y) := (KI_up hK (n0 rfl (by omega) (by omega)) (kb_no rfl))
    refine wr_n (pc2 := 20) (lv2 := [(0, .ref 142), (1, vi x), (2, vi y)]) (st2 := [.ref 142, .ref 142]) 2 (fun _ _ => rfl) ?_
    refine wr_get (v := vi (s.1 142 13)) rfl rfl rfl (by decide) rfl fun h6 => ?_
    have h6 : 0 ≤ s.1 142 13 ∧ s.1 142 13 ≤ 1 := h6
    show wr (d + 1) tb_M88 23 [(0, .ref 142), (1, vi x), (2, vi y)] [vi (s.1 142 13), .ref 142] (up2 s.1 145 x.toNat y, s.2) _
    refine wr_n (pc2 := 24) (lv2 := [(0, .ref 142), (1, vi x), (2, vi y)]) (st2 := [.ref 142, vi (s.1 142 13), .ref 142]) 1 (fun _ _ => rfl) ?_
    refine wr_get (v := .ref 143) rfl rfl rfl (by decide) (rv_ref (hK5.1 142 1 143 rfl)) fun h7 => ?_
    show wr (d + 1) tb_M88 27 [(0, .ref 142), (1, vi x), (2, vi y)] [.ref 143, vi (s.1 142 13), .ref 142] (up2 s.1 145 x.toNat y, s.2) _
    refine wr_n (pc2 := 28) (lv2 := [(0, .ref 142), (1, vi x), (2, vi y)]) (st2 := [vi x, .ref 143, vi (s.1 142 13), .ref 142]) 1 (fun _ _ => rfl) ?_
    refine wr_ald (a := x) (v := vi (s.1 143 x.toNat)) rfl rfl rfl (by omega) (by omega) (by decide) rfl fun h8 => ?_
    have h8 : -2147483648 ≤ s.1 143 x.toNat ∧ s.1 143 x.toNat ≤ 2147483647 := h8
    show wr (d + 1) tb_M88 29 [(0, .ref 142), (1, vi x), (2, vi y)] [vi (s.1 143 x.toNat), vi (s.1 142 13), .ref 142] (up2 s.1 145 x.toNat y, s.2) _
    by_cases h9 : 0 ≤ s.1 143 x.toNat
    · refine wr_if1t rfl rfl (by unfold i32; omega) h9 ?_
      refine wr_n (pc2 := 37) (lv2 := [(0, .ref 142), (1, vi x), (2, vi y)]) (st2 := [vi 0, vi (s.1 142 13), .ref 142]) 1 (fun _ _ => rfl) ?_
      refine wr_or01 (a := s.1 142 13) (b := 0) rfl (by omega) (by omega) fun z10 h11 => ?_
      show wr (d + 1) tb_M88 38 [(0, .ref 142), (1, vi x), (2, vi y)] [vi z10, .ref 142] (up2 s.1 145 x.toNat y, s.2) _
      refine wr_put (z := z10) rfl rfl rfl rfl (by decide) rfl (by decide) rfl (show 0 ≤ z10 ∧ z10 ≤ 1 by omega) (fit_i (.inr (.inl rfl)) (show 0 ≤ z10 ∧ z10 ≤ 1 by omega)) ?_
      show wr (d + 1) tb_M88 41 [(0, .ref 142), (1, vi x), (2, vi y)] [] (up2 (up2 s.1 145 x.toNat y) 142 13 z10, s.2) _
      have hK12 : KI (up2 (up2 s.1 145 x.toNat y) 142 13 z10) := (KI_up (KI_up hK (n0 rfl (by omega) (by omega)) (kb_no rfl)) rfl (kb_no rfl))
      refine wr_n (pc2 := 43) (lv2 := [(0, .ref 142), (1, vi x), (2, vi y)]) (st2 := [.ref 142, .ref 142]) 2 (fun _ _ => rfl) ?_
      refine wr_get (v := .ref 143) rfl rfl rfl (by decide) (rv_ref (hK12.1 142 1 143 rfl)) fun h13 => ?_
      show wr (d + 1) tb_M88 46 [(0, .ref 142), (1, vi x), (2, vi y)] [.ref 143, .ref 142] (up2 (up2 s.1 145 x.toNat y) 142 13 z10, s.2) _
      refine wr_n (pc2 := 47) (lv2 := [(0, .ref 142), (1, vi x), (2, vi y)]) (st2 := [vi x, .ref 143, .ref 142]) 1 (fun _ _ => rfl) ?_
      refine wr_ald (a := x) (v := vi (s.1 143 x.toNat)) rfl rfl rfl (by omega) (by omega) (by decide) rfl fun h14 => ?_
      have h14 : -2147483648 ≤ s.1 143 x.toNat ∧ s.1 143 x.toNat ≤ 2147483647 := h14
      show wr (d + 1) tb_M88 48 [(0, .ref 142), (1, vi x), (2, vi y)] [vi (s.1 143 x.toNat), .ref 142] (up2 (up2 s.1 145 x.toNat y) 142 13 z10, s.2) _
      refine wr_call1 (args := [vi (s.1 143 x.toNat)]) (rest := []) rfl rfl rfl rfl (Nat.le_of_ble_eq_true rfl) (cr_mono (k_push (d := d + 0) (x := s.1 143 x.toNat) (up2 (up2 s.1 145 x.toNat y) 142 13 z10, s.2) hK12 (by omega)) ?_)
      rintro s15 out ⟨hK15, hY15, hc15, rfl⟩
      refine ⟨_, rfl, ?_⟩
      have hX15 : FX s.1 s15.1 := FX_tr (FX_up (FX_up FX_rf (by unfold fx; omega)) (by unfold fx; omega)) hY15
      have hC15 : s15.2 = s.2 := hc15.trans rfl
      have hq15 : s15.1 142 0 = (C : Int) := (hY15 142 0 (by unfold fx; omega)).trans (show (up2 (up2 s.1 145 x.toNat y) 142 13 z10) 142 0 = ((C : Nat) : Int) from ((if_neg (by omega)).trans ((if_neg (by omega)).trans hq)))
      show wr (d + 1) tb_M88 51 [(0, .ref 142), (1, vi x), (2, vi y)] [] s15 _
      refine wr_end (fun _ _ => rfl) ?_
      exact ⟨hK15, hX15, hC15, rfl⟩
    · refine wr_if1f rfl rfl (by unfold i32; omega) h9 ?_
      refine wr_n (pc2 := 37) (lv2 := [(0, .ref 142), (1, vi x), (2, vi y)]) (st2 := [vi 1, vi (s.1 142 13), .ref 142]) 2 (fun _ _ => rfl) ?_
      refine wr_or01 (a := s.1 142 13) (b := 1) rfl (by omega) (by omega) fun z16 h17 => ?_
      show wr (d + 1) tb_M88 38 [(0, .ref 142), (1, vi x), (2, vi y)] [vi z16, .ref 142] (up2 s.1 145 x.toNat y, s.2) _
      refine wr_put (z := z16) rfl rfl rfl rfl (by decide) rfl (by decide) rfl (show 0 ≤ z16 ∧ z16 ≤ 1 by omega) (fit_i (.inr (.inl rfl)) (show 0 ≤ z16 ∧ z16 ≤ 1 by omega)) ?_
      show wr (d + 1) tb_M88 41 [(0, .ref 142), (1, vi x), (2, vi y)] [] (up2 (up2 s.1 145 x.toNat y) 142 13 z16, s.2) _
      have hK18 : KI (up2 (up2 s.1 145 x.toNat y) 142 13 z16) := (KI_up (KI_up hK (n0 rfl (by omega) (by omega)) (kb_no rfl)) rfl (kb_no rfl))
      refine wr_n (pc2 := 43) (lv2 := [(0, .ref 142), (1, vi x), (2, vi y)]) (st2 := [.ref 142, .ref 142]) 2 (fun _ _ => rfl) ?_
      refine wr_get (v := .ref 143) rfl rfl rfl (by decide) (rv_ref (hK18.1 142 1 143 rfl)) fun h19 => ?_
      show wr (d + 1) tb_M88 46 [(0, .ref 142), (1, vi x), (2, vi y)] [.ref 143, .ref 142] (up2 (up2 s.1 145 x.toNat y) 142 13 z16, s.2) _
      refine wr_n (pc2 := 47) (lv2 := [(0, .ref 142), (1, vi x), (2, vi y)]) (st2 := [vi x, .ref 143, .ref 142]) 1 (fun _ _ => rfl) ?_
      refine wr_ald (a := x) (v := vi (s.1 143 x.toNat)) rfl rfl rfl (by omega) (by omega) (by decide) rfl fun h20 => ?_
      have h20 : -2147483648 ≤ s.1 143 x.toNat ∧ s.1 143 x.toNat ≤ 2147483647 := h20
      show wr (d + 1) tb_M88 48 [(0, .ref 142), (1, vi x), (2, vi y)] [vi (s.1 143 x.toNat), .ref 142] (up2 (up2 s.1 145 x.toNat y) 142 13 z16, s.2) _
      refine wr_call1 (args := [vi (s.1 143 x.toNat)]) (rest := []) rfl rfl rfl rfl (Nat.le_of_ble_eq_true rfl) (cr_mono (k_push (d := d + 0) (x := s.1 143 x.toNat) (up2 (up2 s.1 145 x.toNat y) 142 13 z16, s.2) hK18 (by omega)) ?_)
      rintro s21 out ⟨hK21, hY21, hc21, rfl⟩
      refine ⟨_, rfl, ?_⟩
      have hX21 : FX s.1 s21.1 := FX_tr (FX_up (FX_up FX_rf (by unfold fx; omega)) (by unfold fx; omega)) hY21
      have hC21 : s21.2 = s.2 := hc21.trans rfl
      have hq21 : s21.1 142 0 = (C : Int) := (hY21 142 0 (by unfold fx; omega)).trans (show (up2 (up2 s.1 145 x.toNat y) 142 13 z16) 142 0 = ((C : Nat) : Int) from ((if_neg (by omega)).trans ((if_neg (by omega)).trans hq)))
      show wr (d + 1) tb_M88 51 [(0, .ref 142), (1, vi x), (2, vi y)] [] s21 _
      refine wr_end (fun _ _ => rfl) ?_
      exact ⟨hK21, hX21, hC21, rfl⟩
set_option maxHeartbeats 20000000 in
set_option maxRecDepth 100000 in
theorem k_variable {d : Nat}  {x : Int} (s : rS) (hK : KI s.1) (hx : (-2147483648) ≤ x ∧ x ≤ 2147483647)  : cr (d + 1) 89 [.ref 142, vi x] s (PZ (fun z => True) s) := by
  refine cr_of (M := tb_M89) rfl (Nat.le_of_ble_eq_true rfl) ?_
  show wr (d) tb_M89 0 [(0, .ref 142), (1, vi x)] [] s _
  refine wr_n (pc2 := 1) (lv2 := [(0, .ref 142), (1, vi x)]) (st2 := [vi x]) 1 (fun _ _ => rfl) ?_
  by_cases h1 : x < 0
  · refine wr_if1t rfl rfl (by unfold i32; omega) h1 ?_
    refine wr_n (pc2 := 20) (lv2 := [(0, .ref 142), (1, vi x)]) (st2 := [vi 0]) 1 (fun _ _ => rfl) ?_
    refine wr_end (fun _ _ => rfl) ?_
    exact ⟨0, rfl, by unfold i32; omega, trivial, rfl⟩
  · refine wr_if1f rfl rfl (by unfold i32; omega) h1 ?_
    refine wr_n (pc2 := 7) (lv2 := [(0, .ref 142), (1, vi x)]) (st2 := [vi 24, vi x]) 2 (fun _ _ => rfl) ?_
    by_cases h2 : 24 ≤ x
    · refine wr_if2t rfl rfl (by unfold i32; omega) (by unfold i32; omega) h2 ?_
      refine wr_n (pc2 := 20) (lv2 := [(0, .ref 142), (1, vi x)]) (st2 := [vi 0]) 1 (fun _ _ => rfl) ?_
      refine wr_end (fun _ _ => rfl) ?_
      exact ⟨0, rfl, by unfold i32; omega, trivial, rfl⟩
    · refine wr_if2f rfl rfl (by unfold i32; omega) (by unfold i32; omega) h2 ?_
      refine wr_n (pc2 := 11) (lv2 := [(0, .ref 142), (1, vi x)]) (st2 := [.ref 142]) 1 (fun _ _ => rfl) ?_
      refine wr_get (v := .ref 148) rfl rfl rfl (by decide) (rv_ref (hK.1 142 7 148 rfl)) fun h3 => ?_
      show wr d tb_M89 14 [(0, .ref 142), (1, vi x)] [.ref 148] s _
      refine wr_n (pc2 := 15) (lv2 := [(0, .ref 142), (1, vi x)]) (st2 := [vi x, .ref 148]) 1 (fun _ _ => rfl) ?_
      refine wr_ald (a := x) (v := vi (s.1 148 x.toNat)) rfl rfl rfl (by omega) (by omega) (by decide) rfl fun h4 => ?_
      have h4 : -2147483648 ≤ s.1 148 x.toNat ∧ s.1 148 x.toNat ≤ 2147483647 := h4
      show wr d tb_M89 16 [(0, .ref 142), (1, vi x)] [vi (s.1 148 x.toNat)] s _
      refine wr_n (pc2 := 20) (lv2 := [(0, .ref 142), (1, vi x)]) (st2 := [vi (s.1 148 x.toNat)]) 1 (fun _ _ => rfl) ?_
      refine wr_reti rfl rfl ?_
      exact ⟨s.1 148 x.toNat, rfl, by unfold i32; omega, trivial, rfl⟩
set_option maxHeartbeats 20000000 in
set_option maxRecDepth 100000 in
theorem k_val {d : Nat} {C : Nat} (hC : C = 99 ∨ C = 115)  {x : Int} (s : rS) (hK : KI s.1) (hq : s.1 142 0 = (C : Int)) (hx : (-2147483648) ≤ x ∧ x ≤ 2147483647)  : cr (d + 2) 90 [.ref 142, vi x] s (PZ (fun z => True) s) := by
  refine cr_of (M := tb_M90) rfl (Nat.le_of_ble_eq_true rfl) ?_
  show wr (d + 1) tb_M90 0 [(0, .ref 142), (1, vi x)] [] s _
  refine wr_n (pc2 := 1) (lv2 := [(0, .ref 142), (1, vi x)]) (st2 := [.ref 142]) 1 (fun _ _ => rfl) ?_
  refine wr_get (v := .ref C) rfl rfl rfl (by decide) (rv_ref (show (s.1) 142 0 = ((C : Nat) : Int) from hq)) fun h1 => ?_
  show wr (d + 1) tb_M90 4 [(0, .ref 142), (1, vi x)] [.ref C] s _
  refine wr_n (pc2 := 5) (lv2 := [(0, .ref 142), (1, vi x)]) (st2 := [vi x, .ref C]) 1 (fun _ _ => rfl) ?_
  refine wr_call1 (args := [vi x]) (rest := []) rfl rfl rfl (TK0 hC) (Nat.le_of_ble_eq_true rfl) (cr_mono (k_has (d := d + 0) (C := C) hC (x := x) s hK (by omega)) ?_)
  rintro s2 out ⟨z2, rfl, hz2, hp2, e2⟩
  refine ⟨_, rfl, ?_⟩
  rw [e2]
  unfold i32 at hz2
  replace hp2 : z2 = 0 ∨ z2 = 1 ∧ 0 ≤ x ∧ x ≤ 1999 := hp2
  show wr (d + 1) tb_M90 8 [(0, .ref 142), (1, vi x)] [vi z2] s _
  by_cases h3 : z2 = 0
  · refine wr_if1t rfl rfl (by unfold i32; omega) h3 ?_
    refine wr_n (pc2 := 21) (lv2 := [(0, .ref 142), (1, vi x)]) (st2 := [vi 0]) 1 (fun _ _ => rfl) ?_
    refine wr_end (fun _ _ => rfl) ?_
    exact ⟨0, rfl, by unfold i32; omega, trivial, rfl⟩
  · refine wr_if1f rfl rfl (by unfold i32; omega) h3 ?_
    refine wr_n (pc2 := 12) (lv2 := [(0, .ref 142), (1, vi x)]) (st2 := [.ref 142]) 1 (fun _ _ => rfl) ?_
    refine wr_get (v := .ref 145) rfl rfl rfl (by decide) (rv_ref (hK.1 142 3 145 rfl)) fun h4 => ?_
    show wr (d + 1) tb_M90 15 [(0, .ref 142), (1, vi x)] [.ref 145] s _
    refine wr_n (pc2 := 16) (lv2 := [(0, .ref 142), (1, vi x)]) (st2 := [vi x, .ref 145]) 1 (fun _ _ => rfl) ?_
    refine wr_ald (a := x) (v := vi (s.1 145 x.toNat)) rfl rfl rfl (by omega) (by omega) (by decide) rfl fun h5 => ?_
    have h5 : -2147483648 ≤ s.1 145 x.toNat ∧ s.1 145 x.toNat ≤ 2147483647 := h5
    show wr (d + 1) tb_M90 17 [(0, .ref 142), (1, vi x)] [vi (s.1 145 x.toNat)] s _
    refine wr_n (pc2 := 21) (lv2 := [(0, .ref 142), (1, vi x)]) (st2 := [vi (s.1 145 x.toNat)]) 1 (fun _ _ => rfl) ?_
    refine wr_reti rfl rfl ?_
    exact ⟨s.1 145 x.toNat, rfl, by unfold i32; omega, trivial, rfl⟩
set_option maxHeartbeats 20000000 in
set_option maxRecDepth 100000 in
theorem k_item {d : Nat} {C : Nat} (hC : C = 99 ∨ C = 115)  {x y : Int} (s : rS) (hK : KI s.1) (hq : s.1 142 0 = (C : Int)) (hx : (-2147483648) ≤ x ∧ x ≤ 2147483647) (hy : (-2147483648) ≤ y ∧ y ≤ 2147483647)  : cr (d + 2) 93 [.ref 142, vi x, vi y] s (PZ (fun z => True) s) := by
  refine cr_of (M := tb_M93) rfl (Nat.le_of_ble_eq_true rfl) ?_
  show wr (d + 1) tb_M93 0 [(0, .ref 142), (1, vi x), (2, vi y)] [] s _
  refine wr_n (pc2 := 1) (lv2 := [(0, .ref 142), (1, vi x), (2, vi y)]) (st2 := [vi x]) 1 (fun _ _ => rfl) ?_
  by_cases h1 : x < 0
  · refine wr_if1t rfl rfl (by unfold i32; omega) h1 ?_
    refine wr_n (pc2 := 11) (lv2 := [(0, .ref 142), (1, vi x), (2, vi y)]) (st2 := [vi 0]) 1 (fun _ _ => rfl) ?_
    refine wr_end (fun _ _ => rfl) ?_
    exact ⟨0, rfl, by unfold i32; omega, trivial, rfl⟩
  · refine wr_if1f rfl rfl (by unfold i32; omega) h1 ?_
    refine wr_n (pc2 := 7) (lv2 := [(0, .ref 142), (1, vi x), (2, vi y)]) (st2 := [vi 6, vi x]) 2 (fun _ _ => rfl) ?_
    by_cases h2 : x < 6
    · refine wr_if2t rfl rfl (by unfold i32; omega) (by unfold i32; omega) h2 ?_
      refine wr_n (pc2 := 13) (lv2 := [(0, .ref 142), (1, vi x), (2, vi y)]) (st2 := [.ref 142]) 1 (fun _ _ => rfl) ?_
      refine wr_get (v := .ref 149) rfl rfl rfl (by decide) (rv_ref (hK.1 142 8 149 rfl)) fun h3 => ?_
      show wr (d + 1) tb_M93 16 [(0, .ref 142), (1, vi x), (2, vi y)] [.ref 149] s _
      refine wr_n (pc2 := 19) (lv2 := [(0, .ref 142), (1, vi x), (2, vi y)]) (st2 := [vi 64, vi x, .ref 149]) 2 (fun _ _ => rfl) ?_
      refine wr_mul (a := x) (b := 64) rfl ?_
      show wr (d + 1) tb_M93 20 [(0, .ref 142), (1, vi x), (2, vi y)] [vi (x * 64), .ref 149] s _
      refine wr_n (pc2 := 21) (lv2 := [(0, .ref 142), (1, vi x), (2, vi y)]) (st2 := [.ref 142, vi (x * 64), .ref 149]) 1 (fun _ _ => rfl) ?_
      refine wr_get (v := .ref C) rfl rfl rfl (by decide) (rv_ref (show (s.1) 142 0 = ((C : Nat) : Int) from hq)) fun h4 => ?_
      show wr (d + 1) tb_M93 24 [(0, .ref 142), (1, vi x), (2, vi y)] [.ref C, vi (x * 64), .ref 149] s _
      refine wr_n (pc2 := 26) (lv2 := [(0, .ref 142), (1, vi x), (2, vi y)]) (st2 := [vi y, vi x, .ref C, vi (x * 64), .ref 149]) 2 (fun _ _ => rfl) ?_
      refine wr_call1 (args := [vi x, vi y]) (rest := [vi (x * 64), .ref 149]) rfl rfl rfl (TK0 hC) (Nat.le_of_ble_eq_true rfl) (cr_mono (k_placeIn (d := d + 0) (C := C) hC (x := x) (y := y) s hK (by omega) (by omega)) ?_)
      rintro s5 out ⟨z5, rfl, hz5, hp5, e5⟩
      refine ⟨_, rfl, ?_⟩
      rw [e5]
      unfold i32 at hz5
      replace hp5 : 0 ≤ z5 ∧ z5 ≤ 63 := hp5
      show wr (d + 1) tb_M93 29 [(0, .ref 142), (1, vi x), (2, vi y)] [vi z5, vi (x * 64), .ref 149] s _
      refine wr_add (a := x * 64) (b := z5) rfl ?_
      show wr (d + 1) tb_M93 30 [(0, .ref 142), (1, vi x), (2, vi y)] [vi (x * 64 + z5), .ref 149] s _
      refine wr_ald (a := x * 64 + z5) (v := vi (s.1 149 ((x * 64 + z5).toNat))) rfl rfl rfl (by omega) (by omega) (by decide) rfl fun h6 => ?_
      have h6 : -2147483648 ≤ s.1 149 ((x * 64 + z5).toNat) ∧ s.1 149 ((x * 64 + z5).toNat) ≤ 2147483647 := h6
      show wr (d + 1) tb_M93 31 [(0, .ref 142), (1, vi x), (2, vi y)] [vi (s.1 149 ((x * 64 + z5).toNat))] s _
      refine wr_reti rfl rfl ?_
      exact ⟨s.1 149 ((x * 64 + z5).toNat), rfl, by unfold i32; omega, trivial, rfl⟩
    · refine wr_if2f rfl rfl (by unfold i32; omega) (by unfold i32; omega) h2 ?_
      refine wr_n (pc2 := 11) (lv2 := [(0, .ref 142), (1, vi x), (2, vi y)]) (st2 := [vi 0]) 1 (fun _ _ => rfl) ?_
      refine wr_end (fun _ _ => rfl) ?_
      exact ⟨0, rfl, by unfold i32; omega, trivial, rfl⟩
set_option maxHeartbeats 20000000 in
set_option maxRecDepth 100000 in
theorem k_truth {d : Nat}  {x : Int} (s : rS) (hK : KI s.1) (hx : (-2147483648) ≤ x ∧ x ≤ 2147483647)  : cr (d + 1) 92 [vi x] s (PZ (fun z => True) s) := by
  refine cr_of (M := tb_M92) rfl (Nat.le_of_ble_eq_true rfl) ?_
  show wr (d) tb_M92 0 [(0, vi x)] [] s _
  refine wr_n (pc2 := 1) (lv2 := [(0, vi x)]) (st2 := [vi x]) 1 (fun _ _ => rfl) ?_
  by_cases h1 : x = 0
  · refine wr_if1t rfl rfl (by unfold i32; omega) h1 ?_
    refine wr_n (pc2 := 9) (lv2 := [(0, vi x)]) (st2 := [vi 0]) 1 (fun _ _ => rfl) ?_
    refine wr_end (fun _ _ => rfl) ?_
    exact ⟨0, rfl, by unfold i32; omega, trivial, rfl⟩
  · refine wr_if1f rfl rfl (by unfold i32; omega) h1 ?_
    refine wr_n (pc2 := 9) (lv2 := [(0, vi x)]) (st2 := [vi 1]) 2 (fun _ _ => rfl) ?_
    refine wr_end (fun _ _ => rfl) ?_
    exact ⟨1, rfl, by unfold i32; omega, trivial, rfl⟩
set_option maxHeartbeats 20000000 in
set_option maxRecDepth 100000 in
theorem k_signOne {d : Nat}  {x y : Int} (s : rS) (hK : KI s.1) (hx : (-2147483648) ≤ x ∧ x ≤ 2147483647) (hy : (-2147483648) ≤ y ∧ y ≤ 2147483647)  : cr (d + 2) 95 [vi x, vi y] s (PZ (fun z => True) s) := by
  refine cr_of (M := tb_M95) rfl (Nat.le_of_ble_eq_true rfl) ?_
  show wr (d + 1) tb_M95 0 [(0, vi x), (1, vi y)] [] s _
  refine wr_n (pc2 := 1) (lv2 := [(0, vi x), (1, vi y)]) (st2 := [vi x]) 1 (fun _ _ => rfl) ?_
  refine wr_lsw rfl (by decide) fun off hoff => ?_
  have hoff2 : off = 27 ∨ off = 30 ∨ off = 34 := by simp at hoff; omega
  clear hoff
  rcases hoff2 with rfl | rfl | rfl
  · refine ⟨28, rfl, ?_⟩
    refine wr_n (pc2 := 29) (lv2 := [(0, vi x), (1, vi y)]) (st2 := [vi y]) 1 (fun _ _ => rfl) ?_
    refine wr_anyu rfl (fun x => ⟨_, rfl⟩) fun z1 h2 => ?_
    unfold i32 at h2
    show wr (d + 1) tb_M95 30 [(0, vi x), (1, vi y)] [vi z1] s _
    refine wr_reti rfl rfl ?_
    exact ⟨z1, rfl, by unfold i32; omega, trivial, rfl⟩
  · refine ⟨31, rfl, ?_⟩
    refine wr_n (pc2 := 33) (lv2 := [(0, vi x), (1, vi y)]) (st2 := [vi ((-1)), vi y]) 2 (fun _ _ => rfl) ?_
    refine wr_any2 rfl rfl fun z3 h4 => ?_
    unfold i32 at h4
    show wr (d + 1) tb_M95 34 [(0, vi x), (1, vi y)] [vi z3] s _
    refine wr_reti rfl rfl ?_
    exact ⟨z3, rfl, by unfold i32; omega, trivial, rfl⟩
  · refine ⟨35, rfl, ?_⟩
    refine wr_n (pc2 := 36) (lv2 := [(0, vi x), (1, vi y)]) (st2 := [vi y]) 1 (fun _ _ => rfl) ?_
    by_cases h5 : y ≠ 0
    · refine wr_if1t rfl rfl (by unfold i32; omega) h5 ?_
      refine wr_n (pc2 := 44) (lv2 := [(0, vi x), (1, vi y)]) (st2 := [vi 0]) 1 (fun _ _ => rfl) ?_
      refine wr_call0 (args := [vi 0]) (rest := []) rfl rfl rfl (Nat.le_of_ble_eq_true rfl) (cr_mono (k_truth (d := d + 0) (x := 0) s hK (by omega)) ?_)
      rintro s6 out ⟨z6, rfl, hz6, hp6, e6⟩
      refine ⟨_, rfl, ?_⟩
      rw [e6]
      unfold i32 at hz6
      clear hp6
      show wr (d + 1) tb_M95 47 [(0, vi x), (1, vi y)] [vi z6] s _
      refine wr_reti rfl rfl ?_
      exact ⟨z6, rfl, by unfold i32; omega, trivial, rfl⟩
    · refine wr_if1f rfl rfl (by unfold i32; omega) h5 ?_
      refine wr_n (pc2 := 44) (lv2 := [(0, vi x), (1, vi y)]) (st2 := [vi 1]) 2 (fun _ _ => rfl) ?_
      refine wr_call0 (args := [vi 1]) (rest := []) rfl rfl rfl (Nat.le_of_ble_eq_true rfl) (cr_mono (k_truth (d := d + 0) (x := 1) s hK (by omega)) ?_)
      rintro s7 out ⟨z7, rfl, hz7, hp7, e7⟩
      refine ⟨_, rfl, ?_⟩
      rw [e7]
      unfold i32 at hz7
      clear hp7
      show wr (d + 1) tb_M95 47 [(0, vi x), (1, vi y)] [vi z7] s _
      refine wr_reti rfl rfl ?_
      exact ⟨z7, rfl, by unfold i32; omega, trivial, rfl⟩
set_option maxHeartbeats 20000000 in
set_option maxRecDepth 100000 in
theorem k_signTwo {d : Nat}  {x y u : Int} (s : rS) (hK : KI s.1) (hx : (-2147483648) ≤ x ∧ x ≤ 2147483647) (hy : (-2147483648) ≤ y ∧ y ≤ 2147483647) (hu : (-2147483648) ≤ u ∧ u ≤ 2147483647)  : cr (d + 2) 91 [vi x, vi y, vi u] s (PZ (fun z => True) s) := by
  refine cr_of (M := tb_M91) rfl (Nat.le_of_ble_eq_true rfl) ?_
  show wr (d + 1) tb_M91 0 [(0, vi x), (1, vi y), (2, vi u)] [] s _
  refine wr_n (pc2 := 1) (lv2 := [(0, vi x), (1, vi y), (2, vi u)]) (st2 := [vi x]) 1 (fun _ _ => rfl) ?_
  refine wr_lsw rfl (by decide) fun off hoff => ?_
  have hoff2 : off = 147 ∨ off = 164 ∨ off = 181 ∨ off = 185 ∨ off = 189 ∨ off = 193 ∨ off = 207 ∨ off = 221 ∨ off = 235 ∨ off = 249 ∨ off = 263 ∨ off = 277 ∨ off = 284 ∨ off = 291 ∨ off = 295 ∨ off = 299 ∨ off = 303 ∨ off = 315 := by simp at hoff; omega
  clear hoff
  rcases hoff2 with rfl | rfl | rfl | rfl | rfl | rfl | rfl | rfl | rfl | rfl | rfl | rfl | rfl | rfl | rfl | rfl | rfl | rfl
  · refine ⟨148, rfl, ?_⟩
    refine wr_n (pc2 := 149) (lv2 := [(0, vi x), (1, vi y), (2, vi u)]) (st2 := [vi y]) 1 (fun _ _ => rfl) ?_
    by_cases h1 : y ≠ 0
    · refine wr_if1t rfl rfl (by unfold i32; omega) h1 ?_
      refine wr_n (pc2 := 161) (lv2 := [(0, vi x), (1, vi y), (2, vi u)]) (st2 := [vi 1]) 2 (fun _ _ => rfl) ?_
      refine wr_call0 (args := [vi 1]) (rest := []) rfl rfl rfl (Nat.le_of_ble_eq_true rfl) (cr_mono (k_truth (d := d + 0) (x := 1) s hK (by omega)) ?_)
      rintro s2 out ⟨z2, rfl, hz2, hp2, e2⟩
      refine ⟨_, rfl, ?_⟩
      rw [e2]
      unfold i32 at hz2
      clear hp2
      show wr (d + 1) tb_M91 164 [(0, vi x), (1, vi y), (2, vi u)] [vi z2] s _
      refine wr_reti rfl rfl ?_
      exact ⟨z2, rfl, by unfold i32; omega, trivial, rfl⟩
    · refine wr_if1f rfl rfl (by unfold i32; omega) h1 ?_
      refine wr_n (pc2 := 153) (lv2 := [(0, vi x), (1, vi y), (2, vi u)]) (st2 := [vi u]) 1 (fun _ _ => rfl) ?_
      by_cases h3 : u = 0
      · refine wr_if1t rfl rfl (by unfold i32; omega) h3 ?_
        refine wr_n (pc2 := 161) (lv2 := [(0, vi x), (1, vi y), (2, vi u)]) (st2 := [vi 0]) 1 (fun _ _ => rfl) ?_
        refine wr_call0 (args := [vi 0]) (rest := []) rfl rfl rfl (Nat.le_of_ble_eq_true rfl) (cr_mono (k_truth (d := d + 0) (x := 0) s hK (by omega)) ?_)
        rintro s4 out ⟨z4, rfl, hz4, hp4, e4⟩
        refine ⟨_, rfl, ?_⟩
        rw [e4]
        unfold i32 at hz4
        clear hp4
        show wr (d + 1) tb_M91 164 [(0, vi x), (1, vi y), (2, vi u)] [vi z4] s _
        refine wr_reti rfl rfl ?_
        exact ⟨z4, rfl, by unfold i32; omega, trivial, rfl⟩
      · refine wr_if1f rfl rfl (by unfold i32; omega) h3 ?_
        refine wr_n (pc2 := 161) (lv2 := [(0, vi x), (1, vi y), (2, vi u)]) (st2 := [vi 1]) 2 (fun _ _ => rfl) ?_
        refine wr_call0 (args := [vi 1]) (rest := []) rfl rfl rfl (Nat.le_of_ble_eq_true rfl) (cr_mono (k_truth (d := d + 0) (x := 1) s hK (by omega)) ?_)
        rintro s5 out ⟨z5, rfl, hz5, hp5, e5⟩
        refine ⟨_, rfl, ?_⟩
        rw [e5]
        unfold i32 at hz5
        clear hp5
        show wr (d + 1) tb_M91 164 [(0, vi x), (1, vi y), (2, vi u)] [vi z5] s _
        refine wr_reti rfl rfl ?_
        exact ⟨z5, rfl, by unfold i32; omega, trivial, rfl⟩
  · refine ⟨165, rfl, ?_⟩
    refine wr_n (pc2 := 166) (lv2 := [(0, vi x), (1, vi y), (2, vi u)]) (st2 := [vi y]) 1 (fun _ _ => rfl) ?_
    by_cases h6 : y = 0
    · refine wr_if1t rfl rfl (by unfold i32; omega) h6 ?_
      refine wr_n (pc2 := 178) (lv2 := [(0, vi x), (1, vi y), (2, vi u)]) (st2 := [vi 0]) 1 (fun _ _ => rfl) ?_
      refine wr_call0 (args := [vi 0]) (rest := []) rfl rfl rfl (Nat.le_of_ble_eq_true rfl) (cr_mono (k_truth (d := d + 0) (x := 0) s hK (by omega)) ?_)
      rintro s7 out ⟨z7, rfl, hz7, hp7, e7⟩
      refine ⟨_, rfl, ?_⟩
      rw [e7]
      unfold i32 at hz7
      clear hp7
      show wr (d + 1) tb_M91 181 [(0, vi x), (1, vi y), (2, vi u)] [vi z7] s _
      refine wr_reti rfl rfl ?_
      exact ⟨z7, rfl, by unfold i32; omega, trivial, rfl⟩
    · refine wr_if1f rfl rfl (by unfold i32; omega) h6 ?_
      refine wr_n (pc2 := 170) (lv2 := [(0, vi x), (1, vi y), (2, vi u)]) (st2 := [vi u]) 1 (fun _ _ => rfl) ?_
      by_cases h8 : u = 0
      · refine wr_if1t rfl rfl (by unfold i32; omega) h8 ?_
        refine wr_n (pc2 := 178) (lv2 := [(0, vi x), (1, vi y), (2, vi u)]) (st2 := [vi 0]) 1 (fun _ _ => rfl) ?_
        refine wr_call0 (args := [vi 0]) (rest := []) rfl rfl rfl (Nat.le_of_ble_eq_true rfl) (cr_mono (k_truth (d := d + 0) (x := 0) s hK (by omega)) ?_)
        rintro s9 out ⟨z9, rfl, hz9, hp9, e9⟩
        refine ⟨_, rfl, ?_⟩
        rw [e9]
        unfold i32 at hz9
        clear hp9
        show wr (d + 1) tb_M91 181 [(0, vi x), (1, vi y), (2, vi u)] [vi z9] s _
        refine wr_reti rfl rfl ?_
        exact ⟨z9, rfl, by unfold i32; omega, trivial, rfl⟩
      · refine wr_if1f rfl rfl (by unfold i32; omega) h8 ?_
        refine wr_n (pc2 := 178) (lv2 := [(0, vi x), (1, vi y), (2, vi u)]) (st2 := [vi 1]) 2 (fun _ _ => rfl) ?_
        refine wr_call0 (args := [vi 1]) (rest := []) rfl rfl rfl (Nat.le_of_ble_eq_true rfl) (cr_mono (k_truth (d := d + 0) (x := 1) s hK (by omega)) ?_)
        rintro s10 out ⟨z10, rfl, hz10, hp10, e10⟩
        refine ⟨_, rfl, ?_⟩
        rw [e10]
        unfold i32 at hz10
        clear hp10
        show wr (d + 1) tb_M91 181 [(0, vi x), (1, vi y), (2, vi u)] [vi z10] s _
        refine wr_reti rfl rfl ?_
        exact ⟨z10, rfl, by unfold i32; omega, trivial, rfl⟩
  · refine ⟨182, rfl, ?_⟩
    refine wr_n (pc2 := 184) (lv2 := [(0, vi x), (1, vi y), (2, vi u)]) (st2 := [vi u, vi y]) 2 (fun _ _ => rfl) ?_
    refine wr_any2 rfl rfl fun z11 h12 => ?_
    unfold i32 at h12
    show wr (d + 1) tb_M91 185 [(0, vi x), (1, vi y), (2, vi u)] [vi z11] s _
    refine wr_reti rfl rfl ?_
    exact ⟨z11, rfl, by unfold i32; omega, trivial, rfl⟩
  · refine ⟨186, rfl, ?_⟩
    refine wr_n (pc2 := 188) (lv2 := [(0, vi x), (1, vi y), (2, vi u)]) (st2 := [vi u, vi y]) 2 (fun _ _ => rfl) ?_
    refine wr_any2 rfl rfl fun z13 h14 => ?_
    unfold i32 at h14
    show wr (d + 1) tb_M91 189 [(0, vi x), (1, vi y), (2, vi u)] [vi z13] s _
    refine wr_reti rfl rfl ?_
    exact ⟨z13, rfl, by unfold i32; omega, trivial, rfl⟩
  · refine ⟨190, rfl, ?_⟩
    refine wr_n (pc2 := 192) (lv2 := [(0, vi x), (1, vi y), (2, vi u)]) (st2 := [vi u, vi y]) 2 (fun _ _ => rfl) ?_
    refine wr_any2 rfl rfl fun z15 h16 => ?_
    unfold i32 at h16
    show wr (d + 1) tb_M91 193 [(0, vi x), (1, vi y), (2, vi u)] [vi z15] s _
    refine wr_reti rfl rfl ?_
    exact ⟨z15, rfl, by unfold i32; omega, trivial, rfl⟩
  · refine ⟨194, rfl, ?_⟩
    refine wr_n (pc2 := 196) (lv2 := [(0, vi x), (1, vi y), (2, vi u)]) (st2 := [vi u, vi y]) 2 (fun _ _ => rfl) ?_
    by_cases h17 : y ≠ u
    · refine wr_if2t rfl rfl (by unfold i32; omega) (by unfold i32; omega) h17 ?_
      refine wr_n (pc2 := 204) (lv2 := [(0, vi x), (1, vi y), (2, vi u)]) (st2 := [vi 0]) 1 (fun _ _ => rfl) ?_
      refine wr_call0 (args := [vi 0]) (rest := []) rfl rfl rfl (Nat.le_of_ble_eq_true rfl) (cr_mono (k_truth (d := d + 0) (x := 0) s hK (by omega)) ?_)
      rintro s18 out ⟨z18, rfl, hz18, hp18, e18⟩
      refine ⟨_, rfl, ?_⟩
      rw [e18]
      unfold i32 at hz18
      clear hp18
      show wr (d + 1) tb_M91 207 [(0, vi x), (1, vi y), (2, vi u)] [vi z18] s _
      refine wr_reti rfl rfl ?_
      exact ⟨z18, rfl, by unfold i32; omega, trivial, rfl⟩
    · refine wr_if2f rfl rfl (by unfold i32; omega) (by unfold i32; omega) h17 ?_
      refine wr_n (pc2 := 204) (lv2 := [(0, vi x), (1, vi y), (2, vi u)]) (st2 := [vi 1]) 2 (fun _ _ => rfl) ?_
      refine wr_call0 (args := [vi 1]) (rest := []) rfl rfl rfl (Nat.le_of_ble_eq_true rfl) (cr_mono (k_truth (d := d + 0) (x := 1) s hK (by omega)) ?_)
      rintro s19 out ⟨z19, rfl, hz19, hp19, e19⟩
      refine ⟨_, rfl, ?_⟩
      rw [e19]
      unfold i32 at hz19
      clear hp19
      show wr (d + 1) tb_M91 207 [(0, vi x), (1, vi y), (2, vi u)] [vi z19] s _
      refine wr_reti rfl rfl ?_
      exact ⟨z19, rfl, by unfold i32; omega, trivial, rfl⟩
  · refine ⟨208, rfl, ?_⟩
    refine wr_n (pc2 := 210) (lv2 := [(0, vi x), (1, vi y), (2, vi u)]) (st2 := [vi u, vi y]) 2 (fun _ _ => rfl) ?_
    by_cases h20 : y = u
    · refine wr_if2t rfl rfl (by unfold i32; omega) (by unfold i32; omega) h20 ?_
      refine wr_n (pc2 := 218) (lv2 := [(0, vi x), (1, vi y), (2, vi u)]) (st2 := [vi 0]) 1 (fun _ _ => rfl) ?_
      refine wr_call0 (args := [vi 0]) (rest := []) rfl rfl rfl (Nat.le_of_ble_eq_true rfl) (cr_mono (k_truth (d := d + 0) (x := 0) s hK (by omega)) ?_)
      rintro s21 out ⟨z21, rfl, hz21, hp21, e21⟩
      refine ⟨_, rfl, ?_⟩
      rw [e21]
      unfold i32 at hz21
      clear hp21
      show wr (d + 1) tb_M91 221 [(0, vi x), (1, vi y), (2, vi u)] [vi z21] s _
      refine wr_reti rfl rfl ?_
      exact ⟨z21, rfl, by unfold i32; omega, trivial, rfl⟩
    · refine wr_if2f rfl rfl (by unfold i32; omega) (by unfold i32; omega) h20 ?_
      refine wr_n (pc2 := 218) (lv2 := [(0, vi x), (1, vi y), (2, vi u)]) (st2 := [vi 1]) 2 (fun _ _ => rfl) ?_
      refine wr_call0 (args := [vi 1]) (rest := []) rfl rfl rfl (Nat.le_of_ble_eq_true rfl) (cr_mono (k_truth (d := d + 0) (x := 1) s hK (by omega)) ?_)
      rintro s22 out ⟨z22, rfl, hz22, hp22, e22⟩
      refine ⟨_, rfl, ?_⟩
      rw [e22]
      unfold i32 at hz22
      clear hp22
      show wr (d + 1) tb_M91 221 [(0, vi x), (1, vi y), (2, vi u)] [vi z22] s _
      refine wr_reti rfl rfl ?_
      exact ⟨z22, rfl, by unfold i32; omega, trivial, rfl⟩
  · refine ⟨222, rfl, ?_⟩
    refine wr_n (pc2 := 224) (lv2 := [(0, vi x), (1, vi y), (2, vi u)]) (st2 := [vi u, vi y]) 2 (fun _ _ => rfl) ?_
    by_cases h23 : u ≤ y
    · refine wr_if2t rfl rfl (by unfold i32; omega) (by unfold i32; omega) h23 ?_
      refine wr_n (pc2 := 232) (lv2 := [(0, vi x), (1, vi y), (2, vi u)]) (st2 := [vi 0]) 1 (fun _ _ => rfl) ?_
      refine wr_call0 (args := [vi 0]) (rest := []) rfl rfl rfl (Nat.le_of_ble_eq_true rfl) (cr_mono (k_truth (d := d + 0) (x := 0) s hK (by omega)) ?_)
      rintro s24 out ⟨z24, rfl, hz24, hp24, e24⟩
      refine ⟨_, rfl, ?_⟩
      rw [e24]
      unfold i32 at hz24
      clear hp24
      show wr (d + 1) tb_M91 235 [(0, vi x), (1, vi y), (2, vi u)] [vi z24] s _
      refine wr_reti rfl rfl ?_
      exact ⟨z24, rfl, by unfold i32; omega, trivial, rfl⟩
    · refine wr_if2f rfl rfl (by unfold i32; omega) (by unfold i32; omega) h23 ?_
      refine wr_n (pc2 := 232) (lv2 := [(0, vi x), (1, vi y), (2, vi u)]) (st2 := [vi 1]) 2 (fun _ _ => rfl) ?_
      refine wr_call0 (args := [vi 1]) (rest := []) rfl rfl rfl (Nat.le_of_ble_eq_true rfl) (cr_mono (k_truth (d := d + 0) (x := 1) s hK (by omega)) ?_)
      rintro s25 out ⟨z25, rfl, hz25, hp25, e25⟩
      refine ⟨_, rfl, ?_⟩
      rw [e25]
      unfold i32 at hz25
      clear hp25
      show wr (d + 1) tb_M91 235 [(0, vi x), (1, vi y), (2, vi u)] [vi z25] s _
      refine wr_reti rfl rfl ?_
      exact ⟨z25, rfl, by unfold i32; omega, trivial, rfl⟩
  · refine ⟨236, rfl, ?_⟩
    refine wr_n (pc2 := 238) (lv2 := [(0, vi x), (1, vi y), (2, vi u)]) (st2 := [vi u, vi y]) 2 (fun _ _ => rfl) ?_
    by_cases h26 : u < y
    · refine wr_if2t rfl rfl (by unfold i32; omega) (by unfold i32; omega) h26 ?_
      refine wr_n (pc2 := 246) (lv2 := [(0, vi x), (1, vi y), (2, vi u)]) (st2 := [vi 0]) 1 (fun _ _ => rfl) ?_
      refine wr_call0 (args := [vi 0]) (rest := []) rfl rfl rfl (Nat.le_of_ble_eq_true rfl) (cr_mono (k_truth (d := d + 0) (x := 0) s hK (by omega)) ?_)
      rintro s27 out ⟨z27, rfl, hz27, hp27, e27⟩
      refine ⟨_, rfl, ?_⟩
      rw [e27]
      unfold i32 at hz27
      clear hp27
      show wr (d + 1) tb_M91 249 [(0, vi x), (1, vi y), (2, vi u)] [vi z27] s _
      refine wr_reti rfl rfl ?_
      exact ⟨z27, rfl, by unfold i32; omega, trivial, rfl⟩
    · refine wr_if2f rfl rfl (by unfold i32; omega) (by unfold i32; omega) h26 ?_
      refine wr_n (pc2 := 246) (lv2 := [(0, vi x), (1, vi y), (2, vi u)]) (st2 := [vi 1]) 2 (fun _ _ => rfl) ?_
      refine wr_call0 (args := [vi 1]) (rest := []) rfl rfl rfl (Nat.le_of_ble_eq_true rfl) (cr_mono (k_truth (d := d + 0) (x := 1) s hK (by omega)) ?_)
      rintro s28 out ⟨z28, rfl, hz28, hp28, e28⟩
      refine ⟨_, rfl, ?_⟩
      rw [e28]
      unfold i32 at hz28
      clear hp28
      show wr (d + 1) tb_M91 249 [(0, vi x), (1, vi y), (2, vi u)] [vi z28] s _
      refine wr_reti rfl rfl ?_
      exact ⟨z28, rfl, by unfold i32; omega, trivial, rfl⟩
  · refine ⟨250, rfl, ?_⟩
    refine wr_n (pc2 := 252) (lv2 := [(0, vi x), (1, vi y), (2, vi u)]) (st2 := [vi u, vi y]) 2 (fun _ _ => rfl) ?_
    by_cases h29 : y ≤ u
    · refine wr_if2t rfl rfl (by unfold i32; omega) (by unfold i32; omega) h29 ?_
      refine wr_n (pc2 := 260) (lv2 := [(0, vi x), (1, vi y), (2, vi u)]) (st2 := [vi 0]) 1 (fun _ _ => rfl) ?_
      refine wr_call0 (args := [vi 0]) (rest := []) rfl rfl rfl (Nat.le_of_ble_eq_true rfl) (cr_mono (k_truth (d := d + 0) (x := 0) s hK (by omega)) ?_)
      rintro s30 out ⟨z30, rfl, hz30, hp30, e30⟩
      refine ⟨_, rfl, ?_⟩
      rw [e30]
      unfold i32 at hz30
      clear hp30
      show wr (d + 1) tb_M91 263 [(0, vi x), (1, vi y), (2, vi u)] [vi z30] s _
      refine wr_reti rfl rfl ?_
      exact ⟨z30, rfl, by unfold i32; omega, trivial, rfl⟩
    · refine wr_if2f rfl rfl (by unfold i32; omega) (by unfold i32; omega) h29 ?_
      refine wr_n (pc2 := 260) (lv2 := [(0, vi x), (1, vi y), (2, vi u)]) (st2 := [vi 1]) 2 (fun _ _ => rfl) ?_
      refine wr_call0 (args := [vi 1]) (rest := []) rfl rfl rfl (Nat.le_of_ble_eq_true rfl) (cr_mono (k_truth (d := d + 0) (x := 1) s hK (by omega)) ?_)
      rintro s31 out ⟨z31, rfl, hz31, hp31, e31⟩
      refine ⟨_, rfl, ?_⟩
      rw [e31]
      unfold i32 at hz31
      clear hp31
      show wr (d + 1) tb_M91 263 [(0, vi x), (1, vi y), (2, vi u)] [vi z31] s _
      refine wr_reti rfl rfl ?_
      exact ⟨z31, rfl, by unfold i32; omega, trivial, rfl⟩
  · refine ⟨264, rfl, ?_⟩
    refine wr_n (pc2 := 266) (lv2 := [(0, vi x), (1, vi y), (2, vi u)]) (st2 := [vi u, vi y]) 2 (fun _ _ => rfl) ?_
    by_cases h32 : y < u
    · refine wr_if2t rfl rfl (by unfold i32; omega) (by unfold i32; omega) h32 ?_
      refine wr_n (pc2 := 274) (lv2 := [(0, vi x), (1, vi y), (2, vi u)]) (st2 := [vi 0]) 1 (fun _ _ => rfl) ?_
      refine wr_call0 (args := [vi 0]) (rest := []) rfl rfl rfl (Nat.le_of_ble_eq_true rfl) (cr_mono (k_truth (d := d + 0) (x := 0) s hK (by omega)) ?_)
      rintro s33 out ⟨z33, rfl, hz33, hp33, e33⟩
      refine ⟨_, rfl, ?_⟩
      rw [e33]
      unfold i32 at hz33
      clear hp33
      show wr (d + 1) tb_M91 277 [(0, vi x), (1, vi y), (2, vi u)] [vi z33] s _
      refine wr_reti rfl rfl ?_
      exact ⟨z33, rfl, by unfold i32; omega, trivial, rfl⟩
    · refine wr_if2f rfl rfl (by unfold i32; omega) (by unfold i32; omega) h32 ?_
      refine wr_n (pc2 := 274) (lv2 := [(0, vi x), (1, vi y), (2, vi u)]) (st2 := [vi 1]) 2 (fun _ _ => rfl) ?_
      refine wr_call0 (args := [vi 1]) (rest := []) rfl rfl rfl (Nat.le_of_ble_eq_true rfl) (cr_mono (k_truth (d := d + 0) (x := 1) s hK (by omega)) ?_)
      rintro s34 out ⟨z34, rfl, hz34, hp34, e34⟩
      refine ⟨_, rfl, ?_⟩
      rw [e34]
      unfold i32 at hz34
      clear hp34
      show wr (d + 1) tb_M91 277 [(0, vi x), (1, vi y), (2, vi u)] [vi z34] s _
      refine wr_reti rfl rfl ?_
      exact ⟨z34, rfl, by unfold i32; omega, trivial, rfl⟩
  · refine ⟨278, rfl, ?_⟩
    refine wr_n (pc2 := 282) (lv2 := [(0, vi x), (1, vi y), (2, vi u)]) (st2 := [vi 31, vi u, vi y]) 3 (fun _ _ => rfl) ?_
    refine wr_any2 rfl rfl fun z35 h36 => ?_
    unfold i32 at h36
    show wr (d + 1) tb_M91 283 [(0, vi x), (1, vi y), (2, vi u)] [vi z35, vi y] s _
    refine wr_any2 rfl rfl fun z37 h38 => ?_
    unfold i32 at h38
    show wr (d + 1) tb_M91 284 [(0, vi x), (1, vi y), (2, vi u)] [vi z37] s _
    refine wr_reti rfl rfl ?_
    exact ⟨z37, rfl, by unfold i32; omega, trivial, rfl⟩
  · refine ⟨285, rfl, ?_⟩
    refine wr_n (pc2 := 289) (lv2 := [(0, vi x), (1, vi y), (2, vi u)]) (st2 := [vi 31, vi u, vi y]) 3 (fun _ _ => rfl) ?_
    refine wr_any2 rfl rfl fun z39 h40 => ?_
    unfold i32 at h40
    show wr (d + 1) tb_M91 290 [(0, vi x), (1, vi y), (2, vi u)] [vi z39, vi y] s _
    refine wr_any2 rfl rfl fun z41 h42 => ?_
    unfold i32 at h42
    show wr (d + 1) tb_M91 291 [(0, vi x), (1, vi y), (2, vi u)] [vi z41] s _
    refine wr_reti rfl rfl ?_
    exact ⟨z41, rfl, by unfold i32; omega, trivial, rfl⟩
  · refine ⟨292, rfl, ?_⟩
    refine wr_n (pc2 := 294) (lv2 := [(0, vi x), (1, vi y), (2, vi u)]) (st2 := [vi u, vi y]) 2 (fun _ _ => rfl) ?_
    refine wr_any2 rfl rfl fun z43 h44 => ?_
    unfold i32 at h44
    show wr (d + 1) tb_M91 295 [(0, vi x), (1, vi y), (2, vi u)] [vi z43] s _
    refine wr_reti rfl rfl ?_
    exact ⟨z43, rfl, by unfold i32; omega, trivial, rfl⟩
  · refine ⟨296, rfl, ?_⟩
    refine wr_n (pc2 := 298) (lv2 := [(0, vi x), (1, vi y), (2, vi u)]) (st2 := [vi u, vi y]) 2 (fun _ _ => rfl) ?_
    refine wr_any2 rfl rfl fun z45 h46 => ?_
    unfold i32 at h46
    show wr (d + 1) tb_M91 299 [(0, vi x), (1, vi y), (2, vi u)] [vi z45] s _
    refine wr_reti rfl rfl ?_
    exact ⟨z45, rfl, by unfold i32; omega, trivial, rfl⟩
  · refine ⟨300, rfl, ?_⟩
    refine wr_n (pc2 := 302) (lv2 := [(0, vi x), (1, vi y), (2, vi u)]) (st2 := [vi u, vi y]) 2 (fun _ _ => rfl) ?_
    refine wr_any2 rfl rfl fun z47 h48 => ?_
    unfold i32 at h48
    show wr (d + 1) tb_M91 303 [(0, vi x), (1, vi y), (2, vi u)] [vi z47] s _
    refine wr_reti rfl rfl ?_
    exact ⟨z47, rfl, by unfold i32; omega, trivial, rfl⟩
  · refine ⟨304, rfl, ?_⟩
    refine wr_n (pc2 := 305) (lv2 := [(0, vi x), (1, vi y), (2, vi u)]) (st2 := [vi u]) 1 (fun _ _ => rfl) ?_
    by_cases h49 : u ≠ 0
    · refine wr_if1t rfl rfl (by unfold i32; omega) h49 ?_
      refine wr_n (pc2 := 314) (lv2 := [(0, vi x), (1, vi y), (2, vi u)]) (st2 := [vi u, vi y]) 2 (fun _ _ => rfl) ?_
      refine wr_div rfl (by unfold i32; omega) (by omega) fun z50 h51 => ?_
      unfold i32 at h51
      show wr (d + 1) tb_M91 315 [(0, vi x), (1, vi y), (2, vi u)] [vi z50] s _
      refine wr_reti rfl rfl ?_
      exact ⟨z50, rfl, by unfold i32; omega, trivial, rfl⟩
    · refine wr_if1f rfl rfl (by unfold i32; omega) h49 ?_
      refine wr_n (pc2 := 315) (lv2 := [(0, vi x), (1, vi y), (2, vi u)]) (st2 := [vi 0]) 2 (fun _ _ => rfl) ?_
      refine wr_end (fun _ _ => rfl) ?_
      exact ⟨0, rfl, by unfold i32; omega, trivial, rfl⟩
  · refine ⟨316, rfl, ?_⟩
    refine wr_n (pc2 := 317) (lv2 := [(0, vi x), (1, vi y), (2, vi u)]) (st2 := [vi u]) 1 (fun _ _ => rfl) ?_
    by_cases h52 : u ≠ 0
    · refine wr_if1t rfl rfl (by unfold i32; omega) h52 ?_
      refine wr_n (pc2 := 326) (lv2 := [(0, vi x), (1, vi y), (2, vi u)]) (st2 := [vi u, vi y]) 2 (fun _ _ => rfl) ?_
      refine wr_rem rfl (by unfold i32; omega) (by omega) fun z53 h54 => ?_
      unfold i32 at h54
      show wr (d + 1) tb_M91 327 [(0, vi x), (1, vi y), (2, vi u)] [vi z53] s _
      refine wr_reti rfl rfl ?_
      exact ⟨z53, rfl, by unfold i32; omega, trivial, rfl⟩
    · refine wr_if1f rfl rfl (by unfold i32; omega) h52 ?_
      refine wr_n (pc2 := 327) (lv2 := [(0, vi x), (1, vi y), (2, vi u)]) (st2 := [vi 0]) 2 (fun _ _ => rfl) ?_
      refine wr_end (fun _ _ => rfl) ?_
      exact ⟨0, rfl, by unfold i32; omega, trivial, rfl⟩
set_option maxHeartbeats 20000000 in
set_option maxRecDepth 100000 in
theorem k_assign {d : Nat} {C : Nat} (hC : C = 99 ∨ C = 115)  {x y u : Int} (s : rS) (hK : KI s.1) (hq : s.1 142 0 = (C : Int)) (hx : (-2147483648) ≤ x ∧ x ≤ 2147483647) (hy : (-2147483648) ≤ y ∧ y ≤ 2147483647) (hu : (-2147483648) ≤ u ∧ u ≤ 2147483647)  : cr (d + 2) 100 [.ref 142, vi x, vi y, vi u] s (KV s) := by
  refine cr_of (M := tb_M100) rfl (Nat.le_of_ble_eq_true rfl) ?_
  show wr (d + 1) tb_M100 0 [(0, .ref 142), (1, vi x), (2, vi y), (3, vi u)] [] s _
  refine wr_n (pc2 := 3) (lv2 := [(0, .ref 142), (1, vi x), (2, vi y), (3, vi u)]) (st2 := [vi 24, vi x]) 2 (fun _ _ => rfl) ?_
  refine wr_any2 rfl rfl fun z1 h2 => ?_
  unfold i32 at h2
  show wr (d + 1) tb_M100 4 [(0, .ref 142), (1, vi x), (2, vi y), (3, vi u)] [vi z1] s _
  refine wr_n (pc2 := 7) (lv2 := [(4, vi z1), (0, .ref 142), (1, vi x), (2, vi y), (3, vi u)]) (st2 := [vi x]) 2 (fun _ _ => rfl) ?_
  by_cases h3 : x < 0
  · refine wr_if1t rfl rfl (by unfold i32; omega) h3 ?_
    refine wr_n (pc2 := 56) (lv2 := [(4, vi z1), (0, .ref 142), (1, vi x), (2, vi y), (3, vi u)]) (st2 := [vi z1]) 1 (fun _ _ => rfl) ?_
    by_cases h4 : z1 < 0
    · refine wr_if1t rfl rfl (by unfold i32; omega) h4 ?_
      refine wr_end (fun _ _ => rfl) ?_
      exact ⟨hK, FX_rf, rfl, rfl⟩
    · refine wr_if1f rfl rfl (by unfold i32; omega) h4 ?_
      refine wr_n (pc2 := 63) (lv2 := [(4, vi z1), (0, .ref 142), (1, vi x), (2, vi y), (3, vi u)]) (st2 := [vi 6, vi z1]) 2 (fun _ _ => rfl) ?_
      by_cases h5 : 6 ≤ z1
      · refine wr_if2t rfl rfl (by unfold i32; omega) (by unfold i32; omega) h5 ?_
        refine wr_end (fun _ _ => rfl) ?_
        exact ⟨hK, FX_rf, rfl, rfl⟩
      · refine wr_if2f rfl rfl (by unfold i32; omega) (by unfold i32; omega) h5 ?_
        refine wr_n (pc2 := 67) (lv2 := [(4, vi z1), (0, .ref 142), (1, vi x), (2, vi y), (3, vi u)]) (st2 := [.ref 142]) 1 (fun _ _ => rfl) ?_
        refine wr_get (v := .ref 149) rfl rfl rfl (by decide) (rv_ref (hK.1 142 8 149 rfl)) fun h6 => ?_
        show wr (d + 1) tb_M100 70 [(4, vi z1), (0, .ref 142), (1, vi x), (2, vi y), (3, vi u)] [.ref 149] s _
        refine wr_n (pc2 := 74) (lv2 := [(4, vi z1), (0, .ref 142), (1, vi x), (2, vi y), (3, vi u)]) (st2 := [vi 64, vi z1, .ref 149]) 2 (fun _ _ => rfl) ?_
        refine wr_mul (a := z1) (b := 64) rfl ?_
        show wr (d + 1) tb_M100 75 [(4, vi z1), (0, .ref 142), (1, vi x), (2, vi y), (3, vi u)] [vi (z1 * 64), .ref 149] s _
        refine wr_n (pc2 := 76) (lv2 := [(4, vi z1), (0, .ref 142), (1, vi x), (2, vi y), (3, vi u)]) (st2 := [.ref 142, vi (z1 * 64), .ref 149]) 1 (fun _ _ => rfl) ?_
        refine wr_get (v := .ref C) rfl rfl rfl (by decide) (rv_ref (show (s.1) 142 0 = ((C : Nat) : Int) from hq)) fun h7 => ?_
        show wr (d + 1) tb_M100 79 [(4, vi z1), (0, .ref 142), (1, vi x), (2, vi y), (3, vi u)] [.ref C, vi (z1 * 64), .ref 149] s _
        refine wr_n (pc2 := 82) (lv2 := [(4, vi z1), (0, .ref 142), (1, vi x), (2, vi y), (3, vi u)]) (st2 := [vi y, vi z1, .ref C, vi (z1 * 64), .ref 149]) 2 (fun _ _ => rfl) ?_
        refine wr_call1 (args := [vi z1, vi y]) (rest := [vi (z1 * 64), .ref 149]) rfl rfl rfl (TK0 hC) (Nat.le_of_ble_eq_true rfl) (cr_mono (k_placeIn (d := d + 0) (C := C) hC (x := z1) (y := y) s hK (by omega) (by omega)) ?_)
        rintro s8 out ⟨z8, rfl, hz8, hp8, e8⟩
        refine ⟨_, rfl, ?_⟩
        rw [e8]
        unfold i32 at hz8
        replace hp8 : 0 ≤ z8 ∧ z8 ≤ 63 := hp8
        show wr (d + 1) tb_M100 85 [(4, vi z1), (0, .ref 142), (1, vi x), (2, vi y), (3, vi u)] [vi z8, vi (z1 * 64), .ref 149] s _
        refine wr_add (a := z1 * 64) (b := z8) rfl ?_
        show wr (d + 1) tb_M100 86 [(4, vi z1), (0, .ref 142), (1, vi x), (2, vi y), (3, vi u)] [vi (z1 * 64 + z8), .ref 149] s _
        refine wr_n (pc2 := 87) (lv2 := [(4, vi z1), (0, .ref 142), (1, vi x), (2, vi y), (3, vi u)]) (st2 := [vi u, vi (z1 * 64 + z8), .ref 149]) 1 (fun _ _ => rfl) ?_
        refine wr_anyu rfl (fun x => ⟨_, rfl⟩) fun z9 h10 => ?_
        unfold i32 at h10
        show wr (d + 1) tb_M100 88 [(4, vi z1), (0, .ref 142), (1, vi x), (2, vi y), (3, vi u)] [vi z9, vi (z1 * 64 + z8), .ref 149] s _
        refine wr_ast (a := z1 * 64 + z8) (z := z9) rfl (by decide) rfl rfl (by omega) (by omega) (by decide) rfl (show -2147483648 ≤ z9 ∧ z9 ≤ 2147483647 by omega) ?_
        show wr (d + 1) tb_M100 89 [(4, vi z1), (0, .ref 142), (1, vi x), (2, vi y), (3, vi u)] [] (up2 s.1 149 ((z1 * 64 + z8).toNat) z9, s.2) _
        have hK11 : KI (up2 s.1 149 ((z1 * 64 + z8).toNat) z9) := (KI_up hK (n0 rfl (by omega) (by omega)) (kb_no rfl))
        refine wr_end (fun _ _ => rfl) ?_
        exact ⟨hK11, (FX_up FX_rf (by unfold fx; omega)), rfl, rfl⟩
  · refine wr_if1f rfl rfl (by unfold i32; omega) h3 ?_
    refine wr_n (pc2 := 13) (lv2 := [(4, vi z1), (0, .ref 142), (1, vi x), (2, vi y), (3, vi u)]) (st2 := [vi 24, vi x]) 2 (fun _ _ => rfl) ?_
    by_cases h12 : 24 ≤ x
    · refine wr_if2t rfl rfl (by unfold i32; omega) (by unfold i32; omega) h12 ?_
      refine wr_n (pc2 := 56) (lv2 := [(4, vi z1), (0, .ref 142), (1, vi x), (2, vi y), (3, vi u)]) (st2 := [vi z1]) 1 (fun _ _ => rfl) ?_
      by_cases h13 : z1 < 0
      · refine wr_if1t rfl rfl (by unfold i32; omega) h13 ?_
        refine wr_end (fun _ _ => rfl) ?_
        exact ⟨hK, FX_rf, rfl, rfl⟩
      · refine wr_if1f rfl rfl (by unfold i32; omega) h13 ?_
        refine wr_n (pc2 := 63) (lv2 := [(4, vi z1), (0, .ref 142), (1, vi x), (2, vi y), (3, vi u)]) (st2 := [vi 6, vi z1]) 2 (fun _ _ => rfl) ?_
        by_cases h14 : 6 ≤ z1
        · refine wr_if2t rfl rfl (by unfold i32; omega) (by unfold i32; omega) h14 ?_
          refine wr_end (fun _ _ => rfl) ?_
          exact ⟨hK, FX_rf, rfl, rfl⟩
        · refine wr_if2f rfl rfl (by unfold i32; omega) (by unfold i32; omega) h14 ?_
          refine wr_n (pc2 := 67) (lv2 := [(4, vi z1), (0, .ref 142), (1, vi x), (2, vi y), (3, vi u)]) (st2 := [.ref 142]) 1 (fun _ _ => rfl) ?_
          refine wr_get (v := .ref 149) rfl rfl rfl (by decide) (rv_ref (hK.1 142 8 149 rfl)) fun h15 => ?_
          show wr (d + 1) tb_M100 70 [(4, vi z1), (0, .ref 142), (1, vi x), (2, vi y), (3, vi u)] [.ref 149] s _
          refine wr_n (pc2 := 74) (lv2 := [(4, vi z1), (0, .ref 142), (1, vi x), (2, vi y), (3, vi u)]) (st2 := [vi 64, vi z1, .ref 149]) 2 (fun _ _ => rfl) ?_
          refine wr_mul (a := z1) (b := 64) rfl ?_
          show wr (d + 1) tb_M100 75 [(4, vi z1), (0, .ref 142), (1, vi x), (2, vi y), (3, vi u)] [vi (z1 * 64), .ref 149] s _
          refine wr_n (pc2 := 76) (lv2 := [(4, vi z1), (0, .ref 142), (1, vi x), (2, vi y), (3, vi u)]) (st2 := [.ref 142, vi (z1 * 64), .ref 149]) 1 (fun _ _ => rfl) ?_
          refine wr_get (v := .ref C) rfl rfl rfl (by decide) (rv_ref (show (s.1) 142 0 = ((C : Nat) : Int) from hq)) fun h16 => ?_
          show wr (d + 1) tb_M100 79 [(4, vi z1), (0, .ref 142), (1, vi x), (2, vi y), (3, vi u)] [.ref C, vi (z1 * 64), .ref 149] s _
          refine wr_n (pc2 := 82) (lv2 := [(4, vi z1), (0, .ref 142), (1, vi x), (2, vi y), (3, vi u)]) (st2 := [vi y, vi z1, .ref C, vi (z1 * 64), .ref 149]) 2 (fun _ _ => rfl) ?_
          refine wr_call1 (args := [vi z1, vi y]) (rest := [vi (z1 * 64), .ref 149]) rfl rfl rfl (TK0 hC) (Nat.le_of_ble_eq_true rfl) (cr_mono (k_placeIn (d := d + 0) (C := C) hC (x := z1) (y := y) s hK (by omega) (by omega)) ?_)
          rintro s17 out ⟨z17, rfl, hz17, hp17, e17⟩
          refine ⟨_, rfl, ?_⟩
          rw [e17]
          unfold i32 at hz17
          replace hp17 : 0 ≤ z17 ∧ z17 ≤ 63 := hp17
          show wr (d + 1) tb_M100 85 [(4, vi z1), (0, .ref 142), (1, vi x), (2, vi y), (3, vi u)] [vi z17, vi (z1 * 64), .ref 149] s _
          refine wr_add (a := z1 * 64) (b := z17) rfl ?_
          show wr (d + 1) tb_M100 86 [(4, vi z1), (0, .ref 142), (1, vi x), (2, vi y), (3, vi u)] [vi (z1 * 64 + z17), .ref 149] s _
          refine wr_n (pc2 := 87) (lv2 := [(4, vi z1), (0, .ref 142), (1, vi x), (2, vi y), (3, vi u)]) (st2 := [vi u, vi (z1 * 64 + z17), .ref 149]) 1 (fun _ _ => rfl) ?_
          refine wr_anyu rfl (fun x => ⟨_, rfl⟩) fun z18 h19 => ?_
          unfold i32 at h19
          show wr (d + 1) tb_M100 88 [(4, vi z1), (0, .ref 142), (1, vi x), (2, vi y), (3, vi u)] [vi z18, vi (z1 * 64 + z17), .ref 149] s _
          refine wr_ast (a := z1 * 64 + z17) (z := z18) rfl (by decide) rfl rfl (by omega) (by omega) (by decide) rfl (show -2147483648 ≤ z18 ∧ z18 ≤ 2147483647 by omega) ?_
          show wr (d + 1) tb_M100 89 [(4, vi z1), (0, .ref 142), (1, vi x), (2, vi y), (3, vi u)] [] (up2 s.1 149 ((z1 * 64 + z17).toNat) z18, s.2) _
          have hK20 : KI (up2 s.1 149 ((z1 * 64 + z17).toNat) z18) := (KI_up hK (n0 rfl (by omega) (by omega)) (kb_no rfl))
          refine wr_end (fun _ _ => rfl) ?_
          exact ⟨hK20, (FX_up FX_rf (by unfold fx; omega)), rfl, rfl⟩
    · refine wr_if2f rfl rfl (by unfold i32; omega) (by unfold i32; omega) h12 ?_
      refine wr_n (pc2 := 17) (lv2 := [(4, vi z1), (0, .ref 142), (1, vi x), (2, vi y), (3, vi u)]) (st2 := [.ref 142]) 1 (fun _ _ => rfl) ?_
      refine wr_get (v := .ref C) rfl rfl rfl (by decide) (rv_ref (show (s.1) 142 0 = ((C : Nat) : Int) from hq)) fun h21 => ?_
      show wr (d + 1) tb_M100 20 [(4, vi z1), (0, .ref 142), (1, vi x), (2, vi y), (3, vi u)] [.ref C] s _
      refine wr_get (v := .ref (C + 11)) rfl rfl (TK0 hC) (by decide) (rv_ref (hK.1 C 7 (C + 11) (rcK hC (by omega)))) fun h22 => ?_
      show wr (d + 1) tb_M100 23 [(4, vi z1), (0, .ref 142), (1, vi x), (2, vi y), (3, vi u)] [.ref (C + 11)] s _
      refine wr_n (pc2 := 24) (lv2 := [(4, vi z1), (0, .ref 142), (1, vi x), (2, vi y), (3, vi u)]) (st2 := [vi x, .ref (C + 11)]) 1 (fun _ _ => rfl) ?_
      refine wr_ald (a := x) (v := vi (s.1 (C + 11) x.toNat)) rfl (TK11 hC) rfl (by omega) (by omega) (by decide) rfl fun h23 => ?_
      have h23 : -2147483648 ≤ s.1 (C + 11) x.toNat ∧ s.1 (C + 11) x.toNat ≤ 2147483647 := h23
      show wr (d + 1) tb_M100 25 [(4, vi z1), (0, .ref 142), (1, vi x), (2, vi y), (3, vi u)] [vi (s.1 (C + 11) x.toNat)] s _
      refine wr_n (pc2 := 28) (lv2 := [(5, vi (s.1 (C + 11) x.toNat)), (4, vi z1), (0, .ref 142), (1, vi x), (2, vi y), (3, vi u)]) (st2 := [.ref 142]) 2 (fun _ _ => rfl) ?_
      refine wr_get (v := .ref 148) rfl rfl rfl (by decide) (rv_ref (hK.1 142 7 148 rfl)) fun h24 => ?_
      show wr (d + 1) tb_M100 31 [(5, vi (s.1 (C + 11) x.toNat)), (4, vi z1), (0, .ref 142), (1, vi x), (2, vi y), (3, vi u)] [.ref 148] s _
      refine wr_n (pc2 := 34) (lv2 := [(5, vi (s.1 (C + 11) x.toNat)), (4, vi z1), (0, .ref 142), (1, vi x), (2, vi y), (3, vi u)]) (st2 := [vi (s.1 (C + 11) x.toNat), vi x, .ref 148]) 2 (fun _ _ => rfl) ?_
      by_cases h25 : s.1 (C + 11) x.toNat ≠ 0
      · refine wr_if1t rfl rfl (by unfold i32; omega) h25 ?_
        refine wr_n (pc2 := 46) (lv2 := [(5, vi (s.1 (C + 11) x.toNat)), (4, vi z1), (0, .ref 142), (1, vi x), (2, vi y), (3, vi u)]) (st2 := [vi (s.1 (C + 11) x.toNat), vi 1, vi u, vi x, .ref 148]) 3 (fun _ _ => rfl) ?_
        refine wr_any2 rfl rfl fun z26 h27 => ?_
        unfold i32 at h27
        show wr (d + 1) tb_M100 47 [(5, vi (s.1 (C + 11) x.toNat)), (4, vi z1), (0, .ref 142), (1, vi x), (2, vi y), (3, vi u)] [vi z26, vi u, vi x, .ref 148] s _
        refine wr_n (pc2 := 48) (lv2 := [(5, vi (s.1 (C + 11) x.toNat)), (4, vi z1), (0, .ref 142), (1, vi x), (2, vi y), (3, vi u)]) (st2 := [vi 1, vi z26, vi u, vi x, .ref 148]) 1 (fun _ _ => rfl) ?_
        refine wr_any2 rfl rfl fun z28 h29 => ?_
        unfold i32 at h29
        show wr (d + 1) tb_M100 49 [(5, vi (s.1 (C + 11) x.toNat)), (4, vi z1), (0, .ref 142), (1, vi x), (2, vi y), (3, vi u)] [vi z28, vi u, vi x, .ref 148] s _
        refine wr_any2 rfl rfl fun z30 h31 => ?_
        unfold i32 at h31
        show wr (d + 1) tb_M100 50 [(5, vi (s.1 (C + 11) x.toNat)), (4, vi z1), (0, .ref 142), (1, vi x), (2, vi y), (3, vi u)] [vi z30, vi x, .ref 148] s _
        refine wr_ast (a := x) (z := z30) rfl (by decide) rfl rfl (by omega) (by omega) (by decide) rfl (show -2147483648 ≤ z30 ∧ z30 ≤ 2147483647 by omega) ?_
        show wr (d + 1) tb_M100 51 [(5, vi (s.1 (C + 11) x.toNat)), (4, vi z1), (0, .ref 142), (1, vi x), (2, vi y), (3, vi u)] [] (up2 s.1 148 x.toNat z30, s.2) _
        have hK32 : KI (up2 s.1 148 x.toNat z30) := (KI_up hK (n0 rfl (by omega) (by omega)) (kb_no rfl))
        refine wr_n (pc2 := 89) (lv2 := [(5, vi (s.1 (C + 11) x.toNat)), (4, vi z1), (0, .ref 142), (1, vi x), (2, vi y), (3, vi u)]) (st2 := []) 1 (fun _ _ => rfl) ?_
        refine wr_end (fun _ _ => rfl) ?_
        exact ⟨hK32, (FX_up FX_rf (by unfold fx; omega)), rfl, rfl⟩
      · refine wr_if1f rfl rfl (by unfold i32; omega) h25 ?_
        refine wr_n (pc2 := 38) (lv2 := [(5, vi (s.1 (C + 11) x.toNat)), (4, vi z1), (0, .ref 142), (1, vi x), (2, vi y), (3, vi u)]) (st2 := [vi u, vi x, .ref 148]) 1 (fun _ _ => rfl) ?_
        refine wr_anyu rfl (fun x => ⟨_, rfl⟩) fun z33 h34 => ?_
        unfold i32 at h34
        show wr (d + 1) tb_M100 39 [(5, vi (s.1 (C + 11) x.toNat)), (4, vi z1), (0, .ref 142), (1, vi x), (2, vi y), (3, vi u)] [vi z33, vi x, .ref 148] s _
        refine wr_n (pc2 := 50) (lv2 := [(5, vi (s.1 (C + 11) x.toNat)), (4, vi z1), (0, .ref 142), (1, vi x), (2, vi y), (3, vi u)]) (st2 := [vi z33, vi x, .ref 148]) 1 (fun _ _ => rfl) ?_
        refine wr_ast (a := x) (z := z33) rfl (by decide) rfl rfl (by omega) (by omega) (by decide) rfl (show -2147483648 ≤ z33 ∧ z33 ≤ 2147483647 by omega) ?_
        show wr (d + 1) tb_M100 51 [(5, vi (s.1 (C + 11) x.toNat)), (4, vi z1), (0, .ref 142), (1, vi x), (2, vi y), (3, vi u)] [] (up2 s.1 148 x.toNat z33, s.2) _
        have hK35 : KI (up2 s.1 148 x.toNat z33) := (KI_up hK (n0 rfl (by omega) (by omega)) (kb_no rfl))
        refine wr_n (pc2 := 89) (lv2 := [(5, vi (s.1 (C + 11) x.toNat)), (4, vi z1), (0, .ref 142), (1, vi x), (2, vi y), (3, vi u)]) (st2 := []) 1 (fun _ _ => rfl) ?_
        refine wr_end (fun _ _ => rfl) ?_
        exact ⟨hK35, (FX_up FX_rf (by unfold fx; omega)), rfl, rfl⟩
set_option maxHeartbeats 20000000 in
set_option maxRecDepth 100000 in
theorem k_pass_6 {d : Nat} {s0 : rS} {C : Nat} (hC : C = 99 ∨ C = 115)  : ∀ (w : Nat) (l5 : Int) (l4 : Int) (l1 : Int) (l2 : Int) (l3 : Int) (s : rS), (l3 - l5).toNat = w → KI s.1 → s.1 142 0 = (C : Int) → FX s0.1 s.1 → s.2 = s0.2 → 0 ≤ l5 ∧ l5 ≤ 2147483647 → (-2147483648) ≤ l4 ∧ l4 ≤ 2147483647 → (-2147483648) ≤ l1 ∧ l1 ≤ 2147483647 → (-2147483648) ≤ l2 ∧ l2 ≤ 2147483647 → (-2147483648) ≤ l3 ∧ l3 ≤ 2147483647 → wr (d + 2) tb_M98 6 [(5, vi l5), (4, vi l4), (0, .ref 142), (1, vi l1), (2, vi l2), (3, vi l3)] [] s (KV s0) := by
  intro w
  induction w using Nat.strongRecOn with | ind w ih => ?_
  intro l5 l4 l1 l2 l3 s hw hK hq hX hc hl5 hl4 hl1 hl2 hl3
  refine wr_n (pc2 := 9) (lv2 := [(5, vi l5), (4, vi l4), (0, .ref 142), (1, vi l1), (2, vi l2), (3, vi l3)]) (st2 := [vi l3, vi l5]) 2 (fun _ _ => rfl) ?_
  by_cases h1 : l3 ≤ l5
  · refine wr_if2t rfl rfl (by unfold i32; omega) (by unfold i32; omega) h1 ?_
    refine wr_end (fun _ _ => rfl) ?_
    exact ⟨hK, hX, hc, rfl⟩
  · refine wr_if2f rfl rfl (by unfold i32; omega) (by unfold i32; omega) h1 ?_
    refine wr_n (pc2 := 14) (lv2 := [(5, vi l5), (4, vi l4), (0, .ref 142), (1, vi l1), (2, vi l2), (3, vi l3)]) (st2 := [.ref 142, .ref 142]) 2 (fun _ _ => rfl) ?_
    refine wr_get (v := .ref C) rfl rfl rfl (by decide) (rv_ref (show (s.1) 142 0 = ((C : Nat) : Int) from hq)) fun h2 => ?_
    show wr (d + 2) tb_M98 17 [(5, vi l5), (4, vi l4), (0, .ref 142), (1, vi l1), (2, vi l2), (3, vi l3)] [.ref C, .ref 142] s _
    refine wr_n (pc2 := 18) (lv2 := [(5, vi l5), (4, vi l4), (0, .ref 142), (1, vi l1), (2, vi l2), (3, vi l3)]) (st2 := [vi l1, .ref C, .ref 142]) 1 (fun _ _ => rfl) ?_
    refine wr_call1 (args := [vi l1]) (rest := [.ref 142]) rfl rfl rfl (TK0 hC) (Nat.le_of_ble_eq_true rfl) (cr_mono (k_fpar (d := d + 1) (C := C) hC (x := l1) s hK (by omega)) ?_)
    rintro s3 out ⟨z3, rfl, hz3, hp3, e3⟩
    refine ⟨_, rfl, ?_⟩
    rw [e3]
    unfold i32 at hz3
    clear hp3
    show wr (d + 2) tb_M98 21 [(5, vi l5), (4, vi l4), (0, .ref 142), (1, vi l1), (2, vi l2), (3, vi l3)] [vi z3, .ref 142] s _
    refine wr_n (pc2 := 23) (lv2 := [(5, vi l5), (4, vi l4), (0, .ref 142), (1, vi l1), (2, vi l2), (3, vi l3)]) (st2 := [vi l5, vi z3, .ref 142]) 1 (fun _ _ => rfl) ?_
    refine wr_any2 rfl rfl fun z4 h5 => ?_
    unfold i32 at h5
    show wr (d + 2) tb_M98 24 [(5, vi l5), (4, vi l4), (0, .ref 142), (1, vi l1), (2, vi l2), (3, vi l3)] [vi z4, .ref 142] s _
    refine wr_n (pc2 := 28) (lv2 := [(5, vi l5), (4, vi l4), (0, .ref 142), (1, vi l1), (2, vi l2), (3, vi l3)]) (st2 := [vi l4, .ref 142, vi 0, vi z4, .ref 142]) 3 (fun _ _ => rfl) ?_
    refine wr_call1 (args := [vi l4]) (rest := [vi 0, vi z4, .ref 142]) rfl rfl rfl rfl (Nat.le_of_ble_eq_true rfl) (cr_mono (k_val (d := d + 0) (C := C) hC (x := l4) s hK hq (by omega)) ?_)
    rintro s6 out ⟨z6, rfl, hz6, hp6, e6⟩
    refine ⟨_, rfl, ?_⟩
    rw [e6]
    unfold i32 at hz6
    clear hp6
    show wr (d + 2) tb_M98 31 [(5, vi l5), (4, vi l4), (0, .ref 142), (1, vi l1), (2, vi l2), (3, vi l3)] [vi z6, vi 0, vi z4, .ref 142] s _
    refine wr_call1 (args := [vi z4, vi 0, vi z6]) (rest := []) rfl rfl rfl rfl (Nat.le_of_ble_eq_true rfl) (cr_mono (k_assign (d := d + 0) (C := C) hC (x := z4) (y := 0) (u := z6) s hK hq (by omega) (by omega) (by omega)) ?_)
    rintro s7 out ⟨hK7, hY7, hc7, rfl⟩
    refine ⟨_, rfl, ?_⟩
    have hX7 : FX s0.1 s7.1 := FX_tr hX hY7
    have hC7 : s7.2 = s0.2 := hc7.trans hc
    have hq7 : s7.1 142 0 = (C : Int) := (hY7 142 0 (by unfold fx; omega)).trans hq
    show wr (d + 2) tb_M98 34 [(5, vi l5), (4, vi l4), (0, .ref 142), (1, vi l1), (2, vi l2), (3, vi l3)] [] s7 _
    refine wr_n (pc2 := 35) (lv2 := [(5, vi l5), (4, vi l4), (0, .ref 142), (1, vi l1), (2, vi l2), (3, vi l3)]) (st2 := [.ref 142]) 1 (fun _ _ => rfl) ?_
    refine wr_get (v := .ref C) rfl rfl rfl (by decide) (rv_ref (show (s7.1) 142 0 = ((C : Nat) : Int) from hq7)) fun h8 => ?_
    show wr (d + 2) tb_M98 38 [(5, vi l5), (4, vi l4), (0, .ref 142), (1, vi l1), (2, vi l2), (3, vi l3)] [.ref C] s7 _
    refine wr_n (pc2 := 40) (lv2 := [(5, vi l5), (4, vi l4), (0, .ref 142), (1, vi l1), (2, vi l2), (3, vi l3)]) (st2 := [vi l4, .ref C]) 1 (fun _ _ => rfl) ?_
    refine wr_call1 (args := [vi l4]) (rest := []) rfl rfl rfl (TK0 hC) (Nat.le_of_ble_eq_true rfl) (cr_mono (k_follower (d := d + 0) (C := C) hC (x := l4) s7 hK7 (by omega)) ?_)
    rintro s9 out ⟨z9, rfl, hz9, hp9, e9⟩
    refine ⟨_, rfl, ?_⟩
    rw [e9]
    unfold i32 at hz9
    clear hp9
    show wr (d + 2) tb_M98 43 [(5, vi l5), (4, vi l4), (0, .ref 142), (1, vi l1), (2, vi l2), (3, vi l3)] [vi z9] s7 _
    refine wr_n (pc2 := 45) (lv2 := [(4, vi z9), (5, vi l5), (0, .ref 142), (1, vi l1), (2, vi l2), (3, vi l3)]) (st2 := []) 1 (fun _ _ => rfl) ?_
    refine wr_inc (a := l5) rfl rfl ?_
    show wr (d + 2) tb_M98 48 [(5, vi (l5 + 1)), (4, vi z9), (0, .ref 142), (1, vi l1), (2, vi l2), (3, vi l3)] [] s7 _
    refine wr_n (pc2 := 6) (lv2 := [(5, vi (l5 + 1)), (4, vi z9), (0, .ref 142), (1, vi l1), (2, vi l2), (3, vi l3)]) (st2 := []) 1 (fun _ _ => rfl) ?_
    exact ih _ (by omega) (l5 + 1) z9 l1 l2 l3 s7 rfl hK7 hq7 hX7 hC7 (by omega) (by omega) (by omega) (by omega) (by omega)  
set_option maxHeartbeats 20000000 in
set_option maxRecDepth 100000 in
theorem k_pass {d : Nat} {C : Nat} (hC : C = 99 ∨ C = 115)  {x y u : Int} (s : rS) (hK : KI s.1) (hq : s.1 142 0 = (C : Int)) (hx : (-2147483648) ≤ x ∧ x ≤ 2147483647) (hy : (-2147483648) ≤ y ∧ y ≤ 2147483647) (hu : (-2147483648) ≤ u ∧ u ≤ 2147483647)  : cr (d + 3) 98 [.ref 142, vi x, vi y, vi u] s (KV s) := by
  refine cr_of (M := tb_M98) rfl (Nat.le_of_ble_eq_true rfl) ?_
  show wr (d + 2) tb_M98 0 [(0, .ref 142), (1, vi x), (2, vi y), (3, vi u)] [] s _
  refine wr_n (pc2 := 6) (lv2 := [(5, vi 0), (4, vi y), (0, .ref 142), (1, vi x), (2, vi y), (3, vi u)]) (st2 := []) 4 (fun _ _ => rfl) ?_
  exact k_pass_6 hC _ 0 y x y u s rfl hK hq FX_rf rfl (by omega) (by omega) (by omega) (by omega) (by omega)  
set_option maxHeartbeats 20000000 in
set_option maxRecDepth 100000 in
theorem k_askOrTell {d : Nat} {C : Nat} (hC : C = 99 ∨ C = 115)  {x y u : Int} (s : rS) (hK : KI s.1) (hq : s.1 142 0 = (C : Int)) (hx : (-2147483648) ≤ x ∧ x ≤ 2147483647) (hy : (-2147483648) ≤ y ∧ y ≤ 2147483647) (hu : (-2147483648) ≤ u ∧ u ≤ 2147483647)  : cr (d + 3) 102 [.ref 142, vi x, vi y, vi u] s (KV s) := by
  refine cr_of (M := tb_M102) rfl (Nat.le_of_ble_eq_true rfl) ?_
  show wr (d + 2) tb_M102 0 [(0, .ref 142), (1, vi x), (2, vi y), (3, vi u)] [] s _
  refine wr_n (pc2 := 1) (lv2 := [(0, .ref 142), (1, vi x), (2, vi y), (3, vi u)]) (st2 := [vi x]) 1 (fun _ _ => rfl) ?_
  by_cases h1 : x < 0
  · refine wr_if1t rfl rfl (by unfold i32; omega) h1 ?_
    refine wr_n (pc2 := 16) (lv2 := [(0, .ref 142), (1, vi x), (2, vi y), (3, vi u)]) (st2 := [vi u, vi y, .ref 142]) 3 (fun _ _ => rfl) ?_
    refine wr_call1 (args := [vi y, vi u]) (rest := []) rfl rfl rfl rfl (Nat.le_of_ble_eq_true rfl) (cr_mono (k_tell (d := d + 0) (C := C) hC (x := y) (y := u) s hK hq (by omega) (by omega)) ?_)
    rintro s2 out ⟨hK2, hY2, hc2, rfl⟩
    refine ⟨_, rfl, ?_⟩
    have hX2 : FX s.1 s2.1 := FX_tr FX_rf hY2
    have hC2 : s2.2 = s.2 := hc2.trans rfl
    have hq2 : s2.1 142 0 = (C : Int) := (hY2 142 0 (by unfold fx; omega)).trans hq
    show wr (d + 2) tb_M102 19 [(0, .ref 142), (1, vi x), (2, vi y), (3, vi u)] [] s2 _
    refine wr_end (fun _ _ => rfl) ?_
    exact ⟨hK2, hX2, hC2, rfl⟩
  · refine wr_if1f rfl rfl (by unfold i32; omega) h1 ?_
    refine wr_n (pc2 := 7) (lv2 := [(0, .ref 142), (1, vi x), (2, vi y), (3, vi u)]) (st2 := [vi y, vi x, .ref 142]) 3 (fun _ _ => rfl) ?_
    refine wr_call1 (args := [vi x, vi y]) (rest := []) rfl rfl rfl rfl (Nat.le_of_ble_eq_true rfl) (cr_mono (k_ask (d := d + 0) (C := C) hC (x := x) (y := y) s hK hq (by omega) (by omega)) ?_)
    rintro s3 out ⟨hK3, hY3, hc3, rfl⟩
    refine ⟨_, rfl, ?_⟩
    have hX3 : FX s.1 s3.1 := FX_tr FX_rf hY3
    have hC3 : s3.2 = s.2 := hc3.trans rfl
    have hq3 : s3.1 142 0 = (C : Int) := (hY3 142 0 (by unfold fx; omega)).trans hq
    show wr (d + 2) tb_M102 10 [(0, .ref 142), (1, vi x), (2, vi y), (3, vi u)] [] s3 _
    refine wr_n (pc2 := 19) (lv2 := [(0, .ref 142), (1, vi x), (2, vi y), (3, vi u)]) (st2 := []) 1 (fun _ _ => rfl) ?_
    refine wr_end (fun _ _ => rfl) ?_
    exact ⟨hK3, hX3, hC3, rfl⟩
set_option maxHeartbeats 20000000 in
set_option maxRecDepth 100000 in
theorem k_handOver {d : Nat} {C : Nat} (hC : C = 99 ∨ C = 115)  {x y u : Int} (s : rS) (hK : KI s.1) (hq : s.1 142 0 = (C : Int)) (hx : (-2147483648) ≤ x ∧ x ≤ 2147483647) (hy : (-2147483648) ≤ y ∧ y ≤ 2147483647) (hu : (-2147483648) ≤ u ∧ u ≤ 2147483647)  : cr (d + 3) 106 [.ref 142, vi x, vi y, vi u] s (KV s) := by
  refine cr_of (M := tb_M106) rfl (Nat.le_of_ble_eq_true rfl) ?_
  show wr (d + 2) tb_M106 0 [(0, .ref 142), (1, vi x), (2, vi y), (3, vi u)] [] s _
  refine wr_n (pc2 := 1) (lv2 := [(0, .ref 142), (1, vi x), (2, vi y), (3, vi u)]) (st2 := [.ref 142]) 1 (fun _ _ => rfl) ?_
  refine wr_get (v := .ref C) rfl rfl rfl (by decide) (rv_ref (show (s.1) 142 0 = ((C : Nat) : Int) from hq)) fun h1 => ?_
  show wr (d + 2) tb_M106 4 [(0, .ref 142), (1, vi x), (2, vi y), (3, vi u)] [.ref C] s _
  refine wr_n (pc2 := 5) (lv2 := [(0, .ref 142), (1, vi x), (2, vi y), (3, vi u)]) (st2 := [vi y, .ref C]) 1 (fun _ _ => rfl) ?_
  refine wr_call1 (args := [vi y]) (rest := []) rfl rfl rfl (TK0 hC) (Nat.le_of_ble_eq_true rfl) (cr_mono (k_has (d := d + 1) (C := C) hC (x := y) s hK (by omega)) ?_)
  rintro s2 out ⟨z2, rfl, hz2, hp2, e2⟩
  refine ⟨_, rfl, ?_⟩
  rw [e2]
  unfold i32 at hz2
  replace hp2 : z2 = 0 ∨ z2 = 1 ∧ 0 ≤ y ∧ y ≤ 1999 := hp2
  show wr (d + 2) tb_M106 8 [(0, .ref 142), (1, vi x), (2, vi y), (3, vi u)] [vi z2] s _
  by_cases h3 : z2 = 0
  · refine wr_if1t rfl rfl (by unfold i32; omega) h3 ?_
    refine wr_end (fun _ _ => rfl) ?_
    exact ⟨hK, FX_rf, rfl, rfl⟩
  · refine wr_if1f rfl rfl (by unfold i32; omega) h3 ?_
    refine wr_n (pc2 := 13) (lv2 := [(0, .ref 142), (1, vi x), (2, vi y), (3, vi u)]) (st2 := [.ref 142, .ref 142]) 2 (fun _ _ => rfl) ?_
    refine wr_get (v := .ref C) rfl rfl rfl (by decide) (rv_ref (show (s.1) 142 0 = ((C : Nat) : Int) from hq)) fun h4 => ?_
    show wr (d + 2) tb_M106 16 [(0, .ref 142), (1, vi x), (2, vi y), (3, vi u)] [.ref C, .ref 142] s _
    refine wr_get (v := .ref (C + 3)) rfl rfl (TK0 hC) (by decide) (rv_ref (hK.1 C 2 (C + 3) (rcK hC (by omega)))) fun h5 => ?_
    show wr (d + 2) tb_M106 19 [(0, .ref 142), (1, vi x), (2, vi y), (3, vi u)] [.ref (C + 3), .ref 142] s _
    refine wr_n (pc2 := 20) (lv2 := [(0, .ref 142), (1, vi x), (2, vi y), (3, vi u)]) (st2 := [vi y, .ref (C + 3), .ref 142]) 1 (fun _ _ => rfl) ?_
    refine wr_ald (a := y) (v := vi (s.1 (C + 3) y.toNat)) rfl (TK3 hC) rfl (by omega) (by omega) (by decide) rfl fun h6 => ?_
    have h6 : -2147483648 ≤ s.1 (C + 3) y.toNat ∧ s.1 (C + 3) y.toNat ≤ 2147483647 := h6
    show wr (d + 2) tb_M106 21 [(0, .ref 142), (1, vi x), (2, vi y), (3, vi u)] [vi (s.1 (C + 3) y.toNat), .ref 142] s _
    refine wr_n (pc2 := 23) (lv2 := [(0, .ref 142), (1, vi x), (2, vi y), (3, vi u)]) (st2 := [.ref 142, .ref 142, vi (s.1 (C + 3) y.toNat), .ref 142]) 2 (fun _ _ => rfl) ?_
    refine wr_get (v := .ref C) rfl rfl rfl (by decide) (rv_ref (show (s.1) 142 0 = ((C : Nat) : Int) from hq)) fun h7 => ?_
    show wr (d + 2) tb_M106 26 [(0, .ref 142), (1, vi x), (2, vi y), (3, vi u)] [.ref C, .ref 142, vi (s.1 (C + 3) y.toNat), .ref 142] s _
    refine wr_get (v := .ref (C + 4)) rfl rfl (TK0 hC) (by decide) (rv_ref (hK.1 C 3 (C + 4) (rcK hC (by omega)))) fun h8 => ?_
    show wr (d + 2) tb_M106 29 [(0, .ref 142), (1, vi x), (2, vi y), (3, vi u)] [.ref (C + 4), .ref 142, vi (s.1 (C + 3) y.toNat), .ref 142] s _
    refine wr_n (pc2 := 30) (lv2 := [(0, .ref 142), (1, vi x), (2, vi y), (3, vi u)]) (st2 := [vi y, .ref (C + 4), .ref 142, vi (s.1 (C + 3) y.toNat), .ref 142]) 1 (fun _ _ => rfl) ?_
    refine wr_ald (a := y) (v := vi (s.1 (C + 4) y.toNat)) rfl (TK4 hC) rfl (by omega) (by omega) (by decide) rfl fun h9 => ?_
    have h9 : -2147483648 ≤ s.1 (C + 4) y.toNat ∧ s.1 (C + 4) y.toNat ≤ 2147483647 := h9
    show wr (d + 2) tb_M106 31 [(0, .ref 142), (1, vi x), (2, vi y), (3, vi u)] [vi (s.1 (C + 4) y.toNat), .ref 142, vi (s.1 (C + 3) y.toNat), .ref 142] s _
    refine wr_call1 (args := [vi (s.1 (C + 4) y.toNat)]) (rest := [vi (s.1 (C + 3) y.toNat), .ref 142]) rfl rfl rfl rfl (Nat.le_of_ble_eq_true rfl) (cr_mono (k_val (d := d + 0) (C := C) hC (x := s.1 (C + 4) y.toNat) s hK hq (by omega)) ?_)
    rintro s10 out ⟨z10, rfl, hz10, hp10, e10⟩
    refine ⟨_, rfl, ?_⟩
    rw [e10]
    unfold i32 at hz10
    clear hp10
    show wr (d + 2) tb_M106 34 [(0, .ref 142), (1, vi x), (2, vi y), (3, vi u)] [vi z10, vi (s.1 (C + 3) y.toNat), .ref 142] s _
    refine wr_n (pc2 := 35) (lv2 := [(0, .ref 142), (1, vi x), (2, vi y), (3, vi u)]) (st2 := [vi u, vi z10, vi (s.1 (C + 3) y.toNat), .ref 142]) 1 (fun _ _ => rfl) ?_
    refine wr_call1 (args := [vi (s.1 (C + 3) y.toNat), vi z10, vi u]) (rest := []) rfl rfl rfl rfl (Nat.le_of_ble_eq_true rfl) (cr_mono (k_assign (d := d + 0) (C := C) hC (x := s.1 (C + 3) y.toNat) (y := z10) (u := u) s hK hq (by omega) (by omega) (by omega)) ?_)
    rintro s11 out ⟨hK11, hY11, hc11, rfl⟩
    refine ⟨_, rfl, ?_⟩
    have hX11 : FX s.1 s11.1 := FX_tr FX_rf hY11
    have hC11 : s11.2 = s.2 := hc11.trans rfl
    have hq11 : s11.1 142 0 = (C : Int) := (hY11 142 0 (by unfold fx; omega)).trans hq
    show wr (d + 2) tb_M106 38 [(0, .ref 142), (1, vi x), (2, vi y), (3, vi u)] [] s11 _
    refine wr_n (pc2 := 41) (lv2 := [(0, .ref 142), (1, vi x), (2, vi y), (3, vi u)]) (st2 := [vi 0, vi x, .ref 142]) 3 (fun _ _ => rfl) ?_
    refine wr_call1 (args := [vi x, vi 0]) (rest := []) rfl rfl rfl rfl (Nat.le_of_ble_eq_true rfl) (cr_mono (k_tell (d := d + 0) (C := C) hC (x := x) (y := 0) s11 hK11 hq11 (by omega) (by omega)) ?_)
    rintro s12 out ⟨hK12, hY12, hc12, rfl⟩
    refine ⟨_, rfl, ?_⟩
    have hX12 : FX s.1 s12.1 := FX_tr hX11 hY12
    have hC12 : s12.2 = s.2 := hc12.trans hC11
    have hq12 : s12.1 142 0 = (C : Int) := (hY12 142 0 (by unfold fx; omega)).trans hq11
    show wr (d + 2) tb_M106 44 [(0, .ref 142), (1, vi x), (2, vi y), (3, vi u)] [] s12 _
    refine wr_n (pc2 := 47) (lv2 := [(0, .ref 142), (1, vi x), (2, vi y), (3, vi u)]) (st2 := [vi 0, vi y, .ref 142]) 3 (fun _ _ => rfl) ?_
    refine wr_call1 (args := [vi y, vi 0]) (rest := []) rfl rfl rfl rfl (Nat.le_of_ble_eq_true rfl) (cr_mono (k_tell (d := d + 0) (C := C) hC (x := y) (y := 0) s12 hK12 hq12 (by omega) (by omega)) ?_)
    rintro s13 out ⟨hK13, hY13, hc13, rfl⟩
    refine ⟨_, rfl, ?_⟩
    have hX13 : FX s.1 s13.1 := FX_tr hX12 hY13
    have hC13 : s13.2 = s.2 := hc13.trans hC12
    have hq13 : s13.1 142 0 = (C : Int) := (hY13 142 0 (by unfold fx; omega)).trans hq12
    show wr (d + 2) tb_M106 50 [(0, .ref 142), (1, vi x), (2, vi y), (3, vi u)] [] s13 _
    refine wr_end (fun _ _ => rfl) ?_
    exact ⟨hK13, hX13, hC13, rfl⟩
set_option maxHeartbeats 20000000 in
set_option maxRecDepth 100000 in
theorem k_sendOrWait {d : Nat} {C : Nat} (hC : C = 99 ∨ C = 115)  {x y u : Int} (s : rS) (hK : KI s.1) (hq : s.1 142 0 = (C : Int)) (hx : 0 ≤ x ∧ x ≤ 1999) (hy : (-2147483648) ≤ y ∧ y ≤ 2147483647) (hu : (-2147483648) ≤ u ∧ u ≤ 2147483647)  : cr (d + 4) 104 [.ref 142, vi x, vi y, vi u] s (KV s) := by
  refine cr_of (M := tb_M104) rfl (Nat.le_of_ble_eq_true rfl) ?_
  show wr (d + 3) tb_M104 0 [(0, .ref 142), (1, vi x), (2, vi y), (3, vi u)] [] s _
  refine wr_n (pc2 := 1) (lv2 := [(0, .ref 142), (1, vi x), (2, vi y), (3, vi u)]) (st2 := [vi y]) 1 (fun _ _ => rfl) ?_
  by_cases h1 : y < 0
  · refine wr_if1t rfl rfl (by unfold i32; omega) h1 ?_
    refine wr_end (fun _ _ => rfl) ?_
    exact ⟨hK, FX_rf, rfl, rfl⟩
  · refine wr_if1f rfl rfl (by unfold i32; omega) h1 ?_
    refine wr_n (pc2 := 7) (lv2 := [(0, .ref 142), (1, vi x), (2, vi y), (3, vi u)]) (st2 := [vi 12, vi y]) 2 (fun _ _ => rfl) ?_
    by_cases h2 : y < 12
    · refine wr_if2t rfl rfl (by unfold i32; omega) (by unfold i32; omega) h2 ?_
      refine wr_n (pc2 := 14) (lv2 := [(0, .ref 142), (1, vi x), (2, vi y), (3, vi u)]) (st2 := [vi 8, vi y]) 2 (fun _ _ => rfl) ?_
      by_cases h3 : y < 8
      · refine wr_if2t rfl rfl (by unfold i32; omega) (by unfold i32; omega) h3 ?_
        refine wr_n (pc2 := 54) (lv2 := [(0, .ref 142), (1, vi x), (2, vi y), (3, vi u)]) (st2 := [.ref 142]) 1 (fun _ _ => rfl) ?_
        refine wr_get (v := .ref 153) rfl rfl rfl (by decide) (rv_ref (hK.1 142 12 153 rfl)) fun h4 => ?_
        show wr (d + 3) tb_M104 57 [(0, .ref 142), (1, vi x), (2, vi y), (3, vi u)] [.ref 153] s _
        refine wr_n (pc2 := 58) (lv2 := [(0, .ref 142), (1, vi x), (2, vi y), (3, vi u)]) (st2 := [vi y, .ref 153]) 1 (fun _ _ => rfl) ?_
        refine wr_ald (a := y) (v := vi (s.1 153 y.toNat)) rfl rfl rfl (by omega) (by omega) (by decide) rfl fun h5 => ?_
        have h5 : -2147483648 ≤ s.1 153 y.toNat ∧ s.1 153 y.toNat ≤ 2147483647 := h5
        show wr (d + 3) tb_M104 59 [(0, .ref 142), (1, vi x), (2, vi y), (3, vi u)] [vi (s.1 153 y.toNat)] s _
        have hb6 : (-1) ≤ s.1 153 y.toNat ∧ s.1 153 y.toNat ≤ 1999 := kb_to rfl (hK.2 153 y.toNat)
        by_cases h7 : s.1 153 y.toNat < 0
        · refine wr_if1t rfl rfl (by unfold i32; omega) h7 ?_
          refine wr_n (pc2 := 85) (lv2 := [(0, .ref 142), (1, vi x), (2, vi y), (3, vi u)]) (st2 := [.ref 142]) 1 (fun _ _ => rfl) ?_
          refine wr_get (v := .ref 152) rfl rfl rfl (by decide) (rv_ref (hK.1 142 11 152 rfl)) fun h8 => ?_
          show wr (d + 3) tb_M104 88 [(0, .ref 142), (1, vi x), (2, vi y), (3, vi u)] [.ref 152] s _
          refine wr_n (pc2 := 90) (lv2 := [(0, .ref 142), (1, vi x), (2, vi y), (3, vi u)]) (st2 := [vi x, vi y, .ref 152]) 2 (fun _ _ => rfl) ?_
          refine wr_ast (a := y) (z := x) rfl (by decide) rfl rfl (by omega) (by omega) (by decide) rfl (show -2147483648 ≤ x ∧ x ≤ 2147483647 by omega) ?_
          show wr (d + 3) tb_M104 91 [(0, .ref 142), (1, vi x), (2, vi y), (3, vi u)] [] (up2 s.1 152 y.toNat x, s.2) _
          have hK9 : KI (up2 s.1 152 y.toNat x) := (KI_up hK (n0 rfl (by omega) (by omega)) (kb_of rfl (show (-1) ≤ x ∧ x ≤ 1999 by omega)))
          refine wr_end (fun _ _ => rfl) ?_
          exact ⟨hK9, (FX_up FX_rf (by unfold fx; omega)), rfl, rfl⟩
        · refine wr_if1f rfl rfl (by unfold i32; omega) h7 ?_
          refine wr_n (pc2 := 65) (lv2 := [(0, .ref 142), (1, vi x), (2, vi y), (3, vi u)]) (st2 := [.ref 142, vi x, .ref 142]) 3 (fun _ _ => rfl) ?_
          refine wr_get (v := .ref 153) rfl rfl rfl (by decide) (rv_ref (hK.1 142 12 153 rfl)) fun h10 => ?_
          show wr (d + 3) tb_M104 68 [(0, .ref 142), (1, vi x), (2, vi y), (3, vi u)] [.ref 153, vi x, .ref 142] s _
          refine wr_n (pc2 := 69) (lv2 := [(0, .ref 142), (1, vi x), (2, vi y), (3, vi u)]) (st2 := [vi y, .ref 153, vi x, .ref 142]) 1 (fun _ _ => rfl) ?_
          refine wr_ald (a := y) (v := vi (s.1 153 y.toNat)) rfl rfl rfl (by omega) (by omega) (by decide) rfl fun h11 => ?_
          have h11 : -2147483648 ≤ s.1 153 y.toNat ∧ s.1 153 y.toNat ≤ 2147483647 := h11
          show wr (d + 3) tb_M104 70 [(0, .ref 142), (1, vi x), (2, vi y), (3, vi u)] [vi (s.1 153 y.toNat), vi x, .ref 142] s _
          have hb12 : (-1) ≤ s.1 153 y.toNat ∧ s.1 153 y.toNat ≤ 1999 := kb_to rfl (hK.2 153 y.toNat)
          refine wr_n (pc2 := 71) (lv2 := [(0, .ref 142), (1, vi x), (2, vi y), (3, vi u)]) (st2 := [vi u, vi (s.1 153 y.toNat), vi x, .ref 142]) 1 (fun _ _ => rfl) ?_
          refine wr_call1 (args := [vi x, vi (s.1 153 y.toNat), vi u]) (rest := []) rfl rfl rfl rfl (Nat.le_of_ble_eq_true rfl) (cr_mono (k_handOver (d := d + 0) (C := C) hC (x := x) (y := s.1 153 y.toNat) (u := u) s hK hq (by omega) (by omega) (by omega)) ?_)
          rintro s13 out ⟨hK13, hY13, hc13, rfl⟩
          refine ⟨_, rfl, ?_⟩
          have hX13 : FX s.1 s13.1 := FX_tr FX_rf hY13
          have hC13 : s13.2 = s.2 := hc13.trans rfl
          have hq13 : s13.1 142 0 = (C : Int) := (hY13 142 0 (by unfold fx; omega)).trans hq
          show wr (d + 3) tb_M104 74 [(0, .ref 142), (1, vi x), (2, vi y), (3, vi u)] [] s13 _
          refine wr_n (pc2 := 75) (lv2 := [(0, .ref 142), (1, vi x), (2, vi y), (3, vi u)]) (st2 := [.ref 142]) 1 (fun _ _ => rfl) ?_
          refine wr_get (v := .ref 153) rfl rfl rfl (by decide) (rv_ref (hK13.1 142 12 153 rfl)) fun h14 => ?_
          show wr (d + 3) tb_M104 78 [(0, .ref 142), (1, vi x), (2, vi y), (3, vi u)] [.ref 153] s13 _
          refine wr_n (pc2 := 80) (lv2 := [(0, .ref 142), (1, vi x), (2, vi y), (3, vi u)]) (st2 := [vi ((-1)), vi y, .ref 153]) 2 (fun _ _ => rfl) ?_
          refine wr_ast (a := y) (z := (-1)) rfl (by decide) rfl rfl (by omega) (by omega) (by decide) rfl (show -2147483648 ≤ (-1) ∧ (-1) ≤ 2147483647 by omega) ?_
          show wr (d + 3) tb_M104 81 [(0, .ref 142), (1, vi x), (2, vi y), (3, vi u)] [] (up2 s13.1 153 y.toNat ((-1)), s13.2) _
          have hK15 : KI (up2 s13.1 153 y.toNat ((-1))) := (KI_up hK13 (n0 rfl (by omega) (by omega)) (kb_of rfl (show (-1) ≤ (-1) ∧ (-1) ≤ 1999 by omega)))
          refine wr_n (pc2 := 91) (lv2 := [(0, .ref 142), (1, vi x), (2, vi y), (3, vi u)]) (st2 := []) 1 (fun _ _ => rfl) ?_
          refine wr_end (fun _ _ => rfl) ?_
          exact ⟨hK15, (FX_up hX13 (by unfold fx; omega)), hC13, rfl⟩
      · refine wr_if2f rfl rfl (by unfold i32; omega) (by unfold i32; omega) h3 ?_
        refine wr_n (pc2 := 18) (lv2 := [(0, .ref 142), (1, vi x), (2, vi y), (3, vi u)]) (st2 := [.ref 142]) 1 (fun _ _ => rfl) ?_
        refine wr_get (v := .ref 151) rfl rfl rfl (by decide) (rv_ref (hK.1 142 10 151 rfl)) fun h16 => ?_
        show wr (d + 3) tb_M104 21 [(0, .ref 142), (1, vi x), (2, vi y), (3, vi u)] [.ref 151] s _
        refine wr_n (pc2 := 24) (lv2 := [(0, .ref 142), (1, vi x), (2, vi y), (3, vi u)]) (st2 := [vi 8, vi y, .ref 151]) 2 (fun _ _ => rfl) ?_
        refine wr_sub (a := y) (b := 8) rfl ?_
        show wr (d + 3) tb_M104 25 [(0, .ref 142), (1, vi x), (2, vi y), (3, vi u)] [vi (y - 8), .ref 151] s _
        refine wr_ald (a := y - 8) (v := .ref (162 + 2 * ((y - 8).toNat))) rfl rfl rfl (by omega) (by omega) (by decide) (rv_ref (hK.1 151 ((y - 8).toNat) (162 + 2 * ((y - 8).toNat)) (r_outs (by omega)))) fun h17 => ?_
        show wr (d + 3) tb_M104 26 [(0, .ref 142), (1, vi x), (2, vi y), (3, vi u)] [.ref (162 + 2 * ((y - 8).toNat))] s _
        refine wr_n (pc2 := 27) (lv2 := [(0, .ref 142), (1, vi x), (2, vi y), (3, vi u)]) (st2 := [vi u, .ref (162 + 2 * ((y - 8).toNat))]) 1 (fun _ _ => rfl) ?_
        refine wr_anyu rfl (fun x => ⟨_, rfl⟩) fun z18 h19 => ?_
        unfold i32 at h19
        show wr (d + 3) tb_M104 28 [(0, .ref 142), (1, vi x), (2, vi y), (3, vi u)] [vi z18, .ref (162 + 2 * ((y - 8).toNat))] s _
        refine wr_call1 (args := [vi z18]) (rest := []) rfl rfl rfl (TQ0 (isQ_out (by omega))) (Nat.le_of_ble_eq_true rfl) (cr_mono (k_qadd (d := d + 2) (Q := 162 + 2 * ((y - 8).toNat)) (isQ_out (by omega)) (x := z18) s hK (by omega)) ?_)
        rintro s20 out ⟨hK20, hY20, hc20, z20, rfl, hz20, hp20⟩
        refine ⟨_, rfl, ?_⟩
        have hX20 : FX s.1 s20.1 := FX_tr FX_rf hY20
        have hC20 : s20.2 = s.2 := hc20.trans rfl
        have hq20 : s20.1 142 0 = (C : Int) := (hY20 142 0 (by unfold fx; omega)).trans hq
        unfold i32 at hz20
        clear hp20
        show wr (d + 3) tb_M104 31 [(0, .ref 142), (1, vi x), (2, vi y), (3, vi u)] [vi z20] s20 _
        by_cases h21 : z20 = 0
        · refine wr_if1t rfl rfl (by unfold i32; omega) h21 ?_
          refine wr_n (pc2 := 44) (lv2 := [(0, .ref 142), (1, vi x), (2, vi y), (3, vi u)]) (st2 := [.ref 142]) 1 (fun _ _ => rfl) ?_
          refine wr_get (v := .ref 152) rfl rfl rfl (by decide) (rv_ref (hK20.1 142 11 152 rfl)) fun h22 => ?_
          show wr (d + 3) tb_M104 47 [(0, .ref 142), (1, vi x), (2, vi y), (3, vi u)] [.ref 152] s20 _
          refine wr_n (pc2 := 49) (lv2 := [(0, .ref 142), (1, vi x), (2, vi y), (3, vi u)]) (st2 := [vi x, vi y, .ref 152]) 2 (fun _ _ => rfl) ?_
          refine wr_ast (a := y) (z := x) rfl (by decide) rfl rfl (by omega) (by omega) (by decide) rfl (show -2147483648 ≤ x ∧ x ≤ 2147483647 by omega) ?_
          show wr (d + 3) tb_M104 50 [(0, .ref 142), (1, vi x), (2, vi y), (3, vi u)] [] (up2 s20.1 152 y.toNat x, s20.2) _
          have hK23 : KI (up2 s20.1 152 y.toNat x) := (KI_up hK20 (n0 rfl (by omega) (by omega)) (kb_of rfl (show (-1) ≤ x ∧ x ≤ 1999 by omega)))
          refine wr_n (pc2 := 91) (lv2 := [(0, .ref 142), (1, vi x), (2, vi y), (3, vi u)]) (st2 := []) 1 (fun _ _ => rfl) ?_
          refine wr_end (fun _ _ => rfl) ?_
          exact ⟨hK23, (FX_up hX20 (by unfold fx; omega)), hC20, rfl⟩
        · refine wr_if1f rfl rfl (by unfold i32; omega) h21 ?_
          refine wr_n (pc2 := 37) (lv2 := [(0, .ref 142), (1, vi x), (2, vi y), (3, vi u)]) (st2 := [vi 0, vi x, .ref 142]) 3 (fun _ _ => rfl) ?_
          refine wr_call1 (args := [vi x, vi 0]) (rest := []) rfl rfl rfl rfl (Nat.le_of_ble_eq_true rfl) (cr_mono (k_tell (d := d + 1) (C := C) hC (x := x) (y := 0) s20 hK20 hq20 (by omega) (by omega)) ?_)
          rintro s24 out ⟨hK24, hY24, hc24, rfl⟩
          refine ⟨_, rfl, ?_⟩
          have hX24 : FX s.1 s24.1 := FX_tr hX20 hY24
          have hC24 : s24.2 = s.2 := hc24.trans hC20
          have hq24 : s24.1 142 0 = (C : Int) := (hY24 142 0 (by unfold fx; omega)).trans hq20
          show wr (d + 3) tb_M104 40 [(0, .ref 142), (1, vi x), (2, vi y), (3, vi u)] [] s24 _
          refine wr_n (pc2 := 91) (lv2 := [(0, .ref 142), (1, vi x), (2, vi y), (3, vi u)]) (st2 := []) 1 (fun _ _ => rfl) ?_
          refine wr_end (fun _ _ => rfl) ?_
          exact ⟨hK24, hX24, hC24, rfl⟩
    · refine wr_if2f rfl rfl (by unfold i32; omega) (by unfold i32; omega) h2 ?_
      refine wr_end (fun _ _ => rfl) ?_
      exact ⟨hK, FX_rf, rfl, rfl⟩
set_option maxHeartbeats 20000000 in
set_option maxRecDepth 100000 in
theorem k_receiveOrWait {d : Nat} {C : Nat} (hC : C = 99 ∨ C = 115)  {x y : Int} (s : rS) (hK : KI s.1) (hq : s.1 142 0 = (C : Int)) (hx : 0 ≤ x ∧ x ≤ 1999) (hy : (-2147483648) ≤ y ∧ y ≤ 2147483647)  : cr (d + 4) 107 [.ref 142, vi x, vi y] s (KV s) := by
  refine cr_of (M := tb_M107) rfl (Nat.le_of_ble_eq_true rfl) ?_
  show wr (d + 3) tb_M107 0 [(0, .ref 142), (1, vi x), (2, vi y)] [] s _
  refine wr_n (pc2 := 1) (lv2 := [(0, .ref 142), (1, vi x), (2, vi y)]) (st2 := [vi y]) 1 (fun _ _ => rfl) ?_
  by_cases h1 : y < 0
  · refine wr_if1t rfl rfl (by unfold i32; omega) h1 ?_
    refine wr_end (fun _ _ => rfl) ?_
    exact ⟨hK, FX_rf, rfl, rfl⟩
  · refine wr_if1f rfl rfl (by unfold i32; omega) h1 ?_
    refine wr_n (pc2 := 7) (lv2 := [(0, .ref 142), (1, vi x), (2, vi y)]) (st2 := [vi 12, vi y]) 2 (fun _ _ => rfl) ?_
    by_cases h2 : y < 12
    · refine wr_if2t rfl rfl (by unfold i32; omega) (by unfold i32; omega) h2 ?_
      refine wr_n (pc2 := 14) (lv2 := [(0, .ref 142), (1, vi x), (2, vi y)]) (st2 := [vi 8, vi y]) 2 (fun _ _ => rfl) ?_
      by_cases h3 : y < 8
      · refine wr_if2t rfl rfl (by unfold i32; omega) (by unfold i32; omega) h3 ?_
        refine wr_n (pc2 := 84) (lv2 := [(0, .ref 142), (1, vi x), (2, vi y)]) (st2 := [.ref 142]) 1 (fun _ _ => rfl) ?_
        refine wr_get (v := .ref 152) rfl rfl rfl (by decide) (rv_ref (hK.1 142 11 152 rfl)) fun h4 => ?_
        show wr (d + 3) tb_M107 87 [(0, .ref 142), (1, vi x), (2, vi y)] [.ref 152] s _
        refine wr_n (pc2 := 88) (lv2 := [(0, .ref 142), (1, vi x), (2, vi y)]) (st2 := [vi y, .ref 152]) 1 (fun _ _ => rfl) ?_
        refine wr_ald (a := y) (v := vi (s.1 152 y.toNat)) rfl rfl rfl (by omega) (by omega) (by decide) rfl fun h5 => ?_
        have h5 : -2147483648 ≤ s.1 152 y.toNat ∧ s.1 152 y.toNat ≤ 2147483647 := h5
        show wr (d + 3) tb_M107 89 [(0, .ref 142), (1, vi x), (2, vi y)] [vi (s.1 152 y.toNat)] s _
        have hb6 : (-1) ≤ s.1 152 y.toNat ∧ s.1 152 y.toNat ≤ 1999 := kb_to rfl (hK.2 152 y.toNat)
        by_cases h7 : s.1 152 y.toNat < 0
        · refine wr_if1t rfl rfl (by unfold i32; omega) h7 ?_
          refine wr_n (pc2 := 132) (lv2 := [(0, .ref 142), (1, vi x), (2, vi y)]) (st2 := [.ref 142]) 1 (fun _ _ => rfl) ?_
          refine wr_get (v := .ref 153) rfl rfl rfl (by decide) (rv_ref (hK.1 142 12 153 rfl)) fun h8 => ?_
          show wr (d + 3) tb_M107 135 [(0, .ref 142), (1, vi x), (2, vi y)] [.ref 153] s _
          refine wr_n (pc2 := 137) (lv2 := [(0, .ref 142), (1, vi x), (2, vi y)]) (st2 := [vi x, vi y, .ref 153]) 2 (fun _ _ => rfl) ?_
          refine wr_ast (a := y) (z := x) rfl (by decide) rfl rfl (by omega) (by omega) (by decide) rfl (show -2147483648 ≤ x ∧ x ≤ 2147483647 by omega) ?_
          show wr (d + 3) tb_M107 138 [(0, .ref 142), (1, vi x), (2, vi y)] [] (up2 s.1 153 y.toNat x, s.2) _
          have hK9 : KI (up2 s.1 153 y.toNat x) := (KI_up hK (n0 rfl (by omega) (by omega)) (kb_of rfl (show (-1) ≤ x ∧ x ≤ 1999 by omega)))
          refine wr_end (fun _ _ => rfl) ?_
          exact ⟨hK9, (FX_up FX_rf (by unfold fx; omega)), rfl, rfl⟩
        · refine wr_if1f rfl rfl (by unfold i32; omega) h7 ?_
          refine wr_n (pc2 := 94) (lv2 := [(0, .ref 142), (1, vi x), (2, vi y)]) (st2 := [.ref 142, .ref 142]) 2 (fun _ _ => rfl) ?_
          refine wr_get (v := .ref 152) rfl rfl rfl (by decide) (rv_ref (hK.1 142 11 152 rfl)) fun h10 => ?_
          show wr (d + 3) tb_M107 97 [(0, .ref 142), (1, vi x), (2, vi y)] [.ref 152, .ref 142] s _
          refine wr_n (pc2 := 98) (lv2 := [(0, .ref 142), (1, vi x), (2, vi y)]) (st2 := [vi y, .ref 152, .ref 142]) 1 (fun _ _ => rfl) ?_
          refine wr_ald (a := y) (v := vi (s.1 152 y.toNat)) rfl rfl rfl (by omega) (by omega) (by decide) rfl fun h11 => ?_
          have h11 : -2147483648 ≤ s.1 152 y.toNat ∧ s.1 152 y.toNat ≤ 2147483647 := h11
          show wr (d + 3) tb_M107 99 [(0, .ref 142), (1, vi x), (2, vi y)] [vi (s.1 152 y.toNat), .ref 142] s _
          have hb12 : (-1) ≤ s.1 152 y.toNat ∧ s.1 152 y.toNat ≤ 1999 := kb_to rfl (hK.2 152 y.toNat)
          refine wr_n (pc2 := 102) (lv2 := [(0, .ref 142), (1, vi x), (2, vi y)]) (st2 := [.ref 142, .ref 142, vi x, vi (s.1 152 y.toNat), .ref 142]) 3 (fun _ _ => rfl) ?_
          refine wr_get (v := .ref C) rfl rfl rfl (by decide) (rv_ref (show (s.1) 142 0 = ((C : Nat) : Int) from hq)) fun h13 => ?_
          show wr (d + 3) tb_M107 105 [(0, .ref 142), (1, vi x), (2, vi y)] [.ref C, .ref 142, vi x, vi (s.1 152 y.toNat), .ref 142] s _
          refine wr_get (v := .ref (C + 3)) rfl rfl (TK0 hC) (by decide) (rv_ref (hK.1 C 2 (C + 3) (rcK hC (by omega)))) fun h14 => ?_
          show wr (d + 3) tb_M107 108 [(0, .ref 142), (1, vi x), (2, vi y)] [.ref (C + 3), .ref 142, vi x, vi (s.1 152 y.toNat), .ref 142] s _
          refine wr_n (pc2 := 109) (lv2 := [(0, .ref 142), (1, vi x), (2, vi y)]) (st2 := [.ref 142, .ref (C + 3), .ref 142, vi x, vi (s.1 152 y.toNat), .ref 142]) 1 (fun _ _ => rfl) ?_
          refine wr_get (v := .ref 152) rfl rfl rfl (by decide) (rv_ref (hK.1 142 11 152 rfl)) fun h15 => ?_
          show wr (d + 3) tb_M107 112 [(0, .ref 142), (1, vi x), (2, vi y)] [.ref 152, .ref (C + 3), .ref 142, vi x, vi (s.1 152 y.toNat), .ref 142] s _
          refine wr_n (pc2 := 113) (lv2 := [(0, .ref 142), (1, vi x), (2, vi y)]) (st2 := [vi y, .ref 152, .ref (C + 3), .ref 142, vi x, vi (s.1 152 y.toNat), .ref 142]) 1 (fun _ _ => rfl) ?_
          refine wr_ald (a := y) (v := vi (s.1 152 y.toNat)) rfl rfl rfl (by omega) (by omega) (by decide) rfl fun h16 => ?_
          have h16 : -2147483648 ≤ s.1 152 y.toNat ∧ s.1 152 y.toNat ≤ 2147483647 := h16
          show wr (d + 3) tb_M107 114 [(0, .ref 142), (1, vi x), (2, vi y)] [vi (s.1 152 y.toNat), .ref (C + 3), .ref 142, vi x, vi (s.1 152 y.toNat), .ref 142] s _
          have hb17 : (-1) ≤ s.1 152 y.toNat ∧ s.1 152 y.toNat ≤ 1999 := kb_to rfl (hK.2 152 y.toNat)
          refine wr_ald (a := s.1 152 y.toNat) (v := vi (s.1 (C + 3) ((s.1 152 y.toNat).toNat))) rfl (TK3 hC) rfl (by omega) (by omega) (by decide) rfl fun h18 => ?_
          have h18 : -2147483648 ≤ s.1 (C + 3) ((s.1 152 y.toNat).toNat) ∧ s.1 (C + 3) ((s.1 152 y.toNat).toNat) ≤ 2147483647 := h18
          show wr (d + 3) tb_M107 115 [(0, .ref 142), (1, vi x), (2, vi y)] [vi (s.1 (C + 3) ((s.1 152 y.toNat).toNat)), .ref 142, vi x, vi (s.1 152 y.toNat), .ref 142] s _
          refine wr_call1 (args := [vi (s.1 (C + 3) ((s.1 152 y.toNat).toNat))]) (rest := [vi x, vi (s.1 152 y.toNat), .ref 142]) rfl rfl rfl rfl (Nat.le_of_ble_eq_true rfl) (cr_mono (k_val (d := d + 1) (C := C) hC (x := s.1 (C + 3) ((s.1 152 y.toNat).toNat)) s hK hq (by omega)) ?_)
          rintro s19 out ⟨z19, rfl, hz19, hp19, e19⟩
          refine ⟨_, rfl, ?_⟩
          rw [e19]
          unfold i32 at hz19
          clear hp19
          show wr (d + 3) tb_M107 118 [(0, .ref 142), (1, vi x), (2, vi y)] [vi z19, vi x, vi (s.1 152 y.toNat), .ref 142] s _
          refine wr_call1 (args := [vi (s.1 152 y.toNat), vi x, vi z19]) (rest := []) rfl rfl rfl rfl (Nat.le_of_ble_eq_true rfl) (cr_mono (k_handOver (d := d + 0) (C := C) hC (x := s.1 152 y.toNat) (y := x) (u := z19) s hK hq (by omega) (by omega) (by omega)) ?_)
          rintro s20 out ⟨hK20, hY20, hc20, rfl⟩
          refine ⟨_, rfl, ?_⟩
          have hX20 : FX s.1 s20.1 := FX_tr FX_rf hY20
          have hC20 : s20.2 = s.2 := hc20.trans rfl
          have hq20 : s20.1 142 0 = (C : Int) := (hY20 142 0 (by unfold fx; omega)).trans hq
          show wr (d + 3) tb_M107 121 [(0, .ref 142), (1, vi x), (2, vi y)] [] s20 _
          refine wr_n (pc2 := 122) (lv2 := [(0, .ref 142), (1, vi x), (2, vi y)]) (st2 := [.ref 142]) 1 (fun _ _ => rfl) ?_
          refine wr_get (v := .ref 152) rfl rfl rfl (by decide) (rv_ref (hK20.1 142 11 152 rfl)) fun h21 => ?_
          show wr (d + 3) tb_M107 125 [(0, .ref 142), (1, vi x), (2, vi y)] [.ref 152] s20 _
          refine wr_n (pc2 := 127) (lv2 := [(0, .ref 142), (1, vi x), (2, vi y)]) (st2 := [vi ((-1)), vi y, .ref 152]) 2 (fun _ _ => rfl) ?_
          refine wr_ast (a := y) (z := (-1)) rfl (by decide) rfl rfl (by omega) (by omega) (by decide) rfl (show -2147483648 ≤ (-1) ∧ (-1) ≤ 2147483647 by omega) ?_
          show wr (d + 3) tb_M107 128 [(0, .ref 142), (1, vi x), (2, vi y)] [] (up2 s20.1 152 y.toNat ((-1)), s20.2) _
          have hK22 : KI (up2 s20.1 152 y.toNat ((-1))) := (KI_up hK20 (n0 rfl (by omega) (by omega)) (kb_of rfl (show (-1) ≤ (-1) ∧ (-1) ≤ 1999 by omega)))
          refine wr_n (pc2 := 138) (lv2 := [(0, .ref 142), (1, vi x), (2, vi y)]) (st2 := []) 1 (fun _ _ => rfl) ?_
          refine wr_end (fun _ _ => rfl) ?_
          exact ⟨hK22, (FX_up hX20 (by unfold fx; omega)), hC20, rfl⟩
      · refine wr_if2f rfl rfl (by unfold i32; omega) (by unfold i32; omega) h3 ?_
        refine wr_n (pc2 := 18) (lv2 := [(0, .ref 142), (1, vi x), (2, vi y)]) (st2 := [.ref 142]) 1 (fun _ _ => rfl) ?_
        refine wr_get (v := .ref 150) rfl rfl rfl (by decide) (rv_ref (hK.1 142 9 150 rfl)) fun h23 => ?_
        show wr (d + 3) tb_M107 21 [(0, .ref 142), (1, vi x), (2, vi y)] [.ref 150] s _
        refine wr_n (pc2 := 24) (lv2 := [(0, .ref 142), (1, vi x), (2, vi y)]) (st2 := [vi 8, vi y, .ref 150]) 2 (fun _ _ => rfl) ?_
        refine wr_sub (a := y) (b := 8) rfl ?_
        show wr (d + 3) tb_M107 25 [(0, .ref 142), (1, vi x), (2, vi y)] [vi (y - 8), .ref 150] s _
        refine wr_ald (a := y - 8) (v := .ref (154 + 2 * ((y - 8).toNat))) rfl rfl rfl (by omega) (by omega) (by decide) (rv_ref (hK.1 150 ((y - 8).toNat) (154 + 2 * ((y - 8).toNat)) (r_ins (by omega)))) fun h24 => ?_
        show wr (d + 3) tb_M107 26 [(0, .ref 142), (1, vi x), (2, vi y)] [.ref (154 + 2 * ((y - 8).toNat))] s _
        refine wr_n (pc2 := 28) (lv2 := [(3, .ref (154 + 2 * ((y - 8).toNat))), (0, .ref 142), (1, vi x), (2, vi y)]) (st2 := [.ref (154 + 2 * ((y - 8).toNat))]) 2 (fun _ _ => rfl) ?_
        refine wr_get (v := vi (s.1 (154 + 2 * ((y - 8).toNat)) 2)) rfl rfl (TQ0 (isQ_in (by omega))) (by decide) rfl fun h25 => ?_
        have h25 : -2147483648 ≤ s.1 (154 + 2 * ((y - 8).toNat)) 2 ∧ s.1 (154 + 2 * ((y - 8).toNat)) 2 ≤ 2147483647 := h25
        show wr (d + 3) tb_M107 31 [(3, .ref (154 + 2 * ((y - 8).toNat))), (0, .ref 142), (1, vi x), (2, vi y)] [vi (s.1 (154 + 2 * ((y - 8).toNat)) 2)] s _
        have hb26 : 0 ≤ s.1 (154 + 2 * ((y - 8).toNat)) 2 ∧ s.1 (154 + 2 * ((y - 8).toNat)) 2 ≤ 40 := kb_to (kQ_2 (isQ_in (by omega))) (hK.2 (154 + 2 * ((y - 8).toNat)) 2)
        by_cases h27 : s.1 (154 + 2 * ((y - 8).toNat)) 2 ≤ 0
        · refine wr_if1t rfl rfl (by unfold i32; omega) h27 ?_
          refine wr_n (pc2 := 74) (lv2 := [(3, .ref (154 + 2 * ((y - 8).toNat))), (0, .ref 142), (1, vi x), (2, vi y)]) (st2 := [.ref 142]) 1 (fun _ _ => rfl) ?_
          refine wr_get (v := .ref 153) rfl rfl rfl (by decide) (rv_ref (hK.1 142 12 153 rfl)) fun h28 => ?_
          show wr (d + 3) tb_M107 77 [(3, .ref (154 + 2 * ((y - 8).toNat))), (0, .ref 142), (1, vi x), (2, vi y)] [.ref 153] s _
          refine wr_n (pc2 := 79) (lv2 := [(3, .ref (154 + 2 * ((y - 8).toNat))), (0, .ref 142), (1, vi x), (2, vi y)]) (st2 := [vi x, vi y, .ref 153]) 2 (fun _ _ => rfl) ?_
          refine wr_ast (a := y) (z := x) rfl (by decide) rfl rfl (by omega) (by omega) (by decide) rfl (show -2147483648 ≤ x ∧ x ≤ 2147483647 by omega) ?_
          show wr (d + 3) tb_M107 80 [(3, .ref (154 + 2 * ((y - 8).toNat))), (0, .ref 142), (1, vi x), (2, vi y)] [] (up2 s.1 153 y.toNat x, s.2) _
          have hK29 : KI (up2 s.1 153 y.toNat x) := (KI_up hK (n0 rfl (by omega) (by omega)) (kb_of rfl (show (-1) ≤ x ∧ x ≤ 1999 by omega)))
          refine wr_n (pc2 := 138) (lv2 := [(3, .ref (154 + 2 * ((y - 8).toNat))), (0, .ref 142), (1, vi x), (2, vi y)]) (st2 := []) 1 (fun _ _ => rfl) ?_
          refine wr_end (fun _ _ => rfl) ?_
          exact ⟨hK29, (FX_up FX_rf (by unfold fx; omega)), rfl, rfl⟩
        · refine wr_if1f rfl rfl (by unfold i32; omega) h27 ?_
          refine wr_n (pc2 := 36) (lv2 := [(3, .ref (154 + 2 * ((y - 8).toNat))), (0, .ref 142), (1, vi x), (2, vi y)]) (st2 := [.ref 142, .ref 142]) 2 (fun _ _ => rfl) ?_
          refine wr_get (v := .ref C) rfl rfl rfl (by decide) (rv_ref (show (s.1) 142 0 = ((C : Nat) : Int) from hq)) fun h30 => ?_
          show wr (d + 3) tb_M107 39 [(3, .ref (154 + 2 * ((y - 8).toNat))), (0, .ref 142), (1, vi x), (2, vi y)] [.ref C, .ref 142] s _
          refine wr_get (v := .ref (C + 3)) rfl rfl (TK0 hC) (by decide) (rv_ref (hK.1 C 2 (C + 3) (rcK hC (by omega)))) fun h31 => ?_
          show wr (d + 3) tb_M107 42 [(3, .ref (154 + 2 * ((y - 8).toNat))), (0, .ref 142), (1, vi x), (2, vi y)] [.ref (C + 3), .ref 142] s _
          refine wr_n (pc2 := 43) (lv2 := [(3, .ref (154 + 2 * ((y - 8).toNat))), (0, .ref 142), (1, vi x), (2, vi y)]) (st2 := [vi x, .ref (C + 3), .ref 142]) 1 (fun _ _ => rfl) ?_
          refine wr_ald (a := x) (v := vi (s.1 (C + 3) x.toNat)) rfl (TK3 hC) rfl (by omega) (by omega) (by decide) rfl fun h32 => ?_
          have h32 : -2147483648 ≤ s.1 (C + 3) x.toNat ∧ s.1 (C + 3) x.toNat ≤ 2147483647 := h32
          show wr (d + 3) tb_M107 44 [(3, .ref (154 + 2 * ((y - 8).toNat))), (0, .ref 142), (1, vi x), (2, vi y)] [vi (s.1 (C + 3) x.toNat), .ref 142] s _
          refine wr_n (pc2 := 46) (lv2 := [(3, .ref (154 + 2 * ((y - 8).toNat))), (0, .ref 142), (1, vi x), (2, vi y)]) (st2 := [.ref 142, .ref 142, vi (s.1 (C + 3) x.toNat), .ref 142]) 2 (fun _ _ => rfl) ?_
          refine wr_get (v := .ref C) rfl rfl rfl (by decide) (rv_ref (show (s.1) 142 0 = ((C : Nat) : Int) from hq)) fun h33 => ?_
          show wr (d + 3) tb_M107 49 [(3, .ref (154 + 2 * ((y - 8).toNat))), (0, .ref 142), (1, vi x), (2, vi y)] [.ref C, .ref 142, vi (s.1 (C + 3) x.toNat), .ref 142] s _
          refine wr_get (v := .ref (C + 4)) rfl rfl (TK0 hC) (by decide) (rv_ref (hK.1 C 3 (C + 4) (rcK hC (by omega)))) fun h34 => ?_
          show wr (d + 3) tb_M107 52 [(3, .ref (154 + 2 * ((y - 8).toNat))), (0, .ref 142), (1, vi x), (2, vi y)] [.ref (C + 4), .ref 142, vi (s.1 (C + 3) x.toNat), .ref 142] s _
          refine wr_n (pc2 := 53) (lv2 := [(3, .ref (154 + 2 * ((y - 8).toNat))), (0, .ref 142), (1, vi x), (2, vi y)]) (st2 := [vi x, .ref (C + 4), .ref 142, vi (s.1 (C + 3) x.toNat), .ref 142]) 1 (fun _ _ => rfl) ?_
          refine wr_ald (a := x) (v := vi (s.1 (C + 4) x.toNat)) rfl (TK4 hC) rfl (by omega) (by omega) (by decide) rfl fun h35 => ?_
          have h35 : -2147483648 ≤ s.1 (C + 4) x.toNat ∧ s.1 (C + 4) x.toNat ≤ 2147483647 := h35
          show wr (d + 3) tb_M107 54 [(3, .ref (154 + 2 * ((y - 8).toNat))), (0, .ref 142), (1, vi x), (2, vi y)] [vi (s.1 (C + 4) x.toNat), .ref 142, vi (s.1 (C + 3) x.toNat), .ref 142] s _
          refine wr_call1 (args := [vi (s.1 (C + 4) x.toNat)]) (rest := [vi (s.1 (C + 3) x.toNat), .ref 142]) rfl rfl rfl rfl (Nat.le_of_ble_eq_true rfl) (cr_mono (k_val (d := d + 1) (C := C) hC (x := s.1 (C + 4) x.toNat) s hK hq (by omega)) ?_)
          rintro s36 out ⟨z36, rfl, hz36, hp36, e36⟩
          refine ⟨_, rfl, ?_⟩
          rw [e36]
          unfold i32 at hz36
          clear hp36
          show wr (d + 3) tb_M107 57 [(3, .ref (154 + 2 * ((y - 8).toNat))), (0, .ref 142), (1, vi x), (2, vi y)] [vi z36, vi (s.1 (C + 3) x.toNat), .ref 142] s _
          refine wr_n (pc2 := 58) (lv2 := [(3, .ref (154 + 2 * ((y - 8).toNat))), (0, .ref 142), (1, vi x), (2, vi y)]) (st2 := [.ref (154 + 2 * ((y - 8).toNat)), vi z36, vi (s.1 (C + 3) x.toNat), .ref 142]) 1 (fun _ _ => rfl) ?_
          refine wr_call1 (args := []) (rest := [vi z36, vi (s.1 (C + 3) x.toNat), .ref 142]) rfl rfl rfl (TQ0 (isQ_in (by omega))) (Nat.le_of_ble_eq_true rfl) (cr_mono (k_qremove (d := d + 2) (Q := 154 + 2 * ((y - 8).toNat)) (isQ_in (by omega)) s hK) ?_)
          rintro s37 out ⟨hK37, hY37, hc37, z37, rfl, hz37, hp37⟩
          refine ⟨_, rfl, ?_⟩
          have hX37 : FX s.1 s37.1 := FX_tr FX_rf hY37
          have hC37 : s37.2 = s.2 := hc37.trans rfl
          have hq37 : s37.1 142 0 = (C : Int) := (hY37 142 0 (by unfold fx; omega)).trans hq
          unfold i32 at hz37
          clear hp37
          show wr (d + 3) tb_M107 61 [(3, .ref (154 + 2 * ((y - 8).toNat))), (0, .ref 142), (1, vi x), (2, vi y)] [vi z37, vi z36, vi (s.1 (C + 3) x.toNat), .ref 142] s37 _
          refine wr_call1 (args := [vi (s.1 (C + 3) x.toNat), vi z36, vi z37]) (rest := []) rfl rfl rfl rfl (Nat.le_of_ble_eq_true rfl) (cr_mono (k_assign (d := d + 1) (C := C) hC (x := s.1 (C + 3) x.toNat) (y := z36) (u := z37) s37 hK37 hq37 (by omega) (by omega) (by omega)) ?_)
          rintro s38 out ⟨hK38, hY38, hc38, rfl⟩
          refine ⟨_, rfl, ?_⟩
          have hX38 : FX s.1 s38.1 := FX_tr hX37 hY38
          have hC38 : s38.2 = s.2 := hc38.trans hC37
          have hq38 : s38.1 142 0 = (C : Int) := (hY38 142 0 (by unfold fx; omega)).trans hq37
          show wr (d + 3) tb_M107 64 [(3, .ref (154 + 2 * ((y - 8).toNat))), (0, .ref 142), (1, vi x), (2, vi y)] [] s38 _
          refine wr_n (pc2 := 67) (lv2 := [(3, .ref (154 + 2 * ((y - 8).toNat))), (0, .ref 142), (1, vi x), (2, vi y)]) (st2 := [vi 0, vi x, .ref 142]) 3 (fun _ _ => rfl) ?_
          refine wr_call1 (args := [vi x, vi 0]) (rest := []) rfl rfl rfl rfl (Nat.le_of_ble_eq_true rfl) (cr_mono (k_tell (d := d + 1) (C := C) hC (x := x) (y := 0) s38 hK38 hq38 (by omega) (by omega)) ?_)
          rintro s39 out ⟨hK39, hY39, hc39, rfl⟩
          refine ⟨_, rfl, ?_⟩
          have hX39 : FX s.1 s39.1 := FX_tr hX38 hY39
          have hC39 : s39.2 = s.2 := hc39.trans hC38
          have hq39 : s39.1 142 0 = (C : Int) := (hY39 142 0 (by unfold fx; omega)).trans hq38
          show wr (d + 3) tb_M107 70 [(3, .ref (154 + 2 * ((y - 8).toNat))), (0, .ref 142), (1, vi x), (2, vi y)] [] s39 _
          refine wr_n (pc2 := 138) (lv2 := [(3, .ref (154 + 2 * ((y - 8).toNat))), (0, .ref 142), (1, vi x), (2, vi y)]) (st2 := []) 2 (fun _ _ => rfl) ?_
          refine wr_end (fun _ _ => rfl) ?_
          exact ⟨hK39, hX39, hC39, rfl⟩
    · refine wr_if2f rfl rfl (by unfold i32; omega) (by unfold i32; omega) h2 ?_
      refine wr_end (fun _ _ => rfl) ?_
      exact ⟨hK, FX_rf, rfl, rfl⟩
set_option maxHeartbeats 20000000 in
set_option maxRecDepth 100000 in
theorem k_turnToMove_55 {d : Nat} {s0 : rS} {C : Nat} (hC : C = 99 ∨ C = 115)  (l6 : Int) (l5 : Int) (l4 : Int) (l3 : Int) (l1 : Int) (l2 : Int) (k0 : Int) (s : rS) (hK : KI s.1) (hq : s.1 142 0 = (C : Int)) (hX : FX s0.1 s.1) (hc : s.2 = s0.2) (hl6 : (-2147483648) ≤ l6 ∧ l6 ≤ 2147483647) (hl5 : (-2147483648) ≤ l5 ∧ l5 ≤ 2147483647) (hl4 : (-2147483648) ≤ l4 ∧ l4 ≤ 2147483647) (hl3 : (-2147483648) ≤ l3 ∧ l3 ≤ 2147483647) (hl1 : 0 ≤ l1 ∧ l1 ≤ 1999) (hl2 : (-2147483648) ≤ l2 ∧ l2 ≤ 2147483647) (hk0 : (-2147483648) ≤ k0 ∧ k0 ≤ 2147483647)   : wr (d + 4) tb_M103 55 [(6, vi l6), (5, vi l5), (4, vi l4), (3, vi l3), (0, .ref 142), (1, vi l1), (2, vi l2)] [vi k0] s (KV s0) := by
  refine wr_n (pc2 := 62) (lv2 := [(7, vi k0), (6, vi l6), (5, vi l5), (4, vi l4), (3, vi l3), (0, .ref 142), (1, vi l1), (2, vi l2)]) (st2 := [vi 406, vi l6]) 3 (fun _ _ => rfl) ?_
  by_cases h1 : l6 ≠ 406
  · refine wr_if2t rfl rfl (by unfold i32; omega) (by unfold i32; omega) h1 ?_
    refine wr_n (pc2 := 84) (lv2 := [(7, vi k0), (6, vi l6), (5, vi l5), (4, vi l4), (3, vi l3), (0, .ref 142), (1, vi l1), (2, vi l2)]) (st2 := [vi 406, vi l6]) 2 (fun _ _ => rfl) ?_
    by_cases h2 : l6 ≠ 406
    · refine wr_if2t rfl rfl (by unfold i32; omega) (by unfold i32; omega) h2 ?_
      refine wr_n (pc2 := 104) (lv2 := [(7, vi k0), (6, vi l6), (5, vi l5), (4, vi l4), (3, vi l3), (0, .ref 142), (1, vi l1), (2, vi l2)]) (st2 := [vi k0]) 1 (fun _ _ => rfl) ?_
      by_cases h3 : k0 ≠ 0
      · refine wr_if1t rfl rfl (by unfold i32; omega) h3 ?_
        refine wr_n (pc2 := 122) (lv2 := [(7, vi k0), (6, vi l6), (5, vi l5), (4, vi l4), (3, vi l3), (0, .ref 142), (1, vi l1), (2, vi l2)]) (st2 := [vi 407, vi l6]) 2 (fun _ _ => rfl) ?_
        by_cases h4 : l6 ≠ 407
        · refine wr_if2t rfl rfl (by unfold i32; omega) (by unfold i32; omega) h4 ?_
          refine wr_n (pc2 := 137) (lv2 := [(7, vi k0), (6, vi l6), (5, vi l5), (4, vi l4), (3, vi l3), (0, .ref 142), (1, vi l1), (2, vi l2)]) (st2 := [vi 1, vi k0]) 2 (fun _ _ => rfl) ?_
          by_cases h5 : k0 ≠ 1
          · refine wr_if2t rfl rfl (by unfold i32; omega) (by unfold i32; omega) h5 ?_
            refine wr_n (pc2 := 155) (lv2 := [(7, vi k0), (6, vi l6), (5, vi l5), (4, vi l4), (3, vi l3), (0, .ref 142), (1, vi l1), (2, vi l2)]) (st2 := [vi l5, .ref 142, vi l3, .ref 142]) 4 (fun _ _ => rfl) ?_
            refine wr_call1 (args := [vi l5]) (rest := [vi l3, .ref 142]) rfl rfl rfl rfl (Nat.le_of_ble_eq_true rfl) (cr_mono (k_val (d := d + 2) (C := C) hC (x := l5) s hK hq (by omega)) ?_)
            rintro s6 out ⟨z6, rfl, hz6, hp6, e6⟩
            refine ⟨_, rfl, ?_⟩
            rw [e6]
            unfold i32 at hz6
            clear hp6
            show wr (d + 4) tb_M103 158 [(7, vi k0), (6, vi l6), (5, vi l5), (4, vi l4), (3, vi l3), (0, .ref 142), (1, vi l1), (2, vi l2)] [vi z6, vi l3, .ref 142] s _
            refine wr_n (pc2 := 161) (lv2 := [(7, vi k0), (6, vi l6), (5, vi l5), (4, vi l4), (3, vi l3), (0, .ref 142), (1, vi l1), (2, vi l2)]) (st2 := [vi l4, .ref 142, vi z6, vi l3, .ref 142]) 2 (fun _ _ => rfl) ?_
            refine wr_call1 (args := [vi l4]) (rest := [vi z6, vi l3, .ref 142]) rfl rfl rfl rfl (Nat.le_of_ble_eq_true rfl) (cr_mono (k_val (d := d + 2) (C := C) hC (x := l4) s hK hq (by omega)) ?_)
            rintro s7 out ⟨z7, rfl, hz7, hp7, e7⟩
            refine ⟨_, rfl, ?_⟩
            rw [e7]
            unfold i32 at hz7
            clear hp7
            show wr (d + 4) tb_M103 164 [(7, vi k0), (6, vi l6), (5, vi l5), (4, vi l4), (3, vi l3), (0, .ref 142), (1, vi l1), (2, vi l2)] [vi z7, vi z6, vi l3, .ref 142] s _
            refine wr_call1 (args := [vi l3, vi z6, vi z7]) (rest := []) rfl rfl rfl rfl (Nat.le_of_ble_eq_true rfl) (cr_mono (k_assign (d := d + 2) (C := C) hC (x := l3) (y := z6) (u := z7) s hK hq (by omega) (by omega) (by omega)) ?_)
            rintro s8 out ⟨hK8, hY8, hc8, rfl⟩
            refine ⟨_, rfl, ?_⟩
            have hX8 : FX s0.1 s8.1 := FX_tr hX hY8
            have hC8 : s8.2 = s0.2 := hc8.trans hc
            have hq8 : s8.1 142 0 = (C : Int) := (hY8 142 0 (by unfold fx; omega)).trans hq
            show wr (d + 4) tb_M103 167 [(7, vi k0), (6, vi l6), (5, vi l5), (4, vi l4), (3, vi l3), (0, .ref 142), (1, vi l1), (2, vi l2)] [] s8 _
            refine wr_n (pc2 := 170) (lv2 := [(7, vi k0), (6, vi l6), (5, vi l5), (4, vi l4), (3, vi l3), (0, .ref 142), (1, vi l1), (2, vi l2)]) (st2 := [vi 0, vi l1, .ref 142]) 3 (fun _ _ => rfl) ?_
            refine wr_call1 (args := [vi l1, vi 0]) (rest := []) rfl rfl rfl rfl (Nat.le_of_ble_eq_true rfl) (cr_mono (k_tell (d := d + 2) (C := C) hC (x := l1) (y := 0) s8 hK8 hq8 (by omega) (by omega)) ?_)
            rintro s9 out ⟨hK9, hY9, hc9, rfl⟩
            refine ⟨_, rfl, ?_⟩
            have hX9 : FX s0.1 s9.1 := FX_tr hX8 hY9
            have hC9 : s9.2 = s0.2 := hc9.trans hC8
            have hq9 : s9.1 142 0 = (C : Int) := (hY9 142 0 (by unfold fx; omega)).trans hq8
            show wr (d + 4) tb_M103 173 [(7, vi k0), (6, vi l6), (5, vi l5), (4, vi l4), (3, vi l3), (0, .ref 142), (1, vi l1), (2, vi l2)] [] s9 _
            refine wr_end (fun _ _ => rfl) ?_
            exact ⟨hK9, hX9, hC9, rfl⟩
          · refine wr_if2f rfl rfl (by unfold i32; omega) (by unfold i32; omega) h5 ?_
            refine wr_n (pc2 := 144) (lv2 := [(7, vi k0), (6, vi l6), (5, vi l5), (4, vi l4), (3, vi l3), (0, .ref 142), (1, vi l1), (2, vi l2)]) (st2 := [vi l1, vi l4, .ref 142]) 3 (fun _ _ => rfl) ?_
            refine wr_call1 (args := [vi l4, vi l1]) (rest := []) rfl rfl rfl rfl (Nat.le_of_ble_eq_true rfl) (cr_mono (k_ask (d := d + 2) (C := C) hC (x := l4) (y := l1) s hK hq (by omega) (by omega)) ?_)
            rintro s10 out ⟨hK10, hY10, hc10, rfl⟩
            refine ⟨_, rfl, ?_⟩
            have hX10 : FX s0.1 s10.1 := FX_tr hX hY10
            have hC10 : s10.2 = s0.2 := hc10.trans hc
            have hq10 : s10.1 142 0 = (C : Int) := (hY10 142 0 (by unfold fx; omega)).trans hq
            show wr (d + 4) tb_M103 147 [(7, vi k0), (6, vi l6), (5, vi l5), (4, vi l4), (3, vi l3), (0, .ref 142), (1, vi l1), (2, vi l2)] [] s10 _
            refine wr_n (pc2 := 173) (lv2 := [(7, vi k0), (6, vi l6), (5, vi l5), (4, vi l4), (3, vi l3), (0, .ref 142), (1, vi l1), (2, vi l2)]) (st2 := []) 1 (fun _ _ => rfl) ?_
            refine wr_end (fun _ _ => rfl) ?_
            exact ⟨hK10, hX10, hC10, rfl⟩
        · refine wr_if2f rfl rfl (by unfold i32; omega) (by unfold i32; omega) h4 ?_
          refine wr_n (pc2 := 128) (lv2 := [(7, vi k0), (6, vi l6), (5, vi l5), (4, vi l4), (3, vi l3), (0, .ref 142), (1, vi l1), (2, vi l2)]) (st2 := [vi l3, vi l1, .ref 142]) 3 (fun _ _ => rfl) ?_
          refine wr_call1 (args := [vi l1, vi l3]) (rest := []) rfl rfl rfl rfl (Nat.le_of_ble_eq_true rfl) (cr_mono (k_receiveOrWait (d := d + 0) (C := C) hC (x := l1) (y := l3) s hK hq (by omega) (by omega)) ?_)
          rintro s11 out ⟨hK11, hY11, hc11, rfl⟩
          refine ⟨_, rfl, ?_⟩
          have hX11 : FX s0.1 s11.1 := FX_tr hX hY11
          have hC11 : s11.2 = s0.2 := hc11.trans hc
          have hq11 : s11.1 142 0 = (C : Int) := (hY11 142 0 (by unfold fx; omega)).trans hq
          show wr (d + 4) tb_M103 131 [(7, vi k0), (6, vi l6), (5, vi l5), (4, vi l4), (3, vi l3), (0, .ref 142), (1, vi l1), (2, vi l2)] [] s11 _
          refine wr_n (pc2 := 173) (lv2 := [(7, vi k0), (6, vi l6), (5, vi l5), (4, vi l4), (3, vi l3), (0, .ref 142), (1, vi l1), (2, vi l2)]) (st2 := []) 1 (fun _ _ => rfl) ?_
          refine wr_end (fun _ _ => rfl) ?_
          exact ⟨hK11, hX11, hC11, rfl⟩
      · refine wr_if1f rfl rfl (by unfold i32; omega) h3 ?_
        refine wr_n (pc2 := 111) (lv2 := [(7, vi k0), (6, vi l6), (5, vi l5), (4, vi l4), (3, vi l3), (0, .ref 142), (1, vi l1), (2, vi l2)]) (st2 := [vi l1, vi l5, .ref 142]) 3 (fun _ _ => rfl) ?_
        refine wr_call1 (args := [vi l5, vi l1]) (rest := []) rfl rfl rfl rfl (Nat.le_of_ble_eq_true rfl) (cr_mono (k_ask (d := d + 2) (C := C) hC (x := l5) (y := l1) s hK hq (by omega) (by omega)) ?_)
        rintro s12 out ⟨hK12, hY12, hc12, rfl⟩
        refine ⟨_, rfl, ?_⟩
        have hX12 : FX s0.1 s12.1 := FX_tr hX hY12
        have hC12 : s12.2 = s0.2 := hc12.trans hc
        have hq12 : s12.1 142 0 = (C : Int) := (hY12 142 0 (by unfold fx; omega)).trans hq
        show wr (d + 4) tb_M103 114 [(7, vi k0), (6, vi l6), (5, vi l5), (4, vi l4), (3, vi l3), (0, .ref 142), (1, vi l1), (2, vi l2)] [] s12 _
        refine wr_n (pc2 := 173) (lv2 := [(7, vi k0), (6, vi l6), (5, vi l5), (4, vi l4), (3, vi l3), (0, .ref 142), (1, vi l1), (2, vi l2)]) (st2 := []) 1 (fun _ _ => rfl) ?_
        refine wr_end (fun _ _ => rfl) ?_
        exact ⟨hK12, hX12, hC12, rfl⟩
    · refine wr_if2f rfl rfl (by unfold i32; omega) (by unfold i32; omega) h2 ?_
      refine wr_n (pc2 := 93) (lv2 := [(7, vi k0), (6, vi l6), (5, vi l5), (4, vi l4), (3, vi l3), (0, .ref 142), (1, vi l1), (2, vi l2)]) (st2 := [vi l4, .ref 142, vi l3, vi l1, .ref 142]) 5 (fun _ _ => rfl) ?_
      refine wr_call1 (args := [vi l4]) (rest := [vi l3, vi l1, .ref 142]) rfl rfl rfl rfl (Nat.le_of_ble_eq_true rfl) (cr_mono (k_val (d := d + 2) (C := C) hC (x := l4) s hK hq (by omega)) ?_)
      rintro s13 out ⟨z13, rfl, hz13, hp13, e13⟩
      refine ⟨_, rfl, ?_⟩
      rw [e13]
      unfold i32 at hz13
      clear hp13
      show wr (d + 4) tb_M103 96 [(7, vi k0), (6, vi l6), (5, vi l5), (4, vi l4), (3, vi l3), (0, .ref 142), (1, vi l1), (2, vi l2)] [vi z13, vi l3, vi l1, .ref 142] s _
      refine wr_call1 (args := [vi l1, vi l3, vi z13]) (rest := []) rfl rfl rfl rfl (Nat.le_of_ble_eq_true rfl) (cr_mono (k_sendOrWait (d := d + 0) (C := C) hC (x := l1) (y := l3) (u := z13) s hK hq (by omega) (by omega) (by omega)) ?_)
      rintro s14 out ⟨hK14, hY14, hc14, rfl⟩
      refine ⟨_, rfl, ?_⟩
      have hX14 : FX s0.1 s14.1 := FX_tr hX hY14
      have hC14 : s14.2 = s0.2 := hc14.trans hc
      have hq14 : s14.1 142 0 = (C : Int) := (hY14 142 0 (by unfold fx; omega)).trans hq
      show wr (d + 4) tb_M103 99 [(7, vi k0), (6, vi l6), (5, vi l5), (4, vi l4), (3, vi l3), (0, .ref 142), (1, vi l1), (2, vi l2)] [] s14 _
      refine wr_n (pc2 := 173) (lv2 := [(7, vi k0), (6, vi l6), (5, vi l5), (4, vi l4), (3, vi l3), (0, .ref 142), (1, vi l1), (2, vi l2)]) (st2 := []) 1 (fun _ _ => rfl) ?_
      refine wr_end (fun _ _ => rfl) ?_
      exact ⟨hK14, hX14, hC14, rfl⟩
  · refine wr_if2f rfl rfl (by unfold i32; omega) (by unfold i32; omega) h1 ?_
    refine wr_n (pc2 := 66) (lv2 := [(7, vi k0), (6, vi l6), (5, vi l5), (4, vi l4), (3, vi l3), (0, .ref 142), (1, vi l1), (2, vi l2)]) (st2 := [vi l2]) 1 (fun _ _ => rfl) ?_
    by_cases h15 : l2 ≠ 0
    · refine wr_if1t rfl rfl (by unfold i32; omega) h15 ?_
      refine wr_n (pc2 := 84) (lv2 := [(7, vi k0), (6, vi l6), (5, vi l5), (4, vi l4), (3, vi l3), (0, .ref 142), (1, vi l1), (2, vi l2)]) (st2 := [vi 406, vi l6]) 2 (fun _ _ => rfl) ?_
      by_cases h16 : l6 ≠ 406
      · refine wr_if2t rfl rfl (by unfold i32; omega) (by unfold i32; omega) h16 ?_
        refine wr_n (pc2 := 104) (lv2 := [(7, vi k0), (6, vi l6), (5, vi l5), (4, vi l4), (3, vi l3), (0, .ref 142), (1, vi l1), (2, vi l2)]) (st2 := [vi k0]) 1 (fun _ _ => rfl) ?_
        by_cases h17 : k0 ≠ 0
        · refine wr_if1t rfl rfl (by unfold i32; omega) h17 ?_
          refine wr_n (pc2 := 122) (lv2 := [(7, vi k0), (6, vi l6), (5, vi l5), (4, vi l4), (3, vi l3), (0, .ref 142), (1, vi l1), (2, vi l2)]) (st2 := [vi 407, vi l6]) 2 (fun _ _ => rfl) ?_
          by_cases h18 : l6 ≠ 407
          · refine wr_if2t rfl rfl (by unfold i32; omega) (by unfold i32; omega) h18 ?_
            refine wr_n (pc2 := 137) (lv2 := [(7, vi k0), (6, vi l6), (5, vi l5), (4, vi l4), (3, vi l3), (0, .ref 142), (1, vi l1), (2, vi l2)]) (st2 := [vi 1, vi k0]) 2 (fun _ _ => rfl) ?_
            by_cases h19 : k0 ≠ 1
            · refine wr_if2t rfl rfl (by unfold i32; omega) (by unfold i32; omega) h19 ?_
              refine wr_n (pc2 := 155) (lv2 := [(7, vi k0), (6, vi l6), (5, vi l5), (4, vi l4), (3, vi l3), (0, .ref 142), (1, vi l1), (2, vi l2)]) (st2 := [vi l5, .ref 142, vi l3, .ref 142]) 4 (fun _ _ => rfl) ?_
              refine wr_call1 (args := [vi l5]) (rest := [vi l3, .ref 142]) rfl rfl rfl rfl (Nat.le_of_ble_eq_true rfl) (cr_mono (k_val (d := d + 2) (C := C) hC (x := l5) s hK hq (by omega)) ?_)
              rintro s20 out ⟨z20, rfl, hz20, hp20, e20⟩
              refine ⟨_, rfl, ?_⟩
              rw [e20]
              unfold i32 at hz20
              clear hp20
              show wr (d + 4) tb_M103 158 [(7, vi k0), (6, vi l6), (5, vi l5), (4, vi l4), (3, vi l3), (0, .ref 142), (1, vi l1), (2, vi l2)] [vi z20, vi l3, .ref 142] s _
              refine wr_n (pc2 := 161) (lv2 := [(7, vi k0), (6, vi l6), (5, vi l5), (4, vi l4), (3, vi l3), (0, .ref 142), (1, vi l1), (2, vi l2)]) (st2 := [vi l4, .ref 142, vi z20, vi l3, .ref 142]) 2 (fun _ _ => rfl) ?_
              refine wr_call1 (args := [vi l4]) (rest := [vi z20, vi l3, .ref 142]) rfl rfl rfl rfl (Nat.le_of_ble_eq_true rfl) (cr_mono (k_val (d := d + 2) (C := C) hC (x := l4) s hK hq (by omega)) ?_)
              rintro s21 out ⟨z21, rfl, hz21, hp21, e21⟩
              refine ⟨_, rfl, ?_⟩
              rw [e21]
              unfold i32 at hz21
              clear hp21
              show wr (d + 4) tb_M103 164 [(7, vi k0), (6, vi l6), (5, vi l5), (4, vi l4), (3, vi l3), (0, .ref 142), (1, vi l1), (2, vi l2)] [vi z21, vi z20, vi l3, .ref 142] s _
              refine wr_call1 (args := [vi l3, vi z20, vi z21]) (rest := []) rfl rfl rfl rfl (Nat.le_of_ble_eq_true rfl) (cr_mono (k_assign (d := d + 2) (C := C) hC (x := l3) (y := z20) (u := z21) s hK hq (by omega) (by omega) (by omega)) ?_)
              rintro s22 out ⟨hK22, hY22, hc22, rfl⟩
              refine ⟨_, rfl, ?_⟩
              have hX22 : FX s0.1 s22.1 := FX_tr hX hY22
              have hC22 : s22.2 = s0.2 := hc22.trans hc
              have hq22 : s22.1 142 0 = (C : Int) := (hY22 142 0 (by unfold fx; omega)).trans hq
              show wr (d + 4) tb_M103 167 [(7, vi k0), (6, vi l6), (5, vi l5), (4, vi l4), (3, vi l3), (0, .ref 142), (1, vi l1), (2, vi l2)] [] s22 _
              refine wr_n (pc2 := 170) (lv2 := [(7, vi k0), (6, vi l6), (5, vi l5), (4, vi l4), (3, vi l3), (0, .ref 142), (1, vi l1), (2, vi l2)]) (st2 := [vi 0, vi l1, .ref 142]) 3 (fun _ _ => rfl) ?_
              refine wr_call1 (args := [vi l1, vi 0]) (rest := []) rfl rfl rfl rfl (Nat.le_of_ble_eq_true rfl) (cr_mono (k_tell (d := d + 2) (C := C) hC (x := l1) (y := 0) s22 hK22 hq22 (by omega) (by omega)) ?_)
              rintro s23 out ⟨hK23, hY23, hc23, rfl⟩
              refine ⟨_, rfl, ?_⟩
              have hX23 : FX s0.1 s23.1 := FX_tr hX22 hY23
              have hC23 : s23.2 = s0.2 := hc23.trans hC22
              have hq23 : s23.1 142 0 = (C : Int) := (hY23 142 0 (by unfold fx; omega)).trans hq22
              show wr (d + 4) tb_M103 173 [(7, vi k0), (6, vi l6), (5, vi l5), (4, vi l4), (3, vi l3), (0, .ref 142), (1, vi l1), (2, vi l2)] [] s23 _
              refine wr_end (fun _ _ => rfl) ?_
              exact ⟨hK23, hX23, hC23, rfl⟩
            · refine wr_if2f rfl rfl (by unfold i32; omega) (by unfold i32; omega) h19 ?_
              refine wr_n (pc2 := 144) (lv2 := [(7, vi k0), (6, vi l6), (5, vi l5), (4, vi l4), (3, vi l3), (0, .ref 142), (1, vi l1), (2, vi l2)]) (st2 := [vi l1, vi l4, .ref 142]) 3 (fun _ _ => rfl) ?_
              refine wr_call1 (args := [vi l4, vi l1]) (rest := []) rfl rfl rfl rfl (Nat.le_of_ble_eq_true rfl) (cr_mono (k_ask (d := d + 2) (C := C) hC (x := l4) (y := l1) s hK hq (by omega) (by omega)) ?_)
              rintro s24 out ⟨hK24, hY24, hc24, rfl⟩
              refine ⟨_, rfl, ?_⟩
              have hX24 : FX s0.1 s24.1 := FX_tr hX hY24
              have hC24 : s24.2 = s0.2 := hc24.trans hc
              have hq24 : s24.1 142 0 = (C : Int) := (hY24 142 0 (by unfold fx; omega)).trans hq
              show wr (d + 4) tb_M103 147 [(7, vi k0), (6, vi l6), (5, vi l5), (4, vi l4), (3, vi l3), (0, .ref 142), (1, vi l1), (2, vi l2)] [] s24 _
              refine wr_n (pc2 := 173) (lv2 := [(7, vi k0), (6, vi l6), (5, vi l5), (4, vi l4), (3, vi l3), (0, .ref 142), (1, vi l1), (2, vi l2)]) (st2 := []) 1 (fun _ _ => rfl) ?_
              refine wr_end (fun _ _ => rfl) ?_
              exact ⟨hK24, hX24, hC24, rfl⟩
          · refine wr_if2f rfl rfl (by unfold i32; omega) (by unfold i32; omega) h18 ?_
            refine wr_n (pc2 := 128) (lv2 := [(7, vi k0), (6, vi l6), (5, vi l5), (4, vi l4), (3, vi l3), (0, .ref 142), (1, vi l1), (2, vi l2)]) (st2 := [vi l3, vi l1, .ref 142]) 3 (fun _ _ => rfl) ?_
            refine wr_call1 (args := [vi l1, vi l3]) (rest := []) rfl rfl rfl rfl (Nat.le_of_ble_eq_true rfl) (cr_mono (k_receiveOrWait (d := d + 0) (C := C) hC (x := l1) (y := l3) s hK hq (by omega) (by omega)) ?_)
            rintro s25 out ⟨hK25, hY25, hc25, rfl⟩
            refine ⟨_, rfl, ?_⟩
            have hX25 : FX s0.1 s25.1 := FX_tr hX hY25
            have hC25 : s25.2 = s0.2 := hc25.trans hc
            have hq25 : s25.1 142 0 = (C : Int) := (hY25 142 0 (by unfold fx; omega)).trans hq
            show wr (d + 4) tb_M103 131 [(7, vi k0), (6, vi l6), (5, vi l5), (4, vi l4), (3, vi l3), (0, .ref 142), (1, vi l1), (2, vi l2)] [] s25 _
            refine wr_n (pc2 := 173) (lv2 := [(7, vi k0), (6, vi l6), (5, vi l5), (4, vi l4), (3, vi l3), (0, .ref 142), (1, vi l1), (2, vi l2)]) (st2 := []) 1 (fun _ _ => rfl) ?_
            refine wr_end (fun _ _ => rfl) ?_
            exact ⟨hK25, hX25, hC25, rfl⟩
        · refine wr_if1f rfl rfl (by unfold i32; omega) h17 ?_
          refine wr_n (pc2 := 111) (lv2 := [(7, vi k0), (6, vi l6), (5, vi l5), (4, vi l4), (3, vi l3), (0, .ref 142), (1, vi l1), (2, vi l2)]) (st2 := [vi l1, vi l5, .ref 142]) 3 (fun _ _ => rfl) ?_
          refine wr_call1 (args := [vi l5, vi l1]) (rest := []) rfl rfl rfl rfl (Nat.le_of_ble_eq_true rfl) (cr_mono (k_ask (d := d + 2) (C := C) hC (x := l5) (y := l1) s hK hq (by omega) (by omega)) ?_)
          rintro s26 out ⟨hK26, hY26, hc26, rfl⟩
          refine ⟨_, rfl, ?_⟩
          have hX26 : FX s0.1 s26.1 := FX_tr hX hY26
          have hC26 : s26.2 = s0.2 := hc26.trans hc
          have hq26 : s26.1 142 0 = (C : Int) := (hY26 142 0 (by unfold fx; omega)).trans hq
          show wr (d + 4) tb_M103 114 [(7, vi k0), (6, vi l6), (5, vi l5), (4, vi l4), (3, vi l3), (0, .ref 142), (1, vi l1), (2, vi l2)] [] s26 _
          refine wr_n (pc2 := 173) (lv2 := [(7, vi k0), (6, vi l6), (5, vi l5), (4, vi l4), (3, vi l3), (0, .ref 142), (1, vi l1), (2, vi l2)]) (st2 := []) 1 (fun _ _ => rfl) ?_
          refine wr_end (fun _ _ => rfl) ?_
          exact ⟨hK26, hX26, hC26, rfl⟩
      · refine wr_if2f rfl rfl (by unfold i32; omega) (by unfold i32; omega) h16 ?_
        refine wr_n (pc2 := 93) (lv2 := [(7, vi k0), (6, vi l6), (5, vi l5), (4, vi l4), (3, vi l3), (0, .ref 142), (1, vi l1), (2, vi l2)]) (st2 := [vi l4, .ref 142, vi l3, vi l1, .ref 142]) 5 (fun _ _ => rfl) ?_
        refine wr_call1 (args := [vi l4]) (rest := [vi l3, vi l1, .ref 142]) rfl rfl rfl rfl (Nat.le_of_ble_eq_true rfl) (cr_mono (k_val (d := d + 2) (C := C) hC (x := l4) s hK hq (by omega)) ?_)
        rintro s27 out ⟨z27, rfl, hz27, hp27, e27⟩
        refine ⟨_, rfl, ?_⟩
        rw [e27]
        unfold i32 at hz27
        clear hp27
        show wr (d + 4) tb_M103 96 [(7, vi k0), (6, vi l6), (5, vi l5), (4, vi l4), (3, vi l3), (0, .ref 142), (1, vi l1), (2, vi l2)] [vi z27, vi l3, vi l1, .ref 142] s _
        refine wr_call1 (args := [vi l1, vi l3, vi z27]) (rest := []) rfl rfl rfl rfl (Nat.le_of_ble_eq_true rfl) (cr_mono (k_sendOrWait (d := d + 0) (C := C) hC (x := l1) (y := l3) (u := z27) s hK hq (by omega) (by omega) (by omega)) ?_)
        rintro s28 out ⟨hK28, hY28, hc28, rfl⟩
        refine ⟨_, rfl, ?_⟩
        have hX28 : FX s0.1 s28.1 := FX_tr hX hY28
        have hC28 : s28.2 = s0.2 := hc28.trans hc
        have hq28 : s28.1 142 0 = (C : Int) := (hY28 142 0 (by unfold fx; omega)).trans hq
        show wr (d + 4) tb_M103 99 [(7, vi k0), (6, vi l6), (5, vi l5), (4, vi l4), (3, vi l3), (0, .ref 142), (1, vi l1), (2, vi l2)] [] s28 _
        refine wr_n (pc2 := 173) (lv2 := [(7, vi k0), (6, vi l6), (5, vi l5), (4, vi l4), (3, vi l3), (0, .ref 142), (1, vi l1), (2, vi l2)]) (st2 := []) 1 (fun _ _ => rfl) ?_
        refine wr_end (fun _ _ => rfl) ?_
        exact ⟨hK28, hX28, hC28, rfl⟩
    · refine wr_if1f rfl rfl (by unfold i32; omega) h15 ?_
      refine wr_n (pc2 := 73) (lv2 := [(7, vi k0), (6, vi l6), (5, vi l5), (4, vi l4), (3, vi l3), (0, .ref 142), (1, vi l1), (2, vi l2)]) (st2 := [vi l1, vi l4, .ref 142]) 3 (fun _ _ => rfl) ?_
      refine wr_call1 (args := [vi l4, vi l1]) (rest := []) rfl rfl rfl rfl (Nat.le_of_ble_eq_true rfl) (cr_mono (k_ask (d := d + 2) (C := C) hC (x := l4) (y := l1) s hK hq (by omega) (by omega)) ?_)
      rintro s29 out ⟨hK29, hY29, hc29, rfl⟩
      refine ⟨_, rfl, ?_⟩
      have hX29 : FX s0.1 s29.1 := FX_tr hX hY29
      have hC29 : s29.2 = s0.2 := hc29.trans hc
      have hq29 : s29.1 142 0 = (C : Int) := (hY29 142 0 (by unfold fx; omega)).trans hq
      show wr (d + 4) tb_M103 76 [(7, vi k0), (6, vi l6), (5, vi l5), (4, vi l4), (3, vi l3), (0, .ref 142), (1, vi l1), (2, vi l2)] [] s29 _
      refine wr_n (pc2 := 173) (lv2 := [(7, vi k0), (6, vi l6), (5, vi l5), (4, vi l4), (3, vi l3), (0, .ref 142), (1, vi l1), (2, vi l2)]) (st2 := []) 1 (fun _ _ => rfl) ?_
      refine wr_end (fun _ _ => rfl) ?_
      exact ⟨hK29, hX29, hC29, rfl⟩
set_option maxHeartbeats 20000000 in
set_option maxRecDepth 100000 in
theorem k_turnToMove {d : Nat} {C : Nat} (hC : C = 99 ∨ C = 115)  {x y : Int} (s : rS) (hK : KI s.1) (hq : s.1 142 0 = (C : Int)) (hx : 0 ≤ x ∧ x ≤ 1999) (hy : (-2147483648) ≤ y ∧ y ≤ 2147483647)  : cr (d + 5) 103 [.ref 142, vi x, vi y] s (KV s) := by
  refine cr_of (M := tb_M103) rfl (Nat.le_of_ble_eq_true rfl) ?_
  show wr (d + 4) tb_M103 0 [(0, .ref 142), (1, vi x), (2, vi y)] [] s _
  refine wr_n (pc2 := 1) (lv2 := [(0, .ref 142), (1, vi x), (2, vi y)]) (st2 := [.ref 142]) 1 (fun _ _ => rfl) ?_
  refine wr_get (v := .ref C) rfl rfl rfl (by decide) (rv_ref (show (s.1) 142 0 = ((C : Nat) : Int) from hq)) fun h1 => ?_
  show wr (d + 4) tb_M103 4 [(0, .ref 142), (1, vi x), (2, vi y)] [.ref C] s _
  refine wr_get (v := .ref (C + 2)) rfl rfl (TK0 hC) (by decide) (rv_ref (hK.1 C 1 (C + 2) (rcK hC (by omega)))) fun h2 => ?_
  show wr (d + 4) tb_M103 7 [(0, .ref 142), (1, vi x), (2, vi y)] [.ref (C + 2)] s _
  refine wr_n (pc2 := 8) (lv2 := [(0, .ref 142), (1, vi x), (2, vi y)]) (st2 := [vi x, .ref (C + 2)]) 1 (fun _ _ => rfl) ?_
  refine wr_ald (a := x) (v := vi (s.1 (C + 2) x.toNat)) rfl (TK2 hC) rfl (by omega) (by omega) (by decide) rfl fun h3 => ?_
  have h3 : -2147483648 ≤ s.1 (C + 2) x.toNat ∧ s.1 (C + 2) x.toNat ≤ 2147483647 := h3
  show wr (d + 4) tb_M103 9 [(0, .ref 142), (1, vi x), (2, vi y)] [vi (s.1 (C + 2) x.toNat)] s _
  refine wr_n (pc2 := 11) (lv2 := [(3, vi (s.1 (C + 2) x.toNat)), (0, .ref 142), (1, vi x), (2, vi y)]) (st2 := [.ref 142]) 2 (fun _ _ => rfl) ?_
  refine wr_get (v := .ref C) rfl rfl rfl (by decide) (rv_ref (show (s.1) 142 0 = ((C : Nat) : Int) from hq)) fun h4 => ?_
  show wr (d + 4) tb_M103 14 [(3, vi (s.1 (C + 2) x.toNat)), (0, .ref 142), (1, vi x), (2, vi y)] [.ref C] s _
  refine wr_get (v := .ref (C + 3)) rfl rfl (TK0 hC) (by decide) (rv_ref (hK.1 C 2 (C + 3) (rcK hC (by omega)))) fun h5 => ?_
  show wr (d + 4) tb_M103 17 [(3, vi (s.1 (C + 2) x.toNat)), (0, .ref 142), (1, vi x), (2, vi y)] [.ref (C + 3)] s _
  refine wr_n (pc2 := 18) (lv2 := [(3, vi (s.1 (C + 2) x.toNat)), (0, .ref 142), (1, vi x), (2, vi y)]) (st2 := [vi x, .ref (C + 3)]) 1 (fun _ _ => rfl) ?_
  refine wr_ald (a := x) (v := vi (s.1 (C + 3) x.toNat)) rfl (TK3 hC) rfl (by omega) (by omega) (by decide) rfl fun h6 => ?_
  have h6 : -2147483648 ≤ s.1 (C + 3) x.toNat ∧ s.1 (C + 3) x.toNat ≤ 2147483647 := h6
  show wr (d + 4) tb_M103 19 [(3, vi (s.1 (C + 2) x.toNat)), (0, .ref 142), (1, vi x), (2, vi y)] [vi (s.1 (C + 3) x.toNat)] s _
  refine wr_n (pc2 := 22) (lv2 := [(4, vi (s.1 (C + 3) x.toNat)), (3, vi (s.1 (C + 2) x.toNat)), (0, .ref 142), (1, vi x), (2, vi y)]) (st2 := [.ref 142]) 2 (fun _ _ => rfl) ?_
  refine wr_get (v := .ref C) rfl rfl rfl (by decide) (rv_ref (show (s.1) 142 0 = ((C : Nat) : Int) from hq)) fun h7 => ?_
  show wr (d + 4) tb_M103 25 [(4, vi (s.1 (C + 3) x.toNat)), (3, vi (s.1 (C + 2) x.toNat)), (0, .ref 142), (1, vi x), (2, vi y)] [.ref C] s _
  refine wr_get (v := .ref (C + 4)) rfl rfl (TK0 hC) (by decide) (rv_ref (hK.1 C 3 (C + 4) (rcK hC (by omega)))) fun h8 => ?_
  show wr (d + 4) tb_M103 28 [(4, vi (s.1 (C + 3) x.toNat)), (3, vi (s.1 (C + 2) x.toNat)), (0, .ref 142), (1, vi x), (2, vi y)] [.ref (C + 4)] s _
  refine wr_n (pc2 := 29) (lv2 := [(4, vi (s.1 (C + 3) x.toNat)), (3, vi (s.1 (C + 2) x.toNat)), (0, .ref 142), (1, vi x), (2, vi y)]) (st2 := [vi x, .ref (C + 4)]) 1 (fun _ _ => rfl) ?_
  refine wr_ald (a := x) (v := vi (s.1 (C + 4) x.toNat)) rfl (TK4 hC) rfl (by omega) (by omega) (by decide) rfl fun h9 => ?_
  have h9 : -2147483648 ≤ s.1 (C + 4) x.toNat ∧ s.1 (C + 4) x.toNat ≤ 2147483647 := h9
  show wr (d + 4) tb_M103 30 [(4, vi (s.1 (C + 3) x.toNat)), (3, vi (s.1 (C + 2) x.toNat)), (0, .ref 142), (1, vi x), (2, vi y)] [vi (s.1 (C + 4) x.toNat)] s _
  refine wr_n (pc2 := 33) (lv2 := [(5, vi (s.1 (C + 4) x.toNat)), (4, vi (s.1 (C + 3) x.toNat)), (3, vi (s.1 (C + 2) x.toNat)), (0, .ref 142), (1, vi x), (2, vi y)]) (st2 := [.ref 142]) 2 (fun _ _ => rfl) ?_
  refine wr_get (v := .ref C) rfl rfl rfl (by decide) (rv_ref (show (s.1) 142 0 = ((C : Nat) : Int) from hq)) fun h10 => ?_
  show wr (d + 4) tb_M103 36 [(5, vi (s.1 (C + 4) x.toNat)), (4, vi (s.1 (C + 3) x.toNat)), (3, vi (s.1 (C + 2) x.toNat)), (0, .ref 142), (1, vi x), (2, vi y)] [.ref C] s _
  refine wr_get (v := .ref (C + 1)) rfl rfl (TK0 hC) (by decide) (rv_ref (hK.1 C 0 (C + 1) (rcK hC (by omega)))) fun h11 => ?_
  show wr (d + 4) tb_M103 39 [(5, vi (s.1 (C + 4) x.toNat)), (4, vi (s.1 (C + 3) x.toNat)), (3, vi (s.1 (C + 2) x.toNat)), (0, .ref 142), (1, vi x), (2, vi y)] [.ref (C + 1)] s _
  refine wr_n (pc2 := 40) (lv2 := [(5, vi (s.1 (C + 4) x.toNat)), (4, vi (s.1 (C + 3) x.toNat)), (3, vi (s.1 (C + 2) x.toNat)), (0, .ref 142), (1, vi x), (2, vi y)]) (st2 := [vi x, .ref (C + 1)]) 1 (fun _ _ => rfl) ?_
  refine wr_ald (a := x) (v := vi (s.1 (C + 1) x.toNat)) rfl (TK1 hC) rfl (by omega) (by omega) (by decide) rfl fun h12 => ?_
  have h12 : -2147483648 ≤ s.1 (C + 1) x.toNat ∧ s.1 (C + 1) x.toNat ≤ 2147483647 := h12
  show wr (d + 4) tb_M103 41 [(5, vi (s.1 (C + 4) x.toNat)), (4, vi (s.1 (C + 3) x.toNat)), (3, vi (s.1 (C + 2) x.toNat)), (0, .ref 142), (1, vi x), (2, vi y)] [vi (s.1 (C + 1) x.toNat)] s _
  refine wr_n (pc2 := 45) (lv2 := [(6, vi (s.1 (C + 1) x.toNat)), (5, vi (s.1 (C + 4) x.toNat)), (4, vi (s.1 (C + 3) x.toNat)), (3, vi (s.1 (C + 2) x.toNat)), (0, .ref 142), (1, vi x), (2, vi y)]) (st2 := [vi (s.1 (C + 4) x.toNat)]) 2 (fun _ _ => rfl) ?_
  by_cases h13 : 0 ≤ s.1 (C + 4) x.toNat
  · refine wr_if1t rfl rfl (by unfold i32; omega) h13 ?_
    refine wr_n (pc2 := 55) (lv2 := [(6, vi (s.1 (C + 1) x.toNat)), (5, vi (s.1 (C + 4) x.toNat)), (4, vi (s.1 (C + 3) x.toNat)), (3, vi (s.1 (C + 2) x.toNat)), (0, .ref 142), (1, vi x), (2, vi y)]) (st2 := [vi y]) 1 (fun _ _ => rfl) ?_
    exact k_turnToMove_55 hC (s.1 (C + 1) x.toNat) (s.1 (C + 4) x.toNat) (s.1 (C + 3) x.toNat) (s.1 (C + 2) x.toNat) x y y s hK hq FX_rf rfl (by omega) (by omega) (by omega) (by omega) (by omega) (by omega) (by omega)  
  · refine wr_if1f rfl rfl (by unfold i32; omega) h13 ?_
    refine wr_n (pc2 := 50) (lv2 := [(6, vi (s.1 (C + 1) x.toNat)), (5, vi (s.1 (C + 4) x.toNat)), (4, vi (s.1 (C + 3) x.toNat)), (3, vi (s.1 (C + 2) x.toNat)), (0, .ref 142), (1, vi x), (2, vi y)]) (st2 := [vi 1, vi y]) 2 (fun _ _ => rfl) ?_
    refine wr_any2 rfl rfl fun z14 h15 => ?_
    unfold i32 at h15
    show wr (d + 4) tb_M103 51 [(6, vi (s.1 (C + 1) x.toNat)), (5, vi (s.1 (C + 4) x.toNat)), (4, vi (s.1 (C + 3) x.toNat)), (3, vi (s.1 (C + 2) x.toNat)), (0, .ref 142), (1, vi x), (2, vi y)] [vi z14] s _
    refine wr_n (pc2 := 55) (lv2 := [(6, vi (s.1 (C + 1) x.toNat)), (5, vi (s.1 (C + 4) x.toNat)), (4, vi (s.1 (C + 3) x.toNat)), (3, vi (s.1 (C + 2) x.toNat)), (0, .ref 142), (1, vi x), (2, vi y)]) (st2 := [vi z14]) 1 (fun _ _ => rfl) ?_
    exact k_turnToMove_55 hC (s.1 (C + 1) x.toNat) (s.1 (C + 4) x.toNat) (s.1 (C + 3) x.toNat) (s.1 (C + 2) x.toNat) x y z14 s hK hq FX_rf rfl (by omega) (by omega) (by omega) (by omega) (by omega) (by omega) (by omega)  
set_option maxHeartbeats 20000000 in
set_option maxRecDepth 100000 in
theorem k_turnToCall {d : Nat} {C : Nat} (hC : C = 99 ∨ C = 115)  {x y : Int} (s : rS) (hK : KI s.1) (hq : s.1 142 0 = (C : Int)) (hx : 0 ≤ x ∧ x ≤ 1999) (hy : (-2147483648) ≤ y ∧ y ≤ 2147483647)  : cr (d + 4) 96 [.ref 142, vi x, vi y] s (KV s) := by
  refine cr_of (M := tb_M96) rfl (Nat.le_of_ble_eq_true rfl) ?_
  show wr (d + 3) tb_M96 0 [(0, .ref 142), (1, vi x), (2, vi y)] [] s _
  refine wr_n (pc2 := 1) (lv2 := [(0, .ref 142), (1, vi x), (2, vi y)]) (st2 := [.ref 142]) 1 (fun _ _ => rfl) ?_
  refine wr_get (v := .ref C) rfl rfl rfl (by decide) (rv_ref (show (s.1) 142 0 = ((C : Nat) : Int) from hq)) fun h1 => ?_
  show wr (d + 3) tb_M96 4 [(0, .ref 142), (1, vi x), (2, vi y)] [.ref C] s _
  refine wr_get (v := .ref (C + 2)) rfl rfl (TK0 hC) (by decide) (rv_ref (hK.1 C 1 (C + 2) (rcK hC (by omega)))) fun h2 => ?_
  show wr (d + 3) tb_M96 7 [(0, .ref 142), (1, vi x), (2, vi y)] [.ref (C + 2)] s _
  refine wr_n (pc2 := 8) (lv2 := [(0, .ref 142), (1, vi x), (2, vi y)]) (st2 := [vi x, .ref (C + 2)]) 1 (fun _ _ => rfl) ?_
  refine wr_ald (a := x) (v := vi (s.1 (C + 2) x.toNat)) rfl (TK2 hC) rfl (by omega) (by omega) (by decide) rfl fun h3 => ?_
  have h3 : -2147483648 ≤ s.1 (C + 2) x.toNat ∧ s.1 (C + 2) x.toNat ≤ 2147483647 := h3
  show wr (d + 3) tb_M96 9 [(0, .ref 142), (1, vi x), (2, vi y)] [vi (s.1 (C + 2) x.toNat)] s _
  refine wr_n (pc2 := 11) (lv2 := [(3, vi (s.1 (C + 2) x.toNat)), (0, .ref 142), (1, vi x), (2, vi y)]) (st2 := [.ref 142]) 2 (fun _ _ => rfl) ?_
  refine wr_get (v := .ref C) rfl rfl rfl (by decide) (rv_ref (show (s.1) 142 0 = ((C : Nat) : Int) from hq)) fun h4 => ?_
  show wr (d + 3) tb_M96 14 [(3, vi (s.1 (C + 2) x.toNat)), (0, .ref 142), (1, vi x), (2, vi y)] [.ref C] s _
  refine wr_get (v := .ref (C + 3)) rfl rfl (TK0 hC) (by decide) (rv_ref (hK.1 C 2 (C + 3) (rcK hC (by omega)))) fun h5 => ?_
  show wr (d + 3) tb_M96 17 [(3, vi (s.1 (C + 2) x.toNat)), (0, .ref 142), (1, vi x), (2, vi y)] [.ref (C + 3)] s _
  refine wr_n (pc2 := 18) (lv2 := [(3, vi (s.1 (C + 2) x.toNat)), (0, .ref 142), (1, vi x), (2, vi y)]) (st2 := [vi x, .ref (C + 3)]) 1 (fun _ _ => rfl) ?_
  refine wr_ald (a := x) (v := vi (s.1 (C + 3) x.toNat)) rfl (TK3 hC) rfl (by omega) (by omega) (by decide) rfl fun h6 => ?_
  have h6 : -2147483648 ≤ s.1 (C + 3) x.toNat ∧ s.1 (C + 3) x.toNat ≤ 2147483647 := h6
  show wr (d + 3) tb_M96 19 [(3, vi (s.1 (C + 2) x.toNat)), (0, .ref 142), (1, vi x), (2, vi y)] [vi (s.1 (C + 3) x.toNat)] s _
  refine wr_n (pc2 := 22) (lv2 := [(4, vi (s.1 (C + 3) x.toNat)), (3, vi (s.1 (C + 2) x.toNat)), (0, .ref 142), (1, vi x), (2, vi y)]) (st2 := [.ref 142]) 2 (fun _ _ => rfl) ?_
  refine wr_get (v := .ref C) rfl rfl rfl (by decide) (rv_ref (show (s.1) 142 0 = ((C : Nat) : Int) from hq)) fun h7 => ?_
  show wr (d + 3) tb_M96 25 [(4, vi (s.1 (C + 3) x.toNat)), (3, vi (s.1 (C + 2) x.toNat)), (0, .ref 142), (1, vi x), (2, vi y)] [.ref C] s _
  refine wr_get (v := .ref (C + 4)) rfl rfl (TK0 hC) (by decide) (rv_ref (hK.1 C 3 (C + 4) (rcK hC (by omega)))) fun h8 => ?_
  show wr (d + 3) tb_M96 28 [(4, vi (s.1 (C + 3) x.toNat)), (3, vi (s.1 (C + 2) x.toNat)), (0, .ref 142), (1, vi x), (2, vi y)] [.ref (C + 4)] s _
  refine wr_n (pc2 := 29) (lv2 := [(4, vi (s.1 (C + 3) x.toNat)), (3, vi (s.1 (C + 2) x.toNat)), (0, .ref 142), (1, vi x), (2, vi y)]) (st2 := [vi x, .ref (C + 4)]) 1 (fun _ _ => rfl) ?_
  refine wr_ald (a := x) (v := vi (s.1 (C + 4) x.toNat)) rfl (TK4 hC) rfl (by omega) (by omega) (by decide) rfl fun h9 => ?_
  have h9 : -2147483648 ≤ s.1 (C + 4) x.toNat ∧ s.1 (C + 4) x.toNat ≤ 2147483647 := h9
  show wr (d + 3) tb_M96 30 [(4, vi (s.1 (C + 3) x.toNat)), (3, vi (s.1 (C + 2) x.toNat)), (0, .ref 142), (1, vi x), (2, vi y)] [vi (s.1 (C + 4) x.toNat)] s _
  refine wr_n (pc2 := 35) (lv2 := [(5, vi (s.1 (C + 4) x.toNat)), (4, vi (s.1 (C + 3) x.toNat)), (3, vi (s.1 (C + 2) x.toNat)), (0, .ref 142), (1, vi x), (2, vi y)]) (st2 := [vi (s.1 (C + 4) x.toNat), vi y]) 3 (fun _ _ => rfl) ?_
  by_cases h10 : s.1 (C + 4) x.toNat ≤ y
  · refine wr_if2t rfl rfl (by unfold i32; omega) (by unfold i32; omega) h10 ?_
    refine wr_n (pc2 := 83) (lv2 := [(5, vi (s.1 (C + 4) x.toNat)), (4, vi (s.1 (C + 3) x.toNat)), (3, vi (s.1 (C + 2) x.toNat)), (0, .ref 142), (1, vi x), (2, vi y)]) (st2 := [vi (s.1 (C + 4) x.toNat), vi y]) 2 (fun _ _ => rfl) ?_
    by_cases h11 : y ≠ s.1 (C + 4) x.toNat
    · refine wr_if2t rfl rfl (by unfold i32; omega) (by unfold i32; omega) h11 ?_
      refine wr_n (pc2 := 125) (lv2 := [(5, vi (s.1 (C + 4) x.toNat)), (4, vi (s.1 (C + 3) x.toNat)), (3, vi (s.1 (C + 2) x.toNat)), (0, .ref 142), (1, vi x), (2, vi y)]) (st2 := [.ref 142, .ref 142]) 2 (fun _ _ => rfl) ?_
      refine wr_get (v := .ref 146) rfl rfl rfl (by decide) (rv_ref (hK.1 142 4 146 rfl)) fun h12 => ?_
      show wr (d + 3) tb_M96 128 [(5, vi (s.1 (C + 4) x.toNat)), (4, vi (s.1 (C + 3) x.toNat)), (3, vi (s.1 (C + 2) x.toNat)), (0, .ref 142), (1, vi x), (2, vi y)] [.ref 146, .ref 142] s _
      refine wr_n (pc2 := 129) (lv2 := [(5, vi (s.1 (C + 4) x.toNat)), (4, vi (s.1 (C + 3) x.toNat)), (3, vi (s.1 (C + 2) x.toNat)), (0, .ref 142), (1, vi x), (2, vi y)]) (st2 := [vi x, .ref 146, .ref 142]) 1 (fun _ _ => rfl) ?_
      refine wr_ald (a := x) (v := vi (s.1 146 x.toNat)) rfl rfl rfl (by omega) (by omega) (by decide) rfl fun h13 => ?_
      have h13 : -2147483648 ≤ s.1 146 x.toNat ∧ s.1 146 x.toNat ≤ 2147483647 := h13
      show wr (d + 3) tb_M96 130 [(5, vi (s.1 (C + 4) x.toNat)), (4, vi (s.1 (C + 3) x.toNat)), (3, vi (s.1 (C + 2) x.toNat)), (0, .ref 142), (1, vi x), (2, vi y)] [vi (s.1 146 x.toNat), .ref 142] s _
      refine wr_call1 (args := [vi (s.1 146 x.toNat)]) (rest := []) rfl rfl rfl rfl (Nat.le_of_ble_eq_true rfl) (cr_mono (k_val (d := d + 1) (C := C) hC (x := s.1 146 x.toNat) s hK hq (by omega)) ?_)
      rintro s14 out ⟨z14, rfl, hz14, hp14, e14⟩
      refine ⟨_, rfl, ?_⟩
      rw [e14]
      unfold i32 at hz14
      clear hp14
      show wr (d + 3) tb_M96 133 [(5, vi (s.1 (C + 4) x.toNat)), (4, vi (s.1 (C + 3) x.toNat)), (3, vi (s.1 (C + 2) x.toNat)), (0, .ref 142), (1, vi x), (2, vi y)] [vi z14] s _
      refine wr_n (pc2 := 136) (lv2 := [(6, vi z14), (5, vi (s.1 (C + 4) x.toNat)), (4, vi (s.1 (C + 3) x.toNat)), (3, vi (s.1 (C + 2) x.toNat)), (0, .ref 142), (1, vi x), (2, vi y)]) (st2 := [.ref 142]) 2 (fun _ _ => rfl) ?_
      refine wr_get (v := .ref 146) rfl rfl rfl (by decide) (rv_ref (hK.1 142 4 146 rfl)) fun h15 => ?_
      show wr (d + 3) tb_M96 139 [(6, vi z14), (5, vi (s.1 (C + 4) x.toNat)), (4, vi (s.1 (C + 3) x.toNat)), (3, vi (s.1 (C + 2) x.toNat)), (0, .ref 142), (1, vi x), (2, vi y)] [.ref 146] s _
      refine wr_n (pc2 := 141) (lv2 := [(6, vi z14), (5, vi (s.1 (C + 4) x.toNat)), (4, vi (s.1 (C + 3) x.toNat)), (3, vi (s.1 (C + 2) x.toNat)), (0, .ref 142), (1, vi x), (2, vi y)]) (st2 := [.ref 142, vi x, .ref 146]) 2 (fun _ _ => rfl) ?_
      refine wr_get (v := .ref C) rfl rfl rfl (by decide) (rv_ref (show (s.1) 142 0 = ((C : Nat) : Int) from hq)) fun h16 => ?_
      show wr (d + 3) tb_M96 144 [(6, vi z14), (5, vi (s.1 (C + 4) x.toNat)), (4, vi (s.1 (C + 3) x.toNat)), (3, vi (s.1 (C + 2) x.toNat)), (0, .ref 142), (1, vi x), (2, vi y)] [.ref C, vi x, .ref 146] s _
      refine wr_n (pc2 := 145) (lv2 := [(6, vi z14), (5, vi (s.1 (C + 4) x.toNat)), (4, vi (s.1 (C + 3) x.toNat)), (3, vi (s.1 (C + 2) x.toNat)), (0, .ref 142), (1, vi x), (2, vi y)]) (st2 := [.ref 142, .ref C, vi x, .ref 146]) 1 (fun _ _ => rfl) ?_
      refine wr_get (v := .ref 146) rfl rfl rfl (by decide) (rv_ref (hK.1 142 4 146 rfl)) fun h17 => ?_
      show wr (d + 3) tb_M96 148 [(6, vi z14), (5, vi (s.1 (C + 4) x.toNat)), (4, vi (s.1 (C + 3) x.toNat)), (3, vi (s.1 (C + 2) x.toNat)), (0, .ref 142), (1, vi x), (2, vi y)] [.ref 146, .ref C, vi x, .ref 146] s _
      refine wr_n (pc2 := 149) (lv2 := [(6, vi z14), (5, vi (s.1 (C + 4) x.toNat)), (4, vi (s.1 (C + 3) x.toNat)), (3, vi (s.1 (C + 2) x.toNat)), (0, .ref 142), (1, vi x), (2, vi y)]) (st2 := [vi x, .ref 146, .ref C, vi x, .ref 146]) 1 (fun _ _ => rfl) ?_
      refine wr_ald (a := x) (v := vi (s.1 146 x.toNat)) rfl rfl rfl (by omega) (by omega) (by decide) rfl fun h18 => ?_
      have h18 : -2147483648 ≤ s.1 146 x.toNat ∧ s.1 146 x.toNat ≤ 2147483647 := h18
      show wr (d + 3) tb_M96 150 [(6, vi z14), (5, vi (s.1 (C + 4) x.toNat)), (4, vi (s.1 (C + 3) x.toNat)), (3, vi (s.1 (C + 2) x.toNat)), (0, .ref 142), (1, vi x), (2, vi y)] [vi (s.1 146 x.toNat), .ref C, vi x, .ref 146] s _
      refine wr_call1 (args := [vi (s.1 146 x.toNat)]) (rest := [vi x, .ref 146]) rfl rfl rfl (TK0 hC) (Nat.le_of_ble_eq_true rfl) (cr_mono (k_follower (d := d + 1) (C := C) hC (x := s.1 146 x.toNat) s hK (by omega)) ?_)
      rintro s19 out ⟨z19, rfl, hz19, hp19, e19⟩
      refine ⟨_, rfl, ?_⟩
      rw [e19]
      unfold i32 at hz19
      clear hp19
      show wr (d + 3) tb_M96 153 [(6, vi z14), (5, vi (s.1 (C + 4) x.toNat)), (4, vi (s.1 (C + 3) x.toNat)), (3, vi (s.1 (C + 2) x.toNat)), (0, .ref 142), (1, vi x), (2, vi y)] [vi z19, vi x, .ref 146] s _
      refine wr_ast (a := x) (z := z19) rfl (by decide) rfl rfl (by omega) (by omega) (by decide) rfl (show -2147483648 ≤ z19 ∧ z19 ≤ 2147483647 by omega) ?_
      show wr (d + 3) tb_M96 154 [(6, vi z14), (5, vi (s.1 (C + 4) x.toNat)), (4, vi (s.1 (C + 3) x.toNat)), (3, vi (s.1 (C + 2) x.toNat)), (0, .ref 142), (1, vi x), (2, vi y)] [] (up2 s.1 146 x.toNat z19, s.2) _
      have hK20 : KI (up2 s.1 146 x.toNat z19) := (KI_up hK (n0 rfl (by omega) (by omega)) (kb_no rfl))
      refine wr_n (pc2 := 156) (lv2 := [(6, vi z14), (5, vi (s.1 (C + 4) x.toNat)), (4, vi (s.1 (C + 3) x.toNat)), (3, vi (s.1 (C + 2) x.toNat)), (0, .ref 142), (1, vi x), (2, vi y)]) (st2 := [.ref 142, .ref 142]) 2 (fun _ _ => rfl) ?_
      refine wr_get (v := .ref 146) rfl rfl rfl (by decide) (rv_ref (hK20.1 142 4 146 rfl)) fun h21 => ?_
      show wr (d + 3) tb_M96 159 [(6, vi z14), (5, vi (s.1 (C + 4) x.toNat)), (4, vi (s.1 (C + 3) x.toNat)), (3, vi (s.1 (C + 2) x.toNat)), (0, .ref 142), (1, vi x), (2, vi y)] [.ref 146, .ref 142] (up2 s.1 146 x.toNat z19, s.2) _
      refine wr_n (pc2 := 160) (lv2 := [(6, vi z14), (5, vi (s.1 (C + 4) x.toNat)), (4, vi (s.1 (C + 3) x.toNat)), (3, vi (s.1 (C + 2) x.toNat)), (0, .ref 142), (1, vi x), (2, vi y)]) (st2 := [vi x, .ref 146, .ref 142]) 1 (fun _ _ => rfl) ?_
      refine wr_ald (a := x) (v := vi z19) rfl rfl rfl (by omega) (by omega) (by decide) (by show rv _ ((up2 s.1 146 x.toNat z19) 146 x.toNat) = _; rw [up_self]; rfl) fun h22 => ?_
      have h22 : rg _ ((up2 s.1 146 x.toNat z19) 146 x.toNat) := h22
      rw [up_self] at h22
      have h22 : -2147483648 ≤ z19 ∧ z19 ≤ 2147483647 := h22
      show wr (d + 3) tb_M96 161 [(6, vi z14), (5, vi (s.1 (C + 4) x.toNat)), (4, vi (s.1 (C + 3) x.toNat)), (3, vi (s.1 (C + 2) x.toNat)), (0, .ref 142), (1, vi x), (2, vi y)] [vi z19, .ref 142] (up2 s.1 146 x.toNat z19, s.2) _
      refine wr_n (pc2 := 164) (lv2 := [(6, vi z14), (5, vi (s.1 (C + 4) x.toNat)), (4, vi (s.1 (C + 3) x.toNat)), (3, vi (s.1 (C + 2) x.toNat)), (0, .ref 142), (1, vi x), (2, vi y)]) (st2 := [vi z14, vi x, vi z19, .ref 142]) 2 (fun _ _ => rfl) ?_
      refine wr_call1 (args := [vi z19, vi x, vi z14]) (rest := []) rfl rfl rfl rfl (Nat.le_of_ble_eq_true rfl) (cr_mono (k_askOrTell (d := d + 0) (C := C) hC (x := z19) (y := x) (u := z14) (up2 s.1 146 x.toNat z19, s.2) hK20 (show (up2 s.1 146 x.toNat z19) 142 0 = ((C : Nat) : Int) from ((if_neg (by omega)).trans hq)) (by omega) (by omega) (by omega)) ?_)
      rintro s23 out ⟨hK23, hY23, hc23, rfl⟩
      refine ⟨_, rfl, ?_⟩
      have hX23 : FX s.1 s23.1 := FX_tr (FX_up FX_rf (by unfold fx; omega)) hY23
      have hC23 : s23.2 = s.2 := hc23.trans rfl
      have hq23 : s23.1 142 0 = (C : Int) := (hY23 142 0 (by unfold fx; omega)).trans (show (up2 s.1 146 x.toNat z19) 142 0 = ((C : Nat) : Int) from ((if_neg (by omega)).trans hq))
      show wr (d + 3) tb_M96 167 [(6, vi z14), (5, vi (s.1 (C + 4) x.toNat)), (4, vi (s.1 (C + 3) x.toNat)), (3, vi (s.1 (C + 2) x.toNat)), (0, .ref 142), (1, vi x), (2, vi y)] [] s23 _
      refine wr_end (fun _ _ => rfl) ?_
      exact ⟨hK23, hX23, hC23, rfl⟩
    · refine wr_if2f rfl rfl (by unfold i32; omega) (by unfold i32; omega) h11 ?_
      refine wr_n (pc2 := 92) (lv2 := [(5, vi (s.1 (C + 4) x.toNat)), (4, vi (s.1 (C + 3) x.toNat)), (3, vi (s.1 (C + 2) x.toNat)), (0, .ref 142), (1, vi x), (2, vi y)]) (st2 := [vi (s.1 (C + 4) x.toNat), vi (s.1 (C + 3) x.toNat), vi (s.1 (C + 2) x.toNat), .ref 142]) 4 (fun _ _ => rfl) ?_
      refine wr_call1 (args := [vi (s.1 (C + 2) x.toNat), vi (s.1 (C + 3) x.toNat), vi (s.1 (C + 4) x.toNat)]) (rest := []) rfl rfl rfl rfl (Nat.le_of_ble_eq_true rfl) (cr_mono (k_pass (d := d + 0) (C := C) hC (x := s.1 (C + 2) x.toNat) (y := s.1 (C + 3) x.toNat) (u := s.1 (C + 4) x.toNat) s hK hq (by omega) (by omega) (by omega)) ?_)
      rintro s24 out ⟨hK24, hY24, hc24, rfl⟩
      refine ⟨_, rfl, ?_⟩
      have hX24 : FX s.1 s24.1 := FX_tr FX_rf hY24
      have hC24 : s24.2 = s.2 := hc24.trans rfl
      have hq24 : s24.1 142 0 = (C : Int) := (hY24 142 0 (by unfold fx; omega)).trans hq
      show wr (d + 3) tb_M96 95 [(5, vi (s.1 (C + 4) x.toNat)), (4, vi (s.1 (C + 3) x.toNat)), (3, vi (s.1 (C + 2) x.toNat)), (0, .ref 142), (1, vi x), (2, vi y)] [] s24 _
      refine wr_n (pc2 := 96) (lv2 := [(5, vi (s.1 (C + 4) x.toNat)), (4, vi (s.1 (C + 3) x.toNat)), (3, vi (s.1 (C + 2) x.toNat)), (0, .ref 142), (1, vi x), (2, vi y)]) (st2 := [.ref 142]) 1 (fun _ _ => rfl) ?_
      refine wr_get (v := .ref 146) rfl rfl rfl (by decide) (rv_ref (hK24.1 142 4 146 rfl)) fun h25 => ?_
      show wr (d + 3) tb_M96 99 [(5, vi (s.1 (C + 4) x.toNat)), (4, vi (s.1 (C + 3) x.toNat)), (3, vi (s.1 (C + 2) x.toNat)), (0, .ref 142), (1, vi x), (2, vi y)] [.ref 146] s24 _
      refine wr_n (pc2 := 101) (lv2 := [(5, vi (s.1 (C + 4) x.toNat)), (4, vi (s.1 (C + 3) x.toNat)), (3, vi (s.1 (C + 2) x.toNat)), (0, .ref 142), (1, vi x), (2, vi y)]) (st2 := [.ref 142, vi x, .ref 146]) 2 (fun _ _ => rfl) ?_
      refine wr_get (v := .ref C) rfl rfl rfl (by decide) (rv_ref (show (s24.1) 142 0 = ((C : Nat) : Int) from hq24)) fun h26 => ?_
      show wr (d + 3) tb_M96 104 [(5, vi (s.1 (C + 4) x.toNat)), (4, vi (s.1 (C + 3) x.toNat)), (3, vi (s.1 (C + 2) x.toNat)), (0, .ref 142), (1, vi x), (2, vi y)] [.ref C, vi x, .ref 146] s24 _
      refine wr_n (pc2 := 105) (lv2 := [(5, vi (s.1 (C + 4) x.toNat)), (4, vi (s.1 (C + 3) x.toNat)), (3, vi (s.1 (C + 2) x.toNat)), (0, .ref 142), (1, vi x), (2, vi y)]) (st2 := [vi (s.1 (C + 2) x.toNat), .ref C, vi x, .ref 146]) 1 (fun _ _ => rfl) ?_
      refine wr_call1 (args := [vi (s.1 (C + 2) x.toNat)]) (rest := [vi x, .ref 146]) rfl rfl rfl (TK0 hC) (Nat.le_of_ble_eq_true rfl) (cr_mono (k_body (d := d + 2) (C := C) hC (x := s.1 (C + 2) x.toNat) s24 hK24 (by omega)) ?_)
      rintro s27 out ⟨z27, rfl, hz27, hp27, e27⟩
      refine ⟨_, rfl, ?_⟩
      rw [e27]
      unfold i32 at hz27
      clear hp27
      show wr (d + 3) tb_M96 108 [(5, vi (s.1 (C + 4) x.toNat)), (4, vi (s.1 (C + 3) x.toNat)), (3, vi (s.1 (C + 2) x.toNat)), (0, .ref 142), (1, vi x), (2, vi y)] [vi z27, vi x, .ref 146] s24 _
      refine wr_ast (a := x) (z := z27) rfl (by decide) rfl rfl (by omega) (by omega) (by decide) rfl (show -2147483648 ≤ z27 ∧ z27 ≤ 2147483647 by omega) ?_
      show wr (d + 3) tb_M96 109 [(5, vi (s.1 (C + 4) x.toNat)), (4, vi (s.1 (C + 3) x.toNat)), (3, vi (s.1 (C + 2) x.toNat)), (0, .ref 142), (1, vi x), (2, vi y)] [] (up2 s24.1 146 x.toNat z27, s24.2) _
      have hK28 : KI (up2 s24.1 146 x.toNat z27) := (KI_up hK24 (n0 rfl (by omega) (by omega)) (kb_no rfl))
      refine wr_n (pc2 := 111) (lv2 := [(5, vi (s.1 (C + 4) x.toNat)), (4, vi (s.1 (C + 3) x.toNat)), (3, vi (s.1 (C + 2) x.toNat)), (0, .ref 142), (1, vi x), (2, vi y)]) (st2 := [.ref 142, .ref 142]) 2 (fun _ _ => rfl) ?_
      refine wr_get (v := .ref 146) rfl rfl rfl (by decide) (rv_ref (hK28.1 142 4 146 rfl)) fun h29 => ?_
      show wr (d + 3) tb_M96 114 [(5, vi (s.1 (C + 4) x.toNat)), (4, vi (s.1 (C + 3) x.toNat)), (3, vi (s.1 (C + 2) x.toNat)), (0, .ref 142), (1, vi x), (2, vi y)] [.ref 146, .ref 142] (up2 s24.1 146 x.toNat z27, s24.2) _
      refine wr_n (pc2 := 115) (lv2 := [(5, vi (s.1 (C + 4) x.toNat)), (4, vi (s.1 (C + 3) x.toNat)), (3, vi (s.1 (C + 2) x.toNat)), (0, .ref 142), (1, vi x), (2, vi y)]) (st2 := [vi x, .ref 146, .ref 142]) 1 (fun _ _ => rfl) ?_
      refine wr_ald (a := x) (v := vi z27) rfl rfl rfl (by omega) (by omega) (by decide) (by show rv _ ((up2 s24.1 146 x.toNat z27) 146 x.toNat) = _; rw [up_self]; rfl) fun h30 => ?_
      have h30 : rg _ ((up2 s24.1 146 x.toNat z27) 146 x.toNat) := h30
      rw [up_self] at h30
      have h30 : -2147483648 ≤ z27 ∧ z27 ≤ 2147483647 := h30
      show wr (d + 3) tb_M96 116 [(5, vi (s.1 (C + 4) x.toNat)), (4, vi (s.1 (C + 3) x.toNat)), (3, vi (s.1 (C + 2) x.toNat)), (0, .ref 142), (1, vi x), (2, vi y)] [vi z27, .ref 142] (up2 s24.1 146 x.toNat z27, s24.2) _
      refine wr_n (pc2 := 117) (lv2 := [(5, vi (s.1 (C + 4) x.toNat)), (4, vi (s.1 (C + 3) x.toNat)), (3, vi (s.1 (C + 2) x.toNat)), (0, .ref 142), (1, vi x), (2, vi y)]) (st2 := [vi x, vi z27, .ref 142]) 1 (fun _ _ => rfl) ?_
      refine wr_call1 (args := [vi z27, vi x]) (rest := []) rfl rfl rfl rfl (Nat.le_of_ble_eq_true rfl) (cr_mono (k_ask (d := d + 1) (C := C) hC (x := z27) (y := x) (up2 s24.1 146 x.toNat z27, s24.2) hK28 (show (up2 s24.1 146 x.toNat z27) 142 0 = ((C : Nat) : Int) from ((if_neg (by omega)).trans hq24)) (by omega) (by omega)) ?_)
      rintro s31 out ⟨hK31, hY31, hc31, rfl⟩
      refine ⟨_, rfl, ?_⟩
      have hX31 : FX s.1 s31.1 := FX_tr (FX_up hX24 (by unfold fx; omega)) hY31
      have hC31 : s31.2 = s.2 := hc31.trans hC24
      have hq31 : s31.1 142 0 = (C : Int) := (hY31 142 0 (by unfold fx; omega)).trans (show (up2 s24.1 146 x.toNat z27) 142 0 = ((C : Nat) : Int) from ((if_neg (by omega)).trans hq24))
      show wr (d + 3) tb_M96 120 [(5, vi (s.1 (C + 4) x.toNat)), (4, vi (s.1 (C + 3) x.toNat)), (3, vi (s.1 (C + 2) x.toNat)), (0, .ref 142), (1, vi x), (2, vi y)] [] s31 _
      refine wr_n (pc2 := 167) (lv2 := [(5, vi (s.1 (C + 4) x.toNat)), (4, vi (s.1 (C + 3) x.toNat)), (3, vi (s.1 (C + 2) x.toNat)), (0, .ref 142), (1, vi x), (2, vi y)]) (st2 := []) 1 (fun _ _ => rfl) ?_
      refine wr_end (fun _ _ => rfl) ?_
      exact ⟨hK31, hX31, hC31, rfl⟩
  · refine wr_if2f rfl rfl (by unfold i32; omega) (by unfold i32; omega) h10 ?_
    refine wr_n (pc2 := 39) (lv2 := [(5, vi (s.1 (C + 4) x.toNat)), (4, vi (s.1 (C + 3) x.toNat)), (3, vi (s.1 (C + 2) x.toNat)), (0, .ref 142), (1, vi x), (2, vi y)]) (st2 := [.ref 142]) 1 (fun _ _ => rfl) ?_
    refine wr_get (v := .ref 146) rfl rfl rfl (by decide) (rv_ref (hK.1 142 4 146 rfl)) fun h32 => ?_
    show wr (d + 3) tb_M96 42 [(5, vi (s.1 (C + 4) x.toNat)), (4, vi (s.1 (C + 3) x.toNat)), (3, vi (s.1 (C + 2) x.toNat)), (0, .ref 142), (1, vi x), (2, vi y)] [.ref 146] s _
    refine wr_n (pc2 := 44) (lv2 := [(5, vi (s.1 (C + 4) x.toNat)), (4, vi (s.1 (C + 3) x.toNat)), (3, vi (s.1 (C + 2) x.toNat)), (0, .ref 142), (1, vi x), (2, vi y)]) (st2 := [vi y, vi x, .ref 146]) 2 (fun _ _ => rfl) ?_
    by_cases h33 : y ≠ 0
    · refine wr_if1t rfl rfl (by unfold i32; omega) h33 ?_
      refine wr_n (pc2 := 53) (lv2 := [(5, vi (s.1 (C + 4) x.toNat)), (4, vi (s.1 (C + 3) x.toNat)), (3, vi (s.1 (C + 2) x.toNat)), (0, .ref 142), (1, vi x), (2, vi y)]) (st2 := [.ref 142, vi x, .ref 146]) 1 (fun _ _ => rfl) ?_
      refine wr_get (v := .ref C) rfl rfl rfl (by decide) (rv_ref (show (s.1) 142 0 = ((C : Nat) : Int) from hq)) fun h34 => ?_
      show wr (d + 3) tb_M96 56 [(5, vi (s.1 (C + 4) x.toNat)), (4, vi (s.1 (C + 3) x.toNat)), (3, vi (s.1 (C + 2) x.toNat)), (0, .ref 142), (1, vi x), (2, vi y)] [.ref C, vi x, .ref 146] s _
      refine wr_n (pc2 := 57) (lv2 := [(5, vi (s.1 (C + 4) x.toNat)), (4, vi (s.1 (C + 3) x.toNat)), (3, vi (s.1 (C + 2) x.toNat)), (0, .ref 142), (1, vi x), (2, vi y)]) (st2 := [.ref 142, .ref C, vi x, .ref 146]) 1 (fun _ _ => rfl) ?_
      refine wr_get (v := .ref 146) rfl rfl rfl (by decide) (rv_ref (hK.1 142 4 146 rfl)) fun h35 => ?_
      show wr (d + 3) tb_M96 60 [(5, vi (s.1 (C + 4) x.toNat)), (4, vi (s.1 (C + 3) x.toNat)), (3, vi (s.1 (C + 2) x.toNat)), (0, .ref 142), (1, vi x), (2, vi y)] [.ref 146, .ref C, vi x, .ref 146] s _
      refine wr_n (pc2 := 61) (lv2 := [(5, vi (s.1 (C + 4) x.toNat)), (4, vi (s.1 (C + 3) x.toNat)), (3, vi (s.1 (C + 2) x.toNat)), (0, .ref 142), (1, vi x), (2, vi y)]) (st2 := [vi x, .ref 146, .ref C, vi x, .ref 146]) 1 (fun _ _ => rfl) ?_
      refine wr_ald (a := x) (v := vi (s.1 146 x.toNat)) rfl rfl rfl (by omega) (by omega) (by decide) rfl fun h36 => ?_
      have h36 : -2147483648 ≤ s.1 146 x.toNat ∧ s.1 146 x.toNat ≤ 2147483647 := h36
      show wr (d + 3) tb_M96 62 [(5, vi (s.1 (C + 4) x.toNat)), (4, vi (s.1 (C + 3) x.toNat)), (3, vi (s.1 (C + 2) x.toNat)), (0, .ref 142), (1, vi x), (2, vi y)] [vi (s.1 146 x.toNat), .ref C, vi x, .ref 146] s _
      refine wr_call1 (args := [vi (s.1 146 x.toNat)]) (rest := [vi x, .ref 146]) rfl rfl rfl (TK0 hC) (Nat.le_of_ble_eq_true rfl) (cr_mono (k_follower (d := d + 1) (C := C) hC (x := s.1 146 x.toNat) s hK (by omega)) ?_)
      rintro s37 out ⟨z37, rfl, hz37, hp37, e37⟩
      refine ⟨_, rfl, ?_⟩
      rw [e37]
      unfold i32 at hz37
      clear hp37
      show wr (d + 3) tb_M96 65 [(5, vi (s.1 (C + 4) x.toNat)), (4, vi (s.1 (C + 3) x.toNat)), (3, vi (s.1 (C + 2) x.toNat)), (0, .ref 142), (1, vi x), (2, vi y)] [vi z37, vi x, .ref 146] s _
      refine wr_ast (a := x) (z := z37) rfl (by decide) rfl rfl (by omega) (by omega) (by decide) rfl (show -2147483648 ≤ z37 ∧ z37 ≤ 2147483647 by omega) ?_
      show wr (d + 3) tb_M96 66 [(5, vi (s.1 (C + 4) x.toNat)), (4, vi (s.1 (C + 3) x.toNat)), (3, vi (s.1 (C + 2) x.toNat)), (0, .ref 142), (1, vi x), (2, vi y)] [] (up2 s.1 146 x.toNat z37, s.2) _
      have hK38 : KI (up2 s.1 146 x.toNat z37) := (KI_up hK (n0 rfl (by omega) (by omega)) (kb_no rfl))
      refine wr_n (pc2 := 68) (lv2 := [(5, vi (s.1 (C + 4) x.toNat)), (4, vi (s.1 (C + 3) x.toNat)), (3, vi (s.1 (C + 2) x.toNat)), (0, .ref 142), (1, vi x), (2, vi y)]) (st2 := [.ref 142, .ref 142]) 2 (fun _ _ => rfl) ?_
      refine wr_get (v := .ref 146) rfl rfl rfl (by decide) (rv_ref (hK38.1 142 4 146 rfl)) fun h39 => ?_
      show wr (d + 3) tb_M96 71 [(5, vi (s.1 (C + 4) x.toNat)), (4, vi (s.1 (C + 3) x.toNat)), (3, vi (s.1 (C + 2) x.toNat)), (0, .ref 142), (1, vi x), (2, vi y)] [.ref 146, .ref 142] (up2 s.1 146 x.toNat z37, s.2) _
      refine wr_n (pc2 := 72) (lv2 := [(5, vi (s.1 (C + 4) x.toNat)), (4, vi (s.1 (C + 3) x.toNat)), (3, vi (s.1 (C + 2) x.toNat)), (0, .ref 142), (1, vi x), (2, vi y)]) (st2 := [vi x, .ref 146, .ref 142]) 1 (fun _ _ => rfl) ?_
      refine wr_ald (a := x) (v := vi z37) rfl rfl rfl (by omega) (by omega) (by decide) (by show rv _ ((up2 s.1 146 x.toNat z37) 146 x.toNat) = _; rw [up_self]; rfl) fun h40 => ?_
      have h40 : rg _ ((up2 s.1 146 x.toNat z37) 146 x.toNat) := h40
      rw [up_self] at h40
      have h40 : -2147483648 ≤ z37 ∧ z37 ≤ 2147483647 := h40
      show wr (d + 3) tb_M96 73 [(5, vi (s.1 (C + 4) x.toNat)), (4, vi (s.1 (C + 3) x.toNat)), (3, vi (s.1 (C + 2) x.toNat)), (0, .ref 142), (1, vi x), (2, vi y)] [vi z37, .ref 142] (up2 s.1 146 x.toNat z37, s.2) _
      refine wr_n (pc2 := 74) (lv2 := [(5, vi (s.1 (C + 4) x.toNat)), (4, vi (s.1 (C + 3) x.toNat)), (3, vi (s.1 (C + 2) x.toNat)), (0, .ref 142), (1, vi x), (2, vi y)]) (st2 := [vi x, vi z37, .ref 142]) 1 (fun _ _ => rfl) ?_
      refine wr_call1 (args := [vi z37, vi x]) (rest := []) rfl rfl rfl rfl (Nat.le_of_ble_eq_true rfl) (cr_mono (k_ask (d := d + 1) (C := C) hC (x := z37) (y := x) (up2 s.1 146 x.toNat z37, s.2) hK38 (show (up2 s.1 146 x.toNat z37) 142 0 = ((C : Nat) : Int) from ((if_neg (by omega)).trans hq)) (by omega) (by omega)) ?_)
      rintro s41 out ⟨hK41, hY41, hc41, rfl⟩
      refine ⟨_, rfl, ?_⟩
      have hX41 : FX s.1 s41.1 := FX_tr (FX_up FX_rf (by unfold fx; omega)) hY41
      have hC41 : s41.2 = s.2 := hc41.trans rfl
      have hq41 : s41.1 142 0 = (C : Int) := (hY41 142 0 (by unfold fx; omega)).trans (show (up2 s.1 146 x.toNat z37) 142 0 = ((C : Nat) : Int) from ((if_neg (by omega)).trans hq))
      show wr (d + 3) tb_M96 77 [(5, vi (s.1 (C + 4) x.toNat)), (4, vi (s.1 (C + 3) x.toNat)), (3, vi (s.1 (C + 2) x.toNat)), (0, .ref 142), (1, vi x), (2, vi y)] [] s41 _
      refine wr_n (pc2 := 167) (lv2 := [(5, vi (s.1 (C + 4) x.toNat)), (4, vi (s.1 (C + 3) x.toNat)), (3, vi (s.1 (C + 2) x.toNat)), (0, .ref 142), (1, vi x), (2, vi y)]) (st2 := []) 1 (fun _ _ => rfl) ?_
      refine wr_end (fun _ _ => rfl) ?_
      exact ⟨hK41, hX41, hC41, rfl⟩
    · refine wr_if1f rfl rfl (by unfold i32; omega) h33 ?_
      refine wr_n (pc2 := 65) (lv2 := [(5, vi (s.1 (C + 4) x.toNat)), (4, vi (s.1 (C + 3) x.toNat)), (3, vi (s.1 (C + 2) x.toNat)), (0, .ref 142), (1, vi x), (2, vi y)]) (st2 := [vi (s.1 (C + 3) x.toNat), vi x, .ref 146]) 2 (fun _ _ => rfl) ?_
      refine wr_ast (a := x) (z := s.1 (C + 3) x.toNat) rfl (by decide) rfl rfl (by omega) (by omega) (by decide) rfl (show -2147483648 ≤ s.1 (C + 3) x.toNat ∧ s.1 (C + 3) x.toNat ≤ 2147483647 by omega) ?_
      show wr (d + 3) tb_M96 66 [(5, vi (s.1 (C + 4) x.toNat)), (4, vi (s.1 (C + 3) x.toNat)), (3, vi (s.1 (C + 2) x.toNat)), (0, .ref 142), (1, vi x), (2, vi y)] [] (up2 s.1 146 x.toNat (s.1 (C + 3) x.toNat), s.2) _
      have hK42 : KI (up2 s.1 146 x.toNat (s.1 (C + 3) x.toNat)) := (KI_up hK (n0 rfl (by omega) (by omega)) (kb_no rfl))
      refine wr_n (pc2 := 68) (lv2 := [(5, vi (s.1 (C + 4) x.toNat)), (4, vi (s.1 (C + 3) x.toNat)), (3, vi (s.1 (C + 2) x.toNat)), (0, .ref 142), (1, vi x), (2, vi y)]) (st2 := [.ref 142, .ref 142]) 2 (fun _ _ => rfl) ?_
      refine wr_get (v := .ref 146) rfl rfl rfl (by decide) (rv_ref (hK42.1 142 4 146 rfl)) fun h43 => ?_
      show wr (d + 3) tb_M96 71 [(5, vi (s.1 (C + 4) x.toNat)), (4, vi (s.1 (C + 3) x.toNat)), (3, vi (s.1 (C + 2) x.toNat)), (0, .ref 142), (1, vi x), (2, vi y)] [.ref 146, .ref 142] (up2 s.1 146 x.toNat (s.1 (C + 3) x.toNat), s.2) _
      refine wr_n (pc2 := 72) (lv2 := [(5, vi (s.1 (C + 4) x.toNat)), (4, vi (s.1 (C + 3) x.toNat)), (3, vi (s.1 (C + 2) x.toNat)), (0, .ref 142), (1, vi x), (2, vi y)]) (st2 := [vi x, .ref 146, .ref 142]) 1 (fun _ _ => rfl) ?_
      refine wr_ald (a := x) (v := vi (s.1 (C + 3) x.toNat)) rfl rfl rfl (by omega) (by omega) (by decide) (by show rv _ ((up2 s.1 146 x.toNat (s.1 (C + 3) x.toNat)) 146 x.toNat) = _; rw [up_self]; rfl) fun h44 => ?_
      have h44 : rg _ ((up2 s.1 146 x.toNat (s.1 (C + 3) x.toNat)) 146 x.toNat) := h44
      rw [up_self] at h44
      have h44 : -2147483648 ≤ s.1 (C + 3) x.toNat ∧ s.1 (C + 3) x.toNat ≤ 2147483647 := h44
      show wr (d + 3) tb_M96 73 [(5, vi (s.1 (C + 4) x.toNat)), (4, vi (s.1 (C + 3) x.toNat)), (3, vi (s.1 (C + 2) x.toNat)), (0, .ref 142), (1, vi x), (2, vi y)] [vi (s.1 (C + 3) x.toNat), .ref 142] (up2 s.1 146 x.toNat (s.1 (C + 3) x.toNat), s.2) _
      refine wr_n (pc2 := 74) (lv2 := [(5, vi (s.1 (C + 4) x.toNat)), (4, vi (s.1 (C + 3) x.toNat)), (3, vi (s.1 (C + 2) x.toNat)), (0, .ref 142), (1, vi x), (2, vi y)]) (st2 := [vi x, vi (s.1 (C + 3) x.toNat), .ref 142]) 1 (fun _ _ => rfl) ?_
      refine wr_call1 (args := [vi (s.1 (C + 3) x.toNat), vi x]) (rest := []) rfl rfl rfl rfl (Nat.le_of_ble_eq_true rfl) (cr_mono (k_ask (d := d + 1) (C := C) hC (x := s.1 (C + 3) x.toNat) (y := x) (up2 s.1 146 x.toNat (s.1 (C + 3) x.toNat), s.2) hK42 (show (up2 s.1 146 x.toNat (s.1 (C + 3) x.toNat)) 142 0 = ((C : Nat) : Int) from ((if_neg (by omega)).trans hq)) (by omega) (by omega)) ?_)
      rintro s45 out ⟨hK45, hY45, hc45, rfl⟩
      refine ⟨_, rfl, ?_⟩
      have hX45 : FX s.1 s45.1 := FX_tr (FX_up FX_rf (by unfold fx; omega)) hY45
      have hC45 : s45.2 = s.2 := hc45.trans rfl
      have hq45 : s45.1 142 0 = (C : Int) := (hY45 142 0 (by unfold fx; omega)).trans (show (up2 s.1 146 x.toNat (s.1 (C + 3) x.toNat)) 142 0 = ((C : Nat) : Int) from ((if_neg (by omega)).trans hq))
      show wr (d + 3) tb_M96 77 [(5, vi (s.1 (C + 4) x.toNat)), (4, vi (s.1 (C + 3) x.toNat)), (3, vi (s.1 (C + 2) x.toNat)), (0, .ref 142), (1, vi x), (2, vi y)] [] s45 _
      refine wr_n (pc2 := 167) (lv2 := [(5, vi (s.1 (C + 4) x.toNat)), (4, vi (s.1 (C + 3) x.toNat)), (3, vi (s.1 (C + 2) x.toNat)), (0, .ref 142), (1, vi x), (2, vi y)]) (st2 := []) 1 (fun _ _ => rfl) ?_
      refine wr_end (fun _ _ => rfl) ?_
      exact ⟨hK45, hX45, hC45, rfl⟩
set_option maxHeartbeats 20000000 in
set_option maxRecDepth 100000 in
theorem k_turnToE {d : Nat} {C : Nat} (hC : C = 99 ∨ C = 115)  {x y : Int} (s : rS) (hK : KI s.1) (hq : s.1 142 0 = (C : Int)) (hx : 0 ≤ x ∧ x ≤ 1999) (hy : (-2147483648) ≤ y ∧ y ≤ 2147483647)  : cr (d + 3) 87 [.ref 142, vi x, vi y] s (KV s) := by
  refine cr_of (M := tb_M87) rfl (Nat.le_of_ble_eq_true rfl) ?_
  show wr (d + 2) tb_M87 0 [(0, .ref 142), (1, vi x), (2, vi y)] [] s _
  refine wr_n (pc2 := 1) (lv2 := [(0, .ref 142), (1, vi x), (2, vi y)]) (st2 := [.ref 142]) 1 (fun _ _ => rfl) ?_
  refine wr_get (v := .ref C) rfl rfl rfl (by decide) (rv_ref (show (s.1) 142 0 = ((C : Nat) : Int) from hq)) fun h1 => ?_
  show wr (d + 2) tb_M87 4 [(0, .ref 142), (1, vi x), (2, vi y)] [.ref C] s _
  refine wr_get (v := .ref (C + 2)) rfl rfl (TK0 hC) (by decide) (rv_ref (hK.1 C 1 (C + 2) (rcK hC (by omega)))) fun h2 => ?_
  show wr (d + 2) tb_M87 7 [(0, .ref 142), (1, vi x), (2, vi y)] [.ref (C + 2)] s _
  refine wr_n (pc2 := 8) (lv2 := [(0, .ref 142), (1, vi x), (2, vi y)]) (st2 := [vi x, .ref (C + 2)]) 1 (fun _ _ => rfl) ?_
  refine wr_ald (a := x) (v := vi (s.1 (C + 2) x.toNat)) rfl (TK2 hC) rfl (by omega) (by omega) (by decide) rfl fun h3 => ?_
  have h3 : -2147483648 ≤ s.1 (C + 2) x.toNat ∧ s.1 (C + 2) x.toNat ≤ 2147483647 := h3
  show wr (d + 2) tb_M87 9 [(0, .ref 142), (1, vi x), (2, vi y)] [vi (s.1 (C + 2) x.toNat)] s _
  refine wr_n (pc2 := 11) (lv2 := [(3, vi (s.1 (C + 2) x.toNat)), (0, .ref 142), (1, vi x), (2, vi y)]) (st2 := [.ref 142]) 2 (fun _ _ => rfl) ?_
  refine wr_get (v := .ref C) rfl rfl rfl (by decide) (rv_ref (show (s.1) 142 0 = ((C : Nat) : Int) from hq)) fun h4 => ?_
  show wr (d + 2) tb_M87 14 [(3, vi (s.1 (C + 2) x.toNat)), (0, .ref 142), (1, vi x), (2, vi y)] [.ref C] s _
  refine wr_get (v := .ref (C + 3)) rfl rfl (TK0 hC) (by decide) (rv_ref (hK.1 C 2 (C + 3) (rcK hC (by omega)))) fun h5 => ?_
  show wr (d + 2) tb_M87 17 [(3, vi (s.1 (C + 2) x.toNat)), (0, .ref 142), (1, vi x), (2, vi y)] [.ref (C + 3)] s _
  refine wr_n (pc2 := 18) (lv2 := [(3, vi (s.1 (C + 2) x.toNat)), (0, .ref 142), (1, vi x), (2, vi y)]) (st2 := [vi x, .ref (C + 3)]) 1 (fun _ _ => rfl) ?_
  refine wr_ald (a := x) (v := vi (s.1 (C + 3) x.toNat)) rfl (TK3 hC) rfl (by omega) (by omega) (by decide) rfl fun h6 => ?_
  have h6 : -2147483648 ≤ s.1 (C + 3) x.toNat ∧ s.1 (C + 3) x.toNat ≤ 2147483647 := h6
  show wr (d + 2) tb_M87 19 [(3, vi (s.1 (C + 2) x.toNat)), (0, .ref 142), (1, vi x), (2, vi y)] [vi (s.1 (C + 3) x.toNat)] s _
  refine wr_n (pc2 := 22) (lv2 := [(4, vi (s.1 (C + 3) x.toNat)), (3, vi (s.1 (C + 2) x.toNat)), (0, .ref 142), (1, vi x), (2, vi y)]) (st2 := [.ref 142]) 2 (fun _ _ => rfl) ?_
  refine wr_get (v := .ref C) rfl rfl rfl (by decide) (rv_ref (show (s.1) 142 0 = ((C : Nat) : Int) from hq)) fun h7 => ?_
  show wr (d + 2) tb_M87 25 [(4, vi (s.1 (C + 3) x.toNat)), (3, vi (s.1 (C + 2) x.toNat)), (0, .ref 142), (1, vi x), (2, vi y)] [.ref C] s _
  refine wr_get (v := .ref (C + 4)) rfl rfl (TK0 hC) (by decide) (rv_ref (hK.1 C 3 (C + 4) (rcK hC (by omega)))) fun h8 => ?_
  show wr (d + 2) tb_M87 28 [(4, vi (s.1 (C + 3) x.toNat)), (3, vi (s.1 (C + 2) x.toNat)), (0, .ref 142), (1, vi x), (2, vi y)] [.ref (C + 4)] s _
  refine wr_n (pc2 := 29) (lv2 := [(4, vi (s.1 (C + 3) x.toNat)), (3, vi (s.1 (C + 2) x.toNat)), (0, .ref 142), (1, vi x), (2, vi y)]) (st2 := [vi x, .ref (C + 4)]) 1 (fun _ _ => rfl) ?_
  refine wr_ald (a := x) (v := vi (s.1 (C + 4) x.toNat)) rfl (TK4 hC) rfl (by omega) (by omega) (by decide) rfl fun h9 => ?_
  have h9 : -2147483648 ≤ s.1 (C + 4) x.toNat ∧ s.1 (C + 4) x.toNat ≤ 2147483647 := h9
  show wr (d + 2) tb_M87 30 [(4, vi (s.1 (C + 3) x.toNat)), (3, vi (s.1 (C + 2) x.toNat)), (0, .ref 142), (1, vi x), (2, vi y)] [vi (s.1 (C + 4) x.toNat)] s _
  refine wr_n (pc2 := 33) (lv2 := [(5, vi (s.1 (C + 4) x.toNat)), (4, vi (s.1 (C + 3) x.toNat)), (3, vi (s.1 (C + 2) x.toNat)), (0, .ref 142), (1, vi x), (2, vi y)]) (st2 := [.ref 142]) 2 (fun _ _ => rfl) ?_
  refine wr_get (v := .ref C) rfl rfl rfl (by decide) (rv_ref (show (s.1) 142 0 = ((C : Nat) : Int) from hq)) fun h10 => ?_
  show wr (d + 2) tb_M87 36 [(5, vi (s.1 (C + 4) x.toNat)), (4, vi (s.1 (C + 3) x.toNat)), (3, vi (s.1 (C + 2) x.toNat)), (0, .ref 142), (1, vi x), (2, vi y)] [.ref C] s _
  refine wr_get (v := .ref (C + 1)) rfl rfl (TK0 hC) (by decide) (rv_ref (hK.1 C 0 (C + 1) (rcK hC (by omega)))) fun h11 => ?_
  show wr (d + 2) tb_M87 39 [(5, vi (s.1 (C + 4) x.toNat)), (4, vi (s.1 (C + 3) x.toNat)), (3, vi (s.1 (C + 2) x.toNat)), (0, .ref 142), (1, vi x), (2, vi y)] [.ref (C + 1)] s _
  refine wr_n (pc2 := 40) (lv2 := [(5, vi (s.1 (C + 4) x.toNat)), (4, vi (s.1 (C + 3) x.toNat)), (3, vi (s.1 (C + 2) x.toNat)), (0, .ref 142), (1, vi x), (2, vi y)]) (st2 := [vi x, .ref (C + 1)]) 1 (fun _ _ => rfl) ?_
  refine wr_ald (a := x) (v := vi (s.1 (C + 1) x.toNat)) rfl (TK1 hC) rfl (by omega) (by omega) (by decide) rfl fun h12 => ?_
  have h12 : -2147483648 ≤ s.1 (C + 1) x.toNat ∧ s.1 (C + 1) x.toNat ≤ 2147483647 := h12
  show wr (d + 2) tb_M87 41 [(5, vi (s.1 (C + 4) x.toNat)), (4, vi (s.1 (C + 3) x.toNat)), (3, vi (s.1 (C + 2) x.toNat)), (0, .ref 142), (1, vi x), (2, vi y)] [vi (s.1 (C + 1) x.toNat)] s _
  refine wr_lsw rfl (by decide) fun off hoff => ?_
  have hoff2 : off = 35 ∨ off = 44 ∨ off = 57 ∨ off = 105 := by simp at hoff; omega
  clear hoff
  rcases hoff2 with rfl | rfl | rfl | rfl
  · refine ⟨76, rfl, ?_⟩
    refine wr_n (pc2 := 79) (lv2 := [(5, vi (s.1 (C + 4) x.toNat)), (4, vi (s.1 (C + 3) x.toNat)), (3, vi (s.1 (C + 2) x.toNat)), (0, .ref 142), (1, vi x), (2, vi y)]) (st2 := [vi (s.1 (C + 2) x.toNat), vi x, .ref 142]) 3 (fun _ _ => rfl) ?_
    refine wr_call1 (args := [vi x, vi (s.1 (C + 2) x.toNat)]) (rest := []) rfl rfl rfl rfl (Nat.le_of_ble_eq_true rfl) (cr_mono (k_tell (d := d + 0) (C := C) hC (x := x) (y := s.1 (C + 2) x.toNat) s hK hq (by omega) (by omega)) ?_)
    rintro s13 out ⟨hK13, hY13, hc13, rfl⟩
    refine ⟨_, rfl, ?_⟩
    have hX13 : FX s.1 s13.1 := FX_tr FX_rf hY13
    have hC13 : s13.2 = s.2 := hc13.trans rfl
    have hq13 : s13.1 142 0 = (C : Int) := (hY13 142 0 (by unfold fx; omega)).trans hq
    show wr (d + 2) tb_M87 82 [(5, vi (s.1 (C + 4) x.toNat)), (4, vi (s.1 (C + 3) x.toNat)), (3, vi (s.1 (C + 2) x.toNat)), (0, .ref 142), (1, vi x), (2, vi y)] [] s13 _
    refine wr_n (pc2 := 204) (lv2 := [(5, vi (s.1 (C + 4) x.toNat)), (4, vi (s.1 (C + 3) x.toNat)), (3, vi (s.1 (C + 2) x.toNat)), (0, .ref 142), (1, vi x), (2, vi y)]) (st2 := []) 1 (fun _ _ => rfl) ?_
    refine wr_end (fun _ _ => rfl) ?_
    exact ⟨hK13, hX13, hC13, rfl⟩
  · refine ⟨85, rfl, ?_⟩
    refine wr_n (pc2 := 89) (lv2 := [(5, vi (s.1 (C + 4) x.toNat)), (4, vi (s.1 (C + 3) x.toNat)), (3, vi (s.1 (C + 2) x.toNat)), (0, .ref 142), (1, vi x), (2, vi y)]) (st2 := [vi (s.1 (C + 2) x.toNat), .ref 142, vi x, .ref 142]) 4 (fun _ _ => rfl) ?_
    refine wr_call1 (args := [vi (s.1 (C + 2) x.toNat)]) (rest := [vi x, .ref 142]) rfl rfl rfl rfl (Nat.le_of_ble_eq_true rfl) (cr_mono (k_variable (d := d + 1) (x := s.1 (C + 2) x.toNat) s hK (by omega)) ?_)
    rintro s14 out ⟨z14, rfl, hz14, hp14, e14⟩
    refine ⟨_, rfl, ?_⟩
    rw [e14]
    unfold i32 at hz14
    clear hp14
    show wr (d + 2) tb_M87 92 [(5, vi (s.1 (C + 4) x.toNat)), (4, vi (s.1 (C + 3) x.toNat)), (3, vi (s.1 (C + 2) x.toNat)), (0, .ref 142), (1, vi x), (2, vi y)] [vi z14, vi x, .ref 142] s _
    refine wr_call1 (args := [vi x, vi z14]) (rest := []) rfl rfl rfl rfl (Nat.le_of_ble_eq_true rfl) (cr_mono (k_tell (d := d + 0) (C := C) hC (x := x) (y := z14) s hK hq (by omega) (by omega)) ?_)
    rintro s15 out ⟨hK15, hY15, hc15, rfl⟩
    refine ⟨_, rfl, ?_⟩
    have hX15 : FX s.1 s15.1 := FX_tr FX_rf hY15
    have hC15 : s15.2 = s.2 := hc15.trans rfl
    have hq15 : s15.1 142 0 = (C : Int) := (hY15 142 0 (by unfold fx; omega)).trans hq
    show wr (d + 2) tb_M87 95 [(5, vi (s.1 (C + 4) x.toNat)), (4, vi (s.1 (C + 3) x.toNat)), (3, vi (s.1 (C + 2) x.toNat)), (0, .ref 142), (1, vi x), (2, vi y)] [] s15 _
    refine wr_n (pc2 := 204) (lv2 := [(5, vi (s.1 (C + 4) x.toNat)), (4, vi (s.1 (C + 3) x.toNat)), (3, vi (s.1 (C + 2) x.toNat)), (0, .ref 142), (1, vi x), (2, vi y)]) (st2 := []) 1 (fun _ _ => rfl) ?_
    refine wr_end (fun _ _ => rfl) ?_
    exact ⟨hK15, hX15, hC15, rfl⟩
  · refine ⟨98, rfl, ?_⟩
    refine wr_n (pc2 := 100) (lv2 := [(5, vi (s.1 (C + 4) x.toNat)), (4, vi (s.1 (C + 3) x.toNat)), (3, vi (s.1 (C + 2) x.toNat)), (0, .ref 142), (1, vi x), (2, vi y)]) (st2 := [vi 2, vi y]) 2 (fun _ _ => rfl) ?_
    by_cases h16 : 2 ≤ y
    · refine wr_if2t rfl rfl (by unfold i32; omega) (by unfold i32; omega) h16 ?_
      refine wr_n (pc2 := 128) (lv2 := [(5, vi (s.1 (C + 4) x.toNat)), (4, vi (s.1 (C + 3) x.toNat)), (3, vi (s.1 (C + 2) x.toNat)), (0, .ref 142), (1, vi x), (2, vi y)]) (st2 := [vi (s.1 (C + 3) x.toNat), .ref 142, vi (s.1 (C + 2) x.toNat), vi x, .ref 142]) 5 (fun _ _ => rfl) ?_
      refine wr_call1 (args := [vi (s.1 (C + 3) x.toNat)]) (rest := [vi (s.1 (C + 2) x.toNat), vi x, .ref 142]) rfl rfl rfl rfl (Nat.le_of_ble_eq_true rfl) (cr_mono (k_val (d := d + 0) (C := C) hC (x := s.1 (C + 3) x.toNat) s hK hq (by omega)) ?_)
      rintro s17 out ⟨z17, rfl, hz17, hp17, e17⟩
      refine ⟨_, rfl, ?_⟩
      rw [e17]
      unfold i32 at hz17
      clear hp17
      show wr (d + 2) tb_M87 131 [(5, vi (s.1 (C + 4) x.toNat)), (4, vi (s.1 (C + 3) x.toNat)), (3, vi (s.1 (C + 2) x.toNat)), (0, .ref 142), (1, vi x), (2, vi y)] [vi z17, vi (s.1 (C + 2) x.toNat), vi x, .ref 142] s _
      refine wr_n (pc2 := 134) (lv2 := [(5, vi (s.1 (C + 4) x.toNat)), (4, vi (s.1 (C + 3) x.toNat)), (3, vi (s.1 (C + 2) x.toNat)), (0, .ref 142), (1, vi x), (2, vi y)]) (st2 := [vi (s.1 (C + 4) x.toNat), .ref 142, vi z17, vi (s.1 (C + 2) x.toNat), vi x, .ref 142]) 2 (fun _ _ => rfl) ?_
      refine wr_call1 (args := [vi (s.1 (C + 4) x.toNat)]) (rest := [vi z17, vi (s.1 (C + 2) x.toNat), vi x, .ref 142]) rfl rfl rfl rfl (Nat.le_of_ble_eq_true rfl) (cr_mono (k_val (d := d + 0) (C := C) hC (x := s.1 (C + 4) x.toNat) s hK hq (by omega)) ?_)
      rintro s18 out ⟨z18, rfl, hz18, hp18, e18⟩
      refine ⟨_, rfl, ?_⟩
      rw [e18]
      unfold i32 at hz18
      clear hp18
      show wr (d + 2) tb_M87 137 [(5, vi (s.1 (C + 4) x.toNat)), (4, vi (s.1 (C + 3) x.toNat)), (3, vi (s.1 (C + 2) x.toNat)), (0, .ref 142), (1, vi x), (2, vi y)] [vi z18, vi z17, vi (s.1 (C + 2) x.toNat), vi x, .ref 142] s _
      refine wr_call0 (args := [vi (s.1 (C + 2) x.toNat), vi z17, vi z18]) (rest := [vi x, .ref 142]) rfl rfl rfl (Nat.le_of_ble_eq_true rfl) (cr_mono (k_signTwo (d := d + 0) (x := s.1 (C + 2) x.toNat) (y := z17) (u := z18) s hK (by omega) (by omega) (by omega)) ?_)
      rintro s19 out ⟨z19, rfl, hz19, hp19, e19⟩
      refine ⟨_, rfl, ?_⟩
      rw [e19]
      unfold i32 at hz19
      clear hp19
      show wr (d + 2) tb_M87 140 [(5, vi (s.1 (C + 4) x.toNat)), (4, vi (s.1 (C + 3) x.toNat)), (3, vi (s.1 (C + 2) x.toNat)), (0, .ref 142), (1, vi x), (2, vi y)] [vi z19, vi x, .ref 142] s _
      refine wr_call1 (args := [vi x, vi z19]) (rest := []) rfl rfl rfl rfl (Nat.le_of_ble_eq_true rfl) (cr_mono (k_tell (d := d + 0) (C := C) hC (x := x) (y := z19) s hK hq (by omega) (by omega)) ?_)
      rintro s20 out ⟨hK20, hY20, hc20, rfl⟩
      refine ⟨_, rfl, ?_⟩
      have hX20 : FX s.1 s20.1 := FX_tr FX_rf hY20
      have hC20 : s20.2 = s.2 := hc20.trans rfl
      have hq20 : s20.1 142 0 = (C : Int) := (hY20 142 0 (by unfold fx; omega)).trans hq
      show wr (d + 2) tb_M87 143 [(5, vi (s.1 (C + 4) x.toNat)), (4, vi (s.1 (C + 3) x.toNat)), (3, vi (s.1 (C + 2) x.toNat)), (0, .ref 142), (1, vi x), (2, vi y)] [] s20 _
      refine wr_n (pc2 := 204) (lv2 := [(5, vi (s.1 (C + 4) x.toNat)), (4, vi (s.1 (C + 3) x.toNat)), (3, vi (s.1 (C + 2) x.toNat)), (0, .ref 142), (1, vi x), (2, vi y)]) (st2 := []) 1 (fun _ _ => rfl) ?_
      refine wr_end (fun _ _ => rfl) ?_
      exact ⟨hK20, hX20, hC20, rfl⟩
    · refine wr_if2f rfl rfl (by unfold i32; omega) (by unfold i32; omega) h16 ?_
      refine wr_n (pc2 := 105) (lv2 := [(5, vi (s.1 (C + 4) x.toNat)), (4, vi (s.1 (C + 3) x.toNat)), (3, vi (s.1 (C + 2) x.toNat)), (0, .ref 142), (1, vi x), (2, vi y)]) (st2 := [vi y, .ref 142]) 2 (fun _ _ => rfl) ?_
      by_cases h21 : y ≠ 0
      · refine wr_if1t rfl rfl (by unfold i32; omega) h21 ?_
        refine wr_n (pc2 := 116) (lv2 := [(5, vi (s.1 (C + 4) x.toNat)), (4, vi (s.1 (C + 3) x.toNat)), (3, vi (s.1 (C + 2) x.toNat)), (0, .ref 142), (1, vi x), (2, vi y)]) (st2 := [vi x, vi (s.1 (C + 4) x.toNat), .ref 142]) 2 (fun _ _ => rfl) ?_
        refine wr_call1 (args := [vi (s.1 (C + 4) x.toNat), vi x]) (rest := []) rfl rfl rfl rfl (Nat.le_of_ble_eq_true rfl) (cr_mono (k_ask (d := d + 0) (C := C) hC (x := s.1 (C + 4) x.toNat) (y := x) s hK hq (by omega) (by omega)) ?_)
        rintro s22 out ⟨hK22, hY22, hc22, rfl⟩
        refine ⟨_, rfl, ?_⟩
        have hX22 : FX s.1 s22.1 := FX_tr FX_rf hY22
        have hC22 : s22.2 = s.2 := hc22.trans rfl
        have hq22 : s22.1 142 0 = (C : Int) := (hY22 142 0 (by unfold fx; omega)).trans hq
        show wr (d + 2) tb_M87 119 [(5, vi (s.1 (C + 4) x.toNat)), (4, vi (s.1 (C + 3) x.toNat)), (3, vi (s.1 (C + 2) x.toNat)), (0, .ref 142), (1, vi x), (2, vi y)] [] s22 _
        refine wr_n (pc2 := 204) (lv2 := [(5, vi (s.1 (C + 4) x.toNat)), (4, vi (s.1 (C + 3) x.toNat)), (3, vi (s.1 (C + 2) x.toNat)), (0, .ref 142), (1, vi x), (2, vi y)]) (st2 := []) 1 (fun _ _ => rfl) ?_
        refine wr_end (fun _ _ => rfl) ?_
        exact ⟨hK22, hX22, hC22, rfl⟩
      · refine wr_if1f rfl rfl (by unfold i32; omega) h21 ?_
        refine wr_n (pc2 := 116) (lv2 := [(5, vi (s.1 (C + 4) x.toNat)), (4, vi (s.1 (C + 3) x.toNat)), (3, vi (s.1 (C + 2) x.toNat)), (0, .ref 142), (1, vi x), (2, vi y)]) (st2 := [vi x, vi (s.1 (C + 3) x.toNat), .ref 142]) 3 (fun _ _ => rfl) ?_
        refine wr_call1 (args := [vi (s.1 (C + 3) x.toNat), vi x]) (rest := []) rfl rfl rfl rfl (Nat.le_of_ble_eq_true rfl) (cr_mono (k_ask (d := d + 0) (C := C) hC (x := s.1 (C + 3) x.toNat) (y := x) s hK hq (by omega) (by omega)) ?_)
        rintro s23 out ⟨hK23, hY23, hc23, rfl⟩
        refine ⟨_, rfl, ?_⟩
        have hX23 : FX s.1 s23.1 := FX_tr FX_rf hY23
        have hC23 : s23.2 = s.2 := hc23.trans rfl
        have hq23 : s23.1 142 0 = (C : Int) := (hY23 142 0 (by unfold fx; omega)).trans hq
        show wr (d + 2) tb_M87 119 [(5, vi (s.1 (C + 4) x.toNat)), (4, vi (s.1 (C + 3) x.toNat)), (3, vi (s.1 (C + 2) x.toNat)), (0, .ref 142), (1, vi x), (2, vi y)] [] s23 _
        refine wr_n (pc2 := 204) (lv2 := [(5, vi (s.1 (C + 4) x.toNat)), (4, vi (s.1 (C + 3) x.toNat)), (3, vi (s.1 (C + 2) x.toNat)), (0, .ref 142), (1, vi x), (2, vi y)]) (st2 := []) 1 (fun _ _ => rfl) ?_
        refine wr_end (fun _ _ => rfl) ?_
        exact ⟨hK23, hX23, hC23, rfl⟩
  · refine ⟨146, rfl, ?_⟩
    refine wr_n (pc2 := 147) (lv2 := [(5, vi (s.1 (C + 4) x.toNat)), (4, vi (s.1 (C + 3) x.toNat)), (3, vi (s.1 (C + 2) x.toNat)), (0, .ref 142), (1, vi x), (2, vi y)]) (st2 := [vi y]) 1 (fun _ _ => rfl) ?_
    by_cases h24 : y ≠ 0
    · refine wr_if1t rfl rfl (by unfold i32; omega) h24 ?_
      refine wr_n (pc2 := 163) (lv2 := [(5, vi (s.1 (C + 4) x.toNat)), (4, vi (s.1 (C + 3) x.toNat)), (3, vi (s.1 (C + 2) x.toNat)), (0, .ref 142), (1, vi x), (2, vi y)]) (st2 := [.ref 142, vi x, .ref 142]) 3 (fun _ _ => rfl) ?_
      refine wr_get (v := .ref C) rfl rfl rfl (by decide) (rv_ref (show (s.1) 142 0 = ((C : Nat) : Int) from hq)) fun h25 => ?_
      show wr (d + 2) tb_M87 166 [(5, vi (s.1 (C + 4) x.toNat)), (4, vi (s.1 (C + 3) x.toNat)), (3, vi (s.1 (C + 2) x.toNat)), (0, .ref 142), (1, vi x), (2, vi y)] [.ref C, vi x, .ref 142] s _
      refine wr_get (v := .ref (C + 1)) rfl rfl (TK0 hC) (by decide) (rv_ref (hK.1 C 0 (C + 1) (rcK hC (by omega)))) fun h26 => ?_
      show wr (d + 2) tb_M87 169 [(5, vi (s.1 (C + 4) x.toNat)), (4, vi (s.1 (C + 3) x.toNat)), (3, vi (s.1 (C + 2) x.toNat)), (0, .ref 142), (1, vi x), (2, vi y)] [.ref (C + 1), vi x, .ref 142] s _
      refine wr_n (pc2 := 170) (lv2 := [(5, vi (s.1 (C + 4) x.toNat)), (4, vi (s.1 (C + 3) x.toNat)), (3, vi (s.1 (C + 2) x.toNat)), (0, .ref 142), (1, vi x), (2, vi y)]) (st2 := [vi x, .ref (C + 1), vi x, .ref 142]) 1 (fun _ _ => rfl) ?_
      refine wr_ald (a := x) (v := vi (s.1 (C + 1) x.toNat)) rfl (TK1 hC) rfl (by omega) (by omega) (by decide) rfl fun h27 => ?_
      have h27 : -2147483648 ≤ s.1 (C + 1) x.toNat ∧ s.1 (C + 1) x.toNat ≤ 2147483647 := h27
      show wr (d + 2) tb_M87 171 [(5, vi (s.1 (C + 4) x.toNat)), (4, vi (s.1 (C + 3) x.toNat)), (3, vi (s.1 (C + 2) x.toNat)), (0, .ref 142), (1, vi x), (2, vi y)] [vi (s.1 (C + 1) x.toNat), vi x, .ref 142] s _
      refine wr_n (pc2 := 174) (lv2 := [(5, vi (s.1 (C + 4) x.toNat)), (4, vi (s.1 (C + 3) x.toNat)), (3, vi (s.1 (C + 2) x.toNat)), (0, .ref 142), (1, vi x), (2, vi y)]) (st2 := [vi 401, vi (s.1 (C + 1) x.toNat), vi x, .ref 142]) 1 (fun _ _ => rfl) ?_
      by_cases h28 : s.1 (C + 1) x.toNat ≠ 401
      · refine wr_if2t rfl rfl (by unfold i32; omega) (by unfold i32; omega) h28 ?_
        refine wr_n (pc2 := 195) (lv2 := [(5, vi (s.1 (C + 4) x.toNat)), (4, vi (s.1 (C + 3) x.toNat)), (3, vi (s.1 (C + 2) x.toNat)), (0, .ref 142), (1, vi x), (2, vi y)]) (st2 := [vi (s.1 (C + 3) x.toNat), .ref 142, vi (s.1 (C + 2) x.toNat), vi x, .ref 142]) 3 (fun _ _ => rfl) ?_
        refine wr_call1 (args := [vi (s.1 (C + 3) x.toNat)]) (rest := [vi (s.1 (C + 2) x.toNat), vi x, .ref 142]) rfl rfl rfl rfl (Nat.le_of_ble_eq_true rfl) (cr_mono (k_val (d := d + 0) (C := C) hC (x := s.1 (C + 3) x.toNat) s hK hq (by omega)) ?_)
        rintro s29 out ⟨z29, rfl, hz29, hp29, e29⟩
        refine ⟨_, rfl, ?_⟩
        rw [e29]
        unfold i32 at hz29
        clear hp29
        show wr (d + 2) tb_M87 198 [(5, vi (s.1 (C + 4) x.toNat)), (4, vi (s.1 (C + 3) x.toNat)), (3, vi (s.1 (C + 2) x.toNat)), (0, .ref 142), (1, vi x), (2, vi y)] [vi z29, vi (s.1 (C + 2) x.toNat), vi x, .ref 142] s _
        refine wr_call0 (args := [vi (s.1 (C + 2) x.toNat), vi z29]) (rest := [vi x, .ref 142]) rfl rfl rfl (Nat.le_of_ble_eq_true rfl) (cr_mono (k_signOne (d := d + 0) (x := s.1 (C + 2) x.toNat) (y := z29) s hK (by omega) (by omega)) ?_)
        rintro s30 out ⟨z30, rfl, hz30, hp30, e30⟩
        refine ⟨_, rfl, ?_⟩
        rw [e30]
        unfold i32 at hz30
        clear hp30
        show wr (d + 2) tb_M87 201 [(5, vi (s.1 (C + 4) x.toNat)), (4, vi (s.1 (C + 3) x.toNat)), (3, vi (s.1 (C + 2) x.toNat)), (0, .ref 142), (1, vi x), (2, vi y)] [vi z30, vi x, .ref 142] s _
        refine wr_call1 (args := [vi x, vi z30]) (rest := []) rfl rfl rfl rfl (Nat.le_of_ble_eq_true rfl) (cr_mono (k_tell (d := d + 0) (C := C) hC (x := x) (y := z30) s hK hq (by omega) (by omega)) ?_)
        rintro s31 out ⟨hK31, hY31, hc31, rfl⟩
        refine ⟨_, rfl, ?_⟩
        have hX31 : FX s.1 s31.1 := FX_tr FX_rf hY31
        have hC31 : s31.2 = s.2 := hc31.trans rfl
        have hq31 : s31.1 142 0 = (C : Int) := (hY31 142 0 (by unfold fx; omega)).trans hq
        show wr (d + 2) tb_M87 204 [(5, vi (s.1 (C + 4) x.toNat)), (4, vi (s.1 (C + 3) x.toNat)), (3, vi (s.1 (C + 2) x.toNat)), (0, .ref 142), (1, vi x), (2, vi y)] [] s31 _
        refine wr_end (fun _ _ => rfl) ?_
        exact ⟨hK31, hX31, hC31, rfl⟩
      · refine wr_if2f rfl rfl (by unfold i32; omega) (by unfold i32; omega) h28 ?_
        refine wr_n (pc2 := 182) (lv2 := [(5, vi (s.1 (C + 4) x.toNat)), (4, vi (s.1 (C + 3) x.toNat)), (3, vi (s.1 (C + 2) x.toNat)), (0, .ref 142), (1, vi x), (2, vi y)]) (st2 := [vi (s.1 (C + 3) x.toNat), .ref 142, vi (s.1 (C + 2) x.toNat), .ref 142, vi x, .ref 142]) 4 (fun _ _ => rfl) ?_
        refine wr_call1 (args := [vi (s.1 (C + 3) x.toNat)]) (rest := [vi (s.1 (C + 2) x.toNat), .ref 142, vi x, .ref 142]) rfl rfl rfl rfl (Nat.le_of_ble_eq_true rfl) (cr_mono (k_val (d := d + 0) (C := C) hC (x := s.1 (C + 3) x.toNat) s hK hq (by omega)) ?_)
        rintro s32 out ⟨z32, rfl, hz32, hp32, e32⟩
        refine ⟨_, rfl, ?_⟩
        rw [e32]
        unfold i32 at hz32
        clear hp32
        show wr (d + 2) tb_M87 185 [(5, vi (s.1 (C + 4) x.toNat)), (4, vi (s.1 (C + 3) x.toNat)), (3, vi (s.1 (C + 2) x.toNat)), (0, .ref 142), (1, vi x), (2, vi y)] [vi z32, vi (s.1 (C + 2) x.toNat), .ref 142, vi x, .ref 142] s _
        refine wr_call1 (args := [vi (s.1 (C + 2) x.toNat), vi z32]) (rest := [vi x, .ref 142]) rfl rfl rfl rfl (Nat.le_of_ble_eq_true rfl) (cr_mono (k_item (d := d + 0) (C := C) hC (x := s.1 (C + 2) x.toNat) (y := z32) s hK hq (by omega) (by omega)) ?_)
        rintro s33 out ⟨z33, rfl, hz33, hp33, e33⟩
        refine ⟨_, rfl, ?_⟩
        rw [e33]
        unfold i32 at hz33
        clear hp33
        show wr (d + 2) tb_M87 188 [(5, vi (s.1 (C + 4) x.toNat)), (4, vi (s.1 (C + 3) x.toNat)), (3, vi (s.1 (C + 2) x.toNat)), (0, .ref 142), (1, vi x), (2, vi y)] [vi z33, vi x, .ref 142] s _
        refine wr_n (pc2 := 201) (lv2 := [(5, vi (s.1 (C + 4) x.toNat)), (4, vi (s.1 (C + 3) x.toNat)), (3, vi (s.1 (C + 2) x.toNat)), (0, .ref 142), (1, vi x), (2, vi y)]) (st2 := [vi z33, vi x, .ref 142]) 1 (fun _ _ => rfl) ?_
        refine wr_call1 (args := [vi x, vi z33]) (rest := []) rfl rfl rfl rfl (Nat.le_of_ble_eq_true rfl) (cr_mono (k_tell (d := d + 0) (C := C) hC (x := x) (y := z33) s hK hq (by omega) (by omega)) ?_)
        rintro s34 out ⟨hK34, hY34, hc34, rfl⟩
        refine ⟨_, rfl, ?_⟩
        have hX34 : FX s.1 s34.1 := FX_tr FX_rf hY34
        have hC34 : s34.2 = s.2 := hc34.trans rfl
        have hq34 : s34.1 142 0 = (C : Int) := (hY34 142 0 (by unfold fx; omega)).trans hq
        show wr (d + 2) tb_M87 204 [(5, vi (s.1 (C + 4) x.toNat)), (4, vi (s.1 (C + 3) x.toNat)), (3, vi (s.1 (C + 2) x.toNat)), (0, .ref 142), (1, vi x), (2, vi y)] [] s34 _
        refine wr_end (fun _ _ => rfl) ?_
        exact ⟨hK34, hX34, hC34, rfl⟩
    · refine wr_if1f rfl rfl (by unfold i32; omega) h24 ?_
      refine wr_n (pc2 := 154) (lv2 := [(5, vi (s.1 (C + 4) x.toNat)), (4, vi (s.1 (C + 3) x.toNat)), (3, vi (s.1 (C + 2) x.toNat)), (0, .ref 142), (1, vi x), (2, vi y)]) (st2 := [vi x, vi (s.1 (C + 3) x.toNat), .ref 142]) 3 (fun _ _ => rfl) ?_
      refine wr_call1 (args := [vi (s.1 (C + 3) x.toNat), vi x]) (rest := []) rfl rfl rfl rfl (Nat.le_of_ble_eq_true rfl) (cr_mono (k_ask (d := d + 0) (C := C) hC (x := s.1 (C + 3) x.toNat) (y := x) s hK hq (by omega) (by omega)) ?_)
      rintro s35 out ⟨hK35, hY35, hc35, rfl⟩
      refine ⟨_, rfl, ?_⟩
      have hX35 : FX s.1 s35.1 := FX_tr FX_rf hY35
      have hC35 : s35.2 = s.2 := hc35.trans rfl
      have hq35 : s35.1 142 0 = (C : Int) := (hY35 142 0 (by unfold fx; omega)).trans hq
      show wr (d + 2) tb_M87 157 [(5, vi (s.1 (C + 4) x.toNat)), (4, vi (s.1 (C + 3) x.toNat)), (3, vi (s.1 (C + 2) x.toNat)), (0, .ref 142), (1, vi x), (2, vi y)] [] s35 _
      refine wr_n (pc2 := 204) (lv2 := [(5, vi (s.1 (C + 4) x.toNat)), (4, vi (s.1 (C + 3) x.toNat)), (3, vi (s.1 (C + 2) x.toNat)), (0, .ref 142), (1, vi x), (2, vi y)]) (st2 := []) 1 (fun _ _ => rfl) ?_
      refine wr_end (fun _ _ => rfl) ?_
      exact ⟨hK35, hX35, hC35, rfl⟩
set_option maxHeartbeats 20000000 in
set_option maxRecDepth 100000 in
theorem k_turnToPar_28 {d : Nat} {s0 : rS} {C : Nat} (hC : C = 99 ∨ C = 115)  : ∀ (w : Nat) (l5 : Int) (l4 : Int) (l3 : Int) (l1 : Int) (l2 : Int) (s : rS), (l3 - l5).toNat = w → KI s.1 → s.1 142 0 = (C : Int) → FX s0.1 s.1 → s.2 = s0.2 → 0 ≤ l5 ∧ l5 ≤ 2147483647 → (-2147483648) ≤ l4 ∧ l4 ≤ 2147483647 → (-2147483648) ≤ l3 ∧ l3 ≤ 2147483647 → 0 ≤ l1 ∧ l1 ≤ 1999 → (-2147483648) ≤ l2 ∧ l2 ≤ 2147483647 → wr (d + 2) tb_M110 28 [(5, vi l5), (4, vi l4), (3, vi l3), (0, .ref 142), (1, vi l1), (2, vi l2)] [] s (KV s0) := by
  intro w
  induction w using Nat.strongRecOn with | ind w ih => ?_
  intro l5 l4 l3 l1 l2 s hw hK hq hX hc hl5 hl4 hl3 hl1 hl2
  refine wr_n (pc2 := 31) (lv2 := [(5, vi l5), (4, vi l4), (3, vi l3), (0, .ref 142), (1, vi l1), (2, vi l2)]) (st2 := [vi l3, vi l5]) 2 (fun _ _ => rfl) ?_
  by_cases h1 : l3 ≤ l5
  · refine wr_if2t rfl rfl (by unfold i32; omega) (by unfold i32; omega) h1 ?_
    refine wr_n (pc2 := 72) (lv2 := [(5, vi l5), (4, vi l4), (3, vi l3), (0, .ref 142), (1, vi l1), (2, vi l2)]) (st2 := []) 1 (fun _ _ => rfl) ?_
    refine wr_end (fun _ _ => rfl) ?_
    exact ⟨hK, hX, hc, rfl⟩
  · refine wr_if2f rfl rfl (by unfold i32; omega) (by unfold i32; omega) h1 ?_
    refine wr_n (pc2 := 38) (lv2 := [(5, vi l5), (4, vi l4), (3, vi l3), (0, .ref 142), (1, vi l1), (2, vi l2)]) (st2 := [vi l1, vi l4, .ref 142]) 3 (fun _ _ => rfl) ?_
    refine wr_call1 (args := [vi l4, vi l1]) (rest := []) rfl rfl rfl rfl (Nat.le_of_ble_eq_true rfl) (cr_mono (k_ask (d := d + 0) (C := C) hC (x := l4) (y := l1) s hK hq (by omega) (by omega)) ?_)
    rintro s2 out ⟨hK2, hY2, hc2, rfl⟩
    refine ⟨_, rfl, ?_⟩
    have hX2 : FX s0.1 s2.1 := FX_tr hX hY2
    have hC2 : s2.2 = s0.2 := hc2.trans hc
    have hq2 : s2.1 142 0 = (C : Int) := (hY2 142 0 (by unfold fx; omega)).trans hq
    show wr (d + 2) tb_M110 41 [(5, vi l5), (4, vi l4), (3, vi l3), (0, .ref 142), (1, vi l1), (2, vi l2)] [] s2 _
    refine wr_n (pc2 := 42) (lv2 := [(5, vi l5), (4, vi l4), (3, vi l3), (0, .ref 142), (1, vi l1), (2, vi l2)]) (st2 := [.ref 142]) 1 (fun _ _ => rfl) ?_
    refine wr_get (v := .ref C) rfl rfl rfl (by decide) (rv_ref (show (s2.1) 142 0 = ((C : Nat) : Int) from hq2)) fun h3 => ?_
    show wr (d + 2) tb_M110 45 [(5, vi l5), (4, vi l4), (3, vi l3), (0, .ref 142), (1, vi l1), (2, vi l2)] [.ref C] s2 _
    refine wr_n (pc2 := 47) (lv2 := [(5, vi l5), (4, vi l4), (3, vi l3), (0, .ref 142), (1, vi l1), (2, vi l2)]) (st2 := [vi l4, .ref C]) 1 (fun _ _ => rfl) ?_
    refine wr_call1 (args := [vi l4]) (rest := []) rfl rfl rfl (TK0 hC) (Nat.le_of_ble_eq_true rfl) (cr_mono (k_follower (d := d + 0) (C := C) hC (x := l4) s2 hK2 (by omega)) ?_)
    rintro s4 out ⟨z4, rfl, hz4, hp4, e4⟩
    refine ⟨_, rfl, ?_⟩
    rw [e4]
    unfold i32 at hz4
    clear hp4
    show wr (d + 2) tb_M110 50 [(5, vi l5), (4, vi l4), (3, vi l3), (0, .ref 142), (1, vi l1), (2, vi l2)] [vi z4] s2 _
    refine wr_n (pc2 := 52) (lv2 := [(4, vi z4), (5, vi l5), (3, vi l3), (0, .ref 142), (1, vi l1), (2, vi l2)]) (st2 := []) 1 (fun _ _ => rfl) ?_
    refine wr_inc (a := l5) rfl rfl ?_
    show wr (d + 2) tb_M110 55 [(5, vi (l5 + 1)), (4, vi z4), (3, vi l3), (0, .ref 142), (1, vi l1), (2, vi l2)] [] s2 _
    refine wr_n (pc2 := 28) (lv2 := [(5, vi (l5 + 1)), (4, vi z4), (3, vi l3), (0, .ref 142), (1, vi l1), (2, vi l2)]) (st2 := []) 1 (fun _ _ => rfl) ?_
    exact ih _ (by omega) (l5 + 1) z4 l3 l1 l2 s2 rfl hK2 hq2 hX2 hC2 (by omega) (by omega) (by omega) (by omega) (by omega)  
set_option maxHeartbeats 20000000 in
set_option maxRecDepth 100000 in
theorem k_turnToPar {d : Nat} {C : Nat} (hC : C = 99 ∨ C = 115)  {x y : Int} (s : rS) (hK : KI s.1) (hq : s.1 142 0 = (C : Int)) (hx : 0 ≤ x ∧ x ≤ 1999) (hy : (-2147483648) ≤ y ∧ y ≤ 2147483647)  : cr (d + 3) 110 [.ref 142, vi x, vi y] s (KV s) := by
  refine cr_of (M := tb_M110) rfl (Nat.le_of_ble_eq_true rfl) ?_
  show wr (d + 2) tb_M110 0 [(0, .ref 142), (1, vi x), (2, vi y)] [] s _
  refine wr_n (pc2 := 1) (lv2 := [(0, .ref 142), (1, vi x), (2, vi y)]) (st2 := [.ref 142]) 1 (fun _ _ => rfl) ?_
  refine wr_get (v := .ref C) rfl rfl rfl (by decide) (rv_ref (show (s.1) 142 0 = ((C : Nat) : Int) from hq)) fun h1 => ?_
  show wr (d + 2) tb_M110 4 [(0, .ref 142), (1, vi x), (2, vi y)] [.ref C] s _
  refine wr_get (v := .ref (C + 3)) rfl rfl (TK0 hC) (by decide) (rv_ref (hK.1 C 2 (C + 3) (rcK hC (by omega)))) fun h2 => ?_
  show wr (d + 2) tb_M110 7 [(0, .ref 142), (1, vi x), (2, vi y)] [.ref (C + 3)] s _
  refine wr_n (pc2 := 8) (lv2 := [(0, .ref 142), (1, vi x), (2, vi y)]) (st2 := [vi x, .ref (C + 3)]) 1 (fun _ _ => rfl) ?_
  refine wr_ald (a := x) (v := vi (s.1 (C + 3) x.toNat)) rfl (TK3 hC) rfl (by omega) (by omega) (by decide) rfl fun h3 => ?_
  have h3 : -2147483648 ≤ s.1 (C + 3) x.toNat ∧ s.1 (C + 3) x.toNat ≤ 2147483647 := h3
  show wr (d + 2) tb_M110 9 [(0, .ref 142), (1, vi x), (2, vi y)] [vi (s.1 (C + 3) x.toNat)] s _
  refine wr_n (pc2 := 11) (lv2 := [(3, vi (s.1 (C + 3) x.toNat)), (0, .ref 142), (1, vi x), (2, vi y)]) (st2 := [vi y]) 2 (fun _ _ => rfl) ?_
  by_cases h4 : y ≠ 0
  · refine wr_if1t rfl rfl (by unfold i32; omega) h4 ?_
    refine wr_n (pc2 := 63) (lv2 := [(3, vi (s.1 (C + 3) x.toNat)), (0, .ref 142), (1, vi x), (2, vi y)]) (st2 := [vi (s.1 (C + 3) x.toNat), vi y]) 2 (fun _ _ => rfl) ?_
    by_cases h5 : y ≠ s.1 (C + 3) x.toNat
    · refine wr_if2t rfl rfl (by unfold i32; omega) (by unfold i32; omega) h5 ?_
      refine wr_end (fun _ _ => rfl) ?_
      exact ⟨hK, FX_rf, rfl, rfl⟩
    · refine wr_if2f rfl rfl (by unfold i32; omega) (by unfold i32; omega) h5 ?_
      refine wr_n (pc2 := 69) (lv2 := [(3, vi (s.1 (C + 3) x.toNat)), (0, .ref 142), (1, vi x), (2, vi y)]) (st2 := [vi 0, vi x, .ref 142]) 3 (fun _ _ => rfl) ?_
      refine wr_call1 (args := [vi x, vi 0]) (rest := []) rfl rfl rfl rfl (Nat.le_of_ble_eq_true rfl) (cr_mono (k_tell (d := d + 0) (C := C) hC (x := x) (y := 0) s hK hq (by omega) (by omega)) ?_)
      rintro s6 out ⟨hK6, hY6, hc6, rfl⟩
      refine ⟨_, rfl, ?_⟩
      have hX6 : FX s.1 s6.1 := FX_tr FX_rf hY6
      have hC6 : s6.2 = s.2 := hc6.trans rfl
      have hq6 : s6.1 142 0 = (C : Int) := (hY6 142 0 (by unfold fx; omega)).trans hq
      show wr (d + 2) tb_M110 72 [(3, vi (s.1 (C + 3) x.toNat)), (0, .ref 142), (1, vi x), (2, vi y)] [] s6 _
      refine wr_end (fun _ _ => rfl) ?_
      exact ⟨hK6, hX6, hC6, rfl⟩
  · refine wr_if1f rfl rfl (by unfold i32; omega) h4 ?_
    refine wr_n (pc2 := 15) (lv2 := [(3, vi (s.1 (C + 3) x.toNat)), (0, .ref 142), (1, vi x), (2, vi y)]) (st2 := [.ref 142]) 1 (fun _ _ => rfl) ?_
    refine wr_get (v := .ref C) rfl rfl rfl (by decide) (rv_ref (show (s.1) 142 0 = ((C : Nat) : Int) from hq)) fun h7 => ?_
    show wr (d + 2) tb_M110 18 [(3, vi (s.1 (C + 3) x.toNat)), (0, .ref 142), (1, vi x), (2, vi y)] [.ref C] s _
    refine wr_get (v := .ref (C + 2)) rfl rfl (TK0 hC) (by decide) (rv_ref (hK.1 C 1 (C + 2) (rcK hC (by omega)))) fun h8 => ?_
    show wr (d + 2) tb_M110 21 [(3, vi (s.1 (C + 3) x.toNat)), (0, .ref 142), (1, vi x), (2, vi y)] [.ref (C + 2)] s _
    refine wr_n (pc2 := 22) (lv2 := [(3, vi (s.1 (C + 3) x.toNat)), (0, .ref 142), (1, vi x), (2, vi y)]) (st2 := [vi x, .ref (C + 2)]) 1 (fun _ _ => rfl) ?_
    refine wr_ald (a := x) (v := vi (s.1 (C + 2) x.toNat)) rfl (TK2 hC) rfl (by omega) (by omega) (by decide) rfl fun h9 => ?_
    have h9 : -2147483648 ≤ s.1 (C + 2) x.toNat ∧ s.1 (C + 2) x.toNat ≤ 2147483647 := h9
    show wr (d + 2) tb_M110 23 [(3, vi (s.1 (C + 3) x.toNat)), (0, .ref 142), (1, vi x), (2, vi y)] [vi (s.1 (C + 2) x.toNat)] s _
    refine wr_n (pc2 := 28) (lv2 := [(5, vi 0), (4, vi (s.1 (C + 2) x.toNat)), (3, vi (s.1 (C + 3) x.toNat)), (0, .ref 142), (1, vi x), (2, vi y)]) (st2 := []) 3 (fun _ _ => rfl) ?_
    exact k_turnToPar_28 hC _ 0 (s.1 (C + 2) x.toNat) (s.1 (C + 3) x.toNat) x y s rfl hK hq FX_rf rfl (by omega) (by omega) (by omega) (by omega) (by omega)  
set_option maxHeartbeats 20000000 in
set_option maxRecDepth 100000 in
theorem k_turnToFlow {d : Nat} {C : Nat} (hC : C = 99 ∨ C = 115)  {x y : Int} (s : rS) (hK : KI s.1) (hq : s.1 142 0 = (C : Int)) (hx : 0 ≤ x ∧ x ≤ 1999) (hy : (-2147483648) ≤ y ∧ y ≤ 2147483647)  : cr (d + 4) 109 [.ref 142, vi x, vi y] s (KV s) := by
  refine cr_of (M := tb_M109) rfl (Nat.le_of_ble_eq_true rfl) ?_
  show wr (d + 3) tb_M109 0 [(0, .ref 142), (1, vi x), (2, vi y)] [] s _
  refine wr_n (pc2 := 1) (lv2 := [(0, .ref 142), (1, vi x), (2, vi y)]) (st2 := [.ref 142]) 1 (fun _ _ => rfl) ?_
  refine wr_get (v := .ref C) rfl rfl rfl (by decide) (rv_ref (show (s.1) 142 0 = ((C : Nat) : Int) from hq)) fun h1 => ?_
  show wr (d + 3) tb_M109 4 [(0, .ref 142), (1, vi x), (2, vi y)] [.ref C] s _
  refine wr_get (v := .ref (C + 2)) rfl rfl (TK0 hC) (by decide) (rv_ref (hK.1 C 1 (C + 2) (rcK hC (by omega)))) fun h2 => ?_
  show wr (d + 3) tb_M109 7 [(0, .ref 142), (1, vi x), (2, vi y)] [.ref (C + 2)] s _
  refine wr_n (pc2 := 8) (lv2 := [(0, .ref 142), (1, vi x), (2, vi y)]) (st2 := [vi x, .ref (C + 2)]) 1 (fun _ _ => rfl) ?_
  refine wr_ald (a := x) (v := vi (s.1 (C + 2) x.toNat)) rfl (TK2 hC) rfl (by omega) (by omega) (by decide) rfl fun h3 => ?_
  have h3 : -2147483648 ≤ s.1 (C + 2) x.toNat ∧ s.1 (C + 2) x.toNat ≤ 2147483647 := h3
  show wr (d + 3) tb_M109 9 [(0, .ref 142), (1, vi x), (2, vi y)] [vi (s.1 (C + 2) x.toNat)] s _
  refine wr_n (pc2 := 11) (lv2 := [(3, vi (s.1 (C + 2) x.toNat)), (0, .ref 142), (1, vi x), (2, vi y)]) (st2 := [.ref 142]) 2 (fun _ _ => rfl) ?_
  refine wr_get (v := .ref C) rfl rfl rfl (by decide) (rv_ref (show (s.1) 142 0 = ((C : Nat) : Int) from hq)) fun h4 => ?_
  show wr (d + 3) tb_M109 14 [(3, vi (s.1 (C + 2) x.toNat)), (0, .ref 142), (1, vi x), (2, vi y)] [.ref C] s _
  refine wr_get (v := .ref (C + 3)) rfl rfl (TK0 hC) (by decide) (rv_ref (hK.1 C 2 (C + 3) (rcK hC (by omega)))) fun h5 => ?_
  show wr (d + 3) tb_M109 17 [(3, vi (s.1 (C + 2) x.toNat)), (0, .ref 142), (1, vi x), (2, vi y)] [.ref (C + 3)] s _
  refine wr_n (pc2 := 18) (lv2 := [(3, vi (s.1 (C + 2) x.toNat)), (0, .ref 142), (1, vi x), (2, vi y)]) (st2 := [vi x, .ref (C + 3)]) 1 (fun _ _ => rfl) ?_
  refine wr_ald (a := x) (v := vi (s.1 (C + 3) x.toNat)) rfl (TK3 hC) rfl (by omega) (by omega) (by decide) rfl fun h6 => ?_
  have h6 : -2147483648 ≤ s.1 (C + 3) x.toNat ∧ s.1 (C + 3) x.toNat ≤ 2147483647 := h6
  show wr (d + 3) tb_M109 19 [(3, vi (s.1 (C + 2) x.toNat)), (0, .ref 142), (1, vi x), (2, vi y)] [vi (s.1 (C + 3) x.toNat)] s _
  refine wr_n (pc2 := 22) (lv2 := [(4, vi (s.1 (C + 3) x.toNat)), (3, vi (s.1 (C + 2) x.toNat)), (0, .ref 142), (1, vi x), (2, vi y)]) (st2 := [.ref 142]) 2 (fun _ _ => rfl) ?_
  refine wr_get (v := .ref C) rfl rfl rfl (by decide) (rv_ref (show (s.1) 142 0 = ((C : Nat) : Int) from hq)) fun h7 => ?_
  show wr (d + 3) tb_M109 25 [(4, vi (s.1 (C + 3) x.toNat)), (3, vi (s.1 (C + 2) x.toNat)), (0, .ref 142), (1, vi x), (2, vi y)] [.ref C] s _
  refine wr_get (v := .ref (C + 1)) rfl rfl (TK0 hC) (by decide) (rv_ref (hK.1 C 0 (C + 1) (rcK hC (by omega)))) fun h8 => ?_
  show wr (d + 3) tb_M109 28 [(4, vi (s.1 (C + 3) x.toNat)), (3, vi (s.1 (C + 2) x.toNat)), (0, .ref 142), (1, vi x), (2, vi y)] [.ref (C + 1)] s _
  refine wr_n (pc2 := 29) (lv2 := [(4, vi (s.1 (C + 3) x.toNat)), (3, vi (s.1 (C + 2) x.toNat)), (0, .ref 142), (1, vi x), (2, vi y)]) (st2 := [vi x, .ref (C + 1)]) 1 (fun _ _ => rfl) ?_
  refine wr_ald (a := x) (v := vi (s.1 (C + 1) x.toNat)) rfl (TK1 hC) rfl (by omega) (by omega) (by decide) rfl fun h9 => ?_
  have h9 : -2147483648 ≤ s.1 (C + 1) x.toNat ∧ s.1 (C + 1) x.toNat ≤ 2147483647 := h9
  show wr (d + 3) tb_M109 30 [(4, vi (s.1 (C + 3) x.toNat)), (3, vi (s.1 (C + 2) x.toNat)), (0, .ref 142), (1, vi x), (2, vi y)] [vi (s.1 (C + 1) x.toNat)] s _
  refine wr_lsw rfl (by decide) fun off hoff => ?_
  have hoff2 : off = 50 ∨ off = 107 ∨ off = 145 ∨ off = 165 ∨ off = 207 ∨ off = 216 := by simp at hoff; omega
  clear hoff
  rcases hoff2 with rfl | rfl | rfl | rfl | rfl | rfl
  · refine ⟨80, rfl, ?_⟩
    refine wr_n (pc2 := 81) (lv2 := [(4, vi (s.1 (C + 3) x.toNat)), (3, vi (s.1 (C + 2) x.toNat)), (0, .ref 142), (1, vi x), (2, vi y)]) (st2 := [vi y]) 1 (fun _ _ => rfl) ?_
    by_cases h10 : y ≠ 0
    · refine wr_if1t rfl rfl (by unfold i32; omega) h10 ?_
      refine wr_n (pc2 := 95) (lv2 := [(4, vi (s.1 (C + 3) x.toNat)), (3, vi (s.1 (C + 2) x.toNat)), (0, .ref 142), (1, vi x), (2, vi y)]) (st2 := [vi (s.1 (C + 2) x.toNat), .ref 142]) 2 (fun _ _ => rfl) ?_
      refine wr_call1 (args := [vi (s.1 (C + 2) x.toNat)]) (rest := []) rfl rfl rfl rfl (Nat.le_of_ble_eq_true rfl) (cr_mono (k_val (d := d + 1) (C := C) hC (x := s.1 (C + 2) x.toNat) s hK hq (by omega)) ?_)
      rintro s11 out ⟨z11, rfl, hz11, hp11, e11⟩
      refine ⟨_, rfl, ?_⟩
      rw [e11]
      unfold i32 at hz11
      clear hp11
      show wr (d + 3) tb_M109 98 [(4, vi (s.1 (C + 3) x.toNat)), (3, vi (s.1 (C + 2) x.toNat)), (0, .ref 142), (1, vi x), (2, vi y)] [vi z11] s _
      by_cases h12 : z11 = 0
      · refine wr_if1t rfl rfl (by unfold i32; omega) h12 ?_
        refine wr_n (pc2 := 107) (lv2 := [(4, vi (s.1 (C + 3) x.toNat)), (3, vi (s.1 (C + 2) x.toNat)), (0, .ref 142), (1, vi x), (2, vi y)]) (st2 := [.ref 142]) 1 (fun _ _ => rfl) ?_
        refine wr_get (v := .ref C) rfl rfl rfl (by decide) (rv_ref (show (s.1) 142 0 = ((C : Nat) : Int) from hq)) fun h13 => ?_
        show wr (d + 3) tb_M109 110 [(4, vi (s.1 (C + 3) x.toNat)), (3, vi (s.1 (C + 2) x.toNat)), (0, .ref 142), (1, vi x), (2, vi y)] [.ref C] s _
        refine wr_get (v := .ref (C + 4)) rfl rfl (TK0 hC) (by decide) (rv_ref (hK.1 C 3 (C + 4) (rcK hC (by omega)))) fun h14 => ?_
        show wr (d + 3) tb_M109 113 [(4, vi (s.1 (C + 3) x.toNat)), (3, vi (s.1 (C + 2) x.toNat)), (0, .ref 142), (1, vi x), (2, vi y)] [.ref (C + 4)] s _
        refine wr_n (pc2 := 114) (lv2 := [(4, vi (s.1 (C + 3) x.toNat)), (3, vi (s.1 (C + 2) x.toNat)), (0, .ref 142), (1, vi x), (2, vi y)]) (st2 := [vi x, .ref (C + 4)]) 1 (fun _ _ => rfl) ?_
        refine wr_ald (a := x) (v := vi (s.1 (C + 4) x.toNat)) rfl (TK4 hC) rfl (by omega) (by omega) (by decide) rfl fun h15 => ?_
        have h15 : -2147483648 ≤ s.1 (C + 4) x.toNat ∧ s.1 (C + 4) x.toNat ≤ 2147483647 := h15
        show wr (d + 3) tb_M109 115 [(4, vi (s.1 (C + 3) x.toNat)), (3, vi (s.1 (C + 2) x.toNat)), (0, .ref 142), (1, vi x), (2, vi y)] [vi (s.1 (C + 4) x.toNat)] s _
        refine wr_n (pc2 := 120) (lv2 := [(5, vi (s.1 (C + 4) x.toNat)), (4, vi (s.1 (C + 3) x.toNat)), (3, vi (s.1 (C + 2) x.toNat)), (0, .ref 142), (1, vi x), (2, vi y)]) (st2 := [vi 1, vi y, .ref 142]) 4 (fun _ _ => rfl) ?_
        by_cases h16 : y ≠ 1
        · refine wr_if2t rfl rfl (by unfold i32; omega) (by unfold i32; omega) h16 ?_
          refine wr_n (pc2 := 131) (lv2 := [(5, vi (s.1 (C + 4) x.toNat)), (4, vi (s.1 (C + 3) x.toNat)), (3, vi (s.1 (C + 2) x.toNat)), (0, .ref 142), (1, vi x), (2, vi y)]) (st2 := [vi 0, vi x, vi ((-1)), .ref 142]) 3 (fun _ _ => rfl) ?_
          refine wr_call1 (args := [vi ((-1)), vi x, vi 0]) (rest := []) rfl rfl rfl rfl (Nat.le_of_ble_eq_true rfl) (cr_mono (k_askOrTell (d := d + 0) (C := C) hC (x := (-1)) (y := x) (u := 0) s hK hq (by omega) (by omega) (by omega)) ?_)
          rintro s17 out ⟨hK17, hY17, hc17, rfl⟩
          refine ⟨_, rfl, ?_⟩
          have hX17 : FX s.1 s17.1 := FX_tr FX_rf hY17
          have hC17 : s17.2 = s.2 := hc17.trans rfl
          have hq17 : s17.1 142 0 = (C : Int) := (hY17 142 0 (by unfold fx; omega)).trans hq
          show wr (d + 3) tb_M109 134 [(5, vi (s.1 (C + 4) x.toNat)), (4, vi (s.1 (C + 3) x.toNat)), (3, vi (s.1 (C + 2) x.toNat)), (0, .ref 142), (1, vi x), (2, vi y)] [] s17 _
          refine wr_n (pc2 := 252) (lv2 := [(5, vi (s.1 (C + 4) x.toNat)), (4, vi (s.1 (C + 3) x.toNat)), (3, vi (s.1 (C + 2) x.toNat)), (0, .ref 142), (1, vi x), (2, vi y)]) (st2 := []) 1 (fun _ _ => rfl) ?_
          refine wr_end (fun _ _ => rfl) ?_
          exact ⟨hK17, hX17, hC17, rfl⟩
        · refine wr_if2f rfl rfl (by unfold i32; omega) (by unfold i32; omega) h16 ?_
          refine wr_n (pc2 := 131) (lv2 := [(5, vi (s.1 (C + 4) x.toNat)), (4, vi (s.1 (C + 3) x.toNat)), (3, vi (s.1 (C + 2) x.toNat)), (0, .ref 142), (1, vi x), (2, vi y)]) (st2 := [vi 0, vi x, vi (s.1 (C + 4) x.toNat), .ref 142]) 4 (fun _ _ => rfl) ?_
          refine wr_call1 (args := [vi (s.1 (C + 4) x.toNat), vi x, vi 0]) (rest := []) rfl rfl rfl rfl (Nat.le_of_ble_eq_true rfl) (cr_mono (k_askOrTell (d := d + 0) (C := C) hC (x := s.1 (C + 4) x.toNat) (y := x) (u := 0) s hK hq (by omega) (by omega) (by omega)) ?_)
          rintro s18 out ⟨hK18, hY18, hc18, rfl⟩
          refine ⟨_, rfl, ?_⟩
          have hX18 : FX s.1 s18.1 := FX_tr FX_rf hY18
          have hC18 : s18.2 = s.2 := hc18.trans rfl
          have hq18 : s18.1 142 0 = (C : Int) := (hY18 142 0 (by unfold fx; omega)).trans hq
          show wr (d + 3) tb_M109 134 [(5, vi (s.1 (C + 4) x.toNat)), (4, vi (s.1 (C + 3) x.toNat)), (3, vi (s.1 (C + 2) x.toNat)), (0, .ref 142), (1, vi x), (2, vi y)] [] s18 _
          refine wr_n (pc2 := 252) (lv2 := [(5, vi (s.1 (C + 4) x.toNat)), (4, vi (s.1 (C + 3) x.toNat)), (3, vi (s.1 (C + 2) x.toNat)), (0, .ref 142), (1, vi x), (2, vi y)]) (st2 := []) 1 (fun _ _ => rfl) ?_
          refine wr_end (fun _ _ => rfl) ?_
          exact ⟨hK18, hX18, hC18, rfl⟩
      · refine wr_if1f rfl rfl (by unfold i32; omega) h12 ?_
        refine wr_n (pc2 := 120) (lv2 := [(5, vi (s.1 (C + 3) x.toNat)), (4, vi (s.1 (C + 3) x.toNat)), (3, vi (s.1 (C + 2) x.toNat)), (0, .ref 142), (1, vi x), (2, vi y)]) (st2 := [vi 1, vi y, .ref 142]) 6 (fun _ _ => rfl) ?_
        by_cases h19 : y ≠ 1
        · refine wr_if2t rfl rfl (by unfold i32; omega) (by unfold i32; omega) h19 ?_
          refine wr_n (pc2 := 131) (lv2 := [(5, vi (s.1 (C + 3) x.toNat)), (4, vi (s.1 (C + 3) x.toNat)), (3, vi (s.1 (C + 2) x.toNat)), (0, .ref 142), (1, vi x), (2, vi y)]) (st2 := [vi 0, vi x, vi ((-1)), .ref 142]) 3 (fun _ _ => rfl) ?_
          refine wr_call1 (args := [vi ((-1)), vi x, vi 0]) (rest := []) rfl rfl rfl rfl (Nat.le_of_ble_eq_true rfl) (cr_mono (k_askOrTell (d := d + 0) (C := C) hC (x := (-1)) (y := x) (u := 0) s hK hq (by omega) (by omega) (by omega)) ?_)
          rintro s20 out ⟨hK20, hY20, hc20, rfl⟩
          refine ⟨_, rfl, ?_⟩
          have hX20 : FX s.1 s20.1 := FX_tr FX_rf hY20
          have hC20 : s20.2 = s.2 := hc20.trans rfl
          have hq20 : s20.1 142 0 = (C : Int) := (hY20 142 0 (by unfold fx; omega)).trans hq
          show wr (d + 3) tb_M109 134 [(5, vi (s.1 (C + 3) x.toNat)), (4, vi (s.1 (C + 3) x.toNat)), (3, vi (s.1 (C + 2) x.toNat)), (0, .ref 142), (1, vi x), (2, vi y)] [] s20 _
          refine wr_n (pc2 := 252) (lv2 := [(5, vi (s.1 (C + 3) x.toNat)), (4, vi (s.1 (C + 3) x.toNat)), (3, vi (s.1 (C + 2) x.toNat)), (0, .ref 142), (1, vi x), (2, vi y)]) (st2 := []) 1 (fun _ _ => rfl) ?_
          refine wr_end (fun _ _ => rfl) ?_
          exact ⟨hK20, hX20, hC20, rfl⟩
        · refine wr_if2f rfl rfl (by unfold i32; omega) (by unfold i32; omega) h19 ?_
          refine wr_n (pc2 := 131) (lv2 := [(5, vi (s.1 (C + 3) x.toNat)), (4, vi (s.1 (C + 3) x.toNat)), (3, vi (s.1 (C + 2) x.toNat)), (0, .ref 142), (1, vi x), (2, vi y)]) (st2 := [vi 0, vi x, vi (s.1 (C + 3) x.toNat), .ref 142]) 4 (fun _ _ => rfl) ?_
          refine wr_call1 (args := [vi (s.1 (C + 3) x.toNat), vi x, vi 0]) (rest := []) rfl rfl rfl rfl (Nat.le_of_ble_eq_true rfl) (cr_mono (k_askOrTell (d := d + 0) (C := C) hC (x := s.1 (C + 3) x.toNat) (y := x) (u := 0) s hK hq (by omega) (by omega) (by omega)) ?_)
          rintro s21 out ⟨hK21, hY21, hc21, rfl⟩
          refine ⟨_, rfl, ?_⟩
          have hX21 : FX s.1 s21.1 := FX_tr FX_rf hY21
          have hC21 : s21.2 = s.2 := hc21.trans rfl
          have hq21 : s21.1 142 0 = (C : Int) := (hY21 142 0 (by unfold fx; omega)).trans hq
          show wr (d + 3) tb_M109 134 [(5, vi (s.1 (C + 3) x.toNat)), (4, vi (s.1 (C + 3) x.toNat)), (3, vi (s.1 (C + 2) x.toNat)), (0, .ref 142), (1, vi x), (2, vi y)] [] s21 _
          refine wr_n (pc2 := 252) (lv2 := [(5, vi (s.1 (C + 3) x.toNat)), (4, vi (s.1 (C + 3) x.toNat)), (3, vi (s.1 (C + 2) x.toNat)), (0, .ref 142), (1, vi x), (2, vi y)]) (st2 := []) 1 (fun _ _ => rfl) ?_
          refine wr_end (fun _ _ => rfl) ?_
          exact ⟨hK21, hX21, hC21, rfl⟩
    · refine wr_if1f rfl rfl (by unfold i32; omega) h10 ?_
      refine wr_n (pc2 := 87) (lv2 := [(4, vi (s.1 (C + 3) x.toNat)), (3, vi (s.1 (C + 2) x.toNat)), (0, .ref 142), (1, vi x), (2, vi y)]) (st2 := [vi x, vi (s.1 (C + 2) x.toNat), .ref 142]) 3 (fun _ _ => rfl) ?_
      refine wr_call1 (args := [vi (s.1 (C + 2) x.toNat), vi x]) (rest := []) rfl rfl rfl rfl (Nat.le_of_ble_eq_true rfl) (cr_mono (k_ask (d := d + 1) (C := C) hC (x := s.1 (C + 2) x.toNat) (y := x) s hK hq (by omega) (by omega)) ?_)
      rintro s22 out ⟨hK22, hY22, hc22, rfl⟩
      refine ⟨_, rfl, ?_⟩
      have hX22 : FX s.1 s22.1 := FX_tr FX_rf hY22
      have hC22 : s22.2 = s.2 := hc22.trans rfl
      have hq22 : s22.1 142 0 = (C : Int) := (hY22 142 0 (by unfold fx; omega)).trans hq
      show wr (d + 3) tb_M109 90 [(4, vi (s.1 (C + 3) x.toNat)), (3, vi (s.1 (C + 2) x.toNat)), (0, .ref 142), (1, vi x), (2, vi y)] [] s22 _
      refine wr_n (pc2 := 252) (lv2 := [(4, vi (s.1 (C + 3) x.toNat)), (3, vi (s.1 (C + 2) x.toNat)), (0, .ref 142), (1, vi x), (2, vi y)]) (st2 := []) 1 (fun _ _ => rfl) ?_
      refine wr_end (fun _ _ => rfl) ?_
      exact ⟨hK22, hX22, hC22, rfl⟩
  · refine ⟨137, rfl, ?_⟩
    refine wr_n (pc2 := 139) (lv2 := [(4, vi (s.1 (C + 3) x.toNat)), (3, vi (s.1 (C + 2) x.toNat)), (0, .ref 142), (1, vi x), (2, vi y)]) (st2 := [vi 2, vi y]) 2 (fun _ _ => rfl) ?_
    refine wr_rem rfl (by unfold i32; omega) (by omega) fun z23 h24 => ?_
    unfold i32 at h24
    show wr (d + 3) tb_M109 140 [(4, vi (s.1 (C + 3) x.toNat)), (3, vi (s.1 (C + 2) x.toNat)), (0, .ref 142), (1, vi x), (2, vi y)] [vi z23] s _
    by_cases h25 : z23 ≠ 0
    · refine wr_if1t rfl rfl (by unfold i32; omega) h25 ?_
      refine wr_n (pc2 := 155) (lv2 := [(4, vi (s.1 (C + 3) x.toNat)), (3, vi (s.1 (C + 2) x.toNat)), (0, .ref 142), (1, vi x), (2, vi y)]) (st2 := [vi (s.1 (C + 2) x.toNat), .ref 142, .ref 142]) 3 (fun _ _ => rfl) ?_
      refine wr_call1 (args := [vi (s.1 (C + 2) x.toNat)]) (rest := [.ref 142]) rfl rfl rfl rfl (Nat.le_of_ble_eq_true rfl) (cr_mono (k_val (d := d + 1) (C := C) hC (x := s.1 (C + 2) x.toNat) s hK hq (by omega)) ?_)
      rintro s26 out ⟨z26, rfl, hz26, hp26, e26⟩
      refine ⟨_, rfl, ?_⟩
      rw [e26]
      unfold i32 at hz26
      clear hp26
      show wr (d + 3) tb_M109 158 [(4, vi (s.1 (C + 3) x.toNat)), (3, vi (s.1 (C + 2) x.toNat)), (0, .ref 142), (1, vi x), (2, vi y)] [vi z26, .ref 142] s _
      by_cases h27 : z26 = 0
      · refine wr_if1t rfl rfl (by unfold i32; omega) h27 ?_
        refine wr_n (pc2 := 169) (lv2 := [(4, vi (s.1 (C + 3) x.toNat)), (3, vi (s.1 (C + 2) x.toNat)), (0, .ref 142), (1, vi x), (2, vi y)]) (st2 := [vi 0, vi x, vi ((-1)), .ref 142]) 3 (fun _ _ => rfl) ?_
        refine wr_call1 (args := [vi ((-1)), vi x, vi 0]) (rest := []) rfl rfl rfl rfl (Nat.le_of_ble_eq_true rfl) (cr_mono (k_askOrTell (d := d + 0) (C := C) hC (x := (-1)) (y := x) (u := 0) s hK hq (by omega) (by omega) (by omega)) ?_)
        rintro s28 out ⟨hK28, hY28, hc28, rfl⟩
        refine ⟨_, rfl, ?_⟩
        have hX28 : FX s.1 s28.1 := FX_tr FX_rf hY28
        have hC28 : s28.2 = s.2 := hc28.trans rfl
        have hq28 : s28.1 142 0 = (C : Int) := (hY28 142 0 (by unfold fx; omega)).trans hq
        show wr (d + 3) tb_M109 172 [(4, vi (s.1 (C + 3) x.toNat)), (3, vi (s.1 (C + 2) x.toNat)), (0, .ref 142), (1, vi x), (2, vi y)] [] s28 _
        refine wr_n (pc2 := 252) (lv2 := [(4, vi (s.1 (C + 3) x.toNat)), (3, vi (s.1 (C + 2) x.toNat)), (0, .ref 142), (1, vi x), (2, vi y)]) (st2 := []) 1 (fun _ _ => rfl) ?_
        refine wr_end (fun _ _ => rfl) ?_
        exact ⟨hK28, hX28, hC28, rfl⟩
      · refine wr_if1f rfl rfl (by unfold i32; omega) h27 ?_
        refine wr_n (pc2 := 169) (lv2 := [(4, vi (s.1 (C + 3) x.toNat)), (3, vi (s.1 (C + 2) x.toNat)), (0, .ref 142), (1, vi x), (2, vi y)]) (st2 := [vi 0, vi x, vi (s.1 (C + 3) x.toNat), .ref 142]) 4 (fun _ _ => rfl) ?_
        refine wr_call1 (args := [vi (s.1 (C + 3) x.toNat), vi x, vi 0]) (rest := []) rfl rfl rfl rfl (Nat.le_of_ble_eq_true rfl) (cr_mono (k_askOrTell (d := d + 0) (C := C) hC (x := s.1 (C + 3) x.toNat) (y := x) (u := 0) s hK hq (by omega) (by omega) (by omega)) ?_)
        rintro s29 out ⟨hK29, hY29, hc29, rfl⟩
        refine ⟨_, rfl, ?_⟩
        have hX29 : FX s.1 s29.1 := FX_tr FX_rf hY29
        have hC29 : s29.2 = s.2 := hc29.trans rfl
        have hq29 : s29.1 142 0 = (C : Int) := (hY29 142 0 (by unfold fx; omega)).trans hq
        show wr (d + 3) tb_M109 172 [(4, vi (s.1 (C + 3) x.toNat)), (3, vi (s.1 (C + 2) x.toNat)), (0, .ref 142), (1, vi x), (2, vi y)] [] s29 _
        refine wr_n (pc2 := 252) (lv2 := [(4, vi (s.1 (C + 3) x.toNat)), (3, vi (s.1 (C + 2) x.toNat)), (0, .ref 142), (1, vi x), (2, vi y)]) (st2 := []) 1 (fun _ _ => rfl) ?_
        refine wr_end (fun _ _ => rfl) ?_
        exact ⟨hK29, hX29, hC29, rfl⟩
    · refine wr_if1f rfl rfl (by unfold i32; omega) h25 ?_
      refine wr_n (pc2 := 146) (lv2 := [(4, vi (s.1 (C + 3) x.toNat)), (3, vi (s.1 (C + 2) x.toNat)), (0, .ref 142), (1, vi x), (2, vi y)]) (st2 := [vi x, vi (s.1 (C + 2) x.toNat), .ref 142]) 3 (fun _ _ => rfl) ?_
      refine wr_call1 (args := [vi (s.1 (C + 2) x.toNat), vi x]) (rest := []) rfl rfl rfl rfl (Nat.le_of_ble_eq_true rfl) (cr_mono (k_ask (d := d + 1) (C := C) hC (x := s.1 (C + 2) x.toNat) (y := x) s hK hq (by omega) (by omega)) ?_)
      rintro s30 out ⟨hK30, hY30, hc30, rfl⟩
      refine ⟨_, rfl, ?_⟩
      have hX30 : FX s.1 s30.1 := FX_tr FX_rf hY30
      have hC30 : s30.2 = s.2 := hc30.trans rfl
      have hq30 : s30.1 142 0 = (C : Int) := (hY30 142 0 (by unfold fx; omega)).trans hq
      show wr (d + 3) tb_M109 149 [(4, vi (s.1 (C + 3) x.toNat)), (3, vi (s.1 (C + 2) x.toNat)), (0, .ref 142), (1, vi x), (2, vi y)] [] s30 _
      refine wr_n (pc2 := 252) (lv2 := [(4, vi (s.1 (C + 3) x.toNat)), (3, vi (s.1 (C + 2) x.toNat)), (0, .ref 142), (1, vi x), (2, vi y)]) (st2 := []) 1 (fun _ _ => rfl) ?_
      refine wr_end (fun _ _ => rfl) ?_
      exact ⟨hK30, hX30, hC30, rfl⟩
  · refine ⟨175, rfl, ?_⟩
    refine wr_n (pc2 := 178) (lv2 := [(4, vi (s.1 (C + 3) x.toNat)), (3, vi (s.1 (C + 2) x.toNat)), (0, .ref 142), (1, vi x), (2, vi y)]) (st2 := [vi (s.1 (C + 2) x.toNat), vi y, .ref 142]) 3 (fun _ _ => rfl) ?_
    by_cases h31 : s.1 (C + 2) x.toNat ≤ y
    · refine wr_if2t rfl rfl (by unfold i32; omega) (by unfold i32; omega) h31 ?_
      refine wr_n (pc2 := 189) (lv2 := [(4, vi (s.1 (C + 3) x.toNat)), (3, vi (s.1 (C + 2) x.toNat)), (0, .ref 142), (1, vi x), (2, vi y)]) (st2 := [vi 0, vi x, vi ((-1)), .ref 142]) 3 (fun _ _ => rfl) ?_
      refine wr_call1 (args := [vi ((-1)), vi x, vi 0]) (rest := []) rfl rfl rfl rfl (Nat.le_of_ble_eq_true rfl) (cr_mono (k_askOrTell (d := d + 0) (C := C) hC (x := (-1)) (y := x) (u := 0) s hK hq (by omega) (by omega) (by omega)) ?_)
      rintro s32 out ⟨hK32, hY32, hc32, rfl⟩
      refine ⟨_, rfl, ?_⟩
      have hX32 : FX s.1 s32.1 := FX_tr FX_rf hY32
      have hC32 : s32.2 = s.2 := hc32.trans rfl
      have hq32 : s32.1 142 0 = (C : Int) := (hY32 142 0 (by unfold fx; omega)).trans hq
      show wr (d + 3) tb_M109 192 [(4, vi (s.1 (C + 3) x.toNat)), (3, vi (s.1 (C + 2) x.toNat)), (0, .ref 142), (1, vi x), (2, vi y)] [] s32 _
      refine wr_n (pc2 := 252) (lv2 := [(4, vi (s.1 (C + 3) x.toNat)), (3, vi (s.1 (C + 2) x.toNat)), (0, .ref 142), (1, vi x), (2, vi y)]) (st2 := []) 1 (fun _ _ => rfl) ?_
      refine wr_end (fun _ _ => rfl) ?_
      exact ⟨hK32, hX32, hC32, rfl⟩
    · refine wr_if2f rfl rfl (by unfold i32; omega) (by unfold i32; omega) h31 ?_
      refine wr_n (pc2 := 189) (lv2 := [(4, vi (s.1 (C + 3) x.toNat)), (3, vi (s.1 (C + 2) x.toNat)), (0, .ref 142), (1, vi x), (2, vi y)]) (st2 := [vi 0, vi x, vi (s.1 (C + 3) x.toNat), .ref 142]) 4 (fun _ _ => rfl) ?_
      refine wr_call1 (args := [vi (s.1 (C + 3) x.toNat), vi x, vi 0]) (rest := []) rfl rfl rfl rfl (Nat.le_of_ble_eq_true rfl) (cr_mono (k_askOrTell (d := d + 0) (C := C) hC (x := s.1 (C + 3) x.toNat) (y := x) (u := 0) s hK hq (by omega) (by omega) (by omega)) ?_)
      rintro s33 out ⟨hK33, hY33, hc33, rfl⟩
      refine ⟨_, rfl, ?_⟩
      have hX33 : FX s.1 s33.1 := FX_tr FX_rf hY33
      have hC33 : s33.2 = s.2 := hc33.trans rfl
      have hq33 : s33.1 142 0 = (C : Int) := (hY33 142 0 (by unfold fx; omega)).trans hq
      show wr (d + 3) tb_M109 192 [(4, vi (s.1 (C + 3) x.toNat)), (3, vi (s.1 (C + 2) x.toNat)), (0, .ref 142), (1, vi x), (2, vi y)] [] s33 _
      refine wr_n (pc2 := 252) (lv2 := [(4, vi (s.1 (C + 3) x.toNat)), (3, vi (s.1 (C + 2) x.toNat)), (0, .ref 142), (1, vi x), (2, vi y)]) (st2 := []) 1 (fun _ _ => rfl) ?_
      refine wr_end (fun _ _ => rfl) ?_
      exact ⟨hK33, hX33, hC33, rfl⟩
  · refine ⟨195, rfl, ?_⟩
    refine wr_n (pc2 := 196) (lv2 := [(4, vi (s.1 (C + 3) x.toNat)), (3, vi (s.1 (C + 2) x.toNat)), (0, .ref 142), (1, vi x), (2, vi y)]) (st2 := [.ref 142]) 1 (fun _ _ => rfl) ?_
    refine wr_get (v := .ref 146) rfl rfl rfl (by decide) (rv_ref (hK.1 142 4 146 rfl)) fun h34 => ?_
    show wr (d + 3) tb_M109 199 [(4, vi (s.1 (C + 3) x.toNat)), (3, vi (s.1 (C + 2) x.toNat)), (0, .ref 142), (1, vi x), (2, vi y)] [.ref 146] s _
    refine wr_n (pc2 := 201) (lv2 := [(4, vi (s.1 (C + 3) x.toNat)), (3, vi (s.1 (C + 2) x.toNat)), (0, .ref 142), (1, vi x), (2, vi y)]) (st2 := [vi y, vi x, .ref 146]) 2 (fun _ _ => rfl) ?_
    by_cases h35 : y ≠ 0
    · refine wr_if1t rfl rfl (by unfold i32; omega) h35 ?_
      refine wr_n (pc2 := 209) (lv2 := [(4, vi (s.1 (C + 3) x.toNat)), (3, vi (s.1 (C + 2) x.toNat)), (0, .ref 142), (1, vi x), (2, vi y)]) (st2 := [.ref 142, vi x, .ref 146]) 1 (fun _ _ => rfl) ?_
      refine wr_get (v := .ref C) rfl rfl rfl (by decide) (rv_ref (show (s.1) 142 0 = ((C : Nat) : Int) from hq)) fun h36 => ?_
      show wr (d + 3) tb_M109 212 [(4, vi (s.1 (C + 3) x.toNat)), (3, vi (s.1 (C + 2) x.toNat)), (0, .ref 142), (1, vi x), (2, vi y)] [.ref C, vi x, .ref 146] s _
      refine wr_n (pc2 := 213) (lv2 := [(4, vi (s.1 (C + 3) x.toNat)), (3, vi (s.1 (C + 2) x.toNat)), (0, .ref 142), (1, vi x), (2, vi y)]) (st2 := [.ref 142, .ref C, vi x, .ref 146]) 1 (fun _ _ => rfl) ?_
      refine wr_get (v := .ref 146) rfl rfl rfl (by decide) (rv_ref (hK.1 142 4 146 rfl)) fun h37 => ?_
      show wr (d + 3) tb_M109 216 [(4, vi (s.1 (C + 3) x.toNat)), (3, vi (s.1 (C + 2) x.toNat)), (0, .ref 142), (1, vi x), (2, vi y)] [.ref 146, .ref C, vi x, .ref 146] s _
      refine wr_n (pc2 := 217) (lv2 := [(4, vi (s.1 (C + 3) x.toNat)), (3, vi (s.1 (C + 2) x.toNat)), (0, .ref 142), (1, vi x), (2, vi y)]) (st2 := [vi x, .ref 146, .ref C, vi x, .ref 146]) 1 (fun _ _ => rfl) ?_
      refine wr_ald (a := x) (v := vi (s.1 146 x.toNat)) rfl rfl rfl (by omega) (by omega) (by decide) rfl fun h38 => ?_
      have h38 : -2147483648 ≤ s.1 146 x.toNat ∧ s.1 146 x.toNat ≤ 2147483647 := h38
      show wr (d + 3) tb_M109 218 [(4, vi (s.1 (C + 3) x.toNat)), (3, vi (s.1 (C + 2) x.toNat)), (0, .ref 142), (1, vi x), (2, vi y)] [vi (s.1 146 x.toNat), .ref C, vi x, .ref 146] s _
      refine wr_call1 (args := [vi (s.1 146 x.toNat)]) (rest := [vi x, .ref 146]) rfl rfl rfl (TK0 hC) (Nat.le_of_ble_eq_true rfl) (cr_mono (k_follower (d := d + 1) (C := C) hC (x := s.1 146 x.toNat) s hK (by omega)) ?_)
      rintro s39 out ⟨z39, rfl, hz39, hp39, e39⟩
      refine ⟨_, rfl, ?_⟩
      rw [e39]
      unfold i32 at hz39
      clear hp39
      show wr (d + 3) tb_M109 221 [(4, vi (s.1 (C + 3) x.toNat)), (3, vi (s.1 (C + 2) x.toNat)), (0, .ref 142), (1, vi x), (2, vi y)] [vi z39, vi x, .ref 146] s _
      refine wr_ast (a := x) (z := z39) rfl (by decide) rfl rfl (by omega) (by omega) (by decide) rfl (show -2147483648 ≤ z39 ∧ z39 ≤ 2147483647 by omega) ?_
      show wr (d + 3) tb_M109 222 [(4, vi (s.1 (C + 3) x.toNat)), (3, vi (s.1 (C + 2) x.toNat)), (0, .ref 142), (1, vi x), (2, vi y)] [] (up2 s.1 146 x.toNat z39, s.2) _
      have hK40 : KI (up2 s.1 146 x.toNat z39) := (KI_up hK (n0 rfl (by omega) (by omega)) (kb_no rfl))
      refine wr_n (pc2 := 224) (lv2 := [(4, vi (s.1 (C + 3) x.toNat)), (3, vi (s.1 (C + 2) x.toNat)), (0, .ref 142), (1, vi x), (2, vi y)]) (st2 := [.ref 142, .ref 142]) 2 (fun _ _ => rfl) ?_
      refine wr_get (v := .ref 146) rfl rfl rfl (by decide) (rv_ref (hK40.1 142 4 146 rfl)) fun h41 => ?_
      show wr (d + 3) tb_M109 227 [(4, vi (s.1 (C + 3) x.toNat)), (3, vi (s.1 (C + 2) x.toNat)), (0, .ref 142), (1, vi x), (2, vi y)] [.ref 146, .ref 142] (up2 s.1 146 x.toNat z39, s.2) _
      refine wr_n (pc2 := 228) (lv2 := [(4, vi (s.1 (C + 3) x.toNat)), (3, vi (s.1 (C + 2) x.toNat)), (0, .ref 142), (1, vi x), (2, vi y)]) (st2 := [vi x, .ref 146, .ref 142]) 1 (fun _ _ => rfl) ?_
      refine wr_ald (a := x) (v := vi z39) rfl rfl rfl (by omega) (by omega) (by decide) (by show rv _ ((up2 s.1 146 x.toNat z39) 146 x.toNat) = _; rw [up_self]; rfl) fun h42 => ?_
      have h42 : rg _ ((up2 s.1 146 x.toNat z39) 146 x.toNat) := h42
      rw [up_self] at h42
      have h42 : -2147483648 ≤ z39 ∧ z39 ≤ 2147483647 := h42
      show wr (d + 3) tb_M109 229 [(4, vi (s.1 (C + 3) x.toNat)), (3, vi (s.1 (C + 2) x.toNat)), (0, .ref 142), (1, vi x), (2, vi y)] [vi z39, .ref 142] (up2 s.1 146 x.toNat z39, s.2) _
      refine wr_n (pc2 := 231) (lv2 := [(4, vi (s.1 (C + 3) x.toNat)), (3, vi (s.1 (C + 2) x.toNat)), (0, .ref 142), (1, vi x), (2, vi y)]) (st2 := [vi 0, vi x, vi z39, .ref 142]) 2 (fun _ _ => rfl) ?_
      refine wr_call1 (args := [vi z39, vi x, vi 0]) (rest := []) rfl rfl rfl rfl (Nat.le_of_ble_eq_true rfl) (cr_mono (k_askOrTell (d := d + 0) (C := C) hC (x := z39) (y := x) (u := 0) (up2 s.1 146 x.toNat z39, s.2) hK40 (show (up2 s.1 146 x.toNat z39) 142 0 = ((C : Nat) : Int) from ((if_neg (by omega)).trans hq)) (by omega) (by omega) (by omega)) ?_)
      rintro s43 out ⟨hK43, hY43, hc43, rfl⟩
      refine ⟨_, rfl, ?_⟩
      have hX43 : FX s.1 s43.1 := FX_tr (FX_up FX_rf (by unfold fx; omega)) hY43
      have hC43 : s43.2 = s.2 := hc43.trans rfl
      have hq43 : s43.1 142 0 = (C : Int) := (hY43 142 0 (by unfold fx; omega)).trans (show (up2 s.1 146 x.toNat z39) 142 0 = ((C : Nat) : Int) from ((if_neg (by omega)).trans hq))
      show wr (d + 3) tb_M109 234 [(4, vi (s.1 (C + 3) x.toNat)), (3, vi (s.1 (C + 2) x.toNat)), (0, .ref 142), (1, vi x), (2, vi y)] [] s43 _
      refine wr_n (pc2 := 252) (lv2 := [(4, vi (s.1 (C + 3) x.toNat)), (3, vi (s.1 (C + 2) x.toNat)), (0, .ref 142), (1, vi x), (2, vi y)]) (st2 := []) 1 (fun _ _ => rfl) ?_
      refine wr_end (fun _ _ => rfl) ?_
      exact ⟨hK43, hX43, hC43, rfl⟩
    · refine wr_if1f rfl rfl (by unfold i32; omega) h35 ?_
      refine wr_n (pc2 := 221) (lv2 := [(4, vi (s.1 (C + 3) x.toNat)), (3, vi (s.1 (C + 2) x.toNat)), (0, .ref 142), (1, vi x), (2, vi y)]) (st2 := [vi (s.1 (C + 2) x.toNat), vi x, .ref 146]) 2 (fun _ _ => rfl) ?_
      refine wr_ast (a := x) (z := s.1 (C + 2) x.toNat) rfl (by decide) rfl rfl (by omega) (by omega) (by decide) rfl (show -2147483648 ≤ s.1 (C + 2) x.toNat ∧ s.1 (C + 2) x.toNat ≤ 2147483647 by omega) ?_
      show wr (d + 3) tb_M109 222 [(4, vi (s.1 (C + 3) x.toNat)), (3, vi (s.1 (C + 2) x.toNat)), (0, .ref 142), (1, vi x), (2, vi y)] [] (up2 s.1 146 x.toNat (s.1 (C + 2) x.toNat), s.2) _
      have hK44 : KI (up2 s.1 146 x.toNat (s.1 (C + 2) x.toNat)) := (KI_up hK (n0 rfl (by omega) (by omega)) (kb_no rfl))
      refine wr_n (pc2 := 224) (lv2 := [(4, vi (s.1 (C + 3) x.toNat)), (3, vi (s.1 (C + 2) x.toNat)), (0, .ref 142), (1, vi x), (2, vi y)]) (st2 := [.ref 142, .ref 142]) 2 (fun _ _ => rfl) ?_
      refine wr_get (v := .ref 146) rfl rfl rfl (by decide) (rv_ref (hK44.1 142 4 146 rfl)) fun h45 => ?_
      show wr (d + 3) tb_M109 227 [(4, vi (s.1 (C + 3) x.toNat)), (3, vi (s.1 (C + 2) x.toNat)), (0, .ref 142), (1, vi x), (2, vi y)] [.ref 146, .ref 142] (up2 s.1 146 x.toNat (s.1 (C + 2) x.toNat), s.2) _
      refine wr_n (pc2 := 228) (lv2 := [(4, vi (s.1 (C + 3) x.toNat)), (3, vi (s.1 (C + 2) x.toNat)), (0, .ref 142), (1, vi x), (2, vi y)]) (st2 := [vi x, .ref 146, .ref 142]) 1 (fun _ _ => rfl) ?_
      refine wr_ald (a := x) (v := vi (s.1 (C + 2) x.toNat)) rfl rfl rfl (by omega) (by omega) (by decide) (by show rv _ ((up2 s.1 146 x.toNat (s.1 (C + 2) x.toNat)) 146 x.toNat) = _; rw [up_self]; rfl) fun h46 => ?_
      have h46 : rg _ ((up2 s.1 146 x.toNat (s.1 (C + 2) x.toNat)) 146 x.toNat) := h46
      rw [up_self] at h46
      have h46 : -2147483648 ≤ s.1 (C + 2) x.toNat ∧ s.1 (C + 2) x.toNat ≤ 2147483647 := h46
      show wr (d + 3) tb_M109 229 [(4, vi (s.1 (C + 3) x.toNat)), (3, vi (s.1 (C + 2) x.toNat)), (0, .ref 142), (1, vi x), (2, vi y)] [vi (s.1 (C + 2) x.toNat), .ref 142] (up2 s.1 146 x.toNat (s.1 (C + 2) x.toNat), s.2) _
      refine wr_n (pc2 := 231) (lv2 := [(4, vi (s.1 (C + 3) x.toNat)), (3, vi (s.1 (C + 2) x.toNat)), (0, .ref 142), (1, vi x), (2, vi y)]) (st2 := [vi 0, vi x, vi (s.1 (C + 2) x.toNat), .ref 142]) 2 (fun _ _ => rfl) ?_
      refine wr_call1 (args := [vi (s.1 (C + 2) x.toNat), vi x, vi 0]) (rest := []) rfl rfl rfl rfl (Nat.le_of_ble_eq_true rfl) (cr_mono (k_askOrTell (d := d + 0) (C := C) hC (x := s.1 (C + 2) x.toNat) (y := x) (u := 0) (up2 s.1 146 x.toNat (s.1 (C + 2) x.toNat), s.2) hK44 (show (up2 s.1 146 x.toNat (s.1 (C + 2) x.toNat)) 142 0 = ((C : Nat) : Int) from ((if_neg (by omega)).trans hq)) (by omega) (by omega) (by omega)) ?_)
      rintro s47 out ⟨hK47, hY47, hc47, rfl⟩
      refine ⟨_, rfl, ?_⟩
      have hX47 : FX s.1 s47.1 := FX_tr (FX_up FX_rf (by unfold fx; omega)) hY47
      have hC47 : s47.2 = s.2 := hc47.trans rfl
      have hq47 : s47.1 142 0 = (C : Int) := (hY47 142 0 (by unfold fx; omega)).trans (show (up2 s.1 146 x.toNat (s.1 (C + 2) x.toNat)) 142 0 = ((C : Nat) : Int) from ((if_neg (by omega)).trans hq))
      show wr (d + 3) tb_M109 234 [(4, vi (s.1 (C + 3) x.toNat)), (3, vi (s.1 (C + 2) x.toNat)), (0, .ref 142), (1, vi x), (2, vi y)] [] s47 _
      refine wr_n (pc2 := 252) (lv2 := [(4, vi (s.1 (C + 3) x.toNat)), (3, vi (s.1 (C + 2) x.toNat)), (0, .ref 142), (1, vi x), (2, vi y)]) (st2 := []) 1 (fun _ _ => rfl) ?_
      refine wr_end (fun _ _ => rfl) ?_
      exact ⟨hK47, hX47, hC47, rfl⟩
  · refine ⟨237, rfl, ?_⟩
    refine wr_n (pc2 := 240) (lv2 := [(4, vi (s.1 (C + 3) x.toNat)), (3, vi (s.1 (C + 2) x.toNat)), (0, .ref 142), (1, vi x), (2, vi y)]) (st2 := [vi y, vi x, .ref 142]) 3 (fun _ _ => rfl) ?_
    refine wr_call1 (args := [vi x, vi y]) (rest := []) rfl rfl rfl rfl (Nat.le_of_ble_eq_true rfl) (cr_mono (k_turnToPar (d := d + 0) (C := C) hC (x := x) (y := y) s hK hq (by omega) (by omega)) ?_)
    rintro s48 out ⟨hK48, hY48, hc48, rfl⟩
    refine ⟨_, rfl, ?_⟩
    have hX48 : FX s.1 s48.1 := FX_tr FX_rf hY48
    have hC48 : s48.2 = s.2 := hc48.trans rfl
    have hq48 : s48.1 142 0 = (C : Int) := (hY48 142 0 (by unfold fx; omega)).trans hq
    show wr (d + 3) tb_M109 243 [(4, vi (s.1 (C + 3) x.toNat)), (3, vi (s.1 (C + 2) x.toNat)), (0, .ref 142), (1, vi x), (2, vi y)] [] s48 _
    refine wr_n (pc2 := 252) (lv2 := [(4, vi (s.1 (C + 3) x.toNat)), (3, vi (s.1 (C + 2) x.toNat)), (0, .ref 142), (1, vi x), (2, vi y)]) (st2 := []) 1 (fun _ _ => rfl) ?_
    refine wr_end (fun _ _ => rfl) ?_
    exact ⟨hK48, hX48, hC48, rfl⟩
  · refine ⟨246, rfl, ?_⟩
    refine wr_n (pc2 := 249) (lv2 := [(4, vi (s.1 (C + 3) x.toNat)), (3, vi (s.1 (C + 2) x.toNat)), (0, .ref 142), (1, vi x), (2, vi y)]) (st2 := [vi 0, vi x, .ref 142]) 3 (fun _ _ => rfl) ?_
    refine wr_call1 (args := [vi x, vi 0]) (rest := []) rfl rfl rfl rfl (Nat.le_of_ble_eq_true rfl) (cr_mono (k_tell (d := d + 1) (C := C) hC (x := x) (y := 0) s hK hq (by omega) (by omega)) ?_)
    rintro s49 out ⟨hK49, hY49, hc49, rfl⟩
    refine ⟨_, rfl, ?_⟩
    have hX49 : FX s.1 s49.1 := FX_tr FX_rf hY49
    have hC49 : s49.2 = s.2 := hc49.trans rfl
    have hq49 : s49.1 142 0 = (C : Int) := (hY49 142 0 (by unfold fx; omega)).trans hq
    show wr (d + 3) tb_M109 252 [(4, vi (s.1 (C + 3) x.toNat)), (3, vi (s.1 (C + 2) x.toNat)), (0, .ref 142), (1, vi x), (2, vi y)] [] s49 _
    refine wr_end (fun _ _ => rfl) ?_
    exact ⟨hK49, hX49, hC49, rfl⟩
set_option maxHeartbeats 20000000 in
set_option maxRecDepth 100000 in
theorem k_turnTo {d : Nat} {C : Nat} (hC : C = 99 ∨ C = 115)  {x : Int} (s : rS) (hK : KI s.1) (hq : s.1 142 0 = (C : Int)) (hx : 0 ≤ x ∧ x ≤ 1999)  : cr (d + 6) 86 [.ref 142, vi x] s (KV s) := by
  refine cr_of (M := tb_M86) rfl (Nat.le_of_ble_eq_true rfl) ?_
  show wr (d + 5) tb_M86 0 [(0, .ref 142), (1, vi x)] [] s _
  refine wr_n (pc2 := 1) (lv2 := [(0, .ref 142), (1, vi x)]) (st2 := [.ref 142]) 1 (fun _ _ => rfl) ?_
  refine wr_get (v := .ref 144) rfl rfl rfl (by decide) (rv_ref (hK.1 142 2 144 rfl)) fun h1 => ?_
  show wr (d + 5) tb_M86 4 [(0, .ref 142), (1, vi x)] [.ref 144] s _
  refine wr_n (pc2 := 5) (lv2 := [(0, .ref 142), (1, vi x)]) (st2 := [vi x, .ref 144]) 1 (fun _ _ => rfl) ?_
  refine wr_ald (a := x) (v := vi (s.1 144 x.toNat)) rfl rfl rfl (by omega) (by omega) (by decide) rfl fun h2 => ?_
  have h2 : -2147483648 ≤ s.1 144 x.toNat ∧ s.1 144 x.toNat ≤ 2147483647 := h2
  show wr (d + 5) tb_M86 6 [(0, .ref 142), (1, vi x)] [vi (s.1 144 x.toNat)] s _
  refine wr_n (pc2 := 8) (lv2 := [(2, vi (s.1 144 x.toNat)), (0, .ref 142), (1, vi x)]) (st2 := [.ref 142]) 2 (fun _ _ => rfl) ?_
  refine wr_get (v := .ref 144) rfl rfl rfl (by decide) (rv_ref (hK.1 142 2 144 rfl)) fun h3 => ?_
  show wr (d + 5) tb_M86 11 [(2, vi (s.1 144 x.toNat)), (0, .ref 142), (1, vi x)] [.ref 144] s _
  refine wr_n (pc2 := 13) (lv2 := [(2, vi (s.1 144 x.toNat)), (0, .ref 142), (1, vi x)]) (st2 := [vi x, .ref 144, vi x, .ref 144]) 2 (fun _ _ => rfl) ?_
  refine wr_ald (a := x) (v := vi (s.1 144 x.toNat)) rfl rfl rfl (by omega) (by omega) (by decide) rfl fun h4 => ?_
  have h4 : -2147483648 ≤ s.1 144 x.toNat ∧ s.1 144 x.toNat ≤ 2147483647 := h4
  show wr (d + 5) tb_M86 14 [(2, vi (s.1 144 x.toNat)), (0, .ref 142), (1, vi x)] [vi (s.1 144 x.toNat), vi x, .ref 144] s _
  refine wr_n (pc2 := 15) (lv2 := [(2, vi (s.1 144 x.toNat)), (0, .ref 142), (1, vi x)]) (st2 := [vi 1, vi (s.1 144 x.toNat), vi x, .ref 144]) 1 (fun _ _ => rfl) ?_
  refine wr_any2 rfl rfl fun z5 h6 => ?_
  unfold i32 at h6
  show wr (d + 5) tb_M86 16 [(2, vi (s.1 144 x.toNat)), (0, .ref 142), (1, vi x)] [vi z5, vi x, .ref 144] s _
  refine wr_ast (a := x) (z := z5) rfl (by decide) rfl rfl (by omega) (by omega) (by decide) rfl (show -2147483648 ≤ z5 ∧ z5 ≤ 2147483647 by omega) ?_
  show wr (d + 5) tb_M86 17 [(2, vi (s.1 144 x.toNat)), (0, .ref 142), (1, vi x)] [] (up2 s.1 144 x.toNat z5, s.2) _
  have hK7 : KI (up2 s.1 144 x.toNat z5) := (KI_up hK (n0 rfl (by omega) (by omega)) (kb_no rfl))
  refine wr_n (pc2 := 18) (lv2 := [(2, vi (s.1 144 x.toNat)), (0, .ref 142), (1, vi x)]) (st2 := [.ref 142]) 1 (fun _ _ => rfl) ?_
  refine wr_get (v := .ref C) rfl rfl rfl (by decide) (rv_ref (show (up2 s.1 144 x.toNat z5) 142 0 = ((C : Nat) : Int) from (show (up2 s.1 144 x.toNat z5) 142 0 = ((C : Nat) : Int) from ((if_neg (by omega)).trans hq)))) fun h8 => ?_
  show wr (d + 5) tb_M86 21 [(2, vi (s.1 144 x.toNat)), (0, .ref 142), (1, vi x)] [.ref C] (up2 s.1 144 x.toNat z5, s.2) _
  refine wr_get (v := .ref (C + 1)) rfl rfl (TK0 hC) (by decide) (rv_ref (hK7.1 C 0 (C + 1) (rcK hC (by omega)))) fun h9 => ?_
  show wr (d + 5) tb_M86 24 [(2, vi (s.1 144 x.toNat)), (0, .ref 142), (1, vi x)] [.ref (C + 1)] (up2 s.1 144 x.toNat z5, s.2) _
  refine wr_n (pc2 := 25) (lv2 := [(2, vi (s.1 144 x.toNat)), (0, .ref 142), (1, vi x)]) (st2 := [vi x, .ref (C + 1)]) 1 (fun _ _ => rfl) ?_
  refine wr_ald (a := x) (v := vi (s.1 (C + 1) x.toNat)) rfl (TK1 hC) rfl (by omega) (by omega) (by decide) (by show rv _ ((up2 s.1 144 x.toNat z5) (C + 1) x.toNat) = _; rw [up_nk (by omega)]; rfl) fun h10 => ?_
  have h10 : rg _ ((up2 s.1 144 x.toNat z5) (C + 1) x.toNat) := h10
  rw [up_nk (by omega)] at h10
  have h10 : -2147483648 ≤ s.1 (C + 1) x.toNat ∧ s.1 (C + 1) x.toNat ≤ 2147483647 := h10
  show wr (d + 5) tb_M86 26 [(2, vi (s.1 144 x.toNat)), (0, .ref 142), (1, vi x)] [vi (s.1 (C + 1) x.toNat)] (up2 s.1 144 x.toNat z5, s.2) _
  refine wr_lsw rfl (by decide) fun off hoff => ?_
  have hoff2 : off = 82 ∨ off = 91 ∨ off = 100 ∨ off = 109 := by simp at hoff; omega
  clear hoff
  rcases hoff2 with rfl | rfl | rfl | rfl
  · refine ⟨108, rfl, ?_⟩
    refine wr_n (pc2 := 111) (lv2 := [(2, vi (s.1 144 x.toNat)), (0, .ref 142), (1, vi x)]) (st2 := [vi (s.1 144 x.toNat), vi x, .ref 142]) 3 (fun _ _ => rfl) ?_
    refine wr_call1 (args := [vi x, vi (s.1 144 x.toNat)]) (rest := []) rfl rfl rfl rfl (Nat.le_of_ble_eq_true rfl) (cr_mono (k_turnToE (d := d + 2) (C := C) hC (x := x) (y := s.1 144 x.toNat) (up2 s.1 144 x.toNat z5, s.2) hK7 (show (up2 s.1 144 x.toNat z5) 142 0 = ((C : Nat) : Int) from ((if_neg (by omega)).trans hq)) (by omega) (by omega)) ?_)
    rintro s11 out ⟨hK11, hY11, hc11, rfl⟩
    refine ⟨_, rfl, ?_⟩
    have hX11 : FX s.1 s11.1 := FX_tr (FX_up FX_rf (by unfold fx; omega)) hY11
    have hC11 : s11.2 = s.2 := hc11.trans rfl
    have hq11 : s11.1 142 0 = (C : Int) := (hY11 142 0 (by unfold fx; omega)).trans (show (up2 s.1 144 x.toNat z5) 142 0 = ((C : Nat) : Int) from ((if_neg (by omega)).trans hq))
    show wr (d + 5) tb_M86 114 [(2, vi (s.1 144 x.toNat)), (0, .ref 142), (1, vi x)] [] s11 _
    refine wr_n (pc2 := 141) (lv2 := [(2, vi (s.1 144 x.toNat)), (0, .ref 142), (1, vi x)]) (st2 := []) 1 (fun _ _ => rfl) ?_
    refine wr_end (fun _ _ => rfl) ?_
    exact ⟨hK11, hX11, hC11, rfl⟩
  · refine ⟨117, rfl, ?_⟩
    refine wr_n (pc2 := 120) (lv2 := [(2, vi (s.1 144 x.toNat)), (0, .ref 142), (1, vi x)]) (st2 := [vi (s.1 144 x.toNat), vi x, .ref 142]) 3 (fun _ _ => rfl) ?_
    refine wr_call1 (args := [vi x, vi (s.1 144 x.toNat)]) (rest := []) rfl rfl rfl rfl (Nat.le_of_ble_eq_true rfl) (cr_mono (k_turnToCall (d := d + 1) (C := C) hC (x := x) (y := s.1 144 x.toNat) (up2 s.1 144 x.toNat z5, s.2) hK7 (show (up2 s.1 144 x.toNat z5) 142 0 = ((C : Nat) : Int) from ((if_neg (by omega)).trans hq)) (by omega) (by omega)) ?_)
    rintro s12 out ⟨hK12, hY12, hc12, rfl⟩
    refine ⟨_, rfl, ?_⟩
    have hX12 : FX s.1 s12.1 := FX_tr (FX_up FX_rf (by unfold fx; omega)) hY12
    have hC12 : s12.2 = s.2 := hc12.trans rfl
    have hq12 : s12.1 142 0 = (C : Int) := (hY12 142 0 (by unfold fx; omega)).trans (show (up2 s.1 144 x.toNat z5) 142 0 = ((C : Nat) : Int) from ((if_neg (by omega)).trans hq))
    show wr (d + 5) tb_M86 123 [(2, vi (s.1 144 x.toNat)), (0, .ref 142), (1, vi x)] [] s12 _
    refine wr_n (pc2 := 141) (lv2 := [(2, vi (s.1 144 x.toNat)), (0, .ref 142), (1, vi x)]) (st2 := []) 1 (fun _ _ => rfl) ?_
    refine wr_end (fun _ _ => rfl) ?_
    exact ⟨hK12, hX12, hC12, rfl⟩
  · refine ⟨126, rfl, ?_⟩
    refine wr_n (pc2 := 129) (lv2 := [(2, vi (s.1 144 x.toNat)), (0, .ref 142), (1, vi x)]) (st2 := [vi (s.1 144 x.toNat), vi x, .ref 142]) 3 (fun _ _ => rfl) ?_
    refine wr_call1 (args := [vi x, vi (s.1 144 x.toNat)]) (rest := []) rfl rfl rfl rfl (Nat.le_of_ble_eq_true rfl) (cr_mono (k_turnToMove (d := d + 0) (C := C) hC (x := x) (y := s.1 144 x.toNat) (up2 s.1 144 x.toNat z5, s.2) hK7 (show (up2 s.1 144 x.toNat z5) 142 0 = ((C : Nat) : Int) from ((if_neg (by omega)).trans hq)) (by omega) (by omega)) ?_)
    rintro s13 out ⟨hK13, hY13, hc13, rfl⟩
    refine ⟨_, rfl, ?_⟩
    have hX13 : FX s.1 s13.1 := FX_tr (FX_up FX_rf (by unfold fx; omega)) hY13
    have hC13 : s13.2 = s.2 := hc13.trans rfl
    have hq13 : s13.1 142 0 = (C : Int) := (hY13 142 0 (by unfold fx; omega)).trans (show (up2 s.1 144 x.toNat z5) 142 0 = ((C : Nat) : Int) from ((if_neg (by omega)).trans hq))
    show wr (d + 5) tb_M86 132 [(2, vi (s.1 144 x.toNat)), (0, .ref 142), (1, vi x)] [] s13 _
    refine wr_n (pc2 := 141) (lv2 := [(2, vi (s.1 144 x.toNat)), (0, .ref 142), (1, vi x)]) (st2 := []) 1 (fun _ _ => rfl) ?_
    refine wr_end (fun _ _ => rfl) ?_
    exact ⟨hK13, hX13, hC13, rfl⟩
  · refine ⟨135, rfl, ?_⟩
    refine wr_n (pc2 := 138) (lv2 := [(2, vi (s.1 144 x.toNat)), (0, .ref 142), (1, vi x)]) (st2 := [vi (s.1 144 x.toNat), vi x, .ref 142]) 3 (fun _ _ => rfl) ?_
    refine wr_call1 (args := [vi x, vi (s.1 144 x.toNat)]) (rest := []) rfl rfl rfl rfl (Nat.le_of_ble_eq_true rfl) (cr_mono (k_turnToFlow (d := d + 1) (C := C) hC (x := x) (y := s.1 144 x.toNat) (up2 s.1 144 x.toNat z5, s.2) hK7 (show (up2 s.1 144 x.toNat z5) 142 0 = ((C : Nat) : Int) from ((if_neg (by omega)).trans hq)) (by omega) (by omega)) ?_)
    rintro s14 out ⟨hK14, hY14, hc14, rfl⟩
    refine ⟨_, rfl, ?_⟩
    have hX14 : FX s.1 s14.1 := FX_tr (FX_up FX_rf (by unfold fx; omega)) hY14
    have hC14 : s14.2 = s.2 := hc14.trans rfl
    have hq14 : s14.1 142 0 = (C : Int) := (hY14 142 0 (by unfold fx; omega)).trans (show (up2 s.1 144 x.toNat z5) 142 0 = ((C : Nat) : Int) from ((if_neg (by omega)).trans hq))
    show wr (d + 5) tb_M86 141 [(2, vi (s.1 144 x.toNat)), (0, .ref 142), (1, vi x)] [] s14 _
    refine wr_end (fun _ _ => rfl) ?_
    exact ⟨hK14, hX14, hC14, rfl⟩
set_option maxHeartbeats 20000000 in
set_option maxRecDepth 100000 in
theorem k_wake152_3v2 {d : Nat} {s0 : rS}  : ∀ (w : Nat) (l2 : Int) (l3 : Int) (s : rS), (12 - l2).toNat = w → KI s.1 → FX s0.1 s.1 → s.2 = s0.2 → 0 ≤ l2 ∧ l2 ≤ 12 → (-2147483648) ≤ l3 ∧ l3 ≤ 2147483647 → wr (d + 1) tb_M85 3 [(2, vi l2), (3, vi l3), (0, .ref 142), (1, .ref 152)] [] s (KV s0) := by
  intro w
  induction w using Nat.strongRecOn with | ind w ih => ?_
  intro l2 l3 s hw hK hX hc hl2 hl3
  refine wr_n (pc2 := 6) (lv2 := [(2, vi l2), (3, vi l3), (0, .ref 142), (1, .ref 152)]) (st2 := [vi 12, vi l2]) 2 (fun _ _ => rfl) ?_
  by_cases h1 : 12 ≤ l2
  · refine wr_if2t rfl rfl (by unfold i32; omega) (by unfold i32; omega) h1 ?_
    refine wr_end (fun _ _ => rfl) ?_
    exact ⟨hK, hX, hc, rfl⟩
  · refine wr_if2f rfl rfl (by unfold i32; omega) (by unfold i32; omega) h1 ?_
    refine wr_n (pc2 := 11) (lv2 := [(2, vi l2), (3, vi l3), (0, .ref 142), (1, .ref 152)]) (st2 := [.ref 152, vi l2]) 2 (fun _ _ => rfl) ?_
    refine wr_alen2 (n := 12) rfl rfl ?_
    show wr (d + 1) tb_M85 12 [(2, vi l2), (3, vi l3), (0, .ref 142), (1, .ref 152)] [vi 12, vi l2] s _
    by_cases h2 : 12 ≤ l2
    · refine wr_if2t rfl rfl (by unfold i32; omega) (by unfold i32; omega) h2 ?_
      refine wr_end (fun _ _ => rfl) ?_
      exact ⟨hK, hX, hc, rfl⟩
    · refine wr_if2f rfl rfl (by unfold i32; omega) (by unfold i32; omega) h2 ?_
      refine wr_n (pc2 := 17) (lv2 := [(2, vi l2), (3, vi l3), (0, .ref 142), (1, .ref 152)]) (st2 := [vi l2, .ref 152]) 2 (fun _ _ => rfl) ?_
      refine wr_ald (a := l2) (v := vi (s.1 152 l2.toNat)) rfl rfl rfl (by omega) (by omega) (by decide) rfl fun h3 => ?_
      have h3 : -2147483648 ≤ s.1 152 l2.toNat ∧ s.1 152 l2.toNat ≤ 2147483647 := h3
      show wr (d + 1) tb_M85 18 [(2, vi l2), (3, vi l3), (0, .ref 142), (1, .ref 152)] [vi (s.1 152 l2.toNat)] s _
      have hb4 : (-1) ≤ s.1 152 l2.toNat ∧ s.1 152 l2.toNat ≤ 1999 := kb_to rfl (hK.2 152 l2.toNat)
      refine wr_n (pc2 := 22) (lv2 := [(3, vi (s.1 152 l2.toNat)), (2, vi l2), (0, .ref 142), (1, .ref 152)]) (st2 := [vi ((-1)), vi l2, .ref 152]) 4 (fun _ _ => rfl) ?_
      refine wr_ast (a := l2) (z := (-1)) rfl (by decide) rfl rfl (by omega) (by omega) (by decide) rfl (show -2147483648 ≤ (-1) ∧ (-1) ≤ 2147483647 by omega) ?_
      show wr (d + 1) tb_M85 23 [(3, vi (s.1 152 l2.toNat)), (2, vi l2), (0, .ref 142), (1, .ref 152)] [] (up2 s.1 152 l2.toNat ((-1)), s.2) _
      have hK5 : KI (up2 s.1 152 l2.toNat ((-1))) := (KI_up hK (n0 rfl (by omega) (by omega)) (kb_of rfl (show (-1) ≤ (-1) ∧ (-1) ≤ 1999 by omega)))
      refine wr_n (pc2 := 25) (lv2 := [(3, vi (s.1 152 l2.toNat)), (2, vi l2), (0, .ref 142), (1, .ref 152)]) (st2 := [vi (s.1 152 l2.toNat), .ref 142]) 2 (fun _ _ => rfl) ?_
      refine wr_call1 (args := [vi (s.1 152 l2.toNat)]) (rest := []) rfl rfl rfl rfl (Nat.le_of_ble_eq_true rfl) (cr_mono (k_push (d := d + 0) (x := s.1 152 l2.toNat) (up2 s.1 152 l2.toNat ((-1)), s.2) hK5 (by omega)) ?_)
      rintro s6 out ⟨hK6, hY6, hc6, rfl⟩
      refine ⟨_, rfl, ?_⟩
      have hX6 : FX s0.1 s6.1 := FX_tr (FX_up hX (by unfold fx; omega)) hY6
      have hC6 : s6.2 = s0.2 := hc6.trans hc
      show wr (d + 1) tb_M85 28 [(3, vi (s.1 152 l2.toNat)), (2, vi l2), (0, .ref 142), (1, .ref 152)] [] s6 _
      refine wr_inc (a := l2) rfl rfl ?_
      show wr (d + 1) tb_M85 31 [(2, vi (l2 + 1)), (3, vi (s.1 152 l2.toNat)), (0, .ref 142), (1, .ref 152)] [] s6 _
      refine wr_n (pc2 := 3) (lv2 := [(2, vi (l2 + 1)), (3, vi (s.1 152 l2.toNat)), (0, .ref 142), (1, .ref 152)]) (st2 := []) 1 (fun _ _ => rfl) ?_
      exact ih _ (by omega) (l2 + 1) (s.1 152 l2.toNat) s6 rfl hK6 hX6 hC6 (by omega) (by omega)  
set_option maxHeartbeats 20000000 in
set_option maxRecDepth 100000 in
theorem k_wake152_3 {d : Nat} {s0 : rS}  : ∀ (w : Nat) (l2 : Int) (s : rS), (12 - l2).toNat = w → KI s.1 → FX s0.1 s.1 → s.2 = s0.2 → 0 ≤ l2 ∧ l2 ≤ 12 → wr (d + 1) tb_M85 3 [(2, vi l2), (0, .ref 142), (1, .ref 152)] [] s (KV s0) := by
  intro w
  induction w using Nat.strongRecOn with | ind w ih => ?_
  intro l2 s hw hK hX hc hl2
  refine wr_n (pc2 := 6) (lv2 := [(2, vi l2), (0, .ref 142), (1, .ref 152)]) (st2 := [vi 12, vi l2]) 2 (fun _ _ => rfl) ?_
  by_cases h1 : 12 ≤ l2
  · refine wr_if2t rfl rfl (by unfold i32; omega) (by unfold i32; omega) h1 ?_
    refine wr_end (fun _ _ => rfl) ?_
    exact ⟨hK, hX, hc, rfl⟩
  · refine wr_if2f rfl rfl (by unfold i32; omega) (by unfold i32; omega) h1 ?_
    refine wr_n (pc2 := 11) (lv2 := [(2, vi l2), (0, .ref 142), (1, .ref 152)]) (st2 := [.ref 152, vi l2]) 2 (fun _ _ => rfl) ?_
    refine wr_alen2 (n := 12) rfl rfl ?_
    show wr (d + 1) tb_M85 12 [(2, vi l2), (0, .ref 142), (1, .ref 152)] [vi 12, vi l2] s _
    by_cases h2 : 12 ≤ l2
    · refine wr_if2t rfl rfl (by unfold i32; omega) (by unfold i32; omega) h2 ?_
      refine wr_end (fun _ _ => rfl) ?_
      exact ⟨hK, hX, hc, rfl⟩
    · refine wr_if2f rfl rfl (by unfold i32; omega) (by unfold i32; omega) h2 ?_
      refine wr_n (pc2 := 17) (lv2 := [(2, vi l2), (0, .ref 142), (1, .ref 152)]) (st2 := [vi l2, .ref 152]) 2 (fun _ _ => rfl) ?_
      refine wr_ald (a := l2) (v := vi (s.1 152 l2.toNat)) rfl rfl rfl (by omega) (by omega) (by decide) rfl fun h3 => ?_
      have h3 : -2147483648 ≤ s.1 152 l2.toNat ∧ s.1 152 l2.toNat ≤ 2147483647 := h3
      show wr (d + 1) tb_M85 18 [(2, vi l2), (0, .ref 142), (1, .ref 152)] [vi (s.1 152 l2.toNat)] s _
      have hb4 : (-1) ≤ s.1 152 l2.toNat ∧ s.1 152 l2.toNat ≤ 1999 := kb_to rfl (hK.2 152 l2.toNat)
      refine wr_n (pc2 := 22) (lv2 := [(3, vi (s.1 152 l2.toNat)), (2, vi l2), (0, .ref 142), (1, .ref 152)]) (st2 := [vi ((-1)), vi l2, .ref 152]) 4 (fun _ _ => rfl) ?_
      refine wr_ast (a := l2) (z := (-1)) rfl (by decide) rfl rfl (by omega) (by omega) (by decide) rfl (show -2147483648 ≤ (-1) ∧ (-1) ≤ 2147483647 by omega) ?_
      show wr (d + 1) tb_M85 23 [(3, vi (s.1 152 l2.toNat)), (2, vi l2), (0, .ref 142), (1, .ref 152)] [] (up2 s.1 152 l2.toNat ((-1)), s.2) _
      have hK5 : KI (up2 s.1 152 l2.toNat ((-1))) := (KI_up hK (n0 rfl (by omega) (by omega)) (kb_of rfl (show (-1) ≤ (-1) ∧ (-1) ≤ 1999 by omega)))
      refine wr_n (pc2 := 25) (lv2 := [(3, vi (s.1 152 l2.toNat)), (2, vi l2), (0, .ref 142), (1, .ref 152)]) (st2 := [vi (s.1 152 l2.toNat), .ref 142]) 2 (fun _ _ => rfl) ?_
      refine wr_call1 (args := [vi (s.1 152 l2.toNat)]) (rest := []) rfl rfl rfl rfl (Nat.le_of_ble_eq_true rfl) (cr_mono (k_push (d := d + 0) (x := s.1 152 l2.toNat) (up2 s.1 152 l2.toNat ((-1)), s.2) hK5 (by omega)) ?_)
      rintro s6 out ⟨hK6, hY6, hc6, rfl⟩
      refine ⟨_, rfl, ?_⟩
      have hX6 : FX s0.1 s6.1 := FX_tr (FX_up hX (by unfold fx; omega)) hY6
      have hC6 : s6.2 = s0.2 := hc6.trans hc
      show wr (d + 1) tb_M85 28 [(3, vi (s.1 152 l2.toNat)), (2, vi l2), (0, .ref 142), (1, .ref 152)] [] s6 _
      refine wr_inc (a := l2) rfl rfl ?_
      show wr (d + 1) tb_M85 31 [(2, vi (l2 + 1)), (3, vi (s.1 152 l2.toNat)), (0, .ref 142), (1, .ref 152)] [] s6 _
      refine wr_n (pc2 := 3) (lv2 := [(2, vi (l2 + 1)), (3, vi (s.1 152 l2.toNat)), (0, .ref 142), (1, .ref 152)]) (st2 := []) 1 (fun _ _ => rfl) ?_
      exact k_wake152_3v2  _ (l2 + 1) (s.1 152 l2.toNat) s6 rfl hK6 hX6 hC6 (by omega) (by omega)  
set_option maxHeartbeats 20000000 in
set_option maxRecDepth 100000 in
theorem k_wake152 {d : Nat}  (s : rS) (hK : KI s.1)   : cr (d + 2) 85 [.ref 142, .ref 152] s (KV s) := by
  refine cr_of (M := tb_M85) rfl (Nat.le_of_ble_eq_true rfl) ?_
  show wr (d + 1) tb_M85 0 [(0, .ref 142), (1, .ref 152)] [] s _
  refine wr_n (pc2 := 3) (lv2 := [(2, vi 8), (0, .ref 142), (1, .ref 152)]) (st2 := []) 2 (fun _ _ => rfl) ?_
  exact k_wake152_3  _ 8 s rfl hK FX_rf rfl (by omega)  
set_option maxHeartbeats 20000000 in
set_option maxRecDepth 100000 in
theorem k_wake153_3v4 {d : Nat} {s0 : rS}  : ∀ (w : Nat) (l2 : Int) (l3 : Int) (s : rS), (12 - l2).toNat = w → KI s.1 → FX s0.1 s.1 → s.2 = s0.2 → 0 ≤ l2 ∧ l2 ≤ 12 → (-2147483648) ≤ l3 ∧ l3 ≤ 2147483647 → wr (d + 1) tb_M85 3 [(2, vi l2), (3, vi l3), (0, .ref 142), (1, .ref 153)] [] s (KV s0) := by
  intro w
  induction w using Nat.strongRecOn with | ind w ih => ?_
  intro l2 l3 s hw hK hX hc hl2 hl3
  refine wr_n (pc2 := 6) (lv2 := [(2, vi l2), (3, vi l3), (0, .ref 142), (1, .ref 153)]) (st2 := [vi 12, vi l2]) 2 (fun _ _ => rfl) ?_
  by_cases h1 : 12 ≤ l2
  · refine wr_if2t rfl rfl (by unfold i32; omega) (by unfold i32; omega) h1 ?_
    refine wr_end (fun _ _ => rfl) ?_
    exact ⟨hK, hX, hc, rfl⟩
  · refine wr_if2f rfl rfl (by unfold i32; omega) (by unfold i32; omega) h1 ?_
    refine wr_n (pc2 := 11) (lv2 := [(2, vi l2), (3, vi l3), (0, .ref 142), (1, .ref 153)]) (st2 := [.ref 153, vi l2]) 2 (fun _ _ => rfl) ?_
    refine wr_alen2 (n := 12) rfl rfl ?_
    show wr (d + 1) tb_M85 12 [(2, vi l2), (3, vi l3), (0, .ref 142), (1, .ref 153)] [vi 12, vi l2] s _
    by_cases h2 : 12 ≤ l2
    · refine wr_if2t rfl rfl (by unfold i32; omega) (by unfold i32; omega) h2 ?_
      refine wr_end (fun _ _ => rfl) ?_
      exact ⟨hK, hX, hc, rfl⟩
    · refine wr_if2f rfl rfl (by unfold i32; omega) (by unfold i32; omega) h2 ?_
      refine wr_n (pc2 := 17) (lv2 := [(2, vi l2), (3, vi l3), (0, .ref 142), (1, .ref 153)]) (st2 := [vi l2, .ref 153]) 2 (fun _ _ => rfl) ?_
      refine wr_ald (a := l2) (v := vi (s.1 153 l2.toNat)) rfl rfl rfl (by omega) (by omega) (by decide) rfl fun h3 => ?_
      have h3 : -2147483648 ≤ s.1 153 l2.toNat ∧ s.1 153 l2.toNat ≤ 2147483647 := h3
      show wr (d + 1) tb_M85 18 [(2, vi l2), (3, vi l3), (0, .ref 142), (1, .ref 153)] [vi (s.1 153 l2.toNat)] s _
      have hb4 : (-1) ≤ s.1 153 l2.toNat ∧ s.1 153 l2.toNat ≤ 1999 := kb_to rfl (hK.2 153 l2.toNat)
      refine wr_n (pc2 := 22) (lv2 := [(3, vi (s.1 153 l2.toNat)), (2, vi l2), (0, .ref 142), (1, .ref 153)]) (st2 := [vi ((-1)), vi l2, .ref 153]) 4 (fun _ _ => rfl) ?_
      refine wr_ast (a := l2) (z := (-1)) rfl (by decide) rfl rfl (by omega) (by omega) (by decide) rfl (show -2147483648 ≤ (-1) ∧ (-1) ≤ 2147483647 by omega) ?_
      show wr (d + 1) tb_M85 23 [(3, vi (s.1 153 l2.toNat)), (2, vi l2), (0, .ref 142), (1, .ref 153)] [] (up2 s.1 153 l2.toNat ((-1)), s.2) _
      have hK5 : KI (up2 s.1 153 l2.toNat ((-1))) := (KI_up hK (n0 rfl (by omega) (by omega)) (kb_of rfl (show (-1) ≤ (-1) ∧ (-1) ≤ 1999 by omega)))
      refine wr_n (pc2 := 25) (lv2 := [(3, vi (s.1 153 l2.toNat)), (2, vi l2), (0, .ref 142), (1, .ref 153)]) (st2 := [vi (s.1 153 l2.toNat), .ref 142]) 2 (fun _ _ => rfl) ?_
      refine wr_call1 (args := [vi (s.1 153 l2.toNat)]) (rest := []) rfl rfl rfl rfl (Nat.le_of_ble_eq_true rfl) (cr_mono (k_push (d := d + 0) (x := s.1 153 l2.toNat) (up2 s.1 153 l2.toNat ((-1)), s.2) hK5 (by omega)) ?_)
      rintro s6 out ⟨hK6, hY6, hc6, rfl⟩
      refine ⟨_, rfl, ?_⟩
      have hX6 : FX s0.1 s6.1 := FX_tr (FX_up hX (by unfold fx; omega)) hY6
      have hC6 : s6.2 = s0.2 := hc6.trans hc
      show wr (d + 1) tb_M85 28 [(3, vi (s.1 153 l2.toNat)), (2, vi l2), (0, .ref 142), (1, .ref 153)] [] s6 _
      refine wr_inc (a := l2) rfl rfl ?_
      show wr (d + 1) tb_M85 31 [(2, vi (l2 + 1)), (3, vi (s.1 153 l2.toNat)), (0, .ref 142), (1, .ref 153)] [] s6 _
      refine wr_n (pc2 := 3) (lv2 := [(2, vi (l2 + 1)), (3, vi (s.1 153 l2.toNat)), (0, .ref 142), (1, .ref 153)]) (st2 := []) 1 (fun _ _ => rfl) ?_
      exact ih _ (by omega) (l2 + 1) (s.1 153 l2.toNat) s6 rfl hK6 hX6 hC6 (by omega) (by omega)  
set_option maxHeartbeats 20000000 in
set_option maxRecDepth 100000 in
theorem k_wake153_3v3 {d : Nat} {s0 : rS}  : ∀ (w : Nat) (l2 : Int) (s : rS), (12 - l2).toNat = w → KI s.1 → FX s0.1 s.1 → s.2 = s0.2 → 0 ≤ l2 ∧ l2 ≤ 12 → wr (d + 1) tb_M85 3 [(2, vi l2), (0, .ref 142), (1, .ref 153)] [] s (KV s0) := by
  intro w
  induction w using Nat.strongRecOn with | ind w ih => ?_
  intro l2 s hw hK hX hc hl2
  refine wr_n (pc2 := 6) (lv2 := [(2, vi l2), (0, .ref 142), (1, .ref 153)]) (st2 := [vi 12, vi l2]) 2 (fun _ _ => rfl) ?_
  by_cases h1 : 12 ≤ l2
  · refine wr_if2t rfl rfl (by unfold i32; omega) (by unfold i32; omega) h1 ?_
    refine wr_end (fun _ _ => rfl) ?_
    exact ⟨hK, hX, hc, rfl⟩
  · refine wr_if2f rfl rfl (by unfold i32; omega) (by unfold i32; omega) h1 ?_
    refine wr_n (pc2 := 11) (lv2 := [(2, vi l2), (0, .ref 142), (1, .ref 153)]) (st2 := [.ref 153, vi l2]) 2 (fun _ _ => rfl) ?_
    refine wr_alen2 (n := 12) rfl rfl ?_
    show wr (d + 1) tb_M85 12 [(2, vi l2), (0, .ref 142), (1, .ref 153)] [vi 12, vi l2] s _
    by_cases h2 : 12 ≤ l2
    · refine wr_if2t rfl rfl (by unfold i32; omega) (by unfold i32; omega) h2 ?_
      refine wr_end (fun _ _ => rfl) ?_
      exact ⟨hK, hX, hc, rfl⟩
    · refine wr_if2f rfl rfl (by unfold i32; omega) (by unfold i32; omega) h2 ?_
      refine wr_n (pc2 := 17) (lv2 := [(2, vi l2), (0, .ref 142), (1, .ref 153)]) (st2 := [vi l2, .ref 153]) 2 (fun _ _ => rfl) ?_
      refine wr_ald (a := l2) (v := vi (s.1 153 l2.toNat)) rfl rfl rfl (by omega) (by omega) (by decide) rfl fun h3 => ?_
      have h3 : -2147483648 ≤ s.1 153 l2.toNat ∧ s.1 153 l2.toNat ≤ 2147483647 := h3
      show wr (d + 1) tb_M85 18 [(2, vi l2), (0, .ref 142), (1, .ref 153)] [vi (s.1 153 l2.toNat)] s _
      have hb4 : (-1) ≤ s.1 153 l2.toNat ∧ s.1 153 l2.toNat ≤ 1999 := kb_to rfl (hK.2 153 l2.toNat)
      refine wr_n (pc2 := 22) (lv2 := [(3, vi (s.1 153 l2.toNat)), (2, vi l2), (0, .ref 142), (1, .ref 153)]) (st2 := [vi ((-1)), vi l2, .ref 153]) 4 (fun _ _ => rfl) ?_
      refine wr_ast (a := l2) (z := (-1)) rfl (by decide) rfl rfl (by omega) (by omega) (by decide) rfl (show -2147483648 ≤ (-1) ∧ (-1) ≤ 2147483647 by omega) ?_
      show wr (d + 1) tb_M85 23 [(3, vi (s.1 153 l2.toNat)), (2, vi l2), (0, .ref 142), (1, .ref 153)] [] (up2 s.1 153 l2.toNat ((-1)), s.2) _
      have hK5 : KI (up2 s.1 153 l2.toNat ((-1))) := (KI_up hK (n0 rfl (by omega) (by omega)) (kb_of rfl (show (-1) ≤ (-1) ∧ (-1) ≤ 1999 by omega)))
      refine wr_n (pc2 := 25) (lv2 := [(3, vi (s.1 153 l2.toNat)), (2, vi l2), (0, .ref 142), (1, .ref 153)]) (st2 := [vi (s.1 153 l2.toNat), .ref 142]) 2 (fun _ _ => rfl) ?_
      refine wr_call1 (args := [vi (s.1 153 l2.toNat)]) (rest := []) rfl rfl rfl rfl (Nat.le_of_ble_eq_true rfl) (cr_mono (k_push (d := d + 0) (x := s.1 153 l2.toNat) (up2 s.1 153 l2.toNat ((-1)), s.2) hK5 (by omega)) ?_)
      rintro s6 out ⟨hK6, hY6, hc6, rfl⟩
      refine ⟨_, rfl, ?_⟩
      have hX6 : FX s0.1 s6.1 := FX_tr (FX_up hX (by unfold fx; omega)) hY6
      have hC6 : s6.2 = s0.2 := hc6.trans hc
      show wr (d + 1) tb_M85 28 [(3, vi (s.1 153 l2.toNat)), (2, vi l2), (0, .ref 142), (1, .ref 153)] [] s6 _
      refine wr_inc (a := l2) rfl rfl ?_
      show wr (d + 1) tb_M85 31 [(2, vi (l2 + 1)), (3, vi (s.1 153 l2.toNat)), (0, .ref 142), (1, .ref 153)] [] s6 _
      refine wr_n (pc2 := 3) (lv2 := [(2, vi (l2 + 1)), (3, vi (s.1 153 l2.toNat)), (0, .ref 142), (1, .ref 153)]) (st2 := []) 1 (fun _ _ => rfl) ?_
      exact k_wake153_3v4  _ (l2 + 1) (s.1 153 l2.toNat) s6 rfl hK6 hX6 hC6 (by omega) (by omega)  
set_option maxHeartbeats 20000000 in
set_option maxRecDepth 100000 in
theorem k_wake153 {d : Nat}  (s : rS) (hK : KI s.1)   : cr (d + 2) 85 [.ref 142, .ref 153] s (KV s) := by
  refine cr_of (M := tb_M85) rfl (Nat.le_of_ble_eq_true rfl) ?_
  show wr (d + 1) tb_M85 0 [(0, .ref 142), (1, .ref 153)] [] s _
  refine wr_n (pc2 := 3) (lv2 := [(2, vi 8), (0, .ref 142), (1, .ref 153)]) (st2 := []) 2 (fun _ _ => rfl) ?_
  exact k_wake153_3v3  _ 8 s rfl hK FX_rf rfl (by omega)  
set_option maxHeartbeats 20000000 in
set_option maxRecDepth 100000 in
theorem k_goOn_134 {d : Nat} {s0 : rS} {C : Nat} (hC : C = 99 ∨ C = 115)  (l2 : Int) (l1 : Int) (s : rS) (hK : KI s.1) (hq : s.1 142 0 = (C : Int)) (hX : FX s0.1 s.1) (hc : s.2 = s0.2) (hl2 : (-2147483648) ≤ l2 ∧ l2 ≤ 2147483647) (hl1 : (-2147483648) ≤ l1 ∧ l1 ≤ 2147483647)   : wr (d + 6) tb_M82 134 [(2, vi l2), (0, .ref 142), (1, vi l1)] [] s (KV s0) := by
  refine wr_n (pc2 := 136) (lv2 := [(2, vi l2), (0, .ref 142), (1, vi l1)]) (st2 := [.ref 142, .ref 142]) 2 (fun _ _ => rfl) ?_
  refine wr_get (v := vi (s.1 142 13)) rfl rfl rfl (by decide) rfl fun h1 => ?_
  have h1 : 0 ≤ s.1 142 13 ∧ s.1 142 13 ≤ 1 := h1
  show wr (d + 6) tb_M82 139 [(2, vi l2), (0, .ref 142), (1, vi l1)] [vi (s.1 142 13), .ref 142] s _
  by_cases h2 : s.1 142 13 = 0
  · refine wr_if1t rfl rfl (by unfold i32; omega) h2 ?_
    refine wr_n (pc2 := 147) (lv2 := [(2, vi l2), (0, .ref 142), (1, vi l1)]) (st2 := [vi 2, .ref 142]) 1 (fun _ _ => rfl) ?_
    refine wr_put (z := 2) rfl rfl rfl rfl (by decide) rfl (by decide) rfl (show -2147483648 ≤ 2 ∧ 2 ≤ 2147483647 by omega) (hf_int' _) ?_
    show wr (d + 6) tb_M82 150 [(2, vi l2), (0, .ref 142), (1, vi l1)] [] (up2 s.1 142 14 2, s.2) _
    have hK3 : KI (up2 s.1 142 14 2) := (KI_up hK rfl (kb_no rfl))
    refine wr_end (fun _ _ => rfl) ?_
    exact ⟨hK3, (FX_up hX (by unfold fx; omega)), hc, rfl⟩
  · refine wr_if1f rfl rfl (by unfold i32; omega) h2 ?_
    refine wr_n (pc2 := 147) (lv2 := [(2, vi l2), (0, .ref 142), (1, vi l1)]) (st2 := [vi 1, .ref 142]) 2 (fun _ _ => rfl) ?_
    refine wr_put (z := 1) rfl rfl rfl rfl (by decide) rfl (by decide) rfl (show -2147483648 ≤ 1 ∧ 1 ≤ 2147483647 by omega) (hf_int' _) ?_
    show wr (d + 6) tb_M82 150 [(2, vi l2), (0, .ref 142), (1, vi l1)] [] (up2 s.1 142 14 1, s.2) _
    have hK4 : KI (up2 s.1 142 14 1) := (KI_up hK rfl (kb_no rfl))
    refine wr_end (fun _ _ => rfl) ?_
    exact ⟨hK4, (FX_up hX (by unfold fx; omega)), hc, rfl⟩
set_option maxHeartbeats 20000000 in
set_option maxRecDepth 100000 in
theorem k_goOn_134v2 {d : Nat} {s0 : rS} {C : Nat} (hC : C = 99 ∨ C = 115)  (l2 : Int) (l3 : Int) (l1 : Int) (s : rS) (hK : KI s.1) (hq : s.1 142 0 = (C : Int)) (hX : FX s0.1 s.1) (hc : s.2 = s0.2) (hl2 : (-2147483648) ≤ l2 ∧ l2 ≤ 2147483647) (hl3 : (-2147483648) ≤ l3 ∧ l3 ≤ 2147483647) (hl1 : (-2147483648) ≤ l1 ∧ l1 ≤ 2147483647)   : wr (d + 6) tb_M82 134 [(2, vi l2), (3, vi l3), (0, .ref 142), (1, vi l1)] [] s (KV s0) := by
  refine wr_n (pc2 := 136) (lv2 := [(2, vi l2), (3, vi l3), (0, .ref 142), (1, vi l1)]) (st2 := [.ref 142, .ref 142]) 2 (fun _ _ => rfl) ?_
  refine wr_get (v := vi (s.1 142 13)) rfl rfl rfl (by decide) rfl fun h1 => ?_
  have h1 : 0 ≤ s.1 142 13 ∧ s.1 142 13 ≤ 1 := h1
  show wr (d + 6) tb_M82 139 [(2, vi l2), (3, vi l3), (0, .ref 142), (1, vi l1)] [vi (s.1 142 13), .ref 142] s _
  by_cases h2 : s.1 142 13 = 0
  · refine wr_if1t rfl rfl (by unfold i32; omega) h2 ?_
    refine wr_n (pc2 := 147) (lv2 := [(2, vi l2), (3, vi l3), (0, .ref 142), (1, vi l1)]) (st2 := [vi 2, .ref 142]) 1 (fun _ _ => rfl) ?_
    refine wr_put (z := 2) rfl rfl rfl rfl (by decide) rfl (by decide) rfl (show -2147483648 ≤ 2 ∧ 2 ≤ 2147483647 by omega) (hf_int' _) ?_
    show wr (d + 6) tb_M82 150 [(2, vi l2), (3, vi l3), (0, .ref 142), (1, vi l1)] [] (up2 s.1 142 14 2, s.2) _
    have hK3 : KI (up2 s.1 142 14 2) := (KI_up hK rfl (kb_no rfl))
    refine wr_end (fun _ _ => rfl) ?_
    exact ⟨hK3, (FX_up hX (by unfold fx; omega)), hc, rfl⟩
  · refine wr_if1f rfl rfl (by unfold i32; omega) h2 ?_
    refine wr_n (pc2 := 147) (lv2 := [(2, vi l2), (3, vi l3), (0, .ref 142), (1, vi l1)]) (st2 := [vi 1, .ref 142]) 2 (fun _ _ => rfl) ?_
    refine wr_put (z := 1) rfl rfl rfl rfl (by decide) rfl (by decide) rfl (show -2147483648 ≤ 1 ∧ 1 ≤ 2147483647 by omega) (hf_int' _) ?_
    show wr (d + 6) tb_M82 150 [(2, vi l2), (3, vi l3), (0, .ref 142), (1, vi l1)] [] (up2 s.1 142 14 1, s.2) _
    have hK4 : KI (up2 s.1 142 14 1) := (KI_up hK rfl (kb_no rfl))
    refine wr_end (fun _ _ => rfl) ?_
    exact ⟨hK4, (FX_up hX (by unfold fx; omega)), hc, rfl⟩
set_option maxHeartbeats 20000000 in
set_option maxRecDepth 100000 in
theorem k_goOn_45v2 {d : Nat} {s0 : rS} {C : Nat} (hC : C = 99 ∨ C = 115)  : ∀ (w : Nat) (l2 : Int) (l3 : Int) (l1 : Int) (s : rS), (1000000 - l2).toNat = w → KI s.1 → s.1 142 0 = (C : Int) → FX s0.1 s.1 → s.2 = s0.2 → 0 ≤ l2 ∧ l2 ≤ 1000000 → (-2147483648) ≤ l3 ∧ l3 ≤ 2147483647 → (-2147483648) ≤ l1 ∧ l1 ≤ 2147483647 → wr (d + 6) tb_M82 45 [(2, vi l2), (3, vi l3), (0, .ref 142), (1, vi l1)] [] s (KV s0) := by
  intro w
  induction w using Nat.strongRecOn with | ind w ih => ?_
  intro l2 l3 l1 s hw hK hq hX hc hl2 hl3 hl1
  refine wr_n (pc2 := 48) (lv2 := [(2, vi l2), (3, vi l3), (0, .ref 142), (1, vi l1)]) (st2 := [vi 1000000, vi l2]) 2 (fun _ _ => rfl) ?_
  by_cases h1 : 1000000 ≤ l2
  · refine wr_if2t rfl rfl (by unfold i32; omega) (by unfold i32; omega) h1 ?_
    exact k_goOn_134v2 hC l2 l3 l1 s hK hq hX hc (by omega) (by omega) (by omega)  
  · refine wr_if2f rfl rfl (by unfold i32; omega) (by unfold i32; omega) h1 ?_
    refine wr_n (pc2 := 52) (lv2 := [(2, vi l2), (3, vi l3), (0, .ref 142), (1, vi l1)]) (st2 := [.ref 142]) 1 (fun _ _ => rfl) ?_
    refine wr_get (v := vi (s.1 142 6)) rfl rfl rfl (by decide) rfl fun h2 => ?_
    have h2 : -2147483648 ≤ s.1 142 6 ∧ s.1 142 6 ≤ 2147483647 := h2
    show wr (d + 6) tb_M82 55 [(2, vi l2), (3, vi l3), (0, .ref 142), (1, vi l1)] [vi (s.1 142 6)] s _
    have hb3 : 0 ≤ s.1 142 6 ∧ s.1 142 6 ≤ 2000 := kb_to rfl (hK.2 142 6)
    by_cases h4 : s.1 142 6 ≤ 0
    · refine wr_if1t rfl rfl (by unfold i32; omega) h4 ?_
      exact k_goOn_134v2 hC l2 l3 l1 s hK hq hX hc (by omega) (by omega) (by omega)  
    · refine wr_if1f rfl rfl (by unfold i32; omega) h4 ?_
      refine wr_n (pc2 := 60) (lv2 := [(2, vi l2), (3, vi l3), (0, .ref 142), (1, vi l1)]) (st2 := [.ref 142, .ref 142]) 2 (fun _ _ => rfl) ?_
      refine wr_get (v := vi (s.1 142 6)) rfl rfl rfl (by decide) rfl fun h5 => ?_
      have h5 : -2147483648 ≤ s.1 142 6 ∧ s.1 142 6 ≤ 2147483647 := h5
      show wr (d + 6) tb_M82 63 [(2, vi l2), (3, vi l3), (0, .ref 142), (1, vi l1)] [vi (s.1 142 6), .ref 142] s _
      have hb6 : 0 ≤ s.1 142 6 ∧ s.1 142 6 ≤ 2000 := kb_to rfl (hK.2 142 6)
      refine wr_n (pc2 := 64) (lv2 := [(2, vi l2), (3, vi l3), (0, .ref 142), (1, vi l1)]) (st2 := [vi 1, vi (s.1 142 6), .ref 142]) 1 (fun _ _ => rfl) ?_
      refine wr_sub (a := s.1 142 6) (b := 1) rfl ?_
      show wr (d + 6) tb_M82 65 [(2, vi l2), (3, vi l3), (0, .ref 142), (1, vi l1)] [vi ((s.1 142 6) - 1), .ref 142] s _
      refine wr_put (z := (s.1 142 6) - 1) rfl rfl rfl rfl (by decide) rfl (by decide) rfl (show -2147483648 ≤ (s.1 142 6) - 1 ∧ (s.1 142 6) - 1 ≤ 2147483647 by omega) (hf_int' _) ?_
      show wr (d + 6) tb_M82 68 [(2, vi l2), (3, vi l3), (0, .ref 142), (1, vi l1)] [] (up2 s.1 142 6 ((s.1 142 6) - 1), s.2) _
      have hK7 : KI (up2 s.1 142 6 ((s.1 142 6) - 1)) := (KI_up hK rfl (kb_of rfl (show 0 ≤ (s.1 142 6) - 1 ∧ (s.1 142 6) - 1 ≤ 2000 by omega)))
      refine wr_n (pc2 := 69) (lv2 := [(2, vi l2), (3, vi l3), (0, .ref 142), (1, vi l1)]) (st2 := [.ref 142]) 1 (fun _ _ => rfl) ?_
      refine wr_get (v := .ref 147) rfl rfl rfl (by decide) (rv_ref (hK7.1 142 5 147 rfl)) fun h8 => ?_
      show wr (d + 6) tb_M82 72 [(2, vi l2), (3, vi l3), (0, .ref 142), (1, vi l1)] [.ref 147] (up2 s.1 142 6 ((s.1 142 6) - 1), s.2) _
      refine wr_n (pc2 := 73) (lv2 := [(2, vi l2), (3, vi l3), (0, .ref 142), (1, vi l1)]) (st2 := [.ref 142, .ref 147]) 1 (fun _ _ => rfl) ?_
      refine wr_get (v := vi ((s.1 142 6) - 1)) rfl rfl rfl (by decide) rfl fun h9 => ?_
      have h9 : -2147483648 ≤ (s.1 142 6) - 1 ∧ (s.1 142 6) - 1 ≤ 2147483647 := h9
      show wr (d + 6) tb_M82 76 [(2, vi l2), (3, vi l3), (0, .ref 142), (1, vi l1)] [vi ((s.1 142 6) - 1), .ref 147] (up2 s.1 142 6 ((s.1 142 6) - 1), s.2) _
      refine wr_ald (a := (s.1 142 6) - 1) (v := vi (s.1 147 (((s.1 142 6) - 1).toNat))) rfl rfl rfl (by omega) (by omega) (by decide) rfl fun h10 => ?_
      have h10 : -2147483648 ≤ s.1 147 (((s.1 142 6) - 1).toNat) ∧ s.1 147 (((s.1 142 6) - 1).toNat) ≤ 2147483647 := h10
      show wr (d + 6) tb_M82 77 [(2, vi l2), (3, vi l3), (0, .ref 142), (1, vi l1)] [vi (s.1 147 (((s.1 142 6) - 1).toNat))] (up2 s.1 142 6 ((s.1 142 6) - 1), s.2) _
      have hb11 : 0 ≤ s.1 147 (((s.1 142 6) - 1).toNat) ∧ s.1 147 (((s.1 142 6) - 1).toNat) ≤ 1999 := kb_to rfl (hK.2 147 (((s.1 142 6) - 1).toNat))
      refine wr_n (pc2 := 79) (lv2 := [(3, vi (s.1 147 (((s.1 142 6) - 1).toNat))), (2, vi l2), (0, .ref 142), (1, vi l1)]) (st2 := [.ref 142]) 2 (fun _ _ => rfl) ?_
      refine wr_get (v := .ref 144) rfl rfl rfl (by decide) (rv_ref (hK7.1 142 2 144 rfl)) fun h12 => ?_
      show wr (d + 6) tb_M82 82 [(3, vi (s.1 147 (((s.1 142 6) - 1).toNat))), (2, vi l2), (0, .ref 142), (1, vi l1)] [.ref 144] (up2 s.1 142 6 ((s.1 142 6) - 1), s.2) _
      refine wr_n (pc2 := 83) (lv2 := [(3, vi (s.1 147 (((s.1 142 6) - 1).toNat))), (2, vi l2), (0, .ref 142), (1, vi l1)]) (st2 := [vi (s.1 147 (((s.1 142 6) - 1).toNat)), .ref 144]) 1 (fun _ _ => rfl) ?_
      refine wr_ald (a := s.1 147 (((s.1 142 6) - 1).toNat)) (v := vi (s.1 144 ((s.1 147 (((s.1 142 6) - 1).toNat)).toNat))) rfl rfl rfl (by omega) (by omega) (by decide) rfl fun h13 => ?_
      have h13 : -2147483648 ≤ s.1 144 ((s.1 147 (((s.1 142 6) - 1).toNat)).toNat) ∧ s.1 144 ((s.1 147 (((s.1 142 6) - 1).toNat)).toNat) ≤ 2147483647 := h13
      show wr (d + 6) tb_M82 84 [(3, vi (s.1 147 (((s.1 142 6) - 1).toNat))), (2, vi l2), (0, .ref 142), (1, vi l1)] [vi (s.1 144 ((s.1 147 (((s.1 142 6) - 1).toNat)).toNat))] (up2 s.1 142 6 ((s.1 142 6) - 1), s.2) _
      by_cases h14 : 0 ≤ s.1 144 ((s.1 147 (((s.1 142 6) - 1).toNat)).toNat)
      · refine wr_if1t rfl rfl (by unfold i32; omega) h14 ?_
        refine wr_n (pc2 := 125) (lv2 := [(3, vi (s.1 147 (((s.1 142 6) - 1).toNat))), (2, vi l2), (0, .ref 142), (1, vi l1)]) (st2 := [vi (s.1 147 (((s.1 142 6) - 1).toNat)), .ref 142]) 2 (fun _ _ => rfl) ?_
        refine wr_call1 (args := [vi (s.1 147 (((s.1 142 6) - 1).toNat))]) (rest := []) rfl rfl rfl rfl (Nat.le_of_ble_eq_true rfl) (cr_mono (k_turnTo (d := d + 0) (C := C) hC (x := s.1 147 (((s.1 142 6) - 1).toNat)) (up2 s.1 142 6 ((s.1 142 6) - 1), s.2) hK7 (show (up2 s.1 142 6 ((s.1 142 6) - 1)) 142 0 = ((C : Nat) : Int) from ((if_neg (by omega)).trans hq)) (by omega)) ?_)
        rintro s15 out ⟨hK15, hY15, hc15, rfl⟩
        refine ⟨_, rfl, ?_⟩
        have hX15 : FX s0.1 s15.1 := FX_tr (FX_up hX (by unfold fx; omega)) hY15
        have hC15 : s15.2 = s0.2 := hc15.trans hc
        have hq15 : s15.1 142 0 = (C : Int) := (hY15 142 0 (by unfold fx; omega)).trans (show (up2 s.1 142 6 ((s.1 142 6) - 1)) 142 0 = ((C : Nat) : Int) from ((if_neg (by omega)).trans hq))
        show wr (d + 6) tb_M82 128 [(3, vi (s.1 147 (((s.1 142 6) - 1).toNat))), (2, vi l2), (0, .ref 142), (1, vi l1)] [] s15 _
        refine wr_inc (a := l2) rfl rfl ?_
        show wr (d + 6) tb_M82 131 [(2, vi (l2 + 1)), (3, vi (s.1 147 (((s.1 142 6) - 1).toNat))), (0, .ref 142), (1, vi l1)] [] s15 _
        refine wr_n (pc2 := 45) (lv2 := [(2, vi (l2 + 1)), (3, vi (s.1 147 (((s.1 142 6) - 1).toNat))), (0, .ref 142), (1, vi l1)]) (st2 := []) 1 (fun _ _ => rfl) ?_
        exact ih _ (by omega) (l2 + 1) (s.1 147 (((s.1 142 6) - 1).toNat)) l1 s15 rfl hK15 hq15 hX15 hC15 (by omega) (by omega) (by omega)  
      · refine wr_if1f rfl rfl (by unfold i32; omega) h14 ?_
        refine wr_n (pc2 := 88) (lv2 := [(3, vi (s.1 147 (((s.1 142 6) - 1).toNat))), (2, vi l2), (0, .ref 142), (1, vi l1)]) (st2 := [.ref 142]) 1 (fun _ _ => rfl) ?_
        refine wr_get (v := vi (s.1 142 15)) rfl rfl rfl (by decide) rfl fun h16 => ?_
        have h16 : -2147483648 ≤ s.1 142 15 ∧ s.1 142 15 ≤ 2147483647 := h16
        show wr (d + 6) tb_M82 91 [(3, vi (s.1 147 (((s.1 142 6) - 1).toNat))), (2, vi l2), (0, .ref 142), (1, vi l1)] [vi (s.1 142 15)] (up2 s.1 142 6 ((s.1 142 6) - 1), s.2) _
        refine wr_n (pc2 := 92) (lv2 := [(3, vi (s.1 147 (((s.1 142 6) - 1).toNat))), (2, vi l2), (0, .ref 142), (1, vi l1)]) (st2 := [vi l1, vi (s.1 142 15)]) 1 (fun _ _ => rfl) ?_
        by_cases h17 : s.1 142 15 ≠ l1
        · refine wr_if2t rfl rfl (by unfold i32; omega) (by unfold i32; omega) h17 ?_
          refine wr_n (pc2 := 108) (lv2 := [(3, vi (s.1 147 (((s.1 142 6) - 1).toNat))), (2, vi l2), (0, .ref 142), (1, vi l1)]) (st2 := [.ref 142, .ref 142]) 2 (fun _ _ => rfl) ?_
          refine wr_get (v := vi (s.1 142 15)) rfl rfl rfl (by decide) rfl fun h18 => ?_
          have h18 : -2147483648 ≤ s.1 142 15 ∧ s.1 142 15 ≤ 2147483647 := h18
          show wr (d + 6) tb_M82 111 [(3, vi (s.1 147 (((s.1 142 6) - 1).toNat))), (2, vi l2), (0, .ref 142), (1, vi l1)] [vi (s.1 142 15), .ref 142] (up2 s.1 142 6 ((s.1 142 6) - 1), s.2) _
          refine wr_n (pc2 := 112) (lv2 := [(3, vi (s.1 147 (((s.1 142 6) - 1).toNat))), (2, vi l2), (0, .ref 142), (1, vi l1)]) (st2 := [vi 1, vi (s.1 142 15), .ref 142]) 1 (fun _ _ => rfl) ?_
          refine wr_any2 rfl rfl fun z19 h20 => ?_
          unfold i32 at h20
          show wr (d + 6) tb_M82 113 [(3, vi (s.1 147 (((s.1 142 6) - 1).toNat))), (2, vi l2), (0, .ref 142), (1, vi l1)] [vi z19, .ref 142] (up2 s.1 142 6 ((s.1 142 6) - 1), s.2) _
          refine wr_put (z := z19) rfl rfl rfl rfl (by decide) rfl (by decide) rfl (show -2147483648 ≤ z19 ∧ z19 ≤ 2147483647 by omega) (hf_int' _) ?_
          show wr (d + 6) tb_M82 116 [(3, vi (s.1 147 (((s.1 142 6) - 1).toNat))), (2, vi l2), (0, .ref 142), (1, vi l1)] [] (up2 (up2 s.1 142 6 ((s.1 142 6) - 1)) 142 15 z19, s.2) _
          have hK21 : KI (up2 (up2 s.1 142 6 ((s.1 142 6) - 1)) 142 15 z19) := (KI_up (KI_up hK rfl (kb_of rfl (show 0 ≤ (s.1 142 6) - 1 ∧ (s.1 142 6) - 1 ≤ 2000 by omega))) rfl (kb_no rfl))
          refine wr_n (pc2 := 117) (lv2 := [(3, vi (s.1 147 (((s.1 142 6) - 1).toNat))), (2, vi l2), (0, .ref 142), (1, vi l1)]) (st2 := [.ref 142]) 1 (fun _ _ => rfl) ?_
          refine wr_get (v := .ref 144) rfl rfl rfl (by decide) (rv_ref (hK21.1 142 2 144 rfl)) fun h22 => ?_
          show wr (d + 6) tb_M82 120 [(3, vi (s.1 147 (((s.1 142 6) - 1).toNat))), (2, vi l2), (0, .ref 142), (1, vi l1)] [.ref 144] (up2 (up2 s.1 142 6 ((s.1 142 6) - 1)) 142 15 z19, s.2) _
          refine wr_n (pc2 := 122) (lv2 := [(3, vi (s.1 147 (((s.1 142 6) - 1).toNat))), (2, vi l2), (0, .ref 142), (1, vi l1)]) (st2 := [vi 0, vi (s.1 147 (((s.1 142 6) - 1).toNat)), .ref 144]) 2 (fun _ _ => rfl) ?_
          refine wr_ast (a := s.1 147 (((s.1 142 6) - 1).toNat)) (z := 0) rfl (by decide) rfl rfl (by omega) (by omega) (by decide) rfl (show -2147483648 ≤ 0 ∧ 0 ≤ 2147483647 by omega) ?_
          show wr (d + 6) tb_M82 123 [(3, vi (s.1 147 (((s.1 142 6) - 1).toNat))), (2, vi l2), (0, .ref 142), (1, vi l1)] [] (up2 (up2 (up2 s.1 142 6 ((s.1 142 6) - 1)) 142 15 z19) 144 ((s.1 147 (((s.1 142 6) - 1).toNat)).toNat) 0, s.2) _
          have hK23 : KI (up2 (up2 (up2 s.1 142 6 ((s.1 142 6) - 1)) 142 15 z19) 144 ((s.1 147 (((s.1 142 6) - 1).toNat)).toNat) 0) := (KI_up (KI_up (KI_up hK rfl (kb_of rfl (show 0 ≤ (s.1 142 6) - 1 ∧ (s.1 142 6) - 1 ≤ 2000 by omega))) rfl (kb_no rfl)) (n0 rfl (by omega) (by omega)) (kb_no rfl))
          refine wr_n (pc2 := 125) (lv2 := [(3, vi (s.1 147 (((s.1 142 6) - 1).toNat))), (2, vi l2), (0, .ref 142), (1, vi l1)]) (st2 := [vi (s.1 147 (((s.1 142 6) - 1).toNat)), .ref 142]) 2 (fun _ _ => rfl) ?_
          refine wr_call1 (args := [vi (s.1 147 (((s.1 142 6) - 1).toNat))]) (rest := []) rfl rfl rfl rfl (Nat.le_of_ble_eq_true rfl) (cr_mono (k_turnTo (d := d + 0) (C := C) hC (x := s.1 147 (((s.1 142 6) - 1).toNat)) (up2 (up2 (up2 s.1 142 6 ((s.1 142 6) - 1)) 142 15 z19) 144 ((s.1 147 (((s.1 142 6) - 1).toNat)).toNat) 0, s.2) hK23 (show (up2 (up2 (up2 s.1 142 6 ((s.1 142 6) - 1)) 142 15 z19) 144 ((s.1 147 (((s.1 142 6) - 1).toNat)).toNat) 0) 142 0 = ((C : Nat) : Int) from ((if_neg (by omega)).trans ((if_neg (by omega)).trans ((if_neg (by omega)).trans hq)))) (by omega)) ?_)
          rintro s24 out ⟨hK24, hY24, hc24, rfl⟩
          refine ⟨_, rfl, ?_⟩
          have hX24 : FX s0.1 s24.1 := FX_tr (FX_up (FX_up (FX_up hX (by unfold fx; omega)) (by unfold fx; omega)) (by unfold fx; omega)) hY24
          have hC24 : s24.2 = s0.2 := hc24.trans hc
          have hq24 : s24.1 142 0 = (C : Int) := (hY24 142 0 (by unfold fx; omega)).trans (show (up2 (up2 (up2 s.1 142 6 ((s.1 142 6) - 1)) 142 15 z19) 144 ((s.1 147 (((s.1 142 6) - 1).toNat)).toNat) 0) 142 0 = ((C : Nat) : Int) from ((if_neg (by omega)).trans ((if_neg (by omega)).trans ((if_neg (by omega)).trans hq))))
          show wr (d + 6) tb_M82 128 [(3, vi (s.1 147 (((s.1 142 6) - 1).toNat))), (2, vi l2), (0, .ref 142), (1, vi l1)] [] s24 _
          refine wr_inc (a := l2) rfl rfl ?_
          show wr (d + 6) tb_M82 131 [(2, vi (l2 + 1)), (3, vi (s.1 147 (((s.1 142 6) - 1).toNat))), (0, .ref 142), (1, vi l1)] [] s24 _
          refine wr_n (pc2 := 45) (lv2 := [(2, vi (l2 + 1)), (3, vi (s.1 147 (((s.1 142 6) - 1).toNat))), (0, .ref 142), (1, vi l1)]) (st2 := []) 1 (fun _ _ => rfl) ?_
          exact ih _ (by omega) (l2 + 1) (s.1 147 (((s.1 142 6) - 1).toNat)) l1 s24 rfl hK24 hq24 hX24 hC24 (by omega) (by omega) (by omega)  
        · refine wr_if2f rfl rfl (by unfold i32; omega) (by unfold i32; omega) h17 ?_
          refine wr_n (pc2 := 97) (lv2 := [(3, vi (s.1 147 (((s.1 142 6) - 1).toNat))), (2, vi l2), (0, .ref 142), (1, vi l1)]) (st2 := [vi 3, .ref 142]) 2 (fun _ _ => rfl) ?_
          refine wr_put (z := 3) rfl rfl rfl rfl (by decide) rfl (by decide) rfl (show -2147483648 ≤ 3 ∧ 3 ≤ 2147483647 by omega) (hf_int' _) ?_
          show wr (d + 6) tb_M82 100 [(3, vi (s.1 147 (((s.1 142 6) - 1).toNat))), (2, vi l2), (0, .ref 142), (1, vi l1)] [] (up2 (up2 s.1 142 6 ((s.1 142 6) - 1)) 142 14 3, s.2) _
          have hK25 : KI (up2 (up2 s.1 142 6 ((s.1 142 6) - 1)) 142 14 3) := (KI_up (KI_up hK rfl (kb_of rfl (show 0 ≤ (s.1 142 6) - 1 ∧ (s.1 142 6) - 1 ≤ 2000 by omega))) rfl (kb_no rfl))
          refine wr_n (pc2 := 102) (lv2 := [(3, vi (s.1 147 (((s.1 142 6) - 1).toNat))), (2, vi l2), (0, .ref 142), (1, vi l1)]) (st2 := [vi 0, .ref 142]) 2 (fun _ _ => rfl) ?_
          refine wr_put (z := 0) rfl rfl rfl rfl (by decide) rfl (by decide) rfl (show -2147483648 ≤ 0 ∧ 0 ≤ 2147483647 by omega) (hf_int' _) ?_
          show wr (d + 6) tb_M82 105 [(3, vi (s.1 147 (((s.1 142 6) - 1).toNat))), (2, vi l2), (0, .ref 142), (1, vi l1)] [] (up2 (up2 (up2 s.1 142 6 ((s.1 142 6) - 1)) 142 14 3) 142 15 0, s.2) _
          have hK26 : KI (up2 (up2 (up2 s.1 142 6 ((s.1 142 6) - 1)) 142 14 3) 142 15 0) := (KI_up (KI_up (KI_up hK rfl (kb_of rfl (show 0 ≤ (s.1 142 6) - 1 ∧ (s.1 142 6) - 1 ≤ 2000 by omega))) rfl (kb_no rfl)) rfl (kb_no rfl))
          refine wr_end (fun _ _ => rfl) ?_
          exact ⟨hK26, (FX_up (FX_up (FX_up hX (by unfold fx; omega)) (by unfold fx; omega)) (by unfold fx; omega)), hc, rfl⟩
set_option maxHeartbeats 20000000 in
set_option maxRecDepth 100000 in
theorem k_goOn_45 {d : Nat} {s0 : rS} {C : Nat} (hC : C = 99 ∨ C = 115)  : ∀ (w : Nat) (l2 : Int) (l1 : Int) (s : rS), (1000000 - l2).toNat = w → KI s.1 → s.1 142 0 = (C : Int) → FX s0.1 s.1 → s.2 = s0.2 → 0 ≤ l2 ∧ l2 ≤ 1000000 → (-2147483648) ≤ l1 ∧ l1 ≤ 2147483647 → wr (d + 6) tb_M82 45 [(2, vi l2), (0, .ref 142), (1, vi l1)] [] s (KV s0) := by
  intro w
  induction w using Nat.strongRecOn with | ind w ih => ?_
  intro l2 l1 s hw hK hq hX hc hl2 hl1
  refine wr_n (pc2 := 48) (lv2 := [(2, vi l2), (0, .ref 142), (1, vi l1)]) (st2 := [vi 1000000, vi l2]) 2 (fun _ _ => rfl) ?_
  by_cases h1 : 1000000 ≤ l2
  · refine wr_if2t rfl rfl (by unfold i32; omega) (by unfold i32; omega) h1 ?_
    exact k_goOn_134 hC l2 l1 s hK hq hX hc (by omega) (by omega)  
  · refine wr_if2f rfl rfl (by unfold i32; omega) (by unfold i32; omega) h1 ?_
    refine wr_n (pc2 := 52) (lv2 := [(2, vi l2), (0, .ref 142), (1, vi l1)]) (st2 := [.ref 142]) 1 (fun _ _ => rfl) ?_
    refine wr_get (v := vi (s.1 142 6)) rfl rfl rfl (by decide) rfl fun h2 => ?_
    have h2 : -2147483648 ≤ s.1 142 6 ∧ s.1 142 6 ≤ 2147483647 := h2
    show wr (d + 6) tb_M82 55 [(2, vi l2), (0, .ref 142), (1, vi l1)] [vi (s.1 142 6)] s _
    have hb3 : 0 ≤ s.1 142 6 ∧ s.1 142 6 ≤ 2000 := kb_to rfl (hK.2 142 6)
    by_cases h4 : s.1 142 6 ≤ 0
    · refine wr_if1t rfl rfl (by unfold i32; omega) h4 ?_
      exact k_goOn_134 hC l2 l1 s hK hq hX hc (by omega) (by omega)  
    · refine wr_if1f rfl rfl (by unfold i32; omega) h4 ?_
      refine wr_n (pc2 := 60) (lv2 := [(2, vi l2), (0, .ref 142), (1, vi l1)]) (st2 := [.ref 142, .ref 142]) 2 (fun _ _ => rfl) ?_
      refine wr_get (v := vi (s.1 142 6)) rfl rfl rfl (by decide) rfl fun h5 => ?_
      have h5 : -2147483648 ≤ s.1 142 6 ∧ s.1 142 6 ≤ 2147483647 := h5
      show wr (d + 6) tb_M82 63 [(2, vi l2), (0, .ref 142), (1, vi l1)] [vi (s.1 142 6), .ref 142] s _
      have hb6 : 0 ≤ s.1 142 6 ∧ s.1 142 6 ≤ 2000 := kb_to rfl (hK.2 142 6)
      refine wr_n (pc2 := 64) (lv2 := [(2, vi l2), (0, .ref 142), (1, vi l1)]) (st2 := [vi 1, vi (s.1 142 6), .ref 142]) 1 (fun _ _ => rfl) ?_
      refine wr_sub (a := s.1 142 6) (b := 1) rfl ?_
      show wr (d + 6) tb_M82 65 [(2, vi l2), (0, .ref 142), (1, vi l1)] [vi ((s.1 142 6) - 1), .ref 142] s _
      refine wr_put (z := (s.1 142 6) - 1) rfl rfl rfl rfl (by decide) rfl (by decide) rfl (show -2147483648 ≤ (s.1 142 6) - 1 ∧ (s.1 142 6) - 1 ≤ 2147483647 by omega) (hf_int' _) ?_
      show wr (d + 6) tb_M82 68 [(2, vi l2), (0, .ref 142), (1, vi l1)] [] (up2 s.1 142 6 ((s.1 142 6) - 1), s.2) _
      have hK7 : KI (up2 s.1 142 6 ((s.1 142 6) - 1)) := (KI_up hK rfl (kb_of rfl (show 0 ≤ (s.1 142 6) - 1 ∧ (s.1 142 6) - 1 ≤ 2000 by omega)))
      refine wr_n (pc2 := 69) (lv2 := [(2, vi l2), (0, .ref 142), (1, vi l1)]) (st2 := [.ref 142]) 1 (fun _ _ => rfl) ?_
      refine wr_get (v := .ref 147) rfl rfl rfl (by decide) (rv_ref (hK7.1 142 5 147 rfl)) fun h8 => ?_
      show wr (d + 6) tb_M82 72 [(2, vi l2), (0, .ref 142), (1, vi l1)] [.ref 147] (up2 s.1 142 6 ((s.1 142 6) - 1), s.2) _
      refine wr_n (pc2 := 73) (lv2 := [(2, vi l2), (0, .ref 142), (1, vi l1)]) (st2 := [.ref 142, .ref 147]) 1 (fun _ _ => rfl) ?_
      refine wr_get (v := vi ((s.1 142 6) - 1)) rfl rfl rfl (by decide) rfl fun h9 => ?_
      have h9 : -2147483648 ≤ (s.1 142 6) - 1 ∧ (s.1 142 6) - 1 ≤ 2147483647 := h9
      show wr (d + 6) tb_M82 76 [(2, vi l2), (0, .ref 142), (1, vi l1)] [vi ((s.1 142 6) - 1), .ref 147] (up2 s.1 142 6 ((s.1 142 6) - 1), s.2) _
      refine wr_ald (a := (s.1 142 6) - 1) (v := vi (s.1 147 (((s.1 142 6) - 1).toNat))) rfl rfl rfl (by omega) (by omega) (by decide) rfl fun h10 => ?_
      have h10 : -2147483648 ≤ s.1 147 (((s.1 142 6) - 1).toNat) ∧ s.1 147 (((s.1 142 6) - 1).toNat) ≤ 2147483647 := h10
      show wr (d + 6) tb_M82 77 [(2, vi l2), (0, .ref 142), (1, vi l1)] [vi (s.1 147 (((s.1 142 6) - 1).toNat))] (up2 s.1 142 6 ((s.1 142 6) - 1), s.2) _
      have hb11 : 0 ≤ s.1 147 (((s.1 142 6) - 1).toNat) ∧ s.1 147 (((s.1 142 6) - 1).toNat) ≤ 1999 := kb_to rfl (hK.2 147 (((s.1 142 6) - 1).toNat))
      refine wr_n (pc2 := 79) (lv2 := [(3, vi (s.1 147 (((s.1 142 6) - 1).toNat))), (2, vi l2), (0, .ref 142), (1, vi l1)]) (st2 := [.ref 142]) 2 (fun _ _ => rfl) ?_
      refine wr_get (v := .ref 144) rfl rfl rfl (by decide) (rv_ref (hK7.1 142 2 144 rfl)) fun h12 => ?_
      show wr (d + 6) tb_M82 82 [(3, vi (s.1 147 (((s.1 142 6) - 1).toNat))), (2, vi l2), (0, .ref 142), (1, vi l1)] [.ref 144] (up2 s.1 142 6 ((s.1 142 6) - 1), s.2) _
      refine wr_n (pc2 := 83) (lv2 := [(3, vi (s.1 147 (((s.1 142 6) - 1).toNat))), (2, vi l2), (0, .ref 142), (1, vi l1)]) (st2 := [vi (s.1 147 (((s.1 142 6) - 1).toNat)), .ref 144]) 1 (fun _ _ => rfl) ?_
      refine wr_ald (a := s.1 147 (((s.1 142 6) - 1).toNat)) (v := vi (s.1 144 ((s.1 147 (((s.1 142 6) - 1).toNat)).toNat))) rfl rfl rfl (by omega) (by omega) (by decide) rfl fun h13 => ?_
      have h13 : -2147483648 ≤ s.1 144 ((s.1 147 (((s.1 142 6) - 1).toNat)).toNat) ∧ s.1 144 ((s.1 147 (((s.1 142 6) - 1).toNat)).toNat) ≤ 2147483647 := h13
      show wr (d + 6) tb_M82 84 [(3, vi (s.1 147 (((s.1 142 6) - 1).toNat))), (2, vi l2), (0, .ref 142), (1, vi l1)] [vi (s.1 144 ((s.1 147 (((s.1 142 6) - 1).toNat)).toNat))] (up2 s.1 142 6 ((s.1 142 6) - 1), s.2) _
      by_cases h14 : 0 ≤ s.1 144 ((s.1 147 (((s.1 142 6) - 1).toNat)).toNat)
      · refine wr_if1t rfl rfl (by unfold i32; omega) h14 ?_
        refine wr_n (pc2 := 125) (lv2 := [(3, vi (s.1 147 (((s.1 142 6) - 1).toNat))), (2, vi l2), (0, .ref 142), (1, vi l1)]) (st2 := [vi (s.1 147 (((s.1 142 6) - 1).toNat)), .ref 142]) 2 (fun _ _ => rfl) ?_
        refine wr_call1 (args := [vi (s.1 147 (((s.1 142 6) - 1).toNat))]) (rest := []) rfl rfl rfl rfl (Nat.le_of_ble_eq_true rfl) (cr_mono (k_turnTo (d := d + 0) (C := C) hC (x := s.1 147 (((s.1 142 6) - 1).toNat)) (up2 s.1 142 6 ((s.1 142 6) - 1), s.2) hK7 (show (up2 s.1 142 6 ((s.1 142 6) - 1)) 142 0 = ((C : Nat) : Int) from ((if_neg (by omega)).trans hq)) (by omega)) ?_)
        rintro s15 out ⟨hK15, hY15, hc15, rfl⟩
        refine ⟨_, rfl, ?_⟩
        have hX15 : FX s0.1 s15.1 := FX_tr (FX_up hX (by unfold fx; omega)) hY15
        have hC15 : s15.2 = s0.2 := hc15.trans hc
        have hq15 : s15.1 142 0 = (C : Int) := (hY15 142 0 (by unfold fx; omega)).trans (show (up2 s.1 142 6 ((s.1 142 6) - 1)) 142 0 = ((C : Nat) : Int) from ((if_neg (by omega)).trans hq))
        show wr (d + 6) tb_M82 128 [(3, vi (s.1 147 (((s.1 142 6) - 1).toNat))), (2, vi l2), (0, .ref 142), (1, vi l1)] [] s15 _
        refine wr_inc (a := l2) rfl rfl ?_
        show wr (d + 6) tb_M82 131 [(2, vi (l2 + 1)), (3, vi (s.1 147 (((s.1 142 6) - 1).toNat))), (0, .ref 142), (1, vi l1)] [] s15 _
        refine wr_n (pc2 := 45) (lv2 := [(2, vi (l2 + 1)), (3, vi (s.1 147 (((s.1 142 6) - 1).toNat))), (0, .ref 142), (1, vi l1)]) (st2 := []) 1 (fun _ _ => rfl) ?_
        exact k_goOn_45v2 hC _ (l2 + 1) (s.1 147 (((s.1 142 6) - 1).toNat)) l1 s15 rfl hK15 hq15 hX15 hC15 (by omega) (by omega) (by omega)  
      · refine wr_if1f rfl rfl (by unfold i32; omega) h14 ?_
        refine wr_n (pc2 := 88) (lv2 := [(3, vi (s.1 147 (((s.1 142 6) - 1).toNat))), (2, vi l2), (0, .ref 142), (1, vi l1)]) (st2 := [.ref 142]) 1 (fun _ _ => rfl) ?_
        refine wr_get (v := vi (s.1 142 15)) rfl rfl rfl (by decide) rfl fun h16 => ?_
        have h16 : -2147483648 ≤ s.1 142 15 ∧ s.1 142 15 ≤ 2147483647 := h16
        show wr (d + 6) tb_M82 91 [(3, vi (s.1 147 (((s.1 142 6) - 1).toNat))), (2, vi l2), (0, .ref 142), (1, vi l1)] [vi (s.1 142 15)] (up2 s.1 142 6 ((s.1 142 6) - 1), s.2) _
        refine wr_n (pc2 := 92) (lv2 := [(3, vi (s.1 147 (((s.1 142 6) - 1).toNat))), (2, vi l2), (0, .ref 142), (1, vi l1)]) (st2 := [vi l1, vi (s.1 142 15)]) 1 (fun _ _ => rfl) ?_
        by_cases h17 : s.1 142 15 ≠ l1
        · refine wr_if2t rfl rfl (by unfold i32; omega) (by unfold i32; omega) h17 ?_
          refine wr_n (pc2 := 108) (lv2 := [(3, vi (s.1 147 (((s.1 142 6) - 1).toNat))), (2, vi l2), (0, .ref 142), (1, vi l1)]) (st2 := [.ref 142, .ref 142]) 2 (fun _ _ => rfl) ?_
          refine wr_get (v := vi (s.1 142 15)) rfl rfl rfl (by decide) rfl fun h18 => ?_
          have h18 : -2147483648 ≤ s.1 142 15 ∧ s.1 142 15 ≤ 2147483647 := h18
          show wr (d + 6) tb_M82 111 [(3, vi (s.1 147 (((s.1 142 6) - 1).toNat))), (2, vi l2), (0, .ref 142), (1, vi l1)] [vi (s.1 142 15), .ref 142] (up2 s.1 142 6 ((s.1 142 6) - 1), s.2) _
          refine wr_n (pc2 := 112) (lv2 := [(3, vi (s.1 147 (((s.1 142 6) - 1).toNat))), (2, vi l2), (0, .ref 142), (1, vi l1)]) (st2 := [vi 1, vi (s.1 142 15), .ref 142]) 1 (fun _ _ => rfl) ?_
          refine wr_any2 rfl rfl fun z19 h20 => ?_
          unfold i32 at h20
          show wr (d + 6) tb_M82 113 [(3, vi (s.1 147 (((s.1 142 6) - 1).toNat))), (2, vi l2), (0, .ref 142), (1, vi l1)] [vi z19, .ref 142] (up2 s.1 142 6 ((s.1 142 6) - 1), s.2) _
          refine wr_put (z := z19) rfl rfl rfl rfl (by decide) rfl (by decide) rfl (show -2147483648 ≤ z19 ∧ z19 ≤ 2147483647 by omega) (hf_int' _) ?_
          show wr (d + 6) tb_M82 116 [(3, vi (s.1 147 (((s.1 142 6) - 1).toNat))), (2, vi l2), (0, .ref 142), (1, vi l1)] [] (up2 (up2 s.1 142 6 ((s.1 142 6) - 1)) 142 15 z19, s.2) _
          have hK21 : KI (up2 (up2 s.1 142 6 ((s.1 142 6) - 1)) 142 15 z19) := (KI_up (KI_up hK rfl (kb_of rfl (show 0 ≤ (s.1 142 6) - 1 ∧ (s.1 142 6) - 1 ≤ 2000 by omega))) rfl (kb_no rfl))
          refine wr_n (pc2 := 117) (lv2 := [(3, vi (s.1 147 (((s.1 142 6) - 1).toNat))), (2, vi l2), (0, .ref 142), (1, vi l1)]) (st2 := [.ref 142]) 1 (fun _ _ => rfl) ?_
          refine wr_get (v := .ref 144) rfl rfl rfl (by decide) (rv_ref (hK21.1 142 2 144 rfl)) fun h22 => ?_
          show wr (d + 6) tb_M82 120 [(3, vi (s.1 147 (((s.1 142 6) - 1).toNat))), (2, vi l2), (0, .ref 142), (1, vi l1)] [.ref 144] (up2 (up2 s.1 142 6 ((s.1 142 6) - 1)) 142 15 z19, s.2) _
          refine wr_n (pc2 := 122) (lv2 := [(3, vi (s.1 147 (((s.1 142 6) - 1).toNat))), (2, vi l2), (0, .ref 142), (1, vi l1)]) (st2 := [vi 0, vi (s.1 147 (((s.1 142 6) - 1).toNat)), .ref 144]) 2 (fun _ _ => rfl) ?_
          refine wr_ast (a := s.1 147 (((s.1 142 6) - 1).toNat)) (z := 0) rfl (by decide) rfl rfl (by omega) (by omega) (by decide) rfl (show -2147483648 ≤ 0 ∧ 0 ≤ 2147483647 by omega) ?_
          show wr (d + 6) tb_M82 123 [(3, vi (s.1 147 (((s.1 142 6) - 1).toNat))), (2, vi l2), (0, .ref 142), (1, vi l1)] [] (up2 (up2 (up2 s.1 142 6 ((s.1 142 6) - 1)) 142 15 z19) 144 ((s.1 147 (((s.1 142 6) - 1).toNat)).toNat) 0, s.2) _
          have hK23 : KI (up2 (up2 (up2 s.1 142 6 ((s.1 142 6) - 1)) 142 15 z19) 144 ((s.1 147 (((s.1 142 6) - 1).toNat)).toNat) 0) := (KI_up (KI_up (KI_up hK rfl (kb_of rfl (show 0 ≤ (s.1 142 6) - 1 ∧ (s.1 142 6) - 1 ≤ 2000 by omega))) rfl (kb_no rfl)) (n0 rfl (by omega) (by omega)) (kb_no rfl))
          refine wr_n (pc2 := 125) (lv2 := [(3, vi (s.1 147 (((s.1 142 6) - 1).toNat))), (2, vi l2), (0, .ref 142), (1, vi l1)]) (st2 := [vi (s.1 147 (((s.1 142 6) - 1).toNat)), .ref 142]) 2 (fun _ _ => rfl) ?_
          refine wr_call1 (args := [vi (s.1 147 (((s.1 142 6) - 1).toNat))]) (rest := []) rfl rfl rfl rfl (Nat.le_of_ble_eq_true rfl) (cr_mono (k_turnTo (d := d + 0) (C := C) hC (x := s.1 147 (((s.1 142 6) - 1).toNat)) (up2 (up2 (up2 s.1 142 6 ((s.1 142 6) - 1)) 142 15 z19) 144 ((s.1 147 (((s.1 142 6) - 1).toNat)).toNat) 0, s.2) hK23 (show (up2 (up2 (up2 s.1 142 6 ((s.1 142 6) - 1)) 142 15 z19) 144 ((s.1 147 (((s.1 142 6) - 1).toNat)).toNat) 0) 142 0 = ((C : Nat) : Int) from ((if_neg (by omega)).trans ((if_neg (by omega)).trans ((if_neg (by omega)).trans hq)))) (by omega)) ?_)
          rintro s24 out ⟨hK24, hY24, hc24, rfl⟩
          refine ⟨_, rfl, ?_⟩
          have hX24 : FX s0.1 s24.1 := FX_tr (FX_up (FX_up (FX_up hX (by unfold fx; omega)) (by unfold fx; omega)) (by unfold fx; omega)) hY24
          have hC24 : s24.2 = s0.2 := hc24.trans hc
          have hq24 : s24.1 142 0 = (C : Int) := (hY24 142 0 (by unfold fx; omega)).trans (show (up2 (up2 (up2 s.1 142 6 ((s.1 142 6) - 1)) 142 15 z19) 144 ((s.1 147 (((s.1 142 6) - 1).toNat)).toNat) 0) 142 0 = ((C : Nat) : Int) from ((if_neg (by omega)).trans ((if_neg (by omega)).trans ((if_neg (by omega)).trans hq))))
          show wr (d + 6) tb_M82 128 [(3, vi (s.1 147 (((s.1 142 6) - 1).toNat))), (2, vi l2), (0, .ref 142), (1, vi l1)] [] s24 _
          refine wr_inc (a := l2) rfl rfl ?_
          show wr (d + 6) tb_M82 131 [(2, vi (l2 + 1)), (3, vi (s.1 147 (((s.1 142 6) - 1).toNat))), (0, .ref 142), (1, vi l1)] [] s24 _
          refine wr_n (pc2 := 45) (lv2 := [(2, vi (l2 + 1)), (3, vi (s.1 147 (((s.1 142 6) - 1).toNat))), (0, .ref 142), (1, vi l1)]) (st2 := []) 1 (fun _ _ => rfl) ?_
          exact k_goOn_45v2 hC _ (l2 + 1) (s.1 147 (((s.1 142 6) - 1).toNat)) l1 s24 rfl hK24 hq24 hX24 hC24 (by omega) (by omega) (by omega)  
        · refine wr_if2f rfl rfl (by unfold i32; omega) (by unfold i32; omega) h17 ?_
          refine wr_n (pc2 := 97) (lv2 := [(3, vi (s.1 147 (((s.1 142 6) - 1).toNat))), (2, vi l2), (0, .ref 142), (1, vi l1)]) (st2 := [vi 3, .ref 142]) 2 (fun _ _ => rfl) ?_
          refine wr_put (z := 3) rfl rfl rfl rfl (by decide) rfl (by decide) rfl (show -2147483648 ≤ 3 ∧ 3 ≤ 2147483647 by omega) (hf_int' _) ?_
          show wr (d + 6) tb_M82 100 [(3, vi (s.1 147 (((s.1 142 6) - 1).toNat))), (2, vi l2), (0, .ref 142), (1, vi l1)] [] (up2 (up2 s.1 142 6 ((s.1 142 6) - 1)) 142 14 3, s.2) _
          have hK25 : KI (up2 (up2 s.1 142 6 ((s.1 142 6) - 1)) 142 14 3) := (KI_up (KI_up hK rfl (kb_of rfl (show 0 ≤ (s.1 142 6) - 1 ∧ (s.1 142 6) - 1 ≤ 2000 by omega))) rfl (kb_no rfl))
          refine wr_n (pc2 := 102) (lv2 := [(3, vi (s.1 147 (((s.1 142 6) - 1).toNat))), (2, vi l2), (0, .ref 142), (1, vi l1)]) (st2 := [vi 0, .ref 142]) 2 (fun _ _ => rfl) ?_
          refine wr_put (z := 0) rfl rfl rfl rfl (by decide) rfl (by decide) rfl (show -2147483648 ≤ 0 ∧ 0 ≤ 2147483647 by omega) (hf_int' _) ?_
          show wr (d + 6) tb_M82 105 [(3, vi (s.1 147 (((s.1 142 6) - 1).toNat))), (2, vi l2), (0, .ref 142), (1, vi l1)] [] (up2 (up2 (up2 s.1 142 6 ((s.1 142 6) - 1)) 142 14 3) 142 15 0, s.2) _
          have hK26 : KI (up2 (up2 (up2 s.1 142 6 ((s.1 142 6) - 1)) 142 14 3) 142 15 0) := (KI_up (KI_up (KI_up hK rfl (kb_of rfl (show 0 ≤ (s.1 142 6) - 1 ∧ (s.1 142 6) - 1 ≤ 2000 by omega))) rfl (kb_no rfl)) rfl (kb_no rfl))
          refine wr_end (fun _ _ => rfl) ?_
          exact ⟨hK26, (FX_up (FX_up (FX_up hX (by unfold fx; omega)) (by unfold fx; omega)) (by unfold fx; omega)), hc, rfl⟩
set_option maxHeartbeats 20000000 in
set_option maxRecDepth 100000 in
theorem k_goOn_43 {d : Nat} {s0 : rS} {C : Nat} (hC : C = 99 ∨ C = 115)  (l1 : Int) (s : rS) (hK : KI s.1) (hq : s.1 142 0 = (C : Int)) (hX : FX s0.1 s.1) (hc : s.2 = s0.2) (hl1 : (-2147483648) ≤ l1 ∧ l1 ≤ 2147483647)   : wr (d + 6) tb_M82 43 [(0, .ref 142), (1, vi l1)] [] s (KV s0) := by
  refine wr_n (pc2 := 45) (lv2 := [(2, vi 0), (0, .ref 142), (1, vi l1)]) (st2 := []) 2 (fun _ _ => rfl) ?_
  exact k_goOn_45 hC _ 0 l1 s rfl hK hq hX hc (by omega) (by omega)  
set_option maxHeartbeats 20000000 in
set_option maxRecDepth 100000 in
theorem k_goOn {d : Nat} {C : Nat} (hC : C = 99 ∨ C = 115)  {x : Int} (s : rS) (hK : KI s.1) (hq : s.1 142 0 = (C : Int)) (hx : (-2147483648) ≤ x ∧ x ≤ 2147483647)  : cr (d + 7) 82 [.ref 142, vi x] s (KV s) := by
  refine cr_of (M := tb_M82) rfl (Nat.le_of_ble_eq_true rfl) ?_
  show wr (d + 6) tb_M82 0 [(0, .ref 142), (1, vi x)] [] s _
  refine wr_n (pc2 := 2) (lv2 := [(0, .ref 142), (1, vi x)]) (st2 := [vi 0, .ref 142]) 2 (fun _ _ => rfl) ?_
  refine wr_put (z := 0) rfl rfl rfl rfl (by decide) rfl (by decide) rfl (show -2147483648 ≤ 0 ∧ 0 ≤ 2147483647 by omega) (hf_int' _) ?_
  show wr (d + 6) tb_M82 5 [(0, .ref 142), (1, vi x)] [] (up2 s.1 142 15 0, s.2) _
  have hK1 : KI (up2 s.1 142 15 0) := (KI_up hK rfl (kb_no rfl))
  refine wr_n (pc2 := 6) (lv2 := [(0, .ref 142), (1, vi x)]) (st2 := [.ref 142]) 1 (fun _ _ => rfl) ?_
  refine wr_get (v := vi (s.1 142 14)) rfl rfl rfl (by decide) rfl fun h2 => ?_
  have h2 : -2147483648 ≤ s.1 142 14 ∧ s.1 142 14 ≤ 2147483647 := h2
  show wr (d + 6) tb_M82 9 [(0, .ref 142), (1, vi x)] [vi (s.1 142 14)] (up2 s.1 142 15 0, s.2) _
  by_cases h3 : s.1 142 14 ≠ 0
  · refine wr_if1t rfl rfl (by unfold i32; omega) h3 ?_
    refine wr_n (pc2 := 29) (lv2 := [(0, .ref 142), (1, vi x)]) (st2 := [.ref 142, .ref 142]) 2 (fun _ _ => rfl) ?_
    refine wr_get (v := .ref 152) rfl rfl rfl (by decide) (rv_ref (hK1.1 142 11 152 rfl)) fun h4 => ?_
    show wr (d + 6) tb_M82 32 [(0, .ref 142), (1, vi x)] [.ref 152, .ref 142] (up2 s.1 142 15 0, s.2) _
    refine wr_call1 (args := [.ref 152]) (rest := []) rfl rfl rfl rfl (Nat.le_of_ble_eq_true rfl) (cr_mono (k_wake152 (d := d + 4) (up2 s.1 142 15 0, s.2) hK1) ?_)
    rintro s5 out ⟨hK5, hY5, hc5, rfl⟩
    refine ⟨_, rfl, ?_⟩
    have hX5 : FX s.1 s5.1 := FX_tr (FX_up FX_rf (by unfold fx; omega)) hY5
    have hC5 : s5.2 = s.2 := hc5.trans rfl
    have hq5 : s5.1 142 0 = (C : Int) := (hY5 142 0 (by unfold fx; omega)).trans (show (up2 s.1 142 15 0) 142 0 = ((C : Nat) : Int) from ((if_neg (by omega)).trans hq))
    show wr (d + 6) tb_M82 35 [(0, .ref 142), (1, vi x)] [] s5 _
    refine wr_n (pc2 := 37) (lv2 := [(0, .ref 142), (1, vi x)]) (st2 := [.ref 142, .ref 142]) 2 (fun _ _ => rfl) ?_
    refine wr_get (v := .ref 153) rfl rfl rfl (by decide) (rv_ref (hK5.1 142 12 153 rfl)) fun h6 => ?_
    show wr (d + 6) tb_M82 40 [(0, .ref 142), (1, vi x)] [.ref 153, .ref 142] s5 _
    refine wr_call1 (args := [.ref 153]) (rest := []) rfl rfl rfl rfl (Nat.le_of_ble_eq_true rfl) (cr_mono (k_wake153 (d := d + 4) s5 hK5) ?_)
    rintro s7 out ⟨hK7, hY7, hc7, rfl⟩
    refine ⟨_, rfl, ?_⟩
    have hX7 : FX s.1 s7.1 := FX_tr hX5 hY7
    have hC7 : s7.2 = s.2 := hc7.trans hC5
    have hq7 : s7.1 142 0 = (C : Int) := (hY7 142 0 (by unfold fx; omega)).trans hq5
    show wr (d + 6) tb_M82 43 [(0, .ref 142), (1, vi x)] [] s7 _
    exact k_goOn_43 hC x s7 hK7 hq7 hX7 hC7 (by omega)  
  · refine wr_if1f rfl rfl (by unfold i32; omega) h3 ?_
    refine wr_n (pc2 := 14) (lv2 := [(0, .ref 142), (1, vi x)]) (st2 := [.ref 142, .ref 142]) 2 (fun _ _ => rfl) ?_
    refine wr_get (v := .ref C) rfl rfl rfl (by decide) (rv_ref (show (up2 s.1 142 15 0) 142 0 = ((C : Nat) : Int) from (show (up2 s.1 142 15 0) 142 0 = ((C : Nat) : Int) from ((if_neg (by omega)).trans hq)))) fun h8 => ?_
    show wr (d + 6) tb_M82 17 [(0, .ref 142), (1, vi x)] [.ref C, .ref 142] (up2 s.1 142 15 0, s.2) _
    refine wr_get (v := vi (s.1 C 13)) rfl rfl (TK0 hC) (by decide) (by show rv _ ((up2 s.1 142 15 0) C 13) = _; rw [up_nk (by omega)]; rfl) fun h9 => ?_
    replace h9 : rg _ ((up2 s.1 142 15 0) C 13) := h9
    rw [up_nk (by omega)] at h9
    have h9 : -2147483648 ≤ s.1 C 13 ∧ s.1 C 13 ≤ 2147483647 := h9
    show wr (d + 6) tb_M82 20 [(0, .ref 142), (1, vi x)] [vi (s.1 C 13), .ref 142] (up2 s.1 142 15 0, s.2) _
    refine wr_n (pc2 := 21) (lv2 := [(0, .ref 142), (1, vi x)]) (st2 := [vi ((-1)), vi (s.1 C 13), .ref 142]) 1 (fun _ _ => rfl) ?_
    refine wr_call1 (args := [vi (s.1 C 13), vi ((-1))]) (rest := []) rfl rfl rfl rfl (Nat.le_of_ble_eq_true rfl) (cr_mono (k_ask (d := d + 4) (C := C) hC (x := s.1 C 13) (y := (-1)) (up2 s.1 142 15 0, s.2) hK1 (show (up2 s.1 142 15 0) 142 0 = ((C : Nat) : Int) from ((if_neg (by omega)).trans hq)) (by omega) (by omega)) ?_)
    rintro s10 out ⟨hK10, hY10, hc10, rfl⟩
    refine ⟨_, rfl, ?_⟩
    have hX10 : FX s.1 s10.1 := FX_tr (FX_up FX_rf (by unfold fx; omega)) hY10
    have hC10 : s10.2 = s.2 := hc10.trans rfl
    have hq10 : s10.1 142 0 = (C : Int) := (hY10 142 0 (by unfold fx; omega)).trans (show (up2 s.1 142 15 0) 142 0 = ((C : Nat) : Int) from ((if_neg (by omega)).trans hq))
    show wr (d + 6) tb_M82 24 [(0, .ref 142), (1, vi x)] [] s10 _
    refine wr_n (pc2 := 43) (lv2 := [(0, .ref 142), (1, vi x)]) (st2 := []) 1 (fun _ _ => rfl) ?_
    exact k_goOn_43 hC x s10 hK10 hq10 hX10 hC10 (by omega)  
set_option maxHeartbeats 20000000 in
set_option maxRecDepth 100000 in
theorem k_restart5_61 {d : Nat} {s0 : rS} {C : Nat} (hC : C = 99 ∨ C = 115)  : ∀ (w : Nat) (l2 : Int) (s : rS), (4 - l2).toNat = w → KI s.1 → FX s0.1 s.1 → s.2 = s0.2 → 0 ≤ l2 ∧ l2 ≤ 4 → wr (d + 1) tb_M78 61 [(2, vi l2), (0, .ref 142), (1, .ref C)] [] s (KV s0) := by
  intro w
  induction w using Nat.strongRecOn with | ind w ih => ?_
  intro l2 s hw hK hX hc hl2
  refine wr_n (pc2 := 63) (lv2 := [(2, vi l2), (0, .ref 142), (1, .ref C)]) (st2 := [vi 4, vi l2]) 2 (fun _ _ => rfl) ?_
  by_cases h1 : 4 ≤ l2
  · refine wr_if2t rfl rfl (by unfold i32; omega) (by unfold i32; omega) h1 ?_
    refine wr_n (pc2 := 83) (lv2 := [(2, vi l2), (0, .ref 142), (1, .ref C)]) (st2 := [vi 0, .ref 142]) 2 (fun _ _ => rfl) ?_
    refine wr_put (z := 0) rfl rfl rfl rfl (by decide) rfl (by decide) rfl (show -2147483648 ≤ 0 ∧ 0 ≤ 2147483647 by omega) (hf_int' _) ?_
    show wr (d + 1) tb_M78 86 [(2, vi l2), (0, .ref 142), (1, .ref C)] [] (up2 s.1 142 6 0, s.2) _
    have hK2 : KI (up2 s.1 142 6 0) := (KI_up hK rfl (kb_of rfl (show 0 ≤ 0 ∧ 0 ≤ 2000 by omega)))
    refine wr_n (pc2 := 88) (lv2 := [(2, vi l2), (0, .ref 142), (1, .ref C)]) (st2 := [vi 0, .ref 142]) 2 (fun _ _ => rfl) ?_
    refine wr_put (z := 0) rfl rfl rfl rfl (by decide) rfl (by decide) rfl (show 0 ≤ 0 ∧ 0 ≤ 1 by omega) (fit_i (.inr (.inl rfl)) (show 0 ≤ 0 ∧ 0 ≤ 1 by omega)) ?_
    show wr (d + 1) tb_M78 91 [(2, vi l2), (0, .ref 142), (1, .ref C)] [] (up2 (up2 s.1 142 6 0) 142 13 0, s.2) _
    have hK3 : KI (up2 (up2 s.1 142 6 0) 142 13 0) := (KI_up (KI_up hK rfl (kb_of rfl (show 0 ≤ 0 ∧ 0 ≤ 2000 by omega))) rfl (kb_no rfl))
    refine wr_n (pc2 := 93) (lv2 := [(2, vi l2), (0, .ref 142), (1, .ref C)]) (st2 := [vi 0, .ref 142]) 2 (fun _ _ => rfl) ?_
    refine wr_put (z := 0) rfl rfl rfl rfl (by decide) rfl (by decide) rfl (show -2147483648 ≤ 0 ∧ 0 ≤ 2147483647 by omega) (hf_int' _) ?_
    show wr (d + 1) tb_M78 96 [(2, vi l2), (0, .ref 142), (1, .ref C)] [] (up2 (up2 (up2 s.1 142 6 0) 142 13 0) 142 14 0, s.2) _
    have hK4 : KI (up2 (up2 (up2 s.1 142 6 0) 142 13 0) 142 14 0) := (KI_up (KI_up (KI_up hK rfl (kb_of rfl (show 0 ≤ 0 ∧ 0 ≤ 2000 by omega))) rfl (kb_no rfl)) rfl (kb_no rfl))
    refine wr_end (fun _ _ => rfl) ?_
    exact ⟨hK4, (FX_up (FX_up (FX_up hX (by unfold fx; omega)) (by unfold fx; omega)) (by unfold fx; omega)), hc, rfl⟩
  · refine wr_if2f rfl rfl (by unfold i32; omega) (by unfold i32; omega) h1 ?_
    refine wr_n (pc2 := 67) (lv2 := [(2, vi l2), (0, .ref 142), (1, .ref C)]) (st2 := [.ref 142]) 1 (fun _ _ => rfl) ?_
    refine wr_get (v := .ref 151) rfl rfl rfl (by decide) (rv_ref (hK.1 142 10 151 rfl)) fun h5 => ?_
    show wr (d + 1) tb_M78 70 [(2, vi l2), (0, .ref 142), (1, .ref C)] [.ref 151] s _
    refine wr_n (pc2 := 71) (lv2 := [(2, vi l2), (0, .ref 142), (1, .ref C)]) (st2 := [vi l2, .ref 151]) 1 (fun _ _ => rfl) ?_
    refine wr_ald (a := l2) (v := .ref (162 + 2 * l2.toNat)) rfl rfl rfl (by omega) (by omega) (by decide) (rv_ref (hK.1 151 l2.toNat (162 + 2 * l2.toNat) (r_outs (by omega)))) fun h6 => ?_
    show wr (d + 1) tb_M78 72 [(2, vi l2), (0, .ref 142), (1, .ref C)] [.ref (162 + 2 * l2.toNat)] s _
    refine wr_call1 (args := []) (rest := []) rfl rfl rfl (TQ0 (isQ_out (by omega))) (Nat.le_of_ble_eq_true rfl) (cr_mono (k_qclear (d := d + 0) (Q := 162 + 2 * l2.toNat) (isQ_out (by omega)) s hK) ?_)
    rintro s7 out ⟨hK7, hY7, hc7, rfl⟩
    refine ⟨_, rfl, ?_⟩
    have hX7 : FX s0.1 s7.1 := FX_tr hX hY7
    have hC7 : s7.2 = s0.2 := hc7.trans hc
    show wr (d + 1) tb_M78 75 [(2, vi l2), (0, .ref 142), (1, .ref C)] [] s7 _
    refine wr_inc (a := l2) rfl rfl ?_
    show wr (d + 1) tb_M78 78 [(2, vi (l2 + 1)), (0, .ref 142), (1, .ref C)] [] s7 _
    refine wr_n (pc2 := 61) (lv2 := [(2, vi (l2 + 1)), (0, .ref 142), (1, .ref C)]) (st2 := []) 1 (fun _ _ => rfl) ?_
    exact ih _ (by omega) (l2 + 1) s7 rfl hK7 hX7 hC7 (by omega)  
set_option maxHeartbeats 20000000 in
set_option maxRecDepth 100000 in
theorem k_restart5_39 {d : Nat} {s0 : rS} {C : Nat} (hC : C = 99 ∨ C = 115)  : ∀ (w : Nat) (l2 : Int) (s : rS), (4 - l2).toNat = w → KI s.1 → FX s0.1 s.1 → s.2 = s0.2 → 0 ≤ l2 ∧ l2 ≤ 4 → wr (d + 1) tb_M78 39 [(2, vi l2), (0, .ref 142), (1, .ref C)] [] s (KV s0) := by
  intro w
  induction w using Nat.strongRecOn with | ind w ih => ?_
  intro l2 s hw hK hX hc hl2
  refine wr_n (pc2 := 41) (lv2 := [(2, vi l2), (0, .ref 142), (1, .ref C)]) (st2 := [vi 4, vi l2]) 2 (fun _ _ => rfl) ?_
  by_cases h1 : 4 ≤ l2
  · refine wr_if2t rfl rfl (by unfold i32; omega) (by unfold i32; omega) h1 ?_
    refine wr_n (pc2 := 61) (lv2 := [(2, vi 0), (0, .ref 142), (1, .ref C)]) (st2 := []) 2 (fun _ _ => rfl) ?_
    exact k_restart5_61 hC _ 0 s rfl hK hX hc (by omega)  
  · refine wr_if2f rfl rfl (by unfold i32; omega) (by unfold i32; omega) h1 ?_
    refine wr_n (pc2 := 45) (lv2 := [(2, vi l2), (0, .ref 142), (1, .ref C)]) (st2 := [.ref 142]) 1 (fun _ _ => rfl) ?_
    refine wr_get (v := .ref 150) rfl rfl rfl (by decide) (rv_ref (hK.1 142 9 150 rfl)) fun h2 => ?_
    show wr (d + 1) tb_M78 48 [(2, vi l2), (0, .ref 142), (1, .ref C)] [.ref 150] s _
    refine wr_n (pc2 := 49) (lv2 := [(2, vi l2), (0, .ref 142), (1, .ref C)]) (st2 := [vi l2, .ref 150]) 1 (fun _ _ => rfl) ?_
    refine wr_ald (a := l2) (v := .ref (154 + 2 * l2.toNat)) rfl rfl rfl (by omega) (by omega) (by decide) (rv_ref (hK.1 150 l2.toNat (154 + 2 * l2.toNat) (r_ins (by omega)))) fun h3 => ?_
    show wr (d + 1) tb_M78 50 [(2, vi l2), (0, .ref 142), (1, .ref C)] [.ref (154 + 2 * l2.toNat)] s _
    refine wr_call1 (args := []) (rest := []) rfl rfl rfl (TQ0 (isQ_in (by omega))) (Nat.le_of_ble_eq_true rfl) (cr_mono (k_qclear (d := d + 0) (Q := 154 + 2 * l2.toNat) (isQ_in (by omega)) s hK) ?_)
    rintro s4 out ⟨hK4, hY4, hc4, rfl⟩
    refine ⟨_, rfl, ?_⟩
    have hX4 : FX s0.1 s4.1 := FX_tr hX hY4
    have hC4 : s4.2 = s0.2 := hc4.trans hc
    show wr (d + 1) tb_M78 53 [(2, vi l2), (0, .ref 142), (1, .ref C)] [] s4 _
    refine wr_inc (a := l2) rfl rfl ?_
    show wr (d + 1) tb_M78 56 [(2, vi (l2 + 1)), (0, .ref 142), (1, .ref C)] [] s4 _
    refine wr_n (pc2 := 39) (lv2 := [(2, vi (l2 + 1)), (0, .ref 142), (1, .ref C)]) (st2 := []) 1 (fun _ _ => rfl) ?_
    exact ih _ (by omega) (l2 + 1) s4 rfl hK4 hX4 hC4 (by omega)  
set_option maxHeartbeats 20000000 in
set_option maxRecDepth 100000 in
theorem k_restart5 {d C : Nat} (hC : C = 99 ∨ C = 115) (s : rS) (hK : KI s.1) : wr (d + 1) tb_M78 5 [(0, .ref 142), (1, .ref C)] [] s (KV s) := by
  refine wr_n (pc2 := 6) (lv2 := [(0, .ref 142), (1, .ref C)]) (st2 := [.ref 142]) 1 (fun _ _ => rfl) ?_
  refine wr_get (v := .ref 148) rfl rfl rfl (by decide) (rv_ref (hK.1 142 7 148 rfl)) fun h1 => ?_
  show wr (d + 1) tb_M78 9 [(0, .ref 142), (1, .ref C)] [.ref 148] s _
  refine wr_n (pc2 := 10) (lv2 := [(0, .ref 142), (1, .ref C)]) (st2 := [vi 0, .ref 148]) 1 (fun _ _ => rfl) ?_
  refine wr_call0 (args := [.ref 148, vi 0]) (rest := []) rfl rfl rfl (Nat.le_of_ble_eq_true rfl) (cr_mono (k_fill (d := d + 0) (q := 148) (n := 24) rfl (by omega) (by omega) (by omega) (by unfold i32; omega) (fun j => (n0 rfl (by omega) (by omega))) (fun j => kb_no rfl) (fun j => by unfold fx; omega) s hK) ?_)
  rintro s2 out ⟨hK2, hY2, hc2, rfl⟩
  refine ⟨_, rfl, ?_⟩
  have hX2 : FX s.1 s2.1 := FX_tr FX_rf hY2
  have hC2 : s2.2 = s.2 := hc2.trans rfl
  show wr (d + 1) tb_M78 13 [(0, .ref 142), (1, .ref C)] [] s2 _
  refine wr_n (pc2 := 14) (lv2 := [(0, .ref 142), (1, .ref C)]) (st2 := [.ref 142]) 1 (fun _ _ => rfl) ?_
  refine wr_get (v := .ref 149) rfl rfl rfl (by decide) (rv_ref (hK2.1 142 8 149 rfl)) fun h3 => ?_
  show wr (d + 1) tb_M78 17 [(0, .ref 142), (1, .ref C)] [.ref 149] s2 _
  refine wr_n (pc2 := 18) (lv2 := [(0, .ref 142), (1, .ref C)]) (st2 := [vi 0, .ref 149]) 1 (fun _ _ => rfl) ?_
  refine wr_call0 (args := [.ref 149, vi 0]) (rest := []) rfl rfl rfl (Nat.le_of_ble_eq_true rfl) (cr_mono (k_fill (d := d + 0) (q := 149) (n := 384) rfl (by omega) (by omega) (by omega) (by unfold i32; omega) (fun j => (n0 rfl (by omega) (by omega))) (fun j => kb_no rfl) (fun j => by unfold fx; omega) s2 hK2) ?_)
  rintro s4 out ⟨hK4, hY4, hc4, rfl⟩
  refine ⟨_, rfl, ?_⟩
  have hX4 : FX s.1 s4.1 := FX_tr hX2 hY4
  have hC4 : s4.2 = s.2 := hc4.trans hC2
  show wr (d + 1) tb_M78 21 [(0, .ref 142), (1, .ref C)] [] s4 _
  refine wr_n (pc2 := 22) (lv2 := [(0, .ref 142), (1, .ref C)]) (st2 := [.ref 142]) 1 (fun _ _ => rfl) ?_
  refine wr_get (v := .ref 152) rfl rfl rfl (by decide) (rv_ref (hK4.1 142 11 152 rfl)) fun h5 => ?_
  show wr (d + 1) tb_M78 25 [(0, .ref 142), (1, .ref C)] [.ref 152] s4 _
  refine wr_n (pc2 := 26) (lv2 := [(0, .ref 142), (1, .ref C)]) (st2 := [vi ((-1)), .ref 152]) 1 (fun _ _ => rfl) ?_
  refine wr_call0 (args := [.ref 152, vi ((-1))]) (rest := []) rfl rfl rfl (Nat.le_of_ble_eq_true rfl) (cr_mono (k_fill (d := d + 0) (q := 152) (n := 12) rfl (by omega) (by omega) (by omega) (by unfold i32; omega) (fun j => (n0 rfl (by omega) (by omega))) (fun j => kb_of (a := -1) (b := 1999) rfl (by omega)) (fun j => by unfold fx; omega) s4 hK4) ?_)
  rintro s6 out ⟨hK6, hY6, hc6, rfl⟩
  refine ⟨_, rfl, ?_⟩
  have hX6 : FX s.1 s6.1 := FX_tr hX4 hY6
  have hC6 : s6.2 = s.2 := hc6.trans hC4
  show wr (d + 1) tb_M78 29 [(0, .ref 142), (1, .ref C)] [] s6 _
  refine wr_n (pc2 := 30) (lv2 := [(0, .ref 142), (1, .ref C)]) (st2 := [.ref 142]) 1 (fun _ _ => rfl) ?_
  refine wr_get (v := .ref 153) rfl rfl rfl (by decide) (rv_ref (hK6.1 142 12 153 rfl)) fun h7 => ?_
  show wr (d + 1) tb_M78 33 [(0, .ref 142), (1, .ref C)] [.ref 153] s6 _
  refine wr_n (pc2 := 34) (lv2 := [(0, .ref 142), (1, .ref C)]) (st2 := [vi ((-1)), .ref 153]) 1 (fun _ _ => rfl) ?_
  refine wr_call0 (args := [.ref 153, vi ((-1))]) (rest := []) rfl rfl rfl (Nat.le_of_ble_eq_true rfl) (cr_mono (k_fill (d := d + 0) (q := 153) (n := 12) rfl (by omega) (by omega) (by omega) (by unfold i32; omega) (fun j => (n0 rfl (by omega) (by omega))) (fun j => kb_of (a := -1) (b := 1999) rfl (by omega)) (fun j => by unfold fx; omega) s6 hK6) ?_)
  rintro s8 out ⟨hK8, hY8, hc8, rfl⟩
  refine ⟨_, rfl, ?_⟩
  have hX8 : FX s.1 s8.1 := FX_tr hX6 hY8
  have hC8 : s8.2 = s.2 := hc8.trans hC6
  show wr (d + 1) tb_M78 37 [(0, .ref 142), (1, .ref C)] [] s8 _
  refine wr_n (pc2 := 39) (lv2 := [(2, vi 0), (0, .ref 142), (1, .ref C)]) (st2 := []) 2 (fun _ _ => rfl) ?_
  exact k_restart5_39 hC _ 0 s8 rfl hK8 hX8 hC8 (by omega)  
theorem k_restart {d C : Nat} (hC : C = 99 ∨ C = 115) (s : rS) (hK : KI s.1) : cr (d + 2) 78 [.ref 142, .ref C] s (KV (up2 s.1 142 0 (C : Int), s.2)) := by
  refine cr_of (M := tb_M78) rfl (Nat.le_of_ble_eq_true rfl) ?_
  show wr (d + 1) tb_M78 0 [(0, .ref 142), (1, .ref C)] [] s _
  refine wr_n (pc2 := 2) (lv2 := [(0, .ref 142), (1, .ref C)]) (st2 := [.ref C, .ref 142]) 2 (fun _ _ => rfl) ?_
  refine wr_put (z := (C : Int)) rfl rfl rfl rfl (by decide) rfl (by decide) (rv_ref rfl) (show -1 ≤ (C : Int) by omega) (hf_ref _ _) ?_
  exact k_restart5 hC (up2 s.1 142 0 (C : Int), s.2) (KI_up hK rfl (kb_no rfl))
