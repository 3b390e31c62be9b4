/-- the names at hand: where they lie in the text, what they mean -/
def NM (r : Nat → Nat → Int) : Prop := 0 ≤ r 170 14 ∧ r 170 14 ≤ 100 ∧ ∀ k : Nat, (k : Int) < r 170 14 → 0 ≤ r 172 k ∧ r 172 k < r 173 k ∧ r 173 k ≤ 2000 ∧ 0 ≤ r 174 k ∧ r 174 k ≤ 6 ∧ 0 ≤ r 175 k ∧ (r 174 k = 0 → r 175 k < 24) ∧ (r 174 k = 1 → r 175 k < 6) ∧ (r 174 k = 2 → r 175 k < 8) ∧ (r 174 k = 3 → r 175 k < 4) ∧ (r 174 k = 4 → r 175 k < 4) ∧ (5 ≤ r 174 k → r 175 k < 12)
theorem l_findI {d : Nat} {s : rS} {k : Int} {Q : rS → hm_Out → Prop} (hR : RF s.1) (hL : LX s.1) (hN : NM s.1) (hk : 0 ≤ k ∧ k < s.1 170 14) (kk : ∀ i e : Int, (0 ≤ i ∧ i ≤ s.1 170 6 - s.1 170 5 ∧ 0 ≤ e ∧ e ≤ 1 ∧ (e = 1 → s.1 173 k.toNat - s.1 172 k.toNat = s.1 170 6 - s.1 170 5)) → wr d tb_M134 100 [(3, vi i), (2, vi e), (1, vi k), (0, .ref 170)] [] s Q) : ∀ (m : Nat) (i e : Int), (s.1 170 6 - s.1 170 5 - i).toNat = m → (0 ≤ i ∧ i ≤ s.1 170 6 - s.1 170 5 ∧ 0 ≤ e ∧ e ≤ 1 ∧ (e = 1 → s.1 173 k.toNat - s.1 172 k.toNat = s.1 170 6 - s.1 170 5)) → wr d tb_M134 44 [(3, vi i), (2, vi e), (1, vi k), (0, .ref 170)] [] s Q := by
  obtain ⟨x0, x1, x2, x3, x4, x5, x6⟩ := id hL
  obtain ⟨y0, y1, y2⟩ := id hN
  have hk9 := y2 k.toNat (by omega)
  intro m
  induction m using Nat.strongRecOn with | ind m ih => ?_
  intro i e hm hh
  refine wr_n (pc2 := 46) (lv2 := [(3, vi i), (2, vi e), (1, vi k), (0, .ref 170)]) (st2 := [.ref 170, vi i]) 2 (fun _ _ => rfl) ?_
  refine wr_get (v := vi (s.1 170 6)) rfl rfl rfl (by decide) rfl fun h1 => ?_
  have h1 : -2147483648 ≤ s.1 170 6 ∧ s.1 170 6 ≤ 2147483647 := h1
  show wr d tb_M134 49 [(3, vi i), (2, vi e), (1, vi k), (0, .ref 170)] [vi (s.1 170 6), vi i] s _
  refine wr_n (pc2 := 50) (lv2 := [(3, vi i), (2, vi e), (1, vi k), (0, .ref 170)]) (st2 := [.ref 170, vi (s.1 170 6), vi i]) 1 (fun _ _ => rfl) ?_
  refine wr_get (v := vi (s.1 170 5)) rfl rfl rfl (by decide) rfl fun h2 => ?_
  have h2 : -2147483648 ≤ s.1 170 5 ∧ s.1 170 5 ≤ 2147483647 := h2
  show wr d tb_M134 53 [(3, vi i), (2, vi e), (1, vi k), (0, .ref 170)] [vi (s.1 170 5), vi (s.1 170 6), vi i] s _
  refine wr_sub (a := s.1 170 6) (b := s.1 170 5) rfl ?_
  show wr d tb_M134 54 [(3, vi i), (2, vi e), (1, vi k), (0, .ref 170)] [vi ((s.1 170 6) - (s.1 170 5)), vi i] s _
  by_cases h3 : (s.1 170 6) - (s.1 170 5) ≤ i
  · refine wr_if2t rfl rfl (by unfold i32; omega) (by unfold i32; omega) h3 ?_
    exact kk i e (by omega)
  · refine wr_if2f rfl rfl (by unfold i32; omega) (by unfold i32; omega) h3 ?_
    refine wr_n (pc2 := 58) (lv2 := [(3, vi i), (2, vi e), (1, vi k), (0, .ref 170)]) (st2 := [vi e]) 1 (fun _ _ => rfl) ?_
    by_cases h4 : e = 0
    · refine wr_if1t rfl rfl (by unfold i32; omega) h4 ?_
      exact kk i e (by omega)
    · refine wr_if1f rfl rfl (by unfold i32; omega) h4 ?_
      refine wr_n (pc2 := 62) (lv2 := [(3, vi i), (2, vi e), (1, vi k), (0, .ref 170)]) (st2 := [.ref 170]) 1 (fun _ _ => rfl) ?_
      refine wr_get (v := .ref 171) rfl rfl rfl (by decide) (rv_ref (hR 170 0 171 rfl)) fun h5 => ?_
      show wr d tb_M134 65 [(3, vi i), (2, vi e), (1, vi k), (0, .ref 170)] [.ref 171] s _
      refine wr_n (pc2 := 66) (lv2 := [(3, vi i), (2, vi e), (1, vi k), (0, .ref 170)]) (st2 := [.ref 170, .ref 171]) 1 (fun _ _ => rfl) ?_
      refine wr_get (v := .ref 172) rfl rfl rfl (by decide) (rv_ref (hR 170 9 172 rfl)) fun h6 => ?_
      show wr d tb_M134 69 [(3, vi i), (2, vi e), (1, vi k), (0, .ref 170)] [.ref 172, .ref 171] s _
      refine wr_n (pc2 := 70) (lv2 := [(3, vi i), (2, vi e), (1, vi k), (0, .ref 170)]) (st2 := [vi k, .ref 172, .ref 171]) 1 (fun _ _ => rfl) ?_
      refine wr_ald (a := k) (v := vi (s.1 172 k.toNat)) rfl rfl rfl (by omega) (by omega) (by decide) rfl fun h7 => ?_
      have h7 : -2147483648 ≤ s.1 172 k.toNat ∧ s.1 172 k.toNat ≤ 2147483647 := h7
      show wr d tb_M134 71 [(3, vi i), (2, vi e), (1, vi k), (0, .ref 170)] [vi (s.1 172 k.toNat), .ref 171] s _
      refine wr_n (pc2 := 72) (lv2 := [(3, vi i), (2, vi e), (1, vi k), (0, .ref 170)]) (st2 := [vi i, vi (s.1 172 k.toNat), .ref 171]) 1 (fun _ _ => rfl) ?_
      refine wr_add (a := s.1 172 k.toNat) (b := i) rfl ?_
      show wr d tb_M134 73 [(3, vi i), (2, vi e), (1, vi k), (0, .ref 170)] [vi (s.1 172 k.toNat + i), .ref 171] s _
      refine wr_ald (a := s.1 172 k.toNat + i) (v := vi (s.1 171 ((s.1 172 k.toNat + i).toNat))) rfl rfl rfl (by omega) (by omega) (by decide) rfl fun h8 => ?_
      have h8 : -128 ≤ s.1 171 ((s.1 172 k.toNat + i).toNat) ∧ s.1 171 ((s.1 172 k.toNat + i).toNat) ≤ 127 := h8
      show wr d tb_M134 74 [(3, vi i), (2, vi e), (1, vi k), (0, .ref 170)] [vi (s.1 171 ((s.1 172 k.toNat + i).toNat))] s _
      refine wr_n (pc2 := 75) (lv2 := [(3, vi i), (2, vi e), (1, vi k), (0, .ref 170)]) (st2 := [.ref 170, vi (s.1 171 ((s.1 172 k.toNat + i).toNat))]) 1 (fun _ _ => rfl) ?_
      refine wr_get (v := .ref 171) rfl rfl rfl (by decide) (rv_ref (hR 170 0 171 rfl)) fun h9 => ?_
      show wr d tb_M134 78 [(3, vi i), (2, vi e), (1, vi k), (0, .ref 170)] [.ref 171, vi (s.1 171 ((s.1 172 k.toNat + i).toNat))] s _
      refine wr_n (pc2 := 79) (lv2 := [(3, vi i), (2, vi e), (1, vi k), (0, .ref 170)]) (st2 := [.ref 170, .ref 171, vi (s.1 171 ((s.1 172 k.toNat + i).toNat))]) 1 (fun _ _ => rfl) ?_
      refine wr_get (v := vi (s.1 170 5)) rfl rfl rfl (by decide) rfl fun h10 => ?_
      have h10 : -2147483648 ≤ s.1 170 5 ∧ s.1 170 5 ≤ 2147483647 := h10
      show wr d tb_M134 82 [(3, vi i), (2, vi e), (1, vi k), (0, .ref 170)] [vi (s.1 170 5), .ref 171, vi (s.1 171 ((s.1 172 k.toNat + i).toNat))] s _
      refine wr_n (pc2 := 83) (lv2 := [(3, vi i), (2, vi e), (1, vi k), (0, .ref 170)]) (st2 := [vi i, vi (s.1 170 5), .ref 171, vi (s.1 171 ((s.1 172 k.toNat + i).toNat))]) 1 (fun _ _ => rfl) ?_
      refine wr_add (a := s.1 170 5) (b := i) rfl ?_
      show wr d tb_M134 84 [(3, vi i), (2, vi e), (1, vi k), (0, .ref 170)] [vi (s.1 170 5 + i), .ref 171, vi (s.1 171 ((s.1 172 k.toNat + i).toNat))] s _
      refine wr_ald (a := s.1 170 5 + i) (v := vi (s.1 171 ((s.1 170 5 + i).toNat))) rfl rfl rfl (by omega) (by omega) (by decide) rfl fun h11 => ?_
      have h11 : -128 ≤ s.1 171 ((s.1 170 5 + i).toNat) ∧ s.1 171 ((s.1 170 5 + i).toNat) ≤ 127 := h11
      show wr d tb_M134 85 [(3, vi i), (2, vi e), (1, vi k), (0, .ref 170)] [vi (s.1 171 ((s.1 170 5 + i).toNat)), vi (s.1 171 ((s.1 172 k.toNat + i).toNat))] s _
      by_cases h12 : s.1 171 ((s.1 172 k.toNat + i).toNat) ≠ s.1 171 ((s.1 170 5 + i).toNat)
      · refine wr_if2t rfl rfl (by unfold i32; omega) (by unfold i32; omega) h12 ?_
        refine wr_n (pc2 := 94) (lv2 := [(2, vi 0), (3, vi i), (1, vi k), (0, .ref 170)]) (st2 := []) 2 (fun _ _ => rfl) ?_
        refine wr_inc (a := i) rfl rfl ?_
        show wr d tb_M134 97 [(3, vi (i + 1)), (2, vi 0), (1, vi k), (0, .ref 170)] [] s _
        refine wr_n (pc2 := 44) (lv2 := [(3, vi (i + 1)), (2, vi 0), (1, vi k), (0, .ref 170)]) (st2 := []) 1 (fun _ _ => rfl) ?_
        exact ih _ (by omega) (i + 1) 0 rfl (by omega)
      · refine wr_if2f rfl rfl (by unfold i32; omega) (by unfold i32; omega) h12 ?_
        refine wr_n (pc2 := 94) (lv2 := [(2, vi 1), (3, vi i), (1, vi k), (0, .ref 170)]) (st2 := []) 3 (fun _ _ => rfl) ?_
        refine wr_inc (a := i) rfl rfl ?_
        show wr d tb_M134 97 [(3, vi (i + 1)), (2, vi 1), (1, vi k), (0, .ref 170)] [] s _
        refine wr_n (pc2 := 44) (lv2 := [(3, vi (i + 1)), (2, vi 1), (1, vi k), (0, .ref 170)]) (st2 := []) 1 (fun _ _ => rfl) ?_
        exact ih _ (by omega) (i + 1) 1 rfl (by omega)
theorem l_findO {d : Nat} {s : rS} (hR : RF s.1) (hL : LX s.1) (hN : NM s.1) : ∀ (m : Nat) (k i0 e0 : Int), (k + 1).toNat = m → (-1 ≤ k ∧ k < s.1 170 14) → wr d tb_M134 7 [(1, vi k), (3, vi i0), (2, vi e0), (0, .ref 170)] [] s (fun s2 out => ∃ k : Int, out = some (some (vi k)) ∧ (-1 ≤ k ∧ k < s.1 170 14) ∧ s2 = s) := by
  obtain ⟨x0, x1, x2, x3, x4, x5, x6⟩ := id hL
  obtain ⟨y0, y1, y2⟩ := id hN
  intro m
  induction m using Nat.strongRecOn with | ind m ih => ?_
  intro k i0 e0 hm hh
  refine wr_n (pc2 := 8) (lv2 := [(1, vi k), (3, vi i0), (2, vi e0), (0, .ref 170)]) (st2 := [vi k]) 1 (fun _ _ => rfl) ?_
  by_cases h1 : k < 0
  · refine wr_if1t rfl rfl (by unfold i32; omega) h1 ?_
    refine wr_n (pc2 := 113) (lv2 := [(1, vi k), (3, vi i0), (2, vi e0), (0, .ref 170)]) (st2 := [vi ((-1))]) 1 (fun _ _ => rfl) ?_
    refine wr_end (fun _ _ => rfl) ?_
    exact ⟨(-1), rfl, by omega, rfl⟩
  · refine wr_if1f rfl rfl (by unfold i32; omega) h1 ?_
    have hk9 := y2 (k).toNat (by omega)
    refine wr_n (pc2 := 12) (lv2 := [(1, vi k), (3, vi i0), (2, vi e0), (0, .ref 170)]) (st2 := [.ref 170]) 1 (fun _ _ => rfl) ?_
    refine wr_get (v := .ref 173) rfl rfl rfl (by decide) (rv_ref (hR 170 10 173 rfl)) fun h2 => ?_
    show wr d tb_M134 15 [(1, vi k), (3, vi i0), (2, vi e0), (0, .ref 170)] [.ref 173] s _
    refine wr_n (pc2 := 16) (lv2 := [(1, vi k), (3, vi i0), (2, vi e0), (0, .ref 170)]) (st2 := [vi k, .ref 173]) 1 (fun _ _ => rfl) ?_
    refine wr_ald (a := k) (v := vi (s.1 173 k.toNat)) rfl rfl rfl (by omega) (by omega) (by decide) rfl fun h3 => ?_
    have h3 : -2147483648 ≤ s.1 173 k.toNat ∧ s.1 173 k.toNat ≤ 2147483647 := h3
    show wr d tb_M134 17 [(1, vi k), (3, vi i0), (2, vi e0), (0, .ref 170)] [vi (s.1 173 k.toNat)] s _
    refine wr_n (pc2 := 18) (lv2 := [(1, vi k), (3, vi i0), (2, vi e0), (0, .ref 170)]) (st2 := [.ref 170, vi (s.1 173 k.toNat)]) 1 (fun _ _ => rfl) ?_
    refine wr_get (v := .ref 172) rfl rfl rfl (by decide) (rv_ref (hR 170 9 172 rfl)) fun h4 => ?_
    show wr d tb_M134 21 [(1, vi k), (3, vi i0), (2, vi e0), (0, .ref 170)] [.ref 172, vi (s.1 173 k.toNat)] s _
    refine wr_n (pc2 := 22) (lv2 := [(1, vi k), (3, vi i0), (2, vi e0), (0, .ref 170)]) (st2 := [vi k, .ref 172, vi (s.1 173 k.toNat)]) 1 (fun _ _ => rfl) ?_
    refine wr_ald (a := k) (v := vi (s.1 172 k.toNat)) rfl rfl rfl (by omega) (by omega) (by decide) rfl fun h5 => ?_
    have h5 : -2147483648 ≤ s.1 172 k.toNat ∧ s.1 172 k.toNat ≤ 2147483647 := h5
    show wr d tb_M134 23 [(1, vi k), (3, vi i0), (2, vi e0), (0, .ref 170)] [vi (s.1 172 k.toNat), vi (s.1 173 k.toNat)] s _
    refine wr_sub (a := s.1 173 k.toNat) (b := s.1 172 k.toNat) rfl ?_
    show wr d tb_M134 24 [(1, vi k), (3, vi i0), (2, vi e0), (0, .ref 170)] [vi ((s.1 173 k.toNat) - (s.1 172 k.toNat))] s _
    refine wr_n (pc2 := 25) (lv2 := [(1, vi k), (3, vi i0), (2, vi e0), (0, .ref 170)]) (st2 := [.ref 170, vi ((s.1 173 k.toNat) - (s.1 172 k.toNat))]) 1 (fun _ _ => rfl) ?_
    refine wr_get (v := vi (s.1 170 6)) rfl rfl rfl (by decide) rfl fun h6 => ?_
    have h6 : -2147483648 ≤ s.1 170 6 ∧ s.1 170 6 ≤ 2147483647 := h6
    show wr d tb_M134 28 [(1, vi k), (3, vi i0), (2, vi e0), (0, .ref 170)] [vi (s.1 170 6), vi ((s.1 173 k.toNat) - (s.1 172 k.toNat))] s _
    refine wr_n (pc2 := 29) (lv2 := [(1, vi k), (3, vi i0), (2, vi e0), (0, .ref 170)]) (st2 := [.ref 170, vi (s.1 170 6), vi ((s.1 173 k.toNat) - (s.1 172 k.toNat))]) 1 (fun _ _ => rfl) ?_
    refine wr_get (v := vi (s.1 170 5)) rfl rfl rfl (by decide) rfl fun h7 => ?_
    have h7 : -2147483648 ≤ s.1 170 5 ∧ s.1 170 5 ≤ 2147483647 := h7
    show wr d tb_M134 32 [(1, vi k), (3, vi i0), (2, vi e0), (0, .ref 170)] [vi (s.1 170 5), vi (s.1 170 6), vi ((s.1 173 k.toNat) - (s.1 172 k.toNat))] s _
    refine wr_sub (a := s.1 170 6) (b := s.1 170 5) rfl ?_
    show wr d tb_M134 33 [(1, vi k), (3, vi i0), (2, vi e0), (0, .ref 170)] [vi ((s.1 170 6) - (s.1 170 5)), vi ((s.1 173 k.toNat) - (s.1 172 k.toNat))] s _
    by_cases h8 : (s.1 173 k.toNat) - (s.1 172 k.toNat) ≠ (s.1 170 6) - (s.1 170 5)
    · refine wr_if2t rfl rfl (by unfold i32; omega) (by unfold i32; omega) h8 ?_
      refine wr_n (pc2 := 44) (lv2 := [(3, vi 0), (2, vi 0), (1, vi k), (0, .ref 170)]) (st2 := []) 4 (fun _ _ => rfl) ?_
      refine l_findI (d := d) hR hL hN (k := k) (by omega) (fun i e hie => ?_) _ 0 0 rfl (by omega)
      show wr d tb_M134 100 [(3, vi i), (2, vi e), (1, vi k), (0, .ref 170)] [] s _
      refine wr_n (pc2 := 101) (lv2 := [(3, vi i), (2, vi e), (1, vi k), (0, .ref 170)]) (st2 := [vi e]) 1 (fun _ _ => rfl) ?_
      by_cases h9 : e = 0
      · refine wr_if1t rfl rfl (by unfold i32; omega) h9 ?_
        refine wr_inc (a := k) rfl rfl ?_
        show wr d tb_M134 109 [(1, vi (k + (-1))), (3, vi i), (2, vi e), (0, .ref 170)] [] s _
        refine wr_n (pc2 := 7) (lv2 := [(1, vi (k + (-1))), (3, vi i), (2, vi e), (0, .ref 170)]) (st2 := []) 1 (fun _ _ => rfl) ?_
        exact ih _ (by omega) (k + (-1)) i e rfl (by omega)
      · refine wr_if1f rfl rfl (by unfold i32; omega) h9 ?_
        refine wr_n (pc2 := 105) (lv2 := [(3, vi i), (2, vi e), (1, vi k), (0, .ref 170)]) (st2 := [vi k]) 1 (fun _ _ => rfl) ?_
        refine wr_reti rfl rfl ?_
        exact ⟨k, rfl, by omega, rfl⟩
    · refine wr_if2f rfl rfl (by unfold i32; omega) (by unfold i32; omega) h8 ?_
      refine wr_n (pc2 := 44) (lv2 := [(3, vi 0), (2, vi 1), (1, vi k), (0, .ref 170)]) (st2 := []) 5 (fun _ _ => rfl) ?_
      refine l_findI (d := d) hR hL hN (k := k) (by omega) (fun i e hie => ?_) _ 0 1 rfl (by omega)
      show wr d tb_M134 100 [(3, vi i), (2, vi e), (1, vi k), (0, .ref 170)] [] s _
      refine wr_n (pc2 := 101) (lv2 := [(3, vi i), (2, vi e), (1, vi k), (0, .ref 170)]) (st2 := [vi e]) 1 (fun _ _ => rfl) ?_
      by_cases h10 : e = 0
      · refine wr_if1t rfl rfl (by unfold i32; omega) h10 ?_
        refine wr_inc (a := k) rfl rfl ?_
        show wr d tb_M134 109 [(1, vi (k + (-1))), (3, vi i), (2, vi e), (0, .ref 170)] [] s _
        refine wr_n (pc2 := 7) (lv2 := [(1, vi (k + (-1))), (3, vi i), (2, vi e), (0, .ref 170)]) (st2 := []) 1 (fun _ _ => rfl) ?_
        exact ih _ (by omega) (k + (-1)) i e rfl (by omega)
      · refine wr_if1f rfl rfl (by unfold i32; omega) h10 ?_
        refine wr_n (pc2 := 105) (lv2 := [(3, vi i), (2, vi e), (1, vi k), (0, .ref 170)]) (st2 := [vi k]) 1 (fun _ _ => rfl) ?_
        refine wr_reti rfl rfl ?_
        exact ⟨k, rfl, by omega, rfl⟩
theorem l_find1 {d : Nat} {s : rS} (hR : RF s.1) (hL : LX s.1) (hN : NM s.1) {k : Int} (hk : -1 ≤ k ∧ k < s.1 170 14) : wr d tb_M134 7 [(1, vi k), (0, .ref 170)] [] s (fun s2 out => ∃ k : Int, out = some (some (vi k)) ∧ (-1 ≤ k ∧ k < s.1 170 14) ∧ s2 = s) := by
  obtain ⟨x0, x1, x2, x3, x4, x5, x6⟩ := id hL
  obtain ⟨y0, y1, y2⟩ := id hN
  refine wr_n (pc2 := 8) (lv2 := [(1, vi k), (0, .ref 170)]) (st2 := [vi k]) 1 (fun _ _ => rfl) ?_
  by_cases h1 : k < 0
  · refine wr_if1t rfl rfl (by unfold i32; omega) h1 ?_
    refine wr_n (pc2 := 113) (lv2 := [(1, vi k), (0, .ref 170)]) (st2 := [vi ((-1))]) 1 (fun _ _ => rfl) ?_
    refine wr_end (fun _ _ => rfl) ?_
    exact ⟨(-1), rfl, by omega, rfl⟩
  · refine wr_if1f rfl rfl (by unfold i32; omega) h1 ?_
    have hk9 := y2 (k).toNat (by omega)
    refine wr_n (pc2 := 12) (lv2 := [(1, vi k), (0, .ref 170)]) (st2 := [.ref 170]) 1 (fun _ _ => rfl) ?_
    refine wr_get (v := .ref 173) rfl rfl rfl (by decide) (rv_ref (hR 170 10 173 rfl)) fun h2 => ?_
    show wr d tb_M134 15 [(1, vi k), (0, .ref 170)] [.ref 173] s _
    refine wr_n (pc2 := 16) (lv2 := [(1, vi k), (0, .ref 170)]) (st2 := [vi k, .ref 173]) 1 (fun _ _ => rfl) ?_
    refine wr_ald (a := k) (v := vi (s.1 173 k.toNat)) rfl rfl rfl (by omega) (by omega) (by decide) rfl fun h3 => ?_
    have h3 : -2147483648 ≤ s.1 173 k.toNat ∧ s.1 173 k.toNat ≤ 2147483647 := h3
    show wr d tb_M134 17 [(1, vi k), (0, .ref 170)] [vi (s.1 173 k.toNat)] s _
    refine wr_n (pc2 := 18) (lv2 := [(1, vi k), (0, .ref 170)]) (st2 := [.ref 170, vi (s.1 173 k.toNat)]) 1 (fun _ _ => rfl) ?_
    refine wr_get (v := .ref 172) rfl rfl rfl (by decide) (rv_ref (hR 170 9 172 rfl)) fun h4 => ?_
    show wr d tb_M134 21 [(1, vi k), (0, .ref 170)] [.ref 172, vi (s.1 173 k.toNat)] s _
    refine wr_n (pc2 := 22) (lv2 := [(1, vi k), (0, .ref 170)]) (st2 := [vi k, .ref 172, vi (s.1 173 k.toNat)]) 1 (fun _ _ => rfl) ?_
    refine wr_ald (a := k) (v := vi (s.1 172 k.toNat)) rfl rfl rfl (by omega) (by omega) (by decide) rfl fun h5 => ?_
    have h5 : -2147483648 ≤ s.1 172 k.toNat ∧ s.1 172 k.toNat ≤ 2147483647 := h5
    show wr d tb_M134 23 [(1, vi k), (0, .ref 170)] [vi (s.1 172 k.toNat), vi (s.1 173 k.toNat)] s _
    refine wr_sub (a := s.1 173 k.toNat) (b := s.1 172 k.toNat) rfl ?_
    show wr d tb_M134 24 [(1, vi k), (0, .ref 170)] [vi ((s.1 173 k.toNat) - (s.1 172 k.toNat))] s _
    refine wr_n (pc2 := 25) (lv2 := [(1, vi k), (0, .ref 170)]) (st2 := [.ref 170, vi ((s.1 173 k.toNat) - (s.1 172 k.toNat))]) 1 (fun _ _ => rfl) ?_
    refine wr_get (v := vi (s.1 170 6)) rfl rfl rfl (by decide) rfl fun h6 => ?_
    have h6 : -2147483648 ≤ s.1 170 6 ∧ s.1 170 6 ≤ 2147483647 := h6
    show wr d tb_M134 28 [(1, vi k), (0, .ref 170)] [vi (s.1 170 6), vi ((s.1 173 k.toNat) - (s.1 172 k.toNat))] s _
    refine wr_n (pc2 := 29) (lv2 := [(1, vi k), (0, .ref 170)]) (st2 := [.ref 170, vi (s.1 170 6), vi ((s.1 173 k.toNat) - (s.1 172 k.toNat))]) 1 (fun _ _ => rfl) ?_
    refine wr_get (v := vi (s.1 170 5)) rfl rfl rfl (by decide) rfl fun h7 => ?_
    have h7 : -2147483648 ≤ s.1 170 5 ∧ s.1 170 5 ≤ 2147483647 := h7
    show wr d tb_M134 32 [(1, vi k), (0, .ref 170)] [vi (s.1 170 5), vi (s.1 170 6), vi ((s.1 173 k.toNat) - (s.1 172 k.toNat))] s _
    refine wr_sub (a := s.1 170 6) (b := s.1 170 5) rfl ?_
    show wr d tb_M134 33 [(1, vi k), (0, .ref 170)] [vi ((s.1 170 6) - (s.1 170 5)), vi ((s.1 173 k.toNat) - (s.1 172 k.toNat))] s _
    by_cases h8 : (s.1 173 k.toNat) - (s.1 172 k.toNat) ≠ (s.1 170 6) - (s.1 170 5)
    · refine wr_if2t rfl rfl (by unfold i32; omega) (by unfold i32; omega) h8 ?_
      refine wr_n (pc2 := 44) (lv2 := [(3, vi 0), (2, vi 0), (1, vi k), (0, .ref 170)]) (st2 := []) 4 (fun _ _ => rfl) ?_
      refine l_findI (d := d) hR hL hN (k := k) (by omega) (fun i e hie => ?_) _ 0 0 rfl (by omega)
      show wr d tb_M134 100 [(3, vi i), (2, vi e), (1, vi k), (0, .ref 170)] [] s _
      refine wr_n (pc2 := 101) (lv2 := [(3, vi i), (2, vi e), (1, vi k), (0, .ref 170)]) (st2 := [vi e]) 1 (fun _ _ => rfl) ?_
      by_cases h9 : e = 0
      · refine wr_if1t rfl rfl (by unfold i32; omega) h9 ?_
        refine wr_inc (a := k) rfl rfl ?_
        show wr d tb_M134 109 [(1, vi (k + (-1))), (3, vi i), (2, vi e), (0, .ref 170)] [] s _
        refine wr_n (pc2 := 7) (lv2 := [(1, vi (k + (-1))), (3, vi i), (2, vi e), (0, .ref 170)]) (st2 := []) 1 (fun _ _ => rfl) ?_
        exact l_findO (d := d) hR hL hN _ (k + (-1)) i e rfl (by omega)
      · refine wr_if1f rfl rfl (by unfold i32; omega) h9 ?_
        refine wr_n (pc2 := 105) (lv2 := [(3, vi i), (2, vi e), (1, vi k), (0, .ref 170)]) (st2 := [vi k]) 1 (fun _ _ => rfl) ?_
        refine wr_reti rfl rfl ?_
        exact ⟨k, rfl, by omega, rfl⟩
    · refine wr_if2f rfl rfl (by unfold i32; omega) (by unfold i32; omega) h8 ?_
      refine wr_n (pc2 := 44) (lv2 := [(3, vi 0), (2, vi 1), (1, vi k), (0, .ref 170)]) (st2 := []) 5 (fun _ _ => rfl) ?_
      refine l_findI (d := d) hR hL hN (k := k) (by omega) (fun i e hie => ?_) _ 0 1 rfl (by omega)
      show wr d tb_M134 100 [(3, vi i), (2, vi e), (1, vi k), (0, .ref 170)] [] s _
      refine wr_n (pc2 := 101) (lv2 := [(3, vi i), (2, vi e), (1, vi k), (0, .ref 170)]) (st2 := [vi e]) 1 (fun _ _ => rfl) ?_
      by_cases h10 : e = 0
      · refine wr_if1t rfl rfl (by unfold i32; omega) h10 ?_
        refine wr_inc (a := k) rfl rfl ?_
        show wr d tb_M134 109 [(1, vi (k + (-1))), (3, vi i), (2, vi e), (0, .ref 170)] [] s _
        refine wr_n (pc2 := 7) (lv2 := [(1, vi (k + (-1))), (3, vi i), (2, vi e), (0, .ref 170)]) (st2 := []) 1 (fun _ _ => rfl) ?_
        exact l_findO (d := d) hR hL hN _ (k + (-1)) i e rfl (by omega)
      · refine wr_if1f rfl rfl (by unfold i32; omega) h10 ?_
        refine wr_n (pc2 := 105) (lv2 := [(3, vi i), (2, vi e), (1, vi k), (0, .ref 170)]) (st2 := [vi k]) 1 (fun _ _ => rfl) ?_
        refine wr_reti rfl rfl ?_
        exact ⟨k, rfl, by omega, rfl⟩
theorem c_find {d : Nat} (s : rS) (hR : RF s.1) (hL : LX s.1) (hN : NM s.1) : cr (d + 1) 134 [.ref 170] s (fun s2 out => ∃ k : Int, out = some (some (vi k)) ∧ (-1 ≤ k ∧ k < s.1 170 14) ∧ s2 = s) := by
  obtain ⟨x0, x1, x2, x3, x4, x5, x6⟩ := id hL
  obtain ⟨y0, y1, y2⟩ := id hN
  refine cr_of (M := tb_M134) rfl (Nat.le_of_ble_eq_true rfl) ?_
  show wr d tb_M134 0 [(0, .ref 170)] [] s _
  refine wr_n (pc2 := 1) (lv2 := [(0, .ref 170)]) (st2 := [.ref 170]) 1 (fun _ _ => rfl) ?_
  refine wr_get (v := vi (s.1 170 14)) rfl rfl rfl (by decide) rfl fun h1 => ?_
  have h1 : -2147483648 ≤ s.1 170 14 ∧ s.1 170 14 ≤ 2147483647 := h1
  show wr d tb_M134 4 [(0, .ref 170)] [vi (s.1 170 14)] s _
  refine wr_n (pc2 := 5) (lv2 := [(0, .ref 170)]) (st2 := [vi 1, vi (s.1 170 14)]) 1 (fun _ _ => rfl) ?_
  refine wr_sub (a := s.1 170 14) (b := 1) rfl ?_
  show wr d tb_M134 6 [(0, .ref 170)] [vi ((s.1 170 14) - 1)] s _
  refine wr_n (pc2 := 7) (lv2 := [(1, vi ((s.1 170 14) - 1)), (0, .ref 170)]) (st2 := []) 1 (fun _ _ => rfl) ?_
  exact l_find1 (d := d) hR hL hN (by omega)
