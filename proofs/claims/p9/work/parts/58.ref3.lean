theorem isT_4 : isT 4 5 [.int 32, .int 118, .int 97, .int 114, .int 32, .int 105, .int 110, .int 116, .int 32, .int 97, .int 114, .int 114, .int 97, .int 121, .int 32, .int 99, .int 104, .int 97, .int 110, .int 32, .int 105, .int 110, .int 32, .int 111, .int 117, .int 116, .int 32, .int 112, .int 114, .int 111, .int 99, .int 32, .int 102, .int 117, .int 110, .int 32, .int 105, .int 102, .int 32, .int 101, .int 108, .int 115, .int 101, .int 32, .int 119, .int 104, .int 105, .int 108, .int 101, .int 32, .int 114, .int 101, .int 112, .int 101, .int 97, .int 116, .int 32, .int 112, .int 97, .int 114, .int 32, .int 114, .int 101, .int 116, .int 117, .int 114, .int 110, .int 32, .int 115, .int 107, .int 105, .int 112, .int 32] := ⟨rfl, rfl, by decide, by decide⟩
theorem l_resI {d : Nat} {s : rS} {n k : Int} {Q : rS → hm_Out → Prop} (hR : RF s.1) (hf : 0 ≤ s.1 170 5) (ht : s.1 170 5 + n = s.1 170 6) (hz : s.1 170 6 ≤ 2000) (hn : 0 ≤ n) (hk : 0 ≤ k ∧ k + n + 1 < 73) (kk : ∀ i e : Int, (0 ≤ i ∧ i ≤ n ∧ 0 ≤ e ∧ e ≤ 1) → wr (d + 4) tb_M126 110 [(5, vi i), (4, vi e), (3, vi k), (2, vi n), (1, .ref 4), (0, .ref 170)] [] s Q) : ∀ (m : Nat) (i e : Int), (n - i).toNat = m → (0 ≤ i ∧ i ≤ n ∧ 0 ≤ e ∧ e ≤ 1) → wr (d + 4) tb_M126 61 [(5, vi i), (4, vi e), (3, vi k), (2, vi n), (1, .ref 4), (0, .ref 170)] [] s Q := by
  intro m
  induction m using Nat.strongRecOn with | ind m ih => ?_
  intro i e hm hh
  refine wr_n (pc2 := 64) (lv2 := [(5, vi i), (4, vi e), (3, vi k), (2, vi n), (1, .ref 4), (0, .ref 170)]) (st2 := [vi n, vi i]) 2 (fun _ _ => rfl) ?_
  by_cases h1 : n ≤ i
  · refine wr_if2t rfl rfl (by unfold i32; omega) (by unfold i32; omega) h1 ?_
    exact kk i e (by omega)
  · refine wr_if2f rfl rfl (by unfold i32; omega) (by unfold i32; omega) h1 ?_
    refine wr_n (pc2 := 69) (lv2 := [(5, vi i), (4, vi e), (3, vi k), (2, vi n), (1, .ref 4), (0, .ref 170)]) (st2 := [vi e]) 1 (fun _ _ => rfl) ?_
    by_cases h2 : e = 0
    · refine wr_if1t rfl rfl (by unfold i32; omega) h2 ?_
      exact kk i e (by omega)
    · refine wr_if1f rfl rfl (by unfold i32; omega) h2 ?_
      refine wr_n (pc2 := 75) (lv2 := [(5, vi i), (4, vi e), (3, vi k), (2, vi n), (1, .ref 4), (0, .ref 170)]) (st2 := [vi 1, vi k, .ref 4]) 3 (fun _ _ => rfl) ?_
      refine wr_add (a := k) (b := 1) rfl ?_
      show wr (d + 4) tb_M126 76 [(5, vi i), (4, vi e), (3, vi k), (2, vi n), (1, .ref 4), (0, .ref 170)] [vi (k + 1), .ref 4] s _
      refine wr_n (pc2 := 78) (lv2 := [(5, vi i), (4, vi e), (3, vi k), (2, vi n), (1, .ref 4), (0, .ref 170)]) (st2 := [vi i, vi (k + 1), .ref 4]) 1 (fun _ _ => rfl) ?_
      refine wr_add (a := k + 1) (b := i) rfl ?_
      show wr (d + 4) tb_M126 79 [(5, vi i), (4, vi e), (3, vi k), (2, vi n), (1, .ref 4), (0, .ref 170)] [vi (k + 1 + i), .ref 4] s _
      refine wr_call4 (args := [vi (k + 1 + i)]) (rest := []) rfl rfl rfl isT_4.1 (Nat.le_of_ble_eq_true rfl) (cr_mono (c_charAt (d := d) isT_4 (i := k + 1 + i) (by omega) (show _ < (73 : Int) by omega)) ?_)
      rintro s6 out ⟨z3, rfl, h4, e5⟩
      refine ⟨_, rfl, ?_⟩
      rw [e5]
      show wr (d + 4) tb_M126 82 [(5, vi i), (4, vi e), (3, vi k), (2, vi n), (1, .ref 4), (0, .ref 170)] [vi z3] s _
      refine wr_n (pc2 := 83) (lv2 := [(5, vi i), (4, vi e), (3, vi k), (2, vi n), (1, .ref 4), (0, .ref 170)]) (st2 := [.ref 170, vi z3]) 1 (fun _ _ => rfl) ?_
      refine wr_get (v := .ref 171) rfl rfl rfl (by decide) (rv_ref (hR 170 0 171 rfl)) fun h7 => ?_
      show wr (d + 4) tb_M126 86 [(5, vi i), (4, vi e), (3, vi k), (2, vi n), (1, .ref 4), (0, .ref 170)] [.ref 171, vi z3] s _
      refine wr_n (pc2 := 87) (lv2 := [(5, vi i), (4, vi e), (3, vi k), (2, vi n), (1, .ref 4), (0, .ref 170)]) (st2 := [.ref 170, .ref 171, vi z3]) 1 (fun _ _ => rfl) ?_
      refine wr_get (v := vi (s.1 170 5)) rfl rfl rfl (by decide) rfl fun h8 => ?_
      have h8 : -2147483648 ≤ s.1 170 5 ∧ s.1 170 5 ≤ 2147483647 := h8
      show wr (d + 4) tb_M126 90 [(5, vi i), (4, vi e), (3, vi k), (2, vi n), (1, .ref 4), (0, .ref 170)] [vi (s.1 170 5), .ref 171, vi z3] s _
      refine wr_n (pc2 := 92) (lv2 := [(5, vi i), (4, vi e), (3, vi k), (2, vi n), (1, .ref 4), (0, .ref 170)]) (st2 := [vi i, vi (s.1 170 5), .ref 171, vi z3]) 1 (fun _ _ => rfl) ?_
      refine wr_add (a := s.1 170 5) (b := i) rfl ?_
      show wr (d + 4) tb_M126 93 [(5, vi i), (4, vi e), (3, vi k), (2, vi n), (1, .ref 4), (0, .ref 170)] [vi (s.1 170 5 + i), .ref 171, vi z3] s _
      refine wr_ald (a := s.1 170 5 + i) (v := vi (s.1 171 ((s.1 170 5 + i).toNat))) rfl rfl rfl (by omega) (by omega) (by decide) rfl fun h9 => ?_
      have h9 : -128 ≤ s.1 171 ((s.1 170 5 + i).toNat) ∧ s.1 171 ((s.1 170 5 + i).toNat) ≤ 127 := h9
      show wr (d + 4) tb_M126 94 [(5, vi i), (4, vi e), (3, vi k), (2, vi n), (1, .ref 4), (0, .ref 170)] [vi (s.1 171 ((s.1 170 5 + i).toNat)), vi z3] s _
      by_cases h10 : z3 ≠ s.1 171 ((s.1 170 5 + i).toNat)
      · refine wr_if2t rfl rfl (by unfold i32; omega) (by unfold i32; omega) h10 ?_
        refine wr_n (pc2 := 104) (lv2 := [(4, vi 0), (5, vi i), (3, vi k), (2, vi n), (1, .ref 4), (0, .ref 170)]) (st2 := []) 2 (fun _ _ => rfl) ?_
        refine wr_inc (a := i) rfl rfl ?_
        show wr (d + 4) tb_M126 107 [(5, vi (i + 1)), (4, vi 0), (3, vi k), (2, vi n), (1, .ref 4), (0, .ref 170)] [] s _
        refine wr_n (pc2 := 61) (lv2 := [(5, vi (i + 1)), (4, vi 0), (3, vi k), (2, vi n), (1, .ref 4), (0, .ref 170)]) (st2 := []) 1 (fun _ _ => rfl) ?_
        exact ih _ (by omega) (i + 1) 0 rfl (by omega)
      · refine wr_if2f rfl rfl (by unfold i32; omega) (by unfold i32; omega) h10 ?_
        refine wr_n (pc2 := 104) (lv2 := [(4, vi 1), (5, vi i), (3, vi k), (2, vi n), (1, .ref 4), (0, .ref 170)]) (st2 := []) 3 (fun _ _ => rfl) ?_
        refine wr_inc (a := i) rfl rfl ?_
        show wr (d + 4) tb_M126 107 [(5, vi (i + 1)), (4, vi 1), (3, vi k), (2, vi n), (1, .ref 4), (0, .ref 170)] [] s _
        refine wr_n (pc2 := 61) (lv2 := [(5, vi (i + 1)), (4, vi 1), (3, vi k), (2, vi n), (1, .ref 4), (0, .ref 170)]) (st2 := []) 1 (fun _ _ => rfl) ?_
        exact ih _ (by omega) (i + 1) 1 rfl (by omega)
theorem l_resO {d : Nat} {s : rS} {n : Int} (hR : RF s.1) (hf : 0 ≤ s.1 170 5) (ht : s.1 170 5 + n = s.1 170 6) (hz : s.1 170 6 ≤ 2000) (hn : 0 ≤ n ∧ n ≤ 2000) : ∀ (m : Nat) (k i0 e0 : Int), (73 - k).toNat = m → (0 ≤ k ∧ k ≤ 73) → wr (d + 4) tb_M126 15 [(3, vi k), (5, vi i0), (4, vi e0), (2, vi n), (1, .ref 4), (0, .ref 170)] [] s (fun s2 out => ∃ b : Int, out = some (some (vi b)) ∧ (0 ≤ b ∧ b ≤ 1) ∧ s2 = s) := by
  intro m
  induction m using Nat.strongRecOn with | ind m ih => ?_
  intro k i0 e0 hm hh
  refine wr_n (pc2 := 17) (lv2 := [(3, vi k), (5, vi i0), (4, vi e0), (2, vi n), (1, .ref 4), (0, .ref 170)]) (st2 := [vi n, vi k]) 2 (fun _ _ => rfl) ?_
  refine wr_add (a := k) (b := n) rfl ?_
  show wr (d + 4) tb_M126 18 [(3, vi k), (5, vi i0), (4, vi e0), (2, vi n), (1, .ref 4), (0, .ref 170)] [vi (k + n)] s _
  refine wr_n (pc2 := 19) (lv2 := [(3, vi k), (5, vi i0), (4, vi e0), (2, vi n), (1, .ref 4), (0, .ref 170)]) (st2 := [vi 1, vi (k + n)]) 1 (fun _ _ => rfl) ?_
  refine wr_add (a := k + n) (b := 1) rfl ?_
  show wr (d + 4) tb_M126 20 [(3, vi k), (5, vi i0), (4, vi e0), (2, vi n), (1, .ref 4), (0, .ref 170)] [vi (k + n + 1)] s _
  refine wr_n (pc2 := 21) (lv2 := [(3, vi k), (5, vi i0), (4, vi e0), (2, vi n), (1, .ref 4), (0, .ref 170)]) (st2 := [.ref 4, vi (k + n + 1)]) 1 (fun _ _ => rfl) ?_
  refine wr_call4 (args := []) (rest := [vi (k + n + 1)]) rfl rfl rfl isT_4.1 (Nat.le_of_ble_eq_true rfl) (cr_mono (c_length (d := d + 2) isT_4) ?_)
  rintro s2 out ⟨rfl, e1⟩
  refine ⟨_, rfl, ?_⟩
  rw [e1]
  show wr (d + 4) tb_M126 24 [(3, vi k), (5, vi i0), (4, vi e0), (2, vi n), (1, .ref 4), (0, .ref 170)] [vi 73, vi (k + n + 1)] s _
  by_cases h3 : 73 ≤ k + n + 1
  · refine wr_if2t rfl rfl (by unfold i32; omega) (by unfold i32; omega) h3 ?_
    refine wr_n (pc2 := 124) (lv2 := [(3, vi k), (5, vi i0), (4, vi e0), (2, vi n), (1, .ref 4), (0, .ref 170)]) (st2 := [vi 0]) 1 (fun _ _ => rfl) ?_
    refine wr_end (fun _ _ => rfl) ?_
    exact ⟨0, rfl, by omega, rfl⟩
  · refine wr_if2f rfl rfl (by unfold i32; omega) (by unfold i32; omega) h3 ?_
    refine wr_n (pc2 := 29) (lv2 := [(3, vi k), (5, vi i0), (4, vi e0), (2, vi n), (1, .ref 4), (0, .ref 170)]) (st2 := [vi k, .ref 4]) 2 (fun _ _ => rfl) ?_
    refine wr_call4 (args := [vi k]) (rest := []) rfl rfl rfl isT_4.1 (Nat.le_of_ble_eq_true rfl) (cr_mono (c_charAt (d := d) isT_4 (i := k) (by omega) (show _ < (73 : Int) by omega)) ?_)
    rintro s7 out ⟨z4, rfl, h5, e6⟩
    refine ⟨_, rfl, ?_⟩
    rw [e6]
    show wr (d + 4) tb_M126 32 [(3, vi k), (5, vi i0), (4, vi e0), (2, vi n), (1, .ref 4), (0, .ref 170)] [vi z4] s _
    refine wr_n (pc2 := 34) (lv2 := [(3, vi k), (5, vi i0), (4, vi e0), (2, vi n), (1, .ref 4), (0, .ref 170)]) (st2 := [vi 32, vi z4]) 1 (fun _ _ => rfl) ?_
    by_cases h8 : z4 ≠ 32
    · refine wr_if2t rfl rfl (by unfold i32; omega) (by unfold i32; omega) h8 ?_
      refine wr_n (pc2 := 61) (lv2 := [(5, vi 0), (4, vi 0), (3, vi k), (2, vi n), (1, .ref 4), (0, .ref 170)]) (st2 := []) 4 (fun _ _ => rfl) ?_
      refine l_resI (d := d) hR hf ht hz hn.1 (k := k) (by omega) (fun i e hie => ?_) _ 0 0 rfl (by omega)
      show wr (d + 4) tb_M126 110 [(5, vi i), (4, vi e), (3, vi k), (2, vi n), (1, .ref 4), (0, .ref 170)] [] s _
      refine wr_n (pc2 := 112) (lv2 := [(5, vi i), (4, vi e), (3, vi k), (2, vi n), (1, .ref 4), (0, .ref 170)]) (st2 := [vi e]) 1 (fun _ _ => rfl) ?_
      by_cases h9 : e = 0
      · refine wr_if1t rfl rfl (by unfold i32; omega) h9 ?_
        refine wr_inc (a := k) rfl rfl ?_
        show wr (d + 4) tb_M126 120 [(3, vi (k + 1)), (5, vi i), (4, vi e), (2, vi n), (1, .ref 4), (0, .ref 170)] [] s _
        refine wr_n (pc2 := 15) (lv2 := [(3, vi (k + 1)), (5, vi i), (4, vi e), (2, vi n), (1, .ref 4), (0, .ref 170)]) (st2 := []) 1 (fun _ _ => rfl) ?_
        exact ih _ (by omega) (k + 1) i e rfl (by omega)
      · refine wr_if1f rfl rfl (by unfold i32; omega) h9 ?_
        refine wr_n (pc2 := 116) (lv2 := [(5, vi i), (4, vi e), (3, vi k), (2, vi n), (1, .ref 4), (0, .ref 170)]) (st2 := [vi 1]) 1 (fun _ _ => rfl) ?_
        refine wr_end (fun _ _ => rfl) ?_
        exact ⟨1, rfl, by omega, rfl⟩
    · refine wr_if2f rfl rfl (by unfold i32; omega) (by unfold i32; omega) h8 ?_
      refine wr_n (pc2 := 40) (lv2 := [(3, vi k), (5, vi i0), (4, vi e0), (2, vi n), (1, .ref 4), (0, .ref 170)]) (st2 := [vi n, vi k, .ref 4]) 3 (fun _ _ => rfl) ?_
      refine wr_add (a := k) (b := n) rfl ?_
      show wr (d + 4) tb_M126 41 [(3, vi k), (5, vi i0), (4, vi e0), (2, vi n), (1, .ref 4), (0, .ref 170)] [vi (k + n), .ref 4] s _
      refine wr_n (pc2 := 42) (lv2 := [(3, vi k), (5, vi i0), (4, vi e0), (2, vi n), (1, .ref 4), (0, .ref 170)]) (st2 := [vi 1, vi (k + n), .ref 4]) 1 (fun _ _ => rfl) ?_
      refine wr_add (a := k + n) (b := 1) rfl ?_
      show wr (d + 4) tb_M126 43 [(3, vi k), (5, vi i0), (4, vi e0), (2, vi n), (1, .ref 4), (0, .ref 170)] [vi (k + n + 1), .ref 4] s _
      refine wr_call4 (args := [vi (k + n + 1)]) (rest := []) rfl rfl rfl isT_4.1 (Nat.le_of_ble_eq_true rfl) (cr_mono (c_charAt (d := d) isT_4 (i := k + n + 1) (by omega) (show _ < (73 : Int) by omega)) ?_)
      rintro s13 out ⟨z10, rfl, h11, e12⟩
      refine ⟨_, rfl, ?_⟩
      rw [e12]
      show wr (d + 4) tb_M126 46 [(3, vi k), (5, vi i0), (4, vi e0), (2, vi n), (1, .ref 4), (0, .ref 170)] [vi z10] s _
      refine wr_n (pc2 := 48) (lv2 := [(3, vi k), (5, vi i0), (4, vi e0), (2, vi n), (1, .ref 4), (0, .ref 170)]) (st2 := [vi 32, vi z10]) 1 (fun _ _ => rfl) ?_
      by_cases h14 : z10 ≠ 32
      · refine wr_if2t rfl rfl (by unfold i32; omega) (by unfold i32; omega) h14 ?_
        refine wr_n (pc2 := 61) (lv2 := [(5, vi 0), (4, vi 0), (3, vi k), (2, vi n), (1, .ref 4), (0, .ref 170)]) (st2 := []) 4 (fun _ _ => rfl) ?_
        refine l_resI (d := d) hR hf ht hz hn.1 (k := k) (by omega) (fun i e hie => ?_) _ 0 0 rfl (by omega)
        show wr (d + 4) tb_M126 110 [(5, vi i), (4, vi e), (3, vi k), (2, vi n), (1, .ref 4), (0, .ref 170)] [] s _
        refine wr_n (pc2 := 112) (lv2 := [(5, vi i), (4, vi e), (3, vi k), (2, vi n), (1, .ref 4), (0, .ref 170)]) (st2 := [vi e]) 1 (fun _ _ => rfl) ?_
        by_cases h15 : e = 0
        · refine wr_if1t rfl rfl (by unfold i32; omega) h15 ?_
          refine wr_inc (a := k) rfl rfl ?_
          show wr (d + 4) tb_M126 120 [(3, vi (k + 1)), (5, vi i), (4, vi e), (2, vi n), (1, .ref 4), (0, .ref 170)] [] s _
          refine wr_n (pc2 := 15) (lv2 := [(3, vi (k + 1)), (5, vi i), (4, vi e), (2, vi n), (1, .ref 4), (0, .ref 170)]) (st2 := []) 1 (fun _ _ => rfl) ?_
          exact ih _ (by omega) (k + 1) i e rfl (by omega)
        · refine wr_if1f rfl rfl (by unfold i32; omega) h15 ?_
          refine wr_n (pc2 := 116) (lv2 := [(5, vi i), (4, vi e), (3, vi k), (2, vi n), (1, .ref 4), (0, .ref 170)]) (st2 := [vi 1]) 1 (fun _ _ => rfl) ?_
          refine wr_end (fun _ _ => rfl) ?_
          exact ⟨1, rfl, by omega, rfl⟩
      · refine wr_if2f rfl rfl (by unfold i32; omega) (by unfold i32; omega) h14 ?_
        refine wr_n (pc2 := 61) (lv2 := [(5, vi 0), (4, vi 1), (3, vi k), (2, vi n), (1, .ref 4), (0, .ref 170)]) (st2 := []) 5 (fun _ _ => rfl) ?_
        refine l_resI (d := d) hR hf ht hz hn.1 (k := k) (by omega) (fun i e hie => ?_) _ 0 1 rfl (by omega)
        show wr (d + 4) tb_M126 110 [(5, vi i), (4, vi e), (3, vi k), (2, vi n), (1, .ref 4), (0, .ref 170)] [] s _
        refine wr_n (pc2 := 112) (lv2 := [(5, vi i), (4, vi e), (3, vi k), (2, vi n), (1, .ref 4), (0, .ref 170)]) (st2 := [vi e]) 1 (fun _ _ => rfl) ?_
        by_cases h16 : e = 0
        · refine wr_if1t rfl rfl (by unfold i32; omega) h16 ?_
          refine wr_inc (a := k) rfl rfl ?_
          show wr (d + 4) tb_M126 120 [(3, vi (k + 1)), (5, vi i), (4, vi e), (2, vi n), (1, .ref 4), (0, .ref 170)] [] s _
          refine wr_n (pc2 := 15) (lv2 := [(3, vi (k + 1)), (5, vi i), (4, vi e), (2, vi n), (1, .ref 4), (0, .ref 170)]) (st2 := []) 1 (fun _ _ => rfl) ?_
          exact ih _ (by omega) (k + 1) i e rfl (by omega)
        · refine wr_if1f rfl rfl (by unfold i32; omega) h16 ?_
          refine wr_n (pc2 := 116) (lv2 := [(5, vi i), (4, vi e), (3, vi k), (2, vi n), (1, .ref 4), (0, .ref 170)]) (st2 := [vi 1]) 1 (fun _ _ => rfl) ?_
          refine wr_end (fun _ _ => rfl) ?_
          exact ⟨1, rfl, by omega, rfl⟩
theorem l_res1 {d : Nat} {s : rS} {n : Int} (hR : RF s.1) (hf : 0 ≤ s.1 170 5) (ht : s.1 170 5 + n = s.1 170 6) (hz : s.1 170 6 ≤ 2000) (hn : 0 ≤ n ∧ n ≤ 2000) : wr (d + 4) tb_M126 15 [(3, vi 0), (2, vi n), (1, .ref 4), (0, .ref 170)] [] s (fun s2 out => ∃ b : Int, out = some (some (vi b)) ∧ (0 ≤ b ∧ b ≤ 1) ∧ s2 = s) := by
  refine wr_n (pc2 := 17) (lv2 := [(3, vi 0), (2, vi n), (1, .ref 4), (0, .ref 170)]) (st2 := [vi n, vi 0]) 2 (fun _ _ => rfl) ?_
  refine wr_add (a := 0) (b := n) rfl ?_
  show wr (d + 4) tb_M126 18 [(3, vi 0), (2, vi n), (1, .ref 4), (0, .ref 170)] [vi (0 + n)] s _
  refine wr_n (pc2 := 19) (lv2 := [(3, vi 0), (2, vi n), (1, .ref 4), (0, .ref 170)]) (st2 := [vi 1, vi (0 + n)]) 1 (fun _ _ => rfl) ?_
  refine wr_add (a := 0 + n) (b := 1) rfl ?_
  show wr (d + 4) tb_M126 20 [(3, vi 0), (2, vi n), (1, .ref 4), (0, .ref 170)] [vi (0 + n + 1)] s _
  refine wr_n (pc2 := 21) (lv2 := [(3, vi 0), (2, vi n), (1, .ref 4), (0, .ref 170)]) (st2 := [.ref 4, vi (0 + n + 1)]) 1 (fun _ _ => rfl) ?_
  refine wr_call4 (args := []) (rest := [vi (0 + n + 1)]) rfl rfl rfl isT_4.1 (Nat.le_of_ble_eq_true rfl) (cr_mono (c_length (d := d + 2) isT_4) ?_)
  rintro s2 out ⟨rfl, e1⟩
  refine ⟨_, rfl, ?_⟩
  rw [e1]
  show wr (d + 4) tb_M126 24 [(3, vi 0), (2, vi n), (1, .ref 4), (0, .ref 170)] [vi 73, vi (0 + n + 1)] s _
  by_cases h3 : 73 ≤ 0 + n + 1
  · refine wr_if2t rfl rfl (by unfold i32; omega) (by unfold i32; omega) h3 ?_
    refine wr_n (pc2 := 124) (lv2 := [(3, vi 0), (2, vi n), (1, .ref 4), (0, .ref 170)]) (st2 := [vi 0]) 1 (fun _ _ => rfl) ?_
    refine wr_end (fun _ _ => rfl) ?_
    exact ⟨0, rfl, by omega, rfl⟩
  · refine wr_if2f rfl rfl (by unfold i32; omega) (by unfold i32; omega) h3 ?_
    refine wr_n (pc2 := 29) (lv2 := [(3, vi 0), (2, vi n), (1, .ref 4), (0, .ref 170)]) (st2 := [vi 0, .ref 4]) 2 (fun _ _ => rfl) ?_
    refine wr_call4 (args := [vi 0]) (rest := []) rfl rfl rfl isT_4.1 (Nat.le_of_ble_eq_true rfl) (cr_mono (c_charAt (d := d) isT_4 (i := 0) (by omega) (show _ < (73 : Int) by omega)) ?_)
    rintro s7 out ⟨z4, rfl, h5, e6⟩
    refine ⟨_, rfl, ?_⟩
    rw [e6]
    show wr (d + 4) tb_M126 32 [(3, vi 0), (2, vi n), (1, .ref 4), (0, .ref 170)] [vi z4] s _
    refine wr_n (pc2 := 34) (lv2 := [(3, vi 0), (2, vi n), (1, .ref 4), (0, .ref 170)]) (st2 := [vi 32, vi z4]) 1 (fun _ _ => rfl) ?_
    by_cases h8 : z4 ≠ 32
    · refine wr_if2t rfl rfl (by unfold i32; omega) (by unfold i32; omega) h8 ?_
      refine wr_n (pc2 := 61) (lv2 := [(5, vi 0), (4, vi 0), (3, vi 0), (2, vi n), (1, .ref 4), (0, .ref 170)]) (st2 := []) 4 (fun _ _ => rfl) ?_
      refine l_resI (d := d) hR hf ht hz hn.1 (k := 0) (by omega) (fun i e hie => ?_) _ 0 0 rfl (by omega)
      show wr (d + 4) tb_M126 110 [(5, vi i), (4, vi e), (3, vi 0), (2, vi n), (1, .ref 4), (0, .ref 170)] [] s _
      refine wr_n (pc2 := 112) (lv2 := [(5, vi i), (4, vi e), (3, vi 0), (2, vi n), (1, .ref 4), (0, .ref 170)]) (st2 := [vi e]) 1 (fun _ _ => rfl) ?_
      by_cases h9 : e = 0
      · refine wr_if1t rfl rfl (by unfold i32; omega) h9 ?_
        refine wr_inc (a := 0) rfl rfl ?_
        show wr (d + 4) tb_M126 120 [(3, vi (0 + 1)), (5, vi i), (4, vi e), (2, vi n), (1, .ref 4), (0, .ref 170)] [] s _
        refine wr_n (pc2 := 15) (lv2 := [(3, vi (0 + 1)), (5, vi i), (4, vi e), (2, vi n), (1, .ref 4), (0, .ref 170)]) (st2 := []) 1 (fun _ _ => rfl) ?_
        exact l_resO (d := d) hR hf ht hz hn _ (0 + 1) i e rfl (by omega)
      · refine wr_if1f rfl rfl (by unfold i32; omega) h9 ?_
        refine wr_n (pc2 := 116) (lv2 := [(5, vi i), (4, vi e), (3, vi 0), (2, vi n), (1, .ref 4), (0, .ref 170)]) (st2 := [vi 1]) 1 (fun _ _ => rfl) ?_
        refine wr_end (fun _ _ => rfl) ?_
        exact ⟨1, rfl, by omega, rfl⟩
    · refine wr_if2f rfl rfl (by unfold i32; omega) (by unfold i32; omega) h8 ?_
      refine wr_n (pc2 := 40) (lv2 := [(3, vi 0), (2, vi n), (1, .ref 4), (0, .ref 170)]) (st2 := [vi n, vi 0, .ref 4]) 3 (fun _ _ => rfl) ?_
      refine wr_add (a := 0) (b := n) rfl ?_
      show wr (d + 4) tb_M126 41 [(3, vi 0), (2, vi n), (1, .ref 4), (0, .ref 170)] [vi (0 + n), .ref 4] s _
      refine wr_n (pc2 := 42) (lv2 := [(3, vi 0), (2, vi n), (1, .ref 4), (0, .ref 170)]) (st2 := [vi 1, vi (0 + n), .ref 4]) 1 (fun _ _ => rfl) ?_
      refine wr_add (a := 0 + n) (b := 1) rfl ?_
      show wr (d + 4) tb_M126 43 [(3, vi 0), (2, vi n), (1, .ref 4), (0, .ref 170)] [vi (0 + n + 1), .ref 4] s _
      refine wr_call4 (args := [vi (0 + n + 1)]) (rest := []) rfl rfl rfl isT_4.1 (Nat.le_of_ble_eq_true rfl) (cr_mono (c_charAt (d := d) isT_4 (i := 0 + n + 1) (by omega) (show _ < (73 : Int) by omega)) ?_)
      rintro s13 out ⟨z10, rfl, h11, e12⟩
      refine ⟨_, rfl, ?_⟩
      rw [e12]
      show wr (d + 4) tb_M126 46 [(3, vi 0), (2, vi n), (1, .ref 4), (0, .ref 170)] [vi z10] s _
      refine wr_n (pc2 := 48) (lv2 := [(3, vi 0), (2, vi n), (1, .ref 4), (0, .ref 170)]) (st2 := [vi 32, vi z10]) 1 (fun _ _ => rfl) ?_
      by_cases h14 : z10 ≠ 32
      · refine wr_if2t rfl rfl (by unfold i32; omega) (by unfold i32; omega) h14 ?_
        refine wr_n (pc2 := 61) (lv2 := [(5, vi 0), (4, vi 0), (3, vi 0), (2, vi n), (1, .ref 4), (0, .ref 170)]) (st2 := []) 4 (fun _ _ => rfl) ?_
        refine l_resI (d := d) hR hf ht hz hn.1 (k := 0) (by omega) (fun i e hie => ?_) _ 0 0 rfl (by omega)
        show wr (d + 4) tb_M126 110 [(5, vi i), (4, vi e), (3, vi 0), (2, vi n), (1, .ref 4), (0, .ref 170)] [] s _
        refine wr_n (pc2 := 112) (lv2 := [(5, vi i), (4, vi e), (3, vi 0), (2, vi n), (1, .ref 4), (0, .ref 170)]) (st2 := [vi e]) 1 (fun _ _ => rfl) ?_
        by_cases h15 : e = 0
        · refine wr_if1t rfl rfl (by unfold i32; omega) h15 ?_
          refine wr_inc (a := 0) rfl rfl ?_
          show wr (d + 4) tb_M126 120 [(3, vi (0 + 1)), (5, vi i), (4, vi e), (2, vi n), (1, .ref 4), (0, .ref 170)] [] s _
          refine wr_n (pc2 := 15) (lv2 := [(3, vi (0 + 1)), (5, vi i), (4, vi e), (2, vi n), (1, .ref 4), (0, .ref 170)]) (st2 := []) 1 (fun _ _ => rfl) ?_
          exact l_resO (d := d) hR hf ht hz hn _ (0 + 1) i e rfl (by omega)
        · refine wr_if1f rfl rfl (by unfold i32; omega) h15 ?_
          refine wr_n (pc2 := 116) (lv2 := [(5, vi i), (4, vi e), (3, vi 0), (2, vi n), (1, .ref 4), (0, .ref 170)]) (st2 := [vi 1]) 1 (fun _ _ => rfl) ?_
          refine wr_end (fun _ _ => rfl) ?_
          exact ⟨1, rfl, by omega, rfl⟩
      · refine wr_if2f rfl rfl (by unfold i32; omega) (by unfold i32; omega) h14 ?_
        refine wr_n (pc2 := 61) (lv2 := [(5, vi 0), (4, vi 1), (3, vi 0), (2, vi n), (1, .ref 4), (0, .ref 170)]) (st2 := []) 5 (fun _ _ => rfl) ?_
        refine l_resI (d := d) hR hf ht hz hn.1 (k := 0) (by omega) (fun i e hie => ?_) _ 0 1 rfl (by omega)
        show wr (d + 4) tb_M126 110 [(5, vi i), (4, vi e), (3, vi 0), (2, vi n), (1, .ref 4), (0, .ref 170)] [] s _
        refine wr_n (pc2 := 112) (lv2 := [(5, vi i), (4, vi e), (3, vi 0), (2, vi n), (1, .ref 4), (0, .ref 170)]) (st2 := [vi e]) 1 (fun _ _ => rfl) ?_
        by_cases h16 : e = 0
        · refine wr_if1t rfl rfl (by unfold i32; omega) h16 ?_
          refine wr_inc (a := 0) rfl rfl ?_
          show wr (d + 4) tb_M126 120 [(3, vi (0 + 1)), (5, vi i), (4, vi e), (2, vi n), (1, .ref 4), (0, .ref 170)] [] s _
          refine wr_n (pc2 := 15) (lv2 := [(3, vi (0 + 1)), (5, vi i), (4, vi e), (2, vi n), (1, .ref 4), (0, .ref 170)]) (st2 := []) 1 (fun _ _ => rfl) ?_
          exact l_resO (d := d) hR hf ht hz hn _ (0 + 1) i e rfl (by omega)
        · refine wr_if1f rfl rfl (by unfold i32; omega) h16 ?_
          refine wr_n (pc2 := 116) (lv2 := [(5, vi i), (4, vi e), (3, vi 0), (2, vi n), (1, .ref 4), (0, .ref 170)]) (st2 := [vi 1]) 1 (fun _ _ => rfl) ?_
          refine wr_end (fun _ _ => rfl) ?_
          exact ⟨1, rfl, by omega, rfl⟩
theorem c_isReserved {d : Nat} (s : rS) (hR : RF s.1) (hf : 0 ≤ s.1 170 5) (ht : s.1 170 5 ≤ s.1 170 6) (hz : s.1 170 6 ≤ 2000) : cr (d + 5) 126 [.ref 170] s (fun s2 out => ∃ b : Int, out = some (some (vi b)) ∧ (0 ≤ b ∧ b ≤ 1) ∧ s2 = s) := by
  refine cr_of (M := tb_M126) rfl (Nat.le_of_ble_eq_true rfl) ?_
  show wr (d + 4) tb_M126 0 [(0, .ref 170)] [] s _
  refine wr_n (pc2 := 4) (lv2 := [(1, .ref 4), (0, .ref 170)]) (st2 := [.ref 170]) 3 (fun _ _ => rfl) ?_
  refine wr_get (v := vi (s.1 170 6)) rfl rfl rfl (by decide) rfl fun h1 => ?_
  have h1 : -2147483648 ≤ s.1 170 6 ∧ s.1 170 6 ≤ 2147483647 := h1
  show wr (d + 4) tb_M126 7 [(1, .ref 4), (0, .ref 170)] [vi (s.1 170 6)] s _
  refine wr_n (pc2 := 8) (lv2 := [(1, .ref 4), (0, .ref 170)]) (st2 := [.ref 170, vi (s.1 170 6)]) 1 (fun _ _ => rfl) ?_
  refine wr_get (v := vi (s.1 170 5)) rfl rfl rfl (by decide) rfl fun h2 => ?_
  have h2 : -2147483648 ≤ s.1 170 5 ∧ s.1 170 5 ≤ 2147483647 := h2
  show wr (d + 4) tb_M126 11 [(1, .ref 4), (0, .ref 170)] [vi (s.1 170 5), vi (s.1 170 6)] s _
  refine wr_sub (a := s.1 170 6) (b := s.1 170 5) rfl ?_
  show wr (d + 4) tb_M126 12 [(1, .ref 4), (0, .ref 170)] [vi ((s.1 170 6) - (s.1 170 5))] s _
  refine wr_n (pc2 := 15) (lv2 := [(3, vi 0), (2, vi ((s.1 170 6) - (s.1 170 5))), (1, .ref 4), (0, .ref 170)]) (st2 := []) 3 (fun _ _ => rfl) ?_
  exact l_res1 (d := d) hR hf (by omega) hz (by omega)
