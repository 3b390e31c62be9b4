set_option maxRecDepth 100000 in
theorem l_beh {d : Nat} {s : rS} {g : Int} (hR : RF s.1) (hL : LX s.1) (hg : i32 g) : ∀ (m : Nat) (k : Int), (s.1 170 2 - k).toNat = m → (0 ≤ k ∧ k ≤ s.1 170 2) → wr d tb_M148 5 [(2, vi k), (0, .ref 170), (1, vi g)] [] s (fun s2 out => ∃ b : Int, out = some (some (vi b)) ∧ (0 ≤ b ∧ b ≤ 1) ∧ s2 = s) := by
  obtain ⟨x0, x1, x2, x3, x4, x5, x6⟩ := id hL
  unfold i32 at hg
  intro m
  induction m using Nat.strongRecOn with | ind m ih => ?_
  intro k hm hh
  refine wr_n (pc2 := 7) (lv2 := [(2, vi k), (0, .ref 170), (1, vi g)]) (st2 := [.ref 170, vi k]) 2 (fun _ _ => rfl) ?_
  refine wr_get (v := vi (s.1 170 2)) rfl rfl rfl (by decide) rfl fun h1 => ?_
  have h1 : -2147483648 ≤ s.1 170 2 ∧ s.1 170 2 ≤ 2147483647 := h1
  show wr d tb_M148 10 [(2, vi k), (0, .ref 170), (1, vi g)] [vi (s.1 170 2), vi k] s _
  by_cases h2 : s.1 170 2 ≤ k
  · refine wr_if2t rfl rfl (by unfold i32; omega) (by unfold i32; omega) h2 ?_
    refine wr_n (pc2 := 43) (lv2 := [(2, vi k), (0, .ref 170), (1, vi g)]) (st2 := [.ref 170, vi k]) 2 (fun _ _ => rfl) ?_
    refine wr_get (v := vi (s.1 170 2)) rfl rfl rfl (by decide) rfl fun h3 => ?_
    have h3 : -2147483648 ≤ s.1 170 2 ∧ s.1 170 2 ≤ 2147483647 := h3
    show wr d tb_M148 46 [(2, vi k), (0, .ref 170), (1, vi g)] [vi (s.1 170 2), vi k] s _
    by_cases h4 : k = s.1 170 2
    · refine wr_if2t rfl rfl (by unfold i32; omega) (by unfold i32; omega) h4 ?_
      refine wr_n (pc2 := 60) (lv2 := [(2, vi k), (0, .ref 170), (1, vi g)]) (st2 := [vi 0]) 1 (fun _ _ => rfl) ?_
      refine wr_end (fun _ _ => rfl) ?_
      exact ⟨0, rfl, by omega, rfl⟩
    · refine wr_if2f rfl rfl (by unfold i32; omega) (by unfold i32; omega) h4 ?_
      refine wr_n (pc2 := 50) (lv2 := [(2, vi k), (0, .ref 170), (1, vi g)]) (st2 := [.ref 170]) 1 (fun _ _ => rfl) ?_
      refine wr_get (v := .ref 171) rfl rfl rfl (by decide) (rv_ref (hR 170 0 171 rfl)) fun h5 => ?_
      show wr d tb_M148 53 [(2, vi k), (0, .ref 170), (1, vi g)] [.ref 171] s _
      refine wr_n (pc2 := 54) (lv2 := [(2, vi k), (0, .ref 170), (1, vi g)]) (st2 := [vi k, .ref 171]) 1 (fun _ _ => rfl) ?_
      refine wr_ald (a := k) (v := vi (s.1 171 k.toNat)) rfl rfl rfl (by omega) (by omega) (by decide) rfl fun h6 => ?_
      have h6 : -128 ≤ s.1 171 k.toNat ∧ s.1 171 k.toNat ≤ 127 := h6
      show wr d tb_M148 55 [(2, vi k), (0, .ref 170), (1, vi g)] [vi (s.1 171 k.toNat)] s _
      refine wr_n (pc2 := 56) (lv2 := [(2, vi k), (0, .ref 170), (1, vi g)]) (st2 := [vi g, vi (s.1 171 k.toNat)]) 1 (fun _ _ => rfl) ?_
      by_cases h7 : s.1 171 k.toNat = g
      · refine wr_if2t rfl rfl (by unfold i32; omega) (by unfold i32; omega) h7 ?_
        refine wr_n (pc2 := 63) (lv2 := [(2, vi k), (0, .ref 170), (1, vi g)]) (st2 := [vi 1, vi k]) 2 (fun _ _ => rfl) ?_
        refine wr_add (a := k) (b := 1) rfl ?_
        show wr d tb_M148 64 [(2, vi k), (0, .ref 170), (1, vi g)] [vi (k + 1)] s _
        refine wr_n (pc2 := 65) (lv2 := [(2, vi k), (0, .ref 170), (1, vi g)]) (st2 := [.ref 170, vi (k + 1)]) 1 (fun _ _ => rfl) ?_
        refine wr_get (v := vi (s.1 170 2)) rfl rfl rfl (by decide) rfl fun h8 => ?_
        have h8 : -2147483648 ≤ s.1 170 2 ∧ s.1 170 2 ≤ 2147483647 := h8
        show wr d tb_M148 68 [(2, vi k), (0, .ref 170), (1, vi g)] [vi (s.1 170 2), vi (k + 1)] s _
        by_cases h9 : k + 1 = s.1 170 2
        · refine wr_if2t rfl rfl (by unfold i32; omega) (by unfold i32; omega) h9 ?_
          refine wr_n (pc2 := 101) (lv2 := [(2, vi k), (0, .ref 170), (1, vi g)]) (st2 := [vi 1]) 2 (fun _ _ => rfl) ?_
          refine wr_end (fun _ _ => rfl) ?_
          exact ⟨1, rfl, by omega, rfl⟩
        · refine wr_if2f rfl rfl (by unfold i32; omega) (by unfold i32; omega) h9 ?_
          refine wr_n (pc2 := 72) (lv2 := [(2, vi k), (0, .ref 170), (1, vi g)]) (st2 := [.ref 170]) 1 (fun _ _ => rfl) ?_
          refine wr_get (v := .ref 171) rfl rfl rfl (by decide) (rv_ref (hR 170 0 171 rfl)) fun h10 => ?_
          show wr d tb_M148 75 [(2, vi k), (0, .ref 170), (1, vi g)] [.ref 171] s _
          refine wr_n (pc2 := 77) (lv2 := [(2, vi k), (0, .ref 170), (1, vi g)]) (st2 := [vi 1, vi k, .ref 171]) 2 (fun _ _ => rfl) ?_
          refine wr_add (a := k) (b := 1) rfl ?_
          show wr d tb_M148 78 [(2, vi k), (0, .ref 170), (1, vi g)] [vi (k + 1), .ref 171] s _
          refine wr_ald (a := k + 1) (v := vi (s.1 171 ((k + 1).toNat))) rfl rfl rfl (by omega) (by omega) (by decide) rfl fun h11 => ?_
          have h11 : -128 ≤ s.1 171 ((k + 1).toNat) ∧ s.1 171 ((k + 1).toNat) ≤ 127 := h11
          show wr d tb_M148 79 [(2, vi k), (0, .ref 170), (1, vi g)] [vi (s.1 171 ((k + 1).toNat))] s _
          refine wr_n (pc2 := 81) (lv2 := [(2, vi k), (0, .ref 170), (1, vi g)]) (st2 := [vi 61, vi (s.1 171 ((k + 1).toNat))]) 1 (fun _ _ => rfl) ?_
          by_cases h12 : s.1 171 ((k + 1).toNat) ≠ 61
          · refine wr_if2t rfl rfl (by unfold i32; omega) (by unfold i32; omega) h12 ?_
            refine wr_n (pc2 := 101) (lv2 := [(2, vi k), (0, .ref 170), (1, vi g)]) (st2 := [vi 1]) 2 (fun _ _ => rfl) ?_
            refine wr_end (fun _ _ => rfl) ?_
            exact ⟨1, rfl, by omega, rfl⟩
          · refine wr_if2f rfl rfl (by unfold i32; omega) (by unfold i32; omega) h12 ?_
            refine wr_n (pc2 := 87) (lv2 := [(2, vi k), (0, .ref 170), (1, vi g)]) (st2 := [vi 61, vi g]) 2 (fun _ _ => rfl) ?_
            by_cases h13 : g = 61
            · refine wr_if2t rfl rfl (by unfold i32; omega) (by unfold i32; omega) h13 ?_
              refine wr_n (pc2 := 101) (lv2 := [(2, vi k), (0, .ref 170), (1, vi g)]) (st2 := [vi 0]) 1 (fun _ _ => rfl) ?_
              refine wr_end (fun _ _ => rfl) ?_
              exact ⟨0, rfl, by omega, rfl⟩
            · refine wr_if2f rfl rfl (by unfold i32; omega) (by unfold i32; omega) h13 ?_
              refine wr_n (pc2 := 93) (lv2 := [(2, vi k), (0, .ref 170), (1, vi g)]) (st2 := [vi 33, vi g]) 2 (fun _ _ => rfl) ?_
              by_cases h14 : g = 33
              · refine wr_if2t rfl rfl (by unfold i32; omega) (by unfold i32; omega) h14 ?_
                refine wr_n (pc2 := 101) (lv2 := [(2, vi k), (0, .ref 170), (1, vi g)]) (st2 := [vi 0]) 1 (fun _ _ => rfl) ?_
                refine wr_end (fun _ _ => rfl) ?_
                exact ⟨0, rfl, by omega, rfl⟩
              · refine wr_if2f rfl rfl (by unfold i32; omega) (by unfold i32; omega) h14 ?_
                refine wr_n (pc2 := 101) (lv2 := [(2, vi k), (0, .ref 170), (1, vi g)]) (st2 := [vi 1]) 2 (fun _ _ => rfl) ?_
                refine wr_end (fun _ _ => rfl) ?_
                exact ⟨1, rfl, by omega, rfl⟩
      · refine wr_if2f rfl rfl (by unfold i32; omega) (by unfold i32; omega) h7 ?_
        refine wr_n (pc2 := 60) (lv2 := [(2, vi k), (0, .ref 170), (1, vi g)]) (st2 := [vi 0]) 1 (fun _ _ => rfl) ?_
        refine wr_end (fun _ _ => rfl) ?_
        exact ⟨0, rfl, by omega, rfl⟩
  · refine wr_if2f rfl rfl (by unfold i32; omega) (by unfold i32; omega) h2 ?_
    refine wr_n (pc2 := 14) (lv2 := [(2, vi k), (0, .ref 170), (1, vi g)]) (st2 := [.ref 170]) 1 (fun _ _ => rfl) ?_
    refine wr_get (v := .ref 171) rfl rfl rfl (by decide) (rv_ref (hR 170 0 171 rfl)) fun h15 => ?_
    show wr d tb_M148 17 [(2, vi k), (0, .ref 170), (1, vi g)] [.ref 171] s _
    refine wr_n (pc2 := 18) (lv2 := [(2, vi k), (0, .ref 170), (1, vi g)]) (st2 := [vi k, .ref 171]) 1 (fun _ _ => rfl) ?_
    refine wr_ald (a := k) (v := vi (s.1 171 k.toNat)) rfl rfl rfl (by omega) (by omega) (by decide) rfl fun h16 => ?_
    have h16 : -128 ≤ s.1 171 k.toNat ∧ s.1 171 k.toNat ≤ 127 := h16
    show wr d tb_M148 19 [(2, vi k), (0, .ref 170), (1, vi g)] [vi (s.1 171 k.toNat)] s _
    refine wr_n (pc2 := 21) (lv2 := [(2, vi k), (0, .ref 170), (1, vi g)]) (st2 := [vi 32, vi (s.1 171 k.toNat)]) 1 (fun _ _ => rfl) ?_
    by_cases h17 : s.1 171 k.toNat = 32
    · refine wr_if2t rfl rfl (by unfold i32; omega) (by unfold i32; omega) h17 ?_
      refine wr_inc (a := k) rfl rfl ?_
      show wr d tb_M148 38 [(2, vi (k + 1)), (0, .ref 170), (1, vi g)] [] s _
      refine wr_n (pc2 := 5) (lv2 := [(2, vi (k + 1)), (0, .ref 170), (1, vi g)]) (st2 := []) 1 (fun _ _ => rfl) ?_
      exact ih _ (by omega) (k + 1) rfl (by omega)
    · refine wr_if2f rfl rfl (by unfold i32; omega) (by unfold i32; omega) h17 ?_
      refine wr_n (pc2 := 25) (lv2 := [(2, vi k), (0, .ref 170), (1, vi g)]) (st2 := [.ref 170]) 1 (fun _ _ => rfl) ?_
      refine wr_get (v := .ref 171) rfl rfl rfl (by decide) (rv_ref (hR 170 0 171 rfl)) fun h18 => ?_
      show wr d tb_M148 28 [(2, vi k), (0, .ref 170), (1, vi g)] [.ref 171] s _
      refine wr_n (pc2 := 29) (lv2 := [(2, vi k), (0, .ref 170), (1, vi g)]) (st2 := [vi k, .ref 171]) 1 (fun _ _ => rfl) ?_
      refine wr_ald (a := k) (v := vi (s.1 171 k.toNat)) rfl rfl rfl (by omega) (by omega) (by decide) rfl fun h19 => ?_
      have h19 : -128 ≤ s.1 171 k.toNat ∧ s.1 171 k.toNat ≤ 127 := h19
      show wr d tb_M148 30 [(2, vi k), (0, .ref 170), (1, vi g)] [vi (s.1 171 k.toNat)] s _
      refine wr_n (pc2 := 32) (lv2 := [(2, vi k), (0, .ref 170), (1, vi g)]) (st2 := [vi 10, vi (s.1 171 k.toNat)]) 1 (fun _ _ => rfl) ?_
      by_cases h20 : s.1 171 k.toNat ≠ 10
      · refine wr_if2t rfl rfl (by unfold i32; omega) (by unfold i32; omega) h20 ?_
        refine wr_n (pc2 := 43) (lv2 := [(2, vi k), (0, .ref 170), (1, vi g)]) (st2 := [.ref 170, vi k]) 2 (fun _ _ => rfl) ?_
        refine wr_get (v := vi (s.1 170 2)) rfl rfl rfl (by decide) rfl fun h21 => ?_
        have h21 : -2147483648 ≤ s.1 170 2 ∧ s.1 170 2 ≤ 2147483647 := h21
        show wr d tb_M148 46 [(2, vi k), (0, .ref 170), (1, vi g)] [vi (s.1 170 2), vi k] s _
        by_cases h22 : k = s.1 170 2
        · refine wr_if2t rfl rfl (by unfold i32; omega) (by unfold i32; omega) h22 ?_
          refine wr_n (pc2 := 60) (lv2 := [(2, vi k), (0, .ref 170), (1, vi g)]) (st2 := [vi 0]) 1 (fun _ _ => rfl) ?_
          refine wr_end (fun _ _ => rfl) ?_
          exact ⟨0, rfl, by omega, rfl⟩
        · refine wr_if2f rfl rfl (by unfold i32; omega) (by unfold i32; omega) h22 ?_
          refine wr_n (pc2 := 50) (lv2 := [(2, vi k), (0, .ref 170), (1, vi g)]) (st2 := [.ref 170]) 1 (fun _ _ => rfl) ?_
          refine wr_get (v := .ref 171) rfl rfl rfl (by decide) (rv_ref (hR 170 0 171 rfl)) fun h23 => ?_
          show wr d tb_M148 53 [(2, vi k), (0, .ref 170), (1, vi g)] [.ref 171] s _
          refine wr_n (pc2 := 54) (lv2 := [(2, vi k), (0, .ref 170), (1, vi g)]) (st2 := [vi k, .ref 171]) 1 (fun _ _ => rfl) ?_
          refine wr_ald (a := k) (v := vi (s.1 171 k.toNat)) rfl rfl rfl (by omega) (by omega) (by decide) rfl fun h24 => ?_
          have h24 : -128 ≤ s.1 171 k.toNat ∧ s.1 171 k.toNat ≤ 127 := h24
          show wr d tb_M148 55 [(2, vi k), (0, .ref 170), (1, vi g)] [vi (s.1 171 k.toNat)] s _
          refine wr_n (pc2 := 56) (lv2 := [(2, vi k), (0, .ref 170), (1, vi g)]) (st2 := [vi g, vi (s.1 171 k.toNat)]) 1 (fun _ _ => rfl) ?_
          by_cases h25 : s.1 171 k.toNat = g
          · refine wr_if2t rfl rfl (by unfold i32; omega) (by unfold i32; omega) h25 ?_
            refine wr_n (pc2 := 63) (lv2 := [(2, vi k), (0, .ref 170), (1, vi g)]) (st2 := [vi 1, vi k]) 2 (fun _ _ => rfl) ?_
            refine wr_add (a := k) (b := 1) rfl ?_
            show wr d tb_M148 64 [(2, vi k), (0, .ref 170), (1, vi g)] [vi (k + 1)] s _
            refine wr_n (pc2 := 65) (lv2 := [(2, vi k), (0, .ref 170), (1, vi g)]) (st2 := [.ref 170, vi (k + 1)]) 1 (fun _ _ => rfl) ?_
            refine wr_get (v := vi (s.1 170 2)) rfl rfl rfl (by decide) rfl fun h26 => ?_
            have h26 : -2147483648 ≤ s.1 170 2 ∧ s.1 170 2 ≤ 2147483647 := h26
            show wr d tb_M148 68 [(2, vi k), (0, .ref 170), (1, vi g)] [vi (s.1 170 2), vi (k + 1)] s _
            by_cases h27 : k + 1 = s.1 170 2
            · refine wr_if2t rfl rfl (by unfold i32; omega) (by unfold i32; omega) h27 ?_
              refine wr_n (pc2 := 101) (lv2 := [(2, vi k), (0, .ref 170), (1, vi g)]) (st2 := [vi 1]) 2 (fun _ _ => rfl) ?_
              refine wr_end (fun _ _ => rfl) ?_
              exact ⟨1, rfl, by omega, rfl⟩
            · refine wr_if2f rfl rfl (by unfold i32; omega) (by unfold i32; omega) h27 ?_
              refine wr_n (pc2 := 72) (lv2 := [(2, vi k), (0, .ref 170), (1, vi g)]) (st2 := [.ref 170]) 1 (fun _ _ => rfl) ?_
              refine wr_get (v := .ref 171) rfl rfl rfl (by decide) (rv_ref (hR 170 0 171 rfl)) fun h28 => ?_
              show wr d tb_M148 75 [(2, vi k), (0, .ref 170), (1, vi g)] [.ref 171] s _
              refine wr_n (pc2 := 77) (lv2 := [(2, vi k), (0, .ref 170), (1, vi g)]) (st2 := [vi 1, vi k, .ref 171]) 2 (fun _ _ => rfl) ?_
              refine wr_add (a := k) (b := 1) rfl ?_
              show wr d tb_M148 78 [(2, vi k), (0, .ref 170), (1, vi g)] [vi (k + 1), .ref 171] s _
              refine wr_ald (a := k + 1) (v := vi (s.1 171 ((k + 1).toNat))) rfl rfl rfl (by omega) (by omega) (by decide) rfl fun h29 => ?_
              have h29 : -128 ≤ s.1 171 ((k + 1).toNat) ∧ s.1 171 ((k + 1).toNat) ≤ 127 := h29
              show wr d tb_M148 79 [(2, vi k), (0, .ref 170), (1, vi g)] [vi (s.1 171 ((k + 1).toNat))] s _
              refine wr_n (pc2 := 81) (lv2 := [(2, vi k), (0, .ref 170), (1, vi g)]) (st2 := [vi 61, vi (s.1 171 ((k + 1).toNat))]) 1 (fun _ _ => rfl) ?_
              by_cases h30 : s.1 171 ((k + 1).toNat) ≠ 61
              · refine wr_if2t rfl rfl (by unfold i32; omega) (by unfold i32; omega) h30 ?_
                refine wr_n (pc2 := 101) (lv2 := [(2, vi k), (0, .ref 170), (1, vi g)]) (st2 := [vi 1]) 2 (fun _ _ => rfl) ?_
                refine wr_end (fun _ _ => rfl) ?_
                exact ⟨1, rfl, by omega, rfl⟩
              · refine wr_if2f rfl rfl (by unfold i32; omega) (by unfold i32; omega) h30 ?_
                refine wr_n (pc2 := 87) (lv2 := [(2, vi k), (0, .ref 170), (1, vi g)]) (st2 := [vi 61, vi g]) 2 (fun _ _ => rfl) ?_
                by_cases h31 : g = 61
                · refine wr_if2t rfl rfl (by unfold i32; omega) (by unfold i32; omega) h31 ?_
                  refine wr_n (pc2 := 101) (lv2 := [(2, vi k), (0, .ref 170), (1, vi g)]) (st2 := [vi 0]) 1 (fun _ _ => rfl) ?_
                  refine wr_end (fun _ _ => rfl) ?_
                  exact ⟨0, rfl, by omega, rfl⟩
                · refine wr_if2f rfl rfl (by unfold i32; omega) (by unfold i32; omega) h31 ?_
                  refine wr_n (pc2 := 93) (lv2 := [(2, vi k), (0, .ref 170), (1, vi g)]) (st2 := [vi 33, vi g]) 2 (fun _ _ => rfl) ?_
                  by_cases h32 : g = 33
                  · refine wr_if2t rfl rfl (by unfold i32; omega) (by unfold i32; omega) h32 ?_
                    refine wr_n (pc2 := 101) (lv2 := [(2, vi k), (0, .ref 170), (1, vi g)]) (st2 := [vi 0]) 1 (fun _ _ => rfl) ?_
                    refine wr_end (fun _ _ => rfl) ?_
                    exact ⟨0, rfl, by omega, rfl⟩
                  · refine wr_if2f rfl rfl (by unfold i32; omega) (by unfold i32; omega) h32 ?_
                    refine wr_n (pc2 := 101) (lv2 := [(2, vi k), (0, .ref 170), (1, vi g)]) (st2 := [vi 1]) 2 (fun _ _ => rfl) ?_
                    refine wr_end (fun _ _ => rfl) ?_
                    exact ⟨1, rfl, by omega, rfl⟩
          · refine wr_if2f rfl rfl (by unfold i32; omega) (by unfold i32; omega) h25 ?_
            refine wr_n (pc2 := 60) (lv2 := [(2, vi k), (0, .ref 170), (1, vi g)]) (st2 := [vi 0]) 1 (fun _ _ => rfl) ?_
            refine wr_end (fun _ _ => rfl) ?_
            exact ⟨0, rfl, by omega, rfl⟩
      · refine wr_if2f rfl rfl (by unfold i32; omega) (by unfold i32; omega) h20 ?_
        refine wr_inc (a := k) rfl rfl ?_
        show wr d tb_M148 38 [(2, vi (k + 1)), (0, .ref 170), (1, vi g)] [] s _
        refine wr_n (pc2 := 5) (lv2 := [(2, vi (k + 1)), (0, .ref 170), (1, vi g)]) (st2 := []) 1 (fun _ _ => rfl) ?_
        exact ih _ (by omega) (k + 1) rfl (by omega)
set_option maxRecDepth 100000 in
theorem c_isBehind {d : Nat} {g : Int} (s : rS) (hR : RF s.1) (hL : LX s.1) (hg : i32 g) : cr (d + 1) 148 [.ref 170, vi g] s (fun s2 out => ∃ b : Int, out = some (some (vi b)) ∧ (0 ≤ b ∧ b ≤ 1) ∧ s2 = s) := by
  obtain ⟨x0, x1, x2, x3, x4, x5, x6⟩ := id hL
  refine cr_of (M := tb_M148) rfl (Nat.le_of_ble_eq_true rfl) ?_
  show wr d tb_M148 0 [(0, .ref 170), (1, vi g)] [] s _
  refine wr_n (pc2 := 1) (lv2 := [(0, .ref 170), (1, vi g)]) (st2 := [.ref 170]) 1 (fun _ _ => rfl) ?_
  refine wr_get (v := vi (s.1 170 3)) rfl rfl rfl (by decide) rfl fun h1 => ?_
  have h1 : -2147483648 ≤ s.1 170 3 ∧ s.1 170 3 ≤ 2147483647 := h1
  show wr d tb_M148 4 [(0, .ref 170), (1, vi g)] [vi (s.1 170 3)] s _
  refine wr_n (pc2 := 5) (lv2 := [(2, vi (s.1 170 3)), (0, .ref 170), (1, vi g)]) (st2 := []) 1 (fun _ _ => rfl) ?_
  exact l_beh (d := d) hR hL hg _ _ rfl (by omega)
set_option maxRecDepth 100000 in
theorem c_signOf {d : Nat}  (s : rS) (hR : RF s.1) (hL : LX s.1) (hk : s.1 170 4 = 4) (h2 : s.1 170 6 - s.1 170 5 ≤ 2) : cr (d + 1) 152 [.ref 170] s (fun s2 out => ∃ z : Int, out = some (some (vi z)) ∧ i32 z ∧ s2 = s) := by
  obtain ⟨x0, x1, x2, x3, x4, x5, x6⟩ := id hL
  refine cr_of (M := tb_M152) rfl (Nat.le_of_ble_eq_true rfl) ?_
  show wr d tb_M152 0 [(0, .ref 170)] [] s _
  refine wr_n (pc2 := 1) (lv2 := [(0, .ref 170)]) (st2 := [.ref 170]) 1 (fun _ _ => rfl) ?_
  refine wr_get (v := .ref 171) rfl rfl rfl (by decide) (rv_ref (hR 170 0 171 rfl)) fun h1 => ?_
  show wr d tb_M152 4 [(0, .ref 170)] [.ref 171] s _
  refine wr_n (pc2 := 5) (lv2 := [(0, .ref 170)]) (st2 := [.ref 170, .ref 171]) 1 (fun _ _ => rfl) ?_
  refine wr_get (v := vi (s.1 170 5)) rfl rfl rfl (by decide) rfl fun h2 => ?_
  have h2 : -2147483648 ≤ s.1 170 5 ∧ s.1 170 5 ≤ 2147483647 := h2
  show wr d tb_M152 8 [(0, .ref 170)] [vi (s.1 170 5), .ref 171] s _
  refine wr_ald (a := s.1 170 5) (v := vi (s.1 171 ((s.1 170 5).toNat))) rfl rfl rfl (by omega) (by omega) (by decide) rfl fun h3 => ?_
  have h3 : -128 ≤ s.1 171 ((s.1 170 5).toNat) ∧ s.1 171 ((s.1 170 5).toNat) ≤ 127 := h3
  show wr d tb_M152 9 [(0, .ref 170)] [vi (s.1 171 ((s.1 170 5).toNat))] s _
  refine wr_n (pc2 := 11) (lv2 := [(1, vi (s.1 171 ((s.1 170 5).toNat))), (0, .ref 170)]) (st2 := [.ref 170]) 2 (fun _ _ => rfl) ?_
  refine wr_get (v := vi (s.1 170 6)) rfl rfl rfl (by decide) rfl fun h4 => ?_
  have h4 : -2147483648 ≤ s.1 170 6 ∧ s.1 170 6 ≤ 2147483647 := h4
  show wr d tb_M152 14 [(1, vi (s.1 171 ((s.1 170 5).toNat))), (0, .ref 170)] [vi (s.1 170 6)] s _
  refine wr_n (pc2 := 15) (lv2 := [(1, vi (s.1 171 ((s.1 170 5).toNat))), (0, .ref 170)]) (st2 := [.ref 170, vi (s.1 170 6)]) 1 (fun _ _ => rfl) ?_
  refine wr_get (v := vi (s.1 170 5)) rfl rfl rfl (by decide) rfl fun h5 => ?_
  have h5 : -2147483648 ≤ s.1 170 5 ∧ s.1 170 5 ≤ 2147483647 := h5
  show wr d tb_M152 18 [(1, vi (s.1 171 ((s.1 170 5).toNat))), (0, .ref 170)] [vi (s.1 170 5), vi (s.1 170 6)] s _
  refine wr_sub (a := s.1 170 6) (b := s.1 170 5) rfl ?_
  show wr d tb_M152 19 [(1, vi (s.1 171 ((s.1 170 5).toNat))), (0, .ref 170)] [vi ((s.1 170 6) - (s.1 170 5))] s _
  refine wr_n (pc2 := 20) (lv2 := [(1, vi (s.1 171 ((s.1 170 5).toNat))), (0, .ref 170)]) (st2 := [vi 1, vi ((s.1 170 6) - (s.1 170 5))]) 1 (fun _ _ => rfl) ?_
  by_cases h6 : (s.1 170 6) - (s.1 170 5) ≠ 1
  · refine wr_if2t rfl rfl (by unfold i32; omega) (by unfold i32; omega) h6 ?_
    refine wr_n (pc2 := 31) (lv2 := [(1, vi (s.1 171 ((s.1 170 5).toNat))), (0, .ref 170)]) (st2 := [.ref 170, vi 256]) 2 (fun _ _ => rfl) ?_
    refine wr_get (v := .ref 171) rfl rfl rfl (by decide) (rv_ref (hR 170 0 171 rfl)) fun h7 => ?_
    show wr d tb_M152 34 [(1, vi (s.1 171 ((s.1 170 5).toNat))), (0, .ref 170)] [.ref 171, vi 256] s _
    refine wr_n (pc2 := 35) (lv2 := [(1, vi (s.1 171 ((s.1 170 5).toNat))), (0, .ref 170)]) (st2 := [.ref 170, .ref 171, vi 256]) 1 (fun _ _ => rfl) ?_
    refine wr_get (v := vi (s.1 170 5)) rfl rfl rfl (by decide) rfl fun h8 => ?_
    have h8 : -2147483648 ≤ s.1 170 5 ∧ s.1 170 5 ≤ 2147483647 := h8
    show wr d tb_M152 38 [(1, vi (s.1 171 ((s.1 170 5).toNat))), (0, .ref 170)] [vi (s.1 170 5), .ref 171, vi 256] s _
    refine wr_n (pc2 := 39) (lv2 := [(1, vi (s.1 171 ((s.1 170 5).toNat))), (0, .ref 170)]) (st2 := [vi 1, vi (s.1 170 5), .ref 171, vi 256]) 1 (fun _ _ => rfl) ?_
    refine wr_add (a := s.1 170 5) (b := 1) rfl ?_
    show wr d tb_M152 40 [(1, vi (s.1 171 ((s.1 170 5).toNat))), (0, .ref 170)] [vi (s.1 170 5 + 1), .ref 171, vi 256] s _
    refine wr_ald (a := s.1 170 5 + 1) (v := vi (s.1 171 ((s.1 170 5 + 1).toNat))) rfl rfl rfl (by omega) (by omega) (by decide) rfl fun h9 => ?_
    have h9 : -128 ≤ s.1 171 ((s.1 170 5 + 1).toNat) ∧ s.1 171 ((s.1 170 5 + 1).toNat) ≤ 127 := h9
    show wr d tb_M152 41 [(1, vi (s.1 171 ((s.1 170 5).toNat))), (0, .ref 170)] [vi (s.1 171 ((s.1 170 5 + 1).toNat)), vi 256] s _
    refine wr_mul (a := 256) (b := s.1 171 ((s.1 170 5 + 1).toNat)) rfl ?_
    show wr d tb_M152 42 [(1, vi (s.1 171 ((s.1 170 5).toNat))), (0, .ref 170)] [vi (256 * (s.1 171 ((s.1 170 5 + 1).toNat)))] s _
    refine wr_n (pc2 := 43) (lv2 := [(1, vi (s.1 171 ((s.1 170 5).toNat))), (0, .ref 170)]) (st2 := [vi (s.1 171 ((s.1 170 5).toNat)), vi (256 * (s.1 171 ((s.1 170 5 + 1).toNat)))]) 1 (fun _ _ => rfl) ?_
    refine wr_add (a := 256 * (s.1 171 ((s.1 170 5 + 1).toNat))) (b := s.1 171 ((s.1 170 5).toNat)) rfl ?_
    show wr d tb_M152 44 [(1, vi (s.1 171 ((s.1 170 5).toNat))), (0, .ref 170)] [vi (256 * (s.1 171 ((s.1 170 5 + 1).toNat)) + (s.1 171 ((s.1 170 5).toNat)))] s _
    refine wr_reti rfl rfl ?_
    exact ⟨_, rfl, by unfold i32; omega, rfl⟩
  · refine wr_if2f rfl rfl (by unfold i32; omega) (by unfold i32; omega) h6 ?_
    refine wr_n (pc2 := 44) (lv2 := [(1, vi (s.1 171 ((s.1 170 5).toNat))), (0, .ref 170)]) (st2 := [vi (s.1 171 ((s.1 170 5).toNat))]) 2 (fun _ _ => rfl) ?_
    refine wr_reti rfl rfl ?_
    exact ⟨_, rfl, by unfold i32; omega, rfl⟩
theorem isT_2 : isT 2 3 [.int 118, .int 97, .int 114, .int 32, .int 105, .int 110, .int 116, .int 32, .int 97, .int 114, .int 114, .int 97, .int 121, .int 32, .int 99, .int 104, .int 97, .int 110, .int 32, .int 105, .int 110, .int 32, .int 111, .int 117, .int 116, .int 32, .int 112, .int 114, .int 111, .int 99, .int 32, .int 102, .int 117, .int 110, .int 32, .int 105, .int 102, .int 32, .int 101, .int 108, .int 115, .int 101, .int 32, .int 119, .int 104, .int 105, .int 108, .int 101, .int 32, .int 114, .int 101, .int 112, .int 101, .int 97, .int 116, .int 32, .int 112, .int 97, .int 114, .int 32, .int 114, .int 101, .int 116, .int 117, .int 114, .int 110, .int 32, .int 115, .int 107, .int 105, .int 112, .int 32] := ⟨rfl, rfl, by decide, by decide⟩
theorem isT_6 : isT 6 7 [.int 118, .int 97, .int 114] := ⟨rfl, rfl, by decide, by decide⟩
theorem isT_8 : isT 8 9 [.int 105, .int 110, .int 116] := ⟨rfl, rfl, by decide, by decide⟩
theorem isT_10 : isT 10 11 [.int 97, .int 114, .int 114, .int 97, .int 121] := ⟨rfl, rfl, by decide, by decide⟩
theorem isT_12 : isT 12 13 [.int 99, .int 104, .int 97, .int 110] := ⟨rfl, rfl, by decide, by decide⟩
theorem isT_14 : isT 14 15 [.int 105, .int 110] := ⟨rfl, rfl, by decide, by decide⟩
theorem isT_16 : isT 16 17 [.int 111, .int 117, .int 116] := ⟨rfl, rfl, by decide, by decide⟩
theorem isT_18 : isT 18 19 [.int 112, .int 114, .int 111, .int 99] := ⟨rfl, rfl, by decide, by decide⟩
theorem isT_20 : isT 20 21 [.int 102, .int 117, .int 110] := ⟨rfl, rfl, by decide, by decide⟩
theorem isT_22 : isT 22 23 [.int 40] := ⟨rfl, rfl, by decide, by decide⟩
theorem isT_24 : isT 24 25 [.int 41] := ⟨rfl, rfl, by decide, by decide⟩
theorem isT_26 : isT 26 27 [.int 44] := ⟨rfl, rfl, by decide, by decide⟩
theorem isT_28 : isT 28 29 [.int 123] := ⟨rfl, rfl, by decide, by decide⟩
theorem isT_30 : isT 30 31 [.int 59] := ⟨rfl, rfl, by decide, by decide⟩
theorem isT_32 : isT 32 33 [.int 125] := ⟨rfl, rfl, by decide, by decide⟩
theorem isT_34 : isT 34 35 [.int 115, .int 107, .int 105, .int 112] := ⟨rfl, rfl, by decide, by decide⟩
theorem isT_36 : isT 36 37 [.int 105, .int 102] := ⟨rfl, rfl, by decide, by decide⟩
theorem isT_38 : isT 38 39 [.int 45] := ⟨rfl, rfl, by decide, by decide⟩
theorem isT_40 : isT 40 41 [.int 126] := ⟨rfl, rfl, by decide, by decide⟩
theorem isT_42 : isT 42 43 [.int 33] := ⟨rfl, rfl, by decide, by decide⟩
theorem isT_44 : isT 44 45 [.int 93] := ⟨rfl, rfl, by decide, by decide⟩
theorem isT_46 : isT 46 47 [.int 124, .int 124] := ⟨rfl, rfl, by decide, by decide⟩
theorem isT_48 : isT 48 49 [.int 38, .int 38] := ⟨rfl, rfl, by decide, by decide⟩
theorem isT_50 : isT 50 51 [.int 124] := ⟨rfl, rfl, by decide, by decide⟩
theorem isT_52 : isT 52 53 [.int 94] := ⟨rfl, rfl, by decide, by decide⟩
theorem isT_54 : isT 54 55 [.int 38] := ⟨rfl, rfl, by decide, by decide⟩
theorem isT_56 : isT 56 57 [.int 61, .int 61] := ⟨rfl, rfl, by decide, by decide⟩
theorem isT_58 : isT 58 59 [.int 33, .int 61] := ⟨rfl, rfl, by decide, by decide⟩
theorem isT_60 : isT 60 61 [.int 60] := ⟨rfl, rfl, by decide, by decide⟩
theorem isT_62 : isT 62 63 [.int 60, .int 61] := ⟨rfl, rfl, by decide, by decide⟩
theorem isT_64 : isT 64 65 [.int 62] := ⟨rfl, rfl, by decide, by decide⟩
theorem isT_66 : isT 66 67 [.int 62, .int 61] := ⟨rfl, rfl, by decide, by decide⟩
theorem isT_68 : isT 68 69 [.int 60, .int 60] := ⟨rfl, rfl, by decide, by decide⟩
theorem isT_70 : isT 70 71 [.int 62, .int 62] := ⟨rfl, rfl, by decide, by decide⟩
theorem isT_72 : isT 72 73 [.int 43] := ⟨rfl, rfl, by decide, by decide⟩
theorem isT_74 : isT 74 75 [.int 42] := ⟨rfl, rfl, by decide, by decide⟩
theorem isT_76 : isT 76 77 [.int 47] := ⟨rfl, rfl, by decide, by decide⟩
theorem isT_78 : isT 78 79 [.int 37] := ⟨rfl, rfl, by decide, by decide⟩
theorem isT_80 : isT 80 81 [.int 101, .int 108, .int 115, .int 101] := ⟨rfl, rfl, by decide, by decide⟩
theorem isT_82 : isT 82 83 [.int 119, .int 104, .int 105, .int 108, .int 101] := ⟨rfl, rfl, by decide, by decide⟩
theorem isT_84 : isT 84 85 [.int 114, .int 101, .int 112, .int 101, .int 97, .int 116] := ⟨rfl, rfl, by decide, by decide⟩
theorem isT_86 : isT 86 87 [.int 112, .int 97, .int 114] := ⟨rfl, rfl, by decide, by decide⟩
theorem isT_88 : isT 88 89 [.int 61] := ⟨rfl, rfl, by decide, by decide⟩
theorem isT_90 : isT 90 91 [.int 114, .int 101, .int 116, .int 117, .int 114, .int 110] := ⟨rfl, rfl, by decide, by decide⟩
theorem isT_92 : isT 92 93 [.int 58] := ⟨rfl, rfl, by decide, by decide⟩
theorem isT_94 : isT 94 95 [.int 91] := ⟨rfl, rfl, by decide, by decide⟩
set_option maxRecDepth 100000 in
theorem c_levelOf {d : Nat}  (s : rS) (hR : RF s.1) (hL : LX s.1) : cr (d + 6) 151 [.ref 170] s (fun s2 out => ∃ z : Int, out = some (some (vi z)) ∧ (z = -1 ∨ 0 ≤ z ∧ z ≤ 9 ∧ (s.1 170 4 = 2 ∨ s.1 170 4 = 4) ∧ s.1 170 6 - s.1 170 5 ≤ 2) ∧ s2 = s) := by
  obtain ⟨x0, x1, x2, x3, x4, x5, x6⟩ := id hL
  refine cr_of (M := tb_M151) rfl (Nat.le_of_ble_eq_true rfl) ?_
  show wr (d + 5) tb_M151 0 [(0, .ref 170)] [] s _
  refine wr_n (pc2 := 4) (lv2 := [(0, .ref 170)]) (st2 := [.ref 46, .ref 170]) 2 (fun _ _ => rfl) ?_
  refine wr_call1 (args := [.ref 46]) (rest := []) rfl rfl rfl rfl (Nat.le_of_ble_eq_true rfl) (cr_mono (c_is (d := d) isT_46 _ hR hL) ?_)
  rintro s4 out ⟨b1, rfl, h2, e3⟩
  refine ⟨_, rfl, ?_⟩
  rw [e3]
  show wr (d + 5) tb_M151 7 [(0, .ref 170)] [vi b1] s _
  have h2 : b1 = 0 ∨ b1 = 1 ∧ (s.1 170 4 = 2 ∨ s.1 170 4 = 4) ∧ s.1 170 5 + 2 = s.1 170 6 := h2
  by_cases h5 : b1 = 0
  · refine wr_if1t rfl rfl (by unfold i32; omega) h5 ?_
    refine wr_n (pc2 := 16) (lv2 := [(0, .ref 170)]) (st2 := [.ref 48, .ref 170]) 2 (fun _ _ => rfl) ?_
    refine wr_call1 (args := [.ref 48]) (rest := []) rfl rfl rfl rfl (Nat.le_of_ble_eq_true rfl) (cr_mono (c_is (d := d) isT_48 _ hR hL) ?_)
    rintro s9 out ⟨b6, rfl, h7, e8⟩
    refine ⟨_, rfl, ?_⟩
    rw [e8]
    show wr (d + 5) tb_M151 19 [(0, .ref 170)] [vi b6] s _
    have h7 : b6 = 0 ∨ b6 = 1 ∧ (s.1 170 4 = 2 ∨ s.1 170 4 = 4) ∧ s.1 170 5 + 2 = s.1 170 6 := h7
    by_cases h10 : b6 = 0
    · refine wr_if1t rfl rfl (by unfold i32; omega) h10 ?_
      refine wr_n (pc2 := 28) (lv2 := [(0, .ref 170)]) (st2 := [.ref 50, .ref 170]) 2 (fun _ _ => rfl) ?_
      refine wr_call1 (args := [.ref 50]) (rest := []) rfl rfl rfl rfl (Nat.le_of_ble_eq_true rfl) (cr_mono (c_is (d := d) isT_50 _ hR hL) ?_)
      rintro s14 out ⟨b11, rfl, h12, e13⟩
      refine ⟨_, rfl, ?_⟩
      rw [e13]
      show wr (d + 5) tb_M151 31 [(0, .ref 170)] [vi b11] s _
      have h12 : b11 = 0 ∨ b11 = 1 ∧ (s.1 170 4 = 2 ∨ s.1 170 4 = 4) ∧ s.1 170 5 + 1 = s.1 170 6 := h12
      by_cases h15 : b11 = 0
      · refine wr_if1t rfl rfl (by unfold i32; omega) h15 ?_
        refine wr_n (pc2 := 40) (lv2 := [(0, .ref 170)]) (st2 := [.ref 52, .ref 170]) 2 (fun _ _ => rfl) ?_
        refine wr_call1 (args := [.ref 52]) (rest := []) rfl rfl rfl rfl (Nat.le_of_ble_eq_true rfl) (cr_mono (c_is (d := d) isT_52 _ hR hL) ?_)
        rintro s19 out ⟨b16, rfl, h17, e18⟩
        refine ⟨_, rfl, ?_⟩
        rw [e18]
        show wr (d + 5) tb_M151 43 [(0, .ref 170)] [vi b16] s _
        have h17 : b16 = 0 ∨ b16 = 1 ∧ (s.1 170 4 = 2 ∨ s.1 170 4 = 4) ∧ s.1 170 5 + 1 = s.1 170 6 := h17
        by_cases h20 : b16 = 0
        · refine wr_if1t rfl rfl (by unfold i32; omega) h20 ?_
          refine wr_n (pc2 := 52) (lv2 := [(0, .ref 170)]) (st2 := [.ref 54, .ref 170]) 2 (fun _ _ => rfl) ?_
          refine wr_call1 (args := [.ref 54]) (rest := []) rfl rfl rfl rfl (Nat.le_of_ble_eq_true rfl) (cr_mono (c_is (d := d) isT_54 _ hR hL) ?_)
          rintro s24 out ⟨b21, rfl, h22, e23⟩
          refine ⟨_, rfl, ?_⟩
          rw [e23]
          show wr (d + 5) tb_M151 55 [(0, .ref 170)] [vi b21] s _
          have h22 : b21 = 0 ∨ b21 = 1 ∧ (s.1 170 4 = 2 ∨ s.1 170 4 = 4) ∧ s.1 170 5 + 1 = s.1 170 6 := h22
          by_cases h25 : b21 = 0
          · refine wr_if1t rfl rfl (by unfold i32; omega) h25 ?_
            refine wr_n (pc2 := 64) (lv2 := [(0, .ref 170)]) (st2 := [.ref 56, .ref 170]) 2 (fun _ _ => rfl) ?_
            refine wr_call1 (args := [.ref 56]) (rest := []) rfl rfl rfl rfl (Nat.le_of_ble_eq_true rfl) (cr_mono (c_is (d := d) isT_56 _ hR hL) ?_)
            rintro s29 out ⟨b26, rfl, h27, e28⟩
            refine ⟨_, rfl, ?_⟩
            rw [e28]
            show wr (d + 5) tb_M151 67 [(0, .ref 170)] [vi b26] s _
            have h27 : b26 = 0 ∨ b26 = 1 ∧ (s.1 170 4 = 2 ∨ s.1 170 4 = 4) ∧ s.1 170 5 + 2 = s.1 170 6 := h27
            by_cases h30 : b26 ≠ 0
            · refine wr_if1t rfl rfl (by unfold i32; omega) h30 ?_
              refine wr_n (pc2 := 81) (lv2 := [(0, .ref 170)]) (st2 := [vi 5]) 1 (fun _ _ => rfl) ?_
              refine wr_end (fun _ _ => rfl) ?_
              exact ⟨5, rfl, by omega, rfl⟩
            · refine wr_if1f rfl rfl (by unfold i32; omega) h30 ?_
              refine wr_n (pc2 := 74) (lv2 := [(0, .ref 170)]) (st2 := [.ref 58, .ref 170]) 2 (fun _ _ => rfl) ?_
              refine wr_call1 (args := [.ref 58]) (rest := []) rfl rfl rfl rfl (Nat.le_of_ble_eq_true rfl) (cr_mono (c_is (d := d) isT_58 _ hR hL) ?_)
              rintro s34 out ⟨b31, rfl, h32, e33⟩
              refine ⟨_, rfl, ?_⟩
              rw [e33]
              show wr (d + 5) tb_M151 77 [(0, .ref 170)] [vi b31] s _
              have h32 : b31 = 0 ∨ b31 = 1 ∧ (s.1 170 4 = 2 ∨ s.1 170 4 = 4) ∧ s.1 170 5 + 2 = s.1 170 6 := h32
              by_cases h35 : b31 = 0
              · refine wr_if1t rfl rfl (by unfold i32; omega) h35 ?_
                refine wr_n (pc2 := 86) (lv2 := [(0, .ref 170)]) (st2 := [.ref 60, .ref 170]) 2 (fun _ _ => rfl) ?_
                refine wr_call1 (args := [.ref 60]) (rest := []) rfl rfl rfl rfl (Nat.le_of_ble_eq_true rfl) (cr_mono (c_is (d := d) isT_60 _ hR hL) ?_)
                rintro s39 out ⟨b36, rfl, h37, e38⟩
                refine ⟨_, rfl, ?_⟩
                rw [e38]
                show wr (d + 5) tb_M151 89 [(0, .ref 170)] [vi b36] s _
                have h37 : b36 = 0 ∨ b36 = 1 ∧ (s.1 170 4 = 2 ∨ s.1 170 4 = 4) ∧ s.1 170 5 + 1 = s.1 170 6 := h37
                by_cases h40 : b36 ≠ 0
                · refine wr_if1t rfl rfl (by unfold i32; omega) h40 ?_
                  refine wr_n (pc2 := 124) (lv2 := [(0, .ref 170)]) (st2 := [vi 6]) 1 (fun _ _ => rfl) ?_
                  refine wr_end (fun _ _ => rfl) ?_
                  exact ⟨6, rfl, by omega, rfl⟩
                · refine wr_if1f rfl rfl (by unfold i32; omega) h40 ?_
                  refine wr_n (pc2 := 96) (lv2 := [(0, .ref 170)]) (st2 := [.ref 62, .ref 170]) 2 (fun _ _ => rfl) ?_
                  refine wr_call1 (args := [.ref 62]) (rest := []) rfl rfl rfl rfl (Nat.le_of_ble_eq_true rfl) (cr_mono (c_is (d := d) isT_62 _ hR hL) ?_)
                  rintro s44 out ⟨b41, rfl, h42, e43⟩
                  refine ⟨_, rfl, ?_⟩
                  rw [e43]
                  show wr (d + 5) tb_M151 99 [(0, .ref 170)] [vi b41] s _
                  have h42 : b41 = 0 ∨ b41 = 1 ∧ (s.1 170 4 = 2 ∨ s.1 170 4 = 4) ∧ s.1 170 5 + 2 = s.1 170 6 := h42
                  by_cases h45 : b41 ≠ 0
                  · refine wr_if1t rfl rfl (by unfold i32; omega) h45 ?_
                    refine wr_n (pc2 := 124) (lv2 := [(0, .ref 170)]) (st2 := [vi 6]) 1 (fun _ _ => rfl) ?_
                    refine wr_end (fun _ _ => rfl) ?_
                    exact ⟨6, rfl, by omega, rfl⟩
                  · refine wr_if1f rfl rfl (by unfold i32; omega) h45 ?_
                    refine wr_n (pc2 := 106) (lv2 := [(0, .ref 170)]) (st2 := [.ref 64, .ref 170]) 2 (fun _ _ => rfl) ?_
                    refine wr_call1 (args := [.ref 64]) (rest := []) rfl rfl rfl rfl (Nat.le_of_ble_eq_true rfl) (cr_mono (c_is (d := d) isT_64 _ hR hL) ?_)
                    rintro s49 out ⟨b46, rfl, h47, e48⟩
                    refine ⟨_, rfl, ?_⟩
                    rw [e48]
                    show wr (d + 5) tb_M151 109 [(0, .ref 170)] [vi b46] s _
                    have h47 : b46 = 0 ∨ b46 = 1 ∧ (s.1 170 4 = 2 ∨ s.1 170 4 = 4) ∧ s.1 170 5 + 1 = s.1 170 6 := h47
                    by_cases h50 : b46 ≠ 0
                    · refine wr_if1t rfl rfl (by unfold i32; omega) h50 ?_
                      refine wr_n (pc2 := 124) (lv2 := [(0, .ref 170)]) (st2 := [vi 6]) 1 (fun _ _ => rfl) ?_
                      refine wr_end (fun _ _ => rfl) ?_
                      exact ⟨6, rfl, by omega, rfl⟩
                    · refine wr_if1f rfl rfl (by unfold i32; omega) h50 ?_
                      refine wr_n (pc2 := 116) (lv2 := [(0, .ref 170)]) (st2 := [.ref 66, .ref 170]) 2 (fun _ _ => rfl) ?_
                      refine wr_call1 (args := [.ref 66]) (rest := []) rfl rfl rfl rfl (Nat.le_of_ble_eq_true rfl) (cr_mono (c_is (d := d) isT_66 _ hR hL) ?_)
                      rintro s54 out ⟨b51, rfl, h52, e53⟩
                      refine ⟨_, rfl, ?_⟩
                      rw [e53]
                      show wr (d + 5) tb_M151 119 [(0, .ref 170)] [vi b51] s _
                      have h52 : b51 = 0 ∨ b51 = 1 ∧ (s.1 170 4 = 2 ∨ s.1 170 4 = 4) ∧ s.1 170 5 + 2 = s.1 170 6 := h52
                      by_cases h55 : b51 = 0
                      · refine wr_if1t rfl rfl (by unfold i32; omega) h55 ?_
                        refine wr_n (pc2 := 129) (lv2 := [(0, .ref 170)]) (st2 := [.ref 68, .ref 170]) 2 (fun _ _ => rfl) ?_
                        refine wr_call1 (args := [.ref 68]) (rest := []) rfl rfl rfl rfl (Nat.le_of_ble_eq_true rfl) (cr_mono (c_is (d := d) isT_68 _ hR hL) ?_)
                        rintro s59 out ⟨b56, rfl, h57, e58⟩
                        refine ⟨_, rfl, ?_⟩
                        rw [e58]
                        show wr (d + 5) tb_M151 132 [(0, .ref 170)] [vi b56] s _
                        have h57 : b56 = 0 ∨ b56 = 1 ∧ (s.1 170 4 = 2 ∨ s.1 170 4 = 4) ∧ s.1 170 5 + 2 = s.1 170 6 := h57
                        by_cases h60 : b56 ≠ 0
                        · refine wr_if1t rfl rfl (by unfold i32; omega) h60 ?_
                          refine wr_n (pc2 := 147) (lv2 := [(0, .ref 170)]) (st2 := [vi 7]) 1 (fun _ _ => rfl) ?_
                          refine wr_end (fun _ _ => rfl) ?_
                          exact ⟨7, rfl, by omega, rfl⟩
                        · refine wr_if1f rfl rfl (by unfold i32; omega) h60 ?_
                          refine wr_n (pc2 := 139) (lv2 := [(0, .ref 170)]) (st2 := [.ref 70, .ref 170]) 2 (fun _ _ => rfl) ?_
                          refine wr_call1 (args := [.ref 70]) (rest := []) rfl rfl rfl rfl (Nat.le_of_ble_eq_true rfl) (cr_mono (c_is (d := d) isT_70 _ hR hL) ?_)
                          rintro s64 out ⟨b61, rfl, h62, e63⟩
                          refine ⟨_, rfl, ?_⟩
                          rw [e63]
                          show wr (d + 5) tb_M151 142 [(0, .ref 170)] [vi b61] s _
                          have h62 : b61 = 0 ∨ b61 = 1 ∧ (s.1 170 4 = 2 ∨ s.1 170 4 = 4) ∧ s.1 170 5 + 2 = s.1 170 6 := h62
                          by_cases h65 : b61 = 0
                          · refine wr_if1t rfl rfl (by unfold i32; omega) h65 ?_
                            refine wr_n (pc2 := 152) (lv2 := [(0, .ref 170)]) (st2 := [.ref 72, .ref 170]) 2 (fun _ _ => rfl) ?_
                            refine wr_call1 (args := [.ref 72]) (rest := []) rfl rfl rfl rfl (Nat.le_of_ble_eq_true rfl) (cr_mono (c_is (d := d) isT_72 _ hR hL) ?_)
                            rintro s69 out ⟨b66, rfl, h67, e68⟩
                            refine ⟨_, rfl, ?_⟩
                            rw [e68]
                            show wr (d + 5) tb_M151 155 [(0, .ref 170)] [vi b66] s _
                            have h67 : b66 = 0 ∨ b66 = 1 ∧ (s.1 170 4 = 2 ∨ s.1 170 4 = 4) ∧ s.1 170 5 + 1 = s.1 170 6 := h67
                            by_cases h70 : b66 ≠ 0
                            · refine wr_if1t rfl rfl (by unfold i32; omega) h70 ?_
                              refine wr_n (pc2 := 170) (lv2 := [(0, .ref 170)]) (st2 := [vi 8]) 1 (fun _ _ => rfl) ?_
                              refine wr_end (fun _ _ => rfl) ?_
                              exact ⟨8, rfl, by omega, rfl⟩
                            · refine wr_if1f rfl rfl (by unfold i32; omega) h70 ?_
                              refine wr_n (pc2 := 162) (lv2 := [(0, .ref 170)]) (st2 := [.ref 38, .ref 170]) 2 (fun _ _ => rfl) ?_
                              refine wr_call1 (args := [.ref 38]) (rest := []) rfl rfl rfl rfl (Nat.le_of_ble_eq_true rfl) (cr_mono (c_is (d := d) isT_38 _ hR hL) ?_)
                              rintro s74 out ⟨b71, rfl, h72, e73⟩
                              refine ⟨_, rfl, ?_⟩
                              rw [e73]
                              show wr (d + 5) tb_M151 165 [(0, .ref 170)] [vi b71] s _
                              have h72 : b71 = 0 ∨ b71 = 1 ∧ (s.1 170 4 = 2 ∨ s.1 170 4 = 4) ∧ s.1 170 5 + 1 = s.1 170 6 := h72
                              by_cases h75 : b71 = 0
                              · refine wr_if1t rfl rfl (by unfold i32; omega) h75 ?_
                                refine wr_n (pc2 := 175) (lv2 := [(0, .ref 170)]) (st2 := [.ref 74, .ref 170]) 2 (fun _ _ => rfl) ?_
                                refine wr_call1 (args := [.ref 74]) (rest := []) rfl rfl rfl rfl (Nat.le_of_ble_eq_true rfl) (cr_mono (c_is (d := d) isT_74 _ hR hL) ?_)
                                rintro s79 out ⟨b76, rfl, h77, e78⟩
                                refine ⟨_, rfl, ?_⟩
                                rw [e78]
                                show wr (d + 5) tb_M151 178 [(0, .ref 170)] [vi b76] s _
                                have h77 : b76 = 0 ∨ b76 = 1 ∧ (s.1 170 4 = 2 ∨ s.1 170 4 = 4) ∧ s.1 170 5 + 1 = s.1 170 6 := h77
                                by_cases h80 : b76 ≠ 0
                                · refine wr_if1t rfl rfl (by unfold i32; omega) h80 ?_
                                  refine wr_n (pc2 := 207) (lv2 := [(0, .ref 170)]) (st2 := [vi 9]) 2 (fun _ _ => rfl) ?_
                                  refine wr_end (fun _ _ => rfl) ?_
                                  exact ⟨9, rfl, by omega, rfl⟩
                                · refine wr_if1f rfl rfl (by unfold i32; omega) h80 ?_
                                  refine wr_n (pc2 := 185) (lv2 := [(0, .ref 170)]) (st2 := [.ref 76, .ref 170]) 2 (fun _ _ => rfl) ?_
                                  refine wr_call1 (args := [.ref 76]) (rest := []) rfl rfl rfl rfl (Nat.le_of_ble_eq_true rfl) (cr_mono (c_is (d := d) isT_76 _ hR hL) ?_)
                                  rintro s84 out ⟨b81, rfl, h82, e83⟩
                                  refine ⟨_, rfl, ?_⟩
                                  rw [e83]
                                  show wr (d + 5) tb_M151 188 [(0, .ref 170)] [vi b81] s _
                                  have h82 : b81 = 0 ∨ b81 = 1 ∧ (s.1 170 4 = 2 ∨ s.1 170 4 = 4) ∧ s.1 170 5 + 1 = s.1 170 6 := h82
                                  by_cases h85 : b81 ≠ 0
                                  · refine wr_if1t rfl rfl (by unfold i32; omega) h85 ?_
                                    refine wr_n (pc2 := 207) (lv2 := [(0, .ref 170)]) (st2 := [vi 9]) 2 (fun _ _ => rfl) ?_
                                    refine wr_end (fun _ _ => rfl) ?_
                                    exact ⟨9, rfl, by omega, rfl⟩
                                  · refine wr_if1f rfl rfl (by unfold i32; omega) h85 ?_
                                    refine wr_n (pc2 := 195) (lv2 := [(0, .ref 170)]) (st2 := [.ref 78, .ref 170]) 2 (fun _ _ => rfl) ?_
                                    refine wr_call1 (args := [.ref 78]) (rest := []) rfl rfl rfl rfl (Nat.le_of_ble_eq_true rfl) (cr_mono (c_is (d := d) isT_78 _ hR hL) ?_)
                                    rintro s89 out ⟨b86, rfl, h87, e88⟩
                                    refine ⟨_, rfl, ?_⟩
                                    rw [e88]
                                    show wr (d + 5) tb_M151 198 [(0, .ref 170)] [vi b86] s _
                                    have h87 : b86 = 0 ∨ b86 = 1 ∧ (s.1 170 4 = 2 ∨ s.1 170 4 = 4) ∧ s.1 170 5 + 1 = s.1 170 6 := h87
                                    by_cases h90 : b86 = 0
                                    · refine wr_if1t rfl rfl (by unfold i32; omega) h90 ?_
                                      refine wr_n (pc2 := 207) (lv2 := [(0, .ref 170)]) (st2 := [vi ((-1))]) 1 (fun _ _ => rfl) ?_
                                      refine wr_end (fun _ _ => rfl) ?_
                                      exact ⟨(-1), rfl, by omega, rfl⟩
                                    · refine wr_if1f rfl rfl (by unfold i32; omega) h90 ?_
                                      refine wr_n (pc2 := 207) (lv2 := [(0, .ref 170)]) (st2 := [vi 9]) 2 (fun _ _ => rfl) ?_
                                      refine wr_end (fun _ _ => rfl) ?_
                                      exact ⟨9, rfl, by omega, rfl⟩
                              · refine wr_if1f rfl rfl (by unfold i32; omega) h75 ?_
                                refine wr_n (pc2 := 170) (lv2 := [(0, .ref 170)]) (st2 := [vi 8]) 1 (fun _ _ => rfl) ?_
                                refine wr_end (fun _ _ => rfl) ?_
                                exact ⟨8, rfl, by omega, rfl⟩
                          · refine wr_if1f rfl rfl (by unfold i32; omega) h65 ?_
                            refine wr_n (pc2 := 147) (lv2 := [(0, .ref 170)]) (st2 := [vi 7]) 1 (fun _ _ => rfl) ?_
                            refine wr_end (fun _ _ => rfl) ?_
                            exact ⟨7, rfl, by omega, rfl⟩
                      · refine wr_if1f rfl rfl (by unfold i32; omega) h55 ?_
                        refine wr_n (pc2 := 124) (lv2 := [(0, .ref 170)]) (st2 := [vi 6]) 1 (fun _ _ => rfl) ?_
                        refine wr_end (fun _ _ => rfl) ?_
                        exact ⟨6, rfl, by omega, rfl⟩
              · refine wr_if1f rfl rfl (by unfold i32; omega) h35 ?_
                refine wr_n (pc2 := 81) (lv2 := [(0, .ref 170)]) (st2 := [vi 5]) 1 (fun _ _ => rfl) ?_
                refine wr_end (fun _ _ => rfl) ?_
                exact ⟨5, rfl, by omega, rfl⟩
          · refine wr_if1f rfl rfl (by unfold i32; omega) h25 ?_
            refine wr_n (pc2 := 59) (lv2 := [(0, .ref 170)]) (st2 := [vi 4]) 1 (fun _ _ => rfl) ?_
            refine wr_end (fun _ _ => rfl) ?_
            exact ⟨4, rfl, by omega, rfl⟩
        · refine wr_if1f rfl rfl (by unfold i32; omega) h20 ?_
          refine wr_n (pc2 := 47) (lv2 := [(0, .ref 170)]) (st2 := [vi 3]) 1 (fun _ _ => rfl) ?_
          refine wr_end (fun _ _ => rfl) ?_
          exact ⟨3, rfl, by omega, rfl⟩
      · refine wr_if1f rfl rfl (by unfold i32; omega) h15 ?_
        refine wr_n (pc2 := 35) (lv2 := [(0, .ref 170)]) (st2 := [vi 2]) 1 (fun _ _ => rfl) ?_
        refine wr_end (fun _ _ => rfl) ?_
        exact ⟨2, rfl, by omega, rfl⟩
    · refine wr_if1f rfl rfl (by unfold i32; omega) h10 ?_
      refine wr_n (pc2 := 23) (lv2 := [(0, .ref 170)]) (st2 := [vi 1]) 1 (fun _ _ => rfl) ?_
      refine wr_end (fun _ _ => rfl) ?_
      exact ⟨1, rfl, by omega, rfl⟩
  · refine wr_if1f rfl rfl (by unfold i32; omega) h5 ?_
    refine wr_n (pc2 := 11) (lv2 := [(0, .ref 170)]) (st2 := [vi 0]) 1 (fun _ _ => rfl) ?_
    refine wr_end (fun _ _ => rfl) ?_
    exact ⟨0, rfl, by omega, rfl⟩
set_option maxRecDepth 100000 in
theorem c_declare {d : Nat} {w u : Int} (s : rS) (hR : RF s.1) (hL : LX s.1) (hN : NM s.1) (hw : i32 w) (hu : i32 u) (hn : s.1 170 14 < 100) : cr (d + 7) 133 [.ref 170, vi w, vi u] s (fun s2 out => ∃ b : Int, out = some (some (vi b)) ∧ s2.2 = s.2 ∧ (b = 0 ∧ same 170 [8] s.1 s2.1 ∨ b = 1 ∧ same 170 [3, 4, 5, 6, 7] (up2 (up2 (up2 (up2 (up2 (up2 s.1 172 (s.1 170 14).toNat (s.1 170 5)) 173 (s.1 170 14).toNat (s.1 170 6)) 174 (s.1 170 14).toNat w) 175 (s.1 170 14).toNat u) 176 (s.1 170 14).toNat (s.1 170 15)) 170 14 (s.1 170 14 + 1)) s2.1 ∧ LX s2.1 ∧ s.1 170 6 ≤ s2.1 170 5)) := by
  obtain ⟨x0, x1, x2, x3, x4, x5, x6⟩ := id hL
  obtain ⟨y0, y1, y2⟩ := id hN
  unfold i32 at hw hu
  refine cr_of (M := tb_M133) rfl (Nat.le_of_ble_eq_true rfl) ?_
  show wr (d + 6) tb_M133 0 [(0, .ref 170), (1, vi w), (2, vi u)] [] s _
  refine wr_n (pc2 := 1) (lv2 := [(0, .ref 170), (1, vi w), (2, vi u)]) (st2 := [.ref 170]) 1 (fun _ _ => rfl) ?_
  refine wr_call1 (args := []) (rest := []) rfl rfl rfl rfl (Nat.le_of_ble_eq_true rfl) (cr_mono (c_find (d := d + 5) _ hR hL hN) ?_)
  rintro s4 out ⟨k1, rfl, h2, e3⟩
  refine ⟨_, rfl, ?_⟩
  rw [e3]
  show wr (d + 6) tb_M133 4 [(0, .ref 170), (1, vi w), (2, vi u)] [vi k1] s _
  refine wr_n (pc2 := 6) (lv2 := [(3, vi k1), (0, .ref 170), (1, vi w), (2, vi u)]) (st2 := [vi k1]) 2 (fun _ _ => rfl) ?_
  by_cases h5 : k1 < 0
  · refine wr_if1t rfl rfl (by unfold i32; omega) h5 ?_
    refine wr_n (pc2 := 28) (lv2 := [(3, vi k1), (0, .ref 170), (1, vi w), (2, vi u)]) (st2 := [.ref 170]) 1 (fun _ _ => rfl) ?_
    refine wr_get (v := .ref 172) rfl rfl rfl (by decide) (rv_ref (hR 170 9 172 rfl)) fun h6 => ?_
    show wr (d + 6) tb_M133 31 [(3, vi k1), (0, .ref 170), (1, vi w), (2, vi u)] [.ref 172] s _
    refine wr_n (pc2 := 32) (lv2 := [(3, vi k1), (0, .ref 170), (1, vi w), (2, vi u)]) (st2 := [.ref 170, .ref 172]) 1 (fun _ _ => rfl) ?_
    refine wr_get (v := vi (s.1 170 14)) rfl rfl rfl (by decide) rfl fun h7 => ?_
    have h7 : -2147483648 ≤ s.1 170 14 ∧ s.1 170 14 ≤ 2147483647 := h7
    show wr (d + 6) tb_M133 35 [(3, vi k1), (0, .ref 170), (1, vi w), (2, vi u)] [vi (s.1 170 14), .ref 172] s _
    refine wr_n (pc2 := 36) (lv2 := [(3, vi k1), (0, .ref 170), (1, vi w), (2, vi u)]) (st2 := [.ref 170, vi (s.1 170 14), .ref 172]) 1 (fun _ _ => rfl) ?_
    refine wr_get (v := vi (s.1 170 5)) rfl rfl rfl (by decide) rfl fun h8 => ?_
    have h8 : -2147483648 ≤ s.1 170 5 ∧ s.1 170 5 ≤ 2147483647 := h8
    show wr (d + 6) tb_M133 39 [(3, vi k1), (0, .ref 170), (1, vi w), (2, vi u)] [vi (s.1 170 5), vi (s.1 170 14), .ref 172] s _
    refine wr_ast (a := s.1 170 14) (z := s.1 170 5) rfl (by decide) rfl rfl (by omega) (by omega) (by decide) rfl (show -2147483648 ≤ s.1 170 5 ∧ s.1 170 5 ≤ 2147483647 by omega) ?_
    show wr (d + 6) tb_M133 40 [(3, vi k1), (0, .ref 170), (1, vi w), (2, vi u)] [] (up2 s.1 172 ((s.1 170 14).toNat) (s.1 170 5), s.2) _
    have hR9 : RF (up2 s.1 172 ((s.1 170 14).toNat) (s.1 170 5)) := (RF_up hR rfl)
    refine wr_n (pc2 := 41) (lv2 := [(3, vi k1), (0, .ref 170), (1, vi w), (2, vi u)]) (st2 := [.ref 170]) 1 (fun _ _ => rfl) ?_
    refine wr_get (v := .ref 173) rfl rfl rfl (by decide) (rv_ref (hR9 170 10 173 rfl)) fun h10 => ?_
    show wr (d + 6) tb_M133 44 [(3, vi k1), (0, .ref 170), (1, vi w), (2, vi u)] [.ref 173] (up2 s.1 172 ((s.1 170 14).toNat) (s.1 170 5), s.2) _
    refine wr_n (pc2 := 45) (lv2 := [(3, vi k1), (0, .ref 170), (1, vi w), (2, vi u)]) (st2 := [.ref 170, .ref 173]) 1 (fun _ _ => rfl) ?_
    refine wr_get (v := vi (s.1 170 14)) rfl rfl rfl (by decide) rfl fun h11 => ?_
    have h11 : -2147483648 ≤ s.1 170 14 ∧ s.1 170 14 ≤ 2147483647 := h11
    show wr (d + 6) tb_M133 48 [(3, vi k1), (0, .ref 170), (1, vi w), (2, vi u)] [vi (s.1 170 14), .ref 173] (up2 s.1 172 ((s.1 170 14).toNat) (s.1 170 5), s.2) _
    refine wr_n (pc2 := 49) (lv2 := [(3, vi k1), (0, .ref 170), (1, vi w), (2, vi u)]) (st2 := [.ref 170, vi (s.1 170 14), .ref 173]) 1 (fun _ _ => rfl) ?_
    refine wr_get (v := vi (s.1 170 6)) rfl rfl rfl (by decide) rfl fun h12 => ?_
    have h12 : -2147483648 ≤ s.1 170 6 ∧ s.1 170 6 ≤ 2147483647 := h12
    show wr (d + 6) tb_M133 52 [(3, vi k1), (0, .ref 170), (1, vi w), (2, vi u)] [vi (s.1 170 6), vi (s.1 170 14), .ref 173] (up2 s.1 172 ((s.1 170 14).toNat) (s.1 170 5), s.2) _
    refine wr_ast (a := s.1 170 14) (z := s.1 170 6) rfl (by decide) rfl rfl (by omega) (by omega) (by decide) rfl (show -2147483648 ≤ s.1 170 6 ∧ s.1 170 6 ≤ 2147483647 by omega) ?_
    show wr (d + 6) tb_M133 53 [(3, vi k1), (0, .ref 170), (1, vi w), (2, vi u)] [] (up2 (up2 s.1 172 ((s.1 170 14).toNat) (s.1 170 5)) 173 ((s.1 170 14).toNat) (s.1 170 6), s.2) _
    have hR13 : RF (up2 (up2 s.1 172 ((s.1 170 14).toNat) (s.1 170 5)) 173 ((s.1 170 14).toNat) (s.1 170 6)) := (RF_up (RF_up hR rfl) rfl)
    refine wr_n (pc2 := 54) (lv2 := [(3, vi k1), (0, .ref 170), (1, vi w), (2, vi u)]) (st2 := [.ref 170]) 1 (fun _ _ => rfl) ?_
    refine wr_get (v := .ref 174) rfl rfl rfl (by decide) (rv_ref (hR13 170 11 174 rfl)) fun h14 => ?_
    show wr (d + 6) tb_M133 57 [(3, vi k1), (0, .ref 170), (1, vi w), (2, vi u)] [.ref 174] (up2 (up2 s.1 172 ((s.1 170 14).toNat) (s.1 170 5)) 173 ((s.1 170 14).toNat) (s.1 170 6), s.2) _
    refine wr_n (pc2 := 58) (lv2 := [(3, vi k1), (0, .ref 170), (1, vi w), (2, vi u)]) (st2 := [.ref 170, .ref 174]) 1 (fun _ _ => rfl) ?_
    refine wr_get (v := vi (s.1 170 14)) rfl rfl rfl (by decide) rfl fun h15 => ?_
    have h15 : -2147483648 ≤ s.1 170 14 ∧ s.1 170 14 ≤ 2147483647 := h15
    show wr (d + 6) tb_M133 61 [(3, vi k1), (0, .ref 170), (1, vi w), (2, vi u)] [vi (s.1 170 14), .ref 174] (up2 (up2 s.1 172 ((s.1 170 14).toNat) (s.1 170 5)) 173 ((s.1 170 14).toNat) (s.1 170 6), s.2) _
    refine wr_n (pc2 := 62) (lv2 := [(3, vi k1), (0, .ref 170), (1, vi w), (2, vi u)]) (st2 := [vi w, vi (s.1 170 14), .ref 174]) 1 (fun _ _ => rfl) ?_
    refine wr_ast (a := s.1 170 14) (z := w) rfl (by decide) rfl rfl (by omega) (by omega) (by decide) rfl (show -2147483648 ≤ w ∧ w ≤ 2147483647 by omega) ?_
    show wr (d + 6) tb_M133 63 [(3, vi k1), (0, .ref 170), (1, vi w), (2, vi u)] [] (up2 (up2 (up2 s.1 172 ((s.1 170 14).toNat) (s.1 170 5)) 173 ((s.1 170 14).toNat) (s.1 170 6)) 174 ((s.1 170 14).toNat) w, s.2) _
    have hR16 : RF (up2 (up2 (up2 s.1 172 ((s.1 170 14).toNat) (s.1 170 5)) 173 ((s.1 170 14).toNat) (s.1 170 6)) 174 ((s.1 170 14).toNat) w) := (RF_up (RF_up (RF_up hR rfl) rfl) rfl)
    refine wr_n (pc2 := 64) (lv2 := [(3, vi k1), (0, .ref 170), (1, vi w), (2, vi u)]) (st2 := [.ref 170]) 1 (fun _ _ => rfl) ?_
    refine wr_get (v := .ref 175) rfl rfl rfl (by decide) (rv_ref (hR16 170 12 175 rfl)) fun h17 => ?_
    show wr (d + 6) tb_M133 67 [(3, vi k1), (0, .ref 170), (1, vi w), (2, vi u)] [.ref 175] (up2 (up2 (up2 s.1 172 ((s.1 170 14).toNat) (s.1 170 5)) 173 ((s.1 170 14).toNat) (s.1 170 6)) 174 ((s.1 170 14).toNat) w, s.2) _
    refine wr_n (pc2 := 68) (lv2 := [(3, vi k1), (0, .ref 170), (1, vi w), (2, vi u)]) (st2 := [.ref 170, .ref 175]) 1 (fun _ _ => rfl) ?_
    refine wr_get (v := vi (s.1 170 14)) rfl rfl rfl (by decide) rfl fun h18 => ?_
    have h18 : -2147483648 ≤ s.1 170 14 ∧ s.1 170 14 ≤ 2147483647 := h18
    show wr (d + 6) tb_M133 71 [(3, vi k1), (0, .ref 170), (1, vi w), (2, vi u)] [vi (s.1 170 14), .ref 175] (up2 (up2 (up2 s.1 172 ((s.1 170 14).toNat) (s.1 170 5)) 173 ((s.1 170 14).toNat) (s.1 170 6)) 174 ((s.1 170 14).toNat) w, s.2) _
    refine wr_n (pc2 := 72) (lv2 := [(3, vi k1), (0, .ref 170), (1, vi w), (2, vi u)]) (st2 := [vi u, vi (s.1 170 14), .ref 175]) 1 (fun _ _ => rfl) ?_
    refine wr_ast (a := s.1 170 14) (z := u) rfl (by decide) rfl rfl (by omega) (by omega) (by decide) rfl (show -2147483648 ≤ u ∧ u ≤ 2147483647 by omega) ?_
    show wr (d + 6) tb_M133 73 [(3, vi k1), (0, .ref 170), (1, vi w), (2, vi u)] [] (up2 (up2 (up2 (up2 s.1 172 ((s.1 170 14).toNat) (s.1 170 5)) 173 ((s.1 170 14).toNat) (s.1 170 6)) 174 ((s.1 170 14).toNat) w) 175 ((s.1 170 14).toNat) u, s.2) _
    have hR19 : RF (up2 (up2 (up2 (up2 s.1 172 ((s.1 170 14).toNat) (s.1 170 5)) 173 ((s.1 170 14).toNat) (s.1 170 6)) 174 ((s.1 170 14).toNat) w) 175 ((s.1 170 14).toNat) u) := (RF_up (RF_up (RF_up (RF_up hR rfl) rfl) rfl) rfl)
    refine wr_n (pc2 := 74) (lv2 := [(3, vi k1), (0, .ref 170), (1, vi w), (2, vi u)]) (st2 := [.ref 170]) 1 (fun _ _ => rfl) ?_
    refine wr_get (v := .ref 176) rfl rfl rfl (by decide) (rv_ref (hR19 170 13 176 rfl)) fun h20 => ?_
    show wr (d + 6) tb_M133 77 [(3, vi k1), (0, .ref 170), (1, vi w), (2, vi u)] [.ref 176] (up2 (up2 (up2 (up2 s.1 172 ((s.1 170 14).toNat) (s.1 170 5)) 173 ((s.1 170 14).toNat) (s.1 170 6)) 174 ((s.1 170 14).toNat) w) 175 ((s.1 170 14).toNat) u, s.2) _
    refine wr_n (pc2 := 78) (lv2 := [(3, vi k1), (0, .ref 170), (1, vi w), (2, vi u)]) (st2 := [.ref 170, .ref 176]) 1 (fun _ _ => rfl) ?_
    refine wr_get (v := vi (s.1 170 14)) rfl rfl rfl (by decide) rfl fun h21 => ?_
    have h21 : -2147483648 ≤ s.1 170 14 ∧ s.1 170 14 ≤ 2147483647 := h21
    show wr (d + 6) tb_M133 81 [(3, vi k1), (0, .ref 170), (1, vi w), (2, vi u)] [vi (s.1 170 14), .ref 176] (up2 (up2 (up2 (up2 s.1 172 ((s.1 170 14).toNat) (s.1 170 5)) 173 ((s.1 170 14).toNat) (s.1 170 6)) 174 ((s.1 170 14).toNat) w) 175 ((s.1 170 14).toNat) u, s.2) _
    refine wr_n (pc2 := 82) (lv2 := [(3, vi k1), (0, .ref 170), (1, vi w), (2, vi u)]) (st2 := [.ref 170, vi (s.1 170 14), .ref 176]) 1 (fun _ _ => rfl) ?_
    refine wr_get (v := vi (s.1 170 15)) rfl rfl rfl (by decide) rfl fun h22 => ?_
    have h22 : -2147483648 ≤ s.1 170 15 ∧ s.1 170 15 ≤ 2147483647 := h22
    show wr (d + 6) tb_M133 85 [(3, vi k1), (0, .ref 170), (1, vi w), (2, vi u)] [vi (s.1 170 15), vi (s.1 170 14), .ref 176] (up2 (up2 (up2 (up2 s.1 172 ((s.1 170 14).toNat) (s.1 170 5)) 173 ((s.1 170 14).toNat) (s.1 170 6)) 174 ((s.1 170 14).toNat) w) 175 ((s.1 170 14).toNat) u, s.2) _
    refine wr_ast (a := s.1 170 14) (z := s.1 170 15) rfl (by decide) rfl rfl (by omega) (by omega) (by decide) rfl (show -2147483648 ≤ s.1 170 15 ∧ s.1 170 15 ≤ 2147483647 by omega) ?_
    show wr (d + 6) tb_M133 86 [(3, vi k1), (0, .ref 170), (1, vi w), (2, vi u)] [] (up2 (up2 (up2 (up2 (up2 s.1 172 ((s.1 170 14).toNat) (s.1 170 5)) 173 ((s.1 170 14).toNat) (s.1 170 6)) 174 ((s.1 170 14).toNat) w) 175 ((s.1 170 14).toNat) u) 176 ((s.1 170 14).toNat) (s.1 170 15), s.2) _
    have hR23 : RF (up2 (up2 (up2 (up2 (up2 s.1 172 ((s.1 170 14).toNat) (s.1 170 5)) 173 ((s.1 170 14).toNat) (s.1 170 6)) 174 ((s.1 170 14).toNat) w) 175 ((s.1 170 14).toNat) u) 176 ((s.1 170 14).toNat) (s.1 170 15)) := (RF_up (RF_up (RF_up (RF_up (RF_up hR rfl) rfl) rfl) rfl) rfl)
    refine wr_n (pc2 := 88) (lv2 := [(3, vi k1), (0, .ref 170), (1, vi w), (2, vi u)]) (st2 := [.ref 170, .ref 170]) 2 (fun _ _ => rfl) ?_
    refine wr_get (v := vi (s.1 170 14)) rfl rfl rfl (by decide) rfl fun h24 => ?_
    have h24 : -2147483648 ≤ s.1 170 14 ∧ s.1 170 14 ≤ 2147483647 := h24
    show wr (d + 6) tb_M133 91 [(3, vi k1), (0, .ref 170), (1, vi w), (2, vi u)] [vi (s.1 170 14), .ref 170] (up2 (up2 (up2 (up2 (up2 s.1 172 ((s.1 170 14).toNat) (s.1 170 5)) 173 ((s.1 170 14).toNat) (s.1 170 6)) 174 ((s.1 170 14).toNat) w) 175 ((s.1 170 14).toNat) u) 176 ((s.1 170 14).toNat) (s.1 170 15), s.2) _
    refine wr_n (pc2 := 92) (lv2 := [(3, vi k1), (0, .ref 170), (1, vi w), (2, vi u)]) (st2 := [vi 1, vi (s.1 170 14), .ref 170]) 1 (fun _ _ => rfl) ?_
    refine wr_add (a := s.1 170 14) (b := 1) rfl ?_
    show wr (d + 6) tb_M133 93 [(3, vi k1), (0, .ref 170), (1, vi w), (2, vi u)] [vi (s.1 170 14 + 1), .ref 170] (up2 (up2 (up2 (up2 (up2 s.1 172 ((s.1 170 14).toNat) (s.1 170 5)) 173 ((s.1 170 14).toNat) (s.1 170 6)) 174 ((s.1 170 14).toNat) w) 175 ((s.1 170 14).toNat) u) 176 ((s.1 170 14).toNat) (s.1 170 15), s.2) _
    refine wr_put (z := s.1 170 14 + 1) rfl rfl rfl rfl (by decide) rfl (by decide) rfl (show -2147483648 ≤ s.1 170 14 + 1 ∧ s.1 170 14 + 1 ≤ 2147483647 by omega) (hf_int' _) ?_
    show wr (d + 6) tb_M133 96 [(3, vi k1), (0, .ref 170), (1, vi w), (2, vi u)] [] (up2 (up2 (up2 (up2 (up2 (up2 s.1 172 ((s.1 170 14).toNat) (s.1 170 5)) 173 ((s.1 170 14).toNat) (s.1 170 6)) 174 ((s.1 170 14).toNat) w) 175 ((s.1 170 14).toNat) u) 176 ((s.1 170 14).toNat) (s.1 170 15)) 170 14 (s.1 170 14 + 1), s.2) _
    have hR25 : RF (up2 (up2 (up2 (up2 (up2 (up2 s.1 172 ((s.1 170 14).toNat) (s.1 170 5)) 173 ((s.1 170 14).toNat) (s.1 170 6)) 174 ((s.1 170 14).toNat) w) 175 ((s.1 170 14).toNat) u) 176 ((s.1 170 14).toNat) (s.1 170 15)) 170 14 (s.1 170 14 + 1)) := (RF_up (RF_up (RF_up (RF_up (RF_up (RF_up hR rfl) rfl) rfl) rfl) rfl) rfl)
    refine wr_n (pc2 := 97) (lv2 := [(3, vi k1), (0, .ref 170), (1, vi w), (2, vi u)]) (st2 := [.ref 170]) 1 (fun _ _ => rfl) ?_
    refine wr_call1 (args := []) (rest := []) rfl rfl rfl rfl (Nat.le_of_ble_eq_true rfl) (cr_mono (c_step (d := d) _ hR25 (show 0 ≤ s.1 170 3 ∧ s.1 170 3 ≤ s.1 170 2 ∧ s.1 170 2 ≤ 2000 by omega)) ?_)
    rintro s31 out ⟨rfl, h26, h27, h28, h29⟩
    refine ⟨_, rfl, ?_⟩
    show wr (d + 6) tb_M133 100 [(3, vi k1), (0, .ref 170), (1, vi w), (2, vi u)] [] s31 _
    have hR32 : RF s31.1 := same_RF h27 (by decide) hR25
    have h28 : s.1 170 3 ≤ s31.1 170 5 := h28
    refine wr_n (pc2 := 101) (lv2 := [(3, vi k1), (0, .ref 170), (1, vi w), (2, vi u)]) (st2 := [vi 1]) 1 (fun _ _ => rfl) ?_
    refine wr_end (fun _ _ => rfl) ?_
    exact ⟨1, rfl, h26, Or.inr ⟨rfl, h27, h29, by omega⟩⟩
  · refine wr_if1f rfl rfl (by unfold i32; omega) h5 ?_
    refine wr_n (pc2 := 10) (lv2 := [(3, vi k1), (0, .ref 170), (1, vi w), (2, vi u)]) (st2 := [.ref 170]) 1 (fun _ _ => rfl) ?_
    refine wr_get (v := .ref 176) rfl rfl rfl (by decide) (rv_ref (hR 170 13 176 rfl)) fun h33 => ?_
    show wr (d + 6) tb_M133 13 [(3, vi k1), (0, .ref 170), (1, vi w), (2, vi u)] [.ref 176] s _
    refine wr_n (pc2 := 14) (lv2 := [(3, vi k1), (0, .ref 170), (1, vi w), (2, vi u)]) (st2 := [vi k1, .ref 176]) 1 (fun _ _ => rfl) ?_
    refine wr_ald (a := k1) (v := vi (s.1 176 k1.toNat)) rfl rfl rfl (by omega) (by omega) (by decide) rfl fun h34 => ?_
    have h34 : -2147483648 ≤ s.1 176 k1.toNat ∧ s.1 176 k1.toNat ≤ 2147483647 := h34
    show wr (d + 6) tb_M133 15 [(3, vi k1), (0, .ref 170), (1, vi w), (2, vi u)] [vi (s.1 176 k1.toNat)] s _
    refine wr_n (pc2 := 16) (lv2 := [(3, vi k1), (0, .ref 170), (1, vi w), (2, vi u)]) (st2 := [.ref 170, vi (s.1 176 k1.toNat)]) 1 (fun _ _ => rfl) ?_
    refine wr_get (v := vi (s.1 170 15)) rfl rfl rfl (by decide) rfl fun h35 => ?_
    have h35 : -2147483648 ≤ s.1 170 15 ∧ s.1 170 15 ≤ 2147483647 := h35
    show wr (d + 6) tb_M133 19 [(3, vi k1), (0, .ref 170), (1, vi w), (2, vi u)] [vi (s.1 170 15), vi (s.1 176 k1.toNat)] s _
    by_cases h36 : s.1 176 k1.toNat ≠ s.1 170 15
    · refine wr_if2t rfl rfl (by unfold i32; omega) (by unfold i32; omega) h36 ?_
      refine wr_n (pc2 := 28) (lv2 := [(3, vi k1), (0, .ref 170), (1, vi w), (2, vi u)]) (st2 := [.ref 170]) 1 (fun _ _ => rfl) ?_
      refine wr_get (v := .ref 172) rfl rfl rfl (by decide) (rv_ref (hR 170 9 172 rfl)) fun h37 => ?_
      show wr (d + 6) tb_M133 31 [(3, vi k1), (0, .ref 170), (1, vi w), (2, vi u)] [.ref 172] s _
      refine wr_n (pc2 := 32) (lv2 := [(3, vi k1), (0, .ref 170), (1, vi w), (2, vi u)]) (st2 := [.ref 170, .ref 172]) 1 (fun _ _ => rfl) ?_
      refine wr_get (v := vi (s.1 170 14)) rfl rfl rfl (by decide) rfl fun h38 => ?_
      have h38 : -2147483648 ≤ s.1 170 14 ∧ s.1 170 14 ≤ 2147483647 := h38
      show wr (d + 6) tb_M133 35 [(3, vi k1), (0, .ref 170), (1, vi w), (2, vi u)] [vi (s.1 170 14), .ref 172] s _
      refine wr_n (pc2 := 36) (lv2 := [(3, vi k1), (0, .ref 170), (1, vi w), (2, vi u)]) (st2 := [.ref 170, vi (s.1 170 14), .ref 172]) 1 (fun _ _ => rfl) ?_
      refine wr_get (v := vi (s.1 170 5)) rfl rfl rfl (by decide) rfl fun h39 => ?_
      have h39 : -2147483648 ≤ s.1 170 5 ∧ s.1 170 5 ≤ 2147483647 := h39
      show wr (d + 6) tb_M133 39 [(3, vi k1), (0, .ref 170), (1, vi w), (2, vi u)] [vi (s.1 170 5), vi (s.1 170 14), .ref 172] s _
      refine wr_ast (a := s.1 170 14) (z := s.1 170 5) rfl (by decide) rfl rfl (by omega) (by omega) (by decide) rfl (show -2147483648 ≤ s.1 170 5 ∧ s.1 170 5 ≤ 2147483647 by omega) ?_
      show wr (d + 6) tb_M133 40 [(3, vi k1), (0, .ref 170), (1, vi w), (2, vi u)] [] (up2 s.1 172 ((s.1 170 14).toNat) (s.1 170 5), s.2) _
      have hR40 : RF (up2 s.1 172 ((s.1 170 14).toNat) (s.1 170 5)) := (RF_up hR rfl)
      refine wr_n (pc2 := 41) (lv2 := [(3, vi k1), (0, .ref 170), (1, vi w), (2, vi u)]) (st2 := [.ref 170]) 1 (fun _ _ => rfl) ?_
      refine wr_get (v := .ref 173) rfl rfl rfl (by decide) (rv_ref (hR40 170 10 173 rfl)) fun h41 => ?_
      show wr (d + 6) tb_M133 44 [(3, vi k1), (0, .ref 170), (1, vi w), (2, vi u)] [.ref 173] (up2 s.1 172 ((s.1 170 14).toNat) (s.1 170 5), s.2) _
      refine wr_n (pc2 := 45) (lv2 := [(3, vi k1), (0, .ref 170), (1, vi w), (2, vi u)]) (st2 := [.ref 170, .ref 173]) 1 (fun _ _ => rfl) ?_
      refine wr_get (v := vi (s.1 170 14)) rfl rfl rfl (by decide) rfl fun h42 => ?_
      have h42 : -2147483648 ≤ s.1 170 14 ∧ s.1 170 14 ≤ 2147483647 := h42
      show wr (d + 6) tb_M133 48 [(3, vi k1), (0, .ref 170), (1, vi w), (2, vi u)] [vi (s.1 170 14), .ref 173] (up2 s.1 172 ((s.1 170 14).toNat) (s.1 170 5), s.2) _
      refine wr_n (pc2 := 49) (lv2 := [(3, vi k1), (0, .ref 170), (1, vi w), (2, vi u)]) (st2 := [.ref 170, vi (s.1 170 14), .ref 173]) 1 (fun _ _ => rfl) ?_
      refine wr_get (v := vi (s.1 170 6)) rfl rfl rfl (by decide) rfl fun h43 => ?_
      have h43 : -2147483648 ≤ s.1 170 6 ∧ s.1 170 6 ≤ 2147483647 := h43
      show wr (d + 6) tb_M133 52 [(3, vi k1), (0, .ref 170), (1, vi w), (2, vi u)] [vi (s.1 170 6), vi (s.1 170 14), .ref 173] (up2 s.1 172 ((s.1 170 14).toNat) (s.1 170 5), s.2) _
      refine wr_ast (a := s.1 170 14) (z := s.1 170 6) rfl (by decide) rfl rfl (by omega) (by omega) (by decide) rfl (show -2147483648 ≤ s.1 170 6 ∧ s.1 170 6 ≤ 2147483647 by omega) ?_
      show wr (d + 6) tb_M133 53 [(3, vi k1), (0, .ref 170), (1, vi w), (2, vi u)] [] (up2 (up2 s.1 172 ((s.1 170 14).toNat) (s.1 170 5)) 173 ((s.1 170 14).toNat) (s.1 170 6), s.2) _
      have hR44 : RF (up2 (up2 s.1 172 ((s.1 170 14).toNat) (s.1 170 5)) 173 ((s.1 170 14).toNat) (s.1 170 6)) := (RF_up (RF_up hR rfl) rfl)
      refine wr_n (pc2 := 54) (lv2 := [(3, vi k1), (0, .ref 170), (1, vi w), (2, vi u)]) (st2 := [.ref 170]) 1 (fun _ _ => rfl) ?_
      refine wr_get (v := .ref 174) rfl rfl rfl (by decide) (rv_ref (hR44 170 11 174 rfl)) fun h45 => ?_
      show wr (d + 6) tb_M133 57 [(3, vi k1), (0, .ref 170), (1, vi w), (2, vi u)] [.ref 174] (up2 (up2 s.1 172 ((s.1 170 14).toNat) (s.1 170 5)) 173 ((s.1 170 14).toNat) (s.1 170 6), s.2) _
      refine wr_n (pc2 := 58) (lv2 := [(3, vi k1), (0, .ref 170), (1, vi w), (2, vi u)]) (st2 := [.ref 170, .ref 174]) 1 (fun _ _ => rfl) ?_
      refine wr_get (v := vi (s.1 170 14)) rfl rfl rfl (by decide) rfl fun h46 => ?_
      have h46 : -2147483648 ≤ s.1 170 14 ∧ s.1 170 14 ≤ 2147483647 := h46
      show wr (d + 6) tb_M133 61 [(3, vi k1), (0, .ref 170), (1, vi w), (2, vi u)] [vi (s.1 170 14), .ref 174] (up2 (up2 s.1 172 ((s.1 170 14).toNat) (s.1 170 5)) 173 ((s.1 170 14).toNat) (s.1 170 6), s.2) _
      refine wr_n (pc2 := 62) (lv2 := [(3, vi k1), (0, .ref 170), (1, vi w), (2, vi u)]) (st2 := [vi w, vi (s.1 170 14), .ref 174]) 1 (fun _ _ => rfl) ?_
      refine wr_ast (a := s.1 170 14) (z := w) rfl (by decide) rfl rfl (by omega) (by omega) (by decide) rfl (show -2147483648 ≤ w ∧ w ≤ 2147483647 by omega) ?_
      show wr (d + 6) tb_M133 63 [(3, vi k1), (0, .ref 170), (1, vi w), (2, vi u)] [] (up2 (up2 (up2 s.1 172 ((s.1 170 14).toNat) (s.1 170 5)) 173 ((s.1 170 14).toNat) (s.1 170 6)) 174 ((s.1 170 14).toNat) w, s.2) _
      have hR47 : RF (up2 (up2 (up2 s.1 172 ((s.1 170 14).toNat) (s.1 170 5)) 173 ((s.1 170 14).toNat) (s.1 170 6)) 174 ((s.1 170 14).toNat) w) := (RF_up (RF_up (RF_up hR rfl) rfl) rfl)
      refine wr_n (pc2 := 64) (lv2 := [(3, vi k1), (0, .ref 170), (1, vi w), (2, vi u)]) (st2 := [.ref 170]) 1 (fun _ _ => rfl) ?_
      refine wr_get (v := .ref 175) rfl rfl rfl (by decide) (rv_ref (hR47 170 12 175 rfl)) fun h48 => ?_
      show wr (d + 6) tb_M133 67 [(3, vi k1), (0, .ref 170), (1, vi w), (2, vi u)] [.ref 175] (up2 (up2 (up2 s.1 172 ((s.1 170 14).toNat) (s.1 170 5)) 173 ((s.1 170 14).toNat) (s.1 170 6)) 174 ((s.1 170 14).toNat) w, s.2) _
      refine wr_n (pc2 := 68) (lv2 := [(3, vi k1), (0, .ref 170), (1, vi w), (2, vi u)]) (st2 := [.ref 170, .ref 175]) 1 (fun _ _ => rfl) ?_
      refine wr_get (v := vi (s.1 170 14)) rfl rfl rfl (by decide) rfl fun h49 => ?_
      have h49 : -2147483648 ≤ s.1 170 14 ∧ s.1 170 14 ≤ 2147483647 := h49
      show wr (d + 6) tb_M133 71 [(3, vi k1), (0, .ref 170), (1, vi w), (2, vi u)] [vi (s.1 170 14), .ref 175] (up2 (up2 (up2 s.1 172 ((s.1 170 14).toNat) (s.1 170 5)) 173 ((s.1 170 14).toNat) (s.1 170 6)) 174 ((s.1 170 14).toNat) w, s.2) _
      refine wr_n (pc2 := 72) (lv2 := [(3, vi k1), (0, .ref 170), (1, vi w), (2, vi u)]) (st2 := [vi u, vi (s.1 170 14), .ref 175]) 1 (fun _ _ => rfl) ?_
      refine wr_ast (a := s.1 170 14) (z := u) rfl (by decide) rfl rfl (by omega) (by omega) (by decide) rfl (show -2147483648 ≤ u ∧ u ≤ 2147483647 by omega) ?_
      show wr (d + 6) tb_M133 73 [(3, vi k1), (0, .ref 170), (1, vi w), (2, vi u)] [] (up2 (up2 (up2 (up2 s.1 172 ((s.1 170 14).toNat) (s.1 170 5)) 173 ((s.1 170 14).toNat) (s.1 170 6)) 174 ((s.1 170 14).toNat) w) 175 ((s.1 170 14).toNat) u, s.2) _
      have hR50 : RF (up2 (up2 (up2 (up2 s.1 172 ((s.1 170 14).toNat) (s.1 170 5)) 173 ((s.1 170 14).toNat) (s.1 170 6)) 174 ((s.1 170 14).toNat) w) 175 ((s.1 170 14).toNat) u) := (RF_up (RF_up (RF_up (RF_up hR rfl) rfl) rfl) rfl)
      refine wr_n (pc2 := 74) (lv2 := [(3, vi k1), (0, .ref 170), (1, vi w), (2, vi u)]) (st2 := [.ref 170]) 1 (fun _ _ => rfl) ?_
      refine wr_get (v := .ref 176) rfl rfl rfl (by decide) (rv_ref (hR50 170 13 176 rfl)) fun h51 => ?_
      show wr (d + 6) tb_M133 77 [(3, vi k1), (0, .ref 170), (1, vi w), (2, vi u)] [.ref 176] (up2 (up2 (up2 (up2 s.1 172 ((s.1 170 14).toNat) (s.1 170 5)) 173 ((s.1 170 14).toNat) (s.1 170 6)) 174 ((s.1 170 14).toNat) w) 175 ((s.1 170 14).toNat) u, s.2) _
      refine wr_n (pc2 := 78) (lv2 := [(3, vi k1), (0, .ref 170), (1, vi w), (2, vi u)]) (st2 := [.ref 170, .ref 176]) 1 (fun _ _ => rfl) ?_
      refine wr_get (v := vi (s.1 170 14)) rfl rfl rfl (by decide) rfl fun h52 => ?_
      have h52 : -2147483648 ≤ s.1 170 14 ∧ s.1 170 14 ≤ 2147483647 := h52
      show wr (d + 6) tb_M133 81 [(3, vi k1), (0, .ref 170), (1, vi w), (2, vi u)] [vi (s.1 170 14), .ref 176] (up2 (up2 (up2 (up2 s.1 172 ((s.1 170 14).toNat) (s.1 170 5)) 173 ((s.1 170 14).toNat) (s.1 170 6)) 174 ((s.1 170 14).toNat) w) 175 ((s.1 170 14).toNat) u, s.2) _
      refine wr_n (pc2 := 82) (lv2 := [(3, vi k1), (0, .ref 170), (1, vi w), (2, vi u)]) (st2 := [.ref 170, vi (s.1 170 14), .ref 176]) 1 (fun _ _ => rfl) ?_
      refine wr_get (v := vi (s.1 170 15)) rfl rfl rfl (by decide) rfl fun h53 => ?_
      have h53 : -2147483648 ≤ s.1 170 15 ∧ s.1 170 15 ≤ 2147483647 := h53
      show wr (d + 6) tb_M133 85 [(3, vi k1), (0, .ref 170), (1, vi w), (2, vi u)] [vi (s.1 170 15), vi (s.1 170 14), .ref 176] (up2 (up2 (up2 (up2 s.1 172 ((s.1 170 14).toNat) (s.1 170 5)) 173 ((s.1 170 14).toNat) (s.1 170 6)) 174 ((s.1 170 14).toNat) w) 175 ((s.1 170 14).toNat) u, s.2) _
      refine wr_ast (a := s.1 170 14) (z := s.1 170 15) rfl (by decide) rfl rfl (by omega) (by omega) (by decide) rfl (show -2147483648 ≤ s.1 170 15 ∧ s.1 170 15 ≤ 2147483647 by omega) ?_
      show wr (d + 6) tb_M133 86 [(3, vi k1), (0, .ref 170), (1, vi w), (2, vi u)] [] (up2 (up2 (up2 (up2 (up2 s.1 172 ((s.1 170 14).toNat) (s.1 170 5)) 173 ((s.1 170 14).toNat) (s.1 170 6)) 174 ((s.1 170 14).toNat) w) 175 ((s.1 170 14).toNat) u) 176 ((s.1 170 14).toNat) (s.1 170 15), s.2) _
      have hR54 : RF (up2 (up2 (up2 (up2 (up2 s.1 172 ((s.1 170 14).toNat) (s.1 170 5)) 173 ((s.1 170 14).toNat) (s.1 170 6)) 174 ((s.1 170 14).toNat) w) 175 ((s.1 170 14).toNat) u) 176 ((s.1 170 14).toNat) (s.1 170 15)) := (RF_up (RF_up (RF_up (RF_up (RF_up hR rfl) rfl) rfl) rfl) rfl)
      refine wr_n (pc2 := 88) (lv2 := [(3, vi k1), (0, .ref 170), (1, vi w), (2, vi u)]) (st2 := [.ref 170, .ref 170]) 2 (fun _ _ => rfl) ?_
      refine wr_get (v := vi (s.1 170 14)) rfl rfl rfl (by decide) rfl fun h55 => ?_
      have h55 : -2147483648 ≤ s.1 170 14 ∧ s.1 170 14 ≤ 2147483647 := h55
      show wr (d + 6) tb_M133 91 [(3, vi k1), (0, .ref 170), (1, vi w), (2, vi u)] [vi (s.1 170 14), .ref 170] (up2 (up2 (up2 (up2 (up2 s.1 172 ((s.1 170 14).toNat) (s.1 170 5)) 173 ((s.1 170 14).toNat) (s.1 170 6)) 174 ((s.1 170 14).toNat) w) 175 ((s.1 170 14).toNat) u) 176 ((s.1 170 14).toNat) (s.1 170 15), s.2) _
      refine wr_n (pc2 := 92) (lv2 := [(3, vi k1), (0, .ref 170), (1, vi w), (2, vi u)]) (st2 := [vi 1, vi (s.1 170 14), .ref 170]) 1 (fun _ _ => rfl) ?_
      refine wr_add (a := s.1 170 14) (b := 1) rfl ?_
      show wr (d + 6) tb_M133 93 [(3, vi k1), (0, .ref 170), (1, vi w), (2, vi u)] [vi (s.1 170 14 + 1), .ref 170] (up2 (up2 (up2 (up2 (up2 s.1 172 ((s.1 170 14).toNat) (s.1 170 5)) 173 ((s.1 170 14).toNat) (s.1 170 6)) 174 ((s.1 170 14).toNat) w) 175 ((s.1 170 14).toNat) u) 176 ((s.1 170 14).toNat) (s.1 170 15), s.2) _
      refine wr_put (z := s.1 170 14 + 1) rfl rfl rfl rfl (by decide) rfl (by decide) rfl (show -2147483648 ≤ s.1 170 14 + 1 ∧ s.1 170 14 + 1 ≤ 2147483647 by omega) (hf_int' _) ?_
      show wr (d + 6) tb_M133 96 [(3, vi k1), (0, .ref 170), (1, vi w), (2, vi u)] [] (up2 (up2 (up2 (up2 (up2 (up2 s.1 172 ((s.1 170 14).toNat) (s.1 170 5)) 173 ((s.1 170 14).toNat) (s.1 170 6)) 174 ((s.1 170 14).toNat) w) 175 ((s.1 170 14).toNat) u) 176 ((s.1 170 14).toNat) (s.1 170 15)) 170 14 (s.1 170 14 + 1), s.2) _
      have hR56 : RF (up2 (up2 (up2 (up2 (up2 (up2 s.1 172 ((s.1 170 14).toNat) (s.1 170 5)) 173 ((s.1 170 14).toNat) (s.1 170 6)) 174 ((s.1 170 14).toNat) w) 175 ((s.1 170 14).toNat) u) 176 ((s.1 170 14).toNat) (s.1 170 15)) 170 14 (s.1 170 14 + 1)) := (RF_up (RF_up (RF_up (RF_up (RF_up (RF_up hR rfl) rfl) rfl) rfl) rfl) rfl)
      refine wr_n (pc2 := 97) (lv2 := [(3, vi k1), (0, .ref 170), (1, vi w), (2, vi u)]) (st2 := [.ref 170]) 1 (fun _ _ => rfl) ?_
      refine wr_call1 (args := []) (rest := []) rfl rfl rfl rfl (Nat.le_of_ble_eq_true rfl) (cr_mono (c_step (d := d) _ hR56 (show 0 ≤ s.1 170 3 ∧ s.1 170 3 ≤ s.1 170 2 ∧ s.1 170 2 ≤ 2000 by omega)) ?_)
      rintro s62 out ⟨rfl, h57, h58, h59, h60⟩
      refine ⟨_, rfl, ?_⟩
      show wr (d + 6) tb_M133 100 [(3, vi k1), (0, .ref 170), (1, vi w), (2, vi u)] [] s62 _
      have hR63 : RF s62.1 := same_RF h58 (by decide) hR56
      have h59 : s.1 170 3 ≤ s62.1 170 5 := h59
      refine wr_n (pc2 := 101) (lv2 := [(3, vi k1), (0, .ref 170), (1, vi w), (2, vi u)]) (st2 := [vi 1]) 1 (fun _ _ => rfl) ?_
      refine wr_end (fun _ _ => rfl) ?_
      exact ⟨1, rfl, h57, Or.inr ⟨rfl, h58, h60, by omega⟩⟩
    · refine wr_if2f rfl rfl (by unfold i32; omega) (by unfold i32; omega) h36 ?_
      refine wr_n (pc2 := 23) (lv2 := [(3, vi k1), (0, .ref 170), (1, vi w), (2, vi u)]) (st2 := [.ref 170]) 1 (fun _ _ => rfl) ?_
      refine wr_call1 (args := []) (rest := []) rfl rfl rfl rfl (Nat.le_of_ble_eq_true rfl) (cr_mono (c_bad0 (d := d + 4) _ hR) ?_)
      rintro s67 out ⟨rfl, h64, h65⟩
      refine ⟨_, rfl, ?_⟩
      show wr (d + 6) tb_M133 26 [(3, vi k1), (0, .ref 170), (1, vi w), (2, vi u)] [vi 0] s67 _
      have hR68 : RF s67.1 := same_RF h65 (by decide) hR
      refine wr_end (fun _ _ => rfl) ?_
      exact ⟨0, rfl, h64, Or.inl ⟨rfl, h65⟩⟩
