theorem l_blankS {d : Nat} {s : rS} {Q : rS → hm_Out → Prop} (h2 : s.1 170 2 ≤ 2000) (hS : RF s.1) (h : 0 ≤ s.1 170 3 ∧ s.1 170 3 ≤ s.1 170 2) (kk : ∀ n : Int, 0 ≤ n → n ≤ s.1 170 2 → s.1 170 3 ≤ n → wr (d + 1) tb_M123 52 [(0, .ref 170)] [] (up2 s.1 170 3 n, s.2) Q) : wr (d + 1) tb_M123 0 [(0, .ref 170)] [] s Q := by
  have hh := l_blank (f := s.1 170 3) h2 hS kk _ (s.1 170 3) rfl (by omega)
  rw [upS_id rfl] at hh
  exact hh
theorem l_nameS {d : Nat} {s : rS} {Q : rS → hm_Out → Prop} (h2 : s.1 170 2 ≤ 2000) (hS : RF s.1) (h : 0 ≤ s.1 170 3 ∧ s.1 170 3 ≤ s.1 170 2) (kk : ∀ n : Int, 0 ≤ n → n ≤ s.1 170 2 → s.1 170 3 ≤ n → (n = s.1 170 2 ∨ ¬ (97 ≤ s.1 171 n.toNat ∧ s.1 171 n.toNat ≤ 122) ∧ ¬ (48 ≤ s.1 171 n.toNat ∧ s.1 171 n.toNat ≤ 57)) → wr (d + 1) tb_M123 148 [(0, .ref 170)] [] (up2 s.1 170 3 n, s.2) Q) : wr (d + 1) tb_M123 94 [(0, .ref 170)] [] s Q := by
  have hh := l_name (f := s.1 170 3) h2 hS kk _ (s.1 170 3) rfl (by omega)
  rw [upS_id rfl] at hh
  exact hh
theorem l_numS {d : Nat} {s : rS} {Q : rS → hm_Out → Prop} (h2 : s.1 170 2 ≤ 2000) (hS : RF s.1) (h : 0 ≤ s.1 170 3 ∧ s.1 170 3 ≤ s.1 170 2) (hu : 0 ≤ s.1 170 7 ∧ s.1 170 7 ≤ 100000) (kk : ∀ n u : Int, 0 ≤ n → n ≤ s.1 170 2 → s.1 170 3 ≤ n → 0 ≤ u ∧ u ≤ 100000 → (n = s.1 170 2 ∨ ¬ (48 ≤ s.1 171 n.toNat ∧ s.1 171 n.toNat ≤ 57)) → wr (d + 1) tb_M123 281 [(0, .ref 170)] [] (up2 (up2 s.1 170 7 u) 170 3 n, s.2) Q) : wr (d + 1) tb_M123 213 [(0, .ref 170)] [] s Q := by
  have hh := l_num (f := s.1 170 3) h2 hS kk _ (s.1 170 3) (s.1 170 7) rfl (by omega)
  rw [up_id, upS_id rfl] at hh
  exact hh
/-- the token at hand: from, to = next, within the text; kind 0 at its end alone -/
def LX (r : Nat → Nat → Int) : Prop := 0 ≤ r 170 5 ∧ r 170 5 ≤ r 170 6 ∧ r 170 6 = r 170 3 ∧ r 170 3 ≤ r 170 2 ∧ r 170 2 ≤ 2000 ∧ (r 170 4 = 0 ∧ r 170 5 = r 170 2 ∨ 1 ≤ r 170 4 ∧ r 170 4 ≤ 5 ∧ r 170 5 < r 170 6) ∧ (r 170 4 = 3 → 0 ≤ r 170 7 ∧ r 170 7 ≤ 65535)
set_option maxRecDepth 100000 in
theorem c_step {d : Nat} (s : rS) (hR : RF s.1) (h : 0 ≤ s.1 170 3 ∧ s.1 170 3 ≤ s.1 170 2 ∧ s.1 170 2 ≤ 2000) : cr (d + 6) 123 [.ref 170] s (fun s2 out => out = some none ∧ s2.2 = s.2 ∧ same 170 [3, 4, 5, 6, 7] s.1 s2.1 ∧ s.1 170 3 ≤ s2.1 170 5 ∧ LX s2.1) := by
  refine cr_of (M := tb_M123) rfl (Nat.le_of_ble_eq_true rfl) ?_
  refine l_blankS (d := d + 4) (by omega) hR (by omega) (fun n h0 h1 h3 => ?_)
  show wr (d + 5) tb_M123 52 [(0, .ref 170)] [] (up2 s.1 170 3 n, s.2) _
  have hR0 : RF (up2 s.1 170 3 n) := RF_up hR rfl
  refine wr_n (pc2 := 54) (lv2 := [(0, .ref 170)]) (st2 := [.ref 170, .ref 170]) 2 (fun _ _ => rfl) ?_
  refine wr_get (v := vi n) rfl rfl rfl (by decide) rfl fun h1 => ?_
  have h1 : -2147483648 ≤ n ∧ n ≤ 2147483647 := h1
  show wr (d + 5) tb_M123 57 [(0, .ref 170)] [vi n, .ref 170] (up2 s.1 170 3 n, s.2) _
  refine wr_put (z := n) rfl rfl rfl rfl (by decide) rfl (by decide) rfl (show -2147483648 ≤ n ∧ n ≤ 2147483647 by omega) (hf_int' _) ?_
  show wr (d + 5) tb_M123 60 [(0, .ref 170)] [] (up2 (up2 s.1 170 3 n) 170 5 n, s.2) _
  have hR2 : RF (up2 (up2 s.1 170 3 n) 170 5 n) := (RF_up (RF_up hR rfl) rfl)
  refine wr_n (pc2 := 61) (lv2 := [(0, .ref 170)]) (st2 := [.ref 170]) 1 (fun _ _ => rfl) ?_
  refine wr_get (v := vi n) rfl rfl rfl (by decide) rfl fun h3 => ?_
  have h3 : -2147483648 ≤ n ∧ n ≤ 2147483647 := h3
  show wr (d + 5) tb_M123 64 [(0, .ref 170)] [vi n] (up2 (up2 s.1 170 3 n) 170 5 n, s.2) _
  refine wr_n (pc2 := 65) (lv2 := [(0, .ref 170)]) (st2 := [.ref 170, vi n]) 1 (fun _ _ => rfl) ?_
  refine wr_get (v := vi (s.1 170 2)) rfl rfl rfl (by decide) rfl fun h4 => ?_
  have h4 : -2147483648 ≤ s.1 170 2 ∧ s.1 170 2 ≤ 2147483647 := h4
  show wr (d + 5) tb_M123 68 [(0, .ref 170)] [vi (s.1 170 2), vi n] (up2 (up2 s.1 170 3 n) 170 5 n, s.2) _
  by_cases h5 : n ≠ s.1 170 2
  · refine wr_if2t rfl rfl (by unfold i32; omega) (by unfold i32; omega) h5 ?_
    refine wr_n (pc2 := 80) (lv2 := [(0, .ref 170)]) (st2 := [.ref 170]) 1 (fun _ _ => rfl) ?_
    refine wr_get (v := .ref 171) rfl rfl rfl (by decide) (rv_ref (hR2 170 0 171 rfl)) fun h6 => ?_
    show wr (d + 5) tb_M123 83 [(0, .ref 170)] [.ref 171] (up2 (up2 s.1 170 3 n) 170 5 n, s.2) _
    refine wr_n (pc2 := 84) (lv2 := [(0, .ref 170)]) (st2 := [.ref 170, .ref 171]) 1 (fun _ _ => rfl) ?_
    refine wr_get (v := vi n) rfl rfl rfl (by decide) rfl fun h7 => ?_
    have h7 : -2147483648 ≤ n ∧ n ≤ 2147483647 := h7
    show wr (d + 5) tb_M123 87 [(0, .ref 170)] [vi n, .ref 171] (up2 (up2 s.1 170 3 n) 170 5 n, s.2) _
    refine wr_ald (a := n) (v := vi (s.1 171 n.toNat)) rfl rfl rfl (by omega) (by omega) (by decide) rfl fun h8 => ?_
    have h8 : -128 ≤ s.1 171 n.toNat ∧ s.1 171 n.toNat ≤ 127 := h8
    show wr (d + 5) tb_M123 88 [(0, .ref 170)] [vi (s.1 171 n.toNat)] (up2 (up2 s.1 170 3 n) 170 5 n, s.2) _
    refine wr_call0 (args := [vi (s.1 171 n.toNat)]) (rest := []) rfl rfl rfl (Nat.le_of_ble_eq_true rfl) (cr_mono (c_isSmall (d := d + 4) (c := s.1 171 n.toNat) _ (by unfold i32; omega)) ?_)
    rintro s12 out ⟨b9, rfl, h10, e11⟩
    refine ⟨_, rfl, ?_⟩
    rw [e11]
    show wr (d + 5) tb_M123 91 [(0, .ref 170)] [vi b9] (up2 (up2 s.1 170 3 n) 170 5 n, s.2) _
    by_cases h13 : b9 = 0
    · refine wr_if1t rfl rfl (by unfold i32; omega) h13 ?_
      refine wr_n (pc2 := 194) (lv2 := [(0, .ref 170)]) (st2 := [.ref 170]) 1 (fun _ _ => rfl) ?_
      refine wr_get (v := .ref 171) rfl rfl rfl (by decide) (rv_ref (hR2 170 0 171 rfl)) fun h14 => ?_
      show wr (d + 5) tb_M123 197 [(0, .ref 170)] [.ref 171] (up2 (up2 s.1 170 3 n) 170 5 n, s.2) _
      refine wr_n (pc2 := 198) (lv2 := [(0, .ref 170)]) (st2 := [.ref 170, .ref 171]) 1 (fun _ _ => rfl) ?_
      refine wr_get (v := vi n) rfl rfl rfl (by decide) rfl fun h15 => ?_
      have h15 : -2147483648 ≤ n ∧ n ≤ 2147483647 := h15
      show wr (d + 5) tb_M123 201 [(0, .ref 170)] [vi n, .ref 171] (up2 (up2 s.1 170 3 n) 170 5 n, s.2) _
      refine wr_ald (a := n) (v := vi (s.1 171 n.toNat)) rfl rfl rfl (by omega) (by omega) (by decide) rfl fun h16 => ?_
      have h16 : -128 ≤ s.1 171 n.toNat ∧ s.1 171 n.toNat ≤ 127 := h16
      show wr (d + 5) tb_M123 202 [(0, .ref 170)] [vi (s.1 171 n.toNat)] (up2 (up2 s.1 170 3 n) 170 5 n, s.2) _
      refine wr_call0 (args := [vi (s.1 171 n.toNat)]) (rest := []) rfl rfl rfl (Nat.le_of_ble_eq_true rfl) (cr_mono (c_isDigit (d := d + 4) (c := s.1 171 n.toNat) _ (by unfold i32; omega)) ?_)
      rintro s20 out ⟨b17, rfl, h18, e19⟩
      refine ⟨_, rfl, ?_⟩
      rw [e19]
      show wr (d + 5) tb_M123 205 [(0, .ref 170)] [vi b17] (up2 (up2 s.1 170 3 n) 170 5 n, s.2) _
      by_cases h21 : b17 = 0
      · refine wr_if1t rfl rfl (by unfold i32; omega) h21 ?_
        refine wr_n (pc2 := 303) (lv2 := [(0, .ref 170)]) (st2 := [.ref 170]) 1 (fun _ _ => rfl) ?_
        refine wr_get (v := .ref 171) rfl rfl rfl (by decide) (rv_ref (hR2 170 0 171 rfl)) fun h22 => ?_
        show wr (d + 5) tb_M123 306 [(0, .ref 170)] [.ref 171] (up2 (up2 s.1 170 3 n) 170 5 n, s.2) _
        refine wr_n (pc2 := 307) (lv2 := [(0, .ref 170)]) (st2 := [.ref 170, .ref 171]) 1 (fun _ _ => rfl) ?_
        refine wr_get (v := vi n) rfl rfl rfl (by decide) rfl fun h23 => ?_
        have h23 : -2147483648 ≤ n ∧ n ≤ 2147483647 := h23
        show wr (d + 5) tb_M123 310 [(0, .ref 170)] [vi n, .ref 171] (up2 (up2 s.1 170 3 n) 170 5 n, s.2) _
        refine wr_ald (a := n) (v := vi (s.1 171 n.toNat)) rfl rfl rfl (by omega) (by omega) (by decide) rfl fun h24 => ?_
        have h24 : -128 ≤ s.1 171 n.toNat ∧ s.1 171 n.toNat ≤ 127 := h24
        show wr (d + 5) tb_M123 311 [(0, .ref 170)] [vi (s.1 171 n.toNat)] (up2 (up2 s.1 170 3 n) 170 5 n, s.2) _
        refine wr_n (pc2 := 312) (lv2 := [(1, vi (s.1 171 n.toNat)), (0, .ref 170)]) (st2 := []) 1 (fun _ _ => rfl) ?_
        have j549 : ∀ dd oo tt : Int, (-128 ≤ dd ∧ dd ≤ 127) → (0 ≤ oo ∧ oo ≤ 1) → (0 ≤ tt ∧ tt ≤ 1 ∧ (tt = 1 → n + 1 < s.1 170 2)) → wr (d + 5) tb_M123 549 [(3, vi oo), (2, vi dd), (1, vi (s.1 171 n.toNat)), (0, .ref 170)] [vi tt] (up2 (up2 s.1 170 3 n) 170 5 n, s.2) (fun s2 out => out = some none ∧ s2.2 = s.2 ∧ same 170 [3, 4, 5, 6, 7] s.1 s2.1 ∧ s.1 170 3 ≤ s2.1 170 5 ∧ LX s2.1) := by
          intro dd oo tt hd ho ht
          refine wr_n (pc2 := 553) (lv2 := [(4, vi tt), (3, vi oo), (2, vi dd), (1, vi (s.1 171 n.toNat)), (0, .ref 170)]) (st2 := [vi oo, .ref 170]) 3 (fun _ _ => rfl) ?_
          by_cases h25 : oo = 0
          · refine wr_if1t rfl rfl (by unfold i32; omega) h25 ?_
            refine wr_n (pc2 := 561) (lv2 := [(4, vi tt), (3, vi oo), (2, vi dd), (1, vi (s.1 171 n.toNat)), (0, .ref 170)]) (st2 := [vi 5, .ref 170]) 1 (fun _ _ => rfl) ?_
            refine wr_put (z := 5) rfl rfl rfl rfl (by decide) rfl (by decide) rfl (show -2147483648 ≤ 5 ∧ 5 ≤ 2147483647 by omega) (hf_int' _) ?_
            show wr (d + 5) tb_M123 564 [(4, vi tt), (3, vi oo), (2, vi dd), (1, vi (s.1 171 n.toNat)), (0, .ref 170)] [] (up2 (up2 (up2 s.1 170 3 n) 170 5 n) 170 4 5, s.2) _
            have hR26 : RF (up2 (up2 (up2 s.1 170 3 n) 170 5 n) 170 4 5) := (RF_up (RF_up (RF_up hR rfl) rfl) rfl)
            refine wr_n (pc2 := 566) (lv2 := [(4, vi tt), (3, vi oo), (2, vi dd), (1, vi (s.1 171 n.toNat)), (0, .ref 170)]) (st2 := [.ref 170, .ref 170]) 2 (fun _ _ => rfl) ?_
            refine wr_get (v := vi n) rfl rfl rfl (by decide) rfl fun h27 => ?_
            have h27 : -2147483648 ≤ n ∧ n ≤ 2147483647 := h27
            show wr (d + 5) tb_M123 569 [(4, vi tt), (3, vi oo), (2, vi dd), (1, vi (s.1 171 n.toNat)), (0, .ref 170)] [vi n, .ref 170] (up2 (up2 (up2 s.1 170 3 n) 170 5 n) 170 4 5, s.2) _
            refine wr_n (pc2 := 571) (lv2 := [(4, vi tt), (3, vi oo), (2, vi dd), (1, vi (s.1 171 n.toNat)), (0, .ref 170)]) (st2 := [vi tt, vi n, .ref 170]) 1 (fun _ _ => rfl) ?_
            by_cases h28 : tt = 0
            · refine wr_if1t rfl rfl (by unfold i32; omega) h28 ?_
              refine wr_n (pc2 := 579) (lv2 := [(4, vi tt), (3, vi oo), (2, vi dd), (1, vi (s.1 171 n.toNat)), (0, .ref 170)]) (st2 := [vi 1, vi n, .ref 170]) 1 (fun _ _ => rfl) ?_
              refine wr_add (a := n) (b := 1) rfl ?_
              show wr (d + 5) tb_M123 580 [(4, vi tt), (3, vi oo), (2, vi dd), (1, vi (s.1 171 n.toNat)), (0, .ref 170)] [vi (n + 1), .ref 170] (up2 (up2 (up2 s.1 170 3 n) 170 5 n) 170 4 5, s.2) _
              refine wr_put (z := n + 1) rfl rfl rfl rfl (by decide) rfl (by decide) rfl (show -2147483648 ≤ n + 1 ∧ n + 1 ≤ 2147483647 by omega) (hf_int' _) ?_
              show wr (d + 5) tb_M123 583 [(4, vi tt), (3, vi oo), (2, vi dd), (1, vi (s.1 171 n.toNat)), (0, .ref 170)] [] (up2 (up2 (up2 (up2 s.1 170 3 n) 170 5 n) 170 4 5) 170 3 (n + 1), s.2) _
              have hR29 : RF (up2 (up2 (up2 (up2 s.1 170 3 n) 170 5 n) 170 4 5) 170 3 (n + 1)) := (RF_up (RF_up (RF_up (RF_up hR rfl) rfl) rfl) rfl)
              refine wr_n (pc2 := 585) (lv2 := [(4, vi tt), (3, vi oo), (2, vi dd), (1, vi (s.1 171 n.toNat)), (0, .ref 170)]) (st2 := [.ref 170, .ref 170]) 2 (fun _ _ => rfl) ?_
              refine wr_get (v := vi (n + 1)) rfl rfl rfl (by decide) rfl fun h30 => ?_
              have h30 : -2147483648 ≤ n + 1 ∧ n + 1 ≤ 2147483647 := h30
              show wr (d + 5) tb_M123 588 [(4, vi tt), (3, vi oo), (2, vi dd), (1, vi (s.1 171 n.toNat)), (0, .ref 170)] [vi (n + 1), .ref 170] (up2 (up2 (up2 (up2 s.1 170 3 n) 170 5 n) 170 4 5) 170 3 (n + 1), s.2) _
              refine wr_put (z := n + 1) rfl rfl rfl rfl (by decide) rfl (by decide) rfl (show -2147483648 ≤ n + 1 ∧ n + 1 ≤ 2147483647 by omega) (hf_int' _) ?_
              show wr (d + 5) tb_M123 591 [(4, vi tt), (3, vi oo), (2, vi dd), (1, vi (s.1 171 n.toNat)), (0, .ref 170)] [] (up2 (up2 (up2 (up2 (up2 s.1 170 3 n) 170 5 n) 170 4 5) 170 3 (n + 1)) 170 6 (n + 1), s.2) _
              have hR31 : RF (up2 (up2 (up2 (up2 (up2 s.1 170 3 n) 170 5 n) 170 4 5) 170 3 (n + 1)) 170 6 (n + 1)) := (RF_up (RF_up (RF_up (RF_up (RF_up hR rfl) rfl) rfl) rfl) rfl)
              refine wr_end (fun _ _ => rfl) ?_
              refine ⟨rfl, rfl, same_up (j := 6) (same_up (j := 3) (same_up (j := 4) (same_up (j := 5) (same_up (j := 3) (same_rf) (by decide)) (by decide)) (by decide)) (by decide)) (by decide), ?_, ?_⟩
              · show s.1 170 3 ≤ n
                omega
              · show 0 ≤ n ∧ n ≤ (n + 1) ∧ (n + 1) = (n + 1) ∧ (n + 1) ≤ (s.1 170 2) ∧ (s.1 170 2) ≤ 2000 ∧ (5 = 0 ∧ n = (s.1 170 2) ∨ 1 ≤ 5 ∧ 5 ≤ 5 ∧ n < (n + 1)) ∧ (5 = 3 → 0 ≤ (s.1 170 7) ∧ (s.1 170 7) ≤ 65535)
                omega
            · refine wr_if1f rfl rfl (by unfold i32; omega) h28 ?_
              refine wr_n (pc2 := 579) (lv2 := [(4, vi tt), (3, vi oo), (2, vi dd), (1, vi (s.1 171 n.toNat)), (0, .ref 170)]) (st2 := [vi 2, vi n, .ref 170]) 2 (fun _ _ => rfl) ?_
              refine wr_add (a := n) (b := 2) rfl ?_
              show wr (d + 5) tb_M123 580 [(4, vi tt), (3, vi oo), (2, vi dd), (1, vi (s.1 171 n.toNat)), (0, .ref 170)] [vi (n + 2), .ref 170] (up2 (up2 (up2 s.1 170 3 n) 170 5 n) 170 4 5, s.2) _
              refine wr_put (z := n + 2) rfl rfl rfl rfl (by decide) rfl (by decide) rfl (show -2147483648 ≤ n + 2 ∧ n + 2 ≤ 2147483647 by omega) (hf_int' _) ?_
              show wr (d + 5) tb_M123 583 [(4, vi tt), (3, vi oo), (2, vi dd), (1, vi (s.1 171 n.toNat)), (0, .ref 170)] [] (up2 (up2 (up2 (up2 s.1 170 3 n) 170 5 n) 170 4 5) 170 3 (n + 2), s.2) _
              have hR32 : RF (up2 (up2 (up2 (up2 s.1 170 3 n) 170 5 n) 170 4 5) 170 3 (n + 2)) := (RF_up (RF_up (RF_up (RF_up hR rfl) rfl) rfl) rfl)
              refine wr_n (pc2 := 585) (lv2 := [(4, vi tt), (3, vi oo), (2, vi dd), (1, vi (s.1 171 n.toNat)), (0, .ref 170)]) (st2 := [.ref 170, .ref 170]) 2 (fun _ _ => rfl) ?_
              refine wr_get (v := vi (n + 2)) rfl rfl rfl (by decide) rfl fun h33 => ?_
              have h33 : -2147483648 ≤ n + 2 ∧ n + 2 ≤ 2147483647 := h33
              show wr (d + 5) tb_M123 588 [(4, vi tt), (3, vi oo), (2, vi dd), (1, vi (s.1 171 n.toNat)), (0, .ref 170)] [vi (n + 2), .ref 170] (up2 (up2 (up2 (up2 s.1 170 3 n) 170 5 n) 170 4 5) 170 3 (n + 2), s.2) _
              refine wr_put (z := n + 2) rfl rfl rfl rfl (by decide) rfl (by decide) rfl (show -2147483648 ≤ n + 2 ∧ n + 2 ≤ 2147483647 by omega) (hf_int' _) ?_
              show wr (d + 5) tb_M123 591 [(4, vi tt), (3, vi oo), (2, vi dd), (1, vi (s.1 171 n.toNat)), (0, .ref 170)] [] (up2 (up2 (up2 (up2 (up2 s.1 170 3 n) 170 5 n) 170 4 5) 170 3 (n + 2)) 170 6 (n + 2), s.2) _
              have hR34 : RF (up2 (up2 (up2 (up2 (up2 s.1 170 3 n) 170 5 n) 170 4 5) 170 3 (n + 2)) 170 6 (n + 2)) := (RF_up (RF_up (RF_up (RF_up (RF_up hR rfl) rfl) rfl) rfl) rfl)
              refine wr_end (fun _ _ => rfl) ?_
              refine ⟨rfl, rfl, same_up (j := 6) (same_up (j := 3) (same_up (j := 4) (same_up (j := 5) (same_up (j := 3) (same_rf) (by decide)) (by decide)) (by decide)) (by decide)) (by decide), ?_, ?_⟩
              · show s.1 170 3 ≤ n
                omega
              · show 0 ≤ n ∧ n ≤ (n + 2) ∧ (n + 2) = (n + 2) ∧ (n + 2) ≤ (s.1 170 2) ∧ (s.1 170 2) ≤ 2000 ∧ (5 = 0 ∧ n = (s.1 170 2) ∨ 1 ≤ 5 ∧ 5 ≤ 5 ∧ n < (n + 2)) ∧ (5 = 3 → 0 ≤ (s.1 170 7) ∧ (s.1 170 7) ≤ 65535)
                omega
          · refine wr_if1f rfl rfl (by unfold i32; omega) h25 ?_
            refine wr_n (pc2 := 561) (lv2 := [(4, vi tt), (3, vi oo), (2, vi dd), (1, vi (s.1 171 n.toNat)), (0, .ref 170)]) (st2 := [vi 4, .ref 170]) 2 (fun _ _ => rfl) ?_
            refine wr_put (z := 4) rfl rfl rfl rfl (by decide) rfl (by decide) rfl (show -2147483648 ≤ 4 ∧ 4 ≤ 2147483647 by omega) (hf_int' _) ?_
            show wr (d + 5) tb_M123 564 [(4, vi tt), (3, vi oo), (2, vi dd), (1, vi (s.1 171 n.toNat)), (0, .ref 170)] [] (up2 (up2 (up2 s.1 170 3 n) 170 5 n) 170 4 4, s.2) _
            have hR35 : RF (up2 (up2 (up2 s.1 170 3 n) 170 5 n) 170 4 4) := (RF_up (RF_up (RF_up hR rfl) rfl) rfl)
            refine wr_n (pc2 := 566) (lv2 := [(4, vi tt), (3, vi oo), (2, vi dd), (1, vi (s.1 171 n.toNat)), (0, .ref 170)]) (st2 := [.ref 170, .ref 170]) 2 (fun _ _ => rfl) ?_
            refine wr_get (v := vi n) rfl rfl rfl (by decide) rfl fun h36 => ?_
            have h36 : -2147483648 ≤ n ∧ n ≤ 2147483647 := h36
            show wr (d + 5) tb_M123 569 [(4, vi tt), (3, vi oo), (2, vi dd), (1, vi (s.1 171 n.toNat)), (0, .ref 170)] [vi n, .ref 170] (up2 (up2 (up2 s.1 170 3 n) 170 5 n) 170 4 4, s.2) _
            refine wr_n (pc2 := 571) (lv2 := [(4, vi tt), (3, vi oo), (2, vi dd), (1, vi (s.1 171 n.toNat)), (0, .ref 170)]) (st2 := [vi tt, vi n, .ref 170]) 1 (fun _ _ => rfl) ?_
            by_cases h37 : tt = 0
            · refine wr_if1t rfl rfl (by unfold i32; omega) h37 ?_
              refine wr_n (pc2 := 579) (lv2 := [(4, vi tt), (3, vi oo), (2, vi dd), (1, vi (s.1 171 n.toNat)), (0, .ref 170)]) (st2 := [vi 1, vi n, .ref 170]) 1 (fun _ _ => rfl) ?_
              refine wr_add (a := n) (b := 1) rfl ?_
              show wr (d + 5) tb_M123 580 [(4, vi tt), (3, vi oo), (2, vi dd), (1, vi (s.1 171 n.toNat)), (0, .ref 170)] [vi (n + 1), .ref 170] (up2 (up2 (up2 s.1 170 3 n) 170 5 n) 170 4 4, s.2) _
              refine wr_put (z := n + 1) rfl rfl rfl rfl (by decide) rfl (by decide) rfl (show -2147483648 ≤ n + 1 ∧ n + 1 ≤ 2147483647 by omega) (hf_int' _) ?_
              show wr (d + 5) tb_M123 583 [(4, vi tt), (3, vi oo), (2, vi dd), (1, vi (s.1 171 n.toNat)), (0, .ref 170)] [] (up2 (up2 (up2 (up2 s.1 170 3 n) 170 5 n) 170 4 4) 170 3 (n + 1), s.2) _
              have hR38 : RF (up2 (up2 (up2 (up2 s.1 170 3 n) 170 5 n) 170 4 4) 170 3 (n + 1)) := (RF_up (RF_up (RF_up (RF_up hR rfl) rfl) rfl) rfl)
              refine wr_n (pc2 := 585) (lv2 := [(4, vi tt), (3, vi oo), (2, vi dd), (1, vi (s.1 171 n.toNat)), (0, .ref 170)]) (st2 := [.ref 170, .ref 170]) 2 (fun _ _ => rfl) ?_
              refine wr_get (v := vi (n + 1)) rfl rfl rfl (by decide) rfl fun h39 => ?_
              have h39 : -2147483648 ≤ n + 1 ∧ n + 1 ≤ 2147483647 := h39
              show wr (d + 5) tb_M123 588 [(4, vi tt), (3, vi oo), (2, vi dd), (1, vi (s.1 171 n.toNat)), (0, .ref 170)] [vi (n + 1), .ref 170] (up2 (up2 (up2 (up2 s.1 170 3 n) 170 5 n) 170 4 4) 170 3 (n + 1), s.2) _
              refine wr_put (z := n + 1) rfl rfl rfl rfl (by decide) rfl (by decide) rfl (show -2147483648 ≤ n + 1 ∧ n + 1 ≤ 2147483647 by omega) (hf_int' _) ?_
              show wr (d + 5) tb_M123 591 [(4, vi tt), (3, vi oo), (2, vi dd), (1, vi (s.1 171 n.toNat)), (0, .ref 170)] [] (up2 (up2 (up2 (up2 (up2 s.1 170 3 n) 170 5 n) 170 4 4) 170 3 (n + 1)) 170 6 (n + 1), s.2) _
              have hR40 : RF (up2 (up2 (up2 (up2 (up2 s.1 170 3 n) 170 5 n) 170 4 4) 170 3 (n + 1)) 170 6 (n + 1)) := (RF_up (RF_up (RF_up (RF_up (RF_up hR rfl) rfl) rfl) rfl) rfl)
              refine wr_end (fun _ _ => rfl) ?_
              refine ⟨rfl, rfl, same_up (j := 6) (same_up (j := 3) (same_up (j := 4) (same_up (j := 5) (same_up (j := 3) (same_rf) (by decide)) (by decide)) (by decide)) (by decide)) (by decide), ?_, ?_⟩
              · show s.1 170 3 ≤ n
                omega
              · show 0 ≤ n ∧ n ≤ (n + 1) ∧ (n + 1) = (n + 1) ∧ (n + 1) ≤ (s.1 170 2) ∧ (s.1 170 2) ≤ 2000 ∧ (4 = 0 ∧ n = (s.1 170 2) ∨ 1 ≤ 4 ∧ 4 ≤ 5 ∧ n < (n + 1)) ∧ (4 = 3 → 0 ≤ (s.1 170 7) ∧ (s.1 170 7) ≤ 65535)
                omega
            · refine wr_if1f rfl rfl (by unfold i32; omega) h37 ?_
              refine wr_n (pc2 := 579) (lv2 := [(4, vi tt), (3, vi oo), (2, vi dd), (1, vi (s.1 171 n.toNat)), (0, .ref 170)]) (st2 := [vi 2, vi n, .ref 170]) 2 (fun _ _ => rfl) ?_
              refine wr_add (a := n) (b := 2) rfl ?_
              show wr (d + 5) tb_M123 580 [(4, vi tt), (3, vi oo), (2, vi dd), (1, vi (s.1 171 n.toNat)), (0, .ref 170)] [vi (n + 2), .ref 170] (up2 (up2 (up2 s.1 170 3 n) 170 5 n) 170 4 4, s.2) _
              refine wr_put (z := n + 2) rfl rfl rfl rfl (by decide) rfl (by decide) rfl (show -2147483648 ≤ n + 2 ∧ n + 2 ≤ 2147483647 by omega) (hf_int' _) ?_
              show wr (d + 5) tb_M123 583 [(4, vi tt), (3, vi oo), (2, vi dd), (1, vi (s.1 171 n.toNat)), (0, .ref 170)] [] (up2 (up2 (up2 (up2 s.1 170 3 n) 170 5 n) 170 4 4) 170 3 (n + 2), s.2) _
              have hR41 : RF (up2 (up2 (up2 (up2 s.1 170 3 n) 170 5 n) 170 4 4) 170 3 (n + 2)) := (RF_up (RF_up (RF_up (RF_up hR rfl) rfl) rfl) rfl)
              refine wr_n (pc2 := 585) (lv2 := [(4, vi tt), (3, vi oo), (2, vi dd), (1, vi (s.1 171 n.toNat)), (0, .ref 170)]) (st2 := [.ref 170, .ref 170]) 2 (fun _ _ => rfl) ?_
              refine wr_get (v := vi (n + 2)) rfl rfl rfl (by decide) rfl fun h42 => ?_
              have h42 : -2147483648 ≤ n + 2 ∧ n + 2 ≤ 2147483647 := h42
              show wr (d + 5) tb_M123 588 [(4, vi tt), (3, vi oo), (2, vi dd), (1, vi (s.1 171 n.toNat)), (0, .ref 170)] [vi (n + 2), .ref 170] (up2 (up2 (up2 (up2 s.1 170 3 n) 170 5 n) 170 4 4) 170 3 (n + 2), s.2) _
              refine wr_put (z := n + 2) rfl rfl rfl rfl (by decide) rfl (by decide) rfl (show -2147483648 ≤ n + 2 ∧ n + 2 ≤ 2147483647 by omega) (hf_int' _) ?_
              show wr (d + 5) tb_M123 591 [(4, vi tt), (3, vi oo), (2, vi dd), (1, vi (s.1 171 n.toNat)), (0, .ref 170)] [] (up2 (up2 (up2 (up2 (up2 s.1 170 3 n) 170 5 n) 170 4 4) 170 3 (n + 2)) 170 6 (n + 2), s.2) _
              have hR43 : RF (up2 (up2 (up2 (up2 (up2 s.1 170 3 n) 170 5 n) 170 4 4) 170 3 (n + 2)) 170 6 (n + 2)) := (RF_up (RF_up (RF_up (RF_up (RF_up hR rfl) rfl) rfl) rfl) rfl)
              refine wr_end (fun _ _ => rfl) ?_
              refine ⟨rfl, rfl, same_up (j := 6) (same_up (j := 3) (same_up (j := 4) (same_up (j := 5) (same_up (j := 3) (same_rf) (by decide)) (by decide)) (by decide)) (by decide)) (by decide), ?_, ?_⟩
              · show s.1 170 3 ≤ n
                omega
              · show 0 ≤ n ∧ n ≤ (n + 2) ∧ (n + 2) = (n + 2) ∧ (n + 2) ≤ (s.1 170 2) ∧ (s.1 170 2) ≤ 2000 ∧ (4 = 0 ∧ n = (s.1 170 2) ∨ 1 ≤ 4 ∧ 4 ≤ 5 ∧ n < (n + 2)) ∧ (4 = 3 → 0 ≤ (s.1 170 7) ∧ (s.1 170 7) ≤ 65535)
                omega
        have j484 : ∀ dd oo : Int, (-128 ≤ dd ∧ dd ≤ 127) → (0 ≤ oo ∧ oo ≤ 1) → (dd = 0 ∨ n + 1 < s.1 170 2) → wr (d + 5) tb_M123 484 [(2, vi dd), (1, vi (s.1 171 n.toNat)), (0, .ref 170)] [vi oo] (up2 (up2 s.1 170 3 n) 170 5 n, s.2) (fun s2 out => out = some none ∧ s2.2 = s.2 ∧ same 170 [3, 4, 5, 6, 7] s.1 s2.1 ∧ s.1 170 3 ≤ s2.1 170 5 ∧ LX s2.1) := by
          intro dd oo hd ho h9
          refine wr_n (pc2 := 488) (lv2 := [(3, vi oo), (2, vi dd), (1, vi (s.1 171 n.toNat)), (0, .ref 170)]) (st2 := [vi 61, vi dd]) 3 (fun _ _ => rfl) ?_
          by_cases h44 : dd ≠ 61
          · refine wr_if2t rfl rfl (by unfold i32; omega) (by unfold i32; omega) h44 ?_
            refine wr_n (pc2 := 517) (lv2 := [(3, vi oo), (2, vi dd), (1, vi (s.1 171 n.toNat)), (0, .ref 170)]) (st2 := [vi (s.1 171 n.toNat), vi dd]) 2 (fun _ _ => rfl) ?_
            by_cases h45 : dd ≠ s.1 171 n.toNat
            · refine wr_if2t rfl rfl (by unfold i32; omega) (by unfold i32; omega) h45 ?_
              refine wr_n (pc2 := 549) (lv2 := [(3, vi oo), (2, vi dd), (1, vi (s.1 171 n.toNat)), (0, .ref 170)]) (st2 := [vi 0]) 1 (fun _ _ => rfl) ?_
              exact j549 dd oo 0 hd ho (by omega)
            · refine wr_if2f rfl rfl (by unfold i32; omega) (by unfold i32; omega) h45 ?_
              refine wr_n (pc2 := 523) (lv2 := [(3, vi oo), (2, vi dd), (1, vi (s.1 171 n.toNat)), (0, .ref 170)]) (st2 := [vi 38, vi (s.1 171 n.toNat)]) 2 (fun _ _ => rfl) ?_
              by_cases h46 : s.1 171 n.toNat = 38
              · refine wr_if2t rfl rfl (by unfold i32; omega) (by unfold i32; omega) h46 ?_
                refine wr_n (pc2 := 549) (lv2 := [(3, vi oo), (2, vi dd), (1, vi (s.1 171 n.toNat)), (0, .ref 170)]) (st2 := [vi 1]) 2 (fun _ _ => rfl) ?_
                exact j549 dd oo 1 hd ho (by omega)
              · refine wr_if2f rfl rfl (by unfold i32; omega) (by unfold i32; omega) h46 ?_
                refine wr_n (pc2 := 529) (lv2 := [(3, vi oo), (2, vi dd), (1, vi (s.1 171 n.toNat)), (0, .ref 170)]) (st2 := [vi 124, vi (s.1 171 n.toNat)]) 2 (fun _ _ => rfl) ?_
                by_cases h47 : s.1 171 n.toNat = 124
                · refine wr_if2t rfl rfl (by unfold i32; omega) (by unfold i32; omega) h47 ?_
                  refine wr_n (pc2 := 549) (lv2 := [(3, vi oo), (2, vi dd), (1, vi (s.1 171 n.toNat)), (0, .ref 170)]) (st2 := [vi 1]) 2 (fun _ _ => rfl) ?_
                  exact j549 dd oo 1 hd ho (by omega)
                · refine wr_if2f rfl rfl (by unfold i32; omega) (by unfold i32; omega) h47 ?_
                  refine wr_n (pc2 := 535) (lv2 := [(3, vi oo), (2, vi dd), (1, vi (s.1 171 n.toNat)), (0, .ref 170)]) (st2 := [vi 60, vi (s.1 171 n.toNat)]) 2 (fun _ _ => rfl) ?_
                  by_cases h48 : s.1 171 n.toNat = 60
                  · refine wr_if2t rfl rfl (by unfold i32; omega) (by unfold i32; omega) h48 ?_
                    refine wr_n (pc2 := 549) (lv2 := [(3, vi oo), (2, vi dd), (1, vi (s.1 171 n.toNat)), (0, .ref 170)]) (st2 := [vi 1]) 2 (fun _ _ => rfl) ?_
                    exact j549 dd oo 1 hd ho (by omega)
                  · refine wr_if2f rfl rfl (by unfold i32; omega) (by unfold i32; omega) h48 ?_
                    refine wr_n (pc2 := 541) (lv2 := [(3, vi oo), (2, vi dd), (1, vi (s.1 171 n.toNat)), (0, .ref 170)]) (st2 := [vi 62, vi (s.1 171 n.toNat)]) 2 (fun _ _ => rfl) ?_
                    by_cases h49 : s.1 171 n.toNat ≠ 62
                    · refine wr_if2t rfl rfl (by unfold i32; omega) (by unfold i32; omega) h49 ?_
                      refine wr_n (pc2 := 549) (lv2 := [(3, vi oo), (2, vi dd), (1, vi (s.1 171 n.toNat)), (0, .ref 170)]) (st2 := [vi 0]) 1 (fun _ _ => rfl) ?_
                      exact j549 dd oo 0 hd ho (by omega)
                    · refine wr_if2f rfl rfl (by unfold i32; omega) (by unfold i32; omega) h49 ?_
                      refine wr_n (pc2 := 549) (lv2 := [(3, vi oo), (2, vi dd), (1, vi (s.1 171 n.toNat)), (0, .ref 170)]) (st2 := [vi 1]) 2 (fun _ _ => rfl) ?_
                      exact j549 dd oo 1 hd ho (by omega)
          · refine wr_if2f rfl rfl (by unfold i32; omega) (by unfold i32; omega) h44 ?_
            refine wr_n (pc2 := 494) (lv2 := [(3, vi oo), (2, vi dd), (1, vi (s.1 171 n.toNat)), (0, .ref 170)]) (st2 := [vi 61, vi (s.1 171 n.toNat)]) 2 (fun _ _ => rfl) ?_
            by_cases h50 : s.1 171 n.toNat = 61
            · refine wr_if2t rfl rfl (by unfold i32; omega) (by unfold i32; omega) h50 ?_
              refine wr_n (pc2 := 549) (lv2 := [(3, vi oo), (2, vi dd), (1, vi (s.1 171 n.toNat)), (0, .ref 170)]) (st2 := [vi 1]) 2 (fun _ _ => rfl) ?_
              exact j549 dd oo 1 hd ho (by omega)
            · refine wr_if2f rfl rfl (by unfold i32; omega) (by unfold i32; omega) h50 ?_
              refine wr_n (pc2 := 500) (lv2 := [(3, vi oo), (2, vi dd), (1, vi (s.1 171 n.toNat)), (0, .ref 170)]) (st2 := [vi 33, vi (s.1 171 n.toNat)]) 2 (fun _ _ => rfl) ?_
              by_cases h51 : s.1 171 n.toNat = 33
              · refine wr_if2t rfl rfl (by unfold i32; omega) (by unfold i32; omega) h51 ?_
                refine wr_n (pc2 := 549) (lv2 := [(3, vi oo), (2, vi dd), (1, vi (s.1 171 n.toNat)), (0, .ref 170)]) (st2 := [vi 1]) 2 (fun _ _ => rfl) ?_
                exact j549 dd oo 1 hd ho (by omega)
              · refine wr_if2f rfl rfl (by unfold i32; omega) (by unfold i32; omega) h51 ?_
                refine wr_n (pc2 := 506) (lv2 := [(3, vi oo), (2, vi dd), (1, vi (s.1 171 n.toNat)), (0, .ref 170)]) (st2 := [vi 60, vi (s.1 171 n.toNat)]) 2 (fun _ _ => rfl) ?_
                by_cases h52 : s.1 171 n.toNat = 60
                · refine wr_if2t rfl rfl (by unfold i32; omega) (by unfold i32; omega) h52 ?_
                  refine wr_n (pc2 := 549) (lv2 := [(3, vi oo), (2, vi dd), (1, vi (s.1 171 n.toNat)), (0, .ref 170)]) (st2 := [vi 1]) 2 (fun _ _ => rfl) ?_
                  exact j549 dd oo 1 hd ho (by omega)
                · refine wr_if2f rfl rfl (by unfold i32; omega) (by unfold i32; omega) h52 ?_
                  refine wr_n (pc2 := 512) (lv2 := [(3, vi oo), (2, vi dd), (1, vi (s.1 171 n.toNat)), (0, .ref 170)]) (st2 := [vi 62, vi (s.1 171 n.toNat)]) 2 (fun _ _ => rfl) ?_
                  by_cases h53 : s.1 171 n.toNat = 62
                  · refine wr_if2t rfl rfl (by unfold i32; omega) (by unfold i32; omega) h53 ?_
                    refine wr_n (pc2 := 549) (lv2 := [(3, vi oo), (2, vi dd), (1, vi (s.1 171 n.toNat)), (0, .ref 170)]) (st2 := [vi 1]) 2 (fun _ _ => rfl) ?_
                    exact j549 dd oo 1 hd ho (by omega)
                  · refine wr_if2f rfl rfl (by unfold i32; omega) (by unfold i32; omega) h53 ?_
                    refine wr_n (pc2 := 517) (lv2 := [(3, vi oo), (2, vi dd), (1, vi (s.1 171 n.toNat)), (0, .ref 170)]) (st2 := [vi (s.1 171 n.toNat), vi dd]) 2 (fun _ _ => rfl) ?_
                    by_cases h54 : dd ≠ s.1 171 n.toNat
                    · refine wr_if2t rfl rfl (by unfold i32; omega) (by unfold i32; omega) h54 ?_
                      refine wr_n (pc2 := 549) (lv2 := [(3, vi oo), (2, vi dd), (1, vi (s.1 171 n.toNat)), (0, .ref 170)]) (st2 := [vi 0]) 1 (fun _ _ => rfl) ?_
                      exact j549 dd oo 0 hd ho (by omega)
                    · refine wr_if2f rfl rfl (by unfold i32; omega) (by unfold i32; omega) h54 ?_
                      refine wr_n (pc2 := 523) (lv2 := [(3, vi oo), (2, vi dd), (1, vi (s.1 171 n.toNat)), (0, .ref 170)]) (st2 := [vi 38, vi (s.1 171 n.toNat)]) 2 (fun _ _ => rfl) ?_
                      by_cases h55 : s.1 171 n.toNat = 38
                      · refine wr_if2t rfl rfl (by unfold i32; omega) (by unfold i32; omega) h55 ?_
                        refine wr_n (pc2 := 549) (lv2 := [(3, vi oo), (2, vi dd), (1, vi (s.1 171 n.toNat)), (0, .ref 170)]) (st2 := [vi 1]) 2 (fun _ _ => rfl) ?_
                        exact j549 dd oo 1 hd ho (by omega)
                      · refine wr_if2f rfl rfl (by unfold i32; omega) (by unfold i32; omega) h55 ?_
                        refine wr_n (pc2 := 529) (lv2 := [(3, vi oo), (2, vi dd), (1, vi (s.1 171 n.toNat)), (0, .ref 170)]) (st2 := [vi 124, vi (s.1 171 n.toNat)]) 2 (fun _ _ => rfl) ?_
                        by_cases h56 : s.1 171 n.toNat = 124
                        · refine wr_if2t rfl rfl (by unfold i32; omega) (by unfold i32; omega) h56 ?_
                          refine wr_n (pc2 := 549) (lv2 := [(3, vi oo), (2, vi dd), (1, vi (s.1 171 n.toNat)), (0, .ref 170)]) (st2 := [vi 1]) 2 (fun _ _ => rfl) ?_
                          exact j549 dd oo 1 hd ho (by omega)
                        · refine wr_if2f rfl rfl (by unfold i32; omega) (by unfold i32; omega) h56 ?_
                          refine wr_n (pc2 := 535) (lv2 := [(3, vi oo), (2, vi dd), (1, vi (s.1 171 n.toNat)), (0, .ref 170)]) (st2 := [vi 60, vi (s.1 171 n.toNat)]) 2 (fun _ _ => rfl) ?_
                          by_cases h57 : s.1 171 n.toNat = 60
                          · refine wr_if2t rfl rfl (by unfold i32; omega) (by unfold i32; omega) h57 ?_
                            refine wr_n (pc2 := 549) (lv2 := [(3, vi oo), (2, vi dd), (1, vi (s.1 171 n.toNat)), (0, .ref 170)]) (st2 := [vi 1]) 2 (fun _ _ => rfl) ?_
                            exact j549 dd oo 1 hd ho (by omega)
                          · refine wr_if2f rfl rfl (by unfold i32; omega) (by unfold i32; omega) h57 ?_
                            refine wr_n (pc2 := 541) (lv2 := [(3, vi oo), (2, vi dd), (1, vi (s.1 171 n.toNat)), (0, .ref 170)]) (st2 := [vi 62, vi (s.1 171 n.toNat)]) 2 (fun _ _ => rfl) ?_
                            by_cases h58 : s.1 171 n.toNat ≠ 62
                            · refine wr_if2t rfl rfl (by unfold i32; omega) (by unfold i32; omega) h58 ?_
                              refine wr_n (pc2 := 549) (lv2 := [(3, vi oo), (2, vi dd), (1, vi (s.1 171 n.toNat)), (0, .ref 170)]) (st2 := [vi 0]) 1 (fun _ _ => rfl) ?_
                              exact j549 dd oo 0 hd ho (by omega)
                            · refine wr_if2f rfl rfl (by unfold i32; omega) (by unfold i32; omega) h58 ?_
                              refine wr_n (pc2 := 549) (lv2 := [(3, vi oo), (2, vi dd), (1, vi (s.1 171 n.toNat)), (0, .ref 170)]) (st2 := [vi 1]) 2 (fun _ _ => rfl) ?_
                              exact j549 dd oo 1 hd ho (by omega)
        have j340 : ∀ dd : Int, (-128 ≤ dd ∧ dd ≤ 127) → (dd = 0 ∨ n + 1 < s.1 170 2) → wr (d + 5) tb_M123 340 [(1, vi (s.1 171 n.toNat)), (0, .ref 170)] [vi dd] (up2 (up2 s.1 170 3 n) 170 5 n, s.2) (fun s2 out => out = some none ∧ s2.2 = s.2 ∧ same 170 [3, 4, 5, 6, 7] s.1 s2.1 ∧ s.1 170 3 ≤ s2.1 170 5 ∧ LX s2.1) := by
          intro dd hd h9
          refine wr_n (pc2 := 344) (lv2 := [(2, vi dd), (1, vi (s.1 171 n.toNat)), (0, .ref 170)]) (st2 := [vi 123, vi (s.1 171 n.toNat)]) 3 (fun _ _ => rfl) ?_
          by_cases h59 : s.1 171 n.toNat = 123
          · refine wr_if2t rfl rfl (by unfold i32; omega) (by unfold i32; omega) h59 ?_
            refine wr_n (pc2 := 484) (lv2 := [(2, vi dd), (1, vi (s.1 171 n.toNat)), (0, .ref 170)]) (st2 := [vi 1]) 2 (fun _ _ => rfl) ?_
            exact j484 dd 1 hd (by omega) h9
          · refine wr_if2f rfl rfl (by unfold i32; omega) (by unfold i32; omega) h59 ?_
            refine wr_n (pc2 := 350) (lv2 := [(2, vi dd), (1, vi (s.1 171 n.toNat)), (0, .ref 170)]) (st2 := [vi 125, vi (s.1 171 n.toNat)]) 2 (fun _ _ => rfl) ?_
            by_cases h60 : s.1 171 n.toNat = 125
            · refine wr_if2t rfl rfl (by unfold i32; omega) (by unfold i32; omega) h60 ?_
              refine wr_n (pc2 := 484) (lv2 := [(2, vi dd), (1, vi (s.1 171 n.toNat)), (0, .ref 170)]) (st2 := [vi 1]) 2 (fun _ _ => rfl) ?_
              exact j484 dd 1 hd (by omega) h9
            · refine wr_if2f rfl rfl (by unfold i32; omega) (by unfold i32; omega) h60 ?_
              refine wr_n (pc2 := 356) (lv2 := [(2, vi dd), (1, vi (s.1 171 n.toNat)), (0, .ref 170)]) (st2 := [vi 40, vi (s.1 171 n.toNat)]) 2 (fun _ _ => rfl) ?_
              by_cases h61 : s.1 171 n.toNat = 40
              · refine wr_if2t rfl rfl (by unfold i32; omega) (by unfold i32; omega) h61 ?_
                refine wr_n (pc2 := 484) (lv2 := [(2, vi dd), (1, vi (s.1 171 n.toNat)), (0, .ref 170)]) (st2 := [vi 1]) 2 (fun _ _ => rfl) ?_
                exact j484 dd 1 hd (by omega) h9
              · refine wr_if2f rfl rfl (by unfold i32; omega) (by unfold i32; omega) h61 ?_
                refine wr_n (pc2 := 362) (lv2 := [(2, vi dd), (1, vi (s.1 171 n.toNat)), (0, .ref 170)]) (st2 := [vi 41, vi (s.1 171 n.toNat)]) 2 (fun _ _ => rfl) ?_
                by_cases h62 : s.1 171 n.toNat = 41
                · refine wr_if2t rfl rfl (by unfold i32; omega) (by unfold i32; omega) h62 ?_
                  refine wr_n (pc2 := 484) (lv2 := [(2, vi dd), (1, vi (s.1 171 n.toNat)), (0, .ref 170)]) (st2 := [vi 1]) 2 (fun _ _ => rfl) ?_
                  exact j484 dd 1 hd (by omega) h9
                · refine wr_if2f rfl rfl (by unfold i32; omega) (by unfold i32; omega) h62 ?_
                  refine wr_n (pc2 := 368) (lv2 := [(2, vi dd), (1, vi (s.1 171 n.toNat)), (0, .ref 170)]) (st2 := [vi 91, vi (s.1 171 n.toNat)]) 2 (fun _ _ => rfl) ?_
                  by_cases h63 : s.1 171 n.toNat = 91
                  · refine wr_if2t rfl rfl (by unfold i32; omega) (by unfold i32; omega) h63 ?_
                    refine wr_n (pc2 := 484) (lv2 := [(2, vi dd), (1, vi (s.1 171 n.toNat)), (0, .ref 170)]) (st2 := [vi 1]) 2 (fun _ _ => rfl) ?_
                    exact j484 dd 1 hd (by omega) h9
                  · refine wr_if2f rfl rfl (by unfold i32; omega) (by unfold i32; omega) h63 ?_
                    refine wr_n (pc2 := 374) (lv2 := [(2, vi dd), (1, vi (s.1 171 n.toNat)), (0, .ref 170)]) (st2 := [vi 93, vi (s.1 171 n.toNat)]) 2 (fun _ _ => rfl) ?_
                    by_cases h64 : s.1 171 n.toNat = 93
                    · refine wr_if2t rfl rfl (by unfold i32; omega) (by unfold i32; omega) h64 ?_
                      refine wr_n (pc2 := 484) (lv2 := [(2, vi dd), (1, vi (s.1 171 n.toNat)), (0, .ref 170)]) (st2 := [vi 1]) 2 (fun _ _ => rfl) ?_
                      exact j484 dd 1 hd (by omega) h9
                    · refine wr_if2f rfl rfl (by unfold i32; omega) (by unfold i32; omega) h64 ?_
                      refine wr_n (pc2 := 380) (lv2 := [(2, vi dd), (1, vi (s.1 171 n.toNat)), (0, .ref 170)]) (st2 := [vi 44, vi (s.1 171 n.toNat)]) 2 (fun _ _ => rfl) ?_
                      by_cases h65 : s.1 171 n.toNat = 44
                      · refine wr_if2t rfl rfl (by unfold i32; omega) (by unfold i32; omega) h65 ?_
                        refine wr_n (pc2 := 484) (lv2 := [(2, vi dd), (1, vi (s.1 171 n.toNat)), (0, .ref 170)]) (st2 := [vi 1]) 2 (fun _ _ => rfl) ?_
                        exact j484 dd 1 hd (by omega) h9
                      · refine wr_if2f rfl rfl (by unfold i32; omega) (by unfold i32; omega) h65 ?_
                        refine wr_n (pc2 := 386) (lv2 := [(2, vi dd), (1, vi (s.1 171 n.toNat)), (0, .ref 170)]) (st2 := [vi 59, vi (s.1 171 n.toNat)]) 2 (fun _ _ => rfl) ?_
                        by_cases h66 : s.1 171 n.toNat = 59
                        · refine wr_if2t rfl rfl (by unfold i32; omega) (by unfold i32; omega) h66 ?_
                          refine wr_n (pc2 := 484) (lv2 := [(2, vi dd), (1, vi (s.1 171 n.toNat)), (0, .ref 170)]) (st2 := [vi 1]) 2 (fun _ _ => rfl) ?_
                          exact j484 dd 1 hd (by omega) h9
                        · refine wr_if2f rfl rfl (by unfold i32; omega) (by unfold i32; omega) h66 ?_
                          refine wr_n (pc2 := 392) (lv2 := [(2, vi dd), (1, vi (s.1 171 n.toNat)), (0, .ref 170)]) (st2 := [vi 58, vi (s.1 171 n.toNat)]) 2 (fun _ _ => rfl) ?_
                          by_cases h67 : s.1 171 n.toNat = 58
                          · refine wr_if2t rfl rfl (by unfold i32; omega) (by unfold i32; omega) h67 ?_
                            refine wr_n (pc2 := 484) (lv2 := [(2, vi dd), (1, vi (s.1 171 n.toNat)), (0, .ref 170)]) (st2 := [vi 1]) 2 (fun _ _ => rfl) ?_
                            exact j484 dd 1 hd (by omega) h9
                          · refine wr_if2f rfl rfl (by unfold i32; omega) (by unfold i32; omega) h67 ?_
                            refine wr_n (pc2 := 398) (lv2 := [(2, vi dd), (1, vi (s.1 171 n.toNat)), (0, .ref 170)]) (st2 := [vi 61, vi (s.1 171 n.toNat)]) 2 (fun _ _ => rfl) ?_
                            by_cases h68 : s.1 171 n.toNat = 61
                            · refine wr_if2t rfl rfl (by unfold i32; omega) (by unfold i32; omega) h68 ?_
                              refine wr_n (pc2 := 484) (lv2 := [(2, vi dd), (1, vi (s.1 171 n.toNat)), (0, .ref 170)]) (st2 := [vi 1]) 2 (fun _ _ => rfl) ?_
                              exact j484 dd 1 hd (by omega) h9
                            · refine wr_if2f rfl rfl (by unfold i32; omega) (by unfold i32; omega) h68 ?_
                              refine wr_n (pc2 := 404) (lv2 := [(2, vi dd), (1, vi (s.1 171 n.toNat)), (0, .ref 170)]) (st2 := [vi 43, vi (s.1 171 n.toNat)]) 2 (fun _ _ => rfl) ?_
                              by_cases h69 : s.1 171 n.toNat = 43
                              · refine wr_if2t rfl rfl (by unfold i32; omega) (by unfold i32; omega) h69 ?_
                                refine wr_n (pc2 := 484) (lv2 := [(2, vi dd), (1, vi (s.1 171 n.toNat)), (0, .ref 170)]) (st2 := [vi 1]) 2 (fun _ _ => rfl) ?_
                                exact j484 dd 1 hd (by omega) h9
                              · refine wr_if2f rfl rfl (by unfold i32; omega) (by unfold i32; omega) h69 ?_
                                refine wr_n (pc2 := 410) (lv2 := [(2, vi dd), (1, vi (s.1 171 n.toNat)), (0, .ref 170)]) (st2 := [vi 45, vi (s.1 171 n.toNat)]) 2 (fun _ _ => rfl) ?_
                                by_cases h70 : s.1 171 n.toNat = 45
                                · refine wr_if2t rfl rfl (by unfold i32; omega) (by unfold i32; omega) h70 ?_
                                  refine wr_n (pc2 := 484) (lv2 := [(2, vi dd), (1, vi (s.1 171 n.toNat)), (0, .ref 170)]) (st2 := [vi 1]) 2 (fun _ _ => rfl) ?_
                                  exact j484 dd 1 hd (by omega) h9
                                · refine wr_if2f rfl rfl (by unfold i32; omega) (by unfold i32; omega) h70 ?_
                                  refine wr_n (pc2 := 416) (lv2 := [(2, vi dd), (1, vi (s.1 171 n.toNat)), (0, .ref 170)]) (st2 := [vi 42, vi (s.1 171 n.toNat)]) 2 (fun _ _ => rfl) ?_
                                  by_cases h71 : s.1 171 n.toNat = 42
                                  · refine wr_if2t rfl rfl (by unfold i32; omega) (by unfold i32; omega) h71 ?_
                                    refine wr_n (pc2 := 484) (lv2 := [(2, vi dd), (1, vi (s.1 171 n.toNat)), (0, .ref 170)]) (st2 := [vi 1]) 2 (fun _ _ => rfl) ?_
                                    exact j484 dd 1 hd (by omega) h9
                                  · refine wr_if2f rfl rfl (by unfold i32; omega) (by unfold i32; omega) h71 ?_
                                    refine wr_n (pc2 := 422) (lv2 := [(2, vi dd), (1, vi (s.1 171 n.toNat)), (0, .ref 170)]) (st2 := [vi 47, vi (s.1 171 n.toNat)]) 2 (fun _ _ => rfl) ?_
                                    by_cases h72 : s.1 171 n.toNat = 47
                                    · refine wr_if2t rfl rfl (by unfold i32; omega) (by unfold i32; omega) h72 ?_
                                      refine wr_n (pc2 := 484) (lv2 := [(2, vi dd), (1, vi (s.1 171 n.toNat)), (0, .ref 170)]) (st2 := [vi 1]) 2 (fun _ _ => rfl) ?_
                                      exact j484 dd 1 hd (by omega) h9
                                    · refine wr_if2f rfl rfl (by unfold i32; omega) (by unfold i32; omega) h72 ?_
                                      refine wr_n (pc2 := 428) (lv2 := [(2, vi dd), (1, vi (s.1 171 n.toNat)), (0, .ref 170)]) (st2 := [vi 37, vi (s.1 171 n.toNat)]) 2 (fun _ _ => rfl) ?_
                                      by_cases h73 : s.1 171 n.toNat = 37
                                      · refine wr_if2t rfl rfl (by unfold i32; omega) (by unfold i32; omega) h73 ?_
                                        refine wr_n (pc2 := 484) (lv2 := [(2, vi dd), (1, vi (s.1 171 n.toNat)), (0, .ref 170)]) (st2 := [vi 1]) 2 (fun _ _ => rfl) ?_
                                        exact j484 dd 1 hd (by omega) h9
                                      · refine wr_if2f rfl rfl (by unfold i32; omega) (by unfold i32; omega) h73 ?_
                                        refine wr_n (pc2 := 434) (lv2 := [(2, vi dd), (1, vi (s.1 171 n.toNat)), (0, .ref 170)]) (st2 := [vi 38, vi (s.1 171 n.toNat)]) 2 (fun _ _ => rfl) ?_
                                        by_cases h74 : s.1 171 n.toNat = 38
                                        · refine wr_if2t rfl rfl (by unfold i32; omega) (by unfold i32; omega) h74 ?_
                                          refine wr_n (pc2 := 484) (lv2 := [(2, vi dd), (1, vi (s.1 171 n.toNat)), (0, .ref 170)]) (st2 := [vi 1]) 2 (fun _ _ => rfl) ?_
                                          exact j484 dd 1 hd (by omega) h9
                                        · refine wr_if2f rfl rfl (by unfold i32; omega) (by unfold i32; omega) h74 ?_
                                          refine wr_n (pc2 := 440) (lv2 := [(2, vi dd), (1, vi (s.1 171 n.toNat)), (0, .ref 170)]) (st2 := [vi 124, vi (s.1 171 n.toNat)]) 2 (fun _ _ => rfl) ?_
                                          by_cases h75 : s.1 171 n.toNat = 124
                                          · refine wr_if2t rfl rfl (by unfold i32; omega) (by unfold i32; omega) h75 ?_
                                            refine wr_n (pc2 := 484) (lv2 := [(2, vi dd), (1, vi (s.1 171 n.toNat)), (0, .ref 170)]) (st2 := [vi 1]) 2 (fun _ _ => rfl) ?_
                                            exact j484 dd 1 hd (by omega) h9
                                          · refine wr_if2f rfl rfl (by unfold i32; omega) (by unfold i32; omega) h75 ?_
                                            refine wr_n (pc2 := 446) (lv2 := [(2, vi dd), (1, vi (s.1 171 n.toNat)), (0, .ref 170)]) (st2 := [vi 94, vi (s.1 171 n.toNat)]) 2 (fun _ _ => rfl) ?_
                                            by_cases h76 : s.1 171 n.toNat = 94
                                            · refine wr_if2t rfl rfl (by unfold i32; omega) (by unfold i32; omega) h76 ?_
                                              refine wr_n (pc2 := 484) (lv2 := [(2, vi dd), (1, vi (s.1 171 n.toNat)), (0, .ref 170)]) (st2 := [vi 1]) 2 (fun _ _ => rfl) ?_
                                              exact j484 dd 1 hd (by omega) h9
                                            · refine wr_if2f rfl rfl (by unfold i32; omega) (by unfold i32; omega) h76 ?_
                                              refine wr_n (pc2 := 452) (lv2 := [(2, vi dd), (1, vi (s.1 171 n.toNat)), (0, .ref 170)]) (st2 := [vi 126, vi (s.1 171 n.toNat)]) 2 (fun _ _ => rfl) ?_
                                              by_cases h77 : s.1 171 n.toNat = 126
                                              · refine wr_if2t rfl rfl (by unfold i32; omega) (by unfold i32; omega) h77 ?_
                                                refine wr_n (pc2 := 484) (lv2 := [(2, vi dd), (1, vi (s.1 171 n.toNat)), (0, .ref 170)]) (st2 := [vi 1]) 2 (fun _ _ => rfl) ?_
                                                exact j484 dd 1 hd (by omega) h9
                                              · refine wr_if2f rfl rfl (by unfold i32; omega) (by unfold i32; omega) h77 ?_
                                                refine wr_n (pc2 := 458) (lv2 := [(2, vi dd), (1, vi (s.1 171 n.toNat)), (0, .ref 170)]) (st2 := [vi 33, vi (s.1 171 n.toNat)]) 2 (fun _ _ => rfl) ?_
                                                by_cases h78 : s.1 171 n.toNat = 33
                                                · refine wr_if2t rfl rfl (by unfold i32; omega) (by unfold i32; omega) h78 ?_
                                                  refine wr_n (pc2 := 484) (lv2 := [(2, vi dd), (1, vi (s.1 171 n.toNat)), (0, .ref 170)]) (st2 := [vi 1]) 2 (fun _ _ => rfl) ?_
                                                  exact j484 dd 1 hd (by omega) h9
                                                · refine wr_if2f rfl rfl (by unfold i32; omega) (by unfold i32; omega) h78 ?_
                                                  refine wr_n (pc2 := 464) (lv2 := [(2, vi dd), (1, vi (s.1 171 n.toNat)), (0, .ref 170)]) (st2 := [vi 63, vi (s.1 171 n.toNat)]) 2 (fun _ _ => rfl) ?_
                                                  by_cases h79 : s.1 171 n.toNat = 63
                                                  · refine wr_if2t rfl rfl (by unfold i32; omega) (by unfold i32; omega) h79 ?_
                                                    refine wr_n (pc2 := 484) (lv2 := [(2, vi dd), (1, vi (s.1 171 n.toNat)), (0, .ref 170)]) (st2 := [vi 1]) 2 (fun _ _ => rfl) ?_
                                                    exact j484 dd 1 hd (by omega) h9
                                                  · refine wr_if2f rfl rfl (by unfold i32; omega) (by unfold i32; omega) h79 ?_
                                                    refine wr_n (pc2 := 470) (lv2 := [(2, vi dd), (1, vi (s.1 171 n.toNat)), (0, .ref 170)]) (st2 := [vi 60, vi (s.1 171 n.toNat)]) 2 (fun _ _ => rfl) ?_
                                                    by_cases h80 : s.1 171 n.toNat = 60
                                                    · refine wr_if2t rfl rfl (by unfold i32; omega) (by unfold i32; omega) h80 ?_
                                                      refine wr_n (pc2 := 484) (lv2 := [(2, vi dd), (1, vi (s.1 171 n.toNat)), (0, .ref 170)]) (st2 := [vi 1]) 2 (fun _ _ => rfl) ?_
                                                      exact j484 dd 1 hd (by omega) h9
                                                    · refine wr_if2f rfl rfl (by unfold i32; omega) (by unfold i32; omega) h80 ?_
                                                      refine wr_n (pc2 := 476) (lv2 := [(2, vi dd), (1, vi (s.1 171 n.toNat)), (0, .ref 170)]) (st2 := [vi 62, vi (s.1 171 n.toNat)]) 2 (fun _ _ => rfl) ?_
                                                      by_cases h81 : s.1 171 n.toNat ≠ 62
                                                      · refine wr_if2t rfl rfl (by unfold i32; omega) (by unfold i32; omega) h81 ?_
                                                        refine wr_n (pc2 := 484) (lv2 := [(2, vi dd), (1, vi (s.1 171 n.toNat)), (0, .ref 170)]) (st2 := [vi 0]) 1 (fun _ _ => rfl) ?_
                                                        exact j484 dd 0 hd (by omega) h9
                                                      · refine wr_if2f rfl rfl (by unfold i32; omega) (by unfold i32; omega) h81 ?_
                                                        refine wr_n (pc2 := 484) (lv2 := [(2, vi dd), (1, vi (s.1 171 n.toNat)), (0, .ref 170)]) (st2 := [vi 1]) 2 (fun _ _ => rfl) ?_
                                                        exact j484 dd 1 hd (by omega) h9
        refine wr_n (pc2 := 313) (lv2 := [(1, vi (s.1 171 n.toNat)), (0, .ref 170)]) (st2 := [.ref 170]) 1 (fun _ _ => rfl) ?_
        refine wr_get (v := vi n) rfl rfl rfl (by decide) rfl fun h82 => ?_
        have h82 : -2147483648 ≤ n ∧ n ≤ 2147483647 := h82
        show wr (d + 5) tb_M123 316 [(1, vi (s.1 171 n.toNat)), (0, .ref 170)] [vi n] (up2 (up2 s.1 170 3 n) 170 5 n, s.2) _
        refine wr_n (pc2 := 317) (lv2 := [(1, vi (s.1 171 n.toNat)), (0, .ref 170)]) (st2 := [vi 1, vi n]) 1 (fun _ _ => rfl) ?_
        refine wr_add (a := n) (b := 1) rfl ?_
        show wr (d + 5) tb_M123 318 [(1, vi (s.1 171 n.toNat)), (0, .ref 170)] [vi (n + 1)] (up2 (up2 s.1 170 3 n) 170 5 n, s.2) _
        refine wr_n (pc2 := 319) (lv2 := [(1, vi (s.1 171 n.toNat)), (0, .ref 170)]) (st2 := [.ref 170, vi (n + 1)]) 1 (fun _ _ => rfl) ?_
        refine wr_get (v := vi (s.1 170 2)) rfl rfl rfl (by decide) rfl fun h83 => ?_
        have h83 : -2147483648 ≤ s.1 170 2 ∧ s.1 170 2 ≤ 2147483647 := h83
        show wr (d + 5) tb_M123 322 [(1, vi (s.1 171 n.toNat)), (0, .ref 170)] [vi (s.1 170 2), vi (n + 1)] (up2 (up2 s.1 170 3 n) 170 5 n, s.2) _
        by_cases h84 : s.1 170 2 ≤ n + 1
        · refine wr_if2t rfl rfl (by unfold i32; omega) (by unfold i32; omega) h84 ?_
          refine wr_n (pc2 := 340) (lv2 := [(1, vi (s.1 171 n.toNat)), (0, .ref 170)]) (st2 := [vi 0]) 1 (fun _ _ => rfl) ?_
          exact j340 0 (by omega) (by omega)
        · refine wr_if2f rfl rfl (by unfold i32; omega) (by unfold i32; omega) h84 ?_
          refine wr_n (pc2 := 326) (lv2 := [(1, vi (s.1 171 n.toNat)), (0, .ref 170)]) (st2 := [.ref 170]) 1 (fun _ _ => rfl) ?_
          refine wr_get (v := .ref 171) rfl rfl rfl (by decide) (rv_ref (hR2 170 0 171 rfl)) fun h85 => ?_
          show wr (d + 5) tb_M123 329 [(1, vi (s.1 171 n.toNat)), (0, .ref 170)] [.ref 171] (up2 (up2 s.1 170 3 n) 170 5 n, s.2) _
          refine wr_n (pc2 := 330) (lv2 := [(1, vi (s.1 171 n.toNat)), (0, .ref 170)]) (st2 := [.ref 170, .ref 171]) 1 (fun _ _ => rfl) ?_
          refine wr_get (v := vi n) rfl rfl rfl (by decide) rfl fun h86 => ?_
          have h86 : -2147483648 ≤ n ∧ n ≤ 2147483647 := h86
          show wr (d + 5) tb_M123 333 [(1, vi (s.1 171 n.toNat)), (0, .ref 170)] [vi n, .ref 171] (up2 (up2 s.1 170 3 n) 170 5 n, s.2) _
          refine wr_n (pc2 := 334) (lv2 := [(1, vi (s.1 171 n.toNat)), (0, .ref 170)]) (st2 := [vi 1, vi n, .ref 171]) 1 (fun _ _ => rfl) ?_
          refine wr_add (a := n) (b := 1) rfl ?_
          show wr (d + 5) tb_M123 335 [(1, vi (s.1 171 n.toNat)), (0, .ref 170)] [vi (n + 1), .ref 171] (up2 (up2 s.1 170 3 n) 170 5 n, s.2) _
          refine wr_ald (a := n + 1) (v := vi (s.1 171 ((n + 1).toNat))) rfl rfl rfl (by omega) (by omega) (by decide) rfl fun h87 => ?_
          have h87 : -128 ≤ s.1 171 ((n + 1).toNat) ∧ s.1 171 ((n + 1).toNat) ≤ 127 := h87
          show wr (d + 5) tb_M123 336 [(1, vi (s.1 171 n.toNat)), (0, .ref 170)] [vi (s.1 171 ((n + 1).toNat))] (up2 (up2 s.1 170 3 n) 170 5 n, s.2) _
          refine wr_n (pc2 := 340) (lv2 := [(1, vi (s.1 171 n.toNat)), (0, .ref 170)]) (st2 := [vi (s.1 171 ((n + 1).toNat))]) 1 (fun _ _ => rfl) ?_
          exact j340 (s.1 171 ((n + 1).toNat)) (by omega) (by omega)
      · refine wr_if1f rfl rfl (by unfold i32; omega) h21 ?_
        refine wr_n (pc2 := 210) (lv2 := [(0, .ref 170)]) (st2 := [vi 0, .ref 170]) 2 (fun _ _ => rfl) ?_
        refine wr_put (z := 0) rfl rfl rfl rfl (by decide) rfl (by decide) rfl (show -2147483648 ≤ 0 ∧ 0 ≤ 2147483647 by omega) (hf_int' _) ?_
        show wr (d + 5) tb_M123 213 [(0, .ref 170)] [] (up2 (up2 (up2 s.1 170 3 n) 170 5 n) 170 7 0, s.2) _
        have hR88 : RF (up2 (up2 (up2 s.1 170 3 n) 170 5 n) 170 7 0) := (RF_up (RF_up (RF_up hR rfl) rfl) rfl)
        refine l_numS (d := d + 4) (s := (up2 (up2 (up2 s.1 170 3 n) 170 5 n) 170 7 0, s.2)) (show s.1 170 2 ≤ 2000 by omega) hR88 (show 0 ≤ n ∧ n ≤ s.1 170 2 by omega) (show (0 : Int) ≤ 0 ∧ (0 : Int) ≤ 100000 by omega) (fun n89 u90 h91 h92 h93 h94 h95 => ?_)
        have h92 : n89 ≤ s.1 170 2 := h92
        have h93 : n ≤ n89 := h93
        have h95 : n89 = s.1 170 2 ∨ ¬ (48 ≤ s.1 171 n89.toNat ∧ s.1 171 n89.toNat ≤ 57) := h95
        have h96 : n < n89 := by
          by_cases q : n89 = n
          · subst q; omega
          · omega
        show wr (d + 5) tb_M123 281 [(0, .ref 170)] [] (up2 (up2 (up2 (up2 (up2 s.1 170 3 n) 170 5 n) 170 7 0) 170 7 u90) 170 3 n89, s.2) _
        have hR97 : RF (up2 (up2 (up2 (up2 (up2 s.1 170 3 n) 170 5 n) 170 7 0) 170 7 u90) 170 3 n89) := (RF_up (RF_up (RF_up (RF_up (RF_up hR rfl) rfl) rfl) rfl) rfl)
        refine wr_n (pc2 := 283) (lv2 := [(0, .ref 170)]) (st2 := [.ref 170, .ref 170]) 2 (fun _ _ => rfl) ?_
        refine wr_get (v := vi u90) rfl rfl rfl (by decide) rfl fun h98 => ?_
        have h98 : -2147483648 ≤ u90 ∧ u90 ≤ 2147483647 := h98
        show wr (d + 5) tb_M123 286 [(0, .ref 170)] [vi u90, .ref 170] (up2 (up2 (up2 (up2 (up2 s.1 170 3 n) 170 5 n) 170 7 0) 170 7 u90) 170 3 n89, s.2) _
        refine wr_n (pc2 := 288) (lv2 := [(0, .ref 170)]) (st2 := [vi 65535, vi u90, .ref 170]) 1 (fun _ _ => rfl) ?_
        by_cases h99 : 65535 < u90
        · refine wr_if2t rfl rfl (by unfold i32; omega) (by unfold i32; omega) h99 ?_
          refine wr_n (pc2 := 296) (lv2 := [(0, .ref 170)]) (st2 := [vi 5, .ref 170]) 1 (fun _ _ => rfl) ?_
          refine wr_put (z := 5) rfl rfl rfl rfl (by decide) rfl (by decide) rfl (show -2147483648 ≤ 5 ∧ 5 ≤ 2147483647 by omega) (hf_int' _) ?_
          show wr (d + 5) tb_M123 299 [(0, .ref 170)] [] (up2 (up2 (up2 (up2 (up2 (up2 s.1 170 3 n) 170 5 n) 170 7 0) 170 7 u90) 170 3 n89) 170 4 5, s.2) _
          have hR100 : RF (up2 (up2 (up2 (up2 (up2 (up2 s.1 170 3 n) 170 5 n) 170 7 0) 170 7 u90) 170 3 n89) 170 4 5) := (RF_up (RF_up (RF_up (RF_up (RF_up (RF_up hR rfl) rfl) rfl) rfl) rfl) rfl)
          refine wr_n (pc2 := 585) (lv2 := [(0, .ref 170)]) (st2 := [.ref 170, .ref 170]) 3 (fun _ _ => rfl) ?_
          refine wr_get (v := vi n89) rfl rfl rfl (by decide) rfl fun h101 => ?_
          have h101 : -2147483648 ≤ n89 ∧ n89 ≤ 2147483647 := h101
          show wr (d + 5) tb_M123 588 [(0, .ref 170)] [vi n89, .ref 170] (up2 (up2 (up2 (up2 (up2 (up2 s.1 170 3 n) 170 5 n) 170 7 0) 170 7 u90) 170 3 n89) 170 4 5, s.2) _
          refine wr_put (z := n89) rfl rfl rfl rfl (by decide) rfl (by decide) rfl (show -2147483648 ≤ n89 ∧ n89 ≤ 2147483647 by omega) (hf_int' _) ?_
          show wr (d + 5) tb_M123 591 [(0, .ref 170)] [] (up2 (up2 (up2 (up2 (up2 (up2 (up2 s.1 170 3 n) 170 5 n) 170 7 0) 170 7 u90) 170 3 n89) 170 4 5) 170 6 n89, s.2) _
          have hR102 : RF (up2 (up2 (up2 (up2 (up2 (up2 (up2 s.1 170 3 n) 170 5 n) 170 7 0) 170 7 u90) 170 3 n89) 170 4 5) 170 6 n89) := (RF_up (RF_up (RF_up (RF_up (RF_up (RF_up (RF_up hR rfl) rfl) rfl) rfl) rfl) rfl) rfl)
          refine wr_end (fun _ _ => rfl) ?_
          refine ⟨rfl, rfl, same_up (j := 6) (same_up (j := 4) (same_up (j := 3) (same_up (j := 7) (same_up (j := 7) (same_up (j := 5) (same_up (j := 3) (same_rf) (by decide)) (by decide)) (by decide)) (by decide)) (by decide)) (by decide)) (by decide), ?_, ?_⟩
          · show s.1 170 3 ≤ n
            omega
          · show 0 ≤ n ∧ n ≤ n89 ∧ n89 = n89 ∧ n89 ≤ (s.1 170 2) ∧ (s.1 170 2) ≤ 2000 ∧ (5 = 0 ∧ n = (s.1 170 2) ∨ 1 ≤ 5 ∧ 5 ≤ 5 ∧ n < n89) ∧ (5 = 3 → 0 ≤ u90 ∧ u90 ≤ 65535)
            omega
        · refine wr_if2f rfl rfl (by unfold i32; omega) (by unfold i32; omega) h99 ?_
          refine wr_n (pc2 := 296) (lv2 := [(0, .ref 170)]) (st2 := [vi 3, .ref 170]) 2 (fun _ _ => rfl) ?_
          refine wr_put (z := 3) rfl rfl rfl rfl (by decide) rfl (by decide) rfl (show -2147483648 ≤ 3 ∧ 3 ≤ 2147483647 by omega) (hf_int' _) ?_
          show wr (d + 5) tb_M123 299 [(0, .ref 170)] [] (up2 (up2 (up2 (up2 (up2 (up2 s.1 170 3 n) 170 5 n) 170 7 0) 170 7 u90) 170 3 n89) 170 4 3, s.2) _
          have hR103 : RF (up2 (up2 (up2 (up2 (up2 (up2 s.1 170 3 n) 170 5 n) 170 7 0) 170 7 u90) 170 3 n89) 170 4 3) := (RF_up (RF_up (RF_up (RF_up (RF_up (RF_up hR rfl) rfl) rfl) rfl) rfl) rfl)
          refine wr_n (pc2 := 585) (lv2 := [(0, .ref 170)]) (st2 := [.ref 170, .ref 170]) 3 (fun _ _ => rfl) ?_
          refine wr_get (v := vi n89) rfl rfl rfl (by decide) rfl fun h104 => ?_
          have h104 : -2147483648 ≤ n89 ∧ n89 ≤ 2147483647 := h104
          show wr (d + 5) tb_M123 588 [(0, .ref 170)] [vi n89, .ref 170] (up2 (up2 (up2 (up2 (up2 (up2 s.1 170 3 n) 170 5 n) 170 7 0) 170 7 u90) 170 3 n89) 170 4 3, s.2) _
          refine wr_put (z := n89) rfl rfl rfl rfl (by decide) rfl (by decide) rfl (show -2147483648 ≤ n89 ∧ n89 ≤ 2147483647 by omega) (hf_int' _) ?_
          show wr (d + 5) tb_M123 591 [(0, .ref 170)] [] (up2 (up2 (up2 (up2 (up2 (up2 (up2 s.1 170 3 n) 170 5 n) 170 7 0) 170 7 u90) 170 3 n89) 170 4 3) 170 6 n89, s.2) _
          have hR105 : RF (up2 (up2 (up2 (up2 (up2 (up2 (up2 s.1 170 3 n) 170 5 n) 170 7 0) 170 7 u90) 170 3 n89) 170 4 3) 170 6 n89) := (RF_up (RF_up (RF_up (RF_up (RF_up (RF_up (RF_up hR rfl) rfl) rfl) rfl) rfl) rfl) rfl)
          refine wr_end (fun _ _ => rfl) ?_
          refine ⟨rfl, rfl, same_up (j := 6) (same_up (j := 4) (same_up (j := 3) (same_up (j := 7) (same_up (j := 7) (same_up (j := 5) (same_up (j := 3) (same_rf) (by decide)) (by decide)) (by decide)) (by decide)) (by decide)) (by decide)) (by decide), ?_, ?_⟩
          · show s.1 170 3 ≤ n
            omega
          · show 0 ≤ n ∧ n ≤ n89 ∧ n89 = n89 ∧ n89 ≤ (s.1 170 2) ∧ (s.1 170 2) ≤ 2000 ∧ (3 = 0 ∧ n = (s.1 170 2) ∨ 1 ≤ 3 ∧ 3 ≤ 5 ∧ n < n89) ∧ (3 = 3 → 0 ≤ u90 ∧ u90 ≤ 65535)
            omega
    · refine wr_if1f rfl rfl (by unfold i32; omega) h13 ?_
      refine l_nameS (d := d + 4) (s := (up2 (up2 s.1 170 3 n) 170 5 n, s.2)) (show s.1 170 2 ≤ 2000 by omega) hR2 (show 0 ≤ n ∧ n ≤ s.1 170 2 by omega) (fun n106 h107 h108 h109 h110 => ?_)
      have h108 : n106 ≤ s.1 170 2 := h108
      have h109 : n ≤ n106 := h109
      have h110 : n106 = s.1 170 2 ∨ ¬ (97 ≤ s.1 171 n106.toNat ∧ s.1 171 n106.toNat ≤ 122) ∧ ¬ (48 ≤ s.1 171 n106.toNat ∧ s.1 171 n106.toNat ≤ 57) := h110
      have h111 : n < n106 := by
        by_cases q : n106 = n
        · subst q; omega
        · omega
      show wr (d + 5) tb_M123 148 [(0, .ref 170)] [] (up2 (up2 (up2 s.1 170 3 n) 170 5 n) 170 3 n106, s.2) _
      have hR112 : RF (up2 (up2 (up2 s.1 170 3 n) 170 5 n) 170 3 n106) := (RF_up (RF_up (RF_up hR rfl) rfl) rfl)
      refine wr_n (pc2 := 150) (lv2 := [(0, .ref 170)]) (st2 := [.ref 170, .ref 170]) 2 (fun _ _ => rfl) ?_
      refine wr_get (v := vi n106) rfl rfl rfl (by decide) rfl fun h113 => ?_
      have h113 : -2147483648 ≤ n106 ∧ n106 ≤ 2147483647 := h113
      show wr (d + 5) tb_M123 153 [(0, .ref 170)] [vi n106, .ref 170] (up2 (up2 (up2 s.1 170 3 n) 170 5 n) 170 3 n106, s.2) _
      refine wr_put (z := n106) rfl rfl rfl rfl (by decide) rfl (by decide) rfl (show -2147483648 ≤ n106 ∧ n106 ≤ 2147483647 by omega) (hf_int' _) ?_
      show wr (d + 5) tb_M123 156 [(0, .ref 170)] [] (up2 (up2 (up2 (up2 s.1 170 3 n) 170 5 n) 170 3 n106) 170 6 n106, s.2) _
      have hR114 : RF (up2 (up2 (up2 (up2 s.1 170 3 n) 170 5 n) 170 3 n106) 170 6 n106) := (RF_up (RF_up (RF_up (RF_up hR rfl) rfl) rfl) rfl)
      refine wr_n (pc2 := 158) (lv2 := [(0, .ref 170)]) (st2 := [.ref 170, .ref 170]) 2 (fun _ _ => rfl) ?_
      refine wr_call1 (args := []) (rest := [.ref 170]) rfl rfl rfl rfl (Nat.le_of_ble_eq_true rfl) (cr_mono (c_isReserved (d := d) _ hR114 (show 0 ≤ n by omega) (show n ≤ n106 by omega) (show n106 ≤ 2000 by omega)) ?_)
      rintro s118 out ⟨b115, rfl, h116, e117⟩
      refine ⟨_, rfl, ?_⟩
      rw [e117]
      show wr (d + 5) tb_M123 161 [(0, .ref 170)] [vi b115, .ref 170] (up2 (up2 (up2 (up2 s.1 170 3 n) 170 5 n) 170 3 n106) 170 6 n106, s.2) _
      by_cases h119 : b115 = 0
      · refine wr_if1t rfl rfl (by unfold i32; omega) h119 ?_
        refine wr_n (pc2 := 169) (lv2 := [(0, .ref 170)]) (st2 := [.ref 170, .ref 170]) 1 (fun _ _ => rfl) ?_
        refine wr_get (v := vi n106) rfl rfl rfl (by decide) rfl fun h120 => ?_
        have h120 : -2147483648 ≤ n106 ∧ n106 ≤ 2147483647 := h120
        show wr (d + 5) tb_M123 172 [(0, .ref 170)] [vi n106, .ref 170] (up2 (up2 (up2 (up2 s.1 170 3 n) 170 5 n) 170 3 n106) 170 6 n106, s.2) _
        refine wr_n (pc2 := 173) (lv2 := [(0, .ref 170)]) (st2 := [.ref 170, vi n106, .ref 170]) 1 (fun _ _ => rfl) ?_
        refine wr_get (v := vi n) rfl rfl rfl (by decide) rfl fun h121 => ?_
        have h121 : -2147483648 ≤ n ∧ n ≤ 2147483647 := h121
        show wr (d + 5) tb_M123 176 [(0, .ref 170)] [vi n, vi n106, .ref 170] (up2 (up2 (up2 (up2 s.1 170 3 n) 170 5 n) 170 3 n106) 170 6 n106, s.2) _
        refine wr_sub (a := n106) (b := n) rfl ?_
        show wr (d + 5) tb_M123 177 [(0, .ref 170)] [vi (n106 - n), .ref 170] (up2 (up2 (up2 (up2 s.1 170 3 n) 170 5 n) 170 3 n106) 170 6 n106, s.2) _
        refine wr_n (pc2 := 179) (lv2 := [(0, .ref 170)]) (st2 := [vi 8, vi (n106 - n), .ref 170]) 1 (fun _ _ => rfl) ?_
        by_cases h122 : 8 < n106 - n
        · refine wr_if2t rfl rfl (by unfold i32; omega) (by unfold i32; omega) h122 ?_
          refine wr_n (pc2 := 187) (lv2 := [(0, .ref 170)]) (st2 := [vi 5, .ref 170]) 1 (fun _ _ => rfl) ?_
          refine wr_put (z := 5) rfl rfl rfl rfl (by decide) rfl (by decide) rfl (show -2147483648 ≤ 5 ∧ 5 ≤ 2147483647 by omega) (hf_int' _) ?_
          show wr (d + 5) tb_M123 190 [(0, .ref 170)] [] (up2 (up2 (up2 (up2 (up2 s.1 170 3 n) 170 5 n) 170 3 n106) 170 6 n106) 170 4 5, s.2) _
          have hR123 : RF (up2 (up2 (up2 (up2 (up2 s.1 170 3 n) 170 5 n) 170 3 n106) 170 6 n106) 170 4 5) := (RF_up (RF_up (RF_up (RF_up (RF_up hR rfl) rfl) rfl) rfl) rfl)
          refine wr_n (pc2 := 585) (lv2 := [(0, .ref 170)]) (st2 := [.ref 170, .ref 170]) 3 (fun _ _ => rfl) ?_
          refine wr_get (v := vi n106) rfl rfl rfl (by decide) rfl fun h124 => ?_
          have h124 : -2147483648 ≤ n106 ∧ n106 ≤ 2147483647 := h124
          show wr (d + 5) tb_M123 588 [(0, .ref 170)] [vi n106, .ref 170] (up2 (up2 (up2 (up2 (up2 s.1 170 3 n) 170 5 n) 170 3 n106) 170 6 n106) 170 4 5, s.2) _
          refine wr_put (z := n106) rfl rfl rfl rfl (by decide) rfl (by decide) rfl (show -2147483648 ≤ n106 ∧ n106 ≤ 2147483647 by omega) (hf_int' _) ?_
          show wr (d + 5) tb_M123 591 [(0, .ref 170)] [] (up2 (up2 (up2 (up2 (up2 (up2 s.1 170 3 n) 170 5 n) 170 3 n106) 170 6 n106) 170 4 5) 170 6 n106, s.2) _
          rw [up_past (by decide)]
          have hR125 : RF (up2 (up2 (up2 (up2 (up2 s.1 170 3 n) 170 5 n) 170 3 n106) 170 4 5) 170 6 n106) := (RF_up (RF_up (RF_up (RF_up (RF_up hR rfl) rfl) rfl) rfl) rfl)
          refine wr_end (fun _ _ => rfl) ?_
          refine ⟨rfl, rfl, same_up (j := 6) (same_up (j := 4) (same_up (j := 3) (same_up (j := 5) (same_up (j := 3) (same_rf) (by decide)) (by decide)) (by decide)) (by decide)) (by decide), ?_, ?_⟩
          · show s.1 170 3 ≤ n
            omega
          · show 0 ≤ n ∧ n ≤ n106 ∧ n106 = n106 ∧ n106 ≤ (s.1 170 2) ∧ (s.1 170 2) ≤ 2000 ∧ (5 = 0 ∧ n = (s.1 170 2) ∨ 1 ≤ 5 ∧ 5 ≤ 5 ∧ n < n106) ∧ (5 = 3 → 0 ≤ (s.1 170 7) ∧ (s.1 170 7) ≤ 65535)
            omega
        · refine wr_if2f rfl rfl (by unfold i32; omega) (by unfold i32; omega) h122 ?_
          refine wr_n (pc2 := 187) (lv2 := [(0, .ref 170)]) (st2 := [vi 1, .ref 170]) 2 (fun _ _ => rfl) ?_
          refine wr_put (z := 1) rfl rfl rfl rfl (by decide) rfl (by decide) rfl (show -2147483648 ≤ 1 ∧ 1 ≤ 2147483647 by omega) (hf_int' _) ?_
          show wr (d + 5) tb_M123 190 [(0, .ref 170)] [] (up2 (up2 (up2 (up2 (up2 s.1 170 3 n) 170 5 n) 170 3 n106) 170 6 n106) 170 4 1, s.2) _
          have hR126 : RF (up2 (up2 (up2 (up2 (up2 s.1 170 3 n) 170 5 n) 170 3 n106) 170 6 n106) 170 4 1) := (RF_up (RF_up (RF_up (RF_up (RF_up hR rfl) rfl) rfl) rfl) rfl)
          refine wr_n (pc2 := 585) (lv2 := [(0, .ref 170)]) (st2 := [.ref 170, .ref 170]) 3 (fun _ _ => rfl) ?_
          refine wr_get (v := vi n106) rfl rfl rfl (by decide) rfl fun h127 => ?_
          have h127 : -2147483648 ≤ n106 ∧ n106 ≤ 2147483647 := h127
          show wr (d + 5) tb_M123 588 [(0, .ref 170)] [vi n106, .ref 170] (up2 (up2 (up2 (up2 (up2 s.1 170 3 n) 170 5 n) 170 3 n106) 170 6 n106) 170 4 1, s.2) _
          refine wr_put (z := n106) rfl rfl rfl rfl (by decide) rfl (by decide) rfl (show -2147483648 ≤ n106 ∧ n106 ≤ 2147483647 by omega) (hf_int' _) ?_
          show wr (d + 5) tb_M123 591 [(0, .ref 170)] [] (up2 (up2 (up2 (up2 (up2 (up2 s.1 170 3 n) 170 5 n) 170 3 n106) 170 6 n106) 170 4 1) 170 6 n106, s.2) _
          rw [up_past (by decide)]
          have hR128 : RF (up2 (up2 (up2 (up2 (up2 s.1 170 3 n) 170 5 n) 170 3 n106) 170 4 1) 170 6 n106) := (RF_up (RF_up (RF_up (RF_up (RF_up hR rfl) rfl) rfl) rfl) rfl)
          refine wr_end (fun _ _ => rfl) ?_
          refine ⟨rfl, rfl, same_up (j := 6) (same_up (j := 4) (same_up (j := 3) (same_up (j := 5) (same_up (j := 3) (same_rf) (by decide)) (by decide)) (by decide)) (by decide)) (by decide), ?_, ?_⟩
          · show s.1 170 3 ≤ n
            omega
          · show 0 ≤ n ∧ n ≤ n106 ∧ n106 = n106 ∧ n106 ≤ (s.1 170 2) ∧ (s.1 170 2) ≤ 2000 ∧ (1 = 0 ∧ n = (s.1 170 2) ∨ 1 ≤ 1 ∧ 1 ≤ 5 ∧ n < n106) ∧ (1 = 3 → 0 ≤ (s.1 170 7) ∧ (s.1 170 7) ≤ 65535)
            omega
      · refine wr_if1f rfl rfl (by unfold i32; omega) h119 ?_
        refine wr_n (pc2 := 187) (lv2 := [(0, .ref 170)]) (st2 := [vi 2, .ref 170]) 2 (fun _ _ => rfl) ?_
        refine wr_put (z := 2) rfl rfl rfl rfl (by decide) rfl (by decide) rfl (show -2147483648 ≤ 2 ∧ 2 ≤ 2147483647 by omega) (hf_int' _) ?_
        show wr (d + 5) tb_M123 190 [(0, .ref 170)] [] (up2 (up2 (up2 (up2 (up2 s.1 170 3 n) 170 5 n) 170 3 n106) 170 6 n106) 170 4 2, s.2) _
        have hR129 : RF (up2 (up2 (up2 (up2 (up2 s.1 170 3 n) 170 5 n) 170 3 n106) 170 6 n106) 170 4 2) := (RF_up (RF_up (RF_up (RF_up (RF_up hR rfl) rfl) rfl) rfl) rfl)
        refine wr_n (pc2 := 585) (lv2 := [(0, .ref 170)]) (st2 := [.ref 170, .ref 170]) 3 (fun _ _ => rfl) ?_
        refine wr_get (v := vi n106) rfl rfl rfl (by decide) rfl fun h130 => ?_
        have h130 : -2147483648 ≤ n106 ∧ n106 ≤ 2147483647 := h130
        show wr (d + 5) tb_M123 588 [(0, .ref 170)] [vi n106, .ref 170] (up2 (up2 (up2 (up2 (up2 s.1 170 3 n) 170 5 n) 170 3 n106) 170 6 n106) 170 4 2, s.2) _
        refine wr_put (z := n106) rfl rfl rfl rfl (by decide) rfl (by decide) rfl (show -2147483648 ≤ n106 ∧ n106 ≤ 2147483647 by omega) (hf_int' _) ?_
        show wr (d + 5) tb_M123 591 [(0, .ref 170)] [] (up2 (up2 (up2 (up2 (up2 (up2 s.1 170 3 n) 170 5 n) 170 3 n106) 170 6 n106) 170 4 2) 170 6 n106, s.2) _
        rw [up_past (by decide)]
        have hR131 : RF (up2 (up2 (up2 (up2 (up2 s.1 170 3 n) 170 5 n) 170 3 n106) 170 4 2) 170 6 n106) := (RF_up (RF_up (RF_up (RF_up (RF_up hR rfl) rfl) rfl) rfl) rfl)
        refine wr_end (fun _ _ => rfl) ?_
        refine ⟨rfl, rfl, same_up (j := 6) (same_up (j := 4) (same_up (j := 3) (same_up (j := 5) (same_up (j := 3) (same_rf) (by decide)) (by decide)) (by decide)) (by decide)) (by decide), ?_, ?_⟩
        · show s.1 170 3 ≤ n
          omega
        · show 0 ≤ n ∧ n ≤ n106 ∧ n106 = n106 ∧ n106 ≤ (s.1 170 2) ∧ (s.1 170 2) ≤ 2000 ∧ (2 = 0 ∧ n = (s.1 170 2) ∨ 1 ≤ 2 ∧ 2 ≤ 5 ∧ n < n106) ∧ (2 = 3 → 0 ≤ (s.1 170 7) ∧ (s.1 170 7) ≤ 65535)
          omega
  · refine wr_if2f rfl rfl (by unfold i32; omega) (by unfold i32; omega) h5 ?_
    refine wr_n (pc2 := 73) (lv2 := [(0, .ref 170)]) (st2 := [vi 0, .ref 170]) 2 (fun _ _ => rfl) ?_
    refine wr_put (z := 0) rfl rfl rfl rfl (by decide) rfl (by decide) rfl (show -2147483648 ≤ 0 ∧ 0 ≤ 2147483647 by omega) (hf_int' _) ?_
    show wr (d + 5) tb_M123 76 [(0, .ref 170)] [] (up2 (up2 (up2 s.1 170 3 n) 170 5 n) 170 4 0, s.2) _
    have hR132 : RF (up2 (up2 (up2 s.1 170 3 n) 170 5 n) 170 4 0) := (RF_up (RF_up (RF_up hR rfl) rfl) rfl)
    refine wr_n (pc2 := 585) (lv2 := [(0, .ref 170)]) (st2 := [.ref 170, .ref 170]) 3 (fun _ _ => rfl) ?_
    refine wr_get (v := vi n) rfl rfl rfl (by decide) rfl fun h133 => ?_
    have h133 : -2147483648 ≤ n ∧ n ≤ 2147483647 := h133
    show wr (d + 5) tb_M123 588 [(0, .ref 170)] [vi n, .ref 170] (up2 (up2 (up2 s.1 170 3 n) 170 5 n) 170 4 0, s.2) _
    refine wr_put (z := n) rfl rfl rfl rfl (by decide) rfl (by decide) rfl (show -2147483648 ≤ n ∧ n ≤ 2147483647 by omega) (hf_int' _) ?_
    show wr (d + 5) tb_M123 591 [(0, .ref 170)] [] (up2 (up2 (up2 (up2 s.1 170 3 n) 170 5 n) 170 4 0) 170 6 n, s.2) _
    have hR134 : RF (up2 (up2 (up2 (up2 s.1 170 3 n) 170 5 n) 170 4 0) 170 6 n) := (RF_up (RF_up (RF_up (RF_up hR rfl) rfl) rfl) rfl)
    refine wr_end (fun _ _ => rfl) ?_
    refine ⟨rfl, rfl, same_up (j := 6) (same_up (j := 4) (same_up (j := 5) (same_up (j := 3) (same_rf) (by decide)) (by decide)) (by decide)) (by decide), ?_, ?_⟩
    · show s.1 170 3 ≤ n
      omega
    · show 0 ≤ n ∧ n ≤ n ∧ n = n ∧ n ≤ (s.1 170 2) ∧ (s.1 170 2) ≤ 2000 ∧ (0 = 0 ∧ n = (s.1 170 2) ∨ 1 ≤ 0 ∧ 0 ≤ 5 ∧ n < n) ∧ (0 = 3 → 0 ≤ (s.1 170 7) ∧ (s.1 170 7) ≤ 65535)
      omega
