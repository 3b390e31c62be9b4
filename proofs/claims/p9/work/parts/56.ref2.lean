theorem l_blank {d : Nat} {f : Int} {s : rS} {Q : rS → hm_Out → Prop} (h2 : s.1 170 2 ≤ 2000) (hS : RF s.1) (kk : ∀ n : Int, 0 ≤ n → n ≤ s.1 170 2 → f ≤ n → wr (d + 1) tb_M123 52 [(0, .ref 170)] [] (up2 s.1 170 3 n, s.2) Q) : ∀ (m : Nat) (n : Int), (s.1 170 2 - n).toNat = m → 0 ≤ n ∧ n ≤ s.1 170 2 ∧ f ≤ n → wr (d + 1) tb_M123 0 [(0, .ref 170)] [] (up2 s.1 170 3 n, s.2) Q := by
  intro m
  induction m using Nat.strongRecOn with | ind m ih => ?_
  intro n hm hh
  have hR : RF (up2 s.1 170 3 n) := RF_up hS rfl
  refine wr_n (pc2 := 1) (lv2 := [(0, .ref 170)]) (st2 := [.ref 170]) 1 (fun _ _ => rfl) ?_
  refine wr_get (v := vi n) rfl rfl rfl (by decide) rfl fun h1 => ?_
  have h1 : -2147483648 ≤ n ∧ n ≤ 2147483647 := h1
  show wr (d + 1) tb_M123 4 [(0, .ref 170)] [vi n] (up2 s.1 170 3 n, s.2) _
  refine wr_n (pc2 := 5) (lv2 := [(0, .ref 170)]) (st2 := [.ref 170, vi n]) 1 (fun _ _ => rfl) ?_
  refine wr_get (v := vi (s.1 170 2)) rfl rfl rfl (by decide) rfl fun h2 => ?_
  have h2 : -2147483648 ≤ s.1 170 2 ∧ s.1 170 2 ≤ 2147483647 := h2
  show wr (d + 1) tb_M123 8 [(0, .ref 170)] [vi (s.1 170 2), vi n] (up2 s.1 170 3 n, s.2) _
  by_cases h3 : s.1 170 2 ≤ n
  · refine wr_if2t rfl rfl (by unfold i32; omega) (by unfold i32; omega) h3 ?_
    exact kk n (by omega) (by omega) (by omega)
  · refine wr_if2f rfl rfl (by unfold i32; omega) (by unfold i32; omega) h3 ?_
    refine wr_n (pc2 := 12) (lv2 := [(0, .ref 170)]) (st2 := [.ref 170]) 1 (fun _ _ => rfl) ?_
    refine wr_get (v := .ref 171) rfl rfl rfl (by decide) (rv_ref (hR 170 0 171 rfl)) fun h4 => ?_
    show wr (d + 1) tb_M123 15 [(0, .ref 170)] [.ref 171] (up2 s.1 170 3 n, s.2) _
    refine wr_n (pc2 := 16) (lv2 := [(0, .ref 170)]) (st2 := [.ref 170, .ref 171]) 1 (fun _ _ => rfl) ?_
    refine wr_get (v := vi n) rfl rfl rfl (by decide) rfl fun h5 => ?_
    have h5 : -2147483648 ≤ n ∧ n ≤ 2147483647 := h5
    show wr (d + 1) tb_M123 19 [(0, .ref 170)] [vi n, .ref 171] (up2 s.1 170 3 n, s.2) _
    refine wr_ald (a := n) (v := vi (s.1 171 n.toNat)) rfl rfl rfl (by omega) (by omega) (by decide) rfl fun h6 => ?_
    have h6 : -128 ≤ s.1 171 n.toNat ∧ s.1 171 n.toNat ≤ 127 := h6
    show wr (d + 1) tb_M123 20 [(0, .ref 170)] [vi (s.1 171 n.toNat)] (up2 s.1 170 3 n, s.2) _
    refine wr_n (pc2 := 22) (lv2 := [(0, .ref 170)]) (st2 := [vi 32, vi (s.1 171 n.toNat)]) 1 (fun _ _ => rfl) ?_
    by_cases h7 : s.1 171 n.toNat = 32
    · refine wr_if2t rfl rfl (by unfold i32; omega) (by unfold i32; omega) h7 ?_
      refine wr_n (pc2 := 41) (lv2 := [(0, .ref 170)]) (st2 := [.ref 170, .ref 170]) 2 (fun _ _ => rfl) ?_
      refine wr_get (v := vi n) rfl rfl rfl (by decide) rfl fun h8 => ?_
      have h8 : -2147483648 ≤ n ∧ n ≤ 2147483647 := h8
      show wr (d + 1) tb_M123 44 [(0, .ref 170)] [vi n, .ref 170] (up2 s.1 170 3 n, s.2) _
      refine wr_n (pc2 := 45) (lv2 := [(0, .ref 170)]) (st2 := [vi 1, vi n, .ref 170]) 1 (fun _ _ => rfl) ?_
      refine wr_add (a := n) (b := 1) rfl ?_
      show wr (d + 1) tb_M123 46 [(0, .ref 170)] [vi (n + 1), .ref 170] (up2 s.1 170 3 n, s.2) _
      refine wr_put (z := n + 1) rfl rfl rfl rfl (by decide) rfl (by decide) rfl (show -2147483648 ≤ n + 1 ∧ n + 1 ≤ 2147483647 by omega) (hf_int' _) ?_
      show wr (d + 1) tb_M123 49 [(0, .ref 170)] [] (up2 (up2 s.1 170 3 n) 170 3 (n + 1), s.2) _
      rw [up_up]
      have hR9 : RF (up2 s.1 170 3 (n + 1)) := (RF_up hS rfl)
      refine wr_n (pc2 := 0) (lv2 := [(0, .ref 170)]) (st2 := []) 1 (fun _ _ => rfl) ?_
      exact ih _ (by omega) (n + 1) rfl (by omega)
    · refine wr_if2f rfl rfl (by unfold i32; omega) (by unfold i32; omega) h7 ?_
      refine wr_n (pc2 := 26) (lv2 := [(0, .ref 170)]) (st2 := [.ref 170]) 1 (fun _ _ => rfl) ?_
      refine wr_get (v := .ref 171) rfl rfl rfl (by decide) (rv_ref (hR 170 0 171 rfl)) fun h10 => ?_
      show wr (d + 1) tb_M123 29 [(0, .ref 170)] [.ref 171] (up2 s.1 170 3 n, s.2) _
      refine wr_n (pc2 := 30) (lv2 := [(0, .ref 170)]) (st2 := [.ref 170, .ref 171]) 1 (fun _ _ => rfl) ?_
      refine wr_get (v := vi n) rfl rfl rfl (by decide) rfl fun h11 => ?_
      have h11 : -2147483648 ≤ n ∧ n ≤ 2147483647 := h11
      show wr (d + 1) tb_M123 33 [(0, .ref 170)] [vi n, .ref 171] (up2 s.1 170 3 n, s.2) _
      refine wr_ald (a := n) (v := vi (s.1 171 n.toNat)) rfl rfl rfl (by omega) (by omega) (by decide) rfl fun h12 => ?_
      have h12 : -128 ≤ s.1 171 n.toNat ∧ s.1 171 n.toNat ≤ 127 := h12
      show wr (d + 1) tb_M123 34 [(0, .ref 170)] [vi (s.1 171 n.toNat)] (up2 s.1 170 3 n, s.2) _
      refine wr_n (pc2 := 36) (lv2 := [(0, .ref 170)]) (st2 := [vi 10, vi (s.1 171 n.toNat)]) 1 (fun _ _ => rfl) ?_
      by_cases h13 : s.1 171 n.toNat ≠ 10
      · refine wr_if2t rfl rfl (by unfold i32; omega) (by unfold i32; omega) h13 ?_
        exact kk n (by omega) (by omega) (by omega)
      · refine wr_if2f rfl rfl (by unfold i32; omega) (by unfold i32; omega) h13 ?_
        refine wr_n (pc2 := 41) (lv2 := [(0, .ref 170)]) (st2 := [.ref 170, .ref 170]) 2 (fun _ _ => rfl) ?_
        refine wr_get (v := vi n) rfl rfl rfl (by decide) rfl fun h14 => ?_
        have h14 : -2147483648 ≤ n ∧ n ≤ 2147483647 := h14
        show wr (d + 1) tb_M123 44 [(0, .ref 170)] [vi n, .ref 170] (up2 s.1 170 3 n, s.2) _
        refine wr_n (pc2 := 45) (lv2 := [(0, .ref 170)]) (st2 := [vi 1, vi n, .ref 170]) 1 (fun _ _ => rfl) ?_
        refine wr_add (a := n) (b := 1) rfl ?_
        show wr (d + 1) tb_M123 46 [(0, .ref 170)] [vi (n + 1), .ref 170] (up2 s.1 170 3 n, s.2) _
        refine wr_put (z := n + 1) rfl rfl rfl rfl (by decide) rfl (by decide) rfl (show -2147483648 ≤ n + 1 ∧ n + 1 ≤ 2147483647 by omega) (hf_int' _) ?_
        show wr (d + 1) tb_M123 49 [(0, .ref 170)] [] (up2 (up2 s.1 170 3 n) 170 3 (n + 1), s.2) _
        rw [up_up]
        have hR15 : RF (up2 s.1 170 3 (n + 1)) := (RF_up hS rfl)
        refine wr_n (pc2 := 0) (lv2 := [(0, .ref 170)]) (st2 := []) 1 (fun _ _ => rfl) ?_
        exact ih _ (by omega) (n + 1) rfl (by omega)
theorem l_name {d : Nat} {f : Int} {s : rS} {Q : rS → hm_Out → Prop} (h2 : s.1 170 2 ≤ 2000) (hS : RF s.1) (kk : ∀ n : Int, 0 ≤ n → n ≤ s.1 170 2 → f ≤ n → (n = s.1 170 2 ∨ ¬ (97 ≤ s.1 171 n.toNat ∧ s.1 171 n.toNat ≤ 122) ∧ ¬ (48 ≤ s.1 171 n.toNat ∧ s.1 171 n.toNat ≤ 57)) → wr (d + 1) tb_M123 148 [(0, .ref 170)] [] (up2 s.1 170 3 n, s.2) Q) : ∀ (m : Nat) (n : Int), (s.1 170 2 - n).toNat = m → 0 ≤ n ∧ n ≤ s.1 170 2 ∧ f ≤ n → wr (d + 1) tb_M123 94 [(0, .ref 170)] [] (up2 s.1 170 3 n, s.2) Q := by
  intro m
  induction m using Nat.strongRecOn with | ind m ih => ?_
  intro n hm hh
  have hR : RF (up2 s.1 170 3 n) := RF_up hS rfl
  refine wr_n (pc2 := 95) (lv2 := [(0, .ref 170)]) (st2 := [.ref 170]) 1 (fun _ _ => rfl) ?_
  refine wr_get (v := vi n) rfl rfl rfl (by decide) rfl fun h1 => ?_
  have h1 : -2147483648 ≤ n ∧ n ≤ 2147483647 := h1
  show wr (d + 1) tb_M123 98 [(0, .ref 170)] [vi n] (up2 s.1 170 3 n, s.2) _
  refine wr_n (pc2 := 99) (lv2 := [(0, .ref 170)]) (st2 := [.ref 170, vi n]) 1 (fun _ _ => rfl) ?_
  refine wr_get (v := vi (s.1 170 2)) rfl rfl rfl (by decide) rfl fun h2 => ?_
  have h2 : -2147483648 ≤ s.1 170 2 ∧ s.1 170 2 ≤ 2147483647 := h2
  show wr (d + 1) tb_M123 102 [(0, .ref 170)] [vi (s.1 170 2), vi n] (up2 s.1 170 3 n, s.2) _
  by_cases h3 : s.1 170 2 ≤ n
  · refine wr_if2t rfl rfl (by unfold i32; omega) (by unfold i32; omega) h3 ?_
    exact kk n (by omega) (by omega) (by omega) (by omega)
  · refine wr_if2f rfl rfl (by unfold i32; omega) (by unfold i32; omega) h3 ?_
    refine wr_n (pc2 := 106) (lv2 := [(0, .ref 170)]) (st2 := [.ref 170]) 1 (fun _ _ => rfl) ?_
    refine wr_get (v := .ref 171) rfl rfl rfl (by decide) (rv_ref (hR 170 0 171 rfl)) fun h4 => ?_
    show wr (d + 1) tb_M123 109 [(0, .ref 170)] [.ref 171] (up2 s.1 170 3 n, s.2) _
    refine wr_n (pc2 := 110) (lv2 := [(0, .ref 170)]) (st2 := [.ref 170, .ref 171]) 1 (fun _ _ => rfl) ?_
    refine wr_get (v := vi n) rfl rfl rfl (by decide) rfl fun h5 => ?_
    have h5 : -2147483648 ≤ n ∧ n ≤ 2147483647 := h5
    show wr (d + 1) tb_M123 113 [(0, .ref 170)] [vi n, .ref 171] (up2 s.1 170 3 n, s.2) _
    refine wr_ald (a := n) (v := vi (s.1 171 n.toNat)) rfl rfl rfl (by omega) (by omega) (by decide) rfl fun h6 => ?_
    have h6 : -128 ≤ s.1 171 n.toNat ∧ s.1 171 n.toNat ≤ 127 := h6
    show wr (d + 1) tb_M123 114 [(0, .ref 170)] [vi (s.1 171 n.toNat)] (up2 s.1 170 3 n, s.2) _
    refine wr_call0 (args := [vi (s.1 171 n.toNat)]) (rest := []) rfl rfl rfl (Nat.le_of_ble_eq_true rfl) (cr_mono (c_isSmall (d := d) (c := s.1 171 n.toNat) _ (by unfold i32; omega)) ?_)
    rintro s10 out ⟨b7, rfl, h8, e9⟩
    refine ⟨_, rfl, ?_⟩
    rw [e9]
    show wr (d + 1) tb_M123 117 [(0, .ref 170)] [vi b7] (up2 s.1 170 3 n, s.2) _
    by_cases h11 : b7 ≠ 0
    · refine wr_if1t rfl rfl (by unfold i32; omega) h11 ?_
      refine wr_n (pc2 := 137) (lv2 := [(0, .ref 170)]) (st2 := [.ref 170, .ref 170]) 2 (fun _ _ => rfl) ?_
      refine wr_get (v := vi n) rfl rfl rfl (by decide) rfl fun h12 => ?_
      have h12 : -2147483648 ≤ n ∧ n ≤ 2147483647 := h12
      show wr (d + 1) tb_M123 140 [(0, .ref 170)] [vi n, .ref 170] (up2 s.1 170 3 n, s.2) _
      refine wr_n (pc2 := 141) (lv2 := [(0, .ref 170)]) (st2 := [vi 1, vi n, .ref 170]) 1 (fun _ _ => rfl) ?_
      refine wr_add (a := n) (b := 1) rfl ?_
      show wr (d + 1) tb_M123 142 [(0, .ref 170)] [vi (n + 1), .ref 170] (up2 s.1 170 3 n, s.2) _
      refine wr_put (z := n + 1) rfl rfl rfl rfl (by decide) rfl (by decide) rfl (show -2147483648 ≤ n + 1 ∧ n + 1 ≤ 2147483647 by omega) (hf_int' _) ?_
      show wr (d + 1) tb_M123 145 [(0, .ref 170)] [] (up2 (up2 s.1 170 3 n) 170 3 (n + 1), s.2) _
      rw [up_up]
      have hR13 : RF (up2 s.1 170 3 (n + 1)) := (RF_up hS rfl)
      refine wr_n (pc2 := 94) (lv2 := [(0, .ref 170)]) (st2 := []) 1 (fun _ _ => rfl) ?_
      exact ih _ (by omega) (n + 1) rfl (by omega)
    · refine wr_if1f rfl rfl (by unfold i32; omega) h11 ?_
      refine wr_n (pc2 := 121) (lv2 := [(0, .ref 170)]) (st2 := [.ref 170]) 1 (fun _ _ => rfl) ?_
      refine wr_get (v := .ref 171) rfl rfl rfl (by decide) (rv_ref (hR 170 0 171 rfl)) fun h14 => ?_
      show wr (d + 1) tb_M123 124 [(0, .ref 170)] [.ref 171] (up2 s.1 170 3 n, s.2) _
      refine wr_n (pc2 := 125) (lv2 := [(0, .ref 170)]) (st2 := [.ref 170, .ref 171]) 1 (fun _ _ => rfl) ?_
      refine wr_get (v := vi n) rfl rfl rfl (by decide) rfl fun h15 => ?_
      have h15 : -2147483648 ≤ n ∧ n ≤ 2147483647 := h15
      show wr (d + 1) tb_M123 128 [(0, .ref 170)] [vi n, .ref 171] (up2 s.1 170 3 n, s.2) _
      refine wr_ald (a := n) (v := vi (s.1 171 n.toNat)) rfl rfl rfl (by omega) (by omega) (by decide) rfl fun h16 => ?_
      have h16 : -128 ≤ s.1 171 n.toNat ∧ s.1 171 n.toNat ≤ 127 := h16
      show wr (d + 1) tb_M123 129 [(0, .ref 170)] [vi (s.1 171 n.toNat)] (up2 s.1 170 3 n, s.2) _
      refine wr_call0 (args := [vi (s.1 171 n.toNat)]) (rest := []) rfl rfl rfl (Nat.le_of_ble_eq_true rfl) (cr_mono (c_isDigit (d := d) (c := s.1 171 n.toNat) _ (by unfold i32; omega)) ?_)
      rintro s20 out ⟨b17, rfl, h18, e19⟩
      refine ⟨_, rfl, ?_⟩
      rw [e19]
      show wr (d + 1) tb_M123 132 [(0, .ref 170)] [vi b17] (up2 s.1 170 3 n, s.2) _
      by_cases h21 : b17 = 0
      · refine wr_if1t rfl rfl (by unfold i32; omega) h21 ?_
        exact kk n (by omega) (by omega) (by omega) (by omega)
      · refine wr_if1f rfl rfl (by unfold i32; omega) h21 ?_
        refine wr_n (pc2 := 137) (lv2 := [(0, .ref 170)]) (st2 := [.ref 170, .ref 170]) 2 (fun _ _ => rfl) ?_
        refine wr_get (v := vi n) rfl rfl rfl (by decide) rfl fun h22 => ?_
        have h22 : -2147483648 ≤ n ∧ n ≤ 2147483647 := h22
        show wr (d + 1) tb_M123 140 [(0, .ref 170)] [vi n, .ref 170] (up2 s.1 170 3 n, s.2) _
        refine wr_n (pc2 := 141) (lv2 := [(0, .ref 170)]) (st2 := [vi 1, vi n, .ref 170]) 1 (fun _ _ => rfl) ?_
        refine wr_add (a := n) (b := 1) rfl ?_
        show wr (d + 1) tb_M123 142 [(0, .ref 170)] [vi (n + 1), .ref 170] (up2 s.1 170 3 n, s.2) _
        refine wr_put (z := n + 1) rfl rfl rfl rfl (by decide) rfl (by decide) rfl (show -2147483648 ≤ n + 1 ∧ n + 1 ≤ 2147483647 by omega) (hf_int' _) ?_
        show wr (d + 1) tb_M123 145 [(0, .ref 170)] [] (up2 (up2 s.1 170 3 n) 170 3 (n + 1), s.2) _
        rw [up_up]
        have hR23 : RF (up2 s.1 170 3 (n + 1)) := (RF_up hS rfl)
        refine wr_n (pc2 := 94) (lv2 := [(0, .ref 170)]) (st2 := []) 1 (fun _ _ => rfl) ?_
        exact ih _ (by omega) (n + 1) rfl (by omega)
theorem l_num {d : Nat} {f : Int} {s : rS} {Q : rS → hm_Out → Prop} (h2 : s.1 170 2 ≤ 2000) (hS : RF s.1) (kk : ∀ n u : Int, 0 ≤ n → n ≤ s.1 170 2 → f ≤ n → 0 ≤ u ∧ u ≤ 100000 → (n = s.1 170 2 ∨ ¬ (48 ≤ s.1 171 n.toNat ∧ s.1 171 n.toNat ≤ 57)) → wr (d + 1) tb_M123 281 [(0, .ref 170)] [] (up2 (up2 s.1 170 7 u) 170 3 n, s.2) Q) : ∀ (m : Nat) (n u : Int), (s.1 170 2 - n).toNat = m → 0 ≤ n ∧ n ≤ s.1 170 2 ∧ f ≤ n ∧ 0 ≤ u ∧ u ≤ 100000 → wr (d + 1) tb_M123 213 [(0, .ref 170)] [] (up2 (up2 s.1 170 7 u) 170 3 n, s.2) Q := by
  intro m
  induction m using Nat.strongRecOn with | ind m ih => ?_
  intro n u hm hh
  have hR : RF (up2 (up2 s.1 170 7 u) 170 3 n) := RF_up (RF_up hS rfl) rfl
  refine wr_n (pc2 := 214) (lv2 := [(0, .ref 170)]) (st2 := [.ref 170]) 1 (fun _ _ => rfl) ?_
  refine wr_get (v := vi n) rfl rfl rfl (by decide) rfl fun h1 => ?_
  have h1 : -2147483648 ≤ n ∧ n ≤ 2147483647 := h1
  show wr (d + 1) tb_M123 217 [(0, .ref 170)] [vi n] (up2 (up2 s.1 170 7 u) 170 3 n, s.2) _
  refine wr_n (pc2 := 218) (lv2 := [(0, .ref 170)]) (st2 := [.ref 170, vi n]) 1 (fun _ _ => rfl) ?_
  refine wr_get (v := vi (s.1 170 2)) rfl rfl rfl (by decide) rfl fun h2 => ?_
  have h2 : -2147483648 ≤ s.1 170 2 ∧ s.1 170 2 ≤ 2147483647 := h2
  show wr (d + 1) tb_M123 221 [(0, .ref 170)] [vi (s.1 170 2), vi n] (up2 (up2 s.1 170 7 u) 170 3 n, s.2) _
  by_cases h3 : s.1 170 2 ≤ n
  · refine wr_if2t rfl rfl (by unfold i32; omega) (by unfold i32; omega) h3 ?_
    exact kk n u (by omega) (by omega) (by omega) (by omega) (by omega)
  · refine wr_if2f rfl rfl (by unfold i32; omega) (by unfold i32; omega) h3 ?_
    refine wr_n (pc2 := 225) (lv2 := [(0, .ref 170)]) (st2 := [.ref 170]) 1 (fun _ _ => rfl) ?_
    refine wr_get (v := .ref 171) rfl rfl rfl (by decide) (rv_ref (hR 170 0 171 rfl)) fun h4 => ?_
    show wr (d + 1) tb_M123 228 [(0, .ref 170)] [.ref 171] (up2 (up2 s.1 170 7 u) 170 3 n, s.2) _
    refine wr_n (pc2 := 229) (lv2 := [(0, .ref 170)]) (st2 := [.ref 170, .ref 171]) 1 (fun _ _ => rfl) ?_
    refine wr_get (v := vi n) rfl rfl rfl (by decide) rfl fun h5 => ?_
    have h5 : -2147483648 ≤ n ∧ n ≤ 2147483647 := h5
    show wr (d + 1) tb_M123 232 [(0, .ref 170)] [vi n, .ref 171] (up2 (up2 s.1 170 7 u) 170 3 n, s.2) _
    refine wr_ald (a := n) (v := vi (s.1 171 n.toNat)) rfl rfl rfl (by omega) (by omega) (by decide) rfl fun h6 => ?_
    have h6 : -128 ≤ s.1 171 n.toNat ∧ s.1 171 n.toNat ≤ 127 := h6
    show wr (d + 1) tb_M123 233 [(0, .ref 170)] [vi (s.1 171 n.toNat)] (up2 (up2 s.1 170 7 u) 170 3 n, s.2) _
    refine wr_call0 (args := [vi (s.1 171 n.toNat)]) (rest := []) rfl rfl rfl (Nat.le_of_ble_eq_true rfl) (cr_mono (c_isDigit (d := d) (c := s.1 171 n.toNat) _ (by unfold i32; omega)) ?_)
    rintro s10 out ⟨b7, rfl, h8, e9⟩
    refine ⟨_, rfl, ?_⟩
    rw [e9]
    show wr (d + 1) tb_M123 236 [(0, .ref 170)] [vi b7] (up2 (up2 s.1 170 7 u) 170 3 n, s.2) _
    by_cases h11 : b7 = 0
    · refine wr_if1t rfl rfl (by unfold i32; omega) h11 ?_
      exact kk n u (by omega) (by omega) (by omega) (by omega) (by omega)
    · refine wr_if1f rfl rfl (by unfold i32; omega) h11 ?_
      refine wr_n (pc2 := 245) (lv2 := [(0, .ref 170)]) (st2 := [.ref 170, vi 10, vi 100000, .ref 170]) 4 (fun _ _ => rfl) ?_
      refine wr_get (v := vi u) rfl rfl rfl (by decide) rfl fun h12 => ?_
      have h12 : -2147483648 ≤ u ∧ u ≤ 2147483647 := h12
      show wr (d + 1) tb_M123 248 [(0, .ref 170)] [vi u, vi 10, vi 100000, .ref 170] (up2 (up2 s.1 170 7 u) 170 3 n, s.2) _
      refine wr_mul (a := 10) (b := u) rfl ?_
      show wr (d + 1) tb_M123 249 [(0, .ref 170)] [vi (10 * u), vi 100000, .ref 170] (up2 (up2 s.1 170 7 u) 170 3 n, s.2) _
      refine wr_n (pc2 := 250) (lv2 := [(0, .ref 170)]) (st2 := [.ref 170, vi (10 * u), vi 100000, .ref 170]) 1 (fun _ _ => rfl) ?_
      refine wr_get (v := .ref 171) rfl rfl rfl (by decide) (rv_ref (hR 170 0 171 rfl)) fun h13 => ?_
      show wr (d + 1) tb_M123 253 [(0, .ref 170)] [.ref 171, vi (10 * u), vi 100000, .ref 170] (up2 (up2 s.1 170 7 u) 170 3 n, s.2) _
      refine wr_n (pc2 := 254) (lv2 := [(0, .ref 170)]) (st2 := [.ref 170, .ref 171, vi (10 * u), vi 100000, .ref 170]) 1 (fun _ _ => rfl) ?_
      refine wr_get (v := vi n) rfl rfl rfl (by decide) rfl fun h14 => ?_
      have h14 : -2147483648 ≤ n ∧ n ≤ 2147483647 := h14
      show wr (d + 1) tb_M123 257 [(0, .ref 170)] [vi n, .ref 171, vi (10 * u), vi 100000, .ref 170] (up2 (up2 s.1 170 7 u) 170 3 n, s.2) _
      refine wr_ald (a := n) (v := vi (s.1 171 n.toNat)) rfl rfl rfl (by omega) (by omega) (by decide) rfl fun h15 => ?_
      have h15 : -128 ≤ s.1 171 n.toNat ∧ s.1 171 n.toNat ≤ 127 := h15
      show wr (d + 1) tb_M123 258 [(0, .ref 170)] [vi (s.1 171 n.toNat), vi (10 * u), vi 100000, .ref 170] (up2 (up2 s.1 170 7 u) 170 3 n, s.2) _
      refine wr_add (a := 10 * u) (b := s.1 171 n.toNat) rfl ?_
      show wr (d + 1) tb_M123 259 [(0, .ref 170)] [vi (10 * u + (s.1 171 n.toNat)), vi 100000, .ref 170] (up2 (up2 s.1 170 7 u) 170 3 n, s.2) _
      refine wr_n (pc2 := 261) (lv2 := [(0, .ref 170)]) (st2 := [vi 48, vi (10 * u + (s.1 171 n.toNat)), vi 100000, .ref 170]) 1 (fun _ _ => rfl) ?_
      refine wr_sub (a := 10 * u + (s.1 171 n.toNat)) (b := 48) rfl ?_
      show wr (d + 1) tb_M123 262 [(0, .ref 170)] [vi ((10 * u + (s.1 171 n.toNat)) - 48), vi 100000, .ref 170] (up2 (up2 s.1 170 7 u) 170 3 n, s.2) _
      refine wr_min (a := 100000) (b := (10 * u + (s.1 171 n.toNat)) - 48) rfl rfl (by unfold i32; omega) (by unfold i32; omega) (by decide) fun z16 h17 => ?_
      show wr (d + 1) tb_M123 265 [(0, .ref 170)] [vi z16, .ref 170] (up2 (up2 s.1 170 7 u) 170 3 n, s.2) _
      refine wr_put (z := z16) rfl rfl rfl rfl (by decide) rfl (by decide) rfl (show -2147483648 ≤ z16 ∧ z16 ≤ 2147483647 by omega) (hf_int' _) ?_
      show wr (d + 1) tb_M123 268 [(0, .ref 170)] [] (up2 (up2 (up2 s.1 170 7 u) 170 3 n) 170 7 z16, s.2) _
      rw [up_past (by decide)]
      have hR18 : RF (up2 (up2 s.1 170 3 n) 170 7 z16) := (RF_up (RF_up hS rfl) rfl)
      refine wr_n (pc2 := 270) (lv2 := [(0, .ref 170)]) (st2 := [.ref 170, .ref 170]) 2 (fun _ _ => rfl) ?_
      refine wr_get (v := vi n) rfl rfl rfl (by decide) rfl fun h19 => ?_
      have h19 : -2147483648 ≤ n ∧ n ≤ 2147483647 := h19
      show wr (d + 1) tb_M123 273 [(0, .ref 170)] [vi n, .ref 170] (up2 (up2 s.1 170 3 n) 170 7 z16, s.2) _
      refine wr_n (pc2 := 274) (lv2 := [(0, .ref 170)]) (st2 := [vi 1, vi n, .ref 170]) 1 (fun _ _ => rfl) ?_
      refine wr_add (a := n) (b := 1) rfl ?_
      show wr (d + 1) tb_M123 275 [(0, .ref 170)] [vi (n + 1), .ref 170] (up2 (up2 s.1 170 3 n) 170 7 z16, s.2) _
      refine wr_put (z := n + 1) rfl rfl rfl rfl (by decide) rfl (by decide) rfl (show -2147483648 ≤ n + 1 ∧ n + 1 ≤ 2147483647 by omega) (hf_int' _) ?_
      show wr (d + 1) tb_M123 278 [(0, .ref 170)] [] (up2 (up2 (up2 s.1 170 3 n) 170 7 z16) 170 3 (n + 1), s.2) _
      rw [up_past (by decide)]
      have hR20 : RF (up2 (up2 s.1 170 7 z16) 170 3 (n + 1)) := (RF_up (RF_up hS rfl) rfl)
      refine wr_n (pc2 := 213) (lv2 := [(0, .ref 170)]) (st2 := []) 1 (fun _ _ => rfl) ?_
      exact ih _ (by omega) (n + 1) z16 rfl (by omega)
