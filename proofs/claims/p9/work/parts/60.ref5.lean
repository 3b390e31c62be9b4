theorem l_is {d q q1 : Nat} {l : List Value} {s : rS} (hT : isT q q1 l) (hR : RF s.1) (hL : LX s.1) (hk : s.1 170 4 = 2 ∨ s.1 170 4 = 4) (hl : s.1 170 5 + l.length = s.1 170 6) : ∀ (m : Nat) (k : Int), ((l.length : Int) - k).toNat = m → (0 ≤ k ∧ k ≤ l.length) → wr (d + 4) tb_M127 36 [(2, vi k), (0, .ref 170), (1, .ref q)] [] s (fun s2 out => ∃ b : Int, out = some (some (vi b)) ∧ (b = 0 ∨ b = 1 ∧ (s.1 170 4 = 2 ∨ s.1 170 4 = 4) ∧ s.1 170 5 + l.length = s.1 170 6) ∧ s2 = s) := by
  obtain ⟨x0, x1, x2, x3, x4, x5, x6⟩ := id hL
  have hl9 := hT.2.2.2
  intro m
  induction m using Nat.strongRecOn with | ind m ih => ?_
  intro k hm hh
  refine wr_n (pc2 := 38) (lv2 := [(2, vi k), (0, .ref 170), (1, .ref q)]) (st2 := [.ref q, vi k]) 2 (fun _ _ => rfl) ?_
  refine wr_call4 (args := []) (rest := [vi k]) rfl rfl rfl hT.1 (Nat.le_of_ble_eq_true rfl) (cr_mono (c_length (d := d + 2) hT) ?_)
  rintro s2 out ⟨rfl, e1⟩
  refine ⟨_, rfl, ?_⟩
  rw [e1]
  show wr (d + 4) tb_M127 41 [(2, vi k), (0, .ref 170), (1, .ref q)] [vi ((l.length : Int)), vi k] s _
  by_cases h3 : (l.length : Int) ≤ k
  · refine wr_if2t rfl rfl (by unfold i32; omega) (by unfold i32; omega) h3 ?_
    refine wr_n (pc2 := 72) (lv2 := [(2, vi k), (0, .ref 170), (1, .ref q)]) (st2 := [vi 1]) 1 (fun _ _ => rfl) ?_
    refine wr_end (fun _ _ => rfl) ?_
    exact ⟨1, rfl, by omega, rfl⟩
  · refine wr_if2f rfl rfl (by unfold i32; omega) (by unfold i32; omega) h3 ?_
    refine wr_n (pc2 := 45) (lv2 := [(2, vi k), (0, .ref 170), (1, .ref q)]) (st2 := [.ref 170]) 1 (fun _ _ => rfl) ?_
    refine wr_get (v := .ref 171) rfl rfl rfl (by decide) (rv_ref (hR 170 0 171 rfl)) fun h4 => ?_
    show wr (d + 4) tb_M127 48 [(2, vi k), (0, .ref 170), (1, .ref q)] [.ref 171] s _
    refine wr_n (pc2 := 49) (lv2 := [(2, vi k), (0, .ref 170), (1, .ref q)]) (st2 := [.ref 170, .ref 171]) 1 (fun _ _ => rfl) ?_
    refine wr_get (v := vi (s.1 170 5)) rfl rfl rfl (by decide) rfl fun h5 => ?_
    have h5 : -2147483648 ≤ s.1 170 5 ∧ s.1 170 5 ≤ 2147483647 := h5
    show wr (d + 4) tb_M127 52 [(2, vi k), (0, .ref 170), (1, .ref q)] [vi (s.1 170 5), .ref 171] s _
    refine wr_n (pc2 := 53) (lv2 := [(2, vi k), (0, .ref 170), (1, .ref q)]) (st2 := [vi k, vi (s.1 170 5), .ref 171]) 1 (fun _ _ => rfl) ?_
    refine wr_add (a := s.1 170 5) (b := k) rfl ?_
    show wr (d + 4) tb_M127 54 [(2, vi k), (0, .ref 170), (1, .ref q)] [vi (s.1 170 5 + k), .ref 171] s _
    refine wr_ald (a := s.1 170 5 + k) (v := vi (s.1 171 ((s.1 170 5 + k).toNat))) rfl rfl rfl (by omega) (by omega) (by decide) rfl fun h6 => ?_
    have h6 : -128 ≤ s.1 171 ((s.1 170 5 + k).toNat) ∧ s.1 171 ((s.1 170 5 + k).toNat) ≤ 127 := h6
    show wr (d + 4) tb_M127 55 [(2, vi k), (0, .ref 170), (1, .ref q)] [vi (s.1 171 ((s.1 170 5 + k).toNat))] s _
    refine wr_n (pc2 := 57) (lv2 := [(2, vi k), (0, .ref 170), (1, .ref q)]) (st2 := [vi k, .ref q, vi (s.1 171 ((s.1 170 5 + k).toNat))]) 2 (fun _ _ => rfl) ?_
    refine wr_call4 (args := [vi k]) (rest := [vi (s.1 171 ((s.1 170 5 + k).toNat))]) rfl rfl rfl hT.1 (Nat.le_of_ble_eq_true rfl) (cr_mono (c_charAt (d := d) hT (i := k) (by omega) (by omega)) ?_)
    rintro s10 out ⟨z7, rfl, h8, e9⟩
    refine ⟨_, rfl, ?_⟩
    rw [e9]
    show wr (d + 4) tb_M127 60 [(2, vi k), (0, .ref 170), (1, .ref q)] [vi z7, vi (s.1 171 ((s.1 170 5 + k).toNat))] s _
    by_cases h11 : s.1 171 ((s.1 170 5 + k).toNat) = z7
    · refine wr_if2t rfl rfl (by unfold i32; omega) (by unfold i32; omega) h11 ?_
      refine wr_inc (a := k) rfl rfl ?_
      show wr (d + 4) tb_M127 68 [(2, vi (k + 1)), (0, .ref 170), (1, .ref q)] [] s _
      refine wr_n (pc2 := 36) (lv2 := [(2, vi (k + 1)), (0, .ref 170), (1, .ref q)]) (st2 := []) 1 (fun _ _ => rfl) ?_
      exact ih _ (by omega) (k + 1) rfl (by omega)
    · refine wr_if2f rfl rfl (by unfold i32; omega) (by unfold i32; omega) h11 ?_
      refine wr_n (pc2 := 64) (lv2 := [(2, vi k), (0, .ref 170), (1, .ref q)]) (st2 := [vi 0]) 1 (fun _ _ => rfl) ?_
      refine wr_end (fun _ _ => rfl) ?_
      exact ⟨0, rfl, by omega, rfl⟩
theorem c_is {d : Nat} {q q1 : Nat} {l : List Value} (hT : isT q q1 l) (s : rS) (hR : RF s.1) (hL : LX s.1) : cr (d + 5) 127 [.ref 170, .ref q] s (fun s2 out => ∃ b : Int, out = some (some (vi b)) ∧ (b = 0 ∨ b = 1 ∧ (s.1 170 4 = 2 ∨ s.1 170 4 = 4) ∧ s.1 170 5 + l.length = s.1 170 6) ∧ s2 = s) := by
  obtain ⟨x0, x1, x2, x3, x4, x5, x6⟩ := id hL
  have hl9 := hT.2.2.2
  refine cr_of (M := tb_M127) rfl (Nat.le_of_ble_eq_true rfl) ?_
  show wr (d + 4) tb_M127 0 [(0, .ref 170), (1, .ref q)] [] s _
  refine wr_n (pc2 := 1) (lv2 := [(0, .ref 170), (1, .ref q)]) (st2 := [.ref 170]) 1 (fun _ _ => rfl) ?_
  refine wr_get (v := vi (s.1 170 4)) rfl rfl rfl (by decide) rfl fun h1 => ?_
  have h1 : -2147483648 ≤ s.1 170 4 ∧ s.1 170 4 ≤ 2147483647 := h1
  show wr (d + 4) tb_M127 4 [(0, .ref 170), (1, .ref q)] [vi (s.1 170 4)] s _
  refine wr_n (pc2 := 5) (lv2 := [(0, .ref 170), (1, .ref q)]) (st2 := [vi 2, vi (s.1 170 4)]) 1 (fun _ _ => rfl) ?_
  by_cases h2 : s.1 170 4 = 2
  · refine wr_if2t rfl rfl (by unfold i32; omega) (by unfold i32; omega) h2 ?_
    refine wr_n (pc2 := 17) (lv2 := [(0, .ref 170), (1, .ref q)]) (st2 := [.ref 170]) 1 (fun _ _ => rfl) ?_
    refine wr_get (v := vi (s.1 170 6)) rfl rfl rfl (by decide) rfl fun h3 => ?_
    have h3 : -2147483648 ≤ s.1 170 6 ∧ s.1 170 6 ≤ 2147483647 := h3
    show wr (d + 4) tb_M127 20 [(0, .ref 170), (1, .ref q)] [vi (s.1 170 6)] s _
    refine wr_n (pc2 := 21) (lv2 := [(0, .ref 170), (1, .ref q)]) (st2 := [.ref 170, vi (s.1 170 6)]) 1 (fun _ _ => rfl) ?_
    refine wr_get (v := vi (s.1 170 5)) rfl rfl rfl (by decide) rfl fun h4 => ?_
    have h4 : -2147483648 ≤ s.1 170 5 ∧ s.1 170 5 ≤ 2147483647 := h4
    show wr (d + 4) tb_M127 24 [(0, .ref 170), (1, .ref q)] [vi (s.1 170 5), vi (s.1 170 6)] s _
    refine wr_sub (a := s.1 170 6) (b := s.1 170 5) rfl ?_
    show wr (d + 4) tb_M127 25 [(0, .ref 170), (1, .ref q)] [vi ((s.1 170 6) - (s.1 170 5))] s _
    refine wr_n (pc2 := 26) (lv2 := [(0, .ref 170), (1, .ref q)]) (st2 := [.ref q, vi ((s.1 170 6) - (s.1 170 5))]) 1 (fun _ _ => rfl) ?_
    refine wr_call4 (args := []) (rest := [vi ((s.1 170 6) - (s.1 170 5))]) rfl rfl rfl hT.1 (Nat.le_of_ble_eq_true rfl) (cr_mono (c_length (d := d + 2) hT) ?_)
    rintro s6 out ⟨rfl, e5⟩
    refine ⟨_, rfl, ?_⟩
    rw [e5]
    show wr (d + 4) tb_M127 29 [(0, .ref 170), (1, .ref q)] [vi ((l.length : Int)), vi ((s.1 170 6) - (s.1 170 5))] s _
    by_cases h7 : (s.1 170 6) - (s.1 170 5) = (l.length : Int)
    · refine wr_if2t rfl rfl (by unfold i32; omega) (by unfold i32; omega) h7 ?_
      refine wr_n (pc2 := 36) (lv2 := [(2, vi 0), (0, .ref 170), (1, .ref q)]) (st2 := []) 2 (fun _ _ => rfl) ?_
      exact l_is (d := d) hT hR hL (by omega) (by omega) _ 0 rfl (by omega)
    · refine wr_if2f rfl rfl (by unfold i32; omega) (by unfold i32; omega) h7 ?_
      refine wr_n (pc2 := 33) (lv2 := [(0, .ref 170), (1, .ref q)]) (st2 := [vi 0]) 1 (fun _ _ => rfl) ?_
      refine wr_end (fun _ _ => rfl) ?_
      exact ⟨0, rfl, by omega, rfl⟩
  · refine wr_if2f rfl rfl (by unfold i32; omega) (by unfold i32; omega) h2 ?_
    refine wr_n (pc2 := 9) (lv2 := [(0, .ref 170), (1, .ref q)]) (st2 := [.ref 170]) 1 (fun _ _ => rfl) ?_
    refine wr_get (v := vi (s.1 170 4)) rfl rfl rfl (by decide) rfl fun h8 => ?_
    have h8 : -2147483648 ≤ s.1 170 4 ∧ s.1 170 4 ≤ 2147483647 := h8
    show wr (d + 4) tb_M127 12 [(0, .ref 170), (1, .ref q)] [vi (s.1 170 4)] s _
    refine wr_n (pc2 := 13) (lv2 := [(0, .ref 170), (1, .ref q)]) (st2 := [vi 4, vi (s.1 170 4)]) 1 (fun _ _ => rfl) ?_
    by_cases h9 : s.1 170 4 ≠ 4
    · refine wr_if2t rfl rfl (by unfold i32; omega) (by unfold i32; omega) h9 ?_
      refine wr_n (pc2 := 33) (lv2 := [(0, .ref 170), (1, .ref q)]) (st2 := [vi 0]) 1 (fun _ _ => rfl) ?_
      refine wr_end (fun _ _ => rfl) ?_
      exact ⟨0, rfl, by omega, rfl⟩
    · refine wr_if2f rfl rfl (by unfold i32; omega) (by unfold i32; omega) h9 ?_
      refine wr_n (pc2 := 17) (lv2 := [(0, .ref 170), (1, .ref q)]) (st2 := [.ref 170]) 1 (fun _ _ => rfl) ?_
      refine wr_get (v := vi (s.1 170 6)) rfl rfl rfl (by decide) rfl fun h10 => ?_
      have h10 : -2147483648 ≤ s.1 170 6 ∧ s.1 170 6 ≤ 2147483647 := h10
      show wr (d + 4) tb_M127 20 [(0, .ref 170), (1, .ref q)] [vi (s.1 170 6)] s _
      refine wr_n (pc2 := 21) (lv2 := [(0, .ref 170), (1, .ref q)]) (st2 := [.ref 170, vi (s.1 170 6)]) 1 (fun _ _ => rfl) ?_
      refine wr_get (v := vi (s.1 170 5)) rfl rfl rfl (by decide) rfl fun h11 => ?_
      have h11 : -2147483648 ≤ s.1 170 5 ∧ s.1 170 5 ≤ 2147483647 := h11
      show wr (d + 4) tb_M127 24 [(0, .ref 170), (1, .ref q)] [vi (s.1 170 5), vi (s.1 170 6)] s _
      refine wr_sub (a := s.1 170 6) (b := s.1 170 5) rfl ?_
      show wr (d + 4) tb_M127 25 [(0, .ref 170), (1, .ref q)] [vi ((s.1 170 6) - (s.1 170 5))] s _
      refine wr_n (pc2 := 26) (lv2 := [(0, .ref 170), (1, .ref q)]) (st2 := [.ref q, vi ((s.1 170 6) - (s.1 170 5))]) 1 (fun _ _ => rfl) ?_
      refine wr_call4 (args := []) (rest := [vi ((s.1 170 6) - (s.1 170 5))]) rfl rfl rfl hT.1 (Nat.le_of_ble_eq_true rfl) (cr_mono (c_length (d := d + 2) hT) ?_)
      rintro s13 out ⟨rfl, e12⟩
      refine ⟨_, rfl, ?_⟩
      rw [e12]
      show wr (d + 4) tb_M127 29 [(0, .ref 170), (1, .ref q)] [vi ((l.length : Int)), vi ((s.1 170 6) - (s.1 170 5))] s _
      by_cases h14 : (s.1 170 6) - (s.1 170 5) = (l.length : Int)
      · refine wr_if2t rfl rfl (by unfold i32; omega) (by unfold i32; omega) h14 ?_
        refine wr_n (pc2 := 36) (lv2 := [(2, vi 0), (0, .ref 170), (1, .ref q)]) (st2 := []) 2 (fun _ _ => rfl) ?_
        exact l_is (d := d) hT hR hL (by omega) (by omega) _ 0 rfl (by omega)
      · refine wr_if2f rfl rfl (by unfold i32; omega) (by unfold i32; omega) h14 ?_
        refine wr_n (pc2 := 33) (lv2 := [(0, .ref 170), (1, .ref q)]) (st2 := [vi 0]) 1 (fun _ _ => rfl) ?_
        refine wr_end (fun _ _ => rfl) ?_
        exact ⟨0, rfl, by omega, rfl⟩
theorem c_bad1 {d : Nat} {a : Int} (s : rS) (hR : RF s.1) (ha : i32 a) : cr (d + 1) 132 [.ref 170, vi a] s (fun s2 out => out = some (some (vi 0)) ∧ s2.2 = s.2 ∧ same 170 [8] s.1 s2.1) := by
  unfold i32 at ha
  refine cr_of (M := tb_M132) rfl (Nat.le_of_ble_eq_true rfl) ?_
  show wr (d) tb_M132 0 [(0, .ref 170), (1, vi a)] [] s _
  refine wr_n (pc2 := 1) (lv2 := [(0, .ref 170), (1, vi a)]) (st2 := [.ref 170]) 1 (fun _ _ => rfl) ?_
  refine wr_get (v := vi (s.1 170 8)) rfl rfl rfl (by decide) rfl fun h1 => ?_
  have h1 : -2147483648 ≤ s.1 170 8 ∧ s.1 170 8 ≤ 2147483647 := h1
  show wr d tb_M132 4 [(0, .ref 170), (1, vi a)] [vi (s.1 170 8)] s _
  by_cases h2 : 0 ≤ s.1 170 8
  · refine wr_if1t rfl rfl (by unfold i32; omega) h2 ?_
    refine wr_n (pc2 := 13) (lv2 := [(0, .ref 170), (1, vi a)]) (st2 := [vi 0]) 1 (fun _ _ => rfl) ?_
    refine wr_end (fun _ _ => rfl) ?_
    exact ⟨rfl, rfl, same_rf⟩
  · refine wr_if1f rfl rfl (by unfold i32; omega) h2 ?_
    refine wr_n (pc2 := 9) (lv2 := [(0, .ref 170), (1, vi a)]) (st2 := [vi a, .ref 170]) 2 (fun _ _ => rfl) ?_
    refine wr_put (z := a) rfl rfl rfl rfl (by decide) rfl (by decide) rfl (show -2147483648 ≤ a ∧ a ≤ 2147483647 by omega) (hf_int' _) ?_
    show wr d tb_M132 12 [(0, .ref 170), (1, vi a)] [] (up2 s.1 170 8 a, s.2) _
    have hR3 : RF (up2 s.1 170 8 a) := (RF_up hR rfl)
    refine wr_n (pc2 := 13) (lv2 := [(0, .ref 170), (1, vi a)]) (st2 := [vi 0]) 1 (fun _ _ => rfl) ?_
    refine wr_end (fun _ _ => rfl) ?_
    exact ⟨rfl, rfl, same_up (j := 8) (same_rf) (by decide)⟩
theorem c_bad0 {d : Nat}  (s : rS) (hR : RF s.1) : cr (d + 2) 131 [.ref 170] s (fun s2 out => out = some (some (vi 0)) ∧ s2.2 = s.2 ∧ same 170 [8] s.1 s2.1) := by
  refine cr_of (M := tb_M131) rfl (Nat.le_of_ble_eq_true rfl) ?_
  show wr (d + 1) tb_M131 0 [(0, .ref 170)] [] s _
  refine wr_n (pc2 := 2) (lv2 := [(0, .ref 170)]) (st2 := [.ref 170, .ref 170]) 2 (fun _ _ => rfl) ?_
  refine wr_get (v := vi (s.1 170 5)) rfl rfl rfl (by decide) rfl fun h1 => ?_
  have h1 : -2147483648 ≤ s.1 170 5 ∧ s.1 170 5 ≤ 2147483647 := h1
  show wr (d + 1) tb_M131 5 [(0, .ref 170)] [vi (s.1 170 5), .ref 170] s _
  refine wr_call1 (args := [vi (s.1 170 5)]) (rest := []) rfl rfl rfl rfl (Nat.le_of_ble_eq_true rfl) (cr_mono (c_bad1 (d := d) _ hR (a := s.1 170 5) (by unfold i32; omega)) ?_)
  rintro s5 out ⟨rfl, h2, h3⟩
  refine ⟨_, rfl, ?_⟩
  show wr (d + 1) tb_M131 8 [(0, .ref 170)] [vi 0] s5 _
  have hR6 : RF s5.1 := same_RF h3 (by decide) hR
  refine wr_end (fun _ _ => rfl) ?_
  exact ⟨rfl, h2, h3⟩
theorem c_take {d : Nat} {q q1 : Nat} {l : List Value} (hT : isT q q1 l) (s : rS) (hR : RF s.1) (hL : LX s.1) : cr (d + 7) 136 [.ref 170, .ref q] s (fun s2 out => ∃ b : Int, out = some (some (vi b)) ∧ s2.2 = s.2 ∧ (b = 0 ∧ same 170 [8] s.1 s2.1 ∨ b = 1 ∧ same 170 [3, 4, 5, 6, 7] s.1 s2.1 ∧ LX s2.1 ∧ s.1 170 6 ≤ s2.1 170 5 ∧ s.1 170 5 + l.length = s.1 170 6)) := by
  obtain ⟨x0, x1, x2, x3, x4, x5, x6⟩ := id hL
  refine cr_of (M := tb_M136) rfl (Nat.le_of_ble_eq_true rfl) ?_
  show wr (d + 6) tb_M136 0 [(0, .ref 170), (1, .ref q)] [] s _
  refine wr_n (pc2 := 2) (lv2 := [(0, .ref 170), (1, .ref q)]) (st2 := [.ref q, .ref 170]) 2 (fun _ _ => rfl) ?_
  refine wr_call1 (args := [.ref q]) (rest := []) rfl rfl rfl rfl (Nat.le_of_ble_eq_true rfl) (cr_mono (c_is (d := d + 1) hT _ hR hL) ?_)
  rintro s4 out ⟨b1, rfl, h2, e3⟩
  refine ⟨_, rfl, ?_⟩
  rw [e3]
  show wr (d + 6) tb_M136 5 [(0, .ref 170), (1, .ref q)] [vi b1] s _
  by_cases h5 : b1 ≠ 0
  · refine wr_if1t rfl rfl (by unfold i32; omega) h5 ?_
    refine wr_n (pc2 := 14) (lv2 := [(0, .ref 170), (1, .ref q)]) (st2 := [.ref 170]) 1 (fun _ _ => rfl) ?_
    refine wr_call1 (args := []) (rest := []) rfl rfl rfl rfl (Nat.le_of_ble_eq_true rfl) (cr_mono (c_step (d := d) _ hR (by omega)) ?_)
    rintro s11 out ⟨rfl, h6, h7, h8, h9⟩
    refine ⟨_, rfl, ?_⟩
    show wr (d + 6) tb_M136 17 [(0, .ref 170), (1, .ref q)] [] s11 _
    have hR12 : RF s11.1 := same_RF h7 (by decide) hR
    refine wr_n (pc2 := 18) (lv2 := [(0, .ref 170), (1, .ref q)]) (st2 := [vi 1]) 1 (fun _ _ => rfl) ?_
    refine wr_end (fun _ _ => rfl) ?_
    exact ⟨1, rfl, h6, Or.inr ⟨rfl, h7, h9, by omega, by omega⟩⟩
  · refine wr_if1f rfl rfl (by unfold i32; omega) h5 ?_
    refine wr_n (pc2 := 9) (lv2 := [(0, .ref 170), (1, .ref q)]) (st2 := [.ref 170]) 1 (fun _ _ => rfl) ?_
    refine wr_call1 (args := []) (rest := []) rfl rfl rfl rfl (Nat.le_of_ble_eq_true rfl) (cr_mono (c_bad0 (d := d + 4) _ hR) ?_)
    rintro s16 out ⟨rfl, h13, h14⟩
    refine ⟨_, rfl, ?_⟩
    show wr (d + 6) tb_M136 12 [(0, .ref 170), (1, .ref q)] [vi 0] s16 _
    have hR17 : RF s16.1 := same_RF h14 (by decide) hR
    refine wr_end (fun _ _ => rfl) ?_
    exact ⟨0, rfl, h13, Or.inl ⟨rfl, h14⟩⟩
