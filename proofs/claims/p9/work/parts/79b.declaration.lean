set_option maxRecDepth 100000 in
theorem c_in {d : Nat} {a b c : Int} (s : rS) (ha : i64 a) (hb : i64 b) (hc : i64 c) : cr (d + 1) 120 [vl a, vl b, vl c] s (fun s2 out => ∃ e : Int, out = some (some (vi e)) ∧ (e = 1 ∧ b ≤ a ∧ a ≤ c ∨ e = 0 ∧ ¬ (b ≤ a ∧ a ≤ c)) ∧ s2 = s) := by
  refine cr_of (M := tb_M120) rfl (Nat.le_of_ble_eq_true rfl) ?_
  show wr d tb_M120 0 [(0, vl a), (2, vl b), (4, vl c)] [] s _
  refine wr_n (pc2 := 2) (lv2 := [(0, vl a), (2, vl b), (4, vl c)]) (st2 := [vl b, vl a]) 2 (fun _ _ => rfl) ?_
  refine wr_lcmp (a := a) (b := b) rfl ha hb fun z1 h2 => ?_
  show wr d tb_M120 3 [(0, vl a), (2, vl b), (4, vl c)] [vi z1] s _
  by_cases h3 : z1 < 0
  · refine wr_if1t rfl rfl (by unfold i32; omega) h3 ?_
    refine wr_n (pc2 := 18) (lv2 := [(0, vl a), (2, vl b), (4, vl c)]) (st2 := [vi 0]) 1 (fun _ _ => rfl) ?_
    refine wr_end (fun _ _ => rfl) ?_
    exact ⟨0, rfl, by omega, rfl⟩
  · refine wr_if1f rfl rfl (by unfold i32; omega) h3 ?_
    refine wr_n (pc2 := 9) (lv2 := [(0, vl a), (2, vl b), (4, vl c)]) (st2 := [vl c, vl a]) 2 (fun _ _ => rfl) ?_
    refine wr_lcmp (a := a) (b := c) rfl ha hc fun z4 h5 => ?_
    show wr d tb_M120 10 [(0, vl a), (2, vl b), (4, vl c)] [vi z4] s _
    by_cases h6 : 0 < z4
    · refine wr_if1t rfl rfl (by unfold i32; omega) h6 ?_
      refine wr_n (pc2 := 18) (lv2 := [(0, vl a), (2, vl b), (4, vl c)]) (st2 := [vi 0]) 1 (fun _ _ => rfl) ?_
      refine wr_end (fun _ _ => rfl) ?_
      exact ⟨0, rfl, by omega, rfl⟩
    · refine wr_if1f rfl rfl (by unfold i32; omega) h6 ?_
      refine wr_n (pc2 := 18) (lv2 := [(0, vl a), (2, vl b), (4, vl c)]) (st2 := [vi 1]) 2 (fun _ _ => rfl) ?_
      refine wr_end (fun _ _ => rfl) ?_
      exact ⟨1, rfl, by omega, rfl⟩
set_option maxRecDepth 100000 in
theorem c_bitCount {d : Nat} {a : Int} (s : rS) : cr (d + 1) 76 [vi a] s (fun s2 out => ∃ z : Int, out = some (some (vi z)) ∧ i32 z ∧ s2 = s) := by
  refine cr_of (M := tb_M76) rfl (Nat.le_of_ble_eq_true rfl) ?_
  show wr d tb_M76 0 [(0, vi a)] [] s _
  refine wr_n (pc2 := 3) (lv2 := [(0, vi a)]) (st2 := [vi 1, vi a, vi a]) 3 (fun _ _ => rfl) ?_
  refine wr_any2 rfl rfl fun z1 h2 => ?_
  show wr d tb_M76 4 [(0, vi a)] [vi z1, vi a] s _
  refine wr_n (pc2 := 7) (lv2 := [(0, vi a)]) (st2 := [vi 1431655765, vi z1, vi a]) 1 (fun _ _ => rfl) ?_
  refine wr_any2 rfl rfl fun z3 h4 => ?_
  show wr d tb_M76 8 [(0, vi a)] [vi z3, vi a] s _
  refine wr_sub (a := a) (b := z3) rfl ?_
  show wr d tb_M76 9 [(0, vi a)] [vi (a - z3)] s _
  refine wr_n (pc2 := 14) (lv2 := [(0, vi (a - z3))]) (st2 := [vi 858993459, vi (a - z3)]) 3 (fun _ _ => rfl) ?_
  refine wr_any2 rfl rfl fun z5 h6 => ?_
  show wr d tb_M76 15 [(0, vi (a - z3))] [vi z5] s _
  refine wr_n (pc2 := 17) (lv2 := [(0, vi (a - z3))]) (st2 := [vi 2, vi (a - z3), vi z5]) 2 (fun _ _ => rfl) ?_
  refine wr_any2 rfl rfl fun z7 h8 => ?_
  show wr d tb_M76 18 [(0, vi (a - z3))] [vi z7, vi z5] s _
  refine wr_n (pc2 := 21) (lv2 := [(0, vi (a - z3))]) (st2 := [vi 858993459, vi z7, vi z5]) 1 (fun _ _ => rfl) ?_
  refine wr_any2 rfl rfl fun z9 h10 => ?_
  show wr d tb_M76 22 [(0, vi (a - z3))] [vi z9, vi z5] s _
  refine wr_add (a := z5) (b := z9) rfl ?_
  show wr d tb_M76 23 [(0, vi (a - z3))] [vi (z5 + z9)] s _
  refine wr_n (pc2 := 27) (lv2 := [(0, vi (z5 + z9))]) (st2 := [vi 4, vi (z5 + z9), vi (z5 + z9)]) 4 (fun _ _ => rfl) ?_
  refine wr_any2 rfl rfl fun z11 h12 => ?_
  show wr d tb_M76 28 [(0, vi (z5 + z9))] [vi z11, vi (z5 + z9)] s _
  refine wr_add (a := z5 + z9) (b := z11) rfl ?_
  show wr d tb_M76 29 [(0, vi (z5 + z9))] [vi (z5 + z9 + z11)] s _
  refine wr_n (pc2 := 32) (lv2 := [(0, vi (z5 + z9))]) (st2 := [vi 252645135, vi (z5 + z9 + z11)]) 1 (fun _ _ => rfl) ?_
  refine wr_any2 rfl rfl fun z13 h14 => ?_
  show wr d tb_M76 33 [(0, vi (z5 + z9))] [vi z13] s _
  refine wr_n (pc2 := 38) (lv2 := [(0, vi z13)]) (st2 := [vi 8, vi z13, vi z13]) 4 (fun _ _ => rfl) ?_
  refine wr_any2 rfl rfl fun z15 h16 => ?_
  show wr d tb_M76 39 [(0, vi z13)] [vi z15, vi z13] s _
  refine wr_add (a := z13) (b := z15) rfl ?_
  show wr d tb_M76 40 [(0, vi z13)] [vi (z13 + z15)] s _
  refine wr_n (pc2 := 45) (lv2 := [(0, vi (z13 + z15))]) (st2 := [vi 16, vi (z13 + z15), vi (z13 + z15)]) 4 (fun _ _ => rfl) ?_
  refine wr_any2 rfl rfl fun z17 h18 => ?_
  show wr d tb_M76 46 [(0, vi (z13 + z15))] [vi z17, vi (z13 + z15)] s _
  refine wr_add (a := z13 + z15) (b := z17) rfl ?_
  show wr d tb_M76 47 [(0, vi (z13 + z15))] [vi (z13 + z15 + z17)] s _
  refine wr_n (pc2 := 51) (lv2 := [(0, vi (z13 + z15 + z17))]) (st2 := [vi 63, vi (z13 + z15 + z17)]) 3 (fun _ _ => rfl) ?_
  refine wr_any2 rfl rfl fun z19 h20 => ?_
  show wr d tb_M76 52 [(0, vi (z13 + z15 + z17))] [vi z19] s _
  refine wr_reti rfl rfl ?_
  exact ⟨_, rfl, h20, rfl⟩
def CRt (d : Nat) : Prop := ∀ (C : Nat) (y : gH) (mr : Nat) (s : rS) (p : Int), (C = 177 ∨ C = 186) → RF s.1 → DI C y mr s.1 → (0 ≤ p ∧ p ≤ 1) → 1 ≤ s.1 170 4 → cr (d + 490) 129 [.ref 170, vi p] s (DP C s)
set_option maxHeartbeats 20000000 in
set_option maxRecDepth 100000 in
theorem p_declaration {d C mr : Nat} {y : gH} (hRt : CRt (d + 9)) (hC : C = 177 ∨ C = 186) (s : rS) (hR : RF s.1) (hI : DI C y mr s.1) (htk : 1 ≤ s.1 170 4) : cr (d + 500) 128 [.ref 170] s (DP C s) := by
  have hP := hI.1
  obtain ⟨m, hm⟩ : ∃ m : Nat, s.1 C 1 = (m : Int) := ⟨(s.1 C 1).toNat, by have h8 := hI.2.2.1; omega⟩
  have hN := hI.2.2.1
  have hx0 := LX_nums hP
  have hlt := LX_lt hP htk
  refine cr_of (M := tb_M128) rfl (Nat.le_of_ble_eq_true rfl) ?_
  show wr (d + 499) tb_M128 0 [(0, .ref 170)] [] s _
  refine wr_n (pc2 := 3) (lv2 := [(0, .ref 170)]) (st2 := [.ref 6, .ref 170]) 2 (fun _ _ => rfl) ?_
  refine wr_call1 (args := [.ref 6]) (rest := []) rfl rfl rfl rfl (Nat.le_of_ble_eq_true rfl) (cr_mono (c_is (d := d + 494) isT_6 _ hR (LX_of hP)) ?_)
  rintro s4 out ⟨b1, rfl, h2, e3⟩
  refine ⟨_, rfl, ?_⟩
  rw [e3]
  show wr (d + 499) tb_M128 6 [(0, .ref 170)] [vi b1] s _
  replace h2 : 0 ≤ b1 ∧ b1 ≤ 1 := by omega
  refine wr_n (pc2 := 10) (lv2 := [(1, vi b1), (0, .ref 170)]) (st2 := [.ref 10, .ref 170]) 3 (fun _ _ => rfl) ?_
  refine wr_call1 (args := [.ref 10]) (rest := []) rfl rfl rfl rfl (Nat.le_of_ble_eq_true rfl) (cr_mono (c_is (d := d + 494) isT_10 _ hR (LX_of hP)) ?_)
  rintro s8 out ⟨b5, rfl, h6, e7⟩
  refine ⟨_, rfl, ?_⟩
  rw [e7]
  show wr (d + 499) tb_M128 13 [(1, vi b1), (0, .ref 170)] [vi b5] s _
  replace h6 : 0 ≤ b5 ∧ b5 ≤ 1 := by omega
  refine wr_n (pc2 := 17) (lv2 := [(2, vi b5), (1, vi b1), (0, .ref 170)]) (st2 := [.ref 18, .ref 170]) 3 (fun _ _ => rfl) ?_
  refine wr_call1 (args := [.ref 18]) (rest := []) rfl rfl rfl rfl (Nat.le_of_ble_eq_true rfl) (cr_mono (c_is (d := d + 494) isT_18 _ hR (LX_of hP)) ?_)
  rintro s12 out ⟨b9, rfl, h10, e11⟩
  refine ⟨_, rfl, ?_⟩
  rw [e11]
  show wr (d + 499) tb_M128 20 [(2, vi b5), (1, vi b1), (0, .ref 170)] [vi b9] s _
  replace h10 : 0 ≤ b9 ∧ b9 ≤ 1 := by omega
  refine wr_n (pc2 := 22) (lv2 := [(3, vi b9), (2, vi b5), (1, vi b1), (0, .ref 170)]) (st2 := [vi b9]) 2 (fun _ _ => rfl) ?_
  by_cases h13 : b9 ≠ 0
  · refine wr_if1t rfl rfl (by unfold i32; omega) h13 ?_
    refine wr_n (pc2 := 36) (lv2 := [(3, vi b9), (2, vi b5), (1, vi b1), (0, .ref 170)]) (st2 := [vi b9, .ref 170]) 2 (fun _ _ => rfl) ?_
    refine wr_call1 (args := [vi b9]) (rest := []) rfl rfl rfl rfl (Nat.le_of_ble_eq_true rfl) (cr_mono (hRt C y mr _ b9 hC hR hI (by omega) (by omega)) ?_)
    rintro s15 out ⟨b, rfl, hc14, ⟨rfl, hF14⟩ | ⟨rfl, hX14⟩⟩
    · refine ⟨_, rfl, ?_⟩
      show wr (d + 499) tb_M128 39 [(3, vi b9), (2, vi b5), (1, vi b1), (0, .ref 170)] [vi 0] s15 _
      refine wr_end (fun _ _ => rfl) ?_
      exact ⟨0, rfl, hc14.trans rfl, Or.inl ⟨rfl, FR_tr (BX_FR (PI_rf hP)) hF14⟩⟩
    · refine ⟨_, rfl, ?_⟩
      show wr (d + 499) tb_M128 39 [(3, vi b9), (2, vi b5), (1, vi b1), (0, .ref 170)] [vi 1] s15 _
      refine wr_end (fun _ _ => rfl) ?_
      exact ⟨1, rfl, hc14, Or.inr ⟨rfl, hX14⟩⟩
  · refine wr_if1f rfl rfl (by unfold i32; omega) h13 ?_
    refine wr_n (pc2 := 28) (lv2 := [(3, vi b9), (2, vi b5), (1, vi b1), (0, .ref 170)]) (st2 := [.ref 20, .ref 170]) 2 (fun _ _ => rfl) ?_
    refine wr_call1 (args := [.ref 20]) (rest := []) rfl rfl rfl rfl (Nat.le_of_ble_eq_true rfl) (cr_mono (c_is (d := d + 494) isT_20 _ hR (LX_of hP)) ?_)
    rintro s19 out ⟨b, rfl, rfl | ⟨rfl, hj18, hl18⟩, he18⟩
    · refine ⟨_, rfl, ?_⟩
      rw [he18]
      show wr (d + 499) tb_M128 31 [(3, vi b9), (2, vi b5), (1, vi b1), (0, .ref 170)] [vi 0] s _
      refine wr_n (pc2 := 43) (lv2 := [(3, vi b9), (2, vi b5), (1, vi b1), (0, .ref 170)]) (st2 := [.ref 8, .ref 170]) 3 (fun _ _ => rfl) ?_
      refine wr_call1 (args := [.ref 8]) (rest := []) rfl rfl rfl rfl (Nat.le_of_ble_eq_true rfl) (cr_mono (c_is (d := d + 494) isT_8 _ hR (LX_of hP)) ?_)
      rintro s21 out ⟨b, rfl, rfl | ⟨rfl, hj20, hl20⟩, he20⟩
      · refine ⟨_, rfl, ?_⟩
        rw [he20]
        show wr (d + 499) tb_M128 46 [(3, vi b9), (2, vi b5), (1, vi b1), (0, .ref 170)] [vi 0] s _
        refine wr_n (pc2 := 77) (lv2 := [(3, vi b9), (2, vi b5), (1, vi b1), (0, .ref 170)]) (st2 := [vi b1]) 2 (fun _ _ => rfl) ?_
        by_cases h22 : b1 = 0
        · refine wr_if1t rfl rfl (by unfold i32; omega) h22 ?_
          refine wr_n (pc2 := 165) (lv2 := [(3, vi b9), (2, vi b5), (1, vi b1), (0, .ref 170)]) (st2 := [vi b5]) 1 (fun _ _ => rfl) ?_
          by_cases h23 : b5 = 0
          · refine wr_if1t rfl rfl (by unfold i32; omega) h23 ?_
            refine wr_n (pc2 := 318) (lv2 := [(3, vi b9), (2, vi b5), (1, vi b1), (0, .ref 170)]) (st2 := [.ref 12, .ref 170]) 2 (fun _ _ => rfl) ?_
            refine wr_call1 (args := [.ref 12]) (rest := []) rfl rfl rfl rfl (Nat.le_of_ble_eq_true rfl) (cr_mono (c_is (d := d + 494) isT_12 _ hR (LX_of hP)) ?_)
            rintro s27 out ⟨b24, rfl, h25, e26⟩
            refine ⟨_, rfl, ?_⟩
            rw [e26]
            show wr (d + 499) tb_M128 321 [(3, vi b9), (2, vi b5), (1, vi b1), (0, .ref 170)] [vi b24] s _
            replace h25 : 0 ≤ b24 ∧ b24 ≤ 1 := by omega
            refine wr_n (pc2 := 326) (lv2 := [(4, vi b24), (3, vi b9), (2, vi b5), (1, vi b1), (0, .ref 170)]) (st2 := [.ref 14, .ref 170]) 3 (fun _ _ => rfl) ?_
            refine wr_call1 (args := [.ref 14]) (rest := []) rfl rfl rfl rfl (Nat.le_of_ble_eq_true rfl) (cr_mono (c_is (d := d + 494) isT_14 _ hR (LX_of hP)) ?_)
            rintro s31 out ⟨b28, rfl, h29, e30⟩
            refine ⟨_, rfl, ?_⟩
            rw [e30]
            show wr (d + 499) tb_M128 329 [(4, vi b24), (3, vi b9), (2, vi b5), (1, vi b1), (0, .ref 170)] [vi b28] s _
            replace h29 : 0 ≤ b28 ∧ b28 ≤ 1 := by omega
            refine wr_n (pc2 := 332) (lv2 := [(5, vi b28), (4, vi b24), (3, vi b9), (2, vi b5), (1, vi b1), (0, .ref 170)]) (st2 := [.ref 170]) 2 (fun _ _ => rfl) ?_
            refine wr_call1 (args := []) (rest := []) rfl rfl rfl rfl (Nat.le_of_ble_eq_true rfl) (cr_mono (x_step (d := d + 493) hC _ hR hP) ?_)
            rintro s33 out ⟨rfl, hc32, hR32, hBk32, hK32, hf32⟩
            · refine ⟨_, rfl, ?_⟩
              show wr (d + 499) tb_M128 335 [(5, vi b28), (4, vi b24), (3, vi b9), (2, vi b5), (1, vi b1), (0, .ref 170)] [] s33 _
              obtain ⟨hu32, hk32⟩ := id hK32
              replace hf32 : s.1 170 5 + 1 ≤ s33.1 170 5 := Int.le_trans (LX_lt hP (by omega)) hf32
              have hm32 : s33.1 C 1 = ((m : Nat) : Int) := by omega
              have hB35 : BX C (gn y) s.1 s33.1 := BX_tr hC (PI_rf hP) hBk32
              have hP35 : PI C y s33.1 := PI_BX hC hP hB35
              have hQ35 : CS s.1 s33.1 := CS_tr (CS_rf (r := s.1)) (KL_CS hK32)
              have hz35 : s33.2 = s.2 := hc32.trans rfl
              have hx35 := LX_nums hP35
              have hF35 : s.1 170 5 + 1 ≤ s33.1 170 5 ∧ s33.1 170 14 = s.1 170 14 ∧ s33.1 170 16 = s.1 170 16 ∧ s33.1 170 21 = s.1 170 21 ∧ s33.1 C 3 = s.1 C 3 ∧ s33.1 C 10 = s.1 C 10 ∧ 0 ≤ s33.1 170 5 ∧ s33.1 170 5 ≤ s33.1 170 6 ∧ s33.1 170 6 ≤ 2000 := by omega
              clear hk32 hf32 hx35
              have hc5 := hP35.2.2.2.1
              unfold CT at hc5
              refine wr_n (pc2 := 337) (lv2 := [(5, vi b28), (4, vi b24), (3, vi b9), (2, vi b5), (1, vi b1), (0, .ref 170)]) (st2 := [vi b24]) 1 (fun _ _ => rfl) ?_
              by_cases h36 : b24 = 0
              · refine wr_if1t rfl rfl (by unfold i32; omega) h36 ?_
                refine wr_n (pc2 := 352) (lv2 := [(5, vi b28), (4, vi b24), (3, vi b9), (2, vi b5), (1, vi b1), (0, .ref 170)]) (st2 := [vi b28]) 1 (fun _ _ => rfl) ?_
                by_cases h37 : b28 = 0
                · refine wr_if1t rfl rfl (by unfold i32; omega) h37 ?_
                  refine wr_n (pc2 := 366) (lv2 := [(5, vi b28), (4, vi b24), (3, vi b9), (2, vi b5), (1, vi b1), (0, .ref 170)]) (st2 := [.ref 170]) 1 (fun _ _ => rfl) ?_
                  refine wr_get (v := .ref C) rfl rfl rfl (by decide) (rv_ref (show s33.1 170 19 = ((C : Nat) : Int) from hP35.1)) fun h38 => ?_
                  show wr (d + 499) tb_M128 369 [(5, vi b28), (4, vi b24), (3, vi b9), (2, vi b5), (1, vi b1), (0, .ref 170)] [.ref C] s33 _
                  refine wr_get (v := vi (s33.1 C 8)) rfl rfl (TG_C hC) (by decide) rfl fun h39 => ?_
                  have h39 : -2147483648 ≤ s33.1 C 8 ∧ s33.1 C 8 ≤ 2147483647 := h39
                  show wr (d + 499) tb_M128 372 [(5, vi b28), (4, vi b24), (3, vi b9), (2, vi b5), (1, vi b1), (0, .ref 170)] [vi (s33.1 C 8)] s33 _
                  refine wr_n (pc2 := 379) (lv2 := [(6, vi (s33.1 C 8)), (5, vi b28), (4, vi b24), (3, vi b9), (2, vi b5), (1, vi b1), (0, .ref 170)]) (st2 := [vi b24, vi (s33.1 C 8), .ref 170]) 4 (fun _ _ => rfl) ?_
                  refine wr_if1t rfl rfl (by unfold i32; omega) (by show b24 = 0; omega) ?_
                  show wr (d + 499) tb_M128 387 [(6, vi (s33.1 C 8)), (5, vi b28), (4, vi b24), (3, vi b9), (2, vi b5), (1, vi b1), (0, .ref 170)] [vi (s33.1 C 8), .ref 170] s33 _
                  refine wr_n (pc2 := 388) (lv2 := [(6, vi (s33.1 C 8)), (5, vi b28), (4, vi b24), (3, vi b9), (2, vi b5), (1, vi b1), (0, .ref 170)]) (st2 := [vi 4, vi (s33.1 C 8), .ref 170]) 1 (fun _ _ => rfl) ?_
                  refine wr_call1 (args := [vi (s33.1 C 8), vi 4]) (rest := []) rfl rfl rfl rfl (Nat.le_of_ble_eq_true rfl) (cr_mono (c_isName (d := d + 496) _ hR32 (a := s33.1 C 8) (b := 4) (by unfold i32; omega) (by unfold i32; omega)) ?_)
                  rintro s41 out ⟨e, rfl, ⟨rfl, hk40, hl40, he40⟩ | ⟨rfl, hc40, h240⟩⟩
                  · refine ⟨_, rfl, ?_⟩
                    rw [he40]
                    show wr (d + 499) tb_M128 391 [(6, vi (s33.1 C 8)), (5, vi b28), (4, vi b24), (3, vi b9), (2, vi b5), (1, vi b1), (0, .ref 170)] [vi 1] s33 _
                    refine wr_n (pc2 := 397) (lv2 := [(6, vi (s33.1 C 8)), (5, vi b28), (4, vi b24), (3, vi b9), (2, vi b5), (1, vi b1), (0, .ref 170)]) (st2 := [vi b24, .ref 170]) 3 (fun _ _ => rfl) ?_
                    refine wr_if1t rfl rfl (by unfold i32; omega) (by show b24 = 0; omega) ?_
                    show wr (d + 499) tb_M128 404 [(6, vi (s33.1 C 8)), (5, vi b28), (4, vi b24), (3, vi b9), (2, vi b5), (1, vi b1), (0, .ref 170)] [.ref 170] s33 _
                    refine wr_n (pc2 := 406) (lv2 := [(6, vi (s33.1 C 8)), (5, vi b28), (4, vi b24), (3, vi b9), (2, vi b5), (1, vi b1), (0, .ref 170)]) (st2 := [vi b28, .ref 170]) 1 (fun _ _ => rfl) ?_
                    refine wr_if1t rfl rfl (by unfold i32; omega) (by show b28 = 0; omega) ?_
                    show wr (d + 499) tb_M128 413 [(6, vi (s33.1 C 8)), (5, vi b28), (4, vi b24), (3, vi b9), (2, vi b5), (1, vi b1), (0, .ref 170)] [.ref 170] s33 _
                    refine wr_n (pc2 := 416) (lv2 := [(6, vi (s33.1 C 8)), (5, vi b28), (4, vi b24), (3, vi b9), (2, vi b5), (1, vi b1), (0, .ref 170)]) (st2 := [vi (s33.1 C 8), vi 4, .ref 170]) 2 (fun _ _ => rfl) ?_
                    obtain ⟨N, hNN⟩ : ∃ N : Nat, s33.1 170 14 = (N : Int) := ⟨(s33.1 170 14).toNat, by have h8 := (NM_of hP35).1; omega⟩
                    refine wr_call1 (args := [vi 4, vi (s33.1 C 8)]) (rest := []) rfl rfl rfl rfl (Nat.le_of_ble_eq_true rfl) (cr_mono (x_declare (C := C) (d := d + 492) (N := N) (w := 4) (u := s33.1 C 8) _ hR32 hP35 (by unfold i32; omega) (by unfold i32; omega) hNN (by omega)) ?_)
                    rintro s43 out ⟨b, rfl, hc42, ⟨rfl, hF42⟩ | ⟨rfl, hD42⟩⟩
                    · refine ⟨_, rfl, ?_⟩
                      show wr (d + 499) tb_M128 419 [(6, vi (s33.1 C 8)), (5, vi b28), (4, vi b24), (3, vi b9), (2, vi b5), (1, vi b1), (0, .ref 170)] [vi 0] s43 _
                      refine wr_n (pc2 := 423) (lv2 := [(6, vi (s33.1 C 8)), (5, vi b28), (4, vi b24), (3, vi b9), (2, vi b5), (1, vi b1), (0, .ref 170)]) (st2 := [vi 0]) 2 (fun _ _ => rfl) ?_
                      refine wr_end (fun _ _ => rfl) ?_
                      exact ⟨0, rfl, hc42.trans hz35, Or.inl ⟨rfl, FR_tr (BX_FR hB35) hF42⟩⟩
                    · refine ⟨_, rfl, ?_⟩
                      show wr (d + 499) tb_M128 419 [(6, vi (s33.1 C 8)), (5, vi b28), (4, vi b24), (3, vi b9), (2, vi b5), (1, vi b1), (0, .ref 170)] [vi 1] s43 _
                      have hfd42 := hD42.2.2.2.2.2.2.2
                      have hR42 : RF s43.1 := FR_RF hC (DC_FR hD42) hR32
                      have hL42 : LX s43.1 := hD42.2.1
                      have hG42 : FR C s.1 s43.1 := FR_tr (BX_FR hB35) (DC_FR hD42)
                      have hz42 : s43.2 = s.2 := hc42.trans hz35
                      have hcc42 : s43.1 170 19 = (C : Int) := (hD42.1 170 19 (by omega) (by omega)).trans hP35.1
                      refine wr_n (pc2 := 426) (lv2 := [(6, vi (s33.1 C 8)), (5, vi b28), (4, vi b24), (3, vi b9), (2, vi b5), (1, vi b1), (0, .ref 170)]) (st2 := [vi b24]) 2 (fun _ _ => rfl) ?_
                      refine wr_if1t rfl rfl (by unfold i32; omega) (by show b24 = 0; omega) ?_
                      show wr (d + 499) tb_M128 445 [(6, vi (s33.1 C 8)), (5, vi b28), (4, vi b24), (3, vi b9), (2, vi b5), (1, vi b1), (0, .ref 170)] [] s43 _
                      refine wr_n (pc2 := 447) (lv2 := [(6, vi (s33.1 C 8)), (5, vi b28), (4, vi b24), (3, vi b9), (2, vi b5), (1, vi b1), (0, .ref 170)]) (st2 := [vi b28]) 1 (fun _ _ => rfl) ?_
                      refine wr_if1t rfl rfl (by unfold i32; omega) (by show b28 = 0; omega) ?_
                      show wr (d + 499) tb_M128 466 [(6, vi (s33.1 C 8)), (5, vi b28), (4, vi b24), (3, vi b9), (2, vi b5), (1, vi b1), (0, .ref 170)] [] s43 _
                      refine wr_n (pc2 := 467) (lv2 := [(6, vi (s33.1 C 8)), (5, vi b28), (4, vi b24), (3, vi b9), (2, vi b5), (1, vi b1), (0, .ref 170)]) (st2 := [.ref 170]) 1 (fun _ _ => rfl) ?_
                      refine wr_get (v := .ref C) rfl rfl rfl (by decide) (rv_ref (show s43.1 170 19 = ((C : Nat) : Int) from hcc42)) fun h46 => ?_
                      show wr (d + 499) tb_M128 470 [(6, vi (s33.1 C 8)), (5, vi b28), (4, vi b24), (3, vi b9), (2, vi b5), (1, vi b1), (0, .ref 170)] [.ref C] s43 _
                      refine wr_n (pc2 := 471) (lv2 := [(6, vi (s33.1 C 8)), (5, vi b28), (4, vi b24), (3, vi b9), (2, vi b5), (1, vi b1), (0, .ref 170)]) (st2 := [.ref C, .ref C]) 1 (fun _ _ => rfl) ?_
                      refine wr_get (v := vi (s43.1 C 8)) rfl rfl (TG_C hC) (by decide) rfl fun h47 => ?_
                      have h47 : -2147483648 ≤ s43.1 C 8 ∧ s43.1 C 8 ≤ 2147483647 := h47
                      show wr (d + 499) tb_M128 474 [(6, vi (s33.1 C 8)), (5, vi b28), (4, vi b24), (3, vi b9), (2, vi b5), (1, vi b1), (0, .ref 170)] [vi (s43.1 C 8), .ref C] s43 _
                      have hbb : s43.1 C 8 = s33.1 C 8 := (hD42.1 C 8 (by omega) (by omega))
                      refine wr_n (pc2 := 475) (lv2 := [(6, vi (s33.1 C 8)), (5, vi b28), (4, vi b24), (3, vi b9), (2, vi b5), (1, vi b1), (0, .ref 170)]) (st2 := [vi 1, vi (s43.1 C 8), .ref C]) 1 (fun _ _ => rfl) ?_
                      refine wr_add (a := s43.1 C 8) (b := 1) rfl ?_
                      show wr (d + 499) tb_M128 476 [(6, vi (s33.1 C 8)), (5, vi b28), (4, vi b24), (3, vi b9), (2, vi b5), (1, vi b1), (0, .ref 170)] [vi (s43.1 C 8 + 1), .ref C] s43 _
                      refine wr_put (z := s43.1 C 8 + 1) rfl rfl rfl rfl (show 96 ≤ C by omega) (TG_C hC) (by decide) rfl (show -2147483648 ≤ s43.1 C 8 + 1 ∧ s43.1 C 8 + 1 ≤ 2147483647 by omega) (hf_int' _) ?_
                      show wr (d + 499) tb_M128 479 [(6, vi (s33.1 C 8)), (5, vi b28), (4, vi b24), (3, vi b9), (2, vi b5), (1, vi b1), (0, .ref 170)] [] (up2 s43.1 C 8 (s43.1 C 8 + 1), s43.2) _
                      have hR48 : RF (up2 s43.1 C 8 (s43.1 C 8 + 1)) := (RF_up hR42 (PS_rc hC (by unfold PS; omega)))
                      obtain ⟨s49, hs49⟩ : ∃ qq9 : rS, qq9 = (up2 s43.1 C 8 (s43.1 C 8 + 1), s43.2) := ⟨_, rfl⟩
                      rw [← hs49]
                      have hU49 : U1 C 8 s43.1 s49.1 := by rw [hs49]; exact U1_up
                      have hv49 : s49.1 C 8 = s43.1 C 8 + 1 := by rw [hs49]; show up2 s43.1 C 8 (s43.1 C 8 + 1) C 8 = _; exact up_self
                      have hk49 : s49.1 170 5 = s43.1 170 5 ∧ s49.1 170 6 = s43.1 170 6 := ⟨hU49 _ _ (by omega), hU49 _ _ (by omega)⟩
                      have hc49 : s49.2 = s43.2 := by rw [hs49]
                      have hR49 : RF s49.1 := by rw [hs49]; exact RF_up hR42 (PS_rc hC (by unfold PS; omega))
                      have hL49 : LX s49.1 := LX_at hL42 (fun j h1 h2 => hU49 170 j (by omega))
                      have hG49 : FR C s.1 s49.1 := FR_tr (hG42) (fun k j hn => hU49 k j (fun q => hn (by unfold PS; omega)))
                      have hz49 : s49.2 = s.2 := hc49.trans hz42
                      have hcc49 : s49.1 170 19 = (C : Int) := (hU49 170 19 (by omega)).trans hcc42
                      show wr (d + 499) tb_M128 479 [(6, vi (s33.1 C 8)), (5, vi b28), (4, vi b24), (3, vi b9), (2, vi b5), (1, vi b1), (0, .ref 170)] [] s49 _
                      refine wr_n (pc2 := 482) (lv2 := [(6, vi (s33.1 C 8)), (5, vi b28), (4, vi b24), (3, vi b9), (2, vi b5), (1, vi b1), (0, .ref 170)]) (st2 := [.ref 30, .ref 170]) 2 (fun _ _ => rfl) ?_
                      refine wr_call1 (args := [.ref 30]) (rest := []) rfl rfl rfl rfl (Nat.le_of_ble_eq_true rfl) (cr_mono (c_take (d := d + 492) isT_30 _ hR49 hL49) ?_)
                      rintro s51 out ⟨b, rfl, hc50, ⟨rfl, h250⟩ | ⟨rfl, h250, h350, h450, h550⟩⟩
                      · refine ⟨_, rfl, ?_⟩
                        show wr (d + 499) tb_M128 485 [(6, vi (s33.1 C 8)), (5, vi b28), (4, vi b24), (3, vi b9), (2, vi b5), (1, vi b1), (0, .ref 170)] [vi 0] s51 _
                        refine wr_end (fun _ _ => rfl) ?_
                        exact ⟨0, rfl, hc50.trans hz49, Or.inl ⟨rfl, FR_tr (hG49) (FR_bad h250)⟩⟩
                      · refine ⟨_, rfl, ?_⟩
                        show wr (d + 499) tb_M128 485 [(6, vi (s33.1 C 8)), (5, vi b28), (4, vi b24), (3, vi b9), (2, vi b5), (1, vi b1), (0, .ref 170)] [vi 1] s51 _
                        have hk50 : s49.1 170 5 ≤ s51.1 170 5 := by have h8 := hL49; unfold LX at h8; omega
                        have hR50 : RF s51.1 := same_RF h250 (by decide) hR49
                        have hL50 : LX s51.1 := h350
                        have hG50 : FR C s.1 s51.1 := FR_tr (hG49) (fun k j hn => (KL_of hC h250).1 k j (fun q => hn (by unfold PS; omega)))
                        have hz50 : s51.2 = s.2 := hc50.trans hz49
                        have hcc50 : s51.1 170 19 = (C : Int) := ((KL_of hC h250).1 170 19 (by omega)).trans hcc49
                        refine wr_end (fun _ _ => rfl) ?_
                        have hvc : s51.1 C 8 = s33.1 C 8 + 1 := ((KL_of hC h250).1 C 8 (by omega)).trans (hv49.trans (congrArg (fun z => z + 1) (hD42.1 C 8 (by omega) (by omega))))
                        have h35 : s33.1 170 35 = -1 := (hB35.1 170 35 (by unfold SS; omega)).trans hI.2.1
                        have hnC1 : s51.1 C 1 = s33.1 C 1 := (((KL_of hC h250).1 C 1 (by omega)).trans (hU49 C 1 (by omega))).trans (hD42.1 C 1 (by omega) (by omega))
                        have hnC3 : s51.1 C 3 = s33.1 C 3 := (((KL_of hC h250).1 C 3 (by omega)).trans (hU49 C 3 (by omega))).trans (hD42.1 C 3 (by omega) (by omega))
                        have hnC10 : s51.1 C 10 = s33.1 C 10 := (((KL_of hC h250).1 C 10 (by omega)).trans (hU49 C 10 (by omega))).trans (hD42.1 C 10 (by omega) (by omega))
                        have hn17016 : s51.1 170 16 = s33.1 170 16 := (((KL_of hC h250).1 170 16 (by omega)).trans (hU49 170 16 (by omega))).trans (hD42.1 170 16 (by omega) (by omega))
                        have hn17021 : s51.1 170 21 = s33.1 170 21 := (((KL_of hC h250).1 170 21 (by omega)).trans (hU49 170 21 (by omega))).trans (hD42.1 170 21 (by omega) (by omega))
                        have hcd : ∀ p, s51.1 (C + 1) p = s33.1 (C + 1) p := fun p => (((KL_of hC h250).1 (C + 1) p (by omega)).trans (hU49 (C + 1) p (by omega))).trans (hD42.1 (C + 1) p (by omega) (by omega))
                        have hPl := PI_port (c := 8) hC hP35 hNN (by omega) h35 hD42 (by omega) (fun k j e1 e2 => (((KL_of hC h250).1 k j (by omega)).trans (hU49 k j (by omega)))) hvc hL50 (by omega)
                        refine ⟨1, rfl, hz50, Or.inr ⟨rfl, hR50, hG50, by omega, y, mr, hPl, ?_, ?_, hI.2.2.2.1, ?_⟩⟩
                        · exact ((((KL_of hC h250).1 170 35 (by omega)).trans (hU49 170 35 (by omega))).trans (hD42.1 170 35 (by omega) (by omega))).trans h35
                        · show _ ∧ _ ∧ _ ∧ _ ∧ _ ∧ _ ∧ _ ∧ _ ∧ 3 * (gk y (gn y) : Int) ≤ _
                          omega
                        · intro hpar
                          rw [hn17021] at hpar
                          exact EV_mono (Nat.le_refl _) (Nat.le_refl _) (EV_agr (fun p hp => (hcd p).trans (BX_code hC hB35 (by omega))) (hI.2.2.2.2 (BX_po hB35 hpar)))
                  · refine ⟨_, rfl, ?_⟩
                    show wr (d + 499) tb_M128 391 [(6, vi (s33.1 C 8)), (5, vi b28), (4, vi b24), (3, vi b9), (2, vi b5), (1, vi b1), (0, .ref 170)] [vi 0] s41 _
                    refine wr_n (pc2 := 423) (lv2 := [(6, vi (s33.1 C 8)), (5, vi b28), (4, vi b24), (3, vi b9), (2, vi b5), (1, vi b1), (0, .ref 170)]) (st2 := [vi 0]) 2 (fun _ _ => rfl) ?_
                    refine wr_end (fun _ _ => rfl) ?_
                    exact ⟨0, rfl, hc40.trans hz35, Or.inl ⟨rfl, FR_tr (BX_FR hB35) (FR_bad h240)⟩⟩
                · refine wr_if1f rfl rfl (by unfold i32; omega) h37 ?_
                  refine wr_n (pc2 := 356) (lv2 := [(5, vi b28), (4, vi b24), (3, vi b9), (2, vi b5), (1, vi b1), (0, .ref 170)]) (st2 := [.ref 170]) 1 (fun _ _ => rfl) ?_
                  refine wr_get (v := .ref C) rfl rfl rfl (by decide) (rv_ref (show s33.1 170 19 = ((C : Nat) : Int) from hP35.1)) fun h55 => ?_
                  show wr (d + 499) tb_M128 359 [(5, vi b28), (4, vi b24), (3, vi b9), (2, vi b5), (1, vi b1), (0, .ref 170)] [.ref C] s33 _
                  refine wr_get (v := vi (s33.1 C 7)) rfl rfl (TG_C hC) (by decide) rfl fun h56 => ?_
                  have h56 : -2147483648 ≤ s33.1 C 7 ∧ s33.1 C 7 ≤ 2147483647 := h56
                  show wr (d + 499) tb_M128 362 [(5, vi b28), (4, vi b24), (3, vi b9), (2, vi b5), (1, vi b1), (0, .ref 170)] [vi (s33.1 C 7)] s33 _
                  refine wr_n (pc2 := 379) (lv2 := [(6, vi (s33.1 C 7)), (5, vi b28), (4, vi b24), (3, vi b9), (2, vi b5), (1, vi b1), (0, .ref 170)]) (st2 := [vi b24, vi (s33.1 C 7), .ref 170]) 5 (fun _ _ => rfl) ?_
                  refine wr_if1t rfl rfl (by unfold i32; omega) (by show b24 = 0; omega) ?_
                  show wr (d + 499) tb_M128 387 [(6, vi (s33.1 C 7)), (5, vi b28), (4, vi b24), (3, vi b9), (2, vi b5), (1, vi b1), (0, .ref 170)] [vi (s33.1 C 7), .ref 170] s33 _
                  refine wr_n (pc2 := 388) (lv2 := [(6, vi (s33.1 C 7)), (5, vi b28), (4, vi b24), (3, vi b9), (2, vi b5), (1, vi b1), (0, .ref 170)]) (st2 := [vi 4, vi (s33.1 C 7), .ref 170]) 1 (fun _ _ => rfl) ?_
                  refine wr_call1 (args := [vi (s33.1 C 7), vi 4]) (rest := []) rfl rfl rfl rfl (Nat.le_of_ble_eq_true rfl) (cr_mono (c_isName (d := d + 496) _ hR32 (a := s33.1 C 7) (b := 4) (by unfold i32; omega) (by unfold i32; omega)) ?_)
                  rintro s58 out ⟨e, rfl, ⟨rfl, hk57, hl57, he57⟩ | ⟨rfl, hc57, h257⟩⟩
                  · refine ⟨_, rfl, ?_⟩
                    rw [he57]
                    show wr (d + 499) tb_M128 391 [(6, vi (s33.1 C 7)), (5, vi b28), (4, vi b24), (3, vi b9), (2, vi b5), (1, vi b1), (0, .ref 170)] [vi 1] s33 _
                    refine wr_n (pc2 := 397) (lv2 := [(6, vi (s33.1 C 7)), (5, vi b28), (4, vi b24), (3, vi b9), (2, vi b5), (1, vi b1), (0, .ref 170)]) (st2 := [vi b24, .ref 170]) 3 (fun _ _ => rfl) ?_
                    refine wr_if1t rfl rfl (by unfold i32; omega) (by show b24 = 0; omega) ?_
                    show wr (d + 499) tb_M128 404 [(6, vi (s33.1 C 7)), (5, vi b28), (4, vi b24), (3, vi b9), (2, vi b5), (1, vi b1), (0, .ref 170)] [.ref 170] s33 _
                    refine wr_n (pc2 := 406) (lv2 := [(6, vi (s33.1 C 7)), (5, vi b28), (4, vi b24), (3, vi b9), (2, vi b5), (1, vi b1), (0, .ref 170)]) (st2 := [vi b28, .ref 170]) 1 (fun _ _ => rfl) ?_
                    refine wr_if1f rfl rfl (by unfold i32; omega) (by show ¬ (b28 = 0); omega) ?_
                    show wr (d + 499) tb_M128 409 [(6, vi (s33.1 C 7)), (5, vi b28), (4, vi b24), (3, vi b9), (2, vi b5), (1, vi b1), (0, .ref 170)] [.ref 170] s33 _
                    refine wr_n (pc2 := 416) (lv2 := [(6, vi (s33.1 C 7)), (5, vi b28), (4, vi b24), (3, vi b9), (2, vi b5), (1, vi b1), (0, .ref 170)]) (st2 := [vi (s33.1 C 7), vi 3, .ref 170]) 3 (fun _ _ => rfl) ?_
                    obtain ⟨N, hNN⟩ : ∃ N : Nat, s33.1 170 14 = (N : Int) := ⟨(s33.1 170 14).toNat, by have h8 := (NM_of hP35).1; omega⟩
                    refine wr_call1 (args := [vi 3, vi (s33.1 C 7)]) (rest := []) rfl rfl rfl rfl (Nat.le_of_ble_eq_true rfl) (cr_mono (x_declare (C := C) (d := d + 492) (N := N) (w := 3) (u := s33.1 C 7) _ hR32 hP35 (by unfold i32; omega) (by unfold i32; omega) hNN (by omega)) ?_)
                    rintro s60 out ⟨b, rfl, hc59, ⟨rfl, hF59⟩ | ⟨rfl, hD59⟩⟩
                    · refine ⟨_, rfl, ?_⟩
                      show wr (d + 499) tb_M128 419 [(6, vi (s33.1 C 7)), (5, vi b28), (4, vi b24), (3, vi b9), (2, vi b5), (1, vi b1), (0, .ref 170)] [vi 0] s60 _
                      refine wr_n (pc2 := 423) (lv2 := [(6, vi (s33.1 C 7)), (5, vi b28), (4, vi b24), (3, vi b9), (2, vi b5), (1, vi b1), (0, .ref 170)]) (st2 := [vi 0]) 2 (fun _ _ => rfl) ?_
                      refine wr_end (fun _ _ => rfl) ?_
                      exact ⟨0, rfl, hc59.trans hz35, Or.inl ⟨rfl, FR_tr (BX_FR hB35) hF59⟩⟩
                    · refine ⟨_, rfl, ?_⟩
                      show wr (d + 499) tb_M128 419 [(6, vi (s33.1 C 7)), (5, vi b28), (4, vi b24), (3, vi b9), (2, vi b5), (1, vi b1), (0, .ref 170)] [vi 1] s60 _
                      have hfd59 := hD59.2.2.2.2.2.2.2
                      have hR59 : RF s60.1 := FR_RF hC (DC_FR hD59) hR32
                      have hL59 : LX s60.1 := hD59.2.1
                      have hG59 : FR C s.1 s60.1 := FR_tr (BX_FR hB35) (DC_FR hD59)
                      have hz59 : s60.2 = s.2 := hc59.trans hz35
                      have hcc59 : s60.1 170 19 = (C : Int) := (hD59.1 170 19 (by omega) (by omega)).trans hP35.1
                      refine wr_n (pc2 := 426) (lv2 := [(6, vi (s33.1 C 7)), (5, vi b28), (4, vi b24), (3, vi b9), (2, vi b5), (1, vi b1), (0, .ref 170)]) (st2 := [vi b24]) 2 (fun _ _ => rfl) ?_
                      refine wr_if1t rfl rfl (by unfold i32; omega) (by show b24 = 0; omega) ?_
                      show wr (d + 499) tb_M128 445 [(6, vi (s33.1 C 7)), (5, vi b28), (4, vi b24), (3, vi b9), (2, vi b5), (1, vi b1), (0, .ref 170)] [] s60 _
                      refine wr_n (pc2 := 447) (lv2 := [(6, vi (s33.1 C 7)), (5, vi b28), (4, vi b24), (3, vi b9), (2, vi b5), (1, vi b1), (0, .ref 170)]) (st2 := [vi b28]) 1 (fun _ _ => rfl) ?_
                      refine wr_if1f rfl rfl (by unfold i32; omega) (by show ¬ (b28 = 0); omega) ?_
                      show wr (d + 499) tb_M128 450 [(6, vi (s33.1 C 7)), (5, vi b28), (4, vi b24), (3, vi b9), (2, vi b5), (1, vi b1), (0, .ref 170)] [] s60 _
                      refine wr_n (pc2 := 451) (lv2 := [(6, vi (s33.1 C 7)), (5, vi b28), (4, vi b24), (3, vi b9), (2, vi b5), (1, vi b1), (0, .ref 170)]) (st2 := [.ref 170]) 1 (fun _ _ => rfl) ?_
                      refine wr_get (v := .ref C) rfl rfl rfl (by decide) (rv_ref (show s60.1 170 19 = ((C : Nat) : Int) from hcc59)) fun h63 => ?_
                      show wr (d + 499) tb_M128 454 [(6, vi (s33.1 C 7)), (5, vi b28), (4, vi b24), (3, vi b9), (2, vi b5), (1, vi b1), (0, .ref 170)] [.ref C] s60 _
                      refine wr_n (pc2 := 455) (lv2 := [(6, vi (s33.1 C 7)), (5, vi b28), (4, vi b24), (3, vi b9), (2, vi b5), (1, vi b1), (0, .ref 170)]) (st2 := [.ref C, .ref C]) 1 (fun _ _ => rfl) ?_
                      refine wr_get (v := vi (s60.1 C 7)) rfl rfl (TG_C hC) (by decide) rfl fun h64 => ?_
                      have h64 : -2147483648 ≤ s60.1 C 7 ∧ s60.1 C 7 ≤ 2147483647 := h64
                      show wr (d + 499) tb_M128 458 [(6, vi (s33.1 C 7)), (5, vi b28), (4, vi b24), (3, vi b9), (2, vi b5), (1, vi b1), (0, .ref 170)] [vi (s60.1 C 7), .ref C] s60 _
                      have hbb : s60.1 C 7 = s33.1 C 7 := (hD59.1 C 7 (by omega) (by omega))
                      refine wr_n (pc2 := 459) (lv2 := [(6, vi (s33.1 C 7)), (5, vi b28), (4, vi b24), (3, vi b9), (2, vi b5), (1, vi b1), (0, .ref 170)]) (st2 := [vi 1, vi (s60.1 C 7), .ref C]) 1 (fun _ _ => rfl) ?_
                      refine wr_add (a := s60.1 C 7) (b := 1) rfl ?_
                      show wr (d + 499) tb_M128 460 [(6, vi (s33.1 C 7)), (5, vi b28), (4, vi b24), (3, vi b9), (2, vi b5), (1, vi b1), (0, .ref 170)] [vi (s60.1 C 7 + 1), .ref C] s60 _
                      refine wr_put (z := s60.1 C 7 + 1) rfl rfl rfl rfl (show 96 ≤ C by omega) (TG_C hC) (by decide) rfl (show -2147483648 ≤ s60.1 C 7 + 1 ∧ s60.1 C 7 + 1 ≤ 2147483647 by omega) (hf_int' _) ?_
                      show wr (d + 499) tb_M128 463 [(6, vi (s33.1 C 7)), (5, vi b28), (4, vi b24), (3, vi b9), (2, vi b5), (1, vi b1), (0, .ref 170)] [] (up2 s60.1 C 7 (s60.1 C 7 + 1), s60.2) _
                      have hR65 : RF (up2 s60.1 C 7 (s60.1 C 7 + 1)) := (RF_up hR59 (PS_rc hC (by unfold PS; omega)))
                      refine wr_n (pc2 := 479) (lv2 := [(6, vi (s33.1 C 7)), (5, vi b28), (4, vi b24), (3, vi b9), (2, vi b5), (1, vi b1), (0, .ref 170)]) (st2 := []) 1 (fun _ _ => rfl) ?_
                      obtain ⟨s66, hs66⟩ : ∃ qq9 : rS, qq9 = (up2 s60.1 C 7 (s60.1 C 7 + 1), s60.2) := ⟨_, rfl⟩
                      rw [← hs66]
                      have hU66 : U1 C 7 s60.1 s66.1 := by rw [hs66]; exact U1_up
                      have hv66 : s66.1 C 7 = s60.1 C 7 + 1 := by rw [hs66]; show up2 s60.1 C 7 (s60.1 C 7 + 1) C 7 = _; exact up_self
                      have hk66 : s66.1 170 5 = s60.1 170 5 ∧ s66.1 170 6 = s60.1 170 6 := ⟨hU66 _ _ (by omega), hU66 _ _ (by omega)⟩
                      have hc66 : s66.2 = s60.2 := by rw [hs66]
                      have hR66 : RF s66.1 := by rw [hs66]; exact RF_up hR59 (PS_rc hC (by unfold PS; omega))
                      have hL66 : LX s66.1 := LX_at hL59 (fun j h1 h2 => hU66 170 j (by omega))
                      have hG66 : FR C s.1 s66.1 := FR_tr (hG59) (fun k j hn => hU66 k j (fun q => hn (by unfold PS; omega)))
                      have hz66 : s66.2 = s.2 := hc66.trans hz59
                      have hcc66 : s66.1 170 19 = (C : Int) := (hU66 170 19 (by omega)).trans hcc59
                      show wr (d + 499) tb_M128 479 [(6, vi (s33.1 C 7)), (5, vi b28), (4, vi b24), (3, vi b9), (2, vi b5), (1, vi b1), (0, .ref 170)] [] s66 _
                      refine wr_n (pc2 := 482) (lv2 := [(6, vi (s33.1 C 7)), (5, vi b28), (4, vi b24), (3, vi b9), (2, vi b5), (1, vi b1), (0, .ref 170)]) (st2 := [.ref 30, .ref 170]) 2 (fun _ _ => rfl) ?_
                      refine wr_call1 (args := [.ref 30]) (rest := []) rfl rfl rfl rfl (Nat.le_of_ble_eq_true rfl) (cr_mono (c_take (d := d + 492) isT_30 _ hR66 hL66) ?_)
                      rintro s68 out ⟨b, rfl, hc67, ⟨rfl, h267⟩ | ⟨rfl, h267, h367, h467, h567⟩⟩
                      · refine ⟨_, rfl, ?_⟩
                        show wr (d + 499) tb_M128 485 [(6, vi (s33.1 C 7)), (5, vi b28), (4, vi b24), (3, vi b9), (2, vi b5), (1, vi b1), (0, .ref 170)] [vi 0] s68 _
                        refine wr_end (fun _ _ => rfl) ?_
                        exact ⟨0, rfl, hc67.trans hz66, Or.inl ⟨rfl, FR_tr (hG66) (FR_bad h267)⟩⟩
                      · refine ⟨_, rfl, ?_⟩
                        show wr (d + 499) tb_M128 485 [(6, vi (s33.1 C 7)), (5, vi b28), (4, vi b24), (3, vi b9), (2, vi b5), (1, vi b1), (0, .ref 170)] [vi 1] s68 _
                        have hk67 : s66.1 170 5 ≤ s68.1 170 5 := by have h8 := hL66; unfold LX at h8; omega
                        have hR67 : RF s68.1 := same_RF h267 (by decide) hR66
                        have hL67 : LX s68.1 := h367
                        have hG67 : FR C s.1 s68.1 := FR_tr (hG66) (fun k j hn => (KL_of hC h267).1 k j (fun q => hn (by unfold PS; omega)))
                        have hz67 : s68.2 = s.2 := hc67.trans hz66
                        have hcc67 : s68.1 170 19 = (C : Int) := ((KL_of hC h267).1 170 19 (by omega)).trans hcc66
                        refine wr_end (fun _ _ => rfl) ?_
                        have hvc : s68.1 C 7 = s33.1 C 7 + 1 := ((KL_of hC h267).1 C 7 (by omega)).trans (hv66.trans (congrArg (fun z => z + 1) (hD59.1 C 7 (by omega) (by omega))))
                        have h35 : s33.1 170 35 = -1 := (hB35.1 170 35 (by unfold SS; omega)).trans hI.2.1
                        have hnC1 : s68.1 C 1 = s33.1 C 1 := (((KL_of hC h267).1 C 1 (by omega)).trans (hU66 C 1 (by omega))).trans (hD59.1 C 1 (by omega) (by omega))
                        have hnC3 : s68.1 C 3 = s33.1 C 3 := (((KL_of hC h267).1 C 3 (by omega)).trans (hU66 C 3 (by omega))).trans (hD59.1 C 3 (by omega) (by omega))
                        have hnC10 : s68.1 C 10 = s33.1 C 10 := (((KL_of hC h267).1 C 10 (by omega)).trans (hU66 C 10 (by omega))).trans (hD59.1 C 10 (by omega) (by omega))
                        have hn17016 : s68.1 170 16 = s33.1 170 16 := (((KL_of hC h267).1 170 16 (by omega)).trans (hU66 170 16 (by omega))).trans (hD59.1 170 16 (by omega) (by omega))
                        have hn17021 : s68.1 170 21 = s33.1 170 21 := (((KL_of hC h267).1 170 21 (by omega)).trans (hU66 170 21 (by omega))).trans (hD59.1 170 21 (by omega) (by omega))
                        have hcd : ∀ p, s68.1 (C + 1) p = s33.1 (C + 1) p := fun p => (((KL_of hC h267).1 (C + 1) p (by omega)).trans (hU66 (C + 1) p (by omega))).trans (hD59.1 (C + 1) p (by omega) (by omega))
                        have hPl := PI_port (c := 7) hC hP35 hNN (by omega) h35 hD59 (by omega) (fun k j e1 e2 => (((KL_of hC h267).1 k j (by omega)).trans (hU66 k j (by omega)))) hvc hL67 (by omega)
                        refine ⟨1, rfl, hz67, Or.inr ⟨rfl, hR67, hG67, by omega, y, mr, hPl, ?_, ?_, hI.2.2.2.1, ?_⟩⟩
                        · exact ((((KL_of hC h267).1 170 35 (by omega)).trans (hU66 170 35 (by omega))).trans (hD59.1 170 35 (by omega) (by omega))).trans h35
                        · show _ ∧ _ ∧ _ ∧ _ ∧ _ ∧ _ ∧ _ ∧ _ ∧ 3 * (gk y (gn y) : Int) ≤ _
                          omega
                        · intro hpar
                          rw [hn17021] at hpar
                          exact EV_mono (Nat.le_refl _) (Nat.le_refl _) (EV_agr (fun p hp => (hcd p).trans (BX_code hC hB35 (by omega))) (hI.2.2.2.2 (BX_po hB35 hpar)))
                  · refine ⟨_, rfl, ?_⟩
                    show wr (d + 499) tb_M128 391 [(6, vi (s33.1 C 7)), (5, vi b28), (4, vi b24), (3, vi b9), (2, vi b5), (1, vi b1), (0, .ref 170)] [vi 0] s58 _
                    refine wr_n (pc2 := 423) (lv2 := [(6, vi (s33.1 C 7)), (5, vi b28), (4, vi b24), (3, vi b9), (2, vi b5), (1, vi b1), (0, .ref 170)]) (st2 := [vi 0]) 2 (fun _ _ => rfl) ?_
                    refine wr_end (fun _ _ => rfl) ?_
                    exact ⟨0, rfl, hc57.trans hz35, Or.inl ⟨rfl, FR_tr (BX_FR hB35) (FR_bad h257)⟩⟩
              · refine wr_if1f rfl rfl (by unfold i32; omega) h36 ?_
                refine wr_n (pc2 := 341) (lv2 := [(5, vi b28), (4, vi b24), (3, vi b9), (2, vi b5), (1, vi b1), (0, .ref 170)]) (st2 := [.ref 170]) 1 (fun _ _ => rfl) ?_
                refine wr_get (v := .ref C) rfl rfl rfl (by decide) (rv_ref (show s33.1 170 19 = ((C : Nat) : Int) from hP35.1)) fun h72 => ?_
                show wr (d + 499) tb_M128 344 [(5, vi b28), (4, vi b24), (3, vi b9), (2, vi b5), (1, vi b1), (0, .ref 170)] [.ref C] s33 _
                refine wr_get (v := vi (s33.1 C 6)) rfl rfl (TG_C hC) (by decide) rfl fun h73 => ?_
                have h73 : -2147483648 ≤ s33.1 C 6 ∧ s33.1 C 6 ≤ 2147483647 := h73
                show wr (d + 499) tb_M128 347 [(5, vi b28), (4, vi b24), (3, vi b9), (2, vi b5), (1, vi b1), (0, .ref 170)] [vi (s33.1 C 6)] s33 _
                refine wr_n (pc2 := 379) (lv2 := [(6, vi (s33.1 C 6)), (5, vi b28), (4, vi b24), (3, vi b9), (2, vi b5), (1, vi b1), (0, .ref 170)]) (st2 := [vi b24, vi (s33.1 C 6), .ref 170]) 5 (fun _ _ => rfl) ?_
                refine wr_if1f rfl rfl (by unfold i32; omega) (by show ¬ (b24 = 0); omega) ?_
                show wr (d + 499) tb_M128 382 [(6, vi (s33.1 C 6)), (5, vi b28), (4, vi b24), (3, vi b9), (2, vi b5), (1, vi b1), (0, .ref 170)] [vi (s33.1 C 6), .ref 170] s33 _
                refine wr_n (pc2 := 388) (lv2 := [(6, vi (s33.1 C 6)), (5, vi b28), (4, vi b24), (3, vi b9), (2, vi b5), (1, vi b1), (0, .ref 170)]) (st2 := [vi 8, vi (s33.1 C 6), .ref 170]) 2 (fun _ _ => rfl) ?_
                refine wr_call1 (args := [vi (s33.1 C 6), vi 8]) (rest := []) rfl rfl rfl rfl (Nat.le_of_ble_eq_true rfl) (cr_mono (c_isName (d := d + 496) _ hR32 (a := s33.1 C 6) (b := 8) (by unfold i32; omega) (by unfold i32; omega)) ?_)
                rintro s75 out ⟨e, rfl, ⟨rfl, hk74, hl74, he74⟩ | ⟨rfl, hc74, h274⟩⟩
                · refine ⟨_, rfl, ?_⟩
                  rw [he74]
                  show wr (d + 499) tb_M128 391 [(6, vi (s33.1 C 6)), (5, vi b28), (4, vi b24), (3, vi b9), (2, vi b5), (1, vi b1), (0, .ref 170)] [vi 1] s33 _
                  refine wr_n (pc2 := 397) (lv2 := [(6, vi (s33.1 C 6)), (5, vi b28), (4, vi b24), (3, vi b9), (2, vi b5), (1, vi b1), (0, .ref 170)]) (st2 := [vi b24, .ref 170]) 3 (fun _ _ => rfl) ?_
                  refine wr_if1f rfl rfl (by unfold i32; omega) (by show ¬ (b24 = 0); omega) ?_
                  show wr (d + 499) tb_M128 400 [(6, vi (s33.1 C 6)), (5, vi b28), (4, vi b24), (3, vi b9), (2, vi b5), (1, vi b1), (0, .ref 170)] [.ref 170] s33 _
                  refine wr_n (pc2 := 416) (lv2 := [(6, vi (s33.1 C 6)), (5, vi b28), (4, vi b24), (3, vi b9), (2, vi b5), (1, vi b1), (0, .ref 170)]) (st2 := [vi (s33.1 C 6), vi 2, .ref 170]) 3 (fun _ _ => rfl) ?_
                  obtain ⟨N, hNN⟩ : ∃ N : Nat, s33.1 170 14 = (N : Int) := ⟨(s33.1 170 14).toNat, by have h8 := (NM_of hP35).1; omega⟩
                  refine wr_call1 (args := [vi 2, vi (s33.1 C 6)]) (rest := []) rfl rfl rfl rfl (Nat.le_of_ble_eq_true rfl) (cr_mono (x_declare (C := C) (d := d + 492) (N := N) (w := 2) (u := s33.1 C 6) _ hR32 hP35 (by unfold i32; omega) (by unfold i32; omega) hNN (by omega)) ?_)
                  rintro s77 out ⟨b, rfl, hc76, ⟨rfl, hF76⟩ | ⟨rfl, hD76⟩⟩
                  · refine ⟨_, rfl, ?_⟩
                    show wr (d + 499) tb_M128 419 [(6, vi (s33.1 C 6)), (5, vi b28), (4, vi b24), (3, vi b9), (2, vi b5), (1, vi b1), (0, .ref 170)] [vi 0] s77 _
                    refine wr_n (pc2 := 423) (lv2 := [(6, vi (s33.1 C 6)), (5, vi b28), (4, vi b24), (3, vi b9), (2, vi b5), (1, vi b1), (0, .ref 170)]) (st2 := [vi 0]) 2 (fun _ _ => rfl) ?_
                    refine wr_end (fun _ _ => rfl) ?_
                    exact ⟨0, rfl, hc76.trans hz35, Or.inl ⟨rfl, FR_tr (BX_FR hB35) hF76⟩⟩
                  · refine ⟨_, rfl, ?_⟩
                    show wr (d + 499) tb_M128 419 [(6, vi (s33.1 C 6)), (5, vi b28), (4, vi b24), (3, vi b9), (2, vi b5), (1, vi b1), (0, .ref 170)] [vi 1] s77 _
                    have hfd76 := hD76.2.2.2.2.2.2.2
                    have hR76 : RF s77.1 := FR_RF hC (DC_FR hD76) hR32
                    have hL76 : LX s77.1 := hD76.2.1
                    have hG76 : FR C s.1 s77.1 := FR_tr (BX_FR hB35) (DC_FR hD76)
                    have hz76 : s77.2 = s.2 := hc76.trans hz35
                    have hcc76 : s77.1 170 19 = (C : Int) := (hD76.1 170 19 (by omega) (by omega)).trans hP35.1
                    refine wr_n (pc2 := 426) (lv2 := [(6, vi (s33.1 C 6)), (5, vi b28), (4, vi b24), (3, vi b9), (2, vi b5), (1, vi b1), (0, .ref 170)]) (st2 := [vi b24]) 2 (fun _ _ => rfl) ?_
                    refine wr_if1f rfl rfl (by unfold i32; omega) (by show ¬ (b24 = 0); omega) ?_
                    show wr (d + 499) tb_M128 429 [(6, vi (s33.1 C 6)), (5, vi b28), (4, vi b24), (3, vi b9), (2, vi b5), (1, vi b1), (0, .ref 170)] [] s77 _
                    refine wr_n (pc2 := 430) (lv2 := [(6, vi (s33.1 C 6)), (5, vi b28), (4, vi b24), (3, vi b9), (2, vi b5), (1, vi b1), (0, .ref 170)]) (st2 := [.ref 170]) 1 (fun _ _ => rfl) ?_
                    refine wr_get (v := .ref C) rfl rfl rfl (by decide) (rv_ref (show s77.1 170 19 = ((C : Nat) : Int) from hcc76)) fun h80 => ?_
                    show wr (d + 499) tb_M128 433 [(6, vi (s33.1 C 6)), (5, vi b28), (4, vi b24), (3, vi b9), (2, vi b5), (1, vi b1), (0, .ref 170)] [.ref C] s77 _
                    refine wr_n (pc2 := 434) (lv2 := [(6, vi (s33.1 C 6)), (5, vi b28), (4, vi b24), (3, vi b9), (2, vi b5), (1, vi b1), (0, .ref 170)]) (st2 := [.ref C, .ref C]) 1 (fun _ _ => rfl) ?_
                    refine wr_get (v := vi (s77.1 C 6)) rfl rfl (TG_C hC) (by decide) rfl fun h81 => ?_
                    have h81 : -2147483648 ≤ s77.1 C 6 ∧ s77.1 C 6 ≤ 2147483647 := h81
                    show wr (d + 499) tb_M128 437 [(6, vi (s33.1 C 6)), (5, vi b28), (4, vi b24), (3, vi b9), (2, vi b5), (1, vi b1), (0, .ref 170)] [vi (s77.1 C 6), .ref C] s77 _
                    have hbb : s77.1 C 6 = s33.1 C 6 := (hD76.1 C 6 (by omega) (by omega))
                    refine wr_n (pc2 := 438) (lv2 := [(6, vi (s33.1 C 6)), (5, vi b28), (4, vi b24), (3, vi b9), (2, vi b5), (1, vi b1), (0, .ref 170)]) (st2 := [vi 1, vi (s77.1 C 6), .ref C]) 1 (fun _ _ => rfl) ?_
                    refine wr_add (a := s77.1 C 6) (b := 1) rfl ?_
                    show wr (d + 499) tb_M128 439 [(6, vi (s33.1 C 6)), (5, vi b28), (4, vi b24), (3, vi b9), (2, vi b5), (1, vi b1), (0, .ref 170)] [vi (s77.1 C 6 + 1), .ref C] s77 _
                    refine wr_put (z := s77.1 C 6 + 1) rfl rfl rfl rfl (show 96 ≤ C by omega) (TG_C hC) (by decide) rfl (show -2147483648 ≤ s77.1 C 6 + 1 ∧ s77.1 C 6 + 1 ≤ 2147483647 by omega) (hf_int' _) ?_
                    show wr (d + 499) tb_M128 442 [(6, vi (s33.1 C 6)), (5, vi b28), (4, vi b24), (3, vi b9), (2, vi b5), (1, vi b1), (0, .ref 170)] [] (up2 s77.1 C 6 (s77.1 C 6 + 1), s77.2) _
                    have hR82 : RF (up2 s77.1 C 6 (s77.1 C 6 + 1)) := (RF_up hR76 (PS_rc hC (by unfold PS; omega)))
                    refine wr_n (pc2 := 479) (lv2 := [(6, vi (s33.1 C 6)), (5, vi b28), (4, vi b24), (3, vi b9), (2, vi b5), (1, vi b1), (0, .ref 170)]) (st2 := []) 1 (fun _ _ => rfl) ?_
                    obtain ⟨s83, hs83⟩ : ∃ qq9 : rS, qq9 = (up2 s77.1 C 6 (s77.1 C 6 + 1), s77.2) := ⟨_, rfl⟩
                    rw [← hs83]
                    have hU83 : U1 C 6 s77.1 s83.1 := by rw [hs83]; exact U1_up
                    have hv83 : s83.1 C 6 = s77.1 C 6 + 1 := by rw [hs83]; show up2 s77.1 C 6 (s77.1 C 6 + 1) C 6 = _; exact up_self
                    have hk83 : s83.1 170 5 = s77.1 170 5 ∧ s83.1 170 6 = s77.1 170 6 := ⟨hU83 _ _ (by omega), hU83 _ _ (by omega)⟩
                    have hc83 : s83.2 = s77.2 := by rw [hs83]
                    have hR83 : RF s83.1 := by rw [hs83]; exact RF_up hR76 (PS_rc hC (by unfold PS; omega))
                    have hL83 : LX s83.1 := LX_at hL76 (fun j h1 h2 => hU83 170 j (by omega))
                    have hG83 : FR C s.1 s83.1 := FR_tr (hG76) (fun k j hn => hU83 k j (fun q => hn (by unfold PS; omega)))
                    have hz83 : s83.2 = s.2 := hc83.trans hz76
                    have hcc83 : s83.1 170 19 = (C : Int) := (hU83 170 19 (by omega)).trans hcc76
                    show wr (d + 499) tb_M128 479 [(6, vi (s33.1 C 6)), (5, vi b28), (4, vi b24), (3, vi b9), (2, vi b5), (1, vi b1), (0, .ref 170)] [] s83 _
                    refine wr_n (pc2 := 482) (lv2 := [(6, vi (s33.1 C 6)), (5, vi b28), (4, vi b24), (3, vi b9), (2, vi b5), (1, vi b1), (0, .ref 170)]) (st2 := [.ref 30, .ref 170]) 2 (fun _ _ => rfl) ?_
                    refine wr_call1 (args := [.ref 30]) (rest := []) rfl rfl rfl rfl (Nat.le_of_ble_eq_true rfl) (cr_mono (c_take (d := d + 492) isT_30 _ hR83 hL83) ?_)
                    rintro s85 out ⟨b, rfl, hc84, ⟨rfl, h284⟩ | ⟨rfl, h284, h384, h484, h584⟩⟩
                    · refine ⟨_, rfl, ?_⟩
                      show wr (d + 499) tb_M128 485 [(6, vi (s33.1 C 6)), (5, vi b28), (4, vi b24), (3, vi b9), (2, vi b5), (1, vi b1), (0, .ref 170)] [vi 0] s85 _
                      refine wr_end (fun _ _ => rfl) ?_
                      exact ⟨0, rfl, hc84.trans hz83, Or.inl ⟨rfl, FR_tr (hG83) (FR_bad h284)⟩⟩
                    · refine ⟨_, rfl, ?_⟩
                      show wr (d + 499) tb_M128 485 [(6, vi (s33.1 C 6)), (5, vi b28), (4, vi b24), (3, vi b9), (2, vi b5), (1, vi b1), (0, .ref 170)] [vi 1] s85 _
                      have hk84 : s83.1 170 5 ≤ s85.1 170 5 := by have h8 := hL83; unfold LX at h8; omega
                      have hR84 : RF s85.1 := same_RF h284 (by decide) hR83
                      have hL84 : LX s85.1 := h384
                      have hG84 : FR C s.1 s85.1 := FR_tr (hG83) (fun k j hn => (KL_of hC h284).1 k j (fun q => hn (by unfold PS; omega)))
                      have hz84 : s85.2 = s.2 := hc84.trans hz83
                      have hcc84 : s85.1 170 19 = (C : Int) := ((KL_of hC h284).1 170 19 (by omega)).trans hcc83
                      refine wr_end (fun _ _ => rfl) ?_
                      have hvc : s85.1 C 6 = s33.1 C 6 + 1 := ((KL_of hC h284).1 C 6 (by omega)).trans (hv83.trans (congrArg (fun z => z + 1) (hD76.1 C 6 (by omega) (by omega))))
                      have h35 : s33.1 170 35 = -1 := (hB35.1 170 35 (by unfold SS; omega)).trans hI.2.1
                      have hnC1 : s85.1 C 1 = s33.1 C 1 := (((KL_of hC h284).1 C 1 (by omega)).trans (hU83 C 1 (by omega))).trans (hD76.1 C 1 (by omega) (by omega))
                      have hnC3 : s85.1 C 3 = s33.1 C 3 := (((KL_of hC h284).1 C 3 (by omega)).trans (hU83 C 3 (by omega))).trans (hD76.1 C 3 (by omega) (by omega))
                      have hnC10 : s85.1 C 10 = s33.1 C 10 := (((KL_of hC h284).1 C 10 (by omega)).trans (hU83 C 10 (by omega))).trans (hD76.1 C 10 (by omega) (by omega))
                      have hn17016 : s85.1 170 16 = s33.1 170 16 := (((KL_of hC h284).1 170 16 (by omega)).trans (hU83 170 16 (by omega))).trans (hD76.1 170 16 (by omega) (by omega))
                      have hn17021 : s85.1 170 21 = s33.1 170 21 := (((KL_of hC h284).1 170 21 (by omega)).trans (hU83 170 21 (by omega))).trans (hD76.1 170 21 (by omega) (by omega))
                      have hcd : ∀ p, s85.1 (C + 1) p = s33.1 (C + 1) p := fun p => (((KL_of hC h284).1 (C + 1) p (by omega)).trans (hU83 (C + 1) p (by omega))).trans (hD76.1 (C + 1) p (by omega) (by omega))
                      have hPl := PI_port (c := 6) hC hP35 hNN (by omega) h35 hD76 (by omega) (fun k j e1 e2 => (((KL_of hC h284).1 k j (by omega)).trans (hU83 k j (by omega)))) hvc hL84 (by omega)
                      refine ⟨1, rfl, hz84, Or.inr ⟨rfl, hR84, hG84, by omega, y, mr, hPl, ?_, ?_, hI.2.2.2.1, ?_⟩⟩
                      · exact ((((KL_of hC h284).1 170 35 (by omega)).trans (hU83 170 35 (by omega))).trans (hD76.1 170 35 (by omega) (by omega))).trans h35
                      · show _ ∧ _ ∧ _ ∧ _ ∧ _ ∧ _ ∧ _ ∧ _ ∧ 3 * (gk y (gn y) : Int) ≤ _
                        omega
                      · intro hpar
                        rw [hn17021] at hpar
                        exact EV_mono (Nat.le_refl _) (Nat.le_refl _) (EV_agr (fun p hp => (hcd p).trans (BX_code hC hB35 (by omega))) (hI.2.2.2.2 (BX_po hB35 hpar)))
                · refine ⟨_, rfl, ?_⟩
                  show wr (d + 499) tb_M128 391 [(6, vi (s33.1 C 6)), (5, vi b28), (4, vi b24), (3, vi b9), (2, vi b5), (1, vi b1), (0, .ref 170)] [vi 0] s75 _
                  refine wr_n (pc2 := 423) (lv2 := [(6, vi (s33.1 C 6)), (5, vi b28), (4, vi b24), (3, vi b9), (2, vi b5), (1, vi b1), (0, .ref 170)]) (st2 := [vi 0]) 2 (fun _ _ => rfl) ?_
                  refine wr_end (fun _ _ => rfl) ?_
                  exact ⟨0, rfl, hc74.trans hz35, Or.inl ⟨rfl, FR_tr (BX_FR hB35) (FR_bad h274)⟩⟩
          · refine wr_if1f rfl rfl (by unfold i32; omega) h23 ?_
            refine wr_n (pc2 := 169) (lv2 := [(3, vi b9), (2, vi b5), (1, vi b1), (0, .ref 170)]) (st2 := [.ref 170]) 1 (fun _ _ => rfl) ?_
            refine wr_call1 (args := []) (rest := []) rfl rfl rfl rfl (Nat.le_of_ble_eq_true rfl) (cr_mono (x_step (d := d + 493) hC _ hR hP) ?_)
            rintro s90 out ⟨rfl, hc89, hR89, hBk89, hK89, hf89⟩
            · refine ⟨_, rfl, ?_⟩
              show wr (d + 499) tb_M128 172 [(3, vi b9), (2, vi b5), (1, vi b1), (0, .ref 170)] [] s90 _
              obtain ⟨hu89, hk89⟩ := id hK89
              replace hf89 : s.1 170 5 + 1 ≤ s90.1 170 5 := Int.le_trans (LX_lt hP (by omega)) hf89
              have hm89 : s90.1 C 1 = ((m : Nat) : Int) := by omega
              have hB92 : BX C (gn y) s.1 s90.1 := BX_tr hC (PI_rf hP) hBk89
              have hP92 : PI C y s90.1 := PI_BX hC hP hB92
              have hQ92 : CS s.1 s90.1 := CS_tr (CS_rf (r := s.1)) (KL_CS hK89)
              have hz92 : s90.2 = s.2 := hc89.trans rfl
              have hx92 := LX_nums hP92
              have hF92 : s.1 170 5 + 1 ≤ s90.1 170 5 ∧ s90.1 170 14 = s.1 170 14 ∧ s90.1 170 16 = s.1 170 16 ∧ s90.1 170 21 = s.1 170 21 ∧ s90.1 C 3 = s.1 C 3 ∧ s90.1 C 10 = s.1 C 10 ∧ 0 ≤ s90.1 170 5 ∧ s90.1 170 5 ≤ s90.1 170 6 ∧ s90.1 170 6 ≤ 2000 := by omega
              clear hk89 hf89 hx92
              have hc5 := hP92.2.2.2.1
              unfold CT at hc5
              refine wr_n (pc2 := 174) (lv2 := [(3, vi b9), (2, vi b5), (1, vi b1), (0, .ref 170)]) (st2 := [.ref 170, .ref 170]) 2 (fun _ _ => rfl) ?_
              refine wr_get (v := .ref C) rfl rfl rfl (by decide) (rv_ref (show s90.1 170 19 = ((C : Nat) : Int) from hP92.1)) fun h93 => ?_
              show wr (d + 499) tb_M128 177 [(3, vi b9), (2, vi b5), (1, vi b1), (0, .ref 170)] [.ref C, .ref 170] s90 _
              refine wr_get (v := vi (s90.1 C 5)) rfl rfl (TG_C hC) (by decide) rfl fun h94 => ?_
              have h94 : -2147483648 ≤ s90.1 C 5 ∧ s90.1 C 5 ≤ 2147483647 := h94
              show wr (d + 499) tb_M128 180 [(3, vi b9), (2, vi b5), (1, vi b1), (0, .ref 170)] [vi (s90.1 C 5), .ref 170] s90 _
              refine wr_n (pc2 := 182) (lv2 := [(3, vi b9), (2, vi b5), (1, vi b1), (0, .ref 170)]) (st2 := [vi 6, vi (s90.1 C 5), .ref 170]) 1 (fun _ _ => rfl) ?_
              refine wr_call1 (args := [vi (s90.1 C 5), vi 6]) (rest := []) rfl rfl rfl rfl (Nat.le_of_ble_eq_true rfl) (cr_mono (c_isName (d := d + 496) _ hR89 (a := s90.1 C 5) (b := 6) (by unfold i32; omega) (by unfold i32; omega)) ?_)
              rintro s96 out ⟨e, rfl, ⟨rfl, hk95, hl95, he95⟩ | ⟨rfl, hc95, h295⟩⟩
              · refine ⟨_, rfl, ?_⟩
                rw [he95]
                show wr (d + 499) tb_M128 185 [(3, vi b9), (2, vi b5), (1, vi b1), (0, .ref 170)] [vi 1] s90 _
                refine wr_n (pc2 := 191) (lv2 := [(3, vi b9), (2, vi b5), (1, vi b1), (0, .ref 170)]) (st2 := [.ref 170, vi 1, .ref 170]) 4 (fun _ _ => rfl) ?_
                refine wr_get (v := .ref C) rfl rfl rfl (by decide) (rv_ref (show s90.1 170 19 = ((C : Nat) : Int) from hP92.1)) fun h97 => ?_
                show wr (d + 499) tb_M128 194 [(3, vi b9), (2, vi b5), (1, vi b1), (0, .ref 170)] [.ref C, vi 1, .ref 170] s90 _
                refine wr_get (v := vi (s90.1 C 5)) rfl rfl (TG_C hC) (by decide) rfl fun h98 => ?_
                have h98 : -2147483648 ≤ s90.1 C 5 ∧ s90.1 C 5 ≤ 2147483647 := h98
                show wr (d + 499) tb_M128 197 [(3, vi b9), (2, vi b5), (1, vi b1), (0, .ref 170)] [vi (s90.1 C 5), vi 1, .ref 170] s90 _
                obtain ⟨N, hNN⟩ : ∃ N : Nat, s90.1 170 14 = (N : Int) := ⟨(s90.1 170 14).toNat, by have h8 := (NM_of hP92).1; omega⟩
                refine wr_call1 (args := [vi 1, vi (s90.1 C 5)]) (rest := []) rfl rfl rfl rfl (Nat.le_of_ble_eq_true rfl) (cr_mono (x_declare (C := C) (d := d + 492) (N := N) (w := 1) (u := s90.1 C 5) _ hR89 hP92 (by unfold i32; omega) (by unfold i32; omega) hNN (by omega)) ?_)
                rintro s100 out ⟨b, rfl, hc99, ⟨rfl, hF99⟩ | ⟨rfl, hD99⟩⟩
                · refine ⟨_, rfl, ?_⟩
                  show wr (d + 499) tb_M128 200 [(3, vi b9), (2, vi b5), (1, vi b1), (0, .ref 170)] [vi 0] s100 _
                  refine wr_n (pc2 := 214) (lv2 := [(3, vi b9), (2, vi b5), (1, vi b1), (0, .ref 170)]) (st2 := [vi 0]) 2 (fun _ _ => rfl) ?_
                  refine wr_end (fun _ _ => rfl) ?_
                  exact ⟨0, rfl, hc99.trans hz92, Or.inl ⟨rfl, FR_tr (BX_FR hB92) hF99⟩⟩
                · refine ⟨_, rfl, ?_⟩
                  show wr (d + 499) tb_M128 200 [(3, vi b9), (2, vi b5), (1, vi b1), (0, .ref 170)] [vi 1] s100 _
                  have hfd99 := hD99.2.2.2.2.2.2.2
                  have hR99 : RF s100.1 := FR_RF hC (DC_FR hD99) hR89
                  have hL99 : LX s100.1 := hD99.2.1
                  have hG99 : FR C s.1 s100.1 := FR_tr (BX_FR hB92) (DC_FR hD99)
                  have hz99 : s100.2 = s.2 := hc99.trans hz92
                  have hcc99 : s100.1 170 19 = (C : Int) := (hD99.1 170 19 (by omega) (by omega)).trans hP92.1
                  refine wr_n (pc2 := 207) (lv2 := [(3, vi b9), (2, vi b5), (1, vi b1), (0, .ref 170)]) (st2 := [.ref 94, .ref 170]) 3 (fun _ _ => rfl) ?_
                  refine wr_call1 (args := [.ref 94]) (rest := []) rfl rfl rfl rfl (Nat.le_of_ble_eq_true rfl) (cr_mono (c_take (d := d + 492) isT_94 _ hR99 hL99) ?_)
                  rintro s104 out ⟨b, rfl, hc103, ⟨rfl, h2103⟩ | ⟨rfl, h2103, h3103, h4103, h5103⟩⟩
                  · refine ⟨_, rfl, ?_⟩
                    show wr (d + 499) tb_M128 210 [(3, vi b9), (2, vi b5), (1, vi b1), (0, .ref 170)] [vi 0] s104 _
                    refine wr_n (pc2 := 214) (lv2 := [(3, vi b9), (2, vi b5), (1, vi b1), (0, .ref 170)]) (st2 := [vi 0]) 2 (fun _ _ => rfl) ?_
                    refine wr_end (fun _ _ => rfl) ?_
                    exact ⟨0, rfl, hc103.trans hz99, Or.inl ⟨rfl, FR_tr (hG99) (FR_bad h2103)⟩⟩
                  · refine ⟨_, rfl, ?_⟩
                    show wr (d + 499) tb_M128 210 [(3, vi b9), (2, vi b5), (1, vi b1), (0, .ref 170)] [vi 1] s104 _
                    have hk103 : s100.1 170 5 ≤ s104.1 170 5 := by have h8 := hL99; unfold LX at h8; omega
                    have hR103 : RF s104.1 := same_RF h2103 (by decide) hR99
                    have hL103 : LX s104.1 := h3103
                    have hG103 : FR C s.1 s104.1 := FR_tr (hG99) (fun k j hn => (KL_of hC h2103).1 k j (fun q => hn (by unfold PS; omega)))
                    have hz103 : s104.2 = s.2 := hc103.trans hz99
                    have hcc103 : s104.1 170 19 = (C : Int) := ((KL_of hC h2103).1 170 19 (by omega)).trans hcc99
                    refine wr_n (pc2 := 216) (lv2 := [(3, vi b9), (2, vi b5), (1, vi b1), (0, .ref 170)]) (st2 := [.ref 170]) 2 (fun _ _ => rfl) ?_
                    refine wr_get (v := vi (s104.1 170 4)) rfl rfl rfl (by decide) rfl fun h107 => ?_
                    have h107 : -2147483648 ≤ s104.1 170 4 ∧ s104.1 170 4 ≤ 2147483647 := h107
                    show wr (d + 499) tb_M128 219 [(3, vi b9), (2, vi b5), (1, vi b1), (0, .ref 170)] [vi (s104.1 170 4)] s104 _
                    refine wr_n (pc2 := 220) (lv2 := [(3, vi b9), (2, vi b5), (1, vi b1), (0, .ref 170)]) (st2 := [vi 3, vi (s104.1 170 4)]) 1 (fun _ _ => rfl) ?_
                    by_cases h108 : s104.1 170 4 ≠ 3
                    · refine wr_if2t rfl rfl (by unfold i32; omega) (by unfold i32; omega) h108 ?_
                      refine wr_n (pc2 := 250) (lv2 := [(3, vi b9), (2, vi b5), (1, vi b1), (0, .ref 170)]) (st2 := [.ref 170]) 1 (fun _ _ => rfl) ?_
                      refine wr_call1 (args := []) (rest := []) rfl rfl rfl rfl (Nat.le_of_ble_eq_true rfl) (cr_mono (x_bad0 (C := C) (d := d + 497) _ hR103) ?_)
                      rintro s110 out ⟨rfl, hc109, hF109⟩
                      · refine ⟨_, rfl, ?_⟩
                        show wr (d + 499) tb_M128 253 [(3, vi b9), (2, vi b5), (1, vi b1), (0, .ref 170)] [vi 0] s110 _
                        refine wr_end (fun _ _ => rfl) ?_
                        exact ⟨0, rfl, hc109.trans hz103, Or.inl ⟨rfl, FR_tr (hG103) hF109⟩⟩
                    · refine wr_if2f rfl rfl (by unfold i32; omega) (by unfold i32; omega) h108 ?_
                      have hnr3 : 0 ≤ s104.1 170 7 ∧ s104.1 170 7 ≤ 65535 := by have h8 := hL103; unfold LX at h8; omega
                      refine wr_n (pc2 := 224) (lv2 := [(3, vi b9), (2, vi b5), (1, vi b1), (0, .ref 170)]) (st2 := [.ref 170]) 1 (fun _ _ => rfl) ?_
                      refine wr_get (v := vi (s104.1 170 7)) rfl rfl rfl (by decide) rfl fun h112 => ?_
                      have h112 : -2147483648 ≤ s104.1 170 7 ∧ s104.1 170 7 ≤ 2147483647 := h112
                      show wr (d + 499) tb_M128 227 [(3, vi b9), (2, vi b5), (1, vi b1), (0, .ref 170)] [vi (s104.1 170 7)] s104 _
                      refine wr_i2l (a := s104.1 170 7) rfl (by unfold i32; omega) ?_
                      show wr (d + 499) tb_M128 228 [(3, vi b9), (2, vi b5), (1, vi b1), (0, .ref 170)] [vl (s104.1 170 7)] s104 _
                      refine wr_n (pc2 := 232) (lv2 := [(3, vi b9), (2, vi b5), (1, vi b1), (0, .ref 170)]) (st2 := [vl 64, vl 1, vl (s104.1 170 7)]) 2 (fun _ _ => rfl) ?_
                      refine wr_call0 (args := [vl (s104.1 170 7), vl 1, vl 64]) (rest := []) rfl rfl rfl (Nat.le_of_ble_eq_true rfl) (cr_mono (c_in (d := d + 498) (a := s104.1 170 7) (b := 1) (c := 64) _ (by unfold i64; omega) (by unfold i64; omega) (by unfold i64; omega)) ?_)
                      rintro s114 out ⟨e, rfl, ⟨rfl, hi113⟩ | ⟨rfl, hi113⟩, he113⟩
                      · refine ⟨_, rfl, ?_⟩
                        rw [he113]
                        show wr (d + 499) tb_M128 235 [(3, vi b9), (2, vi b5), (1, vi b1), (0, .ref 170)] [vi 1] s104 _
                        refine wr_n (pc2 := 239) (lv2 := [(3, vi b9), (2, vi b5), (1, vi b1), (0, .ref 170)]) (st2 := [.ref 170]) 2 (fun _ _ => rfl) ?_
                        refine wr_get (v := vi (s104.1 170 7)) rfl rfl rfl (by decide) rfl fun h115 => ?_
                        have h115 : -2147483648 ≤ s104.1 170 7 ∧ s104.1 170 7 ≤ 2147483647 := h115
                        show wr (d + 499) tb_M128 242 [(3, vi b9), (2, vi b5), (1, vi b1), (0, .ref 170)] [vi (s104.1 170 7)] s104 _
                        refine wr_call0 (args := [vi (s104.1 170 7)]) (rest := []) rfl rfl rfl (Nat.le_of_ble_eq_true rfl) (cr_mono (c_bitCount (d := d + 498) (a := s104.1 170 7) _) ?_)
                        rintro s119 out ⟨z116, rfl, h117, e118⟩
                        refine ⟨_, rfl, ?_⟩
                        rw [e118]
                        show wr (d + 499) tb_M128 245 [(3, vi b9), (2, vi b5), (1, vi b1), (0, .ref 170)] [vi z116] s104 _
                        unfold i32 at h117
                        refine wr_n (pc2 := 246) (lv2 := [(3, vi b9), (2, vi b5), (1, vi b1), (0, .ref 170)]) (st2 := [vi 1, vi z116]) 1 (fun _ _ => rfl) ?_
                        by_cases h120 : z116 = 1
                        · refine wr_if2t rfl rfl (by unfold i32; omega) (by unfold i32; omega) h120 ?_
                          refine wr_n (pc2 := 255) (lv2 := [(3, vi b9), (2, vi b5), (1, vi b1), (0, .ref 170)]) (st2 := [.ref 170]) 1 (fun _ _ => rfl) ?_
                          refine wr_get (v := .ref C) rfl rfl rfl (by decide) (rv_ref (show s104.1 170 19 = ((C : Nat) : Int) from hcc103)) fun h121 => ?_
                          show wr (d + 499) tb_M128 258 [(3, vi b9), (2, vi b5), (1, vi b1), (0, .ref 170)] [.ref C] s104 _
                          refine wr_get (v := .ref (C + 3)) rfl rfl (TG_C hC) (by decide) (rv_ref (hR103 C 12 (C + 3) (rc_C12 hC))) fun h122 => ?_
                          show wr (d + 499) tb_M128 261 [(3, vi b9), (2, vi b5), (1, vi b1), (0, .ref 170)] [.ref (C + 3)] s104 _
                          refine wr_n (pc2 := 262) (lv2 := [(3, vi b9), (2, vi b5), (1, vi b1), (0, .ref 170)]) (st2 := [.ref 170, .ref (C + 3)]) 1 (fun _ _ => rfl) ?_
                          refine wr_get (v := .ref C) rfl rfl rfl (by decide) (rv_ref (show s104.1 170 19 = ((C : Nat) : Int) from hcc103)) fun h123 => ?_
                          show wr (d + 499) tb_M128 265 [(3, vi b9), (2, vi b5), (1, vi b1), (0, .ref 170)] [.ref C, .ref (C + 3)] s104 _
                          refine wr_get (v := vi (s104.1 C 5)) rfl rfl (TG_C hC) (by decide) rfl fun h124 => ?_
                          have h124 : -2147483648 ≤ s104.1 C 5 ∧ s104.1 C 5 ≤ 2147483647 := h124
                          show wr (d + 499) tb_M128 268 [(3, vi b9), (2, vi b5), (1, vi b1), (0, .ref 170)] [vi (s104.1 C 5), .ref (C + 3)] s104 _
                          refine wr_n (pc2 := 269) (lv2 := [(3, vi b9), (2, vi b5), (1, vi b1), (0, .ref 170)]) (st2 := [.ref 170, vi (s104.1 C 5), .ref (C + 3)]) 1 (fun _ _ => rfl) ?_
                          refine wr_get (v := vi (s104.1 170 7)) rfl rfl rfl (by decide) rfl fun h125 => ?_
                          have h125 : -2147483648 ≤ s104.1 170 7 ∧ s104.1 170 7 ≤ 2147483647 := h125
                          show wr (d + 499) tb_M128 272 [(3, vi b9), (2, vi b5), (1, vi b1), (0, .ref 170)] [vi (s104.1 170 7), vi (s104.1 C 5), .ref (C + 3)] s104 _
                          have hszr : 1 ≤ s104.1 170 7 ∧ s104.1 170 7 ≤ 64 := by omega
                          have hixr : 0 ≤ s104.1 C 5 ∧ s104.1 C 5 < 6 := by rw [show s104.1 C 5 = s90.1 C 5 from (((KL_of hC h2103).1 C 5 (by omega)).trans (hD99.1 C 5 (by omega) (by omega)))]; omega
                          refine wr_ast (a := s104.1 C 5) (z := s104.1 170 7) rfl (show 96 ≤ C + 3 by omega) (TG_C3 hC) rfl (by omega) (by omega) (by decide) rfl (show -2147483648 ≤ s104.1 170 7 ∧ s104.1 170 7 ≤ 2147483647 by omega) ?_
                          show wr (d + 499) tb_M128 273 [(3, vi b9), (2, vi b5), (1, vi b1), (0, .ref 170)] [] (up2 s104.1 (C + 3) ((s104.1 C 5).toNat) (s104.1 170 7), s104.2) _
                          have hR126 : RF (up2 s104.1 (C + 3) ((s104.1 C 5).toNat) (s104.1 170 7)) := (RF_up hR103 (PS_rc hC (by unfold PS; omega)))
                          obtain ⟨s127, hs127⟩ : ∃ qq9 : rS, qq9 = (up2 s104.1 (C + 3) ((s104.1 C 5).toNat) (s104.1 170 7), s104.2) := ⟨_, rfl⟩
                          rw [← hs127]
                          have hU127 : U1 (C + 3) ((s104.1 C 5).toNat) s104.1 s127.1 := by rw [hs127]; exact U1_up
                          have hv127 : s127.1 (C + 3) ((s104.1 C 5).toNat) = s104.1 170 7 := by rw [hs127]; show up2 s104.1 (C + 3) ((s104.1 C 5).toNat) (s104.1 170 7) (C + 3) ((s104.1 C 5).toNat) = _; exact up_self
                          have hk127 : s127.1 170 5 = s104.1 170 5 ∧ s127.1 170 6 = s104.1 170 6 := ⟨hU127 _ _ (by omega), hU127 _ _ (by omega)⟩
                          have hc127 : s127.2 = s104.2 := by rw [hs127]
                          have hR127 : RF s127.1 := by rw [hs127]; exact RF_up hR103 (PS_rc hC (by unfold PS; omega))
                          have hL127 : LX s127.1 := LX_at hL103 (fun j h1 h2 => hU127 170 j (by omega))
                          have hG127 : FR C s.1 s127.1 := FR_tr (hG103) (fun k j hn => hU127 k j (fun q => hn (by unfold PS; omega)))
                          have hz127 : s127.2 = s.2 := hc127.trans hz103
                          have hcc127 : s127.1 170 19 = (C : Int) := (hU127 170 19 (by omega)).trans hcc103
                          show wr (d + 499) tb_M128 273 [(3, vi b9), (2, vi b5), (1, vi b1), (0, .ref 170)] [] s127 _
                          refine wr_n (pc2 := 274) (lv2 := [(3, vi b9), (2, vi b5), (1, vi b1), (0, .ref 170)]) (st2 := [.ref 170]) 1 (fun _ _ => rfl) ?_
                          refine wr_get (v := .ref C) rfl rfl rfl (by decide) (rv_ref (show s127.1 170 19 = ((C : Nat) : Int) from hcc127)) fun h128 => ?_
                          show wr (d + 499) tb_M128 277 [(3, vi b9), (2, vi b5), (1, vi b1), (0, .ref 170)] [.ref C] s127 _
                          refine wr_n (pc2 := 278) (lv2 := [(3, vi b9), (2, vi b5), (1, vi b1), (0, .ref 170)]) (st2 := [.ref C, .ref C]) 1 (fun _ _ => rfl) ?_
                          refine wr_get (v := vi (s127.1 C 5)) rfl rfl (TG_C hC) (by decide) rfl fun h129 => ?_
                          have h129 : -2147483648 ≤ s127.1 C 5 ∧ s127.1 C 5 ≤ 2147483647 := h129
                          show wr (d + 499) tb_M128 281 [(3, vi b9), (2, vi b5), (1, vi b1), (0, .ref 170)] [vi (s127.1 C 5), .ref C] s127 _
                          have hbb : s127.1 C 5 = s90.1 C 5 := ((hU127 C 5 (by omega)).trans ((KL_of hC h2103).1 C 5 (by omega))).trans (hD99.1 C 5 (by omega) (by omega))
                          refine wr_n (pc2 := 282) (lv2 := [(3, vi b9), (2, vi b5), (1, vi b1), (0, .ref 170)]) (st2 := [vi 1, vi (s127.1 C 5), .ref C]) 1 (fun _ _ => rfl) ?_
                          refine wr_add (a := s127.1 C 5) (b := 1) rfl ?_
                          show wr (d + 499) tb_M128 283 [(3, vi b9), (2, vi b5), (1, vi b1), (0, .ref 170)] [vi (s127.1 C 5 + 1), .ref C] s127 _
                          refine wr_put (z := s127.1 C 5 + 1) rfl rfl rfl rfl (show 96 ≤ C by omega) (TG_C hC) (by decide) rfl (show -2147483648 ≤ s127.1 C 5 + 1 ∧ s127.1 C 5 + 1 ≤ 2147483647 by omega) (hf_int' _) ?_
                          show wr (d + 499) tb_M128 286 [(3, vi b9), (2, vi b5), (1, vi b1), (0, .ref 170)] [] (up2 s127.1 C 5 (s127.1 C 5 + 1), s127.2) _
                          have hR130 : RF (up2 s127.1 C 5 (s127.1 C 5 + 1)) := (RF_up hR127 (PS_rc hC (by unfold PS; omega)))
                          obtain ⟨s131, hs131⟩ : ∃ qq9 : rS, qq9 = (up2 s127.1 C 5 (s127.1 C 5 + 1), s127.2) := ⟨_, rfl⟩
                          rw [← hs131]
                          have hU131 : U1 C 5 s127.1 s131.1 := by rw [hs131]; exact U1_up
                          have hv131 : s131.1 C 5 = s127.1 C 5 + 1 := by rw [hs131]; show up2 s127.1 C 5 (s127.1 C 5 + 1) C 5 = _; exact up_self
                          have hk131 : s131.1 170 5 = s127.1 170 5 ∧ s131.1 170 6 = s127.1 170 6 := ⟨hU131 _ _ (by omega), hU131 _ _ (by omega)⟩
                          have hc131 : s131.2 = s127.2 := by rw [hs131]
                          have hR131 : RF s131.1 := by rw [hs131]; exact RF_up hR127 (PS_rc hC (by unfold PS; omega))
                          have hL131 : LX s131.1 := LX_at hL127 (fun j h1 h2 => hU131 170 j (by omega))
                          have hG131 : FR C s.1 s131.1 := FR_tr (hG127) (fun k j hn => hU131 k j (fun q => hn (by unfold PS; omega)))
                          have hz131 : s131.2 = s.2 := hc131.trans hz127
                          have hcc131 : s131.1 170 19 = (C : Int) := (hU131 170 19 (by omega)).trans hcc127
                          show wr (d + 499) tb_M128 286 [(3, vi b9), (2, vi b5), (1, vi b1), (0, .ref 170)] [] s131 _
                          refine wr_n (pc2 := 287) (lv2 := [(3, vi b9), (2, vi b5), (1, vi b1), (0, .ref 170)]) (st2 := [.ref 170]) 1 (fun _ _ => rfl) ?_
                          refine wr_call1 (args := []) (rest := []) rfl rfl rfl rfl (Nat.le_of_ble_eq_true rfl) (cr_mono (c_step (d := d + 493) _ hR131 (by have h8 := hL131; unfold LX at h8; omega)) ?_)
                          rintro s133 out ⟨rfl, hc132, h2132, h4132, h3132⟩
                          · refine ⟨_, rfl, ?_⟩
                            show wr (d + 499) tb_M128 290 [(3, vi b9), (2, vi b5), (1, vi b1), (0, .ref 170)] [] s133 _
                            have hk132 : s131.1 170 5 ≤ s133.1 170 5 := by have h8 := hL131; unfold LX at h8; omega
                            have hR132 : RF s133.1 := same_RF h2132 (by decide) hR131
                            have hL132 : LX s133.1 := h3132
                            have hG132 : FR C s.1 s133.1 := FR_tr (hG131) (fun k j hn => (KL_of hC h2132).1 k j (fun q => hn (by unfold PS; omega)))
                            have hz132 : s133.2 = s.2 := hc132.trans hz131
                            have hcc132 : s133.1 170 19 = (C : Int) := ((KL_of hC h2132).1 170 19 (by omega)).trans hcc131
                            refine wr_n (pc2 := 294) (lv2 := [(3, vi b9), (2, vi b5), (1, vi b1), (0, .ref 170)]) (st2 := [.ref 44, .ref 170]) 2 (fun _ _ => rfl) ?_
                            refine wr_call1 (args := [.ref 44]) (rest := []) rfl rfl rfl rfl (Nat.le_of_ble_eq_true rfl) (cr_mono (c_take (d := d + 492) isT_44 _ hR132 hL132) ?_)
                            rintro s136 out ⟨b, rfl, hc135, ⟨rfl, h2135⟩ | ⟨rfl, h2135, h3135, h4135, h5135⟩⟩
                            · refine ⟨_, rfl, ?_⟩
                              show wr (d + 499) tb_M128 297 [(3, vi b9), (2, vi b5), (1, vi b1), (0, .ref 170)] [vi 0] s136 _
                              refine wr_n (pc2 := 314) (lv2 := [(3, vi b9), (2, vi b5), (1, vi b1), (0, .ref 170)]) (st2 := [vi 0]) 2 (fun _ _ => rfl) ?_
                              refine wr_end (fun _ _ => rfl) ?_
                              exact ⟨0, rfl, hc135.trans hz132, Or.inl ⟨rfl, FR_tr (hG132) (FR_bad h2135)⟩⟩
                            · refine ⟨_, rfl, ?_⟩
                              show wr (d + 499) tb_M128 297 [(3, vi b9), (2, vi b5), (1, vi b1), (0, .ref 170)] [vi 1] s136 _
                              have hk135 : s133.1 170 5 ≤ s136.1 170 5 := by have h8 := hL132; unfold LX at h8; omega
                              have hR135 : RF s136.1 := same_RF h2135 (by decide) hR132
                              have hL135 : LX s136.1 := h3135
                              have hG135 : FR C s.1 s136.1 := FR_tr (hG132) (fun k j hn => (KL_of hC h2135).1 k j (fun q => hn (by unfold PS; omega)))
                              have hz135 : s136.2 = s.2 := hc135.trans hz132
                              have hcc135 : s136.1 170 19 = (C : Int) := ((KL_of hC h2135).1 170 19 (by omega)).trans hcc132
                              refine wr_n (pc2 := 303) (lv2 := [(3, vi b9), (2, vi b5), (1, vi b1), (0, .ref 170)]) (st2 := [.ref 30, .ref 170]) 3 (fun _ _ => rfl) ?_
                              refine wr_call1 (args := [.ref 30]) (rest := []) rfl rfl rfl rfl (Nat.le_of_ble_eq_true rfl) (cr_mono (c_take (d := d + 492) isT_30 _ hR135 hL135) ?_)
                              rintro s140 out ⟨b, rfl, hc139, ⟨rfl, h2139⟩ | ⟨rfl, h2139, h3139, h4139, h5139⟩⟩
                              · refine ⟨_, rfl, ?_⟩
                                show wr (d + 499) tb_M128 306 [(3, vi b9), (2, vi b5), (1, vi b1), (0, .ref 170)] [vi 0] s140 _
                                refine wr_n (pc2 := 314) (lv2 := [(3, vi b9), (2, vi b5), (1, vi b1), (0, .ref 170)]) (st2 := [vi 0]) 2 (fun _ _ => rfl) ?_
                                refine wr_end (fun _ _ => rfl) ?_
                                exact ⟨0, rfl, hc139.trans hz135, Or.inl ⟨rfl, FR_tr (hG135) (FR_bad h2139)⟩⟩
                              · refine ⟨_, rfl, ?_⟩
                                show wr (d + 499) tb_M128 306 [(3, vi b9), (2, vi b5), (1, vi b1), (0, .ref 170)] [vi 1] s140 _
                                have hk139 : s136.1 170 5 ≤ s140.1 170 5 := by have h8 := hL135; unfold LX at h8; omega
                                have hR139 : RF s140.1 := same_RF h2139 (by decide) hR135
                                have hL139 : LX s140.1 := h3139
                                have hG139 : FR C s.1 s140.1 := FR_tr (hG135) (fun k j hn => (KL_of hC h2139).1 k j (fun q => hn (by unfold PS; omega)))
                                have hz139 : s140.2 = s.2 := hc139.trans hz135
                                have hcc139 : s140.1 170 19 = (C : Int) := ((KL_of hC h2139).1 170 19 (by omega)).trans hcc135
                                refine wr_n (pc2 := 314) (lv2 := [(3, vi b9), (2, vi b5), (1, vi b1), (0, .ref 170)]) (st2 := [vi 1]) 3 (fun _ _ => rfl) ?_
                                refine wr_end (fun _ _ => rfl) ?_
                                have hvc : s140.1 C 5 = s90.1 C 5 + 1 := (((KL_of hC h2139).1 C 5 (by omega)).trans (((KL_of hC h2135).1 C 5 (by omega)).trans ((KL_of hC h2132).1 C 5 (by omega)))).trans (hv131.trans (congrArg (fun z => z + 1) (((hU127 C 5 (by omega)).trans ((KL_of hC h2103).1 C 5 (by omega))).trans (hD99.1 C 5 (by omega) (by omega)))))
                                have h35 : s90.1 170 35 = -1 := (hB92.1 170 35 (by unfold SS; omega)).trans hI.2.1
                                have hnC1 : s140.1 C 1 = s90.1 C 1 := (((KL_of hC h2139).1 C 1 (by omega)).trans (((KL_of hC h2135).1 C 1 (by omega)).trans (((KL_of hC h2132).1 C 1 (by omega)).trans ((hU131 C 1 (by omega)).trans ((hU127 C 1 (by omega)).trans ((KL_of hC h2103).1 C 1 (by omega))))))).trans (hD99.1 C 1 (by omega) (by omega))
                                have hnC3 : s140.1 C 3 = s90.1 C 3 := (((KL_of hC h2139).1 C 3 (by omega)).trans (((KL_of hC h2135).1 C 3 (by omega)).trans (((KL_of hC h2132).1 C 3 (by omega)).trans ((hU131 C 3 (by omega)).trans ((hU127 C 3 (by omega)).trans ((KL_of hC h2103).1 C 3 (by omega))))))).trans (hD99.1 C 3 (by omega) (by omega))
                                have hnC10 : s140.1 C 10 = s90.1 C 10 := (((KL_of hC h2139).1 C 10 (by omega)).trans (((KL_of hC h2135).1 C 10 (by omega)).trans (((KL_of hC h2132).1 C 10 (by omega)).trans ((hU131 C 10 (by omega)).trans ((hU127 C 10 (by omega)).trans ((KL_of hC h2103).1 C 10 (by omega))))))).trans (hD99.1 C 10 (by omega) (by omega))
                                have hn17016 : s140.1 170 16 = s90.1 170 16 := (((KL_of hC h2139).1 170 16 (by omega)).trans (((KL_of hC h2135).1 170 16 (by omega)).trans (((KL_of hC h2132).1 170 16 (by omega)).trans ((hU131 170 16 (by omega)).trans ((hU127 170 16 (by omega)).trans ((KL_of hC h2103).1 170 16 (by omega))))))).trans (hD99.1 170 16 (by omega) (by omega))
                                have hn17021 : s140.1 170 21 = s90.1 170 21 := (((KL_of hC h2139).1 170 21 (by omega)).trans (((KL_of hC h2135).1 170 21 (by omega)).trans (((KL_of hC h2132).1 170 21 (by omega)).trans ((hU131 170 21 (by omega)).trans ((hU127 170 21 (by omega)).trans ((KL_of hC h2103).1 170 21 (by omega))))))).trans (hD99.1 170 21 (by omega) (by omega))
                                have hcd : ∀ p, s140.1 (C + 1) p = s90.1 (C + 1) p := fun p => (((KL_of hC h2139).1 (C + 1) p (by omega)).trans (((KL_of hC h2135).1 (C + 1) p (by omega)).trans (((KL_of hC h2132).1 (C + 1) p (by omega)).trans ((hU131 (C + 1) p (by omega)).trans ((hU127 (C + 1) p (by omega)).trans ((KL_of hC h2103).1 (C + 1) p (by omega))))))).trans (hD99.1 (C + 1) p (by omega) (by omega))
                                have hix : s104.1 C 5 = s90.1 C 5 := (((KL_of hC h2103).1 C 5 (by omega)).trans (hD99.1 C 5 (by omega) (by omega)))
                                have hsz : s140.1 (C + 3) (s90.1 C 5).toNat = s104.1 170 7 := by rw [← hix]; exact (((KL_of hC h2139).1 (C + 3) (s104.1 C 5).toNat (by omega)).trans (((KL_of hC h2135).1 (C + 3) (s104.1 C 5).toNat (by omega)).trans (((KL_of hC h2132).1 (C + 3) (s104.1 C 5).toNat (by omega)).trans (hU131 (C + 3) (s104.1 C 5).toNat (by omega))))).trans hv127
                                have hPl := PI_array hC hP92 hNN (by omega) h35 hD99 (by omega) (fun k j e1 e2 e3 => (((KL_of hC h2139).1 k j (by omega)).trans (((KL_of hC h2135).1 k j (by omega)).trans (((KL_of hC h2132).1 k j (by omega)).trans ((hU131 k j (by omega)).trans ((hU127 k j (by omega)).trans ((KL_of hC h2103).1 k j (by omega)))))))) hvc (by rw [hsz]; omega) hL139 (by omega)
                                refine ⟨1, rfl, hz139, Or.inr ⟨rfl, hR139, hG139, by omega, (ya y (ga y + 1)), mr, hPl, ?_, ?_, hI.2.2.2.1, ?_⟩⟩
                                · exact ((((KL_of hC h2139).1 170 35 (by omega)).trans (((KL_of hC h2135).1 170 35 (by omega)).trans (((KL_of hC h2132).1 170 35 (by omega)).trans ((hU131 170 35 (by omega)).trans ((hU127 170 35 (by omega)).trans ((KL_of hC h2103).1 170 35 (by omega))))))).trans (hD99.1 170 35 (by omega) (by omega))).trans h35
                                · show _ ∧ _ ∧ _ ∧ _ ∧ _ ∧ _ ∧ _ ∧ _ ∧ 3 * (gk y (gn y) : Int) ≤ _
                                  omega
                                · intro hpar
                                  rw [hn17021] at hpar
                                  exact EV_mono (Nat.le_refl _) (Nat.le_succ _) (EV_agr (fun p hp => (hcd p).trans (BX_code hC hB92 (by omega))) (hI.2.2.2.2 (BX_po hB92 hpar)))
                        · refine wr_if2f rfl rfl (by unfold i32; omega) (by unfold i32; omega) h120 ?_
                          refine wr_n (pc2 := 250) (lv2 := [(3, vi b9), (2, vi b5), (1, vi b1), (0, .ref 170)]) (st2 := [.ref 170]) 1 (fun _ _ => rfl) ?_
                          refine wr_call1 (args := []) (rest := []) rfl rfl rfl rfl (Nat.le_of_ble_eq_true rfl) (cr_mono (x_bad0 (C := C) (d := d + 497) _ hR103) ?_)
                          rintro s144 out ⟨rfl, hc143, hF143⟩
                          · refine ⟨_, rfl, ?_⟩
                            show wr (d + 499) tb_M128 253 [(3, vi b9), (2, vi b5), (1, vi b1), (0, .ref 170)] [vi 0] s144 _
                            refine wr_end (fun _ _ => rfl) ?_
                            exact ⟨0, rfl, hc143.trans hz103, Or.inl ⟨rfl, FR_tr (hG103) hF143⟩⟩
                      · refine ⟨_, rfl, ?_⟩
                        rw [he113]
                        show wr (d + 499) tb_M128 235 [(3, vi b9), (2, vi b5), (1, vi b1), (0, .ref 170)] [vi 0] s104 _
                        clear hi113
                        refine wr_n (pc2 := 250) (lv2 := [(3, vi b9), (2, vi b5), (1, vi b1), (0, .ref 170)]) (st2 := [.ref 170]) 2 (fun _ _ => rfl) ?_
                        refine wr_call1 (args := []) (rest := []) rfl rfl rfl rfl (Nat.le_of_ble_eq_true rfl) (cr_mono (x_bad0 (C := C) (d := d + 497) _ hR103) ?_)
                        rintro s147 out ⟨rfl, hc146, hF146⟩
                        · refine ⟨_, rfl, ?_⟩
                          show wr (d + 499) tb_M128 253 [(3, vi b9), (2, vi b5), (1, vi b1), (0, .ref 170)] [vi 0] s147 _
                          refine wr_end (fun _ _ => rfl) ?_
                          exact ⟨0, rfl, hc146.trans hz103, Or.inl ⟨rfl, FR_tr (hG103) hF146⟩⟩
              · refine ⟨_, rfl, ?_⟩
                show wr (d + 499) tb_M128 185 [(3, vi b9), (2, vi b5), (1, vi b1), (0, .ref 170)] [vi 0] s96 _
                refine wr_n (pc2 := 214) (lv2 := [(3, vi b9), (2, vi b5), (1, vi b1), (0, .ref 170)]) (st2 := [vi 0]) 2 (fun _ _ => rfl) ?_
                refine wr_end (fun _ _ => rfl) ?_
                exact ⟨0, rfl, hc95.trans hz92, Or.inl ⟨rfl, FR_tr (BX_FR hB92) (FR_bad h295)⟩⟩
        · refine wr_if1f rfl rfl (by unfold i32; omega) h22 ?_
          refine wr_n (pc2 := 81) (lv2 := [(3, vi b9), (2, vi b5), (1, vi b1), (0, .ref 170)]) (st2 := [.ref 170]) 1 (fun _ _ => rfl) ?_
          refine wr_call1 (args := []) (rest := []) rfl rfl rfl rfl (Nat.le_of_ble_eq_true rfl) (cr_mono (x_step (d := d + 493) hC _ hR hP) ?_)
          rintro s151 out ⟨rfl, hc150, hR150, hBk150, hK150, hf150⟩
          · refine ⟨_, rfl, ?_⟩
            show wr (d + 499) tb_M128 84 [(3, vi b9), (2, vi b5), (1, vi b1), (0, .ref 170)] [] s151 _
            obtain ⟨hu150, hk150⟩ := id hK150
            replace hf150 : s.1 170 5 + 1 ≤ s151.1 170 5 := Int.le_trans (LX_lt hP (by omega)) hf150
            have hm150 : s151.1 C 1 = ((m : Nat) : Int) := by omega
            have hB153 : BX C (gn y) s.1 s151.1 := BX_tr hC (PI_rf hP) hBk150
            have hP153 : PI C y s151.1 := PI_BX hC hP hB153
            have hQ153 : CS s.1 s151.1 := CS_tr (CS_rf (r := s.1)) (KL_CS hK150)
            have hz153 : s151.2 = s.2 := hc150.trans rfl
            have hx153 := LX_nums hP153
            have hF153 : s.1 170 5 + 1 ≤ s151.1 170 5 ∧ s151.1 170 14 = s.1 170 14 ∧ s151.1 170 16 = s.1 170 16 ∧ s151.1 170 21 = s.1 170 21 ∧ s151.1 C 3 = s.1 C 3 ∧ s151.1 C 10 = s.1 C 10 ∧ 0 ≤ s151.1 170 5 ∧ s151.1 170 5 ≤ s151.1 170 6 ∧ s151.1 170 6 ≤ 2000 := by omega
            clear hk150 hf150 hx153
            refine wr_n (pc2 := 87) (lv2 := [(3, vi b9), (2, vi b5), (1, vi b1), (0, .ref 170)]) (st2 := [vi 16, .ref 170]) 2 (fun _ _ => rfl) ?_
            refine wr_call1 (args := [vi 16]) (rest := []) rfl rfl rfl rfl (Nat.le_of_ble_eq_true rfl) (cr_mono (x_variable (d := d + 491) (t := 16) hC _ hR150 hP153 (by unfold i32; omega)) ?_)
            rintro s155 out ⟨b, rfl, hc154, ⟨rfl, hF154⟩ | ⟨rfl, hR154, hBk154, hu154, hf154, hg154, hn154⟩⟩
            · refine ⟨_, rfl, ?_⟩
              show wr (d + 499) tb_M128 90 [(3, vi b9), (2, vi b5), (1, vi b1), (0, .ref 170)] [vi 0] s155 _
              refine wr_n (pc2 := 103) (lv2 := [(3, vi b9), (2, vi b5), (1, vi b1), (0, .ref 170)]) (st2 := [vi 0]) 2 (fun _ _ => rfl) ?_
              refine wr_end (fun _ _ => rfl) ?_
              exact ⟨0, rfl, hc154.trans hz153, Or.inl ⟨rfl, FR_tr (BX_FR hB153) hF154⟩⟩
            · refine ⟨_, rfl, ?_⟩
              show wr (d + 499) tb_M128 90 [(3, vi b9), (2, vi b5), (1, vi b1), (0, .ref 170)] [vi 1] s155 _
              have hk154 : s155.1 170 16 = s151.1 170 16 ∧ s155.1 170 21 = s151.1 170 21 ∧ s155.1 C 1 = s151.1 C 1 ∧ s155.1 C 3 = s151.1 C 3 ∧ s155.1 C 10 = s151.1 C 10 := ⟨hu154 _ _ (by omega) (by omega) (by omega) (by omega), hu154 _ _ (by omega) (by omega) (by omega) (by omega), hu154 _ _ (by omega) (by omega) (by omega) (by omega), hu154 _ _ (by omega) (by omega) (by omega) (by omega), hu154 _ _ (by omega) (by omega) (by omega) (by omega)⟩
              have hm154 : s155.1 C 1 = ((m : Nat) : Int) := by omega
              have hgv : 1 ≤ s155.1 C 4 := by have h8 := hP153.2.2.2.1.1.1; omega
              have hB158 : BX C (gn y) s.1 s155.1 := BX_tr hC hB153 hBk154
              have hP158 : PI C y s155.1 := PI_BX hC hP hB158
              have hQ158 : CS s.1 s155.1 := CS_tr hQ153 (CS_eq (hu154 170 26 (by omega) (by omega) (by omega) (by omega)))
              have hz158 : s155.2 = s.2 := hc154.trans hz153
              have hx158 := LX_nums hP158
              have hF158 : s.1 170 5 + 2 ≤ s155.1 170 5 ∧ s.1 170 14 ≤ s155.1 170 14 ∧ s155.1 170 16 = s.1 170 16 ∧ s155.1 170 21 = s.1 170 21 ∧ s155.1 C 3 = s.1 C 3 ∧ s155.1 C 10 = s.1 C 10 ∧ 0 ≤ s155.1 170 5 ∧ s155.1 170 5 ≤ s155.1 170 6 ∧ s155.1 170 6 ≤ 2000 := by omega
              clear hk154 hf154 hg154 hn154 hx158 hF153
              refine wr_n (pc2 := 96) (lv2 := [(3, vi b9), (2, vi b5), (1, vi b1), (0, .ref 170)]) (st2 := [.ref 92, .ref 170]) 3 (fun _ _ => rfl) ?_
              refine wr_call1 (args := [.ref 92]) (rest := []) rfl rfl rfl rfl (Nat.le_of_ble_eq_true rfl) (cr_mono (x_take (d := d + 492) isT_92 hC _ hR154 hP158) ?_)
              rintro s160 out ⟨b, rfl, hc159, ⟨rfl, hF159⟩ | ⟨rfl, hR159, hBk159, hK159, hf159⟩⟩
              · refine ⟨_, rfl, ?_⟩
                show wr (d + 499) tb_M128 99 [(3, vi b9), (2, vi b5), (1, vi b1), (0, .ref 170)] [vi 0] s160 _
                refine wr_n (pc2 := 103) (lv2 := [(3, vi b9), (2, vi b5), (1, vi b1), (0, .ref 170)]) (st2 := [vi 0]) 2 (fun _ _ => rfl) ?_
                refine wr_end (fun _ _ => rfl) ?_
                exact ⟨0, rfl, hc159.trans hz158, Or.inl ⟨rfl, FR_tr (BX_FR hB158) hF159⟩⟩
              · refine ⟨_, rfl, ?_⟩
                show wr (d + 499) tb_M128 99 [(3, vi b9), (2, vi b5), (1, vi b1), (0, .ref 170)] [vi 1] s160 _
                obtain ⟨hu159, hk159⟩ := id hK159
                replace hf159 : s155.1 170 5 + 1 ≤ s160.1 170 5 := hf159
                have hm159 : s160.1 C 1 = ((m : Nat) : Int) := by omega
                have hB163 : BX C (gn y) s.1 s160.1 := BX_tr hC hB158 hBk159
                have hP163 : PI C y s160.1 := PI_BX hC hP hB163
                have hQ163 : CS s.1 s160.1 := CS_tr hQ158 (KL_CS hK159)
                have hz163 : s160.2 = s.2 := hc159.trans hz158
                have hx163 := LX_nums hP163
                have hF163 : s.1 170 5 + 3 ≤ s160.1 170 5 ∧ s160.1 170 14 = s155.1 170 14 ∧ s160.1 170 16 = s.1 170 16 ∧ s160.1 170 21 = s.1 170 21 ∧ s160.1 C 3 = s.1 C 3 ∧ s160.1 C 10 = s.1 C 10 ∧ 0 ≤ s160.1 170 5 ∧ s160.1 170 5 ≤ s160.1 170 6 ∧ s160.1 170 6 ≤ 2000 := by omega
                clear hk159 hf159 hx163
                refine wr_n (pc2 := 105) (lv2 := [(3, vi b9), (2, vi b5), (1, vi b1), (0, .ref 170)]) (st2 := [.ref 170]) 2 (fun _ _ => rfl) ?_
                refine wr_get (v := vi (s160.1 170 4)) rfl rfl rfl (by decide) rfl fun h164 => ?_
                have h164 : -2147483648 ≤ s160.1 170 4 ∧ s160.1 170 4 ≤ 2147483647 := h164
                show wr (d + 499) tb_M128 108 [(3, vi b9), (2, vi b5), (1, vi b1), (0, .ref 170)] [vi (s160.1 170 4)] s160 _
                refine wr_n (pc2 := 109) (lv2 := [(3, vi b9), (2, vi b5), (1, vi b1), (0, .ref 170)]) (st2 := [vi 3, vi (s160.1 170 4)]) 1 (fun _ _ => rfl) ?_
                by_cases h165 : s160.1 170 4 ≠ 3
                · refine wr_if2t rfl rfl (by unfold i32; omega) (by unfold i32; omega) h165 ?_
                  refine wr_n (pc2 := 128) (lv2 := [(3, vi b9), (2, vi b5), (1, vi b1), (0, .ref 170)]) (st2 := [.ref 170]) 1 (fun _ _ => rfl) ?_
                  refine wr_call1 (args := []) (rest := []) rfl rfl rfl rfl (Nat.le_of_ble_eq_true rfl) (cr_mono (x_bad0 (C := C) (d := d + 497) _ hR159) ?_)
                  rintro s167 out ⟨rfl, hc166, hF166⟩
                  · refine ⟨_, rfl, ?_⟩
                    show wr (d + 499) tb_M128 131 [(3, vi b9), (2, vi b5), (1, vi b1), (0, .ref 170)] [vi 0] s167 _
                    refine wr_end (fun _ _ => rfl) ?_
                    exact ⟨0, rfl, hc166.trans hz163, Or.inl ⟨rfl, FR_tr (BX_FR hB163) hF166⟩⟩
                · refine wr_if2f rfl rfl (by unfold i32; omega) (by unfold i32; omega) h165 ?_
                  have hnr3 := LX_num hP163 (by omega)
                  refine wr_n (pc2 := 113) (lv2 := [(3, vi b9), (2, vi b5), (1, vi b1), (0, .ref 170)]) (st2 := [.ref 170]) 1 (fun _ _ => rfl) ?_
                  refine wr_get (v := vi (s160.1 170 7)) rfl rfl rfl (by decide) rfl fun h169 => ?_
                  have h169 : -2147483648 ≤ s160.1 170 7 ∧ s160.1 170 7 ≤ 2147483647 := h169
                  show wr (d + 499) tb_M128 116 [(3, vi b9), (2, vi b5), (1, vi b1), (0, .ref 170)] [vi (s160.1 170 7)] s160 _
                  refine wr_i2l (a := s160.1 170 7) rfl (by unfold i32; omega) ?_
                  show wr (d + 499) tb_M128 117 [(3, vi b9), (2, vi b5), (1, vi b1), (0, .ref 170)] [vl (s160.1 170 7)] s160 _
                  refine wr_n (pc2 := 121) (lv2 := [(3, vi b9), (2, vi b5), (1, vi b1), (0, .ref 170)]) (st2 := [vl 16, vl 1, vl (s160.1 170 7)]) 2 (fun _ _ => rfl) ?_
                  refine wr_call0 (args := [vl (s160.1 170 7), vl 1, vl 16]) (rest := []) rfl rfl rfl (Nat.le_of_ble_eq_true rfl) (cr_mono (c_in (d := d + 498) (a := s160.1 170 7) (b := 1) (c := 16) _ (by unfold i64; omega) (by unfold i64; omega) (by unfold i64; omega)) ?_)
                  rintro s171 out ⟨e, rfl, ⟨rfl, hi170⟩ | ⟨rfl, hi170⟩, he170⟩
                  · refine ⟨_, rfl, ?_⟩
                    rw [he170]
                    show wr (d + 499) tb_M128 124 [(3, vi b9), (2, vi b5), (1, vi b1), (0, .ref 170)] [vi 1] s160 _
                    refine wr_n (pc2 := 133) (lv2 := [(3, vi b9), (2, vi b5), (1, vi b1), (0, .ref 170)]) (st2 := [.ref 170]) 2 (fun _ _ => rfl) ?_
                    refine wr_get (v := .ref C) rfl rfl rfl (by decide) (rv_ref (show s160.1 170 19 = ((C : Nat) : Int) from hP163.1)) fun h172 => ?_
                    show wr (d + 499) tb_M128 136 [(3, vi b9), (2, vi b5), (1, vi b1), (0, .ref 170)] [.ref C] s160 _
                    refine wr_get (v := .ref (C + 2)) rfl rfl (TG_C hC) (by decide) (rv_ref (hR159 C 11 (C + 2) (rc_C11 hC))) fun h173 => ?_
                    show wr (d + 499) tb_M128 139 [(3, vi b9), (2, vi b5), (1, vi b1), (0, .ref 170)] [.ref (C + 2)] s160 _
                    refine wr_n (pc2 := 140) (lv2 := [(3, vi b9), (2, vi b5), (1, vi b1), (0, .ref 170)]) (st2 := [.ref 170, .ref (C + 2)]) 1 (fun _ _ => rfl) ?_
                    refine wr_get (v := .ref C) rfl rfl rfl (by decide) (rv_ref (show s160.1 170 19 = ((C : Nat) : Int) from hP163.1)) fun h174 => ?_
                    show wr (d + 499) tb_M128 143 [(3, vi b9), (2, vi b5), (1, vi b1), (0, .ref 170)] [.ref C, .ref (C + 2)] s160 _
                    refine wr_get (v := vi (s160.1 C 4)) rfl rfl (TG_C hC) (by decide) rfl fun h175 => ?_
                    have h175 : -2147483648 ≤ s160.1 C 4 ∧ s160.1 C 4 ≤ 2147483647 := h175
                    show wr (d + 499) tb_M128 146 [(3, vi b9), (2, vi b5), (1, vi b1), (0, .ref 170)] [vi (s160.1 C 4), .ref (C + 2)] s160 _
                    refine wr_n (pc2 := 147) (lv2 := [(3, vi b9), (2, vi b5), (1, vi b1), (0, .ref 170)]) (st2 := [vi 1, vi (s160.1 C 4), .ref (C + 2)]) 1 (fun _ _ => rfl) ?_
                    refine wr_sub (a := s160.1 C 4) (b := 1) rfl ?_
                    show wr (d + 499) tb_M128 148 [(3, vi b9), (2, vi b5), (1, vi b1), (0, .ref 170)] [vi ((s160.1 C 4) - 1), .ref (C + 2)] s160 _
                    have hv4 := hP163.2.2.2.1.1
                    have hv5 : 1 ≤ s160.1 C 4 := by rw [hu159 C 4 (by omega)]; exact hgv
                    refine wr_n (pc2 := 149) (lv2 := [(3, vi b9), (2, vi b5), (1, vi b1), (0, .ref 170)]) (st2 := [.ref 170, vi ((s160.1 C 4) - 1), .ref (C + 2)]) 1 (fun _ _ => rfl) ?_
                    refine wr_get (v := vi (s160.1 170 7)) rfl rfl rfl (by decide) rfl fun h176 => ?_
                    have h176 : -2147483648 ≤ s160.1 170 7 ∧ s160.1 170 7 ≤ 2147483647 := h176
                    show wr (d + 499) tb_M128 152 [(3, vi b9), (2, vi b5), (1, vi b1), (0, .ref 170)] [vi (s160.1 170 7), vi ((s160.1 C 4) - 1), .ref (C + 2)] s160 _
                    refine wr_ast (a := (s160.1 C 4) - 1) (z := s160.1 170 7) rfl (show 96 ≤ C + 2 by omega) (TG_C2 hC) rfl (by omega) (by omega) (by decide) rfl (show -2147483648 ≤ s160.1 170 7 ∧ s160.1 170 7 ≤ 2147483647 by omega) ?_
                    show wr (d + 499) tb_M128 153 [(3, vi b9), (2, vi b5), (1, vi b1), (0, .ref 170)] [] (up2 s160.1 (C + 2) (((s160.1 C 4) - 1).toNat) (s160.1 170 7), s160.2) _
                    have hR177 : RF (up2 s160.1 (C + 2) (((s160.1 C 4) - 1).toNat) (s160.1 170 7)) := (RF_up hR159 (PS_rc hC (by unfold PS; omega)))
                    obtain ⟨s178, hs178⟩ : ∃ qq9 : rS, qq9 = (up2 s160.1 (C + 2) (((s160.1 C 4) - 1).toNat) (s160.1 170 7), s160.2) := ⟨_, rfl⟩
                    rw [← hs178]
                    have hU178 : U1 (C + 2) (((s160.1 C 4) - 1).toNat) s160.1 s178.1 := by rw [hs178]; exact U1_up
                    have hv178 : s178.1 (C + 2) (((s160.1 C 4) - 1).toNat) = s160.1 170 7 := by rw [hs178]; show up2 s160.1 (C + 2) (((s160.1 C 4) - 1).toNat) (s160.1 170 7) (C + 2) (((s160.1 C 4) - 1).toNat) = _; exact up_self
                    have hk178 : s178.1 170 4 = s160.1 170 4 ∧ s178.1 170 5 = s160.1 170 5 ∧ s178.1 170 6 = s160.1 170 6 ∧ s178.1 170 7 = s160.1 170 7 ∧ s178.1 170 14 = s160.1 170 14 ∧ s178.1 170 16 = s160.1 170 16 ∧ s178.1 170 21 = s160.1 170 21 ∧ s178.1 C 1 = s160.1 C 1 ∧ s178.1 C 3 = s160.1 C 3 ∧ s178.1 C 10 = s160.1 C 10 := ⟨hU178 _ _ (by omega), hU178 _ _ (by omega), hU178 _ _ (by omega), hU178 _ _ (by omega), hU178 _ _ (by omega), hU178 _ _ (by omega), hU178 _ _ (by omega), hU178 _ _ (by omega), hU178 _ _ (by omega), hU178 _ _ (by omega)⟩
                    have hBs178 : BX C (gn y) s.1 s178.1 := by rw [hs178]; exact BX_set hC hB163 (by unfold SS; omega) (by unfold quiet; omega)
                    have hR178 : RF s178.1 := BX_RF hC hBs178 hR
                    have hc178 : s178.2 = s160.2 := by rw [hs178]
                    have hm178 : s178.1 C 1 = ((m : Nat) : Int) := by omega
                    have hB179 : BX C (gn y) s.1 s178.1 := hBs178
                    have hP179 : PI C y s178.1 := PI_BX hC hP hB179
                    have hQ179 : CS s.1 s178.1 := CS_tr hQ163 (CS_eq (hU178 170 26 (by omega)))
                    have hz179 : s178.2 = s.2 := hc178.trans hz163
                    have hF179 : s178.1 170 4 = s160.1 170 4 ∧ s178.1 170 5 = s160.1 170 5 ∧ s178.1 170 6 = s160.1 170 6 ∧ s178.1 170 7 = s160.1 170 7 ∧ s178.1 170 14 = s155.1 170 14 ∧ s178.1 170 16 = s.1 170 16 ∧ s178.1 170 21 = s.1 170 21 ∧ s178.1 C 3 = s.1 C 3 ∧ s178.1 C 10 = s.1 C 10 ∧ s.1 170 5 + 3 ≤ s178.1 170 5 ∧ 0 ≤ s178.1 170 5 ∧ s178.1 170 5 ≤ s178.1 170 6 ∧ s178.1 170 6 ≤ 2000 := by omega
                    clear hk178 hF163
                    show wr (d + 499) tb_M128 153 [(3, vi b9), (2, vi b5), (1, vi b1), (0, .ref 170)] [] s178 _
                    refine wr_n (pc2 := 154) (lv2 := [(3, vi b9), (2, vi b5), (1, vi b1), (0, .ref 170)]) (st2 := [.ref 170]) 1 (fun _ _ => rfl) ?_
                    refine wr_call1 (args := []) (rest := []) rfl rfl rfl rfl (Nat.le_of_ble_eq_true rfl) (cr_mono (x_step (d := d + 493) hC _ hR178 hP179) ?_)
                    rintro s181 out ⟨rfl, hc180, hR180, hBk180, hK180, hf180⟩
                    · refine ⟨_, rfl, ?_⟩
                      show wr (d + 499) tb_M128 157 [(3, vi b9), (2, vi b5), (1, vi b1), (0, .ref 170)] [] s181 _
                      obtain ⟨hu180, hk180⟩ := id hK180
                      replace hf180 : s178.1 170 5 + 1 ≤ s181.1 170 5 := Int.le_trans (LX_lt hP179 (by omega)) hf180
                      have hm180 : s181.1 C 1 = ((m : Nat) : Int) := by omega
                      have hB183 : BX C (gn y) s.1 s181.1 := BX_tr hC hB179 hBk180
                      have hP183 : PI C y s181.1 := PI_BX hC hP hB183
                      have hQ183 : CS s.1 s181.1 := CS_tr hQ179 (KL_CS hK180)
                      have hz183 : s181.2 = s.2 := hc180.trans hz179
                      have hx183 := LX_nums hP183
                      have hF183 : s.1 170 5 + 4 ≤ s181.1 170 5 ∧ s181.1 170 14 = s155.1 170 14 ∧ s181.1 170 16 = s.1 170 16 ∧ s181.1 170 21 = s.1 170 21 ∧ s181.1 C 3 = s.1 C 3 ∧ s181.1 C 10 = s.1 C 10 ∧ 0 ≤ s181.1 170 5 ∧ s181.1 170 5 ≤ s181.1 170 6 ∧ s181.1 170 6 ≤ 2000 := by omega
                      clear hk180 hf180 hx183 hF179
                      refine wr_n (pc2 := 160) (lv2 := [(3, vi b9), (2, vi b5), (1, vi b1), (0, .ref 170)]) (st2 := [.ref 30, .ref 170]) 2 (fun _ _ => rfl) ?_
                      refine wr_call1 (args := [.ref 30]) (rest := []) rfl rfl rfl rfl (Nat.le_of_ble_eq_true rfl) (cr_mono (x_take (d := d + 492) isT_30 hC _ hR180 hP183) ?_)
                      rintro s185 out ⟨b, rfl, hc184, ⟨rfl, hF184⟩ | ⟨rfl, hR184, hBk184, hK184, hf184⟩⟩
                      · refine ⟨_, rfl, ?_⟩
                        show wr (d + 499) tb_M128 163 [(3, vi b9), (2, vi b5), (1, vi b1), (0, .ref 170)] [vi 0] s185 _
                        refine wr_end (fun _ _ => rfl) ?_
                        exact ⟨0, rfl, hc184.trans hz183, Or.inl ⟨rfl, FR_tr (BX_FR hB183) hF184⟩⟩
                      · refine ⟨_, rfl, ?_⟩
                        show wr (d + 499) tb_M128 163 [(3, vi b9), (2, vi b5), (1, vi b1), (0, .ref 170)] [vi 1] s185 _
                        obtain ⟨hu184, hk184⟩ := id hK184
                        replace hf184 : s181.1 170 5 + 1 ≤ s185.1 170 5 := hf184
                        have hm184 : s185.1 C 1 = ((m : Nat) : Int) := by omega
                        have hB188 : BX C (gn y) s.1 s185.1 := BX_tr hC hB183 hBk184
                        have hP188 : PI C y s185.1 := PI_BX hC hP hB188
                        have hQ188 : CS s.1 s185.1 := CS_tr hQ183 (KL_CS hK184)
                        have hz188 : s185.2 = s.2 := hc184.trans hz183
                        have hx188 := LX_nums hP188
                        have hF188 : s.1 170 5 + 5 ≤ s185.1 170 5 ∧ s185.1 170 14 = s155.1 170 14 ∧ s185.1 170 16 = s.1 170 16 ∧ s185.1 170 21 = s.1 170 21 ∧ s185.1 C 3 = s.1 C 3 ∧ s185.1 C 10 = s.1 C 10 ∧ 0 ≤ s185.1 170 5 ∧ s185.1 170 5 ≤ s185.1 170 6 ∧ s185.1 170 6 ≤ 2000 := by omega
                        clear hk184 hf184 hx188 hF183
                        refine wr_end (fun _ _ => rfl) ?_
                        refine ⟨1, rfl, hz188, Or.inr ⟨rfl, hR184, BX_FR hB188, by omega, y, mr, hP188, ?_, ?_, hI.2.2.2.1, ?_⟩⟩
                        · rw [hB188.1 170 35 (by unfold SS; omega)]; exact hI.2.1
                        · omega
                        · intro hpar; exact EV_agr (fun p hp => BX_code hC hB188 (by omega)) (hI.2.2.2.2 (BX_po hB188 hpar))
                  · refine ⟨_, rfl, ?_⟩
                    rw [he170]
                    show wr (d + 499) tb_M128 124 [(3, vi b9), (2, vi b5), (1, vi b1), (0, .ref 170)] [vi 0] s160 _
                    clear hi170
                    refine wr_n (pc2 := 128) (lv2 := [(3, vi b9), (2, vi b5), (1, vi b1), (0, .ref 170)]) (st2 := [.ref 170]) 2 (fun _ _ => rfl) ?_
                    refine wr_call1 (args := []) (rest := []) rfl rfl rfl rfl (Nat.le_of_ble_eq_true rfl) (cr_mono (x_bad0 (C := C) (d := d + 497) _ hR159) ?_)
                    rintro s190 out ⟨rfl, hc189, hF189⟩
                    · refine ⟨_, rfl, ?_⟩
                      show wr (d + 499) tb_M128 131 [(3, vi b9), (2, vi b5), (1, vi b1), (0, .ref 170)] [vi 0] s190 _
                      refine wr_end (fun _ _ => rfl) ?_
                      exact ⟨0, rfl, hc189.trans hz163, Or.inl ⟨rfl, FR_tr (BX_FR hB163) hF189⟩⟩
      · refine ⟨_, rfl, ?_⟩
        rw [he20]
        show wr (d + 499) tb_M128 46 [(3, vi b9), (2, vi b5), (1, vi b1), (0, .ref 170)] [vi 1] s _
        have hg20 : 1 ≤ s.1 170 4 ∧ s.1 170 5 + 3 = s.1 170 6 := ⟨by omega, hl20⟩
        clear hj20 hl20
        refine wr_n (pc2 := 50) (lv2 := [(3, vi b9), (2, vi b5), (1, vi b1), (0, .ref 170)]) (st2 := [.ref 170]) 2 (fun _ _ => rfl) ?_
        refine wr_call1 (args := []) (rest := []) rfl rfl rfl rfl (Nat.le_of_ble_eq_true rfl) (cr_mono (x_step (d := d + 493) hC _ hR hP) ?_)
        rintro s193 out ⟨rfl, hc192, hR192, hBk192, hK192, hf192⟩
        · refine ⟨_, rfl, ?_⟩
          show wr (d + 499) tb_M128 53 [(3, vi b9), (2, vi b5), (1, vi b1), (0, .ref 170)] [] s193 _
          obtain ⟨hu192, hk192⟩ := id hK192
          replace hf192 : s.1 170 6 ≤ s193.1 170 5 := hf192
          have hm192 : s193.1 C 1 = ((m : Nat) : Int) := by omega
          have hB195 : BX C (gn y) s.1 s193.1 := BX_tr hC (PI_rf hP) hBk192
          have hP195 : PI C y s193.1 := PI_BX hC hP hB195
          have hQ195 : CS s.1 s193.1 := CS_tr (CS_rf (r := s.1)) (KL_CS hK192)
          have hz195 : s193.2 = s.2 := hc192.trans rfl
          have hx195 := LX_nums hP195
          have hF195 : s.1 170 5 + 3 ≤ s193.1 170 5 ∧ s193.1 170 14 = s.1 170 14 ∧ s193.1 170 16 = s.1 170 16 ∧ s193.1 170 21 = s.1 170 21 ∧ s193.1 C 3 = s.1 C 3 ∧ s193.1 C 10 = s.1 C 10 ∧ 0 ≤ s193.1 170 5 ∧ s193.1 170 5 ≤ s193.1 170 6 ∧ s193.1 170 6 ≤ 2000 := by omega
          clear hk192 hf192 hx195
          refine wr_n (pc2 := 55) (lv2 := [(3, vi b9), (2, vi b5), (1, vi b1), (0, .ref 170)]) (st2 := [vi 0, .ref 170]) 2 (fun _ _ => rfl) ?_
          refine wr_call1 (args := [vi 0]) (rest := []) rfl rfl rfl rfl (Nat.le_of_ble_eq_true rfl) (cr_mono (x_variable (d := d + 491) (t := 0) hC _ hR192 hP195 (by unfold i32; omega)) ?_)
          rintro s197 out ⟨b, rfl, hc196, ⟨rfl, hF196⟩ | ⟨rfl, hR196, hBk196, hu196, hf196, hg196, hn196⟩⟩
          · refine ⟨_, rfl, ?_⟩
            show wr (d + 499) tb_M128 58 [(3, vi b9), (2, vi b5), (1, vi b1), (0, .ref 170)] [vi 0] s197 _
            refine wr_n (pc2 := 75) (lv2 := [(3, vi b9), (2, vi b5), (1, vi b1), (0, .ref 170)]) (st2 := [vi 0]) 2 (fun _ _ => rfl) ?_
            refine wr_end (fun _ _ => rfl) ?_
            exact ⟨0, rfl, hc196.trans hz195, Or.inl ⟨rfl, FR_tr (BX_FR hB195) hF196⟩⟩
          · refine ⟨_, rfl, ?_⟩
            show wr (d + 499) tb_M128 58 [(3, vi b9), (2, vi b5), (1, vi b1), (0, .ref 170)] [vi 1] s197 _
            have hk196 : s197.1 170 16 = s193.1 170 16 ∧ s197.1 170 21 = s193.1 170 21 ∧ s197.1 C 1 = s193.1 C 1 ∧ s197.1 C 3 = s193.1 C 3 ∧ s197.1 C 10 = s193.1 C 10 := ⟨hu196 _ _ (by omega) (by omega) (by omega) (by omega), hu196 _ _ (by omega) (by omega) (by omega) (by omega), hu196 _ _ (by omega) (by omega) (by omega) (by omega), hu196 _ _ (by omega) (by omega) (by omega) (by omega), hu196 _ _ (by omega) (by omega) (by omega) (by omega)⟩
            have hm196 : s197.1 C 1 = ((m : Nat) : Int) := by omega
            have hgv : 1 ≤ s197.1 C 4 := by have h8 := hP195.2.2.2.1.1.1; omega
            have hB200 : BX C (gn y) s.1 s197.1 := BX_tr hC hB195 hBk196
            have hP200 : PI C y s197.1 := PI_BX hC hP hB200
            have hQ200 : CS s.1 s197.1 := CS_tr hQ195 (CS_eq (hu196 170 26 (by omega) (by omega) (by omega) (by omega)))
            have hz200 : s197.2 = s.2 := hc196.trans hz195
            have hx200 := LX_nums hP200
            have hF200 : s.1 170 5 + 4 ≤ s197.1 170 5 ∧ s.1 170 14 ≤ s197.1 170 14 ∧ s197.1 170 16 = s.1 170 16 ∧ s197.1 170 21 = s.1 170 21 ∧ s197.1 C 3 = s.1 C 3 ∧ s197.1 C 10 = s.1 C 10 ∧ 0 ≤ s197.1 170 5 ∧ s197.1 170 5 ≤ s197.1 170 6 ∧ s197.1 170 6 ≤ 2000 := by omega
            clear hk196 hf196 hg196 hn196 hx200 hF195
            refine wr_n (pc2 := 64) (lv2 := [(3, vi b9), (2, vi b5), (1, vi b1), (0, .ref 170)]) (st2 := [.ref 30, .ref 170]) 3 (fun _ _ => rfl) ?_
            refine wr_call1 (args := [.ref 30]) (rest := []) rfl rfl rfl rfl (Nat.le_of_ble_eq_true rfl) (cr_mono (x_take (d := d + 492) isT_30 hC _ hR196 hP200) ?_)
            rintro s202 out ⟨b, rfl, hc201, ⟨rfl, hF201⟩ | ⟨rfl, hR201, hBk201, hK201, hf201⟩⟩
            · refine ⟨_, rfl, ?_⟩
              show wr (d + 499) tb_M128 67 [(3, vi b9), (2, vi b5), (1, vi b1), (0, .ref 170)] [vi 0] s202 _
              refine wr_n (pc2 := 75) (lv2 := [(3, vi b9), (2, vi b5), (1, vi b1), (0, .ref 170)]) (st2 := [vi 0]) 2 (fun _ _ => rfl) ?_
              refine wr_end (fun _ _ => rfl) ?_
              exact ⟨0, rfl, hc201.trans hz200, Or.inl ⟨rfl, FR_tr (BX_FR hB200) hF201⟩⟩
            · refine ⟨_, rfl, ?_⟩
              show wr (d + 499) tb_M128 67 [(3, vi b9), (2, vi b5), (1, vi b1), (0, .ref 170)] [vi 1] s202 _
              obtain ⟨hu201, hk201⟩ := id hK201
              replace hf201 : s197.1 170 5 + 1 ≤ s202.1 170 5 := hf201
              have hm201 : s202.1 C 1 = ((m : Nat) : Int) := by omega
              have hB205 : BX C (gn y) s.1 s202.1 := BX_tr hC hB200 hBk201
              have hP205 : PI C y s202.1 := PI_BX hC hP hB205
              have hQ205 : CS s.1 s202.1 := CS_tr hQ200 (KL_CS hK201)
              have hz205 : s202.2 = s.2 := hc201.trans hz200
              have hx205 := LX_nums hP205
              have hF205 : s.1 170 5 + 5 ≤ s202.1 170 5 ∧ s202.1 170 14 = s197.1 170 14 ∧ s202.1 170 16 = s.1 170 16 ∧ s202.1 170 21 = s.1 170 21 ∧ s202.1 C 3 = s.1 C 3 ∧ s202.1 C 10 = s.1 C 10 ∧ 0 ≤ s202.1 170 5 ∧ s202.1 170 5 ≤ s202.1 170 6 ∧ s202.1 170 6 ≤ 2000 := by omega
              clear hk201 hf201 hx205
              refine wr_n (pc2 := 75) (lv2 := [(3, vi b9), (2, vi b5), (1, vi b1), (0, .ref 170)]) (st2 := [vi 1]) 3 (fun _ _ => rfl) ?_
              refine wr_end (fun _ _ => rfl) ?_
              refine ⟨1, rfl, hz205, Or.inr ⟨rfl, hR201, BX_FR hB205, by omega, y, mr, hP205, ?_, ?_, hI.2.2.2.1, ?_⟩⟩
              · rw [hB205.1 170 35 (by unfold SS; omega)]; exact hI.2.1
              · omega
              · intro hpar; exact EV_agr (fun p hp => BX_code hC hB205 (by omega)) (hI.2.2.2.2 (BX_po hB205 hpar))
    · refine ⟨_, rfl, ?_⟩
      rw [he18]
      show wr (d + 499) tb_M128 31 [(3, vi b9), (2, vi b5), (1, vi b1), (0, .ref 170)] [vi 1] s _
      have hg18 : 1 ≤ s.1 170 4 ∧ s.1 170 5 + 3 = s.1 170 6 := ⟨by omega, hl18⟩
      clear hj18 hl18
      refine wr_n (pc2 := 36) (lv2 := [(3, vi b9), (2, vi b5), (1, vi b1), (0, .ref 170)]) (st2 := [vi b9, .ref 170]) 3 (fun _ _ => rfl) ?_
      refine wr_call1 (args := [vi b9]) (rest := []) rfl rfl rfl rfl (Nat.le_of_ble_eq_true rfl) (cr_mono (hRt C y mr _ b9 hC hR hI (by omega) (by omega)) ?_)
      rintro s207 out ⟨b, rfl, hc206, ⟨rfl, hF206⟩ | ⟨rfl, hX206⟩⟩
      · refine ⟨_, rfl, ?_⟩
        show wr (d + 499) tb_M128 39 [(3, vi b9), (2, vi b5), (1, vi b1), (0, .ref 170)] [vi 0] s207 _
        refine wr_end (fun _ _ => rfl) ?_
        exact ⟨0, rfl, hc206.trans rfl, Or.inl ⟨rfl, FR_tr (BX_FR (PI_rf hP)) hF206⟩⟩
      · refine ⟨_, rfl, ?_⟩
        show wr (d + 499) tb_M128 39 [(3, vi b9), (2, vi b5), (1, vi b1), (0, .ref 170)] [vi 1] s207 _
        refine wr_end (fun _ _ => rfl) ?_
        exact ⟨1, rfl, hc206, Or.inr ⟨rfl, hX206⟩⟩
