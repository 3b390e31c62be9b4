/-! The reference's calls, once more: circuits are kept. -/
def LJ2 (r r2 : tab) : Prop := ∀ k j, (k < 170 ∨ 171 ≤ k ∧ k < 203 ∨ k = 170 ∧ (j = 17 ∨ j = 18 ∨ j = 20)) → r2 k j = r k j
theorem RX_LJ2 {r r2 : tab} (h : RX r r2) : LJ2 r r2 := fun k j hk => h k j (by unfold RS; omega)
def MJ2 (c : Nat) (t : Int → Prop) (s : rS) : rS → hm_Out → Prop := fun s2 out => (∃ v : Value, out = some (some v) ∧ v.category = c) ∧ s2.2 = s.2 ∧ RF s2.1 ∧ LJ2 s.1 s2.1 ∧ (∃ C D, SI C D s2.1) ∧ t (s2.1 170 1)
theorem MJ2_same {C D c : Nat} {s : rS} {out : hm_Out} {v : Value} (ho : out = some (some v)) (hv : v.category = c) (hR : RF s.1) (h : SI C D s.1) : MJ2 c (fun t => t = s.1 170 1) s s out := ⟨⟨v, ho, hv⟩, rfl, hR, fun _ _ _ => rfl, ⟨C, D, h⟩, rfl⟩
set_option maxHeartbeats 20000000 in
set_option maxRecDepth 100000 in
theorem qq_count {d C D : Nat} (s : rS) (hR : RF s.1) (hS : SI C D s.1) {n : Int} (hn : i32 n) : cr (d + 1 + 1) 176 [.ref 170, vi n] s (MJ2 1 (fun t => t = s.1 170 1) s) := by
  have hC := SI_C hS
  have ht0 := hS.2.1
  unfold i32 at hn
  refine cr_of (M := tb_M176) rfl (Nat.le_of_ble_eq_true rfl) ?_
  show wr (d + 1) tb_M176 0 [(0, .ref 170), (1, vi n)] [] s _
  refine wr_n (pc2 := 1) (lv2 := [(0, .ref 170), (1, vi n)]) (st2 := [vi n]) 1 (fun _ _ => rfl) ?_
  refine wr_i2l (a := n) rfl (by unfold i32; omega) ?_
  show wr (d + 1) tb_M176 2 [(0, .ref 170), (1, vi n)] [vl n] s _
  refine wr_n (pc2 := 6) (lv2 := [(0, .ref 170), (1, vi n)]) (st2 := [vl 12, vl 0, vl n]) 2 (fun _ _ => rfl) ?_
  refine wr_call0 (args := [vl n, vl 0, vl 12]) (rest := []) rfl rfl rfl (Nat.le_of_ble_eq_true rfl) (cr_mono (c_in (d := d) (a := n) (b := 0) (c := 12) _ (by unfold i64; omega) (by unfold i64; omega) (by unfold i64; omega)) ?_)
  rintro s4 out ⟨e1, rfl, h2, e3⟩
  refine ⟨_, rfl, ?_⟩
  rw [e3]
  show wr (d + 1) tb_M176 9 [(0, .ref 170), (1, vi n)] [vi e1] s _
  by_cases h5 : e1 ≠ 0
  · refine wr_if1t rfl rfl (by unfold i32; omega) h5 ?_
    refine wr_n (pc2 := 15) (lv2 := [(0, .ref 170), (1, vi n)]) (st2 := [.ref 170]) 1 (fun _ _ => rfl) ?_
    refine wr_get (v := vi (s.1 170 20)) rfl rfl rfl (by decide) rfl fun h6 => ?_
    have h6 : 0 ≤ s.1 170 20 ∧ s.1 170 20 ≤ 1 := h6
    show wr (d + 1) tb_M176 18 [(0, .ref 170), (1, vi n)] [vi (s.1 170 20)] s _
    by_cases h7 : s.1 170 20 ≠ 0
    · refine wr_if1t rfl rfl (by unfold i32; omega) h7 ?_
      refine wr_n (pc2 := 24) (lv2 := [(0, .ref 170), (1, vi n)]) (st2 := [vi n]) 1 (fun _ _ => rfl) ?_
      refine wr_tsw2 rfl (by decide) (by unfold i32; omega) (fun _ _ off hoff => ?_) (fun hdf => ?_)
      · have hoff2 : off = 52 ∨ off = 60 ∨ off = 68 ∨ off = 76 ∨ off = 84 ∨ off = 92 ∨ off = 100 ∨ off = 108 ∨ off = 113 := by simp at hoff; omega
        clear hoff
        rcases hoff2 with rfl | rfl | rfl | rfl | rfl | rfl | rfl | rfl | rfl
        · refine ⟨76, rfl, ?_⟩
          refine wr_n (pc2 := 77) (lv2 := [(0, .ref 170), (1, vi n)]) (st2 := [.ref 170]) 1 (fun _ _ => rfl) ?_
          refine wr_get (v := .ref C) rfl rfl rfl (by decide) (rv_ref (show s.1 170 17 = ((C : Nat) : Int) from hS.2.2.1)) fun h8 => ?_
          show wr (d + 1) tb_M176 80 [(0, .ref 170), (1, vi n)] [.ref C] s _
          refine wr_get (v := vi (s.1 C 3)) rfl rfl (TG_C hC) (by decide) rfl fun h9 => ?_
          have h9 : -2147483648 ≤ s.1 C 3 ∧ s.1 C 3 ≤ 2147483647 := h9
          show wr (d + 1) tb_M176 83 [(0, .ref 170), (1, vi n)] [vi (s.1 C 3)] s _
          refine wr_reti rfl rfl ?_
          exact MJ2_same rfl rfl hR hS
        · refine ⟨84, rfl, ?_⟩
          refine wr_n (pc2 := 85) (lv2 := [(0, .ref 170), (1, vi n)]) (st2 := [.ref 170]) 1 (fun _ _ => rfl) ?_
          refine wr_get (v := .ref C) rfl rfl rfl (by decide) (rv_ref (show s.1 170 17 = ((C : Nat) : Int) from hS.2.2.1)) fun h10 => ?_
          show wr (d + 1) tb_M176 88 [(0, .ref 170), (1, vi n)] [.ref C] s _
          refine wr_get (v := vi (s.1 C 4)) rfl rfl (TG_C hC) (by decide) rfl fun h11 => ?_
          have h11 : -2147483648 ≤ s.1 C 4 ∧ s.1 C 4 ≤ 2147483647 := h11
          show wr (d + 1) tb_M176 91 [(0, .ref 170), (1, vi n)] [vi (s.1 C 4)] s _
          refine wr_reti rfl rfl ?_
          exact MJ2_same rfl rfl hR hS
        · refine ⟨92, rfl, ?_⟩
          refine wr_n (pc2 := 93) (lv2 := [(0, .ref 170), (1, vi n)]) (st2 := [.ref 170]) 1 (fun _ _ => rfl) ?_
          refine wr_get (v := .ref C) rfl rfl rfl (by decide) (rv_ref (show s.1 170 17 = ((C : Nat) : Int) from hS.2.2.1)) fun h12 => ?_
          show wr (d + 1) tb_M176 96 [(0, .ref 170), (1, vi n)] [.ref C] s _
          refine wr_get (v := vi (s.1 C 5)) rfl rfl (TG_C hC) (by decide) rfl fun h13 => ?_
          have h13 : -2147483648 ≤ s.1 C 5 ∧ s.1 C 5 ≤ 2147483647 := h13
          show wr (d + 1) tb_M176 99 [(0, .ref 170), (1, vi n)] [vi (s.1 C 5)] s _
          refine wr_reti rfl rfl ?_
          exact MJ2_same rfl rfl hR hS
        · refine ⟨100, rfl, ?_⟩
          refine wr_n (pc2 := 101) (lv2 := [(0, .ref 170), (1, vi n)]) (st2 := [.ref 170]) 1 (fun _ _ => rfl) ?_
          refine wr_get (v := .ref C) rfl rfl rfl (by decide) (rv_ref (show s.1 170 17 = ((C : Nat) : Int) from hS.2.2.1)) fun h14 => ?_
          show wr (d + 1) tb_M176 104 [(0, .ref 170), (1, vi n)] [.ref C] s _
          refine wr_get (v := vi (s.1 C 6)) rfl rfl (TG_C hC) (by decide) rfl fun h15 => ?_
          have h15 : -2147483648 ≤ s.1 C 6 ∧ s.1 C 6 ≤ 2147483647 := h15
          show wr (d + 1) tb_M176 107 [(0, .ref 170), (1, vi n)] [vi (s.1 C 6)] s _
          refine wr_reti rfl rfl ?_
          exact MJ2_same rfl rfl hR hS
        · refine ⟨108, rfl, ?_⟩
          refine wr_n (pc2 := 109) (lv2 := [(0, .ref 170), (1, vi n)]) (st2 := [.ref 170]) 1 (fun _ _ => rfl) ?_
          refine wr_get (v := .ref C) rfl rfl rfl (by decide) (rv_ref (show s.1 170 17 = ((C : Nat) : Int) from hS.2.2.1)) fun h16 => ?_
          show wr (d + 1) tb_M176 112 [(0, .ref 170), (1, vi n)] [.ref C] s _
          refine wr_get (v := vi (s.1 C 7)) rfl rfl (TG_C hC) (by decide) rfl fun h17 => ?_
          have h17 : -2147483648 ≤ s.1 C 7 ∧ s.1 C 7 ≤ 2147483647 := h17
          show wr (d + 1) tb_M176 115 [(0, .ref 170), (1, vi n)] [vi (s.1 C 7)] s _
          refine wr_reti rfl rfl ?_
          exact MJ2_same rfl rfl hR hS
        · refine ⟨116, rfl, ?_⟩
          refine wr_n (pc2 := 117) (lv2 := [(0, .ref 170), (1, vi n)]) (st2 := [.ref 170]) 1 (fun _ _ => rfl) ?_
          refine wr_get (v := .ref C) rfl rfl rfl (by decide) (rv_ref (show s.1 170 17 = ((C : Nat) : Int) from hS.2.2.1)) fun h18 => ?_
          show wr (d + 1) tb_M176 120 [(0, .ref 170), (1, vi n)] [.ref C] s _
          refine wr_get (v := vi (s.1 C 8)) rfl rfl (TG_C hC) (by decide) rfl fun h19 => ?_
          have h19 : -2147483648 ≤ s.1 C 8 ∧ s.1 C 8 ≤ 2147483647 := h19
          show wr (d + 1) tb_M176 123 [(0, .ref 170), (1, vi n)] [vi (s.1 C 8)] s _
          refine wr_reti rfl rfl ?_
          exact MJ2_same rfl rfl hR hS
        · refine ⟨124, rfl, ?_⟩
          refine wr_n (pc2 := 125) (lv2 := [(0, .ref 170), (1, vi n)]) (st2 := [.ref 170]) 1 (fun _ _ => rfl) ?_
          refine wr_get (v := .ref C) rfl rfl rfl (by decide) (rv_ref (show s.1 170 17 = ((C : Nat) : Int) from hS.2.2.1)) fun h20 => ?_
          show wr (d + 1) tb_M176 128 [(0, .ref 170), (1, vi n)] [.ref C] s _
          refine wr_get (v := vi (s.1 C 9)) rfl rfl (TG_C hC) (by decide) rfl fun h21 => ?_
          have h21 : -2147483648 ≤ s.1 C 9 ∧ s.1 C 9 ≤ 2147483647 := h21
          show wr (d + 1) tb_M176 131 [(0, .ref 170), (1, vi n)] [vi (s.1 C 9)] s _
          refine wr_reti rfl rfl ?_
          exact MJ2_same rfl rfl hR hS
        · refine ⟨132, rfl, ?_⟩
          refine wr_n (pc2 := 133) (lv2 := [(0, .ref 170), (1, vi n)]) (st2 := [.ref 170]) 1 (fun _ _ => rfl) ?_
          refine wr_get (v := vi (s.1 170 53)) rfl rfl rfl (by decide) rfl fun h22 => ?_
          have h22 : -2147483648 ≤ s.1 170 53 ∧ s.1 170 53 ≤ 2147483647 := h22
          show wr (d + 1) tb_M176 136 [(0, .ref 170), (1, vi n)] [vi (s.1 170 53)] s _
          refine wr_reti rfl rfl ?_
          exact MJ2_same rfl rfl hR hS
        · refine ⟨137, rfl, ?_⟩
          refine wr_n (pc2 := 138) (lv2 := [(0, .ref 170), (1, vi n)]) (st2 := [.ref 170]) 1 (fun _ _ => rfl) ?_
          refine wr_get (v := vi (s.1 170 52)) rfl rfl rfl (by decide) rfl fun h23 => ?_
          have h23 : -2147483648 ≤ s.1 170 52 ∧ s.1 170 52 ≤ 2147483647 := h23
          show wr (d + 1) tb_M176 141 [(0, .ref 170), (1, vi n)] [vi (s.1 170 52)] s _
          refine wr_reti rfl rfl ?_
          exact MJ2_same rfl rfl hR hS
      · refine ⟨142, rfl, ?_⟩
        refine wr_n (pc2 := 143) (lv2 := [(0, .ref 170), (1, vi n)]) (st2 := [.ref 170]) 1 (fun _ _ => rfl) ?_
        refine wr_get (v := vi (s.1 170 52)) rfl rfl rfl (by decide) rfl fun h24 => ?_
        have h24 : -2147483648 ≤ s.1 170 52 ∧ s.1 170 52 ≤ 2147483647 := h24
        show wr (d + 1) tb_M176 146 [(0, .ref 170), (1, vi n)] [vi (s.1 170 52)] s _
        refine wr_n (pc2 := 147) (lv2 := [(0, .ref 170), (1, vi n)]) (st2 := [vi 3, vi (s.1 170 52)]) 1 (fun _ _ => rfl) ?_
        by_cases h25 : s.1 170 52 ≠ 3
        · refine wr_if2t rfl rfl (by unfold i32; omega) (by unfold i32; omega) h25 ?_
          refine wr_n (pc2 := 155) (lv2 := [(0, .ref 170), (1, vi n)]) (st2 := [.ref 170]) 1 (fun _ _ => rfl) ?_
          refine wr_get (v := .ref 1630) rfl rfl rfl (by decide) (rv_ref (hR 170 51 1630 rfl)) fun h26 => ?_
          show wr (d + 1) tb_M176 158 [(0, .ref 170), (1, vi n)] [.ref 1630] s _
          refine wr_n (pc2 := 160) (lv2 := [(0, .ref 170), (1, vi n)]) (st2 := [vi n, vi 4, .ref 1630]) 2 (fun _ _ => rfl) ?_
          refine wr_add (a := 4) (b := n) rfl ?_
          show wr (d + 1) tb_M176 161 [(0, .ref 170), (1, vi n)] [vi (4 + n), .ref 1630] s _
          refine wr_n (pc2 := 163) (lv2 := [(0, .ref 170), (1, vi n)]) (st2 := [vi 9, vi (4 + n), .ref 1630]) 1 (fun _ _ => rfl) ?_
          refine wr_sub (a := 4 + n) (b := 9) rfl ?_
          show wr (d + 1) tb_M176 164 [(0, .ref 170), (1, vi n)] [vi ((4 + n) - 9), .ref 1630] s _
          refine wr_ald (a := (4 + n) - 9) (v := vi (s.1 1630 (((4 + n) - 9).toNat))) rfl rfl rfl (by omega) (by omega) (by decide) rfl fun h27 => ?_
          have h27 : -2147483648 ≤ s.1 1630 (((4 + n) - 9).toNat) ∧ s.1 1630 (((4 + n) - 9).toNat) ≤ 2147483647 := h27
          show wr (d + 1) tb_M176 165 [(0, .ref 170), (1, vi n)] [vi (s.1 1630 (((4 + n) - 9).toNat))] s _
          refine wr_reti rfl rfl ?_
          exact MJ2_same rfl rfl hR hS
        · refine wr_if2f rfl rfl (by unfold i32; omega) (by unfold i32; omega) h25 ?_
          refine wr_n (pc2 := 165) (lv2 := [(0, .ref 170), (1, vi n)]) (st2 := [vi 0]) 2 (fun _ _ => rfl) ?_
          refine wr_end (fun _ _ => rfl) ?_
          exact MJ2_same rfl rfl hR hS
    · refine wr_if1f rfl rfl (by unfold i32; omega) h7 ?_
      refine wr_n (pc2 := 22) (lv2 := [(0, .ref 170), (1, vi n)]) (st2 := [vi 0]) 1 (fun _ _ => rfl) ?_
      refine wr_end (fun _ _ => rfl) ?_
      exact MJ2_same rfl rfl hR hS
  · refine wr_if1f rfl rfl (by unfold i32; omega) h5 ?_
    refine wr_n (pc2 := 13) (lv2 := [(0, .ref 170), (1, vi n)]) (st2 := [vi ((-1))]) 1 (fun _ _ => rfl) ?_
    refine wr_end (fun _ _ => rfl) ?_
    exact MJ2_same rfl rfl hR hS
set_option maxHeartbeats 20000000 in
set_option maxRecDepth 100000 in
theorem qq_give {d C D : Nat} (s : rS) (hR : RF s.1) (hS : SI C D s.1) {w v : Int} (hw : i32 w) (hv : i32 v) : cr (d + 1 + 1) 173 [.ref 170, vi w, vi v] s (MJ2 1 (fun t => t = s.1 170 1) s) := by
  have hC := SI_C hS
  have ht0 := hS.2.1
  unfold i32 at hw hv
  refine cr_of (M := tb_M173) rfl (Nat.le_of_ble_eq_true rfl) ?_
  show wr (d + 1) tb_M173 0 [(0, .ref 170), (1, vi w), (2, vi v)] [] s _
  refine wr_n (pc2 := 1) (lv2 := [(0, .ref 170), (1, vi w), (2, vi v)]) (st2 := [.ref 170]) 1 (fun _ _ => rfl) ?_
  refine wr_get (v := vi (s.1 170 20)) rfl rfl rfl (by decide) rfl fun h1 => ?_
  have h1 : 0 ≤ s.1 170 20 ∧ s.1 170 20 ≤ 1 := h1
  show wr (d + 1) tb_M173 4 [(0, .ref 170), (1, vi w), (2, vi v)] [vi (s.1 170 20)] s _
  by_cases h2 : s.1 170 20 = 0
  · refine wr_if1t rfl rfl (by unfold i32; omega) h2 ?_
    refine wr_n (pc2 := 36) (lv2 := [(0, .ref 170), (1, vi w), (2, vi v)]) (st2 := [vi ((-2))]) 1 (fun _ _ => rfl) ?_
    refine wr_end (fun _ _ => rfl) ?_
    exact MJ2_same rfl rfl hR hS
  · refine wr_if1f rfl rfl (by unfold i32; omega) h2 ?_
    obtain ⟨hH, hPT, hLK, na, hna, hsz⟩ := SA_get hS (by omega)
    unfold PT at hPT
    refine wr_n (pc2 := 8) (lv2 := [(0, .ref 170), (1, vi w), (2, vi v)]) (st2 := [.ref 170]) 1 (fun _ _ => rfl) ?_
    refine wr_get (v := vi (s.1 170 52)) rfl rfl rfl (by decide) rfl fun h3 => ?_
    have h3 : -2147483648 ≤ s.1 170 52 ∧ s.1 170 52 ≤ 2147483647 := h3
    show wr (d + 1) tb_M173 11 [(0, .ref 170), (1, vi w), (2, vi v)] [vi (s.1 170 52)] s _
    refine wr_n (pc2 := 12) (lv2 := [(0, .ref 170), (1, vi w), (2, vi v)]) (st2 := [vi 3, vi (s.1 170 52)]) 1 (fun _ _ => rfl) ?_
    by_cases h4 : s.1 170 52 = 3
    · refine wr_if2t rfl rfl (by unfold i32; omega) (by unfold i32; omega) h4 ?_
      refine wr_n (pc2 := 36) (lv2 := [(0, .ref 170), (1, vi w), (2, vi v)]) (st2 := [vi ((-2))]) 1 (fun _ _ => rfl) ?_
      refine wr_end (fun _ _ => rfl) ?_
      exact MJ2_same rfl rfl hR hS
    · refine wr_if2f rfl rfl (by unfold i32; omega) (by unfold i32; omega) h4 ?_
      refine wr_n (pc2 := 16) (lv2 := [(0, .ref 170), (1, vi w), (2, vi v)]) (st2 := [vi w]) 1 (fun _ _ => rfl) ?_
      refine wr_i2l (a := w) rfl (by unfold i32; omega) ?_
      show wr (d + 1) tb_M173 17 [(0, .ref 170), (1, vi w), (2, vi v)] [vl w] s _
      refine wr_n (pc2 := 19) (lv2 := [(0, .ref 170), (1, vi w), (2, vi v)]) (st2 := [.ref 170, vl 0, vl w]) 2 (fun _ _ => rfl) ?_
      refine wr_get (v := .ref C) rfl rfl rfl (by decide) (rv_ref (show s.1 170 17 = ((C : Nat) : Int) from hS.2.2.1)) fun h5 => ?_
      show wr (d + 1) tb_M173 22 [(0, .ref 170), (1, vi w), (2, vi v)] [.ref C, vl 0, vl w] s _
      refine wr_get (v := vi (s.1 C 7)) rfl rfl (TG_C hC) (by decide) rfl fun h6 => ?_
      have h6 : -2147483648 ≤ s.1 C 7 ∧ s.1 C 7 ≤ 2147483647 := h6
      show wr (d + 1) tb_M173 25 [(0, .ref 170), (1, vi w), (2, vi v)] [vi (s.1 C 7), vl 0, vl w] s _
      refine wr_n (pc2 := 26) (lv2 := [(0, .ref 170), (1, vi w), (2, vi v)]) (st2 := [vi 1, vi (s.1 C 7), vl 0, vl w]) 1 (fun _ _ => rfl) ?_
      refine wr_sub (a := s.1 C 7) (b := 1) rfl ?_
      show wr (d + 1) tb_M173 27 [(0, .ref 170), (1, vi w), (2, vi v)] [vi ((s.1 C 7) - 1), vl 0, vl w] s _
      refine wr_i2l (a := (s.1 C 7) - 1) rfl (by unfold i32; omega) ?_
      show wr (d + 1) tb_M173 28 [(0, .ref 170), (1, vi w), (2, vi v)] [vl ((s.1 C 7) - 1), vl 0, vl w] s _
      refine wr_call0 (args := [vl w, vl 0, vl ((s.1 C 7) - 1)]) (rest := []) rfl rfl rfl (Nat.le_of_ble_eq_true rfl) (cr_mono (c_in (d := d) (a := w) (b := 0) (c := (s.1 C 7) - 1) _ (by unfold i64; omega) (by unfold i64; omega) (by unfold i64; omega)) ?_)
      rintro s10 out ⟨e7, rfl, h8, e9⟩
      refine ⟨_, rfl, ?_⟩
      rw [e9]
      show wr (d + 1) tb_M173 31 [(0, .ref 170), (1, vi w), (2, vi v)] [vi e7] s _
      by_cases h11 : e7 ≠ 0
      · refine wr_if1t rfl rfl (by unfold i32; omega) h11 ?_
        have hhw := hH w.toNat (by omega)
        refine wr_n (pc2 := 38) (lv2 := [(0, .ref 170), (1, vi w), (2, vi v)]) (st2 := [.ref 170]) 1 (fun _ _ => rfl) ?_
        refine wr_get (v := .ref 1630) rfl rfl rfl (by decide) (rv_ref (hR 170 51 1630 rfl)) fun h12 => ?_
        show wr (d + 1) tb_M173 41 [(0, .ref 170), (1, vi w), (2, vi v)] [.ref 1630] s _
        refine wr_n (pc2 := 42) (lv2 := [(0, .ref 170), (1, vi w), (2, vi v)]) (st2 := [vi w, .ref 1630]) 1 (fun _ _ => rfl) ?_
        refine wr_ald (a := w) (v := vi (s.1 1630 w.toNat)) rfl rfl rfl (by omega) (by omega) (by decide) rfl fun h13 => ?_
        have h13 : -2147483648 ≤ s.1 1630 w.toNat ∧ s.1 1630 w.toNat ≤ 2147483647 := h13
        show wr (d + 1) tb_M173 43 [(0, .ref 170), (1, vi w), (2, vi v)] [vi (s.1 1630 w.toNat)] s _
        refine wr_n (pc2 := 45) (lv2 := [(0, .ref 170), (1, vi w), (2, vi v)]) (st2 := [vi 40, vi (s.1 1630 w.toNat)]) 1 (fun _ _ => rfl) ?_
        by_cases h14 : s.1 1630 w.toNat ≠ 40
        · refine wr_if2t rfl rfl (by unfold i32; omega) (by unfold i32; omega) h14 ?_
          refine wr_n (pc2 := 52) (lv2 := [(0, .ref 170), (1, vi w), (2, vi v)]) (st2 := [.ref 170]) 1 (fun _ _ => rfl) ?_
          refine wr_get (v := .ref 1621) rfl rfl rfl (by decide) (rv_ref (hR 170 50 1621 rfl)) fun h15 => ?_
          show wr (d + 1) tb_M173 55 [(0, .ref 170), (1, vi w), (2, vi v)] [.ref 1621] s _
          refine wr_n (pc2 := 56) (lv2 := [(0, .ref 170), (1, vi w), (2, vi v)]) (st2 := [vi w, .ref 1621]) 1 (fun _ _ => rfl) ?_
          refine wr_ald (a := w) (v := .ref (1622 + w.toNat)) rfl rfl rfl (by omega) (by omega) (by decide) (rv_ref (hR 1621 w.toNat (1622 + w.toNat) (rc_in (by omega)))) fun h16 => ?_
          show wr (d + 1) tb_M173 57 [(0, .ref 170), (1, vi w), (2, vi v)] [.ref (1622 + w.toNat)] s _
          refine wr_n (pc2 := 58) (lv2 := [(0, .ref 170), (1, vi w), (2, vi v)]) (st2 := [.ref 170, .ref (1622 + w.toNat)]) 1 (fun _ _ => rfl) ?_
          refine wr_get (v := .ref 1630) rfl rfl rfl (by decide) (rv_ref (hR 170 51 1630 rfl)) fun h17 => ?_
          show wr (d + 1) tb_M173 61 [(0, .ref 170), (1, vi w), (2, vi v)] [.ref 1630, .ref (1622 + w.toNat)] s _
          refine wr_n (pc2 := 62) (lv2 := [(0, .ref 170), (1, vi w), (2, vi v)]) (st2 := [vi w, .ref 1630, .ref (1622 + w.toNat)]) 1 (fun _ _ => rfl) ?_
          refine wr_ald (a := w) (v := vi (s.1 1630 w.toNat)) rfl rfl rfl (by omega) (by omega) (by decide) rfl fun h18 => ?_
          have h18 : -2147483648 ≤ s.1 1630 w.toNat ∧ s.1 1630 w.toNat ≤ 2147483647 := h18
          show wr (d + 1) tb_M173 63 [(0, .ref 170), (1, vi w), (2, vi v)] [vi (s.1 1630 w.toNat), .ref (1622 + w.toNat)] s _
          refine wr_n (pc2 := 64) (lv2 := [(0, .ref 170), (1, vi w), (2, vi v)]) (st2 := [vi v, vi (s.1 1630 w.toNat), .ref (1622 + w.toNat)]) 1 (fun _ _ => rfl) ?_
          refine wr_anyu rfl (fun x => ⟨_, rfl⟩) fun z19 h20 => ?_
          unfold i32 at h20
          show wr (d + 1) tb_M173 65 [(0, .ref 170), (1, vi w), (2, vi v)] [vi z19, vi (s.1 1630 w.toNat), .ref (1622 + w.toNat)] s _
          refine wr_ast (a := s.1 1630 w.toNat) (z := z19) rfl (show 96 ≤ 1622 + w.toNat by omega) (TG_in (by omega)) rfl (by omega) (by omega) (by decide) rfl (show -2147483648 ≤ z19 ∧ z19 ≤ 2147483647 by omega) ?_
          show wr (d + 1) tb_M173 66 [(0, .ref 170), (1, vi w), (2, vi v)] [] (up2 s.1 (1622 + w.toNat) ((s.1 1630 w.toNat).toNat) z19, s.2) _
          have hR21 : RF (up2 s.1 (1622 + w.toNat) ((s.1 1630 w.toNat).toNat) z19) := (RF_up hR (RS_rc (by unfold RS; omega)))
          refine wr_n (pc2 := 67) (lv2 := [(0, .ref 170), (1, vi w), (2, vi v)]) (st2 := [.ref 170]) 1 (fun _ _ => rfl) ?_
          refine wr_get (v := .ref 1630) rfl rfl rfl (by decide) (rv_ref (hR21 170 51 1630 rfl)) fun h22 => ?_
          show wr (d + 1) tb_M173 70 [(0, .ref 170), (1, vi w), (2, vi v)] [.ref 1630] (up2 s.1 (1622 + w.toNat) ((s.1 1630 w.toNat).toNat) z19, s.2) _
          refine wr_n (pc2 := 72) (lv2 := [(0, .ref 170), (1, vi w), (2, vi v)]) (st2 := [vi w, .ref 1630, vi w, .ref 1630]) 2 (fun _ _ => rfl) ?_
          refine wr_ald (a := w) (v := vi (s.1 1630 w.toNat)) rfl rfl rfl (by omega) (by omega) (by decide) (by show rv _ ((up2 s.1 (1622 + w.toNat) ((s.1 1630 w.toNat).toNat) z19) 1630 w.toNat) = _; rw [up_nk (by omega)]; rfl) fun h23 => ?_
          have h23 : rg _ ((up2 s.1 (1622 + w.toNat) ((s.1 1630 w.toNat).toNat) z19) 1630 w.toNat) := h23
          rw [up_nk (by omega)] at h23
          have h23 : -2147483648 ≤ s.1 1630 w.toNat ∧ s.1 1630 w.toNat ≤ 2147483647 := h23
          show wr (d + 1) tb_M173 73 [(0, .ref 170), (1, vi w), (2, vi v)] [vi (s.1 1630 w.toNat), vi w, .ref 1630] (up2 s.1 (1622 + w.toNat) ((s.1 1630 w.toNat).toNat) z19, s.2) _
          refine wr_n (pc2 := 74) (lv2 := [(0, .ref 170), (1, vi w), (2, vi v)]) (st2 := [vi 1, vi (s.1 1630 w.toNat), vi w, .ref 1630]) 1 (fun _ _ => rfl) ?_
          refine wr_add (a := s.1 1630 w.toNat) (b := 1) rfl ?_
          show wr (d + 1) tb_M173 75 [(0, .ref 170), (1, vi w), (2, vi v)] [vi (s.1 1630 w.toNat + 1), vi w, .ref 1630] (up2 s.1 (1622 + w.toNat) ((s.1 1630 w.toNat).toNat) z19, s.2) _
          refine wr_ast (a := w) (z := s.1 1630 w.toNat + 1) rfl (by decide) rfl rfl (by omega) (by omega) (by decide) rfl (show -2147483648 ≤ s.1 1630 w.toNat + 1 ∧ s.1 1630 w.toNat + 1 ≤ 2147483647 by omega) ?_
          show wr (d + 1) tb_M173 76 [(0, .ref 170), (1, vi w), (2, vi v)] [] (up2 (up2 s.1 (1622 + w.toNat) ((s.1 1630 w.toNat).toNat) z19) 1630 w.toNat (s.1 1630 w.toNat + 1), s.2) _
          have hR24 : RF (up2 (up2 s.1 (1622 + w.toNat) ((s.1 1630 w.toNat).toNat) z19) 1630 w.toNat (s.1 1630 w.toNat + 1)) := (RF_up (RF_up hR (RS_rc (by unfold RS; omega))) rfl)
          refine wr_n (pc2 := 77) (lv2 := [(0, .ref 170), (1, vi w), (2, vi v)]) (st2 := [.ref 170]) 1 (fun _ _ => rfl) ?_
          refine wr_get (v := .ref 1630) rfl rfl rfl (by decide) (rv_ref (hR24 170 51 1630 rfl)) fun h25 => ?_
          show wr (d + 1) tb_M173 80 [(0, .ref 170), (1, vi w), (2, vi v)] [.ref 1630] (up2 (up2 s.1 (1622 + w.toNat) ((s.1 1630 w.toNat).toNat) z19) 1630 w.toNat (s.1 1630 w.toNat + 1), s.2) _
          refine wr_n (pc2 := 81) (lv2 := [(0, .ref 170), (1, vi w), (2, vi v)]) (st2 := [vi w, .ref 1630]) 1 (fun _ _ => rfl) ?_
          refine wr_ald (a := w) (v := vi (s.1 1630 w.toNat + 1)) rfl rfl rfl (by omega) (by omega) (by decide) (by show rv _ ((up2 (up2 s.1 (1622 + w.toNat) ((s.1 1630 w.toNat).toNat) z19) 1630 w.toNat (s.1 1630 w.toNat + 1)) 1630 w.toNat) = _; rw [up_self]; rfl) fun h26 => ?_
          have h26 : rg _ ((up2 (up2 s.1 (1622 + w.toNat) ((s.1 1630 w.toNat).toNat) z19) 1630 w.toNat (s.1 1630 w.toNat + 1)) 1630 w.toNat) := h26
          rw [up_self] at h26
          have h26 : -2147483648 ≤ s.1 1630 w.toNat + 1 ∧ s.1 1630 w.toNat + 1 ≤ 2147483647 := h26
          show wr (d + 1) tb_M173 82 [(0, .ref 170), (1, vi w), (2, vi v)] [vi (s.1 1630 w.toNat + 1)] (up2 (up2 s.1 (1622 + w.toNat) ((s.1 1630 w.toNat).toNat) z19) 1630 w.toNat (s.1 1630 w.toNat + 1), s.2) _
          refine wr_reti rfl rfl ?_
          have hHn : HD (up2 (up2 s.1 (1622 + w.toNat) ((s.1 1630 w.toNat).toNat) z19) 1630 w.toNat (s.1 1630 w.toNat + 1)) := fun i hi => by
            by_cases e : i = w.toNat
            · subst e; rw [up_self]; omega
            · rw [up_nj e, up_nk (by omega)]; exact hH i hi
          have hf : ∀ k j, ¬ (1622 ≤ k ∧ k ≤ 1630) → (up2 (up2 s.1 (1622 + w.toNat) ((s.1 1630 w.toNat).toNat) z19) 1630 w.toNat (s.1 1630 w.toNat + 1)) k j = s.1 k j := fun k j e => (if_neg (by omega)).trans (if_neg (by omega))
          exact ⟨⟨_, rfl, rfl⟩, rfl, hR24, fun k j hk => hf k j (by omega), ⟨C, D, SI_fr hS (fun k j _ e => hf k j e) (by show 0 ≤ (up2 (up2 s.1 (1622 + w.toNat) ((s.1 1630 w.toNat).toNat) z19) 1630 w.toNat (s.1 1630 w.toNat + 1)) 170 1 ∧ (up2 (up2 s.1 (1622 + w.toNat) ((s.1 1630 w.toNat).toNat) z19) 1630 w.toNat (s.1 1630 w.toNat + 1)) 170 1 ≤ 2000; rw [hf 170 1 (by omega)]; exact ht0) (fun _ => hHn)⟩, hf 170 1 (by omega)⟩
        · refine wr_if2f rfl rfl (by unfold i32; omega) (by unfold i32; omega) h14 ?_
          refine wr_n (pc2 := 50) (lv2 := [(0, .ref 170), (1, vi w), (2, vi v)]) (st2 := [vi ((-3))]) 1 (fun _ _ => rfl) ?_
          refine wr_end (fun _ _ => rfl) ?_
          exact MJ2_same rfl rfl hR hS
      · refine wr_if1f rfl rfl (by unfold i32; omega) h11 ?_
        refine wr_n (pc2 := 36) (lv2 := [(0, .ref 170), (1, vi w), (2, vi v)]) (st2 := [vi ((-2))]) 1 (fun _ _ => rfl) ?_
        refine wr_end (fun _ _ => rfl) ?_
        exact MJ2_same rfl rfl hR hS
set_option maxHeartbeats 20000000 in
set_option maxRecDepth 100000 in
theorem qq_take {d C D : Nat} (s : rS) (hR : RF s.1) (hS : SI C D s.1) {w : Int} (hw : i32 w) : cr (d + 1 + 1) 174 [.ref 170, vi w] s (MJ2 2 (fun t => t = s.1 170 1) s) := by
  have hC := SI_C hS
  have ht0 := hS.2.1
  unfold i32 at hw
  refine cr_of (M := tb_M174) rfl (Nat.le_of_ble_eq_true rfl) ?_
  show wr (d + 1) tb_M174 0 [(0, .ref 170), (1, vi w)] [] s _
  refine wr_n (pc2 := 1) (lv2 := [(0, .ref 170), (1, vi w)]) (st2 := [.ref 170]) 1 (fun _ _ => rfl) ?_
  refine wr_get (v := vi (s.1 170 20)) rfl rfl rfl (by decide) rfl fun h1 => ?_
  have h1 : 0 ≤ s.1 170 20 ∧ s.1 170 20 ≤ 1 := h1
  show wr (d + 1) tb_M174 4 [(0, .ref 170), (1, vi w)] [vi (s.1 170 20)] s _
  by_cases h2 : s.1 170 20 = 0
  · refine wr_if1t rfl rfl (by unfold i32; omega) h2 ?_
    refine wr_n (pc2 := 48) (lv2 := [(0, .ref 170), (1, vi w)]) (st2 := [vl 1099511627776]) 1 (fun _ _ => rfl) ?_
    refine wr_end (fun _ _ => rfl) ?_
    exact MJ2_same rfl rfl hR hS
  · refine wr_if1f rfl rfl (by unfold i32; omega) h2 ?_
    obtain ⟨hH, hPT, hLK, na, hna, hsz⟩ := SA_get hS (by omega)
    unfold PT at hPT
    refine wr_n (pc2 := 8) (lv2 := [(0, .ref 170), (1, vi w)]) (st2 := [.ref 170]) 1 (fun _ _ => rfl) ?_
    refine wr_get (v := vi (s.1 170 52)) rfl rfl rfl (by decide) rfl fun h3 => ?_
    have h3 : -2147483648 ≤ s.1 170 52 ∧ s.1 170 52 ≤ 2147483647 := h3
    show wr (d + 1) tb_M174 11 [(0, .ref 170), (1, vi w)] [vi (s.1 170 52)] s _
    refine wr_n (pc2 := 12) (lv2 := [(0, .ref 170), (1, vi w)]) (st2 := [vi 3, vi (s.1 170 52)]) 1 (fun _ _ => rfl) ?_
    by_cases h4 : s.1 170 52 = 3
    · refine wr_if2t rfl rfl (by unfold i32; omega) (by unfold i32; omega) h4 ?_
      refine wr_n (pc2 := 48) (lv2 := [(0, .ref 170), (1, vi w)]) (st2 := [vl 1099511627776]) 1 (fun _ _ => rfl) ?_
      refine wr_end (fun _ _ => rfl) ?_
      exact MJ2_same rfl rfl hR hS
    · refine wr_if2f rfl rfl (by unfold i32; omega) (by unfold i32; omega) h4 ?_
      refine wr_n (pc2 := 16) (lv2 := [(0, .ref 170), (1, vi w)]) (st2 := [vi w]) 1 (fun _ _ => rfl) ?_
      refine wr_i2l (a := w) rfl (by unfold i32; omega) ?_
      show wr (d + 1) tb_M174 17 [(0, .ref 170), (1, vi w)] [vl w] s _
      refine wr_n (pc2 := 19) (lv2 := [(0, .ref 170), (1, vi w)]) (st2 := [.ref 170, vl 0, vl w]) 2 (fun _ _ => rfl) ?_
      refine wr_get (v := .ref C) rfl rfl rfl (by decide) (rv_ref (show s.1 170 17 = ((C : Nat) : Int) from hS.2.2.1)) fun h5 => ?_
      show wr (d + 1) tb_M174 22 [(0, .ref 170), (1, vi w)] [.ref C, vl 0, vl w] s _
      refine wr_get (v := vi (s.1 C 8)) rfl rfl (TG_C hC) (by decide) rfl fun h6 => ?_
      have h6 : -2147483648 ≤ s.1 C 8 ∧ s.1 C 8 ≤ 2147483647 := h6
      show wr (d + 1) tb_M174 25 [(0, .ref 170), (1, vi w)] [vi (s.1 C 8), vl 0, vl w] s _
      refine wr_n (pc2 := 26) (lv2 := [(0, .ref 170), (1, vi w)]) (st2 := [vi 1, vi (s.1 C 8), vl 0, vl w]) 1 (fun _ _ => rfl) ?_
      refine wr_sub (a := s.1 C 8) (b := 1) rfl ?_
      show wr (d + 1) tb_M174 27 [(0, .ref 170), (1, vi w)] [vi ((s.1 C 8) - 1), vl 0, vl w] s _
      refine wr_i2l (a := (s.1 C 8) - 1) rfl (by unfold i32; omega) ?_
      show wr (d + 1) tb_M174 28 [(0, .ref 170), (1, vi w)] [vl ((s.1 C 8) - 1), vl 0, vl w] s _
      refine wr_call0 (args := [vl w, vl 0, vl ((s.1 C 8) - 1)]) (rest := []) rfl rfl rfl (Nat.le_of_ble_eq_true rfl) (cr_mono (c_in (d := d) (a := w) (b := 0) (c := (s.1 C 8) - 1) _ (by unfold i64; omega) (by unfold i64; omega) (by unfold i64; omega)) ?_)
      rintro s10 out ⟨e7, rfl, h8, e9⟩
      refine ⟨_, rfl, ?_⟩
      rw [e9]
      show wr (d + 1) tb_M174 31 [(0, .ref 170), (1, vi w)] [vi e7] s _
      by_cases h11 : e7 = 0
      · refine wr_if1t rfl rfl (by unfold i32; omega) h11 ?_
        refine wr_n (pc2 := 48) (lv2 := [(0, .ref 170), (1, vi w)]) (st2 := [vl 1099511627776]) 1 (fun _ _ => rfl) ?_
        refine wr_end (fun _ _ => rfl) ?_
        exact MJ2_same rfl rfl hR hS
      · refine wr_if1f rfl rfl (by unfold i32; omega) h11 ?_
        have hhw := hH (4 + w).toNat (by omega)
        refine wr_n (pc2 := 35) (lv2 := [(0, .ref 170), (1, vi w)]) (st2 := [.ref 170]) 1 (fun _ _ => rfl) ?_
        refine wr_get (v := .ref 1630) rfl rfl rfl (by decide) (rv_ref (hR 170 51 1630 rfl)) fun h12 => ?_
        show wr (d + 1) tb_M174 38 [(0, .ref 170), (1, vi w)] [.ref 1630] s _
        refine wr_n (pc2 := 40) (lv2 := [(0, .ref 170), (1, vi w)]) (st2 := [vi w, vi 4, .ref 1630]) 2 (fun _ _ => rfl) ?_
        refine wr_add (a := 4) (b := w) rfl ?_
        show wr (d + 1) tb_M174 41 [(0, .ref 170), (1, vi w)] [vi (4 + w), .ref 1630] s _
        refine wr_ald (a := 4 + w) (v := vi (s.1 1630 ((4 + w).toNat))) rfl rfl rfl (by omega) (by omega) (by decide) rfl fun h13 => ?_
        have h13 : -2147483648 ≤ s.1 1630 ((4 + w).toNat) ∧ s.1 1630 ((4 + w).toNat) ≤ 2147483647 := h13
        show wr (d + 1) tb_M174 42 [(0, .ref 170), (1, vi w)] [vi (s.1 1630 ((4 + w).toNat))] s _
        by_cases h14 : s.1 1630 ((4 + w).toNat) ≠ 0
        · refine wr_if1t rfl rfl (by unfold i32; omega) h14 ?_
          refine wr_n (pc2 := 52) (lv2 := [(0, .ref 170), (1, vi w)]) (st2 := [vi w, vi 4, .ref 170]) 3 (fun _ _ => rfl) ?_
          refine wr_add (a := 4) (b := w) rfl ?_
          show wr (d + 1) tb_M174 53 [(0, .ref 170), (1, vi w)] [vi (4 + w), .ref 170] s _
          rw [show 4 + w = (((4 + w).toNat : Nat) : Int) by omega]
          refine wr_call1 (args := [vi ((((4 + w).toNat : Nat) : Int))]) (rest := []) rfl rfl rfl rfl (Nat.le_of_ble_eq_true rfl) (cr_mono (c_first (d := d) (q := (4 + w).toNat) (by omega) _ hR (by omega)) ?_)
          rintro s16 out ⟨v15, rfl, hv15, hc15, hf15, hw15⟩
          · refine ⟨_, rfl, ?_⟩
            show wr (d + 1) tb_M174 56 [(0, .ref 170), (1, vi w)] [vi v15] s16 _
            unfold i32 at hv15
            refine wr_i2l (a := v15) rfl (by unfold i32; omega) ?_
            show wr (d + 1) tb_M174 57 [(0, .ref 170), (1, vi w)] [vl v15] s16 _
            refine wr_end (fun _ _ => rfl) ?_
            have hHn : HD s16.1 := fun i hi => by
              by_cases e : i = (4 + w).toNat
              · subst e; rw [hw15]; omega
              · rw [hf15 1630 i (by omega) (by omega)]; exact hH i hi
            have hf : ∀ k j, ¬ (1622 ≤ k ∧ k ≤ 1630) → s16.1 k j = s.1 k j := fun k j e => hf15 k j (by omega) (by omega)
            exact ⟨⟨_, rfl, rfl⟩, hc15, RX_RF (fun k j e => hf k j (fun q => e (by unfold RS; omega))) hR, fun k j hk => hf k j (by omega), ⟨C, D, SI_fr hS (fun k j _ e => hf k j e) (by rw [hf 170 1 (by omega)]; exact ht0) (fun _ => hHn)⟩, hf 170 1 (by omega)⟩
        · refine wr_if1f rfl rfl (by unfold i32; omega) h14 ?_
          refine wr_n (pc2 := 48) (lv2 := [(0, .ref 170), (1, vi w)]) (st2 := [vl 1099511627776]) 1 (fun _ _ => rfl) ?_
          refine wr_end (fun _ _ => rfl) ?_
          exact MJ2_same rfl rfl hR hS
set_option maxHeartbeats 20000000 in
set_option maxRecDepth 100000 in
theorem mm_look75 {d C D na : Nat} {k n : Int} {s : rS} (hC : C = 177 ∨ C = 186) (hR : RF s.1) (hS : SI C D s.1) (htz : s.1 170 1 = 0) (hk : i32 k) (hn : 0 ≤ n ∧ n ≤ 2000) (hLK : LK C s.1) (hna : s.1 C 5 = (na : Int) ∧ na ≤ 6) (hsz : ∀ a : Nat, a < na → 1 ≤ s.1 (C + 3) a ∧ s.1 (C + 3) a ≤ 64) {Q : rS → hm_Out → Prop} {i : Nat} (hi : (i : Int) < s.1 C 18) (hLi : 0 ≤ s.1 (C + 5) i ∧ s.1 (C + 5) i ≤ s.1 (C + 6) i ∧ s.1 (C + 6) i ≤ 2000) (hi9 : i < 100) (hQ : ∀ j2 sm2 : Int, sm2 = 0 ∨ sm2 = 1 → wr d tb_M175 129 [(5, vi j2), (4, vi sm2), (3, vi ((i : Int))), (2, vi n), (0, .ref 170), (1, vi k)] [] s Q) : ∀ (w : Nat) (j sm : Int), (n - j).toNat = w → (0 ≤ j ∧ j ≤ n) → (sm = 0 ∨ sm = 1 ∧ s.1 (C + 6) i - s.1 (C + 5) i = n) → wr d tb_M175 75 [(5, vi j), (4, vi sm), (3, vi ((i : Int))), (2, vi n), (0, .ref 170), (1, vi k)] [] s Q := by
  intro w
  induction w using Nat.strongRecOn with | ind w ih => ?_
  intro j sm hw hj hsm
  refine wr_n (pc2 := 78) (lv2 := [(5, vi j), (4, vi sm), (3, vi ((i : Int))), (2, vi n), (0, .ref 170), (1, vi k)]) (st2 := [vi n, vi j]) 2 (fun _ _ => rfl) ?_
  by_cases h1 : n ≤ j
  · refine wr_if2t rfl rfl (by unfold i32; omega) (by unfold i32; omega) h1 ?_
    exact hQ _ _ (by omega)
  · refine wr_if2f rfl rfl (by unfold i32; omega) (by unfold i32; omega) h1 ?_
    refine wr_n (pc2 := 83) (lv2 := [(5, vi j), (4, vi sm), (3, vi ((i : Int))), (2, vi n), (0, .ref 170), (1, vi k)]) (st2 := [vi sm]) 1 (fun _ _ => rfl) ?_
    by_cases h2 : sm = 0
    · refine wr_if1t rfl rfl (by unfold i32; omega) h2 ?_
      exact hQ _ _ (by omega)
    · refine wr_if1f rfl rfl (by unfold i32; omega) h2 ?_
      refine wr_n (pc2 := 87) (lv2 := [(5, vi j), (4, vi sm), (3, vi ((i : Int))), (2, vi n), (0, .ref 170), (1, vi k)]) (st2 := [.ref 170]) 1 (fun _ _ => rfl) ?_
      refine wr_get (v := .ref C) rfl rfl rfl (by decide) (rv_ref (show s.1 170 17 = ((C : Nat) : Int) from hS.2.2.1)) fun h3 => ?_
      show wr d tb_M175 90 [(5, vi j), (4, vi sm), (3, vi ((i : Int))), (2, vi n), (0, .ref 170), (1, vi k)] [.ref C] s _
      refine wr_get (v := .ref (C + 4)) rfl rfl (TG_C hC) (by decide) (rv_ref (hR C 13 (C + 4) (rc_C13 hC))) fun h4 => ?_
      show wr d tb_M175 93 [(5, vi j), (4, vi sm), (3, vi ((i : Int))), (2, vi n), (0, .ref 170), (1, vi k)] [.ref (C + 4)] s _
      refine wr_n (pc2 := 94) (lv2 := [(5, vi j), (4, vi sm), (3, vi ((i : Int))), (2, vi n), (0, .ref 170), (1, vi k)]) (st2 := [.ref 170, .ref (C + 4)]) 1 (fun _ _ => rfl) ?_
      refine wr_get (v := .ref C) rfl rfl rfl (by decide) (rv_ref (show s.1 170 17 = ((C : Nat) : Int) from hS.2.2.1)) fun h5 => ?_
      show wr d tb_M175 97 [(5, vi j), (4, vi sm), (3, vi ((i : Int))), (2, vi n), (0, .ref 170), (1, vi k)] [.ref C, .ref (C + 4)] s _
      refine wr_get (v := .ref (C + 5)) rfl rfl (TG_C hC) (by decide) (rv_ref (hR C 14 (C + 5) (rc_C14 hC))) fun h6 => ?_
      show wr d tb_M175 100 [(5, vi j), (4, vi sm), (3, vi ((i : Int))), (2, vi n), (0, .ref 170), (1, vi k)] [.ref (C + 5), .ref (C + 4)] s _
      refine wr_n (pc2 := 101) (lv2 := [(5, vi j), (4, vi sm), (3, vi ((i : Int))), (2, vi n), (0, .ref 170), (1, vi k)]) (st2 := [vi ((i : Int)), .ref (C + 5), .ref (C + 4)]) 1 (fun _ _ => rfl) ?_
      refine wr_ald (a := (i : Int)) (v := vi (s.1 (C + 5) i)) rfl (TG_C5 hC) rfl (by omega) (by omega) (by decide) rfl fun h7 => ?_
      have h7 : -2147483648 ≤ s.1 (C + 5) i ∧ s.1 (C + 5) i ≤ 2147483647 := h7
      show wr d tb_M175 102 [(5, vi j), (4, vi sm), (3, vi ((i : Int))), (2, vi n), (0, .ref 170), (1, vi k)] [vi (s.1 (C + 5) i), .ref (C + 4)] s _
      refine wr_n (pc2 := 104) (lv2 := [(5, vi j), (4, vi sm), (3, vi ((i : Int))), (2, vi n), (0, .ref 170), (1, vi k)]) (st2 := [vi j, vi (s.1 (C + 5) i), .ref (C + 4)]) 1 (fun _ _ => rfl) ?_
      refine wr_add (a := s.1 (C + 5) i) (b := j) rfl ?_
      show wr d tb_M175 105 [(5, vi j), (4, vi sm), (3, vi ((i : Int))), (2, vi n), (0, .ref 170), (1, vi k)] [vi (s.1 (C + 5) i + j), .ref (C + 4)] s _
      refine wr_ald (a := s.1 (C + 5) i + j) (v := vi (s.1 (C + 4) ((s.1 (C + 5) i + j).toNat))) rfl (TG_C4 hC) rfl (by omega) (by omega) (by decide) rfl fun h8 => ?_
      have h8 : -128 ≤ s.1 (C + 4) ((s.1 (C + 5) i + j).toNat) ∧ s.1 (C + 4) ((s.1 (C + 5) i + j).toNat) ≤ 127 := h8
      show wr d tb_M175 106 [(5, vi j), (4, vi sm), (3, vi ((i : Int))), (2, vi n), (0, .ref 170), (1, vi k)] [vi (s.1 (C + 4) ((s.1 (C + 5) i + j).toNat))] s _
      refine wr_n (pc2 := 107) (lv2 := [(5, vi j), (4, vi sm), (3, vi ((i : Int))), (2, vi n), (0, .ref 170), (1, vi k)]) (st2 := [.ref 170, vi (s.1 (C + 4) ((s.1 (C + 5) i + j).toNat))]) 1 (fun _ _ => rfl) ?_
      refine wr_get (v := .ref 171) rfl rfl rfl (by decide) (rv_ref (hR 170 0 171 rfl)) fun h9 => ?_
      show wr d tb_M175 110 [(5, vi j), (4, vi sm), (3, vi ((i : Int))), (2, vi n), (0, .ref 170), (1, vi k)] [.ref 171, vi (s.1 (C + 4) ((s.1 (C + 5) i + j).toNat))] s _
      refine wr_n (pc2 := 112) (lv2 := [(5, vi j), (4, vi sm), (3, vi ((i : Int))), (2, vi n), (0, .ref 170), (1, vi k)]) (st2 := [vi j, .ref 171, vi (s.1 (C + 4) ((s.1 (C + 5) i + j).toNat))]) 1 (fun _ _ => rfl) ?_
      refine wr_ald (a := j) (v := vi (s.1 171 j.toNat)) rfl rfl rfl (by omega) (by omega) (by decide) rfl fun h10 => ?_
      have h10 : -128 ≤ s.1 171 j.toNat ∧ s.1 171 j.toNat ≤ 127 := h10
      show wr d tb_M175 113 [(5, vi j), (4, vi sm), (3, vi ((i : Int))), (2, vi n), (0, .ref 170), (1, vi k)] [vi (s.1 171 j.toNat), vi (s.1 (C + 4) ((s.1 (C + 5) i + j).toNat))] s _
      by_cases h11 : s.1 (C + 4) ((s.1 (C + 5) i + j).toNat) ≠ s.1 171 j.toNat
      · refine wr_if2t rfl rfl (by unfold i32; omega) (by unfold i32; omega) h11 ?_
        refine wr_n (pc2 := 123) (lv2 := [(4, vi 0), (5, vi j), (3, vi ((i : Int))), (2, vi n), (0, .ref 170), (1, vi k)]) (st2 := []) 2 (fun _ _ => rfl) ?_
        refine wr_inc (a := j) rfl rfl ?_
        show wr d tb_M175 126 [(5, vi (j + 1)), (4, vi 0), (3, vi ((i : Int))), (2, vi n), (0, .ref 170), (1, vi k)] [] s _
        refine wr_n (pc2 := 75) (lv2 := [(5, vi (j + 1)), (4, vi 0), (3, vi ((i : Int))), (2, vi n), (0, .ref 170), (1, vi k)]) (st2 := []) 1 (fun _ _ => rfl) ?_
        exact ih _ (by omega) _ _ rfl (by omega) (by omega)
      · refine wr_if2f rfl rfl (by unfold i32; omega) (by unfold i32; omega) h11 ?_
        refine wr_n (pc2 := 123) (lv2 := [(4, vi 1), (5, vi j), (3, vi ((i : Int))), (2, vi n), (0, .ref 170), (1, vi k)]) (st2 := []) 3 (fun _ _ => rfl) ?_
        refine wr_inc (a := j) rfl rfl ?_
        show wr d tb_M175 126 [(5, vi (j + 1)), (4, vi 1), (3, vi ((i : Int))), (2, vi n), (0, .ref 170), (1, vi k)] [] s _
        refine wr_n (pc2 := 75) (lv2 := [(5, vi (j + 1)), (4, vi 1), (3, vi ((i : Int))), (2, vi n), (0, .ref 170), (1, vi k)]) (st2 := []) 1 (fun _ _ => rfl) ?_
        exact ih _ (by omega) _ _ rfl (by omega) (by omega)
set_option maxHeartbeats 20000000 in
set_option maxRecDepth 100000 in
theorem mm_look129 {d C D na : Nat} {k n : Int} {s0 s : rS} (hC : C = 177 ∨ C = 186) (hR : RF s.1) (hS : SI C D s.1) (hc : s.2 = s0.2) (hL0 : LJ2 s0.1 s.1) (htz : s.1 170 1 = 0) (hk : i32 k) (hn : 0 ≤ n ∧ n ≤ 2000) (hLK : LK C s.1) (hna : s.1 C 5 = (na : Int) ∧ na ≤ 6) (hsz : ∀ a : Nat, a < na → 1 ≤ s.1 (C + 3) a ∧ s.1 (C + 3) a ≤ 64) {i : Nat} {j sm : Int} (hi : (i : Int) < s.1 C 18) (hi9 : i < 100) (hsm : sm = 0 ∨ sm = 1) (hQ : ∀ w sm2 : Int, sm2 = 0 ∨ sm2 = 1 → wr d tb_M175 31 [(3, vi (((i + 1 : Nat) : Int))), (5, vi w), (4, vi sm2), (2, vi n), (0, .ref 170), (1, vi k)] [] s (MJ2 2 (fun t => t = 0) s0)) : wr d tb_M175 129 [(5, vi j), (4, vi sm), (3, vi ((i : Int))), (2, vi n), (0, .ref 170), (1, vi k)] [] s (MJ2 2 (fun t => t = 0) s0) := by
  unfold i32 at hk
  refine wr_n (pc2 := 130) (lv2 := [(5, vi j), (4, vi sm), (3, vi ((i : Int))), (2, vi n), (0, .ref 170), (1, vi k)]) (st2 := [.ref 170]) 1 (fun _ _ => rfl) ?_
  refine wr_get (v := .ref C) rfl rfl rfl (by decide) (rv_ref (show s.1 170 17 = ((C : Nat) : Int) from hS.2.2.1)) fun h1 => ?_
  show wr d tb_M175 133 [(5, vi j), (4, vi sm), (3, vi ((i : Int))), (2, vi n), (0, .ref 170), (1, vi k)] [.ref C] s _
  refine wr_get (v := .ref (C + 8)) rfl rfl (TG_C hC) (by decide) (rv_ref (hR C 17 (C + 8) (rc_C17 hC))) fun h2 => ?_
  show wr d tb_M175 136 [(5, vi j), (4, vi sm), (3, vi ((i : Int))), (2, vi n), (0, .ref 170), (1, vi k)] [.ref (C + 8)] s _
  refine wr_n (pc2 := 137) (lv2 := [(5, vi j), (4, vi sm), (3, vi ((i : Int))), (2, vi n), (0, .ref 170), (1, vi k)]) (st2 := [vi ((i : Int)), .ref (C + 8)]) 1 (fun _ _ => rfl) ?_
  refine wr_ald (a := (i : Int)) (v := vi (s.1 (C + 8) i)) rfl (TG_C8 hC) rfl (by omega) (by omega) (by decide) rfl fun h3 => ?_
  have h3 : -2147483648 ≤ s.1 (C + 8) i ∧ s.1 (C + 8) i ≤ 2147483647 := h3
  show wr d tb_M175 138 [(5, vi j), (4, vi sm), (3, vi ((i : Int))), (2, vi n), (0, .ref 170), (1, vi k)] [vi (s.1 (C + 8) i)] s _
  have hw8 := (hLK.2.2 i hi).2.2.2
  have hw6 := hna
  refine wr_n (pc2 := 142) (lv2 := [(5, vi (s.1 (C + 8) i)), (4, vi sm), (3, vi ((i : Int))), (2, vi n), (0, .ref 170), (1, vi k)]) (st2 := [vi sm]) 2 (fun _ _ => rfl) ?_
  by_cases h4 : sm = 0
  · refine wr_if1t rfl rfl (by unfold i32; omega) h4 ?_
    refine wr_inc (a := (i : Int)) rfl rfl ?_
    show wr d tb_M175 195 [(3, vi ((i : Int) + 1)), (5, vi (s.1 (C + 8) i)), (4, vi sm), (2, vi n), (0, .ref 170), (1, vi k)] [] s _
    refine wr_n (pc2 := 31) (lv2 := [(3, vi ((i : Int) + 1)), (5, vi (s.1 (C + 8) i)), (4, vi sm), (2, vi n), (0, .ref 170), (1, vi k)]) (st2 := []) 1 (fun _ _ => rfl) ?_
    rw [show (i : Int) + 1 = ((i + 1 : Nat) : Int) from rfl]
    exact hQ _ _ (by omega)
  · refine wr_if1f rfl rfl (by unfold i32; omega) h4 ?_
    refine wr_n (pc2 := 146) (lv2 := [(5, vi (s.1 (C + 8) i)), (4, vi sm), (3, vi ((i : Int))), (2, vi n), (0, .ref 170), (1, vi k)]) (st2 := [.ref 170]) 1 (fun _ _ => rfl) ?_
    refine wr_get (v := .ref C) rfl rfl rfl (by decide) (rv_ref (show s.1 170 17 = ((C : Nat) : Int) from hS.2.2.1)) fun h5 => ?_
    show wr d tb_M175 149 [(5, vi (s.1 (C + 8) i)), (4, vi sm), (3, vi ((i : Int))), (2, vi n), (0, .ref 170), (1, vi k)] [.ref C] s _
    refine wr_get (v := .ref (C + 7)) rfl rfl (TG_C hC) (by decide) (rv_ref (hR C 16 (C + 7) (rc_C16 hC))) fun h6 => ?_
    show wr d tb_M175 152 [(5, vi (s.1 (C + 8) i)), (4, vi sm), (3, vi ((i : Int))), (2, vi n), (0, .ref 170), (1, vi k)] [.ref (C + 7)] s _
    refine wr_n (pc2 := 153) (lv2 := [(5, vi (s.1 (C + 8) i)), (4, vi sm), (3, vi ((i : Int))), (2, vi n), (0, .ref 170), (1, vi k)]) (st2 := [vi ((i : Int)), .ref (C + 7)]) 1 (fun _ _ => rfl) ?_
    refine wr_ald (a := (i : Int)) (v := vi (s.1 (C + 7) i)) rfl (TG_C7 hC) rfl (by omega) (by omega) (by decide) rfl fun h7 => ?_
    have h7 : -2147483648 ≤ s.1 (C + 7) i ∧ s.1 (C + 7) i ≤ 2147483647 := h7
    show wr d tb_M175 154 [(5, vi (s.1 (C + 8) i)), (4, vi sm), (3, vi ((i : Int))), (2, vi n), (0, .ref 170), (1, vi k)] [vi (s.1 (C + 7) i)] s _
    by_cases h8 : s.1 (C + 7) i ≠ 0
    · refine wr_if1t rfl rfl (by unfold i32; omega) h8 ?_
      have hs9 := hsz (s.1 (C + 8) i).toNat (by omega)
      refine wr_n (pc2 := 169) (lv2 := [(5, vi (s.1 (C + 8) i)), (4, vi sm), (3, vi ((i : Int))), (2, vi n), (0, .ref 170), (1, vi k)]) (st2 := [.ref 170]) 1 (fun _ _ => rfl) ?_
      refine wr_get (v := .ref 212) rfl rfl rfl (by decide) (rv_ref (hR 170 47 212 rfl)) fun h9 => ?_
      show wr d tb_M175 172 [(5, vi (s.1 (C + 8) i)), (4, vi sm), (3, vi ((i : Int))), (2, vi n), (0, .ref 170), (1, vi k)] [.ref 212] s _
      refine wr_n (pc2 := 174) (lv2 := [(5, vi (s.1 (C + 8) i)), (4, vi sm), (3, vi ((i : Int))), (2, vi n), (0, .ref 170), (1, vi k)]) (st2 := [vi (s.1 (C + 8) i), .ref 212]) 1 (fun _ _ => rfl) ?_
      refine wr_ald (a := s.1 (C + 8) i) (v := .ref (213 + ((s.1 (C + 8) i).toNat))) rfl rfl rfl (by omega) (by omega) (by decide) (rv_ref (hR 212 ((s.1 (C + 8) i).toNat) (213 + ((s.1 (C + 8) i).toNat)) (rc_it (by omega)))) fun h10 => ?_
      show wr d tb_M175 175 [(5, vi (s.1 (C + 8) i)), (4, vi sm), (3, vi ((i : Int))), (2, vi n), (0, .ref 170), (1, vi k)] [.ref (213 + ((s.1 (C + 8) i).toNat))] s _
      refine wr_n (pc2 := 177) (lv2 := [(5, vi (s.1 (C + 8) i)), (4, vi sm), (3, vi ((i : Int))), (2, vi n), (0, .ref 170), (1, vi k)]) (st2 := [.ref 170, vi k, .ref (213 + ((s.1 (C + 8) i).toNat))]) 2 (fun _ _ => rfl) ?_
      refine wr_get (v := .ref C) rfl rfl rfl (by decide) (rv_ref (show s.1 170 17 = ((C : Nat) : Int) from hS.2.2.1)) fun h11 => ?_
      show wr d tb_M175 180 [(5, vi (s.1 (C + 8) i)), (4, vi sm), (3, vi ((i : Int))), (2, vi n), (0, .ref 170), (1, vi k)] [.ref C, vi k, .ref (213 + ((s.1 (C + 8) i).toNat))] s _
      refine wr_get (v := .ref (C + 3)) rfl rfl (TG_C hC) (by decide) (rv_ref (hR C 12 (C + 3) (rc_C12 hC))) fun h12 => ?_
      show wr d tb_M175 183 [(5, vi (s.1 (C + 8) i)), (4, vi sm), (3, vi ((i : Int))), (2, vi n), (0, .ref 170), (1, vi k)] [.ref (C + 3), vi k, .ref (213 + ((s.1 (C + 8) i).toNat))] s _
      refine wr_n (pc2 := 185) (lv2 := [(5, vi (s.1 (C + 8) i)), (4, vi sm), (3, vi ((i : Int))), (2, vi n), (0, .ref 170), (1, vi k)]) (st2 := [vi (s.1 (C + 8) i), .ref (C + 3), vi k, .ref (213 + ((s.1 (C + 8) i).toNat))]) 1 (fun _ _ => rfl) ?_
      refine wr_ald (a := s.1 (C + 8) i) (v := vi (s.1 (C + 3) ((s.1 (C + 8) i).toNat))) rfl (TG_C3 hC) rfl (by omega) (by omega) (by decide) rfl fun h13 => ?_
      have h13 : -2147483648 ≤ s.1 (C + 3) ((s.1 (C + 8) i).toNat) ∧ s.1 (C + 3) ((s.1 (C + 8) i).toNat) ≤ 2147483647 := h13
      show wr d tb_M175 186 [(5, vi (s.1 (C + 8) i)), (4, vi sm), (3, vi ((i : Int))), (2, vi n), (0, .ref 170), (1, vi k)] [vi (s.1 (C + 3) ((s.1 (C + 8) i).toNat)), vi k, .ref (213 + ((s.1 (C + 8) i).toNat))] s _
      refine wr_n (pc2 := 187) (lv2 := [(5, vi (s.1 (C + 8) i)), (4, vi sm), (3, vi ((i : Int))), (2, vi n), (0, .ref 170), (1, vi k)]) (st2 := [vi 1, vi (s.1 (C + 3) ((s.1 (C + 8) i).toNat)), vi k, .ref (213 + ((s.1 (C + 8) i).toNat))]) 1 (fun _ _ => rfl) ?_
      refine wr_sub (a := s.1 (C + 3) ((s.1 (C + 8) i).toNat)) (b := 1) rfl ?_
      show wr d tb_M175 188 [(5, vi (s.1 (C + 8) i)), (4, vi sm), (3, vi ((i : Int))), (2, vi n), (0, .ref 170), (1, vi k)] [vi ((s.1 (C + 3) ((s.1 (C + 8) i).toNat)) - 1), vi k, .ref (213 + ((s.1 (C + 8) i).toNat))] s _
      refine wr_and (b := (s.1 (C + 3) ((s.1 (C + 8) i).toNat)) - 1) rfl (by omega) fun z14 h15 => ?_
      show wr d tb_M175 189 [(5, vi (s.1 (C + 8) i)), (4, vi sm), (3, vi ((i : Int))), (2, vi n), (0, .ref 170), (1, vi k)] [vi z14, .ref (213 + ((s.1 (C + 8) i).toNat))] s _
      refine wr_ald (a := z14) (v := vi (s.1 (213 + ((s.1 (C + 8) i).toNat)) z14.toNat)) rfl (TG_it (by omega)) rfl (by omega) (by omega) (by decide) rfl fun h16 => ?_
      have h16 : -2147483648 ≤ s.1 (213 + ((s.1 (C + 8) i).toNat)) z14.toNat ∧ s.1 (213 + ((s.1 (C + 8) i).toNat)) z14.toNat ≤ 2147483647 := h16
      show wr d tb_M175 190 [(5, vi (s.1 (C + 8) i)), (4, vi sm), (3, vi ((i : Int))), (2, vi n), (0, .ref 170), (1, vi k)] [vi (s.1 (213 + ((s.1 (C + 8) i).toNat)) z14.toNat)] s _
      refine wr_i2l (a := s.1 (213 + ((s.1 (C + 8) i).toNat)) z14.toNat) rfl (by unfold i32; omega) ?_
      show wr d tb_M175 191 [(5, vi (s.1 (C + 8) i)), (4, vi sm), (3, vi ((i : Int))), (2, vi n), (0, .ref 170), (1, vi k)] [vl (s.1 (213 + ((s.1 (C + 8) i).toNat)) z14.toNat)] s _
      refine wr_end (fun _ _ => rfl) ?_
      exact ⟨⟨_, rfl, rfl⟩, hc, hR, hL0, ⟨C, D, hS⟩, htz⟩
    · refine wr_if1f rfl rfl (by unfold i32; omega) h8 ?_
      refine wr_n (pc2 := 158) (lv2 := [(5, vi (s.1 (C + 8) i)), (4, vi sm), (3, vi ((i : Int))), (2, vi n), (0, .ref 170), (1, vi k)]) (st2 := [.ref 170]) 1 (fun _ _ => rfl) ?_
      refine wr_get (v := .ref 203) rfl rfl rfl (by decide) (rv_ref (hR 170 38 203 rfl)) fun h17 => ?_
      show wr d tb_M175 161 [(5, vi (s.1 (C + 8) i)), (4, vi sm), (3, vi ((i : Int))), (2, vi n), (0, .ref 170), (1, vi k)] [.ref 203] s _
      refine wr_n (pc2 := 163) (lv2 := [(5, vi (s.1 (C + 8) i)), (4, vi sm), (3, vi ((i : Int))), (2, vi n), (0, .ref 170), (1, vi k)]) (st2 := [vi (s.1 (C + 8) i), .ref 203]) 1 (fun _ _ => rfl) ?_
      refine wr_ald (a := s.1 (C + 8) i) (v := vi (s.1 203 ((s.1 (C + 8) i).toNat))) rfl rfl rfl (by omega) (by omega) (by decide) rfl fun h18 => ?_
      have h18 : -2147483648 ≤ s.1 203 ((s.1 (C + 8) i).toNat) ∧ s.1 203 ((s.1 (C + 8) i).toNat) ≤ 2147483647 := h18
      show wr d tb_M175 164 [(5, vi (s.1 (C + 8) i)), (4, vi sm), (3, vi ((i : Int))), (2, vi n), (0, .ref 170), (1, vi k)] [vi (s.1 203 ((s.1 (C + 8) i).toNat))] s _
      refine wr_i2l (a := s.1 203 ((s.1 (C + 8) i).toNat)) rfl (by unfold i32; omega) ?_
      show wr d tb_M175 165 [(5, vi (s.1 (C + 8) i)), (4, vi sm), (3, vi ((i : Int))), (2, vi n), (0, .ref 170), (1, vi k)] [vl (s.1 203 ((s.1 (C + 8) i).toNat))] s _
      refine wr_n (pc2 := 191) (lv2 := [(5, vi (s.1 (C + 8) i)), (4, vi sm), (3, vi ((i : Int))), (2, vi n), (0, .ref 170), (1, vi k)]) (st2 := [vl (s.1 203 ((s.1 (C + 8) i).toNat))]) 1 (fun _ _ => rfl) ?_
      refine wr_end (fun _ _ => rfl) ?_
      exact ⟨⟨_, rfl, rfl⟩, hc, hR, hL0, ⟨C, D, hS⟩, htz⟩
set_option maxHeartbeats 20000000 in
set_option maxRecDepth 100000 in
theorem mm_look31 {d C D na : Nat} {k n : Int} {s0 s : rS} (hC : C = 177 ∨ C = 186) (hR : RF s.1) (hS : SI C D s.1) (hc : s.2 = s0.2) (hL0 : LJ2 s0.1 s.1) (htz : s.1 170 1 = 0) (hk : i32 k) (hn : 0 ≤ n ∧ n ≤ 2000) (hLK : LK C s.1) (hna : s.1 C 5 = (na : Int) ∧ na ≤ 6) (hsz : ∀ a : Nat, a < na → 1 ≤ s.1 (C + 3) a ∧ s.1 (C + 3) a ≤ 64) : ∀ (q i : Nat) (w sm : Int), (s.1 C 18 - i).toNat = q → i ≤ 100 → wr d tb_M175 31 [(3, vi ((i : Int))), (5, vi w), (4, vi sm), (2, vi n), (0, .ref 170), (1, vi k)] [] s (MJ2 2 (fun t => t = 0) s0) := by
  intro q
  have hl1 := hLK.1
  have hl2 := hLK.2.1
  induction q using Nat.strongRecOn with | ind q ih => ?_
  intro i w sm hq hi1
  refine wr_n (pc2 := 33) (lv2 := [(3, vi ((i : Int))), (5, vi w), (4, vi sm), (2, vi n), (0, .ref 170), (1, vi k)]) (st2 := [.ref 170, vi ((i : Int))]) 2 (fun _ _ => rfl) ?_
  refine wr_get (v := .ref C) rfl rfl rfl (by decide) (rv_ref (show s.1 170 17 = ((C : Nat) : Int) from hS.2.2.1)) fun h1 => ?_
  show wr d tb_M175 36 [(3, vi ((i : Int))), (5, vi w), (4, vi sm), (2, vi n), (0, .ref 170), (1, vi k)] [.ref C, vi ((i : Int))] s _
  refine wr_get (v := vi (s.1 C 18)) rfl rfl (TG_C hC) (by decide) rfl fun h2 => ?_
  have h2 : -2147483648 ≤ s.1 C 18 ∧ s.1 C 18 ≤ 2147483647 := h2
  show wr d tb_M175 39 [(3, vi ((i : Int))), (5, vi w), (4, vi sm), (2, vi n), (0, .ref 170), (1, vi k)] [vi (s.1 C 18), vi ((i : Int))] s _
  by_cases h3 : s.1 C 18 ≤ (i : Int)
  · refine wr_if2t rfl rfl (by unfold i32; omega) (by unfold i32; omega) h3 ?_
    refine wr_n (pc2 := 201) (lv2 := [(3, vi ((i : Int))), (5, vi w), (4, vi sm), (2, vi n), (0, .ref 170), (1, vi k)]) (st2 := [vl 1099511627776]) 1 (fun _ _ => rfl) ?_
    refine wr_end (fun _ _ => rfl) ?_
    exact ⟨⟨_, rfl, rfl⟩, hc, hR, hL0, ⟨C, D, hS⟩, htz⟩
  · refine wr_if2f rfl rfl (by unfold i32; omega) (by unfold i32; omega) h3 ?_
    have hLi := hLK.2.2 i (by omega)
    have hl9 := hLK.2.1
    refine wr_n (pc2 := 43) (lv2 := [(3, vi ((i : Int))), (5, vi w), (4, vi sm), (2, vi n), (0, .ref 170), (1, vi k)]) (st2 := [.ref 170]) 1 (fun _ _ => rfl) ?_
    refine wr_get (v := .ref C) rfl rfl rfl (by decide) (rv_ref (show s.1 170 17 = ((C : Nat) : Int) from hS.2.2.1)) fun h4 => ?_
    show wr d tb_M175 46 [(3, vi ((i : Int))), (5, vi w), (4, vi sm), (2, vi n), (0, .ref 170), (1, vi k)] [.ref C] s _
    refine wr_get (v := .ref (C + 6)) rfl rfl (TG_C hC) (by decide) (rv_ref (hR C 15 (C + 6) (rc_C15 hC))) fun h5 => ?_
    show wr d tb_M175 49 [(3, vi ((i : Int))), (5, vi w), (4, vi sm), (2, vi n), (0, .ref 170), (1, vi k)] [.ref (C + 6)] s _
    refine wr_n (pc2 := 50) (lv2 := [(3, vi ((i : Int))), (5, vi w), (4, vi sm), (2, vi n), (0, .ref 170), (1, vi k)]) (st2 := [vi ((i : Int)), .ref (C + 6)]) 1 (fun _ _ => rfl) ?_
    refine wr_ald (a := (i : Int)) (v := vi (s.1 (C + 6) i)) rfl (TG_C6 hC) rfl (by omega) (by omega) (by decide) rfl fun h6 => ?_
    have h6 : -2147483648 ≤ s.1 (C + 6) i ∧ s.1 (C + 6) i ≤ 2147483647 := h6
    show wr d tb_M175 51 [(3, vi ((i : Int))), (5, vi w), (4, vi sm), (2, vi n), (0, .ref 170), (1, vi k)] [vi (s.1 (C + 6) i)] s _
    refine wr_n (pc2 := 52) (lv2 := [(3, vi ((i : Int))), (5, vi w), (4, vi sm), (2, vi n), (0, .ref 170), (1, vi k)]) (st2 := [.ref 170, vi (s.1 (C + 6) i)]) 1 (fun _ _ => rfl) ?_
    refine wr_get (v := .ref C) rfl rfl rfl (by decide) (rv_ref (show s.1 170 17 = ((C : Nat) : Int) from hS.2.2.1)) fun h7 => ?_
    show wr d tb_M175 55 [(3, vi ((i : Int))), (5, vi w), (4, vi sm), (2, vi n), (0, .ref 170), (1, vi k)] [.ref C, vi (s.1 (C + 6) i)] s _
    refine wr_get (v := .ref (C + 5)) rfl rfl (TG_C hC) (by decide) (rv_ref (hR C 14 (C + 5) (rc_C14 hC))) fun h8 => ?_
    show wr d tb_M175 58 [(3, vi ((i : Int))), (5, vi w), (4, vi sm), (2, vi n), (0, .ref 170), (1, vi k)] [.ref (C + 5), vi (s.1 (C + 6) i)] s _
    refine wr_n (pc2 := 59) (lv2 := [(3, vi ((i : Int))), (5, vi w), (4, vi sm), (2, vi n), (0, .ref 170), (1, vi k)]) (st2 := [vi ((i : Int)), .ref (C + 5), vi (s.1 (C + 6) i)]) 1 (fun _ _ => rfl) ?_
    refine wr_ald (a := (i : Int)) (v := vi (s.1 (C + 5) i)) rfl (TG_C5 hC) rfl (by omega) (by omega) (by decide) rfl fun h9 => ?_
    have h9 : -2147483648 ≤ s.1 (C + 5) i ∧ s.1 (C + 5) i ≤ 2147483647 := h9
    show wr d tb_M175 60 [(3, vi ((i : Int))), (5, vi w), (4, vi sm), (2, vi n), (0, .ref 170), (1, vi k)] [vi (s.1 (C + 5) i), vi (s.1 (C + 6) i)] s _
    refine wr_sub (a := s.1 (C + 6) i) (b := s.1 (C + 5) i) rfl ?_
    show wr d tb_M175 61 [(3, vi ((i : Int))), (5, vi w), (4, vi sm), (2, vi n), (0, .ref 170), (1, vi k)] [vi ((s.1 (C + 6) i) - (s.1 (C + 5) i))] s _
    refine wr_n (pc2 := 62) (lv2 := [(3, vi ((i : Int))), (5, vi w), (4, vi sm), (2, vi n), (0, .ref 170), (1, vi k)]) (st2 := [vi n, vi ((s.1 (C + 6) i) - (s.1 (C + 5) i))]) 1 (fun _ _ => rfl) ?_
    by_cases h10 : (s.1 (C + 6) i) - (s.1 (C + 5) i) ≠ n
    · refine wr_if2t rfl rfl (by unfold i32; omega) (by unfold i32; omega) h10 ?_
      refine wr_n (pc2 := 75) (lv2 := [(5, vi 0), (4, vi 0), (3, vi ((i : Int))), (2, vi n), (0, .ref 170), (1, vi k)]) (st2 := []) 4 (fun _ _ => rfl) ?_
      exact mm_look75 (i := i) hC hR hS htz hk hn hLK hna hsz (by omega) ⟨hLi.1, hLi.2.1, hLi.2.2.1⟩ (by omega) (fun j2 sm2 h9 => mm_look129 (i := i) hC hR hS hc hL0 htz hk hn hLK hna hsz (by omega) (by omega) h9 (fun w3 sm3 h8 => ih _ (by omega) (i + 1) w3 sm3 rfl (by omega))) _ 0 0 rfl (by omega) (by omega)
    · refine wr_if2f rfl rfl (by unfold i32; omega) (by unfold i32; omega) h10 ?_
      refine wr_n (pc2 := 75) (lv2 := [(5, vi 0), (4, vi 1), (3, vi ((i : Int))), (2, vi n), (0, .ref 170), (1, vi k)]) (st2 := []) 5 (fun _ _ => rfl) ?_
      exact mm_look75 (i := i) hC hR hS htz hk hn hLK hna hsz (by omega) ⟨hLi.1, hLi.2.1, hLi.2.2.1⟩ (by omega) (fun j2 sm2 h9 => mm_look129 (i := i) hC hR hS hc hL0 htz hk hn hLK hna hsz (by omega) (by omega) h9 (fun w3 sm3 h8 => ih _ (by omega) (i + 1) w3 sm3 rfl (by omega))) _ 0 1 rfl (by omega) (by omega)
set_option maxHeartbeats 20000000 in
set_option maxRecDepth 100000 in
theorem mm_look0 {d C D na : Nat} {k n : Int} {s0 s : rS} (hC : C = 177 ∨ C = 186) (hR : RF s.1) (hS : SI C D s.1) (hc : s.2 = s0.2) (hL0 : LJ2 s0.1 s.1) (htz : s.1 170 1 = 0) (hk : i32 k) (hn : 0 ≤ n ∧ n ≤ 2000) (hLK : LK C s.1) (hna : s.1 C 5 = (na : Int) ∧ na ≤ 6) (hsz : ∀ a : Nat, a < na → 1 ≤ s.1 (C + 3) a ∧ s.1 (C + 3) a ≤ 64) : wr d tb_M175 31 [(3, vi 0), (2, vi n), (0, .ref 170), (1, vi k)] [] s (MJ2 2 (fun t => t = 0) s0) := by
  have hl1 := hLK.1
  have hl2 := hLK.2.1
  have hX : ∀ w sm : Int, wr d tb_M175 31 [(3, vi (((0 + 1 : Nat) : Int))), (5, vi w), (4, vi sm), (2, vi n), (0, .ref 170), (1, vi k)] [] s (MJ2 2 (fun t => t = 0) s0) := fun w sm => mm_look31 hC hR hS hc hL0 htz hk hn hLK hna hsz _ 1 w sm rfl (by omega)
  refine wr_n (pc2 := 33) (lv2 := [(3, vi 0), (2, vi n), (0, .ref 170), (1, vi k)]) (st2 := [.ref 170, vi 0]) 2 (fun _ _ => rfl) ?_
  refine wr_get (v := .ref C) rfl rfl rfl (by decide) (rv_ref (show s.1 170 17 = ((C : Nat) : Int) from hS.2.2.1)) fun h1 => ?_
  show wr d tb_M175 36 [(3, vi 0), (2, vi n), (0, .ref 170), (1, vi k)] [.ref C, vi 0] s _
  refine wr_get (v := vi (s.1 C 18)) rfl rfl (TG_C hC) (by decide) rfl fun h2 => ?_
  have h2 : -2147483648 ≤ s.1 C 18 ∧ s.1 C 18 ≤ 2147483647 := h2
  show wr d tb_M175 39 [(3, vi 0), (2, vi n), (0, .ref 170), (1, vi k)] [vi (s.1 C 18), vi 0] s _
  by_cases h3 : s.1 C 18 ≤ 0
  · refine wr_if2t rfl rfl (by unfold i32; omega) (by unfold i32; omega) h3 ?_
    refine wr_n (pc2 := 201) (lv2 := [(3, vi 0), (2, vi n), (0, .ref 170), (1, vi k)]) (st2 := [vl 1099511627776]) 1 (fun _ _ => rfl) ?_
    refine wr_end (fun _ _ => rfl) ?_
    exact ⟨⟨_, rfl, rfl⟩, hc, hR, hL0, ⟨C, D, hS⟩, htz⟩
  · refine wr_if2f rfl rfl (by unfold i32; omega) (by unfold i32; omega) h3 ?_
    have hLi := hLK.2.2 0 (by omega)
    have hl9 := hLK.2.1
    refine wr_n (pc2 := 43) (lv2 := [(3, vi 0), (2, vi n), (0, .ref 170), (1, vi k)]) (st2 := [.ref 170]) 1 (fun _ _ => rfl) ?_
    refine wr_get (v := .ref C) rfl rfl rfl (by decide) (rv_ref (show s.1 170 17 = ((C : Nat) : Int) from hS.2.2.1)) fun h4 => ?_
    show wr d tb_M175 46 [(3, vi 0), (2, vi n), (0, .ref 170), (1, vi k)] [.ref C] s _
    refine wr_get (v := .ref (C + 6)) rfl rfl (TG_C hC) (by decide) (rv_ref (hR C 15 (C + 6) (rc_C15 hC))) fun h5 => ?_
    show wr d tb_M175 49 [(3, vi 0), (2, vi n), (0, .ref 170), (1, vi k)] [.ref (C + 6)] s _
    refine wr_n (pc2 := 50) (lv2 := [(3, vi 0), (2, vi n), (0, .ref 170), (1, vi k)]) (st2 := [vi 0, .ref (C + 6)]) 1 (fun _ _ => rfl) ?_
    refine wr_ald (a := 0) (v := vi (s.1 (C + 6) 0)) rfl (TG_C6 hC) rfl (by omega) (by omega) (by decide) rfl fun h6 => ?_
    have h6 : -2147483648 ≤ s.1 (C + 6) 0 ∧ s.1 (C + 6) 0 ≤ 2147483647 := h6
    show wr d tb_M175 51 [(3, vi 0), (2, vi n), (0, .ref 170), (1, vi k)] [vi (s.1 (C + 6) 0)] s _
    refine wr_n (pc2 := 52) (lv2 := [(3, vi 0), (2, vi n), (0, .ref 170), (1, vi k)]) (st2 := [.ref 170, vi (s.1 (C + 6) 0)]) 1 (fun _ _ => rfl) ?_
    refine wr_get (v := .ref C) rfl rfl rfl (by decide) (rv_ref (show s.1 170 17 = ((C : Nat) : Int) from hS.2.2.1)) fun h7 => ?_
    show wr d tb_M175 55 [(3, vi 0), (2, vi n), (0, .ref 170), (1, vi k)] [.ref C, vi (s.1 (C + 6) 0)] s _
    refine wr_get (v := .ref (C + 5)) rfl rfl (TG_C hC) (by decide) (rv_ref (hR C 14 (C + 5) (rc_C14 hC))) fun h8 => ?_
    show wr d tb_M175 58 [(3, vi 0), (2, vi n), (0, .ref 170), (1, vi k)] [.ref (C + 5), vi (s.1 (C + 6) 0)] s _
    refine wr_n (pc2 := 59) (lv2 := [(3, vi 0), (2, vi n), (0, .ref 170), (1, vi k)]) (st2 := [vi 0, .ref (C + 5), vi (s.1 (C + 6) 0)]) 1 (fun _ _ => rfl) ?_
    refine wr_ald (a := 0) (v := vi (s.1 (C + 5) 0)) rfl (TG_C5 hC) rfl (by omega) (by omega) (by decide) rfl fun h9 => ?_
    have h9 : -2147483648 ≤ s.1 (C + 5) 0 ∧ s.1 (C + 5) 0 ≤ 2147483647 := h9
    show wr d tb_M175 60 [(3, vi 0), (2, vi n), (0, .ref 170), (1, vi k)] [vi (s.1 (C + 5) 0), vi (s.1 (C + 6) 0)] s _
    refine wr_sub (a := s.1 (C + 6) 0) (b := s.1 (C + 5) 0) rfl ?_
    show wr d tb_M175 61 [(3, vi 0), (2, vi n), (0, .ref 170), (1, vi k)] [vi ((s.1 (C + 6) 0) - (s.1 (C + 5) 0))] s _
    refine wr_n (pc2 := 62) (lv2 := [(3, vi 0), (2, vi n), (0, .ref 170), (1, vi k)]) (st2 := [vi n, vi ((s.1 (C + 6) 0) - (s.1 (C + 5) 0))]) 1 (fun _ _ => rfl) ?_
    by_cases h10 : (s.1 (C + 6) 0) - (s.1 (C + 5) 0) ≠ n
    · refine wr_if2t rfl rfl (by unfold i32; omega) (by unfold i32; omega) h10 ?_
      refine wr_n (pc2 := 75) (lv2 := [(5, vi 0), (4, vi 0), (3, vi 0), (2, vi n), (0, .ref 170), (1, vi k)]) (st2 := []) 4 (fun _ _ => rfl) ?_
      exact mm_look75 (i := 0) hC hR hS htz hk hn hLK hna hsz (by omega) ⟨hLi.1, hLi.2.1, hLi.2.2.1⟩ (by omega) (fun j2 sm2 h9 => mm_look129 (i := 0) hC hR hS hc hL0 htz hk hn hLK hna hsz (by omega) (by omega) h9 (fun w3 sm3 h8 => hX w3 sm3)) _ 0 0 rfl (by omega) (by omega)
    · refine wr_if2f rfl rfl (by unfold i32; omega) (by unfold i32; omega) h10 ?_
      refine wr_n (pc2 := 75) (lv2 := [(5, vi 0), (4, vi 1), (3, vi 0), (2, vi n), (0, .ref 170), (1, vi k)]) (st2 := []) 5 (fun _ _ => rfl) ?_
      exact mm_look75 (i := 0) hC hR hS htz hk hn hLK hna hsz (by omega) ⟨hLi.1, hLi.2.1, hLi.2.2.1⟩ (by omega) (fun j2 sm2 h9 => mm_look129 (i := 0) hC hR hS hc hL0 htz hk hn hLK hna hsz (by omega) (by omega) h9 (fun w3 sm3 h8 => hX w3 sm3)) _ 0 1 rfl (by omega) (by omega)
set_option maxHeartbeats 20000000 in
set_option maxRecDepth 100000 in
theorem qq_look {d C D : Nat} (s : rS) (hR : RF s.1) (hS : SI C D s.1) {n : Int} (hn : i32 n) : cr (d + 1 + 1) 175 [.ref 170, vi n] s (MJ2 2 (fun t => t = 0) s) := by
  have hC := SI_C hS
  have ht0 := hS.2.1
  refine cr_of (M := tb_M175) rfl (Nat.le_of_ble_eq_true rfl) ?_
  show wr (d + 1) tb_M175 0 [(0, .ref 170), (1, vi n)] [] s _
  refine wr_n (pc2 := 1) (lv2 := [(0, .ref 170), (1, vi n)]) (st2 := [.ref 170]) 1 (fun _ _ => rfl) ?_
  refine wr_get (v := vi (s.1 170 1)) rfl rfl rfl (by decide) rfl fun h1 => ?_
  have h1 : -2147483648 ≤ s.1 170 1 ∧ s.1 170 1 ≤ 2147483647 := h1
  show wr (d + 1) tb_M175 4 [(0, .ref 170), (1, vi n)] [vi (s.1 170 1)] s _
  refine wr_n (pc2 := 7) (lv2 := [(2, vi (s.1 170 1)), (0, .ref 170), (1, vi n)]) (st2 := [vi 0, .ref 170]) 3 (fun _ _ => rfl) ?_
  refine wr_put (z := 0) rfl rfl rfl rfl (by decide) rfl (by decide) rfl (show -2147483648 ≤ 0 ∧ 0 ≤ 2147483647 by omega) (hf_int' _) ?_
  show wr (d + 1) tb_M175 10 [(2, vi (s.1 170 1)), (0, .ref 170), (1, vi n)] [] (up2 s.1 170 1 0, s.2) _
  have hR2 : RF (up2 s.1 170 1 0) := (RF_up hR rfl)
  obtain ⟨sn, hsn⟩ : ∃ qq9 : rS, qq9 = (up2 s.1 170 1 0, s.2) := ⟨_, rfl⟩
  rw [← hsn]
  have hu : U1 170 1 s.1 sn.1 := by rw [hsn]; exact U1_up
  have htz : sn.1 170 1 = 0 := by rw [hsn]; show up2 s.1 170 1 0 170 1 = 0; exact up_self
  have hz : sn.2 = s.2 := by rw [hsn]
  have hSn : SI C D sn.1 := SI_fr hS (fun k j e1 e2 => hu k j e1) (by omega) (fun q => HD_at q (fun i => hu 1630 i (by omega)))
  have hRn : RF sn.1 := RX_RF (r := sn.1) (fun _ _ _ => rfl) (fun k j v hv => (hu k j (by rintro ⟨rfl, rfl⟩; cases hv)).trans (hR k j v hv))
  have hLO : LJ2 s.1 sn.1 := fun k j hk => hu k j (by omega)
  show wr (d + 1) tb_M175 10 [(2, vi (s.1 170 1)), (0, .ref 170), (1, vi n)] [] sn _
  refine wr_n (pc2 := 11) (lv2 := [(2, vi (s.1 170 1)), (0, .ref 170), (1, vi n)]) (st2 := [.ref 170]) 1 (fun _ _ => rfl) ?_
  refine wr_get (v := vi (sn.1 170 20)) rfl rfl rfl (by decide) rfl fun h3 => ?_
  have h3 : 0 ≤ sn.1 170 20 ∧ sn.1 170 20 ≤ 1 := h3
  show wr (d + 1) tb_M175 14 [(2, vi (s.1 170 1)), (0, .ref 170), (1, vi n)] [vi (sn.1 170 20)] sn _
  by_cases h4 : sn.1 170 20 = 0
  · refine wr_if1t rfl rfl (by unfold i32; omega) h4 ?_
    refine wr_n (pc2 := 28) (lv2 := [(2, vi (s.1 170 1)), (0, .ref 170), (1, vi n)]) (st2 := [vl 1099511627776]) 1 (fun _ _ => rfl) ?_
    refine wr_end (fun _ _ => rfl) ?_
    exact ⟨⟨_, rfl, rfl⟩, hz, hRn, hLO, ⟨C, D, hSn⟩, htz⟩
  · refine wr_if1f rfl rfl (by unfold i32; omega) h4 ?_
    refine wr_n (pc2 := 18) (lv2 := [(2, vi (s.1 170 1)), (0, .ref 170), (1, vi n)]) (st2 := [.ref 170]) 1 (fun _ _ => rfl) ?_
    refine wr_get (v := vi (sn.1 170 52)) rfl rfl rfl (by decide) rfl fun h5 => ?_
    have h5 : -2147483648 ≤ sn.1 170 52 ∧ sn.1 170 52 ≤ 2147483647 := h5
    show wr (d + 1) tb_M175 21 [(2, vi (s.1 170 1)), (0, .ref 170), (1, vi n)] [vi (sn.1 170 52)] sn _
    refine wr_n (pc2 := 22) (lv2 := [(2, vi (s.1 170 1)), (0, .ref 170), (1, vi n)]) (st2 := [vi 3, vi (sn.1 170 52)]) 1 (fun _ _ => rfl) ?_
    by_cases h6 : sn.1 170 52 ≠ 3
    · refine wr_if2t rfl rfl (by unfold i32; omega) (by unfold i32; omega) h6 ?_
      refine wr_n (pc2 := 31) (lv2 := [(3, vi 0), (2, vi (s.1 170 1)), (0, .ref 170), (1, vi n)]) (st2 := []) 2 (fun _ _ => rfl) ?_
      obtain ⟨hH, hPT, hLK, na, hna, hsz⟩ := SA_get hSn (by omega)
      exact mm_look0 hC hRn hSn hz hLO htz hn ht0 hLK hna hsz
    · refine wr_if2f rfl rfl (by unfold i32; omega) (by unfold i32; omega) h6 ?_
      refine wr_n (pc2 := 28) (lv2 := [(2, vi (s.1 170 1)), (0, .ref 170), (1, vi n)]) (st2 := [vl 1099511627776]) 1 (fun _ _ => rfl) ?_
      refine wr_end (fun _ _ => rfl) ?_
      exact ⟨⟨_, rfl, rfl⟩, hz, hRn, hLO, ⟨C, D, hSn⟩, htz⟩
set_option maxHeartbeats 20000000 in
set_option maxRecDepth 100000 in
theorem qq_run {d C D : Nat} (s : rS) (hR : RF s.1) (hS : SI C D s.1) {n : Int} (hn : i32 n) : cr (d + 6 + 1) 162 [.ref 170, vi n] s (MJ2 1 (fun t => t = s.1 170 1) s) := by
  have hC := SI_C hS
  have ht0 := hS.2.1
  unfold i32 at hn
  refine cr_of (M := tb_M162) rfl (Nat.le_of_ble_eq_true rfl) ?_
  show wr (d + 6) tb_M162 0 [(0, .ref 170), (1, vi n)] [] s _
  refine wr_n (pc2 := 1) (lv2 := [(0, .ref 170), (1, vi n)]) (st2 := [.ref 170]) 1 (fun _ _ => rfl) ?_
  refine wr_get (v := vi (s.1 170 20)) rfl rfl rfl (by decide) rfl fun h1 => ?_
  have h1 : 0 ≤ s.1 170 20 ∧ s.1 170 20 ≤ 1 := h1
  show wr (d + 6) tb_M162 4 [(0, .ref 170), (1, vi n)] [vi (s.1 170 20)] s _
  by_cases h2 : s.1 170 20 ≠ 0
  · refine wr_if1t rfl rfl (by unfold i32; omega) h2 ?_
    refine wr_n (pc2 := 11) (lv2 := [(0, .ref 170), (1, vi n)]) (st2 := [vi n]) 1 (fun _ _ => rfl) ?_
    refine wr_i2l (a := n) rfl (by unfold i32; omega) ?_
    show wr (d + 6) tb_M162 12 [(0, .ref 170), (1, vi n)] [vl n] s _
    refine wr_n (pc2 := 16) (lv2 := [(0, .ref 170), (1, vi n)]) (st2 := [vl 20000, vl 1, vl n]) 2 (fun _ _ => rfl) ?_
    refine wr_call0 (args := [vl n, vl 1, vl 20000]) (rest := []) rfl rfl rfl (Nat.le_of_ble_eq_true rfl) (cr_mono (c_in (d := d + 5) (a := n) (b := 1) (c := 20000) _ (by unfold i64; omega) (by unfold i64; omega) (by unfold i64; omega)) ?_)
    rintro s6 out ⟨e3, rfl, h4, e5⟩
    refine ⟨_, rfl, ?_⟩
    rw [e5]
    show wr (d + 6) tb_M162 19 [(0, .ref 170), (1, vi n)] [vi e3] s _
    by_cases h7 : e3 = 0
    · refine wr_if1t rfl rfl (by unfold i32; omega) h7 ?_
      refine wr_n (pc2 := 31) (lv2 := [(0, .ref 170), (1, vi n)]) (st2 := [vi ((-1))]) 1 (fun _ _ => rfl) ?_
      refine wr_end (fun _ _ => rfl) ?_
      exact MJ2_same rfl rfl hR hS
    · refine wr_if1f rfl rfl (by unfold i32; omega) h7 ?_
      refine wr_n (pc2 := 23) (lv2 := [(0, .ref 170), (1, vi n)]) (st2 := [.ref 170]) 1 (fun _ _ => rfl) ?_
      refine wr_get (v := vi (s.1 170 52)) rfl rfl rfl (by decide) rfl fun h8 => ?_
      have h8 : -2147483648 ≤ s.1 170 52 ∧ s.1 170 52 ≤ 2147483647 := h8
      show wr (d + 6) tb_M162 26 [(0, .ref 170), (1, vi n)] [vi (s.1 170 52)] s _
      refine wr_n (pc2 := 27) (lv2 := [(0, .ref 170), (1, vi n)]) (st2 := [vi 3, vi (s.1 170 52)]) 1 (fun _ _ => rfl) ?_
      by_cases h9 : s.1 170 52 ≠ 3
      · refine wr_if2t rfl rfl (by unfold i32; omega) (by unfold i32; omega) h9 ?_
        refine wr_n (pc2 := 34) (lv2 := [(0, .ref 170), (1, vi n)]) (st2 := [vi 0, .ref 170]) 2 (fun _ _ => rfl) ?_
        refine wr_put (z := 0) rfl rfl rfl rfl (by decide) rfl (by decide) rfl (show -2147483648 ≤ 0 ∧ 0 ≤ 2147483647 by omega) (hf_int' _) ?_
        show wr (d + 6) tb_M162 37 [(0, .ref 170), (1, vi n)] [] (up2 s.1 170 53 0, s.2) _
        have hR10 : RF (up2 s.1 170 53 0) := (RF_up hR rfl)
        refine wr_n (pc2 := 38) (lv2 := [(0, .ref 170), (1, vi n)]) (st2 := [.ref 170]) 1 (fun _ _ => rfl) ?_
        refine wr_get (v := vi (s.1 170 52)) rfl rfl rfl (by decide) rfl fun h11 => ?_
        have h11 : -2147483648 ≤ s.1 170 52 ∧ s.1 170 52 ≤ 2147483647 := h11
        show wr (d + 6) tb_M162 41 [(0, .ref 170), (1, vi n)] [vi (s.1 170 52)] (up2 s.1 170 53 0, s.2) _
        refine wr_n (pc2 := 42) (lv2 := [(0, .ref 170), (1, vi n)]) (st2 := [vi 1, vi (s.1 170 52)]) 1 (fun _ _ => rfl) ?_
        by_cases h12 : s.1 170 52 ≠ 1
        · refine wr_if2t rfl rfl (by unfold i32; omega) (by unfold i32; omega) h12 ?_
          refine wr_n (pc2 := 49) (lv2 := [(0, .ref 170), (1, vi n)]) (st2 := [vi n, .ref 170]) 2 (fun _ _ => rfl) ?_
          refine wr_put (z := n) rfl rfl rfl rfl (by decide) rfl (by decide) rfl (show -2147483648 ≤ n ∧ n ≤ 2147483647 by omega) (hf_int' _) ?_
          show wr (d + 6) tb_M162 52 [(0, .ref 170), (1, vi n)] [] (up2 (up2 s.1 170 53 0) 170 54 n, s.2) _
          have hR13 : RF (up2 (up2 s.1 170 53 0) 170 54 n) := (RF_up (RF_up hR rfl) rfl)
          refine wr_n (pc2 := 54) (lv2 := [(0, .ref 170), (1, vi n)]) (st2 := [vi 2, .ref 170]) 2 (fun _ _ => rfl) ?_
          refine wr_put (z := 2) rfl rfl rfl rfl (by decide) rfl (by decide) rfl (show -2147483648 ≤ 2 ∧ 2 ≤ 2147483647 by omega) (hf_int' _) ?_
          show wr (d + 6) tb_M162 57 [(0, .ref 170), (1, vi n)] [] (up2 (up2 (up2 s.1 170 53 0) 170 54 n) 170 52 2, s.2) _
          have hR14 : RF (up2 (up2 (up2 s.1 170 53 0) 170 54 n) 170 52 2) := (RF_up (RF_up (RF_up hR rfl) rfl) rfl)
          refine wr_n (pc2 := 59) (lv2 := [(2, vi 1), (0, .ref 170), (1, vi n)]) (st2 := []) 2 (fun _ _ => rfl) ?_
          obtain ⟨sn, hsn⟩ : ∃ qq9 : rS, qq9 = (up2 (up2 (up2 s.1 170 53 0) 170 54 n) 170 52 2, s.2) := ⟨_, rfl⟩
          rw [← hsn]
          have hu : ∀ k j, ¬ (k = 170 ∧ 52 ≤ j ∧ j ≤ 54) → sn.1 k j = s.1 k j := by rw [hsn]; intro k j e; exact (if_neg (by omega)).trans ((if_neg (by omega)).trans (if_neg (by omega)))
          have v2 : sn.1 170 52 = 2 := by rw [hsn]; show (up2 (up2 (up2 s.1 170 53 0) 170 54 n) 170 52 2) 170 52 = 2; exact up_self
          have v4 : sn.1 170 54 = n := by rw [hsn]; show (up2 (up2 (up2 s.1 170 53 0) 170 54 n) 170 52 2) 170 54 = n; exact (if_neg (by omega)).trans up_self
          have v3 : sn.1 170 53 = 0 := by rw [hsn]; show (up2 (up2 (up2 s.1 170 53 0) 170 54 n) 170 52 2) 170 53 = 0; exact (if_neg (by omega)).trans ((if_neg (by omega)).trans up_self)
          have hz : sn.2 = s.2 := by rw [hsn]
          have hX : RX s.1 sn.1 := fun k j e => hu k j (fun q => e (by unfold RS; omega))
          rcases hS.2.2.2.2 with q20 | ⟨_, hH, hPT, hLK, F, w0, na, st, hCW, hSW⟩
          · exfalso; omega
          rcases hSW with q1 | q3 | ⟨q02, G, own, hI⟩
          · exfalso; omega
          · exfalso; omega
          have hI2 : RI F sn.1 G own := RI_same hI (fun k hk => funext fun j => hu k j (by omega)) (hu _ _ (by omega))
          have hM : MC C F na s.1 := ⟨hS.2.2.1, hCW.1, hCW.2.2.2.2.1, hCW.2.2.2.2.2, hH⟩
          have hV : RV C F na s sn := ⟨hz, RX_RF hX hR, hX, MC_RX hC hM hX (HD_at hH (fun i => hu _ _ (by omega)))⟩
          have hQ : RQz C F na s G own sn := ⟨hV, v2, hI2, by omega⟩
          have hgo := (l_run (d := d) (n := n) hC _ sn G own hQ rfl).1 0 0 (by omega) (.inl rfl)
          have hRn := hV.2.1
          show wr (d + 6) tb_M162 59 [(2, vi 1), (0, .ref 170), (1, vi n)] [] sn _
          refine wr_n (pc2 := 64) (lv2 := [(2, vi 1), (0, .ref 170), (1, vi n)]) (st2 := [.ref 170]) 3 (fun _ _ => rfl) ?_
          refine wr_get (v := vi (sn.1 170 52)) rfl rfl rfl (by decide) rfl fun h15 => ?_
          have h15 : -2147483648 ≤ sn.1 170 52 ∧ sn.1 170 52 ≤ 2147483647 := h15
          show wr (d + 6) tb_M162 67 [(2, vi 1), (0, .ref 170), (1, vi n)] [vi (sn.1 170 52)] sn _
          refine wr_n (pc2 := 68) (lv2 := [(2, vi 1), (0, .ref 170), (1, vi n)]) (st2 := [vi 2, vi (sn.1 170 52)]) 1 (fun _ _ => rfl) ?_
          refine wr_if2f rfl rfl (by unfold i32; omega) (by unfold i32; omega) (by show ¬ (sn.1 170 52 ≠ 2); omega) ?_
          show wr (d + 6) tb_M162 71 [(2, vi 1), (0, .ref 170), (1, vi n)] [] sn _
          refine wr_n (pc2 := 75) (lv2 := [(3, vi 0), (2, vi 0), (0, .ref 170), (1, vi n)]) (st2 := []) 4 (fun _ _ => rfl) ?_
          refine wr_mono hgo ?_
          rintro s2 out ⟨⟨z, rfl⟩, ⟨w1, w2, w3, w4⟩, w5⟩
          refine ⟨⟨_, rfl, rfl⟩, w1, w2, RX_LJ2 w3, ⟨C, D, hS.1, by rw [w3 170 1 (by unfold RS; omega)]; exact ht0, w4.1, (w3 170 18 (by unfold RS; omega)).trans hS.2.2.2.1, .inr ⟨(w3 170 20 (by unfold RS; omega)).trans (by omega), w4.2.2.2.2, ?_, LK_at hLK (fun k j hk => w3 k j (by unfold RS; omega)), F, w0, na, st, CWF_at (funext fun j => w3 _ _ (by unfold RS; omega)) (fun j => w3 _ _ (by unfold RS; omega)) (fun j _ => w3 _ _ (by unfold RS; omega)) hCW, ?_⟩⟩, w3 170 1 (by unfold RS; omega)⟩
          · unfold PT at hPT ⊢; rw [w3 C 7 (by unfold RS; omega), w3 C 8 (by unfold RS; omega)]; exact hPT
          · rcases w5 with q | q | ⟨q, G3, own3, q3⟩
            · exact .inl q
            · exact .inr (.inl q)
            · exact .inr (.inr ⟨.inr q, G3, own3, q3⟩)
        · refine wr_if2f rfl rfl (by unfold i32; omega) (by unfold i32; omega) h12 ?_
          refine wr_n (pc2 := 46) (lv2 := [(0, .ref 170), (1, vi n)]) (st2 := [vi 1]) 1 (fun _ _ => rfl) ?_
          refine wr_end (fun _ _ => rfl) ?_
          obtain ⟨sn, hsn⟩ : ∃ qq9 : rS, qq9 = (up2 s.1 170 53 0, s.2) := ⟨_, rfl⟩
          rw [← hsn]
          have hu : U1 170 53 s.1 sn.1 := by rw [hsn]; exact U1_up
          have hRz : RF sn.1 := by rw [hsn]; exact hR10
          have hz : sn.2 = s.2 := by rw [hsn]
          exact ⟨⟨_, rfl, rfl⟩, hz, hRz, fun k j hk => hu k j (by omega), ⟨C, D, hS.1, by rw [hu 170 1 (by omega)]; exact ht0, (hu _ _ (by omega)).trans hS.2.2.1, (hu _ _ (by omega)).trans hS.2.2.2.1, SA_at hC hS.2.2.2.2 (fun k j a b => hu k j (by omega)) (hu _ _ (by omega)) (fun q => HD_at q (fun i => hu _ _ (by omega))) (fun F q => SW_at q (fun k e1 e2 e3 => funext fun j => hu k j (by omega)) (hu _ _ (by omega)) (hu _ _ (by omega)))⟩, hu 170 1 (by omega)⟩
      · refine wr_if2f rfl rfl (by unfold i32; omega) (by unfold i32; omega) h9 ?_
        refine wr_n (pc2 := 31) (lv2 := [(0, .ref 170), (1, vi n)]) (st2 := [vi ((-1))]) 1 (fun _ _ => rfl) ?_
        refine wr_end (fun _ _ => rfl) ?_
        exact MJ2_same rfl rfl hR hS
  · refine wr_if1f rfl rfl (by unfold i32; omega) h2 ?_
    refine wr_n (pc2 := 9) (lv2 := [(0, .ref 170), (1, vi n)]) (st2 := [vi ((-2))]) 1 (fun _ _ => rfl) ?_
    refine wr_end (fun _ _ => rfl) ?_
    exact MJ2_same rfl rfl hR hS
