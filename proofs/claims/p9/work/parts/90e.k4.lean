/-! Our own objects: the compiler, E. -/
set_option maxHeartbeats 20000000 in
set_option maxRecDepth 100000 in
theorem k_parameters_7 {d : Nat} {s0 : rS} {C : Nat} (hC : C = 99 ∨ C = 115)  : ∀ (w : Nat) (l2 : Int) (l1 : Int) (s : rS), (2000 - l2).toNat = w → KI s.1 → s.1 131 1 = (C : Int) → FX s0.1 s.1 → s.2 = s0.2 → 0 ≤ l2 ∧ l2 ≤ 2000 → (-2147483648) ≤ l1 ∧ l1 ≤ 2147483647 → wr (d + 3) tb_M44 7 [(2, vi l2), (0, .ref 131), (1, vi l1)] [] s (TZ (fun z => True) s0) := by
  intro w
  induction w using Nat.strongRecOn with | ind w ih => ?_
  intro l2 l1 s hw hK hq hX hc hl2 hl1
  refine wr_n (pc2 := 11) (lv2 := [(2, vi l2), (0, .ref 131), (1, vi l1)]) (st2 := [vi 2000, vi l2]) 2 (fun _ _ => rfl) ?_
  by_cases h1 : 2000 ≤ l2
  · refine wr_if2t rfl rfl (by unfold i32; omega) (by unfold i32; omega) h1 ?_
    refine wr_n (pc2 := 66) (lv2 := [(2, vi l2), (0, .ref 131), (1, vi l1)]) (st2 := [vi l2]) 1 (fun _ _ => rfl) ?_
    refine wr_reti rfl rfl ?_
    exact ⟨hK, hX, .inl ⟨l2, hc, rfl, by unfold i32; omega, trivial⟩⟩
  · refine wr_if2f rfl rfl (by unfold i32; omega) (by unfold i32; omega) h1 ?_
    refine wr_n (pc2 := 15) (lv2 := [(2, vi l2), (0, .ref 131), (1, vi l1)]) (st2 := [.ref 131]) 1 (fun _ _ => rfl) ?_
    refine wr_get (v := .ref 137) rfl rfl rfl (by decide) (rv_ref (hK.1 131 0 137 rfl)) fun h2 => ?_
    show wr (d + 3) tb_M44 18 [(2, vi l2), (0, .ref 131), (1, vi l1)] [.ref 137] s _
    refine wr_call1 (args := []) (rest := []) rfl rfl rfl rfl (Nat.le_of_ble_eq_true rfl) (cr_mono (k_kind (d := d + 2) s hK) ?_)
    rintro s3 out ⟨z3, rfl, hz3, hp3, e3⟩
    refine ⟨_, rfl, ?_⟩
    rw [e3]
    unfold i32 at hz3
    clear hp3
    show wr (d + 3) tb_M44 21 [(2, vi l2), (0, .ref 131), (1, vi l1)] [vi z3] s _
    refine wr_n (pc2 := 23) (lv2 := [(2, vi l2), (0, .ref 131), (1, vi l1)]) (st2 := [vi 44, vi z3]) 1 (fun _ _ => rfl) ?_
    by_cases h4 : z3 ≠ 44
    · refine wr_if2t rfl rfl (by unfold i32; omega) (by unfold i32; omega) h4 ?_
      refine wr_n (pc2 := 66) (lv2 := [(2, vi l2), (0, .ref 131), (1, vi l1)]) (st2 := [vi l2]) 1 (fun _ _ => rfl) ?_
      refine wr_reti rfl rfl ?_
      exact ⟨hK, hX, .inl ⟨l2, hc, rfl, by unfold i32; omega, trivial⟩⟩
    · refine wr_if2f rfl rfl (by unfold i32; omega) (by unfold i32; omega) h4 ?_
      refine wr_n (pc2 := 27) (lv2 := [(2, vi l2), (0, .ref 131), (1, vi l1)]) (st2 := [.ref 131]) 1 (fun _ _ => rfl) ?_
      refine wr_get (v := .ref 137) rfl rfl rfl (by decide) (rv_ref (hK.1 131 0 137 rfl)) fun h5 => ?_
      show wr (d + 3) tb_M44 30 [(2, vi l2), (0, .ref 131), (1, vi l1)] [.ref 137] s _
      refine wr_call1 (args := []) (rest := []) rfl rfl rfl rfl (Nat.le_of_ble_eq_true rfl) (cr_mono (k_step (d := d + 2) s hK) ?_)
      rintro s6 out ⟨hK6, hY6, hc6, rfl⟩
      refine ⟨_, rfl, ?_⟩
      have hX6 : FX s0.1 s6.1 := FX_tr hX hY6
      have hC6 : s6.2 = s0.2 := hc6.trans hc
      have hq6 : s6.1 131 1 = (C : Int) := (hY6 131 1 (by unfold fx; omega)).trans hq
      show wr (d + 3) tb_M44 33 [(2, vi l2), (0, .ref 131), (1, vi l1)] [] s6 _
      refine wr_n (pc2 := 36) (lv2 := [(2, vi l2), (0, .ref 131), (1, vi l1)]) (st2 := [vi 4, vi l2, .ref 131]) 3 (fun _ _ => rfl) ?_
      by_cases h7 : 4 ≤ l2
      · refine wr_if2t rfl rfl (by unfold i32; omega) (by unfold i32; omega) h7 ?_
        refine wr_n (pc2 := 45) (lv2 := [(2, vi l2), (0, .ref 131), (1, vi l1)]) (st2 := [.ref 131, vi 0, .ref 131]) 2 (fun _ _ => rfl) ?_
        refine wr_get (v := .ref 137) rfl rfl rfl (by decide) (rv_ref (hK6.1 131 0 137 rfl)) fun h8 => ?_
        show wr (d + 3) tb_M44 48 [(2, vi l2), (0, .ref 131), (1, vi l1)] [.ref 137, vi 0, .ref 131] s6 _
        refine wr_call1 (args := []) (rest := [vi 0, .ref 131]) rfl rfl rfl rfl (Nat.le_of_ble_eq_true rfl) (cr_mono (k_place (d := d + 2) s6 hK6) ?_)
        rintro s9 out ⟨z9, rfl, hz9, hp9, e9⟩
        refine ⟨_, rfl, ?_⟩
        rw [e9]
        unfold i32 at hz9
        clear hp9
        show wr (d + 3) tb_M44 51 [(2, vi l2), (0, .ref 131), (1, vi l1)] [vi z9, vi 0, .ref 131] s6 _
        refine wr_call1T (args := [vi 0, vi z9]) (rest := []) rfl rfl rfl rfl (Nat.le_of_ble_eq_true rfl) rfl (cr_mono (k_check (d := d + 2) (x := 0) (y := z9) s6 hK6 (by omega) (by omega)) ?_)
        rintro s10 out (⟨e10, hr10, rfl⟩ | ⟨hK10, hY10, rfl, hc10⟩)
        · exact absurd rfl hr10
        · refine .inr ⟨rfl, ?_⟩
          exact ⟨hK10, (FX_tr hX6 hY10), .inr ⟨rfl, TH hC6 hc10⟩⟩
      · refine wr_if2f rfl rfl (by unfold i32; omega) (by unfold i32; omega) h7 ?_
        refine wr_n (pc2 := 45) (lv2 := [(2, vi l2), (0, .ref 131), (1, vi l1)]) (st2 := [.ref 131, vi 1, .ref 131]) 3 (fun _ _ => rfl) ?_
        refine wr_get (v := .ref 137) rfl rfl rfl (by decide) (rv_ref (hK6.1 131 0 137 rfl)) fun h11 => ?_
        show wr (d + 3) tb_M44 48 [(2, vi l2), (0, .ref 131), (1, vi l1)] [.ref 137, vi 1, .ref 131] s6 _
        refine wr_call1 (args := []) (rest := [vi 1, .ref 131]) rfl rfl rfl rfl (Nat.le_of_ble_eq_true rfl) (cr_mono (k_place (d := d + 2) s6 hK6) ?_)
        rintro s12 out ⟨z12, rfl, hz12, hp12, e12⟩
        refine ⟨_, rfl, ?_⟩
        rw [e12]
        unfold i32 at hz12
        clear hp12
        show wr (d + 3) tb_M44 51 [(2, vi l2), (0, .ref 131), (1, vi l1)] [vi z12, vi 1, .ref 131] s6 _
        refine wr_call1T (args := [vi 1, vi z12]) (rest := []) rfl rfl rfl rfl (Nat.le_of_ble_eq_true rfl) rfl (cr_mono (k_check (d := d + 2) (x := 1) (y := z12) s6 hK6 (by omega) (by omega)) ?_)
        rintro s13 out (⟨e13, hr13, rfl⟩ | ⟨hK13, hY13, rfl, hc13⟩)
        · refine .inl ⟨_, rfl, ?_⟩
          rw [e13]
          show wr (d + 3) tb_M44 54 [(2, vi l2), (0, .ref 131), (1, vi l1)] [] s6 _
          refine wr_n (pc2 := 56) (lv2 := [(2, vi l2), (0, .ref 131), (1, vi l1)]) (st2 := [vi l1, .ref 131]) 2 (fun _ _ => rfl) ?_
          refine wr_call1T (args := [vi l1]) (rest := []) rfl rfl rfl rfl (Nat.le_of_ble_eq_true rfl) rfl (cr_mono (k_declareInt (d := d + 0) (C := C) hC (x := l1) s6 hK6 hq6 (by omega)) ?_)
          rintro s14 out ⟨hK14, hY14, ⟨hc14, rfl⟩ | ⟨rfl, hc14⟩⟩
          · refine .inl ⟨_, rfl, ?_⟩
            have hX14 : FX s0.1 s14.1 := FX_tr hX6 hY14
            have hC14 : s14.2 = s0.2 := hc14.trans hC6
            have hq14 : s14.1 131 1 = (C : Int) := (hY14 131 1 (by unfold fx; omega)).trans hq6
            show wr (d + 3) tb_M44 59 [(2, vi l2), (0, .ref 131), (1, vi l1)] [] s14 _
            refine wr_inc (a := l2) rfl rfl ?_
            show wr (d + 3) tb_M44 62 [(2, vi (l2 + 1)), (0, .ref 131), (1, vi l1)] [] s14 _
            refine wr_n (pc2 := 7) (lv2 := [(2, vi (l2 + 1)), (0, .ref 131), (1, vi l1)]) (st2 := []) 1 (fun _ _ => rfl) ?_
            exact ih _ (by omega) (l2 + 1) l1 s14 rfl hK14 hq14 hX14 hC14 (by omega) (by omega)  
          · refine .inr ⟨rfl, ?_⟩
            exact ⟨hK14, (FX_tr hX6 hY14), .inr ⟨rfl, TH hC6 hc14⟩⟩
        · refine .inr ⟨rfl, ?_⟩
          exact ⟨hK13, (FX_tr hX6 hY13), .inr ⟨rfl, TH hC6 hc13⟩⟩
set_option maxHeartbeats 20000000 in
set_option maxRecDepth 100000 in
theorem k_parameters {d : Nat} {C : Nat} (hC : C = 99 ∨ C = 115)  {x : Int} (s : rS) (hK : KI s.1) (hq : s.1 131 1 = (C : Int)) (hx : (-2147483648) ≤ x ∧ x ≤ 2147483647)  : cr (d + 4) 44 [.ref 131, vi x] s (TZ (fun z => True) s) := by
  refine cr_of (M := tb_M44) rfl (Nat.le_of_ble_eq_true rfl) ?_
  show wr (d + 3) tb_M44 0 [(0, .ref 131), (1, vi x)] [] s _
  refine wr_n (pc2 := 2) (lv2 := [(0, .ref 131), (1, vi x)]) (st2 := [vi x, .ref 131]) 2 (fun _ _ => rfl) ?_
  refine wr_call1T (args := [vi x]) (rest := []) rfl rfl rfl rfl (Nat.le_of_ble_eq_true rfl) rfl (cr_mono (k_declareInt (d := d + 0) (C := C) hC (x := x) s hK hq (by omega)) ?_)
  rintro s1 out ⟨hK1, hY1, ⟨hc1, rfl⟩ | ⟨rfl, hc1⟩⟩
  · refine .inl ⟨_, rfl, ?_⟩
    have hX1 : FX s.1 s1.1 := FX_tr FX_rf hY1
    have hC1 : s1.2 = s.2 := hc1.trans rfl
    have hq1 : s1.1 131 1 = (C : Int) := (hY1 131 1 (by unfold fx; omega)).trans hq
    show wr (d + 3) tb_M44 5 [(0, .ref 131), (1, vi x)] [] s1 _
    refine wr_n (pc2 := 7) (lv2 := [(2, vi 1), (0, .ref 131), (1, vi x)]) (st2 := []) 2 (fun _ _ => rfl) ?_
    exact k_parameters_7 hC _ 1 x s1 rfl hK1 hq1 hX1 hC1 (by omega) (by omega)  
  · refine .inr ⟨rfl, ?_⟩
    exact ⟨hK1, (FX_tr FX_rf hY1), .inr ⟨rfl, TH rfl hc1⟩⟩
set_option maxHeartbeats 20000000 in
set_option maxRecDepth 100000 in
theorem k_ints_2 {d : Nat} {s0 : rS} {C : Nat} (hC : C = 99 ∨ C = 115)  : ∀ (w : Nat) (l2 : Int) (l1 : Int) (s : rS), (2000 - l2).toNat = w → KI s.1 → s.1 131 1 = (C : Int) → FX s0.1 s.1 → s.2 = s0.2 → 0 ≤ l2 ∧ l2 ≤ 2000 → (-2147483648) ≤ l1 ∧ l1 ≤ 2147483647 → wr (d + 3) tb_M50 2 [(2, vi l2), (0, .ref 131), (1, vi l1)] [] s (TV s0) := by
  intro w
  induction w using Nat.strongRecOn with | ind w ih => ?_
  intro l2 l1 s hw hK hq hX hc hl2 hl1
  refine wr_n (pc2 := 6) (lv2 := [(2, vi l2), (0, .ref 131), (1, vi l1)]) (st2 := [vi 2000, vi l2]) 2 (fun _ _ => rfl) ?_
  by_cases h1 : 2000 ≤ l2
  · refine wr_if2t rfl rfl (by unfold i32; omega) (by unfold i32; omega) h1 ?_
    refine wr_end (fun _ _ => rfl) ?_
    exact ⟨hK, hX, .inl ⟨hc, rfl⟩⟩
  · refine wr_if2f rfl rfl (by unfold i32; omega) (by unfold i32; omega) h1 ?_
    refine wr_n (pc2 := 10) (lv2 := [(2, vi l2), (0, .ref 131), (1, vi l1)]) (st2 := [.ref 131]) 1 (fun _ _ => rfl) ?_
    refine wr_get (v := .ref 137) rfl rfl rfl (by decide) (rv_ref (hK.1 131 0 137 rfl)) fun h2 => ?_
    show wr (d + 3) tb_M50 13 [(2, vi l2), (0, .ref 131), (1, vi l1)] [.ref 137] s _
    refine wr_call1 (args := []) (rest := []) rfl rfl rfl rfl (Nat.le_of_ble_eq_true rfl) (cr_mono (k_kind (d := d + 2) s hK) ?_)
    rintro s3 out ⟨z3, rfl, hz3, hp3, e3⟩
    refine ⟨_, rfl, ?_⟩
    rw [e3]
    unfold i32 at hz3
    clear hp3
    show wr (d + 3) tb_M50 16 [(2, vi l2), (0, .ref 131), (1, vi l1)] [vi z3] s _
    refine wr_n (pc2 := 19) (lv2 := [(2, vi l2), (0, .ref 131), (1, vi l1)]) (st2 := [vi 301, vi z3]) 1 (fun _ _ => rfl) ?_
    by_cases h4 : z3 ≠ 301
    · refine wr_if2t rfl rfl (by unfold i32; omega) (by unfold i32; omega) h4 ?_
      refine wr_end (fun _ _ => rfl) ?_
      exact ⟨hK, hX, .inl ⟨hc, rfl⟩⟩
    · refine wr_if2f rfl rfl (by unfold i32; omega) (by unfold i32; omega) h4 ?_
      refine wr_n (pc2 := 23) (lv2 := [(2, vi l2), (0, .ref 131), (1, vi l1)]) (st2 := [.ref 131]) 1 (fun _ _ => rfl) ?_
      refine wr_get (v := .ref 137) rfl rfl rfl (by decide) (rv_ref (hK.1 131 0 137 rfl)) fun h5 => ?_
      show wr (d + 3) tb_M50 26 [(2, vi l2), (0, .ref 131), (1, vi l1)] [.ref 137] s _
      refine wr_call1 (args := []) (rest := []) rfl rfl rfl rfl (Nat.le_of_ble_eq_true rfl) (cr_mono (k_step (d := d + 2) s hK) ?_)
      rintro s6 out ⟨hK6, hY6, hc6, rfl⟩
      refine ⟨_, rfl, ?_⟩
      have hX6 : FX s0.1 s6.1 := FX_tr hX hY6
      have hC6 : s6.2 = s0.2 := hc6.trans hc
      have hq6 : s6.1 131 1 = (C : Int) := (hY6 131 1 (by unfold fx; omega)).trans hq
      show wr (d + 3) tb_M50 29 [(2, vi l2), (0, .ref 131), (1, vi l1)] [] s6 _
      refine wr_n (pc2 := 31) (lv2 := [(2, vi l2), (0, .ref 131), (1, vi l1)]) (st2 := [vi l1, .ref 131]) 2 (fun _ _ => rfl) ?_
      refine wr_call1T (args := [vi l1]) (rest := []) rfl rfl rfl rfl (Nat.le_of_ble_eq_true rfl) rfl (cr_mono (k_declareInt (d := d + 0) (C := C) hC (x := l1) s6 hK6 hq6 (by omega)) ?_)
      rintro s7 out ⟨hK7, hY7, ⟨hc7, rfl⟩ | ⟨rfl, hc7⟩⟩
      · refine .inl ⟨_, rfl, ?_⟩
        have hX7 : FX s0.1 s7.1 := FX_tr hX6 hY7
        have hC7 : s7.2 = s0.2 := hc7.trans hC6
        have hq7 : s7.1 131 1 = (C : Int) := (hY7 131 1 (by unfold fx; omega)).trans hq6
        show wr (d + 3) tb_M50 34 [(2, vi l2), (0, .ref 131), (1, vi l1)] [] s7 _
        refine wr_n (pc2 := 37) (lv2 := [(2, vi l2), (0, .ref 131), (1, vi l1)]) (st2 := [vi 59, .ref 131]) 2 (fun _ _ => rfl) ?_
        refine wr_call1T (args := [vi 59]) (rest := []) rfl rfl rfl rfl (Nat.le_of_ble_eq_true rfl) rfl (cr_mono (k_expect (d := d + 1) (x := 59) s7 hK7 (by omega)) ?_)
        rintro s8 out ⟨hK8, hY8, ⟨hc8, rfl⟩ | ⟨rfl, hc8⟩⟩
        · refine .inl ⟨_, rfl, ?_⟩
          have hX8 : FX s0.1 s8.1 := FX_tr hX7 hY8
          have hC8 : s8.2 = s0.2 := hc8.trans hC7
          have hq8 : s8.1 131 1 = (C : Int) := (hY8 131 1 (by unfold fx; omega)).trans hq7
          show wr (d + 3) tb_M50 40 [(2, vi l2), (0, .ref 131), (1, vi l1)] [] s8 _
          refine wr_inc (a := l2) rfl rfl ?_
          show wr (d + 3) tb_M50 43 [(2, vi (l2 + 1)), (0, .ref 131), (1, vi l1)] [] s8 _
          refine wr_n (pc2 := 2) (lv2 := [(2, vi (l2 + 1)), (0, .ref 131), (1, vi l1)]) (st2 := []) 1 (fun _ _ => rfl) ?_
          exact ih _ (by omega) (l2 + 1) l1 s8 rfl hK8 hq8 hX8 hC8 (by omega) (by omega)  
        · refine .inr ⟨rfl, ?_⟩
          exact ⟨hK8, (FX_tr hX7 hY8), .inr ⟨rfl, TH hC7 hc8⟩⟩
      · refine .inr ⟨rfl, ?_⟩
        exact ⟨hK7, (FX_tr hX6 hY7), .inr ⟨rfl, TH hC6 hc7⟩⟩
set_option maxHeartbeats 20000000 in
set_option maxRecDepth 100000 in
theorem k_ints {d : Nat} {C : Nat} (hC : C = 99 ∨ C = 115)  {x : Int} (s : rS) (hK : KI s.1) (hq : s.1 131 1 = (C : Int)) (hx : (-2147483648) ≤ x ∧ x ≤ 2147483647)  : cr (d + 4) 50 [.ref 131, vi x] s (TV s) := by
  refine cr_of (M := tb_M50) rfl (Nat.le_of_ble_eq_true rfl) ?_
  show wr (d + 3) tb_M50 0 [(0, .ref 131), (1, vi x)] [] s _
  refine wr_n (pc2 := 2) (lv2 := [(2, vi 0), (0, .ref 131), (1, vi x)]) (st2 := []) 2 (fun _ _ => rfl) ?_
  exact k_ints_2 hC _ 0 x s rfl hK hq FX_rf rfl (by omega) (by omega)  
set_option maxHeartbeats 20000000 in
set_option maxRecDepth 100000 in
theorem k_routineFoot {d : Nat} {C : Nat} (hC : C = 99 ∨ C = 115)  {x y : Int} (s : rS) (hK : KI s.1) (hq : s.1 131 1 = (C : Int)) (hx : (-2147483648) ≤ x ∧ x ≤ 2147483647) (hy : (-2147483648) ≤ y ∧ y ≤ 2147483647)  : cr (d + 1) 74 [.ref 131, vi x, vi y] s (KV s) := by
  refine cr_of (M := tb_M74) rfl (Nat.le_of_ble_eq_true rfl) ?_
  show wr (d) tb_M74 0 [(0, .ref 131), (1, vi x), (2, vi y)] [] s _
  refine wr_n (pc2 := 2) (lv2 := [(0, .ref 131), (1, vi x), (2, vi y)]) (st2 := [vi ((-1)), .ref 131]) 2 (fun _ _ => rfl) ?_
  refine wr_put (z := (-1)) rfl rfl rfl rfl (by decide) rfl (by decide) rfl (show -2147483648 ≤ (-1) ∧ (-1) ≤ 2147483647 by omega) (hf_int' _) ?_
  show wr d tb_M74 5 [(0, .ref 131), (1, vi x), (2, vi y)] [] (up2 s.1 131 13 ((-1)), s.2) _
  have hK1 : KI (up2 s.1 131 13 ((-1))) := (KI_up hK rfl (kb_no rfl))
  refine wr_n (pc2 := 7) (lv2 := [(0, .ref 131), (1, vi x), (2, vi y)]) (st2 := [vi 0, .ref 131]) 2 (fun _ _ => rfl) ?_
  refine wr_put (z := 0) rfl rfl rfl rfl (by decide) rfl (by decide) rfl (show -2147483648 ≤ 0 ∧ 0 ≤ 2147483647 by omega) (hf_int' _) ?_
  show wr d tb_M74 10 [(0, .ref 131), (1, vi x), (2, vi y)] [] (up2 (up2 s.1 131 13 ((-1))) 131 14 0, s.2) _
  have hK2 : KI (up2 (up2 s.1 131 13 ((-1))) 131 14 0) := (KI_up (KI_up hK rfl (kb_no rfl)) rfl (kb_no rfl))
  refine wr_n (pc2 := 11) (lv2 := [(0, .ref 131), (1, vi x), (2, vi y)]) (st2 := [vi x]) 1 (fun _ _ => rfl) ?_
  by_cases h3 : x < 0
  · refine wr_if1t rfl rfl (by unfold i32; omega) h3 ?_
    refine wr_end (fun _ _ => rfl) ?_
    exact ⟨hK2, (FX_up (FX_up FX_rf (by unfold fx; omega)) (by unfold fx; omega)), rfl, rfl⟩
  · refine wr_if1f rfl rfl (by unfold i32; omega) h3 ?_
    refine wr_n (pc2 := 17) (lv2 := [(0, .ref 131), (1, vi x), (2, vi y)]) (st2 := [vi 12, vi x]) 2 (fun _ _ => rfl) ?_
    by_cases h4 : 12 ≤ x
    · refine wr_if2t rfl rfl (by unfold i32; omega) (by unfold i32; omega) h4 ?_
      refine wr_end (fun _ _ => rfl) ?_
      exact ⟨hK2, (FX_up (FX_up FX_rf (by unfold fx; omega)) (by unfold fx; omega)), rfl, rfl⟩
    · refine wr_if2f rfl rfl (by unfold i32; omega) (by unfold i32; omega) h4 ?_
      refine wr_n (pc2 := 21) (lv2 := [(0, .ref 131), (1, vi x), (2, vi y)]) (st2 := [.ref 131]) 1 (fun _ _ => rfl) ?_
      refine wr_get (v := .ref C) rfl rfl rfl (by decide) (rv_ref (show (up2 (up2 s.1 131 13 ((-1))) 131 14 0) 131 1 = ((C : Nat) : Int) from (show (up2 (up2 s.1 131 13 ((-1))) 131 14 0) 131 1 = ((C : Nat) : Int) from ((if_neg (by omega)).trans ((if_neg (by omega)).trans hq))))) fun h5 => ?_
      show wr d tb_M74 24 [(0, .ref 131), (1, vi x), (2, vi y)] [.ref C] (up2 (up2 s.1 131 13 ((-1))) 131 14 0, s.2) _
      refine wr_get (v := .ref (C + 15)) rfl rfl (TK0 hC) (by decide) (rv_ref (hK2.1 C 11 (C + 15) (rcK hC (by omega)))) fun h6 => ?_
      show wr d tb_M74 27 [(0, .ref 131), (1, vi x), (2, vi y)] [.ref (C + 15)] (up2 (up2 s.1 131 13 ((-1))) 131 14 0, s.2) _
      refine wr_n (pc2 := 29) (lv2 := [(0, .ref 131), (1, vi x), (2, vi y)]) (st2 := [vi y, vi x, .ref (C + 15)]) 2 (fun _ _ => rfl) ?_
      refine wr_ast (a := x) (z := y) rfl (show 96 ≤ C + 15 by omega) (TK15 hC) rfl (by omega) (by omega) (by decide) rfl (show -2147483648 ≤ y ∧ y ≤ 2147483647 by omega) ?_
      show wr d tb_M74 30 [(0, .ref 131), (1, vi x), (2, vi y)] [] (up2 (up2 (up2 s.1 131 13 ((-1))) 131 14 0) (C + 15) x.toNat y, s.2) _
      have hK7 : KI (up2 (up2 (up2 s.1 131 13 ((-1))) 131 14 0) (C + 15) x.toNat y) := (KI_up (KI_up (KI_up hK rfl (kb_no rfl)) rfl (kb_no rfl)) (nK hC (by omega)) (kb_no (kC15 hC)))
      refine wr_n (pc2 := 32) (lv2 := [(0, .ref 131), (1, vi x), (2, vi y)]) (st2 := [.ref 131, vl 1]) 2 (fun _ _ => rfl) ?_
      refine wr_get (v := .ref C) rfl rfl rfl (by decide) (rv_ref (show (up2 (up2 (up2 s.1 131 13 ((-1))) 131 14 0) (C + 15) x.toNat y) 131 1 = ((C : Nat) : Int) from (show (up2 (up2 (up2 s.1 131 13 ((-1))) 131 14 0) (C + 15) x.toNat y) 131 1 = ((C : Nat) : Int) from ((if_neg (by omega)).trans ((if_neg (by omega)).trans ((if_neg (by omega)).trans hq)))))) fun h8 => ?_
      show wr d tb_M74 35 [(0, .ref 131), (1, vi x), (2, vi y)] [.ref C, vl 1] (up2 (up2 (up2 s.1 131 13 ((-1))) 131 14 0) (C + 15) x.toNat y, s.2) _
      refine wr_get (v := .ref (C + 13)) rfl rfl (TK0 hC) (by decide) (rv_ref (hK7.1 C 9 (C + 13) (rcK hC (by omega)))) fun h9 => ?_
      show wr d tb_M74 38 [(0, .ref 131), (1, vi x), (2, vi y)] [.ref (C + 13), vl 1] (up2 (up2 (up2 s.1 131 13 ((-1))) 131 14 0) (C + 15) x.toNat y, s.2) _
      refine wr_n (pc2 := 39) (lv2 := [(0, .ref 131), (1, vi x), (2, vi y)]) (st2 := [vi x, .ref (C + 13), vl 1]) 1 (fun _ _ => rfl) ?_
      refine wr_ald (a := x) (v := vi (s.1 (C + 13) x.toNat)) rfl (TK13 hC) rfl (by omega) (by omega) (by decide) (by show rv _ ((up2 (up2 (up2 s.1 131 13 ((-1))) 131 14 0) (C + 15) x.toNat y) (C + 13) x.toNat) = _; rw [up_nk (by omega), up_nk (by omega), up_nk (by omega)]; rfl) fun h10 => ?_
      have h10 : rg _ ((up2 (up2 (up2 s.1 131 13 ((-1))) 131 14 0) (C + 15) x.toNat y) (C + 13) x.toNat) := h10
      rw [up_nk (by omega), up_nk (by omega), up_nk (by omega)] at h10
      have h10 : -2147483648 ≤ s.1 (C + 13) x.toNat ∧ s.1 (C + 13) x.toNat ≤ 2147483647 := h10
      show wr d tb_M74 40 [(0, .ref 131), (1, vi x), (2, vi y)] [vi (s.1 (C + 13) x.toNat), vl 1] (up2 (up2 (up2 s.1 131 13 ((-1))) 131 14 0) (C + 15) x.toNat y, s.2) _
      refine wr_lshl (a := 1) (b := s.1 (C + 13) x.toNat) rfl fun z11 h12 _ => ?_
      show wr d tb_M74 41 [(0, .ref 131), (1, vi x), (2, vi y)] [vl z11] (up2 (up2 (up2 s.1 131 13 ((-1))) 131 14 0) (C + 15) x.toNat y, s.2) _
      refine wr_n (pc2 := 42) (lv2 := [(0, .ref 131), (1, vi x), (2, vi y)]) (st2 := [vl 1, vl z11]) 1 (fun _ _ => rfl) ?_
      refine wr_anyl (a := z11) (b := 1) rfl rfl fun z13 h14 _ => ?_
      show wr d tb_M74 43 [(0, .ref 131), (1, vi x), (2, vi y)] [vl z13] (up2 (up2 (up2 s.1 131 13 ((-1))) 131 14 0) (C + 15) x.toNat y, s.2) _
      refine wr_n (pc2 := 44) (lv2 := [(0, .ref 131), (1, vi x), (2, vi y)]) (st2 := [.ref 131, vl z13]) 1 (fun _ _ => rfl) ?_
      refine wr_get (v := .ref C) rfl rfl rfl (by decide) (rv_ref (show (up2 (up2 (up2 s.1 131 13 ((-1))) 131 14 0) (C + 15) x.toNat y) 131 1 = ((C : Nat) : Int) from (show (up2 (up2 (up2 s.1 131 13 ((-1))) 131 14 0) (C + 15) x.toNat y) 131 1 = ((C : Nat) : Int) from ((if_neg (by omega)).trans ((if_neg (by omega)).trans ((if_neg (by omega)).trans hq)))))) fun h15 => ?_
      show wr d tb_M74 47 [(0, .ref 131), (1, vi x), (2, vi y)] [.ref C, vl z13] (up2 (up2 (up2 s.1 131 13 ((-1))) 131 14 0) (C + 15) x.toNat y, s.2) _
      refine wr_get (v := .ref (C + 14)) rfl rfl (TK0 hC) (by decide) (rv_ref (hK7.1 C 10 (C + 14) (rcK hC (by omega)))) fun h16 => ?_
      show wr d tb_M74 50 [(0, .ref 131), (1, vi x), (2, vi y)] [.ref (C + 14), vl z13] (up2 (up2 (up2 s.1 131 13 ((-1))) 131 14 0) (C + 15) x.toNat y, s.2) _
      refine wr_n (pc2 := 51) (lv2 := [(0, .ref 131), (1, vi x), (2, vi y)]) (st2 := [vi x, .ref (C + 14), vl z13]) 1 (fun _ _ => rfl) ?_
      refine wr_ald (a := x) (v := vi (s.1 (C + 14) x.toNat)) rfl (TK14 hC) rfl (by omega) (by omega) (by decide) (by show rv _ ((up2 (up2 (up2 s.1 131 13 ((-1))) 131 14 0) (C + 15) x.toNat y) (C + 14) x.toNat) = _; rw [up_nk (by omega), up_nk (by omega), up_nk (by omega)]; rfl) fun h17 => ?_
      have h17 : rg _ ((up2 (up2 (up2 s.1 131 13 ((-1))) 131 14 0) (C + 15) x.toNat y) (C + 14) x.toNat) := h17
      rw [up_nk (by omega), up_nk (by omega), up_nk (by omega)] at h17
      have h17 : -2147483648 ≤ s.1 (C + 14) x.toNat ∧ s.1 (C + 14) x.toNat ≤ 2147483647 := h17
      show wr d tb_M74 52 [(0, .ref 131), (1, vi x), (2, vi y)] [vi (s.1 (C + 14) x.toNat), vl z13] (up2 (up2 (up2 s.1 131 13 ((-1))) 131 14 0) (C + 15) x.toNat y, s.2) _
      refine wr_lshl (a := z13) (b := s.1 (C + 14) x.toNat) rfl fun z18 h19 _ => ?_
      show wr d tb_M74 53 [(0, .ref 131), (1, vi x), (2, vi y)] [vl z18] (up2 (up2 (up2 s.1 131 13 ((-1))) 131 14 0) (C + 15) x.toNat y, s.2) _
      refine wr_n (pc2 := 55) (lv2 := [(3, vl z18), (0, .ref 131), (1, vi x), (2, vi y)]) (st2 := [.ref 131]) 2 (fun _ _ => rfl) ?_
      refine wr_get (v := .ref 134) rfl rfl rfl (by decide) (rv_ref (hK7.1 131 10 134 rfl)) fun h20 => ?_
      show wr d tb_M74 58 [(3, vl z18), (0, .ref 131), (1, vi x), (2, vi y)] [.ref 134] (up2 (up2 (up2 s.1 131 13 ((-1))) 131 14 0) (C + 15) x.toNat y, s.2) _
      refine wr_n (pc2 := 60) (lv2 := [(3, vl z18), (0, .ref 131), (1, vi x), (2, vi y)]) (st2 := [.ref 131, vi x, .ref 134]) 2 (fun _ _ => rfl) ?_
      refine wr_get (v := vl (s.1 131 7)) rfl rfl rfl (by decide) (by show rv _ ((up2 (up2 (up2 s.1 131 13 ((-1))) 131 14 0) (C + 15) x.toNat y) 131 7) = _; rw [up_nk (by omega), up_nj (by decide), up_nj (by decide)]; rfl) fun h21 => ?_
      replace h21 : rg _ ((up2 (up2 (up2 s.1 131 13 ((-1))) 131 14 0) (C + 15) x.toNat y) 131 7) := h21
      rw [up_nk (by omega), up_nj (by decide), up_nj (by decide)] at h21
      show wr d tb_M74 63 [(3, vl z18), (0, .ref 131), (1, vi x), (2, vi y)] [vl (s.1 131 7), vi x, .ref 134] (up2 (up2 (up2 s.1 131 13 ((-1))) 131 14 0) (C + 15) x.toNat y, s.2) _
      refine wr_n (pc2 := 64) (lv2 := [(3, vl z18), (0, .ref 131), (1, vi x), (2, vi y)]) (st2 := [vl z18, vl (s.1 131 7), vi x, .ref 134]) 1 (fun _ _ => rfl) ?_
      refine wr_anyl (a := s.1 131 7) (b := z18) rfl rfl fun z22 h23 _ => ?_
      show wr d tb_M74 65 [(3, vl z18), (0, .ref 131), (1, vi x), (2, vi y)] [vl z22, vi x, .ref 134] (up2 (up2 (up2 s.1 131 13 ((-1))) 131 14 0) (C + 15) x.toNat y, s.2) _
      refine wr_ast (a := x) (z := z22) rfl (by decide) rfl rfl (by omega) (by omega) (by decide) rfl h23 ?_
      show wr d tb_M74 66 [(3, vl z18), (0, .ref 131), (1, vi x), (2, vi y)] [] (up2 (up2 (up2 (up2 s.1 131 13 ((-1))) 131 14 0) (C + 15) x.toNat y) 134 x.toNat z22, s.2) _
      have hK24 : KI (up2 (up2 (up2 (up2 s.1 131 13 ((-1))) 131 14 0) (C + 15) x.toNat y) 134 x.toNat z22) := (KI_up (KI_up (KI_up (KI_up hK rfl (kb_no rfl)) rfl (kb_no rfl)) (nK hC (by omega)) (kb_no (kC15 hC))) (n0 rfl (by omega) (by omega)) (kb_no rfl))
      refine wr_n (pc2 := 67) (lv2 := [(3, vl z18), (0, .ref 131), (1, vi x), (2, vi y)]) (st2 := [.ref 131]) 1 (fun _ _ => rfl) ?_
      refine wr_get (v := .ref 135) rfl rfl rfl (by decide) (rv_ref (hK24.1 131 11 135 rfl)) fun h25 => ?_
      show wr d tb_M74 70 [(3, vl z18), (0, .ref 131), (1, vi x), (2, vi y)] [.ref 135] (up2 (up2 (up2 (up2 s.1 131 13 ((-1))) 131 14 0) (C + 15) x.toNat y) 134 x.toNat z22, s.2) _
      refine wr_n (pc2 := 72) (lv2 := [(3, vl z18), (0, .ref 131), (1, vi x), (2, vi y)]) (st2 := [.ref 131, vi x, .ref 135]) 2 (fun _ _ => rfl) ?_
      refine wr_get (v := vl (s.1 131 8)) rfl rfl rfl (by decide) (by show rv _ ((up2 (up2 (up2 (up2 s.1 131 13 ((-1))) 131 14 0) (C + 15) x.toNat y) 134 x.toNat z22) 131 8) = _; rw [up_nk (by decide), up_nk (by omega), up_nj (by decide), up_nj (by decide)]; rfl) fun h26 => ?_
      replace h26 : rg _ ((up2 (up2 (up2 (up2 s.1 131 13 ((-1))) 131 14 0) (C + 15) x.toNat y) 134 x.toNat z22) 131 8) := h26
      rw [up_nk (by decide), up_nk (by omega), up_nj (by decide), up_nj (by decide)] at h26
      show wr d tb_M74 75 [(3, vl z18), (0, .ref 131), (1, vi x), (2, vi y)] [vl (s.1 131 8), vi x, .ref 135] (up2 (up2 (up2 (up2 s.1 131 13 ((-1))) 131 14 0) (C + 15) x.toNat y) 134 x.toNat z22, s.2) _
      refine wr_n (pc2 := 76) (lv2 := [(3, vl z18), (0, .ref 131), (1, vi x), (2, vi y)]) (st2 := [vl z18, vl (s.1 131 8), vi x, .ref 135]) 1 (fun _ _ => rfl) ?_
      refine wr_anyl (a := s.1 131 8) (b := z18) rfl rfl fun z27 h28 _ => ?_
      show wr d tb_M74 77 [(3, vl z18), (0, .ref 131), (1, vi x), (2, vi y)] [vl z27, vi x, .ref 135] (up2 (up2 (up2 (up2 s.1 131 13 ((-1))) 131 14 0) (C + 15) x.toNat y) 134 x.toNat z22, s.2) _
      refine wr_ast (a := x) (z := z27) rfl (by decide) rfl rfl (by omega) (by omega) (by decide) rfl h28 ?_
      show wr d tb_M74 78 [(3, vl z18), (0, .ref 131), (1, vi x), (2, vi y)] [] (up2 (up2 (up2 (up2 (up2 s.1 131 13 ((-1))) 131 14 0) (C + 15) x.toNat y) 134 x.toNat z22) 135 x.toNat z27, s.2) _
      have hK29 : KI (up2 (up2 (up2 (up2 (up2 s.1 131 13 ((-1))) 131 14 0) (C + 15) x.toNat y) 134 x.toNat z22) 135 x.toNat z27) := (KI_up (KI_up (KI_up (KI_up (KI_up hK rfl (kb_no rfl)) rfl (kb_no rfl)) (nK hC (by omega)) (kb_no (kC15 hC))) (n0 rfl (by omega) (by omega)) (kb_no rfl)) (n0 rfl (by omega) (by omega)) (kb_no rfl))
      refine wr_n (pc2 := 79) (lv2 := [(3, vl z18), (0, .ref 131), (1, vi x), (2, vi y)]) (st2 := [.ref 131]) 1 (fun _ _ => rfl) ?_
      refine wr_get (v := .ref 136) rfl rfl rfl (by decide) (rv_ref (hK29.1 131 12 136 rfl)) fun h30 => ?_
      show wr d tb_M74 82 [(3, vl z18), (0, .ref 131), (1, vi x), (2, vi y)] [.ref 136] (up2 (up2 (up2 (up2 (up2 s.1 131 13 ((-1))) 131 14 0) (C + 15) x.toNat y) 134 x.toNat z22) 135 x.toNat z27, s.2) _
      refine wr_n (pc2 := 84) (lv2 := [(3, vl z18), (0, .ref 131), (1, vi x), (2, vi y)]) (st2 := [.ref 131, vi x, .ref 136]) 2 (fun _ _ => rfl) ?_
      refine wr_get (v := vl (s.1 131 9)) rfl rfl rfl (by decide) (by show rv _ ((up2 (up2 (up2 (up2 (up2 s.1 131 13 ((-1))) 131 14 0) (C + 15) x.toNat y) 134 x.toNat z22) 135 x.toNat z27) 131 9) = _; rw [up_nk (by decide), up_nk (by decide), up_nk (by omega), up_nj (by decide), up_nj (by decide)]; rfl) fun h31 => ?_
      replace h31 : rg _ ((up2 (up2 (up2 (up2 (up2 s.1 131 13 ((-1))) 131 14 0) (C + 15) x.toNat y) 134 x.toNat z22) 135 x.toNat z27) 131 9) := h31
      rw [up_nk (by decide), up_nk (by decide), up_nk (by omega), up_nj (by decide), up_nj (by decide)] at h31
      show wr d tb_M74 87 [(3, vl z18), (0, .ref 131), (1, vi x), (2, vi y)] [vl (s.1 131 9), vi x, .ref 136] (up2 (up2 (up2 (up2 (up2 s.1 131 13 ((-1))) 131 14 0) (C + 15) x.toNat y) 134 x.toNat z22) 135 x.toNat z27, s.2) _
      refine wr_ast (a := x) (z := s.1 131 9) rfl (by decide) rfl rfl (by omega) (by omega) (by decide) rfl h31 ?_
      show wr d tb_M74 88 [(3, vl z18), (0, .ref 131), (1, vi x), (2, vi y)] [] (up2 (up2 (up2 (up2 (up2 (up2 s.1 131 13 ((-1))) 131 14 0) (C + 15) x.toNat y) 134 x.toNat z22) 135 x.toNat z27) 136 x.toNat (s.1 131 9), s.2) _
      have hK32 : KI (up2 (up2 (up2 (up2 (up2 (up2 s.1 131 13 ((-1))) 131 14 0) (C + 15) x.toNat y) 134 x.toNat z22) 135 x.toNat z27) 136 x.toNat (s.1 131 9)) := (KI_up (KI_up (KI_up (KI_up (KI_up (KI_up hK rfl (kb_no rfl)) rfl (kb_no rfl)) (nK hC (by omega)) (kb_no (kC15 hC))) (n0 rfl (by omega) (by omega)) (kb_no rfl)) (n0 rfl (by omega) (by omega)) (kb_no rfl)) (n0 rfl (by omega) (by omega)) (kb_no rfl))
      refine wr_end (fun _ _ => rfl) ?_
      exact ⟨hK32, (FX_up (FX_up (FX_up (FX_up (FX_up (FX_up FX_rf (by unfold fx; omega)) (by unfold fx; omega)) (by unfold fx; omega)) (by unfold fx; omega)) (by unfold fx; omega)) (by unfold fx; omega)), rfl, rfl⟩
set_option maxHeartbeats 20000000 in
set_option maxRecDepth 100000 in
theorem k_routineHead_56 {d : Nat} {s0 : rS} {C : Nat} (hC : C = 99 ∨ C = 115)  (l4 : Int) (l3 : Int) (l2 : Int) (l1 : Int) (k0 : Int) (s : rS) (hK : KI s.1) (hq : s.1 131 1 = (C : Int)) (hX : FX s0.1 s.1) (hc : s.2 = s0.2) (hl4 : (-2147483648) ≤ l4 ∧ l4 ≤ 2147483647) (hl3 : (-2147483648) ≤ l3 ∧ l3 ≤ 2147483647) (hl2 : (-2147483648) ≤ l2 ∧ l2 ≤ 2147483647) (hl1 : (-2147483648) ≤ l1 ∧ l1 ≤ 2147483647) (hk0 : (-2147483648) ≤ k0 ∧ k0 ≤ 2147483647)   : wr (d + 4) tb_M36 56 [(4, vi l4), (3, vi l3), (2, vi l2), (0, .ref 131), (1, vi l1)] [vi k0] s (TZ (fun z => True) s0) := by
  refine wr_n (pc2 := 61) (lv2 := [(5, vi k0), (4, vi l4), (3, vi l3), (2, vi l2), (0, .ref 131), (1, vi l1)]) (st2 := [vi 41, .ref 131]) 3 (fun _ _ => rfl) ?_
  refine wr_call1T (args := [vi 41]) (rest := []) rfl rfl rfl rfl (Nat.le_of_ble_eq_true rfl) rfl (cr_mono (k_expect (d := d + 2) (x := 41) s hK (by omega)) ?_)
  rintro s1 out ⟨hK1, hY1, ⟨hc1, rfl⟩ | ⟨rfl, hc1⟩⟩
  · refine .inl ⟨_, rfl, ?_⟩
    have hX1 : FX s0.1 s1.1 := FX_tr hX hY1
    have hC1 : s1.2 = s0.2 := hc1.trans hc
    have hq1 : s1.1 131 1 = (C : Int) := (hY1 131 1 (by unfold fx; omega)).trans hq
    show wr (d + 4) tb_M36 64 [(5, vi k0), (4, vi l4), (3, vi l3), (2, vi l2), (0, .ref 131), (1, vi l1)] [] s1 _
    refine wr_n (pc2 := 65) (lv2 := [(5, vi k0), (4, vi l4), (3, vi l3), (2, vi l2), (0, .ref 131), (1, vi l1)]) (st2 := [.ref 131]) 1 (fun _ _ => rfl) ?_
    refine wr_get (v := .ref C) rfl rfl rfl (by decide) (rv_ref (show (s1.1) 131 1 = ((C : Nat) : Int) from hq1)) fun h2 => ?_
    show wr (d + 4) tb_M36 68 [(5, vi k0), (4, vi l4), (3, vi l3), (2, vi l2), (0, .ref 131), (1, vi l1)] [.ref C] s1 _
    refine wr_n (pc2 := 73) (lv2 := [(5, vi k0), (4, vi l4), (3, vi l3), (2, vi l2), (0, .ref 131), (1, vi l1)]) (st2 := [vi k0, vi l4, vi l2, .ref C]) 3 (fun _ _ => rfl) ?_
    refine wr_call1 (args := [vi l2, vi l4, vi k0]) (rest := []) rfl rfl rfl (TK0 hC) (Nat.le_of_ble_eq_true rfl) (cr_mono (k_setPar (d := d + 3) (C := C) hC (x := l2) (y := l4) (u := k0) s1 hK1 (by omega) (by omega) (by omega)) ?_)
    rintro s3 out ⟨hK3, hY3, hc3, rfl⟩
    refine ⟨_, rfl, ?_⟩
    have hX3 : FX s0.1 s3.1 := FX_tr hX1 hY3
    have hC3 : s3.2 = s0.2 := hc3.trans hC1
    have hq3 : s3.1 131 1 = (C : Int) := (hY3 131 1 (by unfold fx; omega)).trans hq1
    show wr (d + 4) tb_M36 76 [(5, vi k0), (4, vi l4), (3, vi l3), (2, vi l2), (0, .ref 131), (1, vi l1)] [] s3 _
    refine wr_n (pc2 := 78) (lv2 := [(5, vi k0), (4, vi l4), (3, vi l3), (2, vi l2), (0, .ref 131), (1, vi l1)]) (st2 := [vi l2, .ref 131]) 2 (fun _ _ => rfl) ?_
    refine wr_put (z := l2) rfl rfl rfl rfl (by decide) rfl (by decide) rfl (show -2147483648 ≤ l2 ∧ l2 ≤ 2147483647 by omega) (hf_int' _) ?_
    show wr (d + 4) tb_M36 81 [(5, vi k0), (4, vi l4), (3, vi l3), (2, vi l2), (0, .ref 131), (1, vi l1)] [] (up2 s3.1 131 13 l2, s3.2) _
    have hK4 : KI (up2 s3.1 131 13 l2) := (KI_up hK3 rfl (kb_no rfl))
    refine wr_n (pc2 := 85) (lv2 := [(5, vi k0), (4, vi l4), (3, vi l3), (2, vi l2), (0, .ref 131), (1, vi l1)]) (st2 := [vi 6, vi l1, .ref 131]) 3 (fun _ _ => rfl) ?_
    by_cases h5 : l1 ≠ 6
    · refine wr_if2t rfl rfl (by unfold i32; omega) (by unfold i32; omega) h5 ?_
      refine wr_n (pc2 := 93) (lv2 := [(5, vi k0), (4, vi l4), (3, vi l3), (2, vi l2), (0, .ref 131), (1, vi l1)]) (st2 := [vi 0, .ref 131]) 1 (fun _ _ => rfl) ?_
      refine wr_put (z := 0) rfl rfl rfl rfl (by decide) rfl (by decide) rfl (show -2147483648 ≤ 0 ∧ 0 ≤ 2147483647 by omega) (hf_int' _) ?_
      show wr (d + 4) tb_M36 96 [(5, vi k0), (4, vi l4), (3, vi l3), (2, vi l2), (0, .ref 131), (1, vi l1)] [] (up2 (up2 s3.1 131 13 l2) 131 14 0, s3.2) _
      have hK6 : KI (up2 (up2 s3.1 131 13 l2) 131 14 0) := (KI_up (KI_up hK3 rfl (kb_no rfl)) rfl (kb_no rfl))
      refine wr_n (pc2 := 98) (lv2 := [(5, vi k0), (4, vi l4), (3, vi l3), (2, vi l2), (0, .ref 131), (1, vi l1)]) (st2 := [vl 0, .ref 131]) 2 (fun _ _ => rfl) ?_
      refine wr_put (z := 0) rfl rfl rfl rfl (by decide) rfl (by decide) rfl (by first | exact ⟨by omega, by omega⟩ | assumption) (fit_l _) ?_
      show wr (d + 4) tb_M36 101 [(5, vi k0), (4, vi l4), (3, vi l3), (2, vi l2), (0, .ref 131), (1, vi l1)] [] (up2 (up2 (up2 s3.1 131 13 l2) 131 14 0) 131 7 0, s3.2) _
      have hK7 : KI (up2 (up2 (up2 s3.1 131 13 l2) 131 14 0) 131 7 0) := (KI_up (KI_up (KI_up hK3 rfl (kb_no rfl)) rfl (kb_no rfl)) rfl (kb_no rfl))
      refine wr_n (pc2 := 103) (lv2 := [(5, vi k0), (4, vi l4), (3, vi l3), (2, vi l2), (0, .ref 131), (1, vi l1)]) (st2 := [vl 0, .ref 131]) 2 (fun _ _ => rfl) ?_
      refine wr_put (z := 0) rfl rfl rfl rfl (by decide) rfl (by decide) rfl (by first | exact ⟨by omega, by omega⟩ | assumption) (fit_l _) ?_
      show wr (d + 4) tb_M36 106 [(5, vi k0), (4, vi l4), (3, vi l3), (2, vi l2), (0, .ref 131), (1, vi l1)] [] (up2 (up2 (up2 (up2 s3.1 131 13 l2) 131 14 0) 131 7 0) 131 8 0, s3.2) _
      have hK8 : KI (up2 (up2 (up2 (up2 s3.1 131 13 l2) 131 14 0) 131 7 0) 131 8 0) := (KI_up (KI_up (KI_up (KI_up hK3 rfl (kb_no rfl)) rfl (kb_no rfl)) rfl (kb_no rfl)) rfl (kb_no rfl))
      refine wr_n (pc2 := 108) (lv2 := [(5, vi k0), (4, vi l4), (3, vi l3), (2, vi l2), (0, .ref 131), (1, vi l1)]) (st2 := [vl 0, .ref 131]) 2 (fun _ _ => rfl) ?_
      refine wr_put (z := 0) rfl rfl rfl rfl (by decide) rfl (by decide) rfl (by first | exact ⟨by omega, by omega⟩ | assumption) (fit_l _) ?_
      show wr (d + 4) tb_M36 111 [(5, vi k0), (4, vi l4), (3, vi l3), (2, vi l2), (0, .ref 131), (1, vi l1)] [] (up2 (up2 (up2 (up2 (up2 s3.1 131 13 l2) 131 14 0) 131 7 0) 131 8 0) 131 9 0, s3.2) _
      have hK9 : KI (up2 (up2 (up2 (up2 (up2 s3.1 131 13 l2) 131 14 0) 131 7 0) 131 8 0) 131 9 0) := (KI_up (KI_up (KI_up (KI_up (KI_up hK3 rfl (kb_no rfl)) rfl (kb_no rfl)) rfl (kb_no rfl)) rfl (kb_no rfl)) rfl (kb_no rfl))
      refine wr_n (pc2 := 112) (lv2 := [(5, vi k0), (4, vi l4), (3, vi l3), (2, vi l2), (0, .ref 131), (1, vi l1)]) (st2 := [vi l2]) 1 (fun _ _ => rfl) ?_
      refine wr_reti rfl rfl ?_
      exact ⟨hK9, (FX_up (FX_up (FX_up (FX_up (FX_up hX3 (by unfold fx; omega)) (by unfold fx; omega)) (by unfold fx; omega)) (by unfold fx; omega)) (by unfold fx; omega)), .inl ⟨l2, hC3, rfl, by unfold i32; omega, trivial⟩⟩
    · refine wr_if2f rfl rfl (by unfold i32; omega) (by unfold i32; omega) h5 ?_
      refine wr_n (pc2 := 93) (lv2 := [(5, vi k0), (4, vi l4), (3, vi l3), (2, vi l2), (0, .ref 131), (1, vi l1)]) (st2 := [vi l3, .ref 131]) 2 (fun _ _ => rfl) ?_
      refine wr_put (z := l3) rfl rfl rfl rfl (by decide) rfl (by decide) rfl (show -2147483648 ≤ l3 ∧ l3 ≤ 2147483647 by omega) (hf_int' _) ?_
      show wr (d + 4) tb_M36 96 [(5, vi k0), (4, vi l4), (3, vi l3), (2, vi l2), (0, .ref 131), (1, vi l1)] [] (up2 (up2 s3.1 131 13 l2) 131 14 l3, s3.2) _
      have hK10 : KI (up2 (up2 s3.1 131 13 l2) 131 14 l3) := (KI_up (KI_up hK3 rfl (kb_no rfl)) rfl (kb_no rfl))
      refine wr_n (pc2 := 98) (lv2 := [(5, vi k0), (4, vi l4), (3, vi l3), (2, vi l2), (0, .ref 131), (1, vi l1)]) (st2 := [vl 0, .ref 131]) 2 (fun _ _ => rfl) ?_
      refine wr_put (z := 0) rfl rfl rfl rfl (by decide) rfl (by decide) rfl (by first | exact ⟨by omega, by omega⟩ | assumption) (fit_l _) ?_
      show wr (d + 4) tb_M36 101 [(5, vi k0), (4, vi l4), (3, vi l3), (2, vi l2), (0, .ref 131), (1, vi l1)] [] (up2 (up2 (up2 s3.1 131 13 l2) 131 14 l3) 131 7 0, s3.2) _
      have hK11 : KI (up2 (up2 (up2 s3.1 131 13 l2) 131 14 l3) 131 7 0) := (KI_up (KI_up (KI_up hK3 rfl (kb_no rfl)) rfl (kb_no rfl)) rfl (kb_no rfl))
      refine wr_n (pc2 := 103) (lv2 := [(5, vi k0), (4, vi l4), (3, vi l3), (2, vi l2), (0, .ref 131), (1, vi l1)]) (st2 := [vl 0, .ref 131]) 2 (fun _ _ => rfl) ?_
      refine wr_put (z := 0) rfl rfl rfl rfl (by decide) rfl (by decide) rfl (by first | exact ⟨by omega, by omega⟩ | assumption) (fit_l _) ?_
      show wr (d + 4) tb_M36 106 [(5, vi k0), (4, vi l4), (3, vi l3), (2, vi l2), (0, .ref 131), (1, vi l1)] [] (up2 (up2 (up2 (up2 s3.1 131 13 l2) 131 14 l3) 131 7 0) 131 8 0, s3.2) _
      have hK12 : KI (up2 (up2 (up2 (up2 s3.1 131 13 l2) 131 14 l3) 131 7 0) 131 8 0) := (KI_up (KI_up (KI_up (KI_up hK3 rfl (kb_no rfl)) rfl (kb_no rfl)) rfl (kb_no rfl)) rfl (kb_no rfl))
      refine wr_n (pc2 := 108) (lv2 := [(5, vi k0), (4, vi l4), (3, vi l3), (2, vi l2), (0, .ref 131), (1, vi l1)]) (st2 := [vl 0, .ref 131]) 2 (fun _ _ => rfl) ?_
      refine wr_put (z := 0) rfl rfl rfl rfl (by decide) rfl (by decide) rfl (by first | exact ⟨by omega, by omega⟩ | assumption) (fit_l _) ?_
      show wr (d + 4) tb_M36 111 [(5, vi k0), (4, vi l4), (3, vi l3), (2, vi l2), (0, .ref 131), (1, vi l1)] [] (up2 (up2 (up2 (up2 (up2 s3.1 131 13 l2) 131 14 l3) 131 7 0) 131 8 0) 131 9 0, s3.2) _
      have hK13 : KI (up2 (up2 (up2 (up2 (up2 s3.1 131 13 l2) 131 14 l3) 131 7 0) 131 8 0) 131 9 0) := (KI_up (KI_up (KI_up (KI_up (KI_up hK3 rfl (kb_no rfl)) rfl (kb_no rfl)) rfl (kb_no rfl)) rfl (kb_no rfl)) rfl (kb_no rfl))
      refine wr_n (pc2 := 112) (lv2 := [(5, vi k0), (4, vi l4), (3, vi l3), (2, vi l2), (0, .ref 131), (1, vi l1)]) (st2 := [vi l2]) 1 (fun _ _ => rfl) ?_
      refine wr_reti rfl rfl ?_
      exact ⟨hK13, (FX_up (FX_up (FX_up (FX_up (FX_up hX3 (by unfold fx; omega)) (by unfold fx; omega)) (by unfold fx; omega)) (by unfold fx; omega)) (by unfold fx; omega)), .inl ⟨l2, hC3, rfl, by unfold i32; omega, trivial⟩⟩
  · refine .inr ⟨rfl, ?_⟩
    exact ⟨hK1, (FX_tr hX hY1), .inr ⟨rfl, TH hc hc1⟩⟩
set_option maxHeartbeats 20000000 in
set_option maxRecDepth 100000 in
theorem k_routineHead {d : Nat} {C : Nat} (hC : C = 99 ∨ C = 115)  {x : Int} (s : rS) (hK : KI s.1) (hq : s.1 131 1 = (C : Int)) (hx : 0 ≤ x ∧ x ≤ 6)  : cr (d + 5) 36 [.ref 131, vi x] s (TZ (fun z => True) s) := by
  refine cr_of (M := tb_M36) rfl (Nat.le_of_ble_eq_true rfl) ?_
  show wr (d + 4) tb_M36 0 [(0, .ref 131), (1, vi x)] [] s _
  refine wr_n (pc2 := 3) (lv2 := [(0, .ref 131), (1, vi x)]) (st2 := [vi 0, vi x, .ref 131]) 3 (fun _ _ => rfl) ?_
  refine wr_call1T (args := [vi x, vi 0]) (rest := []) rfl rfl rfl rfl (Nat.le_of_ble_eq_true rfl) rfl (cr_mono (k_declare (d := d + 2) (C := C) hC (x := x) (y := 0) s hK hq (by omega) (by omega)) ?_)
  rintro s1 out ⟨hK1, hY1, ⟨z1, hc1, rfl, hz1, hp1⟩ | ⟨rfl, hc1⟩⟩
  · refine .inl ⟨_, rfl, ?_⟩
    have hX1 : FX s.1 s1.1 := FX_tr FX_rf hY1
    have hC1 : s1.2 = s.2 := hc1.trans rfl
    have hq1 : s1.1 131 1 = (C : Int) := (hY1 131 1 (by unfold fx; omega)).trans hq
    unfold i32 at hz1
    clear hp1
    show wr (d + 4) tb_M36 6 [(0, .ref 131), (1, vi x)] [vi z1] s1 _
    refine wr_n (pc2 := 8) (lv2 := [(2, vi z1), (0, .ref 131), (1, vi x)]) (st2 := [.ref 131]) 2 (fun _ _ => rfl) ?_
    refine wr_get (v := .ref C) rfl rfl rfl (by decide) (rv_ref (show (s1.1) 131 1 = ((C : Nat) : Int) from hq1)) fun h2 => ?_
    show wr (d + 4) tb_M36 11 [(2, vi z1), (0, .ref 131), (1, vi x)] [.ref C] s1 _
    refine wr_get (v := .ref (C + 6)) rfl rfl (TK0 hC) (by decide) (rv_ref (hK1.1 C 5 (C + 6) (rcK hC (by omega)))) fun h3 => ?_
    show wr (d + 4) tb_M36 14 [(2, vi z1), (0, .ref 131), (1, vi x)] [.ref (C + 6)] s1 _
    refine wr_get (v := vi (s1.1 (C + 6) 3)) rfl rfl (TK6 hC) (by decide) rfl fun h4 => ?_
    have h4 : -2147483648 ≤ s1.1 (C + 6) 3 ∧ s1.1 (C + 6) 3 ≤ 2147483647 := h4
    show wr (d + 4) tb_M36 17 [(2, vi z1), (0, .ref 131), (1, vi x)] [vi (s1.1 (C + 6) 3)] s1 _
    have hb5 : 0 ≤ s1.1 (C + 6) 3 ∧ s1.1 (C + 6) 3 ≤ 58 := kb_to (kC6_3 hC) (hK1.2 (C + 6) 3)
    refine wr_n (pc2 := 19) (lv2 := [(3, vi (s1.1 (C + 6) 3)), (2, vi z1), (0, .ref 131), (1, vi x)]) (st2 := [.ref 131]) 2 (fun _ _ => rfl) ?_
    refine wr_get (v := .ref C) rfl rfl rfl (by decide) (rv_ref (show (s1.1) 131 1 = ((C : Nat) : Int) from hq1)) fun h6 => ?_
    show wr (d + 4) tb_M36 22 [(3, vi (s1.1 (C + 6) 3)), (2, vi z1), (0, .ref 131), (1, vi x)] [.ref C] s1 _
    refine wr_get (v := .ref (C + 10)) rfl rfl (TK0 hC) (by decide) (rv_ref (hK1.1 C 6 (C + 10) (rcK hC (by omega)))) fun h7 => ?_
    show wr (d + 4) tb_M36 25 [(3, vi (s1.1 (C + 6) 3)), (2, vi z1), (0, .ref 131), (1, vi x)] [.ref (C + 10)] s1 _
    refine wr_n (pc2 := 26) (lv2 := [(3, vi (s1.1 (C + 6) 3)), (2, vi z1), (0, .ref 131), (1, vi x)]) (st2 := [vi 0, .ref (C + 10)]) 1 (fun _ _ => rfl) ?_
    refine wr_ald (a := 0) (v := vi (s1.1 (C + 10) 0)) rfl (TK10 hC) rfl (by omega) (by omega) (by decide) rfl fun h8 => ?_
    have h8 : -2147483648 ≤ s1.1 (C + 10) 0 ∧ s1.1 (C + 10) 0 ≤ 2147483647 := h8
    show wr (d + 4) tb_M36 27 [(3, vi (s1.1 (C + 6) 3)), (2, vi z1), (0, .ref 131), (1, vi x)] [vi (s1.1 (C + 10) 0)] s1 _
    have hb9 : 0 ≤ s1.1 (C + 10) 0 ∧ s1.1 (C + 10) 0 ≤ LIM 0 := kb_to (kC10 hC) (hK1.2 (C + 10) 0)
    refine wr_n (pc2 := 32) (lv2 := [(4, vi (s1.1 (C + 10) 0)), (3, vi (s1.1 (C + 6) 3)), (2, vi z1), (0, .ref 131), (1, vi x)]) (st2 := [vi 40, .ref 131]) 3 (fun _ _ => rfl) ?_
    refine wr_call1T (args := [vi 40]) (rest := []) rfl rfl rfl rfl (Nat.le_of_ble_eq_true rfl) rfl (cr_mono (k_expect (d := d + 2) (x := 40) s1 hK1 (by omega)) ?_)
    rintro s10 out ⟨hK10, hY10, ⟨hc10, rfl⟩ | ⟨rfl, hc10⟩⟩
    · refine .inl ⟨_, rfl, ?_⟩
      have hX10 : FX s.1 s10.1 := FX_tr hX1 hY10
      have hC10 : s10.2 = s.2 := hc10.trans hC1
      have hq10 : s10.1 131 1 = (C : Int) := (hY10 131 1 (by unfold fx; omega)).trans hq1
      show wr (d + 4) tb_M36 35 [(4, vi (s1.1 (C + 10) 0)), (3, vi (s1.1 (C + 6) 3)), (2, vi z1), (0, .ref 131), (1, vi x)] [] s10 _
      refine wr_n (pc2 := 36) (lv2 := [(4, vi (s1.1 (C + 10) 0)), (3, vi (s1.1 (C + 6) 3)), (2, vi z1), (0, .ref 131), (1, vi x)]) (st2 := [.ref 131]) 1 (fun _ _ => rfl) ?_
      refine wr_get (v := .ref 137) rfl rfl rfl (by decide) (rv_ref (hK10.1 131 0 137 rfl)) fun h11 => ?_
      show wr (d + 4) tb_M36 39 [(4, vi (s1.1 (C + 10) 0)), (3, vi (s1.1 (C + 6) 3)), (2, vi z1), (0, .ref 131), (1, vi x)] [.ref 137] s10 _
      refine wr_call1 (args := []) (rest := []) rfl rfl rfl rfl (Nat.le_of_ble_eq_true rfl) (cr_mono (k_kind (d := d + 3) s10 hK10) ?_)
      rintro s12 out ⟨z12, rfl, hz12, hp12, e12⟩
      refine ⟨_, rfl, ?_⟩
      rw [e12]
      unfold i32 at hz12
      clear hp12
      show wr (d + 4) tb_M36 42 [(4, vi (s1.1 (C + 10) 0)), (3, vi (s1.1 (C + 6) 3)), (2, vi z1), (0, .ref 131), (1, vi x)] [vi z12] s10 _
      refine wr_n (pc2 := 44) (lv2 := [(4, vi (s1.1 (C + 10) 0)), (3, vi (s1.1 (C + 6) 3)), (2, vi z1), (0, .ref 131), (1, vi x)]) (st2 := [vi 41, vi z12]) 1 (fun _ _ => rfl) ?_
      by_cases h13 : z12 ≠ 41
      · refine wr_if2t rfl rfl (by unfold i32; omega) (by unfold i32; omega) h13 ?_
        refine wr_n (pc2 := 53) (lv2 := [(4, vi (s1.1 (C + 10) 0)), (3, vi (s1.1 (C + 6) 3)), (2, vi z1), (0, .ref 131), (1, vi x)]) (st2 := [vi (s1.1 (C + 6) 3), .ref 131]) 2 (fun _ _ => rfl) ?_
        refine wr_call1T (args := [vi (s1.1 (C + 6) 3)]) (rest := []) rfl rfl rfl rfl (Nat.le_of_ble_eq_true rfl) rfl (cr_mono (k_parameters (d := d + 0) (C := C) hC (x := s1.1 (C + 6) 3) s10 hK10 hq10 (by omega)) ?_)
        rintro s14 out ⟨hK14, hY14, ⟨z14, hc14, rfl, hz14, hp14⟩ | ⟨rfl, hc14⟩⟩
        · refine .inl ⟨_, rfl, ?_⟩
          have hX14 : FX s.1 s14.1 := FX_tr hX10 hY14
          have hC14 : s14.2 = s.2 := hc14.trans hC10
          have hq14 : s14.1 131 1 = (C : Int) := (hY14 131 1 (by unfold fx; omega)).trans hq10
          unfold i32 at hz14
          clear hp14
          show wr (d + 4) tb_M36 56 [(4, vi (s1.1 (C + 10) 0)), (3, vi (s1.1 (C + 6) 3)), (2, vi z1), (0, .ref 131), (1, vi x)] [vi z14] s14 _
          exact k_routineHead_56 hC (s1.1 (C + 10) 0) (s1.1 (C + 6) 3) z1 x z14 s14 hK14 hq14 hX14 hC14 (by omega) (by omega) (by omega) (by omega) (by omega)  
        · refine .inr ⟨rfl, ?_⟩
          exact ⟨hK14, (FX_tr hX10 hY14), .inr ⟨rfl, TH hC10 hc14⟩⟩
      · refine wr_if2f rfl rfl (by unfold i32; omega) (by unfold i32; omega) h13 ?_
        refine wr_n (pc2 := 56) (lv2 := [(4, vi (s1.1 (C + 10) 0)), (3, vi (s1.1 (C + 6) 3)), (2, vi z1), (0, .ref 131), (1, vi x)]) (st2 := [vi 0]) 2 (fun _ _ => rfl) ?_
        exact k_routineHead_56 hC (s1.1 (C + 10) 0) (s1.1 (C + 6) 3) z1 x 0 s10 hK10 hq10 hX10 hC10 (by omega) (by omega) (by omega) (by omega) (by omega)  
    · refine .inr ⟨rfl, ?_⟩
      exact ⟨hK10, (FX_tr hX1 hY10), .inr ⟨rfl, TH hC1 hc10⟩⟩
  · refine .inr ⟨rfl, ?_⟩
    exact ⟨hK1, (FX_tr FX_rf hY1), .inr ⟨rfl, TH rfl hc1⟩⟩
set_option maxHeartbeats 20000000 in
set_option maxRecDepth 100000 in
theorem k_bitCount {d : Nat}  {x : Int} (s : rS) (hK : KI s.1) (hx : (-2147483648) ≤ x ∧ x ≤ 2147483647)  : cr (d + 1) 76 [vi x] s (PZ (fun z => True) s) := by
  refine cr_of (M := tb_M76) rfl (Nat.le_of_ble_eq_true rfl) ?_
  show wr (d) tb_M76 0 [(0, vi x)] [] s _
  refine wr_n (pc2 := 3) (lv2 := [(0, vi x)]) (st2 := [vi 1, vi x, vi x]) 3 (fun _ _ => rfl) ?_
  refine wr_any2 rfl rfl fun z1 h2 => ?_
  unfold i32 at h2
  show wr d tb_M76 4 [(0, vi x)] [vi z1, vi x] s _
  refine wr_n (pc2 := 7) (lv2 := [(0, vi x)]) (st2 := [vi 1431655765, vi z1, vi x]) 1 (fun _ _ => rfl) ?_
  refine wr_any2 rfl rfl fun z3 h4 => ?_
  unfold i32 at h4
  show wr d tb_M76 8 [(0, vi x)] [vi z3, vi x] s _
  refine wr_any2 rfl rfl fun z5 h6 => ?_
  unfold i32 at h6
  show wr d tb_M76 9 [(0, vi x)] [vi z5] s _
  refine wr_n (pc2 := 14) (lv2 := [(0, vi z5)]) (st2 := [vi 858993459, vi z5]) 3 (fun _ _ => rfl) ?_
  refine wr_any2 rfl rfl fun z7 h8 => ?_
  unfold i32 at h8
  show wr d tb_M76 15 [(0, vi z5)] [vi z7] s _
  refine wr_n (pc2 := 17) (lv2 := [(0, vi z5)]) (st2 := [vi 2, vi z5, vi z7]) 2 (fun _ _ => rfl) ?_
  refine wr_any2 rfl rfl fun z9 h10 => ?_
  unfold i32 at h10
  show wr d tb_M76 18 [(0, vi z5)] [vi z9, vi z7] s _
  refine wr_n (pc2 := 21) (lv2 := [(0, vi z5)]) (st2 := [vi 858993459, vi z9, vi z7]) 1 (fun _ _ => rfl) ?_
  refine wr_any2 rfl rfl fun z11 h12 => ?_
  unfold i32 at h12
  show wr d tb_M76 22 [(0, vi z5)] [vi z11, vi z7] s _
  refine wr_any2 rfl rfl fun z13 h14 => ?_
  unfold i32 at h14
  show wr d tb_M76 23 [(0, vi z5)] [vi z13] s _
  refine wr_n (pc2 := 27) (lv2 := [(0, vi z13)]) (st2 := [vi 4, vi z13, vi z13]) 4 (fun _ _ => rfl) ?_
  refine wr_any2 rfl rfl fun z15 h16 => ?_
  unfold i32 at h16
  show wr d tb_M76 28 [(0, vi z13)] [vi z15, vi z13] s _
  refine wr_any2 rfl rfl fun z17 h18 => ?_
  unfold i32 at h18
  show wr d tb_M76 29 [(0, vi z13)] [vi z17] s _
  refine wr_n (pc2 := 32) (lv2 := [(0, vi z13)]) (st2 := [vi 252645135, vi z17]) 1 (fun _ _ => rfl) ?_
  refine wr_any2 rfl rfl fun z19 h20 => ?_
  unfold i32 at h20
  show wr d tb_M76 33 [(0, vi z13)] [vi z19] s _
  refine wr_n (pc2 := 38) (lv2 := [(0, vi z19)]) (st2 := [vi 8, vi z19, vi z19]) 4 (fun _ _ => rfl) ?_
  refine wr_any2 rfl rfl fun z21 h22 => ?_
  unfold i32 at h22
  show wr d tb_M76 39 [(0, vi z19)] [vi z21, vi z19] s _
  refine wr_any2 rfl rfl fun z23 h24 => ?_
  unfold i32 at h24
  show wr d tb_M76 40 [(0, vi z19)] [vi z23] s _
  refine wr_n (pc2 := 45) (lv2 := [(0, vi z23)]) (st2 := [vi 16, vi z23, vi z23]) 4 (fun _ _ => rfl) ?_
  refine wr_any2 rfl rfl fun z25 h26 => ?_
  unfold i32 at h26
  show wr d tb_M76 46 [(0, vi z23)] [vi z25, vi z23] s _
  refine wr_any2 rfl rfl fun z27 h28 => ?_
  unfold i32 at h28
  show wr d tb_M76 47 [(0, vi z23)] [vi z27] s _
  refine wr_n (pc2 := 51) (lv2 := [(0, vi z27)]) (st2 := [vi 63, vi z27]) 3 (fun _ _ => rfl) ?_
  refine wr_any2 rfl rfl fun z29 h30 => ?_
  unfold i32 at h30
  show wr d tb_M76 52 [(0, vi z27)] [vi z29] s _
  refine wr_reti rfl rfl ?_
  exact ⟨z29, rfl, by unfold i32; omega, trivial, rfl⟩
set_option maxHeartbeats 20000000 in
set_option maxRecDepth 100000 in
theorem k_shortDecl_181 {d : Nat} {s0 : rS} {C : Nat} (hC : C = 99 ∨ C = 115)  (l2 : Int) (l1 : Int) (s : rS) (hK : KI s.1) (hq : s.1 131 1 = (C : Int)) (hX : FX s0.1 s.1) (hc : s.2 = s0.2) (hl2 : (-2147483648) ≤ l2 ∧ l2 ≤ 2147483647) (hl1 : (-2147483648) ≤ l1 ∧ l1 ≤ 2147483647)   : wr (d + 2) tb_M75 181 [(2, vi l2), (0, .ref 131), (1, vi l1)] [] s (TV s0) := by
  refine wr_n (pc2 := 184) (lv2 := [(2, vi l2), (0, .ref 131), (1, vi l1)]) (st2 := [vi 59, .ref 131]) 2 (fun _ _ => rfl) ?_
  refine wr_call1T (args := [vi 59]) (rest := []) rfl rfl rfl rfl (Nat.le_of_ble_eq_true rfl) rfl (cr_mono (k_expect (d := d + 0) (x := 59) s hK (by omega)) ?_)
  rintro s1 out ⟨hK1, hY1, ⟨hc1, rfl⟩ | ⟨rfl, hc1⟩⟩
  · refine .inl ⟨_, rfl, ?_⟩
    have hX1 : FX s0.1 s1.1 := FX_tr hX hY1
    have hC1 : s1.2 = s0.2 := hc1.trans hc
    have hq1 : s1.1 131 1 = (C : Int) := (hY1 131 1 (by unfold fx; omega)).trans hq
    show wr (d + 2) tb_M75 187 [(2, vi l2), (0, .ref 131), (1, vi l1)] [] s1 _
    refine wr_end (fun _ _ => rfl) ?_
    exact ⟨hK1, hX1, .inl ⟨hC1, rfl⟩⟩
  · refine .inr ⟨rfl, ?_⟩
    exact ⟨hK1, (FX_tr hX hY1), .inr ⟨rfl, TH hc hc1⟩⟩
set_option maxHeartbeats 20000000 in
set_option maxRecDepth 100000 in
theorem k_shortDecl_181v2 {d : Nat} {s0 : rS} {C : Nat} (hC : C = 99 ∨ C = 115)  (l1 : Int) (s : rS) (hK : KI s.1) (hq : s.1 131 1 = (C : Int)) (hX : FX s0.1 s.1) (hc : s.2 = s0.2) (hl1 : (-2147483648) ≤ l1 ∧ l1 ≤ 2147483647)   : wr (d + 2) tb_M75 181 [(0, .ref 131), (1, vi l1)] [] s (TV s0) := by
  refine wr_n (pc2 := 184) (lv2 := [(0, .ref 131), (1, vi l1)]) (st2 := [vi 59, .ref 131]) 2 (fun _ _ => rfl) ?_
  refine wr_call1T (args := [vi 59]) (rest := []) rfl rfl rfl rfl (Nat.le_of_ble_eq_true rfl) rfl (cr_mono (k_expect (d := d + 0) (x := 59) s hK (by omega)) ?_)
  rintro s1 out ⟨hK1, hY1, ⟨hc1, rfl⟩ | ⟨rfl, hc1⟩⟩
  · refine .inl ⟨_, rfl, ?_⟩
    have hX1 : FX s0.1 s1.1 := FX_tr hX hY1
    have hC1 : s1.2 = s0.2 := hc1.trans hc
    have hq1 : s1.1 131 1 = (C : Int) := (hY1 131 1 (by unfold fx; omega)).trans hq
    show wr (d + 2) tb_M75 187 [(0, .ref 131), (1, vi l1)] [] s1 _
    refine wr_end (fun _ _ => rfl) ?_
    exact ⟨hK1, hX1, .inl ⟨hC1, rfl⟩⟩
  · refine .inr ⟨rfl, ?_⟩
    exact ⟨hK1, (FX_tr hX hY1), .inr ⟨rfl, TH hc hc1⟩⟩
set_option maxHeartbeats 20000000 in
set_option maxRecDepth 100000 in
theorem k_shortDecl_181v3 {d : Nat} {s0 : rS} {C : Nat} (hC : C = 99 ∨ C = 115)  (l5 : Int) (l4 : Int) (l3 : Int) (l1 : Int) (s : rS) (hK : KI s.1) (hq : s.1 131 1 = (C : Int)) (hX : FX s0.1 s.1) (hc : s.2 = s0.2) (hl5 : (-2147483648) ≤ l5 ∧ l5 ≤ 2147483647) (hl4 : (-2147483648) ≤ l4 ∧ l4 ≤ 2147483647) (hl3 : (-2147483648) ≤ l3 ∧ l3 ≤ 2147483647) (hl1 : (-2147483648) ≤ l1 ∧ l1 ≤ 2147483647)   : wr (d + 2) tb_M75 181 [(5, vi l5), (4, vi l4), (3, vi l3), (0, .ref 131), (1, vi l1)] [] s (TV s0) := by
  refine wr_n (pc2 := 184) (lv2 := [(5, vi l5), (4, vi l4), (3, vi l3), (0, .ref 131), (1, vi l1)]) (st2 := [vi 59, .ref 131]) 2 (fun _ _ => rfl) ?_
  refine wr_call1T (args := [vi 59]) (rest := []) rfl rfl rfl rfl (Nat.le_of_ble_eq_true rfl) rfl (cr_mono (k_expect (d := d + 0) (x := 59) s hK (by omega)) ?_)
  rintro s1 out ⟨hK1, hY1, ⟨hc1, rfl⟩ | ⟨rfl, hc1⟩⟩
  · refine .inl ⟨_, rfl, ?_⟩
    have hX1 : FX s0.1 s1.1 := FX_tr hX hY1
    have hC1 : s1.2 = s0.2 := hc1.trans hc
    have hq1 : s1.1 131 1 = (C : Int) := (hY1 131 1 (by unfold fx; omega)).trans hq
    show wr (d + 2) tb_M75 187 [(5, vi l5), (4, vi l4), (3, vi l3), (0, .ref 131), (1, vi l1)] [] s1 _
    refine wr_end (fun _ _ => rfl) ?_
    exact ⟨hK1, hX1, .inl ⟨hC1, rfl⟩⟩
  · refine .inr ⟨rfl, ?_⟩
    exact ⟨hK1, (FX_tr hX hY1), .inr ⟨rfl, TH hc hc1⟩⟩
set_option maxHeartbeats 20000000 in
set_option maxRecDepth 100000 in
theorem k_shortDecl {d : Nat} {C : Nat} (hC : C = 99 ∨ C = 115)  {x : Int} (s : rS) (hK : KI s.1) (hq : s.1 131 1 = (C : Int)) (hx : (-2147483648) ≤ x ∧ x ≤ 2147483647)  : cr (d + 3) 75 [.ref 131, vi x] s (TV s) := by
  refine cr_of (M := tb_M75) rfl (Nat.le_of_ble_eq_true rfl) ?_
  show wr (d + 2) tb_M75 0 [(0, .ref 131), (1, vi x)] [] s _
  refine wr_n (pc2 := 1) (lv2 := [(0, .ref 131), (1, vi x)]) (st2 := [vi x]) 1 (fun _ _ => rfl) ?_
  refine wr_tsw rfl (by decide) (by unfold i32; omega) fun off hoff => ?_
  have hoff2 : off = 35 ∨ off = 66 ∨ off = 83 ∨ off = 153 ∨ off = 163 ∨ off = 173 := by simp at hoff; omega
  clear hoff
  rcases hoff2 with rfl | rfl | rfl | rfl | rfl | rfl
  · refine ⟨36, rfl, ?_⟩
    refine wr_n (pc2 := 39) (lv2 := [(0, .ref 131), (1, vi x)]) (st2 := [vi 0, vi 0, .ref 131]) 3 (fun _ _ => rfl) ?_
    refine wr_call1T (args := [vi 0, vi 0]) (rest := []) rfl rfl rfl rfl (Nat.le_of_ble_eq_true rfl) rfl (cr_mono (k_declare (d := d + 0) (C := C) hC (x := 0) (y := 0) s hK hq (by omega) (by omega)) ?_)
    rintro s1 out ⟨hK1, hY1, ⟨z1, hc1, rfl, hz1, hp1⟩ | ⟨rfl, hc1⟩⟩
    · refine .inl ⟨_, rfl, ?_⟩
      have hX1 : FX s.1 s1.1 := FX_tr FX_rf hY1
      have hC1 : s1.2 = s.2 := hc1.trans rfl
      have hq1 : s1.1 131 1 = (C : Int) := (hY1 131 1 (by unfold fx; omega)).trans hq
      unfold i32 at hz1
      clear hp1
      show wr (d + 2) tb_M75 42 [(0, .ref 131), (1, vi x)] [vi z1] s1 _
      refine wr_n (pc2 := 46) (lv2 := [(2, vi z1), (0, .ref 131), (1, vi x)]) (st2 := [vi 58, .ref 131]) 3 (fun _ _ => rfl) ?_
      refine wr_call1T (args := [vi 58]) (rest := []) rfl rfl rfl rfl (Nat.le_of_ble_eq_true rfl) rfl (cr_mono (k_expect (d := d + 0) (x := 58) s1 hK1 (by omega)) ?_)
      rintro s2 out ⟨hK2, hY2, ⟨hc2, rfl⟩ | ⟨rfl, hc2⟩⟩
      · refine .inl ⟨_, rfl, ?_⟩
        have hX2 : FX s.1 s2.1 := FX_tr hX1 hY2
        have hC2 : s2.2 = s.2 := hc2.trans hC1
        have hq2 : s2.1 131 1 = (C : Int) := (hY2 131 1 (by unfold fx; omega)).trans hq1
        show wr (d + 2) tb_M75 49 [(2, vi z1), (0, .ref 131), (1, vi x)] [] s2 _
        refine wr_n (pc2 := 50) (lv2 := [(2, vi z1), (0, .ref 131), (1, vi x)]) (st2 := [.ref 131]) 1 (fun _ _ => rfl) ?_
        refine wr_get (v := .ref C) rfl rfl rfl (by decide) (rv_ref (show (s2.1) 131 1 = ((C : Nat) : Int) from hq2)) fun h3 => ?_
        show wr (d + 2) tb_M75 53 [(2, vi z1), (0, .ref 131), (1, vi x)] [.ref C] s2 _
        refine wr_n (pc2 := 58) (lv2 := [(2, vi z1), (0, .ref 131), (1, vi x)]) (st2 := [vi 16, vi 1, .ref 131, vi z1, .ref C]) 4 (fun _ _ => rfl) ?_
        refine wr_call1T (args := [vi 1, vi 16]) (rest := [vi z1, .ref C]) rfl rfl rfl rfl (Nat.le_of_ble_eq_true rfl) rfl (cr_mono (k_number (d := d + 0) (x := 1) (y := 16) s2 hK2 (by omega) (by omega)) ?_)
        rintro s4 out ⟨hK4, hY4, ⟨z4, hc4, rfl, hz4, hp4⟩ | ⟨rfl, hc4⟩⟩
        · refine .inl ⟨_, rfl, ?_⟩
          have hX4 : FX s.1 s4.1 := FX_tr hX2 hY4
          have hC4 : s4.2 = s.2 := hc4.trans hC2
          have hq4 : s4.1 131 1 = (C : Int) := (hY4 131 1 (by unfold fx; omega)).trans hq2
          unfold i32 at hz4
          replace hp4 : 1 ≤ z4 ∧ z4 ≤ 16 := hp4
          show wr (d + 2) tb_M75 61 [(2, vi z1), (0, .ref 131), (1, vi x)] [vi z4, vi z1, .ref C] s4 _
          refine wr_call1 (args := [vi z1, vi z4]) (rest := []) rfl rfl rfl (TK0 hC) (Nat.le_of_ble_eq_true rfl) (cr_mono (k_setBits (d := d + 1) (C := C) hC (x := z1) (y := z4) s4 hK4 (by omega) (by omega)) ?_)
          rintro s5 out ⟨hK5, hY5, hc5, rfl⟩
          refine ⟨_, rfl, ?_⟩
          have hX5 : FX s.1 s5.1 := FX_tr hX4 hY5
          have hC5 : s5.2 = s.2 := hc5.trans hC4
          have hq5 : s5.1 131 1 = (C : Int) := (hY5 131 1 (by unfold fx; omega)).trans hq4
          show wr (d + 2) tb_M75 64 [(2, vi z1), (0, .ref 131), (1, vi x)] [] s5 _
          refine wr_n (pc2 := 181) (lv2 := [(2, vi z1), (0, .ref 131), (1, vi x)]) (st2 := []) 1 (fun _ _ => rfl) ?_
          exact k_shortDecl_181 hC z1 x s5 hK5 hq5 hX5 hC5 (by omega) (by omega)  
        · refine .inr ⟨rfl, ?_⟩
          exact ⟨hK4, (FX_tr hX2 hY4), .inr ⟨rfl, TH hC2 hc4⟩⟩
      · refine .inr ⟨rfl, ?_⟩
        exact ⟨hK2, (FX_tr hX1 hY2), .inr ⟨rfl, TH hC1 hc2⟩⟩
    · refine .inr ⟨rfl, ?_⟩
      exact ⟨hK1, (FX_tr FX_rf hY1), .inr ⟨rfl, TH rfl hc1⟩⟩
  · refine ⟨67, rfl, ?_⟩
    refine wr_n (pc2 := 68) (lv2 := [(0, .ref 131), (1, vi x)]) (st2 := [.ref 131]) 1 (fun _ _ => rfl) ?_
    refine wr_get (v := .ref C) rfl rfl rfl (by decide) (rv_ref (show (s.1) 131 1 = ((C : Nat) : Int) from hq)) fun h6 => ?_
    show wr (d + 2) tb_M75 71 [(0, .ref 131), (1, vi x)] [.ref C] s _
    refine wr_n (pc2 := 74) (lv2 := [(0, .ref 131), (1, vi x)]) (st2 := [vi 0, vi 0, .ref 131, .ref C]) 3 (fun _ _ => rfl) ?_
    refine wr_call1T (args := [vi 0, vi 0]) (rest := [.ref C]) rfl rfl rfl rfl (Nat.le_of_ble_eq_true rfl) rfl (cr_mono (k_declare (d := d + 0) (C := C) hC (x := 0) (y := 0) s hK hq (by omega) (by omega)) ?_)
    rintro s7 out ⟨hK7, hY7, ⟨z7, hc7, rfl, hz7, hp7⟩ | ⟨rfl, hc7⟩⟩
    · refine .inl ⟨_, rfl, ?_⟩
      have hX7 : FX s.1 s7.1 := FX_tr FX_rf hY7
      have hC7 : s7.2 = s.2 := hc7.trans rfl
      have hq7 : s7.1 131 1 = (C : Int) := (hY7 131 1 (by unfold fx; omega)).trans hq
      unfold i32 at hz7
      clear hp7
      show wr (d + 2) tb_M75 77 [(0, .ref 131), (1, vi x)] [vi z7, .ref C] s7 _
      refine wr_n (pc2 := 78) (lv2 := [(0, .ref 131), (1, vi x)]) (st2 := [vi 0, vi z7, .ref C]) 1 (fun _ _ => rfl) ?_
      refine wr_call1 (args := [vi z7, vi 0]) (rest := []) rfl rfl rfl (TK0 hC) (Nat.le_of_ble_eq_true rfl) (cr_mono (k_setBits (d := d + 1) (C := C) hC (x := z7) (y := 0) s7 hK7 (by omega) (by omega)) ?_)
      rintro s8 out ⟨hK8, hY8, hc8, rfl⟩
      refine ⟨_, rfl, ?_⟩
      have hX8 : FX s.1 s8.1 := FX_tr hX7 hY8
      have hC8 : s8.2 = s.2 := hc8.trans hC7
      have hq8 : s8.1 131 1 = (C : Int) := (hY8 131 1 (by unfold fx; omega)).trans hq7
      show wr (d + 2) tb_M75 81 [(0, .ref 131), (1, vi x)] [] s8 _
      refine wr_n (pc2 := 181) (lv2 := [(0, .ref 131), (1, vi x)]) (st2 := []) 1 (fun _ _ => rfl) ?_
      exact k_shortDecl_181v2 hC x s8 hK8 hq8 hX8 hC8 (by omega)  
    · refine .inr ⟨rfl, ?_⟩
      exact ⟨hK7, (FX_tr FX_rf hY7), .inr ⟨rfl, TH rfl hc7⟩⟩
  · refine ⟨84, rfl, ?_⟩
    refine wr_n (pc2 := 87) (lv2 := [(0, .ref 131), (1, vi x)]) (st2 := [vi 0, vi 1, .ref 131]) 3 (fun _ _ => rfl) ?_
    refine wr_call1T (args := [vi 1, vi 0]) (rest := []) rfl rfl rfl rfl (Nat.le_of_ble_eq_true rfl) rfl (cr_mono (k_declare (d := d + 0) (C := C) hC (x := 1) (y := 0) s hK hq (by omega) (by omega)) ?_)
    rintro s9 out ⟨hK9, hY9, ⟨z9, hc9, rfl, hz9, hp9⟩ | ⟨rfl, hc9⟩⟩
    · refine .inl ⟨_, rfl, ?_⟩
      have hX9 : FX s.1 s9.1 := FX_tr FX_rf hY9
      have hC9 : s9.2 = s.2 := hc9.trans rfl
      have hq9 : s9.1 131 1 = (C : Int) := (hY9 131 1 (by unfold fx; omega)).trans hq
      unfold i32 at hz9
      clear hp9
      show wr (d + 2) tb_M75 90 [(0, .ref 131), (1, vi x)] [vi z9] s9 _
      refine wr_n (pc2 := 94) (lv2 := [(3, vi z9), (0, .ref 131), (1, vi x)]) (st2 := [vi 91, .ref 131]) 3 (fun _ _ => rfl) ?_
      refine wr_call1T (args := [vi 91]) (rest := []) rfl rfl rfl rfl (Nat.le_of_ble_eq_true rfl) rfl (cr_mono (k_expect (d := d + 0) (x := 91) s9 hK9 (by omega)) ?_)
      rintro s10 out ⟨hK10, hY10, ⟨hc10, rfl⟩ | ⟨rfl, hc10⟩⟩
      · refine .inl ⟨_, rfl, ?_⟩
        have hX10 : FX s.1 s10.1 := FX_tr hX9 hY10
        have hC10 : s10.2 = s.2 := hc10.trans hC9
        have hq10 : s10.1 131 1 = (C : Int) := (hY10 131 1 (by unfold fx; omega)).trans hq9
        show wr (d + 2) tb_M75 97 [(3, vi z9), (0, .ref 131), (1, vi x)] [] s10 _
        refine wr_n (pc2 := 98) (lv2 := [(3, vi z9), (0, .ref 131), (1, vi x)]) (st2 := [.ref 131]) 1 (fun _ _ => rfl) ?_
        refine wr_get (v := .ref 137) rfl rfl rfl (by decide) (rv_ref (hK10.1 131 0 137 rfl)) fun h11 => ?_
        show wr (d + 2) tb_M75 101 [(3, vi z9), (0, .ref 131), (1, vi x)] [.ref 137] s10 _
        refine wr_call1 (args := []) (rest := []) rfl rfl rfl rfl (Nat.le_of_ble_eq_true rfl) (cr_mono (k_place (d := d + 1) s10 hK10) ?_)
        rintro s12 out ⟨z12, rfl, hz12, hp12, e12⟩
        refine ⟨_, rfl, ?_⟩
        rw [e12]
        unfold i32 at hz12
        clear hp12
        show wr (d + 2) tb_M75 104 [(3, vi z9), (0, .ref 131), (1, vi x)] [vi z12] s10 _
        refine wr_n (pc2 := 110) (lv2 := [(4, vi z12), (3, vi z9), (0, .ref 131), (1, vi x)]) (st2 := [vi 64, vi 1, .ref 131]) 4 (fun _ _ => rfl) ?_
        refine wr_call1T (args := [vi 1, vi 64]) (rest := []) rfl rfl rfl rfl (Nat.le_of_ble_eq_true rfl) rfl (cr_mono (k_number (d := d + 0) (x := 1) (y := 64) s10 hK10 (by omega) (by omega)) ?_)
        rintro s13 out ⟨hK13, hY13, ⟨z13, hc13, rfl, hz13, hp13⟩ | ⟨rfl, hc13⟩⟩
        · refine .inl ⟨_, rfl, ?_⟩
          have hX13 : FX s.1 s13.1 := FX_tr hX10 hY13
          have hC13 : s13.2 = s.2 := hc13.trans hC10
          have hq13 : s13.1 131 1 = (C : Int) := (hY13 131 1 (by unfold fx; omega)).trans hq10
          unfold i32 at hz13
          replace hp13 : 1 ≤ z13 ∧ z13 ≤ 64 := hp13
          show wr (d + 2) tb_M75 113 [(4, vi z12), (3, vi z9), (0, .ref 131), (1, vi x)] [vi z13] s13 _
          refine wr_n (pc2 := 118) (lv2 := [(5, vi z13), (4, vi z12), (3, vi z9), (0, .ref 131), (1, vi x)]) (st2 := [vi z13, .ref 131]) 3 (fun _ _ => rfl) ?_
          refine wr_call0 (args := [vi z13]) (rest := [.ref 131]) rfl rfl rfl (Nat.le_of_ble_eq_true rfl) (cr_mono (k_bitCount (d := d + 1) (x := z13) s13 hK13 (by omega)) ?_)
          rintro s14 out ⟨z14, rfl, hz14, hp14, e14⟩
          refine ⟨_, rfl, ?_⟩
          rw [e14]
          unfold i32 at hz14
          clear hp14
          show wr (d + 2) tb_M75 121 [(5, vi z13), (4, vi z12), (3, vi z9), (0, .ref 131), (1, vi x)] [vi z14, .ref 131] s13 _
          refine wr_n (pc2 := 122) (lv2 := [(5, vi z13), (4, vi z12), (3, vi z9), (0, .ref 131), (1, vi x)]) (st2 := [vi 1, vi z14, .ref 131]) 1 (fun _ _ => rfl) ?_
          by_cases h15 : z14 ≠ 1
          · refine wr_if2t rfl rfl (by unfold i32; omega) (by unfold i32; omega) h15 ?_
            refine wr_n (pc2 := 132) (lv2 := [(5, vi z13), (4, vi z12), (3, vi z9), (0, .ref 131), (1, vi x)]) (st2 := [vi z12, vi 0, .ref 131]) 2 (fun _ _ => rfl) ?_
            refine wr_call1T (args := [vi 0, vi z12]) (rest := []) rfl rfl rfl rfl (Nat.le_of_ble_eq_true rfl) rfl (cr_mono (k_check (d := d + 1) (x := 0) (y := z12) s13 hK13 (by omega) (by omega)) ?_)
            rintro s16 out (⟨e16, hr16, rfl⟩ | ⟨hK16, hY16, rfl, hc16⟩)
            · exact absurd rfl hr16
            · refine .inr ⟨rfl, ?_⟩
              exact ⟨hK16, (FX_tr hX13 hY16), .inr ⟨rfl, TH hC13 hc16⟩⟩
          · refine wr_if2f rfl rfl (by unfold i32; omega) (by unfold i32; omega) h15 ?_
            refine wr_n (pc2 := 132) (lv2 := [(5, vi z13), (4, vi z12), (3, vi z9), (0, .ref 131), (1, vi x)]) (st2 := [vi z12, vi 1, .ref 131]) 3 (fun _ _ => rfl) ?_
            refine wr_call1T (args := [vi 1, vi z12]) (rest := []) rfl rfl rfl rfl (Nat.le_of_ble_eq_true rfl) rfl (cr_mono (k_check (d := d + 1) (x := 1) (y := z12) s13 hK13 (by omega) (by omega)) ?_)
            rintro s17 out (⟨e17, hr17, rfl⟩ | ⟨hK17, hY17, rfl, hc17⟩)
            · refine .inl ⟨_, rfl, ?_⟩
              rw [e17]
              show wr (d + 2) tb_M75 135 [(5, vi z13), (4, vi z12), (3, vi z9), (0, .ref 131), (1, vi x)] [] s13 _
              refine wr_n (pc2 := 136) (lv2 := [(5, vi z13), (4, vi z12), (3, vi z9), (0, .ref 131), (1, vi x)]) (st2 := [.ref 131]) 1 (fun _ _ => rfl) ?_
              refine wr_get (v := .ref C) rfl rfl rfl (by decide) (rv_ref (show (s13.1) 131 1 = ((C : Nat) : Int) from hq13)) fun h18 => ?_
              show wr (d + 2) tb_M75 139 [(5, vi z13), (4, vi z12), (3, vi z9), (0, .ref 131), (1, vi x)] [.ref C] s13 _
              refine wr_n (pc2 := 142) (lv2 := [(5, vi z13), (4, vi z12), (3, vi z9), (0, .ref 131), (1, vi x)]) (st2 := [vi z13, vi z9, .ref C]) 2 (fun _ _ => rfl) ?_
              refine wr_call1 (args := [vi z9, vi z13]) (rest := []) rfl rfl rfl (TK0 hC) (Nat.le_of_ble_eq_true rfl) (cr_mono (k_setSize (d := d + 1) (C := C) hC (x := z9) (y := z13) s13 hK13 (by omega) (by omega)) ?_)
              rintro s19 out ⟨hK19, hY19, hc19, rfl⟩
              refine ⟨_, rfl, ?_⟩
              have hX19 : FX s.1 s19.1 := FX_tr hX13 hY19
              have hC19 : s19.2 = s.2 := hc19.trans hC13
              have hq19 : s19.1 131 1 = (C : Int) := (hY19 131 1 (by unfold fx; omega)).trans hq13
              show wr (d + 2) tb_M75 145 [(5, vi z13), (4, vi z12), (3, vi z9), (0, .ref 131), (1, vi x)] [] s19 _
              refine wr_n (pc2 := 148) (lv2 := [(5, vi z13), (4, vi z12), (3, vi z9), (0, .ref 131), (1, vi x)]) (st2 := [vi 93, .ref 131]) 2 (fun _ _ => rfl) ?_
              refine wr_call1T (args := [vi 93]) (rest := []) rfl rfl rfl rfl (Nat.le_of_ble_eq_true rfl) rfl (cr_mono (k_expect (d := d + 0) (x := 93) s19 hK19 (by omega)) ?_)
              rintro s20 out ⟨hK20, hY20, ⟨hc20, rfl⟩ | ⟨rfl, hc20⟩⟩
              · refine .inl ⟨_, rfl, ?_⟩
                have hX20 : FX s.1 s20.1 := FX_tr hX19 hY20
                have hC20 : s20.2 = s.2 := hc20.trans hC19
                have hq20 : s20.1 131 1 = (C : Int) := (hY20 131 1 (by unfold fx; omega)).trans hq19
                show wr (d + 2) tb_M75 151 [(5, vi z13), (4, vi z12), (3, vi z9), (0, .ref 131), (1, vi x)] [] s20 _
                refine wr_n (pc2 := 181) (lv2 := [(5, vi z13), (4, vi z12), (3, vi z9), (0, .ref 131), (1, vi x)]) (st2 := []) 1 (fun _ _ => rfl) ?_
                exact k_shortDecl_181v3 hC z13 z12 z9 x s20 hK20 hq20 hX20 hC20 (by omega) (by omega) (by omega) (by omega)  
              · refine .inr ⟨rfl, ?_⟩
                exact ⟨hK20, (FX_tr hX19 hY20), .inr ⟨rfl, TH hC19 hc20⟩⟩
            · refine .inr ⟨rfl, ?_⟩
              exact ⟨hK17, (FX_tr hX13 hY17), .inr ⟨rfl, TH hC13 hc17⟩⟩
        · refine .inr ⟨rfl, ?_⟩
          exact ⟨hK13, (FX_tr hX10 hY13), .inr ⟨rfl, TH hC10 hc13⟩⟩
      · refine .inr ⟨rfl, ?_⟩
        exact ⟨hK10, (FX_tr hX9 hY10), .inr ⟨rfl, TH hC9 hc10⟩⟩
    · refine .inr ⟨rfl, ?_⟩
      exact ⟨hK9, (FX_tr FX_rf hY9), .inr ⟨rfl, TH rfl hc9⟩⟩
  · refine ⟨154, rfl, ?_⟩
    refine wr_n (pc2 := 157) (lv2 := [(0, .ref 131), (1, vi x)]) (st2 := [vi 0, vi 2, .ref 131]) 3 (fun _ _ => rfl) ?_
    refine wr_call1T (args := [vi 2, vi 0]) (rest := []) rfl rfl rfl rfl (Nat.le_of_ble_eq_true rfl) rfl (cr_mono (k_declare (d := d + 0) (C := C) hC (x := 2) (y := 0) s hK hq (by omega) (by omega)) ?_)
    rintro s21 out ⟨hK21, hY21, ⟨z21, hc21, rfl, hz21, hp21⟩ | ⟨rfl, hc21⟩⟩
    · refine .inl ⟨_, rfl, ?_⟩
      have hX21 : FX s.1 s21.1 := FX_tr FX_rf hY21
      have hC21 : s21.2 = s.2 := hc21.trans rfl
      have hq21 : s21.1 131 1 = (C : Int) := (hY21 131 1 (by unfold fx; omega)).trans hq
      unfold i32 at hz21
      clear hp21
      show wr (d + 2) tb_M75 160 [(0, .ref 131), (1, vi x)] [vi z21] s21 _
      refine wr_n (pc2 := 181) (lv2 := [(0, .ref 131), (1, vi x)]) (st2 := []) 2 (fun _ _ => rfl) ?_
      exact k_shortDecl_181v2 hC x s21 hK21 hq21 hX21 hC21 (by omega)  
    · refine .inr ⟨rfl, ?_⟩
      exact ⟨hK21, (FX_tr FX_rf hY21), .inr ⟨rfl, TH rfl hc21⟩⟩
  · refine ⟨164, rfl, ?_⟩
    refine wr_n (pc2 := 167) (lv2 := [(0, .ref 131), (1, vi x)]) (st2 := [vi 0, vi 3, .ref 131]) 3 (fun _ _ => rfl) ?_
    refine wr_call1T (args := [vi 3, vi 0]) (rest := []) rfl rfl rfl rfl (Nat.le_of_ble_eq_true rfl) rfl (cr_mono (k_declare (d := d + 0) (C := C) hC (x := 3) (y := 0) s hK hq (by omega) (by omega)) ?_)
    rintro s22 out ⟨hK22, hY22, ⟨z22, hc22, rfl, hz22, hp22⟩ | ⟨rfl, hc22⟩⟩
    · refine .inl ⟨_, rfl, ?_⟩
      have hX22 : FX s.1 s22.1 := FX_tr FX_rf hY22
      have hC22 : s22.2 = s.2 := hc22.trans rfl
      have hq22 : s22.1 131 1 = (C : Int) := (hY22 131 1 (by unfold fx; omega)).trans hq
      unfold i32 at hz22
      clear hp22
      show wr (d + 2) tb_M75 170 [(0, .ref 131), (1, vi x)] [vi z22] s22 _
      refine wr_n (pc2 := 181) (lv2 := [(0, .ref 131), (1, vi x)]) (st2 := []) 2 (fun _ _ => rfl) ?_
      exact k_shortDecl_181v2 hC x s22 hK22 hq22 hX22 hC22 (by omega)  
    · refine .inr ⟨rfl, ?_⟩
      exact ⟨hK22, (FX_tr FX_rf hY22), .inr ⟨rfl, TH rfl hc22⟩⟩
  · refine ⟨174, rfl, ?_⟩
    refine wr_n (pc2 := 177) (lv2 := [(0, .ref 131), (1, vi x)]) (st2 := [vi 0, vi 4, .ref 131]) 3 (fun _ _ => rfl) ?_
    refine wr_call1T (args := [vi 4, vi 0]) (rest := []) rfl rfl rfl rfl (Nat.le_of_ble_eq_true rfl) rfl (cr_mono (k_declare (d := d + 0) (C := C) hC (x := 4) (y := 0) s hK hq (by omega) (by omega)) ?_)
    rintro s23 out ⟨hK23, hY23, ⟨z23, hc23, rfl, hz23, hp23⟩ | ⟨rfl, hc23⟩⟩
    · refine .inl ⟨_, rfl, ?_⟩
      have hX23 : FX s.1 s23.1 := FX_tr FX_rf hY23
      have hC23 : s23.2 = s.2 := hc23.trans rfl
      have hq23 : s23.1 131 1 = (C : Int) := (hY23 131 1 (by unfold fx; omega)).trans hq
      unfold i32 at hz23
      clear hp23
      show wr (d + 2) tb_M75 180 [(0, .ref 131), (1, vi x)] [vi z23] s23 _
      refine wr_n (pc2 := 181) (lv2 := [(0, .ref 131), (1, vi x)]) (st2 := []) 1 (fun _ _ => rfl) ?_
      exact k_shortDecl_181v2 hC x s23 hK23 hq23 hX23 hC23 (by omega)  
    · refine .inr ⟨rfl, ?_⟩
      exact ⟨hK23, (FX_tr FX_rf hY23), .inr ⟨rfl, TH rfl hc23⟩⟩
def CEx (n : Nat) : Prop := ∀ (C : Nat) (s : rS) (x : Int), (C = 99 ∨ C = 115) → KI s.1 → s.1 131 1 = (C : Int) → (0 ≤ x ∧ x ≤ 20 ∧ 20 - x < (n : Int)) → cr (6 * n + 6) 57 [.ref 131, vi x] s (TZ (fun z => True) s)
def COp (n : Nat) : Prop := ∀ (C : Nat) (s : rS) (x : Int), (C = 99 ∨ C = 115) → KI s.1 → s.1 131 1 = (C : Int) → (0 ≤ x ∧ x ≤ 20 ∧ 20 - x < (n : Int)) → cr (6 * n + 5) 58 [.ref 131, vi x] s (TZ (fun z => True) s)
def CNo (n : Nat) : Prop := ∀ (C : Nat) (s : rS) (x : Int), (C = 99 ∨ C = 115) → KI s.1 → s.1 131 1 = (C : Int) → (0 ≤ x ∧ x ≤ 20 ∧ 20 - x < (n : Int)) → cr (6 * n + 4) 60 [.ref 131, vi x] s (TZ (fun z => True) s)
def CSu (n : Nat) : Prop := ∀ (C : Nat) (s : rS) (x : Int), (C = 99 ∨ C = 115) → KI s.1 → s.1 131 1 = (C : Int) → (0 ≤ x ∧ x ≤ 20 ∧ 20 - x < (n : Int)) → cr (6 * n + 3) 64 [.ref 131, vi x] s (TZ (fun z => True) s)
def CCa (n : Nat) : Prop := ∀ (C : Nat) (s : rS) (x y u : Int), (C = 99 ∨ C = 115) → KI s.1 → s.1 131 1 = (C : Int) → (-2147483648 ≤ x ∧ x ≤ 2147483647) → (-2147483648 ≤ y ∧ y ≤ 2147483647) → (0 ≤ u ∧ u ≤ 20 ∧ 20 - u < (n : Int)) → cr (6 * n + 7) 65 [.ref 131, vi x, vi y, vi u] s (TZ (fun z => True) s)
set_option maxHeartbeats 20000000 in
set_option maxRecDepth 100000 in
theorem k_subscript {n : Nat} (hEx : CEx n) : CSu (n + 1) := by
  intro C s x hC hK hq hx
  refine cr_of (M := tb_M64) rfl (Nat.le_of_ble_eq_true rfl) ?_
  show wr (6 * (n + 1) + 2) tb_M64 0 [(0, .ref 131), (1, vi x)] [] s _
  refine wr_n (pc2 := 4) (lv2 := [(0, .ref 131), (1, vi x)]) (st2 := [vi 20, vi x, .ref 131]) 3 (fun _ _ => rfl) ?_
  by_cases h1 : 20 ≤ x
  · refine wr_if2t rfl rfl (by unfold i32; omega) (by unfold i32; omega) h1 ?_
    refine wr_n (pc2 := 13) (lv2 := [(0, .ref 131), (1, vi x)]) (st2 := [.ref 131, vi 0, .ref 131]) 2 (fun _ _ => rfl) ?_
    refine wr_get (v := .ref 137) rfl rfl rfl (by decide) (rv_ref (hK.1 131 0 137 rfl)) fun h2 => ?_
    show wr (6 * (n + 1) + 2) tb_M64 16 [(0, .ref 131), (1, vi x)] [.ref 137, vi 0, .ref 131] s _
    refine wr_call1 (args := []) (rest := [vi 0, .ref 131]) rfl rfl rfl rfl (Nat.le_of_ble_eq_true rfl) (cr_mono (k_place (d := 6 * (n + 1) + 1) s hK) ?_)
    rintro s3 out ⟨z3, rfl, hz3, hp3, e3⟩
    refine ⟨_, rfl, ?_⟩
    rw [e3]
    unfold i32 at hz3
    clear hp3
    show wr (6 * (n + 1) + 2) tb_M64 19 [(0, .ref 131), (1, vi x)] [vi z3, vi 0, .ref 131] s _
    refine wr_call1T (args := [vi 0, vi z3]) (rest := []) rfl rfl rfl rfl (Nat.le_of_ble_eq_true rfl) rfl (cr_mono (k_check (d := 6 * (n + 1) + 1) (x := 0) (y := z3) s hK (by omega) (by omega)) ?_)
    rintro s4 out (⟨e4, hr4, rfl⟩ | ⟨hK4, hY4, rfl, hc4⟩)
    · exact absurd rfl hr4
    · refine .inr ⟨rfl, ?_⟩
      exact ⟨hK4, (FX_tr FX_rf hY4), .inr ⟨rfl, TH rfl hc4⟩⟩
  · refine wr_if2f rfl rfl (by unfold i32; omega) (by unfold i32; omega) h1 ?_
    refine wr_n (pc2 := 13) (lv2 := [(0, .ref 131), (1, vi x)]) (st2 := [.ref 131, vi 1, .ref 131]) 3 (fun _ _ => rfl) ?_
    refine wr_get (v := .ref 137) rfl rfl rfl (by decide) (rv_ref (hK.1 131 0 137 rfl)) fun h5 => ?_
    show wr (6 * (n + 1) + 2) tb_M64 16 [(0, .ref 131), (1, vi x)] [.ref 137, vi 1, .ref 131] s _
    refine wr_call1 (args := []) (rest := [vi 1, .ref 131]) rfl rfl rfl rfl (Nat.le_of_ble_eq_true rfl) (cr_mono (k_place (d := 6 * (n + 1) + 1) s hK) ?_)
    rintro s6 out ⟨z6, rfl, hz6, hp6, e6⟩
    refine ⟨_, rfl, ?_⟩
    rw [e6]
    unfold i32 at hz6
    clear hp6
    show wr (6 * (n + 1) + 2) tb_M64 19 [(0, .ref 131), (1, vi x)] [vi z6, vi 1, .ref 131] s _
    refine wr_call1T (args := [vi 1, vi z6]) (rest := []) rfl rfl rfl rfl (Nat.le_of_ble_eq_true rfl) rfl (cr_mono (k_check (d := 6 * (n + 1) + 1) (x := 1) (y := z6) s hK (by omega) (by omega)) ?_)
    rintro s7 out (⟨e7, hr7, rfl⟩ | ⟨hK7, hY7, rfl, hc7⟩)
    · refine .inl ⟨_, rfl, ?_⟩
      rw [e7]
      show wr (6 * (n + 1) + 2) tb_M64 22 [(0, .ref 131), (1, vi x)] [] s _
      refine wr_n (pc2 := 23) (lv2 := [(0, .ref 131), (1, vi x)]) (st2 := [.ref 131]) 1 (fun _ _ => rfl) ?_
      refine wr_get (v := .ref 137) rfl rfl rfl (by decide) (rv_ref (hK.1 131 0 137 rfl)) fun h8 => ?_
      show wr (6 * (n + 1) + 2) tb_M64 26 [(0, .ref 131), (1, vi x)] [.ref 137] s _
      refine wr_call1 (args := []) (rest := []) rfl rfl rfl rfl (Nat.le_of_ble_eq_true rfl) (cr_mono (k_step (d := 6 * (n + 1) + 1) s hK) ?_)
      rintro s9 out ⟨hK9, hY9, hc9, rfl⟩
      refine ⟨_, rfl, ?_⟩
      have hX9 : FX s.1 s9.1 := FX_tr FX_rf hY9
      have hC9 : s9.2 = s.2 := hc9.trans rfl
      have hq9 : s9.1 131 1 = (C : Int) := (hY9 131 1 (by unfold fx; omega)).trans hq
      show wr (6 * (n + 1) + 2) tb_M64 29 [(0, .ref 131), (1, vi x)] [] s9 _
      refine wr_n (pc2 := 32) (lv2 := [(0, .ref 131), (1, vi x)]) (st2 := [vi 1, vi x, .ref 131]) 3 (fun _ _ => rfl) ?_
      refine wr_add (a := x) (b := 1) rfl ?_
      show wr (6 * (n + 1) + 2) tb_M64 33 [(0, .ref 131), (1, vi x)] [vi (x + 1), .ref 131] s9 _
      refine wr_call1T (args := [vi (x + 1)]) (rest := []) rfl rfl rfl rfl (Nat.le_of_ble_eq_true rfl) rfl (cr_mono (cr_up (by omega) (hEx C s9 (x + 1) hC hK9 hq9 (by omega))) ?_)
      rintro s10 out ⟨hK10, hY10, ⟨z10, hc10, rfl, hz10, hp10⟩ | ⟨rfl, hc10⟩⟩
      · refine .inl ⟨_, rfl, ?_⟩
        have hX10 : FX s.1 s10.1 := FX_tr hX9 hY10
        have hC10 : s10.2 = s.2 := hc10.trans hC9
        have hq10 : s10.1 131 1 = (C : Int) := (hY10 131 1 (by unfold fx; omega)).trans hq9
        unfold i32 at hz10
        clear hp10
        show wr (6 * (n + 1) + 2) tb_M64 36 [(0, .ref 131), (1, vi x)] [vi z10] s10 _
        refine wr_n (pc2 := 40) (lv2 := [(2, vi z10), (0, .ref 131), (1, vi x)]) (st2 := [vi 93, .ref 131]) 3 (fun _ _ => rfl) ?_
        refine wr_call1T (args := [vi 93]) (rest := []) rfl rfl rfl rfl (Nat.le_of_ble_eq_true rfl) rfl (cr_mono (k_expect (d := 6 * (n + 1) + 0) (x := 93) s10 hK10 (by omega)) ?_)
        rintro s11 out ⟨hK11, hY11, ⟨hc11, rfl⟩ | ⟨rfl, hc11⟩⟩
        · refine .inl ⟨_, rfl, ?_⟩
          have hX11 : FX s.1 s11.1 := FX_tr hX10 hY11
          have hC11 : s11.2 = s.2 := hc11.trans hC10
          have hq11 : s11.1 131 1 = (C : Int) := (hY11 131 1 (by unfold fx; omega)).trans hq10
          show wr (6 * (n + 1) + 2) tb_M64 43 [(2, vi z10), (0, .ref 131), (1, vi x)] [] s11 _
          refine wr_n (pc2 := 44) (lv2 := [(2, vi z10), (0, .ref 131), (1, vi x)]) (st2 := [vi z10]) 1 (fun _ _ => rfl) ?_
          refine wr_reti rfl rfl ?_
          exact ⟨hK11, hX11, .inl ⟨z10, hC11, rfl, by unfold i32; omega, trivial⟩⟩
        · refine .inr ⟨rfl, ?_⟩
          exact ⟨hK11, (FX_tr hX10 hY11), .inr ⟨rfl, TH hC10 hc11⟩⟩
      · refine .inr ⟨rfl, ?_⟩
        exact ⟨hK10, (FX_tr hX9 hY10), .inr ⟨rfl, TH hC9 hc10⟩⟩
    · refine .inr ⟨rfl, ?_⟩
      exact ⟨hK7, (FX_tr FX_rf hY7), .inr ⟨rfl, TH rfl hc7⟩⟩
set_option maxHeartbeats 20000000 in
set_option maxRecDepth 100000 in
theorem k_namedOperand_143 {s0 : rS} {C : Nat} (hC : C = 99 ∨ C = 115) {n : Nat} (hSu : CSu (n + 1)) (hCa : CCa n)  (l5 : Int) (l4 : Int) (l3 : Int) (l2 : Int) (l1 : Int) (k0 : Int) (s : rS) (hK : KI s.1) (hq : s.1 131 1 = (C : Int)) (hX : FX s0.1 s.1) (hc : s.2 = s0.2) (hl5 : (-2147483648) ≤ l5 ∧ l5 ≤ 2147483647) (hl4 : (-2147483648) ≤ l4 ∧ l4 ≤ 2147483647) (hl3 : (-2147483648) ≤ l3 ∧ l3 ≤ 2147483647) (hl2 : (-2147483648) ≤ l2 ∧ l2 ≤ 2147483647) (hl1 : 0 ≤ l1 ∧ l1 ≤ 20) (hk0 : 0 ≤ k0 ∧ k0 ≤ 1) (hx0 : 20 - l1 < ((n + 1 : Nat) : Int))  : wr (6 * (n + 1) + 3) tb_M60 143 [(5, vi l5), (4, vi l4), (3, vi l3), (2, vi l2), (0, .ref 131), (1, vi l1)] [vi k0, .ref 131] s (TZ (fun z => True) s0) := by
  refine wr_n (pc2 := 144) (lv2 := [(5, vi l5), (4, vi l4), (3, vi l3), (2, vi l2), (0, .ref 131), (1, vi l1)]) (st2 := [vi l2, vi k0, .ref 131]) 1 (fun _ _ => rfl) ?_
  refine wr_call1T (args := [vi k0, vi l2]) (rest := []) rfl rfl rfl rfl (Nat.le_of_ble_eq_true rfl) rfl (cr_mono (k_check (d := 6 * (n + 1) + 2) (x := k0) (y := l2) s hK (by omega) (by omega)) ?_)
  rintro s1 out (⟨e1, hr1, rfl⟩ | ⟨hK1, hY1, rfl, hc1⟩)
  · refine .inl ⟨_, rfl, ?_⟩
    rw [e1]
    show wr (6 * (n + 1) + 3) tb_M60 147 [(5, vi l5), (4, vi l4), (3, vi l3), (2, vi l2), (0, .ref 131), (1, vi l1)] [] s _
    refine wr_n (pc2 := 151) (lv2 := [(5, vi l5), (4, vi l4), (3, vi l3), (2, vi l2), (0, .ref 131), (1, vi l1)]) (st2 := [vi 20, vi l1, .ref 131]) 3 (fun _ _ => rfl) ?_
    by_cases h2 : 20 ≤ l1
    · refine wr_if2t rfl rfl (by unfold i32; omega) (by unfold i32; omega) h2 ?_
      refine wr_n (pc2 := 160) (lv2 := [(5, vi l5), (4, vi l4), (3, vi l3), (2, vi l2), (0, .ref 131), (1, vi l1)]) (st2 := [.ref 131, vi 0, .ref 131]) 2 (fun _ _ => rfl) ?_
      refine wr_get (v := .ref 137) rfl rfl rfl (by decide) (rv_ref (hK.1 131 0 137 rfl)) fun h3 => ?_
      show wr (6 * (n + 1) + 3) tb_M60 163 [(5, vi l5), (4, vi l4), (3, vi l3), (2, vi l2), (0, .ref 131), (1, vi l1)] [.ref 137, vi 0, .ref 131] s _
      refine wr_call1 (args := []) (rest := [vi 0, .ref 131]) rfl rfl rfl rfl (Nat.le_of_ble_eq_true rfl) (cr_mono (k_place (d := 6 * (n + 1) + 2) s hK) ?_)
      rintro s4 out ⟨z4, rfl, hz4, hp4, e4⟩
      refine ⟨_, rfl, ?_⟩
      rw [e4]
      unfold i32 at hz4
      clear hp4
      show wr (6 * (n + 1) + 3) tb_M60 166 [(5, vi l5), (4, vi l4), (3, vi l3), (2, vi l2), (0, .ref 131), (1, vi l1)] [vi z4, vi 0, .ref 131] s _
      refine wr_call1T (args := [vi 0, vi z4]) (rest := []) rfl rfl rfl rfl (Nat.le_of_ble_eq_true rfl) rfl (cr_mono (k_check (d := 6 * (n + 1) + 2) (x := 0) (y := z4) s hK (by omega) (by omega)) ?_)
      rintro s5 out (⟨e5, hr5, rfl⟩ | ⟨hK5, hY5, rfl, hc5⟩)
      · exact absurd rfl hr5
      · refine .inr ⟨rfl, ?_⟩
        exact ⟨hK5, (FX_tr hX hY5), .inr ⟨rfl, TH hc hc5⟩⟩
    · refine wr_if2f rfl rfl (by unfold i32; omega) (by unfold i32; omega) h2 ?_
      refine wr_n (pc2 := 160) (lv2 := [(5, vi l5), (4, vi l4), (3, vi l3), (2, vi l2), (0, .ref 131), (1, vi l1)]) (st2 := [.ref 131, vi 1, .ref 131]) 3 (fun _ _ => rfl) ?_
      refine wr_get (v := .ref 137) rfl rfl rfl (by decide) (rv_ref (hK.1 131 0 137 rfl)) fun h6 => ?_
      show wr (6 * (n + 1) + 3) tb_M60 163 [(5, vi l5), (4, vi l4), (3, vi l3), (2, vi l2), (0, .ref 131), (1, vi l1)] [.ref 137, vi 1, .ref 131] s _
      refine wr_call1 (args := []) (rest := [vi 1, .ref 131]) rfl rfl rfl rfl (Nat.le_of_ble_eq_true rfl) (cr_mono (k_place (d := 6 * (n + 1) + 2) s hK) ?_)
      rintro s7 out ⟨z7, rfl, hz7, hp7, e7⟩
      refine ⟨_, rfl, ?_⟩
      rw [e7]
      unfold i32 at hz7
      clear hp7
      show wr (6 * (n + 1) + 3) tb_M60 166 [(5, vi l5), (4, vi l4), (3, vi l3), (2, vi l2), (0, .ref 131), (1, vi l1)] [vi z7, vi 1, .ref 131] s _
      refine wr_call1T (args := [vi 1, vi z7]) (rest := []) rfl rfl rfl rfl (Nat.le_of_ble_eq_true rfl) rfl (cr_mono (k_check (d := 6 * (n + 1) + 2) (x := 1) (y := z7) s hK (by omega) (by omega)) ?_)
      rintro s8 out (⟨e8, hr8, rfl⟩ | ⟨hK8, hY8, rfl, hc8⟩)
      · refine .inl ⟨_, rfl, ?_⟩
        rw [e8]
        show wr (6 * (n + 1) + 3) tb_M60 169 [(5, vi l5), (4, vi l4), (3, vi l3), (2, vi l2), (0, .ref 131), (1, vi l1)] [] s _
        refine wr_n (pc2 := 175) (lv2 := [(5, vi l5), (4, vi l4), (3, vi l3), (2, vi l2), (0, .ref 131), (1, vi l1)]) (st2 := [vi 1, vi l1, vi l2, vi l5, .ref 131]) 5 (fun _ _ => rfl) ?_
        refine wr_add (a := l1) (b := 1) rfl ?_
        show wr (6 * (n + 1) + 3) tb_M60 176 [(5, vi l5), (4, vi l4), (3, vi l3), (2, vi l2), (0, .ref 131), (1, vi l1)] [vi (l1 + 1), vi l2, vi l5, .ref 131] s _
        refine wr_call1T (args := [vi l5, vi l2, vi (l1 + 1)]) (rest := []) rfl rfl rfl rfl (Nat.le_of_ble_eq_true rfl) rfl (cr_mono (cr_up (by omega) (hCa C s l5 l2 (l1 + 1) hC hK hq (by omega) (by omega) (by omega))) ?_)
        rintro s9 out ⟨hK9, hY9, ⟨z9, hc9, rfl, hz9, hp9⟩ | ⟨rfl, hc9⟩⟩
        · refine .inl ⟨_, rfl, ?_⟩
          have hX9 : FX s0.1 s9.1 := FX_tr hX hY9
          have hC9 : s9.2 = s0.2 := hc9.trans hc
          have hq9 : s9.1 131 1 = (C : Int) := (hY9 131 1 (by unfold fx; omega)).trans hq
          unfold i32 at hz9
          clear hp9
          show wr (6 * (n + 1) + 3) tb_M60 179 [(5, vi l5), (4, vi l4), (3, vi l3), (2, vi l2), (0, .ref 131), (1, vi l1)] [vi z9] s9 _
          refine wr_reti rfl rfl ?_
          exact ⟨hK9, hX9, .inl ⟨z9, hC9, rfl, by unfold i32; omega, trivial⟩⟩
        · refine .inr ⟨rfl, ?_⟩
          exact ⟨hK9, (FX_tr hX hY9), .inr ⟨rfl, TH hc hc9⟩⟩
      · refine .inr ⟨rfl, ?_⟩
        exact ⟨hK8, (FX_tr hX hY8), .inr ⟨rfl, TH hc hc8⟩⟩
  · refine .inr ⟨rfl, ?_⟩
    exact ⟨hK1, (FX_tr hX hY1), .inr ⟨rfl, TH hc hc1⟩⟩
set_option maxHeartbeats 20000000 in
set_option maxRecDepth 100000 in
theorem k_namedOperand {n : Nat} (hSu : CSu (n + 1)) (hCa : CCa n) : CNo (n + 1) := by
  intro C s x hC hK hq hx
  refine cr_of (M := tb_M60) rfl (Nat.le_of_ble_eq_true rfl) ?_
  show wr (6 * (n + 1) + 3) tb_M60 0 [(0, .ref 131), (1, vi x)] [] s _
  refine wr_n (pc2 := 1) (lv2 := [(0, .ref 131), (1, vi x)]) (st2 := [.ref 131]) 1 (fun _ _ => rfl) ?_
  refine wr_get (v := .ref 137) rfl rfl rfl (by decide) (rv_ref (hK.1 131 0 137 rfl)) fun h1 => ?_
  show wr (6 * (n + 1) + 3) tb_M60 4 [(0, .ref 131), (1, vi x)] [.ref 137] s _
  refine wr_call1 (args := []) (rest := []) rfl rfl rfl rfl (Nat.le_of_ble_eq_true rfl) (cr_mono (k_place (d := 6 * (n + 1) + 2) s hK) ?_)
  rintro s2 out ⟨z2, rfl, hz2, hp2, e2⟩
  refine ⟨_, rfl, ?_⟩
  rw [e2]
  unfold i32 at hz2
  clear hp2
  show wr (6 * (n + 1) + 3) tb_M60 7 [(0, .ref 131), (1, vi x)] [vi z2] s _
  refine wr_n (pc2 := 9) (lv2 := [(2, vi z2), (0, .ref 131), (1, vi x)]) (st2 := [.ref 131]) 2 (fun _ _ => rfl) ?_
  refine wr_call1T (args := []) (rest := []) rfl rfl rfl rfl (Nat.le_of_ble_eq_true rfl) rfl (cr_mono (k_meaning (d := 6 * (n + 1) + 1) (C := C) hC s hK hq) ?_)
  rintro s3 out ⟨hK3, hY3, ⟨z3, hc3, rfl, hz3, hp3⟩ | ⟨rfl, hc3⟩⟩
  · refine .inl ⟨_, rfl, ?_⟩
    have hX3 : FX s.1 s3.1 := FX_tr FX_rf hY3
    have hC3 : s3.2 = s.2 := hc3.trans rfl
    have hq3 : s3.1 131 1 = (C : Int) := (hY3 131 1 (by unfold fx; omega)).trans hq
    unfold i32 at hz3
    clear hp3
    show wr (6 * (n + 1) + 3) tb_M60 12 [(2, vi z2), (0, .ref 131), (1, vi x)] [vi z3] s3 _
    refine wr_n (pc2 := 14) (lv2 := [(3, vi z3), (2, vi z2), (0, .ref 131), (1, vi x)]) (st2 := [.ref 131]) 2 (fun _ _ => rfl) ?_
    refine wr_get (v := .ref C) rfl rfl rfl (by decide) (rv_ref (show (s3.1) 131 1 = ((C : Nat) : Int) from hq3)) fun h4 => ?_
    show wr (6 * (n + 1) + 3) tb_M60 17 [(3, vi z3), (2, vi z2), (0, .ref 131), (1, vi x)] [.ref C] s3 _
    refine wr_get (v := .ref (C + 6)) rfl rfl (TK0 hC) (by decide) (rv_ref (hK3.1 C 5 (C + 6) (rcK hC (by omega)))) fun h5 => ?_
    show wr (6 * (n + 1) + 3) tb_M60 20 [(3, vi z3), (2, vi z2), (0, .ref 131), (1, vi x)] [.ref (C + 6)] s3 _
    refine wr_n (pc2 := 21) (lv2 := [(3, vi z3), (2, vi z2), (0, .ref 131), (1, vi x)]) (st2 := [vi z3, .ref (C + 6)]) 1 (fun _ _ => rfl) ?_
    refine wr_call1 (args := [vi z3]) (rest := []) rfl rfl rfl (TK6 hC) (Nat.le_of_ble_eq_true rfl) (cr_mono (k_nkind (d := 6 * (n + 1) + 2) (C := C) hC (x := z3) s3 hK3 (by omega)) ?_)
    rintro s6 out ⟨z6, rfl, hz6, hp6, e6⟩
    refine ⟨_, rfl, ?_⟩
    rw [e6]
    unfold i32 at hz6
    clear hp6
    show wr (6 * (n + 1) + 3) tb_M60 24 [(3, vi z3), (2, vi z2), (0, .ref 131), (1, vi x)] [vi z6] s3 _
    refine wr_n (pc2 := 27) (lv2 := [(4, vi z6), (3, vi z3), (2, vi z2), (0, .ref 131), (1, vi x)]) (st2 := [.ref 131]) 2 (fun _ _ => rfl) ?_
    refine wr_get (v := .ref C) rfl rfl rfl (by decide) (rv_ref (show (s3.1) 131 1 = ((C : Nat) : Int) from hq3)) fun h7 => ?_
    show wr (6 * (n + 1) + 3) tb_M60 30 [(4, vi z6), (3, vi z3), (2, vi z2), (0, .ref 131), (1, vi x)] [.ref C] s3 _
    refine wr_get (v := .ref (C + 6)) rfl rfl (TK0 hC) (by decide) (rv_ref (hK3.1 C 5 (C + 6) (rcK hC (by omega)))) fun h8 => ?_
    show wr (6 * (n + 1) + 3) tb_M60 33 [(4, vi z6), (3, vi z3), (2, vi z2), (0, .ref 131), (1, vi x)] [.ref (C + 6)] s3 _
    refine wr_n (pc2 := 34) (lv2 := [(4, vi z6), (3, vi z3), (2, vi z2), (0, .ref 131), (1, vi x)]) (st2 := [vi z3, .ref (C + 6)]) 1 (fun _ _ => rfl) ?_
    refine wr_call1 (args := [vi z3]) (rest := []) rfl rfl rfl (TK6 hC) (Nat.le_of_ble_eq_true rfl) (cr_mono (k_nnumber (d := 6 * (n + 1) + 2) (C := C) hC (x := z3) s3 hK3 (by omega)) ?_)
    rintro s9 out ⟨z9, rfl, hz9, hp9, e9⟩
    refine ⟨_, rfl, ?_⟩
    rw [e9]
    unfold i32 at hz9
    clear hp9
    show wr (6 * (n + 1) + 3) tb_M60 37 [(4, vi z6), (3, vi z3), (2, vi z2), (0, .ref 131), (1, vi x)] [vi z9] s3 _
    refine wr_n (pc2 := 40) (lv2 := [(5, vi z9), (4, vi z6), (3, vi z3), (2, vi z2), (0, .ref 131), (1, vi x)]) (st2 := [.ref 131]) 2 (fun _ _ => rfl) ?_
    refine wr_get (v := .ref 137) rfl rfl rfl (by decide) (rv_ref (hK3.1 131 0 137 rfl)) fun h10 => ?_
    show wr (6 * (n + 1) + 3) tb_M60 43 [(5, vi z9), (4, vi z6), (3, vi z3), (2, vi z2), (0, .ref 131), (1, vi x)] [.ref 137] s3 _
    refine wr_call1 (args := []) (rest := []) rfl rfl rfl rfl (Nat.le_of_ble_eq_true rfl) (cr_mono (k_step (d := 6 * (n + 1) + 2) s3 hK3) ?_)
    rintro s11 out ⟨hK11, hY11, hc11, rfl⟩
    refine ⟨_, rfl, ?_⟩
    have hX11 : FX s.1 s11.1 := FX_tr hX3 hY11
    have hC11 : s11.2 = s.2 := hc11.trans hC3
    have hq11 : s11.1 131 1 = (C : Int) := (hY11 131 1 (by unfold fx; omega)).trans hq3
    show wr (6 * (n + 1) + 3) tb_M60 46 [(5, vi z9), (4, vi z6), (3, vi z3), (2, vi z2), (0, .ref 131), (1, vi x)] [] s11 _
    refine wr_n (pc2 := 47) (lv2 := [(5, vi z9), (4, vi z6), (3, vi z3), (2, vi z2), (0, .ref 131), (1, vi x)]) (st2 := [.ref 131]) 1 (fun _ _ => rfl) ?_
    refine wr_get (v := .ref 137) rfl rfl rfl (by decide) (rv_ref (hK11.1 131 0 137 rfl)) fun h12 => ?_
    show wr (6 * (n + 1) + 3) tb_M60 50 [(5, vi z9), (4, vi z6), (3, vi z3), (2, vi z2), (0, .ref 131), (1, vi x)] [.ref 137] s11 _
    refine wr_call1 (args := []) (rest := []) rfl rfl rfl rfl (Nat.le_of_ble_eq_true rfl) (cr_mono (k_kind (d := 6 * (n + 1) + 2) s11 hK11) ?_)
    rintro s13 out ⟨z13, rfl, hz13, hp13, e13⟩
    refine ⟨_, rfl, ?_⟩
    rw [e13]
    unfold i32 at hz13
    clear hp13
    show wr (6 * (n + 1) + 3) tb_M60 53 [(5, vi z9), (4, vi z6), (3, vi z3), (2, vi z2), (0, .ref 131), (1, vi x)] [vi z13] s11 _
    refine wr_n (pc2 := 55) (lv2 := [(5, vi z9), (4, vi z6), (3, vi z3), (2, vi z2), (0, .ref 131), (1, vi x)]) (st2 := [vi 91, vi z13]) 1 (fun _ _ => rfl) ?_
    by_cases h14 : z13 ≠ 91
    · refine wr_if2t rfl rfl (by unfold i32; omega) (by unfold i32; omega) h14 ?_
      refine wr_n (pc2 := 110) (lv2 := [(5, vi z9), (4, vi z6), (3, vi z3), (2, vi z2), (0, .ref 131), (1, vi x)]) (st2 := [.ref 131]) 1 (fun _ _ => rfl) ?_
      refine wr_get (v := .ref 137) rfl rfl rfl (by decide) (rv_ref (hK11.1 131 0 137 rfl)) fun h15 => ?_
      show wr (6 * (n + 1) + 3) tb_M60 113 [(5, vi z9), (4, vi z6), (3, vi z3), (2, vi z2), (0, .ref 131), (1, vi x)] [.ref 137] s11 _
      refine wr_call1 (args := []) (rest := []) rfl rfl rfl rfl (Nat.le_of_ble_eq_true rfl) (cr_mono (k_kind (d := 6 * (n + 1) + 2) s11 hK11) ?_)
      rintro s16 out ⟨z16, rfl, hz16, hp16, e16⟩
      refine ⟨_, rfl, ?_⟩
      rw [e16]
      unfold i32 at hz16
      clear hp16
      show wr (6 * (n + 1) + 3) tb_M60 116 [(5, vi z9), (4, vi z6), (3, vi z3), (2, vi z2), (0, .ref 131), (1, vi x)] [vi z16] s11 _
      refine wr_n (pc2 := 118) (lv2 := [(5, vi z9), (4, vi z6), (3, vi z3), (2, vi z2), (0, .ref 131), (1, vi x)]) (st2 := [vi 40, vi z16]) 1 (fun _ _ => rfl) ?_
      by_cases h17 : z16 ≠ 40
      · refine wr_if2t rfl rfl (by unfold i32; omega) (by unfold i32; omega) h17 ?_
        refine wr_n (pc2 := 183) (lv2 := [(5, vi z9), (4, vi z6), (3, vi z3), (2, vi z2), (0, .ref 131), (1, vi x)]) (st2 := [vi z6, .ref 131]) 2 (fun _ _ => rfl) ?_
        by_cases h18 : z6 ≠ 0
        · refine wr_if1t rfl rfl (by unfold i32; omega) h18 ?_
          refine wr_n (pc2 := 192) (lv2 := [(5, vi z9), (4, vi z6), (3, vi z3), (2, vi z2), (0, .ref 131), (1, vi x)]) (st2 := [vi z2, vi 0, .ref 131]) 2 (fun _ _ => rfl) ?_
          refine wr_call1T (args := [vi 0, vi z2]) (rest := []) rfl rfl rfl rfl (Nat.le_of_ble_eq_true rfl) rfl (cr_mono (k_check (d := 6 * (n + 1) + 2) (x := 0) (y := z2) s11 hK11 (by omega) (by omega)) ?_)
          rintro s19 out (⟨e19, hr19, rfl⟩ | ⟨hK19, hY19, rfl, hc19⟩)
          · exact absurd rfl hr19
          · refine .inr ⟨rfl, ?_⟩
            exact ⟨hK19, (FX_tr hX11 hY19), .inr ⟨rfl, TH hC11 hc19⟩⟩
        · refine wr_if1f rfl rfl (by unfold i32; omega) h18 ?_
          refine wr_n (pc2 := 192) (lv2 := [(5, vi z9), (4, vi z6), (3, vi z3), (2, vi z2), (0, .ref 131), (1, vi x)]) (st2 := [vi z2, vi 1, .ref 131]) 3 (fun _ _ => rfl) ?_
          refine wr_call1T (args := [vi 1, vi z2]) (rest := []) rfl rfl rfl rfl (Nat.le_of_ble_eq_true rfl) rfl (cr_mono (k_check (d := 6 * (n + 1) + 2) (x := 1) (y := z2) s11 hK11 (by omega) (by omega)) ?_)
          rintro s20 out (⟨e20, hr20, rfl⟩ | ⟨hK20, hY20, rfl, hc20⟩)
          · refine .inl ⟨_, rfl, ?_⟩
            rw [e20]
            show wr (6 * (n + 1) + 3) tb_M60 195 [(5, vi z9), (4, vi z6), (3, vi z3), (2, vi z2), (0, .ref 131), (1, vi x)] [] s11 _
            refine wr_n (pc2 := 197) (lv2 := [(5, vi z9), (4, vi z6), (3, vi z3), (2, vi z2), (0, .ref 131), (1, vi x)]) (st2 := [.ref 131, .ref 131]) 2 (fun _ _ => rfl) ?_
            refine wr_get (v := vl (s11.1 131 7)) rfl rfl rfl (by decide) rfl fun h21 => ?_
            show wr (6 * (n + 1) + 3) tb_M60 200 [(5, vi z9), (4, vi z6), (3, vi z3), (2, vi z2), (0, .ref 131), (1, vi x)] [vl (s11.1 131 7), .ref 131] s11 _
            refine wr_n (pc2 := 203) (lv2 := [(5, vi z9), (4, vi z6), (3, vi z3), (2, vi z2), (0, .ref 131), (1, vi x)]) (st2 := [vi z9, vl 1, vl (s11.1 131 7), .ref 131]) 2 (fun _ _ => rfl) ?_
            refine wr_lshl (a := 1) (b := z9) rfl fun z22 h23 _ => ?_
            show wr (6 * (n + 1) + 3) tb_M60 204 [(5, vi z9), (4, vi z6), (3, vi z3), (2, vi z2), (0, .ref 131), (1, vi x)] [vl z22, vl (s11.1 131 7), .ref 131] s11 _
            refine wr_anyl (a := s11.1 131 7) (b := z22) rfl rfl fun z24 h25 _ => ?_
            show wr (6 * (n + 1) + 3) tb_M60 205 [(5, vi z9), (4, vi z6), (3, vi z3), (2, vi z2), (0, .ref 131), (1, vi x)] [vl z24, .ref 131] s11 _
            refine wr_put (z := z24) rfl rfl rfl rfl (by decide) rfl (by decide) rfl h25 (fit_l _) ?_
            show wr (6 * (n + 1) + 3) tb_M60 208 [(5, vi z9), (4, vi z6), (3, vi z3), (2, vi z2), (0, .ref 131), (1, vi x)] [] (up2 s11.1 131 7 z24, s11.2) _
            have hK26 : KI (up2 s11.1 131 7 z24) := (KI_up hK11 rfl (kb_no rfl))
            refine wr_n (pc2 := 209) (lv2 := [(5, vi z9), (4, vi z6), (3, vi z3), (2, vi z2), (0, .ref 131), (1, vi x)]) (st2 := [.ref 131]) 1 (fun _ _ => rfl) ?_
            refine wr_get (v := .ref C) rfl rfl rfl (by decide) (rv_ref (show (up2 s11.1 131 7 z24) 131 1 = ((C : Nat) : Int) from (show (up2 s11.1 131 7 z24) 131 1 = ((C : Nat) : Int) from ((if_neg (by omega)).trans hq11)))) fun h27 => ?_
            show wr (6 * (n + 1) + 3) tb_M60 212 [(5, vi z9), (4, vi z6), (3, vi z3), (2, vi z2), (0, .ref 131), (1, vi x)] [.ref C] (up2 s11.1 131 7 z24, s11.2) _
            refine wr_n (pc2 := 219) (lv2 := [(5, vi z9), (4, vi z6), (3, vi z3), (2, vi z2), (0, .ref 131), (1, vi x)]) (st2 := [vi ((-1)), vi ((-1)), vi z9, vi 400, .ref C]) 4 (fun _ _ => rfl) ?_
            refine wr_call1 (args := [vi 400, vi z9, vi ((-1)), vi ((-1))]) (rest := []) rfl rfl rfl (TK0 hC) (Nat.le_of_ble_eq_true rfl) (cr_mono (k_cadd (d := 6 * (n + 1) + 2) (C := C) hC (x := 400) (y := z9) (u := (-1)) (v := (-1)) (up2 s11.1 131 7 z24, s11.2) hK26 (by omega) (by omega) (by omega) (by omega)) ?_)
            rintro s28 out ⟨hK28, hY28, hc28, ha28, z28, rfl, hz28, hp28⟩
            refine ⟨_, rfl, ?_⟩
            have hX28 : FX s.1 s28.1 := FX_tr (FX_up hX11 (by unfold fx; omega)) hY28
            have hC28 : s28.2 = s.2 := hc28.trans hC11
            have hq28 : s28.1 131 1 = (C : Int) := (hY28 131 1 (by unfold fx; omega)).trans (show (up2 s11.1 131 7 z24) 131 1 = ((C : Nat) : Int) from ((if_neg (by omega)).trans hq11))
            unfold i32 at hz28
            clear hp28
            show wr (6 * (n + 1) + 3) tb_M60 222 [(5, vi z9), (4, vi z6), (3, vi z3), (2, vi z2), (0, .ref 131), (1, vi x)] [vi z28] s28 _
            refine wr_reti rfl rfl ?_
            exact ⟨hK28, hX28, .inl ⟨z28, hC28, rfl, by unfold i32; omega, trivial⟩⟩
          · refine .inr ⟨rfl, ?_⟩
            exact ⟨hK20, (FX_tr hX11 hY20), .inr ⟨rfl, TH hC11 hc20⟩⟩
      · refine wr_if2f rfl rfl (by unfold i32; omega) (by unfold i32; omega) h17 ?_
        refine wr_n (pc2 := 126) (lv2 := [(5, vi z9), (4, vi z6), (3, vi z3), (2, vi z2), (0, .ref 131), (1, vi x)]) (st2 := [vi 6, vi z6, .ref 131]) 3 (fun _ _ => rfl) ?_
        by_cases h29 : z6 ≠ 6
        · refine wr_if2t rfl rfl (by unfold i32; omega) (by unfold i32; omega) h29 ?_
          refine wr_n (pc2 := 143) (lv2 := [(5, vi z9), (4, vi z6), (3, vi z3), (2, vi z2), (0, .ref 131), (1, vi x)]) (st2 := [vi 0, .ref 131]) 1 (fun _ _ => rfl) ?_
          exact k_namedOperand_143 hC hSu hCa z9 z6 z3 z2 x 0 s11 hK11 hq11 hX11 hC11 (by omega) (by omega) (by omega) (by omega) (by omega) (by omega) (by omega) 
        · refine wr_if2f rfl rfl (by unfold i32; omega) (by unfold i32; omega) h29 ?_
          refine wr_n (pc2 := 132) (lv2 := [(5, vi z9), (4, vi z6), (3, vi z3), (2, vi z2), (0, .ref 131), (1, vi x)]) (st2 := [.ref 131, vi z9, .ref 131]) 2 (fun _ _ => rfl) ?_
          refine wr_get (v := vi (s11.1 131 13)) rfl rfl rfl (by decide) rfl fun h30 => ?_
          have h30 : -2147483648 ≤ s11.1 131 13 ∧ s11.1 131 13 ≤ 2147483647 := h30
          show wr (6 * (n + 1) + 3) tb_M60 135 [(5, vi z9), (4, vi z6), (3, vi z3), (2, vi z2), (0, .ref 131), (1, vi x)] [vi (s11.1 131 13), vi z9, .ref 131] s11 _
          by_cases h31 : z9 = s11.1 131 13
          · refine wr_if2t rfl rfl (by unfold i32; omega) (by unfold i32; omega) h31 ?_
            refine wr_n (pc2 := 143) (lv2 := [(5, vi z9), (4, vi z6), (3, vi z3), (2, vi z2), (0, .ref 131), (1, vi x)]) (st2 := [vi 0, .ref 131]) 1 (fun _ _ => rfl) ?_
            exact k_namedOperand_143 hC hSu hCa z9 z6 z3 z2 x 0 s11 hK11 hq11 hX11 hC11 (by omega) (by omega) (by omega) (by omega) (by omega) (by omega) (by omega) 
          · refine wr_if2f rfl rfl (by unfold i32; omega) (by unfold i32; omega) h31 ?_
            refine wr_n (pc2 := 143) (lv2 := [(5, vi z9), (4, vi z6), (3, vi z3), (2, vi z2), (0, .ref 131), (1, vi x)]) (st2 := [vi 1, .ref 131]) 2 (fun _ _ => rfl) ?_
            exact k_namedOperand_143 hC hSu hCa z9 z6 z3 z2 x 1 s11 hK11 hq11 hX11 hC11 (by omega) (by omega) (by omega) (by omega) (by omega) (by omega) (by omega) 
    · refine wr_if2f rfl rfl (by unfold i32; omega) (by unfold i32; omega) h14 ?_
      refine wr_n (pc2 := 62) (lv2 := [(5, vi z9), (4, vi z6), (3, vi z3), (2, vi z2), (0, .ref 131), (1, vi x)]) (st2 := [vi 1, vi z6, .ref 131]) 3 (fun _ _ => rfl) ?_
      by_cases h32 : z6 ≠ 1
      · refine wr_if2t rfl rfl (by unfold i32; omega) (by unfold i32; omega) h32 ?_
        refine wr_n (pc2 := 71) (lv2 := [(5, vi z9), (4, vi z6), (3, vi z3), (2, vi z2), (0, .ref 131), (1, vi x)]) (st2 := [vi z2, vi 0, .ref 131]) 2 (fun _ _ => rfl) ?_
        refine wr_call1T (args := [vi 0, vi z2]) (rest := []) rfl rfl rfl rfl (Nat.le_of_ble_eq_true rfl) rfl (cr_mono (k_check (d := 6 * (n + 1) + 2) (x := 0) (y := z2) s11 hK11 (by omega) (by omega)) ?_)
        rintro s33 out (⟨e33, hr33, rfl⟩ | ⟨hK33, hY33, rfl, hc33⟩)
        · exact absurd rfl hr33
        · refine .inr ⟨rfl, ?_⟩
          exact ⟨hK33, (FX_tr hX11 hY33), .inr ⟨rfl, TH hC11 hc33⟩⟩
      · refine wr_if2f rfl rfl (by unfold i32; omega) (by unfold i32; omega) h32 ?_
        refine wr_n (pc2 := 71) (lv2 := [(5, vi z9), (4, vi z6), (3, vi z3), (2, vi z2), (0, .ref 131), (1, vi x)]) (st2 := [vi z2, vi 1, .ref 131]) 3 (fun _ _ => rfl) ?_
        refine wr_call1T (args := [vi 1, vi z2]) (rest := []) rfl rfl rfl rfl (Nat.le_of_ble_eq_true rfl) rfl (cr_mono (k_check (d := 6 * (n + 1) + 2) (x := 1) (y := z2) s11 hK11 (by omega) (by omega)) ?_)
        rintro s34 out (⟨e34, hr34, rfl⟩ | ⟨hK34, hY34, rfl, hc34⟩)
        · refine .inl ⟨_, rfl, ?_⟩
          rw [e34]
          show wr (6 * (n + 1) + 3) tb_M60 74 [(5, vi z9), (4, vi z6), (3, vi z3), (2, vi z2), (0, .ref 131), (1, vi x)] [] s11 _
          refine wr_n (pc2 := 76) (lv2 := [(5, vi z9), (4, vi z6), (3, vi z3), (2, vi z2), (0, .ref 131), (1, vi x)]) (st2 := [.ref 131, .ref 131]) 2 (fun _ _ => rfl) ?_
          refine wr_get (v := vl (s11.1 131 7)) rfl rfl rfl (by decide) rfl fun h35 => ?_
          show wr (6 * (n + 1) + 3) tb_M60 79 [(5, vi z9), (4, vi z6), (3, vi z3), (2, vi z2), (0, .ref 131), (1, vi x)] [vl (s11.1 131 7), .ref 131] s11 _
          refine wr_n (pc2 := 84) (lv2 := [(5, vi z9), (4, vi z6), (3, vi z3), (2, vi z2), (0, .ref 131), (1, vi x)]) (st2 := [vi z9, vi 24, vl 1, vl (s11.1 131 7), .ref 131]) 3 (fun _ _ => rfl) ?_
          refine wr_any2 rfl rfl fun z36 h37 => ?_
          unfold i32 at h37
          show wr (6 * (n + 1) + 3) tb_M60 85 [(5, vi z9), (4, vi z6), (3, vi z3), (2, vi z2), (0, .ref 131), (1, vi x)] [vi z36, vl 1, vl (s11.1 131 7), .ref 131] s11 _
          refine wr_lshl (a := 1) (b := z36) rfl fun z38 h39 _ => ?_
          show wr (6 * (n + 1) + 3) tb_M60 86 [(5, vi z9), (4, vi z6), (3, vi z3), (2, vi z2), (0, .ref 131), (1, vi x)] [vl z38, vl (s11.1 131 7), .ref 131] s11 _
          refine wr_anyl (a := s11.1 131 7) (b := z38) rfl rfl fun z40 h41 _ => ?_
          show wr (6 * (n + 1) + 3) tb_M60 87 [(5, vi z9), (4, vi z6), (3, vi z3), (2, vi z2), (0, .ref 131), (1, vi x)] [vl z40, .ref 131] s11 _
          refine wr_put (z := z40) rfl rfl rfl rfl (by decide) rfl (by decide) rfl h41 (fit_l _) ?_
          show wr (6 * (n + 1) + 3) tb_M60 90 [(5, vi z9), (4, vi z6), (3, vi z3), (2, vi z2), (0, .ref 131), (1, vi x)] [] (up2 s11.1 131 7 z40, s11.2) _
          have hK42 : KI (up2 s11.1 131 7 z40) := (KI_up hK11 rfl (kb_no rfl))
          refine wr_n (pc2 := 91) (lv2 := [(5, vi z9), (4, vi z6), (3, vi z3), (2, vi z2), (0, .ref 131), (1, vi x)]) (st2 := [.ref 131]) 1 (fun _ _ => rfl) ?_
          refine wr_get (v := .ref C) rfl rfl rfl (by decide) (rv_ref (show (up2 s11.1 131 7 z40) 131 1 = ((C : Nat) : Int) from (show (up2 s11.1 131 7 z40) 131 1 = ((C : Nat) : Int) from ((if_neg (by omega)).trans hq11)))) fun h43 => ?_
          show wr (6 * (n + 1) + 3) tb_M60 94 [(5, vi z9), (4, vi z6), (3, vi z3), (2, vi z2), (0, .ref 131), (1, vi x)] [.ref C] (up2 s11.1 131 7 z40, s11.2) _
          refine wr_n (pc2 := 101) (lv2 := [(5, vi z9), (4, vi z6), (3, vi z3), (2, vi z2), (0, .ref 131), (1, vi x)]) (st2 := [vi x, .ref 131, vi z9, vi 401, .ref C]) 4 (fun _ _ => rfl) ?_
          refine wr_call1T (args := [vi x]) (rest := [vi z9, vi 401, .ref C]) rfl rfl rfl rfl (Nat.le_of_ble_eq_true rfl) rfl (cr_mono (hSu C (up2 s11.1 131 7 z40, s11.2) x hC hK42 (show (up2 s11.1 131 7 z40) 131 1 = ((C : Nat) : Int) from ((if_neg (by omega)).trans hq11)) (by omega)) ?_)
          rintro s44 out ⟨hK44, hY44, ⟨z44, hc44, rfl, hz44, hp44⟩ | ⟨rfl, hc44⟩⟩
          · refine .inl ⟨_, rfl, ?_⟩
            have hX44 : FX s.1 s44.1 := FX_tr (FX_up hX11 (by unfold fx; omega)) hY44
            have hC44 : s44.2 = s.2 := hc44.trans hC11
            have hq44 : s44.1 131 1 = (C : Int) := (hY44 131 1 (by unfold fx; omega)).trans (show (up2 s11.1 131 7 z40) 131 1 = ((C : Nat) : Int) from ((if_neg (by omega)).trans hq11))
            unfold i32 at hz44
            clear hp44
            show wr (6 * (n + 1) + 3) tb_M60 104 [(5, vi z9), (4, vi z6), (3, vi z3), (2, vi z2), (0, .ref 131), (1, vi x)] [vi z44, vi z9, vi 401, .ref C] s44 _
            refine wr_n (pc2 := 105) (lv2 := [(5, vi z9), (4, vi z6), (3, vi z3), (2, vi z2), (0, .ref 131), (1, vi x)]) (st2 := [vi ((-1)), vi z44, vi z9, vi 401, .ref C]) 1 (fun _ _ => rfl) ?_
            refine wr_call1 (args := [vi 401, vi z9, vi z44, vi ((-1))]) (rest := []) rfl rfl rfl (TK0 hC) (Nat.le_of_ble_eq_true rfl) (cr_mono (k_cadd (d := 6 * (n + 1) + 2) (C := C) hC (x := 401) (y := z9) (u := z44) (v := (-1)) s44 hK44 (by omega) (by omega) (by omega) (by omega)) ?_)
            rintro s45 out ⟨hK45, hY45, hc45, ha45, z45, rfl, hz45, hp45⟩
            refine ⟨_, rfl, ?_⟩
            have hX45 : FX s.1 s45.1 := FX_tr hX44 hY45
            have hC45 : s45.2 = s.2 := hc45.trans hC44
            have hq45 : s45.1 131 1 = (C : Int) := (hY45 131 1 (by unfold fx; omega)).trans hq44
            unfold i32 at hz45
            clear hp45
            show wr (6 * (n + 1) + 3) tb_M60 108 [(5, vi z9), (4, vi z6), (3, vi z3), (2, vi z2), (0, .ref 131), (1, vi x)] [vi z45] s45 _
            refine wr_reti rfl rfl ?_
            exact ⟨hK45, hX45, .inl ⟨z45, hC45, rfl, by unfold i32; omega, trivial⟩⟩
          · refine .inr ⟨rfl, ?_⟩
            exact ⟨hK44, (FX_tr (FX_up hX11 (by unfold fx; omega)) hY44), .inr ⟨rfl, TH hC11 hc44⟩⟩
        · refine .inr ⟨rfl, ?_⟩
          exact ⟨hK34, (FX_tr hX11 hY34), .inr ⟨rfl, TH hC11 hc34⟩⟩
  · refine .inr ⟨rfl, ?_⟩
    exact ⟨hK3, (FX_tr FX_rf hY3), .inr ⟨rfl, TH rfl hc3⟩⟩
set_option maxHeartbeats 20000000 in
set_option maxRecDepth 100000 in
theorem k_operand {n : Nat} (hOp : COp n) (hEx : CEx n) (hNo : CNo (n + 1)) : COp (n + 1) := by
  intro C s x hC hK hq hx
  refine cr_of (M := tb_M58) rfl (Nat.le_of_ble_eq_true rfl) ?_
  show wr (6 * (n + 1) + 4) tb_M58 0 [(0, .ref 131), (1, vi x)] [] s _
  refine wr_n (pc2 := 1) (lv2 := [(0, .ref 131), (1, vi x)]) (st2 := [.ref 131]) 1 (fun _ _ => rfl) ?_
  refine wr_get (v := .ref 137) rfl rfl rfl (by decide) (rv_ref (hK.1 131 0 137 rfl)) fun h1 => ?_
  show wr (6 * (n + 1) + 4) tb_M58 4 [(0, .ref 131), (1, vi x)] [.ref 137] s _
  refine wr_call1 (args := []) (rest := []) rfl rfl rfl rfl (Nat.le_of_ble_eq_true rfl) (cr_mono (k_kind (d := 6 * (n + 1) + 3) s hK) ?_)
  rintro s2 out ⟨z2, rfl, hz2, hp2, e2⟩
  refine ⟨_, rfl, ?_⟩
  rw [e2]
  unfold i32 at hz2
  clear hp2
  show wr (6 * (n + 1) + 4) tb_M58 7 [(0, .ref 131), (1, vi x)] [vi z2] s _
  refine wr_n (pc2 := 9) (lv2 := [(2, vi z2), (0, .ref 131), (1, vi x)]) (st2 := [vi z2]) 2 (fun _ _ => rfl) ?_
  refine wr_lsw rfl (by decide) fun off hoff => ?_
  have hoff2 : off = 51 ∨ off = 100 ∨ off = 145 ∨ off = 163 := by simp at hoff; omega
  clear hoff
  rcases hoff2 with rfl | rfl | rfl | rfl
  · refine ⟨60, rfl, ?_⟩
    refine wr_n (pc2 := 64) (lv2 := [(2, vi z2), (0, .ref 131), (1, vi x)]) (st2 := [vi 20, vi x, .ref 131]) 3 (fun _ _ => rfl) ?_
    by_cases h3 : 20 ≤ x
    · refine wr_if2t rfl rfl (by unfold i32; omega) (by unfold i32; omega) h3 ?_
      refine wr_n (pc2 := 73) (lv2 := [(2, vi z2), (0, .ref 131), (1, vi x)]) (st2 := [.ref 131, vi 0, .ref 131]) 2 (fun _ _ => rfl) ?_
      refine wr_get (v := .ref 137) rfl rfl rfl (by decide) (rv_ref (hK.1 131 0 137 rfl)) fun h4 => ?_
      show wr (6 * (n + 1) + 4) tb_M58 76 [(2, vi z2), (0, .ref 131), (1, vi x)] [.ref 137, vi 0, .ref 131] s _
      refine wr_call1 (args := []) (rest := [vi 0, .ref 131]) rfl rfl rfl rfl (Nat.le_of_ble_eq_true rfl) (cr_mono (k_place (d := 6 * (n + 1) + 3) s hK) ?_)
      rintro s5 out ⟨z5, rfl, hz5, hp5, e5⟩
      refine ⟨_, rfl, ?_⟩
      rw [e5]
      unfold i32 at hz5
      clear hp5
      show wr (6 * (n + 1) + 4) tb_M58 79 [(2, vi z2), (0, .ref 131), (1, vi x)] [vi z5, vi 0, .ref 131] s _
      refine wr_call1T (args := [vi 0, vi z5]) (rest := []) rfl rfl rfl rfl (Nat.le_of_ble_eq_true rfl) rfl (cr_mono (k_check (d := 6 * (n + 1) + 3) (x := 0) (y := z5) s hK (by omega) (by omega)) ?_)
      rintro s6 out (⟨e6, hr6, rfl⟩ | ⟨hK6, hY6, rfl, hc6⟩)
      · exact absurd rfl hr6
      · refine .inr ⟨rfl, ?_⟩
        exact ⟨hK6, (FX_tr FX_rf hY6), .inr ⟨rfl, TH rfl hc6⟩⟩
    · refine wr_if2f rfl rfl (by unfold i32; omega) (by unfold i32; omega) h3 ?_
      refine wr_n (pc2 := 73) (lv2 := [(2, vi z2), (0, .ref 131), (1, vi x)]) (st2 := [.ref 131, vi 1, .ref 131]) 3 (fun _ _ => rfl) ?_
      refine wr_get (v := .ref 137) rfl rfl rfl (by decide) (rv_ref (hK.1 131 0 137 rfl)) fun h7 => ?_
      show wr (6 * (n + 1) + 4) tb_M58 76 [(2, vi z2), (0, .ref 131), (1, vi x)] [.ref 137, vi 1, .ref 131] s _
      refine wr_call1 (args := []) (rest := [vi 1, .ref 131]) rfl rfl rfl rfl (Nat.le_of_ble_eq_true rfl) (cr_mono (k_place (d := 6 * (n + 1) + 3) s hK) ?_)
      rintro s8 out ⟨z8, rfl, hz8, hp8, e8⟩
      refine ⟨_, rfl, ?_⟩
      rw [e8]
      unfold i32 at hz8
      clear hp8
      show wr (6 * (n + 1) + 4) tb_M58 79 [(2, vi z2), (0, .ref 131), (1, vi x)] [vi z8, vi 1, .ref 131] s _
      refine wr_call1T (args := [vi 1, vi z8]) (rest := []) rfl rfl rfl rfl (Nat.le_of_ble_eq_true rfl) rfl (cr_mono (k_check (d := 6 * (n + 1) + 3) (x := 1) (y := z8) s hK (by omega) (by omega)) ?_)
      rintro s9 out (⟨e9, hr9, rfl⟩ | ⟨hK9, hY9, rfl, hc9⟩)
      · refine .inl ⟨_, rfl, ?_⟩
        rw [e9]
        show wr (6 * (n + 1) + 4) tb_M58 82 [(2, vi z2), (0, .ref 131), (1, vi x)] [] s _
        refine wr_n (pc2 := 83) (lv2 := [(2, vi z2), (0, .ref 131), (1, vi x)]) (st2 := [.ref 131]) 1 (fun _ _ => rfl) ?_
        refine wr_get (v := .ref 137) rfl rfl rfl (by decide) (rv_ref (hK.1 131 0 137 rfl)) fun h10 => ?_
        show wr (6 * (n + 1) + 4) tb_M58 86 [(2, vi z2), (0, .ref 131), (1, vi x)] [.ref 137] s _
        refine wr_call1 (args := []) (rest := []) rfl rfl rfl rfl (Nat.le_of_ble_eq_true rfl) (cr_mono (k_step (d := 6 * (n + 1) + 3) s hK) ?_)
        rintro s11 out ⟨hK11, hY11, hc11, rfl⟩
        refine ⟨_, rfl, ?_⟩
        have hX11 : FX s.1 s11.1 := FX_tr FX_rf hY11
        have hC11 : s11.2 = s.2 := hc11.trans rfl
        have hq11 : s11.1 131 1 = (C : Int) := (hY11 131 1 (by unfold fx; omega)).trans hq
        show wr (6 * (n + 1) + 4) tb_M58 89 [(2, vi z2), (0, .ref 131), (1, vi x)] [] s11 _
        refine wr_n (pc2 := 90) (lv2 := [(2, vi z2), (0, .ref 131), (1, vi x)]) (st2 := [.ref 131]) 1 (fun _ _ => rfl) ?_
        refine wr_get (v := .ref C) rfl rfl rfl (by decide) (rv_ref (show (s11.1) 131 1 = ((C : Nat) : Int) from hq11)) fun h12 => ?_
        show wr (6 * (n + 1) + 4) tb_M58 93 [(2, vi z2), (0, .ref 131), (1, vi x)] [.ref C] s11 _
        refine wr_n (pc2 := 100) (lv2 := [(2, vi z2), (0, .ref 131), (1, vi x)]) (st2 := [vi 1, vi x, .ref 131, vi z2, vi 402, .ref C]) 5 (fun _ _ => rfl) ?_
        refine wr_add (a := x) (b := 1) rfl ?_
        show wr (6 * (n + 1) + 4) tb_M58 101 [(2, vi z2), (0, .ref 131), (1, vi x)] [vi (x + 1), .ref 131, vi z2, vi 402, .ref C] s11 _
        refine wr_call1T (args := [vi (x + 1)]) (rest := [vi z2, vi 402, .ref C]) rfl rfl rfl rfl (Nat.le_of_ble_eq_true rfl) rfl (cr_mono (cr_up (by omega) (hOp C s11 (x + 1) hC hK11 hq11 (by omega))) ?_)
        rintro s13 out ⟨hK13, hY13, ⟨z13, hc13, rfl, hz13, hp13⟩ | ⟨rfl, hc13⟩⟩
        · refine .inl ⟨_, rfl, ?_⟩
          have hX13 : FX s.1 s13.1 := FX_tr hX11 hY13
          have hC13 : s13.2 = s.2 := hc13.trans hC11
          have hq13 : s13.1 131 1 = (C : Int) := (hY13 131 1 (by unfold fx; omega)).trans hq11
          unfold i32 at hz13
          clear hp13
          show wr (6 * (n + 1) + 4) tb_M58 104 [(2, vi z2), (0, .ref 131), (1, vi x)] [vi z13, vi z2, vi 402, .ref C] s13 _
          refine wr_n (pc2 := 105) (lv2 := [(2, vi z2), (0, .ref 131), (1, vi x)]) (st2 := [vi ((-1)), vi z13, vi z2, vi 402, .ref C]) 1 (fun _ _ => rfl) ?_
          refine wr_call1 (args := [vi 402, vi z2, vi z13, vi ((-1))]) (rest := []) rfl rfl rfl (TK0 hC) (Nat.le_of_ble_eq_true rfl) (cr_mono (k_cadd (d := 6 * (n + 1) + 3) (C := C) hC (x := 402) (y := z2) (u := z13) (v := (-1)) s13 hK13 (by omega) (by omega) (by omega) (by omega)) ?_)
          rintro s14 out ⟨hK14, hY14, hc14, ha14, z14, rfl, hz14, hp14⟩
          refine ⟨_, rfl, ?_⟩
          have hX14 : FX s.1 s14.1 := FX_tr hX13 hY14
          have hC14 : s14.2 = s.2 := hc14.trans hC13
          have hq14 : s14.1 131 1 = (C : Int) := (hY14 131 1 (by unfold fx; omega)).trans hq13
          unfold i32 at hz14
          clear hp14
          show wr (6 * (n + 1) + 4) tb_M58 108 [(2, vi z2), (0, .ref 131), (1, vi x)] [vi z14] s14 _
          refine wr_reti rfl rfl ?_
          exact ⟨hK14, hX14, .inl ⟨z14, hC14, rfl, by unfold i32; omega, trivial⟩⟩
        · refine .inr ⟨rfl, ?_⟩
          exact ⟨hK13, (FX_tr hX11 hY13), .inr ⟨rfl, TH hC11 hc13⟩⟩
      · refine .inr ⟨rfl, ?_⟩
        exact ⟨hK9, (FX_tr FX_rf hY9), .inr ⟨rfl, TH rfl hc9⟩⟩
  · refine ⟨109, rfl, ?_⟩
    refine wr_n (pc2 := 113) (lv2 := [(2, vi z2), (0, .ref 131), (1, vi x)]) (st2 := [vi 20, vi x, .ref 131]) 3 (fun _ _ => rfl) ?_
    by_cases h15 : 20 ≤ x
    · refine wr_if2t rfl rfl (by unfold i32; omega) (by unfold i32; omega) h15 ?_
      refine wr_n (pc2 := 122) (lv2 := [(2, vi z2), (0, .ref 131), (1, vi x)]) (st2 := [.ref 131, vi 0, .ref 131]) 2 (fun _ _ => rfl) ?_
      refine wr_get (v := .ref 137) rfl rfl rfl (by decide) (rv_ref (hK.1 131 0 137 rfl)) fun h16 => ?_
      show wr (6 * (n + 1) + 4) tb_M58 125 [(2, vi z2), (0, .ref 131), (1, vi x)] [.ref 137, vi 0, .ref 131] s _
      refine wr_call1 (args := []) (rest := [vi 0, .ref 131]) rfl rfl rfl rfl (Nat.le_of_ble_eq_true rfl) (cr_mono (k_place (d := 6 * (n + 1) + 3) s hK) ?_)
      rintro s17 out ⟨z17, rfl, hz17, hp17, e17⟩
      refine ⟨_, rfl, ?_⟩
      rw [e17]
      unfold i32 at hz17
      clear hp17
      show wr (6 * (n + 1) + 4) tb_M58 128 [(2, vi z2), (0, .ref 131), (1, vi x)] [vi z17, vi 0, .ref 131] s _
      refine wr_call1T (args := [vi 0, vi z17]) (rest := []) rfl rfl rfl rfl (Nat.le_of_ble_eq_true rfl) rfl (cr_mono (k_check (d := 6 * (n + 1) + 3) (x := 0) (y := z17) s hK (by omega) (by omega)) ?_)
      rintro s18 out (⟨e18, hr18, rfl⟩ | ⟨hK18, hY18, rfl, hc18⟩)
      · exact absurd rfl hr18
      · refine .inr ⟨rfl, ?_⟩
        exact ⟨hK18, (FX_tr FX_rf hY18), .inr ⟨rfl, TH rfl hc18⟩⟩
    · refine wr_if2f rfl rfl (by unfold i32; omega) (by unfold i32; omega) h15 ?_
      refine wr_n (pc2 := 122) (lv2 := [(2, vi z2), (0, .ref 131), (1, vi x)]) (st2 := [.ref 131, vi 1, .ref 131]) 3 (fun _ _ => rfl) ?_
      refine wr_get (v := .ref 137) rfl rfl rfl (by decide) (rv_ref (hK.1 131 0 137 rfl)) fun h19 => ?_
      show wr (6 * (n + 1) + 4) tb_M58 125 [(2, vi z2), (0, .ref 131), (1, vi x)] [.ref 137, vi 1, .ref 131] s _
      refine wr_call1 (args := []) (rest := [vi 1, .ref 131]) rfl rfl rfl rfl (Nat.le_of_ble_eq_true rfl) (cr_mono (k_place (d := 6 * (n + 1) + 3) s hK) ?_)
      rintro s20 out ⟨z20, rfl, hz20, hp20, e20⟩
      refine ⟨_, rfl, ?_⟩
      rw [e20]
      unfold i32 at hz20
      clear hp20
      show wr (6 * (n + 1) + 4) tb_M58 128 [(2, vi z2), (0, .ref 131), (1, vi x)] [vi z20, vi 1, .ref 131] s _
      refine wr_call1T (args := [vi 1, vi z20]) (rest := []) rfl rfl rfl rfl (Nat.le_of_ble_eq_true rfl) rfl (cr_mono (k_check (d := 6 * (n + 1) + 3) (x := 1) (y := z20) s hK (by omega) (by omega)) ?_)
      rintro s21 out (⟨e21, hr21, rfl⟩ | ⟨hK21, hY21, rfl, hc21⟩)
      · refine .inl ⟨_, rfl, ?_⟩
        rw [e21]
        show wr (6 * (n + 1) + 4) tb_M58 131 [(2, vi z2), (0, .ref 131), (1, vi x)] [] s _
        refine wr_n (pc2 := 132) (lv2 := [(2, vi z2), (0, .ref 131), (1, vi x)]) (st2 := [.ref 131]) 1 (fun _ _ => rfl) ?_
        refine wr_get (v := .ref 137) rfl rfl rfl (by decide) (rv_ref (hK.1 131 0 137 rfl)) fun h22 => ?_
        show wr (6 * (n + 1) + 4) tb_M58 135 [(2, vi z2), (0, .ref 131), (1, vi x)] [.ref 137] s _
        refine wr_call1 (args := []) (rest := []) rfl rfl rfl rfl (Nat.le_of_ble_eq_true rfl) (cr_mono (k_step (d := 6 * (n + 1) + 3) s hK) ?_)
        rintro s23 out ⟨hK23, hY23, hc23, rfl⟩
        refine ⟨_, rfl, ?_⟩
        have hX23 : FX s.1 s23.1 := FX_tr FX_rf hY23
        have hC23 : s23.2 = s.2 := hc23.trans rfl
        have hq23 : s23.1 131 1 = (C : Int) := (hY23 131 1 (by unfold fx; omega)).trans hq
        show wr (6 * (n + 1) + 4) tb_M58 138 [(2, vi z2), (0, .ref 131), (1, vi x)] [] s23 _
        refine wr_n (pc2 := 141) (lv2 := [(2, vi z2), (0, .ref 131), (1, vi x)]) (st2 := [vi 1, vi x, .ref 131]) 3 (fun _ _ => rfl) ?_
        refine wr_add (a := x) (b := 1) rfl ?_
        show wr (6 * (n + 1) + 4) tb_M58 142 [(2, vi z2), (0, .ref 131), (1, vi x)] [vi (x + 1), .ref 131] s23 _
        refine wr_call1T (args := [vi (x + 1)]) (rest := []) rfl rfl rfl rfl (Nat.le_of_ble_eq_true rfl) rfl (cr_mono (cr_up (by omega) (hEx C s23 (x + 1) hC hK23 hq23 (by omega))) ?_)
        rintro s24 out ⟨hK24, hY24, ⟨z24, hc24, rfl, hz24, hp24⟩ | ⟨rfl, hc24⟩⟩
        · refine .inl ⟨_, rfl, ?_⟩
          have hX24 : FX s.1 s24.1 := FX_tr hX23 hY24
          have hC24 : s24.2 = s.2 := hc24.trans hC23
          have hq24 : s24.1 131 1 = (C : Int) := (hY24 131 1 (by unfold fx; omega)).trans hq23
          unfold i32 at hz24
          clear hp24
          show wr (6 * (n + 1) + 4) tb_M58 145 [(2, vi z2), (0, .ref 131), (1, vi x)] [vi z24] s24 _
          refine wr_n (pc2 := 149) (lv2 := [(3, vi z24), (2, vi z2), (0, .ref 131), (1, vi x)]) (st2 := [vi 41, .ref 131]) 3 (fun _ _ => rfl) ?_
          refine wr_call1T (args := [vi 41]) (rest := []) rfl rfl rfl rfl (Nat.le_of_ble_eq_true rfl) rfl (cr_mono (k_expect (d := 6 * (n + 1) + 2) (x := 41) s24 hK24 (by omega)) ?_)
          rintro s25 out ⟨hK25, hY25, ⟨hc25, rfl⟩ | ⟨rfl, hc25⟩⟩
          · refine .inl ⟨_, rfl, ?_⟩
            have hX25 : FX s.1 s25.1 := FX_tr hX24 hY25
            have hC25 : s25.2 = s.2 := hc25.trans hC24
            have hq25 : s25.1 131 1 = (C : Int) := (hY25 131 1 (by unfold fx; omega)).trans hq24
            show wr (6 * (n + 1) + 4) tb_M58 152 [(3, vi z24), (2, vi z2), (0, .ref 131), (1, vi x)] [] s25 _
            refine wr_n (pc2 := 153) (lv2 := [(3, vi z24), (2, vi z2), (0, .ref 131), (1, vi x)]) (st2 := [vi z24]) 1 (fun _ _ => rfl) ?_
            refine wr_reti rfl rfl ?_
            exact ⟨hK25, hX25, .inl ⟨z24, hC25, rfl, by unfold i32; omega, trivial⟩⟩
          · refine .inr ⟨rfl, ?_⟩
            exact ⟨hK25, (FX_tr hX24 hY25), .inr ⟨rfl, TH hC24 hc25⟩⟩
        · refine .inr ⟨rfl, ?_⟩
          exact ⟨hK24, (FX_tr hX23 hY24), .inr ⟨rfl, TH hC23 hc24⟩⟩
      · refine .inr ⟨rfl, ?_⟩
        exact ⟨hK21, (FX_tr FX_rf hY21), .inr ⟨rfl, TH rfl hc21⟩⟩
  · refine ⟨154, rfl, ?_⟩
    refine wr_n (pc2 := 155) (lv2 := [(2, vi z2), (0, .ref 131), (1, vi x)]) (st2 := [.ref 131]) 1 (fun _ _ => rfl) ?_
    refine wr_get (v := .ref C) rfl rfl rfl (by decide) (rv_ref (show (s.1) 131 1 = ((C : Nat) : Int) from hq)) fun h26 => ?_
    show wr (6 * (n + 1) + 4) tb_M58 158 [(2, vi z2), (0, .ref 131), (1, vi x)] [.ref C] s _
    refine wr_n (pc2 := 163) (lv2 := [(2, vi z2), (0, .ref 131), (1, vi x)]) (st2 := [vi 65535, vi 0, .ref 131, vi 2, .ref C]) 4 (fun _ _ => rfl) ?_
    refine wr_call1T (args := [vi 0, vi 65535]) (rest := [vi 2, .ref C]) rfl rfl rfl rfl (Nat.le_of_ble_eq_true rfl) rfl (cr_mono (k_number (d := 6 * (n + 1) + 2) (x := 0) (y := 65535) s hK (by omega) (by omega)) ?_)
    rintro s27 out ⟨hK27, hY27, ⟨z27, hc27, rfl, hz27, hp27⟩ | ⟨rfl, hc27⟩⟩
    · refine .inl ⟨_, rfl, ?_⟩
      have hX27 : FX s.1 s27.1 := FX_tr FX_rf hY27
      have hC27 : s27.2 = s.2 := hc27.trans rfl
      have hq27 : s27.1 131 1 = (C : Int) := (hY27 131 1 (by unfold fx; omega)).trans hq
      unfold i32 at hz27
      replace hp27 : 0 ≤ z27 ∧ z27 ≤ 65535 := hp27
      show wr (6 * (n + 1) + 4) tb_M58 166 [(2, vi z2), (0, .ref 131), (1, vi x)] [vi z27, vi 2, .ref C] s27 _
      refine wr_n (pc2 := 168) (lv2 := [(2, vi z2), (0, .ref 131), (1, vi x)]) (st2 := [vi ((-1)), vi ((-1)), vi z27, vi 2, .ref C]) 2 (fun _ _ => rfl) ?_
      refine wr_call1 (args := [vi 2, vi z27, vi ((-1)), vi ((-1))]) (rest := []) rfl rfl rfl (TK0 hC) (Nat.le_of_ble_eq_true rfl) (cr_mono (k_cadd (d := 6 * (n + 1) + 3) (C := C) hC (x := 2) (y := z27) (u := (-1)) (v := (-1)) s27 hK27 (by omega) (by omega) (by omega) (by omega)) ?_)
      rintro s28 out ⟨hK28, hY28, hc28, ha28, z28, rfl, hz28, hp28⟩
      refine ⟨_, rfl, ?_⟩
      have hX28 : FX s.1 s28.1 := FX_tr hX27 hY28
      have hC28 : s28.2 = s.2 := hc28.trans hC27
      have hq28 : s28.1 131 1 = (C : Int) := (hY28 131 1 (by unfold fx; omega)).trans hq27
      unfold i32 at hz28
      clear hp28
      show wr (6 * (n + 1) + 4) tb_M58 171 [(2, vi z2), (0, .ref 131), (1, vi x)] [vi z28] s28 _
      refine wr_reti rfl rfl ?_
      exact ⟨hK28, hX28, .inl ⟨z28, hC28, rfl, by unfold i32; omega, trivial⟩⟩
    · refine .inr ⟨rfl, ?_⟩
      exact ⟨hK27, (FX_tr FX_rf hY27), .inr ⟨rfl, TH rfl hc27⟩⟩
  · refine ⟨172, rfl, ?_⟩
    refine wr_n (pc2 := 174) (lv2 := [(2, vi z2), (0, .ref 131), (1, vi x)]) (st2 := [vi x, .ref 131]) 2 (fun _ _ => rfl) ?_
    refine wr_call1T (args := [vi x]) (rest := []) rfl rfl rfl rfl (Nat.le_of_ble_eq_true rfl) rfl (cr_mono (hNo C s x hC hK hq (by omega)) ?_)
    rintro s29 out ⟨hK29, hY29, ⟨z29, hc29, rfl, hz29, hp29⟩ | ⟨rfl, hc29⟩⟩
    · refine .inl ⟨_, rfl, ?_⟩
      have hX29 : FX s.1 s29.1 := FX_tr FX_rf hY29
      have hC29 : s29.2 = s.2 := hc29.trans rfl
      have hq29 : s29.1 131 1 = (C : Int) := (hY29 131 1 (by unfold fx; omega)).trans hq
      unfold i32 at hz29
      clear hp29
      show wr (6 * (n + 1) + 4) tb_M58 177 [(2, vi z2), (0, .ref 131), (1, vi x)] [vi z29] s29 _
      refine wr_reti rfl rfl ?_
      exact ⟨hK29, hX29, .inl ⟨z29, hC29, rfl, by unfold i32; omega, trivial⟩⟩
    · refine .inr ⟨rfl, ?_⟩
      exact ⟨hK29, (FX_tr FX_rf hY29), .inr ⟨rfl, TH rfl hc29⟩⟩
set_option maxHeartbeats 20000000 in
set_option maxRecDepth 100000 in
theorem k_expression_26 {s0 : rS} {C : Nat} (hC : C = 99 ∨ C = 115) {n : Nat} (hOp : COp (n + 1))  : ∀ (w : Nat) (l5 : Int) (l4 : Int) (l3 : Int) (l2 : Int) (l1 : Int) (s : rS), (2000 - l5).toNat = w → KI s.1 → s.1 131 1 = (C : Int) → FX s0.1 s.1 → s.2 = s0.2 → 0 ≤ l5 ∧ l5 ≤ 2000 → (-2147483648) ≤ l4 ∧ l4 ≤ 2147483647 → (-2147483648) ≤ l3 ∧ l3 ≤ 2147483647 → (-2147483648) ≤ l2 ∧ l2 ≤ 2147483647 → 0 ≤ l1 ∧ l1 ≤ 20 → 20 - l1 < ((n + 1 : Nat) : Int) → wr (6 * (n + 1) + 5) tb_M57 26 [(5, vi l5), (4, vi l4), (3, vi l3), (2, vi l2), (0, .ref 131), (1, vi l1)] [] s (TZ (fun z => True) s0) := by
  intro w
  induction w using Nat.strongRecOn with | ind w ih => ?_
  intro l5 l4 l3 l2 l1 s hw hK hq hX hc hl5 hl4 hl3 hl2 hl1 hx0
  refine wr_n (pc2 := 31) (lv2 := [(5, vi l5), (4, vi l4), (3, vi l3), (2, vi l2), (0, .ref 131), (1, vi l1)]) (st2 := [vi 2000, vi l5]) 2 (fun _ _ => rfl) ?_
  by_cases h1 : 2000 ≤ l5
  · refine wr_if2t rfl rfl (by unfold i32; omega) (by unfold i32; omega) h1 ?_
    refine wr_n (pc2 := 145) (lv2 := [(5, vi l5), (4, vi l4), (3, vi l3), (2, vi l2), (0, .ref 131), (1, vi l1)]) (st2 := [vi l3, vi 1, vi l2, .ref 131]) 4 (fun _ _ => rfl) ?_
    refine wr_call1 (args := [vi l2, vi 1, vi l3]) (rest := []) rfl rfl rfl rfl (Nat.le_of_ble_eq_true rfl) (cr_mono (k_join (d := 6 * (n + 1) + 3) (C := C) hC (x := l2) (y := 1) (u := l3) s hK hq (by omega) (by omega) (by omega)) ?_)
    rintro s2 out ⟨hK2, hY2, hc2, z2, rfl, hz2, hp2⟩
    refine ⟨_, rfl, ?_⟩
    have hX2 : FX s0.1 s2.1 := FX_tr hX hY2
    have hC2 : s2.2 = s0.2 := hc2.trans hc
    have hq2 : s2.1 131 1 = (C : Int) := (hY2 131 1 (by unfold fx; omega)).trans hq
    unfold i32 at hz2
    clear hp2
    show wr (6 * (n + 1) + 5) tb_M57 148 [(5, vi l5), (4, vi l4), (3, vi l3), (2, vi l2), (0, .ref 131), (1, vi l1)] [vi z2] s2 _
    refine wr_reti rfl rfl ?_
    exact ⟨hK2, hX2, .inl ⟨z2, hC2, rfl, by unfold i32; omega, trivial⟩⟩
  · refine wr_if2f rfl rfl (by unfold i32; omega) (by unfold i32; omega) h1 ?_
    refine wr_n (pc2 := 36) (lv2 := [(5, vi l5), (4, vi l4), (3, vi l3), (2, vi l2), (0, .ref 131), (1, vi l1)]) (st2 := [vi l4]) 1 (fun _ _ => rfl) ?_
    by_cases h3 : l4 ≤ 0
    · refine wr_if1t rfl rfl (by unfold i32; omega) h3 ?_
      refine wr_n (pc2 := 145) (lv2 := [(5, vi l5), (4, vi l4), (3, vi l3), (2, vi l2), (0, .ref 131), (1, vi l1)]) (st2 := [vi l3, vi 1, vi l2, .ref 131]) 4 (fun _ _ => rfl) ?_
      refine wr_call1 (args := [vi l2, vi 1, vi l3]) (rest := []) rfl rfl rfl rfl (Nat.le_of_ble_eq_true rfl) (cr_mono (k_join (d := 6 * (n + 1) + 3) (C := C) hC (x := l2) (y := 1) (u := l3) s hK hq (by omega) (by omega) (by omega)) ?_)
      rintro s4 out ⟨hK4, hY4, hc4, z4, rfl, hz4, hp4⟩
      refine ⟨_, rfl, ?_⟩
      have hX4 : FX s0.1 s4.1 := FX_tr hX hY4
      have hC4 : s4.2 = s0.2 := hc4.trans hc
      have hq4 : s4.1 131 1 = (C : Int) := (hY4 131 1 (by unfold fx; omega)).trans hq
      unfold i32 at hz4
      clear hp4
      show wr (6 * (n + 1) + 5) tb_M57 148 [(5, vi l5), (4, vi l4), (3, vi l3), (2, vi l2), (0, .ref 131), (1, vi l1)] [vi z4] s4 _
      refine wr_reti rfl rfl ?_
      exact ⟨hK4, hX4, .inl ⟨z4, hC4, rfl, by unfold i32; omega, trivial⟩⟩
    · refine wr_if1f rfl rfl (by unfold i32; omega) h3 ?_
      refine wr_n (pc2 := 44) (lv2 := [(5, vi l5), (4, vi l4), (3, vi l3), (2, vi l2), (0, .ref 131), (1, vi l1)]) (st2 := [vi l3, vi l4, vi l2, .ref 131]) 4 (fun _ _ => rfl) ?_
      refine wr_call1 (args := [vi l2, vi l4, vi l3]) (rest := []) rfl rfl rfl rfl (Nat.le_of_ble_eq_true rfl) (cr_mono (k_join (d := 6 * (n + 1) + 3) (C := C) hC (x := l2) (y := l4) (u := l3) s hK hq (by omega) (by omega) (by omega)) ?_)
      rintro s5 out ⟨hK5, hY5, hc5, z5, rfl, hz5, hp5⟩
      refine ⟨_, rfl, ?_⟩
      have hX5 : FX s0.1 s5.1 := FX_tr hX hY5
      have hC5 : s5.2 = s0.2 := hc5.trans hc
      have hq5 : s5.1 131 1 = (C : Int) := (hY5 131 1 (by unfold fx; omega)).trans hq
      unfold i32 at hz5
      clear hp5
      show wr (6 * (n + 1) + 5) tb_M57 47 [(5, vi l5), (4, vi l4), (3, vi l3), (2, vi l2), (0, .ref 131), (1, vi l1)] [vi z5] s5 _
      refine wr_n (pc2 := 50) (lv2 := [(3, vi z5), (5, vi l5), (4, vi l4), (2, vi l2), (0, .ref 131), (1, vi l1)]) (st2 := [.ref 131, .ref 131]) 3 (fun _ _ => rfl) ?_
      refine wr_get (v := vi (s5.1 131 6)) rfl rfl rfl (by decide) rfl fun h6 => ?_
      have h6 : -2147483648 ≤ s5.1 131 6 ∧ s5.1 131 6 ≤ 2147483647 := h6
      show wr (6 * (n + 1) + 5) tb_M57 53 [(3, vi z5), (5, vi l5), (4, vi l4), (2, vi l2), (0, .ref 131), (1, vi l1)] [vi (s5.1 131 6), .ref 131] s5 _
      have hb7 : 0 ≤ s5.1 131 6 ∧ s5.1 131 6 ≤ 210 := kb_to rfl (hK5.2 131 6)
      refine wr_n (pc2 := 56) (lv2 := [(3, vi z5), (5, vi l5), (4, vi l4), (2, vi l2), (0, .ref 131), (1, vi l1)]) (st2 := [vi 210, vi (s5.1 131 6), .ref 131]) 1 (fun _ _ => rfl) ?_
      by_cases h8 : 210 ≤ s5.1 131 6
      · refine wr_if2t rfl rfl (by unfold i32; omega) (by unfold i32; omega) h8 ?_
        refine wr_n (pc2 := 65) (lv2 := [(3, vi z5), (5, vi l5), (4, vi l4), (2, vi l2), (0, .ref 131), (1, vi l1)]) (st2 := [.ref 131, vi 0, .ref 131]) 2 (fun _ _ => rfl) ?_
        refine wr_get (v := .ref 137) rfl rfl rfl (by decide) (rv_ref (hK5.1 131 0 137 rfl)) fun h9 => ?_
        show wr (6 * (n + 1) + 5) tb_M57 68 [(3, vi z5), (5, vi l5), (4, vi l4), (2, vi l2), (0, .ref 131), (1, vi l1)] [.ref 137, vi 0, .ref 131] s5 _
        refine wr_call1 (args := []) (rest := [vi 0, .ref 131]) rfl rfl rfl rfl (Nat.le_of_ble_eq_true rfl) (cr_mono (k_place (d := 6 * (n + 1) + 4) s5 hK5) ?_)
        rintro s10 out ⟨z10, rfl, hz10, hp10, e10⟩
        refine ⟨_, rfl, ?_⟩
        rw [e10]
        unfold i32 at hz10
        clear hp10
        show wr (6 * (n + 1) + 5) tb_M57 71 [(3, vi z5), (5, vi l5), (4, vi l4), (2, vi l2), (0, .ref 131), (1, vi l1)] [vi z10, vi 0, .ref 131] s5 _
        refine wr_call1T (args := [vi 0, vi z10]) (rest := []) rfl rfl rfl rfl (Nat.le_of_ble_eq_true rfl) rfl (cr_mono (k_check (d := 6 * (n + 1) + 4) (x := 0) (y := z10) s5 hK5 (by omega) (by omega)) ?_)
        rintro s11 out (⟨e11, hr11, rfl⟩ | ⟨hK11, hY11, rfl, hc11⟩)
        · exact absurd rfl hr11
        · refine .inr ⟨rfl, ?_⟩
          exact ⟨hK11, (FX_tr hX5 hY11), .inr ⟨rfl, TH hC5 hc11⟩⟩
      · refine wr_if2f rfl rfl (by unfold i32; omega) (by unfold i32; omega) h8 ?_
        refine wr_n (pc2 := 65) (lv2 := [(3, vi z5), (5, vi l5), (4, vi l4), (2, vi l2), (0, .ref 131), (1, vi l1)]) (st2 := [.ref 131, vi 1, .ref 131]) 3 (fun _ _ => rfl) ?_
        refine wr_get (v := .ref 137) rfl rfl rfl (by decide) (rv_ref (hK5.1 131 0 137 rfl)) fun h12 => ?_
        show wr (6 * (n + 1) + 5) tb_M57 68 [(3, vi z5), (5, vi l5), (4, vi l4), (2, vi l2), (0, .ref 131), (1, vi l1)] [.ref 137, vi 1, .ref 131] s5 _
        refine wr_call1 (args := []) (rest := [vi 1, .ref 131]) rfl rfl rfl rfl (Nat.le_of_ble_eq_true rfl) (cr_mono (k_place (d := 6 * (n + 1) + 4) s5 hK5) ?_)
        rintro s13 out ⟨z13, rfl, hz13, hp13, e13⟩
        refine ⟨_, rfl, ?_⟩
        rw [e13]
        unfold i32 at hz13
        clear hp13
        show wr (6 * (n + 1) + 5) tb_M57 71 [(3, vi z5), (5, vi l5), (4, vi l4), (2, vi l2), (0, .ref 131), (1, vi l1)] [vi z13, vi 1, .ref 131] s5 _
        refine wr_call1T (args := [vi 1, vi z13]) (rest := []) rfl rfl rfl rfl (Nat.le_of_ble_eq_true rfl) rfl (cr_mono (k_check (d := 6 * (n + 1) + 4) (x := 1) (y := z13) s5 hK5 (by omega) (by omega)) ?_)
        rintro s14 out (⟨e14, hr14, rfl⟩ | ⟨hK14, hY14, rfl, hc14⟩)
        · refine .inl ⟨_, rfl, ?_⟩
          rw [e14]
          show wr (6 * (n + 1) + 5) tb_M57 74 [(3, vi z5), (5, vi l5), (4, vi l4), (2, vi l2), (0, .ref 131), (1, vi l1)] [] s5 _
          refine wr_n (pc2 := 75) (lv2 := [(3, vi z5), (5, vi l5), (4, vi l4), (2, vi l2), (0, .ref 131), (1, vi l1)]) (st2 := [.ref 131]) 1 (fun _ _ => rfl) ?_
          refine wr_get (v := .ref 132) rfl rfl rfl (by decide) (rv_ref (hK5.1 131 4 132 rfl)) fun h15 => ?_
          show wr (6 * (n + 1) + 5) tb_M57 78 [(3, vi z5), (5, vi l5), (4, vi l4), (2, vi l2), (0, .ref 131), (1, vi l1)] [.ref 132] s5 _
          refine wr_n (pc2 := 79) (lv2 := [(3, vi z5), (5, vi l5), (4, vi l4), (2, vi l2), (0, .ref 131), (1, vi l1)]) (st2 := [.ref 131, .ref 132]) 1 (fun _ _ => rfl) ?_
          refine wr_get (v := vi (s5.1 131 6)) rfl rfl rfl (by decide) rfl fun h16 => ?_
          have h16 : -2147483648 ≤ s5.1 131 6 ∧ s5.1 131 6 ≤ 2147483647 := h16
          show wr (6 * (n + 1) + 5) tb_M57 82 [(3, vi z5), (5, vi l5), (4, vi l4), (2, vi l2), (0, .ref 131), (1, vi l1)] [vi (s5.1 131 6), .ref 132] s5 _
          have hb17 : 0 ≤ s5.1 131 6 ∧ s5.1 131 6 ≤ 210 := kb_to rfl (hK5.2 131 6)
          refine wr_n (pc2 := 83) (lv2 := [(3, vi z5), (5, vi l5), (4, vi l4), (2, vi l2), (0, .ref 131), (1, vi l1)]) (st2 := [.ref 131, vi (s5.1 131 6), .ref 132]) 1 (fun _ _ => rfl) ?_
          refine wr_get (v := .ref 137) rfl rfl rfl (by decide) (rv_ref (hK5.1 131 0 137 rfl)) fun h18 => ?_
          show wr (6 * (n + 1) + 5) tb_M57 86 [(3, vi z5), (5, vi l5), (4, vi l4), (2, vi l2), (0, .ref 131), (1, vi l1)] [.ref 137, vi (s5.1 131 6), .ref 132] s5 _
          refine wr_call1 (args := []) (rest := [vi (s5.1 131 6), .ref 132]) rfl rfl rfl rfl (Nat.le_of_ble_eq_true rfl) (cr_mono (k_kind (d := 6 * (n + 1) + 4) s5 hK5) ?_)
          rintro s19 out ⟨z19, rfl, hz19, hp19, e19⟩
          refine ⟨_, rfl, ?_⟩
          rw [e19]
          unfold i32 at hz19
          clear hp19
          show wr (6 * (n + 1) + 5) tb_M57 89 [(3, vi z5), (5, vi l5), (4, vi l4), (2, vi l2), (0, .ref 131), (1, vi l1)] [vi z19, vi (s5.1 131 6), .ref 132] s5 _
          refine wr_ast (a := s5.1 131 6) (z := z19) rfl (by decide) rfl rfl (by omega) (by omega) (by decide) rfl (show -2147483648 ≤ z19 ∧ z19 ≤ 2147483647 by omega) ?_
          show wr (6 * (n + 1) + 5) tb_M57 90 [(3, vi z5), (5, vi l5), (4, vi l4), (2, vi l2), (0, .ref 131), (1, vi l1)] [] (up2 s5.1 132 ((s5.1 131 6).toNat) z19, s5.2) _
          have hK20 : KI (up2 s5.1 132 ((s5.1 131 6).toNat) z19) := (KI_up hK5 (n0 rfl (by omega) (by omega)) (kb_no rfl))
          refine wr_n (pc2 := 91) (lv2 := [(3, vi z5), (5, vi l5), (4, vi l4), (2, vi l2), (0, .ref 131), (1, vi l1)]) (st2 := [.ref 131]) 1 (fun _ _ => rfl) ?_
          refine wr_get (v := .ref 133) rfl rfl rfl (by decide) (rv_ref (hK20.1 131 5 133 rfl)) fun h21 => ?_
          show wr (6 * (n + 1) + 5) tb_M57 94 [(3, vi z5), (5, vi l5), (4, vi l4), (2, vi l2), (0, .ref 131), (1, vi l1)] [.ref 133] (up2 s5.1 132 ((s5.1 131 6).toNat) z19, s5.2) _
          refine wr_n (pc2 := 95) (lv2 := [(3, vi z5), (5, vi l5), (4, vi l4), (2, vi l2), (0, .ref 131), (1, vi l1)]) (st2 := [.ref 131, .ref 133]) 1 (fun _ _ => rfl) ?_
          refine wr_get (v := vi (s5.1 131 6)) rfl rfl rfl (by decide) rfl fun h22 => ?_
          have h22 : -2147483648 ≤ s5.1 131 6 ∧ s5.1 131 6 ≤ 2147483647 := h22
          show wr (6 * (n + 1) + 5) tb_M57 98 [(3, vi z5), (5, vi l5), (4, vi l4), (2, vi l2), (0, .ref 131), (1, vi l1)] [vi (s5.1 131 6), .ref 133] (up2 s5.1 132 ((s5.1 131 6).toNat) z19, s5.2) _
          have hb23 : 0 ≤ s5.1 131 6 ∧ s5.1 131 6 ≤ 210 := kb_to rfl (hK5.2 131 6)
          refine wr_n (pc2 := 99) (lv2 := [(3, vi z5), (5, vi l5), (4, vi l4), (2, vi l2), (0, .ref 131), (1, vi l1)]) (st2 := [vi z5, vi (s5.1 131 6), .ref 133]) 1 (fun _ _ => rfl) ?_
          refine wr_ast (a := s5.1 131 6) (z := z5) rfl (by decide) rfl rfl (by omega) (by omega) (by decide) rfl (show -2147483648 ≤ z5 ∧ z5 ≤ 2147483647 by omega) ?_
          show wr (6 * (n + 1) + 5) tb_M57 100 [(3, vi z5), (5, vi l5), (4, vi l4), (2, vi l2), (0, .ref 131), (1, vi l1)] [] (up2 (up2 s5.1 132 ((s5.1 131 6).toNat) z19) 133 ((s5.1 131 6).toNat) z5, s5.2) _
          have hK24 : KI (up2 (up2 s5.1 132 ((s5.1 131 6).toNat) z19) 133 ((s5.1 131 6).toNat) z5) := (KI_up (KI_up hK5 (n0 rfl (by omega) (by omega)) (kb_no rfl)) (n0 rfl (by omega) (by omega)) (kb_no rfl))
          refine wr_n (pc2 := 102) (lv2 := [(3, vi z5), (5, vi l5), (4, vi l4), (2, vi l2), (0, .ref 131), (1, vi l1)]) (st2 := [.ref 131, .ref 131]) 2 (fun _ _ => rfl) ?_
          refine wr_get (v := vi (s5.1 131 6)) rfl rfl rfl (by decide) rfl fun h25 => ?_
          have h25 : -2147483648 ≤ s5.1 131 6 ∧ s5.1 131 6 ≤ 2147483647 := h25
          show wr (6 * (n + 1) + 5) tb_M57 105 [(3, vi z5), (5, vi l5), (4, vi l4), (2, vi l2), (0, .ref 131), (1, vi l1)] [vi (s5.1 131 6), .ref 131] (up2 (up2 s5.1 132 ((s5.1 131 6).toNat) z19) 133 ((s5.1 131 6).toNat) z5, s5.2) _
          have hb26 : 0 ≤ s5.1 131 6 ∧ s5.1 131 6 ≤ 210 := kb_to rfl (hK5.2 131 6)
          refine wr_n (pc2 := 106) (lv2 := [(3, vi z5), (5, vi l5), (4, vi l4), (2, vi l2), (0, .ref 131), (1, vi l1)]) (st2 := [vi 1, vi (s5.1 131 6), .ref 131]) 1 (fun _ _ => rfl) ?_
          refine wr_add (a := s5.1 131 6) (b := 1) rfl ?_
          show wr (6 * (n + 1) + 5) tb_M57 107 [(3, vi z5), (5, vi l5), (4, vi l4), (2, vi l2), (0, .ref 131), (1, vi l1)] [vi (s5.1 131 6 + 1), .ref 131] (up2 (up2 s5.1 132 ((s5.1 131 6).toNat) z19) 133 ((s5.1 131 6).toNat) z5, s5.2) _
          refine wr_put (z := s5.1 131 6 + 1) rfl rfl rfl rfl (by decide) rfl (by decide) rfl (show -2147483648 ≤ s5.1 131 6 + 1 ∧ s5.1 131 6 + 1 ≤ 2147483647 by omega) (hf_int' _) ?_
          show wr (6 * (n + 1) + 5) tb_M57 110 [(3, vi z5), (5, vi l5), (4, vi l4), (2, vi l2), (0, .ref 131), (1, vi l1)] [] (up2 (up2 (up2 s5.1 132 ((s5.1 131 6).toNat) z19) 133 ((s5.1 131 6).toNat) z5) 131 6 (s5.1 131 6 + 1), s5.2) _
          have hK27 : KI (up2 (up2 (up2 s5.1 132 ((s5.1 131 6).toNat) z19) 133 ((s5.1 131 6).toNat) z5) 131 6 (s5.1 131 6 + 1)) := (KI_up (KI_up (KI_up hK5 (n0 rfl (by omega) (by omega)) (kb_no rfl)) (n0 rfl (by omega) (by omega)) (kb_no rfl)) rfl (kb_of rfl (show 0 ≤ s5.1 131 6 + 1 ∧ s5.1 131 6 + 1 ≤ 210 by omega)))
          refine wr_n (pc2 := 111) (lv2 := [(3, vi z5), (5, vi l5), (4, vi l4), (2, vi l2), (0, .ref 131), (1, vi l1)]) (st2 := [.ref 131]) 1 (fun _ _ => rfl) ?_
          refine wr_get (v := .ref 137) rfl rfl rfl (by decide) (rv_ref (hK27.1 131 0 137 rfl)) fun h28 => ?_
          show wr (6 * (n + 1) + 5) tb_M57 114 [(3, vi z5), (5, vi l5), (4, vi l4), (2, vi l2), (0, .ref 131), (1, vi l1)] [.ref 137] (up2 (up2 (up2 s5.1 132 ((s5.1 131 6).toNat) z19) 133 ((s5.1 131 6).toNat) z5) 131 6 (s5.1 131 6 + 1), s5.2) _
          refine wr_call1 (args := []) (rest := []) rfl rfl rfl rfl (Nat.le_of_ble_eq_true rfl) (cr_mono (k_step (d := 6 * (n + 1) + 4) (up2 (up2 (up2 s5.1 132 ((s5.1 131 6).toNat) z19) 133 ((s5.1 131 6).toNat) z5) 131 6 (s5.1 131 6 + 1), s5.2) hK27) ?_)
          rintro s29 out ⟨hK29, hY29, hc29, rfl⟩
          refine ⟨_, rfl, ?_⟩
          have hX29 : FX s0.1 s29.1 := FX_tr (FX_up (FX_up (FX_up hX5 (by unfold fx; omega)) (by unfold fx; omega)) (by unfold fx; omega)) hY29
          have hC29 : s29.2 = s0.2 := hc29.trans hC5
          have hq29 : s29.1 131 1 = (C : Int) := (hY29 131 1 (by unfold fx; omega)).trans (show (up2 (up2 (up2 s5.1 132 ((s5.1 131 6).toNat) z19) 133 ((s5.1 131 6).toNat) z5) 131 6 (s5.1 131 6 + 1)) 131 1 = ((C : Nat) : Int) from ((if_neg (by omega)).trans ((if_neg (by omega)).trans ((if_neg (by omega)).trans hq5))))
          show wr (6 * (n + 1) + 5) tb_M57 117 [(3, vi z5), (5, vi l5), (4, vi l4), (2, vi l2), (0, .ref 131), (1, vi l1)] [] s29 _
          refine wr_n (pc2 := 119) (lv2 := [(3, vi z5), (5, vi l5), (4, vi l4), (2, vi l2), (0, .ref 131), (1, vi l1)]) (st2 := [vi l1, .ref 131]) 2 (fun _ _ => rfl) ?_
          refine wr_call1T (args := [vi l1]) (rest := []) rfl rfl rfl rfl (Nat.le_of_ble_eq_true rfl) rfl (cr_mono (hOp C s29 l1 hC hK29 hq29 (by omega)) ?_)
          rintro s30 out ⟨hK30, hY30, ⟨z30, hc30, rfl, hz30, hp30⟩ | ⟨rfl, hc30⟩⟩
          · refine .inl ⟨_, rfl, ?_⟩
            have hX30 : FX s0.1 s30.1 := FX_tr hX29 hY30
            have hC30 : s30.2 = s0.2 := hc30.trans hC29
            have hq30 : s30.1 131 1 = (C : Int) := (hY30 131 1 (by unfold fx; omega)).trans hq29
            unfold i32 at hz30
            clear hp30
            show wr (6 * (n + 1) + 5) tb_M57 122 [(3, vi z5), (5, vi l5), (4, vi l4), (2, vi l2), (0, .ref 131), (1, vi l1)] [vi z30] s30 _
            refine wr_n (pc2 := 124) (lv2 := [(3, vi z30), (5, vi l5), (4, vi l4), (2, vi l2), (0, .ref 131), (1, vi l1)]) (st2 := [.ref 131]) 2 (fun _ _ => rfl) ?_
            refine wr_get (v := .ref 137) rfl rfl rfl (by decide) (rv_ref (hK30.1 131 0 137 rfl)) fun h31 => ?_
            show wr (6 * (n + 1) + 5) tb_M57 127 [(3, vi z30), (5, vi l5), (4, vi l4), (2, vi l2), (0, .ref 131), (1, vi l1)] [.ref 137] s30 _
            refine wr_call1 (args := []) (rest := []) rfl rfl rfl rfl (Nat.le_of_ble_eq_true rfl) (cr_mono (k_kind (d := 6 * (n + 1) + 4) s30 hK30) ?_)
            rintro s32 out ⟨z32, rfl, hz32, hp32, e32⟩
            refine ⟨_, rfl, ?_⟩
            rw [e32]
            unfold i32 at hz32
            clear hp32
            show wr (6 * (n + 1) + 5) tb_M57 130 [(3, vi z30), (5, vi l5), (4, vi l4), (2, vi l2), (0, .ref 131), (1, vi l1)] [vi z32] s30 _
            refine wr_call0 (args := [vi z32]) (rest := []) rfl rfl rfl (Nat.le_of_ble_eq_true rfl) (cr_mono (k_level (d := 6 * (n + 1) + 4) (x := z32) s30 hK30 (by omega)) ?_)
            rintro s33 out ⟨z33, rfl, hz33, hp33, e33⟩
            refine ⟨_, rfl, ?_⟩
            rw [e33]
            unfold i32 at hz33
            clear hp33
            show wr (6 * (n + 1) + 5) tb_M57 133 [(3, vi z30), (5, vi l5), (4, vi l4), (2, vi l2), (0, .ref 131), (1, vi l1)] [vi z33] s30 _
            refine wr_n (pc2 := 135) (lv2 := [(4, vi z33), (3, vi z30), (5, vi l5), (2, vi l2), (0, .ref 131), (1, vi l1)]) (st2 := []) 1 (fun _ _ => rfl) ?_
            refine wr_inc (a := l5) rfl rfl ?_
            show wr (6 * (n + 1) + 5) tb_M57 138 [(5, vi (l5 + 1)), (4, vi z33), (3, vi z30), (2, vi l2), (0, .ref 131), (1, vi l1)] [] s30 _
            refine wr_n (pc2 := 26) (lv2 := [(5, vi (l5 + 1)), (4, vi z33), (3, vi z30), (2, vi l2), (0, .ref 131), (1, vi l1)]) (st2 := []) 1 (fun _ _ => rfl) ?_
            exact ih _ (by omega) (l5 + 1) z33 z30 l2 l1 s30 rfl hK30 hq30 hX30 hC30 (by omega) (by omega) (by omega) (by omega) (by omega) (by omega) 
          · refine .inr ⟨rfl, ?_⟩
            exact ⟨hK30, (FX_tr hX29 hY30), .inr ⟨rfl, TH hC29 hc30⟩⟩
        · refine .inr ⟨rfl, ?_⟩
          exact ⟨hK14, (FX_tr hX5 hY14), .inr ⟨rfl, TH hC5 hc14⟩⟩
set_option maxHeartbeats 20000000 in
set_option maxRecDepth 100000 in
theorem k_expression {n : Nat} (hOp : COp (n + 1)) : CEx (n + 1) := by
  intro C s x hC hK hq hx
  refine cr_of (M := tb_M57) rfl (Nat.le_of_ble_eq_true rfl) ?_
  show wr (6 * (n + 1) + 5) tb_M57 0 [(0, .ref 131), (1, vi x)] [] s _
  refine wr_n (pc2 := 1) (lv2 := [(0, .ref 131), (1, vi x)]) (st2 := [.ref 131]) 1 (fun _ _ => rfl) ?_
  refine wr_get (v := vi (s.1 131 6)) rfl rfl rfl (by decide) rfl fun h1 => ?_
  have h1 : -2147483648 ≤ s.1 131 6 ∧ s.1 131 6 ≤ 2147483647 := h1
  show wr (6 * (n + 1) + 5) tb_M57 4 [(0, .ref 131), (1, vi x)] [vi (s.1 131 6)] s _
  have hb2 : 0 ≤ s.1 131 6 ∧ s.1 131 6 ≤ 210 := kb_to rfl (hK.2 131 6)
  refine wr_n (pc2 := 7) (lv2 := [(2, vi (s.1 131 6)), (0, .ref 131), (1, vi x)]) (st2 := [vi x, .ref 131]) 3 (fun _ _ => rfl) ?_
  refine wr_call1T (args := [vi x]) (rest := []) rfl rfl rfl rfl (Nat.le_of_ble_eq_true rfl) rfl (cr_mono (hOp C s x hC hK hq (by omega)) ?_)
  rintro s3 out ⟨hK3, hY3, ⟨z3, hc3, rfl, hz3, hp3⟩ | ⟨rfl, hc3⟩⟩
  · refine .inl ⟨_, rfl, ?_⟩
    have hX3 : FX s.1 s3.1 := FX_tr FX_rf hY3
    have hC3 : s3.2 = s.2 := hc3.trans rfl
    have hq3 : s3.1 131 1 = (C : Int) := (hY3 131 1 (by unfold fx; omega)).trans hq
    unfold i32 at hz3
    clear hp3
    show wr (6 * (n + 1) + 5) tb_M57 10 [(2, vi (s.1 131 6)), (0, .ref 131), (1, vi x)] [vi z3] s3 _
    refine wr_n (pc2 := 12) (lv2 := [(3, vi z3), (2, vi (s.1 131 6)), (0, .ref 131), (1, vi x)]) (st2 := [.ref 131]) 2 (fun _ _ => rfl) ?_
    refine wr_get (v := .ref 137) rfl rfl rfl (by decide) (rv_ref (hK3.1 131 0 137 rfl)) fun h4 => ?_
    show wr (6 * (n + 1) + 5) tb_M57 15 [(3, vi z3), (2, vi (s.1 131 6)), (0, .ref 131), (1, vi x)] [.ref 137] s3 _
    refine wr_call1 (args := []) (rest := []) rfl rfl rfl rfl (Nat.le_of_ble_eq_true rfl) (cr_mono (k_kind (d := 6 * (n + 1) + 4) s3 hK3) ?_)
    rintro s5 out ⟨z5, rfl, hz5, hp5, e5⟩
    refine ⟨_, rfl, ?_⟩
    rw [e5]
    unfold i32 at hz5
    clear hp5
    show wr (6 * (n + 1) + 5) tb_M57 18 [(3, vi z3), (2, vi (s.1 131 6)), (0, .ref 131), (1, vi x)] [vi z5] s3 _
    refine wr_call0 (args := [vi z5]) (rest := []) rfl rfl rfl (Nat.le_of_ble_eq_true rfl) (cr_mono (k_level (d := 6 * (n + 1) + 4) (x := z5) s3 hK3 (by omega)) ?_)
    rintro s6 out ⟨z6, rfl, hz6, hp6, e6⟩
    refine ⟨_, rfl, ?_⟩
    rw [e6]
    unfold i32 at hz6
    clear hp6
    show wr (6 * (n + 1) + 5) tb_M57 21 [(3, vi z3), (2, vi (s.1 131 6)), (0, .ref 131), (1, vi x)] [vi z6] s3 _
    refine wr_n (pc2 := 26) (lv2 := [(5, vi 0), (4, vi z6), (3, vi z3), (2, vi (s.1 131 6)), (0, .ref 131), (1, vi x)]) (st2 := []) 3 (fun _ _ => rfl) ?_
    exact k_expression_26 hC hOp _ 0 z6 z3 (s.1 131 6) x s3 rfl hK3 hq3 hX3 hC3 (by omega) (by omega) (by omega) (by omega) (by omega) (by omega) 
  · refine .inr ⟨rfl, ?_⟩
    exact ⟨hK3, (FX_tr FX_rf hY3), .inr ⟨rfl, TH rfl hc3⟩⟩
set_option maxHeartbeats 20000000 in
set_option maxRecDepth 100000 in
theorem k_call_130 {s0 : rS} {C : Nat} (hC : C = 99 ∨ C = 115) {n : Nat} (hEx : CEx n)  (l6 : Int) (l5 : Int) (l4 : Int) (l1 : Int) (l2 : Int) (l3 : Int) (s : rS) (hK : KI s.1) (hq : s.1 131 1 = (C : Int)) (hX : FX s0.1 s.1) (hc : s.2 = s0.2) (hl6 : 0 ≤ l6 ∧ l6 ≤ 2000) (hl5 : (-2147483648) ≤ l5 ∧ l5 ≤ 2147483647) (hl4 : (-2147483648) ≤ l4 ∧ l4 ≤ 2147483647) (hl1 : 0 ≤ l1 ∧ l1 ≤ 11) (hl2 : (-2147483648) ≤ l2 ∧ l2 ≤ 2147483647) (hl3 : (-2147483648) ≤ l3 ∧ l3 ≤ 2147483647)   : wr (6 * n + 6) tb_M65 130 [(6, vi l6), (5, vi l5), (4, vi l4), (0, .ref 131), (1, vi l1), (2, vi l2), (3, vi l3)] [] s (TZ (fun z => True) s0) := by
  refine wr_n (pc2 := 132) (lv2 := [(6, vi l6), (5, vi l5), (4, vi l4), (0, .ref 131), (1, vi l1), (2, vi l2), (3, vi l3)]) (st2 := [.ref 131, .ref 131]) 2 (fun _ _ => rfl) ?_
  refine wr_get (v := .ref 137) rfl rfl rfl (by decide) (rv_ref (hK.1 131 0 137 rfl)) fun h1 => ?_
  show wr (6 * n + 6) tb_M65 135 [(6, vi l6), (5, vi l5), (4, vi l4), (0, .ref 131), (1, vi l1), (2, vi l2), (3, vi l3)] [.ref 137, .ref 131] s _
  refine wr_call1 (args := []) (rest := [.ref 131]) rfl rfl rfl rfl (Nat.le_of_ble_eq_true rfl) (cr_mono (k_kind (d := 6 * n + 5) s hK) ?_)
  rintro s2 out ⟨z2, rfl, hz2, hp2, e2⟩
  refine ⟨_, rfl, ?_⟩
  rw [e2]
  unfold i32 at hz2
  clear hp2
  show wr (6 * n + 6) tb_M65 138 [(6, vi l6), (5, vi l5), (4, vi l4), (0, .ref 131), (1, vi l1), (2, vi l2), (3, vi l3)] [vi z2, .ref 131] s _
  refine wr_n (pc2 := 140) (lv2 := [(6, vi l6), (5, vi l5), (4, vi l4), (0, .ref 131), (1, vi l1), (2, vi l2), (3, vi l3)]) (st2 := [vi 41, vi z2, .ref 131]) 1 (fun _ _ => rfl) ?_
  by_cases h3 : z2 ≠ 41
  · refine wr_if2t rfl rfl (by unfold i32; omega) (by unfold i32; omega) h3 ?_
    refine wr_n (pc2 := 149) (lv2 := [(6, vi l6), (5, vi l5), (4, vi l4), (0, .ref 131), (1, vi l1), (2, vi l2), (3, vi l3)]) (st2 := [.ref 131, vi 0, .ref 131]) 2 (fun _ _ => rfl) ?_
    refine wr_get (v := .ref 137) rfl rfl rfl (by decide) (rv_ref (hK.1 131 0 137 rfl)) fun h4 => ?_
    show wr (6 * n + 6) tb_M65 152 [(6, vi l6), (5, vi l5), (4, vi l4), (0, .ref 131), (1, vi l1), (2, vi l2), (3, vi l3)] [.ref 137, vi 0, .ref 131] s _
    refine wr_call1 (args := []) (rest := [vi 0, .ref 131]) rfl rfl rfl rfl (Nat.le_of_ble_eq_true rfl) (cr_mono (k_place (d := 6 * n + 5) s hK) ?_)
    rintro s5 out ⟨z5, rfl, hz5, hp5, e5⟩
    refine ⟨_, rfl, ?_⟩
    rw [e5]
    unfold i32 at hz5
    clear hp5
    show wr (6 * n + 6) tb_M65 155 [(6, vi l6), (5, vi l5), (4, vi l4), (0, .ref 131), (1, vi l1), (2, vi l2), (3, vi l3)] [vi z5, vi 0, .ref 131] s _
    refine wr_call1T (args := [vi 0, vi z5]) (rest := []) rfl rfl rfl rfl (Nat.le_of_ble_eq_true rfl) rfl (cr_mono (k_check (d := 6 * n + 5) (x := 0) (y := z5) s hK (by omega) (by omega)) ?_)
    rintro s6 out (⟨e6, hr6, rfl⟩ | ⟨hK6, hY6, rfl, hc6⟩)
    · exact absurd rfl hr6
    · refine .inr ⟨rfl, ?_⟩
      exact ⟨hK6, (FX_tr hX hY6), .inr ⟨rfl, TH hc hc6⟩⟩
  · refine wr_if2f rfl rfl (by unfold i32; omega) (by unfold i32; omega) h3 ?_
    refine wr_n (pc2 := 149) (lv2 := [(6, vi l6), (5, vi l5), (4, vi l4), (0, .ref 131), (1, vi l1), (2, vi l2), (3, vi l3)]) (st2 := [.ref 131, vi 1, .ref 131]) 3 (fun _ _ => rfl) ?_
    refine wr_get (v := .ref 137) rfl rfl rfl (by decide) (rv_ref (hK.1 131 0 137 rfl)) fun h7 => ?_
    show wr (6 * n + 6) tb_M65 152 [(6, vi l6), (5, vi l5), (4, vi l4), (0, .ref 131), (1, vi l1), (2, vi l2), (3, vi l3)] [.ref 137, vi 1, .ref 131] s _
    refine wr_call1 (args := []) (rest := [vi 1, .ref 131]) rfl rfl rfl rfl (Nat.le_of_ble_eq_true rfl) (cr_mono (k_place (d := 6 * n + 5) s hK) ?_)
    rintro s8 out ⟨z8, rfl, hz8, hp8, e8⟩
    refine ⟨_, rfl, ?_⟩
    rw [e8]
    unfold i32 at hz8
    clear hp8
    show wr (6 * n + 6) tb_M65 155 [(6, vi l6), (5, vi l5), (4, vi l4), (0, .ref 131), (1, vi l1), (2, vi l2), (3, vi l3)] [vi z8, vi 1, .ref 131] s _
    refine wr_call1T (args := [vi 1, vi z8]) (rest := []) rfl rfl rfl rfl (Nat.le_of_ble_eq_true rfl) rfl (cr_mono (k_check (d := 6 * n + 5) (x := 1) (y := z8) s hK (by omega) (by omega)) ?_)
    rintro s9 out (⟨e9, hr9, rfl⟩ | ⟨hK9, hY9, rfl, hc9⟩)
    · refine .inl ⟨_, rfl, ?_⟩
      rw [e9]
      show wr (6 * n + 6) tb_M65 158 [(6, vi l6), (5, vi l5), (4, vi l4), (0, .ref 131), (1, vi l1), (2, vi l2), (3, vi l3)] [] s _
      refine wr_n (pc2 := 162) (lv2 := [(6, vi l6), (5, vi l5), (4, vi l4), (0, .ref 131), (1, vi l1), (2, vi l2), (3, vi l3)]) (st2 := [.ref 131, vi l6, .ref 131]) 3 (fun _ _ => rfl) ?_
      refine wr_get (v := .ref C) rfl rfl rfl (by decide) (rv_ref (show (s.1) 131 1 = ((C : Nat) : Int) from hq)) fun h10 => ?_
      show wr (6 * n + 6) tb_M65 165 [(6, vi l6), (5, vi l5), (4, vi l4), (0, .ref 131), (1, vi l1), (2, vi l2), (3, vi l3)] [.ref C, vi l6, .ref 131] s _
      refine wr_n (pc2 := 166) (lv2 := [(6, vi l6), (5, vi l5), (4, vi l4), (0, .ref 131), (1, vi l1), (2, vi l2), (3, vi l3)]) (st2 := [vi l1, .ref C, vi l6, .ref 131]) 1 (fun _ _ => rfl) ?_
      refine wr_call1 (args := [vi l1]) (rest := [vi l6, .ref 131]) rfl rfl rfl (TK0 hC) (Nat.le_of_ble_eq_true rfl) (cr_mono (k_par (d := 6 * n + 5) (C := C) hC (x := l1) s hK (by omega)) ?_)
      rintro s11 out ⟨z11, rfl, hz11, hp11, e11⟩
      refine ⟨_, rfl, ?_⟩
      rw [e11]
      unfold i32 at hz11
      clear hp11
      show wr (6 * n + 6) tb_M65 169 [(6, vi l6), (5, vi l5), (4, vi l4), (0, .ref 131), (1, vi l1), (2, vi l2), (3, vi l3)] [vi z11, vi l6, .ref 131] s _
      by_cases h12 : l6 ≠ z11
      · refine wr_if2t rfl rfl (by unfold i32; omega) (by unfold i32; omega) h12 ?_
        refine wr_n (pc2 := 178) (lv2 := [(6, vi l6), (5, vi l5), (4, vi l4), (0, .ref 131), (1, vi l1), (2, vi l2), (3, vi l3)]) (st2 := [vi l2, vi 0, .ref 131]) 2 (fun _ _ => rfl) ?_
        refine wr_call1T (args := [vi 0, vi l2]) (rest := []) rfl rfl rfl rfl (Nat.le_of_ble_eq_true rfl) rfl (cr_mono (k_check (d := 6 * n + 5) (x := 0) (y := l2) s hK (by omega) (by omega)) ?_)
        rintro s13 out (⟨e13, hr13, rfl⟩ | ⟨hK13, hY13, rfl, hc13⟩)
        · exact absurd rfl hr13
        · refine .inr ⟨rfl, ?_⟩
          exact ⟨hK13, (FX_tr hX hY13), .inr ⟨rfl, TH hc hc13⟩⟩
      · refine wr_if2f rfl rfl (by unfold i32; omega) (by unfold i32; omega) h12 ?_
        refine wr_n (pc2 := 178) (lv2 := [(6, vi l6), (5, vi l5), (4, vi l4), (0, .ref 131), (1, vi l1), (2, vi l2), (3, vi l3)]) (st2 := [vi l2, vi 1, .ref 131]) 3 (fun _ _ => rfl) ?_
        refine wr_call1T (args := [vi 1, vi l2]) (rest := []) rfl rfl rfl rfl (Nat.le_of_ble_eq_true rfl) rfl (cr_mono (k_check (d := 6 * n + 5) (x := 1) (y := l2) s hK (by omega) (by omega)) ?_)
        rintro s14 out (⟨e14, hr14, rfl⟩ | ⟨hK14, hY14, rfl, hc14⟩)
        · refine .inl ⟨_, rfl, ?_⟩
          rw [e14]
          show wr (6 * n + 6) tb_M65 181 [(6, vi l6), (5, vi l5), (4, vi l4), (0, .ref 131), (1, vi l1), (2, vi l2), (3, vi l3)] [] s _
          refine wr_n (pc2 := 182) (lv2 := [(6, vi l6), (5, vi l5), (4, vi l4), (0, .ref 131), (1, vi l1), (2, vi l2), (3, vi l3)]) (st2 := [.ref 131]) 1 (fun _ _ => rfl) ?_
          refine wr_get (v := .ref 137) rfl rfl rfl (by decide) (rv_ref (hK.1 131 0 137 rfl)) fun h15 => ?_
          show wr (6 * n + 6) tb_M65 185 [(6, vi l6), (5, vi l5), (4, vi l4), (0, .ref 131), (1, vi l1), (2, vi l2), (3, vi l3)] [.ref 137] s _
          refine wr_call1 (args := []) (rest := []) rfl rfl rfl rfl (Nat.le_of_ble_eq_true rfl) (cr_mono (k_step (d := 6 * n + 5) s hK) ?_)
          rintro s16 out ⟨hK16, hY16, hc16, rfl⟩
          refine ⟨_, rfl, ?_⟩
          have hX16 : FX s0.1 s16.1 := FX_tr hX hY16
          have hC16 : s16.2 = s0.2 := hc16.trans hc
          have hq16 : s16.1 131 1 = (C : Int) := (hY16 131 1 (by unfold fx; omega)).trans hq
          show wr (6 * n + 6) tb_M65 188 [(6, vi l6), (5, vi l5), (4, vi l4), (0, .ref 131), (1, vi l1), (2, vi l2), (3, vi l3)] [] s16 _
          refine wr_n (pc2 := 190) (lv2 := [(6, vi l6), (5, vi l5), (4, vi l4), (0, .ref 131), (1, vi l1), (2, vi l2), (3, vi l3)]) (st2 := [.ref 131, .ref 131]) 2 (fun _ _ => rfl) ?_
          refine wr_get (v := vl (s16.1 131 7)) rfl rfl rfl (by decide) rfl fun h17 => ?_
          show wr (6 * n + 6) tb_M65 193 [(6, vi l6), (5, vi l5), (4, vi l4), (0, .ref 131), (1, vi l1), (2, vi l2), (3, vi l3)] [vl (s16.1 131 7), .ref 131] s16 _
          refine wr_n (pc2 := 194) (lv2 := [(6, vi l6), (5, vi l5), (4, vi l4), (0, .ref 131), (1, vi l1), (2, vi l2), (3, vi l3)]) (st2 := [.ref 131, vl (s16.1 131 7), .ref 131]) 1 (fun _ _ => rfl) ?_
          refine wr_get (v := .ref 134) rfl rfl rfl (by decide) (rv_ref (hK16.1 131 10 134 rfl)) fun h18 => ?_
          show wr (6 * n + 6) tb_M65 197 [(6, vi l6), (5, vi l5), (4, vi l4), (0, .ref 131), (1, vi l1), (2, vi l2), (3, vi l3)] [.ref 134, vl (s16.1 131 7), .ref 131] s16 _
          refine wr_n (pc2 := 198) (lv2 := [(6, vi l6), (5, vi l5), (4, vi l4), (0, .ref 131), (1, vi l1), (2, vi l2), (3, vi l3)]) (st2 := [vi l1, .ref 134, vl (s16.1 131 7), .ref 131]) 1 (fun _ _ => rfl) ?_
          refine wr_ald (a := l1) (v := vl (s16.1 134 l1.toNat)) rfl rfl rfl (by omega) (by omega) (by decide) rfl fun h19 => ?_
          show wr (6 * n + 6) tb_M65 199 [(6, vi l6), (5, vi l5), (4, vi l4), (0, .ref 131), (1, vi l1), (2, vi l2), (3, vi l3)] [vl (s16.1 134 l1.toNat), vl (s16.1 131 7), .ref 131] s16 _
          refine wr_anyl (a := s16.1 131 7) (b := s16.1 134 l1.toNat) rfl rfl fun z20 h21 _ => ?_
          show wr (6 * n + 6) tb_M65 200 [(6, vi l6), (5, vi l5), (4, vi l4), (0, .ref 131), (1, vi l1), (2, vi l2), (3, vi l3)] [vl z20, .ref 131] s16 _
          refine wr_put (z := z20) rfl rfl rfl rfl (by decide) rfl (by decide) rfl h21 (fit_l _) ?_
          show wr (6 * n + 6) tb_M65 203 [(6, vi l6), (5, vi l5), (4, vi l4), (0, .ref 131), (1, vi l1), (2, vi l2), (3, vi l3)] [] (up2 s16.1 131 7 z20, s16.2) _
          have hK22 : KI (up2 s16.1 131 7 z20) := (KI_up hK16 rfl (kb_no rfl))
          refine wr_n (pc2 := 205) (lv2 := [(6, vi l6), (5, vi l5), (4, vi l4), (0, .ref 131), (1, vi l1), (2, vi l2), (3, vi l3)]) (st2 := [.ref 131, .ref 131]) 2 (fun _ _ => rfl) ?_
          refine wr_get (v := vl (s16.1 131 8)) rfl rfl rfl (by decide) rfl fun h23 => ?_
          show wr (6 * n + 6) tb_M65 208 [(6, vi l6), (5, vi l5), (4, vi l4), (0, .ref 131), (1, vi l1), (2, vi l2), (3, vi l3)] [vl (s16.1 131 8), .ref 131] (up2 s16.1 131 7 z20, s16.2) _
          refine wr_n (pc2 := 209) (lv2 := [(6, vi l6), (5, vi l5), (4, vi l4), (0, .ref 131), (1, vi l1), (2, vi l2), (3, vi l3)]) (st2 := [.ref 131, vl (s16.1 131 8), .ref 131]) 1 (fun _ _ => rfl) ?_
          refine wr_get (v := .ref 135) rfl rfl rfl (by decide) (rv_ref (hK22.1 131 11 135 rfl)) fun h24 => ?_
          show wr (6 * n + 6) tb_M65 212 [(6, vi l6), (5, vi l5), (4, vi l4), (0, .ref 131), (1, vi l1), (2, vi l2), (3, vi l3)] [.ref 135, vl (s16.1 131 8), .ref 131] (up2 s16.1 131 7 z20, s16.2) _
          refine wr_n (pc2 := 213) (lv2 := [(6, vi l6), (5, vi l5), (4, vi l4), (0, .ref 131), (1, vi l1), (2, vi l2), (3, vi l3)]) (st2 := [vi l1, .ref 135, vl (s16.1 131 8), .ref 131]) 1 (fun _ _ => rfl) ?_
          refine wr_ald (a := l1) (v := vl (s16.1 135 l1.toNat)) rfl rfl rfl (by omega) (by omega) (by decide) rfl fun h25 => ?_
          show wr (6 * n + 6) tb_M65 214 [(6, vi l6), (5, vi l5), (4, vi l4), (0, .ref 131), (1, vi l1), (2, vi l2), (3, vi l3)] [vl (s16.1 135 l1.toNat), vl (s16.1 131 8), .ref 131] (up2 s16.1 131 7 z20, s16.2) _
          refine wr_anyl (a := s16.1 131 8) (b := s16.1 135 l1.toNat) rfl rfl fun z26 h27 _ => ?_
          show wr (6 * n + 6) tb_M65 215 [(6, vi l6), (5, vi l5), (4, vi l4), (0, .ref 131), (1, vi l1), (2, vi l2), (3, vi l3)] [vl z26, .ref 131] (up2 s16.1 131 7 z20, s16.2) _
          refine wr_put (z := z26) rfl rfl rfl rfl (by decide) rfl (by decide) rfl h27 (fit_l _) ?_
          show wr (6 * n + 6) tb_M65 218 [(6, vi l6), (5, vi l5), (4, vi l4), (0, .ref 131), (1, vi l1), (2, vi l2), (3, vi l3)] [] (up2 (up2 s16.1 131 7 z20) 131 8 z26, s16.2) _
          have hK28 : KI (up2 (up2 s16.1 131 7 z20) 131 8 z26) := (KI_up (KI_up hK16 rfl (kb_no rfl)) rfl (kb_no rfl))
          refine wr_n (pc2 := 220) (lv2 := [(6, vi l6), (5, vi l5), (4, vi l4), (0, .ref 131), (1, vi l1), (2, vi l2), (3, vi l3)]) (st2 := [.ref 131, .ref 131]) 2 (fun _ _ => rfl) ?_
          refine wr_get (v := vl (s16.1 131 9)) rfl rfl rfl (by decide) rfl fun h29 => ?_
          show wr (6 * n + 6) tb_M65 223 [(6, vi l6), (5, vi l5), (4, vi l4), (0, .ref 131), (1, vi l1), (2, vi l2), (3, vi l3)] [vl (s16.1 131 9), .ref 131] (up2 (up2 s16.1 131 7 z20) 131 8 z26, s16.2) _
          refine wr_n (pc2 := 224) (lv2 := [(6, vi l6), (5, vi l5), (4, vi l4), (0, .ref 131), (1, vi l1), (2, vi l2), (3, vi l3)]) (st2 := [.ref 131, vl (s16.1 131 9), .ref 131]) 1 (fun _ _ => rfl) ?_
          refine wr_get (v := .ref 136) rfl rfl rfl (by decide) (rv_ref (hK28.1 131 12 136 rfl)) fun h30 => ?_
          show wr (6 * n + 6) tb_M65 227 [(6, vi l6), (5, vi l5), (4, vi l4), (0, .ref 131), (1, vi l1), (2, vi l2), (3, vi l3)] [.ref 136, vl (s16.1 131 9), .ref 131] (up2 (up2 s16.1 131 7 z20) 131 8 z26, s16.2) _
          refine wr_n (pc2 := 228) (lv2 := [(6, vi l6), (5, vi l5), (4, vi l4), (0, .ref 131), (1, vi l1), (2, vi l2), (3, vi l3)]) (st2 := [vi l1, .ref 136, vl (s16.1 131 9), .ref 131]) 1 (fun _ _ => rfl) ?_
          refine wr_ald (a := l1) (v := vl (s16.1 136 l1.toNat)) rfl rfl rfl (by omega) (by omega) (by decide) rfl fun h31 => ?_
          show wr (6 * n + 6) tb_M65 229 [(6, vi l6), (5, vi l5), (4, vi l4), (0, .ref 131), (1, vi l1), (2, vi l2), (3, vi l3)] [vl (s16.1 136 l1.toNat), vl (s16.1 131 9), .ref 131] (up2 (up2 s16.1 131 7 z20) 131 8 z26, s16.2) _
          refine wr_n (pc2 := 233) (lv2 := [(6, vi l6), (5, vi l5), (4, vi l4), (0, .ref 131), (1, vi l1), (2, vi l2), (3, vi l3)]) (st2 := [vi l1, vi 24, vl 1, vl (s16.1 136 l1.toNat), vl (s16.1 131 9), .ref 131]) 3 (fun _ _ => rfl) ?_
          refine wr_add (a := 24) (b := l1) rfl ?_
          show wr (6 * n + 6) tb_M65 234 [(6, vi l6), (5, vi l5), (4, vi l4), (0, .ref 131), (1, vi l1), (2, vi l2), (3, vi l3)] [vi (24 + l1), vl 1, vl (s16.1 136 l1.toNat), vl (s16.1 131 9), .ref 131] (up2 (up2 s16.1 131 7 z20) 131 8 z26, s16.2) _
          refine wr_lshl (a := 1) (b := 24 + l1) rfl fun z32 h33 _ => ?_
          show wr (6 * n + 6) tb_M65 235 [(6, vi l6), (5, vi l5), (4, vi l4), (0, .ref 131), (1, vi l1), (2, vi l2), (3, vi l3)] [vl z32, vl (s16.1 136 l1.toNat), vl (s16.1 131 9), .ref 131] (up2 (up2 s16.1 131 7 z20) 131 8 z26, s16.2) _
          refine wr_anyl (a := s16.1 136 l1.toNat) (b := z32) rfl rfl fun z34 h35 _ => ?_
          show wr (6 * n + 6) tb_M65 236 [(6, vi l6), (5, vi l5), (4, vi l4), (0, .ref 131), (1, vi l1), (2, vi l2), (3, vi l3)] [vl z34, vl (s16.1 131 9), .ref 131] (up2 (up2 s16.1 131 7 z20) 131 8 z26, s16.2) _
          refine wr_anyl (a := s16.1 131 9) (b := z34) rfl rfl fun z36 h37 _ => ?_
          show wr (6 * n + 6) tb_M65 237 [(6, vi l6), (5, vi l5), (4, vi l4), (0, .ref 131), (1, vi l1), (2, vi l2), (3, vi l3)] [vl z36, .ref 131] (up2 (up2 s16.1 131 7 z20) 131 8 z26, s16.2) _
          refine wr_put (z := z36) rfl rfl rfl rfl (by decide) rfl (by decide) rfl h37 (fit_l _) ?_
          show wr (6 * n + 6) tb_M65 240 [(6, vi l6), (5, vi l5), (4, vi l4), (0, .ref 131), (1, vi l1), (2, vi l2), (3, vi l3)] [] (up2 (up2 (up2 s16.1 131 7 z20) 131 8 z26) 131 9 z36, s16.2) _
          have hK38 : KI (up2 (up2 (up2 s16.1 131 7 z20) 131 8 z26) 131 9 z36) := (KI_up (KI_up (KI_up hK16 rfl (kb_no rfl)) rfl (kb_no rfl)) rfl (kb_no rfl))
          refine wr_n (pc2 := 241) (lv2 := [(6, vi l6), (5, vi l5), (4, vi l4), (0, .ref 131), (1, vi l1), (2, vi l2), (3, vi l3)]) (st2 := [.ref 131]) 1 (fun _ _ => rfl) ?_
          refine wr_get (v := .ref C) rfl rfl rfl (by decide) (rv_ref (show (up2 (up2 (up2 s16.1 131 7 z20) 131 8 z26) 131 9 z36) 131 1 = ((C : Nat) : Int) from (show (up2 (up2 (up2 s16.1 131 7 z20) 131 8 z26) 131 9 z36) 131 1 = ((C : Nat) : Int) from ((if_neg (by omega)).trans ((if_neg (by omega)).trans ((if_neg (by omega)).trans hq16)))))) fun h39 => ?_
          show wr (6 * n + 6) tb_M65 244 [(6, vi l6), (5, vi l5), (4, vi l4), (0, .ref 131), (1, vi l1), (2, vi l2), (3, vi l3)] [.ref C] (up2 (up2 (up2 s16.1 131 7 z20) 131 8 z26) 131 9 z36, s16.2) _
          refine wr_n (pc2 := 252) (lv2 := [(6, vi l6), (5, vi l5), (4, vi l4), (0, .ref 131), (1, vi l1), (2, vi l2), (3, vi l3)]) (st2 := [vi l6, vi l4, vi l1, vi 404, .ref C]) 4 (fun _ _ => rfl) ?_
          refine wr_call1 (args := [vi 404, vi l1, vi l4, vi l6]) (rest := []) rfl rfl rfl (TK0 hC) (Nat.le_of_ble_eq_true rfl) (cr_mono (k_cadd (d := 6 * n + 5) (C := C) hC (x := 404) (y := l1) (u := l4) (v := l6) (up2 (up2 (up2 s16.1 131 7 z20) 131 8 z26) 131 9 z36, s16.2) hK38 (by omega) (by omega) (by omega) (by omega)) ?_)
          rintro s40 out ⟨hK40, hY40, hc40, ha40, z40, rfl, hz40, hp40⟩
          refine ⟨_, rfl, ?_⟩
          have hX40 : FX s0.1 s40.1 := FX_tr (FX_up (FX_up (FX_up hX16 (by unfold fx; omega)) (by unfold fx; omega)) (by unfold fx; omega)) hY40
          have hC40 : s40.2 = s0.2 := hc40.trans hC16
          have hq40 : s40.1 131 1 = (C : Int) := (hY40 131 1 (by unfold fx; omega)).trans (show (up2 (up2 (up2 s16.1 131 7 z20) 131 8 z26) 131 9 z36) 131 1 = ((C : Nat) : Int) from ((if_neg (by omega)).trans ((if_neg (by omega)).trans ((if_neg (by omega)).trans hq16))))
          unfold i32 at hz40
          clear hp40
          show wr (6 * n + 6) tb_M65 255 [(6, vi l6), (5, vi l5), (4, vi l4), (0, .ref 131), (1, vi l1), (2, vi l2), (3, vi l3)] [vi z40] s40 _
          refine wr_reti rfl rfl ?_
          exact ⟨hK40, hX40, .inl ⟨z40, hC40, rfl, by unfold i32; omega, trivial⟩⟩
        · refine .inr ⟨rfl, ?_⟩
          exact ⟨hK14, (FX_tr hX hY14), .inr ⟨rfl, TH hc hc14⟩⟩
    · refine .inr ⟨rfl, ?_⟩
      exact ⟨hK9, (FX_tr hX hY9), .inr ⟨rfl, TH hc hc9⟩⟩
set_option maxHeartbeats 20000000 in
set_option maxRecDepth 100000 in
theorem k_call_130v2 {s0 : rS} {C : Nat} (hC : C = 99 ∨ C = 115) {n : Nat} (hEx : CEx n)  (l6 : Int) (l5 : Int) (l4 : Int) (l7 : Int) (l1 : Int) (l2 : Int) (l3 : Int) (s : rS) (hK : KI s.1) (hq : s.1 131 1 = (C : Int)) (hX : FX s0.1 s.1) (hc : s.2 = s0.2) (hl6 : 0 ≤ l6 ∧ l6 ≤ 2000) (hl5 : (-2147483648) ≤ l5 ∧ l5 ≤ 2147483647) (hl4 : (-2147483648) ≤ l4 ∧ l4 ≤ 2147483647) (hl7 : (-2147483648) ≤ l7 ∧ l7 ≤ 2147483647) (hl1 : 0 ≤ l1 ∧ l1 ≤ 11) (hl2 : (-2147483648) ≤ l2 ∧ l2 ≤ 2147483647) (hl3 : (-2147483648) ≤ l3 ∧ l3 ≤ 2147483647)   : wr (6 * n + 6) tb_M65 130 [(6, vi l6), (5, vi l5), (4, vi l4), (7, vi l7), (0, .ref 131), (1, vi l1), (2, vi l2), (3, vi l3)] [] s (TZ (fun z => True) s0) := by
  refine wr_n (pc2 := 132) (lv2 := [(6, vi l6), (5, vi l5), (4, vi l4), (7, vi l7), (0, .ref 131), (1, vi l1), (2, vi l2), (3, vi l3)]) (st2 := [.ref 131, .ref 131]) 2 (fun _ _ => rfl) ?_
  refine wr_get (v := .ref 137) rfl rfl rfl (by decide) (rv_ref (hK.1 131 0 137 rfl)) fun h1 => ?_
  show wr (6 * n + 6) tb_M65 135 [(6, vi l6), (5, vi l5), (4, vi l4), (7, vi l7), (0, .ref 131), (1, vi l1), (2, vi l2), (3, vi l3)] [.ref 137, .ref 131] s _
  refine wr_call1 (args := []) (rest := [.ref 131]) rfl rfl rfl rfl (Nat.le_of_ble_eq_true rfl) (cr_mono (k_kind (d := 6 * n + 5) s hK) ?_)
  rintro s2 out ⟨z2, rfl, hz2, hp2, e2⟩
  refine ⟨_, rfl, ?_⟩
  rw [e2]
  unfold i32 at hz2
  clear hp2
  show wr (6 * n + 6) tb_M65 138 [(6, vi l6), (5, vi l5), (4, vi l4), (7, vi l7), (0, .ref 131), (1, vi l1), (2, vi l2), (3, vi l3)] [vi z2, .ref 131] s _
  refine wr_n (pc2 := 140) (lv2 := [(6, vi l6), (5, vi l5), (4, vi l4), (7, vi l7), (0, .ref 131), (1, vi l1), (2, vi l2), (3, vi l3)]) (st2 := [vi 41, vi z2, .ref 131]) 1 (fun _ _ => rfl) ?_
  by_cases h3 : z2 ≠ 41
  · refine wr_if2t rfl rfl (by unfold i32; omega) (by unfold i32; omega) h3 ?_
    refine wr_n (pc2 := 149) (lv2 := [(6, vi l6), (5, vi l5), (4, vi l4), (7, vi l7), (0, .ref 131), (1, vi l1), (2, vi l2), (3, vi l3)]) (st2 := [.ref 131, vi 0, .ref 131]) 2 (fun _ _ => rfl) ?_
    refine wr_get (v := .ref 137) rfl rfl rfl (by decide) (rv_ref (hK.1 131 0 137 rfl)) fun h4 => ?_
    show wr (6 * n + 6) tb_M65 152 [(6, vi l6), (5, vi l5), (4, vi l4), (7, vi l7), (0, .ref 131), (1, vi l1), (2, vi l2), (3, vi l3)] [.ref 137, vi 0, .ref 131] s _
    refine wr_call1 (args := []) (rest := [vi 0, .ref 131]) rfl rfl rfl rfl (Nat.le_of_ble_eq_true rfl) (cr_mono (k_place (d := 6 * n + 5) s hK) ?_)
    rintro s5 out ⟨z5, rfl, hz5, hp5, e5⟩
    refine ⟨_, rfl, ?_⟩
    rw [e5]
    unfold i32 at hz5
    clear hp5
    show wr (6 * n + 6) tb_M65 155 [(6, vi l6), (5, vi l5), (4, vi l4), (7, vi l7), (0, .ref 131), (1, vi l1), (2, vi l2), (3, vi l3)] [vi z5, vi 0, .ref 131] s _
    refine wr_call1T (args := [vi 0, vi z5]) (rest := []) rfl rfl rfl rfl (Nat.le_of_ble_eq_true rfl) rfl (cr_mono (k_check (d := 6 * n + 5) (x := 0) (y := z5) s hK (by omega) (by omega)) ?_)
    rintro s6 out (⟨e6, hr6, rfl⟩ | ⟨hK6, hY6, rfl, hc6⟩)
    · exact absurd rfl hr6
    · refine .inr ⟨rfl, ?_⟩
      exact ⟨hK6, (FX_tr hX hY6), .inr ⟨rfl, TH hc hc6⟩⟩
  · refine wr_if2f rfl rfl (by unfold i32; omega) (by unfold i32; omega) h3 ?_
    refine wr_n (pc2 := 149) (lv2 := [(6, vi l6), (5, vi l5), (4, vi l4), (7, vi l7), (0, .ref 131), (1, vi l1), (2, vi l2), (3, vi l3)]) (st2 := [.ref 131, vi 1, .ref 131]) 3 (fun _ _ => rfl) ?_
    refine wr_get (v := .ref 137) rfl rfl rfl (by decide) (rv_ref (hK.1 131 0 137 rfl)) fun h7 => ?_
    show wr (6 * n + 6) tb_M65 152 [(6, vi l6), (5, vi l5), (4, vi l4), (7, vi l7), (0, .ref 131), (1, vi l1), (2, vi l2), (3, vi l3)] [.ref 137, vi 1, .ref 131] s _
    refine wr_call1 (args := []) (rest := [vi 1, .ref 131]) rfl rfl rfl rfl (Nat.le_of_ble_eq_true rfl) (cr_mono (k_place (d := 6 * n + 5) s hK) ?_)
    rintro s8 out ⟨z8, rfl, hz8, hp8, e8⟩
    refine ⟨_, rfl, ?_⟩
    rw [e8]
    unfold i32 at hz8
    clear hp8
    show wr (6 * n + 6) tb_M65 155 [(6, vi l6), (5, vi l5), (4, vi l4), (7, vi l7), (0, .ref 131), (1, vi l1), (2, vi l2), (3, vi l3)] [vi z8, vi 1, .ref 131] s _
    refine wr_call1T (args := [vi 1, vi z8]) (rest := []) rfl rfl rfl rfl (Nat.le_of_ble_eq_true rfl) rfl (cr_mono (k_check (d := 6 * n + 5) (x := 1) (y := z8) s hK (by omega) (by omega)) ?_)
    rintro s9 out (⟨e9, hr9, rfl⟩ | ⟨hK9, hY9, rfl, hc9⟩)
    · refine .inl ⟨_, rfl, ?_⟩
      rw [e9]
      show wr (6 * n + 6) tb_M65 158 [(6, vi l6), (5, vi l5), (4, vi l4), (7, vi l7), (0, .ref 131), (1, vi l1), (2, vi l2), (3, vi l3)] [] s _
      refine wr_n (pc2 := 162) (lv2 := [(6, vi l6), (5, vi l5), (4, vi l4), (7, vi l7), (0, .ref 131), (1, vi l1), (2, vi l2), (3, vi l3)]) (st2 := [.ref 131, vi l6, .ref 131]) 3 (fun _ _ => rfl) ?_
      refine wr_get (v := .ref C) rfl rfl rfl (by decide) (rv_ref (show (s.1) 131 1 = ((C : Nat) : Int) from hq)) fun h10 => ?_
      show wr (6 * n + 6) tb_M65 165 [(6, vi l6), (5, vi l5), (4, vi l4), (7, vi l7), (0, .ref 131), (1, vi l1), (2, vi l2), (3, vi l3)] [.ref C, vi l6, .ref 131] s _
      refine wr_n (pc2 := 166) (lv2 := [(6, vi l6), (5, vi l5), (4, vi l4), (7, vi l7), (0, .ref 131), (1, vi l1), (2, vi l2), (3, vi l3)]) (st2 := [vi l1, .ref C, vi l6, .ref 131]) 1 (fun _ _ => rfl) ?_
      refine wr_call1 (args := [vi l1]) (rest := [vi l6, .ref 131]) rfl rfl rfl (TK0 hC) (Nat.le_of_ble_eq_true rfl) (cr_mono (k_par (d := 6 * n + 5) (C := C) hC (x := l1) s hK (by omega)) ?_)
      rintro s11 out ⟨z11, rfl, hz11, hp11, e11⟩
      refine ⟨_, rfl, ?_⟩
      rw [e11]
      unfold i32 at hz11
      clear hp11
      show wr (6 * n + 6) tb_M65 169 [(6, vi l6), (5, vi l5), (4, vi l4), (7, vi l7), (0, .ref 131), (1, vi l1), (2, vi l2), (3, vi l3)] [vi z11, vi l6, .ref 131] s _
      by_cases h12 : l6 ≠ z11
      · refine wr_if2t rfl rfl (by unfold i32; omega) (by unfold i32; omega) h12 ?_
        refine wr_n (pc2 := 178) (lv2 := [(6, vi l6), (5, vi l5), (4, vi l4), (7, vi l7), (0, .ref 131), (1, vi l1), (2, vi l2), (3, vi l3)]) (st2 := [vi l2, vi 0, .ref 131]) 2 (fun _ _ => rfl) ?_
        refine wr_call1T (args := [vi 0, vi l2]) (rest := []) rfl rfl rfl rfl (Nat.le_of_ble_eq_true rfl) rfl (cr_mono (k_check (d := 6 * n + 5) (x := 0) (y := l2) s hK (by omega) (by omega)) ?_)
        rintro s13 out (⟨e13, hr13, rfl⟩ | ⟨hK13, hY13, rfl, hc13⟩)
        · exact absurd rfl hr13
        · refine .inr ⟨rfl, ?_⟩
          exact ⟨hK13, (FX_tr hX hY13), .inr ⟨rfl, TH hc hc13⟩⟩
      · refine wr_if2f rfl rfl (by unfold i32; omega) (by unfold i32; omega) h12 ?_
        refine wr_n (pc2 := 178) (lv2 := [(6, vi l6), (5, vi l5), (4, vi l4), (7, vi l7), (0, .ref 131), (1, vi l1), (2, vi l2), (3, vi l3)]) (st2 := [vi l2, vi 1, .ref 131]) 3 (fun _ _ => rfl) ?_
        refine wr_call1T (args := [vi 1, vi l2]) (rest := []) rfl rfl rfl rfl (Nat.le_of_ble_eq_true rfl) rfl (cr_mono (k_check (d := 6 * n + 5) (x := 1) (y := l2) s hK (by omega) (by omega)) ?_)
        rintro s14 out (⟨e14, hr14, rfl⟩ | ⟨hK14, hY14, rfl, hc14⟩)
        · refine .inl ⟨_, rfl, ?_⟩
          rw [e14]
          show wr (6 * n + 6) tb_M65 181 [(6, vi l6), (5, vi l5), (4, vi l4), (7, vi l7), (0, .ref 131), (1, vi l1), (2, vi l2), (3, vi l3)] [] s _
          refine wr_n (pc2 := 182) (lv2 := [(6, vi l6), (5, vi l5), (4, vi l4), (7, vi l7), (0, .ref 131), (1, vi l1), (2, vi l2), (3, vi l3)]) (st2 := [.ref 131]) 1 (fun _ _ => rfl) ?_
          refine wr_get (v := .ref 137) rfl rfl rfl (by decide) (rv_ref (hK.1 131 0 137 rfl)) fun h15 => ?_
          show wr (6 * n + 6) tb_M65 185 [(6, vi l6), (5, vi l5), (4, vi l4), (7, vi l7), (0, .ref 131), (1, vi l1), (2, vi l2), (3, vi l3)] [.ref 137] s _
          refine wr_call1 (args := []) (rest := []) rfl rfl rfl rfl (Nat.le_of_ble_eq_true rfl) (cr_mono (k_step (d := 6 * n + 5) s hK) ?_)
          rintro s16 out ⟨hK16, hY16, hc16, rfl⟩
          refine ⟨_, rfl, ?_⟩
          have hX16 : FX s0.1 s16.1 := FX_tr hX hY16
          have hC16 : s16.2 = s0.2 := hc16.trans hc
          have hq16 : s16.1 131 1 = (C : Int) := (hY16 131 1 (by unfold fx; omega)).trans hq
          show wr (6 * n + 6) tb_M65 188 [(6, vi l6), (5, vi l5), (4, vi l4), (7, vi l7), (0, .ref 131), (1, vi l1), (2, vi l2), (3, vi l3)] [] s16 _
          refine wr_n (pc2 := 190) (lv2 := [(6, vi l6), (5, vi l5), (4, vi l4), (7, vi l7), (0, .ref 131), (1, vi l1), (2, vi l2), (3, vi l3)]) (st2 := [.ref 131, .ref 131]) 2 (fun _ _ => rfl) ?_
          refine wr_get (v := vl (s16.1 131 7)) rfl rfl rfl (by decide) rfl fun h17 => ?_
          show wr (6 * n + 6) tb_M65 193 [(6, vi l6), (5, vi l5), (4, vi l4), (7, vi l7), (0, .ref 131), (1, vi l1), (2, vi l2), (3, vi l3)] [vl (s16.1 131 7), .ref 131] s16 _
          refine wr_n (pc2 := 194) (lv2 := [(6, vi l6), (5, vi l5), (4, vi l4), (7, vi l7), (0, .ref 131), (1, vi l1), (2, vi l2), (3, vi l3)]) (st2 := [.ref 131, vl (s16.1 131 7), .ref 131]) 1 (fun _ _ => rfl) ?_
          refine wr_get (v := .ref 134) rfl rfl rfl (by decide) (rv_ref (hK16.1 131 10 134 rfl)) fun h18 => ?_
          show wr (6 * n + 6) tb_M65 197 [(6, vi l6), (5, vi l5), (4, vi l4), (7, vi l7), (0, .ref 131), (1, vi l1), (2, vi l2), (3, vi l3)] [.ref 134, vl (s16.1 131 7), .ref 131] s16 _
          refine wr_n (pc2 := 198) (lv2 := [(6, vi l6), (5, vi l5), (4, vi l4), (7, vi l7), (0, .ref 131), (1, vi l1), (2, vi l2), (3, vi l3)]) (st2 := [vi l1, .ref 134, vl (s16.1 131 7), .ref 131]) 1 (fun _ _ => rfl) ?_
          refine wr_ald (a := l1) (v := vl (s16.1 134 l1.toNat)) rfl rfl rfl (by omega) (by omega) (by decide) rfl fun h19 => ?_
          show wr (6 * n + 6) tb_M65 199 [(6, vi l6), (5, vi l5), (4, vi l4), (7, vi l7), (0, .ref 131), (1, vi l1), (2, vi l2), (3, vi l3)] [vl (s16.1 134 l1.toNat), vl (s16.1 131 7), .ref 131] s16 _
          refine wr_anyl (a := s16.1 131 7) (b := s16.1 134 l1.toNat) rfl rfl fun z20 h21 _ => ?_
          show wr (6 * n + 6) tb_M65 200 [(6, vi l6), (5, vi l5), (4, vi l4), (7, vi l7), (0, .ref 131), (1, vi l1), (2, vi l2), (3, vi l3)] [vl z20, .ref 131] s16 _
          refine wr_put (z := z20) rfl rfl rfl rfl (by decide) rfl (by decide) rfl h21 (fit_l _) ?_
          show wr (6 * n + 6) tb_M65 203 [(6, vi l6), (5, vi l5), (4, vi l4), (7, vi l7), (0, .ref 131), (1, vi l1), (2, vi l2), (3, vi l3)] [] (up2 s16.1 131 7 z20, s16.2) _
          have hK22 : KI (up2 s16.1 131 7 z20) := (KI_up hK16 rfl (kb_no rfl))
          refine wr_n (pc2 := 205) (lv2 := [(6, vi l6), (5, vi l5), (4, vi l4), (7, vi l7), (0, .ref 131), (1, vi l1), (2, vi l2), (3, vi l3)]) (st2 := [.ref 131, .ref 131]) 2 (fun _ _ => rfl) ?_
          refine wr_get (v := vl (s16.1 131 8)) rfl rfl rfl (by decide) rfl fun h23 => ?_
          show wr (6 * n + 6) tb_M65 208 [(6, vi l6), (5, vi l5), (4, vi l4), (7, vi l7), (0, .ref 131), (1, vi l1), (2, vi l2), (3, vi l3)] [vl (s16.1 131 8), .ref 131] (up2 s16.1 131 7 z20, s16.2) _
          refine wr_n (pc2 := 209) (lv2 := [(6, vi l6), (5, vi l5), (4, vi l4), (7, vi l7), (0, .ref 131), (1, vi l1), (2, vi l2), (3, vi l3)]) (st2 := [.ref 131, vl (s16.1 131 8), .ref 131]) 1 (fun _ _ => rfl) ?_
          refine wr_get (v := .ref 135) rfl rfl rfl (by decide) (rv_ref (hK22.1 131 11 135 rfl)) fun h24 => ?_
          show wr (6 * n + 6) tb_M65 212 [(6, vi l6), (5, vi l5), (4, vi l4), (7, vi l7), (0, .ref 131), (1, vi l1), (2, vi l2), (3, vi l3)] [.ref 135, vl (s16.1 131 8), .ref 131] (up2 s16.1 131 7 z20, s16.2) _
          refine wr_n (pc2 := 213) (lv2 := [(6, vi l6), (5, vi l5), (4, vi l4), (7, vi l7), (0, .ref 131), (1, vi l1), (2, vi l2), (3, vi l3)]) (st2 := [vi l1, .ref 135, vl (s16.1 131 8), .ref 131]) 1 (fun _ _ => rfl) ?_
          refine wr_ald (a := l1) (v := vl (s16.1 135 l1.toNat)) rfl rfl rfl (by omega) (by omega) (by decide) rfl fun h25 => ?_
          show wr (6 * n + 6) tb_M65 214 [(6, vi l6), (5, vi l5), (4, vi l4), (7, vi l7), (0, .ref 131), (1, vi l1), (2, vi l2), (3, vi l3)] [vl (s16.1 135 l1.toNat), vl (s16.1 131 8), .ref 131] (up2 s16.1 131 7 z20, s16.2) _
          refine wr_anyl (a := s16.1 131 8) (b := s16.1 135 l1.toNat) rfl rfl fun z26 h27 _ => ?_
          show wr (6 * n + 6) tb_M65 215 [(6, vi l6), (5, vi l5), (4, vi l4), (7, vi l7), (0, .ref 131), (1, vi l1), (2, vi l2), (3, vi l3)] [vl z26, .ref 131] (up2 s16.1 131 7 z20, s16.2) _
          refine wr_put (z := z26) rfl rfl rfl rfl (by decide) rfl (by decide) rfl h27 (fit_l _) ?_
          show wr (6 * n + 6) tb_M65 218 [(6, vi l6), (5, vi l5), (4, vi l4), (7, vi l7), (0, .ref 131), (1, vi l1), (2, vi l2), (3, vi l3)] [] (up2 (up2 s16.1 131 7 z20) 131 8 z26, s16.2) _
          have hK28 : KI (up2 (up2 s16.1 131 7 z20) 131 8 z26) := (KI_up (KI_up hK16 rfl (kb_no rfl)) rfl (kb_no rfl))
          refine wr_n (pc2 := 220) (lv2 := [(6, vi l6), (5, vi l5), (4, vi l4), (7, vi l7), (0, .ref 131), (1, vi l1), (2, vi l2), (3, vi l3)]) (st2 := [.ref 131, .ref 131]) 2 (fun _ _ => rfl) ?_
          refine wr_get (v := vl (s16.1 131 9)) rfl rfl rfl (by decide) rfl fun h29 => ?_
          show wr (6 * n + 6) tb_M65 223 [(6, vi l6), (5, vi l5), (4, vi l4), (7, vi l7), (0, .ref 131), (1, vi l1), (2, vi l2), (3, vi l3)] [vl (s16.1 131 9), .ref 131] (up2 (up2 s16.1 131 7 z20) 131 8 z26, s16.2) _
          refine wr_n (pc2 := 224) (lv2 := [(6, vi l6), (5, vi l5), (4, vi l4), (7, vi l7), (0, .ref 131), (1, vi l1), (2, vi l2), (3, vi l3)]) (st2 := [.ref 131, vl (s16.1 131 9), .ref 131]) 1 (fun _ _ => rfl) ?_
          refine wr_get (v := .ref 136) rfl rfl rfl (by decide) (rv_ref (hK28.1 131 12 136 rfl)) fun h30 => ?_
          show wr (6 * n + 6) tb_M65 227 [(6, vi l6), (5, vi l5), (4, vi l4), (7, vi l7), (0, .ref 131), (1, vi l1), (2, vi l2), (3, vi l3)] [.ref 136, vl (s16.1 131 9), .ref 131] (up2 (up2 s16.1 131 7 z20) 131 8 z26, s16.2) _
          refine wr_n (pc2 := 228) (lv2 := [(6, vi l6), (5, vi l5), (4, vi l4), (7, vi l7), (0, .ref 131), (1, vi l1), (2, vi l2), (3, vi l3)]) (st2 := [vi l1, .ref 136, vl (s16.1 131 9), .ref 131]) 1 (fun _ _ => rfl) ?_
          refine wr_ald (a := l1) (v := vl (s16.1 136 l1.toNat)) rfl rfl rfl (by omega) (by omega) (by decide) rfl fun h31 => ?_
          show wr (6 * n + 6) tb_M65 229 [(6, vi l6), (5, vi l5), (4, vi l4), (7, vi l7), (0, .ref 131), (1, vi l1), (2, vi l2), (3, vi l3)] [vl (s16.1 136 l1.toNat), vl (s16.1 131 9), .ref 131] (up2 (up2 s16.1 131 7 z20) 131 8 z26, s16.2) _
          refine wr_n (pc2 := 233) (lv2 := [(6, vi l6), (5, vi l5), (4, vi l4), (7, vi l7), (0, .ref 131), (1, vi l1), (2, vi l2), (3, vi l3)]) (st2 := [vi l1, vi 24, vl 1, vl (s16.1 136 l1.toNat), vl (s16.1 131 9), .ref 131]) 3 (fun _ _ => rfl) ?_
          refine wr_add (a := 24) (b := l1) rfl ?_
          show wr (6 * n + 6) tb_M65 234 [(6, vi l6), (5, vi l5), (4, vi l4), (7, vi l7), (0, .ref 131), (1, vi l1), (2, vi l2), (3, vi l3)] [vi (24 + l1), vl 1, vl (s16.1 136 l1.toNat), vl (s16.1 131 9), .ref 131] (up2 (up2 s16.1 131 7 z20) 131 8 z26, s16.2) _
          refine wr_lshl (a := 1) (b := 24 + l1) rfl fun z32 h33 _ => ?_
          show wr (6 * n + 6) tb_M65 235 [(6, vi l6), (5, vi l5), (4, vi l4), (7, vi l7), (0, .ref 131), (1, vi l1), (2, vi l2), (3, vi l3)] [vl z32, vl (s16.1 136 l1.toNat), vl (s16.1 131 9), .ref 131] (up2 (up2 s16.1 131 7 z20) 131 8 z26, s16.2) _
          refine wr_anyl (a := s16.1 136 l1.toNat) (b := z32) rfl rfl fun z34 h35 _ => ?_
          show wr (6 * n + 6) tb_M65 236 [(6, vi l6), (5, vi l5), (4, vi l4), (7, vi l7), (0, .ref 131), (1, vi l1), (2, vi l2), (3, vi l3)] [vl z34, vl (s16.1 131 9), .ref 131] (up2 (up2 s16.1 131 7 z20) 131 8 z26, s16.2) _
          refine wr_anyl (a := s16.1 131 9) (b := z34) rfl rfl fun z36 h37 _ => ?_
          show wr (6 * n + 6) tb_M65 237 [(6, vi l6), (5, vi l5), (4, vi l4), (7, vi l7), (0, .ref 131), (1, vi l1), (2, vi l2), (3, vi l3)] [vl z36, .ref 131] (up2 (up2 s16.1 131 7 z20) 131 8 z26, s16.2) _
          refine wr_put (z := z36) rfl rfl rfl rfl (by decide) rfl (by decide) rfl h37 (fit_l _) ?_
          show wr (6 * n + 6) tb_M65 240 [(6, vi l6), (5, vi l5), (4, vi l4), (7, vi l7), (0, .ref 131), (1, vi l1), (2, vi l2), (3, vi l3)] [] (up2 (up2 (up2 s16.1 131 7 z20) 131 8 z26) 131 9 z36, s16.2) _
          have hK38 : KI (up2 (up2 (up2 s16.1 131 7 z20) 131 8 z26) 131 9 z36) := (KI_up (KI_up (KI_up hK16 rfl (kb_no rfl)) rfl (kb_no rfl)) rfl (kb_no rfl))
          refine wr_n (pc2 := 241) (lv2 := [(6, vi l6), (5, vi l5), (4, vi l4), (7, vi l7), (0, .ref 131), (1, vi l1), (2, vi l2), (3, vi l3)]) (st2 := [.ref 131]) 1 (fun _ _ => rfl) ?_
          refine wr_get (v := .ref C) rfl rfl rfl (by decide) (rv_ref (show (up2 (up2 (up2 s16.1 131 7 z20) 131 8 z26) 131 9 z36) 131 1 = ((C : Nat) : Int) from (show (up2 (up2 (up2 s16.1 131 7 z20) 131 8 z26) 131 9 z36) 131 1 = ((C : Nat) : Int) from ((if_neg (by omega)).trans ((if_neg (by omega)).trans ((if_neg (by omega)).trans hq16)))))) fun h39 => ?_
          show wr (6 * n + 6) tb_M65 244 [(6, vi l6), (5, vi l5), (4, vi l4), (7, vi l7), (0, .ref 131), (1, vi l1), (2, vi l2), (3, vi l3)] [.ref C] (up2 (up2 (up2 s16.1 131 7 z20) 131 8 z26) 131 9 z36, s16.2) _
          refine wr_n (pc2 := 252) (lv2 := [(6, vi l6), (5, vi l5), (4, vi l4), (7, vi l7), (0, .ref 131), (1, vi l1), (2, vi l2), (3, vi l3)]) (st2 := [vi l6, vi l4, vi l1, vi 404, .ref C]) 4 (fun _ _ => rfl) ?_
          refine wr_call1 (args := [vi 404, vi l1, vi l4, vi l6]) (rest := []) rfl rfl rfl (TK0 hC) (Nat.le_of_ble_eq_true rfl) (cr_mono (k_cadd (d := 6 * n + 5) (C := C) hC (x := 404) (y := l1) (u := l4) (v := l6) (up2 (up2 (up2 s16.1 131 7 z20) 131 8 z26) 131 9 z36, s16.2) hK38 (by omega) (by omega) (by omega) (by omega)) ?_)
          rintro s40 out ⟨hK40, hY40, hc40, ha40, z40, rfl, hz40, hp40⟩
          refine ⟨_, rfl, ?_⟩
          have hX40 : FX s0.1 s40.1 := FX_tr (FX_up (FX_up (FX_up hX16 (by unfold fx; omega)) (by unfold fx; omega)) (by unfold fx; omega)) hY40
          have hC40 : s40.2 = s0.2 := hc40.trans hC16
          have hq40 : s40.1 131 1 = (C : Int) := (hY40 131 1 (by unfold fx; omega)).trans (show (up2 (up2 (up2 s16.1 131 7 z20) 131 8 z26) 131 9 z36) 131 1 = ((C : Nat) : Int) from ((if_neg (by omega)).trans ((if_neg (by omega)).trans ((if_neg (by omega)).trans hq16))))
          unfold i32 at hz40
          clear hp40
          show wr (6 * n + 6) tb_M65 255 [(6, vi l6), (5, vi l5), (4, vi l4), (7, vi l7), (0, .ref 131), (1, vi l1), (2, vi l2), (3, vi l3)] [vi z40] s40 _
          refine wr_reti rfl rfl ?_
          exact ⟨hK40, hX40, .inl ⟨z40, hC40, rfl, by unfold i32; omega, trivial⟩⟩
        · refine .inr ⟨rfl, ?_⟩
          exact ⟨hK14, (FX_tr hX hY14), .inr ⟨rfl, TH hc hc14⟩⟩
    · refine .inr ⟨rfl, ?_⟩
      exact ⟨hK9, (FX_tr hX hY9), .inr ⟨rfl, TH hc hc9⟩⟩
set_option maxHeartbeats 20000000 in
set_option maxRecDepth 100000 in
theorem k_call_36v2 {s0 : rS} {C : Nat} (hC : C = 99 ∨ C = 115) {n : Nat} (hEx : CEx n)  : ∀ (w : Nat) (l6 : Int) (l5 : Int) (l4 : Int) (l7 : Int) (l1 : Int) (l2 : Int) (l3 : Int) (s : rS), (2000 - l6).toNat = w → KI s.1 → s.1 131 1 = (C : Int) → FX s0.1 s.1 → s.2 = s0.2 → 0 ≤ l6 ∧ l6 ≤ 2000 → (-2147483648) ≤ l5 ∧ l5 ≤ 2147483647 → (-2147483648) ≤ l4 ∧ l4 ≤ 2147483647 → (-2147483648) ≤ l7 ∧ l7 ≤ 2147483647 → 0 ≤ l1 ∧ l1 ≤ 11 → (-2147483648) ≤ l2 ∧ l2 ≤ 2147483647 → 0 ≤ l3 ∧ l3 ≤ 20 → 20 - l3 < (n : Int) → wr (6 * n + 6) tb_M65 36 [(6, vi l6), (5, vi l5), (4, vi l4), (7, vi l7), (0, .ref 131), (1, vi l1), (2, vi l2), (3, vi l3)] [] s (TZ (fun z => True) s0) := by
  intro w
  induction w using Nat.strongRecOn with | ind w ih => ?_
  intro l6 l5 l4 l7 l1 l2 l3 s hw hK hq hX hc hl6 hl5 hl4 hl7 hl1 hl2 hl3 hx0
  refine wr_n (pc2 := 41) (lv2 := [(6, vi l6), (5, vi l5), (4, vi l4), (7, vi l7), (0, .ref 131), (1, vi l1), (2, vi l2), (3, vi l3)]) (st2 := [vi 2000, vi l6]) 2 (fun _ _ => rfl) ?_
  by_cases h1 : 2000 ≤ l6
  · refine wr_if2t rfl rfl (by unfold i32; omega) (by unfold i32; omega) h1 ?_
    exact k_call_130v2 hC hEx l6 l5 l4 l7 l1 l2 l3 s hK hq hX hc (by omega) (by omega) (by omega) (by omega) (by omega) (by omega) (by omega)  
  · refine wr_if2f rfl rfl (by unfold i32; omega) (by unfold i32; omega) h1 ?_
    refine wr_n (pc2 := 46) (lv2 := [(6, vi l6), (5, vi l5), (4, vi l4), (7, vi l7), (0, .ref 131), (1, vi l1), (2, vi l2), (3, vi l3)]) (st2 := [vi l6]) 1 (fun _ _ => rfl) ?_
    by_cases h2 : l6 ≠ 0
    · refine wr_if1t rfl rfl (by unfold i32; omega) h2 ?_
      refine wr_n (pc2 := 65) (lv2 := [(6, vi l6), (5, vi l5), (4, vi l4), (7, vi l7), (0, .ref 131), (1, vi l1), (2, vi l2), (3, vi l3)]) (st2 := [.ref 131]) 1 (fun _ _ => rfl) ?_
      refine wr_get (v := .ref 137) rfl rfl rfl (by decide) (rv_ref (hK.1 131 0 137 rfl)) fun h3 => ?_
      show wr (6 * n + 6) tb_M65 68 [(6, vi l6), (5, vi l5), (4, vi l4), (7, vi l7), (0, .ref 131), (1, vi l1), (2, vi l2), (3, vi l3)] [.ref 137] s _
      refine wr_call1 (args := []) (rest := []) rfl rfl rfl rfl (Nat.le_of_ble_eq_true rfl) (cr_mono (k_kind (d := 6 * n + 5) s hK) ?_)
      rintro s4 out ⟨z4, rfl, hz4, hp4, e4⟩
      refine ⟨_, rfl, ?_⟩
      rw [e4]
      unfold i32 at hz4
      clear hp4
      show wr (6 * n + 6) tb_M65 71 [(6, vi l6), (5, vi l5), (4, vi l4), (7, vi l7), (0, .ref 131), (1, vi l1), (2, vi l2), (3, vi l3)] [vi z4] s _
      refine wr_n (pc2 := 73) (lv2 := [(6, vi l6), (5, vi l5), (4, vi l4), (7, vi l7), (0, .ref 131), (1, vi l1), (2, vi l2), (3, vi l3)]) (st2 := [vi 44, vi z4]) 1 (fun _ _ => rfl) ?_
      by_cases h5 : z4 ≠ 44
      · refine wr_if2t rfl rfl (by unfold i32; omega) (by unfold i32; omega) h5 ?_
        exact k_call_130v2 hC hEx l6 l5 l4 l7 l1 l2 l3 s hK hq hX hc (by omega) (by omega) (by omega) (by omega) (by omega) (by omega) (by omega)  
      · refine wr_if2f rfl rfl (by unfold i32; omega) (by unfold i32; omega) h5 ?_
        refine wr_n (pc2 := 78) (lv2 := [(6, vi l6), (5, vi l5), (4, vi l4), (7, vi l7), (0, .ref 131), (1, vi l1), (2, vi l2), (3, vi l3)]) (st2 := [vi l6]) 1 (fun _ _ => rfl) ?_
        by_cases h6 : l6 ≤ 0
        · refine wr_if1t rfl rfl (by unfold i32; omega) h6 ?_
          refine wr_n (pc2 := 90) (lv2 := [(6, vi l6), (5, vi l5), (4, vi l4), (7, vi l7), (0, .ref 131), (1, vi l1), (2, vi l2), (3, vi l3)]) (st2 := [vi l3, .ref 131]) 2 (fun _ _ => rfl) ?_
          refine wr_call1T (args := [vi l3]) (rest := []) rfl rfl rfl rfl (Nat.le_of_ble_eq_true rfl) rfl (cr_mono (hEx C s l3 hC hK hq (by omega)) ?_)
          rintro s7 out ⟨hK7, hY7, ⟨z7, hc7, rfl, hz7, hp7⟩ | ⟨rfl, hc7⟩⟩
          · refine .inl ⟨_, rfl, ?_⟩
            have hX7 : FX s0.1 s7.1 := FX_tr hX hY7
            have hC7 : s7.2 = s0.2 := hc7.trans hc
            have hq7 : s7.1 131 1 = (C : Int) := (hY7 131 1 (by unfold fx; omega)).trans hq
            unfold i32 at hz7
            clear hp7
            show wr (6 * n + 6) tb_M65 93 [(6, vi l6), (5, vi l5), (4, vi l4), (7, vi l7), (0, .ref 131), (1, vi l1), (2, vi l2), (3, vi l3)] [vi z7] s7 _
            refine wr_n (pc2 := 96) (lv2 := [(7, vi z7), (6, vi l6), (5, vi l5), (4, vi l4), (0, .ref 131), (1, vi l1), (2, vi l2), (3, vi l3)]) (st2 := [.ref 131]) 2 (fun _ _ => rfl) ?_
            refine wr_get (v := .ref C) rfl rfl rfl (by decide) (rv_ref (show (s7.1) 131 1 = ((C : Nat) : Int) from hq7)) fun h8 => ?_
            show wr (6 * n + 6) tb_M65 99 [(7, vi z7), (6, vi l6), (5, vi l5), (4, vi l4), (0, .ref 131), (1, vi l1), (2, vi l2), (3, vi l3)] [.ref C] s7 _
            refine wr_n (pc2 := 103) (lv2 := [(7, vi z7), (6, vi l6), (5, vi l5), (4, vi l4), (0, .ref 131), (1, vi l1), (2, vi l2), (3, vi l3)]) (st2 := [vi z7, vi l5, .ref C]) 2 (fun _ _ => rfl) ?_
            refine wr_call1 (args := [vi l5, vi z7]) (rest := []) rfl rfl rfl (TK0 hC) (Nat.le_of_ble_eq_true rfl) (cr_mono (k_link (d := 6 * n + 4) (C := C) hC (x := l5) (y := z7) s7 hK7 (by omega) (by omega)) ?_)
            rintro s9 out ⟨hK9, hY9, hc9, rfl⟩
            refine ⟨_, rfl, ?_⟩
            have hX9 : FX s0.1 s9.1 := FX_tr hX7 hY9
            have hC9 : s9.2 = s0.2 := hc9.trans hC7
            have hq9 : s9.1 131 1 = (C : Int) := (hY9 131 1 (by unfold fx; omega)).trans hq7
            show wr (6 * n + 6) tb_M65 106 [(7, vi z7), (6, vi l6), (5, vi l5), (4, vi l4), (0, .ref 131), (1, vi l1), (2, vi l2), (3, vi l3)] [] s9 _
            refine wr_n (pc2 := 108) (lv2 := [(7, vi z7), (6, vi l6), (5, vi l5), (4, vi l4), (0, .ref 131), (1, vi l1), (2, vi l2), (3, vi l3)]) (st2 := [vi l6]) 1 (fun _ _ => rfl) ?_
            by_cases h10 : l6 ≠ 0
            · refine wr_if1t rfl rfl (by unfold i32; omega) h10 ?_
              refine wr_n (pc2 := 124) (lv2 := [(5, vi z7), (4, vi l4), (7, vi z7), (6, vi l6), (0, .ref 131), (1, vi l1), (2, vi l2), (3, vi l3)]) (st2 := []) 4 (fun _ _ => rfl) ?_
              refine wr_inc (a := l6) rfl rfl ?_
              show wr (6 * n + 6) tb_M65 127 [(6, vi (l6 + 1)), (5, vi z7), (4, vi l4), (7, vi z7), (0, .ref 131), (1, vi l1), (2, vi l2), (3, vi l3)] [] s9 _
              refine wr_n (pc2 := 36) (lv2 := [(6, vi (l6 + 1)), (5, vi z7), (4, vi l4), (7, vi z7), (0, .ref 131), (1, vi l1), (2, vi l2), (3, vi l3)]) (st2 := []) 1 (fun _ _ => rfl) ?_
              exact ih _ (by omega) (l6 + 1) z7 l4 z7 l1 l2 l3 s9 rfl hK9 hq9 hX9 hC9 (by omega) (by omega) (by omega) (by omega) (by omega) (by omega) (by omega) (by omega) 
            · refine wr_if1f rfl rfl (by unfold i32; omega) h10 ?_
              refine wr_n (pc2 := 124) (lv2 := [(5, vi z7), (4, vi z7), (7, vi z7), (6, vi l6), (0, .ref 131), (1, vi l1), (2, vi l2), (3, vi l3)]) (st2 := []) 5 (fun _ _ => rfl) ?_
              refine wr_inc (a := l6) rfl rfl ?_
              show wr (6 * n + 6) tb_M65 127 [(6, vi (l6 + 1)), (5, vi z7), (4, vi z7), (7, vi z7), (0, .ref 131), (1, vi l1), (2, vi l2), (3, vi l3)] [] s9 _
              refine wr_n (pc2 := 36) (lv2 := [(6, vi (l6 + 1)), (5, vi z7), (4, vi z7), (7, vi z7), (0, .ref 131), (1, vi l1), (2, vi l2), (3, vi l3)]) (st2 := []) 1 (fun _ _ => rfl) ?_
              exact ih _ (by omega) (l6 + 1) z7 z7 z7 l1 l2 l3 s9 rfl hK9 hq9 hX9 hC9 (by omega) (by omega) (by omega) (by omega) (by omega) (by omega) (by omega) (by omega) 
          · refine .inr ⟨rfl, ?_⟩
            exact ⟨hK7, (FX_tr hX hY7), .inr ⟨rfl, TH hc hc7⟩⟩
        · refine wr_if1f rfl rfl (by unfold i32; omega) h6 ?_
          refine wr_n (pc2 := 82) (lv2 := [(6, vi l6), (5, vi l5), (4, vi l4), (7, vi l7), (0, .ref 131), (1, vi l1), (2, vi l2), (3, vi l3)]) (st2 := [.ref 131]) 1 (fun _ _ => rfl) ?_
          refine wr_get (v := .ref 137) rfl rfl rfl (by decide) (rv_ref (hK.1 131 0 137 rfl)) fun h11 => ?_
          show wr (6 * n + 6) tb_M65 85 [(6, vi l6), (5, vi l5), (4, vi l4), (7, vi l7), (0, .ref 131), (1, vi l1), (2, vi l2), (3, vi l3)] [.ref 137] s _
          refine wr_call1 (args := []) (rest := []) rfl rfl rfl rfl (Nat.le_of_ble_eq_true rfl) (cr_mono (k_step (d := 6 * n + 5) s hK) ?_)
          rintro s12 out ⟨hK12, hY12, hc12, rfl⟩
          refine ⟨_, rfl, ?_⟩
          have hX12 : FX s0.1 s12.1 := FX_tr hX hY12
          have hC12 : s12.2 = s0.2 := hc12.trans hc
          have hq12 : s12.1 131 1 = (C : Int) := (hY12 131 1 (by unfold fx; omega)).trans hq
          show wr (6 * n + 6) tb_M65 88 [(6, vi l6), (5, vi l5), (4, vi l4), (7, vi l7), (0, .ref 131), (1, vi l1), (2, vi l2), (3, vi l3)] [] s12 _
          refine wr_n (pc2 := 90) (lv2 := [(6, vi l6), (5, vi l5), (4, vi l4), (7, vi l7), (0, .ref 131), (1, vi l1), (2, vi l2), (3, vi l3)]) (st2 := [vi l3, .ref 131]) 2 (fun _ _ => rfl) ?_
          refine wr_call1T (args := [vi l3]) (rest := []) rfl rfl rfl rfl (Nat.le_of_ble_eq_true rfl) rfl (cr_mono (hEx C s12 l3 hC hK12 hq12 (by omega)) ?_)
          rintro s13 out ⟨hK13, hY13, ⟨z13, hc13, rfl, hz13, hp13⟩ | ⟨rfl, hc13⟩⟩
          · refine .inl ⟨_, rfl, ?_⟩
            have hX13 : FX s0.1 s13.1 := FX_tr hX12 hY13
            have hC13 : s13.2 = s0.2 := hc13.trans hC12
            have hq13 : s13.1 131 1 = (C : Int) := (hY13 131 1 (by unfold fx; omega)).trans hq12
            unfold i32 at hz13
            clear hp13
            show wr (6 * n + 6) tb_M65 93 [(6, vi l6), (5, vi l5), (4, vi l4), (7, vi l7), (0, .ref 131), (1, vi l1), (2, vi l2), (3, vi l3)] [vi z13] s13 _
            refine wr_n (pc2 := 96) (lv2 := [(7, vi z13), (6, vi l6), (5, vi l5), (4, vi l4), (0, .ref 131), (1, vi l1), (2, vi l2), (3, vi l3)]) (st2 := [.ref 131]) 2 (fun _ _ => rfl) ?_
            refine wr_get (v := .ref C) rfl rfl rfl (by decide) (rv_ref (show (s13.1) 131 1 = ((C : Nat) : Int) from hq13)) fun h14 => ?_
            show wr (6 * n + 6) tb_M65 99 [(7, vi z13), (6, vi l6), (5, vi l5), (4, vi l4), (0, .ref 131), (1, vi l1), (2, vi l2), (3, vi l3)] [.ref C] s13 _
            refine wr_n (pc2 := 103) (lv2 := [(7, vi z13), (6, vi l6), (5, vi l5), (4, vi l4), (0, .ref 131), (1, vi l1), (2, vi l2), (3, vi l3)]) (st2 := [vi z13, vi l5, .ref C]) 2 (fun _ _ => rfl) ?_
            refine wr_call1 (args := [vi l5, vi z13]) (rest := []) rfl rfl rfl (TK0 hC) (Nat.le_of_ble_eq_true rfl) (cr_mono (k_link (d := 6 * n + 4) (C := C) hC (x := l5) (y := z13) s13 hK13 (by omega) (by omega)) ?_)
            rintro s15 out ⟨hK15, hY15, hc15, rfl⟩
            refine ⟨_, rfl, ?_⟩
            have hX15 : FX s0.1 s15.1 := FX_tr hX13 hY15
            have hC15 : s15.2 = s0.2 := hc15.trans hC13
            have hq15 : s15.1 131 1 = (C : Int) := (hY15 131 1 (by unfold fx; omega)).trans hq13
            show wr (6 * n + 6) tb_M65 106 [(7, vi z13), (6, vi l6), (5, vi l5), (4, vi l4), (0, .ref 131), (1, vi l1), (2, vi l2), (3, vi l3)] [] s15 _
            refine wr_n (pc2 := 108) (lv2 := [(7, vi z13), (6, vi l6), (5, vi l5), (4, vi l4), (0, .ref 131), (1, vi l1), (2, vi l2), (3, vi l3)]) (st2 := [vi l6]) 1 (fun _ _ => rfl) ?_
            by_cases h16 : l6 ≠ 0
            · refine wr_if1t rfl rfl (by unfold i32; omega) h16 ?_
              refine wr_n (pc2 := 124) (lv2 := [(5, vi z13), (4, vi l4), (7, vi z13), (6, vi l6), (0, .ref 131), (1, vi l1), (2, vi l2), (3, vi l3)]) (st2 := []) 4 (fun _ _ => rfl) ?_
              refine wr_inc (a := l6) rfl rfl ?_
              show wr (6 * n + 6) tb_M65 127 [(6, vi (l6 + 1)), (5, vi z13), (4, vi l4), (7, vi z13), (0, .ref 131), (1, vi l1), (2, vi l2), (3, vi l3)] [] s15 _
              refine wr_n (pc2 := 36) (lv2 := [(6, vi (l6 + 1)), (5, vi z13), (4, vi l4), (7, vi z13), (0, .ref 131), (1, vi l1), (2, vi l2), (3, vi l3)]) (st2 := []) 1 (fun _ _ => rfl) ?_
              exact ih _ (by omega) (l6 + 1) z13 l4 z13 l1 l2 l3 s15 rfl hK15 hq15 hX15 hC15 (by omega) (by omega) (by omega) (by omega) (by omega) (by omega) (by omega) (by omega) 
            · refine wr_if1f rfl rfl (by unfold i32; omega) h16 ?_
              refine wr_n (pc2 := 124) (lv2 := [(5, vi z13), (4, vi z13), (7, vi z13), (6, vi l6), (0, .ref 131), (1, vi l1), (2, vi l2), (3, vi l3)]) (st2 := []) 5 (fun _ _ => rfl) ?_
              refine wr_inc (a := l6) rfl rfl ?_
              show wr (6 * n + 6) tb_M65 127 [(6, vi (l6 + 1)), (5, vi z13), (4, vi z13), (7, vi z13), (0, .ref 131), (1, vi l1), (2, vi l2), (3, vi l3)] [] s15 _
              refine wr_n (pc2 := 36) (lv2 := [(6, vi (l6 + 1)), (5, vi z13), (4, vi z13), (7, vi z13), (0, .ref 131), (1, vi l1), (2, vi l2), (3, vi l3)]) (st2 := []) 1 (fun _ _ => rfl) ?_
              exact ih _ (by omega) (l6 + 1) z13 z13 z13 l1 l2 l3 s15 rfl hK15 hq15 hX15 hC15 (by omega) (by omega) (by omega) (by omega) (by omega) (by omega) (by omega) (by omega) 
          · refine .inr ⟨rfl, ?_⟩
            exact ⟨hK13, (FX_tr hX12 hY13), .inr ⟨rfl, TH hC12 hc13⟩⟩
    · refine wr_if1f rfl rfl (by unfold i32; omega) h2 ?_
      refine wr_n (pc2 := 50) (lv2 := [(6, vi l6), (5, vi l5), (4, vi l4), (7, vi l7), (0, .ref 131), (1, vi l1), (2, vi l2), (3, vi l3)]) (st2 := [.ref 131]) 1 (fun _ _ => rfl) ?_
      refine wr_get (v := .ref 137) rfl rfl rfl (by decide) (rv_ref (hK.1 131 0 137 rfl)) fun h17 => ?_
      show wr (6 * n + 6) tb_M65 53 [(6, vi l6), (5, vi l5), (4, vi l4), (7, vi l7), (0, .ref 131), (1, vi l1), (2, vi l2), (3, vi l3)] [.ref 137] s _
      refine wr_call1 (args := []) (rest := []) rfl rfl rfl rfl (Nat.le_of_ble_eq_true rfl) (cr_mono (k_kind (d := 6 * n + 5) s hK) ?_)
      rintro s18 out ⟨z18, rfl, hz18, hp18, e18⟩
      refine ⟨_, rfl, ?_⟩
      rw [e18]
      unfold i32 at hz18
      clear hp18
      show wr (6 * n + 6) tb_M65 56 [(6, vi l6), (5, vi l5), (4, vi l4), (7, vi l7), (0, .ref 131), (1, vi l1), (2, vi l2), (3, vi l3)] [vi z18] s _
      refine wr_n (pc2 := 58) (lv2 := [(6, vi l6), (5, vi l5), (4, vi l4), (7, vi l7), (0, .ref 131), (1, vi l1), (2, vi l2), (3, vi l3)]) (st2 := [vi 41, vi z18]) 1 (fun _ _ => rfl) ?_
      by_cases h19 : z18 = 41
      · refine wr_if2t rfl rfl (by unfold i32; omega) (by unfold i32; omega) h19 ?_
        exact k_call_130v2 hC hEx l6 l5 l4 l7 l1 l2 l3 s hK hq hX hc (by omega) (by omega) (by omega) (by omega) (by omega) (by omega) (by omega)  
      · refine wr_if2f rfl rfl (by unfold i32; omega) (by unfold i32; omega) h19 ?_
        refine wr_n (pc2 := 78) (lv2 := [(6, vi l6), (5, vi l5), (4, vi l4), (7, vi l7), (0, .ref 131), (1, vi l1), (2, vi l2), (3, vi l3)]) (st2 := [vi l6]) 2 (fun _ _ => rfl) ?_
        by_cases h20 : l6 ≤ 0
        · refine wr_if1t rfl rfl (by unfold i32; omega) h20 ?_
          refine wr_n (pc2 := 90) (lv2 := [(6, vi l6), (5, vi l5), (4, vi l4), (7, vi l7), (0, .ref 131), (1, vi l1), (2, vi l2), (3, vi l3)]) (st2 := [vi l3, .ref 131]) 2 (fun _ _ => rfl) ?_
          refine wr_call1T (args := [vi l3]) (rest := []) rfl rfl rfl rfl (Nat.le_of_ble_eq_true rfl) rfl (cr_mono (hEx C s l3 hC hK hq (by omega)) ?_)
          rintro s21 out ⟨hK21, hY21, ⟨z21, hc21, rfl, hz21, hp21⟩ | ⟨rfl, hc21⟩⟩
          · refine .inl ⟨_, rfl, ?_⟩
            have hX21 : FX s0.1 s21.1 := FX_tr hX hY21
            have hC21 : s21.2 = s0.2 := hc21.trans hc
            have hq21 : s21.1 131 1 = (C : Int) := (hY21 131 1 (by unfold fx; omega)).trans hq
            unfold i32 at hz21
            clear hp21
            show wr (6 * n + 6) tb_M65 93 [(6, vi l6), (5, vi l5), (4, vi l4), (7, vi l7), (0, .ref 131), (1, vi l1), (2, vi l2), (3, vi l3)] [vi z21] s21 _
            refine wr_n (pc2 := 96) (lv2 := [(7, vi z21), (6, vi l6), (5, vi l5), (4, vi l4), (0, .ref 131), (1, vi l1), (2, vi l2), (3, vi l3)]) (st2 := [.ref 131]) 2 (fun _ _ => rfl) ?_
            refine wr_get (v := .ref C) rfl rfl rfl (by decide) (rv_ref (show (s21.1) 131 1 = ((C : Nat) : Int) from hq21)) fun h22 => ?_
            show wr (6 * n + 6) tb_M65 99 [(7, vi z21), (6, vi l6), (5, vi l5), (4, vi l4), (0, .ref 131), (1, vi l1), (2, vi l2), (3, vi l3)] [.ref C] s21 _
            refine wr_n (pc2 := 103) (lv2 := [(7, vi z21), (6, vi l6), (5, vi l5), (4, vi l4), (0, .ref 131), (1, vi l1), (2, vi l2), (3, vi l3)]) (st2 := [vi z21, vi l5, .ref C]) 2 (fun _ _ => rfl) ?_
            refine wr_call1 (args := [vi l5, vi z21]) (rest := []) rfl rfl rfl (TK0 hC) (Nat.le_of_ble_eq_true rfl) (cr_mono (k_link (d := 6 * n + 4) (C := C) hC (x := l5) (y := z21) s21 hK21 (by omega) (by omega)) ?_)
            rintro s23 out ⟨hK23, hY23, hc23, rfl⟩
            refine ⟨_, rfl, ?_⟩
            have hX23 : FX s0.1 s23.1 := FX_tr hX21 hY23
            have hC23 : s23.2 = s0.2 := hc23.trans hC21
            have hq23 : s23.1 131 1 = (C : Int) := (hY23 131 1 (by unfold fx; omega)).trans hq21
            show wr (6 * n + 6) tb_M65 106 [(7, vi z21), (6, vi l6), (5, vi l5), (4, vi l4), (0, .ref 131), (1, vi l1), (2, vi l2), (3, vi l3)] [] s23 _
            refine wr_n (pc2 := 108) (lv2 := [(7, vi z21), (6, vi l6), (5, vi l5), (4, vi l4), (0, .ref 131), (1, vi l1), (2, vi l2), (3, vi l3)]) (st2 := [vi l6]) 1 (fun _ _ => rfl) ?_
            by_cases h24 : l6 ≠ 0
            · refine wr_if1t rfl rfl (by unfold i32; omega) h24 ?_
              refine wr_n (pc2 := 124) (lv2 := [(5, vi z21), (4, vi l4), (7, vi z21), (6, vi l6), (0, .ref 131), (1, vi l1), (2, vi l2), (3, vi l3)]) (st2 := []) 4 (fun _ _ => rfl) ?_
              refine wr_inc (a := l6) rfl rfl ?_
              show wr (6 * n + 6) tb_M65 127 [(6, vi (l6 + 1)), (5, vi z21), (4, vi l4), (7, vi z21), (0, .ref 131), (1, vi l1), (2, vi l2), (3, vi l3)] [] s23 _
              refine wr_n (pc2 := 36) (lv2 := [(6, vi (l6 + 1)), (5, vi z21), (4, vi l4), (7, vi z21), (0, .ref 131), (1, vi l1), (2, vi l2), (3, vi l3)]) (st2 := []) 1 (fun _ _ => rfl) ?_
              exact ih _ (by omega) (l6 + 1) z21 l4 z21 l1 l2 l3 s23 rfl hK23 hq23 hX23 hC23 (by omega) (by omega) (by omega) (by omega) (by omega) (by omega) (by omega) (by omega) 
            · refine wr_if1f rfl rfl (by unfold i32; omega) h24 ?_
              refine wr_n (pc2 := 124) (lv2 := [(5, vi z21), (4, vi z21), (7, vi z21), (6, vi l6), (0, .ref 131), (1, vi l1), (2, vi l2), (3, vi l3)]) (st2 := []) 5 (fun _ _ => rfl) ?_
              refine wr_inc (a := l6) rfl rfl ?_
              show wr (6 * n + 6) tb_M65 127 [(6, vi (l6 + 1)), (5, vi z21), (4, vi z21), (7, vi z21), (0, .ref 131), (1, vi l1), (2, vi l2), (3, vi l3)] [] s23 _
              refine wr_n (pc2 := 36) (lv2 := [(6, vi (l6 + 1)), (5, vi z21), (4, vi z21), (7, vi z21), (0, .ref 131), (1, vi l1), (2, vi l2), (3, vi l3)]) (st2 := []) 1 (fun _ _ => rfl) ?_
              exact ih _ (by omega) (l6 + 1) z21 z21 z21 l1 l2 l3 s23 rfl hK23 hq23 hX23 hC23 (by omega) (by omega) (by omega) (by omega) (by omega) (by omega) (by omega) (by omega) 
          · refine .inr ⟨rfl, ?_⟩
            exact ⟨hK21, (FX_tr hX hY21), .inr ⟨rfl, TH hc hc21⟩⟩
        · refine wr_if1f rfl rfl (by unfold i32; omega) h20 ?_
          refine wr_n (pc2 := 82) (lv2 := [(6, vi l6), (5, vi l5), (4, vi l4), (7, vi l7), (0, .ref 131), (1, vi l1), (2, vi l2), (3, vi l3)]) (st2 := [.ref 131]) 1 (fun _ _ => rfl) ?_
          refine wr_get (v := .ref 137) rfl rfl rfl (by decide) (rv_ref (hK.1 131 0 137 rfl)) fun h25 => ?_
          show wr (6 * n + 6) tb_M65 85 [(6, vi l6), (5, vi l5), (4, vi l4), (7, vi l7), (0, .ref 131), (1, vi l1), (2, vi l2), (3, vi l3)] [.ref 137] s _
          refine wr_call1 (args := []) (rest := []) rfl rfl rfl rfl (Nat.le_of_ble_eq_true rfl) (cr_mono (k_step (d := 6 * n + 5) s hK) ?_)
          rintro s26 out ⟨hK26, hY26, hc26, rfl⟩
          refine ⟨_, rfl, ?_⟩
          have hX26 : FX s0.1 s26.1 := FX_tr hX hY26
          have hC26 : s26.2 = s0.2 := hc26.trans hc
          have hq26 : s26.1 131 1 = (C : Int) := (hY26 131 1 (by unfold fx; omega)).trans hq
          show wr (6 * n + 6) tb_M65 88 [(6, vi l6), (5, vi l5), (4, vi l4), (7, vi l7), (0, .ref 131), (1, vi l1), (2, vi l2), (3, vi l3)] [] s26 _
          refine wr_n (pc2 := 90) (lv2 := [(6, vi l6), (5, vi l5), (4, vi l4), (7, vi l7), (0, .ref 131), (1, vi l1), (2, vi l2), (3, vi l3)]) (st2 := [vi l3, .ref 131]) 2 (fun _ _ => rfl) ?_
          refine wr_call1T (args := [vi l3]) (rest := []) rfl rfl rfl rfl (Nat.le_of_ble_eq_true rfl) rfl (cr_mono (hEx C s26 l3 hC hK26 hq26 (by omega)) ?_)
          rintro s27 out ⟨hK27, hY27, ⟨z27, hc27, rfl, hz27, hp27⟩ | ⟨rfl, hc27⟩⟩
          · refine .inl ⟨_, rfl, ?_⟩
            have hX27 : FX s0.1 s27.1 := FX_tr hX26 hY27
            have hC27 : s27.2 = s0.2 := hc27.trans hC26
            have hq27 : s27.1 131 1 = (C : Int) := (hY27 131 1 (by unfold fx; omega)).trans hq26
            unfold i32 at hz27
            clear hp27
            show wr (6 * n + 6) tb_M65 93 [(6, vi l6), (5, vi l5), (4, vi l4), (7, vi l7), (0, .ref 131), (1, vi l1), (2, vi l2), (3, vi l3)] [vi z27] s27 _
            refine wr_n (pc2 := 96) (lv2 := [(7, vi z27), (6, vi l6), (5, vi l5), (4, vi l4), (0, .ref 131), (1, vi l1), (2, vi l2), (3, vi l3)]) (st2 := [.ref 131]) 2 (fun _ _ => rfl) ?_
            refine wr_get (v := .ref C) rfl rfl rfl (by decide) (rv_ref (show (s27.1) 131 1 = ((C : Nat) : Int) from hq27)) fun h28 => ?_
            show wr (6 * n + 6) tb_M65 99 [(7, vi z27), (6, vi l6), (5, vi l5), (4, vi l4), (0, .ref 131), (1, vi l1), (2, vi l2), (3, vi l3)] [.ref C] s27 _
            refine wr_n (pc2 := 103) (lv2 := [(7, vi z27), (6, vi l6), (5, vi l5), (4, vi l4), (0, .ref 131), (1, vi l1), (2, vi l2), (3, vi l3)]) (st2 := [vi z27, vi l5, .ref C]) 2 (fun _ _ => rfl) ?_
            refine wr_call1 (args := [vi l5, vi z27]) (rest := []) rfl rfl rfl (TK0 hC) (Nat.le_of_ble_eq_true rfl) (cr_mono (k_link (d := 6 * n + 4) (C := C) hC (x := l5) (y := z27) s27 hK27 (by omega) (by omega)) ?_)
            rintro s29 out ⟨hK29, hY29, hc29, rfl⟩
            refine ⟨_, rfl, ?_⟩
            have hX29 : FX s0.1 s29.1 := FX_tr hX27 hY29
            have hC29 : s29.2 = s0.2 := hc29.trans hC27
            have hq29 : s29.1 131 1 = (C : Int) := (hY29 131 1 (by unfold fx; omega)).trans hq27
            show wr (6 * n + 6) tb_M65 106 [(7, vi z27), (6, vi l6), (5, vi l5), (4, vi l4), (0, .ref 131), (1, vi l1), (2, vi l2), (3, vi l3)] [] s29 _
            refine wr_n (pc2 := 108) (lv2 := [(7, vi z27), (6, vi l6), (5, vi l5), (4, vi l4), (0, .ref 131), (1, vi l1), (2, vi l2), (3, vi l3)]) (st2 := [vi l6]) 1 (fun _ _ => rfl) ?_
            by_cases h30 : l6 ≠ 0
            · refine wr_if1t rfl rfl (by unfold i32; omega) h30 ?_
              refine wr_n (pc2 := 124) (lv2 := [(5, vi z27), (4, vi l4), (7, vi z27), (6, vi l6), (0, .ref 131), (1, vi l1), (2, vi l2), (3, vi l3)]) (st2 := []) 4 (fun _ _ => rfl) ?_
              refine wr_inc (a := l6) rfl rfl ?_
              show wr (6 * n + 6) tb_M65 127 [(6, vi (l6 + 1)), (5, vi z27), (4, vi l4), (7, vi z27), (0, .ref 131), (1, vi l1), (2, vi l2), (3, vi l3)] [] s29 _
              refine wr_n (pc2 := 36) (lv2 := [(6, vi (l6 + 1)), (5, vi z27), (4, vi l4), (7, vi z27), (0, .ref 131), (1, vi l1), (2, vi l2), (3, vi l3)]) (st2 := []) 1 (fun _ _ => rfl) ?_
              exact ih _ (by omega) (l6 + 1) z27 l4 z27 l1 l2 l3 s29 rfl hK29 hq29 hX29 hC29 (by omega) (by omega) (by omega) (by omega) (by omega) (by omega) (by omega) (by omega) 
            · refine wr_if1f rfl rfl (by unfold i32; omega) h30 ?_
              refine wr_n (pc2 := 124) (lv2 := [(5, vi z27), (4, vi z27), (7, vi z27), (6, vi l6), (0, .ref 131), (1, vi l1), (2, vi l2), (3, vi l3)]) (st2 := []) 5 (fun _ _ => rfl) ?_
              refine wr_inc (a := l6) rfl rfl ?_
              show wr (6 * n + 6) tb_M65 127 [(6, vi (l6 + 1)), (5, vi z27), (4, vi z27), (7, vi z27), (0, .ref 131), (1, vi l1), (2, vi l2), (3, vi l3)] [] s29 _
              refine wr_n (pc2 := 36) (lv2 := [(6, vi (l6 + 1)), (5, vi z27), (4, vi z27), (7, vi z27), (0, .ref 131), (1, vi l1), (2, vi l2), (3, vi l3)]) (st2 := []) 1 (fun _ _ => rfl) ?_
              exact ih _ (by omega) (l6 + 1) z27 z27 z27 l1 l2 l3 s29 rfl hK29 hq29 hX29 hC29 (by omega) (by omega) (by omega) (by omega) (by omega) (by omega) (by omega) (by omega) 
          · refine .inr ⟨rfl, ?_⟩
            exact ⟨hK27, (FX_tr hX26 hY27), .inr ⟨rfl, TH hC26 hc27⟩⟩
set_option maxHeartbeats 20000000 in
set_option maxRecDepth 100000 in
theorem k_call_36 {s0 : rS} {C : Nat} (hC : C = 99 ∨ C = 115) {n : Nat} (hEx : CEx n)  : ∀ (w : Nat) (l6 : Int) (l5 : Int) (l4 : Int) (l1 : Int) (l2 : Int) (l3 : Int) (s : rS), (2000 - l6).toNat = w → KI s.1 → s.1 131 1 = (C : Int) → FX s0.1 s.1 → s.2 = s0.2 → 0 ≤ l6 ∧ l6 ≤ 2000 → (-2147483648) ≤ l5 ∧ l5 ≤ 2147483647 → (-2147483648) ≤ l4 ∧ l4 ≤ 2147483647 → 0 ≤ l1 ∧ l1 ≤ 11 → (-2147483648) ≤ l2 ∧ l2 ≤ 2147483647 → 0 ≤ l3 ∧ l3 ≤ 20 → 20 - l3 < (n : Int) → wr (6 * n + 6) tb_M65 36 [(6, vi l6), (5, vi l5), (4, vi l4), (0, .ref 131), (1, vi l1), (2, vi l2), (3, vi l3)] [] s (TZ (fun z => True) s0) := by
  intro w
  induction w using Nat.strongRecOn with | ind w ih => ?_
  intro l6 l5 l4 l1 l2 l3 s hw hK hq hX hc hl6 hl5 hl4 hl1 hl2 hl3 hx0
  refine wr_n (pc2 := 41) (lv2 := [(6, vi l6), (5, vi l5), (4, vi l4), (0, .ref 131), (1, vi l1), (2, vi l2), (3, vi l3)]) (st2 := [vi 2000, vi l6]) 2 (fun _ _ => rfl) ?_
  by_cases h1 : 2000 ≤ l6
  · refine wr_if2t rfl rfl (by unfold i32; omega) (by unfold i32; omega) h1 ?_
    exact k_call_130 hC hEx l6 l5 l4 l1 l2 l3 s hK hq hX hc (by omega) (by omega) (by omega) (by omega) (by omega) (by omega)  
  · refine wr_if2f rfl rfl (by unfold i32; omega) (by unfold i32; omega) h1 ?_
    refine wr_n (pc2 := 46) (lv2 := [(6, vi l6), (5, vi l5), (4, vi l4), (0, .ref 131), (1, vi l1), (2, vi l2), (3, vi l3)]) (st2 := [vi l6]) 1 (fun _ _ => rfl) ?_
    by_cases h2 : l6 ≠ 0
    · refine wr_if1t rfl rfl (by unfold i32; omega) h2 ?_
      refine wr_n (pc2 := 65) (lv2 := [(6, vi l6), (5, vi l5), (4, vi l4), (0, .ref 131), (1, vi l1), (2, vi l2), (3, vi l3)]) (st2 := [.ref 131]) 1 (fun _ _ => rfl) ?_
      refine wr_get (v := .ref 137) rfl rfl rfl (by decide) (rv_ref (hK.1 131 0 137 rfl)) fun h3 => ?_
      show wr (6 * n + 6) tb_M65 68 [(6, vi l6), (5, vi l5), (4, vi l4), (0, .ref 131), (1, vi l1), (2, vi l2), (3, vi l3)] [.ref 137] s _
      refine wr_call1 (args := []) (rest := []) rfl rfl rfl rfl (Nat.le_of_ble_eq_true rfl) (cr_mono (k_kind (d := 6 * n + 5) s hK) ?_)
      rintro s4 out ⟨z4, rfl, hz4, hp4, e4⟩
      refine ⟨_, rfl, ?_⟩
      rw [e4]
      unfold i32 at hz4
      clear hp4
      show wr (6 * n + 6) tb_M65 71 [(6, vi l6), (5, vi l5), (4, vi l4), (0, .ref 131), (1, vi l1), (2, vi l2), (3, vi l3)] [vi z4] s _
      refine wr_n (pc2 := 73) (lv2 := [(6, vi l6), (5, vi l5), (4, vi l4), (0, .ref 131), (1, vi l1), (2, vi l2), (3, vi l3)]) (st2 := [vi 44, vi z4]) 1 (fun _ _ => rfl) ?_
      by_cases h5 : z4 ≠ 44
      · refine wr_if2t rfl rfl (by unfold i32; omega) (by unfold i32; omega) h5 ?_
        exact k_call_130 hC hEx l6 l5 l4 l1 l2 l3 s hK hq hX hc (by omega) (by omega) (by omega) (by omega) (by omega) (by omega)  
      · refine wr_if2f rfl rfl (by unfold i32; omega) (by unfold i32; omega) h5 ?_
        refine wr_n (pc2 := 78) (lv2 := [(6, vi l6), (5, vi l5), (4, vi l4), (0, .ref 131), (1, vi l1), (2, vi l2), (3, vi l3)]) (st2 := [vi l6]) 1 (fun _ _ => rfl) ?_
        by_cases h6 : l6 ≤ 0
        · refine wr_if1t rfl rfl (by unfold i32; omega) h6 ?_
          refine wr_n (pc2 := 90) (lv2 := [(6, vi l6), (5, vi l5), (4, vi l4), (0, .ref 131), (1, vi l1), (2, vi l2), (3, vi l3)]) (st2 := [vi l3, .ref 131]) 2 (fun _ _ => rfl) ?_
          refine wr_call1T (args := [vi l3]) (rest := []) rfl rfl rfl rfl (Nat.le_of_ble_eq_true rfl) rfl (cr_mono (hEx C s l3 hC hK hq (by omega)) ?_)
          rintro s7 out ⟨hK7, hY7, ⟨z7, hc7, rfl, hz7, hp7⟩ | ⟨rfl, hc7⟩⟩
          · refine .inl ⟨_, rfl, ?_⟩
            have hX7 : FX s0.1 s7.1 := FX_tr hX hY7
            have hC7 : s7.2 = s0.2 := hc7.trans hc
            have hq7 : s7.1 131 1 = (C : Int) := (hY7 131 1 (by unfold fx; omega)).trans hq
            unfold i32 at hz7
            clear hp7
            show wr (6 * n + 6) tb_M65 93 [(6, vi l6), (5, vi l5), (4, vi l4), (0, .ref 131), (1, vi l1), (2, vi l2), (3, vi l3)] [vi z7] s7 _
            refine wr_n (pc2 := 96) (lv2 := [(7, vi z7), (6, vi l6), (5, vi l5), (4, vi l4), (0, .ref 131), (1, vi l1), (2, vi l2), (3, vi l3)]) (st2 := [.ref 131]) 2 (fun _ _ => rfl) ?_
            refine wr_get (v := .ref C) rfl rfl rfl (by decide) (rv_ref (show (s7.1) 131 1 = ((C : Nat) : Int) from hq7)) fun h8 => ?_
            show wr (6 * n + 6) tb_M65 99 [(7, vi z7), (6, vi l6), (5, vi l5), (4, vi l4), (0, .ref 131), (1, vi l1), (2, vi l2), (3, vi l3)] [.ref C] s7 _
            refine wr_n (pc2 := 103) (lv2 := [(7, vi z7), (6, vi l6), (5, vi l5), (4, vi l4), (0, .ref 131), (1, vi l1), (2, vi l2), (3, vi l3)]) (st2 := [vi z7, vi l5, .ref C]) 2 (fun _ _ => rfl) ?_
            refine wr_call1 (args := [vi l5, vi z7]) (rest := []) rfl rfl rfl (TK0 hC) (Nat.le_of_ble_eq_true rfl) (cr_mono (k_link (d := 6 * n + 4) (C := C) hC (x := l5) (y := z7) s7 hK7 (by omega) (by omega)) ?_)
            rintro s9 out ⟨hK9, hY9, hc9, rfl⟩
            refine ⟨_, rfl, ?_⟩
            have hX9 : FX s0.1 s9.1 := FX_tr hX7 hY9
            have hC9 : s9.2 = s0.2 := hc9.trans hC7
            have hq9 : s9.1 131 1 = (C : Int) := (hY9 131 1 (by unfold fx; omega)).trans hq7
            show wr (6 * n + 6) tb_M65 106 [(7, vi z7), (6, vi l6), (5, vi l5), (4, vi l4), (0, .ref 131), (1, vi l1), (2, vi l2), (3, vi l3)] [] s9 _
            refine wr_n (pc2 := 108) (lv2 := [(7, vi z7), (6, vi l6), (5, vi l5), (4, vi l4), (0, .ref 131), (1, vi l1), (2, vi l2), (3, vi l3)]) (st2 := [vi l6]) 1 (fun _ _ => rfl) ?_
            by_cases h10 : l6 ≠ 0
            · refine wr_if1t rfl rfl (by unfold i32; omega) h10 ?_
              refine wr_n (pc2 := 124) (lv2 := [(5, vi z7), (4, vi l4), (7, vi z7), (6, vi l6), (0, .ref 131), (1, vi l1), (2, vi l2), (3, vi l3)]) (st2 := []) 4 (fun _ _ => rfl) ?_
              refine wr_inc (a := l6) rfl rfl ?_
              show wr (6 * n + 6) tb_M65 127 [(6, vi (l6 + 1)), (5, vi z7), (4, vi l4), (7, vi z7), (0, .ref 131), (1, vi l1), (2, vi l2), (3, vi l3)] [] s9 _
              refine wr_n (pc2 := 36) (lv2 := [(6, vi (l6 + 1)), (5, vi z7), (4, vi l4), (7, vi z7), (0, .ref 131), (1, vi l1), (2, vi l2), (3, vi l3)]) (st2 := []) 1 (fun _ _ => rfl) ?_
              exact k_call_36v2 hC hEx _ (l6 + 1) z7 l4 z7 l1 l2 l3 s9 rfl hK9 hq9 hX9 hC9 (by omega) (by omega) (by omega) (by omega) (by omega) (by omega) (by omega) (by omega) 
            · refine wr_if1f rfl rfl (by unfold i32; omega) h10 ?_
              refine wr_n (pc2 := 124) (lv2 := [(5, vi z7), (4, vi z7), (7, vi z7), (6, vi l6), (0, .ref 131), (1, vi l1), (2, vi l2), (3, vi l3)]) (st2 := []) 5 (fun _ _ => rfl) ?_
              refine wr_inc (a := l6) rfl rfl ?_
              show wr (6 * n + 6) tb_M65 127 [(6, vi (l6 + 1)), (5, vi z7), (4, vi z7), (7, vi z7), (0, .ref 131), (1, vi l1), (2, vi l2), (3, vi l3)] [] s9 _
              refine wr_n (pc2 := 36) (lv2 := [(6, vi (l6 + 1)), (5, vi z7), (4, vi z7), (7, vi z7), (0, .ref 131), (1, vi l1), (2, vi l2), (3, vi l3)]) (st2 := []) 1 (fun _ _ => rfl) ?_
              exact k_call_36v2 hC hEx _ (l6 + 1) z7 z7 z7 l1 l2 l3 s9 rfl hK9 hq9 hX9 hC9 (by omega) (by omega) (by omega) (by omega) (by omega) (by omega) (by omega) (by omega) 
          · refine .inr ⟨rfl, ?_⟩
            exact ⟨hK7, (FX_tr hX hY7), .inr ⟨rfl, TH hc hc7⟩⟩
        · refine wr_if1f rfl rfl (by unfold i32; omega) h6 ?_
          refine wr_n (pc2 := 82) (lv2 := [(6, vi l6), (5, vi l5), (4, vi l4), (0, .ref 131), (1, vi l1), (2, vi l2), (3, vi l3)]) (st2 := [.ref 131]) 1 (fun _ _ => rfl) ?_
          refine wr_get (v := .ref 137) rfl rfl rfl (by decide) (rv_ref (hK.1 131 0 137 rfl)) fun h11 => ?_
          show wr (6 * n + 6) tb_M65 85 [(6, vi l6), (5, vi l5), (4, vi l4), (0, .ref 131), (1, vi l1), (2, vi l2), (3, vi l3)] [.ref 137] s _
          refine wr_call1 (args := []) (rest := []) rfl rfl rfl rfl (Nat.le_of_ble_eq_true rfl) (cr_mono (k_step (d := 6 * n + 5) s hK) ?_)
          rintro s12 out ⟨hK12, hY12, hc12, rfl⟩
          refine ⟨_, rfl, ?_⟩
          have hX12 : FX s0.1 s12.1 := FX_tr hX hY12
          have hC12 : s12.2 = s0.2 := hc12.trans hc
          have hq12 : s12.1 131 1 = (C : Int) := (hY12 131 1 (by unfold fx; omega)).trans hq
          show wr (6 * n + 6) tb_M65 88 [(6, vi l6), (5, vi l5), (4, vi l4), (0, .ref 131), (1, vi l1), (2, vi l2), (3, vi l3)] [] s12 _
          refine wr_n (pc2 := 90) (lv2 := [(6, vi l6), (5, vi l5), (4, vi l4), (0, .ref 131), (1, vi l1), (2, vi l2), (3, vi l3)]) (st2 := [vi l3, .ref 131]) 2 (fun _ _ => rfl) ?_
          refine wr_call1T (args := [vi l3]) (rest := []) rfl rfl rfl rfl (Nat.le_of_ble_eq_true rfl) rfl (cr_mono (hEx C s12 l3 hC hK12 hq12 (by omega)) ?_)
          rintro s13 out ⟨hK13, hY13, ⟨z13, hc13, rfl, hz13, hp13⟩ | ⟨rfl, hc13⟩⟩
          · refine .inl ⟨_, rfl, ?_⟩
            have hX13 : FX s0.1 s13.1 := FX_tr hX12 hY13
            have hC13 : s13.2 = s0.2 := hc13.trans hC12
            have hq13 : s13.1 131 1 = (C : Int) := (hY13 131 1 (by unfold fx; omega)).trans hq12
            unfold i32 at hz13
            clear hp13
            show wr (6 * n + 6) tb_M65 93 [(6, vi l6), (5, vi l5), (4, vi l4), (0, .ref 131), (1, vi l1), (2, vi l2), (3, vi l3)] [vi z13] s13 _
            refine wr_n (pc2 := 96) (lv2 := [(7, vi z13), (6, vi l6), (5, vi l5), (4, vi l4), (0, .ref 131), (1, vi l1), (2, vi l2), (3, vi l3)]) (st2 := [.ref 131]) 2 (fun _ _ => rfl) ?_
            refine wr_get (v := .ref C) rfl rfl rfl (by decide) (rv_ref (show (s13.1) 131 1 = ((C : Nat) : Int) from hq13)) fun h14 => ?_
            show wr (6 * n + 6) tb_M65 99 [(7, vi z13), (6, vi l6), (5, vi l5), (4, vi l4), (0, .ref 131), (1, vi l1), (2, vi l2), (3, vi l3)] [.ref C] s13 _
            refine wr_n (pc2 := 103) (lv2 := [(7, vi z13), (6, vi l6), (5, vi l5), (4, vi l4), (0, .ref 131), (1, vi l1), (2, vi l2), (3, vi l3)]) (st2 := [vi z13, vi l5, .ref C]) 2 (fun _ _ => rfl) ?_
            refine wr_call1 (args := [vi l5, vi z13]) (rest := []) rfl rfl rfl (TK0 hC) (Nat.le_of_ble_eq_true rfl) (cr_mono (k_link (d := 6 * n + 4) (C := C) hC (x := l5) (y := z13) s13 hK13 (by omega) (by omega)) ?_)
            rintro s15 out ⟨hK15, hY15, hc15, rfl⟩
            refine ⟨_, rfl, ?_⟩
            have hX15 : FX s0.1 s15.1 := FX_tr hX13 hY15
            have hC15 : s15.2 = s0.2 := hc15.trans hC13
            have hq15 : s15.1 131 1 = (C : Int) := (hY15 131 1 (by unfold fx; omega)).trans hq13
            show wr (6 * n + 6) tb_M65 106 [(7, vi z13), (6, vi l6), (5, vi l5), (4, vi l4), (0, .ref 131), (1, vi l1), (2, vi l2), (3, vi l3)] [] s15 _
            refine wr_n (pc2 := 108) (lv2 := [(7, vi z13), (6, vi l6), (5, vi l5), (4, vi l4), (0, .ref 131), (1, vi l1), (2, vi l2), (3, vi l3)]) (st2 := [vi l6]) 1 (fun _ _ => rfl) ?_
            by_cases h16 : l6 ≠ 0
            · refine wr_if1t rfl rfl (by unfold i32; omega) h16 ?_
              refine wr_n (pc2 := 124) (lv2 := [(5, vi z13), (4, vi l4), (7, vi z13), (6, vi l6), (0, .ref 131), (1, vi l1), (2, vi l2), (3, vi l3)]) (st2 := []) 4 (fun _ _ => rfl) ?_
              refine wr_inc (a := l6) rfl rfl ?_
              show wr (6 * n + 6) tb_M65 127 [(6, vi (l6 + 1)), (5, vi z13), (4, vi l4), (7, vi z13), (0, .ref 131), (1, vi l1), (2, vi l2), (3, vi l3)] [] s15 _
              refine wr_n (pc2 := 36) (lv2 := [(6, vi (l6 + 1)), (5, vi z13), (4, vi l4), (7, vi z13), (0, .ref 131), (1, vi l1), (2, vi l2), (3, vi l3)]) (st2 := []) 1 (fun _ _ => rfl) ?_
              exact k_call_36v2 hC hEx _ (l6 + 1) z13 l4 z13 l1 l2 l3 s15 rfl hK15 hq15 hX15 hC15 (by omega) (by omega) (by omega) (by omega) (by omega) (by omega) (by omega) (by omega) 
            · refine wr_if1f rfl rfl (by unfold i32; omega) h16 ?_
              refine wr_n (pc2 := 124) (lv2 := [(5, vi z13), (4, vi z13), (7, vi z13), (6, vi l6), (0, .ref 131), (1, vi l1), (2, vi l2), (3, vi l3)]) (st2 := []) 5 (fun _ _ => rfl) ?_
              refine wr_inc (a := l6) rfl rfl ?_
              show wr (6 * n + 6) tb_M65 127 [(6, vi (l6 + 1)), (5, vi z13), (4, vi z13), (7, vi z13), (0, .ref 131), (1, vi l1), (2, vi l2), (3, vi l3)] [] s15 _
              refine wr_n (pc2 := 36) (lv2 := [(6, vi (l6 + 1)), (5, vi z13), (4, vi z13), (7, vi z13), (0, .ref 131), (1, vi l1), (2, vi l2), (3, vi l3)]) (st2 := []) 1 (fun _ _ => rfl) ?_
              exact k_call_36v2 hC hEx _ (l6 + 1) z13 z13 z13 l1 l2 l3 s15 rfl hK15 hq15 hX15 hC15 (by omega) (by omega) (by omega) (by omega) (by omega) (by omega) (by omega) (by omega) 
          · refine .inr ⟨rfl, ?_⟩
            exact ⟨hK13, (FX_tr hX12 hY13), .inr ⟨rfl, TH hC12 hc13⟩⟩
    · refine wr_if1f rfl rfl (by unfold i32; omega) h2 ?_
      refine wr_n (pc2 := 50) (lv2 := [(6, vi l6), (5, vi l5), (4, vi l4), (0, .ref 131), (1, vi l1), (2, vi l2), (3, vi l3)]) (st2 := [.ref 131]) 1 (fun _ _ => rfl) ?_
      refine wr_get (v := .ref 137) rfl rfl rfl (by decide) (rv_ref (hK.1 131 0 137 rfl)) fun h17 => ?_
      show wr (6 * n + 6) tb_M65 53 [(6, vi l6), (5, vi l5), (4, vi l4), (0, .ref 131), (1, vi l1), (2, vi l2), (3, vi l3)] [.ref 137] s _
      refine wr_call1 (args := []) (rest := []) rfl rfl rfl rfl (Nat.le_of_ble_eq_true rfl) (cr_mono (k_kind (d := 6 * n + 5) s hK) ?_)
      rintro s18 out ⟨z18, rfl, hz18, hp18, e18⟩
      refine ⟨_, rfl, ?_⟩
      rw [e18]
      unfold i32 at hz18
      clear hp18
      show wr (6 * n + 6) tb_M65 56 [(6, vi l6), (5, vi l5), (4, vi l4), (0, .ref 131), (1, vi l1), (2, vi l2), (3, vi l3)] [vi z18] s _
      refine wr_n (pc2 := 58) (lv2 := [(6, vi l6), (5, vi l5), (4, vi l4), (0, .ref 131), (1, vi l1), (2, vi l2), (3, vi l3)]) (st2 := [vi 41, vi z18]) 1 (fun _ _ => rfl) ?_
      by_cases h19 : z18 = 41
      · refine wr_if2t rfl rfl (by unfold i32; omega) (by unfold i32; omega) h19 ?_
        exact k_call_130 hC hEx l6 l5 l4 l1 l2 l3 s hK hq hX hc (by omega) (by omega) (by omega) (by omega) (by omega) (by omega)  
      · refine wr_if2f rfl rfl (by unfold i32; omega) (by unfold i32; omega) h19 ?_
        refine wr_n (pc2 := 78) (lv2 := [(6, vi l6), (5, vi l5), (4, vi l4), (0, .ref 131), (1, vi l1), (2, vi l2), (3, vi l3)]) (st2 := [vi l6]) 2 (fun _ _ => rfl) ?_
        by_cases h20 : l6 ≤ 0
        · refine wr_if1t rfl rfl (by unfold i32; omega) h20 ?_
          refine wr_n (pc2 := 90) (lv2 := [(6, vi l6), (5, vi l5), (4, vi l4), (0, .ref 131), (1, vi l1), (2, vi l2), (3, vi l3)]) (st2 := [vi l3, .ref 131]) 2 (fun _ _ => rfl) ?_
          refine wr_call1T (args := [vi l3]) (rest := []) rfl rfl rfl rfl (Nat.le_of_ble_eq_true rfl) rfl (cr_mono (hEx C s l3 hC hK hq (by omega)) ?_)
          rintro s21 out ⟨hK21, hY21, ⟨z21, hc21, rfl, hz21, hp21⟩ | ⟨rfl, hc21⟩⟩
          · refine .inl ⟨_, rfl, ?_⟩
            have hX21 : FX s0.1 s21.1 := FX_tr hX hY21
            have hC21 : s21.2 = s0.2 := hc21.trans hc
            have hq21 : s21.1 131 1 = (C : Int) := (hY21 131 1 (by unfold fx; omega)).trans hq
            unfold i32 at hz21
            clear hp21
            show wr (6 * n + 6) tb_M65 93 [(6, vi l6), (5, vi l5), (4, vi l4), (0, .ref 131), (1, vi l1), (2, vi l2), (3, vi l3)] [vi z21] s21 _
            refine wr_n (pc2 := 96) (lv2 := [(7, vi z21), (6, vi l6), (5, vi l5), (4, vi l4), (0, .ref 131), (1, vi l1), (2, vi l2), (3, vi l3)]) (st2 := [.ref 131]) 2 (fun _ _ => rfl) ?_
            refine wr_get (v := .ref C) rfl rfl rfl (by decide) (rv_ref (show (s21.1) 131 1 = ((C : Nat) : Int) from hq21)) fun h22 => ?_
            show wr (6 * n + 6) tb_M65 99 [(7, vi z21), (6, vi l6), (5, vi l5), (4, vi l4), (0, .ref 131), (1, vi l1), (2, vi l2), (3, vi l3)] [.ref C] s21 _
            refine wr_n (pc2 := 103) (lv2 := [(7, vi z21), (6, vi l6), (5, vi l5), (4, vi l4), (0, .ref 131), (1, vi l1), (2, vi l2), (3, vi l3)]) (st2 := [vi z21, vi l5, .ref C]) 2 (fun _ _ => rfl) ?_
            refine wr_call1 (args := [vi l5, vi z21]) (rest := []) rfl rfl rfl (TK0 hC) (Nat.le_of_ble_eq_true rfl) (cr_mono (k_link (d := 6 * n + 4) (C := C) hC (x := l5) (y := z21) s21 hK21 (by omega) (by omega)) ?_)
            rintro s23 out ⟨hK23, hY23, hc23, rfl⟩
            refine ⟨_, rfl, ?_⟩
            have hX23 : FX s0.1 s23.1 := FX_tr hX21 hY23
            have hC23 : s23.2 = s0.2 := hc23.trans hC21
            have hq23 : s23.1 131 1 = (C : Int) := (hY23 131 1 (by unfold fx; omega)).trans hq21
            show wr (6 * n + 6) tb_M65 106 [(7, vi z21), (6, vi l6), (5, vi l5), (4, vi l4), (0, .ref 131), (1, vi l1), (2, vi l2), (3, vi l3)] [] s23 _
            refine wr_n (pc2 := 108) (lv2 := [(7, vi z21), (6, vi l6), (5, vi l5), (4, vi l4), (0, .ref 131), (1, vi l1), (2, vi l2), (3, vi l3)]) (st2 := [vi l6]) 1 (fun _ _ => rfl) ?_
            by_cases h24 : l6 ≠ 0
            · refine wr_if1t rfl rfl (by unfold i32; omega) h24 ?_
              refine wr_n (pc2 := 124) (lv2 := [(5, vi z21), (4, vi l4), (7, vi z21), (6, vi l6), (0, .ref 131), (1, vi l1), (2, vi l2), (3, vi l3)]) (st2 := []) 4 (fun _ _ => rfl) ?_
              refine wr_inc (a := l6) rfl rfl ?_
              show wr (6 * n + 6) tb_M65 127 [(6, vi (l6 + 1)), (5, vi z21), (4, vi l4), (7, vi z21), (0, .ref 131), (1, vi l1), (2, vi l2), (3, vi l3)] [] s23 _
              refine wr_n (pc2 := 36) (lv2 := [(6, vi (l6 + 1)), (5, vi z21), (4, vi l4), (7, vi z21), (0, .ref 131), (1, vi l1), (2, vi l2), (3, vi l3)]) (st2 := []) 1 (fun _ _ => rfl) ?_
              exact k_call_36v2 hC hEx _ (l6 + 1) z21 l4 z21 l1 l2 l3 s23 rfl hK23 hq23 hX23 hC23 (by omega) (by omega) (by omega) (by omega) (by omega) (by omega) (by omega) (by omega) 
            · refine wr_if1f rfl rfl (by unfold i32; omega) h24 ?_
              refine wr_n (pc2 := 124) (lv2 := [(5, vi z21), (4, vi z21), (7, vi z21), (6, vi l6), (0, .ref 131), (1, vi l1), (2, vi l2), (3, vi l3)]) (st2 := []) 5 (fun _ _ => rfl) ?_
              refine wr_inc (a := l6) rfl rfl ?_
              show wr (6 * n + 6) tb_M65 127 [(6, vi (l6 + 1)), (5, vi z21), (4, vi z21), (7, vi z21), (0, .ref 131), (1, vi l1), (2, vi l2), (3, vi l3)] [] s23 _
              refine wr_n (pc2 := 36) (lv2 := [(6, vi (l6 + 1)), (5, vi z21), (4, vi z21), (7, vi z21), (0, .ref 131), (1, vi l1), (2, vi l2), (3, vi l3)]) (st2 := []) 1 (fun _ _ => rfl) ?_
              exact k_call_36v2 hC hEx _ (l6 + 1) z21 z21 z21 l1 l2 l3 s23 rfl hK23 hq23 hX23 hC23 (by omega) (by omega) (by omega) (by omega) (by omega) (by omega) (by omega) (by omega) 
          · refine .inr ⟨rfl, ?_⟩
            exact ⟨hK21, (FX_tr hX hY21), .inr ⟨rfl, TH hc hc21⟩⟩
        · refine wr_if1f rfl rfl (by unfold i32; omega) h20 ?_
          refine wr_n (pc2 := 82) (lv2 := [(6, vi l6), (5, vi l5), (4, vi l4), (0, .ref 131), (1, vi l1), (2, vi l2), (3, vi l3)]) (st2 := [.ref 131]) 1 (fun _ _ => rfl) ?_
          refine wr_get (v := .ref 137) rfl rfl rfl (by decide) (rv_ref (hK.1 131 0 137 rfl)) fun h25 => ?_
          show wr (6 * n + 6) tb_M65 85 [(6, vi l6), (5, vi l5), (4, vi l4), (0, .ref 131), (1, vi l1), (2, vi l2), (3, vi l3)] [.ref 137] s _
          refine wr_call1 (args := []) (rest := []) rfl rfl rfl rfl (Nat.le_of_ble_eq_true rfl) (cr_mono (k_step (d := 6 * n + 5) s hK) ?_)
          rintro s26 out ⟨hK26, hY26, hc26, rfl⟩
          refine ⟨_, rfl, ?_⟩
          have hX26 : FX s0.1 s26.1 := FX_tr hX hY26
          have hC26 : s26.2 = s0.2 := hc26.trans hc
          have hq26 : s26.1 131 1 = (C : Int) := (hY26 131 1 (by unfold fx; omega)).trans hq
          show wr (6 * n + 6) tb_M65 88 [(6, vi l6), (5, vi l5), (4, vi l4), (0, .ref 131), (1, vi l1), (2, vi l2), (3, vi l3)] [] s26 _
          refine wr_n (pc2 := 90) (lv2 := [(6, vi l6), (5, vi l5), (4, vi l4), (0, .ref 131), (1, vi l1), (2, vi l2), (3, vi l3)]) (st2 := [vi l3, .ref 131]) 2 (fun _ _ => rfl) ?_
          refine wr_call1T (args := [vi l3]) (rest := []) rfl rfl rfl rfl (Nat.le_of_ble_eq_true rfl) rfl (cr_mono (hEx C s26 l3 hC hK26 hq26 (by omega)) ?_)
          rintro s27 out ⟨hK27, hY27, ⟨z27, hc27, rfl, hz27, hp27⟩ | ⟨rfl, hc27⟩⟩
          · refine .inl ⟨_, rfl, ?_⟩
            have hX27 : FX s0.1 s27.1 := FX_tr hX26 hY27
            have hC27 : s27.2 = s0.2 := hc27.trans hC26
            have hq27 : s27.1 131 1 = (C : Int) := (hY27 131 1 (by unfold fx; omega)).trans hq26
            unfold i32 at hz27
            clear hp27
            show wr (6 * n + 6) tb_M65 93 [(6, vi l6), (5, vi l5), (4, vi l4), (0, .ref 131), (1, vi l1), (2, vi l2), (3, vi l3)] [vi z27] s27 _
            refine wr_n (pc2 := 96) (lv2 := [(7, vi z27), (6, vi l6), (5, vi l5), (4, vi l4), (0, .ref 131), (1, vi l1), (2, vi l2), (3, vi l3)]) (st2 := [.ref 131]) 2 (fun _ _ => rfl) ?_
            refine wr_get (v := .ref C) rfl rfl rfl (by decide) (rv_ref (show (s27.1) 131 1 = ((C : Nat) : Int) from hq27)) fun h28 => ?_
            show wr (6 * n + 6) tb_M65 99 [(7, vi z27), (6, vi l6), (5, vi l5), (4, vi l4), (0, .ref 131), (1, vi l1), (2, vi l2), (3, vi l3)] [.ref C] s27 _
            refine wr_n (pc2 := 103) (lv2 := [(7, vi z27), (6, vi l6), (5, vi l5), (4, vi l4), (0, .ref 131), (1, vi l1), (2, vi l2), (3, vi l3)]) (st2 := [vi z27, vi l5, .ref C]) 2 (fun _ _ => rfl) ?_
            refine wr_call1 (args := [vi l5, vi z27]) (rest := []) rfl rfl rfl (TK0 hC) (Nat.le_of_ble_eq_true rfl) (cr_mono (k_link (d := 6 * n + 4) (C := C) hC (x := l5) (y := z27) s27 hK27 (by omega) (by omega)) ?_)
            rintro s29 out ⟨hK29, hY29, hc29, rfl⟩
            refine ⟨_, rfl, ?_⟩
            have hX29 : FX s0.1 s29.1 := FX_tr hX27 hY29
            have hC29 : s29.2 = s0.2 := hc29.trans hC27
            have hq29 : s29.1 131 1 = (C : Int) := (hY29 131 1 (by unfold fx; omega)).trans hq27
            show wr (6 * n + 6) tb_M65 106 [(7, vi z27), (6, vi l6), (5, vi l5), (4, vi l4), (0, .ref 131), (1, vi l1), (2, vi l2), (3, vi l3)] [] s29 _
            refine wr_n (pc2 := 108) (lv2 := [(7, vi z27), (6, vi l6), (5, vi l5), (4, vi l4), (0, .ref 131), (1, vi l1), (2, vi l2), (3, vi l3)]) (st2 := [vi l6]) 1 (fun _ _ => rfl) ?_
            by_cases h30 : l6 ≠ 0
            · refine wr_if1t rfl rfl (by unfold i32; omega) h30 ?_
              refine wr_n (pc2 := 124) (lv2 := [(5, vi z27), (4, vi l4), (7, vi z27), (6, vi l6), (0, .ref 131), (1, vi l1), (2, vi l2), (3, vi l3)]) (st2 := []) 4 (fun _ _ => rfl) ?_
              refine wr_inc (a := l6) rfl rfl ?_
              show wr (6 * n + 6) tb_M65 127 [(6, vi (l6 + 1)), (5, vi z27), (4, vi l4), (7, vi z27), (0, .ref 131), (1, vi l1), (2, vi l2), (3, vi l3)] [] s29 _
              refine wr_n (pc2 := 36) (lv2 := [(6, vi (l6 + 1)), (5, vi z27), (4, vi l4), (7, vi z27), (0, .ref 131), (1, vi l1), (2, vi l2), (3, vi l3)]) (st2 := []) 1 (fun _ _ => rfl) ?_
              exact k_call_36v2 hC hEx _ (l6 + 1) z27 l4 z27 l1 l2 l3 s29 rfl hK29 hq29 hX29 hC29 (by omega) (by omega) (by omega) (by omega) (by omega) (by omega) (by omega) (by omega) 
            · refine wr_if1f rfl rfl (by unfold i32; omega) h30 ?_
              refine wr_n (pc2 := 124) (lv2 := [(5, vi z27), (4, vi z27), (7, vi z27), (6, vi l6), (0, .ref 131), (1, vi l1), (2, vi l2), (3, vi l3)]) (st2 := []) 5 (fun _ _ => rfl) ?_
              refine wr_inc (a := l6) rfl rfl ?_
              show wr (6 * n + 6) tb_M65 127 [(6, vi (l6 + 1)), (5, vi z27), (4, vi z27), (7, vi z27), (0, .ref 131), (1, vi l1), (2, vi l2), (3, vi l3)] [] s29 _
              refine wr_n (pc2 := 36) (lv2 := [(6, vi (l6 + 1)), (5, vi z27), (4, vi z27), (7, vi z27), (0, .ref 131), (1, vi l1), (2, vi l2), (3, vi l3)]) (st2 := []) 1 (fun _ _ => rfl) ?_
              exact k_call_36v2 hC hEx _ (l6 + 1) z27 z27 z27 l1 l2 l3 s29 rfl hK29 hq29 hX29 hC29 (by omega) (by omega) (by omega) (by omega) (by omega) (by omega) (by omega) (by omega) 
          · refine .inr ⟨rfl, ?_⟩
            exact ⟨hK27, (FX_tr hX26 hY27), .inr ⟨rfl, TH hC26 hc27⟩⟩
set_option maxHeartbeats 20000000 in
set_option maxRecDepth 100000 in
theorem k_call {n : Nat} (hEx : CEx n) : CCa n := by
  intro C s x y u hC hK hq hx hy hu
  refine cr_of (M := tb_M65) rfl (Nat.le_of_ble_eq_true rfl) ?_
  show wr (6 * n + 6) tb_M65 0 [(0, .ref 131), (1, vi x), (2, vi y), (3, vi u)] [] s _
  refine wr_n (pc2 := 2) (lv2 := [(0, .ref 131), (1, vi x), (2, vi y), (3, vi u)]) (st2 := [vi x, .ref 131]) 2 (fun _ _ => rfl) ?_
  by_cases h1 : x < 0
  · refine wr_if1t rfl rfl (by unfold i32; omega) h1 ?_
    refine wr_n (pc2 := 17) (lv2 := [(0, .ref 131), (1, vi x), (2, vi y), (3, vi u)]) (st2 := [vi y, vi 0, .ref 131]) 2 (fun _ _ => rfl) ?_
    refine wr_call1T (args := [vi 0, vi y]) (rest := []) rfl rfl rfl rfl (Nat.le_of_ble_eq_true rfl) rfl (cr_mono (k_check (d := 6 * n + 5) (x := 0) (y := y) s hK (by omega) (by omega)) ?_)
    rintro s2 out (⟨e2, hr2, rfl⟩ | ⟨hK2, hY2, rfl, hc2⟩)
    · exact absurd rfl hr2
    · refine .inr ⟨rfl, ?_⟩
      exact ⟨hK2, (FX_tr FX_rf hY2), .inr ⟨rfl, TH rfl hc2⟩⟩
  · refine wr_if1f rfl rfl (by unfold i32; omega) h1 ?_
    refine wr_n (pc2 := 8) (lv2 := [(0, .ref 131), (1, vi x), (2, vi y), (3, vi u)]) (st2 := [vi 12, vi x, .ref 131]) 2 (fun _ _ => rfl) ?_
    by_cases h3 : 12 ≤ x
    · refine wr_if2t rfl rfl (by unfold i32; omega) (by unfold i32; omega) h3 ?_
      refine wr_n (pc2 := 17) (lv2 := [(0, .ref 131), (1, vi x), (2, vi y), (3, vi u)]) (st2 := [vi y, vi 0, .ref 131]) 2 (fun _ _ => rfl) ?_
      refine wr_call1T (args := [vi 0, vi y]) (rest := []) rfl rfl rfl rfl (Nat.le_of_ble_eq_true rfl) rfl (cr_mono (k_check (d := 6 * n + 5) (x := 0) (y := y) s hK (by omega) (by omega)) ?_)
      rintro s4 out (⟨e4, hr4, rfl⟩ | ⟨hK4, hY4, rfl, hc4⟩)
      · exact absurd rfl hr4
      · refine .inr ⟨rfl, ?_⟩
        exact ⟨hK4, (FX_tr FX_rf hY4), .inr ⟨rfl, TH rfl hc4⟩⟩
    · refine wr_if2f rfl rfl (by unfold i32; omega) (by unfold i32; omega) h3 ?_
      refine wr_n (pc2 := 17) (lv2 := [(0, .ref 131), (1, vi x), (2, vi y), (3, vi u)]) (st2 := [vi y, vi 1, .ref 131]) 3 (fun _ _ => rfl) ?_
      refine wr_call1T (args := [vi 1, vi y]) (rest := []) rfl rfl rfl rfl (Nat.le_of_ble_eq_true rfl) rfl (cr_mono (k_check (d := 6 * n + 5) (x := 1) (y := y) s hK (by omega) (by omega)) ?_)
      rintro s5 out (⟨e5, hr5, rfl⟩ | ⟨hK5, hY5, rfl, hc5⟩)
      · refine .inl ⟨_, rfl, ?_⟩
        rw [e5]
        show wr (6 * n + 6) tb_M65 20 [(0, .ref 131), (1, vi x), (2, vi y), (3, vi u)] [] s _
        refine wr_n (pc2 := 21) (lv2 := [(0, .ref 131), (1, vi x), (2, vi y), (3, vi u)]) (st2 := [.ref 131]) 1 (fun _ _ => rfl) ?_
        refine wr_get (v := .ref 137) rfl rfl rfl (by decide) (rv_ref (hK.1 131 0 137 rfl)) fun h6 => ?_
        show wr (6 * n + 6) tb_M65 24 [(0, .ref 131), (1, vi x), (2, vi y), (3, vi u)] [.ref 137] s _
        refine wr_call1 (args := []) (rest := []) rfl rfl rfl rfl (Nat.le_of_ble_eq_true rfl) (cr_mono (k_step (d := 6 * n + 5) s hK) ?_)
        rintro s7 out ⟨hK7, hY7, hc7, rfl⟩
        refine ⟨_, rfl, ?_⟩
        have hX7 : FX s.1 s7.1 := FX_tr FX_rf hY7
        have hC7 : s7.2 = s.2 := hc7.trans rfl
        have hq7 : s7.1 131 1 = (C : Int) := (hY7 131 1 (by unfold fx; omega)).trans hq
        show wr (6 * n + 6) tb_M65 27 [(0, .ref 131), (1, vi x), (2, vi y), (3, vi u)] [] s7 _
        refine wr_n (pc2 := 36) (lv2 := [(6, vi 0), (5, vi ((-1))), (4, vi ((-1))), (0, .ref 131), (1, vi x), (2, vi y), (3, vi u)]) (st2 := []) 6 (fun _ _ => rfl) ?_
        exact k_call_36 hC hEx _ 0 ((-1)) ((-1)) x y u s7 rfl hK7 hq7 hX7 hC7 (by omega) (by omega) (by omega) (by omega) (by omega) (by omega) (by omega) 
      · refine .inr ⟨rfl, ?_⟩
        exact ⟨hK5, (FX_tr FX_rf hY5), .inr ⟨rfl, TH rfl hc5⟩⟩
theorem k_KE : ∀ n, CEx n ∧ COp n ∧ CNo n ∧ CSu n ∧ CCa n
  | 0 => ⟨fun C s x _ _ _ h => absurd h (by omega), fun C s x _ _ _ h => absurd h (by omega), fun C s x _ _ _ h => absurd h (by omega), fun C s x _ _ _ h => absurd h (by omega), fun C s x y u _ _ _ _ _ h => absurd h (by omega)⟩
  | n + 1 => by
    obtain ⟨ex, op, no, su, ca⟩ := k_KE n
    have su2 := k_subscript ex
    have no2 := k_namedOperand su2 ca
    have op2 := k_operand op ex no2
    have ex2 := k_expression op2
    exact ⟨ex2, op2, no2, su2, k_call ex2⟩
