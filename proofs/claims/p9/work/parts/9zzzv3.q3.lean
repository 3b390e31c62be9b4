/-! The compiler once more (90d.k3). -/
def CKPq (C : Nat) (x : Int) (s : rS) : rS → hm_Out → Prop := fun s2 out => (s2 = s ∧ x ≠ 0 ∧ out = some none) ∨ (KI s2.1 ∧ FXq C s.1 s2.1 ∧ out = none ∧ s2.2 = (s.2.1 + 1, s.2.2 + 6))
set_option maxHeartbeats 20000000 in
set_option maxRecDepth 100000 in
theorem k_checkq {C : Nat} {d : Nat} {x y : Int} (s : rS) (hK : KI s.1) (hx : 0 ≤ x ∧ x ≤ 1) (hy : -2147483648 ≤ y ∧ y ≤ 2147483647) : cr (d + 1) 41 [.ref 131, vi x, vi y] s (CKPq C x s) := by
  refine cr_of (M := tb_M41) rfl (Nat.le_of_ble_eq_true rfl) ?_
  show wr d tb_M41 0 [(0, .ref 131), (1, vi x), (2, vi y)] [] s _
  refine wr_n (pc2 := 1) (lv2 := [(0, .ref 131), (1, vi x), (2, vi y)]) (st2 := [vi x]) 1 (fun _ _ => rfl) ?_
  by_cases h1 : x ≠ 0
  · refine wr_if1t rfl rfl (by unfold i32; omega) h1 ?_
    refine wr_end (fun _ _ => rfl) ?_
    exact .inl ⟨rfl, by omega, rfl⟩
  · refine wr_if1f rfl rfl (by unfold i32; omega) h1 ?_
    refine wr_n (pc2 := 6) (lv2 := [(0, .ref 131), (1, vi x), (2, vi y)]) (st2 := [vi y, .ref 131]) 2 (fun _ _ => rfl) ?_
    refine wr_put (z := y) rfl rfl rfl rfl (by decide) rfl (by decide) rfl (show -2147483648 ≤ y ∧ y ≤ 2147483647 by omega) (hf_int' _) ?_
    show wr d tb_M41 9 [(0, .ref 131), (1, vi x), (2, vi y)] [] (up2 s.1 131 2 y, s.2) _
    have hK2 : KI (up2 s.1 131 2 y) := (KI_up hK rfl (kb_no rfl))
    refine wr_throw (fun _ _ => rfl) ?_
    exact .inr ⟨hK2, (FXq_up FXq_rf (by unfold fxq fx; omega)), rfl, TH rfl rfl⟩
set_option maxHeartbeats 20000000 in
set_option maxRecDepth 100000 in
theorem k_expectq {C : Nat} {d : Nat}  {x : Int} (s : rS) (hK : KI s.1) (hx : (-2147483648) ≤ x ∧ x ≤ 2147483647)  : cr (d + 2) 43 [.ref 131, vi x] s (TVq C s) := by
  refine cr_of (M := tb_M43) rfl (Nat.le_of_ble_eq_true rfl) ?_
  show wr (d + 1) tb_M43 0 [(0, .ref 131), (1, vi x)] [] s _
  refine wr_n (pc2 := 2) (lv2 := [(0, .ref 131), (1, vi x)]) (st2 := [.ref 131, .ref 131]) 2 (fun _ _ => rfl) ?_
  refine wr_get (v := .ref 137) rfl rfl rfl (by decide) (rv_ref (hK.1 131 0 137 rfl)) fun h1 => ?_
  show wr (d + 1) tb_M43 5 [(0, .ref 131), (1, vi x)] [.ref 137, .ref 131] s _
  refine wr_call1 (args := []) (rest := [.ref 131]) rfl rfl rfl rfl (Nat.le_of_ble_eq_true rfl) (cr_mono (k_kind (d := d + 0) s hK) ?_)
  rintro s2 out ⟨z2, rfl, hz2, hp2, e2⟩
  refine ⟨_, rfl, ?_⟩
  rw [e2]
  unfold i32 at hz2
  clear hp2
  show wr (d + 1) tb_M43 8 [(0, .ref 131), (1, vi x)] [vi z2, .ref 131] s _
  refine wr_n (pc2 := 9) (lv2 := [(0, .ref 131), (1, vi x)]) (st2 := [vi x, vi z2, .ref 131]) 1 (fun _ _ => rfl) ?_
  by_cases h3 : z2 ≠ x
  · refine wr_if2t rfl rfl (by unfold i32; omega) (by unfold i32; omega) h3 ?_
    refine wr_n (pc2 := 18) (lv2 := [(0, .ref 131), (1, vi x)]) (st2 := [.ref 131, vi 0, .ref 131]) 2 (fun _ _ => rfl) ?_
    refine wr_get (v := .ref 137) rfl rfl rfl (by decide) (rv_ref (hK.1 131 0 137 rfl)) fun h4 => ?_
    show wr (d + 1) tb_M43 21 [(0, .ref 131), (1, vi x)] [.ref 137, vi 0, .ref 131] s _
    refine wr_call1 (args := []) (rest := [vi 0, .ref 131]) rfl rfl rfl rfl (Nat.le_of_ble_eq_true rfl) (cr_mono (k_place (d := d + 0) s hK) ?_)
    rintro s5 out ⟨z5, rfl, hz5, hp5, e5⟩
    refine ⟨_, rfl, ?_⟩
    rw [e5]
    unfold i32 at hz5
    clear hp5
    show wr (d + 1) tb_M43 24 [(0, .ref 131), (1, vi x)] [vi z5, vi 0, .ref 131] s _
    refine wr_call1T (args := [vi 0, vi z5]) (rest := []) rfl rfl rfl rfl (Nat.le_of_ble_eq_true rfl) rfl (cr_mono (k_checkq (C := C) (d := d + 0) (x := 0) (y := z5) s hK (by omega) (by omega)) ?_)
    rintro s6 out (⟨e6, hr6, rfl⟩ | ⟨hK6, hY6, rfl, hc6⟩)
    · exact absurd rfl hr6
    · refine .inr ⟨rfl, ?_⟩
      exact ⟨hK6, (FXq_tr FXq_rf hY6), .inr ⟨rfl, TH rfl hc6⟩⟩
  · refine wr_if2f rfl rfl (by unfold i32; omega) (by unfold i32; omega) h3 ?_
    refine wr_n (pc2 := 18) (lv2 := [(0, .ref 131), (1, vi x)]) (st2 := [.ref 131, vi 1, .ref 131]) 3 (fun _ _ => rfl) ?_
    refine wr_get (v := .ref 137) rfl rfl rfl (by decide) (rv_ref (hK.1 131 0 137 rfl)) fun h7 => ?_
    show wr (d + 1) tb_M43 21 [(0, .ref 131), (1, vi x)] [.ref 137, vi 1, .ref 131] s _
    refine wr_call1 (args := []) (rest := [vi 1, .ref 131]) rfl rfl rfl rfl (Nat.le_of_ble_eq_true rfl) (cr_mono (k_place (d := d + 0) s hK) ?_)
    rintro s8 out ⟨z8, rfl, hz8, hp8, e8⟩
    refine ⟨_, rfl, ?_⟩
    rw [e8]
    unfold i32 at hz8
    clear hp8
    show wr (d + 1) tb_M43 24 [(0, .ref 131), (1, vi x)] [vi z8, vi 1, .ref 131] s _
    refine wr_call1T (args := [vi 1, vi z8]) (rest := []) rfl rfl rfl rfl (Nat.le_of_ble_eq_true rfl) rfl (cr_mono (k_checkq (C := C) (d := d + 0) (x := 1) (y := z8) s hK (by omega) (by omega)) ?_)
    rintro s9 out (⟨e9, hr9, rfl⟩ | ⟨hK9, hY9, rfl, hc9⟩)
    · refine .inl ⟨_, rfl, ?_⟩
      rw [e9]
      show wr (d + 1) tb_M43 27 [(0, .ref 131), (1, vi x)] [] s _
      refine wr_n (pc2 := 28) (lv2 := [(0, .ref 131), (1, vi x)]) (st2 := [.ref 131]) 1 (fun _ _ => rfl) ?_
      refine wr_get (v := .ref 137) rfl rfl rfl (by decide) (rv_ref (hK.1 131 0 137 rfl)) fun h10 => ?_
      show wr (d + 1) tb_M43 31 [(0, .ref 131), (1, vi x)] [.ref 137] s _
      refine wr_call1 (args := []) (rest := []) rfl rfl rfl rfl (Nat.le_of_ble_eq_true rfl) (cr_mono (k_stepq (C := C) (d := d + 0) s hK) ?_)
      rintro s11 out ⟨hK11, hY11, hc11, rfl⟩
      refine ⟨_, rfl, ?_⟩
      have hX11 : FXq C s.1 s11.1 := FXq_tr FXq_rf hY11
      have hC11 : s11.2 = s.2 := hc11.trans rfl
      show wr (d + 1) tb_M43 34 [(0, .ref 131), (1, vi x)] [] s11 _
      refine wr_end (fun _ _ => rfl) ?_
      exact ⟨hK11, hX11, .inl ⟨hC11, rfl⟩⟩
    · refine .inr ⟨rfl, ?_⟩
      exact ⟨hK9, (FXq_tr FXq_rf hY9), .inr ⟨rfl, TH rfl hc9⟩⟩
set_option maxHeartbeats 20000000 in
set_option maxRecDepth 100000 in
theorem k_meaningq {d : Nat} {C : Nat} (hC : C = 99 ∨ C = 115)  (s : rS) (hK : KI s.1) (hq : s.1 131 1 = (C : Int))   : cr (d + 2) 61 [.ref 131] s (TZq C (fun z => True) s) := by
  refine cr_of (M := tb_M61) rfl (Nat.le_of_ble_eq_true rfl) ?_
  show wr (d + 1) tb_M61 0 [(0, .ref 131)] [] s _
  refine wr_n (pc2 := 1) (lv2 := [(0, .ref 131)]) (st2 := [.ref 131]) 1 (fun _ _ => rfl) ?_
  refine wr_get (v := .ref C) rfl rfl rfl (by decide) (rv_ref (show (s.1) 131 1 = ((C : Nat) : Int) from hq)) fun h1 => ?_
  show wr (d + 1) tb_M61 4 [(0, .ref 131)] [.ref C] s _
  refine wr_get (v := .ref (C + 6)) rfl rfl (TK0 hC) (by decide) (rv_ref (hK.1 C 5 (C + 6) (rcK hC (by omega)))) fun h2 => ?_
  show wr (d + 1) tb_M61 7 [(0, .ref 131)] [.ref (C + 6)] s _
  refine wr_n (pc2 := 8) (lv2 := [(0, .ref 131)]) (st2 := [.ref 131, .ref (C + 6)]) 1 (fun _ _ => rfl) ?_
  refine wr_get (v := .ref 137) rfl rfl rfl (by decide) (rv_ref (hK.1 131 0 137 rfl)) fun h3 => ?_
  show wr (d + 1) tb_M61 11 [(0, .ref 131)] [.ref 137, .ref (C + 6)] s _
  refine wr_call1 (args := []) (rest := [.ref (C + 6)]) rfl rfl rfl rfl (Nat.le_of_ble_eq_true rfl) (cr_mono (k_value (d := d + 0) s hK) ?_)
  rintro s4 out ⟨z4, rfl, hz4, e4⟩
  refine ⟨_, rfl, ?_⟩
  rw [e4]
  show wr (d + 1) tb_M61 14 [(0, .ref 131)] [vl z4, .ref (C + 6)] s _
  refine wr_n (pc2 := 15) (lv2 := [(0, .ref 131)]) (st2 := [vi 0, vl z4, .ref (C + 6)]) 1 (fun _ _ => rfl) ?_
  refine wr_call1 (args := [vl z4, vi 0]) (rest := []) rfl rfl rfl (TK6 hC) (Nat.le_of_ble_eq_true rfl) (cr_mono (k_find (d := d + 0) (C := C) hC (w := z4) (x := 0) s hK hz4 (by omega)) ?_)
  rintro s5 out ⟨z5, rfl, hz5, hp5, e5⟩
  refine ⟨_, rfl, ?_⟩
  rw [e5]
  unfold i32 at hz5
  clear hp5
  show wr (d + 1) tb_M61 18 [(0, .ref 131)] [vi z5] s _
  refine wr_n (pc2 := 21) (lv2 := [(1, vi z5), (0, .ref 131)]) (st2 := [.ref 131, .ref 131]) 3 (fun _ _ => rfl) ?_
  refine wr_get (v := .ref 137) rfl rfl rfl (by decide) (rv_ref (hK.1 131 0 137 rfl)) fun h6 => ?_
  show wr (d + 1) tb_M61 24 [(1, vi z5), (0, .ref 131)] [.ref 137, .ref 131] s _
  refine wr_call1 (args := []) (rest := [.ref 131]) rfl rfl rfl rfl (Nat.le_of_ble_eq_true rfl) (cr_mono (k_kind (d := d + 0) s hK) ?_)
  rintro s7 out ⟨z7, rfl, hz7, hp7, e7⟩
  refine ⟨_, rfl, ?_⟩
  rw [e7]
  unfold i32 at hz7
  clear hp7
  show wr (d + 1) tb_M61 27 [(1, vi z5), (0, .ref 131)] [vi z7, .ref 131] s _
  refine wr_n (pc2 := 28) (lv2 := [(1, vi z5), (0, .ref 131)]) (st2 := [vi 1, vi z7, .ref 131]) 1 (fun _ _ => rfl) ?_
  by_cases h8 : z7 ≠ 1
  · refine wr_if2t rfl rfl (by unfold i32; omega) (by unfold i32; omega) h8 ?_
    refine wr_n (pc2 := 41) (lv2 := [(1, vi z5), (0, .ref 131)]) (st2 := [.ref 131, vi 0, .ref 131]) 2 (fun _ _ => rfl) ?_
    refine wr_get (v := .ref 137) rfl rfl rfl (by decide) (rv_ref (hK.1 131 0 137 rfl)) fun h9 => ?_
    show wr (d + 1) tb_M61 44 [(1, vi z5), (0, .ref 131)] [.ref 137, vi 0, .ref 131] s _
    refine wr_call1 (args := []) (rest := [vi 0, .ref 131]) rfl rfl rfl rfl (Nat.le_of_ble_eq_true rfl) (cr_mono (k_place (d := d + 0) s hK) ?_)
    rintro s10 out ⟨z10, rfl, hz10, hp10, e10⟩
    refine ⟨_, rfl, ?_⟩
    rw [e10]
    unfold i32 at hz10
    clear hp10
    show wr (d + 1) tb_M61 47 [(1, vi z5), (0, .ref 131)] [vi z10, vi 0, .ref 131] s _
    refine wr_call1T (args := [vi 0, vi z10]) (rest := []) rfl rfl rfl rfl (Nat.le_of_ble_eq_true rfl) rfl (cr_mono (k_checkq (C := C) (d := d + 0) (x := 0) (y := z10) s hK (by omega) (by omega)) ?_)
    rintro s11 out (⟨e11, hr11, rfl⟩ | ⟨hK11, hY11, rfl, hc11⟩)
    · exact absurd rfl hr11
    · refine .inr ⟨rfl, ?_⟩
      exact ⟨hK11, (FXq_tr FXq_rf hY11), .inr ⟨rfl, TH rfl hc11⟩⟩
  · refine wr_if2f rfl rfl (by unfold i32; omega) (by unfold i32; omega) h8 ?_
    refine wr_n (pc2 := 32) (lv2 := [(1, vi z5), (0, .ref 131)]) (st2 := [vi z5, .ref 131]) 1 (fun _ _ => rfl) ?_
    by_cases h12 : z5 < 0
    · refine wr_if1t rfl rfl (by unfold i32; omega) h12 ?_
      refine wr_n (pc2 := 41) (lv2 := [(1, vi z5), (0, .ref 131)]) (st2 := [.ref 131, vi 0, .ref 131]) 2 (fun _ _ => rfl) ?_
      refine wr_get (v := .ref 137) rfl rfl rfl (by decide) (rv_ref (hK.1 131 0 137 rfl)) fun h13 => ?_
      show wr (d + 1) tb_M61 44 [(1, vi z5), (0, .ref 131)] [.ref 137, vi 0, .ref 131] s _
      refine wr_call1 (args := []) (rest := [vi 0, .ref 131]) rfl rfl rfl rfl (Nat.le_of_ble_eq_true rfl) (cr_mono (k_place (d := d + 0) s hK) ?_)
      rintro s14 out ⟨z14, rfl, hz14, hp14, e14⟩
      refine ⟨_, rfl, ?_⟩
      rw [e14]
      unfold i32 at hz14
      clear hp14
      show wr (d + 1) tb_M61 47 [(1, vi z5), (0, .ref 131)] [vi z14, vi 0, .ref 131] s _
      refine wr_call1T (args := [vi 0, vi z14]) (rest := []) rfl rfl rfl rfl (Nat.le_of_ble_eq_true rfl) rfl (cr_mono (k_checkq (C := C) (d := d + 0) (x := 0) (y := z14) s hK (by omega) (by omega)) ?_)
      rintro s15 out (⟨e15, hr15, rfl⟩ | ⟨hK15, hY15, rfl, hc15⟩)
      · exact absurd rfl hr15
      · refine .inr ⟨rfl, ?_⟩
        exact ⟨hK15, (FXq_tr FXq_rf hY15), .inr ⟨rfl, TH rfl hc15⟩⟩
    · refine wr_if1f rfl rfl (by unfold i32; omega) h12 ?_
      refine wr_n (pc2 := 41) (lv2 := [(1, vi z5), (0, .ref 131)]) (st2 := [.ref 131, vi 1, .ref 131]) 3 (fun _ _ => rfl) ?_
      refine wr_get (v := .ref 137) rfl rfl rfl (by decide) (rv_ref (hK.1 131 0 137 rfl)) fun h16 => ?_
      show wr (d + 1) tb_M61 44 [(1, vi z5), (0, .ref 131)] [.ref 137, vi 1, .ref 131] s _
      refine wr_call1 (args := []) (rest := [vi 1, .ref 131]) rfl rfl rfl rfl (Nat.le_of_ble_eq_true rfl) (cr_mono (k_place (d := d + 0) s hK) ?_)
      rintro s17 out ⟨z17, rfl, hz17, hp17, e17⟩
      refine ⟨_, rfl, ?_⟩
      rw [e17]
      unfold i32 at hz17
      clear hp17
      show wr (d + 1) tb_M61 47 [(1, vi z5), (0, .ref 131)] [vi z17, vi 1, .ref 131] s _
      refine wr_call1T (args := [vi 1, vi z17]) (rest := []) rfl rfl rfl rfl (Nat.le_of_ble_eq_true rfl) rfl (cr_mono (k_checkq (C := C) (d := d + 0) (x := 1) (y := z17) s hK (by omega) (by omega)) ?_)
      rintro s18 out (⟨e18, hr18, rfl⟩ | ⟨hK18, hY18, rfl, hc18⟩)
      · refine .inl ⟨_, rfl, ?_⟩
        rw [e18]
        show wr (d + 1) tb_M61 50 [(1, vi z5), (0, .ref 131)] [] s _
        refine wr_n (pc2 := 51) (lv2 := [(1, vi z5), (0, .ref 131)]) (st2 := [vi z5]) 1 (fun _ _ => rfl) ?_
        refine wr_reti rfl rfl ?_
        exact ⟨hK, FXq_rf, .inl ⟨z5, rfl, rfl, by unfold i32; omega, trivial⟩⟩
      · refine .inr ⟨rfl, ?_⟩
        exact ⟨hK18, (FXq_tr FXq_rf hY18), .inr ⟨rfl, TH rfl hc18⟩⟩
set_option maxHeartbeats 20000000 in
set_option maxRecDepth 100000 in
theorem k_numberq {C : Nat} {d : Nat}  {x y : Int} (s : rS) (hK : KI s.1) (hx : (-2147483648) ≤ x ∧ x ≤ 2147483647) (hy : (-2147483648) ≤ y ∧ y ≤ 2147483647)  : cr (d + 2) 59 [.ref 131, vi x, vi y] s (TZq C (fun z => x ≤ z ∧ z ≤ y) s) := by
  refine cr_of (M := tb_M59) rfl (Nat.le_of_ble_eq_true rfl) ?_
  show wr (d + 1) tb_M59 0 [(0, .ref 131), (1, vi x), (2, vi y)] [] s _
  refine wr_n (pc2 := 1) (lv2 := [(0, .ref 131), (1, vi x), (2, vi y)]) (st2 := [.ref 131]) 1 (fun _ _ => rfl) ?_
  refine wr_get (v := .ref 137) rfl rfl rfl (by decide) (rv_ref (hK.1 131 0 137 rfl)) fun h1 => ?_
  show wr (d + 1) tb_M59 4 [(0, .ref 131), (1, vi x), (2, vi y)] [.ref 137] s _
  refine wr_call1 (args := []) (rest := []) rfl rfl rfl rfl (Nat.le_of_ble_eq_true rfl) (cr_mono (k_value (d := d + 0) s hK) ?_)
  rintro s2 out ⟨z2, rfl, hz2, e2⟩
  refine ⟨_, rfl, ?_⟩
  rw [e2]
  show wr (d + 1) tb_M59 7 [(0, .ref 131), (1, vi x), (2, vi y)] [vl z2] s _
  refine wr_n (pc2 := 10) (lv2 := [(3, vl z2), (0, .ref 131), (1, vi x), (2, vi y)]) (st2 := [.ref 131, .ref 131]) 3 (fun _ _ => rfl) ?_
  refine wr_get (v := .ref 137) rfl rfl rfl (by decide) (rv_ref (hK.1 131 0 137 rfl)) fun h3 => ?_
  show wr (d + 1) tb_M59 13 [(3, vl z2), (0, .ref 131), (1, vi x), (2, vi y)] [.ref 137, .ref 131] s _
  refine wr_call1 (args := []) (rest := [.ref 131]) rfl rfl rfl rfl (Nat.le_of_ble_eq_true rfl) (cr_mono (k_kind (d := d + 0) s hK) ?_)
  rintro s4 out ⟨z4, rfl, hz4, hp4, e4⟩
  refine ⟨_, rfl, ?_⟩
  rw [e4]
  unfold i32 at hz4
  clear hp4
  show wr (d + 1) tb_M59 16 [(3, vl z2), (0, .ref 131), (1, vi x), (2, vi y)] [vi z4, .ref 131] s _
  refine wr_n (pc2 := 17) (lv2 := [(3, vl z2), (0, .ref 131), (1, vi x), (2, vi y)]) (st2 := [vi 2, vi z4, .ref 131]) 1 (fun _ _ => rfl) ?_
  by_cases h5 : z4 ≠ 2
  · refine wr_if2t rfl rfl (by unfold i32; omega) (by unfold i32; omega) h5 ?_
    refine wr_n (pc2 := 40) (lv2 := [(3, vl z2), (0, .ref 131), (1, vi x), (2, vi y)]) (st2 := [.ref 131, vi 0, .ref 131]) 2 (fun _ _ => rfl) ?_
    refine wr_get (v := .ref 137) rfl rfl rfl (by decide) (rv_ref (hK.1 131 0 137 rfl)) fun h6 => ?_
    show wr (d + 1) tb_M59 43 [(3, vl z2), (0, .ref 131), (1, vi x), (2, vi y)] [.ref 137, vi 0, .ref 131] s _
    refine wr_call1 (args := []) (rest := [vi 0, .ref 131]) rfl rfl rfl rfl (Nat.le_of_ble_eq_true rfl) (cr_mono (k_place (d := d + 0) s hK) ?_)
    rintro s7 out ⟨z7, rfl, hz7, hp7, e7⟩
    refine ⟨_, rfl, ?_⟩
    rw [e7]
    unfold i32 at hz7
    clear hp7
    show wr (d + 1) tb_M59 46 [(3, vl z2), (0, .ref 131), (1, vi x), (2, vi y)] [vi z7, vi 0, .ref 131] s _
    refine wr_call1T (args := [vi 0, vi z7]) (rest := []) rfl rfl rfl rfl (Nat.le_of_ble_eq_true rfl) rfl (cr_mono (k_checkq (C := C) (d := d + 0) (x := 0) (y := z7) s hK (by omega) (by omega)) ?_)
    rintro s8 out (⟨e8, hr8, rfl⟩ | ⟨hK8, hY8, rfl, hc8⟩)
    · exact absurd rfl hr8
    · refine .inr ⟨rfl, ?_⟩
      exact ⟨hK8, (FXq_tr FXq_rf hY8), .inr ⟨rfl, TH rfl hc8⟩⟩
  · refine wr_if2f rfl rfl (by unfold i32; omega) (by unfold i32; omega) h5 ?_
    refine wr_n (pc2 := 22) (lv2 := [(3, vl z2), (0, .ref 131), (1, vi x), (2, vi y)]) (st2 := [vi x, vl z2, .ref 131]) 2 (fun _ _ => rfl) ?_
    refine wr_i2l (a := x) rfl (by unfold i32; omega) ?_
    show wr (d + 1) tb_M59 23 [(3, vl z2), (0, .ref 131), (1, vi x), (2, vi y)] [vl x, vl z2, .ref 131] s _
    refine wr_lcmp (a := z2) (b := x) rfl hz2 (by unfold i64; omega) fun z9 h10 => ?_
    show wr (d + 1) tb_M59 24 [(3, vl z2), (0, .ref 131), (1, vi x), (2, vi y)] [vi z9, .ref 131] s _
    by_cases h11 : z9 < 0
    · refine wr_if1t rfl rfl (by unfold i32; omega) h11 ?_
      refine wr_n (pc2 := 40) (lv2 := [(3, vl z2), (0, .ref 131), (1, vi x), (2, vi y)]) (st2 := [.ref 131, vi 0, .ref 131]) 2 (fun _ _ => rfl) ?_
      refine wr_get (v := .ref 137) rfl rfl rfl (by decide) (rv_ref (hK.1 131 0 137 rfl)) fun h12 => ?_
      show wr (d + 1) tb_M59 43 [(3, vl z2), (0, .ref 131), (1, vi x), (2, vi y)] [.ref 137, vi 0, .ref 131] s _
      refine wr_call1 (args := []) (rest := [vi 0, .ref 131]) rfl rfl rfl rfl (Nat.le_of_ble_eq_true rfl) (cr_mono (k_place (d := d + 0) s hK) ?_)
      rintro s13 out ⟨z13, rfl, hz13, hp13, e13⟩
      refine ⟨_, rfl, ?_⟩
      rw [e13]
      unfold i32 at hz13
      clear hp13
      show wr (d + 1) tb_M59 46 [(3, vl z2), (0, .ref 131), (1, vi x), (2, vi y)] [vi z13, vi 0, .ref 131] s _
      refine wr_call1T (args := [vi 0, vi z13]) (rest := []) rfl rfl rfl rfl (Nat.le_of_ble_eq_true rfl) rfl (cr_mono (k_checkq (C := C) (d := d + 0) (x := 0) (y := z13) s hK (by omega) (by omega)) ?_)
      rintro s14 out (⟨e14, hr14, rfl⟩ | ⟨hK14, hY14, rfl, hc14⟩)
      · exact absurd rfl hr14
      · refine .inr ⟨rfl, ?_⟩
        exact ⟨hK14, (FXq_tr FXq_rf hY14), .inr ⟨rfl, TH rfl hc14⟩⟩
    · refine wr_if1f rfl rfl (by unfold i32; omega) h11 ?_
      refine wr_n (pc2 := 29) (lv2 := [(3, vl z2), (0, .ref 131), (1, vi x), (2, vi y)]) (st2 := [vi y, vl z2, .ref 131]) 2 (fun _ _ => rfl) ?_
      refine wr_i2l (a := y) rfl (by unfold i32; omega) ?_
      show wr (d + 1) tb_M59 30 [(3, vl z2), (0, .ref 131), (1, vi x), (2, vi y)] [vl y, vl z2, .ref 131] s _
      refine wr_lcmp (a := z2) (b := y) rfl hz2 (by unfold i64; omega) fun z15 h16 => ?_
      show wr (d + 1) tb_M59 31 [(3, vl z2), (0, .ref 131), (1, vi x), (2, vi y)] [vi z15, .ref 131] s _
      by_cases h17 : 0 < z15
      · refine wr_if1t rfl rfl (by unfold i32; omega) h17 ?_
        refine wr_n (pc2 := 40) (lv2 := [(3, vl z2), (0, .ref 131), (1, vi x), (2, vi y)]) (st2 := [.ref 131, vi 0, .ref 131]) 2 (fun _ _ => rfl) ?_
        refine wr_get (v := .ref 137) rfl rfl rfl (by decide) (rv_ref (hK.1 131 0 137 rfl)) fun h18 => ?_
        show wr (d + 1) tb_M59 43 [(3, vl z2), (0, .ref 131), (1, vi x), (2, vi y)] [.ref 137, vi 0, .ref 131] s _
        refine wr_call1 (args := []) (rest := [vi 0, .ref 131]) rfl rfl rfl rfl (Nat.le_of_ble_eq_true rfl) (cr_mono (k_place (d := d + 0) s hK) ?_)
        rintro s19 out ⟨z19, rfl, hz19, hp19, e19⟩
        refine ⟨_, rfl, ?_⟩
        rw [e19]
        unfold i32 at hz19
        clear hp19
        show wr (d + 1) tb_M59 46 [(3, vl z2), (0, .ref 131), (1, vi x), (2, vi y)] [vi z19, vi 0, .ref 131] s _
        refine wr_call1T (args := [vi 0, vi z19]) (rest := []) rfl rfl rfl rfl (Nat.le_of_ble_eq_true rfl) rfl (cr_mono (k_checkq (C := C) (d := d + 0) (x := 0) (y := z19) s hK (by omega) (by omega)) ?_)
        rintro s20 out (⟨e20, hr20, rfl⟩ | ⟨hK20, hY20, rfl, hc20⟩)
        · exact absurd rfl hr20
        · refine .inr ⟨rfl, ?_⟩
          exact ⟨hK20, (FXq_tr FXq_rf hY20), .inr ⟨rfl, TH rfl hc20⟩⟩
      · refine wr_if1f rfl rfl (by unfold i32; omega) h17 ?_
        refine wr_n (pc2 := 40) (lv2 := [(3, vl z2), (0, .ref 131), (1, vi x), (2, vi y)]) (st2 := [.ref 131, vi 1, .ref 131]) 3 (fun _ _ => rfl) ?_
        refine wr_get (v := .ref 137) rfl rfl rfl (by decide) (rv_ref (hK.1 131 0 137 rfl)) fun h21 => ?_
        show wr (d + 1) tb_M59 43 [(3, vl z2), (0, .ref 131), (1, vi x), (2, vi y)] [.ref 137, vi 1, .ref 131] s _
        refine wr_call1 (args := []) (rest := [vi 1, .ref 131]) rfl rfl rfl rfl (Nat.le_of_ble_eq_true rfl) (cr_mono (k_place (d := d + 0) s hK) ?_)
        rintro s22 out ⟨z22, rfl, hz22, hp22, e22⟩
        refine ⟨_, rfl, ?_⟩
        rw [e22]
        unfold i32 at hz22
        clear hp22
        show wr (d + 1) tb_M59 46 [(3, vl z2), (0, .ref 131), (1, vi x), (2, vi y)] [vi z22, vi 1, .ref 131] s _
        refine wr_call1T (args := [vi 1, vi z22]) (rest := []) rfl rfl rfl rfl (Nat.le_of_ble_eq_true rfl) rfl (cr_mono (k_checkq (C := C) (d := d + 0) (x := 1) (y := z22) s hK (by omega) (by omega)) ?_)
        rintro s23 out (⟨e23, hr23, rfl⟩ | ⟨hK23, hY23, rfl, hc23⟩)
        · refine .inl ⟨_, rfl, ?_⟩
          rw [e23]
          show wr (d + 1) tb_M59 49 [(3, vl z2), (0, .ref 131), (1, vi x), (2, vi y)] [] s _
          refine wr_n (pc2 := 50) (lv2 := [(3, vl z2), (0, .ref 131), (1, vi x), (2, vi y)]) (st2 := [.ref 131]) 1 (fun _ _ => rfl) ?_
          refine wr_get (v := .ref 137) rfl rfl rfl (by decide) (rv_ref (hK.1 131 0 137 rfl)) fun h24 => ?_
          show wr (d + 1) tb_M59 53 [(3, vl z2), (0, .ref 131), (1, vi x), (2, vi y)] [.ref 137] s _
          refine wr_call1 (args := []) (rest := []) rfl rfl rfl rfl (Nat.le_of_ble_eq_true rfl) (cr_mono (k_stepq (C := C) (d := d + 0) s hK) ?_)
          rintro s25 out ⟨hK25, hY25, hc25, rfl⟩
          refine ⟨_, rfl, ?_⟩
          have hX25 : FXq C s.1 s25.1 := FXq_tr FXq_rf hY25
          have hC25 : s25.2 = s.2 := hc25.trans rfl
          show wr (d + 1) tb_M59 56 [(3, vl z2), (0, .ref 131), (1, vi x), (2, vi y)] [] s25 _
          refine wr_n (pc2 := 57) (lv2 := [(3, vl z2), (0, .ref 131), (1, vi x), (2, vi y)]) (st2 := [vl z2]) 1 (fun _ _ => rfl) ?_
          refine wr_l2i (a := z2) rfl (by unfold i32; omega) ?_
          show wr (d + 1) tb_M59 58 [(3, vl z2), (0, .ref 131), (1, vi x), (2, vi y)] [vi z2] s25 _
          refine wr_reti rfl rfl ?_
          exact ⟨hK25, hX25, .inl ⟨z2, hC25, rfl, by unfold i32; omega, (by omega)⟩⟩
        · refine .inr ⟨rfl, ?_⟩
          exact ⟨hK23, (FXq_tr FXq_rf hY23), .inr ⟨rfl, TH rfl hc23⟩⟩
set_option maxHeartbeats 20000000 in
set_option maxRecDepth 100000 in
theorem k_join_3q {d : Nat} {s0 : rS} {C : Nat} (hC : C = 99 ∨ C = 115)  : ∀ (w : Nat) (l4 : Int) (l1 : Int) (l2 : Int) (l3 : Int) (s : rS), (s.1 131 6).toNat = w → KI s.1 → s.1 131 1 = (C : Int) → FXq C s0.1 s.1 → s.2 = s0.2 → (-2147483648) ≤ l4 ∧ l4 ≤ 2147483647 → (-2147483648) ≤ l1 ∧ l1 ≤ 2147483647 → (-2147483648) ≤ l2 ∧ l2 ≤ 2147483647 → (-2147483648) ≤ l3 ∧ l3 ≤ 2147483647 → wr (d + 1) tb_M69 3 [(4, vi l4), (0, .ref 131), (1, vi l1), (2, vi l2), (3, vi l3)] [] s (KZq C (fun z => True) s0) := by
  intro w
  induction w using Nat.strongRecOn with | ind w ih => ?_
  intro l4 l1 l2 l3 s hw hK hq hX hc hl4 hl1 hl2 hl3
  refine wr_n (pc2 := 4) (lv2 := [(4, vi l4), (0, .ref 131), (1, vi l1), (2, vi l2), (3, vi l3)]) (st2 := [.ref 131]) 1 (fun _ _ => rfl) ?_
  refine wr_get (v := vi (s.1 131 6)) rfl rfl rfl (by decide) rfl fun h1 => ?_
  have h1 : -2147483648 ≤ s.1 131 6 ∧ s.1 131 6 ≤ 2147483647 := h1
  show wr (d + 1) tb_M69 7 [(4, vi l4), (0, .ref 131), (1, vi l1), (2, vi l2), (3, vi l3)] [vi (s.1 131 6)] s _
  have hb2 : 0 ≤ s.1 131 6 ∧ s.1 131 6 ≤ 210 := kb_to rfl (hK.2 131 6)
  refine wr_n (pc2 := 8) (lv2 := [(4, vi l4), (0, .ref 131), (1, vi l1), (2, vi l2), (3, vi l3)]) (st2 := [vi l1, vi (s.1 131 6)]) 1 (fun _ _ => rfl) ?_
  by_cases h3 : s.1 131 6 ≤ l1
  · refine wr_if2t rfl rfl (by unfold i32; omega) (by unfold i32; omega) h3 ?_
    refine wr_n (pc2 := 83) (lv2 := [(4, vi l4), (0, .ref 131), (1, vi l1), (2, vi l2), (3, vi l3)]) (st2 := [vi l4]) 1 (fun _ _ => rfl) ?_
    refine wr_reti rfl rfl ?_
    exact ⟨hK, hX, hc, l4, rfl, by unfold i32; omega, trivial⟩
  · refine wr_if2f rfl rfl (by unfold i32; omega) (by unfold i32; omega) h3 ?_
    refine wr_n (pc2 := 12) (lv2 := [(4, vi l4), (0, .ref 131), (1, vi l1), (2, vi l2), (3, vi l3)]) (st2 := [.ref 131]) 1 (fun _ _ => rfl) ?_
    refine wr_get (v := vi (s.1 131 6)) rfl rfl rfl (by decide) rfl fun h4 => ?_
    have h4 : -2147483648 ≤ s.1 131 6 ∧ s.1 131 6 ≤ 2147483647 := h4
    show wr (d + 1) tb_M69 15 [(4, vi l4), (0, .ref 131), (1, vi l1), (2, vi l2), (3, vi l3)] [vi (s.1 131 6)] s _
    have hb5 : 0 ≤ s.1 131 6 ∧ s.1 131 6 ≤ 210 := kb_to rfl (hK.2 131 6)
    by_cases h6 : s.1 131 6 ≤ 0
    · refine wr_if1t rfl rfl (by unfold i32; omega) h6 ?_
      refine wr_n (pc2 := 83) (lv2 := [(4, vi l4), (0, .ref 131), (1, vi l1), (2, vi l2), (3, vi l3)]) (st2 := [vi l4]) 1 (fun _ _ => rfl) ?_
      refine wr_reti rfl rfl ?_
      exact ⟨hK, hX, hc, l4, rfl, by unfold i32; omega, trivial⟩
    · refine wr_if1f rfl rfl (by unfold i32; omega) h6 ?_
      refine wr_n (pc2 := 19) (lv2 := [(4, vi l4), (0, .ref 131), (1, vi l1), (2, vi l2), (3, vi l3)]) (st2 := [.ref 131]) 1 (fun _ _ => rfl) ?_
      refine wr_get (v := .ref 132) rfl rfl rfl (by decide) (rv_ref (hK.1 131 4 132 rfl)) fun h7 => ?_
      show wr (d + 1) tb_M69 22 [(4, vi l4), (0, .ref 131), (1, vi l1), (2, vi l2), (3, vi l3)] [.ref 132] s _
      refine wr_n (pc2 := 23) (lv2 := [(4, vi l4), (0, .ref 131), (1, vi l1), (2, vi l2), (3, vi l3)]) (st2 := [.ref 131, .ref 132]) 1 (fun _ _ => rfl) ?_
      refine wr_get (v := vi (s.1 131 6)) rfl rfl rfl (by decide) rfl fun h8 => ?_
      have h8 : -2147483648 ≤ s.1 131 6 ∧ s.1 131 6 ≤ 2147483647 := h8
      show wr (d + 1) tb_M69 26 [(4, vi l4), (0, .ref 131), (1, vi l1), (2, vi l2), (3, vi l3)] [vi (s.1 131 6), .ref 132] s _
      have hb9 : 0 ≤ s.1 131 6 ∧ s.1 131 6 ≤ 210 := kb_to rfl (hK.2 131 6)
      refine wr_n (pc2 := 27) (lv2 := [(4, vi l4), (0, .ref 131), (1, vi l1), (2, vi l2), (3, vi l3)]) (st2 := [vi 1, vi (s.1 131 6), .ref 132]) 1 (fun _ _ => rfl) ?_
      refine wr_sub (a := s.1 131 6) (b := 1) rfl ?_
      show wr (d + 1) tb_M69 28 [(4, vi l4), (0, .ref 131), (1, vi l1), (2, vi l2), (3, vi l3)] [vi ((s.1 131 6) - 1), .ref 132] s _
      refine wr_ald (a := (s.1 131 6) - 1) (v := vi (s.1 132 (((s.1 131 6) - 1).toNat))) rfl rfl rfl (by omega) (by omega) (by decide) rfl fun h10 => ?_
      have h10 : -2147483648 ≤ s.1 132 (((s.1 131 6) - 1).toNat) ∧ s.1 132 (((s.1 131 6) - 1).toNat) ≤ 2147483647 := h10
      show wr (d + 1) tb_M69 29 [(4, vi l4), (0, .ref 131), (1, vi l1), (2, vi l2), (3, vi l3)] [vi (s.1 132 (((s.1 131 6) - 1).toNat))] s _
      refine wr_call0 (args := [vi (s.1 132 (((s.1 131 6) - 1).toNat))]) (rest := []) rfl rfl rfl (Nat.le_of_ble_eq_true rfl) (cr_mono (k_level (d := d + 0) (x := s.1 132 (((s.1 131 6) - 1).toNat)) s hK (by omega)) ?_)
      rintro s11 out ⟨z11, rfl, hz11, hp11, e11⟩
      refine ⟨_, rfl, ?_⟩
      rw [e11]
      unfold i32 at hz11
      clear hp11
      show wr (d + 1) tb_M69 32 [(4, vi l4), (0, .ref 131), (1, vi l1), (2, vi l2), (3, vi l3)] [vi z11] s _
      refine wr_n (pc2 := 33) (lv2 := [(4, vi l4), (0, .ref 131), (1, vi l1), (2, vi l2), (3, vi l3)]) (st2 := [vi l2, vi z11]) 1 (fun _ _ => rfl) ?_
      by_cases h12 : z11 < l2
      · refine wr_if2t rfl rfl (by unfold i32; omega) (by unfold i32; omega) h12 ?_
        refine wr_n (pc2 := 83) (lv2 := [(4, vi l4), (0, .ref 131), (1, vi l1), (2, vi l2), (3, vi l3)]) (st2 := [vi l4]) 1 (fun _ _ => rfl) ?_
        refine wr_reti rfl rfl ?_
        exact ⟨hK, hX, hc, l4, rfl, by unfold i32; omega, trivial⟩
      · refine wr_if2f rfl rfl (by unfold i32; omega) (by unfold i32; omega) h12 ?_
        refine wr_n (pc2 := 38) (lv2 := [(4, vi l4), (0, .ref 131), (1, vi l1), (2, vi l2), (3, vi l3)]) (st2 := [.ref 131, .ref 131]) 2 (fun _ _ => rfl) ?_
        refine wr_get (v := vi (s.1 131 6)) rfl rfl rfl (by decide) rfl fun h13 => ?_
        have h13 : -2147483648 ≤ s.1 131 6 ∧ s.1 131 6 ≤ 2147483647 := h13
        show wr (d + 1) tb_M69 41 [(4, vi l4), (0, .ref 131), (1, vi l1), (2, vi l2), (3, vi l3)] [vi (s.1 131 6), .ref 131] s _
        have hb14 : 0 ≤ s.1 131 6 ∧ s.1 131 6 ≤ 210 := kb_to rfl (hK.2 131 6)
        refine wr_n (pc2 := 42) (lv2 := [(4, vi l4), (0, .ref 131), (1, vi l1), (2, vi l2), (3, vi l3)]) (st2 := [vi 1, vi (s.1 131 6), .ref 131]) 1 (fun _ _ => rfl) ?_
        refine wr_sub (a := s.1 131 6) (b := 1) rfl ?_
        show wr (d + 1) tb_M69 43 [(4, vi l4), (0, .ref 131), (1, vi l1), (2, vi l2), (3, vi l3)] [vi ((s.1 131 6) - 1), .ref 131] s _
        refine wr_put (z := (s.1 131 6) - 1) rfl rfl rfl rfl (by decide) rfl (by decide) rfl (show -2147483648 ≤ (s.1 131 6) - 1 ∧ (s.1 131 6) - 1 ≤ 2147483647 by omega) (hf_int' _) ?_
        show wr (d + 1) tb_M69 46 [(4, vi l4), (0, .ref 131), (1, vi l1), (2, vi l2), (3, vi l3)] [] (up2 s.1 131 6 ((s.1 131 6) - 1), s.2) _
        have hK15 : KI (up2 s.1 131 6 ((s.1 131 6) - 1)) := (KI_up hK rfl (kb_of rfl (show 0 ≤ (s.1 131 6) - 1 ∧ (s.1 131 6) - 1 ≤ 210 by omega)))
        refine wr_n (pc2 := 47) (lv2 := [(4, vi l4), (0, .ref 131), (1, vi l1), (2, vi l2), (3, vi l3)]) (st2 := [.ref 131]) 1 (fun _ _ => rfl) ?_
        refine wr_get (v := .ref C) rfl rfl rfl (by decide) (rv_ref (show (up2 s.1 131 6 ((s.1 131 6) - 1)) 131 1 = ((C : Nat) : Int) from (show (up2 s.1 131 6 ((s.1 131 6) - 1)) 131 1 = ((C : Nat) : Int) from ((if_neg (by omega)).trans hq)))) fun h16 => ?_
        show wr (d + 1) tb_M69 50 [(4, vi l4), (0, .ref 131), (1, vi l1), (2, vi l2), (3, vi l3)] [.ref C] (up2 s.1 131 6 ((s.1 131 6) - 1), s.2) _
        refine wr_n (pc2 := 54) (lv2 := [(4, vi l4), (0, .ref 131), (1, vi l1), (2, vi l2), (3, vi l3)]) (st2 := [.ref 131, vi 403, .ref C]) 2 (fun _ _ => rfl) ?_
        refine wr_get (v := .ref 132) rfl rfl rfl (by decide) (rv_ref (hK15.1 131 4 132 rfl)) fun h17 => ?_
        show wr (d + 1) tb_M69 57 [(4, vi l4), (0, .ref 131), (1, vi l1), (2, vi l2), (3, vi l3)] [.ref 132, vi 403, .ref C] (up2 s.1 131 6 ((s.1 131 6) - 1), s.2) _
        refine wr_n (pc2 := 58) (lv2 := [(4, vi l4), (0, .ref 131), (1, vi l1), (2, vi l2), (3, vi l3)]) (st2 := [.ref 131, .ref 132, vi 403, .ref C]) 1 (fun _ _ => rfl) ?_
        refine wr_get (v := vi ((s.1 131 6) - 1)) rfl rfl rfl (by decide) rfl fun h18 => ?_
        have h18 : -2147483648 ≤ (s.1 131 6) - 1 ∧ (s.1 131 6) - 1 ≤ 2147483647 := h18
        show wr (d + 1) tb_M69 61 [(4, vi l4), (0, .ref 131), (1, vi l1), (2, vi l2), (3, vi l3)] [vi ((s.1 131 6) - 1), .ref 132, vi 403, .ref C] (up2 s.1 131 6 ((s.1 131 6) - 1), s.2) _
        refine wr_ald (a := (s.1 131 6) - 1) (v := vi (s.1 132 (((s.1 131 6) - 1).toNat))) rfl rfl rfl (by omega) (by omega) (by decide) rfl fun h19 => ?_
        have h19 : -2147483648 ≤ s.1 132 (((s.1 131 6) - 1).toNat) ∧ s.1 132 (((s.1 131 6) - 1).toNat) ≤ 2147483647 := h19
        show wr (d + 1) tb_M69 62 [(4, vi l4), (0, .ref 131), (1, vi l1), (2, vi l2), (3, vi l3)] [vi (s.1 132 (((s.1 131 6) - 1).toNat)), vi 403, .ref C] (up2 s.1 131 6 ((s.1 131 6) - 1), s.2) _
        refine wr_n (pc2 := 63) (lv2 := [(4, vi l4), (0, .ref 131), (1, vi l1), (2, vi l2), (3, vi l3)]) (st2 := [.ref 131, vi (s.1 132 (((s.1 131 6) - 1).toNat)), vi 403, .ref C]) 1 (fun _ _ => rfl) ?_
        refine wr_get (v := .ref 133) rfl rfl rfl (by decide) (rv_ref (hK15.1 131 5 133 rfl)) fun h20 => ?_
        show wr (d + 1) tb_M69 66 [(4, vi l4), (0, .ref 131), (1, vi l1), (2, vi l2), (3, vi l3)] [.ref 133, vi (s.1 132 (((s.1 131 6) - 1).toNat)), vi 403, .ref C] (up2 s.1 131 6 ((s.1 131 6) - 1), s.2) _
        refine wr_n (pc2 := 67) (lv2 := [(4, vi l4), (0, .ref 131), (1, vi l1), (2, vi l2), (3, vi l3)]) (st2 := [.ref 131, .ref 133, vi (s.1 132 (((s.1 131 6) - 1).toNat)), vi 403, .ref C]) 1 (fun _ _ => rfl) ?_
        refine wr_get (v := vi ((s.1 131 6) - 1)) rfl rfl rfl (by decide) rfl fun h21 => ?_
        have h21 : -2147483648 ≤ (s.1 131 6) - 1 ∧ (s.1 131 6) - 1 ≤ 2147483647 := h21
        show wr (d + 1) tb_M69 70 [(4, vi l4), (0, .ref 131), (1, vi l1), (2, vi l2), (3, vi l3)] [vi ((s.1 131 6) - 1), .ref 133, vi (s.1 132 (((s.1 131 6) - 1).toNat)), vi 403, .ref C] (up2 s.1 131 6 ((s.1 131 6) - 1), s.2) _
        refine wr_ald (a := (s.1 131 6) - 1) (v := vi (s.1 133 (((s.1 131 6) - 1).toNat))) rfl rfl rfl (by omega) (by omega) (by decide) rfl fun h22 => ?_
        have h22 : -2147483648 ≤ s.1 133 (((s.1 131 6) - 1).toNat) ∧ s.1 133 (((s.1 131 6) - 1).toNat) ≤ 2147483647 := h22
        show wr (d + 1) tb_M69 71 [(4, vi l4), (0, .ref 131), (1, vi l1), (2, vi l2), (3, vi l3)] [vi (s.1 133 (((s.1 131 6) - 1).toNat)), vi (s.1 132 (((s.1 131 6) - 1).toNat)), vi 403, .ref C] (up2 s.1 131 6 ((s.1 131 6) - 1), s.2) _
        refine wr_n (pc2 := 73) (lv2 := [(4, vi l4), (0, .ref 131), (1, vi l1), (2, vi l2), (3, vi l3)]) (st2 := [vi l4, vi (s.1 133 (((s.1 131 6) - 1).toNat)), vi (s.1 132 (((s.1 131 6) - 1).toNat)), vi 403, .ref C]) 1 (fun _ _ => rfl) ?_
        refine wr_call1 (args := [vi 403, vi (s.1 132 (((s.1 131 6) - 1).toNat)), vi (s.1 133 (((s.1 131 6) - 1).toNat)), vi l4]) (rest := []) rfl rfl rfl (TK0 hC) (Nat.le_of_ble_eq_true rfl) (cr_mono (k_caddq (d := d + 0) (C := C) hC (x := 403) (y := s.1 132 (((s.1 131 6) - 1).toNat)) (u := s.1 133 (((s.1 131 6) - 1).toNat)) (v := l4) (up2 s.1 131 6 ((s.1 131 6) - 1), s.2) hK15 (by omega) (by omega) (by omega) (by omega)) ?_)
        rintro s23 out ⟨hK23, hY23, hc23, ha23, z23, rfl, hz23, hp23⟩
        refine ⟨_, rfl, ?_⟩
        have hX23 : FXq C s0.1 s23.1 := FXq_tr (FXq_up hX (by unfold fxq fx; omega)) hY23
        have hC23 : s23.2 = s0.2 := hc23.trans hc
        have hq23 : s23.1 131 1 = (C : Int) := (hY23 131 1 (by unfold fxq fx; omega)).trans (show (up2 s.1 131 6 ((s.1 131 6) - 1)) 131 1 = ((C : Nat) : Int) from ((if_neg (by omega)).trans hq))
        unfold i32 at hz23
        clear hp23
        have hv23 : s23.1 131 6 = (s.1 131 6) - 1 := ha23.trans (by show (up2 s.1 131 6 ((s.1 131 6) - 1)) 131 6 = _; simp [up2])
        show wr (d + 1) tb_M69 76 [(4, vi l4), (0, .ref 131), (1, vi l1), (2, vi l2), (3, vi l3)] [vi z23] s23 _
        refine wr_n (pc2 := 3) (lv2 := [(4, vi z23), (0, .ref 131), (1, vi l1), (2, vi l2), (3, vi l3)]) (st2 := []) 2 (fun _ _ => rfl) ?_
        exact ih _ (by omega) z23 l1 l2 l3 s23 rfl hK23 hq23 hX23 hC23 (by omega) (by omega) (by omega) (by omega)  
set_option maxHeartbeats 20000000 in
set_option maxRecDepth 100000 in
theorem k_joinq {d : Nat} {C : Nat} (hC : C = 99 ∨ C = 115)  {x y u : Int} (s : rS) (hK : KI s.1) (hq : s.1 131 1 = (C : Int)) (hx : (-2147483648) ≤ x ∧ x ≤ 2147483647) (hy : (-2147483648) ≤ y ∧ y ≤ 2147483647) (hu : (-2147483648) ≤ u ∧ u ≤ 2147483647)  : cr (d + 2) 69 [.ref 131, vi x, vi y, vi u] s (KZq C (fun z => True) s) := by
  refine cr_of (M := tb_M69) rfl (Nat.le_of_ble_eq_true rfl) ?_
  show wr (d + 1) tb_M69 0 [(0, .ref 131), (1, vi x), (2, vi y), (3, vi u)] [] s _
  refine wr_n (pc2 := 3) (lv2 := [(4, vi u), (0, .ref 131), (1, vi x), (2, vi y), (3, vi u)]) (st2 := []) 2 (fun _ _ => rfl) ?_
  exact k_join_3q hC _ u x y u s rfl hK hq FXq_rf rfl (by omega) (by omega) (by omega) (by omega)  
set_option maxHeartbeats 20000000 in
set_option maxRecDepth 100000 in
theorem k_targetq {d : Nat} {C : Nat} (hC : C = 99 ∨ C = 115)  {x y : Int} (s : rS) (hK : KI s.1) (hq : s.1 131 1 = (C : Int)) (hx : (-2147483648) ≤ x ∧ x ≤ 2147483647) (hy : (-2147483648) ≤ y ∧ y ≤ 2147483647)  : cr (d + 2) 72 [.ref 131, vi x, vi y] s (TZq C (fun z => True) s) := by
  refine cr_of (M := tb_M72) rfl (Nat.le_of_ble_eq_true rfl) ?_
  show wr (d + 1) tb_M72 0 [(0, .ref 131), (1, vi x), (2, vi y)] [] s _
  refine wr_n (pc2 := 1) (lv2 := [(0, .ref 131), (1, vi x), (2, vi y)]) (st2 := [.ref 131]) 1 (fun _ _ => rfl) ?_
  refine wr_get (v := .ref 137) rfl rfl rfl (by decide) (rv_ref (hK.1 131 0 137 rfl)) fun h1 => ?_
  show wr (d + 1) tb_M72 4 [(0, .ref 131), (1, vi x), (2, vi y)] [.ref 137] s _
  refine wr_call1 (args := []) (rest := []) rfl rfl rfl rfl (Nat.le_of_ble_eq_true rfl) (cr_mono (k_kind (d := d + 0) s hK) ?_)
  rintro s2 out ⟨z2, rfl, hz2, hp2, e2⟩
  refine ⟨_, rfl, ?_⟩
  rw [e2]
  unfold i32 at hz2
  clear hp2
  show wr (d + 1) tb_M72 7 [(0, .ref 131), (1, vi x), (2, vi y)] [vi z2] s _
  refine wr_n (pc2 := 9) (lv2 := [(0, .ref 131), (1, vi x), (2, vi y)]) (st2 := [vi 91, vi z2]) 1 (fun _ _ => rfl) ?_
  by_cases h3 : z2 ≠ 91
  · refine wr_if2t rfl rfl (by unfold i32; omega) (by unfold i32; omega) h3 ?_
    refine wr_n (pc2 := 20) (lv2 := [(3, vi 0), (0, .ref 131), (1, vi x), (2, vi y)]) (st2 := [.ref 131, .ref 131]) 4 (fun _ _ => rfl) ?_
    refine wr_get (v := .ref C) rfl rfl rfl (by decide) (rv_ref (show (s.1) 131 1 = ((C : Nat) : Int) from hq)) fun h4 => ?_
    show wr (d + 1) tb_M72 23 [(3, vi 0), (0, .ref 131), (1, vi x), (2, vi y)] [.ref C, .ref 131] s _
    refine wr_get (v := .ref (C + 6)) rfl rfl (TK0 hC) (by decide) (rv_ref (hK.1 C 5 (C + 6) (rcK hC (by omega)))) fun h5 => ?_
    show wr (d + 1) tb_M72 26 [(3, vi 0), (0, .ref 131), (1, vi x), (2, vi y)] [.ref (C + 6), .ref 131] s _
    refine wr_n (pc2 := 27) (lv2 := [(3, vi 0), (0, .ref 131), (1, vi x), (2, vi y)]) (st2 := [vi x, .ref (C + 6), .ref 131]) 1 (fun _ _ => rfl) ?_
    refine wr_call1 (args := [vi x]) (rest := [.ref 131]) rfl rfl rfl (TK6 hC) (Nat.le_of_ble_eq_true rfl) (cr_mono (k_nkind (d := d + 0) (C := C) hC (x := x) s hK (by omega)) ?_)
    rintro s6 out ⟨z6, rfl, hz6, hp6, e6⟩
    refine ⟨_, rfl, ?_⟩
    rw [e6]
    unfold i32 at hz6
    clear hp6
    show wr (d + 1) tb_M72 30 [(3, vi 0), (0, .ref 131), (1, vi x), (2, vi y)] [vi z6, .ref 131] s _
    refine wr_n (pc2 := 31) (lv2 := [(3, vi 0), (0, .ref 131), (1, vi x), (2, vi y)]) (st2 := [vi 0, vi z6, .ref 131]) 1 (fun _ _ => rfl) ?_
    by_cases h7 : z6 ≠ 0
    · refine wr_if2t rfl rfl (by unfold i32; omega) (by unfold i32; omega) h7 ?_
      refine wr_n (pc2 := 40) (lv2 := [(3, vi 0), (0, .ref 131), (1, vi x), (2, vi y)]) (st2 := [vi y, vi 0, .ref 131]) 2 (fun _ _ => rfl) ?_
      refine wr_call1T (args := [vi 0, vi y]) (rest := []) rfl rfl rfl rfl (Nat.le_of_ble_eq_true rfl) rfl (cr_mono (k_checkq (C := C) (d := d + 0) (x := 0) (y := y) s hK (by omega) (by omega)) ?_)
      rintro s8 out (⟨e8, hr8, rfl⟩ | ⟨hK8, hY8, rfl, hc8⟩)
      · exact absurd rfl hr8
      · refine .inr ⟨rfl, ?_⟩
        exact ⟨hK8, (FXq_tr FXq_rf hY8), .inr ⟨rfl, TH rfl hc8⟩⟩
    · refine wr_if2f rfl rfl (by unfold i32; omega) (by unfold i32; omega) h7 ?_
      refine wr_n (pc2 := 40) (lv2 := [(3, vi 0), (0, .ref 131), (1, vi x), (2, vi y)]) (st2 := [vi y, vi 1, .ref 131]) 3 (fun _ _ => rfl) ?_
      refine wr_call1T (args := [vi 1, vi y]) (rest := []) rfl rfl rfl rfl (Nat.le_of_ble_eq_true rfl) rfl (cr_mono (k_checkq (C := C) (d := d + 0) (x := 1) (y := y) s hK (by omega) (by omega)) ?_)
      rintro s9 out (⟨e9, hr9, rfl⟩ | ⟨hK9, hY9, rfl, hc9⟩)
      · refine .inl ⟨_, rfl, ?_⟩
        rw [e9]
        show wr (d + 1) tb_M72 43 [(3, vi 0), (0, .ref 131), (1, vi x), (2, vi y)] [] s _
        refine wr_n (pc2 := 44) (lv2 := [(3, vi 0), (0, .ref 131), (1, vi x), (2, vi y)]) (st2 := [.ref 131]) 1 (fun _ _ => rfl) ?_
        refine wr_get (v := .ref C) rfl rfl rfl (by decide) (rv_ref (show (s.1) 131 1 = ((C : Nat) : Int) from hq)) fun h10 => ?_
        show wr (d + 1) tb_M72 47 [(3, vi 0), (0, .ref 131), (1, vi x), (2, vi y)] [.ref C] s _
        refine wr_get (v := .ref (C + 6)) rfl rfl (TK0 hC) (by decide) (rv_ref (hK.1 C 5 (C + 6) (rcK hC (by omega)))) fun h11 => ?_
        show wr (d + 1) tb_M72 50 [(3, vi 0), (0, .ref 131), (1, vi x), (2, vi y)] [.ref (C + 6)] s _
        refine wr_n (pc2 := 51) (lv2 := [(3, vi 0), (0, .ref 131), (1, vi x), (2, vi y)]) (st2 := [vi x, .ref (C + 6)]) 1 (fun _ _ => rfl) ?_
        refine wr_call1 (args := [vi x]) (rest := []) rfl rfl rfl (TK6 hC) (Nat.le_of_ble_eq_true rfl) (cr_mono (k_nnumber (d := d + 0) (C := C) hC (x := x) s hK (by omega)) ?_)
        rintro s12 out ⟨z12, rfl, hz12, hp12, e12⟩
        refine ⟨_, rfl, ?_⟩
        rw [e12]
        unfold i32 at hz12
        clear hp12
        show wr (d + 1) tb_M72 54 [(3, vi 0), (0, .ref 131), (1, vi x), (2, vi y)] [vi z12] s _
        refine wr_n (pc2 := 65) (lv2 := [(3, vi 0), (0, .ref 131), (1, vi x), (2, vi y)]) (st2 := [vi 0, vi z12]) 4 (fun _ _ => rfl) ?_
        refine wr_add (a := z12) (b := 0) rfl ?_
        show wr (d + 1) tb_M72 66 [(3, vi 0), (0, .ref 131), (1, vi x), (2, vi y)] [vi (z12 + 0)] s _
        refine wr_n (pc2 := 70) (lv2 := [(4, vi (z12 + 0)), (3, vi 0), (0, .ref 131), (1, vi x), (2, vi y)]) (st2 := [.ref 131, .ref 131]) 3 (fun _ _ => rfl) ?_
        refine wr_get (v := vl (s.1 131 7)) rfl rfl rfl (by decide) rfl fun h13 => ?_
        show wr (d + 1) tb_M72 73 [(4, vi (z12 + 0)), (3, vi 0), (0, .ref 131), (1, vi x), (2, vi y)] [vl (s.1 131 7), .ref 131] s _
        refine wr_n (pc2 := 76) (lv2 := [(4, vi (z12 + 0)), (3, vi 0), (0, .ref 131), (1, vi x), (2, vi y)]) (st2 := [vi (z12 + 0), vl 1, vl (s.1 131 7), .ref 131]) 2 (fun _ _ => rfl) ?_
        refine wr_lshl (a := 1) (b := z12 + 0) rfl fun z14 h15 _ => ?_
        show wr (d + 1) tb_M72 77 [(4, vi (z12 + 0)), (3, vi 0), (0, .ref 131), (1, vi x), (2, vi y)] [vl z14, vl (s.1 131 7), .ref 131] s _
        refine wr_anyl (a := s.1 131 7) (b := z14) rfl rfl fun z16 h17 _ => ?_
        show wr (d + 1) tb_M72 78 [(4, vi (z12 + 0)), (3, vi 0), (0, .ref 131), (1, vi x), (2, vi y)] [vl z16, .ref 131] s _
        refine wr_put (z := z16) rfl rfl rfl rfl (by decide) rfl (by decide) rfl h17 (fit_l _) ?_
        show wr (d + 1) tb_M72 81 [(4, vi (z12 + 0)), (3, vi 0), (0, .ref 131), (1, vi x), (2, vi y)] [] (up2 s.1 131 7 z16, s.2) _
        have hK18 : KI (up2 s.1 131 7 z16) := (KI_up hK rfl (kb_no rfl))
        refine wr_n (pc2 := 83) (lv2 := [(4, vi (z12 + 0)), (3, vi 0), (0, .ref 131), (1, vi x), (2, vi y)]) (st2 := [.ref 131, .ref 131]) 2 (fun _ _ => rfl) ?_
        refine wr_get (v := vl (s.1 131 8)) rfl rfl rfl (by decide) rfl fun h19 => ?_
        show wr (d + 1) tb_M72 86 [(4, vi (z12 + 0)), (3, vi 0), (0, .ref 131), (1, vi x), (2, vi y)] [vl (s.1 131 8), .ref 131] (up2 s.1 131 7 z16, s.2) _
        refine wr_n (pc2 := 89) (lv2 := [(4, vi (z12 + 0)), (3, vi 0), (0, .ref 131), (1, vi x), (2, vi y)]) (st2 := [vi (z12 + 0), vl 1, vl (s.1 131 8), .ref 131]) 2 (fun _ _ => rfl) ?_
        refine wr_lshl (a := 1) (b := z12 + 0) rfl fun z20 h21 _ => ?_
        show wr (d + 1) tb_M72 90 [(4, vi (z12 + 0)), (3, vi 0), (0, .ref 131), (1, vi x), (2, vi y)] [vl z20, vl (s.1 131 8), .ref 131] (up2 s.1 131 7 z16, s.2) _
        refine wr_anyl (a := s.1 131 8) (b := z20) rfl rfl fun z22 h23 _ => ?_
        show wr (d + 1) tb_M72 91 [(4, vi (z12 + 0)), (3, vi 0), (0, .ref 131), (1, vi x), (2, vi y)] [vl z22, .ref 131] (up2 s.1 131 7 z16, s.2) _
        refine wr_put (z := z22) rfl rfl rfl rfl (by decide) rfl (by decide) rfl h23 (fit_l _) ?_
        show wr (d + 1) tb_M72 94 [(4, vi (z12 + 0)), (3, vi 0), (0, .ref 131), (1, vi x), (2, vi y)] [] (up2 (up2 s.1 131 7 z16) 131 8 z22, s.2) _
        have hK24 : KI (up2 (up2 s.1 131 7 z16) 131 8 z22) := (KI_up (KI_up hK rfl (kb_no rfl)) rfl (kb_no rfl))
        refine wr_n (pc2 := 96) (lv2 := [(4, vi (z12 + 0)), (3, vi 0), (0, .ref 131), (1, vi x), (2, vi y)]) (st2 := [vi (z12 + 0)]) 1 (fun _ _ => rfl) ?_
        refine wr_reti rfl rfl ?_
        exact ⟨hK24, (FXq_up (FXq_up FXq_rf (by unfold fxq fx; omega)) (by unfold fxq fx; omega)), .inl ⟨z12 + 0, rfl, rfl, by unfold i32; omega, trivial⟩⟩
      · refine .inr ⟨rfl, ?_⟩
        exact ⟨hK9, (FXq_tr FXq_rf hY9), .inr ⟨rfl, TH rfl hc9⟩⟩
  · refine wr_if2f rfl rfl (by unfold i32; omega) (by unfold i32; omega) h3 ?_
    refine wr_n (pc2 := 20) (lv2 := [(3, vi 1), (0, .ref 131), (1, vi x), (2, vi y)]) (st2 := [.ref 131, .ref 131]) 5 (fun _ _ => rfl) ?_
    refine wr_get (v := .ref C) rfl rfl rfl (by decide) (rv_ref (show (s.1) 131 1 = ((C : Nat) : Int) from hq)) fun h25 => ?_
    show wr (d + 1) tb_M72 23 [(3, vi 1), (0, .ref 131), (1, vi x), (2, vi y)] [.ref C, .ref 131] s _
    refine wr_get (v := .ref (C + 6)) rfl rfl (TK0 hC) (by decide) (rv_ref (hK.1 C 5 (C + 6) (rcK hC (by omega)))) fun h26 => ?_
    show wr (d + 1) tb_M72 26 [(3, vi 1), (0, .ref 131), (1, vi x), (2, vi y)] [.ref (C + 6), .ref 131] s _
    refine wr_n (pc2 := 27) (lv2 := [(3, vi 1), (0, .ref 131), (1, vi x), (2, vi y)]) (st2 := [vi x, .ref (C + 6), .ref 131]) 1 (fun _ _ => rfl) ?_
    refine wr_call1 (args := [vi x]) (rest := [.ref 131]) rfl rfl rfl (TK6 hC) (Nat.le_of_ble_eq_true rfl) (cr_mono (k_nkind (d := d + 0) (C := C) hC (x := x) s hK (by omega)) ?_)
    rintro s27 out ⟨z27, rfl, hz27, hp27, e27⟩
    refine ⟨_, rfl, ?_⟩
    rw [e27]
    unfold i32 at hz27
    clear hp27
    show wr (d + 1) tb_M72 30 [(3, vi 1), (0, .ref 131), (1, vi x), (2, vi y)] [vi z27, .ref 131] s _
    refine wr_n (pc2 := 31) (lv2 := [(3, vi 1), (0, .ref 131), (1, vi x), (2, vi y)]) (st2 := [vi 1, vi z27, .ref 131]) 1 (fun _ _ => rfl) ?_
    by_cases h28 : z27 ≠ 1
    · refine wr_if2t rfl rfl (by unfold i32; omega) (by unfold i32; omega) h28 ?_
      refine wr_n (pc2 := 40) (lv2 := [(3, vi 1), (0, .ref 131), (1, vi x), (2, vi y)]) (st2 := [vi y, vi 0, .ref 131]) 2 (fun _ _ => rfl) ?_
      refine wr_call1T (args := [vi 0, vi y]) (rest := []) rfl rfl rfl rfl (Nat.le_of_ble_eq_true rfl) rfl (cr_mono (k_checkq (C := C) (d := d + 0) (x := 0) (y := y) s hK (by omega) (by omega)) ?_)
      rintro s29 out (⟨e29, hr29, rfl⟩ | ⟨hK29, hY29, rfl, hc29⟩)
      · exact absurd rfl hr29
      · refine .inr ⟨rfl, ?_⟩
        exact ⟨hK29, (FXq_tr FXq_rf hY29), .inr ⟨rfl, TH rfl hc29⟩⟩
    · refine wr_if2f rfl rfl (by unfold i32; omega) (by unfold i32; omega) h28 ?_
      refine wr_n (pc2 := 40) (lv2 := [(3, vi 1), (0, .ref 131), (1, vi x), (2, vi y)]) (st2 := [vi y, vi 1, .ref 131]) 3 (fun _ _ => rfl) ?_
      refine wr_call1T (args := [vi 1, vi y]) (rest := []) rfl rfl rfl rfl (Nat.le_of_ble_eq_true rfl) rfl (cr_mono (k_checkq (C := C) (d := d + 0) (x := 1) (y := y) s hK (by omega) (by omega)) ?_)
      rintro s30 out (⟨e30, hr30, rfl⟩ | ⟨hK30, hY30, rfl, hc30⟩)
      · refine .inl ⟨_, rfl, ?_⟩
        rw [e30]
        show wr (d + 1) tb_M72 43 [(3, vi 1), (0, .ref 131), (1, vi x), (2, vi y)] [] s _
        refine wr_n (pc2 := 44) (lv2 := [(3, vi 1), (0, .ref 131), (1, vi x), (2, vi y)]) (st2 := [.ref 131]) 1 (fun _ _ => rfl) ?_
        refine wr_get (v := .ref C) rfl rfl rfl (by decide) (rv_ref (show (s.1) 131 1 = ((C : Nat) : Int) from hq)) fun h31 => ?_
        show wr (d + 1) tb_M72 47 [(3, vi 1), (0, .ref 131), (1, vi x), (2, vi y)] [.ref C] s _
        refine wr_get (v := .ref (C + 6)) rfl rfl (TK0 hC) (by decide) (rv_ref (hK.1 C 5 (C + 6) (rcK hC (by omega)))) fun h32 => ?_
        show wr (d + 1) tb_M72 50 [(3, vi 1), (0, .ref 131), (1, vi x), (2, vi y)] [.ref (C + 6)] s _
        refine wr_n (pc2 := 51) (lv2 := [(3, vi 1), (0, .ref 131), (1, vi x), (2, vi y)]) (st2 := [vi x, .ref (C + 6)]) 1 (fun _ _ => rfl) ?_
        refine wr_call1 (args := [vi x]) (rest := []) rfl rfl rfl (TK6 hC) (Nat.le_of_ble_eq_true rfl) (cr_mono (k_nnumber (d := d + 0) (C := C) hC (x := x) s hK (by omega)) ?_)
        rintro s33 out ⟨z33, rfl, hz33, hp33, e33⟩
        refine ⟨_, rfl, ?_⟩
        rw [e33]
        unfold i32 at hz33
        clear hp33
        show wr (d + 1) tb_M72 54 [(3, vi 1), (0, .ref 131), (1, vi x), (2, vi y)] [vi z33] s _
        refine wr_n (pc2 := 65) (lv2 := [(3, vi 1), (0, .ref 131), (1, vi x), (2, vi y)]) (st2 := [vi 24, vi z33]) 5 (fun _ _ => rfl) ?_
        refine wr_any2 rfl rfl fun z34 h35 => ?_
        unfold i32 at h35
        show wr (d + 1) tb_M72 66 [(3, vi 1), (0, .ref 131), (1, vi x), (2, vi y)] [vi z34] s _
        refine wr_n (pc2 := 70) (lv2 := [(4, vi z34), (3, vi 1), (0, .ref 131), (1, vi x), (2, vi y)]) (st2 := [.ref 131, .ref 131]) 3 (fun _ _ => rfl) ?_
        refine wr_get (v := vl (s.1 131 7)) rfl rfl rfl (by decide) rfl fun h36 => ?_
        show wr (d + 1) tb_M72 73 [(4, vi z34), (3, vi 1), (0, .ref 131), (1, vi x), (2, vi y)] [vl (s.1 131 7), .ref 131] s _
        refine wr_n (pc2 := 76) (lv2 := [(4, vi z34), (3, vi 1), (0, .ref 131), (1, vi x), (2, vi y)]) (st2 := [vi z34, vl 1, vl (s.1 131 7), .ref 131]) 2 (fun _ _ => rfl) ?_
        refine wr_lshl (a := 1) (b := z34) rfl fun z37 h38 _ => ?_
        show wr (d + 1) tb_M72 77 [(4, vi z34), (3, vi 1), (0, .ref 131), (1, vi x), (2, vi y)] [vl z37, vl (s.1 131 7), .ref 131] s _
        refine wr_anyl (a := s.1 131 7) (b := z37) rfl rfl fun z39 h40 _ => ?_
        show wr (d + 1) tb_M72 78 [(4, vi z34), (3, vi 1), (0, .ref 131), (1, vi x), (2, vi y)] [vl z39, .ref 131] s _
        refine wr_put (z := z39) rfl rfl rfl rfl (by decide) rfl (by decide) rfl h40 (fit_l _) ?_
        show wr (d + 1) tb_M72 81 [(4, vi z34), (3, vi 1), (0, .ref 131), (1, vi x), (2, vi y)] [] (up2 s.1 131 7 z39, s.2) _
        have hK41 : KI (up2 s.1 131 7 z39) := (KI_up hK rfl (kb_no rfl))
        refine wr_n (pc2 := 83) (lv2 := [(4, vi z34), (3, vi 1), (0, .ref 131), (1, vi x), (2, vi y)]) (st2 := [.ref 131, .ref 131]) 2 (fun _ _ => rfl) ?_
        refine wr_get (v := vl (s.1 131 8)) rfl rfl rfl (by decide) rfl fun h42 => ?_
        show wr (d + 1) tb_M72 86 [(4, vi z34), (3, vi 1), (0, .ref 131), (1, vi x), (2, vi y)] [vl (s.1 131 8), .ref 131] (up2 s.1 131 7 z39, s.2) _
        refine wr_n (pc2 := 89) (lv2 := [(4, vi z34), (3, vi 1), (0, .ref 131), (1, vi x), (2, vi y)]) (st2 := [vi z34, vl 1, vl (s.1 131 8), .ref 131]) 2 (fun _ _ => rfl) ?_
        refine wr_lshl (a := 1) (b := z34) rfl fun z43 h44 _ => ?_
        show wr (d + 1) tb_M72 90 [(4, vi z34), (3, vi 1), (0, .ref 131), (1, vi x), (2, vi y)] [vl z43, vl (s.1 131 8), .ref 131] (up2 s.1 131 7 z39, s.2) _
        refine wr_anyl (a := s.1 131 8) (b := z43) rfl rfl fun z45 h46 _ => ?_
        show wr (d + 1) tb_M72 91 [(4, vi z34), (3, vi 1), (0, .ref 131), (1, vi x), (2, vi y)] [vl z45, .ref 131] (up2 s.1 131 7 z39, s.2) _
        refine wr_put (z := z45) rfl rfl rfl rfl (by decide) rfl (by decide) rfl h46 (fit_l _) ?_
        show wr (d + 1) tb_M72 94 [(4, vi z34), (3, vi 1), (0, .ref 131), (1, vi x), (2, vi y)] [] (up2 (up2 s.1 131 7 z39) 131 8 z45, s.2) _
        have hK47 : KI (up2 (up2 s.1 131 7 z39) 131 8 z45) := (KI_up (KI_up hK rfl (kb_no rfl)) rfl (kb_no rfl))
        refine wr_n (pc2 := 96) (lv2 := [(4, vi z34), (3, vi 1), (0, .ref 131), (1, vi x), (2, vi y)]) (st2 := [vi z34]) 1 (fun _ _ => rfl) ?_
        refine wr_reti rfl rfl ?_
        exact ⟨hK47, (FXq_up (FXq_up FXq_rf (by unfold fxq fx; omega)) (by unfold fxq fx; omega)), .inl ⟨z34, rfl, rfl, by unfold i32; omega, trivial⟩⟩
      · refine .inr ⟨rfl, ?_⟩
        exact ⟨hK30, (FXq_tr FXq_rf hY30), .inr ⟨rfl, TH rfl hc30⟩⟩
set_option maxHeartbeats 20000000 in
set_option maxRecDepth 100000 in
theorem k_declareq {d : Nat} {C : Nat} (hC : C = 99 ∨ C = 115)  {x y : Int} (s : rS) (hK : KI s.1) (hq : s.1 131 1 = (C : Int)) (hx : 0 ≤ x ∧ x ≤ 6) (hy : (-2147483648) ≤ y ∧ y ≤ 2147483647)  : cr (d + 2) 37 [.ref 131, vi x, vi y] s (TZq C (fun z => True) s) := by
  refine cr_of (M := tb_M37) rfl (Nat.le_of_ble_eq_true rfl) ?_
  show wr (d + 1) tb_M37 0 [(0, .ref 131), (1, vi x), (2, vi y)] [] s _
  refine wr_n (pc2 := 2) (lv2 := [(0, .ref 131), (1, vi x), (2, vi y)]) (st2 := [.ref 131, .ref 131]) 2 (fun _ _ => rfl) ?_
  refine wr_get (v := .ref 137) rfl rfl rfl (by decide) (rv_ref (hK.1 131 0 137 rfl)) fun h1 => ?_
  show wr (d + 1) tb_M37 5 [(0, .ref 131), (1, vi x), (2, vi y)] [.ref 137, .ref 131] s _
  refine wr_call1 (args := []) (rest := [.ref 131]) rfl rfl rfl rfl (Nat.le_of_ble_eq_true rfl) (cr_mono (k_kind (d := d + 0) s hK) ?_)
  rintro s2 out ⟨z2, rfl, hz2, hp2, e2⟩
  refine ⟨_, rfl, ?_⟩
  rw [e2]
  unfold i32 at hz2
  clear hp2
  show wr (d + 1) tb_M37 8 [(0, .ref 131), (1, vi x), (2, vi y)] [vi z2, .ref 131] s _
  refine wr_n (pc2 := 9) (lv2 := [(0, .ref 131), (1, vi x), (2, vi y)]) (st2 := [vi 1, vi z2, .ref 131]) 1 (fun _ _ => rfl) ?_
  by_cases h3 : z2 ≠ 1
  · refine wr_if2t rfl rfl (by unfold i32; omega) (by unfold i32; omega) h3 ?_
    refine wr_n (pc2 := 39) (lv2 := [(0, .ref 131), (1, vi x), (2, vi y)]) (st2 := [.ref 131, vi 0, .ref 131]) 2 (fun _ _ => rfl) ?_
    refine wr_get (v := .ref 137) rfl rfl rfl (by decide) (rv_ref (hK.1 131 0 137 rfl)) fun h4 => ?_
    show wr (d + 1) tb_M37 42 [(0, .ref 131), (1, vi x), (2, vi y)] [.ref 137, vi 0, .ref 131] s _
    refine wr_call1 (args := []) (rest := [vi 0, .ref 131]) rfl rfl rfl rfl (Nat.le_of_ble_eq_true rfl) (cr_mono (k_place (d := d + 0) s hK) ?_)
    rintro s5 out ⟨z5, rfl, hz5, hp5, e5⟩
    refine ⟨_, rfl, ?_⟩
    rw [e5]
    unfold i32 at hz5
    clear hp5
    show wr (d + 1) tb_M37 45 [(0, .ref 131), (1, vi x), (2, vi y)] [vi z5, vi 0, .ref 131] s _
    refine wr_call1T (args := [vi 0, vi z5]) (rest := []) rfl rfl rfl rfl (Nat.le_of_ble_eq_true rfl) rfl (cr_mono (k_checkq (C := C) (d := d + 0) (x := 0) (y := z5) s hK (by omega) (by omega)) ?_)
    rintro s6 out (⟨e6, hr6, rfl⟩ | ⟨hK6, hY6, rfl, hc6⟩)
    · exact absurd rfl hr6
    · refine .inr ⟨rfl, ?_⟩
      exact ⟨hK6, (FXq_tr FXq_rf hY6), .inr ⟨rfl, TH rfl hc6⟩⟩
  · refine wr_if2f rfl rfl (by unfold i32; omega) (by unfold i32; omega) h3 ?_
    refine wr_n (pc2 := 13) (lv2 := [(0, .ref 131), (1, vi x), (2, vi y)]) (st2 := [.ref 131, .ref 131]) 1 (fun _ _ => rfl) ?_
    refine wr_get (v := .ref C) rfl rfl rfl (by decide) (rv_ref (show (s.1) 131 1 = ((C : Nat) : Int) from hq)) fun h7 => ?_
    show wr (d + 1) tb_M37 16 [(0, .ref 131), (1, vi x), (2, vi y)] [.ref C, .ref 131] s _
    refine wr_get (v := .ref (C + 6)) rfl rfl (TK0 hC) (by decide) (rv_ref (hK.1 C 5 (C + 6) (rcK hC (by omega)))) fun h8 => ?_
    show wr (d + 1) tb_M37 19 [(0, .ref 131), (1, vi x), (2, vi y)] [.ref (C + 6), .ref 131] s _
    refine wr_n (pc2 := 20) (lv2 := [(0, .ref 131), (1, vi x), (2, vi y)]) (st2 := [.ref 131, .ref (C + 6), .ref 131]) 1 (fun _ _ => rfl) ?_
    refine wr_get (v := .ref 137) rfl rfl rfl (by decide) (rv_ref (hK.1 131 0 137 rfl)) fun h9 => ?_
    show wr (d + 1) tb_M37 23 [(0, .ref 131), (1, vi x), (2, vi y)] [.ref 137, .ref (C + 6), .ref 131] s _
    refine wr_call1 (args := []) (rest := [.ref (C + 6), .ref 131]) rfl rfl rfl rfl (Nat.le_of_ble_eq_true rfl) (cr_mono (k_value (d := d + 0) s hK) ?_)
    rintro s10 out ⟨z10, rfl, hz10, e10⟩
    refine ⟨_, rfl, ?_⟩
    rw [e10]
    show wr (d + 1) tb_M37 26 [(0, .ref 131), (1, vi x), (2, vi y)] [vl z10, .ref (C + 6), .ref 131] s _
    refine wr_n (pc2 := 27) (lv2 := [(0, .ref 131), (1, vi x), (2, vi y)]) (st2 := [vi y, vl z10, .ref (C + 6), .ref 131]) 1 (fun _ _ => rfl) ?_
    refine wr_call1 (args := [vl z10, vi y]) (rest := [.ref 131]) rfl rfl rfl (TK6 hC) (Nat.le_of_ble_eq_true rfl) (cr_mono (k_find (d := d + 0) (C := C) hC (w := z10) (x := y) s hK hz10 (by omega)) ?_)
    rintro s11 out ⟨z11, rfl, hz11, hp11, e11⟩
    refine ⟨_, rfl, ?_⟩
    rw [e11]
    unfold i32 at hz11
    clear hp11
    show wr (d + 1) tb_M37 30 [(0, .ref 131), (1, vi x), (2, vi y)] [vi z11, .ref 131] s _
    by_cases h12 : 0 ≤ z11
    · refine wr_if1t rfl rfl (by unfold i32; omega) h12 ?_
      refine wr_n (pc2 := 39) (lv2 := [(0, .ref 131), (1, vi x), (2, vi y)]) (st2 := [.ref 131, vi 0, .ref 131]) 2 (fun _ _ => rfl) ?_
      refine wr_get (v := .ref 137) rfl rfl rfl (by decide) (rv_ref (hK.1 131 0 137 rfl)) fun h13 => ?_
      show wr (d + 1) tb_M37 42 [(0, .ref 131), (1, vi x), (2, vi y)] [.ref 137, vi 0, .ref 131] s _
      refine wr_call1 (args := []) (rest := [vi 0, .ref 131]) rfl rfl rfl rfl (Nat.le_of_ble_eq_true rfl) (cr_mono (k_place (d := d + 0) s hK) ?_)
      rintro s14 out ⟨z14, rfl, hz14, hp14, e14⟩
      refine ⟨_, rfl, ?_⟩
      rw [e14]
      unfold i32 at hz14
      clear hp14
      show wr (d + 1) tb_M37 45 [(0, .ref 131), (1, vi x), (2, vi y)] [vi z14, vi 0, .ref 131] s _
      refine wr_call1T (args := [vi 0, vi z14]) (rest := []) rfl rfl rfl rfl (Nat.le_of_ble_eq_true rfl) rfl (cr_mono (k_checkq (C := C) (d := d + 0) (x := 0) (y := z14) s hK (by omega) (by omega)) ?_)
      rintro s15 out (⟨e15, hr15, rfl⟩ | ⟨hK15, hY15, rfl, hc15⟩)
      · exact absurd rfl hr15
      · refine .inr ⟨rfl, ?_⟩
        exact ⟨hK15, (FXq_tr FXq_rf hY15), .inr ⟨rfl, TH rfl hc15⟩⟩
    · refine wr_if1f rfl rfl (by unfold i32; omega) h12 ?_
      refine wr_n (pc2 := 39) (lv2 := [(0, .ref 131), (1, vi x), (2, vi y)]) (st2 := [.ref 131, vi 1, .ref 131]) 3 (fun _ _ => rfl) ?_
      refine wr_get (v := .ref 137) rfl rfl rfl (by decide) (rv_ref (hK.1 131 0 137 rfl)) fun h16 => ?_
      show wr (d + 1) tb_M37 42 [(0, .ref 131), (1, vi x), (2, vi y)] [.ref 137, vi 1, .ref 131] s _
      refine wr_call1 (args := []) (rest := [vi 1, .ref 131]) rfl rfl rfl rfl (Nat.le_of_ble_eq_true rfl) (cr_mono (k_place (d := d + 0) s hK) ?_)
      rintro s17 out ⟨z17, rfl, hz17, hp17, e17⟩
      refine ⟨_, rfl, ?_⟩
      rw [e17]
      unfold i32 at hz17
      clear hp17
      show wr (d + 1) tb_M37 45 [(0, .ref 131), (1, vi x), (2, vi y)] [vi z17, vi 1, .ref 131] s _
      refine wr_call1T (args := [vi 1, vi z17]) (rest := []) rfl rfl rfl rfl (Nat.le_of_ble_eq_true rfl) rfl (cr_mono (k_checkq (C := C) (d := d + 0) (x := 1) (y := z17) s hK (by omega) (by omega)) ?_)
      rintro s18 out (⟨e18, hr18, rfl⟩ | ⟨hK18, hY18, rfl, hc18⟩)
      · refine .inl ⟨_, rfl, ?_⟩
        rw [e18]
        show wr (d + 1) tb_M37 48 [(0, .ref 131), (1, vi x), (2, vi y)] [] s _
        refine wr_n (pc2 := 51) (lv2 := [(0, .ref 131), (1, vi x), (2, vi y)]) (st2 := [vi 6, vi x]) 2 (fun _ _ => rfl) ?_
        by_cases h19 : x ≠ 6
        · refine wr_if2t rfl rfl (by unfold i32; omega) (by unfold i32; omega) h19 ?_
          refine wr_n (pc2 := 62) (lv2 := [(3, vi x), (0, .ref 131), (1, vi x), (2, vi y)]) (st2 := [vi x, .ref 131]) 4 (fun _ _ => rfl) ?_
          by_cases h20 : x < 0
          · refine wr_if1t rfl rfl (by unfold i32; omega) h20 ?_
            refine wr_n (pc2 := 94) (lv2 := [(3, vi x), (0, .ref 131), (1, vi x), (2, vi y)]) (st2 := [.ref 131, vi 0, .ref 131]) 2 (fun _ _ => rfl) ?_
            refine wr_get (v := .ref 137) rfl rfl rfl (by decide) (rv_ref (hK.1 131 0 137 rfl)) fun h21 => ?_
            show wr (d + 1) tb_M37 97 [(3, vi x), (0, .ref 131), (1, vi x), (2, vi y)] [.ref 137, vi 0, .ref 131] s _
            refine wr_call1 (args := []) (rest := [vi 0, .ref 131]) rfl rfl rfl rfl (Nat.le_of_ble_eq_true rfl) (cr_mono (k_place (d := d + 0) s hK) ?_)
            rintro s22 out ⟨z22, rfl, hz22, hp22, e22⟩
            refine ⟨_, rfl, ?_⟩
            rw [e22]
            unfold i32 at hz22
            clear hp22
            show wr (d + 1) tb_M37 100 [(3, vi x), (0, .ref 131), (1, vi x), (2, vi y)] [vi z22, vi 0, .ref 131] s _
            refine wr_call1T (args := [vi 0, vi z22]) (rest := []) rfl rfl rfl rfl (Nat.le_of_ble_eq_true rfl) rfl (cr_mono (k_checkq (C := C) (d := d + 0) (x := 0) (y := z22) s hK (by omega) (by omega)) ?_)
            rintro s23 out (⟨e23, hr23, rfl⟩ | ⟨hK23, hY23, rfl, hc23⟩)
            · exact absurd rfl hr23
            · refine .inr ⟨rfl, ?_⟩
              exact ⟨hK23, (FXq_tr FXq_rf hY23), .inr ⟨rfl, TH rfl hc23⟩⟩
          · refine wr_if1f rfl rfl (by unfold i32; omega) h20 ?_
            refine wr_n (pc2 := 68) (lv2 := [(3, vi x), (0, .ref 131), (1, vi x), (2, vi y)]) (st2 := [vi 6, vi x, .ref 131]) 2 (fun _ _ => rfl) ?_
            by_cases h24 : 6 ≤ x
            · refine wr_if2t rfl rfl (by unfold i32; omega) (by unfold i32; omega) h24 ?_
              refine wr_n (pc2 := 94) (lv2 := [(3, vi x), (0, .ref 131), (1, vi x), (2, vi y)]) (st2 := [.ref 131, vi 0, .ref 131]) 2 (fun _ _ => rfl) ?_
              refine wr_get (v := .ref 137) rfl rfl rfl (by decide) (rv_ref (hK.1 131 0 137 rfl)) fun h25 => ?_
              show wr (d + 1) tb_M37 97 [(3, vi x), (0, .ref 131), (1, vi x), (2, vi y)] [.ref 137, vi 0, .ref 131] s _
              refine wr_call1 (args := []) (rest := [vi 0, .ref 131]) rfl rfl rfl rfl (Nat.le_of_ble_eq_true rfl) (cr_mono (k_place (d := d + 0) s hK) ?_)
              rintro s26 out ⟨z26, rfl, hz26, hp26, e26⟩
              refine ⟨_, rfl, ?_⟩
              rw [e26]
              unfold i32 at hz26
              clear hp26
              show wr (d + 1) tb_M37 100 [(3, vi x), (0, .ref 131), (1, vi x), (2, vi y)] [vi z26, vi 0, .ref 131] s _
              refine wr_call1T (args := [vi 0, vi z26]) (rest := []) rfl rfl rfl rfl (Nat.le_of_ble_eq_true rfl) rfl (cr_mono (k_checkq (C := C) (d := d + 0) (x := 0) (y := z26) s hK (by omega) (by omega)) ?_)
              rintro s27 out (⟨e27, hr27, rfl⟩ | ⟨hK27, hY27, rfl, hc27⟩)
              · exact absurd rfl hr27
              · refine .inr ⟨rfl, ?_⟩
                exact ⟨hK27, (FXq_tr FXq_rf hY27), .inr ⟨rfl, TH rfl hc27⟩⟩
            · refine wr_if2f rfl rfl (by unfold i32; omega) (by unfold i32; omega) h24 ?_
              refine wr_n (pc2 := 72) (lv2 := [(3, vi x), (0, .ref 131), (1, vi x), (2, vi y)]) (st2 := [.ref 131, .ref 131]) 1 (fun _ _ => rfl) ?_
              refine wr_get (v := .ref C) rfl rfl rfl (by decide) (rv_ref (show (s.1) 131 1 = ((C : Nat) : Int) from hq)) fun h28 => ?_
              show wr (d + 1) tb_M37 75 [(3, vi x), (0, .ref 131), (1, vi x), (2, vi y)] [.ref C, .ref 131] s _
              refine wr_get (v := .ref (C + 10)) rfl rfl (TK0 hC) (by decide) (rv_ref (hK.1 C 6 (C + 10) (rcK hC (by omega)))) fun h29 => ?_
              show wr (d + 1) tb_M37 78 [(3, vi x), (0, .ref 131), (1, vi x), (2, vi y)] [.ref (C + 10), .ref 131] s _
              refine wr_n (pc2 := 79) (lv2 := [(3, vi x), (0, .ref 131), (1, vi x), (2, vi y)]) (st2 := [vi x, .ref (C + 10), .ref 131]) 1 (fun _ _ => rfl) ?_
              refine wr_ald (a := x) (v := vi (s.1 (C + 10) x.toNat)) rfl (TK10 hC) rfl (by omega) (by omega) (by decide) rfl fun h30 => ?_
              have h30 : -2147483648 ≤ s.1 (C + 10) x.toNat ∧ s.1 (C + 10) x.toNat ≤ 2147483647 := h30
              show wr (d + 1) tb_M37 80 [(3, vi x), (0, .ref 131), (1, vi x), (2, vi y)] [vi (s.1 (C + 10) x.toNat), .ref 131] s _
              have hb31 : 0 ≤ s.1 (C + 10) x.toNat ∧ s.1 (C + 10) x.toNat ≤ LIM x.toNat := kb_to (kC10 hC) (hK.2 (C + 10) x.toNat)
              refine wr_n (pc2 := 84) (lv2 := [(3, vi x), (0, .ref 131), (1, vi x), (2, vi y)]) (st2 := [vi x, .ref 1, vi (s.1 (C + 10) x.toNat), .ref 131]) 2 (fun _ _ => rfl) ?_
              refine wr_LIM (a := x) rfl (by omega) (by omega) fun h32 => ?_
              replace h32 : 0 ≤ LIM x.toNat ∧ LIM x.toNat ≤ 24 := h32
              show wr (d + 1) tb_M37 85 [(3, vi x), (0, .ref 131), (1, vi x), (2, vi y)] [vi (LIM x.toNat), vi (s.1 (C + 10) x.toNat), .ref 131] s _
              by_cases h33 : LIM x.toNat ≤ s.1 (C + 10) x.toNat
              · refine wr_if2t rfl rfl (by unfold i32; omega) (by unfold i32; omega) h33 ?_
                refine wr_n (pc2 := 94) (lv2 := [(3, vi x), (0, .ref 131), (1, vi x), (2, vi y)]) (st2 := [.ref 131, vi 0, .ref 131]) 2 (fun _ _ => rfl) ?_
                refine wr_get (v := .ref 137) rfl rfl rfl (by decide) (rv_ref (hK.1 131 0 137 rfl)) fun h34 => ?_
                show wr (d + 1) tb_M37 97 [(3, vi x), (0, .ref 131), (1, vi x), (2, vi y)] [.ref 137, vi 0, .ref 131] s _
                refine wr_call1 (args := []) (rest := [vi 0, .ref 131]) rfl rfl rfl rfl (Nat.le_of_ble_eq_true rfl) (cr_mono (k_place (d := d + 0) s hK) ?_)
                rintro s35 out ⟨z35, rfl, hz35, hp35, e35⟩
                refine ⟨_, rfl, ?_⟩
                rw [e35]
                unfold i32 at hz35
                clear hp35
                show wr (d + 1) tb_M37 100 [(3, vi x), (0, .ref 131), (1, vi x), (2, vi y)] [vi z35, vi 0, .ref 131] s _
                refine wr_call1T (args := [vi 0, vi z35]) (rest := []) rfl rfl rfl rfl (Nat.le_of_ble_eq_true rfl) rfl (cr_mono (k_checkq (C := C) (d := d + 0) (x := 0) (y := z35) s hK (by omega) (by omega)) ?_)
                rintro s36 out (⟨e36, hr36, rfl⟩ | ⟨hK36, hY36, rfl, hc36⟩)
                · exact absurd rfl hr36
                · refine .inr ⟨rfl, ?_⟩
                  exact ⟨hK36, (FXq_tr FXq_rf hY36), .inr ⟨rfl, TH rfl hc36⟩⟩
              · refine wr_if2f rfl rfl (by unfold i32; omega) (by unfold i32; omega) h33 ?_
                refine wr_n (pc2 := 94) (lv2 := [(3, vi x), (0, .ref 131), (1, vi x), (2, vi y)]) (st2 := [.ref 131, vi 1, .ref 131]) 3 (fun _ _ => rfl) ?_
                refine wr_get (v := .ref 137) rfl rfl rfl (by decide) (rv_ref (hK.1 131 0 137 rfl)) fun h37 => ?_
                show wr (d + 1) tb_M37 97 [(3, vi x), (0, .ref 131), (1, vi x), (2, vi y)] [.ref 137, vi 1, .ref 131] s _
                refine wr_call1 (args := []) (rest := [vi 1, .ref 131]) rfl rfl rfl rfl (Nat.le_of_ble_eq_true rfl) (cr_mono (k_place (d := d + 0) s hK) ?_)
                rintro s38 out ⟨z38, rfl, hz38, hp38, e38⟩
                refine ⟨_, rfl, ?_⟩
                rw [e38]
                unfold i32 at hz38
                clear hp38
                show wr (d + 1) tb_M37 100 [(3, vi x), (0, .ref 131), (1, vi x), (2, vi y)] [vi z38, vi 1, .ref 131] s _
                refine wr_call1T (args := [vi 1, vi z38]) (rest := []) rfl rfl rfl rfl (Nat.le_of_ble_eq_true rfl) rfl (cr_mono (k_checkq (C := C) (d := d + 0) (x := 1) (y := z38) s hK (by omega) (by omega)) ?_)
                rintro s39 out (⟨e39, hr39, rfl⟩ | ⟨hK39, hY39, rfl, hc39⟩)
                · refine .inl ⟨_, rfl, ?_⟩
                  rw [e39]
                  show wr (d + 1) tb_M37 103 [(3, vi x), (0, .ref 131), (1, vi x), (2, vi y)] [] s _
                  refine wr_n (pc2 := 104) (lv2 := [(3, vi x), (0, .ref 131), (1, vi x), (2, vi y)]) (st2 := [.ref 131]) 1 (fun _ _ => rfl) ?_
                  refine wr_get (v := .ref C) rfl rfl rfl (by decide) (rv_ref (show (s.1) 131 1 = ((C : Nat) : Int) from hq)) fun h40 => ?_
                  show wr (d + 1) tb_M37 107 [(3, vi x), (0, .ref 131), (1, vi x), (2, vi y)] [.ref C] s _
                  refine wr_get (v := .ref (C + 10)) rfl rfl (TK0 hC) (by decide) (rv_ref (hK.1 C 6 (C + 10) (rcK hC (by omega)))) fun h41 => ?_
                  show wr (d + 1) tb_M37 110 [(3, vi x), (0, .ref 131), (1, vi x), (2, vi y)] [.ref (C + 10)] s _
                  refine wr_n (pc2 := 111) (lv2 := [(3, vi x), (0, .ref 131), (1, vi x), (2, vi y)]) (st2 := [vi x, .ref (C + 10)]) 1 (fun _ _ => rfl) ?_
                  refine wr_ald (a := x) (v := vi (s.1 (C + 10) x.toNat)) rfl (TK10 hC) rfl (by omega) (by omega) (by decide) rfl fun h42 => ?_
                  have h42 : -2147483648 ≤ s.1 (C + 10) x.toNat ∧ s.1 (C + 10) x.toNat ≤ 2147483647 := h42
                  show wr (d + 1) tb_M37 112 [(3, vi x), (0, .ref 131), (1, vi x), (2, vi y)] [vi (s.1 (C + 10) x.toNat)] s _
                  have hb43 : 0 ≤ s.1 (C + 10) x.toNat ∧ s.1 (C + 10) x.toNat ≤ LIM x.toNat := kb_to (kC10 hC) (hK.2 (C + 10) x.toNat)
                  refine wr_n (pc2 := 115) (lv2 := [(4, vi (s.1 (C + 10) x.toNat)), (3, vi x), (0, .ref 131), (1, vi x), (2, vi y)]) (st2 := [.ref 131]) 2 (fun _ _ => rfl) ?_
                  refine wr_get (v := .ref C) rfl rfl rfl (by decide) (rv_ref (show (s.1) 131 1 = ((C : Nat) : Int) from hq)) fun h44 => ?_
                  show wr (d + 1) tb_M37 118 [(4, vi (s.1 (C + 10) x.toNat)), (3, vi x), (0, .ref 131), (1, vi x), (2, vi y)] [.ref C] s _
                  refine wr_get (v := .ref (C + 10)) rfl rfl (TK0 hC) (by decide) (rv_ref (hK.1 C 6 (C + 10) (rcK hC (by omega)))) fun h45 => ?_
                  show wr (d + 1) tb_M37 121 [(4, vi (s.1 (C + 10) x.toNat)), (3, vi x), (0, .ref 131), (1, vi x), (2, vi y)] [.ref (C + 10)] s _
                  refine wr_n (pc2 := 123) (lv2 := [(4, vi (s.1 (C + 10) x.toNat)), (3, vi x), (0, .ref 131), (1, vi x), (2, vi y)]) (st2 := [vi x, .ref (C + 10), vi x, .ref (C + 10)]) 2 (fun _ _ => rfl) ?_
                  refine wr_ald (a := x) (v := vi (s.1 (C + 10) x.toNat)) rfl (TK10 hC) rfl (by omega) (by omega) (by decide) rfl fun h46 => ?_
                  have h46 : -2147483648 ≤ s.1 (C + 10) x.toNat ∧ s.1 (C + 10) x.toNat ≤ 2147483647 := h46
                  show wr (d + 1) tb_M37 124 [(4, vi (s.1 (C + 10) x.toNat)), (3, vi x), (0, .ref 131), (1, vi x), (2, vi y)] [vi (s.1 (C + 10) x.toNat), vi x, .ref (C + 10)] s _
                  have hb47 : 0 ≤ s.1 (C + 10) x.toNat ∧ s.1 (C + 10) x.toNat ≤ LIM x.toNat := kb_to (kC10 hC) (hK.2 (C + 10) x.toNat)
                  refine wr_n (pc2 := 125) (lv2 := [(4, vi (s.1 (C + 10) x.toNat)), (3, vi x), (0, .ref 131), (1, vi x), (2, vi y)]) (st2 := [vi 1, vi (s.1 (C + 10) x.toNat), vi x, .ref (C + 10)]) 1 (fun _ _ => rfl) ?_
                  refine wr_add (a := s.1 (C + 10) x.toNat) (b := 1) rfl ?_
                  show wr (d + 1) tb_M37 126 [(4, vi (s.1 (C + 10) x.toNat)), (3, vi x), (0, .ref 131), (1, vi x), (2, vi y)] [vi (s.1 (C + 10) x.toNat + 1), vi x, .ref (C + 10)] s _
                  refine wr_ast (a := x) (z := s.1 (C + 10) x.toNat + 1) rfl (show 96 ≤ C + 10 by omega) (TK10 hC) rfl (by omega) (by omega) (by decide) rfl (show -2147483648 ≤ s.1 (C + 10) x.toNat + 1 ∧ s.1 (C + 10) x.toNat + 1 ≤ 2147483647 by omega) ?_
                  show wr (d + 1) tb_M37 127 [(4, vi (s.1 (C + 10) x.toNat)), (3, vi x), (0, .ref 131), (1, vi x), (2, vi y)] [] (up2 s.1 (C + 10) x.toNat (s.1 (C + 10) x.toNat + 1), s.2) _
                  have hK48 : KI (up2 s.1 (C + 10) x.toNat (s.1 (C + 10) x.toNat + 1)) := (KI_up hK (nK hC (by omega)) (kb_of (kC10 hC) (show 0 ≤ s.1 (C + 10) x.toNat + 1 ∧ s.1 (C + 10) x.toNat + 1 ≤ LIM x.toNat by omega)))
                  refine wr_n (pc2 := 128) (lv2 := [(4, vi (s.1 (C + 10) x.toNat)), (3, vi x), (0, .ref 131), (1, vi x), (2, vi y)]) (st2 := [.ref 131]) 1 (fun _ _ => rfl) ?_
                  refine wr_get (v := .ref C) rfl rfl rfl (by decide) (rv_ref (show (up2 s.1 (C + 10) x.toNat (s.1 (C + 10) x.toNat + 1)) 131 1 = ((C : Nat) : Int) from (show (up2 s.1 (C + 10) x.toNat (s.1 (C + 10) x.toNat + 1)) 131 1 = ((C : Nat) : Int) from ((if_neg (by omega)).trans hq)))) fun h49 => ?_
                  show wr (d + 1) tb_M37 131 [(4, vi (s.1 (C + 10) x.toNat)), (3, vi x), (0, .ref 131), (1, vi x), (2, vi y)] [.ref C] (up2 s.1 (C + 10) x.toNat (s.1 (C + 10) x.toNat + 1), s.2) _
                  refine wr_get (v := .ref (C + 6)) rfl rfl (TK0 hC) (by decide) (rv_ref (hK48.1 C 5 (C + 6) (rcK hC (by omega)))) fun h50 => ?_
                  show wr (d + 1) tb_M37 134 [(4, vi (s.1 (C + 10) x.toNat)), (3, vi x), (0, .ref 131), (1, vi x), (2, vi y)] [.ref (C + 6)] (up2 s.1 (C + 10) x.toNat (s.1 (C + 10) x.toNat + 1), s.2) _
                  refine wr_n (pc2 := 135) (lv2 := [(4, vi (s.1 (C + 10) x.toNat)), (3, vi x), (0, .ref 131), (1, vi x), (2, vi y)]) (st2 := [.ref 131, .ref (C + 6)]) 1 (fun _ _ => rfl) ?_
                  refine wr_get (v := .ref 137) rfl rfl rfl (by decide) (rv_ref (hK48.1 131 0 137 rfl)) fun h51 => ?_
                  show wr (d + 1) tb_M37 138 [(4, vi (s.1 (C + 10) x.toNat)), (3, vi x), (0, .ref 131), (1, vi x), (2, vi y)] [.ref 137, .ref (C + 6)] (up2 s.1 (C + 10) x.toNat (s.1 (C + 10) x.toNat + 1), s.2) _
                  refine wr_call1 (args := []) (rest := [.ref (C + 6)]) rfl rfl rfl rfl (Nat.le_of_ble_eq_true rfl) (cr_mono (k_value (d := d + 0) (up2 s.1 (C + 10) x.toNat (s.1 (C + 10) x.toNat + 1), s.2) hK48) ?_)
                  rintro s52 out ⟨z52, rfl, hz52, e52⟩
                  refine ⟨_, rfl, ?_⟩
                  rw [e52]
                  show wr (d + 1) tb_M37 141 [(4, vi (s.1 (C + 10) x.toNat)), (3, vi x), (0, .ref 131), (1, vi x), (2, vi y)] [vl z52, .ref (C + 6)] (up2 s.1 (C + 10) x.toNat (s.1 (C + 10) x.toNat + 1), s.2) _
                  refine wr_n (pc2 := 144) (lv2 := [(4, vi (s.1 (C + 10) x.toNat)), (3, vi x), (0, .ref 131), (1, vi x), (2, vi y)]) (st2 := [vi (s.1 (C + 10) x.toNat), vi x, vl z52, .ref (C + 6)]) 2 (fun _ _ => rfl) ?_
                  refine wr_call1 (args := [vl z52, vi x, vi (s.1 (C + 10) x.toNat)]) (rest := []) rfl rfl rfl (TK6 hC) (Nat.le_of_ble_eq_true rfl) (cr_mono (k_naddq (d := d + 0) (C := C) hC (w := z52) (x := x) (y := s.1 (C + 10) x.toNat) (up2 s.1 (C + 10) x.toNat (s.1 (C + 10) x.toNat + 1), s.2) hK48 hz52 (by omega) (by omega)) ?_)
                  rintro s53 out ⟨hK53, hY53, hc53, rfl⟩
                  refine ⟨_, rfl, ?_⟩
                  have hX53 : FXq C s.1 s53.1 := FXq_tr (FXq_up FXq_rf (by unfold fxq fx; omega)) hY53
                  have hC53 : s53.2 = s.2 := hc53.trans rfl
                  have hq53 : s53.1 131 1 = (C : Int) := (hY53 131 1 (by unfold fxq fx; omega)).trans (show (up2 s.1 (C + 10) x.toNat (s.1 (C + 10) x.toNat + 1)) 131 1 = ((C : Nat) : Int) from ((if_neg (by omega)).trans hq))
                  show wr (d + 1) tb_M37 147 [(4, vi (s.1 (C + 10) x.toNat)), (3, vi x), (0, .ref 131), (1, vi x), (2, vi y)] [] s53 _
                  refine wr_n (pc2 := 148) (lv2 := [(4, vi (s.1 (C + 10) x.toNat)), (3, vi x), (0, .ref 131), (1, vi x), (2, vi y)]) (st2 := [.ref 131]) 1 (fun _ _ => rfl) ?_
                  refine wr_get (v := .ref 137) rfl rfl rfl (by decide) (rv_ref (hK53.1 131 0 137 rfl)) fun h54 => ?_
                  show wr (d + 1) tb_M37 151 [(4, vi (s.1 (C + 10) x.toNat)), (3, vi x), (0, .ref 131), (1, vi x), (2, vi y)] [.ref 137] s53 _
                  refine wr_call1 (args := []) (rest := []) rfl rfl rfl rfl (Nat.le_of_ble_eq_true rfl) (cr_mono (k_stepq (C := C) (d := d + 0) s53 hK53) ?_)
                  rintro s55 out ⟨hK55, hY55, hc55, rfl⟩
                  refine ⟨_, rfl, ?_⟩
                  have hX55 : FXq C s.1 s55.1 := FXq_tr hX53 hY55
                  have hC55 : s55.2 = s.2 := hc55.trans hC53
                  have hq55 : s55.1 131 1 = (C : Int) := (hY55 131 1 (by unfold fxq fx; omega)).trans hq53
                  show wr (d + 1) tb_M37 154 [(4, vi (s.1 (C + 10) x.toNat)), (3, vi x), (0, .ref 131), (1, vi x), (2, vi y)] [] s55 _
                  refine wr_n (pc2 := 156) (lv2 := [(4, vi (s.1 (C + 10) x.toNat)), (3, vi x), (0, .ref 131), (1, vi x), (2, vi y)]) (st2 := [vi (s.1 (C + 10) x.toNat)]) 1 (fun _ _ => rfl) ?_
                  refine wr_reti rfl rfl ?_
                  exact ⟨hK55, hX55, .inl ⟨s.1 (C + 10) x.toNat, hC55, rfl, by unfold i32; omega, trivial⟩⟩
                · refine .inr ⟨rfl, ?_⟩
                  exact ⟨hK39, (FXq_tr FXq_rf hY39), .inr ⟨rfl, TH rfl hc39⟩⟩
        · refine wr_if2f rfl rfl (by unfold i32; omega) (by unfold i32; omega) h19 ?_
          refine wr_n (pc2 := 72) (lv2 := [(3, vi 5), (0, .ref 131), (1, vi x), (2, vi y)]) (st2 := [.ref 131, .ref 131]) 10 (fun _ _ => rfl) ?_
          refine wr_get (v := .ref C) rfl rfl rfl (by decide) (rv_ref (show (s.1) 131 1 = ((C : Nat) : Int) from hq)) fun h56 => ?_
          show wr (d + 1) tb_M37 75 [(3, vi 5), (0, .ref 131), (1, vi x), (2, vi y)] [.ref C, .ref 131] s _
          refine wr_get (v := .ref (C + 10)) rfl rfl (TK0 hC) (by decide) (rv_ref (hK.1 C 6 (C + 10) (rcK hC (by omega)))) fun h57 => ?_
          show wr (d + 1) tb_M37 78 [(3, vi 5), (0, .ref 131), (1, vi x), (2, vi y)] [.ref (C + 10), .ref 131] s _
          refine wr_n (pc2 := 79) (lv2 := [(3, vi 5), (0, .ref 131), (1, vi x), (2, vi y)]) (st2 := [vi 5, .ref (C + 10), .ref 131]) 1 (fun _ _ => rfl) ?_
          refine wr_ald (a := 5) (v := vi (s.1 (C + 10) 5)) rfl (TK10 hC) rfl (by omega) (by omega) (by decide) rfl fun h58 => ?_
          have h58 : -2147483648 ≤ s.1 (C + 10) 5 ∧ s.1 (C + 10) 5 ≤ 2147483647 := h58
          show wr (d + 1) tb_M37 80 [(3, vi 5), (0, .ref 131), (1, vi x), (2, vi y)] [vi (s.1 (C + 10) 5), .ref 131] s _
          have hb59 : 0 ≤ s.1 (C + 10) 5 ∧ s.1 (C + 10) 5 ≤ LIM 5 := kb_to (kC10 hC) (hK.2 (C + 10) 5)
          refine wr_n (pc2 := 84) (lv2 := [(3, vi 5), (0, .ref 131), (1, vi x), (2, vi y)]) (st2 := [vi 5, .ref 1, vi (s.1 (C + 10) 5), .ref 131]) 2 (fun _ _ => rfl) ?_
          refine wr_LIM (a := 5) rfl (by omega) (by omega) fun h60 => ?_
          replace h60 : 0 ≤ LIM 5 ∧ LIM 5 ≤ 24 := h60
          show wr (d + 1) tb_M37 85 [(3, vi 5), (0, .ref 131), (1, vi x), (2, vi y)] [vi (LIM 5), vi (s.1 (C + 10) 5), .ref 131] s _
          by_cases h61 : LIM 5 ≤ s.1 (C + 10) 5
          · refine wr_if2t rfl rfl (by unfold i32; omega) (by unfold i32; omega) h61 ?_
            refine wr_n (pc2 := 94) (lv2 := [(3, vi 5), (0, .ref 131), (1, vi x), (2, vi y)]) (st2 := [.ref 131, vi 0, .ref 131]) 2 (fun _ _ => rfl) ?_
            refine wr_get (v := .ref 137) rfl rfl rfl (by decide) (rv_ref (hK.1 131 0 137 rfl)) fun h62 => ?_
            show wr (d + 1) tb_M37 97 [(3, vi 5), (0, .ref 131), (1, vi x), (2, vi y)] [.ref 137, vi 0, .ref 131] s _
            refine wr_call1 (args := []) (rest := [vi 0, .ref 131]) rfl rfl rfl rfl (Nat.le_of_ble_eq_true rfl) (cr_mono (k_place (d := d + 0) s hK) ?_)
            rintro s63 out ⟨z63, rfl, hz63, hp63, e63⟩
            refine ⟨_, rfl, ?_⟩
            rw [e63]
            unfold i32 at hz63
            clear hp63
            show wr (d + 1) tb_M37 100 [(3, vi 5), (0, .ref 131), (1, vi x), (2, vi y)] [vi z63, vi 0, .ref 131] s _
            refine wr_call1T (args := [vi 0, vi z63]) (rest := []) rfl rfl rfl rfl (Nat.le_of_ble_eq_true rfl) rfl (cr_mono (k_checkq (C := C) (d := d + 0) (x := 0) (y := z63) s hK (by omega) (by omega)) ?_)
            rintro s64 out (⟨e64, hr64, rfl⟩ | ⟨hK64, hY64, rfl, hc64⟩)
            · exact absurd rfl hr64
            · refine .inr ⟨rfl, ?_⟩
              exact ⟨hK64, (FXq_tr FXq_rf hY64), .inr ⟨rfl, TH rfl hc64⟩⟩
          · refine wr_if2f rfl rfl (by unfold i32; omega) (by unfold i32; omega) h61 ?_
            refine wr_n (pc2 := 94) (lv2 := [(3, vi 5), (0, .ref 131), (1, vi x), (2, vi y)]) (st2 := [.ref 131, vi 1, .ref 131]) 3 (fun _ _ => rfl) ?_
            refine wr_get (v := .ref 137) rfl rfl rfl (by decide) (rv_ref (hK.1 131 0 137 rfl)) fun h65 => ?_
            show wr (d + 1) tb_M37 97 [(3, vi 5), (0, .ref 131), (1, vi x), (2, vi y)] [.ref 137, vi 1, .ref 131] s _
            refine wr_call1 (args := []) (rest := [vi 1, .ref 131]) rfl rfl rfl rfl (Nat.le_of_ble_eq_true rfl) (cr_mono (k_place (d := d + 0) s hK) ?_)
            rintro s66 out ⟨z66, rfl, hz66, hp66, e66⟩
            refine ⟨_, rfl, ?_⟩
            rw [e66]
            unfold i32 at hz66
            clear hp66
            show wr (d + 1) tb_M37 100 [(3, vi 5), (0, .ref 131), (1, vi x), (2, vi y)] [vi z66, vi 1, .ref 131] s _
            refine wr_call1T (args := [vi 1, vi z66]) (rest := []) rfl rfl rfl rfl (Nat.le_of_ble_eq_true rfl) rfl (cr_mono (k_checkq (C := C) (d := d + 0) (x := 1) (y := z66) s hK (by omega) (by omega)) ?_)
            rintro s67 out (⟨e67, hr67, rfl⟩ | ⟨hK67, hY67, rfl, hc67⟩)
            · refine .inl ⟨_, rfl, ?_⟩
              rw [e67]
              show wr (d + 1) tb_M37 103 [(3, vi 5), (0, .ref 131), (1, vi x), (2, vi y)] [] s _
              refine wr_n (pc2 := 104) (lv2 := [(3, vi 5), (0, .ref 131), (1, vi x), (2, vi y)]) (st2 := [.ref 131]) 1 (fun _ _ => rfl) ?_
              refine wr_get (v := .ref C) rfl rfl rfl (by decide) (rv_ref (show (s.1) 131 1 = ((C : Nat) : Int) from hq)) fun h68 => ?_
              show wr (d + 1) tb_M37 107 [(3, vi 5), (0, .ref 131), (1, vi x), (2, vi y)] [.ref C] s _
              refine wr_get (v := .ref (C + 10)) rfl rfl (TK0 hC) (by decide) (rv_ref (hK.1 C 6 (C + 10) (rcK hC (by omega)))) fun h69 => ?_
              show wr (d + 1) tb_M37 110 [(3, vi 5), (0, .ref 131), (1, vi x), (2, vi y)] [.ref (C + 10)] s _
              refine wr_n (pc2 := 111) (lv2 := [(3, vi 5), (0, .ref 131), (1, vi x), (2, vi y)]) (st2 := [vi 5, .ref (C + 10)]) 1 (fun _ _ => rfl) ?_
              refine wr_ald (a := 5) (v := vi (s.1 (C + 10) 5)) rfl (TK10 hC) rfl (by omega) (by omega) (by decide) rfl fun h70 => ?_
              have h70 : -2147483648 ≤ s.1 (C + 10) 5 ∧ s.1 (C + 10) 5 ≤ 2147483647 := h70
              show wr (d + 1) tb_M37 112 [(3, vi 5), (0, .ref 131), (1, vi x), (2, vi y)] [vi (s.1 (C + 10) 5)] s _
              have hb71 : 0 ≤ s.1 (C + 10) 5 ∧ s.1 (C + 10) 5 ≤ LIM 5 := kb_to (kC10 hC) (hK.2 (C + 10) 5)
              refine wr_n (pc2 := 115) (lv2 := [(4, vi (s.1 (C + 10) 5)), (3, vi 5), (0, .ref 131), (1, vi x), (2, vi y)]) (st2 := [.ref 131]) 2 (fun _ _ => rfl) ?_
              refine wr_get (v := .ref C) rfl rfl rfl (by decide) (rv_ref (show (s.1) 131 1 = ((C : Nat) : Int) from hq)) fun h72 => ?_
              show wr (d + 1) tb_M37 118 [(4, vi (s.1 (C + 10) 5)), (3, vi 5), (0, .ref 131), (1, vi x), (2, vi y)] [.ref C] s _
              refine wr_get (v := .ref (C + 10)) rfl rfl (TK0 hC) (by decide) (rv_ref (hK.1 C 6 (C + 10) (rcK hC (by omega)))) fun h73 => ?_
              show wr (d + 1) tb_M37 121 [(4, vi (s.1 (C + 10) 5)), (3, vi 5), (0, .ref 131), (1, vi x), (2, vi y)] [.ref (C + 10)] s _
              refine wr_n (pc2 := 123) (lv2 := [(4, vi (s.1 (C + 10) 5)), (3, vi 5), (0, .ref 131), (1, vi x), (2, vi y)]) (st2 := [vi 5, .ref (C + 10), vi 5, .ref (C + 10)]) 2 (fun _ _ => rfl) ?_
              refine wr_ald (a := 5) (v := vi (s.1 (C + 10) 5)) rfl (TK10 hC) rfl (by omega) (by omega) (by decide) rfl fun h74 => ?_
              have h74 : -2147483648 ≤ s.1 (C + 10) 5 ∧ s.1 (C + 10) 5 ≤ 2147483647 := h74
              show wr (d + 1) tb_M37 124 [(4, vi (s.1 (C + 10) 5)), (3, vi 5), (0, .ref 131), (1, vi x), (2, vi y)] [vi (s.1 (C + 10) 5), vi 5, .ref (C + 10)] s _
              have hb75 : 0 ≤ s.1 (C + 10) 5 ∧ s.1 (C + 10) 5 ≤ LIM 5 := kb_to (kC10 hC) (hK.2 (C + 10) 5)
              refine wr_n (pc2 := 125) (lv2 := [(4, vi (s.1 (C + 10) 5)), (3, vi 5), (0, .ref 131), (1, vi x), (2, vi y)]) (st2 := [vi 1, vi (s.1 (C + 10) 5), vi 5, .ref (C + 10)]) 1 (fun _ _ => rfl) ?_
              refine wr_add (a := s.1 (C + 10) 5) (b := 1) rfl ?_
              show wr (d + 1) tb_M37 126 [(4, vi (s.1 (C + 10) 5)), (3, vi 5), (0, .ref 131), (1, vi x), (2, vi y)] [vi (s.1 (C + 10) 5 + 1), vi 5, .ref (C + 10)] s _
              refine wr_ast (a := 5) (z := s.1 (C + 10) 5 + 1) rfl (show 96 ≤ C + 10 by omega) (TK10 hC) rfl (by omega) (by omega) (by decide) rfl (show -2147483648 ≤ s.1 (C + 10) 5 + 1 ∧ s.1 (C + 10) 5 + 1 ≤ 2147483647 by omega) ?_
              show wr (d + 1) tb_M37 127 [(4, vi (s.1 (C + 10) 5)), (3, vi 5), (0, .ref 131), (1, vi x), (2, vi y)] [] (up2 s.1 (C + 10) 5 (s.1 (C + 10) 5 + 1), s.2) _
              have hK76 : KI (up2 s.1 (C + 10) 5 (s.1 (C + 10) 5 + 1)) := (KI_up hK (nK hC (by omega)) (kb_of (kC10 hC) (show 0 ≤ s.1 (C + 10) 5 + 1 ∧ s.1 (C + 10) 5 + 1 ≤ LIM 5 by omega)))
              refine wr_n (pc2 := 128) (lv2 := [(4, vi (s.1 (C + 10) 5)), (3, vi 5), (0, .ref 131), (1, vi x), (2, vi y)]) (st2 := [.ref 131]) 1 (fun _ _ => rfl) ?_
              refine wr_get (v := .ref C) rfl rfl rfl (by decide) (rv_ref (show (up2 s.1 (C + 10) 5 (s.1 (C + 10) 5 + 1)) 131 1 = ((C : Nat) : Int) from (show (up2 s.1 (C + 10) 5 (s.1 (C + 10) 5 + 1)) 131 1 = ((C : Nat) : Int) from ((if_neg (by omega)).trans hq)))) fun h77 => ?_
              show wr (d + 1) tb_M37 131 [(4, vi (s.1 (C + 10) 5)), (3, vi 5), (0, .ref 131), (1, vi x), (2, vi y)] [.ref C] (up2 s.1 (C + 10) 5 (s.1 (C + 10) 5 + 1), s.2) _
              refine wr_get (v := .ref (C + 6)) rfl rfl (TK0 hC) (by decide) (rv_ref (hK76.1 C 5 (C + 6) (rcK hC (by omega)))) fun h78 => ?_
              show wr (d + 1) tb_M37 134 [(4, vi (s.1 (C + 10) 5)), (3, vi 5), (0, .ref 131), (1, vi x), (2, vi y)] [.ref (C + 6)] (up2 s.1 (C + 10) 5 (s.1 (C + 10) 5 + 1), s.2) _
              refine wr_n (pc2 := 135) (lv2 := [(4, vi (s.1 (C + 10) 5)), (3, vi 5), (0, .ref 131), (1, vi x), (2, vi y)]) (st2 := [.ref 131, .ref (C + 6)]) 1 (fun _ _ => rfl) ?_
              refine wr_get (v := .ref 137) rfl rfl rfl (by decide) (rv_ref (hK76.1 131 0 137 rfl)) fun h79 => ?_
              show wr (d + 1) tb_M37 138 [(4, vi (s.1 (C + 10) 5)), (3, vi 5), (0, .ref 131), (1, vi x), (2, vi y)] [.ref 137, .ref (C + 6)] (up2 s.1 (C + 10) 5 (s.1 (C + 10) 5 + 1), s.2) _
              refine wr_call1 (args := []) (rest := [.ref (C + 6)]) rfl rfl rfl rfl (Nat.le_of_ble_eq_true rfl) (cr_mono (k_value (d := d + 0) (up2 s.1 (C + 10) 5 (s.1 (C + 10) 5 + 1), s.2) hK76) ?_)
              rintro s80 out ⟨z80, rfl, hz80, e80⟩
              refine ⟨_, rfl, ?_⟩
              rw [e80]
              show wr (d + 1) tb_M37 141 [(4, vi (s.1 (C + 10) 5)), (3, vi 5), (0, .ref 131), (1, vi x), (2, vi y)] [vl z80, .ref (C + 6)] (up2 s.1 (C + 10) 5 (s.1 (C + 10) 5 + 1), s.2) _
              refine wr_n (pc2 := 144) (lv2 := [(4, vi (s.1 (C + 10) 5)), (3, vi 5), (0, .ref 131), (1, vi x), (2, vi y)]) (st2 := [vi (s.1 (C + 10) 5), vi x, vl z80, .ref (C + 6)]) 2 (fun _ _ => rfl) ?_
              refine wr_call1 (args := [vl z80, vi x, vi (s.1 (C + 10) 5)]) (rest := []) rfl rfl rfl (TK6 hC) (Nat.le_of_ble_eq_true rfl) (cr_mono (k_naddq (d := d + 0) (C := C) hC (w := z80) (x := x) (y := s.1 (C + 10) 5) (up2 s.1 (C + 10) 5 (s.1 (C + 10) 5 + 1), s.2) hK76 hz80 (by omega) (by omega)) ?_)
              rintro s81 out ⟨hK81, hY81, hc81, rfl⟩
              refine ⟨_, rfl, ?_⟩
              have hX81 : FXq C s.1 s81.1 := FXq_tr (FXq_up FXq_rf (by unfold fxq fx; omega)) hY81
              have hC81 : s81.2 = s.2 := hc81.trans rfl
              have hq81 : s81.1 131 1 = (C : Int) := (hY81 131 1 (by unfold fxq fx; omega)).trans (show (up2 s.1 (C + 10) 5 (s.1 (C + 10) 5 + 1)) 131 1 = ((C : Nat) : Int) from ((if_neg (by omega)).trans hq))
              show wr (d + 1) tb_M37 147 [(4, vi (s.1 (C + 10) 5)), (3, vi 5), (0, .ref 131), (1, vi x), (2, vi y)] [] s81 _
              refine wr_n (pc2 := 148) (lv2 := [(4, vi (s.1 (C + 10) 5)), (3, vi 5), (0, .ref 131), (1, vi x), (2, vi y)]) (st2 := [.ref 131]) 1 (fun _ _ => rfl) ?_
              refine wr_get (v := .ref 137) rfl rfl rfl (by decide) (rv_ref (hK81.1 131 0 137 rfl)) fun h82 => ?_
              show wr (d + 1) tb_M37 151 [(4, vi (s.1 (C + 10) 5)), (3, vi 5), (0, .ref 131), (1, vi x), (2, vi y)] [.ref 137] s81 _
              refine wr_call1 (args := []) (rest := []) rfl rfl rfl rfl (Nat.le_of_ble_eq_true rfl) (cr_mono (k_stepq (C := C) (d := d + 0) s81 hK81) ?_)
              rintro s83 out ⟨hK83, hY83, hc83, rfl⟩
              refine ⟨_, rfl, ?_⟩
              have hX83 : FXq C s.1 s83.1 := FXq_tr hX81 hY83
              have hC83 : s83.2 = s.2 := hc83.trans hC81
              have hq83 : s83.1 131 1 = (C : Int) := (hY83 131 1 (by unfold fxq fx; omega)).trans hq81
              show wr (d + 1) tb_M37 154 [(4, vi (s.1 (C + 10) 5)), (3, vi 5), (0, .ref 131), (1, vi x), (2, vi y)] [] s83 _
              refine wr_n (pc2 := 156) (lv2 := [(4, vi (s.1 (C + 10) 5)), (3, vi 5), (0, .ref 131), (1, vi x), (2, vi y)]) (st2 := [vi (s.1 (C + 10) 5)]) 1 (fun _ _ => rfl) ?_
              refine wr_reti rfl rfl ?_
              exact ⟨hK83, hX83, .inl ⟨s.1 (C + 10) 5, hC83, rfl, by unfold i32; omega, trivial⟩⟩
            · refine .inr ⟨rfl, ?_⟩
              exact ⟨hK67, (FXq_tr FXq_rf hY67), .inr ⟨rfl, TH rfl hc67⟩⟩
      · refine .inr ⟨rfl, ?_⟩
        exact ⟨hK18, (FXq_tr FXq_rf hY18), .inr ⟨rfl, TH rfl hc18⟩⟩
set_option maxHeartbeats 20000000 in
set_option maxRecDepth 100000 in
theorem k_declareIntq {d : Nat} {C : Nat} (hC : C = 99 ∨ C = 115)  {x : Int} (s : rS) (hK : KI s.1) (hq : s.1 131 1 = (C : Int)) (hx : (-2147483648) ≤ x ∧ x ≤ 2147483647)  : cr (d + 3) 45 [.ref 131, vi x] s (TVq C s) := by
  refine cr_of (M := tb_M45) rfl (Nat.le_of_ble_eq_true rfl) ?_
  show wr (d + 2) tb_M45 0 [(0, .ref 131), (1, vi x)] [] s _
  refine wr_n (pc2 := 1) (lv2 := [(0, .ref 131), (1, vi x)]) (st2 := [.ref 131]) 1 (fun _ _ => rfl) ?_
  refine wr_get (v := .ref C) rfl rfl rfl (by decide) (rv_ref (show (s.1) 131 1 = ((C : Nat) : Int) from hq)) fun h1 => ?_
  show wr (d + 2) tb_M45 4 [(0, .ref 131), (1, vi x)] [.ref C] s _
  refine wr_n (pc2 := 7) (lv2 := [(0, .ref 131), (1, vi x)]) (st2 := [vi x, vi 0, .ref 131, .ref C]) 3 (fun _ _ => rfl) ?_
  refine wr_call1T (args := [vi 0, vi x]) (rest := [.ref C]) rfl rfl rfl rfl (Nat.le_of_ble_eq_true rfl) rfl (cr_mono (k_declareq (d := d + 0) (C := C) hC (x := 0) (y := x) s hK hq (by omega) (by omega)) ?_)
  rintro s2 out ⟨hK2, hY2, ⟨z2, hc2, rfl, hz2, hp2⟩ | ⟨rfl, hc2⟩⟩
  · refine .inl ⟨_, rfl, ?_⟩
    have hX2 : FXq C s.1 s2.1 := FXq_tr FXq_rf hY2
    have hC2 : s2.2 = s.2 := hc2.trans rfl
    have hq2 : s2.1 131 1 = (C : Int) := (hY2 131 1 (by unfold fxq fx; omega)).trans hq
    unfold i32 at hz2
    clear hp2
    show wr (d + 2) tb_M45 10 [(0, .ref 131), (1, vi x)] [vi z2, .ref C] s2 _
    refine wr_n (pc2 := 11) (lv2 := [(0, .ref 131), (1, vi x)]) (st2 := [vi 0, vi z2, .ref C]) 1 (fun _ _ => rfl) ?_
    refine wr_call1 (args := [vi z2, vi 0]) (rest := []) rfl rfl rfl (TK0 hC) (Nat.le_of_ble_eq_true rfl) (cr_mono (k_setBitsq (d := d + 1) (C := C) hC (x := z2) (y := 0) s2 hK2 (by omega) (by omega)) ?_)
    rintro s3 out ⟨hK3, hY3, hc3, rfl⟩
    refine ⟨_, rfl, ?_⟩
    have hX3 : FXq C s.1 s3.1 := FXq_tr hX2 hY3
    have hC3 : s3.2 = s.2 := hc3.trans hC2
    have hq3 : s3.1 131 1 = (C : Int) := (hY3 131 1 (by unfold fxq fx; omega)).trans hq2
    show wr (d + 2) tb_M45 14 [(0, .ref 131), (1, vi x)] [] s3 _
    refine wr_end (fun _ _ => rfl) ?_
    exact ⟨hK3, hX3, .inl ⟨hC3, rfl⟩⟩
  · refine .inr ⟨rfl, ?_⟩
    exact ⟨hK2, (FXq_tr FXq_rf hY2), .inr ⟨rfl, TH rfl hc2⟩⟩
