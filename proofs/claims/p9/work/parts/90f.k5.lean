/-! Our own objects: the compiler, statements. -/
set_option maxHeartbeats 20000000 in
set_option maxRecDepth 100000 in
theorem k_condition {d : Nat} {C : Nat} (hC : C = 99 ∨ C = 115)  {x : Int} (s : rS) (hK : KI s.1) (hq : s.1 131 1 = (C : Int)) (hx : 0 ≤ x ∧ x ≤ 20)  : cr (d + 140) 56 [.ref 131, vi x] s (TZ (fun z => True) s) := by
  refine cr_of (M := tb_M56) rfl (Nat.le_of_ble_eq_true rfl) ?_
  show wr (d + 139) tb_M56 0 [(0, .ref 131), (1, vi x)] [] s _
  refine wr_n (pc2 := 1) (lv2 := [(0, .ref 131), (1, vi x)]) (st2 := [.ref 131]) 1 (fun _ _ => rfl) ?_
  refine wr_get (v := .ref 137) rfl rfl rfl (by decide) (rv_ref (hK.1 131 0 137 rfl)) fun h1 => ?_
  show wr (d + 139) tb_M56 4 [(0, .ref 131), (1, vi x)] [.ref 137] s _
  refine wr_call1 (args := []) (rest := []) rfl rfl rfl rfl (Nat.le_of_ble_eq_true rfl) (cr_mono (k_step (d := d + 138) s hK) ?_)
  rintro s2 out ⟨hK2, hY2, hc2, rfl⟩
  refine ⟨_, rfl, ?_⟩
  have hX2 : FX s.1 s2.1 := FX_tr FX_rf hY2
  have hC2 : s2.2 = s.2 := hc2.trans rfl
  have hq2 : s2.1 131 1 = (C : Int) := (hY2 131 1 (by unfold fx; omega)).trans hq
  show wr (d + 139) tb_M56 7 [(0, .ref 131), (1, vi x)] [] s2 _
  refine wr_n (pc2 := 10) (lv2 := [(0, .ref 131), (1, vi x)]) (st2 := [vi 40, .ref 131]) 2 (fun _ _ => rfl) ?_
  refine wr_call1T (args := [vi 40]) (rest := []) rfl rfl rfl rfl (Nat.le_of_ble_eq_true rfl) rfl (cr_mono (k_expect (d := d + 137) (x := 40) s2 hK2 (by omega)) ?_)
  rintro s3 out ⟨hK3, hY3, ⟨hc3, rfl⟩ | ⟨rfl, hc3⟩⟩
  · refine .inl ⟨_, rfl, ?_⟩
    have hX3 : FX s.1 s3.1 := FX_tr hX2 hY3
    have hC3 : s3.2 = s.2 := hc3.trans hC2
    have hq3 : s3.1 131 1 = (C : Int) := (hY3 131 1 (by unfold fx; omega)).trans hq2
    show wr (d + 139) tb_M56 13 [(0, .ref 131), (1, vi x)] [] s3 _
    refine wr_n (pc2 := 15) (lv2 := [(0, .ref 131), (1, vi x)]) (st2 := [vi x, .ref 131]) 2 (fun _ _ => rfl) ?_
    refine wr_call1T (args := [vi x]) (rest := []) rfl rfl rfl rfl (Nat.le_of_ble_eq_true rfl) rfl (cr_mono (cr_up (by omega) ((k_KE 21).1 C s3 x hC hK3 hq3 (by omega))) ?_)
    rintro s4 out ⟨hK4, hY4, ⟨z4, hc4, rfl, hz4, hp4⟩ | ⟨rfl, hc4⟩⟩
    · refine .inl ⟨_, rfl, ?_⟩
      have hX4 : FX s.1 s4.1 := FX_tr hX3 hY4
      have hC4 : s4.2 = s.2 := hc4.trans hC3
      have hq4 : s4.1 131 1 = (C : Int) := (hY4 131 1 (by unfold fx; omega)).trans hq3
      unfold i32 at hz4
      clear hp4
      show wr (d + 139) tb_M56 18 [(0, .ref 131), (1, vi x)] [vi z4] s4 _
      refine wr_n (pc2 := 22) (lv2 := [(2, vi z4), (0, .ref 131), (1, vi x)]) (st2 := [vi 41, .ref 131]) 3 (fun _ _ => rfl) ?_
      refine wr_call1T (args := [vi 41]) (rest := []) rfl rfl rfl rfl (Nat.le_of_ble_eq_true rfl) rfl (cr_mono (k_expect (d := d + 137) (x := 41) s4 hK4 (by omega)) ?_)
      rintro s5 out ⟨hK5, hY5, ⟨hc5, rfl⟩ | ⟨rfl, hc5⟩⟩
      · refine .inl ⟨_, rfl, ?_⟩
        have hX5 : FX s.1 s5.1 := FX_tr hX4 hY5
        have hC5 : s5.2 = s.2 := hc5.trans hC4
        have hq5 : s5.1 131 1 = (C : Int) := (hY5 131 1 (by unfold fx; omega)).trans hq4
        show wr (d + 139) tb_M56 25 [(2, vi z4), (0, .ref 131), (1, vi x)] [] s5 _
        refine wr_n (pc2 := 26) (lv2 := [(2, vi z4), (0, .ref 131), (1, vi x)]) (st2 := [vi z4]) 1 (fun _ _ => rfl) ?_
        refine wr_reti rfl rfl ?_
        exact ⟨hK5, hX5, .inl ⟨z4, hC5, rfl, by unfold i32; omega, trivial⟩⟩
      · refine .inr ⟨rfl, ?_⟩
        exact ⟨hK5, (FX_tr hX4 hY5), .inr ⟨rfl, TH hC4 hc5⟩⟩
    · refine .inr ⟨rfl, ?_⟩
      exact ⟨hK4, (FX_tr hX3 hY4), .inr ⟨rfl, TH hC3 hc4⟩⟩
  · refine .inr ⟨rfl, ?_⟩
    exact ⟨hK3, (FX_tr hX2 hY3), .inr ⟨rfl, TH hC2 hc3⟩⟩
set_option maxHeartbeats 20000000 in
set_option maxRecDepth 100000 in
theorem k_namedStatement_173 {d : Nat} {s0 : rS} {C : Nat} (hC : C = 99 ∨ C = 115)  (l6 : Int) (l5 : Int) (l4 : Int) (l3 : Int) (l2 : Int) (l1 : Int) (k0 : Int) (s : rS) (hK : KI s.1) (hq : s.1 131 1 = (C : Int)) (hX : FX s0.1 s.1) (hc : s.2 = s0.2) (hl6 : (-2147483648) ≤ l6 ∧ l6 ≤ 2147483647) (hl5 : (-2147483648) ≤ l5 ∧ l5 ≤ 2147483647) (hl4 : (-2147483648) ≤ l4 ∧ l4 ≤ 2147483647) (hl3 : (-2147483648) ≤ l3 ∧ l3 ≤ 2147483647) (hl2 : (-2147483648) ≤ l2 ∧ l2 ≤ 2147483647) (hl1 : 0 ≤ l1 ∧ l1 ≤ 20) (hk0 : (-2147483648) ≤ k0 ∧ k0 ≤ 2147483647)   : wr (d + 141) tb_M71 173 [(6, vi l6), (5, vi l5), (4, vi l4), (3, vi l3), (2, vi l2), (0, .ref 131), (1, vi l1)] [vi k0] s (TZ (fun z => True) s0) := by
  refine wr_n (pc2 := 178) (lv2 := [(7, vi k0), (6, vi l6), (5, vi l5), (4, vi l4), (3, vi l3), (2, vi l2), (0, .ref 131), (1, vi l1)]) (st2 := [vi 61, .ref 131]) 3 (fun _ _ => rfl) ?_
  refine wr_call1T (args := [vi 61]) (rest := []) rfl rfl rfl rfl (Nat.le_of_ble_eq_true rfl) rfl (cr_mono (k_expect (d := d + 139) (x := 61) s hK (by omega)) ?_)
  rintro s1 out ⟨hK1, hY1, ⟨hc1, rfl⟩ | ⟨rfl, hc1⟩⟩
  · refine .inl ⟨_, rfl, ?_⟩
    have hX1 : FX s0.1 s1.1 := FX_tr hX hY1
    have hC1 : s1.2 = s0.2 := hc1.trans hc
    have hq1 : s1.1 131 1 = (C : Int) := (hY1 131 1 (by unfold fx; omega)).trans hq
    show wr (d + 141) tb_M71 181 [(7, vi k0), (6, vi l6), (5, vi l5), (4, vi l4), (3, vi l3), (2, vi l2), (0, .ref 131), (1, vi l1)] [] s1 _
    refine wr_n (pc2 := 183) (lv2 := [(7, vi k0), (6, vi l6), (5, vi l5), (4, vi l4), (3, vi l3), (2, vi l2), (0, .ref 131), (1, vi l1)]) (st2 := [vi l1, .ref 131]) 2 (fun _ _ => rfl) ?_
    refine wr_call1T (args := [vi l1]) (rest := []) rfl rfl rfl rfl (Nat.le_of_ble_eq_true rfl) rfl (cr_mono (cr_up (by omega) ((k_KE 21).1 C s1 l1 hC hK1 hq1 (by omega))) ?_)
    rintro s2 out ⟨hK2, hY2, ⟨z2, hc2, rfl, hz2, hp2⟩ | ⟨rfl, hc2⟩⟩
    · refine .inl ⟨_, rfl, ?_⟩
      have hX2 : FX s0.1 s2.1 := FX_tr hX1 hY2
      have hC2 : s2.2 = s0.2 := hc2.trans hC1
      have hq2 : s2.1 131 1 = (C : Int) := (hY2 131 1 (by unfold fx; omega)).trans hq1
      unfold i32 at hz2
      clear hp2
      show wr (d + 141) tb_M71 186 [(7, vi k0), (6, vi l6), (5, vi l5), (4, vi l4), (3, vi l3), (2, vi l2), (0, .ref 131), (1, vi l1)] [vi z2] s2 _
      refine wr_n (pc2 := 191) (lv2 := [(8, vi z2), (7, vi k0), (6, vi l6), (5, vi l5), (4, vi l4), (3, vi l3), (2, vi l2), (0, .ref 131), (1, vi l1)]) (st2 := [vi 59, .ref 131]) 3 (fun _ _ => rfl) ?_
      refine wr_call1T (args := [vi 59]) (rest := []) rfl rfl rfl rfl (Nat.le_of_ble_eq_true rfl) rfl (cr_mono (k_expect (d := d + 139) (x := 59) s2 hK2 (by omega)) ?_)
      rintro s3 out ⟨hK3, hY3, ⟨hc3, rfl⟩ | ⟨rfl, hc3⟩⟩
      · refine .inl ⟨_, rfl, ?_⟩
        have hX3 : FX s0.1 s3.1 := FX_tr hX2 hY3
        have hC3 : s3.2 = s0.2 := hc3.trans hC2
        have hq3 : s3.1 131 1 = (C : Int) := (hY3 131 1 (by unfold fx; omega)).trans hq2
        show wr (d + 141) tb_M71 194 [(8, vi z2), (7, vi k0), (6, vi l6), (5, vi l5), (4, vi l4), (3, vi l3), (2, vi l2), (0, .ref 131), (1, vi l1)] [] s3 _
        refine wr_n (pc2 := 195) (lv2 := [(8, vi z2), (7, vi k0), (6, vi l6), (5, vi l5), (4, vi l4), (3, vi l3), (2, vi l2), (0, .ref 131), (1, vi l1)]) (st2 := [.ref 131]) 1 (fun _ _ => rfl) ?_
        refine wr_get (v := .ref C) rfl rfl rfl (by decide) (rv_ref (show (s3.1) 131 1 = ((C : Nat) : Int) from hq3)) fun h4 => ?_
        show wr (d + 141) tb_M71 198 [(8, vi z2), (7, vi k0), (6, vi l6), (5, vi l5), (4, vi l4), (3, vi l3), (2, vi l2), (0, .ref 131), (1, vi l1)] [.ref C] s3 _
        refine wr_n (pc2 := 207) (lv2 := [(8, vi z2), (7, vi k0), (6, vi l6), (5, vi l5), (4, vi l4), (3, vi l3), (2, vi l2), (0, .ref 131), (1, vi l1)]) (st2 := [vi k0, vi z2, vi l6, vi 405, .ref C]) 4 (fun _ _ => rfl) ?_
        refine wr_call1 (args := [vi 405, vi l6, vi z2, vi k0]) (rest := []) rfl rfl rfl (TK0 hC) (Nat.le_of_ble_eq_true rfl) (cr_mono (k_cadd (d := d + 140) (C := C) hC (x := 405) (y := l6) (u := z2) (v := k0) s3 hK3 (by omega) (by omega) (by omega) (by omega)) ?_)
        rintro s5 out ⟨hK5, hY5, hc5, ha5, z5, rfl, hz5, hp5⟩
        refine ⟨_, rfl, ?_⟩
        have hX5 : FX s0.1 s5.1 := FX_tr hX3 hY5
        have hC5 : s5.2 = s0.2 := hc5.trans hC3
        have hq5 : s5.1 131 1 = (C : Int) := (hY5 131 1 (by unfold fx; omega)).trans hq3
        unfold i32 at hz5
        clear hp5
        show wr (d + 141) tb_M71 210 [(8, vi z2), (7, vi k0), (6, vi l6), (5, vi l5), (4, vi l4), (3, vi l3), (2, vi l2), (0, .ref 131), (1, vi l1)] [vi z5] s5 _
        refine wr_reti rfl rfl ?_
        exact ⟨hK5, hX5, .inl ⟨z5, hC5, rfl, by unfold i32; omega, trivial⟩⟩
      · refine .inr ⟨rfl, ?_⟩
        exact ⟨hK3, (FX_tr hX2 hY3), .inr ⟨rfl, TH hC2 hc3⟩⟩
    · refine .inr ⟨rfl, ?_⟩
      exact ⟨hK2, (FX_tr hX1 hY2), .inr ⟨rfl, TH hC1 hc2⟩⟩
  · refine .inr ⟨rfl, ?_⟩
    exact ⟨hK1, (FX_tr hX hY1), .inr ⟨rfl, TH hc hc1⟩⟩
set_option maxHeartbeats 20000000 in
set_option maxRecDepth 100000 in
theorem k_namedStatement_229 {d : Nat} {s0 : rS} {C : Nat} (hC : C = 99 ∨ C = 115)  (l5 : Int) (l4 : Int) (l3 : Int) (l2 : Int) (l1 : Int) (k0 : Int) (s : rS) (hK : KI s.1) (hq : s.1 131 1 = (C : Int)) (hX : FX s0.1 s.1) (hc : s.2 = s0.2) (hl5 : (-2147483648) ≤ l5 ∧ l5 ≤ 2147483647) (hl4 : (-2147483648) ≤ l4 ∧ l4 ≤ 2147483647) (hl3 : (-2147483648) ≤ l3 ∧ l3 ≤ 2147483647) (hl2 : (-2147483648) ≤ l2 ∧ l2 ≤ 2147483647) (hl1 : 0 ≤ l1 ∧ l1 ≤ 20) (hk0 : 0 ≤ k0 ∧ k0 ≤ 1)   : wr (d + 141) tb_M71 229 [(5, vi l5), (4, vi l4), (3, vi l3), (2, vi l2), (0, .ref 131), (1, vi l1)] [vi k0, .ref 131] s (TZ (fun z => True) s0) := by
  refine wr_n (pc2 := 230) (lv2 := [(5, vi l5), (4, vi l4), (3, vi l3), (2, vi l2), (0, .ref 131), (1, vi l1)]) (st2 := [vi l2, vi k0, .ref 131]) 1 (fun _ _ => rfl) ?_
  refine wr_call1T (args := [vi k0, vi l2]) (rest := []) rfl rfl rfl rfl (Nat.le_of_ble_eq_true rfl) rfl (cr_mono (k_check (d := d + 140) (x := k0) (y := l2) s hK (by omega) (by omega)) ?_)
  rintro s1 out (⟨e1, hr1, rfl⟩ | ⟨hK1, hY1, rfl, hc1⟩)
  · refine .inl ⟨_, rfl, ?_⟩
    rw [e1]
    show wr (d + 141) tb_M71 233 [(5, vi l5), (4, vi l4), (3, vi l3), (2, vi l2), (0, .ref 131), (1, vi l1)] [] s _
    refine wr_n (pc2 := 234) (lv2 := [(5, vi l5), (4, vi l4), (3, vi l3), (2, vi l2), (0, .ref 131), (1, vi l1)]) (st2 := [.ref 131]) 1 (fun _ _ => rfl) ?_
    refine wr_get (v := .ref 137) rfl rfl rfl (by decide) (rv_ref (hK.1 131 0 137 rfl)) fun h2 => ?_
    show wr (d + 141) tb_M71 237 [(5, vi l5), (4, vi l4), (3, vi l3), (2, vi l2), (0, .ref 131), (1, vi l1)] [.ref 137] s _
    refine wr_call1 (args := []) (rest := []) rfl rfl rfl rfl (Nat.le_of_ble_eq_true rfl) (cr_mono (k_step (d := d + 140) s hK) ?_)
    rintro s3 out ⟨hK3, hY3, hc3, rfl⟩
    refine ⟨_, rfl, ?_⟩
    have hX3 : FX s0.1 s3.1 := FX_tr hX hY3
    have hC3 : s3.2 = s0.2 := hc3.trans hc
    have hq3 : s3.1 131 1 = (C : Int) := (hY3 131 1 (by unfold fx; omega)).trans hq
    show wr (d + 141) tb_M71 240 [(5, vi l5), (4, vi l4), (3, vi l3), (2, vi l2), (0, .ref 131), (1, vi l1)] [] s3 _
    refine wr_n (pc2 := 242) (lv2 := [(5, vi l5), (4, vi l4), (3, vi l3), (2, vi l2), (0, .ref 131), (1, vi l1)]) (st2 := [vi l1, .ref 131]) 2 (fun _ _ => rfl) ?_
    refine wr_call1T (args := [vi l1]) (rest := []) rfl rfl rfl rfl (Nat.le_of_ble_eq_true rfl) rfl (cr_mono (cr_up (by omega) ((k_KE 21).1 C s3 l1 hC hK3 hq3 (by omega))) ?_)
    rintro s4 out ⟨hK4, hY4, ⟨z4, hc4, rfl, hz4, hp4⟩ | ⟨rfl, hc4⟩⟩
    · refine .inl ⟨_, rfl, ?_⟩
      have hX4 : FX s0.1 s4.1 := FX_tr hX3 hY4
      have hC4 : s4.2 = s0.2 := hc4.trans hC3
      have hq4 : s4.1 131 1 = (C : Int) := (hY4 131 1 (by unfold fx; omega)).trans hq3
      unfold i32 at hz4
      clear hp4
      show wr (d + 141) tb_M71 245 [(5, vi l5), (4, vi l4), (3, vi l3), (2, vi l2), (0, .ref 131), (1, vi l1)] [vi z4] s4 _
      refine wr_n (pc2 := 250) (lv2 := [(9, vi z4), (5, vi l5), (4, vi l4), (3, vi l3), (2, vi l2), (0, .ref 131), (1, vi l1)]) (st2 := [vi 59, .ref 131]) 3 (fun _ _ => rfl) ?_
      refine wr_call1T (args := [vi 59]) (rest := []) rfl rfl rfl rfl (Nat.le_of_ble_eq_true rfl) rfl (cr_mono (k_expect (d := d + 139) (x := 59) s4 hK4 (by omega)) ?_)
      rintro s5 out ⟨hK5, hY5, ⟨hc5, rfl⟩ | ⟨rfl, hc5⟩⟩
      · refine .inl ⟨_, rfl, ?_⟩
        have hX5 : FX s0.1 s5.1 := FX_tr hX4 hY5
        have hC5 : s5.2 = s0.2 := hc5.trans hC4
        have hq5 : s5.1 131 1 = (C : Int) := (hY5 131 1 (by unfold fx; omega)).trans hq4
        show wr (d + 141) tb_M71 253 [(9, vi z4), (5, vi l5), (4, vi l4), (3, vi l3), (2, vi l2), (0, .ref 131), (1, vi l1)] [] s5 _
        refine wr_n (pc2 := 255) (lv2 := [(9, vi z4), (5, vi l5), (4, vi l4), (3, vi l3), (2, vi l2), (0, .ref 131), (1, vi l1)]) (st2 := [.ref 131, .ref 131]) 2 (fun _ _ => rfl) ?_
        refine wr_get (v := vl (s5.1 131 9)) rfl rfl rfl (by decide) rfl fun h6 => ?_
        show wr (d + 141) tb_M71 258 [(9, vi z4), (5, vi l5), (4, vi l4), (3, vi l3), (2, vi l2), (0, .ref 131), (1, vi l1)] [vl (s5.1 131 9), .ref 131] s5 _
        refine wr_n (pc2 := 261) (lv2 := [(9, vi z4), (5, vi l5), (4, vi l4), (3, vi l3), (2, vi l2), (0, .ref 131), (1, vi l1)]) (st2 := [vi l3, .ref 131, vl 1, vl (s5.1 131 9), .ref 131]) 3 (fun _ _ => rfl) ?_
        refine wr_call1 (args := [vi l3]) (rest := [vl 1, vl (s5.1 131 9), .ref 131]) rfl rfl rfl rfl (Nat.le_of_ble_eq_true rfl) (cr_mono (k_line (d := d + 139) (C := C) hC (x := l3) s5 hK5 hq5 (by omega)) ?_)
        rintro s7 out ⟨z7, rfl, hz7, hp7, e7⟩
        refine ⟨_, rfl, ?_⟩
        rw [e7]
        unfold i32 at hz7
        clear hp7
        show wr (d + 141) tb_M71 264 [(9, vi z4), (5, vi l5), (4, vi l4), (3, vi l3), (2, vi l2), (0, .ref 131), (1, vi l1)] [vi z7, vl 1, vl (s5.1 131 9), .ref 131] s5 _
        refine wr_lshl (a := 1) (b := z7) rfl fun z8 h9 _ => ?_
        show wr (d + 141) tb_M71 265 [(9, vi z4), (5, vi l5), (4, vi l4), (3, vi l3), (2, vi l2), (0, .ref 131), (1, vi l1)] [vl z8, vl (s5.1 131 9), .ref 131] s5 _
        refine wr_anyl (a := s5.1 131 9) (b := z8) rfl rfl fun z10 h11 _ => ?_
        show wr (d + 141) tb_M71 266 [(9, vi z4), (5, vi l5), (4, vi l4), (3, vi l3), (2, vi l2), (0, .ref 131), (1, vi l1)] [vl z10, .ref 131] s5 _
        refine wr_put (z := z10) rfl rfl rfl rfl (by decide) rfl (by decide) rfl h11 (fit_l _) ?_
        show wr (d + 141) tb_M71 269 [(9, vi z4), (5, vi l5), (4, vi l4), (3, vi l3), (2, vi l2), (0, .ref 131), (1, vi l1)] [] (up2 s5.1 131 9 z10, s5.2) _
        have hK12 : KI (up2 s5.1 131 9 z10) := (KI_up hK5 rfl (kb_no rfl))
        refine wr_n (pc2 := 270) (lv2 := [(9, vi z4), (5, vi l5), (4, vi l4), (3, vi l3), (2, vi l2), (0, .ref 131), (1, vi l1)]) (st2 := [.ref 131]) 1 (fun _ _ => rfl) ?_
        refine wr_get (v := .ref C) rfl rfl rfl (by decide) (rv_ref (show (up2 s5.1 131 9 z10) 131 1 = ((C : Nat) : Int) from (show (up2 s5.1 131 9 z10) 131 1 = ((C : Nat) : Int) from ((if_neg (by omega)).trans hq5)))) fun h13 => ?_
        show wr (d + 141) tb_M71 273 [(9, vi z4), (5, vi l5), (4, vi l4), (3, vi l3), (2, vi l2), (0, .ref 131), (1, vi l1)] [.ref C] (up2 s5.1 131 9 z10, s5.2) _
        refine wr_n (pc2 := 278) (lv2 := [(9, vi z4), (5, vi l5), (4, vi l4), (3, vi l3), (2, vi l2), (0, .ref 131), (1, vi l1)]) (st2 := [vi l3, .ref 131, vi 406, .ref C]) 3 (fun _ _ => rfl) ?_
        refine wr_call1 (args := [vi l3]) (rest := [vi 406, .ref C]) rfl rfl rfl rfl (Nat.le_of_ble_eq_true rfl) (cr_mono (k_line (d := d + 139) (C := C) hC (x := l3) (up2 s5.1 131 9 z10, s5.2) hK12 (show (up2 s5.1 131 9 z10) 131 1 = ((C : Nat) : Int) from ((if_neg (by omega)).trans hq5)) (by omega)) ?_)
        rintro s14 out ⟨z14, rfl, hz14, hp14, e14⟩
        refine ⟨_, rfl, ?_⟩
        rw [e14]
        unfold i32 at hz14
        clear hp14
        show wr (d + 141) tb_M71 281 [(9, vi z4), (5, vi l5), (4, vi l4), (3, vi l3), (2, vi l2), (0, .ref 131), (1, vi l1)] [vi z14, vi 406, .ref C] (up2 s5.1 131 9 z10, s5.2) _
        refine wr_n (pc2 := 284) (lv2 := [(9, vi z4), (5, vi l5), (4, vi l4), (3, vi l3), (2, vi l2), (0, .ref 131), (1, vi l1)]) (st2 := [vi ((-1)), vi z4, vi z14, vi 406, .ref C]) 2 (fun _ _ => rfl) ?_
        refine wr_call1 (args := [vi 406, vi z14, vi z4, vi ((-1))]) (rest := []) rfl rfl rfl (TK0 hC) (Nat.le_of_ble_eq_true rfl) (cr_mono (k_cadd (d := d + 140) (C := C) hC (x := 406) (y := z14) (u := z4) (v := (-1)) (up2 s5.1 131 9 z10, s5.2) hK12 (by omega) (by omega) (by omega) (by omega)) ?_)
        rintro s15 out ⟨hK15, hY15, hc15, ha15, z15, rfl, hz15, hp15⟩
        refine ⟨_, rfl, ?_⟩
        have hX15 : FX s0.1 s15.1 := FX_tr (FX_up hX5 (by unfold fx; omega)) hY15
        have hC15 : s15.2 = s0.2 := hc15.trans hC5
        have hq15 : s15.1 131 1 = (C : Int) := (hY15 131 1 (by unfold fx; omega)).trans (show (up2 s5.1 131 9 z10) 131 1 = ((C : Nat) : Int) from ((if_neg (by omega)).trans hq5))
        unfold i32 at hz15
        clear hp15
        show wr (d + 141) tb_M71 287 [(9, vi z4), (5, vi l5), (4, vi l4), (3, vi l3), (2, vi l2), (0, .ref 131), (1, vi l1)] [vi z15] s15 _
        refine wr_reti rfl rfl ?_
        exact ⟨hK15, hX15, .inl ⟨z15, hC15, rfl, by unfold i32; omega, trivial⟩⟩
      · refine .inr ⟨rfl, ?_⟩
        exact ⟨hK5, (FX_tr hX4 hY5), .inr ⟨rfl, TH hC4 hc5⟩⟩
    · refine .inr ⟨rfl, ?_⟩
      exact ⟨hK4, (FX_tr hX3 hY4), .inr ⟨rfl, TH hC3 hc4⟩⟩
  · refine .inr ⟨rfl, ?_⟩
    exact ⟨hK1, (FX_tr hX hY1), .inr ⟨rfl, TH hc hc1⟩⟩
set_option maxHeartbeats 20000000 in
set_option maxRecDepth 100000 in
theorem k_namedStatement_370 {d : Nat} {s0 : rS} {C : Nat} (hC : C = 99 ∨ C = 115)  (l12 : Int) (l11 : Int) (l10 : Int) (l5 : Int) (l4 : Int) (l3 : Int) (l2 : Int) (l1 : Int) (k0 : Int) (s : rS) (hK : KI s.1) (hq : s.1 131 1 = (C : Int)) (hX : FX s0.1 s.1) (hc : s.2 = s0.2) (hl12 : (-2147483648) ≤ l12 ∧ l12 ≤ 2147483647) (hl11 : (-2147483648) ≤ l11 ∧ l11 ≤ 2147483647) (hl10 : (-2147483648) ≤ l10 ∧ l10 ≤ 2147483647) (hl5 : (-2147483648) ≤ l5 ∧ l5 ≤ 2147483647) (hl4 : (-2147483648) ≤ l4 ∧ l4 ≤ 2147483647) (hl3 : (-2147483648) ≤ l3 ∧ l3 ≤ 2147483647) (hl2 : (-2147483648) ≤ l2 ∧ l2 ≤ 2147483647) (hl1 : 0 ≤ l1 ∧ l1 ≤ 20) (hk0 : (-2147483648) ≤ k0 ∧ k0 ≤ 2147483647)   : wr (d + 141) tb_M71 370 [(12, vi l12), (11, vi l11), (10, vi l10), (5, vi l5), (4, vi l4), (3, vi l3), (2, vi l2), (0, .ref 131), (1, vi l1)] [vi k0] s (TZ (fun z => True) s0) := by
  refine wr_n (pc2 := 375) (lv2 := [(13, vi k0), (12, vi l12), (11, vi l11), (10, vi l10), (5, vi l5), (4, vi l4), (3, vi l3), (2, vi l2), (0, .ref 131), (1, vi l1)]) (st2 := [vi 59, .ref 131]) 3 (fun _ _ => rfl) ?_
  refine wr_call1T (args := [vi 59]) (rest := []) rfl rfl rfl rfl (Nat.le_of_ble_eq_true rfl) rfl (cr_mono (k_expect (d := d + 139) (x := 59) s hK (by omega)) ?_)
  rintro s1 out ⟨hK1, hY1, ⟨hc1, rfl⟩ | ⟨rfl, hc1⟩⟩
  · refine .inl ⟨_, rfl, ?_⟩
    have hX1 : FX s0.1 s1.1 := FX_tr hX hY1
    have hC1 : s1.2 = s0.2 := hc1.trans hc
    have hq1 : s1.1 131 1 = (C : Int) := (hY1 131 1 (by unfold fx; omega)).trans hq
    show wr (d + 141) tb_M71 378 [(13, vi k0), (12, vi l12), (11, vi l11), (10, vi l10), (5, vi l5), (4, vi l4), (3, vi l3), (2, vi l2), (0, .ref 131), (1, vi l1)] [] s1 _
    refine wr_n (pc2 := 380) (lv2 := [(13, vi k0), (12, vi l12), (11, vi l11), (10, vi l10), (5, vi l5), (4, vi l4), (3, vi l3), (2, vi l2), (0, .ref 131), (1, vi l1)]) (st2 := [.ref 131, .ref 131]) 2 (fun _ _ => rfl) ?_
    refine wr_get (v := vl (s1.1 131 9)) rfl rfl rfl (by decide) rfl fun h2 => ?_
    show wr (d + 141) tb_M71 383 [(13, vi k0), (12, vi l12), (11, vi l11), (10, vi l10), (5, vi l5), (4, vi l4), (3, vi l3), (2, vi l2), (0, .ref 131), (1, vi l1)] [vl (s1.1 131 9), .ref 131] s1 _
    refine wr_n (pc2 := 388) (lv2 := [(13, vi k0), (12, vi l12), (11, vi l11), (10, vi l10), (5, vi l5), (4, vi l4), (3, vi l3), (2, vi l2), (0, .ref 131), (1, vi l1)]) (st2 := [vi l3, .ref 131, vi 12, vl 1, vl (s1.1 131 9), .ref 131]) 4 (fun _ _ => rfl) ?_
    refine wr_call1 (args := [vi l3]) (rest := [vi 12, vl 1, vl (s1.1 131 9), .ref 131]) rfl rfl rfl rfl (Nat.le_of_ble_eq_true rfl) (cr_mono (k_line (d := d + 139) (C := C) hC (x := l3) s1 hK1 hq1 (by omega)) ?_)
    rintro s3 out ⟨z3, rfl, hz3, hp3, e3⟩
    refine ⟨_, rfl, ?_⟩
    rw [e3]
    unfold i32 at hz3
    clear hp3
    show wr (d + 141) tb_M71 391 [(13, vi k0), (12, vi l12), (11, vi l11), (10, vi l10), (5, vi l5), (4, vi l4), (3, vi l3), (2, vi l2), (0, .ref 131), (1, vi l1)] [vi z3, vi 12, vl 1, vl (s1.1 131 9), .ref 131] s1 _
    refine wr_any2 rfl rfl fun z4 h5 => ?_
    unfold i32 at h5
    show wr (d + 141) tb_M71 392 [(13, vi k0), (12, vi l12), (11, vi l11), (10, vi l10), (5, vi l5), (4, vi l4), (3, vi l3), (2, vi l2), (0, .ref 131), (1, vi l1)] [vi z4, vl 1, vl (s1.1 131 9), .ref 131] s1 _
    refine wr_lshl (a := 1) (b := z4) rfl fun z6 h7 _ => ?_
    show wr (d + 141) tb_M71 393 [(13, vi k0), (12, vi l12), (11, vi l11), (10, vi l10), (5, vi l5), (4, vi l4), (3, vi l3), (2, vi l2), (0, .ref 131), (1, vi l1)] [vl z6, vl (s1.1 131 9), .ref 131] s1 _
    refine wr_anyl (a := s1.1 131 9) (b := z6) rfl rfl fun z8 h9 _ => ?_
    show wr (d + 141) tb_M71 394 [(13, vi k0), (12, vi l12), (11, vi l11), (10, vi l10), (5, vi l5), (4, vi l4), (3, vi l3), (2, vi l2), (0, .ref 131), (1, vi l1)] [vl z8, .ref 131] s1 _
    refine wr_put (z := z8) rfl rfl rfl rfl (by decide) rfl (by decide) rfl h9 (fit_l _) ?_
    show wr (d + 141) tb_M71 397 [(13, vi k0), (12, vi l12), (11, vi l11), (10, vi l10), (5, vi l5), (4, vi l4), (3, vi l3), (2, vi l2), (0, .ref 131), (1, vi l1)] [] (up2 s1.1 131 9 z8, s1.2) _
    have hK10 : KI (up2 s1.1 131 9 z8) := (KI_up hK1 rfl (kb_no rfl))
    refine wr_n (pc2 := 398) (lv2 := [(13, vi k0), (12, vi l12), (11, vi l11), (10, vi l10), (5, vi l5), (4, vi l4), (3, vi l3), (2, vi l2), (0, .ref 131), (1, vi l1)]) (st2 := [.ref 131]) 1 (fun _ _ => rfl) ?_
    refine wr_get (v := .ref C) rfl rfl rfl (by decide) (rv_ref (show (up2 s1.1 131 9 z8) 131 1 = ((C : Nat) : Int) from (show (up2 s1.1 131 9 z8) 131 1 = ((C : Nat) : Int) from ((if_neg (by omega)).trans hq1)))) fun h11 => ?_
    show wr (d + 141) tb_M71 401 [(13, vi k0), (12, vi l12), (11, vi l11), (10, vi l10), (5, vi l5), (4, vi l4), (3, vi l3), (2, vi l2), (0, .ref 131), (1, vi l1)] [.ref C] (up2 s1.1 131 9 z8, s1.2) _
    refine wr_n (pc2 := 406) (lv2 := [(13, vi k0), (12, vi l12), (11, vi l11), (10, vi l10), (5, vi l5), (4, vi l4), (3, vi l3), (2, vi l2), (0, .ref 131), (1, vi l1)]) (st2 := [vi l3, .ref 131, vi 407, .ref C]) 3 (fun _ _ => rfl) ?_
    refine wr_call1 (args := [vi l3]) (rest := [vi 407, .ref C]) rfl rfl rfl rfl (Nat.le_of_ble_eq_true rfl) (cr_mono (k_line (d := d + 139) (C := C) hC (x := l3) (up2 s1.1 131 9 z8, s1.2) hK10 (show (up2 s1.1 131 9 z8) 131 1 = ((C : Nat) : Int) from ((if_neg (by omega)).trans hq1)) (by omega)) ?_)
    rintro s12 out ⟨z12, rfl, hz12, hp12, e12⟩
    refine ⟨_, rfl, ?_⟩
    rw [e12]
    unfold i32 at hz12
    clear hp12
    show wr (d + 141) tb_M71 409 [(13, vi k0), (12, vi l12), (11, vi l11), (10, vi l10), (5, vi l5), (4, vi l4), (3, vi l3), (2, vi l2), (0, .ref 131), (1, vi l1)] [vi z12, vi 407, .ref C] (up2 s1.1 131 9 z8, s1.2) _
    refine wr_n (pc2 := 413) (lv2 := [(13, vi k0), (12, vi l12), (11, vi l11), (10, vi l10), (5, vi l5), (4, vi l4), (3, vi l3), (2, vi l2), (0, .ref 131), (1, vi l1)]) (st2 := [vi k0, vi l12, vi z12, vi 407, .ref C]) 2 (fun _ _ => rfl) ?_
    refine wr_call1 (args := [vi 407, vi z12, vi l12, vi k0]) (rest := []) rfl rfl rfl (TK0 hC) (Nat.le_of_ble_eq_true rfl) (cr_mono (k_cadd (d := d + 140) (C := C) hC (x := 407) (y := z12) (u := l12) (v := k0) (up2 s1.1 131 9 z8, s1.2) hK10 (by omega) (by omega) (by omega) (by omega)) ?_)
    rintro s13 out ⟨hK13, hY13, hc13, ha13, z13, rfl, hz13, hp13⟩
    refine ⟨_, rfl, ?_⟩
    have hX13 : FX s0.1 s13.1 := FX_tr (FX_up hX1 (by unfold fx; omega)) hY13
    have hC13 : s13.2 = s0.2 := hc13.trans hC1
    have hq13 : s13.1 131 1 = (C : Int) := (hY13 131 1 (by unfold fx; omega)).trans (show (up2 s1.1 131 9 z8) 131 1 = ((C : Nat) : Int) from ((if_neg (by omega)).trans hq1))
    unfold i32 at hz13
    clear hp13
    show wr (d + 141) tb_M71 416 [(13, vi k0), (12, vi l12), (11, vi l11), (10, vi l10), (5, vi l5), (4, vi l4), (3, vi l3), (2, vi l2), (0, .ref 131), (1, vi l1)] [vi z13] s13 _
    refine wr_reti rfl rfl ?_
    exact ⟨hK13, hX13, .inl ⟨z13, hC13, rfl, by unfold i32; omega, trivial⟩⟩
  · refine .inr ⟨rfl, ?_⟩
    exact ⟨hK1, (FX_tr hX hY1), .inr ⟨rfl, TH hc hc1⟩⟩
set_option maxHeartbeats 20000000 in
set_option maxRecDepth 100000 in
theorem k_namedStatement_306 {d : Nat} {s0 : rS} {C : Nat} (hC : C = 99 ∨ C = 115)  (l5 : Int) (l4 : Int) (l3 : Int) (l2 : Int) (l1 : Int) (k0 : Int) (s : rS) (hK : KI s.1) (hq : s.1 131 1 = (C : Int)) (hX : FX s0.1 s.1) (hc : s.2 = s0.2) (hl5 : (-2147483648) ≤ l5 ∧ l5 ≤ 2147483647) (hl4 : (-2147483648) ≤ l4 ∧ l4 ≤ 2147483647) (hl3 : (-2147483648) ≤ l3 ∧ l3 ≤ 2147483647) (hl2 : (-2147483648) ≤ l2 ∧ l2 ≤ 2147483647) (hl1 : 0 ≤ l1 ∧ l1 ≤ 20) (hk0 : 0 ≤ k0 ∧ k0 ≤ 1)   : wr (d + 141) tb_M71 306 [(5, vi l5), (4, vi l4), (3, vi l3), (2, vi l2), (0, .ref 131), (1, vi l1)] [vi k0, .ref 131] s (TZ (fun z => True) s0) := by
  refine wr_n (pc2 := 307) (lv2 := [(5, vi l5), (4, vi l4), (3, vi l3), (2, vi l2), (0, .ref 131), (1, vi l1)]) (st2 := [vi l2, vi k0, .ref 131]) 1 (fun _ _ => rfl) ?_
  refine wr_call1T (args := [vi k0, vi l2]) (rest := []) rfl rfl rfl rfl (Nat.le_of_ble_eq_true rfl) rfl (cr_mono (k_check (d := d + 140) (x := k0) (y := l2) s hK (by omega) (by omega)) ?_)
  rintro s1 out (⟨e1, hr1, rfl⟩ | ⟨hK1, hY1, rfl, hc1⟩)
  · refine .inl ⟨_, rfl, ?_⟩
    rw [e1]
    show wr (d + 141) tb_M71 310 [(5, vi l5), (4, vi l4), (3, vi l3), (2, vi l2), (0, .ref 131), (1, vi l1)] [] s _
    refine wr_n (pc2 := 311) (lv2 := [(5, vi l5), (4, vi l4), (3, vi l3), (2, vi l2), (0, .ref 131), (1, vi l1)]) (st2 := [.ref 131]) 1 (fun _ _ => rfl) ?_
    refine wr_get (v := .ref 137) rfl rfl rfl (by decide) (rv_ref (hK.1 131 0 137 rfl)) fun h2 => ?_
    show wr (d + 141) tb_M71 314 [(5, vi l5), (4, vi l4), (3, vi l3), (2, vi l2), (0, .ref 131), (1, vi l1)] [.ref 137] s _
    refine wr_call1 (args := []) (rest := []) rfl rfl rfl rfl (Nat.le_of_ble_eq_true rfl) (cr_mono (k_step (d := d + 140) s hK) ?_)
    rintro s3 out ⟨hK3, hY3, hc3, rfl⟩
    refine ⟨_, rfl, ?_⟩
    have hX3 : FX s0.1 s3.1 := FX_tr hX hY3
    have hC3 : s3.2 = s0.2 := hc3.trans hc
    have hq3 : s3.1 131 1 = (C : Int) := (hY3 131 1 (by unfold fx; omega)).trans hq
    show wr (d + 141) tb_M71 317 [(5, vi l5), (4, vi l4), (3, vi l3), (2, vi l2), (0, .ref 131), (1, vi l1)] [] s3 _
    refine wr_n (pc2 := 318) (lv2 := [(5, vi l5), (4, vi l4), (3, vi l3), (2, vi l2), (0, .ref 131), (1, vi l1)]) (st2 := [.ref 131]) 1 (fun _ _ => rfl) ?_
    refine wr_get (v := .ref 137) rfl rfl rfl (by decide) (rv_ref (hK3.1 131 0 137 rfl)) fun h4 => ?_
    show wr (d + 141) tb_M71 321 [(5, vi l5), (4, vi l4), (3, vi l3), (2, vi l2), (0, .ref 131), (1, vi l1)] [.ref 137] s3 _
    refine wr_call1 (args := []) (rest := []) rfl rfl rfl rfl (Nat.le_of_ble_eq_true rfl) (cr_mono (k_place (d := d + 140) s3 hK3) ?_)
    rintro s5 out ⟨z5, rfl, hz5, hp5, e5⟩
    refine ⟨_, rfl, ?_⟩
    rw [e5]
    unfold i32 at hz5
    clear hp5
    show wr (d + 141) tb_M71 324 [(5, vi l5), (4, vi l4), (3, vi l3), (2, vi l2), (0, .ref 131), (1, vi l1)] [vi z5] s3 _
    refine wr_n (pc2 := 327) (lv2 := [(10, vi z5), (5, vi l5), (4, vi l4), (3, vi l3), (2, vi l2), (0, .ref 131), (1, vi l1)]) (st2 := [.ref 131]) 2 (fun _ _ => rfl) ?_
    refine wr_call1T (args := []) (rest := []) rfl rfl rfl rfl (Nat.le_of_ble_eq_true rfl) rfl (cr_mono (k_meaning (d := d + 139) (C := C) hC s3 hK3 hq3) ?_)
    rintro s6 out ⟨hK6, hY6, ⟨z6, hc6, rfl, hz6, hp6⟩ | ⟨rfl, hc6⟩⟩
    · refine .inl ⟨_, rfl, ?_⟩
      have hX6 : FX s0.1 s6.1 := FX_tr hX3 hY6
      have hC6 : s6.2 = s0.2 := hc6.trans hC3
      have hq6 : s6.1 131 1 = (C : Int) := (hY6 131 1 (by unfold fx; omega)).trans hq3
      unfold i32 at hz6
      clear hp6
      show wr (d + 141) tb_M71 330 [(10, vi z5), (5, vi l5), (4, vi l4), (3, vi l3), (2, vi l2), (0, .ref 131), (1, vi l1)] [vi z6] s6 _
      refine wr_n (pc2 := 333) (lv2 := [(11, vi z6), (10, vi z5), (5, vi l5), (4, vi l4), (3, vi l3), (2, vi l2), (0, .ref 131), (1, vi l1)]) (st2 := [.ref 131]) 2 (fun _ _ => rfl) ?_
      refine wr_get (v := .ref 137) rfl rfl rfl (by decide) (rv_ref (hK6.1 131 0 137 rfl)) fun h7 => ?_
      show wr (d + 141) tb_M71 336 [(11, vi z6), (10, vi z5), (5, vi l5), (4, vi l4), (3, vi l3), (2, vi l2), (0, .ref 131), (1, vi l1)] [.ref 137] s6 _
      refine wr_call1 (args := []) (rest := []) rfl rfl rfl rfl (Nat.le_of_ble_eq_true rfl) (cr_mono (k_step (d := d + 140) s6 hK6) ?_)
      rintro s8 out ⟨hK8, hY8, hc8, rfl⟩
      refine ⟨_, rfl, ?_⟩
      have hX8 : FX s0.1 s8.1 := FX_tr hX6 hY8
      have hC8 : s8.2 = s0.2 := hc8.trans hC6
      have hq8 : s8.1 131 1 = (C : Int) := (hY8 131 1 (by unfold fx; omega)).trans hq6
      show wr (d + 141) tb_M71 339 [(11, vi z6), (10, vi z5), (5, vi l5), (4, vi l4), (3, vi l3), (2, vi l2), (0, .ref 131), (1, vi l1)] [] s8 _
      refine wr_n (pc2 := 344) (lv2 := [(11, vi z6), (10, vi z5), (5, vi l5), (4, vi l4), (3, vi l3), (2, vi l2), (0, .ref 131), (1, vi l1)]) (st2 := [vi z5, vi z6, .ref 131]) 3 (fun _ _ => rfl) ?_
      refine wr_call1T (args := [vi z6, vi z5]) (rest := []) rfl rfl rfl rfl (Nat.le_of_ble_eq_true rfl) rfl (cr_mono (k_target (d := d + 139) (C := C) hC (x := z6) (y := z5) s8 hK8 hq8 (by omega) (by omega)) ?_)
      rintro s9 out ⟨hK9, hY9, ⟨z9, hc9, rfl, hz9, hp9⟩ | ⟨rfl, hc9⟩⟩
      · refine .inl ⟨_, rfl, ?_⟩
        have hX9 : FX s0.1 s9.1 := FX_tr hX8 hY9
        have hC9 : s9.2 = s0.2 := hc9.trans hC8
        have hq9 : s9.1 131 1 = (C : Int) := (hY9 131 1 (by unfold fx; omega)).trans hq8
        unfold i32 at hz9
        clear hp9
        show wr (d + 141) tb_M71 347 [(11, vi z6), (10, vi z5), (5, vi l5), (4, vi l4), (3, vi l3), (2, vi l2), (0, .ref 131), (1, vi l1)] [vi z9] s9 _
        refine wr_n (pc2 := 350) (lv2 := [(12, vi z9), (11, vi z6), (10, vi z5), (5, vi l5), (4, vi l4), (3, vi l3), (2, vi l2), (0, .ref 131), (1, vi l1)]) (st2 := [.ref 131]) 2 (fun _ _ => rfl) ?_
        refine wr_get (v := .ref 137) rfl rfl rfl (by decide) (rv_ref (hK9.1 131 0 137 rfl)) fun h10 => ?_
        show wr (d + 141) tb_M71 353 [(12, vi z9), (11, vi z6), (10, vi z5), (5, vi l5), (4, vi l4), (3, vi l3), (2, vi l2), (0, .ref 131), (1, vi l1)] [.ref 137] s9 _
        refine wr_call1 (args := []) (rest := []) rfl rfl rfl rfl (Nat.le_of_ble_eq_true rfl) (cr_mono (k_kind (d := d + 140) s9 hK9) ?_)
        rintro s11 out ⟨z11, rfl, hz11, hp11, e11⟩
        refine ⟨_, rfl, ?_⟩
        rw [e11]
        unfold i32 at hz11
        clear hp11
        show wr (d + 141) tb_M71 356 [(12, vi z9), (11, vi z6), (10, vi z5), (5, vi l5), (4, vi l4), (3, vi l3), (2, vi l2), (0, .ref 131), (1, vi l1)] [vi z11] s9 _
        refine wr_n (pc2 := 358) (lv2 := [(12, vi z9), (11, vi z6), (10, vi z5), (5, vi l5), (4, vi l4), (3, vi l3), (2, vi l2), (0, .ref 131), (1, vi l1)]) (st2 := [vi 91, vi z11]) 1 (fun _ _ => rfl) ?_
        by_cases h12 : z11 ≠ 91
        · refine wr_if2t rfl rfl (by unfold i32; omega) (by unfold i32; omega) h12 ?_
          refine wr_n (pc2 := 370) (lv2 := [(12, vi z9), (11, vi z6), (10, vi z5), (5, vi l5), (4, vi l4), (3, vi l3), (2, vi l2), (0, .ref 131), (1, vi l1)]) (st2 := [vi ((-1))]) 1 (fun _ _ => rfl) ?_
          exact k_namedStatement_370 hC z9 z6 z5 l5 l4 l3 l2 l1 ((-1)) s9 hK9 hq9 hX9 hC9 (by omega) (by omega) (by omega) (by omega) (by omega) (by omega) (by omega) (by omega) (by omega)  
        · refine wr_if2f rfl rfl (by unfold i32; omega) (by unfold i32; omega) h12 ?_
          refine wr_n (pc2 := 363) (lv2 := [(12, vi z9), (11, vi z6), (10, vi z5), (5, vi l5), (4, vi l4), (3, vi l3), (2, vi l2), (0, .ref 131), (1, vi l1)]) (st2 := [vi l1, .ref 131]) 2 (fun _ _ => rfl) ?_
          refine wr_call1T (args := [vi l1]) (rest := []) rfl rfl rfl rfl (Nat.le_of_ble_eq_true rfl) rfl (cr_mono (cr_up (by omega) ((k_KE 21).2.2.2.1 C s9 l1 hC hK9 hq9 (by omega))) ?_)
          rintro s13 out ⟨hK13, hY13, ⟨z13, hc13, rfl, hz13, hp13⟩ | ⟨rfl, hc13⟩⟩
          · refine .inl ⟨_, rfl, ?_⟩
            have hX13 : FX s0.1 s13.1 := FX_tr hX9 hY13
            have hC13 : s13.2 = s0.2 := hc13.trans hC9
            have hq13 : s13.1 131 1 = (C : Int) := (hY13 131 1 (by unfold fx; omega)).trans hq9
            unfold i32 at hz13
            clear hp13
            show wr (d + 141) tb_M71 366 [(12, vi z9), (11, vi z6), (10, vi z5), (5, vi l5), (4, vi l4), (3, vi l3), (2, vi l2), (0, .ref 131), (1, vi l1)] [vi z13] s13 _
            refine wr_n (pc2 := 370) (lv2 := [(12, vi z9), (11, vi z6), (10, vi z5), (5, vi l5), (4, vi l4), (3, vi l3), (2, vi l2), (0, .ref 131), (1, vi l1)]) (st2 := [vi z13]) 1 (fun _ _ => rfl) ?_
            exact k_namedStatement_370 hC z9 z6 z5 l5 l4 l3 l2 l1 z13 s13 hK13 hq13 hX13 hC13 (by omega) (by omega) (by omega) (by omega) (by omega) (by omega) (by omega) (by omega) (by omega)  
          · refine .inr ⟨rfl, ?_⟩
            exact ⟨hK13, (FX_tr hX9 hY13), .inr ⟨rfl, TH hC9 hc13⟩⟩
      · refine .inr ⟨rfl, ?_⟩
        exact ⟨hK9, (FX_tr hX8 hY9), .inr ⟨rfl, TH hC8 hc9⟩⟩
    · refine .inr ⟨rfl, ?_⟩
      exact ⟨hK6, (FX_tr hX3 hY6), .inr ⟨rfl, TH hC3 hc6⟩⟩
  · refine .inr ⟨rfl, ?_⟩
    exact ⟨hK1, (FX_tr hX hY1), .inr ⟨rfl, TH hc hc1⟩⟩
set_option maxHeartbeats 20000000 in
set_option maxRecDepth 100000 in
theorem k_namedStatement_83 {d : Nat} {s0 : rS} {C : Nat} (hC : C = 99 ∨ C = 115)  (l5 : Int) (l4 : Int) (l3 : Int) (l2 : Int) (l1 : Int) (k0 : Int) (s : rS) (hK : KI s.1) (hq : s.1 131 1 = (C : Int)) (hX : FX s0.1 s.1) (hc : s.2 = s0.2) (hl5 : (-2147483648) ≤ l5 ∧ l5 ≤ 2147483647) (hl4 : (-2147483648) ≤ l4 ∧ l4 ≤ 2147483647) (hl3 : (-2147483648) ≤ l3 ∧ l3 ≤ 2147483647) (hl2 : (-2147483648) ≤ l2 ∧ l2 ≤ 2147483647) (hl1 : 0 ≤ l1 ∧ l1 ≤ 20) (hk0 : 0 ≤ k0 ∧ k0 ≤ 1)   : wr (d + 141) tb_M71 83 [(5, vi l5), (4, vi l4), (3, vi l3), (2, vi l2), (0, .ref 131), (1, vi l1)] [vi k0, .ref 131] s (TZ (fun z => True) s0) := by
  refine wr_n (pc2 := 84) (lv2 := [(5, vi l5), (4, vi l4), (3, vi l3), (2, vi l2), (0, .ref 131), (1, vi l1)]) (st2 := [vi l2, vi k0, .ref 131]) 1 (fun _ _ => rfl) ?_
  refine wr_call1T (args := [vi k0, vi l2]) (rest := []) rfl rfl rfl rfl (Nat.le_of_ble_eq_true rfl) rfl (cr_mono (k_check (d := d + 140) (x := k0) (y := l2) s hK (by omega) (by omega)) ?_)
  rintro s1 out (⟨e1, hr1, rfl⟩ | ⟨hK1, hY1, rfl, hc1⟩)
  · refine .inl ⟨_, rfl, ?_⟩
    rw [e1]
    show wr (d + 141) tb_M71 87 [(5, vi l5), (4, vi l4), (3, vi l3), (2, vi l2), (0, .ref 131), (1, vi l1)] [] s _
    refine wr_n (pc2 := 88) (lv2 := [(5, vi l5), (4, vi l4), (3, vi l3), (2, vi l2), (0, .ref 131), (1, vi l1)]) (st2 := [.ref 131]) 1 (fun _ _ => rfl) ?_
    refine wr_get (v := .ref 137) rfl rfl rfl (by decide) (rv_ref (hK.1 131 0 137 rfl)) fun h2 => ?_
    show wr (d + 141) tb_M71 91 [(5, vi l5), (4, vi l4), (3, vi l3), (2, vi l2), (0, .ref 131), (1, vi l1)] [.ref 137] s _
    refine wr_call1 (args := []) (rest := []) rfl rfl rfl rfl (Nat.le_of_ble_eq_true rfl) (cr_mono (k_step (d := d + 140) s hK) ?_)
    rintro s3 out ⟨hK3, hY3, hc3, rfl⟩
    refine ⟨_, rfl, ?_⟩
    have hX3 : FX s0.1 s3.1 := FX_tr hX hY3
    have hC3 : s3.2 = s0.2 := hc3.trans hc
    have hq3 : s3.1 131 1 = (C : Int) := (hY3 131 1 (by unfold fx; omega)).trans hq
    show wr (d + 141) tb_M71 94 [(5, vi l5), (4, vi l4), (3, vi l3), (2, vi l2), (0, .ref 131), (1, vi l1)] [] s3 _
    refine wr_n (pc2 := 95) (lv2 := [(5, vi l5), (4, vi l4), (3, vi l3), (2, vi l2), (0, .ref 131), (1, vi l1)]) (st2 := [.ref 131]) 1 (fun _ _ => rfl) ?_
    refine wr_get (v := .ref 137) rfl rfl rfl (by decide) (rv_ref (hK3.1 131 0 137 rfl)) fun h4 => ?_
    show wr (d + 141) tb_M71 98 [(5, vi l5), (4, vi l4), (3, vi l3), (2, vi l2), (0, .ref 131), (1, vi l1)] [.ref 137] s3 _
    refine wr_call1 (args := []) (rest := []) rfl rfl rfl rfl (Nat.le_of_ble_eq_true rfl) (cr_mono (k_kind (d := d + 140) s3 hK3) ?_)
    rintro s5 out ⟨z5, rfl, hz5, hp5, e5⟩
    refine ⟨_, rfl, ?_⟩
    rw [e5]
    unfold i32 at hz5
    clear hp5
    show wr (d + 141) tb_M71 101 [(5, vi l5), (4, vi l4), (3, vi l3), (2, vi l2), (0, .ref 131), (1, vi l1)] [vi z5] s3 _
    refine wr_lsw rfl (by decide) fun off hoff => ?_
    have hoff2 : off = 43 ∨ off = 110 ∨ off = 187 ∨ off = 316 := by simp at hoff; omega
    clear hoff
    rcases hoff2 with rfl | rfl | rfl | rfl
    · refine ⟨144, rfl, ?_⟩
      refine wr_n (pc2 := 147) (lv2 := [(5, vi l5), (4, vi l4), (3, vi l3), (2, vi l2), (0, .ref 131), (1, vi l1)]) (st2 := [vi l2, vi l3, .ref 131]) 3 (fun _ _ => rfl) ?_
      refine wr_call1T (args := [vi l3, vi l2]) (rest := []) rfl rfl rfl rfl (Nat.le_of_ble_eq_true rfl) rfl (cr_mono (k_target (d := d + 139) (C := C) hC (x := l3) (y := l2) s3 hK3 hq3 (by omega) (by omega)) ?_)
      rintro s6 out ⟨hK6, hY6, ⟨z6, hc6, rfl, hz6, hp6⟩ | ⟨rfl, hc6⟩⟩
      · refine .inl ⟨_, rfl, ?_⟩
        have hX6 : FX s0.1 s6.1 := FX_tr hX3 hY6
        have hC6 : s6.2 = s0.2 := hc6.trans hC3
        have hq6 : s6.1 131 1 = (C : Int) := (hY6 131 1 (by unfold fx; omega)).trans hq3
        unfold i32 at hz6
        clear hp6
        show wr (d + 141) tb_M71 150 [(5, vi l5), (4, vi l4), (3, vi l3), (2, vi l2), (0, .ref 131), (1, vi l1)] [vi z6] s6 _
        refine wr_n (pc2 := 153) (lv2 := [(6, vi z6), (5, vi l5), (4, vi l4), (3, vi l3), (2, vi l2), (0, .ref 131), (1, vi l1)]) (st2 := [.ref 131]) 2 (fun _ _ => rfl) ?_
        refine wr_get (v := .ref 137) rfl rfl rfl (by decide) (rv_ref (hK6.1 131 0 137 rfl)) fun h7 => ?_
        show wr (d + 141) tb_M71 156 [(6, vi z6), (5, vi l5), (4, vi l4), (3, vi l3), (2, vi l2), (0, .ref 131), (1, vi l1)] [.ref 137] s6 _
        refine wr_call1 (args := []) (rest := []) rfl rfl rfl rfl (Nat.le_of_ble_eq_true rfl) (cr_mono (k_kind (d := d + 140) s6 hK6) ?_)
        rintro s8 out ⟨z8, rfl, hz8, hp8, e8⟩
        refine ⟨_, rfl, ?_⟩
        rw [e8]
        unfold i32 at hz8
        clear hp8
        show wr (d + 141) tb_M71 159 [(6, vi z6), (5, vi l5), (4, vi l4), (3, vi l3), (2, vi l2), (0, .ref 131), (1, vi l1)] [vi z8] s6 _
        refine wr_n (pc2 := 161) (lv2 := [(6, vi z6), (5, vi l5), (4, vi l4), (3, vi l3), (2, vi l2), (0, .ref 131), (1, vi l1)]) (st2 := [vi 91, vi z8]) 1 (fun _ _ => rfl) ?_
        by_cases h9 : z8 ≠ 91
        · refine wr_if2t rfl rfl (by unfold i32; omega) (by unfold i32; omega) h9 ?_
          refine wr_n (pc2 := 173) (lv2 := [(6, vi z6), (5, vi l5), (4, vi l4), (3, vi l3), (2, vi l2), (0, .ref 131), (1, vi l1)]) (st2 := [vi ((-1))]) 1 (fun _ _ => rfl) ?_
          exact k_namedStatement_173 hC z6 l5 l4 l3 l2 l1 ((-1)) s6 hK6 hq6 hX6 hC6 (by omega) (by omega) (by omega) (by omega) (by omega) (by omega) (by omega)  
        · refine wr_if2f rfl rfl (by unfold i32; omega) (by unfold i32; omega) h9 ?_
          refine wr_n (pc2 := 166) (lv2 := [(6, vi z6), (5, vi l5), (4, vi l4), (3, vi l3), (2, vi l2), (0, .ref 131), (1, vi l1)]) (st2 := [vi l1, .ref 131]) 2 (fun _ _ => rfl) ?_
          refine wr_call1T (args := [vi l1]) (rest := []) rfl rfl rfl rfl (Nat.le_of_ble_eq_true rfl) rfl (cr_mono (cr_up (by omega) ((k_KE 21).2.2.2.1 C s6 l1 hC hK6 hq6 (by omega))) ?_)
          rintro s10 out ⟨hK10, hY10, ⟨z10, hc10, rfl, hz10, hp10⟩ | ⟨rfl, hc10⟩⟩
          · refine .inl ⟨_, rfl, ?_⟩
            have hX10 : FX s0.1 s10.1 := FX_tr hX6 hY10
            have hC10 : s10.2 = s0.2 := hc10.trans hC6
            have hq10 : s10.1 131 1 = (C : Int) := (hY10 131 1 (by unfold fx; omega)).trans hq6
            unfold i32 at hz10
            clear hp10
            show wr (d + 141) tb_M71 169 [(6, vi z6), (5, vi l5), (4, vi l4), (3, vi l3), (2, vi l2), (0, .ref 131), (1, vi l1)] [vi z10] s10 _
            refine wr_n (pc2 := 173) (lv2 := [(6, vi z6), (5, vi l5), (4, vi l4), (3, vi l3), (2, vi l2), (0, .ref 131), (1, vi l1)]) (st2 := [vi z10]) 1 (fun _ _ => rfl) ?_
            exact k_namedStatement_173 hC z6 l5 l4 l3 l2 l1 z10 s10 hK10 hq10 hX10 hC10 (by omega) (by omega) (by omega) (by omega) (by omega) (by omega) (by omega)  
          · refine .inr ⟨rfl, ?_⟩
            exact ⟨hK10, (FX_tr hX6 hY10), .inr ⟨rfl, TH hC6 hc10⟩⟩
      · refine .inr ⟨rfl, ?_⟩
        exact ⟨hK6, (FX_tr hX3 hY6), .inr ⟨rfl, TH hC3 hc6⟩⟩
    · refine ⟨211, rfl, ?_⟩
      refine wr_n (pc2 := 215) (lv2 := [(5, vi l5), (4, vi l4), (3, vi l3), (2, vi l2), (0, .ref 131), (1, vi l1)]) (st2 := [vi 2, vi l4, .ref 131]) 3 (fun _ _ => rfl) ?_
      by_cases h11 : l4 = 2
      · refine wr_if2t rfl rfl (by unfold i32; omega) (by unfold i32; omega) h11 ?_
        refine wr_n (pc2 := 229) (lv2 := [(5, vi l5), (4, vi l4), (3, vi l3), (2, vi l2), (0, .ref 131), (1, vi l1)]) (st2 := [vi 1, .ref 131]) 2 (fun _ _ => rfl) ?_
        exact k_namedStatement_229 hC l5 l4 l3 l2 l1 1 s3 hK3 hq3 hX3 hC3 (by omega) (by omega) (by omega) (by omega) (by omega) (by omega)  
      · refine wr_if2f rfl rfl (by unfold i32; omega) (by unfold i32; omega) h11 ?_
        refine wr_n (pc2 := 221) (lv2 := [(5, vi l5), (4, vi l4), (3, vi l3), (2, vi l2), (0, .ref 131), (1, vi l1)]) (st2 := [vi 4, vi l4, .ref 131]) 2 (fun _ _ => rfl) ?_
        by_cases h12 : l4 ≠ 4
        · refine wr_if2t rfl rfl (by unfold i32; omega) (by unfold i32; omega) h12 ?_
          refine wr_n (pc2 := 229) (lv2 := [(5, vi l5), (4, vi l4), (3, vi l3), (2, vi l2), (0, .ref 131), (1, vi l1)]) (st2 := [vi 0, .ref 131]) 1 (fun _ _ => rfl) ?_
          exact k_namedStatement_229 hC l5 l4 l3 l2 l1 0 s3 hK3 hq3 hX3 hC3 (by omega) (by omega) (by omega) (by omega) (by omega) (by omega)  
        · refine wr_if2f rfl rfl (by unfold i32; omega) (by unfold i32; omega) h12 ?_
          refine wr_n (pc2 := 229) (lv2 := [(5, vi l5), (4, vi l4), (3, vi l3), (2, vi l2), (0, .ref 131), (1, vi l1)]) (st2 := [vi 1, .ref 131]) 2 (fun _ _ => rfl) ?_
          exact k_namedStatement_229 hC l5 l4 l3 l2 l1 1 s3 hK3 hq3 hX3 hC3 (by omega) (by omega) (by omega) (by omega) (by omega) (by omega)  
    · refine ⟨288, rfl, ?_⟩
      refine wr_n (pc2 := 292) (lv2 := [(5, vi l5), (4, vi l4), (3, vi l3), (2, vi l2), (0, .ref 131), (1, vi l1)]) (st2 := [vi 2, vi l4, .ref 131]) 3 (fun _ _ => rfl) ?_
      by_cases h13 : l4 = 2
      · refine wr_if2t rfl rfl (by unfold i32; omega) (by unfold i32; omega) h13 ?_
        refine wr_n (pc2 := 306) (lv2 := [(5, vi l5), (4, vi l4), (3, vi l3), (2, vi l2), (0, .ref 131), (1, vi l1)]) (st2 := [vi 1, .ref 131]) 2 (fun _ _ => rfl) ?_
        exact k_namedStatement_306 hC l5 l4 l3 l2 l1 1 s3 hK3 hq3 hX3 hC3 (by omega) (by omega) (by omega) (by omega) (by omega) (by omega)  
      · refine wr_if2f rfl rfl (by unfold i32; omega) (by unfold i32; omega) h13 ?_
        refine wr_n (pc2 := 298) (lv2 := [(5, vi l5), (4, vi l4), (3, vi l3), (2, vi l2), (0, .ref 131), (1, vi l1)]) (st2 := [vi 3, vi l4, .ref 131]) 2 (fun _ _ => rfl) ?_
        by_cases h14 : l4 ≠ 3
        · refine wr_if2t rfl rfl (by unfold i32; omega) (by unfold i32; omega) h14 ?_
          refine wr_n (pc2 := 306) (lv2 := [(5, vi l5), (4, vi l4), (3, vi l3), (2, vi l2), (0, .ref 131), (1, vi l1)]) (st2 := [vi 0, .ref 131]) 1 (fun _ _ => rfl) ?_
          exact k_namedStatement_306 hC l5 l4 l3 l2 l1 0 s3 hK3 hq3 hX3 hC3 (by omega) (by omega) (by omega) (by omega) (by omega) (by omega)  
        · refine wr_if2f rfl rfl (by unfold i32; omega) (by unfold i32; omega) h14 ?_
          refine wr_n (pc2 := 306) (lv2 := [(5, vi l5), (4, vi l4), (3, vi l3), (2, vi l2), (0, .ref 131), (1, vi l1)]) (st2 := [vi 1, .ref 131]) 2 (fun _ _ => rfl) ?_
          exact k_namedStatement_306 hC l5 l4 l3 l2 l1 1 s3 hK3 hq3 hX3 hC3 (by omega) (by omega) (by omega) (by omega) (by omega) (by omega)  
    · refine ⟨417, rfl, ?_⟩
      refine wr_n (pc2 := 419) (lv2 := [(5, vi l5), (4, vi l4), (3, vi l3), (2, vi l2), (0, .ref 131), (1, vi l1)]) (st2 := [.ref 131, .ref 131]) 2 (fun _ _ => rfl) ?_
      refine wr_get (v := .ref 137) rfl rfl rfl (by decide) (rv_ref (hK3.1 131 0 137 rfl)) fun h15 => ?_
      show wr (d + 141) tb_M71 422 [(5, vi l5), (4, vi l4), (3, vi l3), (2, vi l2), (0, .ref 131), (1, vi l1)] [.ref 137, .ref 131] s3 _
      refine wr_call1 (args := []) (rest := [.ref 131]) rfl rfl rfl rfl (Nat.le_of_ble_eq_true rfl) (cr_mono (k_kind (d := d + 140) s3 hK3) ?_)
      rintro s16 out ⟨z16, rfl, hz16, hp16, e16⟩
      refine ⟨_, rfl, ?_⟩
      rw [e16]
      unfold i32 at hz16
      clear hp16
      show wr (d + 141) tb_M71 425 [(5, vi l5), (4, vi l4), (3, vi l3), (2, vi l2), (0, .ref 131), (1, vi l1)] [vi z16, .ref 131] s3 _
      refine wr_n (pc2 := 427) (lv2 := [(5, vi l5), (4, vi l4), (3, vi l3), (2, vi l2), (0, .ref 131), (1, vi l1)]) (st2 := [vi 40, vi z16, .ref 131]) 1 (fun _ _ => rfl) ?_
      by_cases h17 : z16 ≠ 40
      · refine wr_if2t rfl rfl (by unfold i32; omega) (by unfold i32; omega) h17 ?_
        refine wr_n (pc2 := 436) (lv2 := [(5, vi l5), (4, vi l4), (3, vi l3), (2, vi l2), (0, .ref 131), (1, vi l1)]) (st2 := [.ref 131, vi 0, .ref 131]) 2 (fun _ _ => rfl) ?_
        refine wr_get (v := .ref 137) rfl rfl rfl (by decide) (rv_ref (hK3.1 131 0 137 rfl)) fun h18 => ?_
        show wr (d + 141) tb_M71 439 [(5, vi l5), (4, vi l4), (3, vi l3), (2, vi l2), (0, .ref 131), (1, vi l1)] [.ref 137, vi 0, .ref 131] s3 _
        refine wr_call1 (args := []) (rest := [vi 0, .ref 131]) rfl rfl rfl rfl (Nat.le_of_ble_eq_true rfl) (cr_mono (k_place (d := d + 140) s3 hK3) ?_)
        rintro s19 out ⟨z19, rfl, hz19, hp19, e19⟩
        refine ⟨_, rfl, ?_⟩
        rw [e19]
        unfold i32 at hz19
        clear hp19
        show wr (d + 141) tb_M71 442 [(5, vi l5), (4, vi l4), (3, vi l3), (2, vi l2), (0, .ref 131), (1, vi l1)] [vi z19, vi 0, .ref 131] s3 _
        refine wr_call1T (args := [vi 0, vi z19]) (rest := []) rfl rfl rfl rfl (Nat.le_of_ble_eq_true rfl) rfl (cr_mono (k_check (d := d + 140) (x := 0) (y := z19) s3 hK3 (by omega) (by omega)) ?_)
        rintro s20 out (⟨e20, hr20, rfl⟩ | ⟨hK20, hY20, rfl, hc20⟩)
        · exact absurd rfl hr20
        · refine .inr ⟨rfl, ?_⟩
          exact ⟨hK20, (FX_tr hX3 hY20), .inr ⟨rfl, TH hC3 hc20⟩⟩
      · refine wr_if2f rfl rfl (by unfold i32; omega) (by unfold i32; omega) h17 ?_
        refine wr_n (pc2 := 436) (lv2 := [(5, vi l5), (4, vi l4), (3, vi l3), (2, vi l2), (0, .ref 131), (1, vi l1)]) (st2 := [.ref 131, vi 1, .ref 131]) 3 (fun _ _ => rfl) ?_
        refine wr_get (v := .ref 137) rfl rfl rfl (by decide) (rv_ref (hK3.1 131 0 137 rfl)) fun h21 => ?_
        show wr (d + 141) tb_M71 439 [(5, vi l5), (4, vi l4), (3, vi l3), (2, vi l2), (0, .ref 131), (1, vi l1)] [.ref 137, vi 1, .ref 131] s3 _
        refine wr_call1 (args := []) (rest := [vi 1, .ref 131]) rfl rfl rfl rfl (Nat.le_of_ble_eq_true rfl) (cr_mono (k_place (d := d + 140) s3 hK3) ?_)
        rintro s22 out ⟨z22, rfl, hz22, hp22, e22⟩
        refine ⟨_, rfl, ?_⟩
        rw [e22]
        unfold i32 at hz22
        clear hp22
        show wr (d + 141) tb_M71 442 [(5, vi l5), (4, vi l4), (3, vi l3), (2, vi l2), (0, .ref 131), (1, vi l1)] [vi z22, vi 1, .ref 131] s3 _
        refine wr_call1T (args := [vi 1, vi z22]) (rest := []) rfl rfl rfl rfl (Nat.le_of_ble_eq_true rfl) rfl (cr_mono (k_check (d := d + 140) (x := 1) (y := z22) s3 hK3 (by omega) (by omega)) ?_)
        rintro s23 out (⟨e23, hr23, rfl⟩ | ⟨hK23, hY23, rfl, hc23⟩)
        · refine .inl ⟨_, rfl, ?_⟩
          rw [e23]
          show wr (d + 141) tb_M71 445 [(5, vi l5), (4, vi l4), (3, vi l3), (2, vi l2), (0, .ref 131), (1, vi l1)] [] s3 _
          refine wr_n (pc2 := 449) (lv2 := [(5, vi l5), (4, vi l4), (3, vi l3), (2, vi l2), (0, .ref 131), (1, vi l1)]) (st2 := [vi 5, vi l4, .ref 131]) 3 (fun _ _ => rfl) ?_
          by_cases h24 : l4 ≠ 5
          · refine wr_if2t rfl rfl (by unfold i32; omega) (by unfold i32; omega) h24 ?_
            refine wr_n (pc2 := 458) (lv2 := [(5, vi l5), (4, vi l4), (3, vi l3), (2, vi l2), (0, .ref 131), (1, vi l1)]) (st2 := [vi l2, vi 0, .ref 131]) 2 (fun _ _ => rfl) ?_
            refine wr_call1T (args := [vi 0, vi l2]) (rest := []) rfl rfl rfl rfl (Nat.le_of_ble_eq_true rfl) rfl (cr_mono (k_check (d := d + 140) (x := 0) (y := l2) s3 hK3 (by omega) (by omega)) ?_)
            rintro s25 out (⟨e25, hr25, rfl⟩ | ⟨hK25, hY25, rfl, hc25⟩)
            · exact absurd rfl hr25
            · refine .inr ⟨rfl, ?_⟩
              exact ⟨hK25, (FX_tr hX3 hY25), .inr ⟨rfl, TH hC3 hc25⟩⟩
          · refine wr_if2f rfl rfl (by unfold i32; omega) (by unfold i32; omega) h24 ?_
            refine wr_n (pc2 := 458) (lv2 := [(5, vi l5), (4, vi l4), (3, vi l3), (2, vi l2), (0, .ref 131), (1, vi l1)]) (st2 := [vi l2, vi 1, .ref 131]) 3 (fun _ _ => rfl) ?_
            refine wr_call1T (args := [vi 1, vi l2]) (rest := []) rfl rfl rfl rfl (Nat.le_of_ble_eq_true rfl) rfl (cr_mono (k_check (d := d + 140) (x := 1) (y := l2) s3 hK3 (by omega) (by omega)) ?_)
            rintro s26 out (⟨e26, hr26, rfl⟩ | ⟨hK26, hY26, rfl, hc26⟩)
            · refine .inl ⟨_, rfl, ?_⟩
              rw [e26]
              show wr (d + 141) tb_M71 461 [(5, vi l5), (4, vi l4), (3, vi l3), (2, vi l2), (0, .ref 131), (1, vi l1)] [] s3 _
              refine wr_n (pc2 := 463) (lv2 := [(5, vi l5), (4, vi l4), (3, vi l3), (2, vi l2), (0, .ref 131), (1, vi l1)]) (st2 := [.ref 131, .ref 131]) 2 (fun _ _ => rfl) ?_
              refine wr_get (v := .ref C) rfl rfl rfl (by decide) (rv_ref (show (s3.1) 131 1 = ((C : Nat) : Int) from hq3)) fun h27 => ?_
              show wr (d + 141) tb_M71 466 [(5, vi l5), (4, vi l4), (3, vi l3), (2, vi l2), (0, .ref 131), (1, vi l1)] [.ref C, .ref 131] s3 _
              refine wr_get (v := .ref (C + 6)) rfl rfl (TK0 hC) (by decide) (rv_ref (hK3.1 C 5 (C + 6) (rcK hC (by omega)))) fun h28 => ?_
              show wr (d + 141) tb_M71 469 [(5, vi l5), (4, vi l4), (3, vi l3), (2, vi l2), (0, .ref 131), (1, vi l1)] [.ref (C + 6), .ref 131] s3 _
              refine wr_n (pc2 := 470) (lv2 := [(5, vi l5), (4, vi l4), (3, vi l3), (2, vi l2), (0, .ref 131), (1, vi l1)]) (st2 := [vi l3, .ref (C + 6), .ref 131]) 1 (fun _ _ => rfl) ?_
              refine wr_call1 (args := [vi l3]) (rest := [.ref 131]) rfl rfl rfl (TK6 hC) (Nat.le_of_ble_eq_true rfl) (cr_mono (k_nnumber (d := d + 140) (C := C) hC (x := l3) s3 hK3 (by omega)) ?_)
              rintro s29 out ⟨z29, rfl, hz29, hp29, e29⟩
              refine ⟨_, rfl, ?_⟩
              rw [e29]
              unfold i32 at hz29
              clear hp29
              show wr (d + 141) tb_M71 473 [(5, vi l5), (4, vi l4), (3, vi l3), (2, vi l2), (0, .ref 131), (1, vi l1)] [vi z29, .ref 131] s3 _
              refine wr_n (pc2 := 475) (lv2 := [(5, vi l5), (4, vi l4), (3, vi l3), (2, vi l2), (0, .ref 131), (1, vi l1)]) (st2 := [vi l1, vi l2, vi z29, .ref 131]) 2 (fun _ _ => rfl) ?_
              refine wr_call1T (args := [vi z29, vi l2, vi l1]) (rest := []) rfl rfl rfl rfl (Nat.le_of_ble_eq_true rfl) rfl (cr_mono (cr_up (by omega) ((k_KE 21).2.2.2.2 C s3 z29 l2 l1 hC hK3 hq3 (by omega) (by omega) (by omega))) ?_)
              rintro s30 out ⟨hK30, hY30, ⟨z30, hc30, rfl, hz30, hp30⟩ | ⟨rfl, hc30⟩⟩
              · refine .inl ⟨_, rfl, ?_⟩
                have hX30 : FX s0.1 s30.1 := FX_tr hX3 hY30
                have hC30 : s30.2 = s0.2 := hc30.trans hC3
                have hq30 : s30.1 131 1 = (C : Int) := (hY30 131 1 (by unfold fx; omega)).trans hq3
                unfold i32 at hz30
                clear hp30
                show wr (d + 141) tb_M71 478 [(5, vi l5), (4, vi l4), (3, vi l3), (2, vi l2), (0, .ref 131), (1, vi l1)] [vi z30] s30 _
                refine wr_n (pc2 := 483) (lv2 := [(14, vi z30), (5, vi l5), (4, vi l4), (3, vi l3), (2, vi l2), (0, .ref 131), (1, vi l1)]) (st2 := [vi 59, .ref 131]) 3 (fun _ _ => rfl) ?_
                refine wr_call1T (args := [vi 59]) (rest := []) rfl rfl rfl rfl (Nat.le_of_ble_eq_true rfl) rfl (cr_mono (k_expect (d := d + 139) (x := 59) s30 hK30 (by omega)) ?_)
                rintro s31 out ⟨hK31, hY31, ⟨hc31, rfl⟩ | ⟨rfl, hc31⟩⟩
                · refine .inl ⟨_, rfl, ?_⟩
                  have hX31 : FX s0.1 s31.1 := FX_tr hX30 hY31
                  have hC31 : s31.2 = s0.2 := hc31.trans hC30
                  have hq31 : s31.1 131 1 = (C : Int) := (hY31 131 1 (by unfold fx; omega)).trans hq30
                  show wr (d + 141) tb_M71 486 [(14, vi z30), (5, vi l5), (4, vi l4), (3, vi l3), (2, vi l2), (0, .ref 131), (1, vi l1)] [] s31 _
                  refine wr_n (pc2 := 488) (lv2 := [(14, vi z30), (5, vi l5), (4, vi l4), (3, vi l3), (2, vi l2), (0, .ref 131), (1, vi l1)]) (st2 := [vi z30]) 1 (fun _ _ => rfl) ?_
                  refine wr_reti rfl rfl ?_
                  exact ⟨hK31, hX31, .inl ⟨z30, hC31, rfl, by unfold i32; omega, trivial⟩⟩
                · refine .inr ⟨rfl, ?_⟩
                  exact ⟨hK31, (FX_tr hX30 hY31), .inr ⟨rfl, TH hC30 hc31⟩⟩
              · refine .inr ⟨rfl, ?_⟩
                exact ⟨hK30, (FX_tr hX3 hY30), .inr ⟨rfl, TH hC3 hc30⟩⟩
            · refine .inr ⟨rfl, ?_⟩
              exact ⟨hK26, (FX_tr hX3 hY26), .inr ⟨rfl, TH hC3 hc26⟩⟩
        · refine .inr ⟨rfl, ?_⟩
          exact ⟨hK23, (FX_tr hX3 hY23), .inr ⟨rfl, TH hC3 hc23⟩⟩
  · refine .inr ⟨rfl, ?_⟩
    exact ⟨hK1, (FX_tr hX hY1), .inr ⟨rfl, TH hc hc1⟩⟩
set_option maxHeartbeats 20000000 in
set_option maxRecDepth 100000 in
theorem k_namedStatement_55 {d : Nat} {s0 : rS} {C : Nat} (hC : C = 99 ∨ C = 115)  (l4 : Int) (l3 : Int) (l2 : Int) (l1 : Int) (k0 : Int) (s : rS) (hK : KI s.1) (hq : s.1 131 1 = (C : Int)) (hX : FX s0.1 s.1) (hc : s.2 = s0.2) (hl4 : (-2147483648) ≤ l4 ∧ l4 ≤ 2147483647) (hl3 : (-2147483648) ≤ l3 ∧ l3 ≤ 2147483647) (hl2 : (-2147483648) ≤ l2 ∧ l2 ≤ 2147483647) (hl1 : 0 ≤ l1 ∧ l1 ≤ 20) (hk0 : 0 ≤ k0 ∧ k0 ≤ 1)   : wr (d + 141) tb_M71 55 [(4, vi l4), (3, vi l3), (2, vi l2), (0, .ref 131), (1, vi l1)] [vi k0] s (TZ (fun z => True) s0) := by
  refine wr_n (pc2 := 62) (lv2 := [(5, vi k0), (4, vi l4), (3, vi l3), (2, vi l2), (0, .ref 131), (1, vi l1)]) (st2 := [vi 6, vi l4, .ref 131]) 4 (fun _ _ => rfl) ?_
  by_cases h1 : l4 = 6
  · refine wr_if2t rfl rfl (by unfold i32; omega) (by unfold i32; omega) h1 ?_
    refine wr_n (pc2 := 83) (lv2 := [(5, vi k0), (4, vi l4), (3, vi l3), (2, vi l2), (0, .ref 131), (1, vi l1)]) (st2 := [vi 0, .ref 131]) 1 (fun _ _ => rfl) ?_
    exact k_namedStatement_83 hC k0 l4 l3 l2 l1 0 s hK hq hX hc (by omega) (by omega) (by omega) (by omega) (by omega) (by omega)  
  · refine wr_if2f rfl rfl (by unfold i32; omega) (by unfold i32; omega) h1 ?_
    refine wr_n (pc2 := 67) (lv2 := [(5, vi k0), (4, vi l4), (3, vi l3), (2, vi l2), (0, .ref 131), (1, vi l1)]) (st2 := [vi k0, .ref 131]) 1 (fun _ _ => rfl) ?_
    by_cases h2 : k0 ≠ 0
    · refine wr_if1t rfl rfl (by unfold i32; omega) h2 ?_
      refine wr_n (pc2 := 83) (lv2 := [(5, vi k0), (4, vi l4), (3, vi l3), (2, vi l2), (0, .ref 131), (1, vi l1)]) (st2 := [vi 0, .ref 131]) 1 (fun _ _ => rfl) ?_
      exact k_namedStatement_83 hC k0 l4 l3 l2 l1 0 s hK hq hX hc (by omega) (by omega) (by omega) (by omega) (by omega) (by omega)  
    · refine wr_if1f rfl rfl (by unfold i32; omega) h2 ?_
      refine wr_n (pc2 := 72) (lv2 := [(5, vi k0), (4, vi l4), (3, vi l3), (2, vi l2), (0, .ref 131), (1, vi l1)]) (st2 := [.ref 131, vi l3, .ref 131]) 2 (fun _ _ => rfl) ?_
      refine wr_get (v := vi (s.1 131 14)) rfl rfl rfl (by decide) rfl fun h3 => ?_
      have h3 : -2147483648 ≤ s.1 131 14 ∧ s.1 131 14 ≤ 2147483647 := h3
      show wr (d + 141) tb_M71 75 [(5, vi k0), (4, vi l4), (3, vi l3), (2, vi l2), (0, .ref 131), (1, vi l1)] [vi (s.1 131 14), vi l3, .ref 131] s _
      by_cases h4 : l3 < s.1 131 14
      · refine wr_if2t rfl rfl (by unfold i32; omega) (by unfold i32; omega) h4 ?_
        refine wr_n (pc2 := 83) (lv2 := [(5, vi k0), (4, vi l4), (3, vi l3), (2, vi l2), (0, .ref 131), (1, vi l1)]) (st2 := [vi 0, .ref 131]) 1 (fun _ _ => rfl) ?_
        exact k_namedStatement_83 hC k0 l4 l3 l2 l1 0 s hK hq hX hc (by omega) (by omega) (by omega) (by omega) (by omega) (by omega)  
      · refine wr_if2f rfl rfl (by unfold i32; omega) (by unfold i32; omega) h4 ?_
        refine wr_n (pc2 := 83) (lv2 := [(5, vi k0), (4, vi l4), (3, vi l3), (2, vi l2), (0, .ref 131), (1, vi l1)]) (st2 := [vi 1, .ref 131]) 2 (fun _ _ => rfl) ?_
        exact k_namedStatement_83 hC k0 l4 l3 l2 l1 1 s hK hq hX hc (by omega) (by omega) (by omega) (by omega) (by omega) (by omega)  
set_option maxHeartbeats 20000000 in
set_option maxRecDepth 100000 in
theorem k_namedStatement {d : Nat} {C : Nat} (hC : C = 99 ∨ C = 115)  {x : Int} (s : rS) (hK : KI s.1) (hq : s.1 131 1 = (C : Int)) (hx : 0 ≤ x ∧ x ≤ 20)  : cr (d + 142) 71 [.ref 131, vi x] s (TZ (fun z => True) s) := by
  refine cr_of (M := tb_M71) rfl (Nat.le_of_ble_eq_true rfl) ?_
  show wr (d + 141) tb_M71 0 [(0, .ref 131), (1, vi x)] [] s _
  refine wr_n (pc2 := 1) (lv2 := [(0, .ref 131), (1, vi x)]) (st2 := [.ref 131]) 1 (fun _ _ => rfl) ?_
  refine wr_get (v := .ref 137) rfl rfl rfl (by decide) (rv_ref (hK.1 131 0 137 rfl)) fun h1 => ?_
  show wr (d + 141) tb_M71 4 [(0, .ref 131), (1, vi x)] [.ref 137] s _
  refine wr_call1 (args := []) (rest := []) rfl rfl rfl rfl (Nat.le_of_ble_eq_true rfl) (cr_mono (k_place (d := d + 140) s hK) ?_)
  rintro s2 out ⟨z2, rfl, hz2, hp2, e2⟩
  refine ⟨_, rfl, ?_⟩
  rw [e2]
  unfold i32 at hz2
  clear hp2
  show wr (d + 141) tb_M71 7 [(0, .ref 131), (1, vi x)] [vi z2] s _
  refine wr_n (pc2 := 9) (lv2 := [(2, vi z2), (0, .ref 131), (1, vi x)]) (st2 := [.ref 131]) 2 (fun _ _ => rfl) ?_
  refine wr_call1T (args := []) (rest := []) rfl rfl rfl rfl (Nat.le_of_ble_eq_true rfl) rfl (cr_mono (k_meaning (d := d + 139) (C := C) hC s hK hq) ?_)
  rintro s3 out ⟨hK3, hY3, ⟨z3, hc3, rfl, hz3, hp3⟩ | ⟨rfl, hc3⟩⟩
  · refine .inl ⟨_, rfl, ?_⟩
    have hX3 : FX s.1 s3.1 := FX_tr FX_rf hY3
    have hC3 : s3.2 = s.2 := hc3.trans rfl
    have hq3 : s3.1 131 1 = (C : Int) := (hY3 131 1 (by unfold fx; omega)).trans hq
    unfold i32 at hz3
    clear hp3
    show wr (d + 141) tb_M71 12 [(2, vi z2), (0, .ref 131), (1, vi x)] [vi z3] s3 _
    refine wr_n (pc2 := 14) (lv2 := [(3, vi z3), (2, vi z2), (0, .ref 131), (1, vi x)]) (st2 := [.ref 131]) 2 (fun _ _ => rfl) ?_
    refine wr_get (v := .ref C) rfl rfl rfl (by decide) (rv_ref (show (s3.1) 131 1 = ((C : Nat) : Int) from hq3)) fun h4 => ?_
    show wr (d + 141) tb_M71 17 [(3, vi z3), (2, vi z2), (0, .ref 131), (1, vi x)] [.ref C] s3 _
    refine wr_get (v := .ref (C + 6)) rfl rfl (TK0 hC) (by decide) (rv_ref (hK3.1 C 5 (C + 6) (rcK hC (by omega)))) fun h5 => ?_
    show wr (d + 141) tb_M71 20 [(3, vi z3), (2, vi z2), (0, .ref 131), (1, vi x)] [.ref (C + 6)] s3 _
    refine wr_n (pc2 := 21) (lv2 := [(3, vi z3), (2, vi z2), (0, .ref 131), (1, vi x)]) (st2 := [vi z3, .ref (C + 6)]) 1 (fun _ _ => rfl) ?_
    refine wr_call1 (args := [vi z3]) (rest := []) rfl rfl rfl (TK6 hC) (Nat.le_of_ble_eq_true rfl) (cr_mono (k_nkind (d := d + 140) (C := C) hC (x := z3) s3 hK3 (by omega)) ?_)
    rintro s6 out ⟨z6, rfl, hz6, hp6, e6⟩
    refine ⟨_, rfl, ?_⟩
    rw [e6]
    unfold i32 at hz6
    clear hp6
    show wr (d + 141) tb_M71 24 [(3, vi z3), (2, vi z2), (0, .ref 131), (1, vi x)] [vi z6] s3 _
    refine wr_n (pc2 := 29) (lv2 := [(4, vi z6), (3, vi z3), (2, vi z2), (0, .ref 131), (1, vi x)]) (st2 := [vi 5, vi z6]) 3 (fun _ _ => rfl) ?_
    by_cases h7 : z6 ≠ 5
    · refine wr_if2t rfl rfl (by unfold i32; omega) (by unfold i32; omega) h7 ?_
      refine wr_n (pc2 := 55) (lv2 := [(4, vi z6), (3, vi z3), (2, vi z2), (0, .ref 131), (1, vi x)]) (st2 := [vi 0]) 1 (fun _ _ => rfl) ?_
      exact k_namedStatement_55 hC z6 z3 z2 x 0 s3 hK3 hq3 hX3 hC3 (by omega) (by omega) (by omega) (by omega) (by omega)  
    · refine wr_if2f rfl rfl (by unfold i32; omega) (by unfold i32; omega) h7 ?_
      refine wr_n (pc2 := 33) (lv2 := [(4, vi z6), (3, vi z3), (2, vi z2), (0, .ref 131), (1, vi x)]) (st2 := [.ref 131]) 1 (fun _ _ => rfl) ?_
      refine wr_get (v := .ref C) rfl rfl rfl (by decide) (rv_ref (show (s3.1) 131 1 = ((C : Nat) : Int) from hq3)) fun h8 => ?_
      show wr (d + 141) tb_M71 36 [(4, vi z6), (3, vi z3), (2, vi z2), (0, .ref 131), (1, vi x)] [.ref C] s3 _
      refine wr_get (v := .ref (C + 6)) rfl rfl (TK0 hC) (by decide) (rv_ref (hK3.1 C 5 (C + 6) (rcK hC (by omega)))) fun h9 => ?_
      show wr (d + 141) tb_M71 39 [(4, vi z6), (3, vi z3), (2, vi z2), (0, .ref 131), (1, vi x)] [.ref (C + 6)] s3 _
      refine wr_n (pc2 := 40) (lv2 := [(4, vi z6), (3, vi z3), (2, vi z2), (0, .ref 131), (1, vi x)]) (st2 := [vi z3, .ref (C + 6)]) 1 (fun _ _ => rfl) ?_
      refine wr_call1 (args := [vi z3]) (rest := []) rfl rfl rfl (TK6 hC) (Nat.le_of_ble_eq_true rfl) (cr_mono (k_nnumber (d := d + 140) (C := C) hC (x := z3) s3 hK3 (by omega)) ?_)
      rintro s10 out ⟨z10, rfl, hz10, hp10, e10⟩
      refine ⟨_, rfl, ?_⟩
      rw [e10]
      unfold i32 at hz10
      clear hp10
      show wr (d + 141) tb_M71 43 [(4, vi z6), (3, vi z3), (2, vi z2), (0, .ref 131), (1, vi x)] [vi z10] s3 _
      refine wr_n (pc2 := 44) (lv2 := [(4, vi z6), (3, vi z3), (2, vi z2), (0, .ref 131), (1, vi x)]) (st2 := [.ref 131, vi z10]) 1 (fun _ _ => rfl) ?_
      refine wr_get (v := vi (s3.1 131 13)) rfl rfl rfl (by decide) rfl fun h11 => ?_
      have h11 : -2147483648 ≤ s3.1 131 13 ∧ s3.1 131 13 ≤ 2147483647 := h11
      show wr (d + 141) tb_M71 47 [(4, vi z6), (3, vi z3), (2, vi z2), (0, .ref 131), (1, vi x)] [vi (s3.1 131 13), vi z10] s3 _
      by_cases h12 : z10 ≠ s3.1 131 13
      · refine wr_if2t rfl rfl (by unfold i32; omega) (by unfold i32; omega) h12 ?_
        refine wr_n (pc2 := 55) (lv2 := [(4, vi z6), (3, vi z3), (2, vi z2), (0, .ref 131), (1, vi x)]) (st2 := [vi 0]) 1 (fun _ _ => rfl) ?_
        exact k_namedStatement_55 hC z6 z3 z2 x 0 s3 hK3 hq3 hX3 hC3 (by omega) (by omega) (by omega) (by omega) (by omega)  
      · refine wr_if2f rfl rfl (by unfold i32; omega) (by unfold i32; omega) h12 ?_
        refine wr_n (pc2 := 55) (lv2 := [(4, vi z6), (3, vi z3), (2, vi z2), (0, .ref 131), (1, vi x)]) (st2 := [vi 1]) 2 (fun _ _ => rfl) ?_
        exact k_namedStatement_55 hC z6 z3 z2 x 1 s3 hK3 hq3 hX3 hC3 (by omega) (by omega) (by omega) (by omega) (by omega)  
  · refine .inr ⟨rfl, ?_⟩
    exact ⟨hK3, (FX_tr FX_rf hY3), .inr ⟨rfl, TH rfl hc3⟩⟩
def JSt (n : Nat) : Prop := ∀ (C : Nat) (s : rS) (x : Int), (C = 99 ∨ C = 115) → KI s.1 → s.1 131 1 = (C : Int) → (0 ≤ x ∧ x ≤ 21 ∧ 21 - x < (n : Int)) → cr (4 * n + 150) 52 [.ref 131, vi x] s (TZ (fun z => True) s)
def JRw (n : Nat) : Prop := ∀ (C : Nat) (s : rS) (x y : Int), (C = 99 ∨ C = 115) → KI s.1 → s.1 131 1 = (C : Int) → (-2147483648 ≤ x ∧ x ≤ 2147483647) → (0 ≤ y ∧ y ≤ 20 ∧ 20 - y < (n : Int)) → cr (4 * n + 151) 51 [.ref 131, vi x, vi y] s (TZ (fun z => True) s)
def JBk (n : Nat) : Prop := ∀ (C : Nat) (s : rS) (x y : Int), (C = 99 ∨ C = 115) → KI s.1 → s.1 131 1 = (C : Int) → (0 ≤ x ∧ x ≤ 20 ∧ 20 - x < (n : Int)) → (-2147483648 ≤ y ∧ y ≤ 2147483647) → cr (4 * n + 152) 53 [.ref 131, vi x, vi y] s (TZ (fun z => True) s)
def JCh (n : Nat) : Prop := ∀ (C : Nat) (s : rS) (x : Int), (C = 99 ∨ C = 115) → KI s.1 → s.1 131 1 = (C : Int) → (0 ≤ x ∧ x ≤ 20 ∧ 20 - x < (n : Int)) → cr (4 * n + 151) 55 [.ref 131, vi x] s (TZ (fun z => True) s)
def JBr (n : Nat) : Prop := ∀ (C : Nat) (s : rS) (x : Int), (C = 99 ∨ C = 115) → KI s.1 → s.1 131 1 = (C : Int) → (0 ≤ x ∧ x ≤ 20 ∧ 20 - x < (n : Int)) → cr (4 * n + 151) 70 [.ref 131, vi x] s (TZ (fun z => True) s)
set_option maxHeartbeats 20000000 in
set_option maxRecDepth 100000 in
theorem k_row_8v2 {s0 : rS} {C : Nat} (hC : C = 99 ∨ C = 115) {n : Nat} (hSt : JSt n)  : ∀ (w : Nat) (l5 : Int) (l4 : Int) (l3 : Int) (l6 : Int) (l1 : Int) (l2 : Int) (s : rS), (2000 - l5).toNat = w → KI s.1 → s.1 131 1 = (C : Int) → FX s0.1 s.1 → s.2 = s0.2 → 0 ≤ l5 ∧ l5 ≤ 2000 → (-2147483648) ≤ l4 ∧ l4 ≤ 2147483647 → (-2147483648) ≤ l3 ∧ l3 ≤ 2147483647 → (-2147483648) ≤ l6 ∧ l6 ≤ 2147483647 → (-2147483648) ≤ l1 ∧ l1 ≤ 2147483647 → 0 ≤ l2 ∧ l2 ≤ 20 → 20 - l2 < (n : Int) → wr (4 * n + 150) tb_M51 8 [(5, vi l5), (4, vi l4), (3, vi l3), (6, vi l6), (0, .ref 131), (1, vi l1), (2, vi l2)] [] s (TZ (fun z => True) s0) := by
  intro w
  induction w using Nat.strongRecOn with | ind w ih => ?_
  intro l5 l4 l3 l6 l1 l2 s hw hK hq hX hc hl5 hl4 hl3 hl6 hl1 hl2 hx0
  refine wr_n (pc2 := 13) (lv2 := [(5, vi l5), (4, vi l4), (3, vi l3), (6, vi l6), (0, .ref 131), (1, vi l1), (2, vi l2)]) (st2 := [vi 2000, vi l5]) 2 (fun _ _ => rfl) ?_
  by_cases h1 : 2000 ≤ l5
  · refine wr_if2t rfl rfl (by unfold i32; omega) (by unfold i32; omega) h1 ?_
    refine wr_n (pc2 := 72) (lv2 := [(5, vi l5), (4, vi l4), (3, vi l3), (6, vi l6), (0, .ref 131), (1, vi l1), (2, vi l2)]) (st2 := [vi l4, .ref 131]) 2 (fun _ _ => rfl) ?_
    refine wr_put (z := l4) rfl rfl rfl rfl (by decide) rfl (by decide) rfl (show -2147483648 ≤ l4 ∧ l4 ≤ 2147483647 by omega) (hf_int' _) ?_
    show wr (4 * n + 150) tb_M51 75 [(5, vi l5), (4, vi l4), (3, vi l3), (6, vi l6), (0, .ref 131), (1, vi l1), (2, vi l2)] [] (up2 s.1 131 15 l4, s.2) _
    have hK2 : KI (up2 s.1 131 15 l4) := (KI_up hK rfl (kb_no rfl))
    refine wr_n (pc2 := 78) (lv2 := [(5, vi l5), (4, vi l4), (3, vi l3), (6, vi l6), (0, .ref 131), (1, vi l1), (2, vi l2)]) (st2 := [vi l5, .ref 131]) 2 (fun _ _ => rfl) ?_
    refine wr_put (z := l5) rfl rfl rfl rfl (by decide) rfl (by decide) rfl (show -2147483648 ≤ l5 ∧ l5 ≤ 2147483647 by omega) (hf_int' _) ?_
    show wr (4 * n + 150) tb_M51 81 [(5, vi l5), (4, vi l4), (3, vi l3), (6, vi l6), (0, .ref 131), (1, vi l1), (2, vi l2)] [] (up2 (up2 s.1 131 15 l4) 131 16 l5, s.2) _
    have hK3 : KI (up2 (up2 s.1 131 15 l4) 131 16 l5) := (KI_up (KI_up hK rfl (kb_no rfl)) rfl (kb_no rfl))
    refine wr_n (pc2 := 82) (lv2 := [(5, vi l5), (4, vi l4), (3, vi l3), (6, vi l6), (0, .ref 131), (1, vi l1), (2, vi l2)]) (st2 := [vi l3]) 1 (fun _ _ => rfl) ?_
    refine wr_reti rfl rfl ?_
    exact ⟨hK3, (FX_up (FX_up hX (by unfold fx; omega)) (by unfold fx; omega)), .inl ⟨l3, hc, rfl, by unfold i32; omega, trivial⟩⟩
  · refine wr_if2f rfl rfl (by unfold i32; omega) (by unfold i32; omega) h1 ?_
    refine wr_n (pc2 := 17) (lv2 := [(5, vi l5), (4, vi l4), (3, vi l3), (6, vi l6), (0, .ref 131), (1, vi l1), (2, vi l2)]) (st2 := [.ref 131]) 1 (fun _ _ => rfl) ?_
    refine wr_get (v := .ref 137) rfl rfl rfl (by decide) (rv_ref (hK.1 131 0 137 rfl)) fun h4 => ?_
    show wr (4 * n + 150) tb_M51 20 [(5, vi l5), (4, vi l4), (3, vi l3), (6, vi l6), (0, .ref 131), (1, vi l1), (2, vi l2)] [.ref 137] s _
    refine wr_call1 (args := []) (rest := []) rfl rfl rfl rfl (Nat.le_of_ble_eq_true rfl) (cr_mono (k_kind (d := 4 * n + 149) s hK) ?_)
    rintro s5 out ⟨z5, rfl, hz5, hp5, e5⟩
    refine ⟨_, rfl, ?_⟩
    rw [e5]
    unfold i32 at hz5
    clear hp5
    show wr (4 * n + 150) tb_M51 23 [(5, vi l5), (4, vi l4), (3, vi l3), (6, vi l6), (0, .ref 131), (1, vi l1), (2, vi l2)] [vi z5] s _
    refine wr_n (pc2 := 24) (lv2 := [(5, vi l5), (4, vi l4), (3, vi l3), (6, vi l6), (0, .ref 131), (1, vi l1), (2, vi l2)]) (st2 := [vi l1, vi z5]) 1 (fun _ _ => rfl) ?_
    by_cases h6 : z5 = l1
    · refine wr_if2t rfl rfl (by unfold i32; omega) (by unfold i32; omega) h6 ?_
      refine wr_n (pc2 := 72) (lv2 := [(5, vi l5), (4, vi l4), (3, vi l3), (6, vi l6), (0, .ref 131), (1, vi l1), (2, vi l2)]) (st2 := [vi l4, .ref 131]) 2 (fun _ _ => rfl) ?_
      refine wr_put (z := l4) rfl rfl rfl rfl (by decide) rfl (by decide) rfl (show -2147483648 ≤ l4 ∧ l4 ≤ 2147483647 by omega) (hf_int' _) ?_
      show wr (4 * n + 150) tb_M51 75 [(5, vi l5), (4, vi l4), (3, vi l3), (6, vi l6), (0, .ref 131), (1, vi l1), (2, vi l2)] [] (up2 s.1 131 15 l4, s.2) _
      have hK7 : KI (up2 s.1 131 15 l4) := (KI_up hK rfl (kb_no rfl))
      refine wr_n (pc2 := 78) (lv2 := [(5, vi l5), (4, vi l4), (3, vi l3), (6, vi l6), (0, .ref 131), (1, vi l1), (2, vi l2)]) (st2 := [vi l5, .ref 131]) 2 (fun _ _ => rfl) ?_
      refine wr_put (z := l5) rfl rfl rfl rfl (by decide) rfl (by decide) rfl (show -2147483648 ≤ l5 ∧ l5 ≤ 2147483647 by omega) (hf_int' _) ?_
      show wr (4 * n + 150) tb_M51 81 [(5, vi l5), (4, vi l4), (3, vi l3), (6, vi l6), (0, .ref 131), (1, vi l1), (2, vi l2)] [] (up2 (up2 s.1 131 15 l4) 131 16 l5, s.2) _
      have hK8 : KI (up2 (up2 s.1 131 15 l4) 131 16 l5) := (KI_up (KI_up hK rfl (kb_no rfl)) rfl (kb_no rfl))
      refine wr_n (pc2 := 82) (lv2 := [(5, vi l5), (4, vi l4), (3, vi l3), (6, vi l6), (0, .ref 131), (1, vi l1), (2, vi l2)]) (st2 := [vi l3]) 1 (fun _ _ => rfl) ?_
      refine wr_reti rfl rfl ?_
      exact ⟨hK8, (FX_up (FX_up hX (by unfold fx; omega)) (by unfold fx; omega)), .inl ⟨l3, hc, rfl, by unfold i32; omega, trivial⟩⟩
    · refine wr_if2f rfl rfl (by unfold i32; omega) (by unfold i32; omega) h6 ?_
      refine wr_n (pc2 := 30) (lv2 := [(5, vi l5), (4, vi l4), (3, vi l3), (6, vi l6), (0, .ref 131), (1, vi l1), (2, vi l2)]) (st2 := [vi 1, vi l2, .ref 131]) 3 (fun _ _ => rfl) ?_
      refine wr_add (a := l2) (b := 1) rfl ?_
      show wr (4 * n + 150) tb_M51 31 [(5, vi l5), (4, vi l4), (3, vi l3), (6, vi l6), (0, .ref 131), (1, vi l1), (2, vi l2)] [vi (l2 + 1), .ref 131] s _
      refine wr_call1T (args := [vi (l2 + 1)]) (rest := []) rfl rfl rfl rfl (Nat.le_of_ble_eq_true rfl) rfl (cr_mono (hSt C s (l2 + 1) hC hK hq (by omega)) ?_)
      rintro s9 out ⟨hK9, hY9, ⟨z9, hc9, rfl, hz9, hp9⟩ | ⟨rfl, hc9⟩⟩
      · refine .inl ⟨_, rfl, ?_⟩
        have hX9 : FX s0.1 s9.1 := FX_tr hX hY9
        have hC9 : s9.2 = s0.2 := hc9.trans hc
        have hq9 : s9.1 131 1 = (C : Int) := (hY9 131 1 (by unfold fx; omega)).trans hq
        unfold i32 at hz9
        clear hp9
        show wr (4 * n + 150) tb_M51 34 [(5, vi l5), (4, vi l4), (3, vi l3), (6, vi l6), (0, .ref 131), (1, vi l1), (2, vi l2)] [vi z9] s9 _
        refine wr_n (pc2 := 37) (lv2 := [(6, vi z9), (5, vi l5), (4, vi l4), (3, vi l3), (0, .ref 131), (1, vi l1), (2, vi l2)]) (st2 := [.ref 131]) 2 (fun _ _ => rfl) ?_
        refine wr_get (v := .ref C) rfl rfl rfl (by decide) (rv_ref (show (s9.1) 131 1 = ((C : Nat) : Int) from hq9)) fun h10 => ?_
        show wr (4 * n + 150) tb_M51 40 [(6, vi z9), (5, vi l5), (4, vi l4), (3, vi l3), (0, .ref 131), (1, vi l1), (2, vi l2)] [.ref C] s9 _
        refine wr_n (pc2 := 44) (lv2 := [(6, vi z9), (5, vi l5), (4, vi l4), (3, vi l3), (0, .ref 131), (1, vi l1), (2, vi l2)]) (st2 := [vi z9, vi l4, .ref C]) 2 (fun _ _ => rfl) ?_
        refine wr_call1 (args := [vi l4, vi z9]) (rest := []) rfl rfl rfl (TK0 hC) (Nat.le_of_ble_eq_true rfl) (cr_mono (k_link (d := 4 * n + 148) (C := C) hC (x := l4) (y := z9) s9 hK9 (by omega) (by omega)) ?_)
        rintro s11 out ⟨hK11, hY11, hc11, rfl⟩
        refine ⟨_, rfl, ?_⟩
        have hX11 : FX s0.1 s11.1 := FX_tr hX9 hY11
        have hC11 : s11.2 = s0.2 := hc11.trans hC9
        have hq11 : s11.1 131 1 = (C : Int) := (hY11 131 1 (by unfold fx; omega)).trans hq9
        show wr (4 * n + 150) tb_M51 47 [(6, vi z9), (5, vi l5), (4, vi l4), (3, vi l3), (0, .ref 131), (1, vi l1), (2, vi l2)] [] s11 _
        refine wr_n (pc2 := 49) (lv2 := [(6, vi z9), (5, vi l5), (4, vi l4), (3, vi l3), (0, .ref 131), (1, vi l1), (2, vi l2)]) (st2 := [vi l5]) 1 (fun _ _ => rfl) ?_
        by_cases h12 : l5 ≠ 0
        · refine wr_if1t rfl rfl (by unfold i32; omega) h12 ?_
          refine wr_n (pc2 := 63) (lv2 := [(4, vi z9), (3, vi l3), (6, vi z9), (5, vi l5), (0, .ref 131), (1, vi l1), (2, vi l2)]) (st2 := []) 4 (fun _ _ => rfl) ?_
          refine wr_inc (a := l5) rfl rfl ?_
          show wr (4 * n + 150) tb_M51 66 [(5, vi (l5 + 1)), (4, vi z9), (3, vi l3), (6, vi z9), (0, .ref 131), (1, vi l1), (2, vi l2)] [] s11 _
          refine wr_n (pc2 := 8) (lv2 := [(5, vi (l5 + 1)), (4, vi z9), (3, vi l3), (6, vi z9), (0, .ref 131), (1, vi l1), (2, vi l2)]) (st2 := []) 1 (fun _ _ => rfl) ?_
          exact ih _ (by omega) (l5 + 1) z9 l3 z9 l1 l2 s11 rfl hK11 hq11 hX11 hC11 (by omega) (by omega) (by omega) (by omega) (by omega) (by omega) (by omega) 
        · refine wr_if1f rfl rfl (by unfold i32; omega) h12 ?_
          refine wr_n (pc2 := 63) (lv2 := [(4, vi z9), (3, vi z9), (6, vi z9), (5, vi l5), (0, .ref 131), (1, vi l1), (2, vi l2)]) (st2 := []) 5 (fun _ _ => rfl) ?_
          refine wr_inc (a := l5) rfl rfl ?_
          show wr (4 * n + 150) tb_M51 66 [(5, vi (l5 + 1)), (4, vi z9), (3, vi z9), (6, vi z9), (0, .ref 131), (1, vi l1), (2, vi l2)] [] s11 _
          refine wr_n (pc2 := 8) (lv2 := [(5, vi (l5 + 1)), (4, vi z9), (3, vi z9), (6, vi z9), (0, .ref 131), (1, vi l1), (2, vi l2)]) (st2 := []) 1 (fun _ _ => rfl) ?_
          exact ih _ (by omega) (l5 + 1) z9 z9 z9 l1 l2 s11 rfl hK11 hq11 hX11 hC11 (by omega) (by omega) (by omega) (by omega) (by omega) (by omega) (by omega) 
      · refine .inr ⟨rfl, ?_⟩
        exact ⟨hK9, (FX_tr hX hY9), .inr ⟨rfl, TH hc hc9⟩⟩
set_option maxHeartbeats 20000000 in
set_option maxRecDepth 100000 in
theorem k_row_8 {s0 : rS} {C : Nat} (hC : C = 99 ∨ C = 115) {n : Nat} (hSt : JSt n)  : ∀ (w : Nat) (l5 : Int) (l4 : Int) (l3 : Int) (l1 : Int) (l2 : Int) (s : rS), (2000 - l5).toNat = w → KI s.1 → s.1 131 1 = (C : Int) → FX s0.1 s.1 → s.2 = s0.2 → 0 ≤ l5 ∧ l5 ≤ 2000 → (-2147483648) ≤ l4 ∧ l4 ≤ 2147483647 → (-2147483648) ≤ l3 ∧ l3 ≤ 2147483647 → (-2147483648) ≤ l1 ∧ l1 ≤ 2147483647 → 0 ≤ l2 ∧ l2 ≤ 20 → 20 - l2 < (n : Int) → wr (4 * n + 150) tb_M51 8 [(5, vi l5), (4, vi l4), (3, vi l3), (0, .ref 131), (1, vi l1), (2, vi l2)] [] s (TZ (fun z => True) s0) := by
  intro w
  induction w using Nat.strongRecOn with | ind w ih => ?_
  intro l5 l4 l3 l1 l2 s hw hK hq hX hc hl5 hl4 hl3 hl1 hl2 hx0
  refine wr_n (pc2 := 13) (lv2 := [(5, vi l5), (4, vi l4), (3, vi l3), (0, .ref 131), (1, vi l1), (2, vi l2)]) (st2 := [vi 2000, vi l5]) 2 (fun _ _ => rfl) ?_
  by_cases h1 : 2000 ≤ l5
  · refine wr_if2t rfl rfl (by unfold i32; omega) (by unfold i32; omega) h1 ?_
    refine wr_n (pc2 := 72) (lv2 := [(5, vi l5), (4, vi l4), (3, vi l3), (0, .ref 131), (1, vi l1), (2, vi l2)]) (st2 := [vi l4, .ref 131]) 2 (fun _ _ => rfl) ?_
    refine wr_put (z := l4) rfl rfl rfl rfl (by decide) rfl (by decide) rfl (show -2147483648 ≤ l4 ∧ l4 ≤ 2147483647 by omega) (hf_int' _) ?_
    show wr (4 * n + 150) tb_M51 75 [(5, vi l5), (4, vi l4), (3, vi l3), (0, .ref 131), (1, vi l1), (2, vi l2)] [] (up2 s.1 131 15 l4, s.2) _
    have hK2 : KI (up2 s.1 131 15 l4) := (KI_up hK rfl (kb_no rfl))
    refine wr_n (pc2 := 78) (lv2 := [(5, vi l5), (4, vi l4), (3, vi l3), (0, .ref 131), (1, vi l1), (2, vi l2)]) (st2 := [vi l5, .ref 131]) 2 (fun _ _ => rfl) ?_
    refine wr_put (z := l5) rfl rfl rfl rfl (by decide) rfl (by decide) rfl (show -2147483648 ≤ l5 ∧ l5 ≤ 2147483647 by omega) (hf_int' _) ?_
    show wr (4 * n + 150) tb_M51 81 [(5, vi l5), (4, vi l4), (3, vi l3), (0, .ref 131), (1, vi l1), (2, vi l2)] [] (up2 (up2 s.1 131 15 l4) 131 16 l5, s.2) _
    have hK3 : KI (up2 (up2 s.1 131 15 l4) 131 16 l5) := (KI_up (KI_up hK rfl (kb_no rfl)) rfl (kb_no rfl))
    refine wr_n (pc2 := 82) (lv2 := [(5, vi l5), (4, vi l4), (3, vi l3), (0, .ref 131), (1, vi l1), (2, vi l2)]) (st2 := [vi l3]) 1 (fun _ _ => rfl) ?_
    refine wr_reti rfl rfl ?_
    exact ⟨hK3, (FX_up (FX_up hX (by unfold fx; omega)) (by unfold fx; omega)), .inl ⟨l3, hc, rfl, by unfold i32; omega, trivial⟩⟩
  · refine wr_if2f rfl rfl (by unfold i32; omega) (by unfold i32; omega) h1 ?_
    refine wr_n (pc2 := 17) (lv2 := [(5, vi l5), (4, vi l4), (3, vi l3), (0, .ref 131), (1, vi l1), (2, vi l2)]) (st2 := [.ref 131]) 1 (fun _ _ => rfl) ?_
    refine wr_get (v := .ref 137) rfl rfl rfl (by decide) (rv_ref (hK.1 131 0 137 rfl)) fun h4 => ?_
    show wr (4 * n + 150) tb_M51 20 [(5, vi l5), (4, vi l4), (3, vi l3), (0, .ref 131), (1, vi l1), (2, vi l2)] [.ref 137] s _
    refine wr_call1 (args := []) (rest := []) rfl rfl rfl rfl (Nat.le_of_ble_eq_true rfl) (cr_mono (k_kind (d := 4 * n + 149) s hK) ?_)
    rintro s5 out ⟨z5, rfl, hz5, hp5, e5⟩
    refine ⟨_, rfl, ?_⟩
    rw [e5]
    unfold i32 at hz5
    clear hp5
    show wr (4 * n + 150) tb_M51 23 [(5, vi l5), (4, vi l4), (3, vi l3), (0, .ref 131), (1, vi l1), (2, vi l2)] [vi z5] s _
    refine wr_n (pc2 := 24) (lv2 := [(5, vi l5), (4, vi l4), (3, vi l3), (0, .ref 131), (1, vi l1), (2, vi l2)]) (st2 := [vi l1, vi z5]) 1 (fun _ _ => rfl) ?_
    by_cases h6 : z5 = l1
    · refine wr_if2t rfl rfl (by unfold i32; omega) (by unfold i32; omega) h6 ?_
      refine wr_n (pc2 := 72) (lv2 := [(5, vi l5), (4, vi l4), (3, vi l3), (0, .ref 131), (1, vi l1), (2, vi l2)]) (st2 := [vi l4, .ref 131]) 2 (fun _ _ => rfl) ?_
      refine wr_put (z := l4) rfl rfl rfl rfl (by decide) rfl (by decide) rfl (show -2147483648 ≤ l4 ∧ l4 ≤ 2147483647 by omega) (hf_int' _) ?_
      show wr (4 * n + 150) tb_M51 75 [(5, vi l5), (4, vi l4), (3, vi l3), (0, .ref 131), (1, vi l1), (2, vi l2)] [] (up2 s.1 131 15 l4, s.2) _
      have hK7 : KI (up2 s.1 131 15 l4) := (KI_up hK rfl (kb_no rfl))
      refine wr_n (pc2 := 78) (lv2 := [(5, vi l5), (4, vi l4), (3, vi l3), (0, .ref 131), (1, vi l1), (2, vi l2)]) (st2 := [vi l5, .ref 131]) 2 (fun _ _ => rfl) ?_
      refine wr_put (z := l5) rfl rfl rfl rfl (by decide) rfl (by decide) rfl (show -2147483648 ≤ l5 ∧ l5 ≤ 2147483647 by omega) (hf_int' _) ?_
      show wr (4 * n + 150) tb_M51 81 [(5, vi l5), (4, vi l4), (3, vi l3), (0, .ref 131), (1, vi l1), (2, vi l2)] [] (up2 (up2 s.1 131 15 l4) 131 16 l5, s.2) _
      have hK8 : KI (up2 (up2 s.1 131 15 l4) 131 16 l5) := (KI_up (KI_up hK rfl (kb_no rfl)) rfl (kb_no rfl))
      refine wr_n (pc2 := 82) (lv2 := [(5, vi l5), (4, vi l4), (3, vi l3), (0, .ref 131), (1, vi l1), (2, vi l2)]) (st2 := [vi l3]) 1 (fun _ _ => rfl) ?_
      refine wr_reti rfl rfl ?_
      exact ⟨hK8, (FX_up (FX_up hX (by unfold fx; omega)) (by unfold fx; omega)), .inl ⟨l3, hc, rfl, by unfold i32; omega, trivial⟩⟩
    · refine wr_if2f rfl rfl (by unfold i32; omega) (by unfold i32; omega) h6 ?_
      refine wr_n (pc2 := 30) (lv2 := [(5, vi l5), (4, vi l4), (3, vi l3), (0, .ref 131), (1, vi l1), (2, vi l2)]) (st2 := [vi 1, vi l2, .ref 131]) 3 (fun _ _ => rfl) ?_
      refine wr_add (a := l2) (b := 1) rfl ?_
      show wr (4 * n + 150) tb_M51 31 [(5, vi l5), (4, vi l4), (3, vi l3), (0, .ref 131), (1, vi l1), (2, vi l2)] [vi (l2 + 1), .ref 131] s _
      refine wr_call1T (args := [vi (l2 + 1)]) (rest := []) rfl rfl rfl rfl (Nat.le_of_ble_eq_true rfl) rfl (cr_mono (hSt C s (l2 + 1) hC hK hq (by omega)) ?_)
      rintro s9 out ⟨hK9, hY9, ⟨z9, hc9, rfl, hz9, hp9⟩ | ⟨rfl, hc9⟩⟩
      · refine .inl ⟨_, rfl, ?_⟩
        have hX9 : FX s0.1 s9.1 := FX_tr hX hY9
        have hC9 : s9.2 = s0.2 := hc9.trans hc
        have hq9 : s9.1 131 1 = (C : Int) := (hY9 131 1 (by unfold fx; omega)).trans hq
        unfold i32 at hz9
        clear hp9
        show wr (4 * n + 150) tb_M51 34 [(5, vi l5), (4, vi l4), (3, vi l3), (0, .ref 131), (1, vi l1), (2, vi l2)] [vi z9] s9 _
        refine wr_n (pc2 := 37) (lv2 := [(6, vi z9), (5, vi l5), (4, vi l4), (3, vi l3), (0, .ref 131), (1, vi l1), (2, vi l2)]) (st2 := [.ref 131]) 2 (fun _ _ => rfl) ?_
        refine wr_get (v := .ref C) rfl rfl rfl (by decide) (rv_ref (show (s9.1) 131 1 = ((C : Nat) : Int) from hq9)) fun h10 => ?_
        show wr (4 * n + 150) tb_M51 40 [(6, vi z9), (5, vi l5), (4, vi l4), (3, vi l3), (0, .ref 131), (1, vi l1), (2, vi l2)] [.ref C] s9 _
        refine wr_n (pc2 := 44) (lv2 := [(6, vi z9), (5, vi l5), (4, vi l4), (3, vi l3), (0, .ref 131), (1, vi l1), (2, vi l2)]) (st2 := [vi z9, vi l4, .ref C]) 2 (fun _ _ => rfl) ?_
        refine wr_call1 (args := [vi l4, vi z9]) (rest := []) rfl rfl rfl (TK0 hC) (Nat.le_of_ble_eq_true rfl) (cr_mono (k_link (d := 4 * n + 148) (C := C) hC (x := l4) (y := z9) s9 hK9 (by omega) (by omega)) ?_)
        rintro s11 out ⟨hK11, hY11, hc11, rfl⟩
        refine ⟨_, rfl, ?_⟩
        have hX11 : FX s0.1 s11.1 := FX_tr hX9 hY11
        have hC11 : s11.2 = s0.2 := hc11.trans hC9
        have hq11 : s11.1 131 1 = (C : Int) := (hY11 131 1 (by unfold fx; omega)).trans hq9
        show wr (4 * n + 150) tb_M51 47 [(6, vi z9), (5, vi l5), (4, vi l4), (3, vi l3), (0, .ref 131), (1, vi l1), (2, vi l2)] [] s11 _
        refine wr_n (pc2 := 49) (lv2 := [(6, vi z9), (5, vi l5), (4, vi l4), (3, vi l3), (0, .ref 131), (1, vi l1), (2, vi l2)]) (st2 := [vi l5]) 1 (fun _ _ => rfl) ?_
        by_cases h12 : l5 ≠ 0
        · refine wr_if1t rfl rfl (by unfold i32; omega) h12 ?_
          refine wr_n (pc2 := 63) (lv2 := [(4, vi z9), (3, vi l3), (6, vi z9), (5, vi l5), (0, .ref 131), (1, vi l1), (2, vi l2)]) (st2 := []) 4 (fun _ _ => rfl) ?_
          refine wr_inc (a := l5) rfl rfl ?_
          show wr (4 * n + 150) tb_M51 66 [(5, vi (l5 + 1)), (4, vi z9), (3, vi l3), (6, vi z9), (0, .ref 131), (1, vi l1), (2, vi l2)] [] s11 _
          refine wr_n (pc2 := 8) (lv2 := [(5, vi (l5 + 1)), (4, vi z9), (3, vi l3), (6, vi z9), (0, .ref 131), (1, vi l1), (2, vi l2)]) (st2 := []) 1 (fun _ _ => rfl) ?_
          exact k_row_8v2 hC hSt _ (l5 + 1) z9 l3 z9 l1 l2 s11 rfl hK11 hq11 hX11 hC11 (by omega) (by omega) (by omega) (by omega) (by omega) (by omega) (by omega) 
        · refine wr_if1f rfl rfl (by unfold i32; omega) h12 ?_
          refine wr_n (pc2 := 63) (lv2 := [(4, vi z9), (3, vi z9), (6, vi z9), (5, vi l5), (0, .ref 131), (1, vi l1), (2, vi l2)]) (st2 := []) 5 (fun _ _ => rfl) ?_
          refine wr_inc (a := l5) rfl rfl ?_
          show wr (4 * n + 150) tb_M51 66 [(5, vi (l5 + 1)), (4, vi z9), (3, vi z9), (6, vi z9), (0, .ref 131), (1, vi l1), (2, vi l2)] [] s11 _
          refine wr_n (pc2 := 8) (lv2 := [(5, vi (l5 + 1)), (4, vi z9), (3, vi z9), (6, vi z9), (0, .ref 131), (1, vi l1), (2, vi l2)]) (st2 := []) 1 (fun _ _ => rfl) ?_
          exact k_row_8v2 hC hSt _ (l5 + 1) z9 z9 z9 l1 l2 s11 rfl hK11 hq11 hX11 hC11 (by omega) (by omega) (by omega) (by omega) (by omega) (by omega) (by omega) 
      · refine .inr ⟨rfl, ?_⟩
        exact ⟨hK9, (FX_tr hX hY9), .inr ⟨rfl, TH hc hc9⟩⟩
set_option maxHeartbeats 20000000 in
set_option maxRecDepth 100000 in
theorem k_row {n : Nat} (hSt : JSt n) : JRw n := by
  intro C s x y hC hK hq hx hy
  refine cr_of (M := tb_M51) rfl (Nat.le_of_ble_eq_true rfl) ?_
  show wr (4 * n + 150) tb_M51 0 [(0, .ref 131), (1, vi x), (2, vi y)] [] s _
  refine wr_n (pc2 := 8) (lv2 := [(5, vi 0), (4, vi ((-1))), (3, vi ((-1))), (0, .ref 131), (1, vi x), (2, vi y)]) (st2 := []) 6 (fun _ _ => rfl) ?_
  exact k_row_8 hC hSt _ 0 ((-1)) ((-1)) x y s rfl hK hq FX_rf rfl (by omega) (by omega) (by omega) (by omega) (by omega) (by omega) 
set_option maxHeartbeats 20000000 in
set_option maxRecDepth 100000 in
theorem k_block {n : Nat} (hRw : JRw n) : JBk n := by
  intro C s x y hC hK hq hx hy
  refine cr_of (M := tb_M53) rfl (Nat.le_of_ble_eq_true rfl) ?_
  show wr (4 * n + 151) tb_M53 0 [(0, .ref 131), (1, vi x), (2, vi y)] [] s _
  refine wr_n (pc2 := 3) (lv2 := [(0, .ref 131), (1, vi x), (2, vi y)]) (st2 := [vi 123, .ref 131]) 2 (fun _ _ => rfl) ?_
  refine wr_call1T (args := [vi 123]) (rest := []) rfl rfl rfl rfl (Nat.le_of_ble_eq_true rfl) rfl (cr_mono (k_expect (d := 4 * n + 149) (x := 123) s hK (by omega)) ?_)
  rintro s1 out ⟨hK1, hY1, ⟨hc1, rfl⟩ | ⟨rfl, hc1⟩⟩
  · refine .inl ⟨_, rfl, ?_⟩
    have hX1 : FX s.1 s1.1 := FX_tr FX_rf hY1
    have hC1 : s1.2 = s.2 := hc1.trans rfl
    have hq1 : s1.1 131 1 = (C : Int) := (hY1 131 1 (by unfold fx; omega)).trans hq
    show wr (4 * n + 151) tb_M53 6 [(0, .ref 131), (1, vi x), (2, vi y)] [] s1 _
    refine wr_n (pc2 := 8) (lv2 := [(0, .ref 131), (1, vi x), (2, vi y)]) (st2 := [vi y, .ref 131]) 2 (fun _ _ => rfl) ?_
    refine wr_call1T (args := [vi y]) (rest := []) rfl rfl rfl rfl (Nat.le_of_ble_eq_true rfl) rfl (cr_mono (k_ints (d := 4 * n + 147) (C := C) hC (x := y) s1 hK1 hq1 (by omega)) ?_)
    rintro s2 out ⟨hK2, hY2, ⟨hc2, rfl⟩ | ⟨rfl, hc2⟩⟩
    · refine .inl ⟨_, rfl, ?_⟩
      have hX2 : FX s.1 s2.1 := FX_tr hX1 hY2
      have hC2 : s2.2 = s.2 := hc2.trans hC1
      have hq2 : s2.1 131 1 = (C : Int) := (hY2 131 1 (by unfold fx; omega)).trans hq1
      show wr (4 * n + 151) tb_M53 11 [(0, .ref 131), (1, vi x), (2, vi y)] [] s2 _
      refine wr_n (pc2 := 15) (lv2 := [(0, .ref 131), (1, vi x), (2, vi y)]) (st2 := [vi x, vi 125, .ref 131]) 3 (fun _ _ => rfl) ?_
      refine wr_call1T (args := [vi 125, vi x]) (rest := []) rfl rfl rfl rfl (Nat.le_of_ble_eq_true rfl) rfl (cr_mono (hRw C s2 125 x hC hK2 hq2 (by omega) (by omega)) ?_)
      rintro s3 out ⟨hK3, hY3, ⟨z3, hc3, rfl, hz3, hp3⟩ | ⟨rfl, hc3⟩⟩
      · refine .inl ⟨_, rfl, ?_⟩
        have hX3 : FX s.1 s3.1 := FX_tr hX2 hY3
        have hC3 : s3.2 = s.2 := hc3.trans hC2
        have hq3 : s3.1 131 1 = (C : Int) := (hY3 131 1 (by unfold fx; omega)).trans hq2
        unfold i32 at hz3
        clear hp3
        show wr (4 * n + 151) tb_M53 18 [(0, .ref 131), (1, vi x), (2, vi y)] [vi z3] s3 _
        refine wr_n (pc2 := 20) (lv2 := [(3, vi z3), (0, .ref 131), (1, vi x), (2, vi y)]) (st2 := [.ref 131]) 2 (fun _ _ => rfl) ?_
        refine wr_get (v := vi (s3.1 131 16)) rfl rfl rfl (by decide) rfl fun h4 => ?_
        have h4 : -2147483648 ≤ s3.1 131 16 ∧ s3.1 131 16 ≤ 2147483647 := h4
        show wr (4 * n + 151) tb_M53 23 [(3, vi z3), (0, .ref 131), (1, vi x), (2, vi y)] [vi (s3.1 131 16)] s3 _
        refine wr_n (pc2 := 28) (lv2 := [(4, vi (s3.1 131 16)), (3, vi z3), (0, .ref 131), (1, vi x), (2, vi y)]) (st2 := [vi 125, .ref 131]) 3 (fun _ _ => rfl) ?_
        refine wr_call1T (args := [vi 125]) (rest := []) rfl rfl rfl rfl (Nat.le_of_ble_eq_true rfl) rfl (cr_mono (k_expect (d := 4 * n + 149) (x := 125) s3 hK3 (by omega)) ?_)
        rintro s5 out ⟨hK5, hY5, ⟨hc5, rfl⟩ | ⟨rfl, hc5⟩⟩
        · refine .inl ⟨_, rfl, ?_⟩
          have hX5 : FX s.1 s5.1 := FX_tr hX3 hY5
          have hC5 : s5.2 = s.2 := hc5.trans hC3
          have hq5 : s5.1 131 1 = (C : Int) := (hY5 131 1 (by unfold fx; omega)).trans hq3
          show wr (4 * n + 151) tb_M53 31 [(4, vi (s3.1 131 16)), (3, vi z3), (0, .ref 131), (1, vi x), (2, vi y)] [] s5 _
          refine wr_n (pc2 := 32) (lv2 := [(4, vi (s3.1 131 16)), (3, vi z3), (0, .ref 131), (1, vi x), (2, vi y)]) (st2 := [.ref 131]) 1 (fun _ _ => rfl) ?_
          refine wr_get (v := .ref C) rfl rfl rfl (by decide) (rv_ref (show (s5.1) 131 1 = ((C : Nat) : Int) from hq5)) fun h6 => ?_
          show wr (4 * n + 151) tb_M53 35 [(4, vi (s3.1 131 16)), (3, vi z3), (0, .ref 131), (1, vi x), (2, vi y)] [.ref C] s5 _
          refine wr_get (v := .ref (C + 6)) rfl rfl (TK0 hC) (by decide) (rv_ref (hK5.1 C 5 (C + 6) (rcK hC (by omega)))) fun h7 => ?_
          show wr (4 * n + 151) tb_M53 38 [(4, vi (s3.1 131 16)), (3, vi z3), (0, .ref 131), (1, vi x), (2, vi y)] [.ref (C + 6)] s5 _
          refine wr_n (pc2 := 39) (lv2 := [(4, vi (s3.1 131 16)), (3, vi z3), (0, .ref 131), (1, vi x), (2, vi y)]) (st2 := [vi y, .ref (C + 6)]) 1 (fun _ _ => rfl) ?_
          refine wr_call1 (args := [vi y]) (rest := []) rfl rfl rfl (TK6 hC) (Nat.le_of_ble_eq_true rfl) (cr_mono (k_cut (d := 4 * n + 150) (C := C) hC (x := y) s5 hK5 (by omega)) ?_)
          rintro s8 out ⟨hK8, hY8, hc8, rfl⟩
          refine ⟨_, rfl, ?_⟩
          have hX8 : FX s.1 s8.1 := FX_tr hX5 hY8
          have hC8 : s8.2 = s.2 := hc8.trans hC5
          have hq8 : s8.1 131 1 = (C : Int) := (hY8 131 1 (by unfold fx; omega)).trans hq5
          show wr (4 * n + 151) tb_M53 42 [(4, vi (s3.1 131 16)), (3, vi z3), (0, .ref 131), (1, vi x), (2, vi y)] [] s8 _
          refine wr_n (pc2 := 45) (lv2 := [(4, vi (s3.1 131 16)), (3, vi z3), (0, .ref 131), (1, vi x), (2, vi y)]) (st2 := [vi 1, vi (s3.1 131 16)]) 2 (fun _ _ => rfl) ?_
          by_cases h9 : s3.1 131 16 ≠ 1
          · refine wr_if2t rfl rfl (by unfold i32; omega) (by unfold i32; omega) h9 ?_
            refine wr_n (pc2 := 51) (lv2 := [(4, vi (s3.1 131 16)), (3, vi z3), (0, .ref 131), (1, vi x), (2, vi y)]) (st2 := [.ref 131]) 1 (fun _ _ => rfl) ?_
            refine wr_get (v := .ref C) rfl rfl rfl (by decide) (rv_ref (show (s8.1) 131 1 = ((C : Nat) : Int) from hq8)) fun h10 => ?_
            show wr (4 * n + 151) tb_M53 54 [(4, vi (s3.1 131 16)), (3, vi z3), (0, .ref 131), (1, vi x), (2, vi y)] [.ref C] s8 _
            refine wr_n (pc2 := 56) (lv2 := [(4, vi (s3.1 131 16)), (3, vi z3), (0, .ref 131), (1, vi x), (2, vi y)]) (st2 := [vi (s3.1 131 16), .ref C]) 1 (fun _ _ => rfl) ?_
            by_cases h11 : s3.1 131 16 ≠ 0
            · refine wr_if1t rfl rfl (by unfold i32; omega) h11 ?_
              refine wr_n (pc2 := 71) (lv2 := [(4, vi (s3.1 131 16)), (3, vi z3), (0, .ref 131), (1, vi x), (2, vi y)]) (st2 := [vi ((-1)), vi ((-1)), vi z3, vi 408, .ref C]) 4 (fun _ _ => rfl) ?_
              refine wr_call1 (args := [vi 408, vi z3, vi ((-1)), vi ((-1))]) (rest := []) rfl rfl rfl (TK0 hC) (Nat.le_of_ble_eq_true rfl) (cr_mono (k_cadd (d := 4 * n + 150) (C := C) hC (x := 408) (y := z3) (u := (-1)) (v := (-1)) s8 hK8 (by omega) (by omega) (by omega) (by omega)) ?_)
              rintro s12 out ⟨hK12, hY12, hc12, ha12, z12, rfl, hz12, hp12⟩
              refine ⟨_, rfl, ?_⟩
              have hX12 : FX s.1 s12.1 := FX_tr hX8 hY12
              have hC12 : s12.2 = s.2 := hc12.trans hC8
              have hq12 : s12.1 131 1 = (C : Int) := (hY12 131 1 (by unfold fx; omega)).trans hq8
              unfold i32 at hz12
              clear hp12
              show wr (4 * n + 151) tb_M53 74 [(4, vi (s3.1 131 16)), (3, vi z3), (0, .ref 131), (1, vi x), (2, vi y)] [vi z12] s12 _
              refine wr_reti rfl rfl ?_
              exact ⟨hK12, hX12, .inl ⟨z12, hC12, rfl, by unfold i32; omega, trivial⟩⟩
            · refine wr_if1f rfl rfl (by unfold i32; omega) h11 ?_
              refine wr_n (pc2 := 71) (lv2 := [(4, vi (s3.1 131 16)), (3, vi z3), (0, .ref 131), (1, vi x), (2, vi y)]) (st2 := [vi ((-1)), vi ((-1)), vi z3, vi 314, .ref C]) 5 (fun _ _ => rfl) ?_
              refine wr_call1 (args := [vi 314, vi z3, vi ((-1)), vi ((-1))]) (rest := []) rfl rfl rfl (TK0 hC) (Nat.le_of_ble_eq_true rfl) (cr_mono (k_cadd (d := 4 * n + 150) (C := C) hC (x := 314) (y := z3) (u := (-1)) (v := (-1)) s8 hK8 (by omega) (by omega) (by omega) (by omega)) ?_)
              rintro s13 out ⟨hK13, hY13, hc13, ha13, z13, rfl, hz13, hp13⟩
              refine ⟨_, rfl, ?_⟩
              have hX13 : FX s.1 s13.1 := FX_tr hX8 hY13
              have hC13 : s13.2 = s.2 := hc13.trans hC8
              have hq13 : s13.1 131 1 = (C : Int) := (hY13 131 1 (by unfold fx; omega)).trans hq8
              unfold i32 at hz13
              clear hp13
              show wr (4 * n + 151) tb_M53 74 [(4, vi (s3.1 131 16)), (3, vi z3), (0, .ref 131), (1, vi x), (2, vi y)] [vi z13] s13 _
              refine wr_reti rfl rfl ?_
              exact ⟨hK13, hX13, .inl ⟨z13, hC13, rfl, by unfold i32; omega, trivial⟩⟩
          · refine wr_if2f rfl rfl (by unfold i32; omega) (by unfold i32; omega) h9 ?_
            refine wr_n (pc2 := 49) (lv2 := [(4, vi (s3.1 131 16)), (3, vi z3), (0, .ref 131), (1, vi x), (2, vi y)]) (st2 := [vi z3]) 1 (fun _ _ => rfl) ?_
            refine wr_reti rfl rfl ?_
            exact ⟨hK8, hX8, .inl ⟨z3, hC8, rfl, by unfold i32; omega, trivial⟩⟩
        · refine .inr ⟨rfl, ?_⟩
          exact ⟨hK5, (FX_tr hX3 hY5), .inr ⟨rfl, TH hC3 hc5⟩⟩
      · refine .inr ⟨rfl, ?_⟩
        exact ⟨hK3, (FX_tr hX2 hY3), .inr ⟨rfl, TH hC2 hc3⟩⟩
    · refine .inr ⟨rfl, ?_⟩
      exact ⟨hK2, (FX_tr hX1 hY2), .inr ⟨rfl, TH hC1 hc2⟩⟩
  · refine .inr ⟨rfl, ?_⟩
    exact ⟨hK1, (FX_tr FX_rf hY1), .inr ⟨rfl, TH rfl hc1⟩⟩
set_option maxHeartbeats 20000000 in
set_option maxRecDepth 100000 in
theorem k_choice {n : Nat} (hSt : JSt n) : JCh n := by
  intro C s x hC hK hq hx
  refine cr_of (M := tb_M55) rfl (Nat.le_of_ble_eq_true rfl) ?_
  show wr (4 * n + 150) tb_M55 0 [(0, .ref 131), (1, vi x)] [] s _
  refine wr_n (pc2 := 2) (lv2 := [(0, .ref 131), (1, vi x)]) (st2 := [vi x, .ref 131]) 2 (fun _ _ => rfl) ?_
  refine wr_call1T (args := [vi x]) (rest := []) rfl rfl rfl rfl (Nat.le_of_ble_eq_true rfl) rfl (cr_mono (k_condition (d := 4 * n + 10) (C := C) hC (x := x) s hK hq (by omega)) ?_)
  rintro s1 out ⟨hK1, hY1, ⟨z1, hc1, rfl, hz1, hp1⟩ | ⟨rfl, hc1⟩⟩
  · refine .inl ⟨_, rfl, ?_⟩
    have hX1 : FX s.1 s1.1 := FX_tr FX_rf hY1
    have hC1 : s1.2 = s.2 := hc1.trans rfl
    have hq1 : s1.1 131 1 = (C : Int) := (hY1 131 1 (by unfold fx; omega)).trans hq
    unfold i32 at hz1
    clear hp1
    show wr (4 * n + 150) tb_M55 5 [(0, .ref 131), (1, vi x)] [vi z1] s1 _
    refine wr_n (pc2 := 9) (lv2 := [(2, vi z1), (0, .ref 131), (1, vi x)]) (st2 := [vi 1, vi x, .ref 131]) 4 (fun _ _ => rfl) ?_
    refine wr_add (a := x) (b := 1) rfl ?_
    show wr (4 * n + 150) tb_M55 10 [(2, vi z1), (0, .ref 131), (1, vi x)] [vi (x + 1), .ref 131] s1 _
    refine wr_call1T (args := [vi (x + 1)]) (rest := []) rfl rfl rfl rfl (Nat.le_of_ble_eq_true rfl) rfl (cr_mono (hSt C s1 (x + 1) hC hK1 hq1 (by omega)) ?_)
    rintro s2 out ⟨hK2, hY2, ⟨z2, hc2, rfl, hz2, hp2⟩ | ⟨rfl, hc2⟩⟩
    · refine .inl ⟨_, rfl, ?_⟩
      have hX2 : FX s.1 s2.1 := FX_tr hX1 hY2
      have hC2 : s2.2 = s.2 := hc2.trans hC1
      have hq2 : s2.1 131 1 = (C : Int) := (hY2 131 1 (by unfold fx; omega)).trans hq1
      unfold i32 at hz2
      clear hp2
      show wr (4 * n + 150) tb_M55 13 [(2, vi z1), (0, .ref 131), (1, vi x)] [vi z2] s2 _
      refine wr_n (pc2 := 18) (lv2 := [(4, vi ((-1))), (3, vi z2), (2, vi z1), (0, .ref 131), (1, vi x)]) (st2 := [.ref 131]) 4 (fun _ _ => rfl) ?_
      refine wr_get (v := .ref 137) rfl rfl rfl (by decide) (rv_ref (hK2.1 131 0 137 rfl)) fun h3 => ?_
      show wr (4 * n + 150) tb_M55 21 [(4, vi ((-1))), (3, vi z2), (2, vi z1), (0, .ref 131), (1, vi x)] [.ref 137] s2 _
      refine wr_call1 (args := []) (rest := []) rfl rfl rfl rfl (Nat.le_of_ble_eq_true rfl) (cr_mono (k_kind (d := 4 * n + 149) s2 hK2) ?_)
      rintro s4 out ⟨z4, rfl, hz4, hp4, e4⟩
      refine ⟨_, rfl, ?_⟩
      rw [e4]
      unfold i32 at hz4
      clear hp4
      show wr (4 * n + 150) tb_M55 24 [(4, vi ((-1))), (3, vi z2), (2, vi z1), (0, .ref 131), (1, vi x)] [vi z4] s2 _
      refine wr_n (pc2 := 27) (lv2 := [(4, vi ((-1))), (3, vi z2), (2, vi z1), (0, .ref 131), (1, vi x)]) (st2 := [vi 309, vi z4]) 1 (fun _ _ => rfl) ?_
      by_cases h5 : z4 ≠ 309
      · refine wr_if2t rfl rfl (by unfold i32; omega) (by unfold i32; omega) h5 ?_
        refine wr_n (pc2 := 47) (lv2 := [(4, vi ((-1))), (3, vi z2), (2, vi z1), (0, .ref 131), (1, vi x)]) (st2 := [.ref 131]) 1 (fun _ _ => rfl) ?_
        refine wr_get (v := .ref C) rfl rfl rfl (by decide) (rv_ref (show (s2.1) 131 1 = ((C : Nat) : Int) from hq2)) fun h6 => ?_
        show wr (4 * n + 150) tb_M55 50 [(4, vi ((-1))), (3, vi z2), (2, vi z1), (0, .ref 131), (1, vi x)] [.ref C] s2 _
        refine wr_n (pc2 := 57) (lv2 := [(4, vi ((-1))), (3, vi z2), (2, vi z1), (0, .ref 131), (1, vi x)]) (st2 := [vi ((-1)), vi z2, vi z1, vi 308, .ref C]) 4 (fun _ _ => rfl) ?_
        refine wr_call1 (args := [vi 308, vi z1, vi z2, vi ((-1))]) (rest := []) rfl rfl rfl (TK0 hC) (Nat.le_of_ble_eq_true rfl) (cr_mono (k_cadd (d := 4 * n + 149) (C := C) hC (x := 308) (y := z1) (u := z2) (v := (-1)) s2 hK2 (by omega) (by omega) (by omega) (by omega)) ?_)
        rintro s7 out ⟨hK7, hY7, hc7, ha7, z7, rfl, hz7, hp7⟩
        refine ⟨_, rfl, ?_⟩
        have hX7 : FX s.1 s7.1 := FX_tr hX2 hY7
        have hC7 : s7.2 = s.2 := hc7.trans hC2
        have hq7 : s7.1 131 1 = (C : Int) := (hY7 131 1 (by unfold fx; omega)).trans hq2
        unfold i32 at hz7
        clear hp7
        show wr (4 * n + 150) tb_M55 60 [(4, vi ((-1))), (3, vi z2), (2, vi z1), (0, .ref 131), (1, vi x)] [vi z7] s7 _
        refine wr_reti rfl rfl ?_
        exact ⟨hK7, hX7, .inl ⟨z7, hC7, rfl, by unfold i32; omega, trivial⟩⟩
      · refine wr_if2f rfl rfl (by unfold i32; omega) (by unfold i32; omega) h5 ?_
        refine wr_n (pc2 := 31) (lv2 := [(4, vi ((-1))), (3, vi z2), (2, vi z1), (0, .ref 131), (1, vi x)]) (st2 := [.ref 131]) 1 (fun _ _ => rfl) ?_
        refine wr_get (v := .ref 137) rfl rfl rfl (by decide) (rv_ref (hK2.1 131 0 137 rfl)) fun h8 => ?_
        show wr (4 * n + 150) tb_M55 34 [(4, vi ((-1))), (3, vi z2), (2, vi z1), (0, .ref 131), (1, vi x)] [.ref 137] s2 _
        refine wr_call1 (args := []) (rest := []) rfl rfl rfl rfl (Nat.le_of_ble_eq_true rfl) (cr_mono (k_step (d := 4 * n + 149) s2 hK2) ?_)
        rintro s9 out ⟨hK9, hY9, hc9, rfl⟩
        refine ⟨_, rfl, ?_⟩
        have hX9 : FX s.1 s9.1 := FX_tr hX2 hY9
        have hC9 : s9.2 = s.2 := hc9.trans hC2
        have hq9 : s9.1 131 1 = (C : Int) := (hY9 131 1 (by unfold fx; omega)).trans hq2
        show wr (4 * n + 150) tb_M55 37 [(4, vi ((-1))), (3, vi z2), (2, vi z1), (0, .ref 131), (1, vi x)] [] s9 _
        refine wr_n (pc2 := 40) (lv2 := [(4, vi ((-1))), (3, vi z2), (2, vi z1), (0, .ref 131), (1, vi x)]) (st2 := [vi 1, vi x, .ref 131]) 3 (fun _ _ => rfl) ?_
        refine wr_add (a := x) (b := 1) rfl ?_
        show wr (4 * n + 150) tb_M55 41 [(4, vi ((-1))), (3, vi z2), (2, vi z1), (0, .ref 131), (1, vi x)] [vi (x + 1), .ref 131] s9 _
        refine wr_call1T (args := [vi (x + 1)]) (rest := []) rfl rfl rfl rfl (Nat.le_of_ble_eq_true rfl) rfl (cr_mono (hSt C s9 (x + 1) hC hK9 hq9 (by omega)) ?_)
        rintro s10 out ⟨hK10, hY10, ⟨z10, hc10, rfl, hz10, hp10⟩ | ⟨rfl, hc10⟩⟩
        · refine .inl ⟨_, rfl, ?_⟩
          have hX10 : FX s.1 s10.1 := FX_tr hX9 hY10
          have hC10 : s10.2 = s.2 := hc10.trans hC9
          have hq10 : s10.1 131 1 = (C : Int) := (hY10 131 1 (by unfold fx; omega)).trans hq9
          unfold i32 at hz10
          clear hp10
          show wr (4 * n + 150) tb_M55 44 [(4, vi ((-1))), (3, vi z2), (2, vi z1), (0, .ref 131), (1, vi x)] [vi z10] s10 _
          refine wr_n (pc2 := 47) (lv2 := [(4, vi z10), (3, vi z2), (2, vi z1), (0, .ref 131), (1, vi x)]) (st2 := [.ref 131]) 2 (fun _ _ => rfl) ?_
          refine wr_get (v := .ref C) rfl rfl rfl (by decide) (rv_ref (show (s10.1) 131 1 = ((C : Nat) : Int) from hq10)) fun h11 => ?_
          show wr (4 * n + 150) tb_M55 50 [(4, vi z10), (3, vi z2), (2, vi z1), (0, .ref 131), (1, vi x)] [.ref C] s10 _
          refine wr_n (pc2 := 57) (lv2 := [(4, vi z10), (3, vi z2), (2, vi z1), (0, .ref 131), (1, vi x)]) (st2 := [vi z10, vi z2, vi z1, vi 308, .ref C]) 4 (fun _ _ => rfl) ?_
          refine wr_call1 (args := [vi 308, vi z1, vi z2, vi z10]) (rest := []) rfl rfl rfl (TK0 hC) (Nat.le_of_ble_eq_true rfl) (cr_mono (k_cadd (d := 4 * n + 149) (C := C) hC (x := 308) (y := z1) (u := z2) (v := z10) s10 hK10 (by omega) (by omega) (by omega) (by omega)) ?_)
          rintro s12 out ⟨hK12, hY12, hc12, ha12, z12, rfl, hz12, hp12⟩
          refine ⟨_, rfl, ?_⟩
          have hX12 : FX s.1 s12.1 := FX_tr hX10 hY12
          have hC12 : s12.2 = s.2 := hc12.trans hC10
          have hq12 : s12.1 131 1 = (C : Int) := (hY12 131 1 (by unfold fx; omega)).trans hq10
          unfold i32 at hz12
          clear hp12
          show wr (4 * n + 150) tb_M55 60 [(4, vi z10), (3, vi z2), (2, vi z1), (0, .ref 131), (1, vi x)] [vi z12] s12 _
          refine wr_reti rfl rfl ?_
          exact ⟨hK12, hX12, .inl ⟨z12, hC12, rfl, by unfold i32; omega, trivial⟩⟩
        · refine .inr ⟨rfl, ?_⟩
          exact ⟨hK10, (FX_tr hX9 hY10), .inr ⟨rfl, TH hC9 hc10⟩⟩
    · refine .inr ⟨rfl, ?_⟩
      exact ⟨hK2, (FX_tr hX1 hY2), .inr ⟨rfl, TH hC1 hc2⟩⟩
  · refine .inr ⟨rfl, ?_⟩
    exact ⟨hK1, (FX_tr FX_rf hY1), .inr ⟨rfl, TH rfl hc1⟩⟩
set_option maxHeartbeats 20000000 in
set_option maxRecDepth 100000 in
theorem k_branches_277 {s0 : rS} {C : Nat} (hC : C = 99 ∨ C = 115) {n : Nat} (hSt : JSt n)  (l18 : Int) (l13 : Int) (l11 : Int) (l9 : Int) (l15 : Int) (l17 : Int) (l16 : Int) (l19 : Int) (l7 : Int) (l5 : Int) (l3 : Int) (l2 : Int) (l1 : Int) (s : rS) (hK : KI s.1) (hq : s.1 131 1 = (C : Int)) (hX : FX s0.1 s.1) (hc : s.2 = s0.2) (hl18 : 0 ≤ l18 ∧ l18 ≤ 6) (hl13 : i64 l13) (hl11 : i64 l11) (hl9 : i64 l9) (hl15 : (-2147483648) ≤ l15 ∧ l15 ≤ 2147483647) (hl17 : (-2147483648) ≤ l17 ∧ l17 ≤ 2147483647) (hl16 : (-2147483648) ≤ l16 ∧ l16 ≤ 2147483647) (hl19 : (-2147483648) ≤ l19 ∧ l19 ≤ 2147483647) (hl7 : i64 l7) (hl5 : i64 l5) (hl3 : i64 l3) (hl2 : (-2147483648) ≤ l2 ∧ l2 ≤ 2147483647) (hl1 : 0 ≤ l1 ∧ l1 ≤ 20)   : wr (4 * n + 150) tb_M70 277 [(18, vi l18), (13, vl l13), (11, vl l11), (9, vl l9), (15, vi l15), (17, vi l17), (16, vi l16), (19, vi l19), (7, vl l7), (5, vl l5), (3, vl l3), (2, vi l2), (0, .ref 131), (1, vi l1)] [] s (TZ (fun z => True) s0) := by
  refine wr_n (pc2 := 278) (lv2 := [(18, vi l18), (13, vl l13), (11, vl l11), (9, vl l9), (15, vi l15), (17, vi l17), (16, vi l16), (19, vi l19), (7, vl l7), (5, vl l5), (3, vl l3), (2, vi l2), (0, .ref 131), (1, vi l1)]) (st2 := [.ref 131]) 1 (fun _ _ => rfl) ?_
  refine wr_get (v := .ref C) rfl rfl rfl (by decide) (rv_ref (show (s.1) 131 1 = ((C : Nat) : Int) from hq)) fun h1 => ?_
  show wr (4 * n + 150) tb_M70 281 [(18, vi l18), (13, vl l13), (11, vl l11), (9, vl l9), (15, vi l15), (17, vi l17), (16, vi l16), (19, vi l19), (7, vl l7), (5, vl l5), (3, vl l3), (2, vi l2), (0, .ref 131), (1, vi l1)] [.ref C] s _
  refine wr_n (pc2 := 289) (lv2 := [(18, vi l18), (13, vl l13), (11, vl l11), (9, vl l9), (15, vi l15), (17, vi l17), (16, vi l16), (19, vi l19), (7, vl l7), (5, vl l5), (3, vl l3), (2, vi l2), (0, .ref 131), (1, vi l1)]) (st2 := [vi ((-1)), vi l18, vi l16, vi 312, .ref C]) 4 (fun _ _ => rfl) ?_
  refine wr_call1 (args := [vi 312, vi l16, vi l18, vi ((-1))]) (rest := []) rfl rfl rfl (TK0 hC) (Nat.le_of_ble_eq_true rfl) (cr_mono (k_cadd (d := 4 * n + 149) (C := C) hC (x := 312) (y := l16) (u := l18) (v := (-1)) s hK (by omega) (by omega) (by omega) (by omega)) ?_)
  rintro s2 out ⟨hK2, hY2, hc2, ha2, z2, rfl, hz2, hp2⟩
  refine ⟨_, rfl, ?_⟩
  have hX2 : FX s0.1 s2.1 := FX_tr hX hY2
  have hC2 : s2.2 = s0.2 := hc2.trans hc
  have hq2 : s2.1 131 1 = (C : Int) := (hY2 131 1 (by unfold fx; omega)).trans hq
  unfold i32 at hz2
  clear hp2
  show wr (4 * n + 150) tb_M70 292 [(18, vi l18), (13, vl l13), (11, vl l11), (9, vl l9), (15, vi l15), (17, vi l17), (16, vi l16), (19, vi l19), (7, vl l7), (5, vl l5), (3, vl l3), (2, vi l2), (0, .ref 131), (1, vi l1)] [vi z2] s2 _
  refine wr_reti rfl rfl ?_
  exact ⟨hK2, hX2, .inl ⟨z2, hC2, rfl, by unfold i32; omega, trivial⟩⟩
set_option maxHeartbeats 20000000 in
set_option maxRecDepth 100000 in
theorem k_branches_218 {s0 : rS} {C : Nat} (hC : C = 99 ∨ C = 115) {n : Nat} (hSt : JSt n)  (l18 : Int) (l13 : Int) (l11 : Int) (l9 : Int) (l15 : Int) (l17 : Int) (l16 : Int) (l19 : Int) (l7 : Int) (l5 : Int) (l3 : Int) (l2 : Int) (l1 : Int) (s : rS) (hK : KI s.1) (hq : s.1 131 1 = (C : Int)) (hX : FX s0.1 s.1) (hc : s.2 = s0.2) (hl18 : 0 ≤ l18 ∧ l18 ≤ 6) (hl13 : i64 l13) (hl11 : i64 l11) (hl9 : i64 l9) (hl15 : (-2147483648) ≤ l15 ∧ l15 ≤ 2147483647) (hl17 : (-2147483648) ≤ l17 ∧ l17 ≤ 2147483647) (hl16 : (-2147483648) ≤ l16 ∧ l16 ≤ 2147483647) (hl19 : (-2147483648) ≤ l19 ∧ l19 ≤ 2147483647) (hl7 : i64 l7) (hl5 : i64 l5) (hl3 : i64 l3) (hl2 : (-2147483648) ≤ l2 ∧ l2 ≤ 2147483647) (hl1 : 0 ≤ l1 ∧ l1 ≤ 20)   : wr (4 * n + 150) tb_M70 218 [(18, vi l18), (13, vl l13), (11, vl l11), (9, vl l9), (15, vi l15), (17, vi l17), (16, vi l16), (19, vi l19), (7, vl l7), (5, vl l5), (3, vl l3), (2, vi l2), (0, .ref 131), (1, vi l1)] [] s (TZ (fun z => True) s0) := by
  refine wr_n (pc2 := 221) (lv2 := [(18, vi l18), (13, vl l13), (11, vl l11), (9, vl l9), (15, vi l15), (17, vi l17), (16, vi l16), (19, vi l19), (7, vl l7), (5, vl l5), (3, vl l3), (2, vi l2), (0, .ref 131), (1, vi l1)]) (st2 := [vi 125, .ref 131]) 2 (fun _ _ => rfl) ?_
  refine wr_call1T (args := [vi 125]) (rest := []) rfl rfl rfl rfl (Nat.le_of_ble_eq_true rfl) rfl (cr_mono (k_expect (d := 4 * n + 148) (x := 125) s hK (by omega)) ?_)
  rintro s1 out ⟨hK1, hY1, ⟨hc1, rfl⟩ | ⟨rfl, hc1⟩⟩
  · refine .inl ⟨_, rfl, ?_⟩
    have hX1 : FX s0.1 s1.1 := FX_tr hX hY1
    have hC1 : s1.2 = s0.2 := hc1.trans hc
    have hq1 : s1.1 131 1 = (C : Int) := (hY1 131 1 (by unfold fx; omega)).trans hq
    show wr (4 * n + 150) tb_M70 224 [(18, vi l18), (13, vl l13), (11, vl l11), (9, vl l9), (15, vi l15), (17, vi l17), (16, vi l16), (19, vi l19), (7, vl l7), (5, vl l5), (3, vl l3), (2, vi l2), (0, .ref 131), (1, vi l1)] [] s1 _
    refine wr_n (pc2 := 228) (lv2 := [(18, vi l18), (13, vl l13), (11, vl l11), (9, vl l9), (15, vi l15), (17, vi l17), (16, vi l16), (19, vi l19), (7, vl l7), (5, vl l5), (3, vl l3), (2, vi l2), (0, .ref 131), (1, vi l1)]) (st2 := [vl l9, vl l3, .ref 131]) 3 (fun _ _ => rfl) ?_
    refine wr_anyl (a := l3) (b := l9) rfl rfl fun z2 h3 _ => ?_
    show wr (4 * n + 150) tb_M70 229 [(18, vi l18), (13, vl l13), (11, vl l11), (9, vl l9), (15, vi l15), (17, vi l17), (16, vi l16), (19, vi l19), (7, vl l7), (5, vl l5), (3, vl l3), (2, vi l2), (0, .ref 131), (1, vi l1)] [vl z2, .ref 131] s1 _
    refine wr_put (z := z2) rfl rfl rfl rfl (by decide) rfl (by decide) rfl h3 (fit_l _) ?_
    show wr (4 * n + 150) tb_M70 232 [(18, vi l18), (13, vl l13), (11, vl l11), (9, vl l9), (15, vi l15), (17, vi l17), (16, vi l16), (19, vi l19), (7, vl l7), (5, vl l5), (3, vl l3), (2, vi l2), (0, .ref 131), (1, vi l1)] [] (up2 s1.1 131 7 z2, s1.2) _
    have hK4 : KI (up2 s1.1 131 7 z2) := (KI_up hK1 rfl (kb_no rfl))
    refine wr_n (pc2 := 237) (lv2 := [(18, vi l18), (13, vl l13), (11, vl l11), (9, vl l9), (15, vi l15), (17, vi l17), (16, vi l16), (19, vi l19), (7, vl l7), (5, vl l5), (3, vl l3), (2, vi l2), (0, .ref 131), (1, vi l1)]) (st2 := [vl l11, vl l5, .ref 131]) 3 (fun _ _ => rfl) ?_
    refine wr_anyl (a := l5) (b := l11) rfl rfl fun z5 h6 _ => ?_
    show wr (4 * n + 150) tb_M70 238 [(18, vi l18), (13, vl l13), (11, vl l11), (9, vl l9), (15, vi l15), (17, vi l17), (16, vi l16), (19, vi l19), (7, vl l7), (5, vl l5), (3, vl l3), (2, vi l2), (0, .ref 131), (1, vi l1)] [vl z5, .ref 131] (up2 s1.1 131 7 z2, s1.2) _
    refine wr_put (z := z5) rfl rfl rfl rfl (by decide) rfl (by decide) rfl h6 (fit_l _) ?_
    show wr (4 * n + 150) tb_M70 241 [(18, vi l18), (13, vl l13), (11, vl l11), (9, vl l9), (15, vi l15), (17, vi l17), (16, vi l16), (19, vi l19), (7, vl l7), (5, vl l5), (3, vl l3), (2, vi l2), (0, .ref 131), (1, vi l1)] [] (up2 (up2 s1.1 131 7 z2) 131 8 z5, s1.2) _
    have hK7 : KI (up2 (up2 s1.1 131 7 z2) 131 8 z5) := (KI_up (KI_up hK1 rfl (kb_no rfl)) rfl (kb_no rfl))
    refine wr_n (pc2 := 246) (lv2 := [(18, vi l18), (13, vl l13), (11, vl l11), (9, vl l9), (15, vi l15), (17, vi l17), (16, vi l16), (19, vi l19), (7, vl l7), (5, vl l5), (3, vl l3), (2, vi l2), (0, .ref 131), (1, vi l1)]) (st2 := [vl l13, vl l7, .ref 131]) 3 (fun _ _ => rfl) ?_
    refine wr_anyl (a := l7) (b := l13) rfl rfl fun z8 h9 _ => ?_
    show wr (4 * n + 150) tb_M70 247 [(18, vi l18), (13, vl l13), (11, vl l11), (9, vl l9), (15, vi l15), (17, vi l17), (16, vi l16), (19, vi l19), (7, vl l7), (5, vl l5), (3, vl l3), (2, vi l2), (0, .ref 131), (1, vi l1)] [vl z8, .ref 131] (up2 (up2 s1.1 131 7 z2) 131 8 z5, s1.2) _
    refine wr_put (z := z8) rfl rfl rfl rfl (by decide) rfl (by decide) rfl h9 (fit_l _) ?_
    show wr (4 * n + 150) tb_M70 250 [(18, vi l18), (13, vl l13), (11, vl l11), (9, vl l9), (15, vi l15), (17, vi l17), (16, vi l16), (19, vi l19), (7, vl l7), (5, vl l5), (3, vl l3), (2, vi l2), (0, .ref 131), (1, vi l1)] [] (up2 (up2 (up2 s1.1 131 7 z2) 131 8 z5) 131 9 z8, s1.2) _
    have hK10 : KI (up2 (up2 (up2 s1.1 131 7 z2) 131 8 z5) 131 9 z8) := (KI_up (KI_up (KI_up hK1 rfl (kb_no rfl)) rfl (kb_no rfl)) rfl (kb_no rfl))
    refine wr_n (pc2 := 252) (lv2 := [(18, vi l18), (13, vl l13), (11, vl l11), (9, vl l9), (15, vi l15), (17, vi l17), (16, vi l16), (19, vi l19), (7, vl l7), (5, vl l5), (3, vl l3), (2, vi l2), (0, .ref 131), (1, vi l1)]) (st2 := [vi l15]) 1 (fun _ _ => rfl) ?_
    by_cases h11 : l15 = 0
    · refine wr_if1t rfl rfl (by unfold i32; omega) h11 ?_
      obtain ⟨q12, hs12⟩ : ∃ qq9 : rS, qq9 = (up2 (up2 (up2 s1.1 131 7 z2) 131 8 z5) 131 9 z8, s1.2) := ⟨_, rfl⟩
      rw [← hs12]
      have hK12 : KI q12.1 := by rw [hs12]; exact hK10
      have hX12 : FX s0.1 q12.1 := by rw [hs12]; exact (FX_up (FX_up (FX_up hX1 (by unfold fx; omega)) (by unfold fx; omega)) (by unfold fx; omega))
      have hC12 : q12.2 = s0.2 := by rw [hs12]; exact hC1
      have hq12 : q12.1 131 1 = (C : Int) := by rw [hs12]; exact (show (up2 (up2 (up2 s1.1 131 7 z2) 131 8 z5) 131 9 z8) 131 1 = ((C : Nat) : Int) from ((if_neg (by omega)).trans ((if_neg (by omega)).trans ((if_neg (by omega)).trans hq1))))
      clear hs12
      exact k_branches_277 hC hSt l18 l13 l11 l9 l15 l17 l16 l19 l7 l5 l3 l2 l1 q12 hK12 hq12 hX12 hC12 (by omega) hl13 hl11 hl9 (by omega) (by omega) (by omega) (by omega) hl7 hl5 hl3 (by omega) (by omega)  
    · refine wr_if1f rfl rfl (by unfold i32; omega) h11 ?_
      refine wr_n (pc2 := 256) (lv2 := [(18, vi l18), (13, vl l13), (11, vl l11), (9, vl l9), (15, vi l15), (17, vi l17), (16, vi l16), (19, vi l19), (7, vl l7), (5, vl l5), (3, vl l3), (2, vi l2), (0, .ref 131), (1, vi l1)]) (st2 := [.ref 131]) 1 (fun _ _ => rfl) ?_
      refine wr_get (v := vi (s1.1 131 3)) rfl rfl rfl (by decide) rfl fun h13 => ?_
      have h13 : -2147483648 ≤ s1.1 131 3 ∧ s1.1 131 3 ≤ 2147483647 := h13
      show wr (4 * n + 150) tb_M70 259 [(18, vi l18), (13, vl l13), (11, vl l11), (9, vl l9), (15, vi l15), (17, vi l17), (16, vi l16), (19, vi l19), (7, vl l7), (5, vl l5), (3, vl l3), (2, vi l2), (0, .ref 131), (1, vi l1)] [vi (s1.1 131 3)] (up2 (up2 (up2 s1.1 131 7 z2) 131 8 z5) 131 9 z8, s1.2) _
      refine wr_n (pc2 := 261) (lv2 := [(18, vi l18), (13, vl l13), (11, vl l11), (9, vl l9), (15, vi l15), (17, vi l17), (16, vi l16), (19, vi l19), (7, vl l7), (5, vl l5), (3, vl l3), (2, vi l2), (0, .ref 131), (1, vi l1)]) (st2 := [vi ((-2)), vi (s1.1 131 3)]) 1 (fun _ _ => rfl) ?_
      by_cases h14 : s1.1 131 3 = (-2)
      · refine wr_if2t rfl rfl (by unfold i32; omega) (by unfold i32; omega) h14 ?_
        refine wr_n (pc2 := 274) (lv2 := [(18, vi l18), (13, vl l13), (11, vl l11), (9, vl l9), (15, vi l15), (17, vi l17), (16, vi l16), (19, vi l19), (7, vl l7), (5, vl l5), (3, vl l3), (2, vi l2), (0, .ref 131), (1, vi l1)]) (st2 := [vi l2, .ref 131]) 2 (fun _ _ => rfl) ?_
        refine wr_put (z := l2) rfl rfl rfl rfl (by decide) rfl (by decide) rfl (show -2147483648 ≤ l2 ∧ l2 ≤ 2147483647 by omega) (hf_int' _) ?_
        show wr (4 * n + 150) tb_M70 277 [(18, vi l18), (13, vl l13), (11, vl l11), (9, vl l9), (15, vi l15), (17, vi l17), (16, vi l16), (19, vi l19), (7, vl l7), (5, vl l5), (3, vl l3), (2, vi l2), (0, .ref 131), (1, vi l1)] [] (up2 (up2 (up2 (up2 s1.1 131 7 z2) 131 8 z5) 131 9 z8) 131 3 l2, s1.2) _
        have hK15 : KI (up2 (up2 (up2 (up2 s1.1 131 7 z2) 131 8 z5) 131 9 z8) 131 3 l2) := (KI_up (KI_up (KI_up (KI_up hK1 rfl (kb_no rfl)) rfl (kb_no rfl)) rfl (kb_no rfl)) rfl (kb_no rfl))
        obtain ⟨q16, hs16⟩ : ∃ qq9 : rS, qq9 = (up2 (up2 (up2 (up2 s1.1 131 7 z2) 131 8 z5) 131 9 z8) 131 3 l2, s1.2) := ⟨_, rfl⟩
        rw [← hs16]
        have hK16 : KI q16.1 := by rw [hs16]; exact hK15
        have hX16 : FX s0.1 q16.1 := by rw [hs16]; exact (FX_up (FX_up (FX_up (FX_up hX1 (by unfold fx; omega)) (by unfold fx; omega)) (by unfold fx; omega)) (by unfold fx; omega))
        have hC16 : q16.2 = s0.2 := by rw [hs16]; exact hC1
        have hq16 : q16.1 131 1 = (C : Int) := by rw [hs16]; exact (show (up2 (up2 (up2 (up2 s1.1 131 7 z2) 131 8 z5) 131 9 z8) 131 3 l2) 131 1 = ((C : Nat) : Int) from ((if_neg (by omega)).trans ((if_neg (by omega)).trans ((if_neg (by omega)).trans ((if_neg (by omega)).trans hq1)))))
        clear hs16
        exact k_branches_277 hC hSt l18 l13 l11 l9 l15 l17 l16 l19 l7 l5 l3 l2 l1 q16 hK16 hq16 hX16 hC16 (by omega) hl13 hl11 hl9 (by omega) (by omega) (by omega) (by omega) hl7 hl5 hl3 (by omega) (by omega)  
      · refine wr_if2f rfl rfl (by unfold i32; omega) (by unfold i32; omega) h14 ?_
        refine wr_n (pc2 := 266) (lv2 := [(18, vi l18), (13, vl l13), (11, vl l11), (9, vl l9), (15, vi l15), (17, vi l17), (16, vi l16), (19, vi l19), (7, vl l7), (5, vl l5), (3, vl l3), (2, vi l2), (0, .ref 131), (1, vi l1)]) (st2 := [.ref 131, vi l2]) 2 (fun _ _ => rfl) ?_
        refine wr_get (v := vi (s1.1 131 3)) rfl rfl rfl (by decide) rfl fun h17 => ?_
        have h17 : -2147483648 ≤ s1.1 131 3 ∧ s1.1 131 3 ≤ 2147483647 := h17
        show wr (4 * n + 150) tb_M70 269 [(18, vi l18), (13, vl l13), (11, vl l11), (9, vl l9), (15, vi l15), (17, vi l17), (16, vi l16), (19, vi l19), (7, vl l7), (5, vl l5), (3, vl l3), (2, vi l2), (0, .ref 131), (1, vi l1)] [vi (s1.1 131 3), vi l2] (up2 (up2 (up2 s1.1 131 7 z2) 131 8 z5) 131 9 z8, s1.2) _
        by_cases h18 : s1.1 131 3 ≤ l2
        · refine wr_if2t rfl rfl (by unfold i32; omega) (by unfold i32; omega) h18 ?_
          obtain ⟨q19, hs19⟩ : ∃ qq9 : rS, qq9 = (up2 (up2 (up2 s1.1 131 7 z2) 131 8 z5) 131 9 z8, s1.2) := ⟨_, rfl⟩
          rw [← hs19]
          have hK19 : KI q19.1 := by rw [hs19]; exact hK10
          have hX19 : FX s0.1 q19.1 := by rw [hs19]; exact (FX_up (FX_up (FX_up hX1 (by unfold fx; omega)) (by unfold fx; omega)) (by unfold fx; omega))
          have hC19 : q19.2 = s0.2 := by rw [hs19]; exact hC1
          have hq19 : q19.1 131 1 = (C : Int) := by rw [hs19]; exact (show (up2 (up2 (up2 s1.1 131 7 z2) 131 8 z5) 131 9 z8) 131 1 = ((C : Nat) : Int) from ((if_neg (by omega)).trans ((if_neg (by omega)).trans ((if_neg (by omega)).trans hq1))))
          clear hs19
          exact k_branches_277 hC hSt l18 l13 l11 l9 l15 l17 l16 l19 l7 l5 l3 l2 l1 q19 hK19 hq19 hX19 hC19 (by omega) hl13 hl11 hl9 (by omega) (by omega) (by omega) (by omega) hl7 hl5 hl3 (by omega) (by omega)  
        · refine wr_if2f rfl rfl (by unfold i32; omega) (by unfold i32; omega) h18 ?_
          refine wr_n (pc2 := 274) (lv2 := [(18, vi l18), (13, vl l13), (11, vl l11), (9, vl l9), (15, vi l15), (17, vi l17), (16, vi l16), (19, vi l19), (7, vl l7), (5, vl l5), (3, vl l3), (2, vi l2), (0, .ref 131), (1, vi l1)]) (st2 := [vi l2, .ref 131]) 2 (fun _ _ => rfl) ?_
          refine wr_put (z := l2) rfl rfl rfl rfl (by decide) rfl (by decide) rfl (show -2147483648 ≤ l2 ∧ l2 ≤ 2147483647 by omega) (hf_int' _) ?_
          show wr (4 * n + 150) tb_M70 277 [(18, vi l18), (13, vl l13), (11, vl l11), (9, vl l9), (15, vi l15), (17, vi l17), (16, vi l16), (19, vi l19), (7, vl l7), (5, vl l5), (3, vl l3), (2, vi l2), (0, .ref 131), (1, vi l1)] [] (up2 (up2 (up2 (up2 s1.1 131 7 z2) 131 8 z5) 131 9 z8) 131 3 l2, s1.2) _
          have hK20 : KI (up2 (up2 (up2 (up2 s1.1 131 7 z2) 131 8 z5) 131 9 z8) 131 3 l2) := (KI_up (KI_up (KI_up (KI_up hK1 rfl (kb_no rfl)) rfl (kb_no rfl)) rfl (kb_no rfl)) rfl (kb_no rfl))
          obtain ⟨q21, hs21⟩ : ∃ qq9 : rS, qq9 = (up2 (up2 (up2 (up2 s1.1 131 7 z2) 131 8 z5) 131 9 z8) 131 3 l2, s1.2) := ⟨_, rfl⟩
          rw [← hs21]
          have hK21 : KI q21.1 := by rw [hs21]; exact hK20
          have hX21 : FX s0.1 q21.1 := by rw [hs21]; exact (FX_up (FX_up (FX_up (FX_up hX1 (by unfold fx; omega)) (by unfold fx; omega)) (by unfold fx; omega)) (by unfold fx; omega))
          have hC21 : q21.2 = s0.2 := by rw [hs21]; exact hC1
          have hq21 : q21.1 131 1 = (C : Int) := by rw [hs21]; exact (show (up2 (up2 (up2 (up2 s1.1 131 7 z2) 131 8 z5) 131 9 z8) 131 3 l2) 131 1 = ((C : Nat) : Int) from ((if_neg (by omega)).trans ((if_neg (by omega)).trans ((if_neg (by omega)).trans ((if_neg (by omega)).trans hq1)))))
          clear hs21
          exact k_branches_277 hC hSt l18 l13 l11 l9 l15 l17 l16 l19 l7 l5 l3 l2 l1 q21 hK21 hq21 hX21 hC21 (by omega) hl13 hl11 hl9 (by omega) (by omega) (by omega) (by omega) hl7 hl5 hl3 (by omega) (by omega)  
  · refine .inr ⟨rfl, ?_⟩
    exact ⟨hK1, (FX_tr hX hY1), .inr ⟨rfl, TH hc hc1⟩⟩
set_option maxHeartbeats 20000000 in
set_option maxRecDepth 100000 in
theorem k_branches_53v2 {s0 : rS} {C : Nat} (hC : C = 99 ∨ C = 115) {n : Nat} (hSt : JSt n)  : ∀ (w : Nat) (l18 : Int) (l13 : Int) (l11 : Int) (l9 : Int) (l15 : Int) (l17 : Int) (l16 : Int) (l19 : Int) (l7 : Int) (l5 : Int) (l3 : Int) (l2 : Int) (l1 : Int) (s : rS), (6 - l18).toNat = w → KI s.1 → s.1 131 1 = (C : Int) → FX s0.1 s.1 → s.2 = s0.2 → 0 ≤ l18 ∧ l18 ≤ 6 → i64 l13 → i64 l11 → i64 l9 → (-2147483648) ≤ l15 ∧ l15 ≤ 2147483647 → (-2147483648) ≤ l17 ∧ l17 ≤ 2147483647 → (-2147483648) ≤ l16 ∧ l16 ≤ 2147483647 → (-2147483648) ≤ l19 ∧ l19 ≤ 2147483647 → i64 l7 → i64 l5 → i64 l3 → (-2147483648) ≤ l2 ∧ l2 ≤ 2147483647 → 0 ≤ l1 ∧ l1 ≤ 20 → 20 - l1 < (n : Int) → wr (4 * n + 150) tb_M70 53 [(18, vi l18), (13, vl l13), (11, vl l11), (9, vl l9), (15, vi l15), (17, vi l17), (16, vi l16), (19, vi l19), (7, vl l7), (5, vl l5), (3, vl l3), (2, vi l2), (0, .ref 131), (1, vi l1)] [] s (TZ (fun z => True) s0) := by
  intro w
  induction w using Nat.strongRecOn with | ind w ih => ?_
  intro l18 l13 l11 l9 l15 l17 l16 l19 l7 l5 l3 l2 l1 s hw hK hq hX hc hl18 hl13 hl11 hl9 hl15 hl17 hl16 hl19 hl7 hl5 hl3 hl2 hl1 hx0
  refine wr_n (pc2 := 56) (lv2 := [(18, vi l18), (13, vl l13), (11, vl l11), (9, vl l9), (15, vi l15), (17, vi l17), (16, vi l16), (19, vi l19), (7, vl l7), (5, vl l5), (3, vl l3), (2, vi l2), (0, .ref 131), (1, vi l1)]) (st2 := [vi 2, vi l18]) 2 (fun _ _ => rfl) ?_
  by_cases h1 : l18 < 2
  · refine wr_if2t rfl rfl (by unfold i32; omega) (by unfold i32; omega) h1 ?_
    refine wr_n (pc2 := 81) (lv2 := [(18, vi l18), (13, vl l13), (11, vl l11), (9, vl l9), (15, vi l15), (17, vi l17), (16, vi l16), (19, vi l19), (7, vl l7), (5, vl l5), (3, vl l3), (2, vi l2), (0, .ref 131), (1, vi l1)]) (st2 := [vi l18, .ref 131]) 2 (fun _ _ => rfl) ?_
    by_cases h2 : l18 ≠ 0
    · refine wr_if1t rfl rfl (by unfold i32; omega) h2 ?_
      refine wr_n (pc2 := 91) (lv2 := [(18, vi l18), (13, vl l13), (11, vl l11), (9, vl l9), (15, vi l15), (17, vi l17), (16, vi l16), (19, vi l19), (7, vl l7), (5, vl l5), (3, vl l3), (2, vi l2), (0, .ref 131), (1, vi l1)]) (st2 := [vi 124, .ref 131]) 1 (fun _ _ => rfl) ?_
      refine wr_call1T (args := [vi 124]) (rest := []) rfl rfl rfl rfl (Nat.le_of_ble_eq_true rfl) rfl (cr_mono (k_expect (d := 4 * n + 148) (x := 124) s hK (by omega)) ?_)
      rintro s3 out ⟨hK3, hY3, ⟨hc3, rfl⟩ | ⟨rfl, hc3⟩⟩
      · refine .inl ⟨_, rfl, ?_⟩
        have hX3 : FX s0.1 s3.1 := FX_tr hX hY3
        have hC3 : s3.2 = s0.2 := hc3.trans hc
        have hq3 : s3.1 131 1 = (C : Int) := (hY3 131 1 (by unfold fx; omega)).trans hq
        show wr (4 * n + 150) tb_M70 94 [(18, vi l18), (13, vl l13), (11, vl l11), (9, vl l9), (15, vi l15), (17, vi l17), (16, vi l16), (19, vi l19), (7, vl l7), (5, vl l5), (3, vl l3), (2, vi l2), (0, .ref 131), (1, vi l1)] [] s3 _
        refine wr_n (pc2 := 96) (lv2 := [(18, vi l18), (13, vl l13), (11, vl l11), (9, vl l9), (15, vi l15), (17, vi l17), (16, vi l16), (19, vi l19), (7, vl l7), (5, vl l5), (3, vl l3), (2, vi l2), (0, .ref 131), (1, vi l1)]) (st2 := [vl 0, .ref 131]) 2 (fun _ _ => rfl) ?_
        refine wr_put (z := 0) rfl rfl rfl rfl (by decide) rfl (by decide) rfl (by first | exact ⟨by omega, by omega⟩ | assumption) (fit_l _) ?_
        show wr (4 * n + 150) tb_M70 99 [(18, vi l18), (13, vl l13), (11, vl l11), (9, vl l9), (15, vi l15), (17, vi l17), (16, vi l16), (19, vi l19), (7, vl l7), (5, vl l5), (3, vl l3), (2, vi l2), (0, .ref 131), (1, vi l1)] [] (up2 s3.1 131 7 0, s3.2) _
        have hK4 : KI (up2 s3.1 131 7 0) := (KI_up hK3 rfl (kb_no rfl))
        refine wr_n (pc2 := 101) (lv2 := [(18, vi l18), (13, vl l13), (11, vl l11), (9, vl l9), (15, vi l15), (17, vi l17), (16, vi l16), (19, vi l19), (7, vl l7), (5, vl l5), (3, vl l3), (2, vi l2), (0, .ref 131), (1, vi l1)]) (st2 := [vl 0, .ref 131]) 2 (fun _ _ => rfl) ?_
        refine wr_put (z := 0) rfl rfl rfl rfl (by decide) rfl (by decide) rfl (by first | exact ⟨by omega, by omega⟩ | assumption) (fit_l _) ?_
        show wr (4 * n + 150) tb_M70 104 [(18, vi l18), (13, vl l13), (11, vl l11), (9, vl l9), (15, vi l15), (17, vi l17), (16, vi l16), (19, vi l19), (7, vl l7), (5, vl l5), (3, vl l3), (2, vi l2), (0, .ref 131), (1, vi l1)] [] (up2 (up2 s3.1 131 7 0) 131 8 0, s3.2) _
        have hK5 : KI (up2 (up2 s3.1 131 7 0) 131 8 0) := (KI_up (KI_up hK3 rfl (kb_no rfl)) rfl (kb_no rfl))
        refine wr_n (pc2 := 106) (lv2 := [(18, vi l18), (13, vl l13), (11, vl l11), (9, vl l9), (15, vi l15), (17, vi l17), (16, vi l16), (19, vi l19), (7, vl l7), (5, vl l5), (3, vl l3), (2, vi l2), (0, .ref 131), (1, vi l1)]) (st2 := [vl 0, .ref 131]) 2 (fun _ _ => rfl) ?_
        refine wr_put (z := 0) rfl rfl rfl rfl (by decide) rfl (by decide) rfl (by first | exact ⟨by omega, by omega⟩ | assumption) (fit_l _) ?_
        show wr (4 * n + 150) tb_M70 109 [(18, vi l18), (13, vl l13), (11, vl l11), (9, vl l9), (15, vi l15), (17, vi l17), (16, vi l16), (19, vi l19), (7, vl l7), (5, vl l5), (3, vl l3), (2, vi l2), (0, .ref 131), (1, vi l1)] [] (up2 (up2 (up2 s3.1 131 7 0) 131 8 0) 131 9 0, s3.2) _
        have hK6 : KI (up2 (up2 (up2 s3.1 131 7 0) 131 8 0) 131 9 0) := (KI_up (KI_up (KI_up hK3 rfl (kb_no rfl)) rfl (kb_no rfl)) rfl (kb_no rfl))
        refine wr_n (pc2 := 112) (lv2 := [(18, vi l18), (13, vl l13), (11, vl l11), (9, vl l9), (15, vi l15), (17, vi l17), (16, vi l16), (19, vi l19), (7, vl l7), (5, vl l5), (3, vl l3), (2, vi l2), (0, .ref 131), (1, vi l1)]) (st2 := [vi 1, vi l1, .ref 131]) 3 (fun _ _ => rfl) ?_
        refine wr_add (a := l1) (b := 1) rfl ?_
        show wr (4 * n + 150) tb_M70 113 [(18, vi l18), (13, vl l13), (11, vl l11), (9, vl l9), (15, vi l15), (17, vi l17), (16, vi l16), (19, vi l19), (7, vl l7), (5, vl l5), (3, vl l3), (2, vi l2), (0, .ref 131), (1, vi l1)] [vi (l1 + 1), .ref 131] (up2 (up2 (up2 s3.1 131 7 0) 131 8 0) 131 9 0, s3.2) _
        refine wr_call1T (args := [vi (l1 + 1)]) (rest := []) rfl rfl rfl rfl (Nat.le_of_ble_eq_true rfl) rfl (cr_mono (hSt C (up2 (up2 (up2 s3.1 131 7 0) 131 8 0) 131 9 0, s3.2) (l1 + 1) hC hK6 (show (up2 (up2 (up2 s3.1 131 7 0) 131 8 0) 131 9 0) 131 1 = ((C : Nat) : Int) from ((if_neg (by omega)).trans ((if_neg (by omega)).trans ((if_neg (by omega)).trans hq3)))) (by omega)) ?_)
        rintro s7 out ⟨hK7, hY7, ⟨z7, hc7, rfl, hz7, hp7⟩ | ⟨rfl, hc7⟩⟩
        · refine .inl ⟨_, rfl, ?_⟩
          have hX7 : FX s0.1 s7.1 := FX_tr (FX_up (FX_up (FX_up hX3 (by unfold fx; omega)) (by unfold fx; omega)) (by unfold fx; omega)) hY7
          have hC7 : s7.2 = s0.2 := hc7.trans hC3
          have hq7 : s7.1 131 1 = (C : Int) := (hY7 131 1 (by unfold fx; omega)).trans (show (up2 (up2 (up2 s3.1 131 7 0) 131 8 0) 131 9 0) 131 1 = ((C : Nat) : Int) from ((if_neg (by omega)).trans ((if_neg (by omega)).trans ((if_neg (by omega)).trans hq3))))
          unfold i32 at hz7
          clear hp7
          show wr (4 * n + 150) tb_M70 116 [(18, vi l18), (13, vl l13), (11, vl l11), (9, vl l9), (15, vi l15), (17, vi l17), (16, vi l16), (19, vi l19), (7, vl l7), (5, vl l5), (3, vl l3), (2, vi l2), (0, .ref 131), (1, vi l1)] [vi z7] s7 _
          refine wr_n (pc2 := 119) (lv2 := [(19, vi z7), (18, vi l18), (13, vl l13), (11, vl l11), (9, vl l9), (15, vi l15), (17, vi l17), (16, vi l16), (7, vl l7), (5, vl l5), (3, vl l3), (2, vi l2), (0, .ref 131), (1, vi l1)]) (st2 := [.ref 131]) 2 (fun _ _ => rfl) ?_
          refine wr_get (v := .ref C) rfl rfl rfl (by decide) (rv_ref (show (s7.1) 131 1 = ((C : Nat) : Int) from hq7)) fun h8 => ?_
          show wr (4 * n + 150) tb_M70 122 [(19, vi z7), (18, vi l18), (13, vl l13), (11, vl l11), (9, vl l9), (15, vi l15), (17, vi l17), (16, vi l16), (7, vl l7), (5, vl l5), (3, vl l3), (2, vi l2), (0, .ref 131), (1, vi l1)] [.ref C] s7 _
          refine wr_n (pc2 := 126) (lv2 := [(19, vi z7), (18, vi l18), (13, vl l13), (11, vl l11), (9, vl l9), (15, vi l15), (17, vi l17), (16, vi l16), (7, vl l7), (5, vl l5), (3, vl l3), (2, vi l2), (0, .ref 131), (1, vi l1)]) (st2 := [vi z7, vi l17, .ref C]) 2 (fun _ _ => rfl) ?_
          refine wr_call1 (args := [vi l17, vi z7]) (rest := []) rfl rfl rfl (TK0 hC) (Nat.le_of_ble_eq_true rfl) (cr_mono (k_link (d := 4 * n + 148) (C := C) hC (x := l17) (y := z7) s7 hK7 (by omega) (by omega)) ?_)
          rintro s9 out ⟨hK9, hY9, hc9, rfl⟩
          refine ⟨_, rfl, ?_⟩
          have hX9 : FX s0.1 s9.1 := FX_tr hX7 hY9
          have hC9 : s9.2 = s0.2 := hc9.trans hC7
          have hq9 : s9.1 131 1 = (C : Int) := (hY9 131 1 (by unfold fx; omega)).trans hq7
          show wr (4 * n + 150) tb_M70 129 [(19, vi z7), (18, vi l18), (13, vl l13), (11, vl l11), (9, vl l9), (15, vi l15), (17, vi l17), (16, vi l16), (7, vl l7), (5, vl l5), (3, vl l3), (2, vi l2), (0, .ref 131), (1, vi l1)] [] s9 _
          refine wr_n (pc2 := 131) (lv2 := [(19, vi z7), (18, vi l18), (13, vl l13), (11, vl l11), (9, vl l9), (15, vi l15), (17, vi l17), (16, vi l16), (7, vl l7), (5, vl l5), (3, vl l3), (2, vi l2), (0, .ref 131), (1, vi l1)]) (st2 := [vi l18]) 1 (fun _ _ => rfl) ?_
          by_cases h10 : l18 ≠ 0
          · refine wr_if1t rfl rfl (by unfold i32; omega) h10 ?_
            refine wr_n (pc2 := 150) (lv2 := [(17, vi z7), (16, vi l16), (19, vi z7), (18, vi l18), (13, vl l13), (11, vl l11), (9, vl l9), (15, vi l15), (7, vl l7), (5, vl l5), (3, vl l3), (2, vi l2), (0, .ref 131), (1, vi l1)]) (st2 := [.ref 131, vi l15]) 6 (fun _ _ => rfl) ?_
            refine wr_get (v := vl (s9.1 131 8)) rfl rfl rfl (by decide) rfl fun h11 => ?_
            show wr (4 * n + 150) tb_M70 153 [(17, vi z7), (16, vi l16), (19, vi z7), (18, vi l18), (13, vl l13), (11, vl l11), (9, vl l9), (15, vi l15), (7, vl l7), (5, vl l5), (3, vl l3), (2, vi l2), (0, .ref 131), (1, vi l1)] [vl (s9.1 131 8), vi l15] s9 _
            refine wr_n (pc2 := 155) (lv2 := [(17, vi z7), (16, vi l16), (19, vi z7), (18, vi l18), (13, vl l13), (11, vl l11), (9, vl l9), (15, vi l15), (7, vl l7), (5, vl l5), (3, vl l3), (2, vi l2), (0, .ref 131), (1, vi l1)]) (st2 := [vl l9, vl (s9.1 131 8), vi l15]) 1 (fun _ _ => rfl) ?_
            refine wr_anyl (a := s9.1 131 8) (b := l9) rfl rfl fun z12 h13 _ => ?_
            show wr (4 * n + 150) tb_M70 156 [(17, vi z7), (16, vi l16), (19, vi z7), (18, vi l18), (13, vl l13), (11, vl l11), (9, vl l9), (15, vi l15), (7, vl l7), (5, vl l5), (3, vl l3), (2, vi l2), (0, .ref 131), (1, vi l1)] [vl z12, vi l15] s9 _
            refine wr_n (pc2 := 157) (lv2 := [(17, vi z7), (16, vi l16), (19, vi z7), (18, vi l18), (13, vl l13), (11, vl l11), (9, vl l9), (15, vi l15), (7, vl l7), (5, vl l5), (3, vl l3), (2, vi l2), (0, .ref 131), (1, vi l1)]) (st2 := [.ref 131, vl z12, vi l15]) 1 (fun _ _ => rfl) ?_
            refine wr_get (v := vl (s9.1 131 7)) rfl rfl rfl (by decide) rfl fun h14 => ?_
            show wr (4 * n + 150) tb_M70 160 [(17, vi z7), (16, vi l16), (19, vi z7), (18, vi l18), (13, vl l13), (11, vl l11), (9, vl l9), (15, vi l15), (7, vl l7), (5, vl l5), (3, vl l3), (2, vi l2), (0, .ref 131), (1, vi l1)] [vl (s9.1 131 7), vl z12, vi l15] s9 _
            refine wr_n (pc2 := 162) (lv2 := [(17, vi z7), (16, vi l16), (19, vi z7), (18, vi l18), (13, vl l13), (11, vl l11), (9, vl l9), (15, vi l15), (7, vl l7), (5, vl l5), (3, vl l3), (2, vi l2), (0, .ref 131), (1, vi l1)]) (st2 := [vl l11, vl (s9.1 131 7), vl z12, vi l15]) 1 (fun _ _ => rfl) ?_
            refine wr_anyl (a := s9.1 131 7) (b := l11) rfl rfl fun z15 h16 _ => ?_
            show wr (4 * n + 150) tb_M70 163 [(17, vi z7), (16, vi l16), (19, vi z7), (18, vi l18), (13, vl l13), (11, vl l11), (9, vl l9), (15, vi l15), (7, vl l7), (5, vl l5), (3, vl l3), (2, vi l2), (0, .ref 131), (1, vi l1)] [vl z15, vl z12, vi l15] s9 _
            refine wr_anyl (a := z12) (b := z15) rfl rfl fun z17 h18 _ => ?_
            show wr (4 * n + 150) tb_M70 164 [(17, vi z7), (16, vi l16), (19, vi z7), (18, vi l18), (13, vl l13), (11, vl l11), (9, vl l9), (15, vi l15), (7, vl l7), (5, vl l5), (3, vl l3), (2, vi l2), (0, .ref 131), (1, vi l1)] [vl z17, vi l15] s9 _
            refine wr_n (pc2 := 165) (lv2 := [(17, vi z7), (16, vi l16), (19, vi z7), (18, vi l18), (13, vl l13), (11, vl l11), (9, vl l9), (15, vi l15), (7, vl l7), (5, vl l5), (3, vl l3), (2, vi l2), (0, .ref 131), (1, vi l1)]) (st2 := [.ref 131, vl z17, vi l15]) 1 (fun _ _ => rfl) ?_
            refine wr_get (v := vl (s9.1 131 9)) rfl rfl rfl (by decide) rfl fun h19 => ?_
            show wr (4 * n + 150) tb_M70 168 [(17, vi z7), (16, vi l16), (19, vi z7), (18, vi l18), (13, vl l13), (11, vl l11), (9, vl l9), (15, vi l15), (7, vl l7), (5, vl l5), (3, vl l3), (2, vi l2), (0, .ref 131), (1, vi l1)] [vl (s9.1 131 9), vl z17, vi l15] s9 _
            refine wr_n (pc2 := 170) (lv2 := [(17, vi z7), (16, vi l16), (19, vi z7), (18, vi l18), (13, vl l13), (11, vl l11), (9, vl l9), (15, vi l15), (7, vl l7), (5, vl l5), (3, vl l3), (2, vi l2), (0, .ref 131), (1, vi l1)]) (st2 := [vl l13, vl (s9.1 131 9), vl z17, vi l15]) 1 (fun _ _ => rfl) ?_
            refine wr_anyl (a := s9.1 131 9) (b := l13) rfl rfl fun z20 h21 _ => ?_
            show wr (4 * n + 150) tb_M70 171 [(17, vi z7), (16, vi l16), (19, vi z7), (18, vi l18), (13, vl l13), (11, vl l11), (9, vl l9), (15, vi l15), (7, vl l7), (5, vl l5), (3, vl l3), (2, vi l2), (0, .ref 131), (1, vi l1)] [vl z20, vl z17, vi l15] s9 _
            refine wr_anyl (a := z17) (b := z20) rfl rfl fun z22 h23 _ => ?_
            show wr (4 * n + 150) tb_M70 172 [(17, vi z7), (16, vi l16), (19, vi z7), (18, vi l18), (13, vl l13), (11, vl l11), (9, vl l9), (15, vi l15), (7, vl l7), (5, vl l5), (3, vl l3), (2, vi l2), (0, .ref 131), (1, vi l1)] [vl z22, vi l15] s9 _
            refine wr_n (pc2 := 173) (lv2 := [(17, vi z7), (16, vi l16), (19, vi z7), (18, vi l18), (13, vl l13), (11, vl l11), (9, vl l9), (15, vi l15), (7, vl l7), (5, vl l5), (3, vl l3), (2, vi l2), (0, .ref 131), (1, vi l1)]) (st2 := [vl 0, vl z22, vi l15]) 1 (fun _ _ => rfl) ?_
            refine wr_lcmp (a := z22) (b := 0) rfl h23 (by unfold i64; omega) fun z24 h25 => ?_
            show wr (4 * n + 150) tb_M70 174 [(17, vi z7), (16, vi l16), (19, vi z7), (18, vi l18), (13, vl l13), (11, vl l11), (9, vl l9), (15, vi l15), (7, vl l7), (5, vl l5), (3, vl l3), (2, vi l2), (0, .ref 131), (1, vi l1)] [vi z24, vi l15] s9 _
            by_cases h26 : z24 = 0
            · refine wr_if1t rfl rfl (by unfold i32; omega) h26 ?_
              refine wr_n (pc2 := 182) (lv2 := [(17, vi z7), (16, vi l16), (19, vi z7), (18, vi l18), (13, vl l13), (11, vl l11), (9, vl l9), (15, vi l15), (7, vl l7), (5, vl l5), (3, vl l3), (2, vi l2), (0, .ref 131), (1, vi l1)]) (st2 := [vi 0, vi l15]) 1 (fun _ _ => rfl) ?_
              refine wr_any2 rfl rfl fun z27 h28 => ?_
              unfold i32 at h28
              show wr (4 * n + 150) tb_M70 183 [(17, vi z7), (16, vi l16), (19, vi z7), (18, vi l18), (13, vl l13), (11, vl l11), (9, vl l9), (15, vi l15), (7, vl l7), (5, vl l5), (3, vl l3), (2, vi l2), (0, .ref 131), (1, vi l1)] [vi z27] s9 _
              refine wr_n (pc2 := 188) (lv2 := [(15, vi z27), (17, vi z7), (16, vi l16), (19, vi z7), (18, vi l18), (13, vl l13), (11, vl l11), (9, vl l9), (7, vl l7), (5, vl l5), (3, vl l3), (2, vi l2), (0, .ref 131), (1, vi l1)]) (st2 := [.ref 131, vl l9]) 3 (fun _ _ => rfl) ?_
              refine wr_get (v := vl (s9.1 131 7)) rfl rfl rfl (by decide) rfl fun h29 => ?_
              show wr (4 * n + 150) tb_M70 191 [(15, vi z27), (17, vi z7), (16, vi l16), (19, vi z7), (18, vi l18), (13, vl l13), (11, vl l11), (9, vl l9), (7, vl l7), (5, vl l5), (3, vl l3), (2, vi l2), (0, .ref 131), (1, vi l1)] [vl (s9.1 131 7), vl l9] s9 _
              refine wr_anyl (a := l9) (b := s9.1 131 7) rfl rfl fun z30 h31 _ => ?_
              show wr (4 * n + 150) tb_M70 192 [(15, vi z27), (17, vi z7), (16, vi l16), (19, vi z7), (18, vi l18), (13, vl l13), (11, vl l11), (9, vl l9), (7, vl l7), (5, vl l5), (3, vl l3), (2, vi l2), (0, .ref 131), (1, vi l1)] [vl z30] s9 _
              refine wr_n (pc2 := 197) (lv2 := [(9, vl z30), (15, vi z27), (17, vi z7), (16, vi l16), (19, vi z7), (18, vi l18), (13, vl l13), (11, vl l11), (7, vl l7), (5, vl l5), (3, vl l3), (2, vi l2), (0, .ref 131), (1, vi l1)]) (st2 := [.ref 131, vl l11]) 3 (fun _ _ => rfl) ?_
              refine wr_get (v := vl (s9.1 131 8)) rfl rfl rfl (by decide) rfl fun h32 => ?_
              show wr (4 * n + 150) tb_M70 200 [(9, vl z30), (15, vi z27), (17, vi z7), (16, vi l16), (19, vi z7), (18, vi l18), (13, vl l13), (11, vl l11), (7, vl l7), (5, vl l5), (3, vl l3), (2, vi l2), (0, .ref 131), (1, vi l1)] [vl (s9.1 131 8), vl l11] s9 _
              refine wr_anyl (a := l11) (b := s9.1 131 8) rfl rfl fun z33 h34 _ => ?_
              show wr (4 * n + 150) tb_M70 201 [(9, vl z30), (15, vi z27), (17, vi z7), (16, vi l16), (19, vi z7), (18, vi l18), (13, vl l13), (11, vl l11), (7, vl l7), (5, vl l5), (3, vl l3), (2, vi l2), (0, .ref 131), (1, vi l1)] [vl z33] s9 _
              refine wr_n (pc2 := 206) (lv2 := [(11, vl z33), (9, vl z30), (15, vi z27), (17, vi z7), (16, vi l16), (19, vi z7), (18, vi l18), (13, vl l13), (7, vl l7), (5, vl l5), (3, vl l3), (2, vi l2), (0, .ref 131), (1, vi l1)]) (st2 := [.ref 131, vl l13]) 3 (fun _ _ => rfl) ?_
              refine wr_get (v := vl (s9.1 131 9)) rfl rfl rfl (by decide) rfl fun h35 => ?_
              show wr (4 * n + 150) tb_M70 209 [(11, vl z33), (9, vl z30), (15, vi z27), (17, vi z7), (16, vi l16), (19, vi z7), (18, vi l18), (13, vl l13), (7, vl l7), (5, vl l5), (3, vl l3), (2, vi l2), (0, .ref 131), (1, vi l1)] [vl (s9.1 131 9), vl l13] s9 _
              refine wr_anyl (a := l13) (b := s9.1 131 9) rfl rfl fun z36 h37 _ => ?_
              show wr (4 * n + 150) tb_M70 210 [(11, vl z33), (9, vl z30), (15, vi z27), (17, vi z7), (16, vi l16), (19, vi z7), (18, vi l18), (13, vl l13), (7, vl l7), (5, vl l5), (3, vl l3), (2, vi l2), (0, .ref 131), (1, vi l1)] [vl z36] s9 _
              refine wr_n (pc2 := 212) (lv2 := [(13, vl z36), (11, vl z33), (9, vl z30), (15, vi z27), (17, vi z7), (16, vi l16), (19, vi z7), (18, vi l18), (7, vl l7), (5, vl l5), (3, vl l3), (2, vi l2), (0, .ref 131), (1, vi l1)]) (st2 := []) 1 (fun _ _ => rfl) ?_
              refine wr_inc (a := l18) rfl rfl ?_
              show wr (4 * n + 150) tb_M70 215 [(18, vi (l18 + 1)), (13, vl z36), (11, vl z33), (9, vl z30), (15, vi z27), (17, vi z7), (16, vi l16), (19, vi z7), (7, vl l7), (5, vl l5), (3, vl l3), (2, vi l2), (0, .ref 131), (1, vi l1)] [] s9 _
              refine wr_n (pc2 := 53) (lv2 := [(18, vi (l18 + 1)), (13, vl z36), (11, vl z33), (9, vl z30), (15, vi z27), (17, vi z7), (16, vi l16), (19, vi z7), (7, vl l7), (5, vl l5), (3, vl l3), (2, vi l2), (0, .ref 131), (1, vi l1)]) (st2 := []) 1 (fun _ _ => rfl) ?_
              exact ih _ (by omega) (l18 + 1) z36 z33 z30 z27 z7 l16 z7 l7 l5 l3 l2 l1 s9 rfl hK9 hq9 hX9 hC9 (by omega) h37 h34 h31 (by omega) (by omega) (by omega) (by omega) hl7 hl5 hl3 (by omega) (by omega) (by omega) 
            · refine wr_if1f rfl rfl (by unfold i32; omega) h26 ?_
              refine wr_n (pc2 := 182) (lv2 := [(17, vi z7), (16, vi l16), (19, vi z7), (18, vi l18), (13, vl l13), (11, vl l11), (9, vl l9), (15, vi l15), (7, vl l7), (5, vl l5), (3, vl l3), (2, vi l2), (0, .ref 131), (1, vi l1)]) (st2 := [vi 1, vi l15]) 2 (fun _ _ => rfl) ?_
              refine wr_any2 rfl rfl fun z38 h39 => ?_
              unfold i32 at h39
              show wr (4 * n + 150) tb_M70 183 [(17, vi z7), (16, vi l16), (19, vi z7), (18, vi l18), (13, vl l13), (11, vl l11), (9, vl l9), (15, vi l15), (7, vl l7), (5, vl l5), (3, vl l3), (2, vi l2), (0, .ref 131), (1, vi l1)] [vi z38] s9 _
              refine wr_n (pc2 := 188) (lv2 := [(15, vi z38), (17, vi z7), (16, vi l16), (19, vi z7), (18, vi l18), (13, vl l13), (11, vl l11), (9, vl l9), (7, vl l7), (5, vl l5), (3, vl l3), (2, vi l2), (0, .ref 131), (1, vi l1)]) (st2 := [.ref 131, vl l9]) 3 (fun _ _ => rfl) ?_
              refine wr_get (v := vl (s9.1 131 7)) rfl rfl rfl (by decide) rfl fun h40 => ?_
              show wr (4 * n + 150) tb_M70 191 [(15, vi z38), (17, vi z7), (16, vi l16), (19, vi z7), (18, vi l18), (13, vl l13), (11, vl l11), (9, vl l9), (7, vl l7), (5, vl l5), (3, vl l3), (2, vi l2), (0, .ref 131), (1, vi l1)] [vl (s9.1 131 7), vl l9] s9 _
              refine wr_anyl (a := l9) (b := s9.1 131 7) rfl rfl fun z41 h42 _ => ?_
              show wr (4 * n + 150) tb_M70 192 [(15, vi z38), (17, vi z7), (16, vi l16), (19, vi z7), (18, vi l18), (13, vl l13), (11, vl l11), (9, vl l9), (7, vl l7), (5, vl l5), (3, vl l3), (2, vi l2), (0, .ref 131), (1, vi l1)] [vl z41] s9 _
              refine wr_n (pc2 := 197) (lv2 := [(9, vl z41), (15, vi z38), (17, vi z7), (16, vi l16), (19, vi z7), (18, vi l18), (13, vl l13), (11, vl l11), (7, vl l7), (5, vl l5), (3, vl l3), (2, vi l2), (0, .ref 131), (1, vi l1)]) (st2 := [.ref 131, vl l11]) 3 (fun _ _ => rfl) ?_
              refine wr_get (v := vl (s9.1 131 8)) rfl rfl rfl (by decide) rfl fun h43 => ?_
              show wr (4 * n + 150) tb_M70 200 [(9, vl z41), (15, vi z38), (17, vi z7), (16, vi l16), (19, vi z7), (18, vi l18), (13, vl l13), (11, vl l11), (7, vl l7), (5, vl l5), (3, vl l3), (2, vi l2), (0, .ref 131), (1, vi l1)] [vl (s9.1 131 8), vl l11] s9 _
              refine wr_anyl (a := l11) (b := s9.1 131 8) rfl rfl fun z44 h45 _ => ?_
              show wr (4 * n + 150) tb_M70 201 [(9, vl z41), (15, vi z38), (17, vi z7), (16, vi l16), (19, vi z7), (18, vi l18), (13, vl l13), (11, vl l11), (7, vl l7), (5, vl l5), (3, vl l3), (2, vi l2), (0, .ref 131), (1, vi l1)] [vl z44] s9 _
              refine wr_n (pc2 := 206) (lv2 := [(11, vl z44), (9, vl z41), (15, vi z38), (17, vi z7), (16, vi l16), (19, vi z7), (18, vi l18), (13, vl l13), (7, vl l7), (5, vl l5), (3, vl l3), (2, vi l2), (0, .ref 131), (1, vi l1)]) (st2 := [.ref 131, vl l13]) 3 (fun _ _ => rfl) ?_
              refine wr_get (v := vl (s9.1 131 9)) rfl rfl rfl (by decide) rfl fun h46 => ?_
              show wr (4 * n + 150) tb_M70 209 [(11, vl z44), (9, vl z41), (15, vi z38), (17, vi z7), (16, vi l16), (19, vi z7), (18, vi l18), (13, vl l13), (7, vl l7), (5, vl l5), (3, vl l3), (2, vi l2), (0, .ref 131), (1, vi l1)] [vl (s9.1 131 9), vl l13] s9 _
              refine wr_anyl (a := l13) (b := s9.1 131 9) rfl rfl fun z47 h48 _ => ?_
              show wr (4 * n + 150) tb_M70 210 [(11, vl z44), (9, vl z41), (15, vi z38), (17, vi z7), (16, vi l16), (19, vi z7), (18, vi l18), (13, vl l13), (7, vl l7), (5, vl l5), (3, vl l3), (2, vi l2), (0, .ref 131), (1, vi l1)] [vl z47] s9 _
              refine wr_n (pc2 := 212) (lv2 := [(13, vl z47), (11, vl z44), (9, vl z41), (15, vi z38), (17, vi z7), (16, vi l16), (19, vi z7), (18, vi l18), (7, vl l7), (5, vl l5), (3, vl l3), (2, vi l2), (0, .ref 131), (1, vi l1)]) (st2 := []) 1 (fun _ _ => rfl) ?_
              refine wr_inc (a := l18) rfl rfl ?_
              show wr (4 * n + 150) tb_M70 215 [(18, vi (l18 + 1)), (13, vl z47), (11, vl z44), (9, vl z41), (15, vi z38), (17, vi z7), (16, vi l16), (19, vi z7), (7, vl l7), (5, vl l5), (3, vl l3), (2, vi l2), (0, .ref 131), (1, vi l1)] [] s9 _
              refine wr_n (pc2 := 53) (lv2 := [(18, vi (l18 + 1)), (13, vl z47), (11, vl z44), (9, vl z41), (15, vi z38), (17, vi z7), (16, vi l16), (19, vi z7), (7, vl l7), (5, vl l5), (3, vl l3), (2, vi l2), (0, .ref 131), (1, vi l1)]) (st2 := []) 1 (fun _ _ => rfl) ?_
              exact ih _ (by omega) (l18 + 1) z47 z44 z41 z38 z7 l16 z7 l7 l5 l3 l2 l1 s9 rfl hK9 hq9 hX9 hC9 (by omega) h48 h45 h42 (by omega) (by omega) (by omega) (by omega) hl7 hl5 hl3 (by omega) (by omega) (by omega) 
          · refine wr_if1f rfl rfl (by unfold i32; omega) h10 ?_
            refine wr_n (pc2 := 150) (lv2 := [(17, vi z7), (16, vi z7), (19, vi z7), (18, vi l18), (13, vl l13), (11, vl l11), (9, vl l9), (15, vi l15), (7, vl l7), (5, vl l5), (3, vl l3), (2, vi l2), (0, .ref 131), (1, vi l1)]) (st2 := [.ref 131, vi l15]) 7 (fun _ _ => rfl) ?_
            refine wr_get (v := vl (s9.1 131 8)) rfl rfl rfl (by decide) rfl fun h49 => ?_
            show wr (4 * n + 150) tb_M70 153 [(17, vi z7), (16, vi z7), (19, vi z7), (18, vi l18), (13, vl l13), (11, vl l11), (9, vl l9), (15, vi l15), (7, vl l7), (5, vl l5), (3, vl l3), (2, vi l2), (0, .ref 131), (1, vi l1)] [vl (s9.1 131 8), vi l15] s9 _
            refine wr_n (pc2 := 155) (lv2 := [(17, vi z7), (16, vi z7), (19, vi z7), (18, vi l18), (13, vl l13), (11, vl l11), (9, vl l9), (15, vi l15), (7, vl l7), (5, vl l5), (3, vl l3), (2, vi l2), (0, .ref 131), (1, vi l1)]) (st2 := [vl l9, vl (s9.1 131 8), vi l15]) 1 (fun _ _ => rfl) ?_
            refine wr_anyl (a := s9.1 131 8) (b := l9) rfl rfl fun z50 h51 _ => ?_
            show wr (4 * n + 150) tb_M70 156 [(17, vi z7), (16, vi z7), (19, vi z7), (18, vi l18), (13, vl l13), (11, vl l11), (9, vl l9), (15, vi l15), (7, vl l7), (5, vl l5), (3, vl l3), (2, vi l2), (0, .ref 131), (1, vi l1)] [vl z50, vi l15] s9 _
            refine wr_n (pc2 := 157) (lv2 := [(17, vi z7), (16, vi z7), (19, vi z7), (18, vi l18), (13, vl l13), (11, vl l11), (9, vl l9), (15, vi l15), (7, vl l7), (5, vl l5), (3, vl l3), (2, vi l2), (0, .ref 131), (1, vi l1)]) (st2 := [.ref 131, vl z50, vi l15]) 1 (fun _ _ => rfl) ?_
            refine wr_get (v := vl (s9.1 131 7)) rfl rfl rfl (by decide) rfl fun h52 => ?_
            show wr (4 * n + 150) tb_M70 160 [(17, vi z7), (16, vi z7), (19, vi z7), (18, vi l18), (13, vl l13), (11, vl l11), (9, vl l9), (15, vi l15), (7, vl l7), (5, vl l5), (3, vl l3), (2, vi l2), (0, .ref 131), (1, vi l1)] [vl (s9.1 131 7), vl z50, vi l15] s9 _
            refine wr_n (pc2 := 162) (lv2 := [(17, vi z7), (16, vi z7), (19, vi z7), (18, vi l18), (13, vl l13), (11, vl l11), (9, vl l9), (15, vi l15), (7, vl l7), (5, vl l5), (3, vl l3), (2, vi l2), (0, .ref 131), (1, vi l1)]) (st2 := [vl l11, vl (s9.1 131 7), vl z50, vi l15]) 1 (fun _ _ => rfl) ?_
            refine wr_anyl (a := s9.1 131 7) (b := l11) rfl rfl fun z53 h54 _ => ?_
            show wr (4 * n + 150) tb_M70 163 [(17, vi z7), (16, vi z7), (19, vi z7), (18, vi l18), (13, vl l13), (11, vl l11), (9, vl l9), (15, vi l15), (7, vl l7), (5, vl l5), (3, vl l3), (2, vi l2), (0, .ref 131), (1, vi l1)] [vl z53, vl z50, vi l15] s9 _
            refine wr_anyl (a := z50) (b := z53) rfl rfl fun z55 h56 _ => ?_
            show wr (4 * n + 150) tb_M70 164 [(17, vi z7), (16, vi z7), (19, vi z7), (18, vi l18), (13, vl l13), (11, vl l11), (9, vl l9), (15, vi l15), (7, vl l7), (5, vl l5), (3, vl l3), (2, vi l2), (0, .ref 131), (1, vi l1)] [vl z55, vi l15] s9 _
            refine wr_n (pc2 := 165) (lv2 := [(17, vi z7), (16, vi z7), (19, vi z7), (18, vi l18), (13, vl l13), (11, vl l11), (9, vl l9), (15, vi l15), (7, vl l7), (5, vl l5), (3, vl l3), (2, vi l2), (0, .ref 131), (1, vi l1)]) (st2 := [.ref 131, vl z55, vi l15]) 1 (fun _ _ => rfl) ?_
            refine wr_get (v := vl (s9.1 131 9)) rfl rfl rfl (by decide) rfl fun h57 => ?_
            show wr (4 * n + 150) tb_M70 168 [(17, vi z7), (16, vi z7), (19, vi z7), (18, vi l18), (13, vl l13), (11, vl l11), (9, vl l9), (15, vi l15), (7, vl l7), (5, vl l5), (3, vl l3), (2, vi l2), (0, .ref 131), (1, vi l1)] [vl (s9.1 131 9), vl z55, vi l15] s9 _
            refine wr_n (pc2 := 170) (lv2 := [(17, vi z7), (16, vi z7), (19, vi z7), (18, vi l18), (13, vl l13), (11, vl l11), (9, vl l9), (15, vi l15), (7, vl l7), (5, vl l5), (3, vl l3), (2, vi l2), (0, .ref 131), (1, vi l1)]) (st2 := [vl l13, vl (s9.1 131 9), vl z55, vi l15]) 1 (fun _ _ => rfl) ?_
            refine wr_anyl (a := s9.1 131 9) (b := l13) rfl rfl fun z58 h59 _ => ?_
            show wr (4 * n + 150) tb_M70 171 [(17, vi z7), (16, vi z7), (19, vi z7), (18, vi l18), (13, vl l13), (11, vl l11), (9, vl l9), (15, vi l15), (7, vl l7), (5, vl l5), (3, vl l3), (2, vi l2), (0, .ref 131), (1, vi l1)] [vl z58, vl z55, vi l15] s9 _
            refine wr_anyl (a := z55) (b := z58) rfl rfl fun z60 h61 _ => ?_
            show wr (4 * n + 150) tb_M70 172 [(17, vi z7), (16, vi z7), (19, vi z7), (18, vi l18), (13, vl l13), (11, vl l11), (9, vl l9), (15, vi l15), (7, vl l7), (5, vl l5), (3, vl l3), (2, vi l2), (0, .ref 131), (1, vi l1)] [vl z60, vi l15] s9 _
            refine wr_n (pc2 := 173) (lv2 := [(17, vi z7), (16, vi z7), (19, vi z7), (18, vi l18), (13, vl l13), (11, vl l11), (9, vl l9), (15, vi l15), (7, vl l7), (5, vl l5), (3, vl l3), (2, vi l2), (0, .ref 131), (1, vi l1)]) (st2 := [vl 0, vl z60, vi l15]) 1 (fun _ _ => rfl) ?_
            refine wr_lcmp (a := z60) (b := 0) rfl h61 (by unfold i64; omega) fun z62 h63 => ?_
            show wr (4 * n + 150) tb_M70 174 [(17, vi z7), (16, vi z7), (19, vi z7), (18, vi l18), (13, vl l13), (11, vl l11), (9, vl l9), (15, vi l15), (7, vl l7), (5, vl l5), (3, vl l3), (2, vi l2), (0, .ref 131), (1, vi l1)] [vi z62, vi l15] s9 _
            by_cases h64 : z62 = 0
            · refine wr_if1t rfl rfl (by unfold i32; omega) h64 ?_
              refine wr_n (pc2 := 182) (lv2 := [(17, vi z7), (16, vi z7), (19, vi z7), (18, vi l18), (13, vl l13), (11, vl l11), (9, vl l9), (15, vi l15), (7, vl l7), (5, vl l5), (3, vl l3), (2, vi l2), (0, .ref 131), (1, vi l1)]) (st2 := [vi 0, vi l15]) 1 (fun _ _ => rfl) ?_
              refine wr_any2 rfl rfl fun z65 h66 => ?_
              unfold i32 at h66
              show wr (4 * n + 150) tb_M70 183 [(17, vi z7), (16, vi z7), (19, vi z7), (18, vi l18), (13, vl l13), (11, vl l11), (9, vl l9), (15, vi l15), (7, vl l7), (5, vl l5), (3, vl l3), (2, vi l2), (0, .ref 131), (1, vi l1)] [vi z65] s9 _
              refine wr_n (pc2 := 188) (lv2 := [(15, vi z65), (17, vi z7), (16, vi z7), (19, vi z7), (18, vi l18), (13, vl l13), (11, vl l11), (9, vl l9), (7, vl l7), (5, vl l5), (3, vl l3), (2, vi l2), (0, .ref 131), (1, vi l1)]) (st2 := [.ref 131, vl l9]) 3 (fun _ _ => rfl) ?_
              refine wr_get (v := vl (s9.1 131 7)) rfl rfl rfl (by decide) rfl fun h67 => ?_
              show wr (4 * n + 150) tb_M70 191 [(15, vi z65), (17, vi z7), (16, vi z7), (19, vi z7), (18, vi l18), (13, vl l13), (11, vl l11), (9, vl l9), (7, vl l7), (5, vl l5), (3, vl l3), (2, vi l2), (0, .ref 131), (1, vi l1)] [vl (s9.1 131 7), vl l9] s9 _
              refine wr_anyl (a := l9) (b := s9.1 131 7) rfl rfl fun z68 h69 _ => ?_
              show wr (4 * n + 150) tb_M70 192 [(15, vi z65), (17, vi z7), (16, vi z7), (19, vi z7), (18, vi l18), (13, vl l13), (11, vl l11), (9, vl l9), (7, vl l7), (5, vl l5), (3, vl l3), (2, vi l2), (0, .ref 131), (1, vi l1)] [vl z68] s9 _
              refine wr_n (pc2 := 197) (lv2 := [(9, vl z68), (15, vi z65), (17, vi z7), (16, vi z7), (19, vi z7), (18, vi l18), (13, vl l13), (11, vl l11), (7, vl l7), (5, vl l5), (3, vl l3), (2, vi l2), (0, .ref 131), (1, vi l1)]) (st2 := [.ref 131, vl l11]) 3 (fun _ _ => rfl) ?_
              refine wr_get (v := vl (s9.1 131 8)) rfl rfl rfl (by decide) rfl fun h70 => ?_
              show wr (4 * n + 150) tb_M70 200 [(9, vl z68), (15, vi z65), (17, vi z7), (16, vi z7), (19, vi z7), (18, vi l18), (13, vl l13), (11, vl l11), (7, vl l7), (5, vl l5), (3, vl l3), (2, vi l2), (0, .ref 131), (1, vi l1)] [vl (s9.1 131 8), vl l11] s9 _
              refine wr_anyl (a := l11) (b := s9.1 131 8) rfl rfl fun z71 h72 _ => ?_
              show wr (4 * n + 150) tb_M70 201 [(9, vl z68), (15, vi z65), (17, vi z7), (16, vi z7), (19, vi z7), (18, vi l18), (13, vl l13), (11, vl l11), (7, vl l7), (5, vl l5), (3, vl l3), (2, vi l2), (0, .ref 131), (1, vi l1)] [vl z71] s9 _
              refine wr_n (pc2 := 206) (lv2 := [(11, vl z71), (9, vl z68), (15, vi z65), (17, vi z7), (16, vi z7), (19, vi z7), (18, vi l18), (13, vl l13), (7, vl l7), (5, vl l5), (3, vl l3), (2, vi l2), (0, .ref 131), (1, vi l1)]) (st2 := [.ref 131, vl l13]) 3 (fun _ _ => rfl) ?_
              refine wr_get (v := vl (s9.1 131 9)) rfl rfl rfl (by decide) rfl fun h73 => ?_
              show wr (4 * n + 150) tb_M70 209 [(11, vl z71), (9, vl z68), (15, vi z65), (17, vi z7), (16, vi z7), (19, vi z7), (18, vi l18), (13, vl l13), (7, vl l7), (5, vl l5), (3, vl l3), (2, vi l2), (0, .ref 131), (1, vi l1)] [vl (s9.1 131 9), vl l13] s9 _
              refine wr_anyl (a := l13) (b := s9.1 131 9) rfl rfl fun z74 h75 _ => ?_
              show wr (4 * n + 150) tb_M70 210 [(11, vl z71), (9, vl z68), (15, vi z65), (17, vi z7), (16, vi z7), (19, vi z7), (18, vi l18), (13, vl l13), (7, vl l7), (5, vl l5), (3, vl l3), (2, vi l2), (0, .ref 131), (1, vi l1)] [vl z74] s9 _
              refine wr_n (pc2 := 212) (lv2 := [(13, vl z74), (11, vl z71), (9, vl z68), (15, vi z65), (17, vi z7), (16, vi z7), (19, vi z7), (18, vi l18), (7, vl l7), (5, vl l5), (3, vl l3), (2, vi l2), (0, .ref 131), (1, vi l1)]) (st2 := []) 1 (fun _ _ => rfl) ?_
              refine wr_inc (a := l18) rfl rfl ?_
              show wr (4 * n + 150) tb_M70 215 [(18, vi (l18 + 1)), (13, vl z74), (11, vl z71), (9, vl z68), (15, vi z65), (17, vi z7), (16, vi z7), (19, vi z7), (7, vl l7), (5, vl l5), (3, vl l3), (2, vi l2), (0, .ref 131), (1, vi l1)] [] s9 _
              refine wr_n (pc2 := 53) (lv2 := [(18, vi (l18 + 1)), (13, vl z74), (11, vl z71), (9, vl z68), (15, vi z65), (17, vi z7), (16, vi z7), (19, vi z7), (7, vl l7), (5, vl l5), (3, vl l3), (2, vi l2), (0, .ref 131), (1, vi l1)]) (st2 := []) 1 (fun _ _ => rfl) ?_
              exact ih _ (by omega) (l18 + 1) z74 z71 z68 z65 z7 z7 z7 l7 l5 l3 l2 l1 s9 rfl hK9 hq9 hX9 hC9 (by omega) h75 h72 h69 (by omega) (by omega) (by omega) (by omega) hl7 hl5 hl3 (by omega) (by omega) (by omega) 
            · refine wr_if1f rfl rfl (by unfold i32; omega) h64 ?_
              refine wr_n (pc2 := 182) (lv2 := [(17, vi z7), (16, vi z7), (19, vi z7), (18, vi l18), (13, vl l13), (11, vl l11), (9, vl l9), (15, vi l15), (7, vl l7), (5, vl l5), (3, vl l3), (2, vi l2), (0, .ref 131), (1, vi l1)]) (st2 := [vi 1, vi l15]) 2 (fun _ _ => rfl) ?_
              refine wr_any2 rfl rfl fun z76 h77 => ?_
              unfold i32 at h77
              show wr (4 * n + 150) tb_M70 183 [(17, vi z7), (16, vi z7), (19, vi z7), (18, vi l18), (13, vl l13), (11, vl l11), (9, vl l9), (15, vi l15), (7, vl l7), (5, vl l5), (3, vl l3), (2, vi l2), (0, .ref 131), (1, vi l1)] [vi z76] s9 _
              refine wr_n (pc2 := 188) (lv2 := [(15, vi z76), (17, vi z7), (16, vi z7), (19, vi z7), (18, vi l18), (13, vl l13), (11, vl l11), (9, vl l9), (7, vl l7), (5, vl l5), (3, vl l3), (2, vi l2), (0, .ref 131), (1, vi l1)]) (st2 := [.ref 131, vl l9]) 3 (fun _ _ => rfl) ?_
              refine wr_get (v := vl (s9.1 131 7)) rfl rfl rfl (by decide) rfl fun h78 => ?_
              show wr (4 * n + 150) tb_M70 191 [(15, vi z76), (17, vi z7), (16, vi z7), (19, vi z7), (18, vi l18), (13, vl l13), (11, vl l11), (9, vl l9), (7, vl l7), (5, vl l5), (3, vl l3), (2, vi l2), (0, .ref 131), (1, vi l1)] [vl (s9.1 131 7), vl l9] s9 _
              refine wr_anyl (a := l9) (b := s9.1 131 7) rfl rfl fun z79 h80 _ => ?_
              show wr (4 * n + 150) tb_M70 192 [(15, vi z76), (17, vi z7), (16, vi z7), (19, vi z7), (18, vi l18), (13, vl l13), (11, vl l11), (9, vl l9), (7, vl l7), (5, vl l5), (3, vl l3), (2, vi l2), (0, .ref 131), (1, vi l1)] [vl z79] s9 _
              refine wr_n (pc2 := 197) (lv2 := [(9, vl z79), (15, vi z76), (17, vi z7), (16, vi z7), (19, vi z7), (18, vi l18), (13, vl l13), (11, vl l11), (7, vl l7), (5, vl l5), (3, vl l3), (2, vi l2), (0, .ref 131), (1, vi l1)]) (st2 := [.ref 131, vl l11]) 3 (fun _ _ => rfl) ?_
              refine wr_get (v := vl (s9.1 131 8)) rfl rfl rfl (by decide) rfl fun h81 => ?_
              show wr (4 * n + 150) tb_M70 200 [(9, vl z79), (15, vi z76), (17, vi z7), (16, vi z7), (19, vi z7), (18, vi l18), (13, vl l13), (11, vl l11), (7, vl l7), (5, vl l5), (3, vl l3), (2, vi l2), (0, .ref 131), (1, vi l1)] [vl (s9.1 131 8), vl l11] s9 _
              refine wr_anyl (a := l11) (b := s9.1 131 8) rfl rfl fun z82 h83 _ => ?_
              show wr (4 * n + 150) tb_M70 201 [(9, vl z79), (15, vi z76), (17, vi z7), (16, vi z7), (19, vi z7), (18, vi l18), (13, vl l13), (11, vl l11), (7, vl l7), (5, vl l5), (3, vl l3), (2, vi l2), (0, .ref 131), (1, vi l1)] [vl z82] s9 _
              refine wr_n (pc2 := 206) (lv2 := [(11, vl z82), (9, vl z79), (15, vi z76), (17, vi z7), (16, vi z7), (19, vi z7), (18, vi l18), (13, vl l13), (7, vl l7), (5, vl l5), (3, vl l3), (2, vi l2), (0, .ref 131), (1, vi l1)]) (st2 := [.ref 131, vl l13]) 3 (fun _ _ => rfl) ?_
              refine wr_get (v := vl (s9.1 131 9)) rfl rfl rfl (by decide) rfl fun h84 => ?_
              show wr (4 * n + 150) tb_M70 209 [(11, vl z82), (9, vl z79), (15, vi z76), (17, vi z7), (16, vi z7), (19, vi z7), (18, vi l18), (13, vl l13), (7, vl l7), (5, vl l5), (3, vl l3), (2, vi l2), (0, .ref 131), (1, vi l1)] [vl (s9.1 131 9), vl l13] s9 _
              refine wr_anyl (a := l13) (b := s9.1 131 9) rfl rfl fun z85 h86 _ => ?_
              show wr (4 * n + 150) tb_M70 210 [(11, vl z82), (9, vl z79), (15, vi z76), (17, vi z7), (16, vi z7), (19, vi z7), (18, vi l18), (13, vl l13), (7, vl l7), (5, vl l5), (3, vl l3), (2, vi l2), (0, .ref 131), (1, vi l1)] [vl z85] s9 _
              refine wr_n (pc2 := 212) (lv2 := [(13, vl z85), (11, vl z82), (9, vl z79), (15, vi z76), (17, vi z7), (16, vi z7), (19, vi z7), (18, vi l18), (7, vl l7), (5, vl l5), (3, vl l3), (2, vi l2), (0, .ref 131), (1, vi l1)]) (st2 := []) 1 (fun _ _ => rfl) ?_
              refine wr_inc (a := l18) rfl rfl ?_
              show wr (4 * n + 150) tb_M70 215 [(18, vi (l18 + 1)), (13, vl z85), (11, vl z82), (9, vl z79), (15, vi z76), (17, vi z7), (16, vi z7), (19, vi z7), (7, vl l7), (5, vl l5), (3, vl l3), (2, vi l2), (0, .ref 131), (1, vi l1)] [] s9 _
              refine wr_n (pc2 := 53) (lv2 := [(18, vi (l18 + 1)), (13, vl z85), (11, vl z82), (9, vl z79), (15, vi z76), (17, vi z7), (16, vi z7), (19, vi z7), (7, vl l7), (5, vl l5), (3, vl l3), (2, vi l2), (0, .ref 131), (1, vi l1)]) (st2 := []) 1 (fun _ _ => rfl) ?_
              exact ih _ (by omega) (l18 + 1) z85 z82 z79 z76 z7 z7 z7 l7 l5 l3 l2 l1 s9 rfl hK9 hq9 hX9 hC9 (by omega) h86 h83 h80 (by omega) (by omega) (by omega) (by omega) hl7 hl5 hl3 (by omega) (by omega) (by omega) 
        · refine .inr ⟨rfl, ?_⟩
          exact ⟨hK7, (FX_tr (FX_up (FX_up (FX_up hX3 (by unfold fx; omega)) (by unfold fx; omega)) (by unfold fx; omega)) hY7), .inr ⟨rfl, TH hC3 hc7⟩⟩
      · refine .inr ⟨rfl, ?_⟩
        exact ⟨hK3, (FX_tr hX hY3), .inr ⟨rfl, TH hc hc3⟩⟩
    · refine wr_if1f rfl rfl (by unfold i32; omega) h2 ?_
      refine wr_n (pc2 := 91) (lv2 := [(18, vi l18), (13, vl l13), (11, vl l11), (9, vl l9), (15, vi l15), (17, vi l17), (16, vi l16), (19, vi l19), (7, vl l7), (5, vl l5), (3, vl l3), (2, vi l2), (0, .ref 131), (1, vi l1)]) (st2 := [vi 123, .ref 131]) 2 (fun _ _ => rfl) ?_
      refine wr_call1T (args := [vi 123]) (rest := []) rfl rfl rfl rfl (Nat.le_of_ble_eq_true rfl) rfl (cr_mono (k_expect (d := 4 * n + 148) (x := 123) s hK (by omega)) ?_)
      rintro s87 out ⟨hK87, hY87, ⟨hc87, rfl⟩ | ⟨rfl, hc87⟩⟩
      · refine .inl ⟨_, rfl, ?_⟩
        have hX87 : FX s0.1 s87.1 := FX_tr hX hY87
        have hC87 : s87.2 = s0.2 := hc87.trans hc
        have hq87 : s87.1 131 1 = (C : Int) := (hY87 131 1 (by unfold fx; omega)).trans hq
        show wr (4 * n + 150) tb_M70 94 [(18, vi l18), (13, vl l13), (11, vl l11), (9, vl l9), (15, vi l15), (17, vi l17), (16, vi l16), (19, vi l19), (7, vl l7), (5, vl l5), (3, vl l3), (2, vi l2), (0, .ref 131), (1, vi l1)] [] s87 _
        refine wr_n (pc2 := 96) (lv2 := [(18, vi l18), (13, vl l13), (11, vl l11), (9, vl l9), (15, vi l15), (17, vi l17), (16, vi l16), (19, vi l19), (7, vl l7), (5, vl l5), (3, vl l3), (2, vi l2), (0, .ref 131), (1, vi l1)]) (st2 := [vl 0, .ref 131]) 2 (fun _ _ => rfl) ?_
        refine wr_put (z := 0) rfl rfl rfl rfl (by decide) rfl (by decide) rfl (by first | exact ⟨by omega, by omega⟩ | assumption) (fit_l _) ?_
        show wr (4 * n + 150) tb_M70 99 [(18, vi l18), (13, vl l13), (11, vl l11), (9, vl l9), (15, vi l15), (17, vi l17), (16, vi l16), (19, vi l19), (7, vl l7), (5, vl l5), (3, vl l3), (2, vi l2), (0, .ref 131), (1, vi l1)] [] (up2 s87.1 131 7 0, s87.2) _
        have hK88 : KI (up2 s87.1 131 7 0) := (KI_up hK87 rfl (kb_no rfl))
        refine wr_n (pc2 := 101) (lv2 := [(18, vi l18), (13, vl l13), (11, vl l11), (9, vl l9), (15, vi l15), (17, vi l17), (16, vi l16), (19, vi l19), (7, vl l7), (5, vl l5), (3, vl l3), (2, vi l2), (0, .ref 131), (1, vi l1)]) (st2 := [vl 0, .ref 131]) 2 (fun _ _ => rfl) ?_
        refine wr_put (z := 0) rfl rfl rfl rfl (by decide) rfl (by decide) rfl (by first | exact ⟨by omega, by omega⟩ | assumption) (fit_l _) ?_
        show wr (4 * n + 150) tb_M70 104 [(18, vi l18), (13, vl l13), (11, vl l11), (9, vl l9), (15, vi l15), (17, vi l17), (16, vi l16), (19, vi l19), (7, vl l7), (5, vl l5), (3, vl l3), (2, vi l2), (0, .ref 131), (1, vi l1)] [] (up2 (up2 s87.1 131 7 0) 131 8 0, s87.2) _
        have hK89 : KI (up2 (up2 s87.1 131 7 0) 131 8 0) := (KI_up (KI_up hK87 rfl (kb_no rfl)) rfl (kb_no rfl))
        refine wr_n (pc2 := 106) (lv2 := [(18, vi l18), (13, vl l13), (11, vl l11), (9, vl l9), (15, vi l15), (17, vi l17), (16, vi l16), (19, vi l19), (7, vl l7), (5, vl l5), (3, vl l3), (2, vi l2), (0, .ref 131), (1, vi l1)]) (st2 := [vl 0, .ref 131]) 2 (fun _ _ => rfl) ?_
        refine wr_put (z := 0) rfl rfl rfl rfl (by decide) rfl (by decide) rfl (by first | exact ⟨by omega, by omega⟩ | assumption) (fit_l _) ?_
        show wr (4 * n + 150) tb_M70 109 [(18, vi l18), (13, vl l13), (11, vl l11), (9, vl l9), (15, vi l15), (17, vi l17), (16, vi l16), (19, vi l19), (7, vl l7), (5, vl l5), (3, vl l3), (2, vi l2), (0, .ref 131), (1, vi l1)] [] (up2 (up2 (up2 s87.1 131 7 0) 131 8 0) 131 9 0, s87.2) _
        have hK90 : KI (up2 (up2 (up2 s87.1 131 7 0) 131 8 0) 131 9 0) := (KI_up (KI_up (KI_up hK87 rfl (kb_no rfl)) rfl (kb_no rfl)) rfl (kb_no rfl))
        refine wr_n (pc2 := 112) (lv2 := [(18, vi l18), (13, vl l13), (11, vl l11), (9, vl l9), (15, vi l15), (17, vi l17), (16, vi l16), (19, vi l19), (7, vl l7), (5, vl l5), (3, vl l3), (2, vi l2), (0, .ref 131), (1, vi l1)]) (st2 := [vi 1, vi l1, .ref 131]) 3 (fun _ _ => rfl) ?_
        refine wr_add (a := l1) (b := 1) rfl ?_
        show wr (4 * n + 150) tb_M70 113 [(18, vi l18), (13, vl l13), (11, vl l11), (9, vl l9), (15, vi l15), (17, vi l17), (16, vi l16), (19, vi l19), (7, vl l7), (5, vl l5), (3, vl l3), (2, vi l2), (0, .ref 131), (1, vi l1)] [vi (l1 + 1), .ref 131] (up2 (up2 (up2 s87.1 131 7 0) 131 8 0) 131 9 0, s87.2) _
        refine wr_call1T (args := [vi (l1 + 1)]) (rest := []) rfl rfl rfl rfl (Nat.le_of_ble_eq_true rfl) rfl (cr_mono (hSt C (up2 (up2 (up2 s87.1 131 7 0) 131 8 0) 131 9 0, s87.2) (l1 + 1) hC hK90 (show (up2 (up2 (up2 s87.1 131 7 0) 131 8 0) 131 9 0) 131 1 = ((C : Nat) : Int) from ((if_neg (by omega)).trans ((if_neg (by omega)).trans ((if_neg (by omega)).trans hq87)))) (by omega)) ?_)
        rintro s91 out ⟨hK91, hY91, ⟨z91, hc91, rfl, hz91, hp91⟩ | ⟨rfl, hc91⟩⟩
        · refine .inl ⟨_, rfl, ?_⟩
          have hX91 : FX s0.1 s91.1 := FX_tr (FX_up (FX_up (FX_up hX87 (by unfold fx; omega)) (by unfold fx; omega)) (by unfold fx; omega)) hY91
          have hC91 : s91.2 = s0.2 := hc91.trans hC87
          have hq91 : s91.1 131 1 = (C : Int) := (hY91 131 1 (by unfold fx; omega)).trans (show (up2 (up2 (up2 s87.1 131 7 0) 131 8 0) 131 9 0) 131 1 = ((C : Nat) : Int) from ((if_neg (by omega)).trans ((if_neg (by omega)).trans ((if_neg (by omega)).trans hq87))))
          unfold i32 at hz91
          clear hp91
          show wr (4 * n + 150) tb_M70 116 [(18, vi l18), (13, vl l13), (11, vl l11), (9, vl l9), (15, vi l15), (17, vi l17), (16, vi l16), (19, vi l19), (7, vl l7), (5, vl l5), (3, vl l3), (2, vi l2), (0, .ref 131), (1, vi l1)] [vi z91] s91 _
          refine wr_n (pc2 := 119) (lv2 := [(19, vi z91), (18, vi l18), (13, vl l13), (11, vl l11), (9, vl l9), (15, vi l15), (17, vi l17), (16, vi l16), (7, vl l7), (5, vl l5), (3, vl l3), (2, vi l2), (0, .ref 131), (1, vi l1)]) (st2 := [.ref 131]) 2 (fun _ _ => rfl) ?_
          refine wr_get (v := .ref C) rfl rfl rfl (by decide) (rv_ref (show (s91.1) 131 1 = ((C : Nat) : Int) from hq91)) fun h92 => ?_
          show wr (4 * n + 150) tb_M70 122 [(19, vi z91), (18, vi l18), (13, vl l13), (11, vl l11), (9, vl l9), (15, vi l15), (17, vi l17), (16, vi l16), (7, vl l7), (5, vl l5), (3, vl l3), (2, vi l2), (0, .ref 131), (1, vi l1)] [.ref C] s91 _
          refine wr_n (pc2 := 126) (lv2 := [(19, vi z91), (18, vi l18), (13, vl l13), (11, vl l11), (9, vl l9), (15, vi l15), (17, vi l17), (16, vi l16), (7, vl l7), (5, vl l5), (3, vl l3), (2, vi l2), (0, .ref 131), (1, vi l1)]) (st2 := [vi z91, vi l17, .ref C]) 2 (fun _ _ => rfl) ?_
          refine wr_call1 (args := [vi l17, vi z91]) (rest := []) rfl rfl rfl (TK0 hC) (Nat.le_of_ble_eq_true rfl) (cr_mono (k_link (d := 4 * n + 148) (C := C) hC (x := l17) (y := z91) s91 hK91 (by omega) (by omega)) ?_)
          rintro s93 out ⟨hK93, hY93, hc93, rfl⟩
          refine ⟨_, rfl, ?_⟩
          have hX93 : FX s0.1 s93.1 := FX_tr hX91 hY93
          have hC93 : s93.2 = s0.2 := hc93.trans hC91
          have hq93 : s93.1 131 1 = (C : Int) := (hY93 131 1 (by unfold fx; omega)).trans hq91
          show wr (4 * n + 150) tb_M70 129 [(19, vi z91), (18, vi l18), (13, vl l13), (11, vl l11), (9, vl l9), (15, vi l15), (17, vi l17), (16, vi l16), (7, vl l7), (5, vl l5), (3, vl l3), (2, vi l2), (0, .ref 131), (1, vi l1)] [] s93 _
          refine wr_n (pc2 := 131) (lv2 := [(19, vi z91), (18, vi l18), (13, vl l13), (11, vl l11), (9, vl l9), (15, vi l15), (17, vi l17), (16, vi l16), (7, vl l7), (5, vl l5), (3, vl l3), (2, vi l2), (0, .ref 131), (1, vi l1)]) (st2 := [vi l18]) 1 (fun _ _ => rfl) ?_
          by_cases h94 : l18 ≠ 0
          · refine wr_if1t rfl rfl (by unfold i32; omega) h94 ?_
            refine wr_n (pc2 := 150) (lv2 := [(17, vi z91), (16, vi l16), (19, vi z91), (18, vi l18), (13, vl l13), (11, vl l11), (9, vl l9), (15, vi l15), (7, vl l7), (5, vl l5), (3, vl l3), (2, vi l2), (0, .ref 131), (1, vi l1)]) (st2 := [.ref 131, vi l15]) 6 (fun _ _ => rfl) ?_
            refine wr_get (v := vl (s93.1 131 8)) rfl rfl rfl (by decide) rfl fun h95 => ?_
            show wr (4 * n + 150) tb_M70 153 [(17, vi z91), (16, vi l16), (19, vi z91), (18, vi l18), (13, vl l13), (11, vl l11), (9, vl l9), (15, vi l15), (7, vl l7), (5, vl l5), (3, vl l3), (2, vi l2), (0, .ref 131), (1, vi l1)] [vl (s93.1 131 8), vi l15] s93 _
            refine wr_n (pc2 := 155) (lv2 := [(17, vi z91), (16, vi l16), (19, vi z91), (18, vi l18), (13, vl l13), (11, vl l11), (9, vl l9), (15, vi l15), (7, vl l7), (5, vl l5), (3, vl l3), (2, vi l2), (0, .ref 131), (1, vi l1)]) (st2 := [vl l9, vl (s93.1 131 8), vi l15]) 1 (fun _ _ => rfl) ?_
            refine wr_anyl (a := s93.1 131 8) (b := l9) rfl rfl fun z96 h97 _ => ?_
            show wr (4 * n + 150) tb_M70 156 [(17, vi z91), (16, vi l16), (19, vi z91), (18, vi l18), (13, vl l13), (11, vl l11), (9, vl l9), (15, vi l15), (7, vl l7), (5, vl l5), (3, vl l3), (2, vi l2), (0, .ref 131), (1, vi l1)] [vl z96, vi l15] s93 _
            refine wr_n (pc2 := 157) (lv2 := [(17, vi z91), (16, vi l16), (19, vi z91), (18, vi l18), (13, vl l13), (11, vl l11), (9, vl l9), (15, vi l15), (7, vl l7), (5, vl l5), (3, vl l3), (2, vi l2), (0, .ref 131), (1, vi l1)]) (st2 := [.ref 131, vl z96, vi l15]) 1 (fun _ _ => rfl) ?_
            refine wr_get (v := vl (s93.1 131 7)) rfl rfl rfl (by decide) rfl fun h98 => ?_
            show wr (4 * n + 150) tb_M70 160 [(17, vi z91), (16, vi l16), (19, vi z91), (18, vi l18), (13, vl l13), (11, vl l11), (9, vl l9), (15, vi l15), (7, vl l7), (5, vl l5), (3, vl l3), (2, vi l2), (0, .ref 131), (1, vi l1)] [vl (s93.1 131 7), vl z96, vi l15] s93 _
            refine wr_n (pc2 := 162) (lv2 := [(17, vi z91), (16, vi l16), (19, vi z91), (18, vi l18), (13, vl l13), (11, vl l11), (9, vl l9), (15, vi l15), (7, vl l7), (5, vl l5), (3, vl l3), (2, vi l2), (0, .ref 131), (1, vi l1)]) (st2 := [vl l11, vl (s93.1 131 7), vl z96, vi l15]) 1 (fun _ _ => rfl) ?_
            refine wr_anyl (a := s93.1 131 7) (b := l11) rfl rfl fun z99 h100 _ => ?_
            show wr (4 * n + 150) tb_M70 163 [(17, vi z91), (16, vi l16), (19, vi z91), (18, vi l18), (13, vl l13), (11, vl l11), (9, vl l9), (15, vi l15), (7, vl l7), (5, vl l5), (3, vl l3), (2, vi l2), (0, .ref 131), (1, vi l1)] [vl z99, vl z96, vi l15] s93 _
            refine wr_anyl (a := z96) (b := z99) rfl rfl fun z101 h102 _ => ?_
            show wr (4 * n + 150) tb_M70 164 [(17, vi z91), (16, vi l16), (19, vi z91), (18, vi l18), (13, vl l13), (11, vl l11), (9, vl l9), (15, vi l15), (7, vl l7), (5, vl l5), (3, vl l3), (2, vi l2), (0, .ref 131), (1, vi l1)] [vl z101, vi l15] s93 _
            refine wr_n (pc2 := 165) (lv2 := [(17, vi z91), (16, vi l16), (19, vi z91), (18, vi l18), (13, vl l13), (11, vl l11), (9, vl l9), (15, vi l15), (7, vl l7), (5, vl l5), (3, vl l3), (2, vi l2), (0, .ref 131), (1, vi l1)]) (st2 := [.ref 131, vl z101, vi l15]) 1 (fun _ _ => rfl) ?_
            refine wr_get (v := vl (s93.1 131 9)) rfl rfl rfl (by decide) rfl fun h103 => ?_
            show wr (4 * n + 150) tb_M70 168 [(17, vi z91), (16, vi l16), (19, vi z91), (18, vi l18), (13, vl l13), (11, vl l11), (9, vl l9), (15, vi l15), (7, vl l7), (5, vl l5), (3, vl l3), (2, vi l2), (0, .ref 131), (1, vi l1)] [vl (s93.1 131 9), vl z101, vi l15] s93 _
            refine wr_n (pc2 := 170) (lv2 := [(17, vi z91), (16, vi l16), (19, vi z91), (18, vi l18), (13, vl l13), (11, vl l11), (9, vl l9), (15, vi l15), (7, vl l7), (5, vl l5), (3, vl l3), (2, vi l2), (0, .ref 131), (1, vi l1)]) (st2 := [vl l13, vl (s93.1 131 9), vl z101, vi l15]) 1 (fun _ _ => rfl) ?_
            refine wr_anyl (a := s93.1 131 9) (b := l13) rfl rfl fun z104 h105 _ => ?_
            show wr (4 * n + 150) tb_M70 171 [(17, vi z91), (16, vi l16), (19, vi z91), (18, vi l18), (13, vl l13), (11, vl l11), (9, vl l9), (15, vi l15), (7, vl l7), (5, vl l5), (3, vl l3), (2, vi l2), (0, .ref 131), (1, vi l1)] [vl z104, vl z101, vi l15] s93 _
            refine wr_anyl (a := z101) (b := z104) rfl rfl fun z106 h107 _ => ?_
            show wr (4 * n + 150) tb_M70 172 [(17, vi z91), (16, vi l16), (19, vi z91), (18, vi l18), (13, vl l13), (11, vl l11), (9, vl l9), (15, vi l15), (7, vl l7), (5, vl l5), (3, vl l3), (2, vi l2), (0, .ref 131), (1, vi l1)] [vl z106, vi l15] s93 _
            refine wr_n (pc2 := 173) (lv2 := [(17, vi z91), (16, vi l16), (19, vi z91), (18, vi l18), (13, vl l13), (11, vl l11), (9, vl l9), (15, vi l15), (7, vl l7), (5, vl l5), (3, vl l3), (2, vi l2), (0, .ref 131), (1, vi l1)]) (st2 := [vl 0, vl z106, vi l15]) 1 (fun _ _ => rfl) ?_
            refine wr_lcmp (a := z106) (b := 0) rfl h107 (by unfold i64; omega) fun z108 h109 => ?_
            show wr (4 * n + 150) tb_M70 174 [(17, vi z91), (16, vi l16), (19, vi z91), (18, vi l18), (13, vl l13), (11, vl l11), (9, vl l9), (15, vi l15), (7, vl l7), (5, vl l5), (3, vl l3), (2, vi l2), (0, .ref 131), (1, vi l1)] [vi z108, vi l15] s93 _
            by_cases h110 : z108 = 0
            · refine wr_if1t rfl rfl (by unfold i32; omega) h110 ?_
              refine wr_n (pc2 := 182) (lv2 := [(17, vi z91), (16, vi l16), (19, vi z91), (18, vi l18), (13, vl l13), (11, vl l11), (9, vl l9), (15, vi l15), (7, vl l7), (5, vl l5), (3, vl l3), (2, vi l2), (0, .ref 131), (1, vi l1)]) (st2 := [vi 0, vi l15]) 1 (fun _ _ => rfl) ?_
              refine wr_any2 rfl rfl fun z111 h112 => ?_
              unfold i32 at h112
              show wr (4 * n + 150) tb_M70 183 [(17, vi z91), (16, vi l16), (19, vi z91), (18, vi l18), (13, vl l13), (11, vl l11), (9, vl l9), (15, vi l15), (7, vl l7), (5, vl l5), (3, vl l3), (2, vi l2), (0, .ref 131), (1, vi l1)] [vi z111] s93 _
              refine wr_n (pc2 := 188) (lv2 := [(15, vi z111), (17, vi z91), (16, vi l16), (19, vi z91), (18, vi l18), (13, vl l13), (11, vl l11), (9, vl l9), (7, vl l7), (5, vl l5), (3, vl l3), (2, vi l2), (0, .ref 131), (1, vi l1)]) (st2 := [.ref 131, vl l9]) 3 (fun _ _ => rfl) ?_
              refine wr_get (v := vl (s93.1 131 7)) rfl rfl rfl (by decide) rfl fun h113 => ?_
              show wr (4 * n + 150) tb_M70 191 [(15, vi z111), (17, vi z91), (16, vi l16), (19, vi z91), (18, vi l18), (13, vl l13), (11, vl l11), (9, vl l9), (7, vl l7), (5, vl l5), (3, vl l3), (2, vi l2), (0, .ref 131), (1, vi l1)] [vl (s93.1 131 7), vl l9] s93 _
              refine wr_anyl (a := l9) (b := s93.1 131 7) rfl rfl fun z114 h115 _ => ?_
              show wr (4 * n + 150) tb_M70 192 [(15, vi z111), (17, vi z91), (16, vi l16), (19, vi z91), (18, vi l18), (13, vl l13), (11, vl l11), (9, vl l9), (7, vl l7), (5, vl l5), (3, vl l3), (2, vi l2), (0, .ref 131), (1, vi l1)] [vl z114] s93 _
              refine wr_n (pc2 := 197) (lv2 := [(9, vl z114), (15, vi z111), (17, vi z91), (16, vi l16), (19, vi z91), (18, vi l18), (13, vl l13), (11, vl l11), (7, vl l7), (5, vl l5), (3, vl l3), (2, vi l2), (0, .ref 131), (1, vi l1)]) (st2 := [.ref 131, vl l11]) 3 (fun _ _ => rfl) ?_
              refine wr_get (v := vl (s93.1 131 8)) rfl rfl rfl (by decide) rfl fun h116 => ?_
              show wr (4 * n + 150) tb_M70 200 [(9, vl z114), (15, vi z111), (17, vi z91), (16, vi l16), (19, vi z91), (18, vi l18), (13, vl l13), (11, vl l11), (7, vl l7), (5, vl l5), (3, vl l3), (2, vi l2), (0, .ref 131), (1, vi l1)] [vl (s93.1 131 8), vl l11] s93 _
              refine wr_anyl (a := l11) (b := s93.1 131 8) rfl rfl fun z117 h118 _ => ?_
              show wr (4 * n + 150) tb_M70 201 [(9, vl z114), (15, vi z111), (17, vi z91), (16, vi l16), (19, vi z91), (18, vi l18), (13, vl l13), (11, vl l11), (7, vl l7), (5, vl l5), (3, vl l3), (2, vi l2), (0, .ref 131), (1, vi l1)] [vl z117] s93 _
              refine wr_n (pc2 := 206) (lv2 := [(11, vl z117), (9, vl z114), (15, vi z111), (17, vi z91), (16, vi l16), (19, vi z91), (18, vi l18), (13, vl l13), (7, vl l7), (5, vl l5), (3, vl l3), (2, vi l2), (0, .ref 131), (1, vi l1)]) (st2 := [.ref 131, vl l13]) 3 (fun _ _ => rfl) ?_
              refine wr_get (v := vl (s93.1 131 9)) rfl rfl rfl (by decide) rfl fun h119 => ?_
              show wr (4 * n + 150) tb_M70 209 [(11, vl z117), (9, vl z114), (15, vi z111), (17, vi z91), (16, vi l16), (19, vi z91), (18, vi l18), (13, vl l13), (7, vl l7), (5, vl l5), (3, vl l3), (2, vi l2), (0, .ref 131), (1, vi l1)] [vl (s93.1 131 9), vl l13] s93 _
              refine wr_anyl (a := l13) (b := s93.1 131 9) rfl rfl fun z120 h121 _ => ?_
              show wr (4 * n + 150) tb_M70 210 [(11, vl z117), (9, vl z114), (15, vi z111), (17, vi z91), (16, vi l16), (19, vi z91), (18, vi l18), (13, vl l13), (7, vl l7), (5, vl l5), (3, vl l3), (2, vi l2), (0, .ref 131), (1, vi l1)] [vl z120] s93 _
              refine wr_n (pc2 := 212) (lv2 := [(13, vl z120), (11, vl z117), (9, vl z114), (15, vi z111), (17, vi z91), (16, vi l16), (19, vi z91), (18, vi l18), (7, vl l7), (5, vl l5), (3, vl l3), (2, vi l2), (0, .ref 131), (1, vi l1)]) (st2 := []) 1 (fun _ _ => rfl) ?_
              refine wr_inc (a := l18) rfl rfl ?_
              show wr (4 * n + 150) tb_M70 215 [(18, vi (l18 + 1)), (13, vl z120), (11, vl z117), (9, vl z114), (15, vi z111), (17, vi z91), (16, vi l16), (19, vi z91), (7, vl l7), (5, vl l5), (3, vl l3), (2, vi l2), (0, .ref 131), (1, vi l1)] [] s93 _
              refine wr_n (pc2 := 53) (lv2 := [(18, vi (l18 + 1)), (13, vl z120), (11, vl z117), (9, vl z114), (15, vi z111), (17, vi z91), (16, vi l16), (19, vi z91), (7, vl l7), (5, vl l5), (3, vl l3), (2, vi l2), (0, .ref 131), (1, vi l1)]) (st2 := []) 1 (fun _ _ => rfl) ?_
              exact ih _ (by omega) (l18 + 1) z120 z117 z114 z111 z91 l16 z91 l7 l5 l3 l2 l1 s93 rfl hK93 hq93 hX93 hC93 (by omega) h121 h118 h115 (by omega) (by omega) (by omega) (by omega) hl7 hl5 hl3 (by omega) (by omega) (by omega) 
            · refine wr_if1f rfl rfl (by unfold i32; omega) h110 ?_
              refine wr_n (pc2 := 182) (lv2 := [(17, vi z91), (16, vi l16), (19, vi z91), (18, vi l18), (13, vl l13), (11, vl l11), (9, vl l9), (15, vi l15), (7, vl l7), (5, vl l5), (3, vl l3), (2, vi l2), (0, .ref 131), (1, vi l1)]) (st2 := [vi 1, vi l15]) 2 (fun _ _ => rfl) ?_
              refine wr_any2 rfl rfl fun z122 h123 => ?_
              unfold i32 at h123
              show wr (4 * n + 150) tb_M70 183 [(17, vi z91), (16, vi l16), (19, vi z91), (18, vi l18), (13, vl l13), (11, vl l11), (9, vl l9), (15, vi l15), (7, vl l7), (5, vl l5), (3, vl l3), (2, vi l2), (0, .ref 131), (1, vi l1)] [vi z122] s93 _
              refine wr_n (pc2 := 188) (lv2 := [(15, vi z122), (17, vi z91), (16, vi l16), (19, vi z91), (18, vi l18), (13, vl l13), (11, vl l11), (9, vl l9), (7, vl l7), (5, vl l5), (3, vl l3), (2, vi l2), (0, .ref 131), (1, vi l1)]) (st2 := [.ref 131, vl l9]) 3 (fun _ _ => rfl) ?_
              refine wr_get (v := vl (s93.1 131 7)) rfl rfl rfl (by decide) rfl fun h124 => ?_
              show wr (4 * n + 150) tb_M70 191 [(15, vi z122), (17, vi z91), (16, vi l16), (19, vi z91), (18, vi l18), (13, vl l13), (11, vl l11), (9, vl l9), (7, vl l7), (5, vl l5), (3, vl l3), (2, vi l2), (0, .ref 131), (1, vi l1)] [vl (s93.1 131 7), vl l9] s93 _
              refine wr_anyl (a := l9) (b := s93.1 131 7) rfl rfl fun z125 h126 _ => ?_
              show wr (4 * n + 150) tb_M70 192 [(15, vi z122), (17, vi z91), (16, vi l16), (19, vi z91), (18, vi l18), (13, vl l13), (11, vl l11), (9, vl l9), (7, vl l7), (5, vl l5), (3, vl l3), (2, vi l2), (0, .ref 131), (1, vi l1)] [vl z125] s93 _
              refine wr_n (pc2 := 197) (lv2 := [(9, vl z125), (15, vi z122), (17, vi z91), (16, vi l16), (19, vi z91), (18, vi l18), (13, vl l13), (11, vl l11), (7, vl l7), (5, vl l5), (3, vl l3), (2, vi l2), (0, .ref 131), (1, vi l1)]) (st2 := [.ref 131, vl l11]) 3 (fun _ _ => rfl) ?_
              refine wr_get (v := vl (s93.1 131 8)) rfl rfl rfl (by decide) rfl fun h127 => ?_
              show wr (4 * n + 150) tb_M70 200 [(9, vl z125), (15, vi z122), (17, vi z91), (16, vi l16), (19, vi z91), (18, vi l18), (13, vl l13), (11, vl l11), (7, vl l7), (5, vl l5), (3, vl l3), (2, vi l2), (0, .ref 131), (1, vi l1)] [vl (s93.1 131 8), vl l11] s93 _
              refine wr_anyl (a := l11) (b := s93.1 131 8) rfl rfl fun z128 h129 _ => ?_
              show wr (4 * n + 150) tb_M70 201 [(9, vl z125), (15, vi z122), (17, vi z91), (16, vi l16), (19, vi z91), (18, vi l18), (13, vl l13), (11, vl l11), (7, vl l7), (5, vl l5), (3, vl l3), (2, vi l2), (0, .ref 131), (1, vi l1)] [vl z128] s93 _
              refine wr_n (pc2 := 206) (lv2 := [(11, vl z128), (9, vl z125), (15, vi z122), (17, vi z91), (16, vi l16), (19, vi z91), (18, vi l18), (13, vl l13), (7, vl l7), (5, vl l5), (3, vl l3), (2, vi l2), (0, .ref 131), (1, vi l1)]) (st2 := [.ref 131, vl l13]) 3 (fun _ _ => rfl) ?_
              refine wr_get (v := vl (s93.1 131 9)) rfl rfl rfl (by decide) rfl fun h130 => ?_
              show wr (4 * n + 150) tb_M70 209 [(11, vl z128), (9, vl z125), (15, vi z122), (17, vi z91), (16, vi l16), (19, vi z91), (18, vi l18), (13, vl l13), (7, vl l7), (5, vl l5), (3, vl l3), (2, vi l2), (0, .ref 131), (1, vi l1)] [vl (s93.1 131 9), vl l13] s93 _
              refine wr_anyl (a := l13) (b := s93.1 131 9) rfl rfl fun z131 h132 _ => ?_
              show wr (4 * n + 150) tb_M70 210 [(11, vl z128), (9, vl z125), (15, vi z122), (17, vi z91), (16, vi l16), (19, vi z91), (18, vi l18), (13, vl l13), (7, vl l7), (5, vl l5), (3, vl l3), (2, vi l2), (0, .ref 131), (1, vi l1)] [vl z131] s93 _
              refine wr_n (pc2 := 212) (lv2 := [(13, vl z131), (11, vl z128), (9, vl z125), (15, vi z122), (17, vi z91), (16, vi l16), (19, vi z91), (18, vi l18), (7, vl l7), (5, vl l5), (3, vl l3), (2, vi l2), (0, .ref 131), (1, vi l1)]) (st2 := []) 1 (fun _ _ => rfl) ?_
              refine wr_inc (a := l18) rfl rfl ?_
              show wr (4 * n + 150) tb_M70 215 [(18, vi (l18 + 1)), (13, vl z131), (11, vl z128), (9, vl z125), (15, vi z122), (17, vi z91), (16, vi l16), (19, vi z91), (7, vl l7), (5, vl l5), (3, vl l3), (2, vi l2), (0, .ref 131), (1, vi l1)] [] s93 _
              refine wr_n (pc2 := 53) (lv2 := [(18, vi (l18 + 1)), (13, vl z131), (11, vl z128), (9, vl z125), (15, vi z122), (17, vi z91), (16, vi l16), (19, vi z91), (7, vl l7), (5, vl l5), (3, vl l3), (2, vi l2), (0, .ref 131), (1, vi l1)]) (st2 := []) 1 (fun _ _ => rfl) ?_
              exact ih _ (by omega) (l18 + 1) z131 z128 z125 z122 z91 l16 z91 l7 l5 l3 l2 l1 s93 rfl hK93 hq93 hX93 hC93 (by omega) h132 h129 h126 (by omega) (by omega) (by omega) (by omega) hl7 hl5 hl3 (by omega) (by omega) (by omega) 
          · refine wr_if1f rfl rfl (by unfold i32; omega) h94 ?_
            refine wr_n (pc2 := 150) (lv2 := [(17, vi z91), (16, vi z91), (19, vi z91), (18, vi l18), (13, vl l13), (11, vl l11), (9, vl l9), (15, vi l15), (7, vl l7), (5, vl l5), (3, vl l3), (2, vi l2), (0, .ref 131), (1, vi l1)]) (st2 := [.ref 131, vi l15]) 7 (fun _ _ => rfl) ?_
            refine wr_get (v := vl (s93.1 131 8)) rfl rfl rfl (by decide) rfl fun h133 => ?_
            show wr (4 * n + 150) tb_M70 153 [(17, vi z91), (16, vi z91), (19, vi z91), (18, vi l18), (13, vl l13), (11, vl l11), (9, vl l9), (15, vi l15), (7, vl l7), (5, vl l5), (3, vl l3), (2, vi l2), (0, .ref 131), (1, vi l1)] [vl (s93.1 131 8), vi l15] s93 _
            refine wr_n (pc2 := 155) (lv2 := [(17, vi z91), (16, vi z91), (19, vi z91), (18, vi l18), (13, vl l13), (11, vl l11), (9, vl l9), (15, vi l15), (7, vl l7), (5, vl l5), (3, vl l3), (2, vi l2), (0, .ref 131), (1, vi l1)]) (st2 := [vl l9, vl (s93.1 131 8), vi l15]) 1 (fun _ _ => rfl) ?_
            refine wr_anyl (a := s93.1 131 8) (b := l9) rfl rfl fun z134 h135 _ => ?_
            show wr (4 * n + 150) tb_M70 156 [(17, vi z91), (16, vi z91), (19, vi z91), (18, vi l18), (13, vl l13), (11, vl l11), (9, vl l9), (15, vi l15), (7, vl l7), (5, vl l5), (3, vl l3), (2, vi l2), (0, .ref 131), (1, vi l1)] [vl z134, vi l15] s93 _
            refine wr_n (pc2 := 157) (lv2 := [(17, vi z91), (16, vi z91), (19, vi z91), (18, vi l18), (13, vl l13), (11, vl l11), (9, vl l9), (15, vi l15), (7, vl l7), (5, vl l5), (3, vl l3), (2, vi l2), (0, .ref 131), (1, vi l1)]) (st2 := [.ref 131, vl z134, vi l15]) 1 (fun _ _ => rfl) ?_
            refine wr_get (v := vl (s93.1 131 7)) rfl rfl rfl (by decide) rfl fun h136 => ?_
            show wr (4 * n + 150) tb_M70 160 [(17, vi z91), (16, vi z91), (19, vi z91), (18, vi l18), (13, vl l13), (11, vl l11), (9, vl l9), (15, vi l15), (7, vl l7), (5, vl l5), (3, vl l3), (2, vi l2), (0, .ref 131), (1, vi l1)] [vl (s93.1 131 7), vl z134, vi l15] s93 _
            refine wr_n (pc2 := 162) (lv2 := [(17, vi z91), (16, vi z91), (19, vi z91), (18, vi l18), (13, vl l13), (11, vl l11), (9, vl l9), (15, vi l15), (7, vl l7), (5, vl l5), (3, vl l3), (2, vi l2), (0, .ref 131), (1, vi l1)]) (st2 := [vl l11, vl (s93.1 131 7), vl z134, vi l15]) 1 (fun _ _ => rfl) ?_
            refine wr_anyl (a := s93.1 131 7) (b := l11) rfl rfl fun z137 h138 _ => ?_
            show wr (4 * n + 150) tb_M70 163 [(17, vi z91), (16, vi z91), (19, vi z91), (18, vi l18), (13, vl l13), (11, vl l11), (9, vl l9), (15, vi l15), (7, vl l7), (5, vl l5), (3, vl l3), (2, vi l2), (0, .ref 131), (1, vi l1)] [vl z137, vl z134, vi l15] s93 _
            refine wr_anyl (a := z134) (b := z137) rfl rfl fun z139 h140 _ => ?_
            show wr (4 * n + 150) tb_M70 164 [(17, vi z91), (16, vi z91), (19, vi z91), (18, vi l18), (13, vl l13), (11, vl l11), (9, vl l9), (15, vi l15), (7, vl l7), (5, vl l5), (3, vl l3), (2, vi l2), (0, .ref 131), (1, vi l1)] [vl z139, vi l15] s93 _
            refine wr_n (pc2 := 165) (lv2 := [(17, vi z91), (16, vi z91), (19, vi z91), (18, vi l18), (13, vl l13), (11, vl l11), (9, vl l9), (15, vi l15), (7, vl l7), (5, vl l5), (3, vl l3), (2, vi l2), (0, .ref 131), (1, vi l1)]) (st2 := [.ref 131, vl z139, vi l15]) 1 (fun _ _ => rfl) ?_
            refine wr_get (v := vl (s93.1 131 9)) rfl rfl rfl (by decide) rfl fun h141 => ?_
            show wr (4 * n + 150) tb_M70 168 [(17, vi z91), (16, vi z91), (19, vi z91), (18, vi l18), (13, vl l13), (11, vl l11), (9, vl l9), (15, vi l15), (7, vl l7), (5, vl l5), (3, vl l3), (2, vi l2), (0, .ref 131), (1, vi l1)] [vl (s93.1 131 9), vl z139, vi l15] s93 _
            refine wr_n (pc2 := 170) (lv2 := [(17, vi z91), (16, vi z91), (19, vi z91), (18, vi l18), (13, vl l13), (11, vl l11), (9, vl l9), (15, vi l15), (7, vl l7), (5, vl l5), (3, vl l3), (2, vi l2), (0, .ref 131), (1, vi l1)]) (st2 := [vl l13, vl (s93.1 131 9), vl z139, vi l15]) 1 (fun _ _ => rfl) ?_
            refine wr_anyl (a := s93.1 131 9) (b := l13) rfl rfl fun z142 h143 _ => ?_
            show wr (4 * n + 150) tb_M70 171 [(17, vi z91), (16, vi z91), (19, vi z91), (18, vi l18), (13, vl l13), (11, vl l11), (9, vl l9), (15, vi l15), (7, vl l7), (5, vl l5), (3, vl l3), (2, vi l2), (0, .ref 131), (1, vi l1)] [vl z142, vl z139, vi l15] s93 _
            refine wr_anyl (a := z139) (b := z142) rfl rfl fun z144 h145 _ => ?_
            show wr (4 * n + 150) tb_M70 172 [(17, vi z91), (16, vi z91), (19, vi z91), (18, vi l18), (13, vl l13), (11, vl l11), (9, vl l9), (15, vi l15), (7, vl l7), (5, vl l5), (3, vl l3), (2, vi l2), (0, .ref 131), (1, vi l1)] [vl z144, vi l15] s93 _
            refine wr_n (pc2 := 173) (lv2 := [(17, vi z91), (16, vi z91), (19, vi z91), (18, vi l18), (13, vl l13), (11, vl l11), (9, vl l9), (15, vi l15), (7, vl l7), (5, vl l5), (3, vl l3), (2, vi l2), (0, .ref 131), (1, vi l1)]) (st2 := [vl 0, vl z144, vi l15]) 1 (fun _ _ => rfl) ?_
            refine wr_lcmp (a := z144) (b := 0) rfl h145 (by unfold i64; omega) fun z146 h147 => ?_
            show wr (4 * n + 150) tb_M70 174 [(17, vi z91), (16, vi z91), (19, vi z91), (18, vi l18), (13, vl l13), (11, vl l11), (9, vl l9), (15, vi l15), (7, vl l7), (5, vl l5), (3, vl l3), (2, vi l2), (0, .ref 131), (1, vi l1)] [vi z146, vi l15] s93 _
            by_cases h148 : z146 = 0
            · refine wr_if1t rfl rfl (by unfold i32; omega) h148 ?_
              refine wr_n (pc2 := 182) (lv2 := [(17, vi z91), (16, vi z91), (19, vi z91), (18, vi l18), (13, vl l13), (11, vl l11), (9, vl l9), (15, vi l15), (7, vl l7), (5, vl l5), (3, vl l3), (2, vi l2), (0, .ref 131), (1, vi l1)]) (st2 := [vi 0, vi l15]) 1 (fun _ _ => rfl) ?_
              refine wr_any2 rfl rfl fun z149 h150 => ?_
              unfold i32 at h150
              show wr (4 * n + 150) tb_M70 183 [(17, vi z91), (16, vi z91), (19, vi z91), (18, vi l18), (13, vl l13), (11, vl l11), (9, vl l9), (15, vi l15), (7, vl l7), (5, vl l5), (3, vl l3), (2, vi l2), (0, .ref 131), (1, vi l1)] [vi z149] s93 _
              refine wr_n (pc2 := 188) (lv2 := [(15, vi z149), (17, vi z91), (16, vi z91), (19, vi z91), (18, vi l18), (13, vl l13), (11, vl l11), (9, vl l9), (7, vl l7), (5, vl l5), (3, vl l3), (2, vi l2), (0, .ref 131), (1, vi l1)]) (st2 := [.ref 131, vl l9]) 3 (fun _ _ => rfl) ?_
              refine wr_get (v := vl (s93.1 131 7)) rfl rfl rfl (by decide) rfl fun h151 => ?_
              show wr (4 * n + 150) tb_M70 191 [(15, vi z149), (17, vi z91), (16, vi z91), (19, vi z91), (18, vi l18), (13, vl l13), (11, vl l11), (9, vl l9), (7, vl l7), (5, vl l5), (3, vl l3), (2, vi l2), (0, .ref 131), (1, vi l1)] [vl (s93.1 131 7), vl l9] s93 _
              refine wr_anyl (a := l9) (b := s93.1 131 7) rfl rfl fun z152 h153 _ => ?_
              show wr (4 * n + 150) tb_M70 192 [(15, vi z149), (17, vi z91), (16, vi z91), (19, vi z91), (18, vi l18), (13, vl l13), (11, vl l11), (9, vl l9), (7, vl l7), (5, vl l5), (3, vl l3), (2, vi l2), (0, .ref 131), (1, vi l1)] [vl z152] s93 _
              refine wr_n (pc2 := 197) (lv2 := [(9, vl z152), (15, vi z149), (17, vi z91), (16, vi z91), (19, vi z91), (18, vi l18), (13, vl l13), (11, vl l11), (7, vl l7), (5, vl l5), (3, vl l3), (2, vi l2), (0, .ref 131), (1, vi l1)]) (st2 := [.ref 131, vl l11]) 3 (fun _ _ => rfl) ?_
              refine wr_get (v := vl (s93.1 131 8)) rfl rfl rfl (by decide) rfl fun h154 => ?_
              show wr (4 * n + 150) tb_M70 200 [(9, vl z152), (15, vi z149), (17, vi z91), (16, vi z91), (19, vi z91), (18, vi l18), (13, vl l13), (11, vl l11), (7, vl l7), (5, vl l5), (3, vl l3), (2, vi l2), (0, .ref 131), (1, vi l1)] [vl (s93.1 131 8), vl l11] s93 _
              refine wr_anyl (a := l11) (b := s93.1 131 8) rfl rfl fun z155 h156 _ => ?_
              show wr (4 * n + 150) tb_M70 201 [(9, vl z152), (15, vi z149), (17, vi z91), (16, vi z91), (19, vi z91), (18, vi l18), (13, vl l13), (11, vl l11), (7, vl l7), (5, vl l5), (3, vl l3), (2, vi l2), (0, .ref 131), (1, vi l1)] [vl z155] s93 _
              refine wr_n (pc2 := 206) (lv2 := [(11, vl z155), (9, vl z152), (15, vi z149), (17, vi z91), (16, vi z91), (19, vi z91), (18, vi l18), (13, vl l13), (7, vl l7), (5, vl l5), (3, vl l3), (2, vi l2), (0, .ref 131), (1, vi l1)]) (st2 := [.ref 131, vl l13]) 3 (fun _ _ => rfl) ?_
              refine wr_get (v := vl (s93.1 131 9)) rfl rfl rfl (by decide) rfl fun h157 => ?_
              show wr (4 * n + 150) tb_M70 209 [(11, vl z155), (9, vl z152), (15, vi z149), (17, vi z91), (16, vi z91), (19, vi z91), (18, vi l18), (13, vl l13), (7, vl l7), (5, vl l5), (3, vl l3), (2, vi l2), (0, .ref 131), (1, vi l1)] [vl (s93.1 131 9), vl l13] s93 _
              refine wr_anyl (a := l13) (b := s93.1 131 9) rfl rfl fun z158 h159 _ => ?_
              show wr (4 * n + 150) tb_M70 210 [(11, vl z155), (9, vl z152), (15, vi z149), (17, vi z91), (16, vi z91), (19, vi z91), (18, vi l18), (13, vl l13), (7, vl l7), (5, vl l5), (3, vl l3), (2, vi l2), (0, .ref 131), (1, vi l1)] [vl z158] s93 _
              refine wr_n (pc2 := 212) (lv2 := [(13, vl z158), (11, vl z155), (9, vl z152), (15, vi z149), (17, vi z91), (16, vi z91), (19, vi z91), (18, vi l18), (7, vl l7), (5, vl l5), (3, vl l3), (2, vi l2), (0, .ref 131), (1, vi l1)]) (st2 := []) 1 (fun _ _ => rfl) ?_
              refine wr_inc (a := l18) rfl rfl ?_
              show wr (4 * n + 150) tb_M70 215 [(18, vi (l18 + 1)), (13, vl z158), (11, vl z155), (9, vl z152), (15, vi z149), (17, vi z91), (16, vi z91), (19, vi z91), (7, vl l7), (5, vl l5), (3, vl l3), (2, vi l2), (0, .ref 131), (1, vi l1)] [] s93 _
              refine wr_n (pc2 := 53) (lv2 := [(18, vi (l18 + 1)), (13, vl z158), (11, vl z155), (9, vl z152), (15, vi z149), (17, vi z91), (16, vi z91), (19, vi z91), (7, vl l7), (5, vl l5), (3, vl l3), (2, vi l2), (0, .ref 131), (1, vi l1)]) (st2 := []) 1 (fun _ _ => rfl) ?_
              exact ih _ (by omega) (l18 + 1) z158 z155 z152 z149 z91 z91 z91 l7 l5 l3 l2 l1 s93 rfl hK93 hq93 hX93 hC93 (by omega) h159 h156 h153 (by omega) (by omega) (by omega) (by omega) hl7 hl5 hl3 (by omega) (by omega) (by omega) 
            · refine wr_if1f rfl rfl (by unfold i32; omega) h148 ?_
              refine wr_n (pc2 := 182) (lv2 := [(17, vi z91), (16, vi z91), (19, vi z91), (18, vi l18), (13, vl l13), (11, vl l11), (9, vl l9), (15, vi l15), (7, vl l7), (5, vl l5), (3, vl l3), (2, vi l2), (0, .ref 131), (1, vi l1)]) (st2 := [vi 1, vi l15]) 2 (fun _ _ => rfl) ?_
              refine wr_any2 rfl rfl fun z160 h161 => ?_
              unfold i32 at h161
              show wr (4 * n + 150) tb_M70 183 [(17, vi z91), (16, vi z91), (19, vi z91), (18, vi l18), (13, vl l13), (11, vl l11), (9, vl l9), (15, vi l15), (7, vl l7), (5, vl l5), (3, vl l3), (2, vi l2), (0, .ref 131), (1, vi l1)] [vi z160] s93 _
              refine wr_n (pc2 := 188) (lv2 := [(15, vi z160), (17, vi z91), (16, vi z91), (19, vi z91), (18, vi l18), (13, vl l13), (11, vl l11), (9, vl l9), (7, vl l7), (5, vl l5), (3, vl l3), (2, vi l2), (0, .ref 131), (1, vi l1)]) (st2 := [.ref 131, vl l9]) 3 (fun _ _ => rfl) ?_
              refine wr_get (v := vl (s93.1 131 7)) rfl rfl rfl (by decide) rfl fun h162 => ?_
              show wr (4 * n + 150) tb_M70 191 [(15, vi z160), (17, vi z91), (16, vi z91), (19, vi z91), (18, vi l18), (13, vl l13), (11, vl l11), (9, vl l9), (7, vl l7), (5, vl l5), (3, vl l3), (2, vi l2), (0, .ref 131), (1, vi l1)] [vl (s93.1 131 7), vl l9] s93 _
              refine wr_anyl (a := l9) (b := s93.1 131 7) rfl rfl fun z163 h164 _ => ?_
              show wr (4 * n + 150) tb_M70 192 [(15, vi z160), (17, vi z91), (16, vi z91), (19, vi z91), (18, vi l18), (13, vl l13), (11, vl l11), (9, vl l9), (7, vl l7), (5, vl l5), (3, vl l3), (2, vi l2), (0, .ref 131), (1, vi l1)] [vl z163] s93 _
              refine wr_n (pc2 := 197) (lv2 := [(9, vl z163), (15, vi z160), (17, vi z91), (16, vi z91), (19, vi z91), (18, vi l18), (13, vl l13), (11, vl l11), (7, vl l7), (5, vl l5), (3, vl l3), (2, vi l2), (0, .ref 131), (1, vi l1)]) (st2 := [.ref 131, vl l11]) 3 (fun _ _ => rfl) ?_
              refine wr_get (v := vl (s93.1 131 8)) rfl rfl rfl (by decide) rfl fun h165 => ?_
              show wr (4 * n + 150) tb_M70 200 [(9, vl z163), (15, vi z160), (17, vi z91), (16, vi z91), (19, vi z91), (18, vi l18), (13, vl l13), (11, vl l11), (7, vl l7), (5, vl l5), (3, vl l3), (2, vi l2), (0, .ref 131), (1, vi l1)] [vl (s93.1 131 8), vl l11] s93 _
              refine wr_anyl (a := l11) (b := s93.1 131 8) rfl rfl fun z166 h167 _ => ?_
              show wr (4 * n + 150) tb_M70 201 [(9, vl z163), (15, vi z160), (17, vi z91), (16, vi z91), (19, vi z91), (18, vi l18), (13, vl l13), (11, vl l11), (7, vl l7), (5, vl l5), (3, vl l3), (2, vi l2), (0, .ref 131), (1, vi l1)] [vl z166] s93 _
              refine wr_n (pc2 := 206) (lv2 := [(11, vl z166), (9, vl z163), (15, vi z160), (17, vi z91), (16, vi z91), (19, vi z91), (18, vi l18), (13, vl l13), (7, vl l7), (5, vl l5), (3, vl l3), (2, vi l2), (0, .ref 131), (1, vi l1)]) (st2 := [.ref 131, vl l13]) 3 (fun _ _ => rfl) ?_
              refine wr_get (v := vl (s93.1 131 9)) rfl rfl rfl (by decide) rfl fun h168 => ?_
              show wr (4 * n + 150) tb_M70 209 [(11, vl z166), (9, vl z163), (15, vi z160), (17, vi z91), (16, vi z91), (19, vi z91), (18, vi l18), (13, vl l13), (7, vl l7), (5, vl l5), (3, vl l3), (2, vi l2), (0, .ref 131), (1, vi l1)] [vl (s93.1 131 9), vl l13] s93 _
              refine wr_anyl (a := l13) (b := s93.1 131 9) rfl rfl fun z169 h170 _ => ?_
              show wr (4 * n + 150) tb_M70 210 [(11, vl z166), (9, vl z163), (15, vi z160), (17, vi z91), (16, vi z91), (19, vi z91), (18, vi l18), (13, vl l13), (7, vl l7), (5, vl l5), (3, vl l3), (2, vi l2), (0, .ref 131), (1, vi l1)] [vl z169] s93 _
              refine wr_n (pc2 := 212) (lv2 := [(13, vl z169), (11, vl z166), (9, vl z163), (15, vi z160), (17, vi z91), (16, vi z91), (19, vi z91), (18, vi l18), (7, vl l7), (5, vl l5), (3, vl l3), (2, vi l2), (0, .ref 131), (1, vi l1)]) (st2 := []) 1 (fun _ _ => rfl) ?_
              refine wr_inc (a := l18) rfl rfl ?_
              show wr (4 * n + 150) tb_M70 215 [(18, vi (l18 + 1)), (13, vl z169), (11, vl z166), (9, vl z163), (15, vi z160), (17, vi z91), (16, vi z91), (19, vi z91), (7, vl l7), (5, vl l5), (3, vl l3), (2, vi l2), (0, .ref 131), (1, vi l1)] [] s93 _
              refine wr_n (pc2 := 53) (lv2 := [(18, vi (l18 + 1)), (13, vl z169), (11, vl z166), (9, vl z163), (15, vi z160), (17, vi z91), (16, vi z91), (19, vi z91), (7, vl l7), (5, vl l5), (3, vl l3), (2, vi l2), (0, .ref 131), (1, vi l1)]) (st2 := []) 1 (fun _ _ => rfl) ?_
              exact ih _ (by omega) (l18 + 1) z169 z166 z163 z160 z91 z91 z91 l7 l5 l3 l2 l1 s93 rfl hK93 hq93 hX93 hC93 (by omega) h170 h167 h164 (by omega) (by omega) (by omega) (by omega) hl7 hl5 hl3 (by omega) (by omega) (by omega) 
        · refine .inr ⟨rfl, ?_⟩
          exact ⟨hK91, (FX_tr (FX_up (FX_up (FX_up hX87 (by unfold fx; omega)) (by unfold fx; omega)) (by unfold fx; omega)) hY91), .inr ⟨rfl, TH hC87 hc91⟩⟩
      · refine .inr ⟨rfl, ?_⟩
        exact ⟨hK87, (FX_tr hX hY87), .inr ⟨rfl, TH hc hc87⟩⟩
  · refine wr_if2f rfl rfl (by unfold i32; omega) (by unfold i32; omega) h1 ?_
    refine wr_n (pc2 := 63) (lv2 := [(18, vi l18), (13, vl l13), (11, vl l11), (9, vl l9), (15, vi l15), (17, vi l17), (16, vi l16), (19, vi l19), (7, vl l7), (5, vl l5), (3, vl l3), (2, vi l2), (0, .ref 131), (1, vi l1)]) (st2 := [vi 6, vi l18]) 2 (fun _ _ => rfl) ?_
    by_cases h171 : 6 ≤ l18
    · refine wr_if2t rfl rfl (by unfold i32; omega) (by unfold i32; omega) h171 ?_
      exact k_branches_218 hC hSt l18 l13 l11 l9 l15 l17 l16 l19 l7 l5 l3 l2 l1 s hK hq hX hc (by omega) hl13 hl11 hl9 (by omega) (by omega) (by omega) (by omega) hl7 hl5 hl3 (by omega) (by omega)  
    · refine wr_if2f rfl rfl (by unfold i32; omega) (by unfold i32; omega) h171 ?_
      refine wr_n (pc2 := 67) (lv2 := [(18, vi l18), (13, vl l13), (11, vl l11), (9, vl l9), (15, vi l15), (17, vi l17), (16, vi l16), (19, vi l19), (7, vl l7), (5, vl l5), (3, vl l3), (2, vi l2), (0, .ref 131), (1, vi l1)]) (st2 := [.ref 131]) 1 (fun _ _ => rfl) ?_
      refine wr_get (v := .ref 137) rfl rfl rfl (by decide) (rv_ref (hK.1 131 0 137 rfl)) fun h172 => ?_
      show wr (4 * n + 150) tb_M70 70 [(18, vi l18), (13, vl l13), (11, vl l11), (9, vl l9), (15, vi l15), (17, vi l17), (16, vi l16), (19, vi l19), (7, vl l7), (5, vl l5), (3, vl l3), (2, vi l2), (0, .ref 131), (1, vi l1)] [.ref 137] s _
      refine wr_call1 (args := []) (rest := []) rfl rfl rfl rfl (Nat.le_of_ble_eq_true rfl) (cr_mono (k_kind (d := 4 * n + 149) s hK) ?_)
      rintro s173 out ⟨z173, rfl, hz173, hp173, e173⟩
      refine ⟨_, rfl, ?_⟩
      rw [e173]
      unfold i32 at hz173
      clear hp173
      show wr (4 * n + 150) tb_M70 73 [(18, vi l18), (13, vl l13), (11, vl l11), (9, vl l9), (15, vi l15), (17, vi l17), (16, vi l16), (19, vi l19), (7, vl l7), (5, vl l5), (3, vl l3), (2, vi l2), (0, .ref 131), (1, vi l1)] [vi z173] s _
      refine wr_n (pc2 := 75) (lv2 := [(18, vi l18), (13, vl l13), (11, vl l11), (9, vl l9), (15, vi l15), (17, vi l17), (16, vi l16), (19, vi l19), (7, vl l7), (5, vl l5), (3, vl l3), (2, vi l2), (0, .ref 131), (1, vi l1)]) (st2 := [vi 124, vi z173]) 1 (fun _ _ => rfl) ?_
      by_cases h174 : z173 ≠ 124
      · refine wr_if2t rfl rfl (by unfold i32; omega) (by unfold i32; omega) h174 ?_
        exact k_branches_218 hC hSt l18 l13 l11 l9 l15 l17 l16 l19 l7 l5 l3 l2 l1 s hK hq hX hc (by omega) hl13 hl11 hl9 (by omega) (by omega) (by omega) (by omega) hl7 hl5 hl3 (by omega) (by omega)  
      · refine wr_if2f rfl rfl (by unfold i32; omega) (by unfold i32; omega) h174 ?_
        refine wr_n (pc2 := 81) (lv2 := [(18, vi l18), (13, vl l13), (11, vl l11), (9, vl l9), (15, vi l15), (17, vi l17), (16, vi l16), (19, vi l19), (7, vl l7), (5, vl l5), (3, vl l3), (2, vi l2), (0, .ref 131), (1, vi l1)]) (st2 := [vi l18, .ref 131]) 2 (fun _ _ => rfl) ?_
        by_cases h175 : l18 ≠ 0
        · refine wr_if1t rfl rfl (by unfold i32; omega) h175 ?_
          refine wr_n (pc2 := 91) (lv2 := [(18, vi l18), (13, vl l13), (11, vl l11), (9, vl l9), (15, vi l15), (17, vi l17), (16, vi l16), (19, vi l19), (7, vl l7), (5, vl l5), (3, vl l3), (2, vi l2), (0, .ref 131), (1, vi l1)]) (st2 := [vi 124, .ref 131]) 1 (fun _ _ => rfl) ?_
          refine wr_call1T (args := [vi 124]) (rest := []) rfl rfl rfl rfl (Nat.le_of_ble_eq_true rfl) rfl (cr_mono (k_expect (d := 4 * n + 148) (x := 124) s hK (by omega)) ?_)
          rintro s176 out ⟨hK176, hY176, ⟨hc176, rfl⟩ | ⟨rfl, hc176⟩⟩
          · refine .inl ⟨_, rfl, ?_⟩
            have hX176 : FX s0.1 s176.1 := FX_tr hX hY176
            have hC176 : s176.2 = s0.2 := hc176.trans hc
            have hq176 : s176.1 131 1 = (C : Int) := (hY176 131 1 (by unfold fx; omega)).trans hq
            show wr (4 * n + 150) tb_M70 94 [(18, vi l18), (13, vl l13), (11, vl l11), (9, vl l9), (15, vi l15), (17, vi l17), (16, vi l16), (19, vi l19), (7, vl l7), (5, vl l5), (3, vl l3), (2, vi l2), (0, .ref 131), (1, vi l1)] [] s176 _
            refine wr_n (pc2 := 96) (lv2 := [(18, vi l18), (13, vl l13), (11, vl l11), (9, vl l9), (15, vi l15), (17, vi l17), (16, vi l16), (19, vi l19), (7, vl l7), (5, vl l5), (3, vl l3), (2, vi l2), (0, .ref 131), (1, vi l1)]) (st2 := [vl 0, .ref 131]) 2 (fun _ _ => rfl) ?_
            refine wr_put (z := 0) rfl rfl rfl rfl (by decide) rfl (by decide) rfl (by first | exact ⟨by omega, by omega⟩ | assumption) (fit_l _) ?_
            show wr (4 * n + 150) tb_M70 99 [(18, vi l18), (13, vl l13), (11, vl l11), (9, vl l9), (15, vi l15), (17, vi l17), (16, vi l16), (19, vi l19), (7, vl l7), (5, vl l5), (3, vl l3), (2, vi l2), (0, .ref 131), (1, vi l1)] [] (up2 s176.1 131 7 0, s176.2) _
            have hK177 : KI (up2 s176.1 131 7 0) := (KI_up hK176 rfl (kb_no rfl))
            refine wr_n (pc2 := 101) (lv2 := [(18, vi l18), (13, vl l13), (11, vl l11), (9, vl l9), (15, vi l15), (17, vi l17), (16, vi l16), (19, vi l19), (7, vl l7), (5, vl l5), (3, vl l3), (2, vi l2), (0, .ref 131), (1, vi l1)]) (st2 := [vl 0, .ref 131]) 2 (fun _ _ => rfl) ?_
            refine wr_put (z := 0) rfl rfl rfl rfl (by decide) rfl (by decide) rfl (by first | exact ⟨by omega, by omega⟩ | assumption) (fit_l _) ?_
            show wr (4 * n + 150) tb_M70 104 [(18, vi l18), (13, vl l13), (11, vl l11), (9, vl l9), (15, vi l15), (17, vi l17), (16, vi l16), (19, vi l19), (7, vl l7), (5, vl l5), (3, vl l3), (2, vi l2), (0, .ref 131), (1, vi l1)] [] (up2 (up2 s176.1 131 7 0) 131 8 0, s176.2) _
            have hK178 : KI (up2 (up2 s176.1 131 7 0) 131 8 0) := (KI_up (KI_up hK176 rfl (kb_no rfl)) rfl (kb_no rfl))
            refine wr_n (pc2 := 106) (lv2 := [(18, vi l18), (13, vl l13), (11, vl l11), (9, vl l9), (15, vi l15), (17, vi l17), (16, vi l16), (19, vi l19), (7, vl l7), (5, vl l5), (3, vl l3), (2, vi l2), (0, .ref 131), (1, vi l1)]) (st2 := [vl 0, .ref 131]) 2 (fun _ _ => rfl) ?_
            refine wr_put (z := 0) rfl rfl rfl rfl (by decide) rfl (by decide) rfl (by first | exact ⟨by omega, by omega⟩ | assumption) (fit_l _) ?_
            show wr (4 * n + 150) tb_M70 109 [(18, vi l18), (13, vl l13), (11, vl l11), (9, vl l9), (15, vi l15), (17, vi l17), (16, vi l16), (19, vi l19), (7, vl l7), (5, vl l5), (3, vl l3), (2, vi l2), (0, .ref 131), (1, vi l1)] [] (up2 (up2 (up2 s176.1 131 7 0) 131 8 0) 131 9 0, s176.2) _
            have hK179 : KI (up2 (up2 (up2 s176.1 131 7 0) 131 8 0) 131 9 0) := (KI_up (KI_up (KI_up hK176 rfl (kb_no rfl)) rfl (kb_no rfl)) rfl (kb_no rfl))
            refine wr_n (pc2 := 112) (lv2 := [(18, vi l18), (13, vl l13), (11, vl l11), (9, vl l9), (15, vi l15), (17, vi l17), (16, vi l16), (19, vi l19), (7, vl l7), (5, vl l5), (3, vl l3), (2, vi l2), (0, .ref 131), (1, vi l1)]) (st2 := [vi 1, vi l1, .ref 131]) 3 (fun _ _ => rfl) ?_
            refine wr_add (a := l1) (b := 1) rfl ?_
            show wr (4 * n + 150) tb_M70 113 [(18, vi l18), (13, vl l13), (11, vl l11), (9, vl l9), (15, vi l15), (17, vi l17), (16, vi l16), (19, vi l19), (7, vl l7), (5, vl l5), (3, vl l3), (2, vi l2), (0, .ref 131), (1, vi l1)] [vi (l1 + 1), .ref 131] (up2 (up2 (up2 s176.1 131 7 0) 131 8 0) 131 9 0, s176.2) _
            refine wr_call1T (args := [vi (l1 + 1)]) (rest := []) rfl rfl rfl rfl (Nat.le_of_ble_eq_true rfl) rfl (cr_mono (hSt C (up2 (up2 (up2 s176.1 131 7 0) 131 8 0) 131 9 0, s176.2) (l1 + 1) hC hK179 (show (up2 (up2 (up2 s176.1 131 7 0) 131 8 0) 131 9 0) 131 1 = ((C : Nat) : Int) from ((if_neg (by omega)).trans ((if_neg (by omega)).trans ((if_neg (by omega)).trans hq176)))) (by omega)) ?_)
            rintro s180 out ⟨hK180, hY180, ⟨z180, hc180, rfl, hz180, hp180⟩ | ⟨rfl, hc180⟩⟩
            · refine .inl ⟨_, rfl, ?_⟩
              have hX180 : FX s0.1 s180.1 := FX_tr (FX_up (FX_up (FX_up hX176 (by unfold fx; omega)) (by unfold fx; omega)) (by unfold fx; omega)) hY180
              have hC180 : s180.2 = s0.2 := hc180.trans hC176
              have hq180 : s180.1 131 1 = (C : Int) := (hY180 131 1 (by unfold fx; omega)).trans (show (up2 (up2 (up2 s176.1 131 7 0) 131 8 0) 131 9 0) 131 1 = ((C : Nat) : Int) from ((if_neg (by omega)).trans ((if_neg (by omega)).trans ((if_neg (by omega)).trans hq176))))
              unfold i32 at hz180
              clear hp180
              show wr (4 * n + 150) tb_M70 116 [(18, vi l18), (13, vl l13), (11, vl l11), (9, vl l9), (15, vi l15), (17, vi l17), (16, vi l16), (19, vi l19), (7, vl l7), (5, vl l5), (3, vl l3), (2, vi l2), (0, .ref 131), (1, vi l1)] [vi z180] s180 _
              refine wr_n (pc2 := 119) (lv2 := [(19, vi z180), (18, vi l18), (13, vl l13), (11, vl l11), (9, vl l9), (15, vi l15), (17, vi l17), (16, vi l16), (7, vl l7), (5, vl l5), (3, vl l3), (2, vi l2), (0, .ref 131), (1, vi l1)]) (st2 := [.ref 131]) 2 (fun _ _ => rfl) ?_
              refine wr_get (v := .ref C) rfl rfl rfl (by decide) (rv_ref (show (s180.1) 131 1 = ((C : Nat) : Int) from hq180)) fun h181 => ?_
              show wr (4 * n + 150) tb_M70 122 [(19, vi z180), (18, vi l18), (13, vl l13), (11, vl l11), (9, vl l9), (15, vi l15), (17, vi l17), (16, vi l16), (7, vl l7), (5, vl l5), (3, vl l3), (2, vi l2), (0, .ref 131), (1, vi l1)] [.ref C] s180 _
              refine wr_n (pc2 := 126) (lv2 := [(19, vi z180), (18, vi l18), (13, vl l13), (11, vl l11), (9, vl l9), (15, vi l15), (17, vi l17), (16, vi l16), (7, vl l7), (5, vl l5), (3, vl l3), (2, vi l2), (0, .ref 131), (1, vi l1)]) (st2 := [vi z180, vi l17, .ref C]) 2 (fun _ _ => rfl) ?_
              refine wr_call1 (args := [vi l17, vi z180]) (rest := []) rfl rfl rfl (TK0 hC) (Nat.le_of_ble_eq_true rfl) (cr_mono (k_link (d := 4 * n + 148) (C := C) hC (x := l17) (y := z180) s180 hK180 (by omega) (by omega)) ?_)
              rintro s182 out ⟨hK182, hY182, hc182, rfl⟩
              refine ⟨_, rfl, ?_⟩
              have hX182 : FX s0.1 s182.1 := FX_tr hX180 hY182
              have hC182 : s182.2 = s0.2 := hc182.trans hC180
              have hq182 : s182.1 131 1 = (C : Int) := (hY182 131 1 (by unfold fx; omega)).trans hq180
              show wr (4 * n + 150) tb_M70 129 [(19, vi z180), (18, vi l18), (13, vl l13), (11, vl l11), (9, vl l9), (15, vi l15), (17, vi l17), (16, vi l16), (7, vl l7), (5, vl l5), (3, vl l3), (2, vi l2), (0, .ref 131), (1, vi l1)] [] s182 _
              refine wr_n (pc2 := 131) (lv2 := [(19, vi z180), (18, vi l18), (13, vl l13), (11, vl l11), (9, vl l9), (15, vi l15), (17, vi l17), (16, vi l16), (7, vl l7), (5, vl l5), (3, vl l3), (2, vi l2), (0, .ref 131), (1, vi l1)]) (st2 := [vi l18]) 1 (fun _ _ => rfl) ?_
              by_cases h183 : l18 ≠ 0
              · refine wr_if1t rfl rfl (by unfold i32; omega) h183 ?_
                refine wr_n (pc2 := 150) (lv2 := [(17, vi z180), (16, vi l16), (19, vi z180), (18, vi l18), (13, vl l13), (11, vl l11), (9, vl l9), (15, vi l15), (7, vl l7), (5, vl l5), (3, vl l3), (2, vi l2), (0, .ref 131), (1, vi l1)]) (st2 := [.ref 131, vi l15]) 6 (fun _ _ => rfl) ?_
                refine wr_get (v := vl (s182.1 131 8)) rfl rfl rfl (by decide) rfl fun h184 => ?_
                show wr (4 * n + 150) tb_M70 153 [(17, vi z180), (16, vi l16), (19, vi z180), (18, vi l18), (13, vl l13), (11, vl l11), (9, vl l9), (15, vi l15), (7, vl l7), (5, vl l5), (3, vl l3), (2, vi l2), (0, .ref 131), (1, vi l1)] [vl (s182.1 131 8), vi l15] s182 _
                refine wr_n (pc2 := 155) (lv2 := [(17, vi z180), (16, vi l16), (19, vi z180), (18, vi l18), (13, vl l13), (11, vl l11), (9, vl l9), (15, vi l15), (7, vl l7), (5, vl l5), (3, vl l3), (2, vi l2), (0, .ref 131), (1, vi l1)]) (st2 := [vl l9, vl (s182.1 131 8), vi l15]) 1 (fun _ _ => rfl) ?_
                refine wr_anyl (a := s182.1 131 8) (b := l9) rfl rfl fun z185 h186 _ => ?_
                show wr (4 * n + 150) tb_M70 156 [(17, vi z180), (16, vi l16), (19, vi z180), (18, vi l18), (13, vl l13), (11, vl l11), (9, vl l9), (15, vi l15), (7, vl l7), (5, vl l5), (3, vl l3), (2, vi l2), (0, .ref 131), (1, vi l1)] [vl z185, vi l15] s182 _
                refine wr_n (pc2 := 157) (lv2 := [(17, vi z180), (16, vi l16), (19, vi z180), (18, vi l18), (13, vl l13), (11, vl l11), (9, vl l9), (15, vi l15), (7, vl l7), (5, vl l5), (3, vl l3), (2, vi l2), (0, .ref 131), (1, vi l1)]) (st2 := [.ref 131, vl z185, vi l15]) 1 (fun _ _ => rfl) ?_
                refine wr_get (v := vl (s182.1 131 7)) rfl rfl rfl (by decide) rfl fun h187 => ?_
                show wr (4 * n + 150) tb_M70 160 [(17, vi z180), (16, vi l16), (19, vi z180), (18, vi l18), (13, vl l13), (11, vl l11), (9, vl l9), (15, vi l15), (7, vl l7), (5, vl l5), (3, vl l3), (2, vi l2), (0, .ref 131), (1, vi l1)] [vl (s182.1 131 7), vl z185, vi l15] s182 _
                refine wr_n (pc2 := 162) (lv2 := [(17, vi z180), (16, vi l16), (19, vi z180), (18, vi l18), (13, vl l13), (11, vl l11), (9, vl l9), (15, vi l15), (7, vl l7), (5, vl l5), (3, vl l3), (2, vi l2), (0, .ref 131), (1, vi l1)]) (st2 := [vl l11, vl (s182.1 131 7), vl z185, vi l15]) 1 (fun _ _ => rfl) ?_
                refine wr_anyl (a := s182.1 131 7) (b := l11) rfl rfl fun z188 h189 _ => ?_
                show wr (4 * n + 150) tb_M70 163 [(17, vi z180), (16, vi l16), (19, vi z180), (18, vi l18), (13, vl l13), (11, vl l11), (9, vl l9), (15, vi l15), (7, vl l7), (5, vl l5), (3, vl l3), (2, vi l2), (0, .ref 131), (1, vi l1)] [vl z188, vl z185, vi l15] s182 _
                refine wr_anyl (a := z185) (b := z188) rfl rfl fun z190 h191 _ => ?_
                show wr (4 * n + 150) tb_M70 164 [(17, vi z180), (16, vi l16), (19, vi z180), (18, vi l18), (13, vl l13), (11, vl l11), (9, vl l9), (15, vi l15), (7, vl l7), (5, vl l5), (3, vl l3), (2, vi l2), (0, .ref 131), (1, vi l1)] [vl z190, vi l15] s182 _
                refine wr_n (pc2 := 165) (lv2 := [(17, vi z180), (16, vi l16), (19, vi z180), (18, vi l18), (13, vl l13), (11, vl l11), (9, vl l9), (15, vi l15), (7, vl l7), (5, vl l5), (3, vl l3), (2, vi l2), (0, .ref 131), (1, vi l1)]) (st2 := [.ref 131, vl z190, vi l15]) 1 (fun _ _ => rfl) ?_
                refine wr_get (v := vl (s182.1 131 9)) rfl rfl rfl (by decide) rfl fun h192 => ?_
                show wr (4 * n + 150) tb_M70 168 [(17, vi z180), (16, vi l16), (19, vi z180), (18, vi l18), (13, vl l13), (11, vl l11), (9, vl l9), (15, vi l15), (7, vl l7), (5, vl l5), (3, vl l3), (2, vi l2), (0, .ref 131), (1, vi l1)] [vl (s182.1 131 9), vl z190, vi l15] s182 _
                refine wr_n (pc2 := 170) (lv2 := [(17, vi z180), (16, vi l16), (19, vi z180), (18, vi l18), (13, vl l13), (11, vl l11), (9, vl l9), (15, vi l15), (7, vl l7), (5, vl l5), (3, vl l3), (2, vi l2), (0, .ref 131), (1, vi l1)]) (st2 := [vl l13, vl (s182.1 131 9), vl z190, vi l15]) 1 (fun _ _ => rfl) ?_
                refine wr_anyl (a := s182.1 131 9) (b := l13) rfl rfl fun z193 h194 _ => ?_
                show wr (4 * n + 150) tb_M70 171 [(17, vi z180), (16, vi l16), (19, vi z180), (18, vi l18), (13, vl l13), (11, vl l11), (9, vl l9), (15, vi l15), (7, vl l7), (5, vl l5), (3, vl l3), (2, vi l2), (0, .ref 131), (1, vi l1)] [vl z193, vl z190, vi l15] s182 _
                refine wr_anyl (a := z190) (b := z193) rfl rfl fun z195 h196 _ => ?_
                show wr (4 * n + 150) tb_M70 172 [(17, vi z180), (16, vi l16), (19, vi z180), (18, vi l18), (13, vl l13), (11, vl l11), (9, vl l9), (15, vi l15), (7, vl l7), (5, vl l5), (3, vl l3), (2, vi l2), (0, .ref 131), (1, vi l1)] [vl z195, vi l15] s182 _
                refine wr_n (pc2 := 173) (lv2 := [(17, vi z180), (16, vi l16), (19, vi z180), (18, vi l18), (13, vl l13), (11, vl l11), (9, vl l9), (15, vi l15), (7, vl l7), (5, vl l5), (3, vl l3), (2, vi l2), (0, .ref 131), (1, vi l1)]) (st2 := [vl 0, vl z195, vi l15]) 1 (fun _ _ => rfl) ?_
                refine wr_lcmp (a := z195) (b := 0) rfl h196 (by unfold i64; omega) fun z197 h198 => ?_
                show wr (4 * n + 150) tb_M70 174 [(17, vi z180), (16, vi l16), (19, vi z180), (18, vi l18), (13, vl l13), (11, vl l11), (9, vl l9), (15, vi l15), (7, vl l7), (5, vl l5), (3, vl l3), (2, vi l2), (0, .ref 131), (1, vi l1)] [vi z197, vi l15] s182 _
                by_cases h199 : z197 = 0
                · refine wr_if1t rfl rfl (by unfold i32; omega) h199 ?_
                  refine wr_n (pc2 := 182) (lv2 := [(17, vi z180), (16, vi l16), (19, vi z180), (18, vi l18), (13, vl l13), (11, vl l11), (9, vl l9), (15, vi l15), (7, vl l7), (5, vl l5), (3, vl l3), (2, vi l2), (0, .ref 131), (1, vi l1)]) (st2 := [vi 0, vi l15]) 1 (fun _ _ => rfl) ?_
                  refine wr_any2 rfl rfl fun z200 h201 => ?_
                  unfold i32 at h201
                  show wr (4 * n + 150) tb_M70 183 [(17, vi z180), (16, vi l16), (19, vi z180), (18, vi l18), (13, vl l13), (11, vl l11), (9, vl l9), (15, vi l15), (7, vl l7), (5, vl l5), (3, vl l3), (2, vi l2), (0, .ref 131), (1, vi l1)] [vi z200] s182 _
                  refine wr_n (pc2 := 188) (lv2 := [(15, vi z200), (17, vi z180), (16, vi l16), (19, vi z180), (18, vi l18), (13, vl l13), (11, vl l11), (9, vl l9), (7, vl l7), (5, vl l5), (3, vl l3), (2, vi l2), (0, .ref 131), (1, vi l1)]) (st2 := [.ref 131, vl l9]) 3 (fun _ _ => rfl) ?_
                  refine wr_get (v := vl (s182.1 131 7)) rfl rfl rfl (by decide) rfl fun h202 => ?_
                  show wr (4 * n + 150) tb_M70 191 [(15, vi z200), (17, vi z180), (16, vi l16), (19, vi z180), (18, vi l18), (13, vl l13), (11, vl l11), (9, vl l9), (7, vl l7), (5, vl l5), (3, vl l3), (2, vi l2), (0, .ref 131), (1, vi l1)] [vl (s182.1 131 7), vl l9] s182 _
                  refine wr_anyl (a := l9) (b := s182.1 131 7) rfl rfl fun z203 h204 _ => ?_
                  show wr (4 * n + 150) tb_M70 192 [(15, vi z200), (17, vi z180), (16, vi l16), (19, vi z180), (18, vi l18), (13, vl l13), (11, vl l11), (9, vl l9), (7, vl l7), (5, vl l5), (3, vl l3), (2, vi l2), (0, .ref 131), (1, vi l1)] [vl z203] s182 _
                  refine wr_n (pc2 := 197) (lv2 := [(9, vl z203), (15, vi z200), (17, vi z180), (16, vi l16), (19, vi z180), (18, vi l18), (13, vl l13), (11, vl l11), (7, vl l7), (5, vl l5), (3, vl l3), (2, vi l2), (0, .ref 131), (1, vi l1)]) (st2 := [.ref 131, vl l11]) 3 (fun _ _ => rfl) ?_
                  refine wr_get (v := vl (s182.1 131 8)) rfl rfl rfl (by decide) rfl fun h205 => ?_
                  show wr (4 * n + 150) tb_M70 200 [(9, vl z203), (15, vi z200), (17, vi z180), (16, vi l16), (19, vi z180), (18, vi l18), (13, vl l13), (11, vl l11), (7, vl l7), (5, vl l5), (3, vl l3), (2, vi l2), (0, .ref 131), (1, vi l1)] [vl (s182.1 131 8), vl l11] s182 _
                  refine wr_anyl (a := l11) (b := s182.1 131 8) rfl rfl fun z206 h207 _ => ?_
                  show wr (4 * n + 150) tb_M70 201 [(9, vl z203), (15, vi z200), (17, vi z180), (16, vi l16), (19, vi z180), (18, vi l18), (13, vl l13), (11, vl l11), (7, vl l7), (5, vl l5), (3, vl l3), (2, vi l2), (0, .ref 131), (1, vi l1)] [vl z206] s182 _
                  refine wr_n (pc2 := 206) (lv2 := [(11, vl z206), (9, vl z203), (15, vi z200), (17, vi z180), (16, vi l16), (19, vi z180), (18, vi l18), (13, vl l13), (7, vl l7), (5, vl l5), (3, vl l3), (2, vi l2), (0, .ref 131), (1, vi l1)]) (st2 := [.ref 131, vl l13]) 3 (fun _ _ => rfl) ?_
                  refine wr_get (v := vl (s182.1 131 9)) rfl rfl rfl (by decide) rfl fun h208 => ?_
                  show wr (4 * n + 150) tb_M70 209 [(11, vl z206), (9, vl z203), (15, vi z200), (17, vi z180), (16, vi l16), (19, vi z180), (18, vi l18), (13, vl l13), (7, vl l7), (5, vl l5), (3, vl l3), (2, vi l2), (0, .ref 131), (1, vi l1)] [vl (s182.1 131 9), vl l13] s182 _
                  refine wr_anyl (a := l13) (b := s182.1 131 9) rfl rfl fun z209 h210 _ => ?_
                  show wr (4 * n + 150) tb_M70 210 [(11, vl z206), (9, vl z203), (15, vi z200), (17, vi z180), (16, vi l16), (19, vi z180), (18, vi l18), (13, vl l13), (7, vl l7), (5, vl l5), (3, vl l3), (2, vi l2), (0, .ref 131), (1, vi l1)] [vl z209] s182 _
                  refine wr_n (pc2 := 212) (lv2 := [(13, vl z209), (11, vl z206), (9, vl z203), (15, vi z200), (17, vi z180), (16, vi l16), (19, vi z180), (18, vi l18), (7, vl l7), (5, vl l5), (3, vl l3), (2, vi l2), (0, .ref 131), (1, vi l1)]) (st2 := []) 1 (fun _ _ => rfl) ?_
                  refine wr_inc (a := l18) rfl rfl ?_
                  show wr (4 * n + 150) tb_M70 215 [(18, vi (l18 + 1)), (13, vl z209), (11, vl z206), (9, vl z203), (15, vi z200), (17, vi z180), (16, vi l16), (19, vi z180), (7, vl l7), (5, vl l5), (3, vl l3), (2, vi l2), (0, .ref 131), (1, vi l1)] [] s182 _
                  refine wr_n (pc2 := 53) (lv2 := [(18, vi (l18 + 1)), (13, vl z209), (11, vl z206), (9, vl z203), (15, vi z200), (17, vi z180), (16, vi l16), (19, vi z180), (7, vl l7), (5, vl l5), (3, vl l3), (2, vi l2), (0, .ref 131), (1, vi l1)]) (st2 := []) 1 (fun _ _ => rfl) ?_
                  exact ih _ (by omega) (l18 + 1) z209 z206 z203 z200 z180 l16 z180 l7 l5 l3 l2 l1 s182 rfl hK182 hq182 hX182 hC182 (by omega) h210 h207 h204 (by omega) (by omega) (by omega) (by omega) hl7 hl5 hl3 (by omega) (by omega) (by omega) 
                · refine wr_if1f rfl rfl (by unfold i32; omega) h199 ?_
                  refine wr_n (pc2 := 182) (lv2 := [(17, vi z180), (16, vi l16), (19, vi z180), (18, vi l18), (13, vl l13), (11, vl l11), (9, vl l9), (15, vi l15), (7, vl l7), (5, vl l5), (3, vl l3), (2, vi l2), (0, .ref 131), (1, vi l1)]) (st2 := [vi 1, vi l15]) 2 (fun _ _ => rfl) ?_
                  refine wr_any2 rfl rfl fun z211 h212 => ?_
                  unfold i32 at h212
                  show wr (4 * n + 150) tb_M70 183 [(17, vi z180), (16, vi l16), (19, vi z180), (18, vi l18), (13, vl l13), (11, vl l11), (9, vl l9), (15, vi l15), (7, vl l7), (5, vl l5), (3, vl l3), (2, vi l2), (0, .ref 131), (1, vi l1)] [vi z211] s182 _
                  refine wr_n (pc2 := 188) (lv2 := [(15, vi z211), (17, vi z180), (16, vi l16), (19, vi z180), (18, vi l18), (13, vl l13), (11, vl l11), (9, vl l9), (7, vl l7), (5, vl l5), (3, vl l3), (2, vi l2), (0, .ref 131), (1, vi l1)]) (st2 := [.ref 131, vl l9]) 3 (fun _ _ => rfl) ?_
                  refine wr_get (v := vl (s182.1 131 7)) rfl rfl rfl (by decide) rfl fun h213 => ?_
                  show wr (4 * n + 150) tb_M70 191 [(15, vi z211), (17, vi z180), (16, vi l16), (19, vi z180), (18, vi l18), (13, vl l13), (11, vl l11), (9, vl l9), (7, vl l7), (5, vl l5), (3, vl l3), (2, vi l2), (0, .ref 131), (1, vi l1)] [vl (s182.1 131 7), vl l9] s182 _
                  refine wr_anyl (a := l9) (b := s182.1 131 7) rfl rfl fun z214 h215 _ => ?_
                  show wr (4 * n + 150) tb_M70 192 [(15, vi z211), (17, vi z180), (16, vi l16), (19, vi z180), (18, vi l18), (13, vl l13), (11, vl l11), (9, vl l9), (7, vl l7), (5, vl l5), (3, vl l3), (2, vi l2), (0, .ref 131), (1, vi l1)] [vl z214] s182 _
                  refine wr_n (pc2 := 197) (lv2 := [(9, vl z214), (15, vi z211), (17, vi z180), (16, vi l16), (19, vi z180), (18, vi l18), (13, vl l13), (11, vl l11), (7, vl l7), (5, vl l5), (3, vl l3), (2, vi l2), (0, .ref 131), (1, vi l1)]) (st2 := [.ref 131, vl l11]) 3 (fun _ _ => rfl) ?_
                  refine wr_get (v := vl (s182.1 131 8)) rfl rfl rfl (by decide) rfl fun h216 => ?_
                  show wr (4 * n + 150) tb_M70 200 [(9, vl z214), (15, vi z211), (17, vi z180), (16, vi l16), (19, vi z180), (18, vi l18), (13, vl l13), (11, vl l11), (7, vl l7), (5, vl l5), (3, vl l3), (2, vi l2), (0, .ref 131), (1, vi l1)] [vl (s182.1 131 8), vl l11] s182 _
                  refine wr_anyl (a := l11) (b := s182.1 131 8) rfl rfl fun z217 h218 _ => ?_
                  show wr (4 * n + 150) tb_M70 201 [(9, vl z214), (15, vi z211), (17, vi z180), (16, vi l16), (19, vi z180), (18, vi l18), (13, vl l13), (11, vl l11), (7, vl l7), (5, vl l5), (3, vl l3), (2, vi l2), (0, .ref 131), (1, vi l1)] [vl z217] s182 _
                  refine wr_n (pc2 := 206) (lv2 := [(11, vl z217), (9, vl z214), (15, vi z211), (17, vi z180), (16, vi l16), (19, vi z180), (18, vi l18), (13, vl l13), (7, vl l7), (5, vl l5), (3, vl l3), (2, vi l2), (0, .ref 131), (1, vi l1)]) (st2 := [.ref 131, vl l13]) 3 (fun _ _ => rfl) ?_
                  refine wr_get (v := vl (s182.1 131 9)) rfl rfl rfl (by decide) rfl fun h219 => ?_
                  show wr (4 * n + 150) tb_M70 209 [(11, vl z217), (9, vl z214), (15, vi z211), (17, vi z180), (16, vi l16), (19, vi z180), (18, vi l18), (13, vl l13), (7, vl l7), (5, vl l5), (3, vl l3), (2, vi l2), (0, .ref 131), (1, vi l1)] [vl (s182.1 131 9), vl l13] s182 _
                  refine wr_anyl (a := l13) (b := s182.1 131 9) rfl rfl fun z220 h221 _ => ?_
                  show wr (4 * n + 150) tb_M70 210 [(11, vl z217), (9, vl z214), (15, vi z211), (17, vi z180), (16, vi l16), (19, vi z180), (18, vi l18), (13, vl l13), (7, vl l7), (5, vl l5), (3, vl l3), (2, vi l2), (0, .ref 131), (1, vi l1)] [vl z220] s182 _
                  refine wr_n (pc2 := 212) (lv2 := [(13, vl z220), (11, vl z217), (9, vl z214), (15, vi z211), (17, vi z180), (16, vi l16), (19, vi z180), (18, vi l18), (7, vl l7), (5, vl l5), (3, vl l3), (2, vi l2), (0, .ref 131), (1, vi l1)]) (st2 := []) 1 (fun _ _ => rfl) ?_
                  refine wr_inc (a := l18) rfl rfl ?_
                  show wr (4 * n + 150) tb_M70 215 [(18, vi (l18 + 1)), (13, vl z220), (11, vl z217), (9, vl z214), (15, vi z211), (17, vi z180), (16, vi l16), (19, vi z180), (7, vl l7), (5, vl l5), (3, vl l3), (2, vi l2), (0, .ref 131), (1, vi l1)] [] s182 _
                  refine wr_n (pc2 := 53) (lv2 := [(18, vi (l18 + 1)), (13, vl z220), (11, vl z217), (9, vl z214), (15, vi z211), (17, vi z180), (16, vi l16), (19, vi z180), (7, vl l7), (5, vl l5), (3, vl l3), (2, vi l2), (0, .ref 131), (1, vi l1)]) (st2 := []) 1 (fun _ _ => rfl) ?_
                  exact ih _ (by omega) (l18 + 1) z220 z217 z214 z211 z180 l16 z180 l7 l5 l3 l2 l1 s182 rfl hK182 hq182 hX182 hC182 (by omega) h221 h218 h215 (by omega) (by omega) (by omega) (by omega) hl7 hl5 hl3 (by omega) (by omega) (by omega) 
              · refine wr_if1f rfl rfl (by unfold i32; omega) h183 ?_
                refine wr_n (pc2 := 150) (lv2 := [(17, vi z180), (16, vi z180), (19, vi z180), (18, vi l18), (13, vl l13), (11, vl l11), (9, vl l9), (15, vi l15), (7, vl l7), (5, vl l5), (3, vl l3), (2, vi l2), (0, .ref 131), (1, vi l1)]) (st2 := [.ref 131, vi l15]) 7 (fun _ _ => rfl) ?_
                refine wr_get (v := vl (s182.1 131 8)) rfl rfl rfl (by decide) rfl fun h222 => ?_
                show wr (4 * n + 150) tb_M70 153 [(17, vi z180), (16, vi z180), (19, vi z180), (18, vi l18), (13, vl l13), (11, vl l11), (9, vl l9), (15, vi l15), (7, vl l7), (5, vl l5), (3, vl l3), (2, vi l2), (0, .ref 131), (1, vi l1)] [vl (s182.1 131 8), vi l15] s182 _
                refine wr_n (pc2 := 155) (lv2 := [(17, vi z180), (16, vi z180), (19, vi z180), (18, vi l18), (13, vl l13), (11, vl l11), (9, vl l9), (15, vi l15), (7, vl l7), (5, vl l5), (3, vl l3), (2, vi l2), (0, .ref 131), (1, vi l1)]) (st2 := [vl l9, vl (s182.1 131 8), vi l15]) 1 (fun _ _ => rfl) ?_
                refine wr_anyl (a := s182.1 131 8) (b := l9) rfl rfl fun z223 h224 _ => ?_
                show wr (4 * n + 150) tb_M70 156 [(17, vi z180), (16, vi z180), (19, vi z180), (18, vi l18), (13, vl l13), (11, vl l11), (9, vl l9), (15, vi l15), (7, vl l7), (5, vl l5), (3, vl l3), (2, vi l2), (0, .ref 131), (1, vi l1)] [vl z223, vi l15] s182 _
                refine wr_n (pc2 := 157) (lv2 := [(17, vi z180), (16, vi z180), (19, vi z180), (18, vi l18), (13, vl l13), (11, vl l11), (9, vl l9), (15, vi l15), (7, vl l7), (5, vl l5), (3, vl l3), (2, vi l2), (0, .ref 131), (1, vi l1)]) (st2 := [.ref 131, vl z223, vi l15]) 1 (fun _ _ => rfl) ?_
                refine wr_get (v := vl (s182.1 131 7)) rfl rfl rfl (by decide) rfl fun h225 => ?_
                show wr (4 * n + 150) tb_M70 160 [(17, vi z180), (16, vi z180), (19, vi z180), (18, vi l18), (13, vl l13), (11, vl l11), (9, vl l9), (15, vi l15), (7, vl l7), (5, vl l5), (3, vl l3), (2, vi l2), (0, .ref 131), (1, vi l1)] [vl (s182.1 131 7), vl z223, vi l15] s182 _
                refine wr_n (pc2 := 162) (lv2 := [(17, vi z180), (16, vi z180), (19, vi z180), (18, vi l18), (13, vl l13), (11, vl l11), (9, vl l9), (15, vi l15), (7, vl l7), (5, vl l5), (3, vl l3), (2, vi l2), (0, .ref 131), (1, vi l1)]) (st2 := [vl l11, vl (s182.1 131 7), vl z223, vi l15]) 1 (fun _ _ => rfl) ?_
                refine wr_anyl (a := s182.1 131 7) (b := l11) rfl rfl fun z226 h227 _ => ?_
                show wr (4 * n + 150) tb_M70 163 [(17, vi z180), (16, vi z180), (19, vi z180), (18, vi l18), (13, vl l13), (11, vl l11), (9, vl l9), (15, vi l15), (7, vl l7), (5, vl l5), (3, vl l3), (2, vi l2), (0, .ref 131), (1, vi l1)] [vl z226, vl z223, vi l15] s182 _
                refine wr_anyl (a := z223) (b := z226) rfl rfl fun z228 h229 _ => ?_
                show wr (4 * n + 150) tb_M70 164 [(17, vi z180), (16, vi z180), (19, vi z180), (18, vi l18), (13, vl l13), (11, vl l11), (9, vl l9), (15, vi l15), (7, vl l7), (5, vl l5), (3, vl l3), (2, vi l2), (0, .ref 131), (1, vi l1)] [vl z228, vi l15] s182 _
                refine wr_n (pc2 := 165) (lv2 := [(17, vi z180), (16, vi z180), (19, vi z180), (18, vi l18), (13, vl l13), (11, vl l11), (9, vl l9), (15, vi l15), (7, vl l7), (5, vl l5), (3, vl l3), (2, vi l2), (0, .ref 131), (1, vi l1)]) (st2 := [.ref 131, vl z228, vi l15]) 1 (fun _ _ => rfl) ?_
                refine wr_get (v := vl (s182.1 131 9)) rfl rfl rfl (by decide) rfl fun h230 => ?_
                show wr (4 * n + 150) tb_M70 168 [(17, vi z180), (16, vi z180), (19, vi z180), (18, vi l18), (13, vl l13), (11, vl l11), (9, vl l9), (15, vi l15), (7, vl l7), (5, vl l5), (3, vl l3), (2, vi l2), (0, .ref 131), (1, vi l1)] [vl (s182.1 131 9), vl z228, vi l15] s182 _
                refine wr_n (pc2 := 170) (lv2 := [(17, vi z180), (16, vi z180), (19, vi z180), (18, vi l18), (13, vl l13), (11, vl l11), (9, vl l9), (15, vi l15), (7, vl l7), (5, vl l5), (3, vl l3), (2, vi l2), (0, .ref 131), (1, vi l1)]) (st2 := [vl l13, vl (s182.1 131 9), vl z228, vi l15]) 1 (fun _ _ => rfl) ?_
                refine wr_anyl (a := s182.1 131 9) (b := l13) rfl rfl fun z231 h232 _ => ?_
                show wr (4 * n + 150) tb_M70 171 [(17, vi z180), (16, vi z180), (19, vi z180), (18, vi l18), (13, vl l13), (11, vl l11), (9, vl l9), (15, vi l15), (7, vl l7), (5, vl l5), (3, vl l3), (2, vi l2), (0, .ref 131), (1, vi l1)] [vl z231, vl z228, vi l15] s182 _
                refine wr_anyl (a := z228) (b := z231) rfl rfl fun z233 h234 _ => ?_
                show wr (4 * n + 150) tb_M70 172 [(17, vi z180), (16, vi z180), (19, vi z180), (18, vi l18), (13, vl l13), (11, vl l11), (9, vl l9), (15, vi l15), (7, vl l7), (5, vl l5), (3, vl l3), (2, vi l2), (0, .ref 131), (1, vi l1)] [vl z233, vi l15] s182 _
                refine wr_n (pc2 := 173) (lv2 := [(17, vi z180), (16, vi z180), (19, vi z180), (18, vi l18), (13, vl l13), (11, vl l11), (9, vl l9), (15, vi l15), (7, vl l7), (5, vl l5), (3, vl l3), (2, vi l2), (0, .ref 131), (1, vi l1)]) (st2 := [vl 0, vl z233, vi l15]) 1 (fun _ _ => rfl) ?_
                refine wr_lcmp (a := z233) (b := 0) rfl h234 (by unfold i64; omega) fun z235 h236 => ?_
                show wr (4 * n + 150) tb_M70 174 [(17, vi z180), (16, vi z180), (19, vi z180), (18, vi l18), (13, vl l13), (11, vl l11), (9, vl l9), (15, vi l15), (7, vl l7), (5, vl l5), (3, vl l3), (2, vi l2), (0, .ref 131), (1, vi l1)] [vi z235, vi l15] s182 _
                by_cases h237 : z235 = 0
                · refine wr_if1t rfl rfl (by unfold i32; omega) h237 ?_
                  refine wr_n (pc2 := 182) (lv2 := [(17, vi z180), (16, vi z180), (19, vi z180), (18, vi l18), (13, vl l13), (11, vl l11), (9, vl l9), (15, vi l15), (7, vl l7), (5, vl l5), (3, vl l3), (2, vi l2), (0, .ref 131), (1, vi l1)]) (st2 := [vi 0, vi l15]) 1 (fun _ _ => rfl) ?_
                  refine wr_any2 rfl rfl fun z238 h239 => ?_
                  unfold i32 at h239
                  show wr (4 * n + 150) tb_M70 183 [(17, vi z180), (16, vi z180), (19, vi z180), (18, vi l18), (13, vl l13), (11, vl l11), (9, vl l9), (15, vi l15), (7, vl l7), (5, vl l5), (3, vl l3), (2, vi l2), (0, .ref 131), (1, vi l1)] [vi z238] s182 _
                  refine wr_n (pc2 := 188) (lv2 := [(15, vi z238), (17, vi z180), (16, vi z180), (19, vi z180), (18, vi l18), (13, vl l13), (11, vl l11), (9, vl l9), (7, vl l7), (5, vl l5), (3, vl l3), (2, vi l2), (0, .ref 131), (1, vi l1)]) (st2 := [.ref 131, vl l9]) 3 (fun _ _ => rfl) ?_
                  refine wr_get (v := vl (s182.1 131 7)) rfl rfl rfl (by decide) rfl fun h240 => ?_
                  show wr (4 * n + 150) tb_M70 191 [(15, vi z238), (17, vi z180), (16, vi z180), (19, vi z180), (18, vi l18), (13, vl l13), (11, vl l11), (9, vl l9), (7, vl l7), (5, vl l5), (3, vl l3), (2, vi l2), (0, .ref 131), (1, vi l1)] [vl (s182.1 131 7), vl l9] s182 _
                  refine wr_anyl (a := l9) (b := s182.1 131 7) rfl rfl fun z241 h242 _ => ?_
                  show wr (4 * n + 150) tb_M70 192 [(15, vi z238), (17, vi z180), (16, vi z180), (19, vi z180), (18, vi l18), (13, vl l13), (11, vl l11), (9, vl l9), (7, vl l7), (5, vl l5), (3, vl l3), (2, vi l2), (0, .ref 131), (1, vi l1)] [vl z241] s182 _
                  refine wr_n (pc2 := 197) (lv2 := [(9, vl z241), (15, vi z238), (17, vi z180), (16, vi z180), (19, vi z180), (18, vi l18), (13, vl l13), (11, vl l11), (7, vl l7), (5, vl l5), (3, vl l3), (2, vi l2), (0, .ref 131), (1, vi l1)]) (st2 := [.ref 131, vl l11]) 3 (fun _ _ => rfl) ?_
                  refine wr_get (v := vl (s182.1 131 8)) rfl rfl rfl (by decide) rfl fun h243 => ?_
                  show wr (4 * n + 150) tb_M70 200 [(9, vl z241), (15, vi z238), (17, vi z180), (16, vi z180), (19, vi z180), (18, vi l18), (13, vl l13), (11, vl l11), (7, vl l7), (5, vl l5), (3, vl l3), (2, vi l2), (0, .ref 131), (1, vi l1)] [vl (s182.1 131 8), vl l11] s182 _
                  refine wr_anyl (a := l11) (b := s182.1 131 8) rfl rfl fun z244 h245 _ => ?_
                  show wr (4 * n + 150) tb_M70 201 [(9, vl z241), (15, vi z238), (17, vi z180), (16, vi z180), (19, vi z180), (18, vi l18), (13, vl l13), (11, vl l11), (7, vl l7), (5, vl l5), (3, vl l3), (2, vi l2), (0, .ref 131), (1, vi l1)] [vl z244] s182 _
                  refine wr_n (pc2 := 206) (lv2 := [(11, vl z244), (9, vl z241), (15, vi z238), (17, vi z180), (16, vi z180), (19, vi z180), (18, vi l18), (13, vl l13), (7, vl l7), (5, vl l5), (3, vl l3), (2, vi l2), (0, .ref 131), (1, vi l1)]) (st2 := [.ref 131, vl l13]) 3 (fun _ _ => rfl) ?_
                  refine wr_get (v := vl (s182.1 131 9)) rfl rfl rfl (by decide) rfl fun h246 => ?_
                  show wr (4 * n + 150) tb_M70 209 [(11, vl z244), (9, vl z241), (15, vi z238), (17, vi z180), (16, vi z180), (19, vi z180), (18, vi l18), (13, vl l13), (7, vl l7), (5, vl l5), (3, vl l3), (2, vi l2), (0, .ref 131), (1, vi l1)] [vl (s182.1 131 9), vl l13] s182 _
                  refine wr_anyl (a := l13) (b := s182.1 131 9) rfl rfl fun z247 h248 _ => ?_
                  show wr (4 * n + 150) tb_M70 210 [(11, vl z244), (9, vl z241), (15, vi z238), (17, vi z180), (16, vi z180), (19, vi z180), (18, vi l18), (13, vl l13), (7, vl l7), (5, vl l5), (3, vl l3), (2, vi l2), (0, .ref 131), (1, vi l1)] [vl z247] s182 _
                  refine wr_n (pc2 := 212) (lv2 := [(13, vl z247), (11, vl z244), (9, vl z241), (15, vi z238), (17, vi z180), (16, vi z180), (19, vi z180), (18, vi l18), (7, vl l7), (5, vl l5), (3, vl l3), (2, vi l2), (0, .ref 131), (1, vi l1)]) (st2 := []) 1 (fun _ _ => rfl) ?_
                  refine wr_inc (a := l18) rfl rfl ?_
                  show wr (4 * n + 150) tb_M70 215 [(18, vi (l18 + 1)), (13, vl z247), (11, vl z244), (9, vl z241), (15, vi z238), (17, vi z180), (16, vi z180), (19, vi z180), (7, vl l7), (5, vl l5), (3, vl l3), (2, vi l2), (0, .ref 131), (1, vi l1)] [] s182 _
                  refine wr_n (pc2 := 53) (lv2 := [(18, vi (l18 + 1)), (13, vl z247), (11, vl z244), (9, vl z241), (15, vi z238), (17, vi z180), (16, vi z180), (19, vi z180), (7, vl l7), (5, vl l5), (3, vl l3), (2, vi l2), (0, .ref 131), (1, vi l1)]) (st2 := []) 1 (fun _ _ => rfl) ?_
                  exact ih _ (by omega) (l18 + 1) z247 z244 z241 z238 z180 z180 z180 l7 l5 l3 l2 l1 s182 rfl hK182 hq182 hX182 hC182 (by omega) h248 h245 h242 (by omega) (by omega) (by omega) (by omega) hl7 hl5 hl3 (by omega) (by omega) (by omega) 
                · refine wr_if1f rfl rfl (by unfold i32; omega) h237 ?_
                  refine wr_n (pc2 := 182) (lv2 := [(17, vi z180), (16, vi z180), (19, vi z180), (18, vi l18), (13, vl l13), (11, vl l11), (9, vl l9), (15, vi l15), (7, vl l7), (5, vl l5), (3, vl l3), (2, vi l2), (0, .ref 131), (1, vi l1)]) (st2 := [vi 1, vi l15]) 2 (fun _ _ => rfl) ?_
                  refine wr_any2 rfl rfl fun z249 h250 => ?_
                  unfold i32 at h250
                  show wr (4 * n + 150) tb_M70 183 [(17, vi z180), (16, vi z180), (19, vi z180), (18, vi l18), (13, vl l13), (11, vl l11), (9, vl l9), (15, vi l15), (7, vl l7), (5, vl l5), (3, vl l3), (2, vi l2), (0, .ref 131), (1, vi l1)] [vi z249] s182 _
                  refine wr_n (pc2 := 188) (lv2 := [(15, vi z249), (17, vi z180), (16, vi z180), (19, vi z180), (18, vi l18), (13, vl l13), (11, vl l11), (9, vl l9), (7, vl l7), (5, vl l5), (3, vl l3), (2, vi l2), (0, .ref 131), (1, vi l1)]) (st2 := [.ref 131, vl l9]) 3 (fun _ _ => rfl) ?_
                  refine wr_get (v := vl (s182.1 131 7)) rfl rfl rfl (by decide) rfl fun h251 => ?_
                  show wr (4 * n + 150) tb_M70 191 [(15, vi z249), (17, vi z180), (16, vi z180), (19, vi z180), (18, vi l18), (13, vl l13), (11, vl l11), (9, vl l9), (7, vl l7), (5, vl l5), (3, vl l3), (2, vi l2), (0, .ref 131), (1, vi l1)] [vl (s182.1 131 7), vl l9] s182 _
                  refine wr_anyl (a := l9) (b := s182.1 131 7) rfl rfl fun z252 h253 _ => ?_
                  show wr (4 * n + 150) tb_M70 192 [(15, vi z249), (17, vi z180), (16, vi z180), (19, vi z180), (18, vi l18), (13, vl l13), (11, vl l11), (9, vl l9), (7, vl l7), (5, vl l5), (3, vl l3), (2, vi l2), (0, .ref 131), (1, vi l1)] [vl z252] s182 _
                  refine wr_n (pc2 := 197) (lv2 := [(9, vl z252), (15, vi z249), (17, vi z180), (16, vi z180), (19, vi z180), (18, vi l18), (13, vl l13), (11, vl l11), (7, vl l7), (5, vl l5), (3, vl l3), (2, vi l2), (0, .ref 131), (1, vi l1)]) (st2 := [.ref 131, vl l11]) 3 (fun _ _ => rfl) ?_
                  refine wr_get (v := vl (s182.1 131 8)) rfl rfl rfl (by decide) rfl fun h254 => ?_
                  show wr (4 * n + 150) tb_M70 200 [(9, vl z252), (15, vi z249), (17, vi z180), (16, vi z180), (19, vi z180), (18, vi l18), (13, vl l13), (11, vl l11), (7, vl l7), (5, vl l5), (3, vl l3), (2, vi l2), (0, .ref 131), (1, vi l1)] [vl (s182.1 131 8), vl l11] s182 _
                  refine wr_anyl (a := l11) (b := s182.1 131 8) rfl rfl fun z255 h256 _ => ?_
                  show wr (4 * n + 150) tb_M70 201 [(9, vl z252), (15, vi z249), (17, vi z180), (16, vi z180), (19, vi z180), (18, vi l18), (13, vl l13), (11, vl l11), (7, vl l7), (5, vl l5), (3, vl l3), (2, vi l2), (0, .ref 131), (1, vi l1)] [vl z255] s182 _
                  refine wr_n (pc2 := 206) (lv2 := [(11, vl z255), (9, vl z252), (15, vi z249), (17, vi z180), (16, vi z180), (19, vi z180), (18, vi l18), (13, vl l13), (7, vl l7), (5, vl l5), (3, vl l3), (2, vi l2), (0, .ref 131), (1, vi l1)]) (st2 := [.ref 131, vl l13]) 3 (fun _ _ => rfl) ?_
                  refine wr_get (v := vl (s182.1 131 9)) rfl rfl rfl (by decide) rfl fun h257 => ?_
                  show wr (4 * n + 150) tb_M70 209 [(11, vl z255), (9, vl z252), (15, vi z249), (17, vi z180), (16, vi z180), (19, vi z180), (18, vi l18), (13, vl l13), (7, vl l7), (5, vl l5), (3, vl l3), (2, vi l2), (0, .ref 131), (1, vi l1)] [vl (s182.1 131 9), vl l13] s182 _
                  refine wr_anyl (a := l13) (b := s182.1 131 9) rfl rfl fun z258 h259 _ => ?_
                  show wr (4 * n + 150) tb_M70 210 [(11, vl z255), (9, vl z252), (15, vi z249), (17, vi z180), (16, vi z180), (19, vi z180), (18, vi l18), (13, vl l13), (7, vl l7), (5, vl l5), (3, vl l3), (2, vi l2), (0, .ref 131), (1, vi l1)] [vl z258] s182 _
                  refine wr_n (pc2 := 212) (lv2 := [(13, vl z258), (11, vl z255), (9, vl z252), (15, vi z249), (17, vi z180), (16, vi z180), (19, vi z180), (18, vi l18), (7, vl l7), (5, vl l5), (3, vl l3), (2, vi l2), (0, .ref 131), (1, vi l1)]) (st2 := []) 1 (fun _ _ => rfl) ?_
                  refine wr_inc (a := l18) rfl rfl ?_
                  show wr (4 * n + 150) tb_M70 215 [(18, vi (l18 + 1)), (13, vl z258), (11, vl z255), (9, vl z252), (15, vi z249), (17, vi z180), (16, vi z180), (19, vi z180), (7, vl l7), (5, vl l5), (3, vl l3), (2, vi l2), (0, .ref 131), (1, vi l1)] [] s182 _
                  refine wr_n (pc2 := 53) (lv2 := [(18, vi (l18 + 1)), (13, vl z258), (11, vl z255), (9, vl z252), (15, vi z249), (17, vi z180), (16, vi z180), (19, vi z180), (7, vl l7), (5, vl l5), (3, vl l3), (2, vi l2), (0, .ref 131), (1, vi l1)]) (st2 := []) 1 (fun _ _ => rfl) ?_
                  exact ih _ (by omega) (l18 + 1) z258 z255 z252 z249 z180 z180 z180 l7 l5 l3 l2 l1 s182 rfl hK182 hq182 hX182 hC182 (by omega) h259 h256 h253 (by omega) (by omega) (by omega) (by omega) hl7 hl5 hl3 (by omega) (by omega) (by omega) 
            · refine .inr ⟨rfl, ?_⟩
              exact ⟨hK180, (FX_tr (FX_up (FX_up (FX_up hX176 (by unfold fx; omega)) (by unfold fx; omega)) (by unfold fx; omega)) hY180), .inr ⟨rfl, TH hC176 hc180⟩⟩
          · refine .inr ⟨rfl, ?_⟩
            exact ⟨hK176, (FX_tr hX hY176), .inr ⟨rfl, TH hc hc176⟩⟩
        · refine wr_if1f rfl rfl (by unfold i32; omega) h175 ?_
          refine wr_n (pc2 := 91) (lv2 := [(18, vi l18), (13, vl l13), (11, vl l11), (9, vl l9), (15, vi l15), (17, vi l17), (16, vi l16), (19, vi l19), (7, vl l7), (5, vl l5), (3, vl l3), (2, vi l2), (0, .ref 131), (1, vi l1)]) (st2 := [vi 123, .ref 131]) 2 (fun _ _ => rfl) ?_
          refine wr_call1T (args := [vi 123]) (rest := []) rfl rfl rfl rfl (Nat.le_of_ble_eq_true rfl) rfl (cr_mono (k_expect (d := 4 * n + 148) (x := 123) s hK (by omega)) ?_)
          rintro s260 out ⟨hK260, hY260, ⟨hc260, rfl⟩ | ⟨rfl, hc260⟩⟩
          · refine .inl ⟨_, rfl, ?_⟩
            have hX260 : FX s0.1 s260.1 := FX_tr hX hY260
            have hC260 : s260.2 = s0.2 := hc260.trans hc
            have hq260 : s260.1 131 1 = (C : Int) := (hY260 131 1 (by unfold fx; omega)).trans hq
            show wr (4 * n + 150) tb_M70 94 [(18, vi l18), (13, vl l13), (11, vl l11), (9, vl l9), (15, vi l15), (17, vi l17), (16, vi l16), (19, vi l19), (7, vl l7), (5, vl l5), (3, vl l3), (2, vi l2), (0, .ref 131), (1, vi l1)] [] s260 _
            refine wr_n (pc2 := 96) (lv2 := [(18, vi l18), (13, vl l13), (11, vl l11), (9, vl l9), (15, vi l15), (17, vi l17), (16, vi l16), (19, vi l19), (7, vl l7), (5, vl l5), (3, vl l3), (2, vi l2), (0, .ref 131), (1, vi l1)]) (st2 := [vl 0, .ref 131]) 2 (fun _ _ => rfl) ?_
            refine wr_put (z := 0) rfl rfl rfl rfl (by decide) rfl (by decide) rfl (by first | exact ⟨by omega, by omega⟩ | assumption) (fit_l _) ?_
            show wr (4 * n + 150) tb_M70 99 [(18, vi l18), (13, vl l13), (11, vl l11), (9, vl l9), (15, vi l15), (17, vi l17), (16, vi l16), (19, vi l19), (7, vl l7), (5, vl l5), (3, vl l3), (2, vi l2), (0, .ref 131), (1, vi l1)] [] (up2 s260.1 131 7 0, s260.2) _
            have hK261 : KI (up2 s260.1 131 7 0) := (KI_up hK260 rfl (kb_no rfl))
            refine wr_n (pc2 := 101) (lv2 := [(18, vi l18), (13, vl l13), (11, vl l11), (9, vl l9), (15, vi l15), (17, vi l17), (16, vi l16), (19, vi l19), (7, vl l7), (5, vl l5), (3, vl l3), (2, vi l2), (0, .ref 131), (1, vi l1)]) (st2 := [vl 0, .ref 131]) 2 (fun _ _ => rfl) ?_
            refine wr_put (z := 0) rfl rfl rfl rfl (by decide) rfl (by decide) rfl (by first | exact ⟨by omega, by omega⟩ | assumption) (fit_l _) ?_
            show wr (4 * n + 150) tb_M70 104 [(18, vi l18), (13, vl l13), (11, vl l11), (9, vl l9), (15, vi l15), (17, vi l17), (16, vi l16), (19, vi l19), (7, vl l7), (5, vl l5), (3, vl l3), (2, vi l2), (0, .ref 131), (1, vi l1)] [] (up2 (up2 s260.1 131 7 0) 131 8 0, s260.2) _
            have hK262 : KI (up2 (up2 s260.1 131 7 0) 131 8 0) := (KI_up (KI_up hK260 rfl (kb_no rfl)) rfl (kb_no rfl))
            refine wr_n (pc2 := 106) (lv2 := [(18, vi l18), (13, vl l13), (11, vl l11), (9, vl l9), (15, vi l15), (17, vi l17), (16, vi l16), (19, vi l19), (7, vl l7), (5, vl l5), (3, vl l3), (2, vi l2), (0, .ref 131), (1, vi l1)]) (st2 := [vl 0, .ref 131]) 2 (fun _ _ => rfl) ?_
            refine wr_put (z := 0) rfl rfl rfl rfl (by decide) rfl (by decide) rfl (by first | exact ⟨by omega, by omega⟩ | assumption) (fit_l _) ?_
            show wr (4 * n + 150) tb_M70 109 [(18, vi l18), (13, vl l13), (11, vl l11), (9, vl l9), (15, vi l15), (17, vi l17), (16, vi l16), (19, vi l19), (7, vl l7), (5, vl l5), (3, vl l3), (2, vi l2), (0, .ref 131), (1, vi l1)] [] (up2 (up2 (up2 s260.1 131 7 0) 131 8 0) 131 9 0, s260.2) _
            have hK263 : KI (up2 (up2 (up2 s260.1 131 7 0) 131 8 0) 131 9 0) := (KI_up (KI_up (KI_up hK260 rfl (kb_no rfl)) rfl (kb_no rfl)) rfl (kb_no rfl))
            refine wr_n (pc2 := 112) (lv2 := [(18, vi l18), (13, vl l13), (11, vl l11), (9, vl l9), (15, vi l15), (17, vi l17), (16, vi l16), (19, vi l19), (7, vl l7), (5, vl l5), (3, vl l3), (2, vi l2), (0, .ref 131), (1, vi l1)]) (st2 := [vi 1, vi l1, .ref 131]) 3 (fun _ _ => rfl) ?_
            refine wr_add (a := l1) (b := 1) rfl ?_
            show wr (4 * n + 150) tb_M70 113 [(18, vi l18), (13, vl l13), (11, vl l11), (9, vl l9), (15, vi l15), (17, vi l17), (16, vi l16), (19, vi l19), (7, vl l7), (5, vl l5), (3, vl l3), (2, vi l2), (0, .ref 131), (1, vi l1)] [vi (l1 + 1), .ref 131] (up2 (up2 (up2 s260.1 131 7 0) 131 8 0) 131 9 0, s260.2) _
            refine wr_call1T (args := [vi (l1 + 1)]) (rest := []) rfl rfl rfl rfl (Nat.le_of_ble_eq_true rfl) rfl (cr_mono (hSt C (up2 (up2 (up2 s260.1 131 7 0) 131 8 0) 131 9 0, s260.2) (l1 + 1) hC hK263 (show (up2 (up2 (up2 s260.1 131 7 0) 131 8 0) 131 9 0) 131 1 = ((C : Nat) : Int) from ((if_neg (by omega)).trans ((if_neg (by omega)).trans ((if_neg (by omega)).trans hq260)))) (by omega)) ?_)
            rintro s264 out ⟨hK264, hY264, ⟨z264, hc264, rfl, hz264, hp264⟩ | ⟨rfl, hc264⟩⟩
            · refine .inl ⟨_, rfl, ?_⟩
              have hX264 : FX s0.1 s264.1 := FX_tr (FX_up (FX_up (FX_up hX260 (by unfold fx; omega)) (by unfold fx; omega)) (by unfold fx; omega)) hY264
              have hC264 : s264.2 = s0.2 := hc264.trans hC260
              have hq264 : s264.1 131 1 = (C : Int) := (hY264 131 1 (by unfold fx; omega)).trans (show (up2 (up2 (up2 s260.1 131 7 0) 131 8 0) 131 9 0) 131 1 = ((C : Nat) : Int) from ((if_neg (by omega)).trans ((if_neg (by omega)).trans ((if_neg (by omega)).trans hq260))))
              unfold i32 at hz264
              clear hp264
              show wr (4 * n + 150) tb_M70 116 [(18, vi l18), (13, vl l13), (11, vl l11), (9, vl l9), (15, vi l15), (17, vi l17), (16, vi l16), (19, vi l19), (7, vl l7), (5, vl l5), (3, vl l3), (2, vi l2), (0, .ref 131), (1, vi l1)] [vi z264] s264 _
              refine wr_n (pc2 := 119) (lv2 := [(19, vi z264), (18, vi l18), (13, vl l13), (11, vl l11), (9, vl l9), (15, vi l15), (17, vi l17), (16, vi l16), (7, vl l7), (5, vl l5), (3, vl l3), (2, vi l2), (0, .ref 131), (1, vi l1)]) (st2 := [.ref 131]) 2 (fun _ _ => rfl) ?_
              refine wr_get (v := .ref C) rfl rfl rfl (by decide) (rv_ref (show (s264.1) 131 1 = ((C : Nat) : Int) from hq264)) fun h265 => ?_
              show wr (4 * n + 150) tb_M70 122 [(19, vi z264), (18, vi l18), (13, vl l13), (11, vl l11), (9, vl l9), (15, vi l15), (17, vi l17), (16, vi l16), (7, vl l7), (5, vl l5), (3, vl l3), (2, vi l2), (0, .ref 131), (1, vi l1)] [.ref C] s264 _
              refine wr_n (pc2 := 126) (lv2 := [(19, vi z264), (18, vi l18), (13, vl l13), (11, vl l11), (9, vl l9), (15, vi l15), (17, vi l17), (16, vi l16), (7, vl l7), (5, vl l5), (3, vl l3), (2, vi l2), (0, .ref 131), (1, vi l1)]) (st2 := [vi z264, vi l17, .ref C]) 2 (fun _ _ => rfl) ?_
              refine wr_call1 (args := [vi l17, vi z264]) (rest := []) rfl rfl rfl (TK0 hC) (Nat.le_of_ble_eq_true rfl) (cr_mono (k_link (d := 4 * n + 148) (C := C) hC (x := l17) (y := z264) s264 hK264 (by omega) (by omega)) ?_)
              rintro s266 out ⟨hK266, hY266, hc266, rfl⟩
              refine ⟨_, rfl, ?_⟩
              have hX266 : FX s0.1 s266.1 := FX_tr hX264 hY266
              have hC266 : s266.2 = s0.2 := hc266.trans hC264
              have hq266 : s266.1 131 1 = (C : Int) := (hY266 131 1 (by unfold fx; omega)).trans hq264
              show wr (4 * n + 150) tb_M70 129 [(19, vi z264), (18, vi l18), (13, vl l13), (11, vl l11), (9, vl l9), (15, vi l15), (17, vi l17), (16, vi l16), (7, vl l7), (5, vl l5), (3, vl l3), (2, vi l2), (0, .ref 131), (1, vi l1)] [] s266 _
              refine wr_n (pc2 := 131) (lv2 := [(19, vi z264), (18, vi l18), (13, vl l13), (11, vl l11), (9, vl l9), (15, vi l15), (17, vi l17), (16, vi l16), (7, vl l7), (5, vl l5), (3, vl l3), (2, vi l2), (0, .ref 131), (1, vi l1)]) (st2 := [vi l18]) 1 (fun _ _ => rfl) ?_
              by_cases h267 : l18 ≠ 0
              · refine wr_if1t rfl rfl (by unfold i32; omega) h267 ?_
                refine wr_n (pc2 := 150) (lv2 := [(17, vi z264), (16, vi l16), (19, vi z264), (18, vi l18), (13, vl l13), (11, vl l11), (9, vl l9), (15, vi l15), (7, vl l7), (5, vl l5), (3, vl l3), (2, vi l2), (0, .ref 131), (1, vi l1)]) (st2 := [.ref 131, vi l15]) 6 (fun _ _ => rfl) ?_
                refine wr_get (v := vl (s266.1 131 8)) rfl rfl rfl (by decide) rfl fun h268 => ?_
                show wr (4 * n + 150) tb_M70 153 [(17, vi z264), (16, vi l16), (19, vi z264), (18, vi l18), (13, vl l13), (11, vl l11), (9, vl l9), (15, vi l15), (7, vl l7), (5, vl l5), (3, vl l3), (2, vi l2), (0, .ref 131), (1, vi l1)] [vl (s266.1 131 8), vi l15] s266 _
                refine wr_n (pc2 := 155) (lv2 := [(17, vi z264), (16, vi l16), (19, vi z264), (18, vi l18), (13, vl l13), (11, vl l11), (9, vl l9), (15, vi l15), (7, vl l7), (5, vl l5), (3, vl l3), (2, vi l2), (0, .ref 131), (1, vi l1)]) (st2 := [vl l9, vl (s266.1 131 8), vi l15]) 1 (fun _ _ => rfl) ?_
                refine wr_anyl (a := s266.1 131 8) (b := l9) rfl rfl fun z269 h270 _ => ?_
                show wr (4 * n + 150) tb_M70 156 [(17, vi z264), (16, vi l16), (19, vi z264), (18, vi l18), (13, vl l13), (11, vl l11), (9, vl l9), (15, vi l15), (7, vl l7), (5, vl l5), (3, vl l3), (2, vi l2), (0, .ref 131), (1, vi l1)] [vl z269, vi l15] s266 _
                refine wr_n (pc2 := 157) (lv2 := [(17, vi z264), (16, vi l16), (19, vi z264), (18, vi l18), (13, vl l13), (11, vl l11), (9, vl l9), (15, vi l15), (7, vl l7), (5, vl l5), (3, vl l3), (2, vi l2), (0, .ref 131), (1, vi l1)]) (st2 := [.ref 131, vl z269, vi l15]) 1 (fun _ _ => rfl) ?_
                refine wr_get (v := vl (s266.1 131 7)) rfl rfl rfl (by decide) rfl fun h271 => ?_
                show wr (4 * n + 150) tb_M70 160 [(17, vi z264), (16, vi l16), (19, vi z264), (18, vi l18), (13, vl l13), (11, vl l11), (9, vl l9), (15, vi l15), (7, vl l7), (5, vl l5), (3, vl l3), (2, vi l2), (0, .ref 131), (1, vi l1)] [vl (s266.1 131 7), vl z269, vi l15] s266 _
                refine wr_n (pc2 := 162) (lv2 := [(17, vi z264), (16, vi l16), (19, vi z264), (18, vi l18), (13, vl l13), (11, vl l11), (9, vl l9), (15, vi l15), (7, vl l7), (5, vl l5), (3, vl l3), (2, vi l2), (0, .ref 131), (1, vi l1)]) (st2 := [vl l11, vl (s266.1 131 7), vl z269, vi l15]) 1 (fun _ _ => rfl) ?_
                refine wr_anyl (a := s266.1 131 7) (b := l11) rfl rfl fun z272 h273 _ => ?_
                show wr (4 * n + 150) tb_M70 163 [(17, vi z264), (16, vi l16), (19, vi z264), (18, vi l18), (13, vl l13), (11, vl l11), (9, vl l9), (15, vi l15), (7, vl l7), (5, vl l5), (3, vl l3), (2, vi l2), (0, .ref 131), (1, vi l1)] [vl z272, vl z269, vi l15] s266 _
                refine wr_anyl (a := z269) (b := z272) rfl rfl fun z274 h275 _ => ?_
                show wr (4 * n + 150) tb_M70 164 [(17, vi z264), (16, vi l16), (19, vi z264), (18, vi l18), (13, vl l13), (11, vl l11), (9, vl l9), (15, vi l15), (7, vl l7), (5, vl l5), (3, vl l3), (2, vi l2), (0, .ref 131), (1, vi l1)] [vl z274, vi l15] s266 _
                refine wr_n (pc2 := 165) (lv2 := [(17, vi z264), (16, vi l16), (19, vi z264), (18, vi l18), (13, vl l13), (11, vl l11), (9, vl l9), (15, vi l15), (7, vl l7), (5, vl l5), (3, vl l3), (2, vi l2), (0, .ref 131), (1, vi l1)]) (st2 := [.ref 131, vl z274, vi l15]) 1 (fun _ _ => rfl) ?_
                refine wr_get (v := vl (s266.1 131 9)) rfl rfl rfl (by decide) rfl fun h276 => ?_
                show wr (4 * n + 150) tb_M70 168 [(17, vi z264), (16, vi l16), (19, vi z264), (18, vi l18), (13, vl l13), (11, vl l11), (9, vl l9), (15, vi l15), (7, vl l7), (5, vl l5), (3, vl l3), (2, vi l2), (0, .ref 131), (1, vi l1)] [vl (s266.1 131 9), vl z274, vi l15] s266 _
                refine wr_n (pc2 := 170) (lv2 := [(17, vi z264), (16, vi l16), (19, vi z264), (18, vi l18), (13, vl l13), (11, vl l11), (9, vl l9), (15, vi l15), (7, vl l7), (5, vl l5), (3, vl l3), (2, vi l2), (0, .ref 131), (1, vi l1)]) (st2 := [vl l13, vl (s266.1 131 9), vl z274, vi l15]) 1 (fun _ _ => rfl) ?_
                refine wr_anyl (a := s266.1 131 9) (b := l13) rfl rfl fun z277 h278 _ => ?_
                show wr (4 * n + 150) tb_M70 171 [(17, vi z264), (16, vi l16), (19, vi z264), (18, vi l18), (13, vl l13), (11, vl l11), (9, vl l9), (15, vi l15), (7, vl l7), (5, vl l5), (3, vl l3), (2, vi l2), (0, .ref 131), (1, vi l1)] [vl z277, vl z274, vi l15] s266 _
                refine wr_anyl (a := z274) (b := z277) rfl rfl fun z279 h280 _ => ?_
                show wr (4 * n + 150) tb_M70 172 [(17, vi z264), (16, vi l16), (19, vi z264), (18, vi l18), (13, vl l13), (11, vl l11), (9, vl l9), (15, vi l15), (7, vl l7), (5, vl l5), (3, vl l3), (2, vi l2), (0, .ref 131), (1, vi l1)] [vl z279, vi l15] s266 _
                refine wr_n (pc2 := 173) (lv2 := [(17, vi z264), (16, vi l16), (19, vi z264), (18, vi l18), (13, vl l13), (11, vl l11), (9, vl l9), (15, vi l15), (7, vl l7), (5, vl l5), (3, vl l3), (2, vi l2), (0, .ref 131), (1, vi l1)]) (st2 := [vl 0, vl z279, vi l15]) 1 (fun _ _ => rfl) ?_
                refine wr_lcmp (a := z279) (b := 0) rfl h280 (by unfold i64; omega) fun z281 h282 => ?_
                show wr (4 * n + 150) tb_M70 174 [(17, vi z264), (16, vi l16), (19, vi z264), (18, vi l18), (13, vl l13), (11, vl l11), (9, vl l9), (15, vi l15), (7, vl l7), (5, vl l5), (3, vl l3), (2, vi l2), (0, .ref 131), (1, vi l1)] [vi z281, vi l15] s266 _
                by_cases h283 : z281 = 0
                · refine wr_if1t rfl rfl (by unfold i32; omega) h283 ?_
                  refine wr_n (pc2 := 182) (lv2 := [(17, vi z264), (16, vi l16), (19, vi z264), (18, vi l18), (13, vl l13), (11, vl l11), (9, vl l9), (15, vi l15), (7, vl l7), (5, vl l5), (3, vl l3), (2, vi l2), (0, .ref 131), (1, vi l1)]) (st2 := [vi 0, vi l15]) 1 (fun _ _ => rfl) ?_
                  refine wr_any2 rfl rfl fun z284 h285 => ?_
                  unfold i32 at h285
                  show wr (4 * n + 150) tb_M70 183 [(17, vi z264), (16, vi l16), (19, vi z264), (18, vi l18), (13, vl l13), (11, vl l11), (9, vl l9), (15, vi l15), (7, vl l7), (5, vl l5), (3, vl l3), (2, vi l2), (0, .ref 131), (1, vi l1)] [vi z284] s266 _
                  refine wr_n (pc2 := 188) (lv2 := [(15, vi z284), (17, vi z264), (16, vi l16), (19, vi z264), (18, vi l18), (13, vl l13), (11, vl l11), (9, vl l9), (7, vl l7), (5, vl l5), (3, vl l3), (2, vi l2), (0, .ref 131), (1, vi l1)]) (st2 := [.ref 131, vl l9]) 3 (fun _ _ => rfl) ?_
                  refine wr_get (v := vl (s266.1 131 7)) rfl rfl rfl (by decide) rfl fun h286 => ?_
                  show wr (4 * n + 150) tb_M70 191 [(15, vi z284), (17, vi z264), (16, vi l16), (19, vi z264), (18, vi l18), (13, vl l13), (11, vl l11), (9, vl l9), (7, vl l7), (5, vl l5), (3, vl l3), (2, vi l2), (0, .ref 131), (1, vi l1)] [vl (s266.1 131 7), vl l9] s266 _
                  refine wr_anyl (a := l9) (b := s266.1 131 7) rfl rfl fun z287 h288 _ => ?_
                  show wr (4 * n + 150) tb_M70 192 [(15, vi z284), (17, vi z264), (16, vi l16), (19, vi z264), (18, vi l18), (13, vl l13), (11, vl l11), (9, vl l9), (7, vl l7), (5, vl l5), (3, vl l3), (2, vi l2), (0, .ref 131), (1, vi l1)] [vl z287] s266 _
                  refine wr_n (pc2 := 197) (lv2 := [(9, vl z287), (15, vi z284), (17, vi z264), (16, vi l16), (19, vi z264), (18, vi l18), (13, vl l13), (11, vl l11), (7, vl l7), (5, vl l5), (3, vl l3), (2, vi l2), (0, .ref 131), (1, vi l1)]) (st2 := [.ref 131, vl l11]) 3 (fun _ _ => rfl) ?_
                  refine wr_get (v := vl (s266.1 131 8)) rfl rfl rfl (by decide) rfl fun h289 => ?_
                  show wr (4 * n + 150) tb_M70 200 [(9, vl z287), (15, vi z284), (17, vi z264), (16, vi l16), (19, vi z264), (18, vi l18), (13, vl l13), (11, vl l11), (7, vl l7), (5, vl l5), (3, vl l3), (2, vi l2), (0, .ref 131), (1, vi l1)] [vl (s266.1 131 8), vl l11] s266 _
                  refine wr_anyl (a := l11) (b := s266.1 131 8) rfl rfl fun z290 h291 _ => ?_
                  show wr (4 * n + 150) tb_M70 201 [(9, vl z287), (15, vi z284), (17, vi z264), (16, vi l16), (19, vi z264), (18, vi l18), (13, vl l13), (11, vl l11), (7, vl l7), (5, vl l5), (3, vl l3), (2, vi l2), (0, .ref 131), (1, vi l1)] [vl z290] s266 _
                  refine wr_n (pc2 := 206) (lv2 := [(11, vl z290), (9, vl z287), (15, vi z284), (17, vi z264), (16, vi l16), (19, vi z264), (18, vi l18), (13, vl l13), (7, vl l7), (5, vl l5), (3, vl l3), (2, vi l2), (0, .ref 131), (1, vi l1)]) (st2 := [.ref 131, vl l13]) 3 (fun _ _ => rfl) ?_
                  refine wr_get (v := vl (s266.1 131 9)) rfl rfl rfl (by decide) rfl fun h292 => ?_
                  show wr (4 * n + 150) tb_M70 209 [(11, vl z290), (9, vl z287), (15, vi z284), (17, vi z264), (16, vi l16), (19, vi z264), (18, vi l18), (13, vl l13), (7, vl l7), (5, vl l5), (3, vl l3), (2, vi l2), (0, .ref 131), (1, vi l1)] [vl (s266.1 131 9), vl l13] s266 _
                  refine wr_anyl (a := l13) (b := s266.1 131 9) rfl rfl fun z293 h294 _ => ?_
                  show wr (4 * n + 150) tb_M70 210 [(11, vl z290), (9, vl z287), (15, vi z284), (17, vi z264), (16, vi l16), (19, vi z264), (18, vi l18), (13, vl l13), (7, vl l7), (5, vl l5), (3, vl l3), (2, vi l2), (0, .ref 131), (1, vi l1)] [vl z293] s266 _
                  refine wr_n (pc2 := 212) (lv2 := [(13, vl z293), (11, vl z290), (9, vl z287), (15, vi z284), (17, vi z264), (16, vi l16), (19, vi z264), (18, vi l18), (7, vl l7), (5, vl l5), (3, vl l3), (2, vi l2), (0, .ref 131), (1, vi l1)]) (st2 := []) 1 (fun _ _ => rfl) ?_
                  refine wr_inc (a := l18) rfl rfl ?_
                  show wr (4 * n + 150) tb_M70 215 [(18, vi (l18 + 1)), (13, vl z293), (11, vl z290), (9, vl z287), (15, vi z284), (17, vi z264), (16, vi l16), (19, vi z264), (7, vl l7), (5, vl l5), (3, vl l3), (2, vi l2), (0, .ref 131), (1, vi l1)] [] s266 _
                  refine wr_n (pc2 := 53) (lv2 := [(18, vi (l18 + 1)), (13, vl z293), (11, vl z290), (9, vl z287), (15, vi z284), (17, vi z264), (16, vi l16), (19, vi z264), (7, vl l7), (5, vl l5), (3, vl l3), (2, vi l2), (0, .ref 131), (1, vi l1)]) (st2 := []) 1 (fun _ _ => rfl) ?_
                  exact ih _ (by omega) (l18 + 1) z293 z290 z287 z284 z264 l16 z264 l7 l5 l3 l2 l1 s266 rfl hK266 hq266 hX266 hC266 (by omega) h294 h291 h288 (by omega) (by omega) (by omega) (by omega) hl7 hl5 hl3 (by omega) (by omega) (by omega) 
                · refine wr_if1f rfl rfl (by unfold i32; omega) h283 ?_
                  refine wr_n (pc2 := 182) (lv2 := [(17, vi z264), (16, vi l16), (19, vi z264), (18, vi l18), (13, vl l13), (11, vl l11), (9, vl l9), (15, vi l15), (7, vl l7), (5, vl l5), (3, vl l3), (2, vi l2), (0, .ref 131), (1, vi l1)]) (st2 := [vi 1, vi l15]) 2 (fun _ _ => rfl) ?_
                  refine wr_any2 rfl rfl fun z295 h296 => ?_
                  unfold i32 at h296
                  show wr (4 * n + 150) tb_M70 183 [(17, vi z264), (16, vi l16), (19, vi z264), (18, vi l18), (13, vl l13), (11, vl l11), (9, vl l9), (15, vi l15), (7, vl l7), (5, vl l5), (3, vl l3), (2, vi l2), (0, .ref 131), (1, vi l1)] [vi z295] s266 _
                  refine wr_n (pc2 := 188) (lv2 := [(15, vi z295), (17, vi z264), (16, vi l16), (19, vi z264), (18, vi l18), (13, vl l13), (11, vl l11), (9, vl l9), (7, vl l7), (5, vl l5), (3, vl l3), (2, vi l2), (0, .ref 131), (1, vi l1)]) (st2 := [.ref 131, vl l9]) 3 (fun _ _ => rfl) ?_
                  refine wr_get (v := vl (s266.1 131 7)) rfl rfl rfl (by decide) rfl fun h297 => ?_
                  show wr (4 * n + 150) tb_M70 191 [(15, vi z295), (17, vi z264), (16, vi l16), (19, vi z264), (18, vi l18), (13, vl l13), (11, vl l11), (9, vl l9), (7, vl l7), (5, vl l5), (3, vl l3), (2, vi l2), (0, .ref 131), (1, vi l1)] [vl (s266.1 131 7), vl l9] s266 _
                  refine wr_anyl (a := l9) (b := s266.1 131 7) rfl rfl fun z298 h299 _ => ?_
                  show wr (4 * n + 150) tb_M70 192 [(15, vi z295), (17, vi z264), (16, vi l16), (19, vi z264), (18, vi l18), (13, vl l13), (11, vl l11), (9, vl l9), (7, vl l7), (5, vl l5), (3, vl l3), (2, vi l2), (0, .ref 131), (1, vi l1)] [vl z298] s266 _
                  refine wr_n (pc2 := 197) (lv2 := [(9, vl z298), (15, vi z295), (17, vi z264), (16, vi l16), (19, vi z264), (18, vi l18), (13, vl l13), (11, vl l11), (7, vl l7), (5, vl l5), (3, vl l3), (2, vi l2), (0, .ref 131), (1, vi l1)]) (st2 := [.ref 131, vl l11]) 3 (fun _ _ => rfl) ?_
                  refine wr_get (v := vl (s266.1 131 8)) rfl rfl rfl (by decide) rfl fun h300 => ?_
                  show wr (4 * n + 150) tb_M70 200 [(9, vl z298), (15, vi z295), (17, vi z264), (16, vi l16), (19, vi z264), (18, vi l18), (13, vl l13), (11, vl l11), (7, vl l7), (5, vl l5), (3, vl l3), (2, vi l2), (0, .ref 131), (1, vi l1)] [vl (s266.1 131 8), vl l11] s266 _
                  refine wr_anyl (a := l11) (b := s266.1 131 8) rfl rfl fun z301 h302 _ => ?_
                  show wr (4 * n + 150) tb_M70 201 [(9, vl z298), (15, vi z295), (17, vi z264), (16, vi l16), (19, vi z264), (18, vi l18), (13, vl l13), (11, vl l11), (7, vl l7), (5, vl l5), (3, vl l3), (2, vi l2), (0, .ref 131), (1, vi l1)] [vl z301] s266 _
                  refine wr_n (pc2 := 206) (lv2 := [(11, vl z301), (9, vl z298), (15, vi z295), (17, vi z264), (16, vi l16), (19, vi z264), (18, vi l18), (13, vl l13), (7, vl l7), (5, vl l5), (3, vl l3), (2, vi l2), (0, .ref 131), (1, vi l1)]) (st2 := [.ref 131, vl l13]) 3 (fun _ _ => rfl) ?_
                  refine wr_get (v := vl (s266.1 131 9)) rfl rfl rfl (by decide) rfl fun h303 => ?_
                  show wr (4 * n + 150) tb_M70 209 [(11, vl z301), (9, vl z298), (15, vi z295), (17, vi z264), (16, vi l16), (19, vi z264), (18, vi l18), (13, vl l13), (7, vl l7), (5, vl l5), (3, vl l3), (2, vi l2), (0, .ref 131), (1, vi l1)] [vl (s266.1 131 9), vl l13] s266 _
                  refine wr_anyl (a := l13) (b := s266.1 131 9) rfl rfl fun z304 h305 _ => ?_
                  show wr (4 * n + 150) tb_M70 210 [(11, vl z301), (9, vl z298), (15, vi z295), (17, vi z264), (16, vi l16), (19, vi z264), (18, vi l18), (13, vl l13), (7, vl l7), (5, vl l5), (3, vl l3), (2, vi l2), (0, .ref 131), (1, vi l1)] [vl z304] s266 _
                  refine wr_n (pc2 := 212) (lv2 := [(13, vl z304), (11, vl z301), (9, vl z298), (15, vi z295), (17, vi z264), (16, vi l16), (19, vi z264), (18, vi l18), (7, vl l7), (5, vl l5), (3, vl l3), (2, vi l2), (0, .ref 131), (1, vi l1)]) (st2 := []) 1 (fun _ _ => rfl) ?_
                  refine wr_inc (a := l18) rfl rfl ?_
                  show wr (4 * n + 150) tb_M70 215 [(18, vi (l18 + 1)), (13, vl z304), (11, vl z301), (9, vl z298), (15, vi z295), (17, vi z264), (16, vi l16), (19, vi z264), (7, vl l7), (5, vl l5), (3, vl l3), (2, vi l2), (0, .ref 131), (1, vi l1)] [] s266 _
                  refine wr_n (pc2 := 53) (lv2 := [(18, vi (l18 + 1)), (13, vl z304), (11, vl z301), (9, vl z298), (15, vi z295), (17, vi z264), (16, vi l16), (19, vi z264), (7, vl l7), (5, vl l5), (3, vl l3), (2, vi l2), (0, .ref 131), (1, vi l1)]) (st2 := []) 1 (fun _ _ => rfl) ?_
                  exact ih _ (by omega) (l18 + 1) z304 z301 z298 z295 z264 l16 z264 l7 l5 l3 l2 l1 s266 rfl hK266 hq266 hX266 hC266 (by omega) h305 h302 h299 (by omega) (by omega) (by omega) (by omega) hl7 hl5 hl3 (by omega) (by omega) (by omega) 
              · refine wr_if1f rfl rfl (by unfold i32; omega) h267 ?_
                refine wr_n (pc2 := 150) (lv2 := [(17, vi z264), (16, vi z264), (19, vi z264), (18, vi l18), (13, vl l13), (11, vl l11), (9, vl l9), (15, vi l15), (7, vl l7), (5, vl l5), (3, vl l3), (2, vi l2), (0, .ref 131), (1, vi l1)]) (st2 := [.ref 131, vi l15]) 7 (fun _ _ => rfl) ?_
                refine wr_get (v := vl (s266.1 131 8)) rfl rfl rfl (by decide) rfl fun h306 => ?_
                show wr (4 * n + 150) tb_M70 153 [(17, vi z264), (16, vi z264), (19, vi z264), (18, vi l18), (13, vl l13), (11, vl l11), (9, vl l9), (15, vi l15), (7, vl l7), (5, vl l5), (3, vl l3), (2, vi l2), (0, .ref 131), (1, vi l1)] [vl (s266.1 131 8), vi l15] s266 _
                refine wr_n (pc2 := 155) (lv2 := [(17, vi z264), (16, vi z264), (19, vi z264), (18, vi l18), (13, vl l13), (11, vl l11), (9, vl l9), (15, vi l15), (7, vl l7), (5, vl l5), (3, vl l3), (2, vi l2), (0, .ref 131), (1, vi l1)]) (st2 := [vl l9, vl (s266.1 131 8), vi l15]) 1 (fun _ _ => rfl) ?_
                refine wr_anyl (a := s266.1 131 8) (b := l9) rfl rfl fun z307 h308 _ => ?_
                show wr (4 * n + 150) tb_M70 156 [(17, vi z264), (16, vi z264), (19, vi z264), (18, vi l18), (13, vl l13), (11, vl l11), (9, vl l9), (15, vi l15), (7, vl l7), (5, vl l5), (3, vl l3), (2, vi l2), (0, .ref 131), (1, vi l1)] [vl z307, vi l15] s266 _
                refine wr_n (pc2 := 157) (lv2 := [(17, vi z264), (16, vi z264), (19, vi z264), (18, vi l18), (13, vl l13), (11, vl l11), (9, vl l9), (15, vi l15), (7, vl l7), (5, vl l5), (3, vl l3), (2, vi l2), (0, .ref 131), (1, vi l1)]) (st2 := [.ref 131, vl z307, vi l15]) 1 (fun _ _ => rfl) ?_
                refine wr_get (v := vl (s266.1 131 7)) rfl rfl rfl (by decide) rfl fun h309 => ?_
                show wr (4 * n + 150) tb_M70 160 [(17, vi z264), (16, vi z264), (19, vi z264), (18, vi l18), (13, vl l13), (11, vl l11), (9, vl l9), (15, vi l15), (7, vl l7), (5, vl l5), (3, vl l3), (2, vi l2), (0, .ref 131), (1, vi l1)] [vl (s266.1 131 7), vl z307, vi l15] s266 _
                refine wr_n (pc2 := 162) (lv2 := [(17, vi z264), (16, vi z264), (19, vi z264), (18, vi l18), (13, vl l13), (11, vl l11), (9, vl l9), (15, vi l15), (7, vl l7), (5, vl l5), (3, vl l3), (2, vi l2), (0, .ref 131), (1, vi l1)]) (st2 := [vl l11, vl (s266.1 131 7), vl z307, vi l15]) 1 (fun _ _ => rfl) ?_
                refine wr_anyl (a := s266.1 131 7) (b := l11) rfl rfl fun z310 h311 _ => ?_
                show wr (4 * n + 150) tb_M70 163 [(17, vi z264), (16, vi z264), (19, vi z264), (18, vi l18), (13, vl l13), (11, vl l11), (9, vl l9), (15, vi l15), (7, vl l7), (5, vl l5), (3, vl l3), (2, vi l2), (0, .ref 131), (1, vi l1)] [vl z310, vl z307, vi l15] s266 _
                refine wr_anyl (a := z307) (b := z310) rfl rfl fun z312 h313 _ => ?_
                show wr (4 * n + 150) tb_M70 164 [(17, vi z264), (16, vi z264), (19, vi z264), (18, vi l18), (13, vl l13), (11, vl l11), (9, vl l9), (15, vi l15), (7, vl l7), (5, vl l5), (3, vl l3), (2, vi l2), (0, .ref 131), (1, vi l1)] [vl z312, vi l15] s266 _
                refine wr_n (pc2 := 165) (lv2 := [(17, vi z264), (16, vi z264), (19, vi z264), (18, vi l18), (13, vl l13), (11, vl l11), (9, vl l9), (15, vi l15), (7, vl l7), (5, vl l5), (3, vl l3), (2, vi l2), (0, .ref 131), (1, vi l1)]) (st2 := [.ref 131, vl z312, vi l15]) 1 (fun _ _ => rfl) ?_
                refine wr_get (v := vl (s266.1 131 9)) rfl rfl rfl (by decide) rfl fun h314 => ?_
                show wr (4 * n + 150) tb_M70 168 [(17, vi z264), (16, vi z264), (19, vi z264), (18, vi l18), (13, vl l13), (11, vl l11), (9, vl l9), (15, vi l15), (7, vl l7), (5, vl l5), (3, vl l3), (2, vi l2), (0, .ref 131), (1, vi l1)] [vl (s266.1 131 9), vl z312, vi l15] s266 _
                refine wr_n (pc2 := 170) (lv2 := [(17, vi z264), (16, vi z264), (19, vi z264), (18, vi l18), (13, vl l13), (11, vl l11), (9, vl l9), (15, vi l15), (7, vl l7), (5, vl l5), (3, vl l3), (2, vi l2), (0, .ref 131), (1, vi l1)]) (st2 := [vl l13, vl (s266.1 131 9), vl z312, vi l15]) 1 (fun _ _ => rfl) ?_
                refine wr_anyl (a := s266.1 131 9) (b := l13) rfl rfl fun z315 h316 _ => ?_
                show wr (4 * n + 150) tb_M70 171 [(17, vi z264), (16, vi z264), (19, vi z264), (18, vi l18), (13, vl l13), (11, vl l11), (9, vl l9), (15, vi l15), (7, vl l7), (5, vl l5), (3, vl l3), (2, vi l2), (0, .ref 131), (1, vi l1)] [vl z315, vl z312, vi l15] s266 _
                refine wr_anyl (a := z312) (b := z315) rfl rfl fun z317 h318 _ => ?_
                show wr (4 * n + 150) tb_M70 172 [(17, vi z264), (16, vi z264), (19, vi z264), (18, vi l18), (13, vl l13), (11, vl l11), (9, vl l9), (15, vi l15), (7, vl l7), (5, vl l5), (3, vl l3), (2, vi l2), (0, .ref 131), (1, vi l1)] [vl z317, vi l15] s266 _
                refine wr_n (pc2 := 173) (lv2 := [(17, vi z264), (16, vi z264), (19, vi z264), (18, vi l18), (13, vl l13), (11, vl l11), (9, vl l9), (15, vi l15), (7, vl l7), (5, vl l5), (3, vl l3), (2, vi l2), (0, .ref 131), (1, vi l1)]) (st2 := [vl 0, vl z317, vi l15]) 1 (fun _ _ => rfl) ?_
                refine wr_lcmp (a := z317) (b := 0) rfl h318 (by unfold i64; omega) fun z319 h320 => ?_
                show wr (4 * n + 150) tb_M70 174 [(17, vi z264), (16, vi z264), (19, vi z264), (18, vi l18), (13, vl l13), (11, vl l11), (9, vl l9), (15, vi l15), (7, vl l7), (5, vl l5), (3, vl l3), (2, vi l2), (0, .ref 131), (1, vi l1)] [vi z319, vi l15] s266 _
                by_cases h321 : z319 = 0
                · refine wr_if1t rfl rfl (by unfold i32; omega) h321 ?_
                  refine wr_n (pc2 := 182) (lv2 := [(17, vi z264), (16, vi z264), (19, vi z264), (18, vi l18), (13, vl l13), (11, vl l11), (9, vl l9), (15, vi l15), (7, vl l7), (5, vl l5), (3, vl l3), (2, vi l2), (0, .ref 131), (1, vi l1)]) (st2 := [vi 0, vi l15]) 1 (fun _ _ => rfl) ?_
                  refine wr_any2 rfl rfl fun z322 h323 => ?_
                  unfold i32 at h323
                  show wr (4 * n + 150) tb_M70 183 [(17, vi z264), (16, vi z264), (19, vi z264), (18, vi l18), (13, vl l13), (11, vl l11), (9, vl l9), (15, vi l15), (7, vl l7), (5, vl l5), (3, vl l3), (2, vi l2), (0, .ref 131), (1, vi l1)] [vi z322] s266 _
                  refine wr_n (pc2 := 188) (lv2 := [(15, vi z322), (17, vi z264), (16, vi z264), (19, vi z264), (18, vi l18), (13, vl l13), (11, vl l11), (9, vl l9), (7, vl l7), (5, vl l5), (3, vl l3), (2, vi l2), (0, .ref 131), (1, vi l1)]) (st2 := [.ref 131, vl l9]) 3 (fun _ _ => rfl) ?_
                  refine wr_get (v := vl (s266.1 131 7)) rfl rfl rfl (by decide) rfl fun h324 => ?_
                  show wr (4 * n + 150) tb_M70 191 [(15, vi z322), (17, vi z264), (16, vi z264), (19, vi z264), (18, vi l18), (13, vl l13), (11, vl l11), (9, vl l9), (7, vl l7), (5, vl l5), (3, vl l3), (2, vi l2), (0, .ref 131), (1, vi l1)] [vl (s266.1 131 7), vl l9] s266 _
                  refine wr_anyl (a := l9) (b := s266.1 131 7) rfl rfl fun z325 h326 _ => ?_
                  show wr (4 * n + 150) tb_M70 192 [(15, vi z322), (17, vi z264), (16, vi z264), (19, vi z264), (18, vi l18), (13, vl l13), (11, vl l11), (9, vl l9), (7, vl l7), (5, vl l5), (3, vl l3), (2, vi l2), (0, .ref 131), (1, vi l1)] [vl z325] s266 _
                  refine wr_n (pc2 := 197) (lv2 := [(9, vl z325), (15, vi z322), (17, vi z264), (16, vi z264), (19, vi z264), (18, vi l18), (13, vl l13), (11, vl l11), (7, vl l7), (5, vl l5), (3, vl l3), (2, vi l2), (0, .ref 131), (1, vi l1)]) (st2 := [.ref 131, vl l11]) 3 (fun _ _ => rfl) ?_
                  refine wr_get (v := vl (s266.1 131 8)) rfl rfl rfl (by decide) rfl fun h327 => ?_
                  show wr (4 * n + 150) tb_M70 200 [(9, vl z325), (15, vi z322), (17, vi z264), (16, vi z264), (19, vi z264), (18, vi l18), (13, vl l13), (11, vl l11), (7, vl l7), (5, vl l5), (3, vl l3), (2, vi l2), (0, .ref 131), (1, vi l1)] [vl (s266.1 131 8), vl l11] s266 _
                  refine wr_anyl (a := l11) (b := s266.1 131 8) rfl rfl fun z328 h329 _ => ?_
                  show wr (4 * n + 150) tb_M70 201 [(9, vl z325), (15, vi z322), (17, vi z264), (16, vi z264), (19, vi z264), (18, vi l18), (13, vl l13), (11, vl l11), (7, vl l7), (5, vl l5), (3, vl l3), (2, vi l2), (0, .ref 131), (1, vi l1)] [vl z328] s266 _
                  refine wr_n (pc2 := 206) (lv2 := [(11, vl z328), (9, vl z325), (15, vi z322), (17, vi z264), (16, vi z264), (19, vi z264), (18, vi l18), (13, vl l13), (7, vl l7), (5, vl l5), (3, vl l3), (2, vi l2), (0, .ref 131), (1, vi l1)]) (st2 := [.ref 131, vl l13]) 3 (fun _ _ => rfl) ?_
                  refine wr_get (v := vl (s266.1 131 9)) rfl rfl rfl (by decide) rfl fun h330 => ?_
                  show wr (4 * n + 150) tb_M70 209 [(11, vl z328), (9, vl z325), (15, vi z322), (17, vi z264), (16, vi z264), (19, vi z264), (18, vi l18), (13, vl l13), (7, vl l7), (5, vl l5), (3, vl l3), (2, vi l2), (0, .ref 131), (1, vi l1)] [vl (s266.1 131 9), vl l13] s266 _
                  refine wr_anyl (a := l13) (b := s266.1 131 9) rfl rfl fun z331 h332 _ => ?_
                  show wr (4 * n + 150) tb_M70 210 [(11, vl z328), (9, vl z325), (15, vi z322), (17, vi z264), (16, vi z264), (19, vi z264), (18, vi l18), (13, vl l13), (7, vl l7), (5, vl l5), (3, vl l3), (2, vi l2), (0, .ref 131), (1, vi l1)] [vl z331] s266 _
                  refine wr_n (pc2 := 212) (lv2 := [(13, vl z331), (11, vl z328), (9, vl z325), (15, vi z322), (17, vi z264), (16, vi z264), (19, vi z264), (18, vi l18), (7, vl l7), (5, vl l5), (3, vl l3), (2, vi l2), (0, .ref 131), (1, vi l1)]) (st2 := []) 1 (fun _ _ => rfl) ?_
                  refine wr_inc (a := l18) rfl rfl ?_
                  show wr (4 * n + 150) tb_M70 215 [(18, vi (l18 + 1)), (13, vl z331), (11, vl z328), (9, vl z325), (15, vi z322), (17, vi z264), (16, vi z264), (19, vi z264), (7, vl l7), (5, vl l5), (3, vl l3), (2, vi l2), (0, .ref 131), (1, vi l1)] [] s266 _
                  refine wr_n (pc2 := 53) (lv2 := [(18, vi (l18 + 1)), (13, vl z331), (11, vl z328), (9, vl z325), (15, vi z322), (17, vi z264), (16, vi z264), (19, vi z264), (7, vl l7), (5, vl l5), (3, vl l3), (2, vi l2), (0, .ref 131), (1, vi l1)]) (st2 := []) 1 (fun _ _ => rfl) ?_
                  exact ih _ (by omega) (l18 + 1) z331 z328 z325 z322 z264 z264 z264 l7 l5 l3 l2 l1 s266 rfl hK266 hq266 hX266 hC266 (by omega) h332 h329 h326 (by omega) (by omega) (by omega) (by omega) hl7 hl5 hl3 (by omega) (by omega) (by omega) 
                · refine wr_if1f rfl rfl (by unfold i32; omega) h321 ?_
                  refine wr_n (pc2 := 182) (lv2 := [(17, vi z264), (16, vi z264), (19, vi z264), (18, vi l18), (13, vl l13), (11, vl l11), (9, vl l9), (15, vi l15), (7, vl l7), (5, vl l5), (3, vl l3), (2, vi l2), (0, .ref 131), (1, vi l1)]) (st2 := [vi 1, vi l15]) 2 (fun _ _ => rfl) ?_
                  refine wr_any2 rfl rfl fun z333 h334 => ?_
                  unfold i32 at h334
                  show wr (4 * n + 150) tb_M70 183 [(17, vi z264), (16, vi z264), (19, vi z264), (18, vi l18), (13, vl l13), (11, vl l11), (9, vl l9), (15, vi l15), (7, vl l7), (5, vl l5), (3, vl l3), (2, vi l2), (0, .ref 131), (1, vi l1)] [vi z333] s266 _
                  refine wr_n (pc2 := 188) (lv2 := [(15, vi z333), (17, vi z264), (16, vi z264), (19, vi z264), (18, vi l18), (13, vl l13), (11, vl l11), (9, vl l9), (7, vl l7), (5, vl l5), (3, vl l3), (2, vi l2), (0, .ref 131), (1, vi l1)]) (st2 := [.ref 131, vl l9]) 3 (fun _ _ => rfl) ?_
                  refine wr_get (v := vl (s266.1 131 7)) rfl rfl rfl (by decide) rfl fun h335 => ?_
                  show wr (4 * n + 150) tb_M70 191 [(15, vi z333), (17, vi z264), (16, vi z264), (19, vi z264), (18, vi l18), (13, vl l13), (11, vl l11), (9, vl l9), (7, vl l7), (5, vl l5), (3, vl l3), (2, vi l2), (0, .ref 131), (1, vi l1)] [vl (s266.1 131 7), vl l9] s266 _
                  refine wr_anyl (a := l9) (b := s266.1 131 7) rfl rfl fun z336 h337 _ => ?_
                  show wr (4 * n + 150) tb_M70 192 [(15, vi z333), (17, vi z264), (16, vi z264), (19, vi z264), (18, vi l18), (13, vl l13), (11, vl l11), (9, vl l9), (7, vl l7), (5, vl l5), (3, vl l3), (2, vi l2), (0, .ref 131), (1, vi l1)] [vl z336] s266 _
                  refine wr_n (pc2 := 197) (lv2 := [(9, vl z336), (15, vi z333), (17, vi z264), (16, vi z264), (19, vi z264), (18, vi l18), (13, vl l13), (11, vl l11), (7, vl l7), (5, vl l5), (3, vl l3), (2, vi l2), (0, .ref 131), (1, vi l1)]) (st2 := [.ref 131, vl l11]) 3 (fun _ _ => rfl) ?_
                  refine wr_get (v := vl (s266.1 131 8)) rfl rfl rfl (by decide) rfl fun h338 => ?_
                  show wr (4 * n + 150) tb_M70 200 [(9, vl z336), (15, vi z333), (17, vi z264), (16, vi z264), (19, vi z264), (18, vi l18), (13, vl l13), (11, vl l11), (7, vl l7), (5, vl l5), (3, vl l3), (2, vi l2), (0, .ref 131), (1, vi l1)] [vl (s266.1 131 8), vl l11] s266 _
                  refine wr_anyl (a := l11) (b := s266.1 131 8) rfl rfl fun z339 h340 _ => ?_
                  show wr (4 * n + 150) tb_M70 201 [(9, vl z336), (15, vi z333), (17, vi z264), (16, vi z264), (19, vi z264), (18, vi l18), (13, vl l13), (11, vl l11), (7, vl l7), (5, vl l5), (3, vl l3), (2, vi l2), (0, .ref 131), (1, vi l1)] [vl z339] s266 _
                  refine wr_n (pc2 := 206) (lv2 := [(11, vl z339), (9, vl z336), (15, vi z333), (17, vi z264), (16, vi z264), (19, vi z264), (18, vi l18), (13, vl l13), (7, vl l7), (5, vl l5), (3, vl l3), (2, vi l2), (0, .ref 131), (1, vi l1)]) (st2 := [.ref 131, vl l13]) 3 (fun _ _ => rfl) ?_
                  refine wr_get (v := vl (s266.1 131 9)) rfl rfl rfl (by decide) rfl fun h341 => ?_
                  show wr (4 * n + 150) tb_M70 209 [(11, vl z339), (9, vl z336), (15, vi z333), (17, vi z264), (16, vi z264), (19, vi z264), (18, vi l18), (13, vl l13), (7, vl l7), (5, vl l5), (3, vl l3), (2, vi l2), (0, .ref 131), (1, vi l1)] [vl (s266.1 131 9), vl l13] s266 _
                  refine wr_anyl (a := l13) (b := s266.1 131 9) rfl rfl fun z342 h343 _ => ?_
                  show wr (4 * n + 150) tb_M70 210 [(11, vl z339), (9, vl z336), (15, vi z333), (17, vi z264), (16, vi z264), (19, vi z264), (18, vi l18), (13, vl l13), (7, vl l7), (5, vl l5), (3, vl l3), (2, vi l2), (0, .ref 131), (1, vi l1)] [vl z342] s266 _
                  refine wr_n (pc2 := 212) (lv2 := [(13, vl z342), (11, vl z339), (9, vl z336), (15, vi z333), (17, vi z264), (16, vi z264), (19, vi z264), (18, vi l18), (7, vl l7), (5, vl l5), (3, vl l3), (2, vi l2), (0, .ref 131), (1, vi l1)]) (st2 := []) 1 (fun _ _ => rfl) ?_
                  refine wr_inc (a := l18) rfl rfl ?_
                  show wr (4 * n + 150) tb_M70 215 [(18, vi (l18 + 1)), (13, vl z342), (11, vl z339), (9, vl z336), (15, vi z333), (17, vi z264), (16, vi z264), (19, vi z264), (7, vl l7), (5, vl l5), (3, vl l3), (2, vi l2), (0, .ref 131), (1, vi l1)] [] s266 _
                  refine wr_n (pc2 := 53) (lv2 := [(18, vi (l18 + 1)), (13, vl z342), (11, vl z339), (9, vl z336), (15, vi z333), (17, vi z264), (16, vi z264), (19, vi z264), (7, vl l7), (5, vl l5), (3, vl l3), (2, vi l2), (0, .ref 131), (1, vi l1)]) (st2 := []) 1 (fun _ _ => rfl) ?_
                  exact ih _ (by omega) (l18 + 1) z342 z339 z336 z333 z264 z264 z264 l7 l5 l3 l2 l1 s266 rfl hK266 hq266 hX266 hC266 (by omega) h343 h340 h337 (by omega) (by omega) (by omega) (by omega) hl7 hl5 hl3 (by omega) (by omega) (by omega) 
            · refine .inr ⟨rfl, ?_⟩
              exact ⟨hK264, (FX_tr (FX_up (FX_up (FX_up hX260 (by unfold fx; omega)) (by unfold fx; omega)) (by unfold fx; omega)) hY264), .inr ⟨rfl, TH hC260 hc264⟩⟩
          · refine .inr ⟨rfl, ?_⟩
            exact ⟨hK260, (FX_tr hX hY260), .inr ⟨rfl, TH hc hc260⟩⟩
set_option maxHeartbeats 20000000 in
set_option maxRecDepth 100000 in
theorem k_branches_277v2 {s0 : rS} {C : Nat} (hC : C = 99 ∨ C = 115) {n : Nat} (hSt : JSt n)  (l18 : Int) (l17 : Int) (l16 : Int) (l15 : Int) (l13 : Int) (l11 : Int) (l9 : Int) (l7 : Int) (l5 : Int) (l3 : Int) (l2 : Int) (l1 : Int) (s : rS) (hK : KI s.1) (hq : s.1 131 1 = (C : Int)) (hX : FX s0.1 s.1) (hc : s.2 = s0.2) (hl18 : 0 ≤ l18 ∧ l18 ≤ 6) (hl17 : (-2147483648) ≤ l17 ∧ l17 ≤ 2147483647) (hl16 : (-2147483648) ≤ l16 ∧ l16 ≤ 2147483647) (hl15 : (-2147483648) ≤ l15 ∧ l15 ≤ 2147483647) (hl13 : i64 l13) (hl11 : i64 l11) (hl9 : i64 l9) (hl7 : i64 l7) (hl5 : i64 l5) (hl3 : i64 l3) (hl2 : (-2147483648) ≤ l2 ∧ l2 ≤ 2147483647) (hl1 : 0 ≤ l1 ∧ l1 ≤ 20)   : wr (4 * n + 150) tb_M70 277 [(18, vi l18), (17, vi l17), (16, vi l16), (15, vi l15), (13, vl l13), (11, vl l11), (9, vl l9), (7, vl l7), (5, vl l5), (3, vl l3), (2, vi l2), (0, .ref 131), (1, vi l1)] [] s (TZ (fun z => True) s0) := by
  refine wr_n (pc2 := 278) (lv2 := [(18, vi l18), (17, vi l17), (16, vi l16), (15, vi l15), (13, vl l13), (11, vl l11), (9, vl l9), (7, vl l7), (5, vl l5), (3, vl l3), (2, vi l2), (0, .ref 131), (1, vi l1)]) (st2 := [.ref 131]) 1 (fun _ _ => rfl) ?_
  refine wr_get (v := .ref C) rfl rfl rfl (by decide) (rv_ref (show (s.1) 131 1 = ((C : Nat) : Int) from hq)) fun h1 => ?_
  show wr (4 * n + 150) tb_M70 281 [(18, vi l18), (17, vi l17), (16, vi l16), (15, vi l15), (13, vl l13), (11, vl l11), (9, vl l9), (7, vl l7), (5, vl l5), (3, vl l3), (2, vi l2), (0, .ref 131), (1, vi l1)] [.ref C] s _
  refine wr_n (pc2 := 289) (lv2 := [(18, vi l18), (17, vi l17), (16, vi l16), (15, vi l15), (13, vl l13), (11, vl l11), (9, vl l9), (7, vl l7), (5, vl l5), (3, vl l3), (2, vi l2), (0, .ref 131), (1, vi l1)]) (st2 := [vi ((-1)), vi l18, vi l16, vi 312, .ref C]) 4 (fun _ _ => rfl) ?_
  refine wr_call1 (args := [vi 312, vi l16, vi l18, vi ((-1))]) (rest := []) rfl rfl rfl (TK0 hC) (Nat.le_of_ble_eq_true rfl) (cr_mono (k_cadd (d := 4 * n + 149) (C := C) hC (x := 312) (y := l16) (u := l18) (v := (-1)) s hK (by omega) (by omega) (by omega) (by omega)) ?_)
  rintro s2 out ⟨hK2, hY2, hc2, ha2, z2, rfl, hz2, hp2⟩
  refine ⟨_, rfl, ?_⟩
  have hX2 : FX s0.1 s2.1 := FX_tr hX hY2
  have hC2 : s2.2 = s0.2 := hc2.trans hc
  have hq2 : s2.1 131 1 = (C : Int) := (hY2 131 1 (by unfold fx; omega)).trans hq
  unfold i32 at hz2
  clear hp2
  show wr (4 * n + 150) tb_M70 292 [(18, vi l18), (17, vi l17), (16, vi l16), (15, vi l15), (13, vl l13), (11, vl l11), (9, vl l9), (7, vl l7), (5, vl l5), (3, vl l3), (2, vi l2), (0, .ref 131), (1, vi l1)] [vi z2] s2 _
  refine wr_reti rfl rfl ?_
  exact ⟨hK2, hX2, .inl ⟨z2, hC2, rfl, by unfold i32; omega, trivial⟩⟩
set_option maxHeartbeats 20000000 in
set_option maxRecDepth 100000 in
theorem k_branches_218v2 {s0 : rS} {C : Nat} (hC : C = 99 ∨ C = 115) {n : Nat} (hSt : JSt n)  (l18 : Int) (l17 : Int) (l16 : Int) (l15 : Int) (l13 : Int) (l11 : Int) (l9 : Int) (l7 : Int) (l5 : Int) (l3 : Int) (l2 : Int) (l1 : Int) (s : rS) (hK : KI s.1) (hq : s.1 131 1 = (C : Int)) (hX : FX s0.1 s.1) (hc : s.2 = s0.2) (hl18 : 0 ≤ l18 ∧ l18 ≤ 6) (hl17 : (-2147483648) ≤ l17 ∧ l17 ≤ 2147483647) (hl16 : (-2147483648) ≤ l16 ∧ l16 ≤ 2147483647) (hl15 : (-2147483648) ≤ l15 ∧ l15 ≤ 2147483647) (hl13 : i64 l13) (hl11 : i64 l11) (hl9 : i64 l9) (hl7 : i64 l7) (hl5 : i64 l5) (hl3 : i64 l3) (hl2 : (-2147483648) ≤ l2 ∧ l2 ≤ 2147483647) (hl1 : 0 ≤ l1 ∧ l1 ≤ 20)   : wr (4 * n + 150) tb_M70 218 [(18, vi l18), (17, vi l17), (16, vi l16), (15, vi l15), (13, vl l13), (11, vl l11), (9, vl l9), (7, vl l7), (5, vl l5), (3, vl l3), (2, vi l2), (0, .ref 131), (1, vi l1)] [] s (TZ (fun z => True) s0) := by
  refine wr_n (pc2 := 221) (lv2 := [(18, vi l18), (17, vi l17), (16, vi l16), (15, vi l15), (13, vl l13), (11, vl l11), (9, vl l9), (7, vl l7), (5, vl l5), (3, vl l3), (2, vi l2), (0, .ref 131), (1, vi l1)]) (st2 := [vi 125, .ref 131]) 2 (fun _ _ => rfl) ?_
  refine wr_call1T (args := [vi 125]) (rest := []) rfl rfl rfl rfl (Nat.le_of_ble_eq_true rfl) rfl (cr_mono (k_expect (d := 4 * n + 148) (x := 125) s hK (by omega)) ?_)
  rintro s1 out ⟨hK1, hY1, ⟨hc1, rfl⟩ | ⟨rfl, hc1⟩⟩
  · refine .inl ⟨_, rfl, ?_⟩
    have hX1 : FX s0.1 s1.1 := FX_tr hX hY1
    have hC1 : s1.2 = s0.2 := hc1.trans hc
    have hq1 : s1.1 131 1 = (C : Int) := (hY1 131 1 (by unfold fx; omega)).trans hq
    show wr (4 * n + 150) tb_M70 224 [(18, vi l18), (17, vi l17), (16, vi l16), (15, vi l15), (13, vl l13), (11, vl l11), (9, vl l9), (7, vl l7), (5, vl l5), (3, vl l3), (2, vi l2), (0, .ref 131), (1, vi l1)] [] s1 _
    refine wr_n (pc2 := 228) (lv2 := [(18, vi l18), (17, vi l17), (16, vi l16), (15, vi l15), (13, vl l13), (11, vl l11), (9, vl l9), (7, vl l7), (5, vl l5), (3, vl l3), (2, vi l2), (0, .ref 131), (1, vi l1)]) (st2 := [vl l9, vl l3, .ref 131]) 3 (fun _ _ => rfl) ?_
    refine wr_anyl (a := l3) (b := l9) rfl rfl fun z2 h3 _ => ?_
    show wr (4 * n + 150) tb_M70 229 [(18, vi l18), (17, vi l17), (16, vi l16), (15, vi l15), (13, vl l13), (11, vl l11), (9, vl l9), (7, vl l7), (5, vl l5), (3, vl l3), (2, vi l2), (0, .ref 131), (1, vi l1)] [vl z2, .ref 131] s1 _
    refine wr_put (z := z2) rfl rfl rfl rfl (by decide) rfl (by decide) rfl h3 (fit_l _) ?_
    show wr (4 * n + 150) tb_M70 232 [(18, vi l18), (17, vi l17), (16, vi l16), (15, vi l15), (13, vl l13), (11, vl l11), (9, vl l9), (7, vl l7), (5, vl l5), (3, vl l3), (2, vi l2), (0, .ref 131), (1, vi l1)] [] (up2 s1.1 131 7 z2, s1.2) _
    have hK4 : KI (up2 s1.1 131 7 z2) := (KI_up hK1 rfl (kb_no rfl))
    refine wr_n (pc2 := 237) (lv2 := [(18, vi l18), (17, vi l17), (16, vi l16), (15, vi l15), (13, vl l13), (11, vl l11), (9, vl l9), (7, vl l7), (5, vl l5), (3, vl l3), (2, vi l2), (0, .ref 131), (1, vi l1)]) (st2 := [vl l11, vl l5, .ref 131]) 3 (fun _ _ => rfl) ?_
    refine wr_anyl (a := l5) (b := l11) rfl rfl fun z5 h6 _ => ?_
    show wr (4 * n + 150) tb_M70 238 [(18, vi l18), (17, vi l17), (16, vi l16), (15, vi l15), (13, vl l13), (11, vl l11), (9, vl l9), (7, vl l7), (5, vl l5), (3, vl l3), (2, vi l2), (0, .ref 131), (1, vi l1)] [vl z5, .ref 131] (up2 s1.1 131 7 z2, s1.2) _
    refine wr_put (z := z5) rfl rfl rfl rfl (by decide) rfl (by decide) rfl h6 (fit_l _) ?_
    show wr (4 * n + 150) tb_M70 241 [(18, vi l18), (17, vi l17), (16, vi l16), (15, vi l15), (13, vl l13), (11, vl l11), (9, vl l9), (7, vl l7), (5, vl l5), (3, vl l3), (2, vi l2), (0, .ref 131), (1, vi l1)] [] (up2 (up2 s1.1 131 7 z2) 131 8 z5, s1.2) _
    have hK7 : KI (up2 (up2 s1.1 131 7 z2) 131 8 z5) := (KI_up (KI_up hK1 rfl (kb_no rfl)) rfl (kb_no rfl))
    refine wr_n (pc2 := 246) (lv2 := [(18, vi l18), (17, vi l17), (16, vi l16), (15, vi l15), (13, vl l13), (11, vl l11), (9, vl l9), (7, vl l7), (5, vl l5), (3, vl l3), (2, vi l2), (0, .ref 131), (1, vi l1)]) (st2 := [vl l13, vl l7, .ref 131]) 3 (fun _ _ => rfl) ?_
    refine wr_anyl (a := l7) (b := l13) rfl rfl fun z8 h9 _ => ?_
    show wr (4 * n + 150) tb_M70 247 [(18, vi l18), (17, vi l17), (16, vi l16), (15, vi l15), (13, vl l13), (11, vl l11), (9, vl l9), (7, vl l7), (5, vl l5), (3, vl l3), (2, vi l2), (0, .ref 131), (1, vi l1)] [vl z8, .ref 131] (up2 (up2 s1.1 131 7 z2) 131 8 z5, s1.2) _
    refine wr_put (z := z8) rfl rfl rfl rfl (by decide) rfl (by decide) rfl h9 (fit_l _) ?_
    show wr (4 * n + 150) tb_M70 250 [(18, vi l18), (17, vi l17), (16, vi l16), (15, vi l15), (13, vl l13), (11, vl l11), (9, vl l9), (7, vl l7), (5, vl l5), (3, vl l3), (2, vi l2), (0, .ref 131), (1, vi l1)] [] (up2 (up2 (up2 s1.1 131 7 z2) 131 8 z5) 131 9 z8, s1.2) _
    have hK10 : KI (up2 (up2 (up2 s1.1 131 7 z2) 131 8 z5) 131 9 z8) := (KI_up (KI_up (KI_up hK1 rfl (kb_no rfl)) rfl (kb_no rfl)) rfl (kb_no rfl))
    refine wr_n (pc2 := 252) (lv2 := [(18, vi l18), (17, vi l17), (16, vi l16), (15, vi l15), (13, vl l13), (11, vl l11), (9, vl l9), (7, vl l7), (5, vl l5), (3, vl l3), (2, vi l2), (0, .ref 131), (1, vi l1)]) (st2 := [vi l15]) 1 (fun _ _ => rfl) ?_
    by_cases h11 : l15 = 0
    · refine wr_if1t rfl rfl (by unfold i32; omega) h11 ?_
      obtain ⟨q12, hs12⟩ : ∃ qq9 : rS, qq9 = (up2 (up2 (up2 s1.1 131 7 z2) 131 8 z5) 131 9 z8, s1.2) := ⟨_, rfl⟩
      rw [← hs12]
      have hK12 : KI q12.1 := by rw [hs12]; exact hK10
      have hX12 : FX s0.1 q12.1 := by rw [hs12]; exact (FX_up (FX_up (FX_up hX1 (by unfold fx; omega)) (by unfold fx; omega)) (by unfold fx; omega))
      have hC12 : q12.2 = s0.2 := by rw [hs12]; exact hC1
      have hq12 : q12.1 131 1 = (C : Int) := by rw [hs12]; exact (show (up2 (up2 (up2 s1.1 131 7 z2) 131 8 z5) 131 9 z8) 131 1 = ((C : Nat) : Int) from ((if_neg (by omega)).trans ((if_neg (by omega)).trans ((if_neg (by omega)).trans hq1))))
      clear hs12
      exact k_branches_277v2 hC hSt l18 l17 l16 l15 l13 l11 l9 l7 l5 l3 l2 l1 q12 hK12 hq12 hX12 hC12 (by omega) (by omega) (by omega) (by omega) hl13 hl11 hl9 hl7 hl5 hl3 (by omega) (by omega)  
    · refine wr_if1f rfl rfl (by unfold i32; omega) h11 ?_
      refine wr_n (pc2 := 256) (lv2 := [(18, vi l18), (17, vi l17), (16, vi l16), (15, vi l15), (13, vl l13), (11, vl l11), (9, vl l9), (7, vl l7), (5, vl l5), (3, vl l3), (2, vi l2), (0, .ref 131), (1, vi l1)]) (st2 := [.ref 131]) 1 (fun _ _ => rfl) ?_
      refine wr_get (v := vi (s1.1 131 3)) rfl rfl rfl (by decide) rfl fun h13 => ?_
      have h13 : -2147483648 ≤ s1.1 131 3 ∧ s1.1 131 3 ≤ 2147483647 := h13
      show wr (4 * n + 150) tb_M70 259 [(18, vi l18), (17, vi l17), (16, vi l16), (15, vi l15), (13, vl l13), (11, vl l11), (9, vl l9), (7, vl l7), (5, vl l5), (3, vl l3), (2, vi l2), (0, .ref 131), (1, vi l1)] [vi (s1.1 131 3)] (up2 (up2 (up2 s1.1 131 7 z2) 131 8 z5) 131 9 z8, s1.2) _
      refine wr_n (pc2 := 261) (lv2 := [(18, vi l18), (17, vi l17), (16, vi l16), (15, vi l15), (13, vl l13), (11, vl l11), (9, vl l9), (7, vl l7), (5, vl l5), (3, vl l3), (2, vi l2), (0, .ref 131), (1, vi l1)]) (st2 := [vi ((-2)), vi (s1.1 131 3)]) 1 (fun _ _ => rfl) ?_
      by_cases h14 : s1.1 131 3 = (-2)
      · refine wr_if2t rfl rfl (by unfold i32; omega) (by unfold i32; omega) h14 ?_
        refine wr_n (pc2 := 274) (lv2 := [(18, vi l18), (17, vi l17), (16, vi l16), (15, vi l15), (13, vl l13), (11, vl l11), (9, vl l9), (7, vl l7), (5, vl l5), (3, vl l3), (2, vi l2), (0, .ref 131), (1, vi l1)]) (st2 := [vi l2, .ref 131]) 2 (fun _ _ => rfl) ?_
        refine wr_put (z := l2) rfl rfl rfl rfl (by decide) rfl (by decide) rfl (show -2147483648 ≤ l2 ∧ l2 ≤ 2147483647 by omega) (hf_int' _) ?_
        show wr (4 * n + 150) tb_M70 277 [(18, vi l18), (17, vi l17), (16, vi l16), (15, vi l15), (13, vl l13), (11, vl l11), (9, vl l9), (7, vl l7), (5, vl l5), (3, vl l3), (2, vi l2), (0, .ref 131), (1, vi l1)] [] (up2 (up2 (up2 (up2 s1.1 131 7 z2) 131 8 z5) 131 9 z8) 131 3 l2, s1.2) _
        have hK15 : KI (up2 (up2 (up2 (up2 s1.1 131 7 z2) 131 8 z5) 131 9 z8) 131 3 l2) := (KI_up (KI_up (KI_up (KI_up hK1 rfl (kb_no rfl)) rfl (kb_no rfl)) rfl (kb_no rfl)) rfl (kb_no rfl))
        obtain ⟨q16, hs16⟩ : ∃ qq9 : rS, qq9 = (up2 (up2 (up2 (up2 s1.1 131 7 z2) 131 8 z5) 131 9 z8) 131 3 l2, s1.2) := ⟨_, rfl⟩
        rw [← hs16]
        have hK16 : KI q16.1 := by rw [hs16]; exact hK15
        have hX16 : FX s0.1 q16.1 := by rw [hs16]; exact (FX_up (FX_up (FX_up (FX_up hX1 (by unfold fx; omega)) (by unfold fx; omega)) (by unfold fx; omega)) (by unfold fx; omega))
        have hC16 : q16.2 = s0.2 := by rw [hs16]; exact hC1
        have hq16 : q16.1 131 1 = (C : Int) := by rw [hs16]; exact (show (up2 (up2 (up2 (up2 s1.1 131 7 z2) 131 8 z5) 131 9 z8) 131 3 l2) 131 1 = ((C : Nat) : Int) from ((if_neg (by omega)).trans ((if_neg (by omega)).trans ((if_neg (by omega)).trans ((if_neg (by omega)).trans hq1)))))
        clear hs16
        exact k_branches_277v2 hC hSt l18 l17 l16 l15 l13 l11 l9 l7 l5 l3 l2 l1 q16 hK16 hq16 hX16 hC16 (by omega) (by omega) (by omega) (by omega) hl13 hl11 hl9 hl7 hl5 hl3 (by omega) (by omega)  
      · refine wr_if2f rfl rfl (by unfold i32; omega) (by unfold i32; omega) h14 ?_
        refine wr_n (pc2 := 266) (lv2 := [(18, vi l18), (17, vi l17), (16, vi l16), (15, vi l15), (13, vl l13), (11, vl l11), (9, vl l9), (7, vl l7), (5, vl l5), (3, vl l3), (2, vi l2), (0, .ref 131), (1, vi l1)]) (st2 := [.ref 131, vi l2]) 2 (fun _ _ => rfl) ?_
        refine wr_get (v := vi (s1.1 131 3)) rfl rfl rfl (by decide) rfl fun h17 => ?_
        have h17 : -2147483648 ≤ s1.1 131 3 ∧ s1.1 131 3 ≤ 2147483647 := h17
        show wr (4 * n + 150) tb_M70 269 [(18, vi l18), (17, vi l17), (16, vi l16), (15, vi l15), (13, vl l13), (11, vl l11), (9, vl l9), (7, vl l7), (5, vl l5), (3, vl l3), (2, vi l2), (0, .ref 131), (1, vi l1)] [vi (s1.1 131 3), vi l2] (up2 (up2 (up2 s1.1 131 7 z2) 131 8 z5) 131 9 z8, s1.2) _
        by_cases h18 : s1.1 131 3 ≤ l2
        · refine wr_if2t rfl rfl (by unfold i32; omega) (by unfold i32; omega) h18 ?_
          obtain ⟨q19, hs19⟩ : ∃ qq9 : rS, qq9 = (up2 (up2 (up2 s1.1 131 7 z2) 131 8 z5) 131 9 z8, s1.2) := ⟨_, rfl⟩
          rw [← hs19]
          have hK19 : KI q19.1 := by rw [hs19]; exact hK10
          have hX19 : FX s0.1 q19.1 := by rw [hs19]; exact (FX_up (FX_up (FX_up hX1 (by unfold fx; omega)) (by unfold fx; omega)) (by unfold fx; omega))
          have hC19 : q19.2 = s0.2 := by rw [hs19]; exact hC1
          have hq19 : q19.1 131 1 = (C : Int) := by rw [hs19]; exact (show (up2 (up2 (up2 s1.1 131 7 z2) 131 8 z5) 131 9 z8) 131 1 = ((C : Nat) : Int) from ((if_neg (by omega)).trans ((if_neg (by omega)).trans ((if_neg (by omega)).trans hq1))))
          clear hs19
          exact k_branches_277v2 hC hSt l18 l17 l16 l15 l13 l11 l9 l7 l5 l3 l2 l1 q19 hK19 hq19 hX19 hC19 (by omega) (by omega) (by omega) (by omega) hl13 hl11 hl9 hl7 hl5 hl3 (by omega) (by omega)  
        · refine wr_if2f rfl rfl (by unfold i32; omega) (by unfold i32; omega) h18 ?_
          refine wr_n (pc2 := 274) (lv2 := [(18, vi l18), (17, vi l17), (16, vi l16), (15, vi l15), (13, vl l13), (11, vl l11), (9, vl l9), (7, vl l7), (5, vl l5), (3, vl l3), (2, vi l2), (0, .ref 131), (1, vi l1)]) (st2 := [vi l2, .ref 131]) 2 (fun _ _ => rfl) ?_
          refine wr_put (z := l2) rfl rfl rfl rfl (by decide) rfl (by decide) rfl (show -2147483648 ≤ l2 ∧ l2 ≤ 2147483647 by omega) (hf_int' _) ?_
          show wr (4 * n + 150) tb_M70 277 [(18, vi l18), (17, vi l17), (16, vi l16), (15, vi l15), (13, vl l13), (11, vl l11), (9, vl l9), (7, vl l7), (5, vl l5), (3, vl l3), (2, vi l2), (0, .ref 131), (1, vi l1)] [] (up2 (up2 (up2 (up2 s1.1 131 7 z2) 131 8 z5) 131 9 z8) 131 3 l2, s1.2) _
          have hK20 : KI (up2 (up2 (up2 (up2 s1.1 131 7 z2) 131 8 z5) 131 9 z8) 131 3 l2) := (KI_up (KI_up (KI_up (KI_up hK1 rfl (kb_no rfl)) rfl (kb_no rfl)) rfl (kb_no rfl)) rfl (kb_no rfl))
          obtain ⟨q21, hs21⟩ : ∃ qq9 : rS, qq9 = (up2 (up2 (up2 (up2 s1.1 131 7 z2) 131 8 z5) 131 9 z8) 131 3 l2, s1.2) := ⟨_, rfl⟩
          rw [← hs21]
          have hK21 : KI q21.1 := by rw [hs21]; exact hK20
          have hX21 : FX s0.1 q21.1 := by rw [hs21]; exact (FX_up (FX_up (FX_up (FX_up hX1 (by unfold fx; omega)) (by unfold fx; omega)) (by unfold fx; omega)) (by unfold fx; omega))
          have hC21 : q21.2 = s0.2 := by rw [hs21]; exact hC1
          have hq21 : q21.1 131 1 = (C : Int) := by rw [hs21]; exact (show (up2 (up2 (up2 (up2 s1.1 131 7 z2) 131 8 z5) 131 9 z8) 131 3 l2) 131 1 = ((C : Nat) : Int) from ((if_neg (by omega)).trans ((if_neg (by omega)).trans ((if_neg (by omega)).trans ((if_neg (by omega)).trans hq1)))))
          clear hs21
          exact k_branches_277v2 hC hSt l18 l17 l16 l15 l13 l11 l9 l7 l5 l3 l2 l1 q21 hK21 hq21 hX21 hC21 (by omega) (by omega) (by omega) (by omega) hl13 hl11 hl9 hl7 hl5 hl3 (by omega) (by omega)  
  · refine .inr ⟨rfl, ?_⟩
    exact ⟨hK1, (FX_tr hX hY1), .inr ⟨rfl, TH hc hc1⟩⟩
set_option maxHeartbeats 20000000 in
set_option maxRecDepth 100000 in
theorem k_branches_53 {s0 : rS} {C : Nat} (hC : C = 99 ∨ C = 115) {n : Nat} (hSt : JSt n)  : ∀ (w : Nat) (l18 : Int) (l17 : Int) (l16 : Int) (l15 : Int) (l13 : Int) (l11 : Int) (l9 : Int) (l7 : Int) (l5 : Int) (l3 : Int) (l2 : Int) (l1 : Int) (s : rS), (6 - l18).toNat = w → KI s.1 → s.1 131 1 = (C : Int) → FX s0.1 s.1 → s.2 = s0.2 → 0 ≤ l18 ∧ l18 ≤ 6 → (-2147483648) ≤ l17 ∧ l17 ≤ 2147483647 → (-2147483648) ≤ l16 ∧ l16 ≤ 2147483647 → (-2147483648) ≤ l15 ∧ l15 ≤ 2147483647 → i64 l13 → i64 l11 → i64 l9 → i64 l7 → i64 l5 → i64 l3 → (-2147483648) ≤ l2 ∧ l2 ≤ 2147483647 → 0 ≤ l1 ∧ l1 ≤ 20 → 20 - l1 < (n : Int) → wr (4 * n + 150) tb_M70 53 [(18, vi l18), (17, vi l17), (16, vi l16), (15, vi l15), (13, vl l13), (11, vl l11), (9, vl l9), (7, vl l7), (5, vl l5), (3, vl l3), (2, vi l2), (0, .ref 131), (1, vi l1)] [] s (TZ (fun z => True) s0) := by
  intro w
  induction w using Nat.strongRecOn with | ind w ih => ?_
  intro l18 l17 l16 l15 l13 l11 l9 l7 l5 l3 l2 l1 s hw hK hq hX hc hl18 hl17 hl16 hl15 hl13 hl11 hl9 hl7 hl5 hl3 hl2 hl1 hx0
  refine wr_n (pc2 := 56) (lv2 := [(18, vi l18), (17, vi l17), (16, vi l16), (15, vi l15), (13, vl l13), (11, vl l11), (9, vl l9), (7, vl l7), (5, vl l5), (3, vl l3), (2, vi l2), (0, .ref 131), (1, vi l1)]) (st2 := [vi 2, vi l18]) 2 (fun _ _ => rfl) ?_
  by_cases h1 : l18 < 2
  · refine wr_if2t rfl rfl (by unfold i32; omega) (by unfold i32; omega) h1 ?_
    refine wr_n (pc2 := 81) (lv2 := [(18, vi l18), (17, vi l17), (16, vi l16), (15, vi l15), (13, vl l13), (11, vl l11), (9, vl l9), (7, vl l7), (5, vl l5), (3, vl l3), (2, vi l2), (0, .ref 131), (1, vi l1)]) (st2 := [vi l18, .ref 131]) 2 (fun _ _ => rfl) ?_
    by_cases h2 : l18 ≠ 0
    · refine wr_if1t rfl rfl (by unfold i32; omega) h2 ?_
      refine wr_n (pc2 := 91) (lv2 := [(18, vi l18), (17, vi l17), (16, vi l16), (15, vi l15), (13, vl l13), (11, vl l11), (9, vl l9), (7, vl l7), (5, vl l5), (3, vl l3), (2, vi l2), (0, .ref 131), (1, vi l1)]) (st2 := [vi 124, .ref 131]) 1 (fun _ _ => rfl) ?_
      refine wr_call1T (args := [vi 124]) (rest := []) rfl rfl rfl rfl (Nat.le_of_ble_eq_true rfl) rfl (cr_mono (k_expect (d := 4 * n + 148) (x := 124) s hK (by omega)) ?_)
      rintro s3 out ⟨hK3, hY3, ⟨hc3, rfl⟩ | ⟨rfl, hc3⟩⟩
      · refine .inl ⟨_, rfl, ?_⟩
        have hX3 : FX s0.1 s3.1 := FX_tr hX hY3
        have hC3 : s3.2 = s0.2 := hc3.trans hc
        have hq3 : s3.1 131 1 = (C : Int) := (hY3 131 1 (by unfold fx; omega)).trans hq
        show wr (4 * n + 150) tb_M70 94 [(18, vi l18), (17, vi l17), (16, vi l16), (15, vi l15), (13, vl l13), (11, vl l11), (9, vl l9), (7, vl l7), (5, vl l5), (3, vl l3), (2, vi l2), (0, .ref 131), (1, vi l1)] [] s3 _
        refine wr_n (pc2 := 96) (lv2 := [(18, vi l18), (17, vi l17), (16, vi l16), (15, vi l15), (13, vl l13), (11, vl l11), (9, vl l9), (7, vl l7), (5, vl l5), (3, vl l3), (2, vi l2), (0, .ref 131), (1, vi l1)]) (st2 := [vl 0, .ref 131]) 2 (fun _ _ => rfl) ?_
        refine wr_put (z := 0) rfl rfl rfl rfl (by decide) rfl (by decide) rfl (by first | exact ⟨by omega, by omega⟩ | assumption) (fit_l _) ?_
        show wr (4 * n + 150) tb_M70 99 [(18, vi l18), (17, vi l17), (16, vi l16), (15, vi l15), (13, vl l13), (11, vl l11), (9, vl l9), (7, vl l7), (5, vl l5), (3, vl l3), (2, vi l2), (0, .ref 131), (1, vi l1)] [] (up2 s3.1 131 7 0, s3.2) _
        have hK4 : KI (up2 s3.1 131 7 0) := (KI_up hK3 rfl (kb_no rfl))
        refine wr_n (pc2 := 101) (lv2 := [(18, vi l18), (17, vi l17), (16, vi l16), (15, vi l15), (13, vl l13), (11, vl l11), (9, vl l9), (7, vl l7), (5, vl l5), (3, vl l3), (2, vi l2), (0, .ref 131), (1, vi l1)]) (st2 := [vl 0, .ref 131]) 2 (fun _ _ => rfl) ?_
        refine wr_put (z := 0) rfl rfl rfl rfl (by decide) rfl (by decide) rfl (by first | exact ⟨by omega, by omega⟩ | assumption) (fit_l _) ?_
        show wr (4 * n + 150) tb_M70 104 [(18, vi l18), (17, vi l17), (16, vi l16), (15, vi l15), (13, vl l13), (11, vl l11), (9, vl l9), (7, vl l7), (5, vl l5), (3, vl l3), (2, vi l2), (0, .ref 131), (1, vi l1)] [] (up2 (up2 s3.1 131 7 0) 131 8 0, s3.2) _
        have hK5 : KI (up2 (up2 s3.1 131 7 0) 131 8 0) := (KI_up (KI_up hK3 rfl (kb_no rfl)) rfl (kb_no rfl))
        refine wr_n (pc2 := 106) (lv2 := [(18, vi l18), (17, vi l17), (16, vi l16), (15, vi l15), (13, vl l13), (11, vl l11), (9, vl l9), (7, vl l7), (5, vl l5), (3, vl l3), (2, vi l2), (0, .ref 131), (1, vi l1)]) (st2 := [vl 0, .ref 131]) 2 (fun _ _ => rfl) ?_
        refine wr_put (z := 0) rfl rfl rfl rfl (by decide) rfl (by decide) rfl (by first | exact ⟨by omega, by omega⟩ | assumption) (fit_l _) ?_
        show wr (4 * n + 150) tb_M70 109 [(18, vi l18), (17, vi l17), (16, vi l16), (15, vi l15), (13, vl l13), (11, vl l11), (9, vl l9), (7, vl l7), (5, vl l5), (3, vl l3), (2, vi l2), (0, .ref 131), (1, vi l1)] [] (up2 (up2 (up2 s3.1 131 7 0) 131 8 0) 131 9 0, s3.2) _
        have hK6 : KI (up2 (up2 (up2 s3.1 131 7 0) 131 8 0) 131 9 0) := (KI_up (KI_up (KI_up hK3 rfl (kb_no rfl)) rfl (kb_no rfl)) rfl (kb_no rfl))
        refine wr_n (pc2 := 112) (lv2 := [(18, vi l18), (17, vi l17), (16, vi l16), (15, vi l15), (13, vl l13), (11, vl l11), (9, vl l9), (7, vl l7), (5, vl l5), (3, vl l3), (2, vi l2), (0, .ref 131), (1, vi l1)]) (st2 := [vi 1, vi l1, .ref 131]) 3 (fun _ _ => rfl) ?_
        refine wr_add (a := l1) (b := 1) rfl ?_
        show wr (4 * n + 150) tb_M70 113 [(18, vi l18), (17, vi l17), (16, vi l16), (15, vi l15), (13, vl l13), (11, vl l11), (9, vl l9), (7, vl l7), (5, vl l5), (3, vl l3), (2, vi l2), (0, .ref 131), (1, vi l1)] [vi (l1 + 1), .ref 131] (up2 (up2 (up2 s3.1 131 7 0) 131 8 0) 131 9 0, s3.2) _
        refine wr_call1T (args := [vi (l1 + 1)]) (rest := []) rfl rfl rfl rfl (Nat.le_of_ble_eq_true rfl) rfl (cr_mono (hSt C (up2 (up2 (up2 s3.1 131 7 0) 131 8 0) 131 9 0, s3.2) (l1 + 1) hC hK6 (show (up2 (up2 (up2 s3.1 131 7 0) 131 8 0) 131 9 0) 131 1 = ((C : Nat) : Int) from ((if_neg (by omega)).trans ((if_neg (by omega)).trans ((if_neg (by omega)).trans hq3)))) (by omega)) ?_)
        rintro s7 out ⟨hK7, hY7, ⟨z7, hc7, rfl, hz7, hp7⟩ | ⟨rfl, hc7⟩⟩
        · refine .inl ⟨_, rfl, ?_⟩
          have hX7 : FX s0.1 s7.1 := FX_tr (FX_up (FX_up (FX_up hX3 (by unfold fx; omega)) (by unfold fx; omega)) (by unfold fx; omega)) hY7
          have hC7 : s7.2 = s0.2 := hc7.trans hC3
          have hq7 : s7.1 131 1 = (C : Int) := (hY7 131 1 (by unfold fx; omega)).trans (show (up2 (up2 (up2 s3.1 131 7 0) 131 8 0) 131 9 0) 131 1 = ((C : Nat) : Int) from ((if_neg (by omega)).trans ((if_neg (by omega)).trans ((if_neg (by omega)).trans hq3))))
          unfold i32 at hz7
          clear hp7
          show wr (4 * n + 150) tb_M70 116 [(18, vi l18), (17, vi l17), (16, vi l16), (15, vi l15), (13, vl l13), (11, vl l11), (9, vl l9), (7, vl l7), (5, vl l5), (3, vl l3), (2, vi l2), (0, .ref 131), (1, vi l1)] [vi z7] s7 _
          refine wr_n (pc2 := 119) (lv2 := [(19, vi z7), (18, vi l18), (17, vi l17), (16, vi l16), (15, vi l15), (13, vl l13), (11, vl l11), (9, vl l9), (7, vl l7), (5, vl l5), (3, vl l3), (2, vi l2), (0, .ref 131), (1, vi l1)]) (st2 := [.ref 131]) 2 (fun _ _ => rfl) ?_
          refine wr_get (v := .ref C) rfl rfl rfl (by decide) (rv_ref (show (s7.1) 131 1 = ((C : Nat) : Int) from hq7)) fun h8 => ?_
          show wr (4 * n + 150) tb_M70 122 [(19, vi z7), (18, vi l18), (17, vi l17), (16, vi l16), (15, vi l15), (13, vl l13), (11, vl l11), (9, vl l9), (7, vl l7), (5, vl l5), (3, vl l3), (2, vi l2), (0, .ref 131), (1, vi l1)] [.ref C] s7 _
          refine wr_n (pc2 := 126) (lv2 := [(19, vi z7), (18, vi l18), (17, vi l17), (16, vi l16), (15, vi l15), (13, vl l13), (11, vl l11), (9, vl l9), (7, vl l7), (5, vl l5), (3, vl l3), (2, vi l2), (0, .ref 131), (1, vi l1)]) (st2 := [vi z7, vi l17, .ref C]) 2 (fun _ _ => rfl) ?_
          refine wr_call1 (args := [vi l17, vi z7]) (rest := []) rfl rfl rfl (TK0 hC) (Nat.le_of_ble_eq_true rfl) (cr_mono (k_link (d := 4 * n + 148) (C := C) hC (x := l17) (y := z7) s7 hK7 (by omega) (by omega)) ?_)
          rintro s9 out ⟨hK9, hY9, hc9, rfl⟩
          refine ⟨_, rfl, ?_⟩
          have hX9 : FX s0.1 s9.1 := FX_tr hX7 hY9
          have hC9 : s9.2 = s0.2 := hc9.trans hC7
          have hq9 : s9.1 131 1 = (C : Int) := (hY9 131 1 (by unfold fx; omega)).trans hq7
          show wr (4 * n + 150) tb_M70 129 [(19, vi z7), (18, vi l18), (17, vi l17), (16, vi l16), (15, vi l15), (13, vl l13), (11, vl l11), (9, vl l9), (7, vl l7), (5, vl l5), (3, vl l3), (2, vi l2), (0, .ref 131), (1, vi l1)] [] s9 _
          refine wr_n (pc2 := 131) (lv2 := [(19, vi z7), (18, vi l18), (17, vi l17), (16, vi l16), (15, vi l15), (13, vl l13), (11, vl l11), (9, vl l9), (7, vl l7), (5, vl l5), (3, vl l3), (2, vi l2), (0, .ref 131), (1, vi l1)]) (st2 := [vi l18]) 1 (fun _ _ => rfl) ?_
          by_cases h10 : l18 ≠ 0
          · refine wr_if1t rfl rfl (by unfold i32; omega) h10 ?_
            refine wr_n (pc2 := 150) (lv2 := [(17, vi z7), (16, vi l16), (19, vi z7), (18, vi l18), (15, vi l15), (13, vl l13), (11, vl l11), (9, vl l9), (7, vl l7), (5, vl l5), (3, vl l3), (2, vi l2), (0, .ref 131), (1, vi l1)]) (st2 := [.ref 131, vi l15]) 6 (fun _ _ => rfl) ?_
            refine wr_get (v := vl (s9.1 131 8)) rfl rfl rfl (by decide) rfl fun h11 => ?_
            show wr (4 * n + 150) tb_M70 153 [(17, vi z7), (16, vi l16), (19, vi z7), (18, vi l18), (15, vi l15), (13, vl l13), (11, vl l11), (9, vl l9), (7, vl l7), (5, vl l5), (3, vl l3), (2, vi l2), (0, .ref 131), (1, vi l1)] [vl (s9.1 131 8), vi l15] s9 _
            refine wr_n (pc2 := 155) (lv2 := [(17, vi z7), (16, vi l16), (19, vi z7), (18, vi l18), (15, vi l15), (13, vl l13), (11, vl l11), (9, vl l9), (7, vl l7), (5, vl l5), (3, vl l3), (2, vi l2), (0, .ref 131), (1, vi l1)]) (st2 := [vl l9, vl (s9.1 131 8), vi l15]) 1 (fun _ _ => rfl) ?_
            refine wr_anyl (a := s9.1 131 8) (b := l9) rfl rfl fun z12 h13 _ => ?_
            show wr (4 * n + 150) tb_M70 156 [(17, vi z7), (16, vi l16), (19, vi z7), (18, vi l18), (15, vi l15), (13, vl l13), (11, vl l11), (9, vl l9), (7, vl l7), (5, vl l5), (3, vl l3), (2, vi l2), (0, .ref 131), (1, vi l1)] [vl z12, vi l15] s9 _
            refine wr_n (pc2 := 157) (lv2 := [(17, vi z7), (16, vi l16), (19, vi z7), (18, vi l18), (15, vi l15), (13, vl l13), (11, vl l11), (9, vl l9), (7, vl l7), (5, vl l5), (3, vl l3), (2, vi l2), (0, .ref 131), (1, vi l1)]) (st2 := [.ref 131, vl z12, vi l15]) 1 (fun _ _ => rfl) ?_
            refine wr_get (v := vl (s9.1 131 7)) rfl rfl rfl (by decide) rfl fun h14 => ?_
            show wr (4 * n + 150) tb_M70 160 [(17, vi z7), (16, vi l16), (19, vi z7), (18, vi l18), (15, vi l15), (13, vl l13), (11, vl l11), (9, vl l9), (7, vl l7), (5, vl l5), (3, vl l3), (2, vi l2), (0, .ref 131), (1, vi l1)] [vl (s9.1 131 7), vl z12, vi l15] s9 _
            refine wr_n (pc2 := 162) (lv2 := [(17, vi z7), (16, vi l16), (19, vi z7), (18, vi l18), (15, vi l15), (13, vl l13), (11, vl l11), (9, vl l9), (7, vl l7), (5, vl l5), (3, vl l3), (2, vi l2), (0, .ref 131), (1, vi l1)]) (st2 := [vl l11, vl (s9.1 131 7), vl z12, vi l15]) 1 (fun _ _ => rfl) ?_
            refine wr_anyl (a := s9.1 131 7) (b := l11) rfl rfl fun z15 h16 _ => ?_
            show wr (4 * n + 150) tb_M70 163 [(17, vi z7), (16, vi l16), (19, vi z7), (18, vi l18), (15, vi l15), (13, vl l13), (11, vl l11), (9, vl l9), (7, vl l7), (5, vl l5), (3, vl l3), (2, vi l2), (0, .ref 131), (1, vi l1)] [vl z15, vl z12, vi l15] s9 _
            refine wr_anyl (a := z12) (b := z15) rfl rfl fun z17 h18 _ => ?_
            show wr (4 * n + 150) tb_M70 164 [(17, vi z7), (16, vi l16), (19, vi z7), (18, vi l18), (15, vi l15), (13, vl l13), (11, vl l11), (9, vl l9), (7, vl l7), (5, vl l5), (3, vl l3), (2, vi l2), (0, .ref 131), (1, vi l1)] [vl z17, vi l15] s9 _
            refine wr_n (pc2 := 165) (lv2 := [(17, vi z7), (16, vi l16), (19, vi z7), (18, vi l18), (15, vi l15), (13, vl l13), (11, vl l11), (9, vl l9), (7, vl l7), (5, vl l5), (3, vl l3), (2, vi l2), (0, .ref 131), (1, vi l1)]) (st2 := [.ref 131, vl z17, vi l15]) 1 (fun _ _ => rfl) ?_
            refine wr_get (v := vl (s9.1 131 9)) rfl rfl rfl (by decide) rfl fun h19 => ?_
            show wr (4 * n + 150) tb_M70 168 [(17, vi z7), (16, vi l16), (19, vi z7), (18, vi l18), (15, vi l15), (13, vl l13), (11, vl l11), (9, vl l9), (7, vl l7), (5, vl l5), (3, vl l3), (2, vi l2), (0, .ref 131), (1, vi l1)] [vl (s9.1 131 9), vl z17, vi l15] s9 _
            refine wr_n (pc2 := 170) (lv2 := [(17, vi z7), (16, vi l16), (19, vi z7), (18, vi l18), (15, vi l15), (13, vl l13), (11, vl l11), (9, vl l9), (7, vl l7), (5, vl l5), (3, vl l3), (2, vi l2), (0, .ref 131), (1, vi l1)]) (st2 := [vl l13, vl (s9.1 131 9), vl z17, vi l15]) 1 (fun _ _ => rfl) ?_
            refine wr_anyl (a := s9.1 131 9) (b := l13) rfl rfl fun z20 h21 _ => ?_
            show wr (4 * n + 150) tb_M70 171 [(17, vi z7), (16, vi l16), (19, vi z7), (18, vi l18), (15, vi l15), (13, vl l13), (11, vl l11), (9, vl l9), (7, vl l7), (5, vl l5), (3, vl l3), (2, vi l2), (0, .ref 131), (1, vi l1)] [vl z20, vl z17, vi l15] s9 _
            refine wr_anyl (a := z17) (b := z20) rfl rfl fun z22 h23 _ => ?_
            show wr (4 * n + 150) tb_M70 172 [(17, vi z7), (16, vi l16), (19, vi z7), (18, vi l18), (15, vi l15), (13, vl l13), (11, vl l11), (9, vl l9), (7, vl l7), (5, vl l5), (3, vl l3), (2, vi l2), (0, .ref 131), (1, vi l1)] [vl z22, vi l15] s9 _
            refine wr_n (pc2 := 173) (lv2 := [(17, vi z7), (16, vi l16), (19, vi z7), (18, vi l18), (15, vi l15), (13, vl l13), (11, vl l11), (9, vl l9), (7, vl l7), (5, vl l5), (3, vl l3), (2, vi l2), (0, .ref 131), (1, vi l1)]) (st2 := [vl 0, vl z22, vi l15]) 1 (fun _ _ => rfl) ?_
            refine wr_lcmp (a := z22) (b := 0) rfl h23 (by unfold i64; omega) fun z24 h25 => ?_
            show wr (4 * n + 150) tb_M70 174 [(17, vi z7), (16, vi l16), (19, vi z7), (18, vi l18), (15, vi l15), (13, vl l13), (11, vl l11), (9, vl l9), (7, vl l7), (5, vl l5), (3, vl l3), (2, vi l2), (0, .ref 131), (1, vi l1)] [vi z24, vi l15] s9 _
            by_cases h26 : z24 = 0
            · refine wr_if1t rfl rfl (by unfold i32; omega) h26 ?_
              refine wr_n (pc2 := 182) (lv2 := [(17, vi z7), (16, vi l16), (19, vi z7), (18, vi l18), (15, vi l15), (13, vl l13), (11, vl l11), (9, vl l9), (7, vl l7), (5, vl l5), (3, vl l3), (2, vi l2), (0, .ref 131), (1, vi l1)]) (st2 := [vi 0, vi l15]) 1 (fun _ _ => rfl) ?_
              refine wr_any2 rfl rfl fun z27 h28 => ?_
              unfold i32 at h28
              show wr (4 * n + 150) tb_M70 183 [(17, vi z7), (16, vi l16), (19, vi z7), (18, vi l18), (15, vi l15), (13, vl l13), (11, vl l11), (9, vl l9), (7, vl l7), (5, vl l5), (3, vl l3), (2, vi l2), (0, .ref 131), (1, vi l1)] [vi z27] s9 _
              refine wr_n (pc2 := 188) (lv2 := [(15, vi z27), (17, vi z7), (16, vi l16), (19, vi z7), (18, vi l18), (13, vl l13), (11, vl l11), (9, vl l9), (7, vl l7), (5, vl l5), (3, vl l3), (2, vi l2), (0, .ref 131), (1, vi l1)]) (st2 := [.ref 131, vl l9]) 3 (fun _ _ => rfl) ?_
              refine wr_get (v := vl (s9.1 131 7)) rfl rfl rfl (by decide) rfl fun h29 => ?_
              show wr (4 * n + 150) tb_M70 191 [(15, vi z27), (17, vi z7), (16, vi l16), (19, vi z7), (18, vi l18), (13, vl l13), (11, vl l11), (9, vl l9), (7, vl l7), (5, vl l5), (3, vl l3), (2, vi l2), (0, .ref 131), (1, vi l1)] [vl (s9.1 131 7), vl l9] s9 _
              refine wr_anyl (a := l9) (b := s9.1 131 7) rfl rfl fun z30 h31 _ => ?_
              show wr (4 * n + 150) tb_M70 192 [(15, vi z27), (17, vi z7), (16, vi l16), (19, vi z7), (18, vi l18), (13, vl l13), (11, vl l11), (9, vl l9), (7, vl l7), (5, vl l5), (3, vl l3), (2, vi l2), (0, .ref 131), (1, vi l1)] [vl z30] s9 _
              refine wr_n (pc2 := 197) (lv2 := [(9, vl z30), (15, vi z27), (17, vi z7), (16, vi l16), (19, vi z7), (18, vi l18), (13, vl l13), (11, vl l11), (7, vl l7), (5, vl l5), (3, vl l3), (2, vi l2), (0, .ref 131), (1, vi l1)]) (st2 := [.ref 131, vl l11]) 3 (fun _ _ => rfl) ?_
              refine wr_get (v := vl (s9.1 131 8)) rfl rfl rfl (by decide) rfl fun h32 => ?_
              show wr (4 * n + 150) tb_M70 200 [(9, vl z30), (15, vi z27), (17, vi z7), (16, vi l16), (19, vi z7), (18, vi l18), (13, vl l13), (11, vl l11), (7, vl l7), (5, vl l5), (3, vl l3), (2, vi l2), (0, .ref 131), (1, vi l1)] [vl (s9.1 131 8), vl l11] s9 _
              refine wr_anyl (a := l11) (b := s9.1 131 8) rfl rfl fun z33 h34 _ => ?_
              show wr (4 * n + 150) tb_M70 201 [(9, vl z30), (15, vi z27), (17, vi z7), (16, vi l16), (19, vi z7), (18, vi l18), (13, vl l13), (11, vl l11), (7, vl l7), (5, vl l5), (3, vl l3), (2, vi l2), (0, .ref 131), (1, vi l1)] [vl z33] s9 _
              refine wr_n (pc2 := 206) (lv2 := [(11, vl z33), (9, vl z30), (15, vi z27), (17, vi z7), (16, vi l16), (19, vi z7), (18, vi l18), (13, vl l13), (7, vl l7), (5, vl l5), (3, vl l3), (2, vi l2), (0, .ref 131), (1, vi l1)]) (st2 := [.ref 131, vl l13]) 3 (fun _ _ => rfl) ?_
              refine wr_get (v := vl (s9.1 131 9)) rfl rfl rfl (by decide) rfl fun h35 => ?_
              show wr (4 * n + 150) tb_M70 209 [(11, vl z33), (9, vl z30), (15, vi z27), (17, vi z7), (16, vi l16), (19, vi z7), (18, vi l18), (13, vl l13), (7, vl l7), (5, vl l5), (3, vl l3), (2, vi l2), (0, .ref 131), (1, vi l1)] [vl (s9.1 131 9), vl l13] s9 _
              refine wr_anyl (a := l13) (b := s9.1 131 9) rfl rfl fun z36 h37 _ => ?_
              show wr (4 * n + 150) tb_M70 210 [(11, vl z33), (9, vl z30), (15, vi z27), (17, vi z7), (16, vi l16), (19, vi z7), (18, vi l18), (13, vl l13), (7, vl l7), (5, vl l5), (3, vl l3), (2, vi l2), (0, .ref 131), (1, vi l1)] [vl z36] s9 _
              refine wr_n (pc2 := 212) (lv2 := [(13, vl z36), (11, vl z33), (9, vl z30), (15, vi z27), (17, vi z7), (16, vi l16), (19, vi z7), (18, vi l18), (7, vl l7), (5, vl l5), (3, vl l3), (2, vi l2), (0, .ref 131), (1, vi l1)]) (st2 := []) 1 (fun _ _ => rfl) ?_
              refine wr_inc (a := l18) rfl rfl ?_
              show wr (4 * n + 150) tb_M70 215 [(18, vi (l18 + 1)), (13, vl z36), (11, vl z33), (9, vl z30), (15, vi z27), (17, vi z7), (16, vi l16), (19, vi z7), (7, vl l7), (5, vl l5), (3, vl l3), (2, vi l2), (0, .ref 131), (1, vi l1)] [] s9 _
              refine wr_n (pc2 := 53) (lv2 := [(18, vi (l18 + 1)), (13, vl z36), (11, vl z33), (9, vl z30), (15, vi z27), (17, vi z7), (16, vi l16), (19, vi z7), (7, vl l7), (5, vl l5), (3, vl l3), (2, vi l2), (0, .ref 131), (1, vi l1)]) (st2 := []) 1 (fun _ _ => rfl) ?_
              exact k_branches_53v2 hC hSt _ (l18 + 1) z36 z33 z30 z27 z7 l16 z7 l7 l5 l3 l2 l1 s9 rfl hK9 hq9 hX9 hC9 (by omega) h37 h34 h31 (by omega) (by omega) (by omega) (by omega) hl7 hl5 hl3 (by omega) (by omega) (by omega) 
            · refine wr_if1f rfl rfl (by unfold i32; omega) h26 ?_
              refine wr_n (pc2 := 182) (lv2 := [(17, vi z7), (16, vi l16), (19, vi z7), (18, vi l18), (15, vi l15), (13, vl l13), (11, vl l11), (9, vl l9), (7, vl l7), (5, vl l5), (3, vl l3), (2, vi l2), (0, .ref 131), (1, vi l1)]) (st2 := [vi 1, vi l15]) 2 (fun _ _ => rfl) ?_
              refine wr_any2 rfl rfl fun z38 h39 => ?_
              unfold i32 at h39
              show wr (4 * n + 150) tb_M70 183 [(17, vi z7), (16, vi l16), (19, vi z7), (18, vi l18), (15, vi l15), (13, vl l13), (11, vl l11), (9, vl l9), (7, vl l7), (5, vl l5), (3, vl l3), (2, vi l2), (0, .ref 131), (1, vi l1)] [vi z38] s9 _
              refine wr_n (pc2 := 188) (lv2 := [(15, vi z38), (17, vi z7), (16, vi l16), (19, vi z7), (18, vi l18), (13, vl l13), (11, vl l11), (9, vl l9), (7, vl l7), (5, vl l5), (3, vl l3), (2, vi l2), (0, .ref 131), (1, vi l1)]) (st2 := [.ref 131, vl l9]) 3 (fun _ _ => rfl) ?_
              refine wr_get (v := vl (s9.1 131 7)) rfl rfl rfl (by decide) rfl fun h40 => ?_
              show wr (4 * n + 150) tb_M70 191 [(15, vi z38), (17, vi z7), (16, vi l16), (19, vi z7), (18, vi l18), (13, vl l13), (11, vl l11), (9, vl l9), (7, vl l7), (5, vl l5), (3, vl l3), (2, vi l2), (0, .ref 131), (1, vi l1)] [vl (s9.1 131 7), vl l9] s9 _
              refine wr_anyl (a := l9) (b := s9.1 131 7) rfl rfl fun z41 h42 _ => ?_
              show wr (4 * n + 150) tb_M70 192 [(15, vi z38), (17, vi z7), (16, vi l16), (19, vi z7), (18, vi l18), (13, vl l13), (11, vl l11), (9, vl l9), (7, vl l7), (5, vl l5), (3, vl l3), (2, vi l2), (0, .ref 131), (1, vi l1)] [vl z41] s9 _
              refine wr_n (pc2 := 197) (lv2 := [(9, vl z41), (15, vi z38), (17, vi z7), (16, vi l16), (19, vi z7), (18, vi l18), (13, vl l13), (11, vl l11), (7, vl l7), (5, vl l5), (3, vl l3), (2, vi l2), (0, .ref 131), (1, vi l1)]) (st2 := [.ref 131, vl l11]) 3 (fun _ _ => rfl) ?_
              refine wr_get (v := vl (s9.1 131 8)) rfl rfl rfl (by decide) rfl fun h43 => ?_
              show wr (4 * n + 150) tb_M70 200 [(9, vl z41), (15, vi z38), (17, vi z7), (16, vi l16), (19, vi z7), (18, vi l18), (13, vl l13), (11, vl l11), (7, vl l7), (5, vl l5), (3, vl l3), (2, vi l2), (0, .ref 131), (1, vi l1)] [vl (s9.1 131 8), vl l11] s9 _
              refine wr_anyl (a := l11) (b := s9.1 131 8) rfl rfl fun z44 h45 _ => ?_
              show wr (4 * n + 150) tb_M70 201 [(9, vl z41), (15, vi z38), (17, vi z7), (16, vi l16), (19, vi z7), (18, vi l18), (13, vl l13), (11, vl l11), (7, vl l7), (5, vl l5), (3, vl l3), (2, vi l2), (0, .ref 131), (1, vi l1)] [vl z44] s9 _
              refine wr_n (pc2 := 206) (lv2 := [(11, vl z44), (9, vl z41), (15, vi z38), (17, vi z7), (16, vi l16), (19, vi z7), (18, vi l18), (13, vl l13), (7, vl l7), (5, vl l5), (3, vl l3), (2, vi l2), (0, .ref 131), (1, vi l1)]) (st2 := [.ref 131, vl l13]) 3 (fun _ _ => rfl) ?_
              refine wr_get (v := vl (s9.1 131 9)) rfl rfl rfl (by decide) rfl fun h46 => ?_
              show wr (4 * n + 150) tb_M70 209 [(11, vl z44), (9, vl z41), (15, vi z38), (17, vi z7), (16, vi l16), (19, vi z7), (18, vi l18), (13, vl l13), (7, vl l7), (5, vl l5), (3, vl l3), (2, vi l2), (0, .ref 131), (1, vi l1)] [vl (s9.1 131 9), vl l13] s9 _
              refine wr_anyl (a := l13) (b := s9.1 131 9) rfl rfl fun z47 h48 _ => ?_
              show wr (4 * n + 150) tb_M70 210 [(11, vl z44), (9, vl z41), (15, vi z38), (17, vi z7), (16, vi l16), (19, vi z7), (18, vi l18), (13, vl l13), (7, vl l7), (5, vl l5), (3, vl l3), (2, vi l2), (0, .ref 131), (1, vi l1)] [vl z47] s9 _
              refine wr_n (pc2 := 212) (lv2 := [(13, vl z47), (11, vl z44), (9, vl z41), (15, vi z38), (17, vi z7), (16, vi l16), (19, vi z7), (18, vi l18), (7, vl l7), (5, vl l5), (3, vl l3), (2, vi l2), (0, .ref 131), (1, vi l1)]) (st2 := []) 1 (fun _ _ => rfl) ?_
              refine wr_inc (a := l18) rfl rfl ?_
              show wr (4 * n + 150) tb_M70 215 [(18, vi (l18 + 1)), (13, vl z47), (11, vl z44), (9, vl z41), (15, vi z38), (17, vi z7), (16, vi l16), (19, vi z7), (7, vl l7), (5, vl l5), (3, vl l3), (2, vi l2), (0, .ref 131), (1, vi l1)] [] s9 _
              refine wr_n (pc2 := 53) (lv2 := [(18, vi (l18 + 1)), (13, vl z47), (11, vl z44), (9, vl z41), (15, vi z38), (17, vi z7), (16, vi l16), (19, vi z7), (7, vl l7), (5, vl l5), (3, vl l3), (2, vi l2), (0, .ref 131), (1, vi l1)]) (st2 := []) 1 (fun _ _ => rfl) ?_
              exact k_branches_53v2 hC hSt _ (l18 + 1) z47 z44 z41 z38 z7 l16 z7 l7 l5 l3 l2 l1 s9 rfl hK9 hq9 hX9 hC9 (by omega) h48 h45 h42 (by omega) (by omega) (by omega) (by omega) hl7 hl5 hl3 (by omega) (by omega) (by omega) 
          · refine wr_if1f rfl rfl (by unfold i32; omega) h10 ?_
            refine wr_n (pc2 := 150) (lv2 := [(17, vi z7), (16, vi z7), (19, vi z7), (18, vi l18), (15, vi l15), (13, vl l13), (11, vl l11), (9, vl l9), (7, vl l7), (5, vl l5), (3, vl l3), (2, vi l2), (0, .ref 131), (1, vi l1)]) (st2 := [.ref 131, vi l15]) 7 (fun _ _ => rfl) ?_
            refine wr_get (v := vl (s9.1 131 8)) rfl rfl rfl (by decide) rfl fun h49 => ?_
            show wr (4 * n + 150) tb_M70 153 [(17, vi z7), (16, vi z7), (19, vi z7), (18, vi l18), (15, vi l15), (13, vl l13), (11, vl l11), (9, vl l9), (7, vl l7), (5, vl l5), (3, vl l3), (2, vi l2), (0, .ref 131), (1, vi l1)] [vl (s9.1 131 8), vi l15] s9 _
            refine wr_n (pc2 := 155) (lv2 := [(17, vi z7), (16, vi z7), (19, vi z7), (18, vi l18), (15, vi l15), (13, vl l13), (11, vl l11), (9, vl l9), (7, vl l7), (5, vl l5), (3, vl l3), (2, vi l2), (0, .ref 131), (1, vi l1)]) (st2 := [vl l9, vl (s9.1 131 8), vi l15]) 1 (fun _ _ => rfl) ?_
            refine wr_anyl (a := s9.1 131 8) (b := l9) rfl rfl fun z50 h51 _ => ?_
            show wr (4 * n + 150) tb_M70 156 [(17, vi z7), (16, vi z7), (19, vi z7), (18, vi l18), (15, vi l15), (13, vl l13), (11, vl l11), (9, vl l9), (7, vl l7), (5, vl l5), (3, vl l3), (2, vi l2), (0, .ref 131), (1, vi l1)] [vl z50, vi l15] s9 _
            refine wr_n (pc2 := 157) (lv2 := [(17, vi z7), (16, vi z7), (19, vi z7), (18, vi l18), (15, vi l15), (13, vl l13), (11, vl l11), (9, vl l9), (7, vl l7), (5, vl l5), (3, vl l3), (2, vi l2), (0, .ref 131), (1, vi l1)]) (st2 := [.ref 131, vl z50, vi l15]) 1 (fun _ _ => rfl) ?_
            refine wr_get (v := vl (s9.1 131 7)) rfl rfl rfl (by decide) rfl fun h52 => ?_
            show wr (4 * n + 150) tb_M70 160 [(17, vi z7), (16, vi z7), (19, vi z7), (18, vi l18), (15, vi l15), (13, vl l13), (11, vl l11), (9, vl l9), (7, vl l7), (5, vl l5), (3, vl l3), (2, vi l2), (0, .ref 131), (1, vi l1)] [vl (s9.1 131 7), vl z50, vi l15] s9 _
            refine wr_n (pc2 := 162) (lv2 := [(17, vi z7), (16, vi z7), (19, vi z7), (18, vi l18), (15, vi l15), (13, vl l13), (11, vl l11), (9, vl l9), (7, vl l7), (5, vl l5), (3, vl l3), (2, vi l2), (0, .ref 131), (1, vi l1)]) (st2 := [vl l11, vl (s9.1 131 7), vl z50, vi l15]) 1 (fun _ _ => rfl) ?_
            refine wr_anyl (a := s9.1 131 7) (b := l11) rfl rfl fun z53 h54 _ => ?_
            show wr (4 * n + 150) tb_M70 163 [(17, vi z7), (16, vi z7), (19, vi z7), (18, vi l18), (15, vi l15), (13, vl l13), (11, vl l11), (9, vl l9), (7, vl l7), (5, vl l5), (3, vl l3), (2, vi l2), (0, .ref 131), (1, vi l1)] [vl z53, vl z50, vi l15] s9 _
            refine wr_anyl (a := z50) (b := z53) rfl rfl fun z55 h56 _ => ?_
            show wr (4 * n + 150) tb_M70 164 [(17, vi z7), (16, vi z7), (19, vi z7), (18, vi l18), (15, vi l15), (13, vl l13), (11, vl l11), (9, vl l9), (7, vl l7), (5, vl l5), (3, vl l3), (2, vi l2), (0, .ref 131), (1, vi l1)] [vl z55, vi l15] s9 _
            refine wr_n (pc2 := 165) (lv2 := [(17, vi z7), (16, vi z7), (19, vi z7), (18, vi l18), (15, vi l15), (13, vl l13), (11, vl l11), (9, vl l9), (7, vl l7), (5, vl l5), (3, vl l3), (2, vi l2), (0, .ref 131), (1, vi l1)]) (st2 := [.ref 131, vl z55, vi l15]) 1 (fun _ _ => rfl) ?_
            refine wr_get (v := vl (s9.1 131 9)) rfl rfl rfl (by decide) rfl fun h57 => ?_
            show wr (4 * n + 150) tb_M70 168 [(17, vi z7), (16, vi z7), (19, vi z7), (18, vi l18), (15, vi l15), (13, vl l13), (11, vl l11), (9, vl l9), (7, vl l7), (5, vl l5), (3, vl l3), (2, vi l2), (0, .ref 131), (1, vi l1)] [vl (s9.1 131 9), vl z55, vi l15] s9 _
            refine wr_n (pc2 := 170) (lv2 := [(17, vi z7), (16, vi z7), (19, vi z7), (18, vi l18), (15, vi l15), (13, vl l13), (11, vl l11), (9, vl l9), (7, vl l7), (5, vl l5), (3, vl l3), (2, vi l2), (0, .ref 131), (1, vi l1)]) (st2 := [vl l13, vl (s9.1 131 9), vl z55, vi l15]) 1 (fun _ _ => rfl) ?_
            refine wr_anyl (a := s9.1 131 9) (b := l13) rfl rfl fun z58 h59 _ => ?_
            show wr (4 * n + 150) tb_M70 171 [(17, vi z7), (16, vi z7), (19, vi z7), (18, vi l18), (15, vi l15), (13, vl l13), (11, vl l11), (9, vl l9), (7, vl l7), (5, vl l5), (3, vl l3), (2, vi l2), (0, .ref 131), (1, vi l1)] [vl z58, vl z55, vi l15] s9 _
            refine wr_anyl (a := z55) (b := z58) rfl rfl fun z60 h61 _ => ?_
            show wr (4 * n + 150) tb_M70 172 [(17, vi z7), (16, vi z7), (19, vi z7), (18, vi l18), (15, vi l15), (13, vl l13), (11, vl l11), (9, vl l9), (7, vl l7), (5, vl l5), (3, vl l3), (2, vi l2), (0, .ref 131), (1, vi l1)] [vl z60, vi l15] s9 _
            refine wr_n (pc2 := 173) (lv2 := [(17, vi z7), (16, vi z7), (19, vi z7), (18, vi l18), (15, vi l15), (13, vl l13), (11, vl l11), (9, vl l9), (7, vl l7), (5, vl l5), (3, vl l3), (2, vi l2), (0, .ref 131), (1, vi l1)]) (st2 := [vl 0, vl z60, vi l15]) 1 (fun _ _ => rfl) ?_
            refine wr_lcmp (a := z60) (b := 0) rfl h61 (by unfold i64; omega) fun z62 h63 => ?_
            show wr (4 * n + 150) tb_M70 174 [(17, vi z7), (16, vi z7), (19, vi z7), (18, vi l18), (15, vi l15), (13, vl l13), (11, vl l11), (9, vl l9), (7, vl l7), (5, vl l5), (3, vl l3), (2, vi l2), (0, .ref 131), (1, vi l1)] [vi z62, vi l15] s9 _
            by_cases h64 : z62 = 0
            · refine wr_if1t rfl rfl (by unfold i32; omega) h64 ?_
              refine wr_n (pc2 := 182) (lv2 := [(17, vi z7), (16, vi z7), (19, vi z7), (18, vi l18), (15, vi l15), (13, vl l13), (11, vl l11), (9, vl l9), (7, vl l7), (5, vl l5), (3, vl l3), (2, vi l2), (0, .ref 131), (1, vi l1)]) (st2 := [vi 0, vi l15]) 1 (fun _ _ => rfl) ?_
              refine wr_any2 rfl rfl fun z65 h66 => ?_
              unfold i32 at h66
              show wr (4 * n + 150) tb_M70 183 [(17, vi z7), (16, vi z7), (19, vi z7), (18, vi l18), (15, vi l15), (13, vl l13), (11, vl l11), (9, vl l9), (7, vl l7), (5, vl l5), (3, vl l3), (2, vi l2), (0, .ref 131), (1, vi l1)] [vi z65] s9 _
              refine wr_n (pc2 := 188) (lv2 := [(15, vi z65), (17, vi z7), (16, vi z7), (19, vi z7), (18, vi l18), (13, vl l13), (11, vl l11), (9, vl l9), (7, vl l7), (5, vl l5), (3, vl l3), (2, vi l2), (0, .ref 131), (1, vi l1)]) (st2 := [.ref 131, vl l9]) 3 (fun _ _ => rfl) ?_
              refine wr_get (v := vl (s9.1 131 7)) rfl rfl rfl (by decide) rfl fun h67 => ?_
              show wr (4 * n + 150) tb_M70 191 [(15, vi z65), (17, vi z7), (16, vi z7), (19, vi z7), (18, vi l18), (13, vl l13), (11, vl l11), (9, vl l9), (7, vl l7), (5, vl l5), (3, vl l3), (2, vi l2), (0, .ref 131), (1, vi l1)] [vl (s9.1 131 7), vl l9] s9 _
              refine wr_anyl (a := l9) (b := s9.1 131 7) rfl rfl fun z68 h69 _ => ?_
              show wr (4 * n + 150) tb_M70 192 [(15, vi z65), (17, vi z7), (16, vi z7), (19, vi z7), (18, vi l18), (13, vl l13), (11, vl l11), (9, vl l9), (7, vl l7), (5, vl l5), (3, vl l3), (2, vi l2), (0, .ref 131), (1, vi l1)] [vl z68] s9 _
              refine wr_n (pc2 := 197) (lv2 := [(9, vl z68), (15, vi z65), (17, vi z7), (16, vi z7), (19, vi z7), (18, vi l18), (13, vl l13), (11, vl l11), (7, vl l7), (5, vl l5), (3, vl l3), (2, vi l2), (0, .ref 131), (1, vi l1)]) (st2 := [.ref 131, vl l11]) 3 (fun _ _ => rfl) ?_
              refine wr_get (v := vl (s9.1 131 8)) rfl rfl rfl (by decide) rfl fun h70 => ?_
              show wr (4 * n + 150) tb_M70 200 [(9, vl z68), (15, vi z65), (17, vi z7), (16, vi z7), (19, vi z7), (18, vi l18), (13, vl l13), (11, vl l11), (7, vl l7), (5, vl l5), (3, vl l3), (2, vi l2), (0, .ref 131), (1, vi l1)] [vl (s9.1 131 8), vl l11] s9 _
              refine wr_anyl (a := l11) (b := s9.1 131 8) rfl rfl fun z71 h72 _ => ?_
              show wr (4 * n + 150) tb_M70 201 [(9, vl z68), (15, vi z65), (17, vi z7), (16, vi z7), (19, vi z7), (18, vi l18), (13, vl l13), (11, vl l11), (7, vl l7), (5, vl l5), (3, vl l3), (2, vi l2), (0, .ref 131), (1, vi l1)] [vl z71] s9 _
              refine wr_n (pc2 := 206) (lv2 := [(11, vl z71), (9, vl z68), (15, vi z65), (17, vi z7), (16, vi z7), (19, vi z7), (18, vi l18), (13, vl l13), (7, vl l7), (5, vl l5), (3, vl l3), (2, vi l2), (0, .ref 131), (1, vi l1)]) (st2 := [.ref 131, vl l13]) 3 (fun _ _ => rfl) ?_
              refine wr_get (v := vl (s9.1 131 9)) rfl rfl rfl (by decide) rfl fun h73 => ?_
              show wr (4 * n + 150) tb_M70 209 [(11, vl z71), (9, vl z68), (15, vi z65), (17, vi z7), (16, vi z7), (19, vi z7), (18, vi l18), (13, vl l13), (7, vl l7), (5, vl l5), (3, vl l3), (2, vi l2), (0, .ref 131), (1, vi l1)] [vl (s9.1 131 9), vl l13] s9 _
              refine wr_anyl (a := l13) (b := s9.1 131 9) rfl rfl fun z74 h75 _ => ?_
              show wr (4 * n + 150) tb_M70 210 [(11, vl z71), (9, vl z68), (15, vi z65), (17, vi z7), (16, vi z7), (19, vi z7), (18, vi l18), (13, vl l13), (7, vl l7), (5, vl l5), (3, vl l3), (2, vi l2), (0, .ref 131), (1, vi l1)] [vl z74] s9 _
              refine wr_n (pc2 := 212) (lv2 := [(13, vl z74), (11, vl z71), (9, vl z68), (15, vi z65), (17, vi z7), (16, vi z7), (19, vi z7), (18, vi l18), (7, vl l7), (5, vl l5), (3, vl l3), (2, vi l2), (0, .ref 131), (1, vi l1)]) (st2 := []) 1 (fun _ _ => rfl) ?_
              refine wr_inc (a := l18) rfl rfl ?_
              show wr (4 * n + 150) tb_M70 215 [(18, vi (l18 + 1)), (13, vl z74), (11, vl z71), (9, vl z68), (15, vi z65), (17, vi z7), (16, vi z7), (19, vi z7), (7, vl l7), (5, vl l5), (3, vl l3), (2, vi l2), (0, .ref 131), (1, vi l1)] [] s9 _
              refine wr_n (pc2 := 53) (lv2 := [(18, vi (l18 + 1)), (13, vl z74), (11, vl z71), (9, vl z68), (15, vi z65), (17, vi z7), (16, vi z7), (19, vi z7), (7, vl l7), (5, vl l5), (3, vl l3), (2, vi l2), (0, .ref 131), (1, vi l1)]) (st2 := []) 1 (fun _ _ => rfl) ?_
              exact k_branches_53v2 hC hSt _ (l18 + 1) z74 z71 z68 z65 z7 z7 z7 l7 l5 l3 l2 l1 s9 rfl hK9 hq9 hX9 hC9 (by omega) h75 h72 h69 (by omega) (by omega) (by omega) (by omega) hl7 hl5 hl3 (by omega) (by omega) (by omega) 
            · refine wr_if1f rfl rfl (by unfold i32; omega) h64 ?_
              refine wr_n (pc2 := 182) (lv2 := [(17, vi z7), (16, vi z7), (19, vi z7), (18, vi l18), (15, vi l15), (13, vl l13), (11, vl l11), (9, vl l9), (7, vl l7), (5, vl l5), (3, vl l3), (2, vi l2), (0, .ref 131), (1, vi l1)]) (st2 := [vi 1, vi l15]) 2 (fun _ _ => rfl) ?_
              refine wr_any2 rfl rfl fun z76 h77 => ?_
              unfold i32 at h77
              show wr (4 * n + 150) tb_M70 183 [(17, vi z7), (16, vi z7), (19, vi z7), (18, vi l18), (15, vi l15), (13, vl l13), (11, vl l11), (9, vl l9), (7, vl l7), (5, vl l5), (3, vl l3), (2, vi l2), (0, .ref 131), (1, vi l1)] [vi z76] s9 _
              refine wr_n (pc2 := 188) (lv2 := [(15, vi z76), (17, vi z7), (16, vi z7), (19, vi z7), (18, vi l18), (13, vl l13), (11, vl l11), (9, vl l9), (7, vl l7), (5, vl l5), (3, vl l3), (2, vi l2), (0, .ref 131), (1, vi l1)]) (st2 := [.ref 131, vl l9]) 3 (fun _ _ => rfl) ?_
              refine wr_get (v := vl (s9.1 131 7)) rfl rfl rfl (by decide) rfl fun h78 => ?_
              show wr (4 * n + 150) tb_M70 191 [(15, vi z76), (17, vi z7), (16, vi z7), (19, vi z7), (18, vi l18), (13, vl l13), (11, vl l11), (9, vl l9), (7, vl l7), (5, vl l5), (3, vl l3), (2, vi l2), (0, .ref 131), (1, vi l1)] [vl (s9.1 131 7), vl l9] s9 _
              refine wr_anyl (a := l9) (b := s9.1 131 7) rfl rfl fun z79 h80 _ => ?_
              show wr (4 * n + 150) tb_M70 192 [(15, vi z76), (17, vi z7), (16, vi z7), (19, vi z7), (18, vi l18), (13, vl l13), (11, vl l11), (9, vl l9), (7, vl l7), (5, vl l5), (3, vl l3), (2, vi l2), (0, .ref 131), (1, vi l1)] [vl z79] s9 _
              refine wr_n (pc2 := 197) (lv2 := [(9, vl z79), (15, vi z76), (17, vi z7), (16, vi z7), (19, vi z7), (18, vi l18), (13, vl l13), (11, vl l11), (7, vl l7), (5, vl l5), (3, vl l3), (2, vi l2), (0, .ref 131), (1, vi l1)]) (st2 := [.ref 131, vl l11]) 3 (fun _ _ => rfl) ?_
              refine wr_get (v := vl (s9.1 131 8)) rfl rfl rfl (by decide) rfl fun h81 => ?_
              show wr (4 * n + 150) tb_M70 200 [(9, vl z79), (15, vi z76), (17, vi z7), (16, vi z7), (19, vi z7), (18, vi l18), (13, vl l13), (11, vl l11), (7, vl l7), (5, vl l5), (3, vl l3), (2, vi l2), (0, .ref 131), (1, vi l1)] [vl (s9.1 131 8), vl l11] s9 _
              refine wr_anyl (a := l11) (b := s9.1 131 8) rfl rfl fun z82 h83 _ => ?_
              show wr (4 * n + 150) tb_M70 201 [(9, vl z79), (15, vi z76), (17, vi z7), (16, vi z7), (19, vi z7), (18, vi l18), (13, vl l13), (11, vl l11), (7, vl l7), (5, vl l5), (3, vl l3), (2, vi l2), (0, .ref 131), (1, vi l1)] [vl z82] s9 _
              refine wr_n (pc2 := 206) (lv2 := [(11, vl z82), (9, vl z79), (15, vi z76), (17, vi z7), (16, vi z7), (19, vi z7), (18, vi l18), (13, vl l13), (7, vl l7), (5, vl l5), (3, vl l3), (2, vi l2), (0, .ref 131), (1, vi l1)]) (st2 := [.ref 131, vl l13]) 3 (fun _ _ => rfl) ?_
              refine wr_get (v := vl (s9.1 131 9)) rfl rfl rfl (by decide) rfl fun h84 => ?_
              show wr (4 * n + 150) tb_M70 209 [(11, vl z82), (9, vl z79), (15, vi z76), (17, vi z7), (16, vi z7), (19, vi z7), (18, vi l18), (13, vl l13), (7, vl l7), (5, vl l5), (3, vl l3), (2, vi l2), (0, .ref 131), (1, vi l1)] [vl (s9.1 131 9), vl l13] s9 _
              refine wr_anyl (a := l13) (b := s9.1 131 9) rfl rfl fun z85 h86 _ => ?_
              show wr (4 * n + 150) tb_M70 210 [(11, vl z82), (9, vl z79), (15, vi z76), (17, vi z7), (16, vi z7), (19, vi z7), (18, vi l18), (13, vl l13), (7, vl l7), (5, vl l5), (3, vl l3), (2, vi l2), (0, .ref 131), (1, vi l1)] [vl z85] s9 _
              refine wr_n (pc2 := 212) (lv2 := [(13, vl z85), (11, vl z82), (9, vl z79), (15, vi z76), (17, vi z7), (16, vi z7), (19, vi z7), (18, vi l18), (7, vl l7), (5, vl l5), (3, vl l3), (2, vi l2), (0, .ref 131), (1, vi l1)]) (st2 := []) 1 (fun _ _ => rfl) ?_
              refine wr_inc (a := l18) rfl rfl ?_
              show wr (4 * n + 150) tb_M70 215 [(18, vi (l18 + 1)), (13, vl z85), (11, vl z82), (9, vl z79), (15, vi z76), (17, vi z7), (16, vi z7), (19, vi z7), (7, vl l7), (5, vl l5), (3, vl l3), (2, vi l2), (0, .ref 131), (1, vi l1)] [] s9 _
              refine wr_n (pc2 := 53) (lv2 := [(18, vi (l18 + 1)), (13, vl z85), (11, vl z82), (9, vl z79), (15, vi z76), (17, vi z7), (16, vi z7), (19, vi z7), (7, vl l7), (5, vl l5), (3, vl l3), (2, vi l2), (0, .ref 131), (1, vi l1)]) (st2 := []) 1 (fun _ _ => rfl) ?_
              exact k_branches_53v2 hC hSt _ (l18 + 1) z85 z82 z79 z76 z7 z7 z7 l7 l5 l3 l2 l1 s9 rfl hK9 hq9 hX9 hC9 (by omega) h86 h83 h80 (by omega) (by omega) (by omega) (by omega) hl7 hl5 hl3 (by omega) (by omega) (by omega) 
        · refine .inr ⟨rfl, ?_⟩
          exact ⟨hK7, (FX_tr (FX_up (FX_up (FX_up hX3 (by unfold fx; omega)) (by unfold fx; omega)) (by unfold fx; omega)) hY7), .inr ⟨rfl, TH hC3 hc7⟩⟩
      · refine .inr ⟨rfl, ?_⟩
        exact ⟨hK3, (FX_tr hX hY3), .inr ⟨rfl, TH hc hc3⟩⟩
    · refine wr_if1f rfl rfl (by unfold i32; omega) h2 ?_
      refine wr_n (pc2 := 91) (lv2 := [(18, vi l18), (17, vi l17), (16, vi l16), (15, vi l15), (13, vl l13), (11, vl l11), (9, vl l9), (7, vl l7), (5, vl l5), (3, vl l3), (2, vi l2), (0, .ref 131), (1, vi l1)]) (st2 := [vi 123, .ref 131]) 2 (fun _ _ => rfl) ?_
      refine wr_call1T (args := [vi 123]) (rest := []) rfl rfl rfl rfl (Nat.le_of_ble_eq_true rfl) rfl (cr_mono (k_expect (d := 4 * n + 148) (x := 123) s hK (by omega)) ?_)
      rintro s87 out ⟨hK87, hY87, ⟨hc87, rfl⟩ | ⟨rfl, hc87⟩⟩
      · refine .inl ⟨_, rfl, ?_⟩
        have hX87 : FX s0.1 s87.1 := FX_tr hX hY87
        have hC87 : s87.2 = s0.2 := hc87.trans hc
        have hq87 : s87.1 131 1 = (C : Int) := (hY87 131 1 (by unfold fx; omega)).trans hq
        show wr (4 * n + 150) tb_M70 94 [(18, vi l18), (17, vi l17), (16, vi l16), (15, vi l15), (13, vl l13), (11, vl l11), (9, vl l9), (7, vl l7), (5, vl l5), (3, vl l3), (2, vi l2), (0, .ref 131), (1, vi l1)] [] s87 _
        refine wr_n (pc2 := 96) (lv2 := [(18, vi l18), (17, vi l17), (16, vi l16), (15, vi l15), (13, vl l13), (11, vl l11), (9, vl l9), (7, vl l7), (5, vl l5), (3, vl l3), (2, vi l2), (0, .ref 131), (1, vi l1)]) (st2 := [vl 0, .ref 131]) 2 (fun _ _ => rfl) ?_
        refine wr_put (z := 0) rfl rfl rfl rfl (by decide) rfl (by decide) rfl (by first | exact ⟨by omega, by omega⟩ | assumption) (fit_l _) ?_
        show wr (4 * n + 150) tb_M70 99 [(18, vi l18), (17, vi l17), (16, vi l16), (15, vi l15), (13, vl l13), (11, vl l11), (9, vl l9), (7, vl l7), (5, vl l5), (3, vl l3), (2, vi l2), (0, .ref 131), (1, vi l1)] [] (up2 s87.1 131 7 0, s87.2) _
        have hK88 : KI (up2 s87.1 131 7 0) := (KI_up hK87 rfl (kb_no rfl))
        refine wr_n (pc2 := 101) (lv2 := [(18, vi l18), (17, vi l17), (16, vi l16), (15, vi l15), (13, vl l13), (11, vl l11), (9, vl l9), (7, vl l7), (5, vl l5), (3, vl l3), (2, vi l2), (0, .ref 131), (1, vi l1)]) (st2 := [vl 0, .ref 131]) 2 (fun _ _ => rfl) ?_
        refine wr_put (z := 0) rfl rfl rfl rfl (by decide) rfl (by decide) rfl (by first | exact ⟨by omega, by omega⟩ | assumption) (fit_l _) ?_
        show wr (4 * n + 150) tb_M70 104 [(18, vi l18), (17, vi l17), (16, vi l16), (15, vi l15), (13, vl l13), (11, vl l11), (9, vl l9), (7, vl l7), (5, vl l5), (3, vl l3), (2, vi l2), (0, .ref 131), (1, vi l1)] [] (up2 (up2 s87.1 131 7 0) 131 8 0, s87.2) _
        have hK89 : KI (up2 (up2 s87.1 131 7 0) 131 8 0) := (KI_up (KI_up hK87 rfl (kb_no rfl)) rfl (kb_no rfl))
        refine wr_n (pc2 := 106) (lv2 := [(18, vi l18), (17, vi l17), (16, vi l16), (15, vi l15), (13, vl l13), (11, vl l11), (9, vl l9), (7, vl l7), (5, vl l5), (3, vl l3), (2, vi l2), (0, .ref 131), (1, vi l1)]) (st2 := [vl 0, .ref 131]) 2 (fun _ _ => rfl) ?_
        refine wr_put (z := 0) rfl rfl rfl rfl (by decide) rfl (by decide) rfl (by first | exact ⟨by omega, by omega⟩ | assumption) (fit_l _) ?_
        show wr (4 * n + 150) tb_M70 109 [(18, vi l18), (17, vi l17), (16, vi l16), (15, vi l15), (13, vl l13), (11, vl l11), (9, vl l9), (7, vl l7), (5, vl l5), (3, vl l3), (2, vi l2), (0, .ref 131), (1, vi l1)] [] (up2 (up2 (up2 s87.1 131 7 0) 131 8 0) 131 9 0, s87.2) _
        have hK90 : KI (up2 (up2 (up2 s87.1 131 7 0) 131 8 0) 131 9 0) := (KI_up (KI_up (KI_up hK87 rfl (kb_no rfl)) rfl (kb_no rfl)) rfl (kb_no rfl))
        refine wr_n (pc2 := 112) (lv2 := [(18, vi l18), (17, vi l17), (16, vi l16), (15, vi l15), (13, vl l13), (11, vl l11), (9, vl l9), (7, vl l7), (5, vl l5), (3, vl l3), (2, vi l2), (0, .ref 131), (1, vi l1)]) (st2 := [vi 1, vi l1, .ref 131]) 3 (fun _ _ => rfl) ?_
        refine wr_add (a := l1) (b := 1) rfl ?_
        show wr (4 * n + 150) tb_M70 113 [(18, vi l18), (17, vi l17), (16, vi l16), (15, vi l15), (13, vl l13), (11, vl l11), (9, vl l9), (7, vl l7), (5, vl l5), (3, vl l3), (2, vi l2), (0, .ref 131), (1, vi l1)] [vi (l1 + 1), .ref 131] (up2 (up2 (up2 s87.1 131 7 0) 131 8 0) 131 9 0, s87.2) _
        refine wr_call1T (args := [vi (l1 + 1)]) (rest := []) rfl rfl rfl rfl (Nat.le_of_ble_eq_true rfl) rfl (cr_mono (hSt C (up2 (up2 (up2 s87.1 131 7 0) 131 8 0) 131 9 0, s87.2) (l1 + 1) hC hK90 (show (up2 (up2 (up2 s87.1 131 7 0) 131 8 0) 131 9 0) 131 1 = ((C : Nat) : Int) from ((if_neg (by omega)).trans ((if_neg (by omega)).trans ((if_neg (by omega)).trans hq87)))) (by omega)) ?_)
        rintro s91 out ⟨hK91, hY91, ⟨z91, hc91, rfl, hz91, hp91⟩ | ⟨rfl, hc91⟩⟩
        · refine .inl ⟨_, rfl, ?_⟩
          have hX91 : FX s0.1 s91.1 := FX_tr (FX_up (FX_up (FX_up hX87 (by unfold fx; omega)) (by unfold fx; omega)) (by unfold fx; omega)) hY91
          have hC91 : s91.2 = s0.2 := hc91.trans hC87
          have hq91 : s91.1 131 1 = (C : Int) := (hY91 131 1 (by unfold fx; omega)).trans (show (up2 (up2 (up2 s87.1 131 7 0) 131 8 0) 131 9 0) 131 1 = ((C : Nat) : Int) from ((if_neg (by omega)).trans ((if_neg (by omega)).trans ((if_neg (by omega)).trans hq87))))
          unfold i32 at hz91
          clear hp91
          show wr (4 * n + 150) tb_M70 116 [(18, vi l18), (17, vi l17), (16, vi l16), (15, vi l15), (13, vl l13), (11, vl l11), (9, vl l9), (7, vl l7), (5, vl l5), (3, vl l3), (2, vi l2), (0, .ref 131), (1, vi l1)] [vi z91] s91 _
          refine wr_n (pc2 := 119) (lv2 := [(19, vi z91), (18, vi l18), (17, vi l17), (16, vi l16), (15, vi l15), (13, vl l13), (11, vl l11), (9, vl l9), (7, vl l7), (5, vl l5), (3, vl l3), (2, vi l2), (0, .ref 131), (1, vi l1)]) (st2 := [.ref 131]) 2 (fun _ _ => rfl) ?_
          refine wr_get (v := .ref C) rfl rfl rfl (by decide) (rv_ref (show (s91.1) 131 1 = ((C : Nat) : Int) from hq91)) fun h92 => ?_
          show wr (4 * n + 150) tb_M70 122 [(19, vi z91), (18, vi l18), (17, vi l17), (16, vi l16), (15, vi l15), (13, vl l13), (11, vl l11), (9, vl l9), (7, vl l7), (5, vl l5), (3, vl l3), (2, vi l2), (0, .ref 131), (1, vi l1)] [.ref C] s91 _
          refine wr_n (pc2 := 126) (lv2 := [(19, vi z91), (18, vi l18), (17, vi l17), (16, vi l16), (15, vi l15), (13, vl l13), (11, vl l11), (9, vl l9), (7, vl l7), (5, vl l5), (3, vl l3), (2, vi l2), (0, .ref 131), (1, vi l1)]) (st2 := [vi z91, vi l17, .ref C]) 2 (fun _ _ => rfl) ?_
          refine wr_call1 (args := [vi l17, vi z91]) (rest := []) rfl rfl rfl (TK0 hC) (Nat.le_of_ble_eq_true rfl) (cr_mono (k_link (d := 4 * n + 148) (C := C) hC (x := l17) (y := z91) s91 hK91 (by omega) (by omega)) ?_)
          rintro s93 out ⟨hK93, hY93, hc93, rfl⟩
          refine ⟨_, rfl, ?_⟩
          have hX93 : FX s0.1 s93.1 := FX_tr hX91 hY93
          have hC93 : s93.2 = s0.2 := hc93.trans hC91
          have hq93 : s93.1 131 1 = (C : Int) := (hY93 131 1 (by unfold fx; omega)).trans hq91
          show wr (4 * n + 150) tb_M70 129 [(19, vi z91), (18, vi l18), (17, vi l17), (16, vi l16), (15, vi l15), (13, vl l13), (11, vl l11), (9, vl l9), (7, vl l7), (5, vl l5), (3, vl l3), (2, vi l2), (0, .ref 131), (1, vi l1)] [] s93 _
          refine wr_n (pc2 := 131) (lv2 := [(19, vi z91), (18, vi l18), (17, vi l17), (16, vi l16), (15, vi l15), (13, vl l13), (11, vl l11), (9, vl l9), (7, vl l7), (5, vl l5), (3, vl l3), (2, vi l2), (0, .ref 131), (1, vi l1)]) (st2 := [vi l18]) 1 (fun _ _ => rfl) ?_
          by_cases h94 : l18 ≠ 0
          · refine wr_if1t rfl rfl (by unfold i32; omega) h94 ?_
            refine wr_n (pc2 := 150) (lv2 := [(17, vi z91), (16, vi l16), (19, vi z91), (18, vi l18), (15, vi l15), (13, vl l13), (11, vl l11), (9, vl l9), (7, vl l7), (5, vl l5), (3, vl l3), (2, vi l2), (0, .ref 131), (1, vi l1)]) (st2 := [.ref 131, vi l15]) 6 (fun _ _ => rfl) ?_
            refine wr_get (v := vl (s93.1 131 8)) rfl rfl rfl (by decide) rfl fun h95 => ?_
            show wr (4 * n + 150) tb_M70 153 [(17, vi z91), (16, vi l16), (19, vi z91), (18, vi l18), (15, vi l15), (13, vl l13), (11, vl l11), (9, vl l9), (7, vl l7), (5, vl l5), (3, vl l3), (2, vi l2), (0, .ref 131), (1, vi l1)] [vl (s93.1 131 8), vi l15] s93 _
            refine wr_n (pc2 := 155) (lv2 := [(17, vi z91), (16, vi l16), (19, vi z91), (18, vi l18), (15, vi l15), (13, vl l13), (11, vl l11), (9, vl l9), (7, vl l7), (5, vl l5), (3, vl l3), (2, vi l2), (0, .ref 131), (1, vi l1)]) (st2 := [vl l9, vl (s93.1 131 8), vi l15]) 1 (fun _ _ => rfl) ?_
            refine wr_anyl (a := s93.1 131 8) (b := l9) rfl rfl fun z96 h97 _ => ?_
            show wr (4 * n + 150) tb_M70 156 [(17, vi z91), (16, vi l16), (19, vi z91), (18, vi l18), (15, vi l15), (13, vl l13), (11, vl l11), (9, vl l9), (7, vl l7), (5, vl l5), (3, vl l3), (2, vi l2), (0, .ref 131), (1, vi l1)] [vl z96, vi l15] s93 _
            refine wr_n (pc2 := 157) (lv2 := [(17, vi z91), (16, vi l16), (19, vi z91), (18, vi l18), (15, vi l15), (13, vl l13), (11, vl l11), (9, vl l9), (7, vl l7), (5, vl l5), (3, vl l3), (2, vi l2), (0, .ref 131), (1, vi l1)]) (st2 := [.ref 131, vl z96, vi l15]) 1 (fun _ _ => rfl) ?_
            refine wr_get (v := vl (s93.1 131 7)) rfl rfl rfl (by decide) rfl fun h98 => ?_
            show wr (4 * n + 150) tb_M70 160 [(17, vi z91), (16, vi l16), (19, vi z91), (18, vi l18), (15, vi l15), (13, vl l13), (11, vl l11), (9, vl l9), (7, vl l7), (5, vl l5), (3, vl l3), (2, vi l2), (0, .ref 131), (1, vi l1)] [vl (s93.1 131 7), vl z96, vi l15] s93 _
            refine wr_n (pc2 := 162) (lv2 := [(17, vi z91), (16, vi l16), (19, vi z91), (18, vi l18), (15, vi l15), (13, vl l13), (11, vl l11), (9, vl l9), (7, vl l7), (5, vl l5), (3, vl l3), (2, vi l2), (0, .ref 131), (1, vi l1)]) (st2 := [vl l11, vl (s93.1 131 7), vl z96, vi l15]) 1 (fun _ _ => rfl) ?_
            refine wr_anyl (a := s93.1 131 7) (b := l11) rfl rfl fun z99 h100 _ => ?_
            show wr (4 * n + 150) tb_M70 163 [(17, vi z91), (16, vi l16), (19, vi z91), (18, vi l18), (15, vi l15), (13, vl l13), (11, vl l11), (9, vl l9), (7, vl l7), (5, vl l5), (3, vl l3), (2, vi l2), (0, .ref 131), (1, vi l1)] [vl z99, vl z96, vi l15] s93 _
            refine wr_anyl (a := z96) (b := z99) rfl rfl fun z101 h102 _ => ?_
            show wr (4 * n + 150) tb_M70 164 [(17, vi z91), (16, vi l16), (19, vi z91), (18, vi l18), (15, vi l15), (13, vl l13), (11, vl l11), (9, vl l9), (7, vl l7), (5, vl l5), (3, vl l3), (2, vi l2), (0, .ref 131), (1, vi l1)] [vl z101, vi l15] s93 _
            refine wr_n (pc2 := 165) (lv2 := [(17, vi z91), (16, vi l16), (19, vi z91), (18, vi l18), (15, vi l15), (13, vl l13), (11, vl l11), (9, vl l9), (7, vl l7), (5, vl l5), (3, vl l3), (2, vi l2), (0, .ref 131), (1, vi l1)]) (st2 := [.ref 131, vl z101, vi l15]) 1 (fun _ _ => rfl) ?_
            refine wr_get (v := vl (s93.1 131 9)) rfl rfl rfl (by decide) rfl fun h103 => ?_
            show wr (4 * n + 150) tb_M70 168 [(17, vi z91), (16, vi l16), (19, vi z91), (18, vi l18), (15, vi l15), (13, vl l13), (11, vl l11), (9, vl l9), (7, vl l7), (5, vl l5), (3, vl l3), (2, vi l2), (0, .ref 131), (1, vi l1)] [vl (s93.1 131 9), vl z101, vi l15] s93 _
            refine wr_n (pc2 := 170) (lv2 := [(17, vi z91), (16, vi l16), (19, vi z91), (18, vi l18), (15, vi l15), (13, vl l13), (11, vl l11), (9, vl l9), (7, vl l7), (5, vl l5), (3, vl l3), (2, vi l2), (0, .ref 131), (1, vi l1)]) (st2 := [vl l13, vl (s93.1 131 9), vl z101, vi l15]) 1 (fun _ _ => rfl) ?_
            refine wr_anyl (a := s93.1 131 9) (b := l13) rfl rfl fun z104 h105 _ => ?_
            show wr (4 * n + 150) tb_M70 171 [(17, vi z91), (16, vi l16), (19, vi z91), (18, vi l18), (15, vi l15), (13, vl l13), (11, vl l11), (9, vl l9), (7, vl l7), (5, vl l5), (3, vl l3), (2, vi l2), (0, .ref 131), (1, vi l1)] [vl z104, vl z101, vi l15] s93 _
            refine wr_anyl (a := z101) (b := z104) rfl rfl fun z106 h107 _ => ?_
            show wr (4 * n + 150) tb_M70 172 [(17, vi z91), (16, vi l16), (19, vi z91), (18, vi l18), (15, vi l15), (13, vl l13), (11, vl l11), (9, vl l9), (7, vl l7), (5, vl l5), (3, vl l3), (2, vi l2), (0, .ref 131), (1, vi l1)] [vl z106, vi l15] s93 _
            refine wr_n (pc2 := 173) (lv2 := [(17, vi z91), (16, vi l16), (19, vi z91), (18, vi l18), (15, vi l15), (13, vl l13), (11, vl l11), (9, vl l9), (7, vl l7), (5, vl l5), (3, vl l3), (2, vi l2), (0, .ref 131), (1, vi l1)]) (st2 := [vl 0, vl z106, vi l15]) 1 (fun _ _ => rfl) ?_
            refine wr_lcmp (a := z106) (b := 0) rfl h107 (by unfold i64; omega) fun z108 h109 => ?_
            show wr (4 * n + 150) tb_M70 174 [(17, vi z91), (16, vi l16), (19, vi z91), (18, vi l18), (15, vi l15), (13, vl l13), (11, vl l11), (9, vl l9), (7, vl l7), (5, vl l5), (3, vl l3), (2, vi l2), (0, .ref 131), (1, vi l1)] [vi z108, vi l15] s93 _
            by_cases h110 : z108 = 0
            · refine wr_if1t rfl rfl (by unfold i32; omega) h110 ?_
              refine wr_n (pc2 := 182) (lv2 := [(17, vi z91), (16, vi l16), (19, vi z91), (18, vi l18), (15, vi l15), (13, vl l13), (11, vl l11), (9, vl l9), (7, vl l7), (5, vl l5), (3, vl l3), (2, vi l2), (0, .ref 131), (1, vi l1)]) (st2 := [vi 0, vi l15]) 1 (fun _ _ => rfl) ?_
              refine wr_any2 rfl rfl fun z111 h112 => ?_
              unfold i32 at h112
              show wr (4 * n + 150) tb_M70 183 [(17, vi z91), (16, vi l16), (19, vi z91), (18, vi l18), (15, vi l15), (13, vl l13), (11, vl l11), (9, vl l9), (7, vl l7), (5, vl l5), (3, vl l3), (2, vi l2), (0, .ref 131), (1, vi l1)] [vi z111] s93 _
              refine wr_n (pc2 := 188) (lv2 := [(15, vi z111), (17, vi z91), (16, vi l16), (19, vi z91), (18, vi l18), (13, vl l13), (11, vl l11), (9, vl l9), (7, vl l7), (5, vl l5), (3, vl l3), (2, vi l2), (0, .ref 131), (1, vi l1)]) (st2 := [.ref 131, vl l9]) 3 (fun _ _ => rfl) ?_
              refine wr_get (v := vl (s93.1 131 7)) rfl rfl rfl (by decide) rfl fun h113 => ?_
              show wr (4 * n + 150) tb_M70 191 [(15, vi z111), (17, vi z91), (16, vi l16), (19, vi z91), (18, vi l18), (13, vl l13), (11, vl l11), (9, vl l9), (7, vl l7), (5, vl l5), (3, vl l3), (2, vi l2), (0, .ref 131), (1, vi l1)] [vl (s93.1 131 7), vl l9] s93 _
              refine wr_anyl (a := l9) (b := s93.1 131 7) rfl rfl fun z114 h115 _ => ?_
              show wr (4 * n + 150) tb_M70 192 [(15, vi z111), (17, vi z91), (16, vi l16), (19, vi z91), (18, vi l18), (13, vl l13), (11, vl l11), (9, vl l9), (7, vl l7), (5, vl l5), (3, vl l3), (2, vi l2), (0, .ref 131), (1, vi l1)] [vl z114] s93 _
              refine wr_n (pc2 := 197) (lv2 := [(9, vl z114), (15, vi z111), (17, vi z91), (16, vi l16), (19, vi z91), (18, vi l18), (13, vl l13), (11, vl l11), (7, vl l7), (5, vl l5), (3, vl l3), (2, vi l2), (0, .ref 131), (1, vi l1)]) (st2 := [.ref 131, vl l11]) 3 (fun _ _ => rfl) ?_
              refine wr_get (v := vl (s93.1 131 8)) rfl rfl rfl (by decide) rfl fun h116 => ?_
              show wr (4 * n + 150) tb_M70 200 [(9, vl z114), (15, vi z111), (17, vi z91), (16, vi l16), (19, vi z91), (18, vi l18), (13, vl l13), (11, vl l11), (7, vl l7), (5, vl l5), (3, vl l3), (2, vi l2), (0, .ref 131), (1, vi l1)] [vl (s93.1 131 8), vl l11] s93 _
              refine wr_anyl (a := l11) (b := s93.1 131 8) rfl rfl fun z117 h118 _ => ?_
              show wr (4 * n + 150) tb_M70 201 [(9, vl z114), (15, vi z111), (17, vi z91), (16, vi l16), (19, vi z91), (18, vi l18), (13, vl l13), (11, vl l11), (7, vl l7), (5, vl l5), (3, vl l3), (2, vi l2), (0, .ref 131), (1, vi l1)] [vl z117] s93 _
              refine wr_n (pc2 := 206) (lv2 := [(11, vl z117), (9, vl z114), (15, vi z111), (17, vi z91), (16, vi l16), (19, vi z91), (18, vi l18), (13, vl l13), (7, vl l7), (5, vl l5), (3, vl l3), (2, vi l2), (0, .ref 131), (1, vi l1)]) (st2 := [.ref 131, vl l13]) 3 (fun _ _ => rfl) ?_
              refine wr_get (v := vl (s93.1 131 9)) rfl rfl rfl (by decide) rfl fun h119 => ?_
              show wr (4 * n + 150) tb_M70 209 [(11, vl z117), (9, vl z114), (15, vi z111), (17, vi z91), (16, vi l16), (19, vi z91), (18, vi l18), (13, vl l13), (7, vl l7), (5, vl l5), (3, vl l3), (2, vi l2), (0, .ref 131), (1, vi l1)] [vl (s93.1 131 9), vl l13] s93 _
              refine wr_anyl (a := l13) (b := s93.1 131 9) rfl rfl fun z120 h121 _ => ?_
              show wr (4 * n + 150) tb_M70 210 [(11, vl z117), (9, vl z114), (15, vi z111), (17, vi z91), (16, vi l16), (19, vi z91), (18, vi l18), (13, vl l13), (7, vl l7), (5, vl l5), (3, vl l3), (2, vi l2), (0, .ref 131), (1, vi l1)] [vl z120] s93 _
              refine wr_n (pc2 := 212) (lv2 := [(13, vl z120), (11, vl z117), (9, vl z114), (15, vi z111), (17, vi z91), (16, vi l16), (19, vi z91), (18, vi l18), (7, vl l7), (5, vl l5), (3, vl l3), (2, vi l2), (0, .ref 131), (1, vi l1)]) (st2 := []) 1 (fun _ _ => rfl) ?_
              refine wr_inc (a := l18) rfl rfl ?_
              show wr (4 * n + 150) tb_M70 215 [(18, vi (l18 + 1)), (13, vl z120), (11, vl z117), (9, vl z114), (15, vi z111), (17, vi z91), (16, vi l16), (19, vi z91), (7, vl l7), (5, vl l5), (3, vl l3), (2, vi l2), (0, .ref 131), (1, vi l1)] [] s93 _
              refine wr_n (pc2 := 53) (lv2 := [(18, vi (l18 + 1)), (13, vl z120), (11, vl z117), (9, vl z114), (15, vi z111), (17, vi z91), (16, vi l16), (19, vi z91), (7, vl l7), (5, vl l5), (3, vl l3), (2, vi l2), (0, .ref 131), (1, vi l1)]) (st2 := []) 1 (fun _ _ => rfl) ?_
              exact k_branches_53v2 hC hSt _ (l18 + 1) z120 z117 z114 z111 z91 l16 z91 l7 l5 l3 l2 l1 s93 rfl hK93 hq93 hX93 hC93 (by omega) h121 h118 h115 (by omega) (by omega) (by omega) (by omega) hl7 hl5 hl3 (by omega) (by omega) (by omega) 
            · refine wr_if1f rfl rfl (by unfold i32; omega) h110 ?_
              refine wr_n (pc2 := 182) (lv2 := [(17, vi z91), (16, vi l16), (19, vi z91), (18, vi l18), (15, vi l15), (13, vl l13), (11, vl l11), (9, vl l9), (7, vl l7), (5, vl l5), (3, vl l3), (2, vi l2), (0, .ref 131), (1, vi l1)]) (st2 := [vi 1, vi l15]) 2 (fun _ _ => rfl) ?_
              refine wr_any2 rfl rfl fun z122 h123 => ?_
              unfold i32 at h123
              show wr (4 * n + 150) tb_M70 183 [(17, vi z91), (16, vi l16), (19, vi z91), (18, vi l18), (15, vi l15), (13, vl l13), (11, vl l11), (9, vl l9), (7, vl l7), (5, vl l5), (3, vl l3), (2, vi l2), (0, .ref 131), (1, vi l1)] [vi z122] s93 _
              refine wr_n (pc2 := 188) (lv2 := [(15, vi z122), (17, vi z91), (16, vi l16), (19, vi z91), (18, vi l18), (13, vl l13), (11, vl l11), (9, vl l9), (7, vl l7), (5, vl l5), (3, vl l3), (2, vi l2), (0, .ref 131), (1, vi l1)]) (st2 := [.ref 131, vl l9]) 3 (fun _ _ => rfl) ?_
              refine wr_get (v := vl (s93.1 131 7)) rfl rfl rfl (by decide) rfl fun h124 => ?_
              show wr (4 * n + 150) tb_M70 191 [(15, vi z122), (17, vi z91), (16, vi l16), (19, vi z91), (18, vi l18), (13, vl l13), (11, vl l11), (9, vl l9), (7, vl l7), (5, vl l5), (3, vl l3), (2, vi l2), (0, .ref 131), (1, vi l1)] [vl (s93.1 131 7), vl l9] s93 _
              refine wr_anyl (a := l9) (b := s93.1 131 7) rfl rfl fun z125 h126 _ => ?_
              show wr (4 * n + 150) tb_M70 192 [(15, vi z122), (17, vi z91), (16, vi l16), (19, vi z91), (18, vi l18), (13, vl l13), (11, vl l11), (9, vl l9), (7, vl l7), (5, vl l5), (3, vl l3), (2, vi l2), (0, .ref 131), (1, vi l1)] [vl z125] s93 _
              refine wr_n (pc2 := 197) (lv2 := [(9, vl z125), (15, vi z122), (17, vi z91), (16, vi l16), (19, vi z91), (18, vi l18), (13, vl l13), (11, vl l11), (7, vl l7), (5, vl l5), (3, vl l3), (2, vi l2), (0, .ref 131), (1, vi l1)]) (st2 := [.ref 131, vl l11]) 3 (fun _ _ => rfl) ?_
              refine wr_get (v := vl (s93.1 131 8)) rfl rfl rfl (by decide) rfl fun h127 => ?_
              show wr (4 * n + 150) tb_M70 200 [(9, vl z125), (15, vi z122), (17, vi z91), (16, vi l16), (19, vi z91), (18, vi l18), (13, vl l13), (11, vl l11), (7, vl l7), (5, vl l5), (3, vl l3), (2, vi l2), (0, .ref 131), (1, vi l1)] [vl (s93.1 131 8), vl l11] s93 _
              refine wr_anyl (a := l11) (b := s93.1 131 8) rfl rfl fun z128 h129 _ => ?_
              show wr (4 * n + 150) tb_M70 201 [(9, vl z125), (15, vi z122), (17, vi z91), (16, vi l16), (19, vi z91), (18, vi l18), (13, vl l13), (11, vl l11), (7, vl l7), (5, vl l5), (3, vl l3), (2, vi l2), (0, .ref 131), (1, vi l1)] [vl z128] s93 _
              refine wr_n (pc2 := 206) (lv2 := [(11, vl z128), (9, vl z125), (15, vi z122), (17, vi z91), (16, vi l16), (19, vi z91), (18, vi l18), (13, vl l13), (7, vl l7), (5, vl l5), (3, vl l3), (2, vi l2), (0, .ref 131), (1, vi l1)]) (st2 := [.ref 131, vl l13]) 3 (fun _ _ => rfl) ?_
              refine wr_get (v := vl (s93.1 131 9)) rfl rfl rfl (by decide) rfl fun h130 => ?_
              show wr (4 * n + 150) tb_M70 209 [(11, vl z128), (9, vl z125), (15, vi z122), (17, vi z91), (16, vi l16), (19, vi z91), (18, vi l18), (13, vl l13), (7, vl l7), (5, vl l5), (3, vl l3), (2, vi l2), (0, .ref 131), (1, vi l1)] [vl (s93.1 131 9), vl l13] s93 _
              refine wr_anyl (a := l13) (b := s93.1 131 9) rfl rfl fun z131 h132 _ => ?_
              show wr (4 * n + 150) tb_M70 210 [(11, vl z128), (9, vl z125), (15, vi z122), (17, vi z91), (16, vi l16), (19, vi z91), (18, vi l18), (13, vl l13), (7, vl l7), (5, vl l5), (3, vl l3), (2, vi l2), (0, .ref 131), (1, vi l1)] [vl z131] s93 _
              refine wr_n (pc2 := 212) (lv2 := [(13, vl z131), (11, vl z128), (9, vl z125), (15, vi z122), (17, vi z91), (16, vi l16), (19, vi z91), (18, vi l18), (7, vl l7), (5, vl l5), (3, vl l3), (2, vi l2), (0, .ref 131), (1, vi l1)]) (st2 := []) 1 (fun _ _ => rfl) ?_
              refine wr_inc (a := l18) rfl rfl ?_
              show wr (4 * n + 150) tb_M70 215 [(18, vi (l18 + 1)), (13, vl z131), (11, vl z128), (9, vl z125), (15, vi z122), (17, vi z91), (16, vi l16), (19, vi z91), (7, vl l7), (5, vl l5), (3, vl l3), (2, vi l2), (0, .ref 131), (1, vi l1)] [] s93 _
              refine wr_n (pc2 := 53) (lv2 := [(18, vi (l18 + 1)), (13, vl z131), (11, vl z128), (9, vl z125), (15, vi z122), (17, vi z91), (16, vi l16), (19, vi z91), (7, vl l7), (5, vl l5), (3, vl l3), (2, vi l2), (0, .ref 131), (1, vi l1)]) (st2 := []) 1 (fun _ _ => rfl) ?_
              exact k_branches_53v2 hC hSt _ (l18 + 1) z131 z128 z125 z122 z91 l16 z91 l7 l5 l3 l2 l1 s93 rfl hK93 hq93 hX93 hC93 (by omega) h132 h129 h126 (by omega) (by omega) (by omega) (by omega) hl7 hl5 hl3 (by omega) (by omega) (by omega) 
          · refine wr_if1f rfl rfl (by unfold i32; omega) h94 ?_
            refine wr_n (pc2 := 150) (lv2 := [(17, vi z91), (16, vi z91), (19, vi z91), (18, vi l18), (15, vi l15), (13, vl l13), (11, vl l11), (9, vl l9), (7, vl l7), (5, vl l5), (3, vl l3), (2, vi l2), (0, .ref 131), (1, vi l1)]) (st2 := [.ref 131, vi l15]) 7 (fun _ _ => rfl) ?_
            refine wr_get (v := vl (s93.1 131 8)) rfl rfl rfl (by decide) rfl fun h133 => ?_
            show wr (4 * n + 150) tb_M70 153 [(17, vi z91), (16, vi z91), (19, vi z91), (18, vi l18), (15, vi l15), (13, vl l13), (11, vl l11), (9, vl l9), (7, vl l7), (5, vl l5), (3, vl l3), (2, vi l2), (0, .ref 131), (1, vi l1)] [vl (s93.1 131 8), vi l15] s93 _
            refine wr_n (pc2 := 155) (lv2 := [(17, vi z91), (16, vi z91), (19, vi z91), (18, vi l18), (15, vi l15), (13, vl l13), (11, vl l11), (9, vl l9), (7, vl l7), (5, vl l5), (3, vl l3), (2, vi l2), (0, .ref 131), (1, vi l1)]) (st2 := [vl l9, vl (s93.1 131 8), vi l15]) 1 (fun _ _ => rfl) ?_
            refine wr_anyl (a := s93.1 131 8) (b := l9) rfl rfl fun z134 h135 _ => ?_
            show wr (4 * n + 150) tb_M70 156 [(17, vi z91), (16, vi z91), (19, vi z91), (18, vi l18), (15, vi l15), (13, vl l13), (11, vl l11), (9, vl l9), (7, vl l7), (5, vl l5), (3, vl l3), (2, vi l2), (0, .ref 131), (1, vi l1)] [vl z134, vi l15] s93 _
            refine wr_n (pc2 := 157) (lv2 := [(17, vi z91), (16, vi z91), (19, vi z91), (18, vi l18), (15, vi l15), (13, vl l13), (11, vl l11), (9, vl l9), (7, vl l7), (5, vl l5), (3, vl l3), (2, vi l2), (0, .ref 131), (1, vi l1)]) (st2 := [.ref 131, vl z134, vi l15]) 1 (fun _ _ => rfl) ?_
            refine wr_get (v := vl (s93.1 131 7)) rfl rfl rfl (by decide) rfl fun h136 => ?_
            show wr (4 * n + 150) tb_M70 160 [(17, vi z91), (16, vi z91), (19, vi z91), (18, vi l18), (15, vi l15), (13, vl l13), (11, vl l11), (9, vl l9), (7, vl l7), (5, vl l5), (3, vl l3), (2, vi l2), (0, .ref 131), (1, vi l1)] [vl (s93.1 131 7), vl z134, vi l15] s93 _
            refine wr_n (pc2 := 162) (lv2 := [(17, vi z91), (16, vi z91), (19, vi z91), (18, vi l18), (15, vi l15), (13, vl l13), (11, vl l11), (9, vl l9), (7, vl l7), (5, vl l5), (3, vl l3), (2, vi l2), (0, .ref 131), (1, vi l1)]) (st2 := [vl l11, vl (s93.1 131 7), vl z134, vi l15]) 1 (fun _ _ => rfl) ?_
            refine wr_anyl (a := s93.1 131 7) (b := l11) rfl rfl fun z137 h138 _ => ?_
            show wr (4 * n + 150) tb_M70 163 [(17, vi z91), (16, vi z91), (19, vi z91), (18, vi l18), (15, vi l15), (13, vl l13), (11, vl l11), (9, vl l9), (7, vl l7), (5, vl l5), (3, vl l3), (2, vi l2), (0, .ref 131), (1, vi l1)] [vl z137, vl z134, vi l15] s93 _
            refine wr_anyl (a := z134) (b := z137) rfl rfl fun z139 h140 _ => ?_
            show wr (4 * n + 150) tb_M70 164 [(17, vi z91), (16, vi z91), (19, vi z91), (18, vi l18), (15, vi l15), (13, vl l13), (11, vl l11), (9, vl l9), (7, vl l7), (5, vl l5), (3, vl l3), (2, vi l2), (0, .ref 131), (1, vi l1)] [vl z139, vi l15] s93 _
            refine wr_n (pc2 := 165) (lv2 := [(17, vi z91), (16, vi z91), (19, vi z91), (18, vi l18), (15, vi l15), (13, vl l13), (11, vl l11), (9, vl l9), (7, vl l7), (5, vl l5), (3, vl l3), (2, vi l2), (0, .ref 131), (1, vi l1)]) (st2 := [.ref 131, vl z139, vi l15]) 1 (fun _ _ => rfl) ?_
            refine wr_get (v := vl (s93.1 131 9)) rfl rfl rfl (by decide) rfl fun h141 => ?_
            show wr (4 * n + 150) tb_M70 168 [(17, vi z91), (16, vi z91), (19, vi z91), (18, vi l18), (15, vi l15), (13, vl l13), (11, vl l11), (9, vl l9), (7, vl l7), (5, vl l5), (3, vl l3), (2, vi l2), (0, .ref 131), (1, vi l1)] [vl (s93.1 131 9), vl z139, vi l15] s93 _
            refine wr_n (pc2 := 170) (lv2 := [(17, vi z91), (16, vi z91), (19, vi z91), (18, vi l18), (15, vi l15), (13, vl l13), (11, vl l11), (9, vl l9), (7, vl l7), (5, vl l5), (3, vl l3), (2, vi l2), (0, .ref 131), (1, vi l1)]) (st2 := [vl l13, vl (s93.1 131 9), vl z139, vi l15]) 1 (fun _ _ => rfl) ?_
            refine wr_anyl (a := s93.1 131 9) (b := l13) rfl rfl fun z142 h143 _ => ?_
            show wr (4 * n + 150) tb_M70 171 [(17, vi z91), (16, vi z91), (19, vi z91), (18, vi l18), (15, vi l15), (13, vl l13), (11, vl l11), (9, vl l9), (7, vl l7), (5, vl l5), (3, vl l3), (2, vi l2), (0, .ref 131), (1, vi l1)] [vl z142, vl z139, vi l15] s93 _
            refine wr_anyl (a := z139) (b := z142) rfl rfl fun z144 h145 _ => ?_
            show wr (4 * n + 150) tb_M70 172 [(17, vi z91), (16, vi z91), (19, vi z91), (18, vi l18), (15, vi l15), (13, vl l13), (11, vl l11), (9, vl l9), (7, vl l7), (5, vl l5), (3, vl l3), (2, vi l2), (0, .ref 131), (1, vi l1)] [vl z144, vi l15] s93 _
            refine wr_n (pc2 := 173) (lv2 := [(17, vi z91), (16, vi z91), (19, vi z91), (18, vi l18), (15, vi l15), (13, vl l13), (11, vl l11), (9, vl l9), (7, vl l7), (5, vl l5), (3, vl l3), (2, vi l2), (0, .ref 131), (1, vi l1)]) (st2 := [vl 0, vl z144, vi l15]) 1 (fun _ _ => rfl) ?_
            refine wr_lcmp (a := z144) (b := 0) rfl h145 (by unfold i64; omega) fun z146 h147 => ?_
            show wr (4 * n + 150) tb_M70 174 [(17, vi z91), (16, vi z91), (19, vi z91), (18, vi l18), (15, vi l15), (13, vl l13), (11, vl l11), (9, vl l9), (7, vl l7), (5, vl l5), (3, vl l3), (2, vi l2), (0, .ref 131), (1, vi l1)] [vi z146, vi l15] s93 _
            by_cases h148 : z146 = 0
            · refine wr_if1t rfl rfl (by unfold i32; omega) h148 ?_
              refine wr_n (pc2 := 182) (lv2 := [(17, vi z91), (16, vi z91), (19, vi z91), (18, vi l18), (15, vi l15), (13, vl l13), (11, vl l11), (9, vl l9), (7, vl l7), (5, vl l5), (3, vl l3), (2, vi l2), (0, .ref 131), (1, vi l1)]) (st2 := [vi 0, vi l15]) 1 (fun _ _ => rfl) ?_
              refine wr_any2 rfl rfl fun z149 h150 => ?_
              unfold i32 at h150
              show wr (4 * n + 150) tb_M70 183 [(17, vi z91), (16, vi z91), (19, vi z91), (18, vi l18), (15, vi l15), (13, vl l13), (11, vl l11), (9, vl l9), (7, vl l7), (5, vl l5), (3, vl l3), (2, vi l2), (0, .ref 131), (1, vi l1)] [vi z149] s93 _
              refine wr_n (pc2 := 188) (lv2 := [(15, vi z149), (17, vi z91), (16, vi z91), (19, vi z91), (18, vi l18), (13, vl l13), (11, vl l11), (9, vl l9), (7, vl l7), (5, vl l5), (3, vl l3), (2, vi l2), (0, .ref 131), (1, vi l1)]) (st2 := [.ref 131, vl l9]) 3 (fun _ _ => rfl) ?_
              refine wr_get (v := vl (s93.1 131 7)) rfl rfl rfl (by decide) rfl fun h151 => ?_
              show wr (4 * n + 150) tb_M70 191 [(15, vi z149), (17, vi z91), (16, vi z91), (19, vi z91), (18, vi l18), (13, vl l13), (11, vl l11), (9, vl l9), (7, vl l7), (5, vl l5), (3, vl l3), (2, vi l2), (0, .ref 131), (1, vi l1)] [vl (s93.1 131 7), vl l9] s93 _
              refine wr_anyl (a := l9) (b := s93.1 131 7) rfl rfl fun z152 h153 _ => ?_
              show wr (4 * n + 150) tb_M70 192 [(15, vi z149), (17, vi z91), (16, vi z91), (19, vi z91), (18, vi l18), (13, vl l13), (11, vl l11), (9, vl l9), (7, vl l7), (5, vl l5), (3, vl l3), (2, vi l2), (0, .ref 131), (1, vi l1)] [vl z152] s93 _
              refine wr_n (pc2 := 197) (lv2 := [(9, vl z152), (15, vi z149), (17, vi z91), (16, vi z91), (19, vi z91), (18, vi l18), (13, vl l13), (11, vl l11), (7, vl l7), (5, vl l5), (3, vl l3), (2, vi l2), (0, .ref 131), (1, vi l1)]) (st2 := [.ref 131, vl l11]) 3 (fun _ _ => rfl) ?_
              refine wr_get (v := vl (s93.1 131 8)) rfl rfl rfl (by decide) rfl fun h154 => ?_
              show wr (4 * n + 150) tb_M70 200 [(9, vl z152), (15, vi z149), (17, vi z91), (16, vi z91), (19, vi z91), (18, vi l18), (13, vl l13), (11, vl l11), (7, vl l7), (5, vl l5), (3, vl l3), (2, vi l2), (0, .ref 131), (1, vi l1)] [vl (s93.1 131 8), vl l11] s93 _
              refine wr_anyl (a := l11) (b := s93.1 131 8) rfl rfl fun z155 h156 _ => ?_
              show wr (4 * n + 150) tb_M70 201 [(9, vl z152), (15, vi z149), (17, vi z91), (16, vi z91), (19, vi z91), (18, vi l18), (13, vl l13), (11, vl l11), (7, vl l7), (5, vl l5), (3, vl l3), (2, vi l2), (0, .ref 131), (1, vi l1)] [vl z155] s93 _
              refine wr_n (pc2 := 206) (lv2 := [(11, vl z155), (9, vl z152), (15, vi z149), (17, vi z91), (16, vi z91), (19, vi z91), (18, vi l18), (13, vl l13), (7, vl l7), (5, vl l5), (3, vl l3), (2, vi l2), (0, .ref 131), (1, vi l1)]) (st2 := [.ref 131, vl l13]) 3 (fun _ _ => rfl) ?_
              refine wr_get (v := vl (s93.1 131 9)) rfl rfl rfl (by decide) rfl fun h157 => ?_
              show wr (4 * n + 150) tb_M70 209 [(11, vl z155), (9, vl z152), (15, vi z149), (17, vi z91), (16, vi z91), (19, vi z91), (18, vi l18), (13, vl l13), (7, vl l7), (5, vl l5), (3, vl l3), (2, vi l2), (0, .ref 131), (1, vi l1)] [vl (s93.1 131 9), vl l13] s93 _
              refine wr_anyl (a := l13) (b := s93.1 131 9) rfl rfl fun z158 h159 _ => ?_
              show wr (4 * n + 150) tb_M70 210 [(11, vl z155), (9, vl z152), (15, vi z149), (17, vi z91), (16, vi z91), (19, vi z91), (18, vi l18), (13, vl l13), (7, vl l7), (5, vl l5), (3, vl l3), (2, vi l2), (0, .ref 131), (1, vi l1)] [vl z158] s93 _
              refine wr_n (pc2 := 212) (lv2 := [(13, vl z158), (11, vl z155), (9, vl z152), (15, vi z149), (17, vi z91), (16, vi z91), (19, vi z91), (18, vi l18), (7, vl l7), (5, vl l5), (3, vl l3), (2, vi l2), (0, .ref 131), (1, vi l1)]) (st2 := []) 1 (fun _ _ => rfl) ?_
              refine wr_inc (a := l18) rfl rfl ?_
              show wr (4 * n + 150) tb_M70 215 [(18, vi (l18 + 1)), (13, vl z158), (11, vl z155), (9, vl z152), (15, vi z149), (17, vi z91), (16, vi z91), (19, vi z91), (7, vl l7), (5, vl l5), (3, vl l3), (2, vi l2), (0, .ref 131), (1, vi l1)] [] s93 _
              refine wr_n (pc2 := 53) (lv2 := [(18, vi (l18 + 1)), (13, vl z158), (11, vl z155), (9, vl z152), (15, vi z149), (17, vi z91), (16, vi z91), (19, vi z91), (7, vl l7), (5, vl l5), (3, vl l3), (2, vi l2), (0, .ref 131), (1, vi l1)]) (st2 := []) 1 (fun _ _ => rfl) ?_
              exact k_branches_53v2 hC hSt _ (l18 + 1) z158 z155 z152 z149 z91 z91 z91 l7 l5 l3 l2 l1 s93 rfl hK93 hq93 hX93 hC93 (by omega) h159 h156 h153 (by omega) (by omega) (by omega) (by omega) hl7 hl5 hl3 (by omega) (by omega) (by omega) 
            · refine wr_if1f rfl rfl (by unfold i32; omega) h148 ?_
              refine wr_n (pc2 := 182) (lv2 := [(17, vi z91), (16, vi z91), (19, vi z91), (18, vi l18), (15, vi l15), (13, vl l13), (11, vl l11), (9, vl l9), (7, vl l7), (5, vl l5), (3, vl l3), (2, vi l2), (0, .ref 131), (1, vi l1)]) (st2 := [vi 1, vi l15]) 2 (fun _ _ => rfl) ?_
              refine wr_any2 rfl rfl fun z160 h161 => ?_
              unfold i32 at h161
              show wr (4 * n + 150) tb_M70 183 [(17, vi z91), (16, vi z91), (19, vi z91), (18, vi l18), (15, vi l15), (13, vl l13), (11, vl l11), (9, vl l9), (7, vl l7), (5, vl l5), (3, vl l3), (2, vi l2), (0, .ref 131), (1, vi l1)] [vi z160] s93 _
              refine wr_n (pc2 := 188) (lv2 := [(15, vi z160), (17, vi z91), (16, vi z91), (19, vi z91), (18, vi l18), (13, vl l13), (11, vl l11), (9, vl l9), (7, vl l7), (5, vl l5), (3, vl l3), (2, vi l2), (0, .ref 131), (1, vi l1)]) (st2 := [.ref 131, vl l9]) 3 (fun _ _ => rfl) ?_
              refine wr_get (v := vl (s93.1 131 7)) rfl rfl rfl (by decide) rfl fun h162 => ?_
              show wr (4 * n + 150) tb_M70 191 [(15, vi z160), (17, vi z91), (16, vi z91), (19, vi z91), (18, vi l18), (13, vl l13), (11, vl l11), (9, vl l9), (7, vl l7), (5, vl l5), (3, vl l3), (2, vi l2), (0, .ref 131), (1, vi l1)] [vl (s93.1 131 7), vl l9] s93 _
              refine wr_anyl (a := l9) (b := s93.1 131 7) rfl rfl fun z163 h164 _ => ?_
              show wr (4 * n + 150) tb_M70 192 [(15, vi z160), (17, vi z91), (16, vi z91), (19, vi z91), (18, vi l18), (13, vl l13), (11, vl l11), (9, vl l9), (7, vl l7), (5, vl l5), (3, vl l3), (2, vi l2), (0, .ref 131), (1, vi l1)] [vl z163] s93 _
              refine wr_n (pc2 := 197) (lv2 := [(9, vl z163), (15, vi z160), (17, vi z91), (16, vi z91), (19, vi z91), (18, vi l18), (13, vl l13), (11, vl l11), (7, vl l7), (5, vl l5), (3, vl l3), (2, vi l2), (0, .ref 131), (1, vi l1)]) (st2 := [.ref 131, vl l11]) 3 (fun _ _ => rfl) ?_
              refine wr_get (v := vl (s93.1 131 8)) rfl rfl rfl (by decide) rfl fun h165 => ?_
              show wr (4 * n + 150) tb_M70 200 [(9, vl z163), (15, vi z160), (17, vi z91), (16, vi z91), (19, vi z91), (18, vi l18), (13, vl l13), (11, vl l11), (7, vl l7), (5, vl l5), (3, vl l3), (2, vi l2), (0, .ref 131), (1, vi l1)] [vl (s93.1 131 8), vl l11] s93 _
              refine wr_anyl (a := l11) (b := s93.1 131 8) rfl rfl fun z166 h167 _ => ?_
              show wr (4 * n + 150) tb_M70 201 [(9, vl z163), (15, vi z160), (17, vi z91), (16, vi z91), (19, vi z91), (18, vi l18), (13, vl l13), (11, vl l11), (7, vl l7), (5, vl l5), (3, vl l3), (2, vi l2), (0, .ref 131), (1, vi l1)] [vl z166] s93 _
              refine wr_n (pc2 := 206) (lv2 := [(11, vl z166), (9, vl z163), (15, vi z160), (17, vi z91), (16, vi z91), (19, vi z91), (18, vi l18), (13, vl l13), (7, vl l7), (5, vl l5), (3, vl l3), (2, vi l2), (0, .ref 131), (1, vi l1)]) (st2 := [.ref 131, vl l13]) 3 (fun _ _ => rfl) ?_
              refine wr_get (v := vl (s93.1 131 9)) rfl rfl rfl (by decide) rfl fun h168 => ?_
              show wr (4 * n + 150) tb_M70 209 [(11, vl z166), (9, vl z163), (15, vi z160), (17, vi z91), (16, vi z91), (19, vi z91), (18, vi l18), (13, vl l13), (7, vl l7), (5, vl l5), (3, vl l3), (2, vi l2), (0, .ref 131), (1, vi l1)] [vl (s93.1 131 9), vl l13] s93 _
              refine wr_anyl (a := l13) (b := s93.1 131 9) rfl rfl fun z169 h170 _ => ?_
              show wr (4 * n + 150) tb_M70 210 [(11, vl z166), (9, vl z163), (15, vi z160), (17, vi z91), (16, vi z91), (19, vi z91), (18, vi l18), (13, vl l13), (7, vl l7), (5, vl l5), (3, vl l3), (2, vi l2), (0, .ref 131), (1, vi l1)] [vl z169] s93 _
              refine wr_n (pc2 := 212) (lv2 := [(13, vl z169), (11, vl z166), (9, vl z163), (15, vi z160), (17, vi z91), (16, vi z91), (19, vi z91), (18, vi l18), (7, vl l7), (5, vl l5), (3, vl l3), (2, vi l2), (0, .ref 131), (1, vi l1)]) (st2 := []) 1 (fun _ _ => rfl) ?_
              refine wr_inc (a := l18) rfl rfl ?_
              show wr (4 * n + 150) tb_M70 215 [(18, vi (l18 + 1)), (13, vl z169), (11, vl z166), (9, vl z163), (15, vi z160), (17, vi z91), (16, vi z91), (19, vi z91), (7, vl l7), (5, vl l5), (3, vl l3), (2, vi l2), (0, .ref 131), (1, vi l1)] [] s93 _
              refine wr_n (pc2 := 53) (lv2 := [(18, vi (l18 + 1)), (13, vl z169), (11, vl z166), (9, vl z163), (15, vi z160), (17, vi z91), (16, vi z91), (19, vi z91), (7, vl l7), (5, vl l5), (3, vl l3), (2, vi l2), (0, .ref 131), (1, vi l1)]) (st2 := []) 1 (fun _ _ => rfl) ?_
              exact k_branches_53v2 hC hSt _ (l18 + 1) z169 z166 z163 z160 z91 z91 z91 l7 l5 l3 l2 l1 s93 rfl hK93 hq93 hX93 hC93 (by omega) h170 h167 h164 (by omega) (by omega) (by omega) (by omega) hl7 hl5 hl3 (by omega) (by omega) (by omega) 
        · refine .inr ⟨rfl, ?_⟩
          exact ⟨hK91, (FX_tr (FX_up (FX_up (FX_up hX87 (by unfold fx; omega)) (by unfold fx; omega)) (by unfold fx; omega)) hY91), .inr ⟨rfl, TH hC87 hc91⟩⟩
      · refine .inr ⟨rfl, ?_⟩
        exact ⟨hK87, (FX_tr hX hY87), .inr ⟨rfl, TH hc hc87⟩⟩
  · refine wr_if2f rfl rfl (by unfold i32; omega) (by unfold i32; omega) h1 ?_
    refine wr_n (pc2 := 63) (lv2 := [(18, vi l18), (17, vi l17), (16, vi l16), (15, vi l15), (13, vl l13), (11, vl l11), (9, vl l9), (7, vl l7), (5, vl l5), (3, vl l3), (2, vi l2), (0, .ref 131), (1, vi l1)]) (st2 := [vi 6, vi l18]) 2 (fun _ _ => rfl) ?_
    by_cases h171 : 6 ≤ l18
    · refine wr_if2t rfl rfl (by unfold i32; omega) (by unfold i32; omega) h171 ?_
      exact k_branches_218v2 hC hSt l18 l17 l16 l15 l13 l11 l9 l7 l5 l3 l2 l1 s hK hq hX hc (by omega) (by omega) (by omega) (by omega) hl13 hl11 hl9 hl7 hl5 hl3 (by omega) (by omega)  
    · refine wr_if2f rfl rfl (by unfold i32; omega) (by unfold i32; omega) h171 ?_
      refine wr_n (pc2 := 67) (lv2 := [(18, vi l18), (17, vi l17), (16, vi l16), (15, vi l15), (13, vl l13), (11, vl l11), (9, vl l9), (7, vl l7), (5, vl l5), (3, vl l3), (2, vi l2), (0, .ref 131), (1, vi l1)]) (st2 := [.ref 131]) 1 (fun _ _ => rfl) ?_
      refine wr_get (v := .ref 137) rfl rfl rfl (by decide) (rv_ref (hK.1 131 0 137 rfl)) fun h172 => ?_
      show wr (4 * n + 150) tb_M70 70 [(18, vi l18), (17, vi l17), (16, vi l16), (15, vi l15), (13, vl l13), (11, vl l11), (9, vl l9), (7, vl l7), (5, vl l5), (3, vl l3), (2, vi l2), (0, .ref 131), (1, vi l1)] [.ref 137] s _
      refine wr_call1 (args := []) (rest := []) rfl rfl rfl rfl (Nat.le_of_ble_eq_true rfl) (cr_mono (k_kind (d := 4 * n + 149) s hK) ?_)
      rintro s173 out ⟨z173, rfl, hz173, hp173, e173⟩
      refine ⟨_, rfl, ?_⟩
      rw [e173]
      unfold i32 at hz173
      clear hp173
      show wr (4 * n + 150) tb_M70 73 [(18, vi l18), (17, vi l17), (16, vi l16), (15, vi l15), (13, vl l13), (11, vl l11), (9, vl l9), (7, vl l7), (5, vl l5), (3, vl l3), (2, vi l2), (0, .ref 131), (1, vi l1)] [vi z173] s _
      refine wr_n (pc2 := 75) (lv2 := [(18, vi l18), (17, vi l17), (16, vi l16), (15, vi l15), (13, vl l13), (11, vl l11), (9, vl l9), (7, vl l7), (5, vl l5), (3, vl l3), (2, vi l2), (0, .ref 131), (1, vi l1)]) (st2 := [vi 124, vi z173]) 1 (fun _ _ => rfl) ?_
      by_cases h174 : z173 ≠ 124
      · refine wr_if2t rfl rfl (by unfold i32; omega) (by unfold i32; omega) h174 ?_
        exact k_branches_218v2 hC hSt l18 l17 l16 l15 l13 l11 l9 l7 l5 l3 l2 l1 s hK hq hX hc (by omega) (by omega) (by omega) (by omega) hl13 hl11 hl9 hl7 hl5 hl3 (by omega) (by omega)  
      · refine wr_if2f rfl rfl (by unfold i32; omega) (by unfold i32; omega) h174 ?_
        refine wr_n (pc2 := 81) (lv2 := [(18, vi l18), (17, vi l17), (16, vi l16), (15, vi l15), (13, vl l13), (11, vl l11), (9, vl l9), (7, vl l7), (5, vl l5), (3, vl l3), (2, vi l2), (0, .ref 131), (1, vi l1)]) (st2 := [vi l18, .ref 131]) 2 (fun _ _ => rfl) ?_
        by_cases h175 : l18 ≠ 0
        · refine wr_if1t rfl rfl (by unfold i32; omega) h175 ?_
          refine wr_n (pc2 := 91) (lv2 := [(18, vi l18), (17, vi l17), (16, vi l16), (15, vi l15), (13, vl l13), (11, vl l11), (9, vl l9), (7, vl l7), (5, vl l5), (3, vl l3), (2, vi l2), (0, .ref 131), (1, vi l1)]) (st2 := [vi 124, .ref 131]) 1 (fun _ _ => rfl) ?_
          refine wr_call1T (args := [vi 124]) (rest := []) rfl rfl rfl rfl (Nat.le_of_ble_eq_true rfl) rfl (cr_mono (k_expect (d := 4 * n + 148) (x := 124) s hK (by omega)) ?_)
          rintro s176 out ⟨hK176, hY176, ⟨hc176, rfl⟩ | ⟨rfl, hc176⟩⟩
          · refine .inl ⟨_, rfl, ?_⟩
            have hX176 : FX s0.1 s176.1 := FX_tr hX hY176
            have hC176 : s176.2 = s0.2 := hc176.trans hc
            have hq176 : s176.1 131 1 = (C : Int) := (hY176 131 1 (by unfold fx; omega)).trans hq
            show wr (4 * n + 150) tb_M70 94 [(18, vi l18), (17, vi l17), (16, vi l16), (15, vi l15), (13, vl l13), (11, vl l11), (9, vl l9), (7, vl l7), (5, vl l5), (3, vl l3), (2, vi l2), (0, .ref 131), (1, vi l1)] [] s176 _
            refine wr_n (pc2 := 96) (lv2 := [(18, vi l18), (17, vi l17), (16, vi l16), (15, vi l15), (13, vl l13), (11, vl l11), (9, vl l9), (7, vl l7), (5, vl l5), (3, vl l3), (2, vi l2), (0, .ref 131), (1, vi l1)]) (st2 := [vl 0, .ref 131]) 2 (fun _ _ => rfl) ?_
            refine wr_put (z := 0) rfl rfl rfl rfl (by decide) rfl (by decide) rfl (by first | exact ⟨by omega, by omega⟩ | assumption) (fit_l _) ?_
            show wr (4 * n + 150) tb_M70 99 [(18, vi l18), (17, vi l17), (16, vi l16), (15, vi l15), (13, vl l13), (11, vl l11), (9, vl l9), (7, vl l7), (5, vl l5), (3, vl l3), (2, vi l2), (0, .ref 131), (1, vi l1)] [] (up2 s176.1 131 7 0, s176.2) _
            have hK177 : KI (up2 s176.1 131 7 0) := (KI_up hK176 rfl (kb_no rfl))
            refine wr_n (pc2 := 101) (lv2 := [(18, vi l18), (17, vi l17), (16, vi l16), (15, vi l15), (13, vl l13), (11, vl l11), (9, vl l9), (7, vl l7), (5, vl l5), (3, vl l3), (2, vi l2), (0, .ref 131), (1, vi l1)]) (st2 := [vl 0, .ref 131]) 2 (fun _ _ => rfl) ?_
            refine wr_put (z := 0) rfl rfl rfl rfl (by decide) rfl (by decide) rfl (by first | exact ⟨by omega, by omega⟩ | assumption) (fit_l _) ?_
            show wr (4 * n + 150) tb_M70 104 [(18, vi l18), (17, vi l17), (16, vi l16), (15, vi l15), (13, vl l13), (11, vl l11), (9, vl l9), (7, vl l7), (5, vl l5), (3, vl l3), (2, vi l2), (0, .ref 131), (1, vi l1)] [] (up2 (up2 s176.1 131 7 0) 131 8 0, s176.2) _
            have hK178 : KI (up2 (up2 s176.1 131 7 0) 131 8 0) := (KI_up (KI_up hK176 rfl (kb_no rfl)) rfl (kb_no rfl))
            refine wr_n (pc2 := 106) (lv2 := [(18, vi l18), (17, vi l17), (16, vi l16), (15, vi l15), (13, vl l13), (11, vl l11), (9, vl l9), (7, vl l7), (5, vl l5), (3, vl l3), (2, vi l2), (0, .ref 131), (1, vi l1)]) (st2 := [vl 0, .ref 131]) 2 (fun _ _ => rfl) ?_
            refine wr_put (z := 0) rfl rfl rfl rfl (by decide) rfl (by decide) rfl (by first | exact ⟨by omega, by omega⟩ | assumption) (fit_l _) ?_
            show wr (4 * n + 150) tb_M70 109 [(18, vi l18), (17, vi l17), (16, vi l16), (15, vi l15), (13, vl l13), (11, vl l11), (9, vl l9), (7, vl l7), (5, vl l5), (3, vl l3), (2, vi l2), (0, .ref 131), (1, vi l1)] [] (up2 (up2 (up2 s176.1 131 7 0) 131 8 0) 131 9 0, s176.2) _
            have hK179 : KI (up2 (up2 (up2 s176.1 131 7 0) 131 8 0) 131 9 0) := (KI_up (KI_up (KI_up hK176 rfl (kb_no rfl)) rfl (kb_no rfl)) rfl (kb_no rfl))
            refine wr_n (pc2 := 112) (lv2 := [(18, vi l18), (17, vi l17), (16, vi l16), (15, vi l15), (13, vl l13), (11, vl l11), (9, vl l9), (7, vl l7), (5, vl l5), (3, vl l3), (2, vi l2), (0, .ref 131), (1, vi l1)]) (st2 := [vi 1, vi l1, .ref 131]) 3 (fun _ _ => rfl) ?_
            refine wr_add (a := l1) (b := 1) rfl ?_
            show wr (4 * n + 150) tb_M70 113 [(18, vi l18), (17, vi l17), (16, vi l16), (15, vi l15), (13, vl l13), (11, vl l11), (9, vl l9), (7, vl l7), (5, vl l5), (3, vl l3), (2, vi l2), (0, .ref 131), (1, vi l1)] [vi (l1 + 1), .ref 131] (up2 (up2 (up2 s176.1 131 7 0) 131 8 0) 131 9 0, s176.2) _
            refine wr_call1T (args := [vi (l1 + 1)]) (rest := []) rfl rfl rfl rfl (Nat.le_of_ble_eq_true rfl) rfl (cr_mono (hSt C (up2 (up2 (up2 s176.1 131 7 0) 131 8 0) 131 9 0, s176.2) (l1 + 1) hC hK179 (show (up2 (up2 (up2 s176.1 131 7 0) 131 8 0) 131 9 0) 131 1 = ((C : Nat) : Int) from ((if_neg (by omega)).trans ((if_neg (by omega)).trans ((if_neg (by omega)).trans hq176)))) (by omega)) ?_)
            rintro s180 out ⟨hK180, hY180, ⟨z180, hc180, rfl, hz180, hp180⟩ | ⟨rfl, hc180⟩⟩
            · refine .inl ⟨_, rfl, ?_⟩
              have hX180 : FX s0.1 s180.1 := FX_tr (FX_up (FX_up (FX_up hX176 (by unfold fx; omega)) (by unfold fx; omega)) (by unfold fx; omega)) hY180
              have hC180 : s180.2 = s0.2 := hc180.trans hC176
              have hq180 : s180.1 131 1 = (C : Int) := (hY180 131 1 (by unfold fx; omega)).trans (show (up2 (up2 (up2 s176.1 131 7 0) 131 8 0) 131 9 0) 131 1 = ((C : Nat) : Int) from ((if_neg (by omega)).trans ((if_neg (by omega)).trans ((if_neg (by omega)).trans hq176))))
              unfold i32 at hz180
              clear hp180
              show wr (4 * n + 150) tb_M70 116 [(18, vi l18), (17, vi l17), (16, vi l16), (15, vi l15), (13, vl l13), (11, vl l11), (9, vl l9), (7, vl l7), (5, vl l5), (3, vl l3), (2, vi l2), (0, .ref 131), (1, vi l1)] [vi z180] s180 _
              refine wr_n (pc2 := 119) (lv2 := [(19, vi z180), (18, vi l18), (17, vi l17), (16, vi l16), (15, vi l15), (13, vl l13), (11, vl l11), (9, vl l9), (7, vl l7), (5, vl l5), (3, vl l3), (2, vi l2), (0, .ref 131), (1, vi l1)]) (st2 := [.ref 131]) 2 (fun _ _ => rfl) ?_
              refine wr_get (v := .ref C) rfl rfl rfl (by decide) (rv_ref (show (s180.1) 131 1 = ((C : Nat) : Int) from hq180)) fun h181 => ?_
              show wr (4 * n + 150) tb_M70 122 [(19, vi z180), (18, vi l18), (17, vi l17), (16, vi l16), (15, vi l15), (13, vl l13), (11, vl l11), (9, vl l9), (7, vl l7), (5, vl l5), (3, vl l3), (2, vi l2), (0, .ref 131), (1, vi l1)] [.ref C] s180 _
              refine wr_n (pc2 := 126) (lv2 := [(19, vi z180), (18, vi l18), (17, vi l17), (16, vi l16), (15, vi l15), (13, vl l13), (11, vl l11), (9, vl l9), (7, vl l7), (5, vl l5), (3, vl l3), (2, vi l2), (0, .ref 131), (1, vi l1)]) (st2 := [vi z180, vi l17, .ref C]) 2 (fun _ _ => rfl) ?_
              refine wr_call1 (args := [vi l17, vi z180]) (rest := []) rfl rfl rfl (TK0 hC) (Nat.le_of_ble_eq_true rfl) (cr_mono (k_link (d := 4 * n + 148) (C := C) hC (x := l17) (y := z180) s180 hK180 (by omega) (by omega)) ?_)
              rintro s182 out ⟨hK182, hY182, hc182, rfl⟩
              refine ⟨_, rfl, ?_⟩
              have hX182 : FX s0.1 s182.1 := FX_tr hX180 hY182
              have hC182 : s182.2 = s0.2 := hc182.trans hC180
              have hq182 : s182.1 131 1 = (C : Int) := (hY182 131 1 (by unfold fx; omega)).trans hq180
              show wr (4 * n + 150) tb_M70 129 [(19, vi z180), (18, vi l18), (17, vi l17), (16, vi l16), (15, vi l15), (13, vl l13), (11, vl l11), (9, vl l9), (7, vl l7), (5, vl l5), (3, vl l3), (2, vi l2), (0, .ref 131), (1, vi l1)] [] s182 _
              refine wr_n (pc2 := 131) (lv2 := [(19, vi z180), (18, vi l18), (17, vi l17), (16, vi l16), (15, vi l15), (13, vl l13), (11, vl l11), (9, vl l9), (7, vl l7), (5, vl l5), (3, vl l3), (2, vi l2), (0, .ref 131), (1, vi l1)]) (st2 := [vi l18]) 1 (fun _ _ => rfl) ?_
              by_cases h183 : l18 ≠ 0
              · refine wr_if1t rfl rfl (by unfold i32; omega) h183 ?_
                refine wr_n (pc2 := 150) (lv2 := [(17, vi z180), (16, vi l16), (19, vi z180), (18, vi l18), (15, vi l15), (13, vl l13), (11, vl l11), (9, vl l9), (7, vl l7), (5, vl l5), (3, vl l3), (2, vi l2), (0, .ref 131), (1, vi l1)]) (st2 := [.ref 131, vi l15]) 6 (fun _ _ => rfl) ?_
                refine wr_get (v := vl (s182.1 131 8)) rfl rfl rfl (by decide) rfl fun h184 => ?_
                show wr (4 * n + 150) tb_M70 153 [(17, vi z180), (16, vi l16), (19, vi z180), (18, vi l18), (15, vi l15), (13, vl l13), (11, vl l11), (9, vl l9), (7, vl l7), (5, vl l5), (3, vl l3), (2, vi l2), (0, .ref 131), (1, vi l1)] [vl (s182.1 131 8), vi l15] s182 _
                refine wr_n (pc2 := 155) (lv2 := [(17, vi z180), (16, vi l16), (19, vi z180), (18, vi l18), (15, vi l15), (13, vl l13), (11, vl l11), (9, vl l9), (7, vl l7), (5, vl l5), (3, vl l3), (2, vi l2), (0, .ref 131), (1, vi l1)]) (st2 := [vl l9, vl (s182.1 131 8), vi l15]) 1 (fun _ _ => rfl) ?_
                refine wr_anyl (a := s182.1 131 8) (b := l9) rfl rfl fun z185 h186 _ => ?_
                show wr (4 * n + 150) tb_M70 156 [(17, vi z180), (16, vi l16), (19, vi z180), (18, vi l18), (15, vi l15), (13, vl l13), (11, vl l11), (9, vl l9), (7, vl l7), (5, vl l5), (3, vl l3), (2, vi l2), (0, .ref 131), (1, vi l1)] [vl z185, vi l15] s182 _
                refine wr_n (pc2 := 157) (lv2 := [(17, vi z180), (16, vi l16), (19, vi z180), (18, vi l18), (15, vi l15), (13, vl l13), (11, vl l11), (9, vl l9), (7, vl l7), (5, vl l5), (3, vl l3), (2, vi l2), (0, .ref 131), (1, vi l1)]) (st2 := [.ref 131, vl z185, vi l15]) 1 (fun _ _ => rfl) ?_
                refine wr_get (v := vl (s182.1 131 7)) rfl rfl rfl (by decide) rfl fun h187 => ?_
                show wr (4 * n + 150) tb_M70 160 [(17, vi z180), (16, vi l16), (19, vi z180), (18, vi l18), (15, vi l15), (13, vl l13), (11, vl l11), (9, vl l9), (7, vl l7), (5, vl l5), (3, vl l3), (2, vi l2), (0, .ref 131), (1, vi l1)] [vl (s182.1 131 7), vl z185, vi l15] s182 _
                refine wr_n (pc2 := 162) (lv2 := [(17, vi z180), (16, vi l16), (19, vi z180), (18, vi l18), (15, vi l15), (13, vl l13), (11, vl l11), (9, vl l9), (7, vl l7), (5, vl l5), (3, vl l3), (2, vi l2), (0, .ref 131), (1, vi l1)]) (st2 := [vl l11, vl (s182.1 131 7), vl z185, vi l15]) 1 (fun _ _ => rfl) ?_
                refine wr_anyl (a := s182.1 131 7) (b := l11) rfl rfl fun z188 h189 _ => ?_
                show wr (4 * n + 150) tb_M70 163 [(17, vi z180), (16, vi l16), (19, vi z180), (18, vi l18), (15, vi l15), (13, vl l13), (11, vl l11), (9, vl l9), (7, vl l7), (5, vl l5), (3, vl l3), (2, vi l2), (0, .ref 131), (1, vi l1)] [vl z188, vl z185, vi l15] s182 _
                refine wr_anyl (a := z185) (b := z188) rfl rfl fun z190 h191 _ => ?_
                show wr (4 * n + 150) tb_M70 164 [(17, vi z180), (16, vi l16), (19, vi z180), (18, vi l18), (15, vi l15), (13, vl l13), (11, vl l11), (9, vl l9), (7, vl l7), (5, vl l5), (3, vl l3), (2, vi l2), (0, .ref 131), (1, vi l1)] [vl z190, vi l15] s182 _
                refine wr_n (pc2 := 165) (lv2 := [(17, vi z180), (16, vi l16), (19, vi z180), (18, vi l18), (15, vi l15), (13, vl l13), (11, vl l11), (9, vl l9), (7, vl l7), (5, vl l5), (3, vl l3), (2, vi l2), (0, .ref 131), (1, vi l1)]) (st2 := [.ref 131, vl z190, vi l15]) 1 (fun _ _ => rfl) ?_
                refine wr_get (v := vl (s182.1 131 9)) rfl rfl rfl (by decide) rfl fun h192 => ?_
                show wr (4 * n + 150) tb_M70 168 [(17, vi z180), (16, vi l16), (19, vi z180), (18, vi l18), (15, vi l15), (13, vl l13), (11, vl l11), (9, vl l9), (7, vl l7), (5, vl l5), (3, vl l3), (2, vi l2), (0, .ref 131), (1, vi l1)] [vl (s182.1 131 9), vl z190, vi l15] s182 _
                refine wr_n (pc2 := 170) (lv2 := [(17, vi z180), (16, vi l16), (19, vi z180), (18, vi l18), (15, vi l15), (13, vl l13), (11, vl l11), (9, vl l9), (7, vl l7), (5, vl l5), (3, vl l3), (2, vi l2), (0, .ref 131), (1, vi l1)]) (st2 := [vl l13, vl (s182.1 131 9), vl z190, vi l15]) 1 (fun _ _ => rfl) ?_
                refine wr_anyl (a := s182.1 131 9) (b := l13) rfl rfl fun z193 h194 _ => ?_
                show wr (4 * n + 150) tb_M70 171 [(17, vi z180), (16, vi l16), (19, vi z180), (18, vi l18), (15, vi l15), (13, vl l13), (11, vl l11), (9, vl l9), (7, vl l7), (5, vl l5), (3, vl l3), (2, vi l2), (0, .ref 131), (1, vi l1)] [vl z193, vl z190, vi l15] s182 _
                refine wr_anyl (a := z190) (b := z193) rfl rfl fun z195 h196 _ => ?_
                show wr (4 * n + 150) tb_M70 172 [(17, vi z180), (16, vi l16), (19, vi z180), (18, vi l18), (15, vi l15), (13, vl l13), (11, vl l11), (9, vl l9), (7, vl l7), (5, vl l5), (3, vl l3), (2, vi l2), (0, .ref 131), (1, vi l1)] [vl z195, vi l15] s182 _
                refine wr_n (pc2 := 173) (lv2 := [(17, vi z180), (16, vi l16), (19, vi z180), (18, vi l18), (15, vi l15), (13, vl l13), (11, vl l11), (9, vl l9), (7, vl l7), (5, vl l5), (3, vl l3), (2, vi l2), (0, .ref 131), (1, vi l1)]) (st2 := [vl 0, vl z195, vi l15]) 1 (fun _ _ => rfl) ?_
                refine wr_lcmp (a := z195) (b := 0) rfl h196 (by unfold i64; omega) fun z197 h198 => ?_
                show wr (4 * n + 150) tb_M70 174 [(17, vi z180), (16, vi l16), (19, vi z180), (18, vi l18), (15, vi l15), (13, vl l13), (11, vl l11), (9, vl l9), (7, vl l7), (5, vl l5), (3, vl l3), (2, vi l2), (0, .ref 131), (1, vi l1)] [vi z197, vi l15] s182 _
                by_cases h199 : z197 = 0
                · refine wr_if1t rfl rfl (by unfold i32; omega) h199 ?_
                  refine wr_n (pc2 := 182) (lv2 := [(17, vi z180), (16, vi l16), (19, vi z180), (18, vi l18), (15, vi l15), (13, vl l13), (11, vl l11), (9, vl l9), (7, vl l7), (5, vl l5), (3, vl l3), (2, vi l2), (0, .ref 131), (1, vi l1)]) (st2 := [vi 0, vi l15]) 1 (fun _ _ => rfl) ?_
                  refine wr_any2 rfl rfl fun z200 h201 => ?_
                  unfold i32 at h201
                  show wr (4 * n + 150) tb_M70 183 [(17, vi z180), (16, vi l16), (19, vi z180), (18, vi l18), (15, vi l15), (13, vl l13), (11, vl l11), (9, vl l9), (7, vl l7), (5, vl l5), (3, vl l3), (2, vi l2), (0, .ref 131), (1, vi l1)] [vi z200] s182 _
                  refine wr_n (pc2 := 188) (lv2 := [(15, vi z200), (17, vi z180), (16, vi l16), (19, vi z180), (18, vi l18), (13, vl l13), (11, vl l11), (9, vl l9), (7, vl l7), (5, vl l5), (3, vl l3), (2, vi l2), (0, .ref 131), (1, vi l1)]) (st2 := [.ref 131, vl l9]) 3 (fun _ _ => rfl) ?_
                  refine wr_get (v := vl (s182.1 131 7)) rfl rfl rfl (by decide) rfl fun h202 => ?_
                  show wr (4 * n + 150) tb_M70 191 [(15, vi z200), (17, vi z180), (16, vi l16), (19, vi z180), (18, vi l18), (13, vl l13), (11, vl l11), (9, vl l9), (7, vl l7), (5, vl l5), (3, vl l3), (2, vi l2), (0, .ref 131), (1, vi l1)] [vl (s182.1 131 7), vl l9] s182 _
                  refine wr_anyl (a := l9) (b := s182.1 131 7) rfl rfl fun z203 h204 _ => ?_
                  show wr (4 * n + 150) tb_M70 192 [(15, vi z200), (17, vi z180), (16, vi l16), (19, vi z180), (18, vi l18), (13, vl l13), (11, vl l11), (9, vl l9), (7, vl l7), (5, vl l5), (3, vl l3), (2, vi l2), (0, .ref 131), (1, vi l1)] [vl z203] s182 _
                  refine wr_n (pc2 := 197) (lv2 := [(9, vl z203), (15, vi z200), (17, vi z180), (16, vi l16), (19, vi z180), (18, vi l18), (13, vl l13), (11, vl l11), (7, vl l7), (5, vl l5), (3, vl l3), (2, vi l2), (0, .ref 131), (1, vi l1)]) (st2 := [.ref 131, vl l11]) 3 (fun _ _ => rfl) ?_
                  refine wr_get (v := vl (s182.1 131 8)) rfl rfl rfl (by decide) rfl fun h205 => ?_
                  show wr (4 * n + 150) tb_M70 200 [(9, vl z203), (15, vi z200), (17, vi z180), (16, vi l16), (19, vi z180), (18, vi l18), (13, vl l13), (11, vl l11), (7, vl l7), (5, vl l5), (3, vl l3), (2, vi l2), (0, .ref 131), (1, vi l1)] [vl (s182.1 131 8), vl l11] s182 _
                  refine wr_anyl (a := l11) (b := s182.1 131 8) rfl rfl fun z206 h207 _ => ?_
                  show wr (4 * n + 150) tb_M70 201 [(9, vl z203), (15, vi z200), (17, vi z180), (16, vi l16), (19, vi z180), (18, vi l18), (13, vl l13), (11, vl l11), (7, vl l7), (5, vl l5), (3, vl l3), (2, vi l2), (0, .ref 131), (1, vi l1)] [vl z206] s182 _
                  refine wr_n (pc2 := 206) (lv2 := [(11, vl z206), (9, vl z203), (15, vi z200), (17, vi z180), (16, vi l16), (19, vi z180), (18, vi l18), (13, vl l13), (7, vl l7), (5, vl l5), (3, vl l3), (2, vi l2), (0, .ref 131), (1, vi l1)]) (st2 := [.ref 131, vl l13]) 3 (fun _ _ => rfl) ?_
                  refine wr_get (v := vl (s182.1 131 9)) rfl rfl rfl (by decide) rfl fun h208 => ?_
                  show wr (4 * n + 150) tb_M70 209 [(11, vl z206), (9, vl z203), (15, vi z200), (17, vi z180), (16, vi l16), (19, vi z180), (18, vi l18), (13, vl l13), (7, vl l7), (5, vl l5), (3, vl l3), (2, vi l2), (0, .ref 131), (1, vi l1)] [vl (s182.1 131 9), vl l13] s182 _
                  refine wr_anyl (a := l13) (b := s182.1 131 9) rfl rfl fun z209 h210 _ => ?_
                  show wr (4 * n + 150) tb_M70 210 [(11, vl z206), (9, vl z203), (15, vi z200), (17, vi z180), (16, vi l16), (19, vi z180), (18, vi l18), (13, vl l13), (7, vl l7), (5, vl l5), (3, vl l3), (2, vi l2), (0, .ref 131), (1, vi l1)] [vl z209] s182 _
                  refine wr_n (pc2 := 212) (lv2 := [(13, vl z209), (11, vl z206), (9, vl z203), (15, vi z200), (17, vi z180), (16, vi l16), (19, vi z180), (18, vi l18), (7, vl l7), (5, vl l5), (3, vl l3), (2, vi l2), (0, .ref 131), (1, vi l1)]) (st2 := []) 1 (fun _ _ => rfl) ?_
                  refine wr_inc (a := l18) rfl rfl ?_
                  show wr (4 * n + 150) tb_M70 215 [(18, vi (l18 + 1)), (13, vl z209), (11, vl z206), (9, vl z203), (15, vi z200), (17, vi z180), (16, vi l16), (19, vi z180), (7, vl l7), (5, vl l5), (3, vl l3), (2, vi l2), (0, .ref 131), (1, vi l1)] [] s182 _
                  refine wr_n (pc2 := 53) (lv2 := [(18, vi (l18 + 1)), (13, vl z209), (11, vl z206), (9, vl z203), (15, vi z200), (17, vi z180), (16, vi l16), (19, vi z180), (7, vl l7), (5, vl l5), (3, vl l3), (2, vi l2), (0, .ref 131), (1, vi l1)]) (st2 := []) 1 (fun _ _ => rfl) ?_
                  exact k_branches_53v2 hC hSt _ (l18 + 1) z209 z206 z203 z200 z180 l16 z180 l7 l5 l3 l2 l1 s182 rfl hK182 hq182 hX182 hC182 (by omega) h210 h207 h204 (by omega) (by omega) (by omega) (by omega) hl7 hl5 hl3 (by omega) (by omega) (by omega) 
                · refine wr_if1f rfl rfl (by unfold i32; omega) h199 ?_
                  refine wr_n (pc2 := 182) (lv2 := [(17, vi z180), (16, vi l16), (19, vi z180), (18, vi l18), (15, vi l15), (13, vl l13), (11, vl l11), (9, vl l9), (7, vl l7), (5, vl l5), (3, vl l3), (2, vi l2), (0, .ref 131), (1, vi l1)]) (st2 := [vi 1, vi l15]) 2 (fun _ _ => rfl) ?_
                  refine wr_any2 rfl rfl fun z211 h212 => ?_
                  unfold i32 at h212
                  show wr (4 * n + 150) tb_M70 183 [(17, vi z180), (16, vi l16), (19, vi z180), (18, vi l18), (15, vi l15), (13, vl l13), (11, vl l11), (9, vl l9), (7, vl l7), (5, vl l5), (3, vl l3), (2, vi l2), (0, .ref 131), (1, vi l1)] [vi z211] s182 _
                  refine wr_n (pc2 := 188) (lv2 := [(15, vi z211), (17, vi z180), (16, vi l16), (19, vi z180), (18, vi l18), (13, vl l13), (11, vl l11), (9, vl l9), (7, vl l7), (5, vl l5), (3, vl l3), (2, vi l2), (0, .ref 131), (1, vi l1)]) (st2 := [.ref 131, vl l9]) 3 (fun _ _ => rfl) ?_
                  refine wr_get (v := vl (s182.1 131 7)) rfl rfl rfl (by decide) rfl fun h213 => ?_
                  show wr (4 * n + 150) tb_M70 191 [(15, vi z211), (17, vi z180), (16, vi l16), (19, vi z180), (18, vi l18), (13, vl l13), (11, vl l11), (9, vl l9), (7, vl l7), (5, vl l5), (3, vl l3), (2, vi l2), (0, .ref 131), (1, vi l1)] [vl (s182.1 131 7), vl l9] s182 _
                  refine wr_anyl (a := l9) (b := s182.1 131 7) rfl rfl fun z214 h215 _ => ?_
                  show wr (4 * n + 150) tb_M70 192 [(15, vi z211), (17, vi z180), (16, vi l16), (19, vi z180), (18, vi l18), (13, vl l13), (11, vl l11), (9, vl l9), (7, vl l7), (5, vl l5), (3, vl l3), (2, vi l2), (0, .ref 131), (1, vi l1)] [vl z214] s182 _
                  refine wr_n (pc2 := 197) (lv2 := [(9, vl z214), (15, vi z211), (17, vi z180), (16, vi l16), (19, vi z180), (18, vi l18), (13, vl l13), (11, vl l11), (7, vl l7), (5, vl l5), (3, vl l3), (2, vi l2), (0, .ref 131), (1, vi l1)]) (st2 := [.ref 131, vl l11]) 3 (fun _ _ => rfl) ?_
                  refine wr_get (v := vl (s182.1 131 8)) rfl rfl rfl (by decide) rfl fun h216 => ?_
                  show wr (4 * n + 150) tb_M70 200 [(9, vl z214), (15, vi z211), (17, vi z180), (16, vi l16), (19, vi z180), (18, vi l18), (13, vl l13), (11, vl l11), (7, vl l7), (5, vl l5), (3, vl l3), (2, vi l2), (0, .ref 131), (1, vi l1)] [vl (s182.1 131 8), vl l11] s182 _
                  refine wr_anyl (a := l11) (b := s182.1 131 8) rfl rfl fun z217 h218 _ => ?_
                  show wr (4 * n + 150) tb_M70 201 [(9, vl z214), (15, vi z211), (17, vi z180), (16, vi l16), (19, vi z180), (18, vi l18), (13, vl l13), (11, vl l11), (7, vl l7), (5, vl l5), (3, vl l3), (2, vi l2), (0, .ref 131), (1, vi l1)] [vl z217] s182 _
                  refine wr_n (pc2 := 206) (lv2 := [(11, vl z217), (9, vl z214), (15, vi z211), (17, vi z180), (16, vi l16), (19, vi z180), (18, vi l18), (13, vl l13), (7, vl l7), (5, vl l5), (3, vl l3), (2, vi l2), (0, .ref 131), (1, vi l1)]) (st2 := [.ref 131, vl l13]) 3 (fun _ _ => rfl) ?_
                  refine wr_get (v := vl (s182.1 131 9)) rfl rfl rfl (by decide) rfl fun h219 => ?_
                  show wr (4 * n + 150) tb_M70 209 [(11, vl z217), (9, vl z214), (15, vi z211), (17, vi z180), (16, vi l16), (19, vi z180), (18, vi l18), (13, vl l13), (7, vl l7), (5, vl l5), (3, vl l3), (2, vi l2), (0, .ref 131), (1, vi l1)] [vl (s182.1 131 9), vl l13] s182 _
                  refine wr_anyl (a := l13) (b := s182.1 131 9) rfl rfl fun z220 h221 _ => ?_
                  show wr (4 * n + 150) tb_M70 210 [(11, vl z217), (9, vl z214), (15, vi z211), (17, vi z180), (16, vi l16), (19, vi z180), (18, vi l18), (13, vl l13), (7, vl l7), (5, vl l5), (3, vl l3), (2, vi l2), (0, .ref 131), (1, vi l1)] [vl z220] s182 _
                  refine wr_n (pc2 := 212) (lv2 := [(13, vl z220), (11, vl z217), (9, vl z214), (15, vi z211), (17, vi z180), (16, vi l16), (19, vi z180), (18, vi l18), (7, vl l7), (5, vl l5), (3, vl l3), (2, vi l2), (0, .ref 131), (1, vi l1)]) (st2 := []) 1 (fun _ _ => rfl) ?_
                  refine wr_inc (a := l18) rfl rfl ?_
                  show wr (4 * n + 150) tb_M70 215 [(18, vi (l18 + 1)), (13, vl z220), (11, vl z217), (9, vl z214), (15, vi z211), (17, vi z180), (16, vi l16), (19, vi z180), (7, vl l7), (5, vl l5), (3, vl l3), (2, vi l2), (0, .ref 131), (1, vi l1)] [] s182 _
                  refine wr_n (pc2 := 53) (lv2 := [(18, vi (l18 + 1)), (13, vl z220), (11, vl z217), (9, vl z214), (15, vi z211), (17, vi z180), (16, vi l16), (19, vi z180), (7, vl l7), (5, vl l5), (3, vl l3), (2, vi l2), (0, .ref 131), (1, vi l1)]) (st2 := []) 1 (fun _ _ => rfl) ?_
                  exact k_branches_53v2 hC hSt _ (l18 + 1) z220 z217 z214 z211 z180 l16 z180 l7 l5 l3 l2 l1 s182 rfl hK182 hq182 hX182 hC182 (by omega) h221 h218 h215 (by omega) (by omega) (by omega) (by omega) hl7 hl5 hl3 (by omega) (by omega) (by omega) 
              · refine wr_if1f rfl rfl (by unfold i32; omega) h183 ?_
                refine wr_n (pc2 := 150) (lv2 := [(17, vi z180), (16, vi z180), (19, vi z180), (18, vi l18), (15, vi l15), (13, vl l13), (11, vl l11), (9, vl l9), (7, vl l7), (5, vl l5), (3, vl l3), (2, vi l2), (0, .ref 131), (1, vi l1)]) (st2 := [.ref 131, vi l15]) 7 (fun _ _ => rfl) ?_
                refine wr_get (v := vl (s182.1 131 8)) rfl rfl rfl (by decide) rfl fun h222 => ?_
                show wr (4 * n + 150) tb_M70 153 [(17, vi z180), (16, vi z180), (19, vi z180), (18, vi l18), (15, vi l15), (13, vl l13), (11, vl l11), (9, vl l9), (7, vl l7), (5, vl l5), (3, vl l3), (2, vi l2), (0, .ref 131), (1, vi l1)] [vl (s182.1 131 8), vi l15] s182 _
                refine wr_n (pc2 := 155) (lv2 := [(17, vi z180), (16, vi z180), (19, vi z180), (18, vi l18), (15, vi l15), (13, vl l13), (11, vl l11), (9, vl l9), (7, vl l7), (5, vl l5), (3, vl l3), (2, vi l2), (0, .ref 131), (1, vi l1)]) (st2 := [vl l9, vl (s182.1 131 8), vi l15]) 1 (fun _ _ => rfl) ?_
                refine wr_anyl (a := s182.1 131 8) (b := l9) rfl rfl fun z223 h224 _ => ?_
                show wr (4 * n + 150) tb_M70 156 [(17, vi z180), (16, vi z180), (19, vi z180), (18, vi l18), (15, vi l15), (13, vl l13), (11, vl l11), (9, vl l9), (7, vl l7), (5, vl l5), (3, vl l3), (2, vi l2), (0, .ref 131), (1, vi l1)] [vl z223, vi l15] s182 _
                refine wr_n (pc2 := 157) (lv2 := [(17, vi z180), (16, vi z180), (19, vi z180), (18, vi l18), (15, vi l15), (13, vl l13), (11, vl l11), (9, vl l9), (7, vl l7), (5, vl l5), (3, vl l3), (2, vi l2), (0, .ref 131), (1, vi l1)]) (st2 := [.ref 131, vl z223, vi l15]) 1 (fun _ _ => rfl) ?_
                refine wr_get (v := vl (s182.1 131 7)) rfl rfl rfl (by decide) rfl fun h225 => ?_
                show wr (4 * n + 150) tb_M70 160 [(17, vi z180), (16, vi z180), (19, vi z180), (18, vi l18), (15, vi l15), (13, vl l13), (11, vl l11), (9, vl l9), (7, vl l7), (5, vl l5), (3, vl l3), (2, vi l2), (0, .ref 131), (1, vi l1)] [vl (s182.1 131 7), vl z223, vi l15] s182 _
                refine wr_n (pc2 := 162) (lv2 := [(17, vi z180), (16, vi z180), (19, vi z180), (18, vi l18), (15, vi l15), (13, vl l13), (11, vl l11), (9, vl l9), (7, vl l7), (5, vl l5), (3, vl l3), (2, vi l2), (0, .ref 131), (1, vi l1)]) (st2 := [vl l11, vl (s182.1 131 7), vl z223, vi l15]) 1 (fun _ _ => rfl) ?_
                refine wr_anyl (a := s182.1 131 7) (b := l11) rfl rfl fun z226 h227 _ => ?_
                show wr (4 * n + 150) tb_M70 163 [(17, vi z180), (16, vi z180), (19, vi z180), (18, vi l18), (15, vi l15), (13, vl l13), (11, vl l11), (9, vl l9), (7, vl l7), (5, vl l5), (3, vl l3), (2, vi l2), (0, .ref 131), (1, vi l1)] [vl z226, vl z223, vi l15] s182 _
                refine wr_anyl (a := z223) (b := z226) rfl rfl fun z228 h229 _ => ?_
                show wr (4 * n + 150) tb_M70 164 [(17, vi z180), (16, vi z180), (19, vi z180), (18, vi l18), (15, vi l15), (13, vl l13), (11, vl l11), (9, vl l9), (7, vl l7), (5, vl l5), (3, vl l3), (2, vi l2), (0, .ref 131), (1, vi l1)] [vl z228, vi l15] s182 _
                refine wr_n (pc2 := 165) (lv2 := [(17, vi z180), (16, vi z180), (19, vi z180), (18, vi l18), (15, vi l15), (13, vl l13), (11, vl l11), (9, vl l9), (7, vl l7), (5, vl l5), (3, vl l3), (2, vi l2), (0, .ref 131), (1, vi l1)]) (st2 := [.ref 131, vl z228, vi l15]) 1 (fun _ _ => rfl) ?_
                refine wr_get (v := vl (s182.1 131 9)) rfl rfl rfl (by decide) rfl fun h230 => ?_
                show wr (4 * n + 150) tb_M70 168 [(17, vi z180), (16, vi z180), (19, vi z180), (18, vi l18), (15, vi l15), (13, vl l13), (11, vl l11), (9, vl l9), (7, vl l7), (5, vl l5), (3, vl l3), (2, vi l2), (0, .ref 131), (1, vi l1)] [vl (s182.1 131 9), vl z228, vi l15] s182 _
                refine wr_n (pc2 := 170) (lv2 := [(17, vi z180), (16, vi z180), (19, vi z180), (18, vi l18), (15, vi l15), (13, vl l13), (11, vl l11), (9, vl l9), (7, vl l7), (5, vl l5), (3, vl l3), (2, vi l2), (0, .ref 131), (1, vi l1)]) (st2 := [vl l13, vl (s182.1 131 9), vl z228, vi l15]) 1 (fun _ _ => rfl) ?_
                refine wr_anyl (a := s182.1 131 9) (b := l13) rfl rfl fun z231 h232 _ => ?_
                show wr (4 * n + 150) tb_M70 171 [(17, vi z180), (16, vi z180), (19, vi z180), (18, vi l18), (15, vi l15), (13, vl l13), (11, vl l11), (9, vl l9), (7, vl l7), (5, vl l5), (3, vl l3), (2, vi l2), (0, .ref 131), (1, vi l1)] [vl z231, vl z228, vi l15] s182 _
                refine wr_anyl (a := z228) (b := z231) rfl rfl fun z233 h234 _ => ?_
                show wr (4 * n + 150) tb_M70 172 [(17, vi z180), (16, vi z180), (19, vi z180), (18, vi l18), (15, vi l15), (13, vl l13), (11, vl l11), (9, vl l9), (7, vl l7), (5, vl l5), (3, vl l3), (2, vi l2), (0, .ref 131), (1, vi l1)] [vl z233, vi l15] s182 _
                refine wr_n (pc2 := 173) (lv2 := [(17, vi z180), (16, vi z180), (19, vi z180), (18, vi l18), (15, vi l15), (13, vl l13), (11, vl l11), (9, vl l9), (7, vl l7), (5, vl l5), (3, vl l3), (2, vi l2), (0, .ref 131), (1, vi l1)]) (st2 := [vl 0, vl z233, vi l15]) 1 (fun _ _ => rfl) ?_
                refine wr_lcmp (a := z233) (b := 0) rfl h234 (by unfold i64; omega) fun z235 h236 => ?_
                show wr (4 * n + 150) tb_M70 174 [(17, vi z180), (16, vi z180), (19, vi z180), (18, vi l18), (15, vi l15), (13, vl l13), (11, vl l11), (9, vl l9), (7, vl l7), (5, vl l5), (3, vl l3), (2, vi l2), (0, .ref 131), (1, vi l1)] [vi z235, vi l15] s182 _
                by_cases h237 : z235 = 0
                · refine wr_if1t rfl rfl (by unfold i32; omega) h237 ?_
                  refine wr_n (pc2 := 182) (lv2 := [(17, vi z180), (16, vi z180), (19, vi z180), (18, vi l18), (15, vi l15), (13, vl l13), (11, vl l11), (9, vl l9), (7, vl l7), (5, vl l5), (3, vl l3), (2, vi l2), (0, .ref 131), (1, vi l1)]) (st2 := [vi 0, vi l15]) 1 (fun _ _ => rfl) ?_
                  refine wr_any2 rfl rfl fun z238 h239 => ?_
                  unfold i32 at h239
                  show wr (4 * n + 150) tb_M70 183 [(17, vi z180), (16, vi z180), (19, vi z180), (18, vi l18), (15, vi l15), (13, vl l13), (11, vl l11), (9, vl l9), (7, vl l7), (5, vl l5), (3, vl l3), (2, vi l2), (0, .ref 131), (1, vi l1)] [vi z238] s182 _
                  refine wr_n (pc2 := 188) (lv2 := [(15, vi z238), (17, vi z180), (16, vi z180), (19, vi z180), (18, vi l18), (13, vl l13), (11, vl l11), (9, vl l9), (7, vl l7), (5, vl l5), (3, vl l3), (2, vi l2), (0, .ref 131), (1, vi l1)]) (st2 := [.ref 131, vl l9]) 3 (fun _ _ => rfl) ?_
                  refine wr_get (v := vl (s182.1 131 7)) rfl rfl rfl (by decide) rfl fun h240 => ?_
                  show wr (4 * n + 150) tb_M70 191 [(15, vi z238), (17, vi z180), (16, vi z180), (19, vi z180), (18, vi l18), (13, vl l13), (11, vl l11), (9, vl l9), (7, vl l7), (5, vl l5), (3, vl l3), (2, vi l2), (0, .ref 131), (1, vi l1)] [vl (s182.1 131 7), vl l9] s182 _
                  refine wr_anyl (a := l9) (b := s182.1 131 7) rfl rfl fun z241 h242 _ => ?_
                  show wr (4 * n + 150) tb_M70 192 [(15, vi z238), (17, vi z180), (16, vi z180), (19, vi z180), (18, vi l18), (13, vl l13), (11, vl l11), (9, vl l9), (7, vl l7), (5, vl l5), (3, vl l3), (2, vi l2), (0, .ref 131), (1, vi l1)] [vl z241] s182 _
                  refine wr_n (pc2 := 197) (lv2 := [(9, vl z241), (15, vi z238), (17, vi z180), (16, vi z180), (19, vi z180), (18, vi l18), (13, vl l13), (11, vl l11), (7, vl l7), (5, vl l5), (3, vl l3), (2, vi l2), (0, .ref 131), (1, vi l1)]) (st2 := [.ref 131, vl l11]) 3 (fun _ _ => rfl) ?_
                  refine wr_get (v := vl (s182.1 131 8)) rfl rfl rfl (by decide) rfl fun h243 => ?_
                  show wr (4 * n + 150) tb_M70 200 [(9, vl z241), (15, vi z238), (17, vi z180), (16, vi z180), (19, vi z180), (18, vi l18), (13, vl l13), (11, vl l11), (7, vl l7), (5, vl l5), (3, vl l3), (2, vi l2), (0, .ref 131), (1, vi l1)] [vl (s182.1 131 8), vl l11] s182 _
                  refine wr_anyl (a := l11) (b := s182.1 131 8) rfl rfl fun z244 h245 _ => ?_
                  show wr (4 * n + 150) tb_M70 201 [(9, vl z241), (15, vi z238), (17, vi z180), (16, vi z180), (19, vi z180), (18, vi l18), (13, vl l13), (11, vl l11), (7, vl l7), (5, vl l5), (3, vl l3), (2, vi l2), (0, .ref 131), (1, vi l1)] [vl z244] s182 _
                  refine wr_n (pc2 := 206) (lv2 := [(11, vl z244), (9, vl z241), (15, vi z238), (17, vi z180), (16, vi z180), (19, vi z180), (18, vi l18), (13, vl l13), (7, vl l7), (5, vl l5), (3, vl l3), (2, vi l2), (0, .ref 131), (1, vi l1)]) (st2 := [.ref 131, vl l13]) 3 (fun _ _ => rfl) ?_
                  refine wr_get (v := vl (s182.1 131 9)) rfl rfl rfl (by decide) rfl fun h246 => ?_
                  show wr (4 * n + 150) tb_M70 209 [(11, vl z244), (9, vl z241), (15, vi z238), (17, vi z180), (16, vi z180), (19, vi z180), (18, vi l18), (13, vl l13), (7, vl l7), (5, vl l5), (3, vl l3), (2, vi l2), (0, .ref 131), (1, vi l1)] [vl (s182.1 131 9), vl l13] s182 _
                  refine wr_anyl (a := l13) (b := s182.1 131 9) rfl rfl fun z247 h248 _ => ?_
                  show wr (4 * n + 150) tb_M70 210 [(11, vl z244), (9, vl z241), (15, vi z238), (17, vi z180), (16, vi z180), (19, vi z180), (18, vi l18), (13, vl l13), (7, vl l7), (5, vl l5), (3, vl l3), (2, vi l2), (0, .ref 131), (1, vi l1)] [vl z247] s182 _
                  refine wr_n (pc2 := 212) (lv2 := [(13, vl z247), (11, vl z244), (9, vl z241), (15, vi z238), (17, vi z180), (16, vi z180), (19, vi z180), (18, vi l18), (7, vl l7), (5, vl l5), (3, vl l3), (2, vi l2), (0, .ref 131), (1, vi l1)]) (st2 := []) 1 (fun _ _ => rfl) ?_
                  refine wr_inc (a := l18) rfl rfl ?_
                  show wr (4 * n + 150) tb_M70 215 [(18, vi (l18 + 1)), (13, vl z247), (11, vl z244), (9, vl z241), (15, vi z238), (17, vi z180), (16, vi z180), (19, vi z180), (7, vl l7), (5, vl l5), (3, vl l3), (2, vi l2), (0, .ref 131), (1, vi l1)] [] s182 _
                  refine wr_n (pc2 := 53) (lv2 := [(18, vi (l18 + 1)), (13, vl z247), (11, vl z244), (9, vl z241), (15, vi z238), (17, vi z180), (16, vi z180), (19, vi z180), (7, vl l7), (5, vl l5), (3, vl l3), (2, vi l2), (0, .ref 131), (1, vi l1)]) (st2 := []) 1 (fun _ _ => rfl) ?_
                  exact k_branches_53v2 hC hSt _ (l18 + 1) z247 z244 z241 z238 z180 z180 z180 l7 l5 l3 l2 l1 s182 rfl hK182 hq182 hX182 hC182 (by omega) h248 h245 h242 (by omega) (by omega) (by omega) (by omega) hl7 hl5 hl3 (by omega) (by omega) (by omega) 
                · refine wr_if1f rfl rfl (by unfold i32; omega) h237 ?_
                  refine wr_n (pc2 := 182) (lv2 := [(17, vi z180), (16, vi z180), (19, vi z180), (18, vi l18), (15, vi l15), (13, vl l13), (11, vl l11), (9, vl l9), (7, vl l7), (5, vl l5), (3, vl l3), (2, vi l2), (0, .ref 131), (1, vi l1)]) (st2 := [vi 1, vi l15]) 2 (fun _ _ => rfl) ?_
                  refine wr_any2 rfl rfl fun z249 h250 => ?_
                  unfold i32 at h250
                  show wr (4 * n + 150) tb_M70 183 [(17, vi z180), (16, vi z180), (19, vi z180), (18, vi l18), (15, vi l15), (13, vl l13), (11, vl l11), (9, vl l9), (7, vl l7), (5, vl l5), (3, vl l3), (2, vi l2), (0, .ref 131), (1, vi l1)] [vi z249] s182 _
                  refine wr_n (pc2 := 188) (lv2 := [(15, vi z249), (17, vi z180), (16, vi z180), (19, vi z180), (18, vi l18), (13, vl l13), (11, vl l11), (9, vl l9), (7, vl l7), (5, vl l5), (3, vl l3), (2, vi l2), (0, .ref 131), (1, vi l1)]) (st2 := [.ref 131, vl l9]) 3 (fun _ _ => rfl) ?_
                  refine wr_get (v := vl (s182.1 131 7)) rfl rfl rfl (by decide) rfl fun h251 => ?_
                  show wr (4 * n + 150) tb_M70 191 [(15, vi z249), (17, vi z180), (16, vi z180), (19, vi z180), (18, vi l18), (13, vl l13), (11, vl l11), (9, vl l9), (7, vl l7), (5, vl l5), (3, vl l3), (2, vi l2), (0, .ref 131), (1, vi l1)] [vl (s182.1 131 7), vl l9] s182 _
                  refine wr_anyl (a := l9) (b := s182.1 131 7) rfl rfl fun z252 h253 _ => ?_
                  show wr (4 * n + 150) tb_M70 192 [(15, vi z249), (17, vi z180), (16, vi z180), (19, vi z180), (18, vi l18), (13, vl l13), (11, vl l11), (9, vl l9), (7, vl l7), (5, vl l5), (3, vl l3), (2, vi l2), (0, .ref 131), (1, vi l1)] [vl z252] s182 _
                  refine wr_n (pc2 := 197) (lv2 := [(9, vl z252), (15, vi z249), (17, vi z180), (16, vi z180), (19, vi z180), (18, vi l18), (13, vl l13), (11, vl l11), (7, vl l7), (5, vl l5), (3, vl l3), (2, vi l2), (0, .ref 131), (1, vi l1)]) (st2 := [.ref 131, vl l11]) 3 (fun _ _ => rfl) ?_
                  refine wr_get (v := vl (s182.1 131 8)) rfl rfl rfl (by decide) rfl fun h254 => ?_
                  show wr (4 * n + 150) tb_M70 200 [(9, vl z252), (15, vi z249), (17, vi z180), (16, vi z180), (19, vi z180), (18, vi l18), (13, vl l13), (11, vl l11), (7, vl l7), (5, vl l5), (3, vl l3), (2, vi l2), (0, .ref 131), (1, vi l1)] [vl (s182.1 131 8), vl l11] s182 _
                  refine wr_anyl (a := l11) (b := s182.1 131 8) rfl rfl fun z255 h256 _ => ?_
                  show wr (4 * n + 150) tb_M70 201 [(9, vl z252), (15, vi z249), (17, vi z180), (16, vi z180), (19, vi z180), (18, vi l18), (13, vl l13), (11, vl l11), (7, vl l7), (5, vl l5), (3, vl l3), (2, vi l2), (0, .ref 131), (1, vi l1)] [vl z255] s182 _
                  refine wr_n (pc2 := 206) (lv2 := [(11, vl z255), (9, vl z252), (15, vi z249), (17, vi z180), (16, vi z180), (19, vi z180), (18, vi l18), (13, vl l13), (7, vl l7), (5, vl l5), (3, vl l3), (2, vi l2), (0, .ref 131), (1, vi l1)]) (st2 := [.ref 131, vl l13]) 3 (fun _ _ => rfl) ?_
                  refine wr_get (v := vl (s182.1 131 9)) rfl rfl rfl (by decide) rfl fun h257 => ?_
                  show wr (4 * n + 150) tb_M70 209 [(11, vl z255), (9, vl z252), (15, vi z249), (17, vi z180), (16, vi z180), (19, vi z180), (18, vi l18), (13, vl l13), (7, vl l7), (5, vl l5), (3, vl l3), (2, vi l2), (0, .ref 131), (1, vi l1)] [vl (s182.1 131 9), vl l13] s182 _
                  refine wr_anyl (a := l13) (b := s182.1 131 9) rfl rfl fun z258 h259 _ => ?_
                  show wr (4 * n + 150) tb_M70 210 [(11, vl z255), (9, vl z252), (15, vi z249), (17, vi z180), (16, vi z180), (19, vi z180), (18, vi l18), (13, vl l13), (7, vl l7), (5, vl l5), (3, vl l3), (2, vi l2), (0, .ref 131), (1, vi l1)] [vl z258] s182 _
                  refine wr_n (pc2 := 212) (lv2 := [(13, vl z258), (11, vl z255), (9, vl z252), (15, vi z249), (17, vi z180), (16, vi z180), (19, vi z180), (18, vi l18), (7, vl l7), (5, vl l5), (3, vl l3), (2, vi l2), (0, .ref 131), (1, vi l1)]) (st2 := []) 1 (fun _ _ => rfl) ?_
                  refine wr_inc (a := l18) rfl rfl ?_
                  show wr (4 * n + 150) tb_M70 215 [(18, vi (l18 + 1)), (13, vl z258), (11, vl z255), (9, vl z252), (15, vi z249), (17, vi z180), (16, vi z180), (19, vi z180), (7, vl l7), (5, vl l5), (3, vl l3), (2, vi l2), (0, .ref 131), (1, vi l1)] [] s182 _
                  refine wr_n (pc2 := 53) (lv2 := [(18, vi (l18 + 1)), (13, vl z258), (11, vl z255), (9, vl z252), (15, vi z249), (17, vi z180), (16, vi z180), (19, vi z180), (7, vl l7), (5, vl l5), (3, vl l3), (2, vi l2), (0, .ref 131), (1, vi l1)]) (st2 := []) 1 (fun _ _ => rfl) ?_
                  exact k_branches_53v2 hC hSt _ (l18 + 1) z258 z255 z252 z249 z180 z180 z180 l7 l5 l3 l2 l1 s182 rfl hK182 hq182 hX182 hC182 (by omega) h259 h256 h253 (by omega) (by omega) (by omega) (by omega) hl7 hl5 hl3 (by omega) (by omega) (by omega) 
            · refine .inr ⟨rfl, ?_⟩
              exact ⟨hK180, (FX_tr (FX_up (FX_up (FX_up hX176 (by unfold fx; omega)) (by unfold fx; omega)) (by unfold fx; omega)) hY180), .inr ⟨rfl, TH hC176 hc180⟩⟩
          · refine .inr ⟨rfl, ?_⟩
            exact ⟨hK176, (FX_tr hX hY176), .inr ⟨rfl, TH hc hc176⟩⟩
        · refine wr_if1f rfl rfl (by unfold i32; omega) h175 ?_
          refine wr_n (pc2 := 91) (lv2 := [(18, vi l18), (17, vi l17), (16, vi l16), (15, vi l15), (13, vl l13), (11, vl l11), (9, vl l9), (7, vl l7), (5, vl l5), (3, vl l3), (2, vi l2), (0, .ref 131), (1, vi l1)]) (st2 := [vi 123, .ref 131]) 2 (fun _ _ => rfl) ?_
          refine wr_call1T (args := [vi 123]) (rest := []) rfl rfl rfl rfl (Nat.le_of_ble_eq_true rfl) rfl (cr_mono (k_expect (d := 4 * n + 148) (x := 123) s hK (by omega)) ?_)
          rintro s260 out ⟨hK260, hY260, ⟨hc260, rfl⟩ | ⟨rfl, hc260⟩⟩
          · refine .inl ⟨_, rfl, ?_⟩
            have hX260 : FX s0.1 s260.1 := FX_tr hX hY260
            have hC260 : s260.2 = s0.2 := hc260.trans hc
            have hq260 : s260.1 131 1 = (C : Int) := (hY260 131 1 (by unfold fx; omega)).trans hq
            show wr (4 * n + 150) tb_M70 94 [(18, vi l18), (17, vi l17), (16, vi l16), (15, vi l15), (13, vl l13), (11, vl l11), (9, vl l9), (7, vl l7), (5, vl l5), (3, vl l3), (2, vi l2), (0, .ref 131), (1, vi l1)] [] s260 _
            refine wr_n (pc2 := 96) (lv2 := [(18, vi l18), (17, vi l17), (16, vi l16), (15, vi l15), (13, vl l13), (11, vl l11), (9, vl l9), (7, vl l7), (5, vl l5), (3, vl l3), (2, vi l2), (0, .ref 131), (1, vi l1)]) (st2 := [vl 0, .ref 131]) 2 (fun _ _ => rfl) ?_
            refine wr_put (z := 0) rfl rfl rfl rfl (by decide) rfl (by decide) rfl (by first | exact ⟨by omega, by omega⟩ | assumption) (fit_l _) ?_
            show wr (4 * n + 150) tb_M70 99 [(18, vi l18), (17, vi l17), (16, vi l16), (15, vi l15), (13, vl l13), (11, vl l11), (9, vl l9), (7, vl l7), (5, vl l5), (3, vl l3), (2, vi l2), (0, .ref 131), (1, vi l1)] [] (up2 s260.1 131 7 0, s260.2) _
            have hK261 : KI (up2 s260.1 131 7 0) := (KI_up hK260 rfl (kb_no rfl))
            refine wr_n (pc2 := 101) (lv2 := [(18, vi l18), (17, vi l17), (16, vi l16), (15, vi l15), (13, vl l13), (11, vl l11), (9, vl l9), (7, vl l7), (5, vl l5), (3, vl l3), (2, vi l2), (0, .ref 131), (1, vi l1)]) (st2 := [vl 0, .ref 131]) 2 (fun _ _ => rfl) ?_
            refine wr_put (z := 0) rfl rfl rfl rfl (by decide) rfl (by decide) rfl (by first | exact ⟨by omega, by omega⟩ | assumption) (fit_l _) ?_
            show wr (4 * n + 150) tb_M70 104 [(18, vi l18), (17, vi l17), (16, vi l16), (15, vi l15), (13, vl l13), (11, vl l11), (9, vl l9), (7, vl l7), (5, vl l5), (3, vl l3), (2, vi l2), (0, .ref 131), (1, vi l1)] [] (up2 (up2 s260.1 131 7 0) 131 8 0, s260.2) _
            have hK262 : KI (up2 (up2 s260.1 131 7 0) 131 8 0) := (KI_up (KI_up hK260 rfl (kb_no rfl)) rfl (kb_no rfl))
            refine wr_n (pc2 := 106) (lv2 := [(18, vi l18), (17, vi l17), (16, vi l16), (15, vi l15), (13, vl l13), (11, vl l11), (9, vl l9), (7, vl l7), (5, vl l5), (3, vl l3), (2, vi l2), (0, .ref 131), (1, vi l1)]) (st2 := [vl 0, .ref 131]) 2 (fun _ _ => rfl) ?_
            refine wr_put (z := 0) rfl rfl rfl rfl (by decide) rfl (by decide) rfl (by first | exact ⟨by omega, by omega⟩ | assumption) (fit_l _) ?_
            show wr (4 * n + 150) tb_M70 109 [(18, vi l18), (17, vi l17), (16, vi l16), (15, vi l15), (13, vl l13), (11, vl l11), (9, vl l9), (7, vl l7), (5, vl l5), (3, vl l3), (2, vi l2), (0, .ref 131), (1, vi l1)] [] (up2 (up2 (up2 s260.1 131 7 0) 131 8 0) 131 9 0, s260.2) _
            have hK263 : KI (up2 (up2 (up2 s260.1 131 7 0) 131 8 0) 131 9 0) := (KI_up (KI_up (KI_up hK260 rfl (kb_no rfl)) rfl (kb_no rfl)) rfl (kb_no rfl))
            refine wr_n (pc2 := 112) (lv2 := [(18, vi l18), (17, vi l17), (16, vi l16), (15, vi l15), (13, vl l13), (11, vl l11), (9, vl l9), (7, vl l7), (5, vl l5), (3, vl l3), (2, vi l2), (0, .ref 131), (1, vi l1)]) (st2 := [vi 1, vi l1, .ref 131]) 3 (fun _ _ => rfl) ?_
            refine wr_add (a := l1) (b := 1) rfl ?_
            show wr (4 * n + 150) tb_M70 113 [(18, vi l18), (17, vi l17), (16, vi l16), (15, vi l15), (13, vl l13), (11, vl l11), (9, vl l9), (7, vl l7), (5, vl l5), (3, vl l3), (2, vi l2), (0, .ref 131), (1, vi l1)] [vi (l1 + 1), .ref 131] (up2 (up2 (up2 s260.1 131 7 0) 131 8 0) 131 9 0, s260.2) _
            refine wr_call1T (args := [vi (l1 + 1)]) (rest := []) rfl rfl rfl rfl (Nat.le_of_ble_eq_true rfl) rfl (cr_mono (hSt C (up2 (up2 (up2 s260.1 131 7 0) 131 8 0) 131 9 0, s260.2) (l1 + 1) hC hK263 (show (up2 (up2 (up2 s260.1 131 7 0) 131 8 0) 131 9 0) 131 1 = ((C : Nat) : Int) from ((if_neg (by omega)).trans ((if_neg (by omega)).trans ((if_neg (by omega)).trans hq260)))) (by omega)) ?_)
            rintro s264 out ⟨hK264, hY264, ⟨z264, hc264, rfl, hz264, hp264⟩ | ⟨rfl, hc264⟩⟩
            · refine .inl ⟨_, rfl, ?_⟩
              have hX264 : FX s0.1 s264.1 := FX_tr (FX_up (FX_up (FX_up hX260 (by unfold fx; omega)) (by unfold fx; omega)) (by unfold fx; omega)) hY264
              have hC264 : s264.2 = s0.2 := hc264.trans hC260
              have hq264 : s264.1 131 1 = (C : Int) := (hY264 131 1 (by unfold fx; omega)).trans (show (up2 (up2 (up2 s260.1 131 7 0) 131 8 0) 131 9 0) 131 1 = ((C : Nat) : Int) from ((if_neg (by omega)).trans ((if_neg (by omega)).trans ((if_neg (by omega)).trans hq260))))
              unfold i32 at hz264
              clear hp264
              show wr (4 * n + 150) tb_M70 116 [(18, vi l18), (17, vi l17), (16, vi l16), (15, vi l15), (13, vl l13), (11, vl l11), (9, vl l9), (7, vl l7), (5, vl l5), (3, vl l3), (2, vi l2), (0, .ref 131), (1, vi l1)] [vi z264] s264 _
              refine wr_n (pc2 := 119) (lv2 := [(19, vi z264), (18, vi l18), (17, vi l17), (16, vi l16), (15, vi l15), (13, vl l13), (11, vl l11), (9, vl l9), (7, vl l7), (5, vl l5), (3, vl l3), (2, vi l2), (0, .ref 131), (1, vi l1)]) (st2 := [.ref 131]) 2 (fun _ _ => rfl) ?_
              refine wr_get (v := .ref C) rfl rfl rfl (by decide) (rv_ref (show (s264.1) 131 1 = ((C : Nat) : Int) from hq264)) fun h265 => ?_
              show wr (4 * n + 150) tb_M70 122 [(19, vi z264), (18, vi l18), (17, vi l17), (16, vi l16), (15, vi l15), (13, vl l13), (11, vl l11), (9, vl l9), (7, vl l7), (5, vl l5), (3, vl l3), (2, vi l2), (0, .ref 131), (1, vi l1)] [.ref C] s264 _
              refine wr_n (pc2 := 126) (lv2 := [(19, vi z264), (18, vi l18), (17, vi l17), (16, vi l16), (15, vi l15), (13, vl l13), (11, vl l11), (9, vl l9), (7, vl l7), (5, vl l5), (3, vl l3), (2, vi l2), (0, .ref 131), (1, vi l1)]) (st2 := [vi z264, vi l17, .ref C]) 2 (fun _ _ => rfl) ?_
              refine wr_call1 (args := [vi l17, vi z264]) (rest := []) rfl rfl rfl (TK0 hC) (Nat.le_of_ble_eq_true rfl) (cr_mono (k_link (d := 4 * n + 148) (C := C) hC (x := l17) (y := z264) s264 hK264 (by omega) (by omega)) ?_)
              rintro s266 out ⟨hK266, hY266, hc266, rfl⟩
              refine ⟨_, rfl, ?_⟩
              have hX266 : FX s0.1 s266.1 := FX_tr hX264 hY266
              have hC266 : s266.2 = s0.2 := hc266.trans hC264
              have hq266 : s266.1 131 1 = (C : Int) := (hY266 131 1 (by unfold fx; omega)).trans hq264
              show wr (4 * n + 150) tb_M70 129 [(19, vi z264), (18, vi l18), (17, vi l17), (16, vi l16), (15, vi l15), (13, vl l13), (11, vl l11), (9, vl l9), (7, vl l7), (5, vl l5), (3, vl l3), (2, vi l2), (0, .ref 131), (1, vi l1)] [] s266 _
              refine wr_n (pc2 := 131) (lv2 := [(19, vi z264), (18, vi l18), (17, vi l17), (16, vi l16), (15, vi l15), (13, vl l13), (11, vl l11), (9, vl l9), (7, vl l7), (5, vl l5), (3, vl l3), (2, vi l2), (0, .ref 131), (1, vi l1)]) (st2 := [vi l18]) 1 (fun _ _ => rfl) ?_
              by_cases h267 : l18 ≠ 0
              · refine wr_if1t rfl rfl (by unfold i32; omega) h267 ?_
                refine wr_n (pc2 := 150) (lv2 := [(17, vi z264), (16, vi l16), (19, vi z264), (18, vi l18), (15, vi l15), (13, vl l13), (11, vl l11), (9, vl l9), (7, vl l7), (5, vl l5), (3, vl l3), (2, vi l2), (0, .ref 131), (1, vi l1)]) (st2 := [.ref 131, vi l15]) 6 (fun _ _ => rfl) ?_
                refine wr_get (v := vl (s266.1 131 8)) rfl rfl rfl (by decide) rfl fun h268 => ?_
                show wr (4 * n + 150) tb_M70 153 [(17, vi z264), (16, vi l16), (19, vi z264), (18, vi l18), (15, vi l15), (13, vl l13), (11, vl l11), (9, vl l9), (7, vl l7), (5, vl l5), (3, vl l3), (2, vi l2), (0, .ref 131), (1, vi l1)] [vl (s266.1 131 8), vi l15] s266 _
                refine wr_n (pc2 := 155) (lv2 := [(17, vi z264), (16, vi l16), (19, vi z264), (18, vi l18), (15, vi l15), (13, vl l13), (11, vl l11), (9, vl l9), (7, vl l7), (5, vl l5), (3, vl l3), (2, vi l2), (0, .ref 131), (1, vi l1)]) (st2 := [vl l9, vl (s266.1 131 8), vi l15]) 1 (fun _ _ => rfl) ?_
                refine wr_anyl (a := s266.1 131 8) (b := l9) rfl rfl fun z269 h270 _ => ?_
                show wr (4 * n + 150) tb_M70 156 [(17, vi z264), (16, vi l16), (19, vi z264), (18, vi l18), (15, vi l15), (13, vl l13), (11, vl l11), (9, vl l9), (7, vl l7), (5, vl l5), (3, vl l3), (2, vi l2), (0, .ref 131), (1, vi l1)] [vl z269, vi l15] s266 _
                refine wr_n (pc2 := 157) (lv2 := [(17, vi z264), (16, vi l16), (19, vi z264), (18, vi l18), (15, vi l15), (13, vl l13), (11, vl l11), (9, vl l9), (7, vl l7), (5, vl l5), (3, vl l3), (2, vi l2), (0, .ref 131), (1, vi l1)]) (st2 := [.ref 131, vl z269, vi l15]) 1 (fun _ _ => rfl) ?_
                refine wr_get (v := vl (s266.1 131 7)) rfl rfl rfl (by decide) rfl fun h271 => ?_
                show wr (4 * n + 150) tb_M70 160 [(17, vi z264), (16, vi l16), (19, vi z264), (18, vi l18), (15, vi l15), (13, vl l13), (11, vl l11), (9, vl l9), (7, vl l7), (5, vl l5), (3, vl l3), (2, vi l2), (0, .ref 131), (1, vi l1)] [vl (s266.1 131 7), vl z269, vi l15] s266 _
                refine wr_n (pc2 := 162) (lv2 := [(17, vi z264), (16, vi l16), (19, vi z264), (18, vi l18), (15, vi l15), (13, vl l13), (11, vl l11), (9, vl l9), (7, vl l7), (5, vl l5), (3, vl l3), (2, vi l2), (0, .ref 131), (1, vi l1)]) (st2 := [vl l11, vl (s266.1 131 7), vl z269, vi l15]) 1 (fun _ _ => rfl) ?_
                refine wr_anyl (a := s266.1 131 7) (b := l11) rfl rfl fun z272 h273 _ => ?_
                show wr (4 * n + 150) tb_M70 163 [(17, vi z264), (16, vi l16), (19, vi z264), (18, vi l18), (15, vi l15), (13, vl l13), (11, vl l11), (9, vl l9), (7, vl l7), (5, vl l5), (3, vl l3), (2, vi l2), (0, .ref 131), (1, vi l1)] [vl z272, vl z269, vi l15] s266 _
                refine wr_anyl (a := z269) (b := z272) rfl rfl fun z274 h275 _ => ?_
                show wr (4 * n + 150) tb_M70 164 [(17, vi z264), (16, vi l16), (19, vi z264), (18, vi l18), (15, vi l15), (13, vl l13), (11, vl l11), (9, vl l9), (7, vl l7), (5, vl l5), (3, vl l3), (2, vi l2), (0, .ref 131), (1, vi l1)] [vl z274, vi l15] s266 _
                refine wr_n (pc2 := 165) (lv2 := [(17, vi z264), (16, vi l16), (19, vi z264), (18, vi l18), (15, vi l15), (13, vl l13), (11, vl l11), (9, vl l9), (7, vl l7), (5, vl l5), (3, vl l3), (2, vi l2), (0, .ref 131), (1, vi l1)]) (st2 := [.ref 131, vl z274, vi l15]) 1 (fun _ _ => rfl) ?_
                refine wr_get (v := vl (s266.1 131 9)) rfl rfl rfl (by decide) rfl fun h276 => ?_
                show wr (4 * n + 150) tb_M70 168 [(17, vi z264), (16, vi l16), (19, vi z264), (18, vi l18), (15, vi l15), (13, vl l13), (11, vl l11), (9, vl l9), (7, vl l7), (5, vl l5), (3, vl l3), (2, vi l2), (0, .ref 131), (1, vi l1)] [vl (s266.1 131 9), vl z274, vi l15] s266 _
                refine wr_n (pc2 := 170) (lv2 := [(17, vi z264), (16, vi l16), (19, vi z264), (18, vi l18), (15, vi l15), (13, vl l13), (11, vl l11), (9, vl l9), (7, vl l7), (5, vl l5), (3, vl l3), (2, vi l2), (0, .ref 131), (1, vi l1)]) (st2 := [vl l13, vl (s266.1 131 9), vl z274, vi l15]) 1 (fun _ _ => rfl) ?_
                refine wr_anyl (a := s266.1 131 9) (b := l13) rfl rfl fun z277 h278 _ => ?_
                show wr (4 * n + 150) tb_M70 171 [(17, vi z264), (16, vi l16), (19, vi z264), (18, vi l18), (15, vi l15), (13, vl l13), (11, vl l11), (9, vl l9), (7, vl l7), (5, vl l5), (3, vl l3), (2, vi l2), (0, .ref 131), (1, vi l1)] [vl z277, vl z274, vi l15] s266 _
                refine wr_anyl (a := z274) (b := z277) rfl rfl fun z279 h280 _ => ?_
                show wr (4 * n + 150) tb_M70 172 [(17, vi z264), (16, vi l16), (19, vi z264), (18, vi l18), (15, vi l15), (13, vl l13), (11, vl l11), (9, vl l9), (7, vl l7), (5, vl l5), (3, vl l3), (2, vi l2), (0, .ref 131), (1, vi l1)] [vl z279, vi l15] s266 _
                refine wr_n (pc2 := 173) (lv2 := [(17, vi z264), (16, vi l16), (19, vi z264), (18, vi l18), (15, vi l15), (13, vl l13), (11, vl l11), (9, vl l9), (7, vl l7), (5, vl l5), (3, vl l3), (2, vi l2), (0, .ref 131), (1, vi l1)]) (st2 := [vl 0, vl z279, vi l15]) 1 (fun _ _ => rfl) ?_
                refine wr_lcmp (a := z279) (b := 0) rfl h280 (by unfold i64; omega) fun z281 h282 => ?_
                show wr (4 * n + 150) tb_M70 174 [(17, vi z264), (16, vi l16), (19, vi z264), (18, vi l18), (15, vi l15), (13, vl l13), (11, vl l11), (9, vl l9), (7, vl l7), (5, vl l5), (3, vl l3), (2, vi l2), (0, .ref 131), (1, vi l1)] [vi z281, vi l15] s266 _
                by_cases h283 : z281 = 0
                · refine wr_if1t rfl rfl (by unfold i32; omega) h283 ?_
                  refine wr_n (pc2 := 182) (lv2 := [(17, vi z264), (16, vi l16), (19, vi z264), (18, vi l18), (15, vi l15), (13, vl l13), (11, vl l11), (9, vl l9), (7, vl l7), (5, vl l5), (3, vl l3), (2, vi l2), (0, .ref 131), (1, vi l1)]) (st2 := [vi 0, vi l15]) 1 (fun _ _ => rfl) ?_
                  refine wr_any2 rfl rfl fun z284 h285 => ?_
                  unfold i32 at h285
                  show wr (4 * n + 150) tb_M70 183 [(17, vi z264), (16, vi l16), (19, vi z264), (18, vi l18), (15, vi l15), (13, vl l13), (11, vl l11), (9, vl l9), (7, vl l7), (5, vl l5), (3, vl l3), (2, vi l2), (0, .ref 131), (1, vi l1)] [vi z284] s266 _
                  refine wr_n (pc2 := 188) (lv2 := [(15, vi z284), (17, vi z264), (16, vi l16), (19, vi z264), (18, vi l18), (13, vl l13), (11, vl l11), (9, vl l9), (7, vl l7), (5, vl l5), (3, vl l3), (2, vi l2), (0, .ref 131), (1, vi l1)]) (st2 := [.ref 131, vl l9]) 3 (fun _ _ => rfl) ?_
                  refine wr_get (v := vl (s266.1 131 7)) rfl rfl rfl (by decide) rfl fun h286 => ?_
                  show wr (4 * n + 150) tb_M70 191 [(15, vi z284), (17, vi z264), (16, vi l16), (19, vi z264), (18, vi l18), (13, vl l13), (11, vl l11), (9, vl l9), (7, vl l7), (5, vl l5), (3, vl l3), (2, vi l2), (0, .ref 131), (1, vi l1)] [vl (s266.1 131 7), vl l9] s266 _
                  refine wr_anyl (a := l9) (b := s266.1 131 7) rfl rfl fun z287 h288 _ => ?_
                  show wr (4 * n + 150) tb_M70 192 [(15, vi z284), (17, vi z264), (16, vi l16), (19, vi z264), (18, vi l18), (13, vl l13), (11, vl l11), (9, vl l9), (7, vl l7), (5, vl l5), (3, vl l3), (2, vi l2), (0, .ref 131), (1, vi l1)] [vl z287] s266 _
                  refine wr_n (pc2 := 197) (lv2 := [(9, vl z287), (15, vi z284), (17, vi z264), (16, vi l16), (19, vi z264), (18, vi l18), (13, vl l13), (11, vl l11), (7, vl l7), (5, vl l5), (3, vl l3), (2, vi l2), (0, .ref 131), (1, vi l1)]) (st2 := [.ref 131, vl l11]) 3 (fun _ _ => rfl) ?_
                  refine wr_get (v := vl (s266.1 131 8)) rfl rfl rfl (by decide) rfl fun h289 => ?_
                  show wr (4 * n + 150) tb_M70 200 [(9, vl z287), (15, vi z284), (17, vi z264), (16, vi l16), (19, vi z264), (18, vi l18), (13, vl l13), (11, vl l11), (7, vl l7), (5, vl l5), (3, vl l3), (2, vi l2), (0, .ref 131), (1, vi l1)] [vl (s266.1 131 8), vl l11] s266 _
                  refine wr_anyl (a := l11) (b := s266.1 131 8) rfl rfl fun z290 h291 _ => ?_
                  show wr (4 * n + 150) tb_M70 201 [(9, vl z287), (15, vi z284), (17, vi z264), (16, vi l16), (19, vi z264), (18, vi l18), (13, vl l13), (11, vl l11), (7, vl l7), (5, vl l5), (3, vl l3), (2, vi l2), (0, .ref 131), (1, vi l1)] [vl z290] s266 _
                  refine wr_n (pc2 := 206) (lv2 := [(11, vl z290), (9, vl z287), (15, vi z284), (17, vi z264), (16, vi l16), (19, vi z264), (18, vi l18), (13, vl l13), (7, vl l7), (5, vl l5), (3, vl l3), (2, vi l2), (0, .ref 131), (1, vi l1)]) (st2 := [.ref 131, vl l13]) 3 (fun _ _ => rfl) ?_
                  refine wr_get (v := vl (s266.1 131 9)) rfl rfl rfl (by decide) rfl fun h292 => ?_
                  show wr (4 * n + 150) tb_M70 209 [(11, vl z290), (9, vl z287), (15, vi z284), (17, vi z264), (16, vi l16), (19, vi z264), (18, vi l18), (13, vl l13), (7, vl l7), (5, vl l5), (3, vl l3), (2, vi l2), (0, .ref 131), (1, vi l1)] [vl (s266.1 131 9), vl l13] s266 _
                  refine wr_anyl (a := l13) (b := s266.1 131 9) rfl rfl fun z293 h294 _ => ?_
                  show wr (4 * n + 150) tb_M70 210 [(11, vl z290), (9, vl z287), (15, vi z284), (17, vi z264), (16, vi l16), (19, vi z264), (18, vi l18), (13, vl l13), (7, vl l7), (5, vl l5), (3, vl l3), (2, vi l2), (0, .ref 131), (1, vi l1)] [vl z293] s266 _
                  refine wr_n (pc2 := 212) (lv2 := [(13, vl z293), (11, vl z290), (9, vl z287), (15, vi z284), (17, vi z264), (16, vi l16), (19, vi z264), (18, vi l18), (7, vl l7), (5, vl l5), (3, vl l3), (2, vi l2), (0, .ref 131), (1, vi l1)]) (st2 := []) 1 (fun _ _ => rfl) ?_
                  refine wr_inc (a := l18) rfl rfl ?_
                  show wr (4 * n + 150) tb_M70 215 [(18, vi (l18 + 1)), (13, vl z293), (11, vl z290), (9, vl z287), (15, vi z284), (17, vi z264), (16, vi l16), (19, vi z264), (7, vl l7), (5, vl l5), (3, vl l3), (2, vi l2), (0, .ref 131), (1, vi l1)] [] s266 _
                  refine wr_n (pc2 := 53) (lv2 := [(18, vi (l18 + 1)), (13, vl z293), (11, vl z290), (9, vl z287), (15, vi z284), (17, vi z264), (16, vi l16), (19, vi z264), (7, vl l7), (5, vl l5), (3, vl l3), (2, vi l2), (0, .ref 131), (1, vi l1)]) (st2 := []) 1 (fun _ _ => rfl) ?_
                  exact k_branches_53v2 hC hSt _ (l18 + 1) z293 z290 z287 z284 z264 l16 z264 l7 l5 l3 l2 l1 s266 rfl hK266 hq266 hX266 hC266 (by omega) h294 h291 h288 (by omega) (by omega) (by omega) (by omega) hl7 hl5 hl3 (by omega) (by omega) (by omega) 
                · refine wr_if1f rfl rfl (by unfold i32; omega) h283 ?_
                  refine wr_n (pc2 := 182) (lv2 := [(17, vi z264), (16, vi l16), (19, vi z264), (18, vi l18), (15, vi l15), (13, vl l13), (11, vl l11), (9, vl l9), (7, vl l7), (5, vl l5), (3, vl l3), (2, vi l2), (0, .ref 131), (1, vi l1)]) (st2 := [vi 1, vi l15]) 2 (fun _ _ => rfl) ?_
                  refine wr_any2 rfl rfl fun z295 h296 => ?_
                  unfold i32 at h296
                  show wr (4 * n + 150) tb_M70 183 [(17, vi z264), (16, vi l16), (19, vi z264), (18, vi l18), (15, vi l15), (13, vl l13), (11, vl l11), (9, vl l9), (7, vl l7), (5, vl l5), (3, vl l3), (2, vi l2), (0, .ref 131), (1, vi l1)] [vi z295] s266 _
                  refine wr_n (pc2 := 188) (lv2 := [(15, vi z295), (17, vi z264), (16, vi l16), (19, vi z264), (18, vi l18), (13, vl l13), (11, vl l11), (9, vl l9), (7, vl l7), (5, vl l5), (3, vl l3), (2, vi l2), (0, .ref 131), (1, vi l1)]) (st2 := [.ref 131, vl l9]) 3 (fun _ _ => rfl) ?_
                  refine wr_get (v := vl (s266.1 131 7)) rfl rfl rfl (by decide) rfl fun h297 => ?_
                  show wr (4 * n + 150) tb_M70 191 [(15, vi z295), (17, vi z264), (16, vi l16), (19, vi z264), (18, vi l18), (13, vl l13), (11, vl l11), (9, vl l9), (7, vl l7), (5, vl l5), (3, vl l3), (2, vi l2), (0, .ref 131), (1, vi l1)] [vl (s266.1 131 7), vl l9] s266 _
                  refine wr_anyl (a := l9) (b := s266.1 131 7) rfl rfl fun z298 h299 _ => ?_
                  show wr (4 * n + 150) tb_M70 192 [(15, vi z295), (17, vi z264), (16, vi l16), (19, vi z264), (18, vi l18), (13, vl l13), (11, vl l11), (9, vl l9), (7, vl l7), (5, vl l5), (3, vl l3), (2, vi l2), (0, .ref 131), (1, vi l1)] [vl z298] s266 _
                  refine wr_n (pc2 := 197) (lv2 := [(9, vl z298), (15, vi z295), (17, vi z264), (16, vi l16), (19, vi z264), (18, vi l18), (13, vl l13), (11, vl l11), (7, vl l7), (5, vl l5), (3, vl l3), (2, vi l2), (0, .ref 131), (1, vi l1)]) (st2 := [.ref 131, vl l11]) 3 (fun _ _ => rfl) ?_
                  refine wr_get (v := vl (s266.1 131 8)) rfl rfl rfl (by decide) rfl fun h300 => ?_
                  show wr (4 * n + 150) tb_M70 200 [(9, vl z298), (15, vi z295), (17, vi z264), (16, vi l16), (19, vi z264), (18, vi l18), (13, vl l13), (11, vl l11), (7, vl l7), (5, vl l5), (3, vl l3), (2, vi l2), (0, .ref 131), (1, vi l1)] [vl (s266.1 131 8), vl l11] s266 _
                  refine wr_anyl (a := l11) (b := s266.1 131 8) rfl rfl fun z301 h302 _ => ?_
                  show wr (4 * n + 150) tb_M70 201 [(9, vl z298), (15, vi z295), (17, vi z264), (16, vi l16), (19, vi z264), (18, vi l18), (13, vl l13), (11, vl l11), (7, vl l7), (5, vl l5), (3, vl l3), (2, vi l2), (0, .ref 131), (1, vi l1)] [vl z301] s266 _
                  refine wr_n (pc2 := 206) (lv2 := [(11, vl z301), (9, vl z298), (15, vi z295), (17, vi z264), (16, vi l16), (19, vi z264), (18, vi l18), (13, vl l13), (7, vl l7), (5, vl l5), (3, vl l3), (2, vi l2), (0, .ref 131), (1, vi l1)]) (st2 := [.ref 131, vl l13]) 3 (fun _ _ => rfl) ?_
                  refine wr_get (v := vl (s266.1 131 9)) rfl rfl rfl (by decide) rfl fun h303 => ?_
                  show wr (4 * n + 150) tb_M70 209 [(11, vl z301), (9, vl z298), (15, vi z295), (17, vi z264), (16, vi l16), (19, vi z264), (18, vi l18), (13, vl l13), (7, vl l7), (5, vl l5), (3, vl l3), (2, vi l2), (0, .ref 131), (1, vi l1)] [vl (s266.1 131 9), vl l13] s266 _
                  refine wr_anyl (a := l13) (b := s266.1 131 9) rfl rfl fun z304 h305 _ => ?_
                  show wr (4 * n + 150) tb_M70 210 [(11, vl z301), (9, vl z298), (15, vi z295), (17, vi z264), (16, vi l16), (19, vi z264), (18, vi l18), (13, vl l13), (7, vl l7), (5, vl l5), (3, vl l3), (2, vi l2), (0, .ref 131), (1, vi l1)] [vl z304] s266 _
                  refine wr_n (pc2 := 212) (lv2 := [(13, vl z304), (11, vl z301), (9, vl z298), (15, vi z295), (17, vi z264), (16, vi l16), (19, vi z264), (18, vi l18), (7, vl l7), (5, vl l5), (3, vl l3), (2, vi l2), (0, .ref 131), (1, vi l1)]) (st2 := []) 1 (fun _ _ => rfl) ?_
                  refine wr_inc (a := l18) rfl rfl ?_
                  show wr (4 * n + 150) tb_M70 215 [(18, vi (l18 + 1)), (13, vl z304), (11, vl z301), (9, vl z298), (15, vi z295), (17, vi z264), (16, vi l16), (19, vi z264), (7, vl l7), (5, vl l5), (3, vl l3), (2, vi l2), (0, .ref 131), (1, vi l1)] [] s266 _
                  refine wr_n (pc2 := 53) (lv2 := [(18, vi (l18 + 1)), (13, vl z304), (11, vl z301), (9, vl z298), (15, vi z295), (17, vi z264), (16, vi l16), (19, vi z264), (7, vl l7), (5, vl l5), (3, vl l3), (2, vi l2), (0, .ref 131), (1, vi l1)]) (st2 := []) 1 (fun _ _ => rfl) ?_
                  exact k_branches_53v2 hC hSt _ (l18 + 1) z304 z301 z298 z295 z264 l16 z264 l7 l5 l3 l2 l1 s266 rfl hK266 hq266 hX266 hC266 (by omega) h305 h302 h299 (by omega) (by omega) (by omega) (by omega) hl7 hl5 hl3 (by omega) (by omega) (by omega) 
              · refine wr_if1f rfl rfl (by unfold i32; omega) h267 ?_
                refine wr_n (pc2 := 150) (lv2 := [(17, vi z264), (16, vi z264), (19, vi z264), (18, vi l18), (15, vi l15), (13, vl l13), (11, vl l11), (9, vl l9), (7, vl l7), (5, vl l5), (3, vl l3), (2, vi l2), (0, .ref 131), (1, vi l1)]) (st2 := [.ref 131, vi l15]) 7 (fun _ _ => rfl) ?_
                refine wr_get (v := vl (s266.1 131 8)) rfl rfl rfl (by decide) rfl fun h306 => ?_
                show wr (4 * n + 150) tb_M70 153 [(17, vi z264), (16, vi z264), (19, vi z264), (18, vi l18), (15, vi l15), (13, vl l13), (11, vl l11), (9, vl l9), (7, vl l7), (5, vl l5), (3, vl l3), (2, vi l2), (0, .ref 131), (1, vi l1)] [vl (s266.1 131 8), vi l15] s266 _
                refine wr_n (pc2 := 155) (lv2 := [(17, vi z264), (16, vi z264), (19, vi z264), (18, vi l18), (15, vi l15), (13, vl l13), (11, vl l11), (9, vl l9), (7, vl l7), (5, vl l5), (3, vl l3), (2, vi l2), (0, .ref 131), (1, vi l1)]) (st2 := [vl l9, vl (s266.1 131 8), vi l15]) 1 (fun _ _ => rfl) ?_
                refine wr_anyl (a := s266.1 131 8) (b := l9) rfl rfl fun z307 h308 _ => ?_
                show wr (4 * n + 150) tb_M70 156 [(17, vi z264), (16, vi z264), (19, vi z264), (18, vi l18), (15, vi l15), (13, vl l13), (11, vl l11), (9, vl l9), (7, vl l7), (5, vl l5), (3, vl l3), (2, vi l2), (0, .ref 131), (1, vi l1)] [vl z307, vi l15] s266 _
                refine wr_n (pc2 := 157) (lv2 := [(17, vi z264), (16, vi z264), (19, vi z264), (18, vi l18), (15, vi l15), (13, vl l13), (11, vl l11), (9, vl l9), (7, vl l7), (5, vl l5), (3, vl l3), (2, vi l2), (0, .ref 131), (1, vi l1)]) (st2 := [.ref 131, vl z307, vi l15]) 1 (fun _ _ => rfl) ?_
                refine wr_get (v := vl (s266.1 131 7)) rfl rfl rfl (by decide) rfl fun h309 => ?_
                show wr (4 * n + 150) tb_M70 160 [(17, vi z264), (16, vi z264), (19, vi z264), (18, vi l18), (15, vi l15), (13, vl l13), (11, vl l11), (9, vl l9), (7, vl l7), (5, vl l5), (3, vl l3), (2, vi l2), (0, .ref 131), (1, vi l1)] [vl (s266.1 131 7), vl z307, vi l15] s266 _
                refine wr_n (pc2 := 162) (lv2 := [(17, vi z264), (16, vi z264), (19, vi z264), (18, vi l18), (15, vi l15), (13, vl l13), (11, vl l11), (9, vl l9), (7, vl l7), (5, vl l5), (3, vl l3), (2, vi l2), (0, .ref 131), (1, vi l1)]) (st2 := [vl l11, vl (s266.1 131 7), vl z307, vi l15]) 1 (fun _ _ => rfl) ?_
                refine wr_anyl (a := s266.1 131 7) (b := l11) rfl rfl fun z310 h311 _ => ?_
                show wr (4 * n + 150) tb_M70 163 [(17, vi z264), (16, vi z264), (19, vi z264), (18, vi l18), (15, vi l15), (13, vl l13), (11, vl l11), (9, vl l9), (7, vl l7), (5, vl l5), (3, vl l3), (2, vi l2), (0, .ref 131), (1, vi l1)] [vl z310, vl z307, vi l15] s266 _
                refine wr_anyl (a := z307) (b := z310) rfl rfl fun z312 h313 _ => ?_
                show wr (4 * n + 150) tb_M70 164 [(17, vi z264), (16, vi z264), (19, vi z264), (18, vi l18), (15, vi l15), (13, vl l13), (11, vl l11), (9, vl l9), (7, vl l7), (5, vl l5), (3, vl l3), (2, vi l2), (0, .ref 131), (1, vi l1)] [vl z312, vi l15] s266 _
                refine wr_n (pc2 := 165) (lv2 := [(17, vi z264), (16, vi z264), (19, vi z264), (18, vi l18), (15, vi l15), (13, vl l13), (11, vl l11), (9, vl l9), (7, vl l7), (5, vl l5), (3, vl l3), (2, vi l2), (0, .ref 131), (1, vi l1)]) (st2 := [.ref 131, vl z312, vi l15]) 1 (fun _ _ => rfl) ?_
                refine wr_get (v := vl (s266.1 131 9)) rfl rfl rfl (by decide) rfl fun h314 => ?_
                show wr (4 * n + 150) tb_M70 168 [(17, vi z264), (16, vi z264), (19, vi z264), (18, vi l18), (15, vi l15), (13, vl l13), (11, vl l11), (9, vl l9), (7, vl l7), (5, vl l5), (3, vl l3), (2, vi l2), (0, .ref 131), (1, vi l1)] [vl (s266.1 131 9), vl z312, vi l15] s266 _
                refine wr_n (pc2 := 170) (lv2 := [(17, vi z264), (16, vi z264), (19, vi z264), (18, vi l18), (15, vi l15), (13, vl l13), (11, vl l11), (9, vl l9), (7, vl l7), (5, vl l5), (3, vl l3), (2, vi l2), (0, .ref 131), (1, vi l1)]) (st2 := [vl l13, vl (s266.1 131 9), vl z312, vi l15]) 1 (fun _ _ => rfl) ?_
                refine wr_anyl (a := s266.1 131 9) (b := l13) rfl rfl fun z315 h316 _ => ?_
                show wr (4 * n + 150) tb_M70 171 [(17, vi z264), (16, vi z264), (19, vi z264), (18, vi l18), (15, vi l15), (13, vl l13), (11, vl l11), (9, vl l9), (7, vl l7), (5, vl l5), (3, vl l3), (2, vi l2), (0, .ref 131), (1, vi l1)] [vl z315, vl z312, vi l15] s266 _
                refine wr_anyl (a := z312) (b := z315) rfl rfl fun z317 h318 _ => ?_
                show wr (4 * n + 150) tb_M70 172 [(17, vi z264), (16, vi z264), (19, vi z264), (18, vi l18), (15, vi l15), (13, vl l13), (11, vl l11), (9, vl l9), (7, vl l7), (5, vl l5), (3, vl l3), (2, vi l2), (0, .ref 131), (1, vi l1)] [vl z317, vi l15] s266 _
                refine wr_n (pc2 := 173) (lv2 := [(17, vi z264), (16, vi z264), (19, vi z264), (18, vi l18), (15, vi l15), (13, vl l13), (11, vl l11), (9, vl l9), (7, vl l7), (5, vl l5), (3, vl l3), (2, vi l2), (0, .ref 131), (1, vi l1)]) (st2 := [vl 0, vl z317, vi l15]) 1 (fun _ _ => rfl) ?_
                refine wr_lcmp (a := z317) (b := 0) rfl h318 (by unfold i64; omega) fun z319 h320 => ?_
                show wr (4 * n + 150) tb_M70 174 [(17, vi z264), (16, vi z264), (19, vi z264), (18, vi l18), (15, vi l15), (13, vl l13), (11, vl l11), (9, vl l9), (7, vl l7), (5, vl l5), (3, vl l3), (2, vi l2), (0, .ref 131), (1, vi l1)] [vi z319, vi l15] s266 _
                by_cases h321 : z319 = 0
                · refine wr_if1t rfl rfl (by unfold i32; omega) h321 ?_
                  refine wr_n (pc2 := 182) (lv2 := [(17, vi z264), (16, vi z264), (19, vi z264), (18, vi l18), (15, vi l15), (13, vl l13), (11, vl l11), (9, vl l9), (7, vl l7), (5, vl l5), (3, vl l3), (2, vi l2), (0, .ref 131), (1, vi l1)]) (st2 := [vi 0, vi l15]) 1 (fun _ _ => rfl) ?_
                  refine wr_any2 rfl rfl fun z322 h323 => ?_
                  unfold i32 at h323
                  show wr (4 * n + 150) tb_M70 183 [(17, vi z264), (16, vi z264), (19, vi z264), (18, vi l18), (15, vi l15), (13, vl l13), (11, vl l11), (9, vl l9), (7, vl l7), (5, vl l5), (3, vl l3), (2, vi l2), (0, .ref 131), (1, vi l1)] [vi z322] s266 _
                  refine wr_n (pc2 := 188) (lv2 := [(15, vi z322), (17, vi z264), (16, vi z264), (19, vi z264), (18, vi l18), (13, vl l13), (11, vl l11), (9, vl l9), (7, vl l7), (5, vl l5), (3, vl l3), (2, vi l2), (0, .ref 131), (1, vi l1)]) (st2 := [.ref 131, vl l9]) 3 (fun _ _ => rfl) ?_
                  refine wr_get (v := vl (s266.1 131 7)) rfl rfl rfl (by decide) rfl fun h324 => ?_
                  show wr (4 * n + 150) tb_M70 191 [(15, vi z322), (17, vi z264), (16, vi z264), (19, vi z264), (18, vi l18), (13, vl l13), (11, vl l11), (9, vl l9), (7, vl l7), (5, vl l5), (3, vl l3), (2, vi l2), (0, .ref 131), (1, vi l1)] [vl (s266.1 131 7), vl l9] s266 _
                  refine wr_anyl (a := l9) (b := s266.1 131 7) rfl rfl fun z325 h326 _ => ?_
                  show wr (4 * n + 150) tb_M70 192 [(15, vi z322), (17, vi z264), (16, vi z264), (19, vi z264), (18, vi l18), (13, vl l13), (11, vl l11), (9, vl l9), (7, vl l7), (5, vl l5), (3, vl l3), (2, vi l2), (0, .ref 131), (1, vi l1)] [vl z325] s266 _
                  refine wr_n (pc2 := 197) (lv2 := [(9, vl z325), (15, vi z322), (17, vi z264), (16, vi z264), (19, vi z264), (18, vi l18), (13, vl l13), (11, vl l11), (7, vl l7), (5, vl l5), (3, vl l3), (2, vi l2), (0, .ref 131), (1, vi l1)]) (st2 := [.ref 131, vl l11]) 3 (fun _ _ => rfl) ?_
                  refine wr_get (v := vl (s266.1 131 8)) rfl rfl rfl (by decide) rfl fun h327 => ?_
                  show wr (4 * n + 150) tb_M70 200 [(9, vl z325), (15, vi z322), (17, vi z264), (16, vi z264), (19, vi z264), (18, vi l18), (13, vl l13), (11, vl l11), (7, vl l7), (5, vl l5), (3, vl l3), (2, vi l2), (0, .ref 131), (1, vi l1)] [vl (s266.1 131 8), vl l11] s266 _
                  refine wr_anyl (a := l11) (b := s266.1 131 8) rfl rfl fun z328 h329 _ => ?_
                  show wr (4 * n + 150) tb_M70 201 [(9, vl z325), (15, vi z322), (17, vi z264), (16, vi z264), (19, vi z264), (18, vi l18), (13, vl l13), (11, vl l11), (7, vl l7), (5, vl l5), (3, vl l3), (2, vi l2), (0, .ref 131), (1, vi l1)] [vl z328] s266 _
                  refine wr_n (pc2 := 206) (lv2 := [(11, vl z328), (9, vl z325), (15, vi z322), (17, vi z264), (16, vi z264), (19, vi z264), (18, vi l18), (13, vl l13), (7, vl l7), (5, vl l5), (3, vl l3), (2, vi l2), (0, .ref 131), (1, vi l1)]) (st2 := [.ref 131, vl l13]) 3 (fun _ _ => rfl) ?_
                  refine wr_get (v := vl (s266.1 131 9)) rfl rfl rfl (by decide) rfl fun h330 => ?_
                  show wr (4 * n + 150) tb_M70 209 [(11, vl z328), (9, vl z325), (15, vi z322), (17, vi z264), (16, vi z264), (19, vi z264), (18, vi l18), (13, vl l13), (7, vl l7), (5, vl l5), (3, vl l3), (2, vi l2), (0, .ref 131), (1, vi l1)] [vl (s266.1 131 9), vl l13] s266 _
                  refine wr_anyl (a := l13) (b := s266.1 131 9) rfl rfl fun z331 h332 _ => ?_
                  show wr (4 * n + 150) tb_M70 210 [(11, vl z328), (9, vl z325), (15, vi z322), (17, vi z264), (16, vi z264), (19, vi z264), (18, vi l18), (13, vl l13), (7, vl l7), (5, vl l5), (3, vl l3), (2, vi l2), (0, .ref 131), (1, vi l1)] [vl z331] s266 _
                  refine wr_n (pc2 := 212) (lv2 := [(13, vl z331), (11, vl z328), (9, vl z325), (15, vi z322), (17, vi z264), (16, vi z264), (19, vi z264), (18, vi l18), (7, vl l7), (5, vl l5), (3, vl l3), (2, vi l2), (0, .ref 131), (1, vi l1)]) (st2 := []) 1 (fun _ _ => rfl) ?_
                  refine wr_inc (a := l18) rfl rfl ?_
                  show wr (4 * n + 150) tb_M70 215 [(18, vi (l18 + 1)), (13, vl z331), (11, vl z328), (9, vl z325), (15, vi z322), (17, vi z264), (16, vi z264), (19, vi z264), (7, vl l7), (5, vl l5), (3, vl l3), (2, vi l2), (0, .ref 131), (1, vi l1)] [] s266 _
                  refine wr_n (pc2 := 53) (lv2 := [(18, vi (l18 + 1)), (13, vl z331), (11, vl z328), (9, vl z325), (15, vi z322), (17, vi z264), (16, vi z264), (19, vi z264), (7, vl l7), (5, vl l5), (3, vl l3), (2, vi l2), (0, .ref 131), (1, vi l1)]) (st2 := []) 1 (fun _ _ => rfl) ?_
                  exact k_branches_53v2 hC hSt _ (l18 + 1) z331 z328 z325 z322 z264 z264 z264 l7 l5 l3 l2 l1 s266 rfl hK266 hq266 hX266 hC266 (by omega) h332 h329 h326 (by omega) (by omega) (by omega) (by omega) hl7 hl5 hl3 (by omega) (by omega) (by omega) 
                · refine wr_if1f rfl rfl (by unfold i32; omega) h321 ?_
                  refine wr_n (pc2 := 182) (lv2 := [(17, vi z264), (16, vi z264), (19, vi z264), (18, vi l18), (15, vi l15), (13, vl l13), (11, vl l11), (9, vl l9), (7, vl l7), (5, vl l5), (3, vl l3), (2, vi l2), (0, .ref 131), (1, vi l1)]) (st2 := [vi 1, vi l15]) 2 (fun _ _ => rfl) ?_
                  refine wr_any2 rfl rfl fun z333 h334 => ?_
                  unfold i32 at h334
                  show wr (4 * n + 150) tb_M70 183 [(17, vi z264), (16, vi z264), (19, vi z264), (18, vi l18), (15, vi l15), (13, vl l13), (11, vl l11), (9, vl l9), (7, vl l7), (5, vl l5), (3, vl l3), (2, vi l2), (0, .ref 131), (1, vi l1)] [vi z333] s266 _
                  refine wr_n (pc2 := 188) (lv2 := [(15, vi z333), (17, vi z264), (16, vi z264), (19, vi z264), (18, vi l18), (13, vl l13), (11, vl l11), (9, vl l9), (7, vl l7), (5, vl l5), (3, vl l3), (2, vi l2), (0, .ref 131), (1, vi l1)]) (st2 := [.ref 131, vl l9]) 3 (fun _ _ => rfl) ?_
                  refine wr_get (v := vl (s266.1 131 7)) rfl rfl rfl (by decide) rfl fun h335 => ?_
                  show wr (4 * n + 150) tb_M70 191 [(15, vi z333), (17, vi z264), (16, vi z264), (19, vi z264), (18, vi l18), (13, vl l13), (11, vl l11), (9, vl l9), (7, vl l7), (5, vl l5), (3, vl l3), (2, vi l2), (0, .ref 131), (1, vi l1)] [vl (s266.1 131 7), vl l9] s266 _
                  refine wr_anyl (a := l9) (b := s266.1 131 7) rfl rfl fun z336 h337 _ => ?_
                  show wr (4 * n + 150) tb_M70 192 [(15, vi z333), (17, vi z264), (16, vi z264), (19, vi z264), (18, vi l18), (13, vl l13), (11, vl l11), (9, vl l9), (7, vl l7), (5, vl l5), (3, vl l3), (2, vi l2), (0, .ref 131), (1, vi l1)] [vl z336] s266 _
                  refine wr_n (pc2 := 197) (lv2 := [(9, vl z336), (15, vi z333), (17, vi z264), (16, vi z264), (19, vi z264), (18, vi l18), (13, vl l13), (11, vl l11), (7, vl l7), (5, vl l5), (3, vl l3), (2, vi l2), (0, .ref 131), (1, vi l1)]) (st2 := [.ref 131, vl l11]) 3 (fun _ _ => rfl) ?_
                  refine wr_get (v := vl (s266.1 131 8)) rfl rfl rfl (by decide) rfl fun h338 => ?_
                  show wr (4 * n + 150) tb_M70 200 [(9, vl z336), (15, vi z333), (17, vi z264), (16, vi z264), (19, vi z264), (18, vi l18), (13, vl l13), (11, vl l11), (7, vl l7), (5, vl l5), (3, vl l3), (2, vi l2), (0, .ref 131), (1, vi l1)] [vl (s266.1 131 8), vl l11] s266 _
                  refine wr_anyl (a := l11) (b := s266.1 131 8) rfl rfl fun z339 h340 _ => ?_
                  show wr (4 * n + 150) tb_M70 201 [(9, vl z336), (15, vi z333), (17, vi z264), (16, vi z264), (19, vi z264), (18, vi l18), (13, vl l13), (11, vl l11), (7, vl l7), (5, vl l5), (3, vl l3), (2, vi l2), (0, .ref 131), (1, vi l1)] [vl z339] s266 _
                  refine wr_n (pc2 := 206) (lv2 := [(11, vl z339), (9, vl z336), (15, vi z333), (17, vi z264), (16, vi z264), (19, vi z264), (18, vi l18), (13, vl l13), (7, vl l7), (5, vl l5), (3, vl l3), (2, vi l2), (0, .ref 131), (1, vi l1)]) (st2 := [.ref 131, vl l13]) 3 (fun _ _ => rfl) ?_
                  refine wr_get (v := vl (s266.1 131 9)) rfl rfl rfl (by decide) rfl fun h341 => ?_
                  show wr (4 * n + 150) tb_M70 209 [(11, vl z339), (9, vl z336), (15, vi z333), (17, vi z264), (16, vi z264), (19, vi z264), (18, vi l18), (13, vl l13), (7, vl l7), (5, vl l5), (3, vl l3), (2, vi l2), (0, .ref 131), (1, vi l1)] [vl (s266.1 131 9), vl l13] s266 _
                  refine wr_anyl (a := l13) (b := s266.1 131 9) rfl rfl fun z342 h343 _ => ?_
                  show wr (4 * n + 150) tb_M70 210 [(11, vl z339), (9, vl z336), (15, vi z333), (17, vi z264), (16, vi z264), (19, vi z264), (18, vi l18), (13, vl l13), (7, vl l7), (5, vl l5), (3, vl l3), (2, vi l2), (0, .ref 131), (1, vi l1)] [vl z342] s266 _
                  refine wr_n (pc2 := 212) (lv2 := [(13, vl z342), (11, vl z339), (9, vl z336), (15, vi z333), (17, vi z264), (16, vi z264), (19, vi z264), (18, vi l18), (7, vl l7), (5, vl l5), (3, vl l3), (2, vi l2), (0, .ref 131), (1, vi l1)]) (st2 := []) 1 (fun _ _ => rfl) ?_
                  refine wr_inc (a := l18) rfl rfl ?_
                  show wr (4 * n + 150) tb_M70 215 [(18, vi (l18 + 1)), (13, vl z342), (11, vl z339), (9, vl z336), (15, vi z333), (17, vi z264), (16, vi z264), (19, vi z264), (7, vl l7), (5, vl l5), (3, vl l3), (2, vi l2), (0, .ref 131), (1, vi l1)] [] s266 _
                  refine wr_n (pc2 := 53) (lv2 := [(18, vi (l18 + 1)), (13, vl z342), (11, vl z339), (9, vl z336), (15, vi z333), (17, vi z264), (16, vi z264), (19, vi z264), (7, vl l7), (5, vl l5), (3, vl l3), (2, vi l2), (0, .ref 131), (1, vi l1)]) (st2 := []) 1 (fun _ _ => rfl) ?_
                  exact k_branches_53v2 hC hSt _ (l18 + 1) z342 z339 z336 z333 z264 z264 z264 l7 l5 l3 l2 l1 s266 rfl hK266 hq266 hX266 hC266 (by omega) h343 h340 h337 (by omega) (by omega) (by omega) (by omega) hl7 hl5 hl3 (by omega) (by omega) (by omega) 
            · refine .inr ⟨rfl, ?_⟩
              exact ⟨hK264, (FX_tr (FX_up (FX_up (FX_up hX260 (by unfold fx; omega)) (by unfold fx; omega)) (by unfold fx; omega)) hY264), .inr ⟨rfl, TH hC260 hc264⟩⟩
          · refine .inr ⟨rfl, ?_⟩
            exact ⟨hK260, (FX_tr hX hY260), .inr ⟨rfl, TH hc hc260⟩⟩
set_option maxHeartbeats 20000000 in
set_option maxRecDepth 100000 in
theorem k_branches {n : Nat} (hSt : JSt n) : JBr n := by
  intro C s x hC hK hq hx
  refine cr_of (M := tb_M70) rfl (Nat.le_of_ble_eq_true rfl) ?_
  show wr (4 * n + 150) tb_M70 0 [(0, .ref 131), (1, vi x)] [] s _
  refine wr_n (pc2 := 1) (lv2 := [(0, .ref 131), (1, vi x)]) (st2 := [.ref 131]) 1 (fun _ _ => rfl) ?_
  refine wr_get (v := .ref 137) rfl rfl rfl (by decide) (rv_ref (hK.1 131 0 137 rfl)) fun h1 => ?_
  show wr (4 * n + 150) tb_M70 4 [(0, .ref 131), (1, vi x)] [.ref 137] s _
  refine wr_call1 (args := []) (rest := []) rfl rfl rfl rfl (Nat.le_of_ble_eq_true rfl) (cr_mono (k_place (d := 4 * n + 149) s hK) ?_)
  rintro s2 out ⟨z2, rfl, hz2, hp2, e2⟩
  refine ⟨_, rfl, ?_⟩
  rw [e2]
  unfold i32 at hz2
  clear hp2
  show wr (4 * n + 150) tb_M70 7 [(0, .ref 131), (1, vi x)] [vi z2] s _
  refine wr_n (pc2 := 9) (lv2 := [(2, vi z2), (0, .ref 131), (1, vi x)]) (st2 := [.ref 131]) 2 (fun _ _ => rfl) ?_
  refine wr_get (v := vl (s.1 131 7)) rfl rfl rfl (by decide) rfl fun h3 => ?_
  show wr (4 * n + 150) tb_M70 12 [(2, vi z2), (0, .ref 131), (1, vi x)] [vl (s.1 131 7)] s _
  refine wr_n (pc2 := 14) (lv2 := [(3, vl (s.1 131 7)), (2, vi z2), (0, .ref 131), (1, vi x)]) (st2 := [.ref 131]) 2 (fun _ _ => rfl) ?_
  refine wr_get (v := vl (s.1 131 8)) rfl rfl rfl (by decide) rfl fun h4 => ?_
  show wr (4 * n + 150) tb_M70 17 [(3, vl (s.1 131 7)), (2, vi z2), (0, .ref 131), (1, vi x)] [vl (s.1 131 8)] s _
  refine wr_n (pc2 := 20) (lv2 := [(5, vl (s.1 131 8)), (3, vl (s.1 131 7)), (2, vi z2), (0, .ref 131), (1, vi x)]) (st2 := [.ref 131]) 2 (fun _ _ => rfl) ?_
  refine wr_get (v := vl (s.1 131 9)) rfl rfl rfl (by decide) rfl fun h5 => ?_
  show wr (4 * n + 150) tb_M70 23 [(5, vl (s.1 131 8)), (3, vl (s.1 131 7)), (2, vi z2), (0, .ref 131), (1, vi x)] [vl (s.1 131 9)] s _
  refine wr_n (pc2 := 47) (lv2 := [(18, vi 0), (17, vi ((-1))), (16, vi ((-1))), (15, vi 0), (13, vl 0), (11, vl 0), (9, vl 0), (7, vl (s.1 131 9)), (5, vl (s.1 131 8)), (3, vl (s.1 131 7)), (2, vi z2), (0, .ref 131), (1, vi x)]) (st2 := [.ref 131]) 16 (fun _ _ => rfl) ?_
  refine wr_get (v := .ref 137) rfl rfl rfl (by decide) (rv_ref (hK.1 131 0 137 rfl)) fun h6 => ?_
  show wr (4 * n + 150) tb_M70 50 [(18, vi 0), (17, vi ((-1))), (16, vi ((-1))), (15, vi 0), (13, vl 0), (11, vl 0), (9, vl 0), (7, vl (s.1 131 9)), (5, vl (s.1 131 8)), (3, vl (s.1 131 7)), (2, vi z2), (0, .ref 131), (1, vi x)] [.ref 137] s _
  refine wr_call1 (args := []) (rest := []) rfl rfl rfl rfl (Nat.le_of_ble_eq_true rfl) (cr_mono (k_step (d := 4 * n + 149) s hK) ?_)
  rintro s7 out ⟨hK7, hY7, hc7, rfl⟩
  refine ⟨_, rfl, ?_⟩
  have hX7 : FX s.1 s7.1 := FX_tr FX_rf hY7
  have hC7 : s7.2 = s.2 := hc7.trans rfl
  have hq7 : s7.1 131 1 = (C : Int) := (hY7 131 1 (by unfold fx; omega)).trans hq
  show wr (4 * n + 150) tb_M70 53 [(18, vi 0), (17, vi ((-1))), (16, vi ((-1))), (15, vi 0), (13, vl 0), (11, vl 0), (9, vl 0), (7, vl (s.1 131 9)), (5, vl (s.1 131 8)), (3, vl (s.1 131 7)), (2, vi z2), (0, .ref 131), (1, vi x)] [] s7 _
  exact k_branches_53 hC hSt _ 0 ((-1)) ((-1)) 0 0 0 0 (s.1 131 9) (s.1 131 8) (s.1 131 7) z2 x s7 rfl hK7 hq7 hX7 hC7 (by omega) (by omega) (by omega) (by omega) ((by unfold i64; omega)) ((by unfold i64; omega)) ((by unfold i64; omega)) h5 h4 h3 (by omega) (by omega) (by omega) 
set_option maxHeartbeats 20000000 in
set_option maxRecDepth 100000 in
theorem k_statement {n : Nat} (hSt : JSt n) (hBk : JBk n) (hCh : JCh n) (hBr : JBr n) : JSt (n + 1) := by
  intro C s x hC hK hq hx
  refine cr_of (M := tb_M52) rfl (Nat.le_of_ble_eq_true rfl) ?_
  show wr (4 * (n + 1) + 149) tb_M52 0 [(0, .ref 131), (1, vi x)] [] s _
  refine wr_n (pc2 := 4) (lv2 := [(0, .ref 131), (1, vi x)]) (st2 := [vi 20, vi x, .ref 131]) 3 (fun _ _ => rfl) ?_
  by_cases h1 : 20 < x
  · refine wr_if2t rfl rfl (by unfold i32; omega) (by unfold i32; omega) h1 ?_
    refine wr_n (pc2 := 13) (lv2 := [(0, .ref 131), (1, vi x)]) (st2 := [.ref 131, vi 0, .ref 131]) 2 (fun _ _ => rfl) ?_
    refine wr_get (v := .ref 137) rfl rfl rfl (by decide) (rv_ref (hK.1 131 0 137 rfl)) fun h2 => ?_
    show wr (4 * (n + 1) + 149) tb_M52 16 [(0, .ref 131), (1, vi x)] [.ref 137, vi 0, .ref 131] s _
    refine wr_call1 (args := []) (rest := [vi 0, .ref 131]) rfl rfl rfl rfl (Nat.le_of_ble_eq_true rfl) (cr_mono (k_place (d := 4 * (n + 1) + 148) s hK) ?_)
    rintro s3 out ⟨z3, rfl, hz3, hp3, e3⟩
    refine ⟨_, rfl, ?_⟩
    rw [e3]
    unfold i32 at hz3
    clear hp3
    show wr (4 * (n + 1) + 149) tb_M52 19 [(0, .ref 131), (1, vi x)] [vi z3, vi 0, .ref 131] s _
    refine wr_call1T (args := [vi 0, vi z3]) (rest := []) rfl rfl rfl rfl (Nat.le_of_ble_eq_true rfl) rfl (cr_mono (k_check (d := 4 * (n + 1) + 148) (x := 0) (y := z3) s hK (by omega) (by omega)) ?_)
    rintro s4 out (⟨e4, hr4, rfl⟩ | ⟨hK4, hY4, rfl, hc4⟩)
    · exact absurd rfl hr4
    · refine .inr ⟨rfl, ?_⟩
      exact ⟨hK4, (FX_tr FX_rf hY4), .inr ⟨rfl, TH rfl hc4⟩⟩
  · refine wr_if2f rfl rfl (by unfold i32; omega) (by unfold i32; omega) h1 ?_
    refine wr_n (pc2 := 13) (lv2 := [(0, .ref 131), (1, vi x)]) (st2 := [.ref 131, vi 1, .ref 131]) 3 (fun _ _ => rfl) ?_
    refine wr_get (v := .ref 137) rfl rfl rfl (by decide) (rv_ref (hK.1 131 0 137 rfl)) fun h5 => ?_
    show wr (4 * (n + 1) + 149) tb_M52 16 [(0, .ref 131), (1, vi x)] [.ref 137, vi 1, .ref 131] s _
    refine wr_call1 (args := []) (rest := [vi 1, .ref 131]) rfl rfl rfl rfl (Nat.le_of_ble_eq_true rfl) (cr_mono (k_place (d := 4 * (n + 1) + 148) s hK) ?_)
    rintro s6 out ⟨z6, rfl, hz6, hp6, e6⟩
    refine ⟨_, rfl, ?_⟩
    rw [e6]
    unfold i32 at hz6
    clear hp6
    show wr (4 * (n + 1) + 149) tb_M52 19 [(0, .ref 131), (1, vi x)] [vi z6, vi 1, .ref 131] s _
    refine wr_call1T (args := [vi 1, vi z6]) (rest := []) rfl rfl rfl rfl (Nat.le_of_ble_eq_true rfl) rfl (cr_mono (k_check (d := 4 * (n + 1) + 148) (x := 1) (y := z6) s hK (by omega) (by omega)) ?_)
    rintro s7 out (⟨e7, hr7, rfl⟩ | ⟨hK7, hY7, rfl, hc7⟩)
    · refine .inl ⟨_, rfl, ?_⟩
      rw [e7]
      show wr (4 * (n + 1) + 149) tb_M52 22 [(0, .ref 131), (1, vi x)] [] s _
      refine wr_n (pc2 := 23) (lv2 := [(0, .ref 131), (1, vi x)]) (st2 := [.ref 131]) 1 (fun _ _ => rfl) ?_
      refine wr_get (v := .ref 137) rfl rfl rfl (by decide) (rv_ref (hK.1 131 0 137 rfl)) fun h8 => ?_
      show wr (4 * (n + 1) + 149) tb_M52 26 [(0, .ref 131), (1, vi x)] [.ref 137] s _
      refine wr_call1 (args := []) (rest := []) rfl rfl rfl rfl (Nat.le_of_ble_eq_true rfl) (cr_mono (k_kind (d := 4 * (n + 1) + 148) s hK) ?_)
      rintro s9 out ⟨z9, rfl, hz9, hp9, e9⟩
      refine ⟨_, rfl, ?_⟩
      rw [e9]
      unfold i32 at hz9
      clear hp9
      show wr (4 * (n + 1) + 149) tb_M52 29 [(0, .ref 131), (1, vi x)] [vi z9] s _
      refine wr_lsw rfl (by decide) fun off hoff => ?_
      have hoff2 : off = 59 ∨ off = 75 ∨ off = 102 ∨ off = 108 ∨ off = 134 ∨ off = 169 ∨ off = 175 := by simp at hoff; omega
      clear hoff
      rcases hoff2 with rfl | rfl | rfl | rfl | rfl | rfl | rfl
      · refine ⟨88, rfl, ?_⟩
        refine wr_n (pc2 := 91) (lv2 := [(0, .ref 131), (1, vi x)]) (st2 := [.ref 131, vi x, .ref 131]) 3 (fun _ _ => rfl) ?_
        refine wr_get (v := .ref C) rfl rfl rfl (by decide) (rv_ref (show (s.1) 131 1 = ((C : Nat) : Int) from hq)) fun h10 => ?_
        show wr (4 * (n + 1) + 149) tb_M52 94 [(0, .ref 131), (1, vi x)] [.ref C, vi x, .ref 131] s _
        refine wr_get (v := .ref (C + 6)) rfl rfl (TK0 hC) (by decide) (rv_ref (hK.1 C 5 (C + 6) (rcK hC (by omega)))) fun h11 => ?_
        show wr (4 * (n + 1) + 149) tb_M52 97 [(0, .ref 131), (1, vi x)] [.ref (C + 6), vi x, .ref 131] s _
        refine wr_get (v := vi (s.1 (C + 6) 3)) rfl rfl (TK6 hC) (by decide) rfl fun h12 => ?_
        have h12 : -2147483648 ≤ s.1 (C + 6) 3 ∧ s.1 (C + 6) 3 ≤ 2147483647 := h12
        show wr (4 * (n + 1) + 149) tb_M52 100 [(0, .ref 131), (1, vi x)] [vi (s.1 (C + 6) 3), vi x, .ref 131] s _
        have hb13 : 0 ≤ s.1 (C + 6) 3 ∧ s.1 (C + 6) 3 ≤ 58 := kb_to (kC6_3 hC) (hK.2 (C + 6) 3)
        refine wr_call1T (args := [vi x, vi (s.1 (C + 6) 3)]) (rest := []) rfl rfl rfl rfl (Nat.le_of_ble_eq_true rfl) rfl (cr_mono (cr_up (by omega) (hBk C s x (s.1 (C + 6) 3) hC hK hq (by omega) (by omega))) ?_)
        rintro s14 out ⟨hK14, hY14, ⟨z14, hc14, rfl, hz14, hp14⟩ | ⟨rfl, hc14⟩⟩
        · refine .inl ⟨_, rfl, ?_⟩
          have hX14 : FX s.1 s14.1 := FX_tr FX_rf hY14
          have hC14 : s14.2 = s.2 := hc14.trans rfl
          have hq14 : s14.1 131 1 = (C : Int) := (hY14 131 1 (by unfold fx; omega)).trans hq
          unfold i32 at hz14
          clear hp14
          show wr (4 * (n + 1) + 149) tb_M52 103 [(0, .ref 131), (1, vi x)] [vi z14] s14 _
          refine wr_reti rfl rfl ?_
          exact ⟨hK14, hX14, .inl ⟨z14, hC14, rfl, by unfold i32; omega, trivial⟩⟩
        · refine .inr ⟨rfl, ?_⟩
          exact ⟨hK14, (FX_tr FX_rf hY14), .inr ⟨rfl, TH rfl hc14⟩⟩
      · refine ⟨104, rfl, ?_⟩
        refine wr_n (pc2 := 105) (lv2 := [(0, .ref 131), (1, vi x)]) (st2 := [.ref 131]) 1 (fun _ _ => rfl) ?_
        refine wr_get (v := .ref 137) rfl rfl rfl (by decide) (rv_ref (hK.1 131 0 137 rfl)) fun h15 => ?_
        show wr (4 * (n + 1) + 149) tb_M52 108 [(0, .ref 131), (1, vi x)] [.ref 137] s _
        refine wr_call1 (args := []) (rest := []) rfl rfl rfl rfl (Nat.le_of_ble_eq_true rfl) (cr_mono (k_step (d := 4 * (n + 1) + 148) s hK) ?_)
        rintro s16 out ⟨hK16, hY16, hc16, rfl⟩
        refine ⟨_, rfl, ?_⟩
        have hX16 : FX s.1 s16.1 := FX_tr FX_rf hY16
        have hC16 : s16.2 = s.2 := hc16.trans rfl
        have hq16 : s16.1 131 1 = (C : Int) := (hY16 131 1 (by unfold fx; omega)).trans hq
        show wr (4 * (n + 1) + 149) tb_M52 111 [(0, .ref 131), (1, vi x)] [] s16 _
        refine wr_n (pc2 := 114) (lv2 := [(0, .ref 131), (1, vi x)]) (st2 := [vi 59, .ref 131]) 2 (fun _ _ => rfl) ?_
        refine wr_call1T (args := [vi 59]) (rest := []) rfl rfl rfl rfl (Nat.le_of_ble_eq_true rfl) rfl (cr_mono (k_expect (d := 4 * (n + 1) + 147) (x := 59) s16 hK16 (by omega)) ?_)
        rintro s17 out ⟨hK17, hY17, ⟨hc17, rfl⟩ | ⟨rfl, hc17⟩⟩
        · refine .inl ⟨_, rfl, ?_⟩
          have hX17 : FX s.1 s17.1 := FX_tr hX16 hY17
          have hC17 : s17.2 = s.2 := hc17.trans hC16
          have hq17 : s17.1 131 1 = (C : Int) := (hY17 131 1 (by unfold fx; omega)).trans hq16
          show wr (4 * (n + 1) + 149) tb_M52 117 [(0, .ref 131), (1, vi x)] [] s17 _
          refine wr_n (pc2 := 118) (lv2 := [(0, .ref 131), (1, vi x)]) (st2 := [.ref 131]) 1 (fun _ _ => rfl) ?_
          refine wr_get (v := .ref C) rfl rfl rfl (by decide) (rv_ref (show (s17.1) 131 1 = ((C : Nat) : Int) from hq17)) fun h18 => ?_
          show wr (4 * (n + 1) + 149) tb_M52 121 [(0, .ref 131), (1, vi x)] [.ref C] s17 _
          refine wr_n (pc2 := 127) (lv2 := [(0, .ref 131), (1, vi x)]) (st2 := [vi ((-1)), vi ((-1)), vi ((-1)), vi 314, .ref C]) 4 (fun _ _ => rfl) ?_
          refine wr_call1 (args := [vi 314, vi ((-1)), vi ((-1)), vi ((-1))]) (rest := []) rfl rfl rfl (TK0 hC) (Nat.le_of_ble_eq_true rfl) (cr_mono (k_cadd (d := 4 * (n + 1) + 148) (C := C) hC (x := 314) (y := (-1)) (u := (-1)) (v := (-1)) s17 hK17 (by omega) (by omega) (by omega) (by omega)) ?_)
          rintro s19 out ⟨hK19, hY19, hc19, ha19, z19, rfl, hz19, hp19⟩
          refine ⟨_, rfl, ?_⟩
          have hX19 : FX s.1 s19.1 := FX_tr hX17 hY19
          have hC19 : s19.2 = s.2 := hc19.trans hC17
          have hq19 : s19.1 131 1 = (C : Int) := (hY19 131 1 (by unfold fx; omega)).trans hq17
          unfold i32 at hz19
          clear hp19
          show wr (4 * (n + 1) + 149) tb_M52 130 [(0, .ref 131), (1, vi x)] [vi z19] s19 _
          refine wr_reti rfl rfl ?_
          exact ⟨hK19, hX19, .inl ⟨z19, hC19, rfl, by unfold i32; omega, trivial⟩⟩
        · refine .inr ⟨rfl, ?_⟩
          exact ⟨hK17, (FX_tr hX16 hY17), .inr ⟨rfl, TH hC16 hc17⟩⟩
      · refine ⟨131, rfl, ?_⟩
        refine wr_n (pc2 := 133) (lv2 := [(0, .ref 131), (1, vi x)]) (st2 := [vi x, .ref 131]) 2 (fun _ _ => rfl) ?_
        refine wr_call1T (args := [vi x]) (rest := []) rfl rfl rfl rfl (Nat.le_of_ble_eq_true rfl) rfl (cr_mono (cr_up (by omega) (hCh C s x hC hK hq (by omega))) ?_)
        rintro s20 out ⟨hK20, hY20, ⟨z20, hc20, rfl, hz20, hp20⟩ | ⟨rfl, hc20⟩⟩
        · refine .inl ⟨_, rfl, ?_⟩
          have hX20 : FX s.1 s20.1 := FX_tr FX_rf hY20
          have hC20 : s20.2 = s.2 := hc20.trans rfl
          have hq20 : s20.1 131 1 = (C : Int) := (hY20 131 1 (by unfold fx; omega)).trans hq
          unfold i32 at hz20
          clear hp20
          show wr (4 * (n + 1) + 149) tb_M52 136 [(0, .ref 131), (1, vi x)] [vi z20] s20 _
          refine wr_reti rfl rfl ?_
          exact ⟨hK20, hX20, .inl ⟨z20, hC20, rfl, by unfold i32; omega, trivial⟩⟩
        · refine .inr ⟨rfl, ?_⟩
          exact ⟨hK20, (FX_tr FX_rf hY20), .inr ⟨rfl, TH rfl hc20⟩⟩
      · refine ⟨137, rfl, ?_⟩
        refine wr_n (pc2 := 139) (lv2 := [(0, .ref 131), (1, vi x)]) (st2 := [vi x, .ref 131]) 2 (fun _ _ => rfl) ?_
        refine wr_call1T (args := [vi x]) (rest := []) rfl rfl rfl rfl (Nat.le_of_ble_eq_true rfl) rfl (cr_mono (k_condition (d := 4 * (n + 1) + 9) (C := C) hC (x := x) s hK hq (by omega)) ?_)
        rintro s21 out ⟨hK21, hY21, ⟨z21, hc21, rfl, hz21, hp21⟩ | ⟨rfl, hc21⟩⟩
        · refine .inl ⟨_, rfl, ?_⟩
          have hX21 : FX s.1 s21.1 := FX_tr FX_rf hY21
          have hC21 : s21.2 = s.2 := hc21.trans rfl
          have hq21 : s21.1 131 1 = (C : Int) := (hY21 131 1 (by unfold fx; omega)).trans hq
          unfold i32 at hz21
          clear hp21
          show wr (4 * (n + 1) + 149) tb_M52 142 [(0, .ref 131), (1, vi x)] [vi z21] s21 _
          refine wr_n (pc2 := 144) (lv2 := [(2, vi z21), (0, .ref 131), (1, vi x)]) (st2 := [.ref 131]) 2 (fun _ _ => rfl) ?_
          refine wr_get (v := .ref C) rfl rfl rfl (by decide) (rv_ref (show (s21.1) 131 1 = ((C : Nat) : Int) from hq21)) fun h22 => ?_
          show wr (4 * (n + 1) + 149) tb_M52 147 [(2, vi z21), (0, .ref 131), (1, vi x)] [.ref C] s21 _
          refine wr_n (pc2 := 154) (lv2 := [(2, vi z21), (0, .ref 131), (1, vi x)]) (st2 := [vi 1, vi x, .ref 131, vi z21, vi 310, .ref C]) 5 (fun _ _ => rfl) ?_
          refine wr_add (a := x) (b := 1) rfl ?_
          show wr (4 * (n + 1) + 149) tb_M52 155 [(2, vi z21), (0, .ref 131), (1, vi x)] [vi (x + 1), .ref 131, vi z21, vi 310, .ref C] s21 _
          refine wr_call1T (args := [vi (x + 1)]) (rest := [vi z21, vi 310, .ref C]) rfl rfl rfl rfl (Nat.le_of_ble_eq_true rfl) rfl (cr_mono (cr_up (by omega) (hSt C s21 (x + 1) hC hK21 hq21 (by omega))) ?_)
          rintro s23 out ⟨hK23, hY23, ⟨z23, hc23, rfl, hz23, hp23⟩ | ⟨rfl, hc23⟩⟩
          · refine .inl ⟨_, rfl, ?_⟩
            have hX23 : FX s.1 s23.1 := FX_tr hX21 hY23
            have hC23 : s23.2 = s.2 := hc23.trans hC21
            have hq23 : s23.1 131 1 = (C : Int) := (hY23 131 1 (by unfold fx; omega)).trans hq21
            unfold i32 at hz23
            clear hp23
            show wr (4 * (n + 1) + 149) tb_M52 158 [(2, vi z21), (0, .ref 131), (1, vi x)] [vi z23, vi z21, vi 310, .ref C] s23 _
            refine wr_n (pc2 := 159) (lv2 := [(2, vi z21), (0, .ref 131), (1, vi x)]) (st2 := [vi ((-1)), vi z23, vi z21, vi 310, .ref C]) 1 (fun _ _ => rfl) ?_
            refine wr_call1 (args := [vi 310, vi z21, vi z23, vi ((-1))]) (rest := []) rfl rfl rfl (TK0 hC) (Nat.le_of_ble_eq_true rfl) (cr_mono (k_cadd (d := 4 * (n + 1) + 148) (C := C) hC (x := 310) (y := z21) (u := z23) (v := (-1)) s23 hK23 (by omega) (by omega) (by omega) (by omega)) ?_)
            rintro s24 out ⟨hK24, hY24, hc24, ha24, z24, rfl, hz24, hp24⟩
            refine ⟨_, rfl, ?_⟩
            have hX24 : FX s.1 s24.1 := FX_tr hX23 hY24
            have hC24 : s24.2 = s.2 := hc24.trans hC23
            have hq24 : s24.1 131 1 = (C : Int) := (hY24 131 1 (by unfold fx; omega)).trans hq23
            unfold i32 at hz24
            clear hp24
            show wr (4 * (n + 1) + 149) tb_M52 162 [(2, vi z21), (0, .ref 131), (1, vi x)] [vi z24] s24 _
            refine wr_reti rfl rfl ?_
            exact ⟨hK24, hX24, .inl ⟨z24, hC24, rfl, by unfold i32; omega, trivial⟩⟩
          · refine .inr ⟨rfl, ?_⟩
            exact ⟨hK23, (FX_tr hX21 hY23), .inr ⟨rfl, TH hC21 hc23⟩⟩
        · refine .inr ⟨rfl, ?_⟩
          exact ⟨hK21, (FX_tr FX_rf hY21), .inr ⟨rfl, TH rfl hc21⟩⟩
      · refine ⟨163, rfl, ?_⟩
        refine wr_n (pc2 := 164) (lv2 := [(0, .ref 131), (1, vi x)]) (st2 := [.ref 131]) 1 (fun _ _ => rfl) ?_
        refine wr_get (v := .ref 137) rfl rfl rfl (by decide) (rv_ref (hK.1 131 0 137 rfl)) fun h25 => ?_
        show wr (4 * (n + 1) + 149) tb_M52 167 [(0, .ref 131), (1, vi x)] [.ref 137] s _
        refine wr_call1 (args := []) (rest := []) rfl rfl rfl rfl (Nat.le_of_ble_eq_true rfl) (cr_mono (k_step (d := 4 * (n + 1) + 148) s hK) ?_)
        rintro s26 out ⟨hK26, hY26, hc26, rfl⟩
        refine ⟨_, rfl, ?_⟩
        have hX26 : FX s.1 s26.1 := FX_tr FX_rf hY26
        have hC26 : s26.2 = s.2 := hc26.trans rfl
        have hq26 : s26.1 131 1 = (C : Int) := (hY26 131 1 (by unfold fx; omega)).trans hq
        show wr (4 * (n + 1) + 149) tb_M52 170 [(0, .ref 131), (1, vi x)] [] s26 _
        refine wr_n (pc2 := 174) (lv2 := [(0, .ref 131), (1, vi x)]) (st2 := [vi 65535, vi 0, .ref 131]) 3 (fun _ _ => rfl) ?_
        refine wr_call1T (args := [vi 0, vi 65535]) (rest := []) rfl rfl rfl rfl (Nat.le_of_ble_eq_true rfl) rfl (cr_mono (k_number (d := 4 * (n + 1) + 147) (x := 0) (y := 65535) s26 hK26 (by omega) (by omega)) ?_)
        rintro s27 out ⟨hK27, hY27, ⟨z27, hc27, rfl, hz27, hp27⟩ | ⟨rfl, hc27⟩⟩
        · refine .inl ⟨_, rfl, ?_⟩
          have hX27 : FX s.1 s27.1 := FX_tr hX26 hY27
          have hC27 : s27.2 = s.2 := hc27.trans hC26
          have hq27 : s27.1 131 1 = (C : Int) := (hY27 131 1 (by unfold fx; omega)).trans hq26
          unfold i32 at hz27
          replace hp27 : 0 ≤ z27 ∧ z27 ≤ 65535 := hp27
          show wr (4 * (n + 1) + 149) tb_M52 177 [(0, .ref 131), (1, vi x)] [vi z27] s27 _
          refine wr_n (pc2 := 179) (lv2 := [(3, vi z27), (0, .ref 131), (1, vi x)]) (st2 := [.ref 131]) 2 (fun _ _ => rfl) ?_
          refine wr_get (v := .ref C) rfl rfl rfl (by decide) (rv_ref (show (s27.1) 131 1 = ((C : Nat) : Int) from hq27)) fun h28 => ?_
          show wr (4 * (n + 1) + 149) tb_M52 182 [(3, vi z27), (0, .ref 131), (1, vi x)] [.ref C] s27 _
          refine wr_n (pc2 := 189) (lv2 := [(3, vi z27), (0, .ref 131), (1, vi x)]) (st2 := [vi 1, vi x, .ref 131, vi z27, vi 311, .ref C]) 5 (fun _ _ => rfl) ?_
          refine wr_add (a := x) (b := 1) rfl ?_
          show wr (4 * (n + 1) + 149) tb_M52 190 [(3, vi z27), (0, .ref 131), (1, vi x)] [vi (x + 1), .ref 131, vi z27, vi 311, .ref C] s27 _
          refine wr_call1T (args := [vi (x + 1)]) (rest := [vi z27, vi 311, .ref C]) rfl rfl rfl rfl (Nat.le_of_ble_eq_true rfl) rfl (cr_mono (cr_up (by omega) (hSt C s27 (x + 1) hC hK27 hq27 (by omega))) ?_)
          rintro s29 out ⟨hK29, hY29, ⟨z29, hc29, rfl, hz29, hp29⟩ | ⟨rfl, hc29⟩⟩
          · refine .inl ⟨_, rfl, ?_⟩
            have hX29 : FX s.1 s29.1 := FX_tr hX27 hY29
            have hC29 : s29.2 = s.2 := hc29.trans hC27
            have hq29 : s29.1 131 1 = (C : Int) := (hY29 131 1 (by unfold fx; omega)).trans hq27
            unfold i32 at hz29
            clear hp29
            show wr (4 * (n + 1) + 149) tb_M52 193 [(3, vi z27), (0, .ref 131), (1, vi x)] [vi z29, vi z27, vi 311, .ref C] s29 _
            refine wr_n (pc2 := 194) (lv2 := [(3, vi z27), (0, .ref 131), (1, vi x)]) (st2 := [vi ((-1)), vi z29, vi z27, vi 311, .ref C]) 1 (fun _ _ => rfl) ?_
            refine wr_call1 (args := [vi 311, vi z27, vi z29, vi ((-1))]) (rest := []) rfl rfl rfl (TK0 hC) (Nat.le_of_ble_eq_true rfl) (cr_mono (k_cadd (d := 4 * (n + 1) + 148) (C := C) hC (x := 311) (y := z27) (u := z29) (v := (-1)) s29 hK29 (by omega) (by omega) (by omega) (by omega)) ?_)
            rintro s30 out ⟨hK30, hY30, hc30, ha30, z30, rfl, hz30, hp30⟩
            refine ⟨_, rfl, ?_⟩
            have hX30 : FX s.1 s30.1 := FX_tr hX29 hY30
            have hC30 : s30.2 = s.2 := hc30.trans hC29
            have hq30 : s30.1 131 1 = (C : Int) := (hY30 131 1 (by unfold fx; omega)).trans hq29
            unfold i32 at hz30
            clear hp30
            show wr (4 * (n + 1) + 149) tb_M52 197 [(3, vi z27), (0, .ref 131), (1, vi x)] [vi z30] s30 _
            refine wr_reti rfl rfl ?_
            exact ⟨hK30, hX30, .inl ⟨z30, hC30, rfl, by unfold i32; omega, trivial⟩⟩
          · refine .inr ⟨rfl, ?_⟩
            exact ⟨hK29, (FX_tr hX27 hY29), .inr ⟨rfl, TH hC27 hc29⟩⟩
        · refine .inr ⟨rfl, ?_⟩
          exact ⟨hK27, (FX_tr hX26 hY27), .inr ⟨rfl, TH hC26 hc27⟩⟩
      · refine ⟨198, rfl, ?_⟩
        refine wr_n (pc2 := 200) (lv2 := [(0, .ref 131), (1, vi x)]) (st2 := [vi x, .ref 131]) 2 (fun _ _ => rfl) ?_
        refine wr_call1T (args := [vi x]) (rest := []) rfl rfl rfl rfl (Nat.le_of_ble_eq_true rfl) rfl (cr_mono (cr_up (by omega) (hBr C s x hC hK hq (by omega))) ?_)
        rintro s31 out ⟨hK31, hY31, ⟨z31, hc31, rfl, hz31, hp31⟩ | ⟨rfl, hc31⟩⟩
        · refine .inl ⟨_, rfl, ?_⟩
          have hX31 : FX s.1 s31.1 := FX_tr FX_rf hY31
          have hC31 : s31.2 = s.2 := hc31.trans rfl
          have hq31 : s31.1 131 1 = (C : Int) := (hY31 131 1 (by unfold fx; omega)).trans hq
          unfold i32 at hz31
          clear hp31
          show wr (4 * (n + 1) + 149) tb_M52 203 [(0, .ref 131), (1, vi x)] [vi z31] s31 _
          refine wr_reti rfl rfl ?_
          exact ⟨hK31, hX31, .inl ⟨z31, hC31, rfl, by unfold i32; omega, trivial⟩⟩
        · refine .inr ⟨rfl, ?_⟩
          exact ⟨hK31, (FX_tr FX_rf hY31), .inr ⟨rfl, TH rfl hc31⟩⟩
      · refine ⟨204, rfl, ?_⟩
        refine wr_n (pc2 := 206) (lv2 := [(0, .ref 131), (1, vi x)]) (st2 := [vi x, .ref 131]) 2 (fun _ _ => rfl) ?_
        refine wr_call1T (args := [vi x]) (rest := []) rfl rfl rfl rfl (Nat.le_of_ble_eq_true rfl) rfl (cr_mono (k_namedStatement (d := 4 * (n + 1) + 7) (C := C) hC (x := x) s hK hq (by omega)) ?_)
        rintro s32 out ⟨hK32, hY32, ⟨z32, hc32, rfl, hz32, hp32⟩ | ⟨rfl, hc32⟩⟩
        · refine .inl ⟨_, rfl, ?_⟩
          have hX32 : FX s.1 s32.1 := FX_tr FX_rf hY32
          have hC32 : s32.2 = s.2 := hc32.trans rfl
          have hq32 : s32.1 131 1 = (C : Int) := (hY32 131 1 (by unfold fx; omega)).trans hq
          unfold i32 at hz32
          clear hp32
          show wr (4 * (n + 1) + 149) tb_M52 209 [(0, .ref 131), (1, vi x)] [vi z32] s32 _
          refine wr_reti rfl rfl ?_
          exact ⟨hK32, hX32, .inl ⟨z32, hC32, rfl, by unfold i32; omega, trivial⟩⟩
        · refine .inr ⟨rfl, ?_⟩
          exact ⟨hK32, (FX_tr FX_rf hY32), .inr ⟨rfl, TH rfl hc32⟩⟩
    · refine .inr ⟨rfl, ?_⟩
      exact ⟨hK7, (FX_tr FX_rf hY7), .inr ⟨rfl, TH rfl hc7⟩⟩
theorem k_KS : ∀ n, JSt n
  | 0 => fun C s x _ _ _ h => absurd h (by omega)
  | n + 1 => k_statement (k_KS n) (k_block (k_row (k_KS n))) (k_choice (k_KS n)) (k_branches (k_KS n))
theorem k_JR : JRw 21 := k_row (k_KS 21)
theorem k_JB : JBk 21 := k_block k_JR
set_option maxHeartbeats 20000000 in
set_option maxRecDepth 100000 in
theorem k_funBody {d : Nat} {C : Nat} (hC : C = 99 ∨ C = 115)  {x : Int} (s : rS) (hK : KI s.1) (hq : s.1 131 1 = (C : Int)) (hx : (-2147483648) ≤ x ∧ x ≤ 2147483647)  : cr (d + 240) 49 [.ref 131, vi x] s (TZ (fun z => True) s) := by
  refine cr_of (M := tb_M49) rfl (Nat.le_of_ble_eq_true rfl) ?_
  show wr (d + 239) tb_M49 0 [(0, .ref 131), (1, vi x)] [] s _
  refine wr_n (pc2 := 3) (lv2 := [(0, .ref 131), (1, vi x)]) (st2 := [vi 123, .ref 131]) 2 (fun _ _ => rfl) ?_
  refine wr_call1T (args := [vi 123]) (rest := []) rfl rfl rfl rfl (Nat.le_of_ble_eq_true rfl) rfl (cr_mono (k_expect (d := d + 237) (x := 123) s hK (by omega)) ?_)
  rintro s1 out ⟨hK1, hY1, ⟨hc1, rfl⟩ | ⟨rfl, hc1⟩⟩
  · refine .inl ⟨_, rfl, ?_⟩
    have hX1 : FX s.1 s1.1 := FX_tr FX_rf hY1
    have hC1 : s1.2 = s.2 := hc1.trans rfl
    have hq1 : s1.1 131 1 = (C : Int) := (hY1 131 1 (by unfold fx; omega)).trans hq
    show wr (d + 239) tb_M49 6 [(0, .ref 131), (1, vi x)] [] s1 _
    refine wr_n (pc2 := 8) (lv2 := [(0, .ref 131), (1, vi x)]) (st2 := [vi x, .ref 131]) 2 (fun _ _ => rfl) ?_
    refine wr_call1T (args := [vi x]) (rest := []) rfl rfl rfl rfl (Nat.le_of_ble_eq_true rfl) rfl (cr_mono (k_ints (d := d + 235) (C := C) hC (x := x) s1 hK1 hq1 (by omega)) ?_)
    rintro s2 out ⟨hK2, hY2, ⟨hc2, rfl⟩ | ⟨rfl, hc2⟩⟩
    · refine .inl ⟨_, rfl, ?_⟩
      have hX2 : FX s.1 s2.1 := FX_tr hX1 hY2
      have hC2 : s2.2 = s.2 := hc2.trans hC1
      have hq2 : s2.1 131 1 = (C : Int) := (hY2 131 1 (by unfold fx; omega)).trans hq1
      show wr (d + 239) tb_M49 11 [(0, .ref 131), (1, vi x)] [] s2 _
      refine wr_n (pc2 := 16) (lv2 := [(0, .ref 131), (1, vi x)]) (st2 := [vi 0, vi 313, .ref 131]) 3 (fun _ _ => rfl) ?_
      refine wr_call1T (args := [vi 313, vi 0]) (rest := []) rfl rfl rfl rfl (Nat.le_of_ble_eq_true rfl) rfl (cr_mono (cr_up (by omega) (k_JR C s2 313 0 hC hK2 hq2 (by omega) (by omega))) ?_)
      rintro s3 out ⟨hK3, hY3, ⟨z3, hc3, rfl, hz3, hp3⟩ | ⟨rfl, hc3⟩⟩
      · refine .inl ⟨_, rfl, ?_⟩
        have hX3 : FX s.1 s3.1 := FX_tr hX2 hY3
        have hC3 : s3.2 = s.2 := hc3.trans hC2
        have hq3 : s3.1 131 1 = (C : Int) := (hY3 131 1 (by unfold fx; omega)).trans hq2
        unfold i32 at hz3
        clear hp3
        show wr (d + 239) tb_M49 19 [(0, .ref 131), (1, vi x)] [vi z3] s3 _
        refine wr_n (pc2 := 21) (lv2 := [(2, vi z3), (0, .ref 131), (1, vi x)]) (st2 := [.ref 131]) 2 (fun _ _ => rfl) ?_
        refine wr_get (v := vi (s3.1 131 15)) rfl rfl rfl (by decide) rfl fun h4 => ?_
        have h4 : -2147483648 ≤ s3.1 131 15 ∧ s3.1 131 15 ≤ 2147483647 := h4
        show wr (d + 239) tb_M49 24 [(2, vi z3), (0, .ref 131), (1, vi x)] [vi (s3.1 131 15)] s3 _
        refine wr_n (pc2 := 29) (lv2 := [(3, vi (s3.1 131 15)), (2, vi z3), (0, .ref 131), (1, vi x)]) (st2 := [vi 313, .ref 131]) 3 (fun _ _ => rfl) ?_
        refine wr_call1T (args := [vi 313]) (rest := []) rfl rfl rfl rfl (Nat.le_of_ble_eq_true rfl) rfl (cr_mono (k_expect (d := d + 237) (x := 313) s3 hK3 (by omega)) ?_)
        rintro s5 out ⟨hK5, hY5, ⟨hc5, rfl⟩ | ⟨rfl, hc5⟩⟩
        · refine .inl ⟨_, rfl, ?_⟩
          have hX5 : FX s.1 s5.1 := FX_tr hX3 hY5
          have hC5 : s5.2 = s.2 := hc5.trans hC3
          have hq5 : s5.1 131 1 = (C : Int) := (hY5 131 1 (by unfold fx; omega)).trans hq3
          show wr (d + 239) tb_M49 32 [(3, vi (s3.1 131 15)), (2, vi z3), (0, .ref 131), (1, vi x)] [] s5 _
          refine wr_n (pc2 := 34) (lv2 := [(3, vi (s3.1 131 15)), (2, vi z3), (0, .ref 131), (1, vi x)]) (st2 := [vi 0, .ref 131]) 2 (fun _ _ => rfl) ?_
          refine wr_call1T (args := [vi 0]) (rest := []) rfl rfl rfl rfl (Nat.le_of_ble_eq_true rfl) rfl (cr_mono (cr_up (by omega) ((k_KE 21).1 C s5 0 hC hK5 hq5 (by omega))) ?_)
          rintro s6 out ⟨hK6, hY6, ⟨z6, hc6, rfl, hz6, hp6⟩ | ⟨rfl, hc6⟩⟩
          · refine .inl ⟨_, rfl, ?_⟩
            have hX6 : FX s.1 s6.1 := FX_tr hX5 hY6
            have hC6 : s6.2 = s.2 := hc6.trans hC5
            have hq6 : s6.1 131 1 = (C : Int) := (hY6 131 1 (by unfold fx; omega)).trans hq5
            unfold i32 at hz6
            clear hp6
            show wr (d + 239) tb_M49 37 [(3, vi (s3.1 131 15)), (2, vi z3), (0, .ref 131), (1, vi x)] [vi z6] s6 _
            refine wr_n (pc2 := 40) (lv2 := [(4, vi z6), (3, vi (s3.1 131 15)), (2, vi z3), (0, .ref 131), (1, vi x)]) (st2 := [.ref 131]) 2 (fun _ _ => rfl) ?_
            refine wr_get (v := .ref C) rfl rfl rfl (by decide) (rv_ref (show (s6.1) 131 1 = ((C : Nat) : Int) from hq6)) fun h7 => ?_
            show wr (d + 239) tb_M49 43 [(4, vi z6), (3, vi (s3.1 131 15)), (2, vi z3), (0, .ref 131), (1, vi x)] [.ref C] s6 _
            refine wr_n (pc2 := 46) (lv2 := [(4, vi z6), (3, vi (s3.1 131 15)), (2, vi z3), (0, .ref 131), (1, vi x)]) (st2 := [vi z6, vi (s3.1 131 15), .ref C]) 2 (fun _ _ => rfl) ?_
            refine wr_call1 (args := [vi (s3.1 131 15), vi z6]) (rest := []) rfl rfl rfl (TK0 hC) (Nat.le_of_ble_eq_true rfl) (cr_mono (k_link (d := d + 237) (C := C) hC (x := s3.1 131 15) (y := z6) s6 hK6 (by omega) (by omega)) ?_)
            rintro s8 out ⟨hK8, hY8, hc8, rfl⟩
            refine ⟨_, rfl, ?_⟩
            have hX8 : FX s.1 s8.1 := FX_tr hX6 hY8
            have hC8 : s8.2 = s.2 := hc8.trans hC6
            have hq8 : s8.1 131 1 = (C : Int) := (hY8 131 1 (by unfold fx; omega)).trans hq6
            show wr (d + 239) tb_M49 49 [(4, vi z6), (3, vi (s3.1 131 15)), (2, vi z3), (0, .ref 131), (1, vi x)] [] s8 _
            refine wr_n (pc2 := 52) (lv2 := [(4, vi z6), (3, vi (s3.1 131 15)), (2, vi z3), (0, .ref 131), (1, vi x)]) (st2 := [vi 59, .ref 131]) 2 (fun _ _ => rfl) ?_
            refine wr_call1T (args := [vi 59]) (rest := []) rfl rfl rfl rfl (Nat.le_of_ble_eq_true rfl) rfl (cr_mono (k_expect (d := d + 237) (x := 59) s8 hK8 (by omega)) ?_)
            rintro s9 out ⟨hK9, hY9, ⟨hc9, rfl⟩ | ⟨rfl, hc9⟩⟩
            · refine .inl ⟨_, rfl, ?_⟩
              have hX9 : FX s.1 s9.1 := FX_tr hX8 hY9
              have hC9 : s9.2 = s.2 := hc9.trans hC8
              have hq9 : s9.1 131 1 = (C : Int) := (hY9 131 1 (by unfold fx; omega)).trans hq8
              show wr (d + 239) tb_M49 55 [(4, vi z6), (3, vi (s3.1 131 15)), (2, vi z3), (0, .ref 131), (1, vi x)] [] s9 _
              refine wr_n (pc2 := 58) (lv2 := [(4, vi z6), (3, vi (s3.1 131 15)), (2, vi z3), (0, .ref 131), (1, vi x)]) (st2 := [vi 125, .ref 131]) 2 (fun _ _ => rfl) ?_
              refine wr_call1T (args := [vi 125]) (rest := []) rfl rfl rfl rfl (Nat.le_of_ble_eq_true rfl) rfl (cr_mono (k_expect (d := d + 237) (x := 125) s9 hK9 (by omega)) ?_)
              rintro s10 out ⟨hK10, hY10, ⟨hc10, rfl⟩ | ⟨rfl, hc10⟩⟩
              · refine .inl ⟨_, rfl, ?_⟩
                have hX10 : FX s.1 s10.1 := FX_tr hX9 hY10
                have hC10 : s10.2 = s.2 := hc10.trans hC9
                have hq10 : s10.1 131 1 = (C : Int) := (hY10 131 1 (by unfold fx; omega)).trans hq9
                show wr (d + 239) tb_M49 61 [(4, vi z6), (3, vi (s3.1 131 15)), (2, vi z3), (0, .ref 131), (1, vi x)] [] s10 _
                refine wr_n (pc2 := 62) (lv2 := [(4, vi z6), (3, vi (s3.1 131 15)), (2, vi z3), (0, .ref 131), (1, vi x)]) (st2 := [.ref 131]) 1 (fun _ _ => rfl) ?_
                refine wr_get (v := .ref C) rfl rfl rfl (by decide) (rv_ref (show (s10.1) 131 1 = ((C : Nat) : Int) from hq10)) fun h11 => ?_
                show wr (d + 239) tb_M49 65 [(4, vi z6), (3, vi (s3.1 131 15)), (2, vi z3), (0, .ref 131), (1, vi x)] [.ref C] s10 _
                refine wr_get (v := .ref (C + 6)) rfl rfl (TK0 hC) (by decide) (rv_ref (hK10.1 C 5 (C + 6) (rcK hC (by omega)))) fun h12 => ?_
                show wr (d + 239) tb_M49 68 [(4, vi z6), (3, vi (s3.1 131 15)), (2, vi z3), (0, .ref 131), (1, vi x)] [.ref (C + 6)] s10 _
                refine wr_n (pc2 := 69) (lv2 := [(4, vi z6), (3, vi (s3.1 131 15)), (2, vi z3), (0, .ref 131), (1, vi x)]) (st2 := [vi x, .ref (C + 6)]) 1 (fun _ _ => rfl) ?_
                refine wr_call1 (args := [vi x]) (rest := []) rfl rfl rfl (TK6 hC) (Nat.le_of_ble_eq_true rfl) (cr_mono (k_cut (d := d + 238) (C := C) hC (x := x) s10 hK10 (by omega)) ?_)
                rintro s13 out ⟨hK13, hY13, hc13, rfl⟩
                refine ⟨_, rfl, ?_⟩
                have hX13 : FX s.1 s13.1 := FX_tr hX10 hY13
                have hC13 : s13.2 = s.2 := hc13.trans hC10
                have hq13 : s13.1 131 1 = (C : Int) := (hY13 131 1 (by unfold fx; omega)).trans hq10
                show wr (d + 239) tb_M49 72 [(4, vi z6), (3, vi (s3.1 131 15)), (2, vi z3), (0, .ref 131), (1, vi x)] [] s13 _
                refine wr_n (pc2 := 73) (lv2 := [(4, vi z6), (3, vi (s3.1 131 15)), (2, vi z3), (0, .ref 131), (1, vi x)]) (st2 := [vi z3]) 1 (fun _ _ => rfl) ?_
                by_cases h14 : 0 ≤ z3
                · refine wr_if1t rfl rfl (by unfold i32; omega) h14 ?_
                  refine wr_n (pc2 := 82) (lv2 := [(4, vi z6), (3, vi (s3.1 131 15)), (2, vi z3), (0, .ref 131), (1, vi x)]) (st2 := [vi z3]) 1 (fun _ _ => rfl) ?_
                  refine wr_reti rfl rfl ?_
                  exact ⟨hK13, hX13, .inl ⟨z3, hC13, rfl, by unfold i32; omega, trivial⟩⟩
                · refine wr_if1f rfl rfl (by unfold i32; omega) h14 ?_
                  refine wr_n (pc2 := 82) (lv2 := [(4, vi z6), (3, vi (s3.1 131 15)), (2, vi z3), (0, .ref 131), (1, vi x)]) (st2 := [vi z6]) 2 (fun _ _ => rfl) ?_
                  refine wr_reti rfl rfl ?_
                  exact ⟨hK13, hX13, .inl ⟨z6, hC13, rfl, by unfold i32; omega, trivial⟩⟩
              · refine .inr ⟨rfl, ?_⟩
                exact ⟨hK10, (FX_tr hX9 hY10), .inr ⟨rfl, TH hC9 hc10⟩⟩
            · refine .inr ⟨rfl, ?_⟩
              exact ⟨hK9, (FX_tr hX8 hY9), .inr ⟨rfl, TH hC8 hc9⟩⟩
          · refine .inr ⟨rfl, ?_⟩
            exact ⟨hK6, (FX_tr hX5 hY6), .inr ⟨rfl, TH hC5 hc6⟩⟩
        · refine .inr ⟨rfl, ?_⟩
          exact ⟨hK5, (FX_tr hX3 hY5), .inr ⟨rfl, TH hC3 hc5⟩⟩
      · refine .inr ⟨rfl, ?_⟩
        exact ⟨hK3, (FX_tr hX2 hY3), .inr ⟨rfl, TH hC2 hc3⟩⟩
    · refine .inr ⟨rfl, ?_⟩
      exact ⟨hK2, (FX_tr hX1 hY2), .inr ⟨rfl, TH hC1 hc2⟩⟩
  · refine .inr ⟨rfl, ?_⟩
    exact ⟨hK1, (FX_tr FX_rf hY1), .inr ⟨rfl, TH rfl hc1⟩⟩
set_option maxHeartbeats 20000000 in
set_option maxRecDepth 100000 in
theorem k_program5_188 {d : Nat} {s0 : rS} {C : Nat} (hC : C = 99 ∨ C = 115)  (l2 : Int) (s : rS) (hK : KI s.1) (hq : s.1 131 1 = (C : Int)) (hX : FX s0.1 s.1) (hc : s.2 = s0.2) (hl2 : (-2147483648) ≤ l2 ∧ l2 ≤ 2147483647)   : wr (d + 244) tb_M20 188 [(2, vi l2), (0, .ref 131), (1, .ref C)] [] s (TV s0) := by
  refine wr_n (pc2 := 189) (lv2 := [(2, vi l2), (0, .ref 131), (1, .ref C)]) (st2 := [.ref 131]) 1 (fun _ _ => rfl) ?_
  refine wr_get (v := .ref C) rfl rfl rfl (by decide) (rv_ref (show (s.1) 131 1 = ((C : Nat) : Int) from hq)) fun h1 => ?_
  show wr (d + 244) tb_M20 192 [(2, vi l2), (0, .ref 131), (1, .ref C)] [.ref C] s _
  refine wr_n (pc2 := 195) (lv2 := [(2, vi l2), (0, .ref 131), (1, .ref C)]) (st2 := [.ref 131, vi 0, .ref 131, .ref C]) 3 (fun _ _ => rfl) ?_
  refine wr_get (v := .ref C) rfl rfl rfl (by decide) (rv_ref (show (s.1) 131 1 = ((C : Nat) : Int) from hq)) fun h2 => ?_
  show wr (d + 244) tb_M20 198 [(2, vi l2), (0, .ref 131), (1, .ref C)] [.ref C, vi 0, .ref 131, .ref C] s _
  refine wr_get (v := .ref (C + 6)) rfl rfl (TK0 hC) (by decide) (rv_ref (hK.1 C 5 (C + 6) (rcK hC (by omega)))) fun h3 => ?_
  show wr (d + 244) tb_M20 201 [(2, vi l2), (0, .ref 131), (1, .ref C)] [.ref (C + 6), vi 0, .ref 131, .ref C] s _
  refine wr_get (v := vi (s.1 (C + 6) 3)) rfl rfl (TK6 hC) (by decide) rfl fun h4 => ?_
  have h4 : -2147483648 ≤ s.1 (C + 6) 3 ∧ s.1 (C + 6) 3 ≤ 2147483647 := h4
  show wr (d + 244) tb_M20 204 [(2, vi l2), (0, .ref 131), (1, .ref C)] [vi (s.1 (C + 6) 3), vi 0, .ref 131, .ref C] s _
  have hb5 : 0 ≤ s.1 (C + 6) 3 ∧ s.1 (C + 6) 3 ≤ 58 := kb_to (kC6_3 hC) (hK.2 (C + 6) 3)
  refine wr_call1T (args := [vi 0, vi (s.1 (C + 6) 3)]) (rest := [.ref C]) rfl rfl rfl rfl (Nat.le_of_ble_eq_true rfl) rfl (cr_mono (cr_up (by omega) (k_JB C s 0 (s.1 (C + 6) 3) hC hK hq (by omega) (by omega))) ?_)
  rintro s6 out ⟨hK6, hY6, ⟨z6, hc6, rfl, hz6, hp6⟩ | ⟨rfl, hc6⟩⟩
  · refine .inl ⟨_, rfl, ?_⟩
    have hX6 : FX s0.1 s6.1 := FX_tr hX hY6
    have hC6 : s6.2 = s0.2 := hc6.trans hc
    have hq6 : s6.1 131 1 = (C : Int) := (hY6 131 1 (by unfold fx; omega)).trans hq
    unfold i32 at hz6
    clear hp6
    show wr (d + 244) tb_M20 207 [(2, vi l2), (0, .ref 131), (1, .ref C)] [vi z6, .ref C] s6 _
    refine wr_put (z := z6) rfl rfl rfl rfl (show 96 ≤ C by omega) (TK0 hC) (by decide) rfl (show -2147483648 ≤ z6 ∧ z6 ≤ 2147483647 by omega) (hf_int' _) ?_
    show wr (d + 244) tb_M20 210 [(2, vi l2), (0, .ref 131), (1, .ref C)] [] (up2 s6.1 C 13 z6, s6.2) _
    have hK7 : KI (up2 s6.1 C 13 z6) := (KI_up hK6 (nK (a := 0) hC (by omega)) (kb_no (kC_13 hC)))
    refine wr_n (pc2 := 212) (lv2 := [(2, vi l2), (0, .ref 131), (1, .ref C)]) (st2 := [.ref 131, .ref 131]) 2 (fun _ _ => rfl) ?_
    refine wr_get (v := .ref 137) rfl rfl rfl (by decide) (rv_ref (hK7.1 131 0 137 rfl)) fun h8 => ?_
    show wr (d + 244) tb_M20 215 [(2, vi l2), (0, .ref 131), (1, .ref C)] [.ref 137, .ref 131] (up2 s6.1 C 13 z6, s6.2) _
    refine wr_call1 (args := []) (rest := [.ref 131]) rfl rfl rfl rfl (Nat.le_of_ble_eq_true rfl) (cr_mono (k_kind (d := d + 243) (up2 s6.1 C 13 z6, s6.2) hK7) ?_)
    rintro s9 out ⟨z9, rfl, hz9, hp9, e9⟩
    refine ⟨_, rfl, ?_⟩
    rw [e9]
    unfold i32 at hz9
    clear hp9
    show wr (d + 244) tb_M20 218 [(2, vi l2), (0, .ref 131), (1, .ref C)] [vi z9, .ref 131] (up2 s6.1 C 13 z6, s6.2) _
    refine wr_n (pc2 := 219) (lv2 := [(2, vi l2), (0, .ref 131), (1, .ref C)]) (st2 := [vi 3, vi z9, .ref 131]) 1 (fun _ _ => rfl) ?_
    by_cases h10 : z9 ≠ 3
    · refine wr_if2t rfl rfl (by unfold i32; omega) (by unfold i32; omega) h10 ?_
      refine wr_n (pc2 := 228) (lv2 := [(2, vi l2), (0, .ref 131), (1, .ref C)]) (st2 := [.ref 131, vi 0, .ref 131]) 2 (fun _ _ => rfl) ?_
      refine wr_get (v := .ref 137) rfl rfl rfl (by decide) (rv_ref (hK7.1 131 0 137 rfl)) fun h11 => ?_
      show wr (d + 244) tb_M20 231 [(2, vi l2), (0, .ref 131), (1, .ref C)] [.ref 137, vi 0, .ref 131] (up2 s6.1 C 13 z6, s6.2) _
      refine wr_call1 (args := []) (rest := [vi 0, .ref 131]) rfl rfl rfl rfl (Nat.le_of_ble_eq_true rfl) (cr_mono (k_place (d := d + 243) (up2 s6.1 C 13 z6, s6.2) hK7) ?_)
      rintro s12 out ⟨z12, rfl, hz12, hp12, e12⟩
      refine ⟨_, rfl, ?_⟩
      rw [e12]
      unfold i32 at hz12
      clear hp12
      show wr (d + 244) tb_M20 234 [(2, vi l2), (0, .ref 131), (1, .ref C)] [vi z12, vi 0, .ref 131] (up2 s6.1 C 13 z6, s6.2) _
      refine wr_call1T (args := [vi 0, vi z12]) (rest := []) rfl rfl rfl rfl (Nat.le_of_ble_eq_true rfl) rfl (cr_mono (k_check (d := d + 243) (x := 0) (y := z12) (up2 s6.1 C 13 z6, s6.2) hK7 (by omega) (by omega)) ?_)
      rintro s13 out (⟨e13, hr13, rfl⟩ | ⟨hK13, hY13, rfl, hc13⟩)
      · exact absurd rfl hr13
      · refine .inr ⟨rfl, ?_⟩
        exact ⟨hK13, (FX_tr (FX_up hX6 (by unfold fx; omega)) hY13), .inr ⟨rfl, TH hC6 hc13⟩⟩
    · refine wr_if2f rfl rfl (by unfold i32; omega) (by unfold i32; omega) h10 ?_
      refine wr_n (pc2 := 228) (lv2 := [(2, vi l2), (0, .ref 131), (1, .ref C)]) (st2 := [.ref 131, vi 1, .ref 131]) 3 (fun _ _ => rfl) ?_
      refine wr_get (v := .ref 137) rfl rfl rfl (by decide) (rv_ref (hK7.1 131 0 137 rfl)) fun h14 => ?_
      show wr (d + 244) tb_M20 231 [(2, vi l2), (0, .ref 131), (1, .ref C)] [.ref 137, vi 1, .ref 131] (up2 s6.1 C 13 z6, s6.2) _
      refine wr_call1 (args := []) (rest := [vi 1, .ref 131]) rfl rfl rfl rfl (Nat.le_of_ble_eq_true rfl) (cr_mono (k_place (d := d + 243) (up2 s6.1 C 13 z6, s6.2) hK7) ?_)
      rintro s15 out ⟨z15, rfl, hz15, hp15, e15⟩
      refine ⟨_, rfl, ?_⟩
      rw [e15]
      unfold i32 at hz15
      clear hp15
      show wr (d + 244) tb_M20 234 [(2, vi l2), (0, .ref 131), (1, .ref C)] [vi z15, vi 1, .ref 131] (up2 s6.1 C 13 z6, s6.2) _
      refine wr_call1T (args := [vi 1, vi z15]) (rest := []) rfl rfl rfl rfl (Nat.le_of_ble_eq_true rfl) rfl (cr_mono (k_check (d := d + 243) (x := 1) (y := z15) (up2 s6.1 C 13 z6, s6.2) hK7 (by omega) (by omega)) ?_)
      rintro s16 out (⟨e16, hr16, rfl⟩ | ⟨hK16, hY16, rfl, hc16⟩)
      · refine .inl ⟨_, rfl, ?_⟩
        rw [e16]
        show wr (d + 244) tb_M20 237 [(2, vi l2), (0, .ref 131), (1, .ref C)] [] (up2 s6.1 C 13 z6, s6.2) _
        refine wr_end (fun _ _ => rfl) ?_
        exact ⟨hK7, (FX_up hX6 (by unfold fx; omega)), .inl ⟨hC6, rfl⟩⟩
      · refine .inr ⟨rfl, ?_⟩
        exact ⟨hK16, (FX_tr (FX_up hX6 (by unfold fx; omega)) hY16), .inr ⟨rfl, TH hC6 hc16⟩⟩
  · refine .inr ⟨rfl, ?_⟩
    exact ⟨hK6, (FX_tr hX hY6), .inr ⟨rfl, TH hc hc6⟩⟩
set_option maxHeartbeats 20000000 in
set_option maxRecDepth 100000 in
theorem k_program5_188v2 {d : Nat} {s0 : rS} {C : Nat} (hC : C = 99 ∨ C = 115)  (l2 : Int) (l5 : Int) (l4 : Int) (l3 : Int) (s : rS) (hK : KI s.1) (hq : s.1 131 1 = (C : Int)) (hX : FX s0.1 s.1) (hc : s.2 = s0.2) (hl2 : (-2147483648) ≤ l2 ∧ l2 ≤ 2147483647) (hl5 : (-2147483648) ≤ l5 ∧ l5 ≤ 2147483647) (hl4 : (-2147483648) ≤ l4 ∧ l4 ≤ 2147483647) (hl3 : (-2147483648) ≤ l3 ∧ l3 ≤ 2147483647)   : wr (d + 244) tb_M20 188 [(2, vi l2), (5, vi l5), (4, vi l4), (3, vi l3), (0, .ref 131), (1, .ref C)] [] s (TV s0) := by
  refine wr_n (pc2 := 189) (lv2 := [(2, vi l2), (5, vi l5), (4, vi l4), (3, vi l3), (0, .ref 131), (1, .ref C)]) (st2 := [.ref 131]) 1 (fun _ _ => rfl) ?_
  refine wr_get (v := .ref C) rfl rfl rfl (by decide) (rv_ref (show (s.1) 131 1 = ((C : Nat) : Int) from hq)) fun h1 => ?_
  show wr (d + 244) tb_M20 192 [(2, vi l2), (5, vi l5), (4, vi l4), (3, vi l3), (0, .ref 131), (1, .ref C)] [.ref C] s _
  refine wr_n (pc2 := 195) (lv2 := [(2, vi l2), (5, vi l5), (4, vi l4), (3, vi l3), (0, .ref 131), (1, .ref C)]) (st2 := [.ref 131, vi 0, .ref 131, .ref C]) 3 (fun _ _ => rfl) ?_
  refine wr_get (v := .ref C) rfl rfl rfl (by decide) (rv_ref (show (s.1) 131 1 = ((C : Nat) : Int) from hq)) fun h2 => ?_
  show wr (d + 244) tb_M20 198 [(2, vi l2), (5, vi l5), (4, vi l4), (3, vi l3), (0, .ref 131), (1, .ref C)] [.ref C, vi 0, .ref 131, .ref C] s _
  refine wr_get (v := .ref (C + 6)) rfl rfl (TK0 hC) (by decide) (rv_ref (hK.1 C 5 (C + 6) (rcK hC (by omega)))) fun h3 => ?_
  show wr (d + 244) tb_M20 201 [(2, vi l2), (5, vi l5), (4, vi l4), (3, vi l3), (0, .ref 131), (1, .ref C)] [.ref (C + 6), vi 0, .ref 131, .ref C] s _
  refine wr_get (v := vi (s.1 (C + 6) 3)) rfl rfl (TK6 hC) (by decide) rfl fun h4 => ?_
  have h4 : -2147483648 ≤ s.1 (C + 6) 3 ∧ s.1 (C + 6) 3 ≤ 2147483647 := h4
  show wr (d + 244) tb_M20 204 [(2, vi l2), (5, vi l5), (4, vi l4), (3, vi l3), (0, .ref 131), (1, .ref C)] [vi (s.1 (C + 6) 3), vi 0, .ref 131, .ref C] s _
  have hb5 : 0 ≤ s.1 (C + 6) 3 ∧ s.1 (C + 6) 3 ≤ 58 := kb_to (kC6_3 hC) (hK.2 (C + 6) 3)
  refine wr_call1T (args := [vi 0, vi (s.1 (C + 6) 3)]) (rest := [.ref C]) rfl rfl rfl rfl (Nat.le_of_ble_eq_true rfl) rfl (cr_mono (cr_up (by omega) (k_JB C s 0 (s.1 (C + 6) 3) hC hK hq (by omega) (by omega))) ?_)
  rintro s6 out ⟨hK6, hY6, ⟨z6, hc6, rfl, hz6, hp6⟩ | ⟨rfl, hc6⟩⟩
  · refine .inl ⟨_, rfl, ?_⟩
    have hX6 : FX s0.1 s6.1 := FX_tr hX hY6
    have hC6 : s6.2 = s0.2 := hc6.trans hc
    have hq6 : s6.1 131 1 = (C : Int) := (hY6 131 1 (by unfold fx; omega)).trans hq
    unfold i32 at hz6
    clear hp6
    show wr (d + 244) tb_M20 207 [(2, vi l2), (5, vi l5), (4, vi l4), (3, vi l3), (0, .ref 131), (1, .ref C)] [vi z6, .ref C] s6 _
    refine wr_put (z := z6) rfl rfl rfl rfl (show 96 ≤ C by omega) (TK0 hC) (by decide) rfl (show -2147483648 ≤ z6 ∧ z6 ≤ 2147483647 by omega) (hf_int' _) ?_
    show wr (d + 244) tb_M20 210 [(2, vi l2), (5, vi l5), (4, vi l4), (3, vi l3), (0, .ref 131), (1, .ref C)] [] (up2 s6.1 C 13 z6, s6.2) _
    have hK7 : KI (up2 s6.1 C 13 z6) := (KI_up hK6 (nK (a := 0) hC (by omega)) (kb_no (kC_13 hC)))
    refine wr_n (pc2 := 212) (lv2 := [(2, vi l2), (5, vi l5), (4, vi l4), (3, vi l3), (0, .ref 131), (1, .ref C)]) (st2 := [.ref 131, .ref 131]) 2 (fun _ _ => rfl) ?_
    refine wr_get (v := .ref 137) rfl rfl rfl (by decide) (rv_ref (hK7.1 131 0 137 rfl)) fun h8 => ?_
    show wr (d + 244) tb_M20 215 [(2, vi l2), (5, vi l5), (4, vi l4), (3, vi l3), (0, .ref 131), (1, .ref C)] [.ref 137, .ref 131] (up2 s6.1 C 13 z6, s6.2) _
    refine wr_call1 (args := []) (rest := [.ref 131]) rfl rfl rfl rfl (Nat.le_of_ble_eq_true rfl) (cr_mono (k_kind (d := d + 243) (up2 s6.1 C 13 z6, s6.2) hK7) ?_)
    rintro s9 out ⟨z9, rfl, hz9, hp9, e9⟩
    refine ⟨_, rfl, ?_⟩
    rw [e9]
    unfold i32 at hz9
    clear hp9
    show wr (d + 244) tb_M20 218 [(2, vi l2), (5, vi l5), (4, vi l4), (3, vi l3), (0, .ref 131), (1, .ref C)] [vi z9, .ref 131] (up2 s6.1 C 13 z6, s6.2) _
    refine wr_n (pc2 := 219) (lv2 := [(2, vi l2), (5, vi l5), (4, vi l4), (3, vi l3), (0, .ref 131), (1, .ref C)]) (st2 := [vi 3, vi z9, .ref 131]) 1 (fun _ _ => rfl) ?_
    by_cases h10 : z9 ≠ 3
    · refine wr_if2t rfl rfl (by unfold i32; omega) (by unfold i32; omega) h10 ?_
      refine wr_n (pc2 := 228) (lv2 := [(2, vi l2), (5, vi l5), (4, vi l4), (3, vi l3), (0, .ref 131), (1, .ref C)]) (st2 := [.ref 131, vi 0, .ref 131]) 2 (fun _ _ => rfl) ?_
      refine wr_get (v := .ref 137) rfl rfl rfl (by decide) (rv_ref (hK7.1 131 0 137 rfl)) fun h11 => ?_
      show wr (d + 244) tb_M20 231 [(2, vi l2), (5, vi l5), (4, vi l4), (3, vi l3), (0, .ref 131), (1, .ref C)] [.ref 137, vi 0, .ref 131] (up2 s6.1 C 13 z6, s6.2) _
      refine wr_call1 (args := []) (rest := [vi 0, .ref 131]) rfl rfl rfl rfl (Nat.le_of_ble_eq_true rfl) (cr_mono (k_place (d := d + 243) (up2 s6.1 C 13 z6, s6.2) hK7) ?_)
      rintro s12 out ⟨z12, rfl, hz12, hp12, e12⟩
      refine ⟨_, rfl, ?_⟩
      rw [e12]
      unfold i32 at hz12
      clear hp12
      show wr (d + 244) tb_M20 234 [(2, vi l2), (5, vi l5), (4, vi l4), (3, vi l3), (0, .ref 131), (1, .ref C)] [vi z12, vi 0, .ref 131] (up2 s6.1 C 13 z6, s6.2) _
      refine wr_call1T (args := [vi 0, vi z12]) (rest := []) rfl rfl rfl rfl (Nat.le_of_ble_eq_true rfl) rfl (cr_mono (k_check (d := d + 243) (x := 0) (y := z12) (up2 s6.1 C 13 z6, s6.2) hK7 (by omega) (by omega)) ?_)
      rintro s13 out (⟨e13, hr13, rfl⟩ | ⟨hK13, hY13, rfl, hc13⟩)
      · exact absurd rfl hr13
      · refine .inr ⟨rfl, ?_⟩
        exact ⟨hK13, (FX_tr (FX_up hX6 (by unfold fx; omega)) hY13), .inr ⟨rfl, TH hC6 hc13⟩⟩
    · refine wr_if2f rfl rfl (by unfold i32; omega) (by unfold i32; omega) h10 ?_
      refine wr_n (pc2 := 228) (lv2 := [(2, vi l2), (5, vi l5), (4, vi l4), (3, vi l3), (0, .ref 131), (1, .ref C)]) (st2 := [.ref 131, vi 1, .ref 131]) 3 (fun _ _ => rfl) ?_
      refine wr_get (v := .ref 137) rfl rfl rfl (by decide) (rv_ref (hK7.1 131 0 137 rfl)) fun h14 => ?_
      show wr (d + 244) tb_M20 231 [(2, vi l2), (5, vi l5), (4, vi l4), (3, vi l3), (0, .ref 131), (1, .ref C)] [.ref 137, vi 1, .ref 131] (up2 s6.1 C 13 z6, s6.2) _
      refine wr_call1 (args := []) (rest := [vi 1, .ref 131]) rfl rfl rfl rfl (Nat.le_of_ble_eq_true rfl) (cr_mono (k_place (d := d + 243) (up2 s6.1 C 13 z6, s6.2) hK7) ?_)
      rintro s15 out ⟨z15, rfl, hz15, hp15, e15⟩
      refine ⟨_, rfl, ?_⟩
      rw [e15]
      unfold i32 at hz15
      clear hp15
      show wr (d + 244) tb_M20 234 [(2, vi l2), (5, vi l5), (4, vi l4), (3, vi l3), (0, .ref 131), (1, .ref C)] [vi z15, vi 1, .ref 131] (up2 s6.1 C 13 z6, s6.2) _
      refine wr_call1T (args := [vi 1, vi z15]) (rest := []) rfl rfl rfl rfl (Nat.le_of_ble_eq_true rfl) rfl (cr_mono (k_check (d := d + 243) (x := 1) (y := z15) (up2 s6.1 C 13 z6, s6.2) hK7 (by omega) (by omega)) ?_)
      rintro s16 out (⟨e16, hr16, rfl⟩ | ⟨hK16, hY16, rfl, hc16⟩)
      · refine .inl ⟨_, rfl, ?_⟩
        rw [e16]
        show wr (d + 244) tb_M20 237 [(2, vi l2), (5, vi l5), (4, vi l4), (3, vi l3), (0, .ref 131), (1, .ref C)] [] (up2 s6.1 C 13 z6, s6.2) _
        refine wr_end (fun _ _ => rfl) ?_
        exact ⟨hK7, (FX_up hX6 (by unfold fx; omega)), .inl ⟨hC6, rfl⟩⟩
      · refine .inr ⟨rfl, ?_⟩
        exact ⟨hK16, (FX_tr (FX_up hX6 (by unfold fx; omega)) hY16), .inr ⟨rfl, TH hC6 hc16⟩⟩
  · refine .inr ⟨rfl, ?_⟩
    exact ⟨hK6, (FX_tr hX hY6), .inr ⟨rfl, TH hc hc6⟩⟩
set_option maxHeartbeats 20000000 in
set_option maxRecDepth 100000 in
theorem k_program5_188v3 {d : Nat} {s0 : rS} {C : Nat} (hC : C = 99 ∨ C = 115)  (l2 : Int) (l3 : Int) (l5 : Int) (l4 : Int) (s : rS) (hK : KI s.1) (hq : s.1 131 1 = (C : Int)) (hX : FX s0.1 s.1) (hc : s.2 = s0.2) (hl2 : (-2147483648) ≤ l2 ∧ l2 ≤ 2147483647) (hl3 : (-2147483648) ≤ l3 ∧ l3 ≤ 2147483647) (hl5 : (-2147483648) ≤ l5 ∧ l5 ≤ 2147483647) (hl4 : (-2147483648) ≤ l4 ∧ l4 ≤ 2147483647)   : wr (d + 244) tb_M20 188 [(2, vi l2), (3, vi l3), (5, vi l5), (4, vi l4), (0, .ref 131), (1, .ref C)] [] s (TV s0) := by
  refine wr_n (pc2 := 189) (lv2 := [(2, vi l2), (3, vi l3), (5, vi l5), (4, vi l4), (0, .ref 131), (1, .ref C)]) (st2 := [.ref 131]) 1 (fun _ _ => rfl) ?_
  refine wr_get (v := .ref C) rfl rfl rfl (by decide) (rv_ref (show (s.1) 131 1 = ((C : Nat) : Int) from hq)) fun h1 => ?_
  show wr (d + 244) tb_M20 192 [(2, vi l2), (3, vi l3), (5, vi l5), (4, vi l4), (0, .ref 131), (1, .ref C)] [.ref C] s _
  refine wr_n (pc2 := 195) (lv2 := [(2, vi l2), (3, vi l3), (5, vi l5), (4, vi l4), (0, .ref 131), (1, .ref C)]) (st2 := [.ref 131, vi 0, .ref 131, .ref C]) 3 (fun _ _ => rfl) ?_
  refine wr_get (v := .ref C) rfl rfl rfl (by decide) (rv_ref (show (s.1) 131 1 = ((C : Nat) : Int) from hq)) fun h2 => ?_
  show wr (d + 244) tb_M20 198 [(2, vi l2), (3, vi l3), (5, vi l5), (4, vi l4), (0, .ref 131), (1, .ref C)] [.ref C, vi 0, .ref 131, .ref C] s _
  refine wr_get (v := .ref (C + 6)) rfl rfl (TK0 hC) (by decide) (rv_ref (hK.1 C 5 (C + 6) (rcK hC (by omega)))) fun h3 => ?_
  show wr (d + 244) tb_M20 201 [(2, vi l2), (3, vi l3), (5, vi l5), (4, vi l4), (0, .ref 131), (1, .ref C)] [.ref (C + 6), vi 0, .ref 131, .ref C] s _
  refine wr_get (v := vi (s.1 (C + 6) 3)) rfl rfl (TK6 hC) (by decide) rfl fun h4 => ?_
  have h4 : -2147483648 ≤ s.1 (C + 6) 3 ∧ s.1 (C + 6) 3 ≤ 2147483647 := h4
  show wr (d + 244) tb_M20 204 [(2, vi l2), (3, vi l3), (5, vi l5), (4, vi l4), (0, .ref 131), (1, .ref C)] [vi (s.1 (C + 6) 3), vi 0, .ref 131, .ref C] s _
  have hb5 : 0 ≤ s.1 (C + 6) 3 ∧ s.1 (C + 6) 3 ≤ 58 := kb_to (kC6_3 hC) (hK.2 (C + 6) 3)
  refine wr_call1T (args := [vi 0, vi (s.1 (C + 6) 3)]) (rest := [.ref C]) rfl rfl rfl rfl (Nat.le_of_ble_eq_true rfl) rfl (cr_mono (cr_up (by omega) (k_JB C s 0 (s.1 (C + 6) 3) hC hK hq (by omega) (by omega))) ?_)
  rintro s6 out ⟨hK6, hY6, ⟨z6, hc6, rfl, hz6, hp6⟩ | ⟨rfl, hc6⟩⟩
  · refine .inl ⟨_, rfl, ?_⟩
    have hX6 : FX s0.1 s6.1 := FX_tr hX hY6
    have hC6 : s6.2 = s0.2 := hc6.trans hc
    have hq6 : s6.1 131 1 = (C : Int) := (hY6 131 1 (by unfold fx; omega)).trans hq
    unfold i32 at hz6
    clear hp6
    show wr (d + 244) tb_M20 207 [(2, vi l2), (3, vi l3), (5, vi l5), (4, vi l4), (0, .ref 131), (1, .ref C)] [vi z6, .ref C] s6 _
    refine wr_put (z := z6) rfl rfl rfl rfl (show 96 ≤ C by omega) (TK0 hC) (by decide) rfl (show -2147483648 ≤ z6 ∧ z6 ≤ 2147483647 by omega) (hf_int' _) ?_
    show wr (d + 244) tb_M20 210 [(2, vi l2), (3, vi l3), (5, vi l5), (4, vi l4), (0, .ref 131), (1, .ref C)] [] (up2 s6.1 C 13 z6, s6.2) _
    have hK7 : KI (up2 s6.1 C 13 z6) := (KI_up hK6 (nK (a := 0) hC (by omega)) (kb_no (kC_13 hC)))
    refine wr_n (pc2 := 212) (lv2 := [(2, vi l2), (3, vi l3), (5, vi l5), (4, vi l4), (0, .ref 131), (1, .ref C)]) (st2 := [.ref 131, .ref 131]) 2 (fun _ _ => rfl) ?_
    refine wr_get (v := .ref 137) rfl rfl rfl (by decide) (rv_ref (hK7.1 131 0 137 rfl)) fun h8 => ?_
    show wr (d + 244) tb_M20 215 [(2, vi l2), (3, vi l3), (5, vi l5), (4, vi l4), (0, .ref 131), (1, .ref C)] [.ref 137, .ref 131] (up2 s6.1 C 13 z6, s6.2) _
    refine wr_call1 (args := []) (rest := [.ref 131]) rfl rfl rfl rfl (Nat.le_of_ble_eq_true rfl) (cr_mono (k_kind (d := d + 243) (up2 s6.1 C 13 z6, s6.2) hK7) ?_)
    rintro s9 out ⟨z9, rfl, hz9, hp9, e9⟩
    refine ⟨_, rfl, ?_⟩
    rw [e9]
    unfold i32 at hz9
    clear hp9
    show wr (d + 244) tb_M20 218 [(2, vi l2), (3, vi l3), (5, vi l5), (4, vi l4), (0, .ref 131), (1, .ref C)] [vi z9, .ref 131] (up2 s6.1 C 13 z6, s6.2) _
    refine wr_n (pc2 := 219) (lv2 := [(2, vi l2), (3, vi l3), (5, vi l5), (4, vi l4), (0, .ref 131), (1, .ref C)]) (st2 := [vi 3, vi z9, .ref 131]) 1 (fun _ _ => rfl) ?_
    by_cases h10 : z9 ≠ 3
    · refine wr_if2t rfl rfl (by unfold i32; omega) (by unfold i32; omega) h10 ?_
      refine wr_n (pc2 := 228) (lv2 := [(2, vi l2), (3, vi l3), (5, vi l5), (4, vi l4), (0, .ref 131), (1, .ref C)]) (st2 := [.ref 131, vi 0, .ref 131]) 2 (fun _ _ => rfl) ?_
      refine wr_get (v := .ref 137) rfl rfl rfl (by decide) (rv_ref (hK7.1 131 0 137 rfl)) fun h11 => ?_
      show wr (d + 244) tb_M20 231 [(2, vi l2), (3, vi l3), (5, vi l5), (4, vi l4), (0, .ref 131), (1, .ref C)] [.ref 137, vi 0, .ref 131] (up2 s6.1 C 13 z6, s6.2) _
      refine wr_call1 (args := []) (rest := [vi 0, .ref 131]) rfl rfl rfl rfl (Nat.le_of_ble_eq_true rfl) (cr_mono (k_place (d := d + 243) (up2 s6.1 C 13 z6, s6.2) hK7) ?_)
      rintro s12 out ⟨z12, rfl, hz12, hp12, e12⟩
      refine ⟨_, rfl, ?_⟩
      rw [e12]
      unfold i32 at hz12
      clear hp12
      show wr (d + 244) tb_M20 234 [(2, vi l2), (3, vi l3), (5, vi l5), (4, vi l4), (0, .ref 131), (1, .ref C)] [vi z12, vi 0, .ref 131] (up2 s6.1 C 13 z6, s6.2) _
      refine wr_call1T (args := [vi 0, vi z12]) (rest := []) rfl rfl rfl rfl (Nat.le_of_ble_eq_true rfl) rfl (cr_mono (k_check (d := d + 243) (x := 0) (y := z12) (up2 s6.1 C 13 z6, s6.2) hK7 (by omega) (by omega)) ?_)
      rintro s13 out (⟨e13, hr13, rfl⟩ | ⟨hK13, hY13, rfl, hc13⟩)
      · exact absurd rfl hr13
      · refine .inr ⟨rfl, ?_⟩
        exact ⟨hK13, (FX_tr (FX_up hX6 (by unfold fx; omega)) hY13), .inr ⟨rfl, TH hC6 hc13⟩⟩
    · refine wr_if2f rfl rfl (by unfold i32; omega) (by unfold i32; omega) h10 ?_
      refine wr_n (pc2 := 228) (lv2 := [(2, vi l2), (3, vi l3), (5, vi l5), (4, vi l4), (0, .ref 131), (1, .ref C)]) (st2 := [.ref 131, vi 1, .ref 131]) 3 (fun _ _ => rfl) ?_
      refine wr_get (v := .ref 137) rfl rfl rfl (by decide) (rv_ref (hK7.1 131 0 137 rfl)) fun h14 => ?_
      show wr (d + 244) tb_M20 231 [(2, vi l2), (3, vi l3), (5, vi l5), (4, vi l4), (0, .ref 131), (1, .ref C)] [.ref 137, vi 1, .ref 131] (up2 s6.1 C 13 z6, s6.2) _
      refine wr_call1 (args := []) (rest := [vi 1, .ref 131]) rfl rfl rfl rfl (Nat.le_of_ble_eq_true rfl) (cr_mono (k_place (d := d + 243) (up2 s6.1 C 13 z6, s6.2) hK7) ?_)
      rintro s15 out ⟨z15, rfl, hz15, hp15, e15⟩
      refine ⟨_, rfl, ?_⟩
      rw [e15]
      unfold i32 at hz15
      clear hp15
      show wr (d + 244) tb_M20 234 [(2, vi l2), (3, vi l3), (5, vi l5), (4, vi l4), (0, .ref 131), (1, .ref C)] [vi z15, vi 1, .ref 131] (up2 s6.1 C 13 z6, s6.2) _
      refine wr_call1T (args := [vi 1, vi z15]) (rest := []) rfl rfl rfl rfl (Nat.le_of_ble_eq_true rfl) rfl (cr_mono (k_check (d := d + 243) (x := 1) (y := z15) (up2 s6.1 C 13 z6, s6.2) hK7 (by omega) (by omega)) ?_)
      rintro s16 out (⟨e16, hr16, rfl⟩ | ⟨hK16, hY16, rfl, hc16⟩)
      · refine .inl ⟨_, rfl, ?_⟩
        rw [e16]
        show wr (d + 244) tb_M20 237 [(2, vi l2), (3, vi l3), (5, vi l5), (4, vi l4), (0, .ref 131), (1, .ref C)] [] (up2 s6.1 C 13 z6, s6.2) _
        refine wr_end (fun _ _ => rfl) ?_
        exact ⟨hK7, (FX_up hX6 (by unfold fx; omega)), .inl ⟨hC6, rfl⟩⟩
      · refine .inr ⟨rfl, ?_⟩
        exact ⟨hK16, (FX_tr (FX_up hX6 (by unfold fx; omega)) hY16), .inr ⟨rfl, TH hC6 hc16⟩⟩
  · refine .inr ⟨rfl, ?_⟩
    exact ⟨hK6, (FX_tr hX hY6), .inr ⟨rfl, TH hc hc6⟩⟩
set_option maxHeartbeats 20000000 in
set_option maxRecDepth 100000 in
theorem k_program5_42v2 {d : Nat} {s0 : rS} {C : Nat} (hC : C = 99 ∨ C = 115)  : ∀ (w : Nat), (∀ (l2 : Int) (l5 : Int) (l4 : Int) (l3 : Int) (s : rS), (2000 - l2).toNat = w → KI s.1 → s.1 131 1 = (C : Int) → FX s0.1 s.1 → s.2 = s0.2 → 0 ≤ l2 ∧ l2 ≤ 2000 → (-2147483648) ≤ l5 ∧ l5 ≤ 2147483647 → (-2147483648) ≤ l4 ∧ l4 ≤ 2147483647 → (-2147483648) ≤ l3 ∧ l3 ≤ 2147483647 → wr (d + 244) tb_M20 42 [(2, vi l2), (5, vi l5), (4, vi l4), (3, vi l3), (0, .ref 131), (1, .ref C)] [] s (TV s0)) ∧ (∀ (l2 : Int) (l3 : Int) (l5 : Int) (l4 : Int) (s : rS), (2000 - l2).toNat = w → KI s.1 → s.1 131 1 = (C : Int) → FX s0.1 s.1 → s.2 = s0.2 → 0 ≤ l2 ∧ l2 ≤ 2000 → (-2147483648) ≤ l3 ∧ l3 ≤ 2147483647 → (-2147483648) ≤ l5 ∧ l5 ≤ 2147483647 → (-2147483648) ≤ l4 ∧ l4 ≤ 2147483647 → wr (d + 244) tb_M20 42 [(2, vi l2), (3, vi l3), (5, vi l5), (4, vi l4), (0, .ref 131), (1, .ref C)] [] s (TV s0)) := by
  intro w
  induction w using Nat.strongRecOn with | ind w ih => ?_
  refine ⟨?_, ?_⟩
  · intro l2 l5 l4 l3 s hw hK hq hX hc hl2 hl5 hl4 hl3
    refine wr_n (pc2 := 46) (lv2 := [(2, vi l2), (5, vi l5), (4, vi l4), (3, vi l3), (0, .ref 131), (1, .ref C)]) (st2 := [vi 2000, vi l2]) 2 (fun _ _ => rfl) ?_
    by_cases h1 : 2000 ≤ l2
    · refine wr_if2t rfl rfl (by unfold i32; omega) (by unfold i32; omega) h1 ?_
      exact k_program5_188v2 hC l2 l5 l4 l3 s hK hq hX hc (by omega) (by omega) (by omega) (by omega)  
    · refine wr_if2f rfl rfl (by unfold i32; omega) (by unfold i32; omega) h1 ?_
      refine wr_n (pc2 := 50) (lv2 := [(2, vi l2), (5, vi l5), (4, vi l4), (3, vi l3), (0, .ref 131), (1, .ref C)]) (st2 := [.ref 131]) 1 (fun _ _ => rfl) ?_
      refine wr_get (v := .ref 137) rfl rfl rfl (by decide) (rv_ref (hK.1 131 0 137 rfl)) fun h2 => ?_
      show wr (d + 244) tb_M20 53 [(2, vi l2), (5, vi l5), (4, vi l4), (3, vi l3), (0, .ref 131), (1, .ref C)] [.ref 137] s _
      refine wr_call1 (args := []) (rest := []) rfl rfl rfl rfl (Nat.le_of_ble_eq_true rfl) (cr_mono (k_kind (d := d + 243) s hK) ?_)
      rintro s3 out ⟨z3, rfl, hz3, hp3, e3⟩
      refine ⟨_, rfl, ?_⟩
      rw [e3]
      unfold i32 at hz3
      clear hp3
      show wr (d + 244) tb_M20 56 [(2, vi l2), (5, vi l5), (4, vi l4), (3, vi l3), (0, .ref 131), (1, .ref C)] [vi z3] s _
      refine wr_n (pc2 := 59) (lv2 := [(2, vi l2), (5, vi l5), (4, vi l4), (3, vi l3), (0, .ref 131), (1, .ref C)]) (st2 := [vi 300, vi z3]) 1 (fun _ _ => rfl) ?_
      by_cases h4 : z3 < 300
      · refine wr_if2t rfl rfl (by unfold i32; omega) (by unfold i32; omega) h4 ?_
        exact k_program5_188v2 hC l2 l5 l4 l3 s hK hq hX hc (by omega) (by omega) (by omega) (by omega)  
      · refine wr_if2f rfl rfl (by unfold i32; omega) (by unfold i32; omega) h4 ?_
        refine wr_n (pc2 := 63) (lv2 := [(2, vi l2), (5, vi l5), (4, vi l4), (3, vi l3), (0, .ref 131), (1, .ref C)]) (st2 := [.ref 131]) 1 (fun _ _ => rfl) ?_
        refine wr_get (v := .ref 137) rfl rfl rfl (by decide) (rv_ref (hK.1 131 0 137 rfl)) fun h5 => ?_
        show wr (d + 244) tb_M20 66 [(2, vi l2), (5, vi l5), (4, vi l4), (3, vi l3), (0, .ref 131), (1, .ref C)] [.ref 137] s _
        refine wr_call1 (args := []) (rest := []) rfl rfl rfl rfl (Nat.le_of_ble_eq_true rfl) (cr_mono (k_kind (d := d + 243) s hK) ?_)
        rintro s6 out ⟨z6, rfl, hz6, hp6, e6⟩
        refine ⟨_, rfl, ?_⟩
        rw [e6]
        unfold i32 at hz6
        clear hp6
        show wr (d + 244) tb_M20 69 [(2, vi l2), (5, vi l5), (4, vi l4), (3, vi l3), (0, .ref 131), (1, .ref C)] [vi z6] s _
        refine wr_n (pc2 := 72) (lv2 := [(2, vi l2), (5, vi l5), (4, vi l4), (3, vi l3), (0, .ref 131), (1, .ref C)]) (st2 := [vi 307, vi z6]) 1 (fun _ _ => rfl) ?_
        by_cases h7 : 307 < z6
        · refine wr_if2t rfl rfl (by unfold i32; omega) (by unfold i32; omega) h7 ?_
          exact k_program5_188v2 hC l2 l5 l4 l3 s hK hq hX hc (by omega) (by omega) (by omega) (by omega)  
        · refine wr_if2f rfl rfl (by unfold i32; omega) (by unfold i32; omega) h7 ?_
          refine wr_n (pc2 := 76) (lv2 := [(2, vi l2), (5, vi l5), (4, vi l4), (3, vi l3), (0, .ref 131), (1, .ref C)]) (st2 := [.ref 131]) 1 (fun _ _ => rfl) ?_
          refine wr_get (v := .ref 137) rfl rfl rfl (by decide) (rv_ref (hK.1 131 0 137 rfl)) fun h8 => ?_
          show wr (d + 244) tb_M20 79 [(2, vi l2), (5, vi l5), (4, vi l4), (3, vi l3), (0, .ref 131), (1, .ref C)] [.ref 137] s _
          refine wr_call1 (args := []) (rest := []) rfl rfl rfl rfl (Nat.le_of_ble_eq_true rfl) (cr_mono (k_kind (d := d + 243) s hK) ?_)
          rintro s9 out ⟨z9, rfl, hz9, hp9, e9⟩
          refine ⟨_, rfl, ?_⟩
          rw [e9]
          unfold i32 at hz9
          clear hp9
          show wr (d + 244) tb_M20 82 [(2, vi l2), (5, vi l5), (4, vi l4), (3, vi l3), (0, .ref 131), (1, .ref C)] [vi z9] s _
          refine wr_n (pc2 := 84) (lv2 := [(3, vi z9), (2, vi l2), (5, vi l5), (4, vi l4), (0, .ref 131), (1, .ref C)]) (st2 := [.ref 131]) 2 (fun _ _ => rfl) ?_
          refine wr_get (v := .ref 137) rfl rfl rfl (by decide) (rv_ref (hK.1 131 0 137 rfl)) fun h10 => ?_
          show wr (d + 244) tb_M20 87 [(3, vi z9), (2, vi l2), (5, vi l5), (4, vi l4), (0, .ref 131), (1, .ref C)] [.ref 137] s _
          refine wr_call1 (args := []) (rest := []) rfl rfl rfl rfl (Nat.le_of_ble_eq_true rfl) (cr_mono (k_step (d := d + 243) s hK) ?_)
          rintro s11 out ⟨hK11, hY11, hc11, rfl⟩
          refine ⟨_, rfl, ?_⟩
          have hX11 : FX s0.1 s11.1 := FX_tr hX hY11
          have hC11 : s11.2 = s0.2 := hc11.trans hc
          have hq11 : s11.1 131 1 = (C : Int) := (hY11 131 1 (by unfold fx; omega)).trans hq
          show wr (d + 244) tb_M20 90 [(3, vi z9), (2, vi l2), (5, vi l5), (4, vi l4), (0, .ref 131), (1, .ref C)] [] s11 _
          refine wr_n (pc2 := 94) (lv2 := [(3, vi z9), (2, vi l2), (5, vi l5), (4, vi l4), (0, .ref 131), (1, .ref C)]) (st2 := [vi 306, vi z9]) 2 (fun _ _ => rfl) ?_
          by_cases h12 : z9 = 306
          · refine wr_if2t rfl rfl (by unfold i32; omega) (by unfold i32; omega) h12 ?_
            refine wr_n (pc2 := 109) (lv2 := [(3, vi z9), (2, vi l2), (5, vi l5), (4, vi l4), (0, .ref 131), (1, .ref C)]) (st2 := [vi 307, vi z9, .ref 131]) 3 (fun _ _ => rfl) ?_
            by_cases h13 : z9 ≠ 307
            · refine wr_if2t rfl rfl (by unfold i32; omega) (by unfold i32; omega) h13 ?_
              refine wr_n (pc2 := 118) (lv2 := [(3, vi z9), (2, vi l2), (5, vi l5), (4, vi l4), (0, .ref 131), (1, .ref C)]) (st2 := [vi 5, .ref 131]) 1 (fun _ _ => rfl) ?_
              refine wr_call1T (args := [vi 5]) (rest := []) rfl rfl rfl rfl (Nat.le_of_ble_eq_true rfl) rfl (cr_mono (k_routineHead (d := d + 239) (C := C) hC (x := 5) s11 hK11 hq11 (by omega)) ?_)
              rintro s14 out ⟨hK14, hY14, ⟨z14, hc14, rfl, hz14, hp14⟩ | ⟨rfl, hc14⟩⟩
              · refine .inl ⟨_, rfl, ?_⟩
                have hX14 : FX s0.1 s14.1 := FX_tr hX11 hY14
                have hC14 : s14.2 = s0.2 := hc14.trans hC11
                have hq14 : s14.1 131 1 = (C : Int) := (hY14 131 1 (by unfold fx; omega)).trans hq11
                unfold i32 at hz14
                clear hp14
                show wr (d + 244) tb_M20 121 [(3, vi z9), (2, vi l2), (5, vi l5), (4, vi l4), (0, .ref 131), (1, .ref C)] [vi z14] s14 _
                refine wr_n (pc2 := 124) (lv2 := [(4, vi z14), (3, vi z9), (2, vi l2), (5, vi l5), (0, .ref 131), (1, .ref C)]) (st2 := [.ref 131]) 2 (fun _ _ => rfl) ?_
                refine wr_get (v := .ref C) rfl rfl rfl (by decide) (rv_ref (show (s14.1) 131 1 = ((C : Nat) : Int) from hq14)) fun h15 => ?_
                show wr (d + 244) tb_M20 127 [(4, vi z14), (3, vi z9), (2, vi l2), (5, vi l5), (0, .ref 131), (1, .ref C)] [.ref C] s14 _
                refine wr_get (v := .ref (C + 6)) rfl rfl (TK0 hC) (by decide) (rv_ref (hK14.1 C 5 (C + 6) (rcK hC (by omega)))) fun h16 => ?_
                show wr (d + 244) tb_M20 130 [(4, vi z14), (3, vi z9), (2, vi l2), (5, vi l5), (0, .ref 131), (1, .ref C)] [.ref (C + 6)] s14 _
                refine wr_get (v := vi (s14.1 (C + 6) 3)) rfl rfl (TK6 hC) (by decide) rfl fun h17 => ?_
                have h17 : -2147483648 ≤ s14.1 (C + 6) 3 ∧ s14.1 (C + 6) 3 ≤ 2147483647 := h17
                show wr (d + 244) tb_M20 133 [(4, vi z14), (3, vi z9), (2, vi l2), (5, vi l5), (0, .ref 131), (1, .ref C)] [vi (s14.1 (C + 6) 3)] s14 _
                have hb18 : 0 ≤ s14.1 (C + 6) 3 ∧ s14.1 (C + 6) 3 ≤ 58 := kb_to (kC6_3 hC) (hK14.2 (C + 6) 3)
                refine wr_n (pc2 := 134) (lv2 := [(4, vi z14), (3, vi z9), (2, vi l2), (5, vi l5), (0, .ref 131), (1, .ref C)]) (st2 := [.ref 131, vi (s14.1 (C + 6) 3)]) 1 (fun _ _ => rfl) ?_
                refine wr_get (v := .ref C) rfl rfl rfl (by decide) (rv_ref (show (s14.1) 131 1 = ((C : Nat) : Int) from hq14)) fun h19 => ?_
                show wr (d + 244) tb_M20 137 [(4, vi z14), (3, vi z9), (2, vi l2), (5, vi l5), (0, .ref 131), (1, .ref C)] [.ref C, vi (s14.1 (C + 6) 3)] s14 _
                refine wr_n (pc2 := 139) (lv2 := [(4, vi z14), (3, vi z9), (2, vi l2), (5, vi l5), (0, .ref 131), (1, .ref C)]) (st2 := [vi z14, .ref C, vi (s14.1 (C + 6) 3)]) 1 (fun _ _ => rfl) ?_
                refine wr_call1 (args := [vi z14]) (rest := [vi (s14.1 (C + 6) 3)]) rfl rfl rfl (TK0 hC) (Nat.le_of_ble_eq_true rfl) (cr_mono (k_par (d := d + 243) (C := C) hC (x := z14) s14 hK14 (by omega)) ?_)
                rintro s20 out ⟨z20, rfl, hz20, hp20, e20⟩
                refine ⟨_, rfl, ?_⟩
                rw [e20]
                unfold i32 at hz20
                clear hp20
                show wr (d + 244) tb_M20 142 [(4, vi z14), (3, vi z9), (2, vi l2), (5, vi l5), (0, .ref 131), (1, .ref C)] [vi z20, vi (s14.1 (C + 6) 3)] s14 _
                refine wr_any2 rfl rfl fun z21 h22 => ?_
                unfold i32 at h22
                show wr (d + 244) tb_M20 143 [(4, vi z14), (3, vi z9), (2, vi l2), (5, vi l5), (0, .ref 131), (1, .ref C)] [vi z21] s14 _
                refine wr_n (pc2 := 152) (lv2 := [(5, vi z21), (4, vi z14), (3, vi z9), (2, vi l2), (0, .ref 131), (1, .ref C)]) (st2 := [vi 307, vi z9, vi z14, .ref 131]) 5 (fun _ _ => rfl) ?_
                by_cases h23 : z9 ≠ 307
                · refine wr_if2t rfl rfl (by unfold i32; omega) (by unfold i32; omega) h23 ?_
                  refine wr_n (pc2 := 168) (lv2 := [(5, vi z21), (4, vi z14), (3, vi z9), (2, vi l2), (0, .ref 131), (1, .ref C)]) (st2 := [vi z21, vi 0, .ref 131, vi z14, .ref 131]) 3 (fun _ _ => rfl) ?_
                  refine wr_call1T (args := [vi 0, vi z21]) (rest := [vi z14, .ref 131]) rfl rfl rfl rfl (Nat.le_of_ble_eq_true rfl) rfl (cr_mono (cr_up (by omega) (k_JB C s14 0 z21 hC hK14 hq14 (by omega) (by omega))) ?_)
                  rintro s24 out ⟨hK24, hY24, ⟨z24, hc24, rfl, hz24, hp24⟩ | ⟨rfl, hc24⟩⟩
                  · refine .inl ⟨_, rfl, ?_⟩
                    have hX24 : FX s0.1 s24.1 := FX_tr hX14 hY24
                    have hC24 : s24.2 = s0.2 := hc24.trans hC14
                    have hq24 : s24.1 131 1 = (C : Int) := (hY24 131 1 (by unfold fx; omega)).trans hq14
                    unfold i32 at hz24
                    clear hp24
                    show wr (d + 244) tb_M20 171 [(5, vi z21), (4, vi z14), (3, vi z9), (2, vi l2), (0, .ref 131), (1, .ref C)] [vi z24, vi z14, .ref 131] s24 _
                    refine wr_call1 (args := [vi z14, vi z24]) (rest := []) rfl rfl rfl rfl (Nat.le_of_ble_eq_true rfl) (cr_mono (k_routineFoot (d := d + 243) (C := C) hC (x := z14) (y := z24) s24 hK24 hq24 (by omega) (by omega)) ?_)
                    rintro s25 out ⟨hK25, hY25, hc25, rfl⟩
                    refine ⟨_, rfl, ?_⟩
                    have hX25 : FX s0.1 s25.1 := FX_tr hX24 hY25
                    have hC25 : s25.2 = s0.2 := hc25.trans hC24
                    have hq25 : s25.1 131 1 = (C : Int) := (hY25 131 1 (by unfold fx; omega)).trans hq24
                    show wr (d + 244) tb_M20 174 [(5, vi z21), (4, vi z14), (3, vi z9), (2, vi l2), (0, .ref 131), (1, .ref C)] [] s25 _
                    refine wr_n (pc2 := 182) (lv2 := [(5, vi z21), (4, vi z14), (3, vi z9), (2, vi l2), (0, .ref 131), (1, .ref C)]) (st2 := []) 1 (fun _ _ => rfl) ?_
                    refine wr_inc (a := l2) rfl rfl ?_
                    show wr (d + 244) tb_M20 185 [(2, vi (l2 + 1)), (5, vi z21), (4, vi z14), (3, vi z9), (0, .ref 131), (1, .ref C)] [] s25 _
                    refine wr_n (pc2 := 42) (lv2 := [(2, vi (l2 + 1)), (5, vi z21), (4, vi z14), (3, vi z9), (0, .ref 131), (1, .ref C)]) (st2 := []) 1 (fun _ _ => rfl) ?_
                    exact (ih _ (by omega)).1 (l2 + 1) z21 z14 z9 s25 rfl hK25 hq25 hX25 hC25 (by omega) (by omega) (by omega) (by omega)  
                  · refine .inr ⟨rfl, ?_⟩
                    exact ⟨hK24, (FX_tr hX14 hY24), .inr ⟨rfl, TH hC14 hc24⟩⟩
                · refine wr_if2f rfl rfl (by unfold i32; omega) (by unfold i32; omega) h23 ?_
                  refine wr_n (pc2 := 158) (lv2 := [(5, vi z21), (4, vi z14), (3, vi z9), (2, vi l2), (0, .ref 131), (1, .ref C)]) (st2 := [vi z21, .ref 131, vi z14, .ref 131]) 2 (fun _ _ => rfl) ?_
                  refine wr_call1T (args := [vi z21]) (rest := [vi z14, .ref 131]) rfl rfl rfl rfl (Nat.le_of_ble_eq_true rfl) rfl (cr_mono (k_funBody (d := d + 4) (C := C) hC (x := z21) s14 hK14 hq14 (by omega)) ?_)
                  rintro s26 out ⟨hK26, hY26, ⟨z26, hc26, rfl, hz26, hp26⟩ | ⟨rfl, hc26⟩⟩
                  · refine .inl ⟨_, rfl, ?_⟩
                    have hX26 : FX s0.1 s26.1 := FX_tr hX14 hY26
                    have hC26 : s26.2 = s0.2 := hc26.trans hC14
                    have hq26 : s26.1 131 1 = (C : Int) := (hY26 131 1 (by unfold fx; omega)).trans hq14
                    unfold i32 at hz26
                    clear hp26
                    show wr (d + 244) tb_M20 161 [(5, vi z21), (4, vi z14), (3, vi z9), (2, vi l2), (0, .ref 131), (1, .ref C)] [vi z26, vi z14, .ref 131] s26 _
                    refine wr_n (pc2 := 171) (lv2 := [(5, vi z21), (4, vi z14), (3, vi z9), (2, vi l2), (0, .ref 131), (1, .ref C)]) (st2 := [vi z26, vi z14, .ref 131]) 1 (fun _ _ => rfl) ?_
                    refine wr_call1 (args := [vi z14, vi z26]) (rest := []) rfl rfl rfl rfl (Nat.le_of_ble_eq_true rfl) (cr_mono (k_routineFoot (d := d + 243) (C := C) hC (x := z14) (y := z26) s26 hK26 hq26 (by omega) (by omega)) ?_)
                    rintro s27 out ⟨hK27, hY27, hc27, rfl⟩
                    refine ⟨_, rfl, ?_⟩
                    have hX27 : FX s0.1 s27.1 := FX_tr hX26 hY27
                    have hC27 : s27.2 = s0.2 := hc27.trans hC26
                    have hq27 : s27.1 131 1 = (C : Int) := (hY27 131 1 (by unfold fx; omega)).trans hq26
                    show wr (d + 244) tb_M20 174 [(5, vi z21), (4, vi z14), (3, vi z9), (2, vi l2), (0, .ref 131), (1, .ref C)] [] s27 _
                    refine wr_n (pc2 := 182) (lv2 := [(5, vi z21), (4, vi z14), (3, vi z9), (2, vi l2), (0, .ref 131), (1, .ref C)]) (st2 := []) 1 (fun _ _ => rfl) ?_
                    refine wr_inc (a := l2) rfl rfl ?_
                    show wr (d + 244) tb_M20 185 [(2, vi (l2 + 1)), (5, vi z21), (4, vi z14), (3, vi z9), (0, .ref 131), (1, .ref C)] [] s27 _
                    refine wr_n (pc2 := 42) (lv2 := [(2, vi (l2 + 1)), (5, vi z21), (4, vi z14), (3, vi z9), (0, .ref 131), (1, .ref C)]) (st2 := []) 1 (fun _ _ => rfl) ?_
                    exact (ih _ (by omega)).1 (l2 + 1) z21 z14 z9 s27 rfl hK27 hq27 hX27 hC27 (by omega) (by omega) (by omega) (by omega)  
                  · refine .inr ⟨rfl, ?_⟩
                    exact ⟨hK26, (FX_tr hX14 hY26), .inr ⟨rfl, TH hC14 hc26⟩⟩
              · refine .inr ⟨rfl, ?_⟩
                exact ⟨hK14, (FX_tr hX11 hY14), .inr ⟨rfl, TH hC11 hc14⟩⟩
            · refine wr_if2f rfl rfl (by unfold i32; omega) (by unfold i32; omega) h13 ?_
              refine wr_n (pc2 := 118) (lv2 := [(3, vi z9), (2, vi l2), (5, vi l5), (4, vi l4), (0, .ref 131), (1, .ref C)]) (st2 := [vi 6, .ref 131]) 2 (fun _ _ => rfl) ?_
              refine wr_call1T (args := [vi 6]) (rest := []) rfl rfl rfl rfl (Nat.le_of_ble_eq_true rfl) rfl (cr_mono (k_routineHead (d := d + 239) (C := C) hC (x := 6) s11 hK11 hq11 (by omega)) ?_)
              rintro s28 out ⟨hK28, hY28, ⟨z28, hc28, rfl, hz28, hp28⟩ | ⟨rfl, hc28⟩⟩
              · refine .inl ⟨_, rfl, ?_⟩
                have hX28 : FX s0.1 s28.1 := FX_tr hX11 hY28
                have hC28 : s28.2 = s0.2 := hc28.trans hC11
                have hq28 : s28.1 131 1 = (C : Int) := (hY28 131 1 (by unfold fx; omega)).trans hq11
                unfold i32 at hz28
                clear hp28
                show wr (d + 244) tb_M20 121 [(3, vi z9), (2, vi l2), (5, vi l5), (4, vi l4), (0, .ref 131), (1, .ref C)] [vi z28] s28 _
                refine wr_n (pc2 := 124) (lv2 := [(4, vi z28), (3, vi z9), (2, vi l2), (5, vi l5), (0, .ref 131), (1, .ref C)]) (st2 := [.ref 131]) 2 (fun _ _ => rfl) ?_
                refine wr_get (v := .ref C) rfl rfl rfl (by decide) (rv_ref (show (s28.1) 131 1 = ((C : Nat) : Int) from hq28)) fun h29 => ?_
                show wr (d + 244) tb_M20 127 [(4, vi z28), (3, vi z9), (2, vi l2), (5, vi l5), (0, .ref 131), (1, .ref C)] [.ref C] s28 _
                refine wr_get (v := .ref (C + 6)) rfl rfl (TK0 hC) (by decide) (rv_ref (hK28.1 C 5 (C + 6) (rcK hC (by omega)))) fun h30 => ?_
                show wr (d + 244) tb_M20 130 [(4, vi z28), (3, vi z9), (2, vi l2), (5, vi l5), (0, .ref 131), (1, .ref C)] [.ref (C + 6)] s28 _
                refine wr_get (v := vi (s28.1 (C + 6) 3)) rfl rfl (TK6 hC) (by decide) rfl fun h31 => ?_
                have h31 : -2147483648 ≤ s28.1 (C + 6) 3 ∧ s28.1 (C + 6) 3 ≤ 2147483647 := h31
                show wr (d + 244) tb_M20 133 [(4, vi z28), (3, vi z9), (2, vi l2), (5, vi l5), (0, .ref 131), (1, .ref C)] [vi (s28.1 (C + 6) 3)] s28 _
                have hb32 : 0 ≤ s28.1 (C + 6) 3 ∧ s28.1 (C + 6) 3 ≤ 58 := kb_to (kC6_3 hC) (hK28.2 (C + 6) 3)
                refine wr_n (pc2 := 134) (lv2 := [(4, vi z28), (3, vi z9), (2, vi l2), (5, vi l5), (0, .ref 131), (1, .ref C)]) (st2 := [.ref 131, vi (s28.1 (C + 6) 3)]) 1 (fun _ _ => rfl) ?_
                refine wr_get (v := .ref C) rfl rfl rfl (by decide) (rv_ref (show (s28.1) 131 1 = ((C : Nat) : Int) from hq28)) fun h33 => ?_
                show wr (d + 244) tb_M20 137 [(4, vi z28), (3, vi z9), (2, vi l2), (5, vi l5), (0, .ref 131), (1, .ref C)] [.ref C, vi (s28.1 (C + 6) 3)] s28 _
                refine wr_n (pc2 := 139) (lv2 := [(4, vi z28), (3, vi z9), (2, vi l2), (5, vi l5), (0, .ref 131), (1, .ref C)]) (st2 := [vi z28, .ref C, vi (s28.1 (C + 6) 3)]) 1 (fun _ _ => rfl) ?_
                refine wr_call1 (args := [vi z28]) (rest := [vi (s28.1 (C + 6) 3)]) rfl rfl rfl (TK0 hC) (Nat.le_of_ble_eq_true rfl) (cr_mono (k_par (d := d + 243) (C := C) hC (x := z28) s28 hK28 (by omega)) ?_)
                rintro s34 out ⟨z34, rfl, hz34, hp34, e34⟩
                refine ⟨_, rfl, ?_⟩
                rw [e34]
                unfold i32 at hz34
                clear hp34
                show wr (d + 244) tb_M20 142 [(4, vi z28), (3, vi z9), (2, vi l2), (5, vi l5), (0, .ref 131), (1, .ref C)] [vi z34, vi (s28.1 (C + 6) 3)] s28 _
                refine wr_any2 rfl rfl fun z35 h36 => ?_
                unfold i32 at h36
                show wr (d + 244) tb_M20 143 [(4, vi z28), (3, vi z9), (2, vi l2), (5, vi l5), (0, .ref 131), (1, .ref C)] [vi z35] s28 _
                refine wr_n (pc2 := 152) (lv2 := [(5, vi z35), (4, vi z28), (3, vi z9), (2, vi l2), (0, .ref 131), (1, .ref C)]) (st2 := [vi 307, vi z9, vi z28, .ref 131]) 5 (fun _ _ => rfl) ?_
                by_cases h37 : z9 ≠ 307
                · refine wr_if2t rfl rfl (by unfold i32; omega) (by unfold i32; omega) h37 ?_
                  refine wr_n (pc2 := 168) (lv2 := [(5, vi z35), (4, vi z28), (3, vi z9), (2, vi l2), (0, .ref 131), (1, .ref C)]) (st2 := [vi z35, vi 0, .ref 131, vi z28, .ref 131]) 3 (fun _ _ => rfl) ?_
                  refine wr_call1T (args := [vi 0, vi z35]) (rest := [vi z28, .ref 131]) rfl rfl rfl rfl (Nat.le_of_ble_eq_true rfl) rfl (cr_mono (cr_up (by omega) (k_JB C s28 0 z35 hC hK28 hq28 (by omega) (by omega))) ?_)
                  rintro s38 out ⟨hK38, hY38, ⟨z38, hc38, rfl, hz38, hp38⟩ | ⟨rfl, hc38⟩⟩
                  · refine .inl ⟨_, rfl, ?_⟩
                    have hX38 : FX s0.1 s38.1 := FX_tr hX28 hY38
                    have hC38 : s38.2 = s0.2 := hc38.trans hC28
                    have hq38 : s38.1 131 1 = (C : Int) := (hY38 131 1 (by unfold fx; omega)).trans hq28
                    unfold i32 at hz38
                    clear hp38
                    show wr (d + 244) tb_M20 171 [(5, vi z35), (4, vi z28), (3, vi z9), (2, vi l2), (0, .ref 131), (1, .ref C)] [vi z38, vi z28, .ref 131] s38 _
                    refine wr_call1 (args := [vi z28, vi z38]) (rest := []) rfl rfl rfl rfl (Nat.le_of_ble_eq_true rfl) (cr_mono (k_routineFoot (d := d + 243) (C := C) hC (x := z28) (y := z38) s38 hK38 hq38 (by omega) (by omega)) ?_)
                    rintro s39 out ⟨hK39, hY39, hc39, rfl⟩
                    refine ⟨_, rfl, ?_⟩
                    have hX39 : FX s0.1 s39.1 := FX_tr hX38 hY39
                    have hC39 : s39.2 = s0.2 := hc39.trans hC38
                    have hq39 : s39.1 131 1 = (C : Int) := (hY39 131 1 (by unfold fx; omega)).trans hq38
                    show wr (d + 244) tb_M20 174 [(5, vi z35), (4, vi z28), (3, vi z9), (2, vi l2), (0, .ref 131), (1, .ref C)] [] s39 _
                    refine wr_n (pc2 := 182) (lv2 := [(5, vi z35), (4, vi z28), (3, vi z9), (2, vi l2), (0, .ref 131), (1, .ref C)]) (st2 := []) 1 (fun _ _ => rfl) ?_
                    refine wr_inc (a := l2) rfl rfl ?_
                    show wr (d + 244) tb_M20 185 [(2, vi (l2 + 1)), (5, vi z35), (4, vi z28), (3, vi z9), (0, .ref 131), (1, .ref C)] [] s39 _
                    refine wr_n (pc2 := 42) (lv2 := [(2, vi (l2 + 1)), (5, vi z35), (4, vi z28), (3, vi z9), (0, .ref 131), (1, .ref C)]) (st2 := []) 1 (fun _ _ => rfl) ?_
                    exact (ih _ (by omega)).1 (l2 + 1) z35 z28 z9 s39 rfl hK39 hq39 hX39 hC39 (by omega) (by omega) (by omega) (by omega)  
                  · refine .inr ⟨rfl, ?_⟩
                    exact ⟨hK38, (FX_tr hX28 hY38), .inr ⟨rfl, TH hC28 hc38⟩⟩
                · refine wr_if2f rfl rfl (by unfold i32; omega) (by unfold i32; omega) h37 ?_
                  refine wr_n (pc2 := 158) (lv2 := [(5, vi z35), (4, vi z28), (3, vi z9), (2, vi l2), (0, .ref 131), (1, .ref C)]) (st2 := [vi z35, .ref 131, vi z28, .ref 131]) 2 (fun _ _ => rfl) ?_
                  refine wr_call1T (args := [vi z35]) (rest := [vi z28, .ref 131]) rfl rfl rfl rfl (Nat.le_of_ble_eq_true rfl) rfl (cr_mono (k_funBody (d := d + 4) (C := C) hC (x := z35) s28 hK28 hq28 (by omega)) ?_)
                  rintro s40 out ⟨hK40, hY40, ⟨z40, hc40, rfl, hz40, hp40⟩ | ⟨rfl, hc40⟩⟩
                  · refine .inl ⟨_, rfl, ?_⟩
                    have hX40 : FX s0.1 s40.1 := FX_tr hX28 hY40
                    have hC40 : s40.2 = s0.2 := hc40.trans hC28
                    have hq40 : s40.1 131 1 = (C : Int) := (hY40 131 1 (by unfold fx; omega)).trans hq28
                    unfold i32 at hz40
                    clear hp40
                    show wr (d + 244) tb_M20 161 [(5, vi z35), (4, vi z28), (3, vi z9), (2, vi l2), (0, .ref 131), (1, .ref C)] [vi z40, vi z28, .ref 131] s40 _
                    refine wr_n (pc2 := 171) (lv2 := [(5, vi z35), (4, vi z28), (3, vi z9), (2, vi l2), (0, .ref 131), (1, .ref C)]) (st2 := [vi z40, vi z28, .ref 131]) 1 (fun _ _ => rfl) ?_
                    refine wr_call1 (args := [vi z28, vi z40]) (rest := []) rfl rfl rfl rfl (Nat.le_of_ble_eq_true rfl) (cr_mono (k_routineFoot (d := d + 243) (C := C) hC (x := z28) (y := z40) s40 hK40 hq40 (by omega) (by omega)) ?_)
                    rintro s41 out ⟨hK41, hY41, hc41, rfl⟩
                    refine ⟨_, rfl, ?_⟩
                    have hX41 : FX s0.1 s41.1 := FX_tr hX40 hY41
                    have hC41 : s41.2 = s0.2 := hc41.trans hC40
                    have hq41 : s41.1 131 1 = (C : Int) := (hY41 131 1 (by unfold fx; omega)).trans hq40
                    show wr (d + 244) tb_M20 174 [(5, vi z35), (4, vi z28), (3, vi z9), (2, vi l2), (0, .ref 131), (1, .ref C)] [] s41 _
                    refine wr_n (pc2 := 182) (lv2 := [(5, vi z35), (4, vi z28), (3, vi z9), (2, vi l2), (0, .ref 131), (1, .ref C)]) (st2 := []) 1 (fun _ _ => rfl) ?_
                    refine wr_inc (a := l2) rfl rfl ?_
                    show wr (d + 244) tb_M20 185 [(2, vi (l2 + 1)), (5, vi z35), (4, vi z28), (3, vi z9), (0, .ref 131), (1, .ref C)] [] s41 _
                    refine wr_n (pc2 := 42) (lv2 := [(2, vi (l2 + 1)), (5, vi z35), (4, vi z28), (3, vi z9), (0, .ref 131), (1, .ref C)]) (st2 := []) 1 (fun _ _ => rfl) ?_
                    exact (ih _ (by omega)).1 (l2 + 1) z35 z28 z9 s41 rfl hK41 hq41 hX41 hC41 (by omega) (by omega) (by omega) (by omega)  
                  · refine .inr ⟨rfl, ?_⟩
                    exact ⟨hK40, (FX_tr hX28 hY40), .inr ⟨rfl, TH hC28 hc40⟩⟩
              · refine .inr ⟨rfl, ?_⟩
                exact ⟨hK28, (FX_tr hX11 hY28), .inr ⟨rfl, TH hC11 hc28⟩⟩
          · refine wr_if2f rfl rfl (by unfold i32; omega) (by unfold i32; omega) h12 ?_
            refine wr_n (pc2 := 101) (lv2 := [(3, vi z9), (2, vi l2), (5, vi l5), (4, vi l4), (0, .ref 131), (1, .ref C)]) (st2 := [vi 307, vi z9]) 2 (fun _ _ => rfl) ?_
            by_cases h42 : z9 ≠ 307
            · refine wr_if2t rfl rfl (by unfold i32; omega) (by unfold i32; omega) h42 ?_
              refine wr_n (pc2 := 179) (lv2 := [(3, vi z9), (2, vi l2), (5, vi l5), (4, vi l4), (0, .ref 131), (1, .ref C)]) (st2 := [vi z9, .ref 131]) 2 (fun _ _ => rfl) ?_
              refine wr_call1T (args := [vi z9]) (rest := []) rfl rfl rfl rfl (Nat.le_of_ble_eq_true rfl) rfl (cr_mono (k_shortDecl (d := d + 241) (C := C) hC (x := z9) s11 hK11 hq11 (by omega)) ?_)
              rintro s43 out ⟨hK43, hY43, ⟨hc43, rfl⟩ | ⟨rfl, hc43⟩⟩
              · refine .inl ⟨_, rfl, ?_⟩
                have hX43 : FX s0.1 s43.1 := FX_tr hX11 hY43
                have hC43 : s43.2 = s0.2 := hc43.trans hC11
                have hq43 : s43.1 131 1 = (C : Int) := (hY43 131 1 (by unfold fx; omega)).trans hq11
                show wr (d + 244) tb_M20 182 [(3, vi z9), (2, vi l2), (5, vi l5), (4, vi l4), (0, .ref 131), (1, .ref C)] [] s43 _
                refine wr_inc (a := l2) rfl rfl ?_
                show wr (d + 244) tb_M20 185 [(2, vi (l2 + 1)), (3, vi z9), (5, vi l5), (4, vi l4), (0, .ref 131), (1, .ref C)] [] s43 _
                refine wr_n (pc2 := 42) (lv2 := [(2, vi (l2 + 1)), (3, vi z9), (5, vi l5), (4, vi l4), (0, .ref 131), (1, .ref C)]) (st2 := []) 1 (fun _ _ => rfl) ?_
                exact (ih _ (by omega)).2 (l2 + 1) z9 l5 l4 s43 rfl hK43 hq43 hX43 hC43 (by omega) (by omega) (by omega) (by omega)  
              · refine .inr ⟨rfl, ?_⟩
                exact ⟨hK43, (FX_tr hX11 hY43), .inr ⟨rfl, TH hC11 hc43⟩⟩
            · refine wr_if2f rfl rfl (by unfold i32; omega) (by unfold i32; omega) h42 ?_
              refine wr_n (pc2 := 109) (lv2 := [(3, vi z9), (2, vi l2), (5, vi l5), (4, vi l4), (0, .ref 131), (1, .ref C)]) (st2 := [vi 307, vi z9, .ref 131]) 3 (fun _ _ => rfl) ?_
              by_cases h44 : z9 ≠ 307
              · refine wr_if2t rfl rfl (by unfold i32; omega) (by unfold i32; omega) h44 ?_
                refine wr_n (pc2 := 118) (lv2 := [(3, vi z9), (2, vi l2), (5, vi l5), (4, vi l4), (0, .ref 131), (1, .ref C)]) (st2 := [vi 5, .ref 131]) 1 (fun _ _ => rfl) ?_
                refine wr_call1T (args := [vi 5]) (rest := []) rfl rfl rfl rfl (Nat.le_of_ble_eq_true rfl) rfl (cr_mono (k_routineHead (d := d + 239) (C := C) hC (x := 5) s11 hK11 hq11 (by omega)) ?_)
                rintro s45 out ⟨hK45, hY45, ⟨z45, hc45, rfl, hz45, hp45⟩ | ⟨rfl, hc45⟩⟩
                · refine .inl ⟨_, rfl, ?_⟩
                  have hX45 : FX s0.1 s45.1 := FX_tr hX11 hY45
                  have hC45 : s45.2 = s0.2 := hc45.trans hC11
                  have hq45 : s45.1 131 1 = (C : Int) := (hY45 131 1 (by unfold fx; omega)).trans hq11
                  unfold i32 at hz45
                  clear hp45
                  show wr (d + 244) tb_M20 121 [(3, vi z9), (2, vi l2), (5, vi l5), (4, vi l4), (0, .ref 131), (1, .ref C)] [vi z45] s45 _
                  refine wr_n (pc2 := 124) (lv2 := [(4, vi z45), (3, vi z9), (2, vi l2), (5, vi l5), (0, .ref 131), (1, .ref C)]) (st2 := [.ref 131]) 2 (fun _ _ => rfl) ?_
                  refine wr_get (v := .ref C) rfl rfl rfl (by decide) (rv_ref (show (s45.1) 131 1 = ((C : Nat) : Int) from hq45)) fun h46 => ?_
                  show wr (d + 244) tb_M20 127 [(4, vi z45), (3, vi z9), (2, vi l2), (5, vi l5), (0, .ref 131), (1, .ref C)] [.ref C] s45 _
                  refine wr_get (v := .ref (C + 6)) rfl rfl (TK0 hC) (by decide) (rv_ref (hK45.1 C 5 (C + 6) (rcK hC (by omega)))) fun h47 => ?_
                  show wr (d + 244) tb_M20 130 [(4, vi z45), (3, vi z9), (2, vi l2), (5, vi l5), (0, .ref 131), (1, .ref C)] [.ref (C + 6)] s45 _
                  refine wr_get (v := vi (s45.1 (C + 6) 3)) rfl rfl (TK6 hC) (by decide) rfl fun h48 => ?_
                  have h48 : -2147483648 ≤ s45.1 (C + 6) 3 ∧ s45.1 (C + 6) 3 ≤ 2147483647 := h48
                  show wr (d + 244) tb_M20 133 [(4, vi z45), (3, vi z9), (2, vi l2), (5, vi l5), (0, .ref 131), (1, .ref C)] [vi (s45.1 (C + 6) 3)] s45 _
                  have hb49 : 0 ≤ s45.1 (C + 6) 3 ∧ s45.1 (C + 6) 3 ≤ 58 := kb_to (kC6_3 hC) (hK45.2 (C + 6) 3)
                  refine wr_n (pc2 := 134) (lv2 := [(4, vi z45), (3, vi z9), (2, vi l2), (5, vi l5), (0, .ref 131), (1, .ref C)]) (st2 := [.ref 131, vi (s45.1 (C + 6) 3)]) 1 (fun _ _ => rfl) ?_
                  refine wr_get (v := .ref C) rfl rfl rfl (by decide) (rv_ref (show (s45.1) 131 1 = ((C : Nat) : Int) from hq45)) fun h50 => ?_
                  show wr (d + 244) tb_M20 137 [(4, vi z45), (3, vi z9), (2, vi l2), (5, vi l5), (0, .ref 131), (1, .ref C)] [.ref C, vi (s45.1 (C + 6) 3)] s45 _
                  refine wr_n (pc2 := 139) (lv2 := [(4, vi z45), (3, vi z9), (2, vi l2), (5, vi l5), (0, .ref 131), (1, .ref C)]) (st2 := [vi z45, .ref C, vi (s45.1 (C + 6) 3)]) 1 (fun _ _ => rfl) ?_
                  refine wr_call1 (args := [vi z45]) (rest := [vi (s45.1 (C + 6) 3)]) rfl rfl rfl (TK0 hC) (Nat.le_of_ble_eq_true rfl) (cr_mono (k_par (d := d + 243) (C := C) hC (x := z45) s45 hK45 (by omega)) ?_)
                  rintro s51 out ⟨z51, rfl, hz51, hp51, e51⟩
                  refine ⟨_, rfl, ?_⟩
                  rw [e51]
                  unfold i32 at hz51
                  clear hp51
                  show wr (d + 244) tb_M20 142 [(4, vi z45), (3, vi z9), (2, vi l2), (5, vi l5), (0, .ref 131), (1, .ref C)] [vi z51, vi (s45.1 (C + 6) 3)] s45 _
                  refine wr_any2 rfl rfl fun z52 h53 => ?_
                  unfold i32 at h53
                  show wr (d + 244) tb_M20 143 [(4, vi z45), (3, vi z9), (2, vi l2), (5, vi l5), (0, .ref 131), (1, .ref C)] [vi z52] s45 _
                  refine wr_n (pc2 := 152) (lv2 := [(5, vi z52), (4, vi z45), (3, vi z9), (2, vi l2), (0, .ref 131), (1, .ref C)]) (st2 := [vi 307, vi z9, vi z45, .ref 131]) 5 (fun _ _ => rfl) ?_
                  by_cases h54 : z9 ≠ 307
                  · refine wr_if2t rfl rfl (by unfold i32; omega) (by unfold i32; omega) h54 ?_
                    refine wr_n (pc2 := 168) (lv2 := [(5, vi z52), (4, vi z45), (3, vi z9), (2, vi l2), (0, .ref 131), (1, .ref C)]) (st2 := [vi z52, vi 0, .ref 131, vi z45, .ref 131]) 3 (fun _ _ => rfl) ?_
                    refine wr_call1T (args := [vi 0, vi z52]) (rest := [vi z45, .ref 131]) rfl rfl rfl rfl (Nat.le_of_ble_eq_true rfl) rfl (cr_mono (cr_up (by omega) (k_JB C s45 0 z52 hC hK45 hq45 (by omega) (by omega))) ?_)
                    rintro s55 out ⟨hK55, hY55, ⟨z55, hc55, rfl, hz55, hp55⟩ | ⟨rfl, hc55⟩⟩
                    · refine .inl ⟨_, rfl, ?_⟩
                      have hX55 : FX s0.1 s55.1 := FX_tr hX45 hY55
                      have hC55 : s55.2 = s0.2 := hc55.trans hC45
                      have hq55 : s55.1 131 1 = (C : Int) := (hY55 131 1 (by unfold fx; omega)).trans hq45
                      unfold i32 at hz55
                      clear hp55
                      show wr (d + 244) tb_M20 171 [(5, vi z52), (4, vi z45), (3, vi z9), (2, vi l2), (0, .ref 131), (1, .ref C)] [vi z55, vi z45, .ref 131] s55 _
                      refine wr_call1 (args := [vi z45, vi z55]) (rest := []) rfl rfl rfl rfl (Nat.le_of_ble_eq_true rfl) (cr_mono (k_routineFoot (d := d + 243) (C := C) hC (x := z45) (y := z55) s55 hK55 hq55 (by omega) (by omega)) ?_)
                      rintro s56 out ⟨hK56, hY56, hc56, rfl⟩
                      refine ⟨_, rfl, ?_⟩
                      have hX56 : FX s0.1 s56.1 := FX_tr hX55 hY56
                      have hC56 : s56.2 = s0.2 := hc56.trans hC55
                      have hq56 : s56.1 131 1 = (C : Int) := (hY56 131 1 (by unfold fx; omega)).trans hq55
                      show wr (d + 244) tb_M20 174 [(5, vi z52), (4, vi z45), (3, vi z9), (2, vi l2), (0, .ref 131), (1, .ref C)] [] s56 _
                      refine wr_n (pc2 := 182) (lv2 := [(5, vi z52), (4, vi z45), (3, vi z9), (2, vi l2), (0, .ref 131), (1, .ref C)]) (st2 := []) 1 (fun _ _ => rfl) ?_
                      refine wr_inc (a := l2) rfl rfl ?_
                      show wr (d + 244) tb_M20 185 [(2, vi (l2 + 1)), (5, vi z52), (4, vi z45), (3, vi z9), (0, .ref 131), (1, .ref C)] [] s56 _
                      refine wr_n (pc2 := 42) (lv2 := [(2, vi (l2 + 1)), (5, vi z52), (4, vi z45), (3, vi z9), (0, .ref 131), (1, .ref C)]) (st2 := []) 1 (fun _ _ => rfl) ?_
                      exact (ih _ (by omega)).1 (l2 + 1) z52 z45 z9 s56 rfl hK56 hq56 hX56 hC56 (by omega) (by omega) (by omega) (by omega)  
                    · refine .inr ⟨rfl, ?_⟩
                      exact ⟨hK55, (FX_tr hX45 hY55), .inr ⟨rfl, TH hC45 hc55⟩⟩
                  · refine wr_if2f rfl rfl (by unfold i32; omega) (by unfold i32; omega) h54 ?_
                    refine wr_n (pc2 := 158) (lv2 := [(5, vi z52), (4, vi z45), (3, vi z9), (2, vi l2), (0, .ref 131), (1, .ref C)]) (st2 := [vi z52, .ref 131, vi z45, .ref 131]) 2 (fun _ _ => rfl) ?_
                    refine wr_call1T (args := [vi z52]) (rest := [vi z45, .ref 131]) rfl rfl rfl rfl (Nat.le_of_ble_eq_true rfl) rfl (cr_mono (k_funBody (d := d + 4) (C := C) hC (x := z52) s45 hK45 hq45 (by omega)) ?_)
                    rintro s57 out ⟨hK57, hY57, ⟨z57, hc57, rfl, hz57, hp57⟩ | ⟨rfl, hc57⟩⟩
                    · refine .inl ⟨_, rfl, ?_⟩
                      have hX57 : FX s0.1 s57.1 := FX_tr hX45 hY57
                      have hC57 : s57.2 = s0.2 := hc57.trans hC45
                      have hq57 : s57.1 131 1 = (C : Int) := (hY57 131 1 (by unfold fx; omega)).trans hq45
                      unfold i32 at hz57
                      clear hp57
                      show wr (d + 244) tb_M20 161 [(5, vi z52), (4, vi z45), (3, vi z9), (2, vi l2), (0, .ref 131), (1, .ref C)] [vi z57, vi z45, .ref 131] s57 _
                      refine wr_n (pc2 := 171) (lv2 := [(5, vi z52), (4, vi z45), (3, vi z9), (2, vi l2), (0, .ref 131), (1, .ref C)]) (st2 := [vi z57, vi z45, .ref 131]) 1 (fun _ _ => rfl) ?_
                      refine wr_call1 (args := [vi z45, vi z57]) (rest := []) rfl rfl rfl rfl (Nat.le_of_ble_eq_true rfl) (cr_mono (k_routineFoot (d := d + 243) (C := C) hC (x := z45) (y := z57) s57 hK57 hq57 (by omega) (by omega)) ?_)
                      rintro s58 out ⟨hK58, hY58, hc58, rfl⟩
                      refine ⟨_, rfl, ?_⟩
                      have hX58 : FX s0.1 s58.1 := FX_tr hX57 hY58
                      have hC58 : s58.2 = s0.2 := hc58.trans hC57
                      have hq58 : s58.1 131 1 = (C : Int) := (hY58 131 1 (by unfold fx; omega)).trans hq57
                      show wr (d + 244) tb_M20 174 [(5, vi z52), (4, vi z45), (3, vi z9), (2, vi l2), (0, .ref 131), (1, .ref C)] [] s58 _
                      refine wr_n (pc2 := 182) (lv2 := [(5, vi z52), (4, vi z45), (3, vi z9), (2, vi l2), (0, .ref 131), (1, .ref C)]) (st2 := []) 1 (fun _ _ => rfl) ?_
                      refine wr_inc (a := l2) rfl rfl ?_
                      show wr (d + 244) tb_M20 185 [(2, vi (l2 + 1)), (5, vi z52), (4, vi z45), (3, vi z9), (0, .ref 131), (1, .ref C)] [] s58 _
                      refine wr_n (pc2 := 42) (lv2 := [(2, vi (l2 + 1)), (5, vi z52), (4, vi z45), (3, vi z9), (0, .ref 131), (1, .ref C)]) (st2 := []) 1 (fun _ _ => rfl) ?_
                      exact (ih _ (by omega)).1 (l2 + 1) z52 z45 z9 s58 rfl hK58 hq58 hX58 hC58 (by omega) (by omega) (by omega) (by omega)  
                    · refine .inr ⟨rfl, ?_⟩
                      exact ⟨hK57, (FX_tr hX45 hY57), .inr ⟨rfl, TH hC45 hc57⟩⟩
                · refine .inr ⟨rfl, ?_⟩
                  exact ⟨hK45, (FX_tr hX11 hY45), .inr ⟨rfl, TH hC11 hc45⟩⟩
              · refine wr_if2f rfl rfl (by unfold i32; omega) (by unfold i32; omega) h44 ?_
                refine wr_n (pc2 := 118) (lv2 := [(3, vi z9), (2, vi l2), (5, vi l5), (4, vi l4), (0, .ref 131), (1, .ref C)]) (st2 := [vi 6, .ref 131]) 2 (fun _ _ => rfl) ?_
                refine wr_call1T (args := [vi 6]) (rest := []) rfl rfl rfl rfl (Nat.le_of_ble_eq_true rfl) rfl (cr_mono (k_routineHead (d := d + 239) (C := C) hC (x := 6) s11 hK11 hq11 (by omega)) ?_)
                rintro s59 out ⟨hK59, hY59, ⟨z59, hc59, rfl, hz59, hp59⟩ | ⟨rfl, hc59⟩⟩
                · refine .inl ⟨_, rfl, ?_⟩
                  have hX59 : FX s0.1 s59.1 := FX_tr hX11 hY59
                  have hC59 : s59.2 = s0.2 := hc59.trans hC11
                  have hq59 : s59.1 131 1 = (C : Int) := (hY59 131 1 (by unfold fx; omega)).trans hq11
                  unfold i32 at hz59
                  clear hp59
                  show wr (d + 244) tb_M20 121 [(3, vi z9), (2, vi l2), (5, vi l5), (4, vi l4), (0, .ref 131), (1, .ref C)] [vi z59] s59 _
                  refine wr_n (pc2 := 124) (lv2 := [(4, vi z59), (3, vi z9), (2, vi l2), (5, vi l5), (0, .ref 131), (1, .ref C)]) (st2 := [.ref 131]) 2 (fun _ _ => rfl) ?_
                  refine wr_get (v := .ref C) rfl rfl rfl (by decide) (rv_ref (show (s59.1) 131 1 = ((C : Nat) : Int) from hq59)) fun h60 => ?_
                  show wr (d + 244) tb_M20 127 [(4, vi z59), (3, vi z9), (2, vi l2), (5, vi l5), (0, .ref 131), (1, .ref C)] [.ref C] s59 _
                  refine wr_get (v := .ref (C + 6)) rfl rfl (TK0 hC) (by decide) (rv_ref (hK59.1 C 5 (C + 6) (rcK hC (by omega)))) fun h61 => ?_
                  show wr (d + 244) tb_M20 130 [(4, vi z59), (3, vi z9), (2, vi l2), (5, vi l5), (0, .ref 131), (1, .ref C)] [.ref (C + 6)] s59 _
                  refine wr_get (v := vi (s59.1 (C + 6) 3)) rfl rfl (TK6 hC) (by decide) rfl fun h62 => ?_
                  have h62 : -2147483648 ≤ s59.1 (C + 6) 3 ∧ s59.1 (C + 6) 3 ≤ 2147483647 := h62
                  show wr (d + 244) tb_M20 133 [(4, vi z59), (3, vi z9), (2, vi l2), (5, vi l5), (0, .ref 131), (1, .ref C)] [vi (s59.1 (C + 6) 3)] s59 _
                  have hb63 : 0 ≤ s59.1 (C + 6) 3 ∧ s59.1 (C + 6) 3 ≤ 58 := kb_to (kC6_3 hC) (hK59.2 (C + 6) 3)
                  refine wr_n (pc2 := 134) (lv2 := [(4, vi z59), (3, vi z9), (2, vi l2), (5, vi l5), (0, .ref 131), (1, .ref C)]) (st2 := [.ref 131, vi (s59.1 (C + 6) 3)]) 1 (fun _ _ => rfl) ?_
                  refine wr_get (v := .ref C) rfl rfl rfl (by decide) (rv_ref (show (s59.1) 131 1 = ((C : Nat) : Int) from hq59)) fun h64 => ?_
                  show wr (d + 244) tb_M20 137 [(4, vi z59), (3, vi z9), (2, vi l2), (5, vi l5), (0, .ref 131), (1, .ref C)] [.ref C, vi (s59.1 (C + 6) 3)] s59 _
                  refine wr_n (pc2 := 139) (lv2 := [(4, vi z59), (3, vi z9), (2, vi l2), (5, vi l5), (0, .ref 131), (1, .ref C)]) (st2 := [vi z59, .ref C, vi (s59.1 (C + 6) 3)]) 1 (fun _ _ => rfl) ?_
                  refine wr_call1 (args := [vi z59]) (rest := [vi (s59.1 (C + 6) 3)]) rfl rfl rfl (TK0 hC) (Nat.le_of_ble_eq_true rfl) (cr_mono (k_par (d := d + 243) (C := C) hC (x := z59) s59 hK59 (by omega)) ?_)
                  rintro s65 out ⟨z65, rfl, hz65, hp65, e65⟩
                  refine ⟨_, rfl, ?_⟩
                  rw [e65]
                  unfold i32 at hz65
                  clear hp65
                  show wr (d + 244) tb_M20 142 [(4, vi z59), (3, vi z9), (2, vi l2), (5, vi l5), (0, .ref 131), (1, .ref C)] [vi z65, vi (s59.1 (C + 6) 3)] s59 _
                  refine wr_any2 rfl rfl fun z66 h67 => ?_
                  unfold i32 at h67
                  show wr (d + 244) tb_M20 143 [(4, vi z59), (3, vi z9), (2, vi l2), (5, vi l5), (0, .ref 131), (1, .ref C)] [vi z66] s59 _
                  refine wr_n (pc2 := 152) (lv2 := [(5, vi z66), (4, vi z59), (3, vi z9), (2, vi l2), (0, .ref 131), (1, .ref C)]) (st2 := [vi 307, vi z9, vi z59, .ref 131]) 5 (fun _ _ => rfl) ?_
                  by_cases h68 : z9 ≠ 307
                  · refine wr_if2t rfl rfl (by unfold i32; omega) (by unfold i32; omega) h68 ?_
                    refine wr_n (pc2 := 168) (lv2 := [(5, vi z66), (4, vi z59), (3, vi z9), (2, vi l2), (0, .ref 131), (1, .ref C)]) (st2 := [vi z66, vi 0, .ref 131, vi z59, .ref 131]) 3 (fun _ _ => rfl) ?_
                    refine wr_call1T (args := [vi 0, vi z66]) (rest := [vi z59, .ref 131]) rfl rfl rfl rfl (Nat.le_of_ble_eq_true rfl) rfl (cr_mono (cr_up (by omega) (k_JB C s59 0 z66 hC hK59 hq59 (by omega) (by omega))) ?_)
                    rintro s69 out ⟨hK69, hY69, ⟨z69, hc69, rfl, hz69, hp69⟩ | ⟨rfl, hc69⟩⟩
                    · refine .inl ⟨_, rfl, ?_⟩
                      have hX69 : FX s0.1 s69.1 := FX_tr hX59 hY69
                      have hC69 : s69.2 = s0.2 := hc69.trans hC59
                      have hq69 : s69.1 131 1 = (C : Int) := (hY69 131 1 (by unfold fx; omega)).trans hq59
                      unfold i32 at hz69
                      clear hp69
                      show wr (d + 244) tb_M20 171 [(5, vi z66), (4, vi z59), (3, vi z9), (2, vi l2), (0, .ref 131), (1, .ref C)] [vi z69, vi z59, .ref 131] s69 _
                      refine wr_call1 (args := [vi z59, vi z69]) (rest := []) rfl rfl rfl rfl (Nat.le_of_ble_eq_true rfl) (cr_mono (k_routineFoot (d := d + 243) (C := C) hC (x := z59) (y := z69) s69 hK69 hq69 (by omega) (by omega)) ?_)
                      rintro s70 out ⟨hK70, hY70, hc70, rfl⟩
                      refine ⟨_, rfl, ?_⟩
                      have hX70 : FX s0.1 s70.1 := FX_tr hX69 hY70
                      have hC70 : s70.2 = s0.2 := hc70.trans hC69
                      have hq70 : s70.1 131 1 = (C : Int) := (hY70 131 1 (by unfold fx; omega)).trans hq69
                      show wr (d + 244) tb_M20 174 [(5, vi z66), (4, vi z59), (3, vi z9), (2, vi l2), (0, .ref 131), (1, .ref C)] [] s70 _
                      refine wr_n (pc2 := 182) (lv2 := [(5, vi z66), (4, vi z59), (3, vi z9), (2, vi l2), (0, .ref 131), (1, .ref C)]) (st2 := []) 1 (fun _ _ => rfl) ?_
                      refine wr_inc (a := l2) rfl rfl ?_
                      show wr (d + 244) tb_M20 185 [(2, vi (l2 + 1)), (5, vi z66), (4, vi z59), (3, vi z9), (0, .ref 131), (1, .ref C)] [] s70 _
                      refine wr_n (pc2 := 42) (lv2 := [(2, vi (l2 + 1)), (5, vi z66), (4, vi z59), (3, vi z9), (0, .ref 131), (1, .ref C)]) (st2 := []) 1 (fun _ _ => rfl) ?_
                      exact (ih _ (by omega)).1 (l2 + 1) z66 z59 z9 s70 rfl hK70 hq70 hX70 hC70 (by omega) (by omega) (by omega) (by omega)  
                    · refine .inr ⟨rfl, ?_⟩
                      exact ⟨hK69, (FX_tr hX59 hY69), .inr ⟨rfl, TH hC59 hc69⟩⟩
                  · refine wr_if2f rfl rfl (by unfold i32; omega) (by unfold i32; omega) h68 ?_
                    refine wr_n (pc2 := 158) (lv2 := [(5, vi z66), (4, vi z59), (3, vi z9), (2, vi l2), (0, .ref 131), (1, .ref C)]) (st2 := [vi z66, .ref 131, vi z59, .ref 131]) 2 (fun _ _ => rfl) ?_
                    refine wr_call1T (args := [vi z66]) (rest := [vi z59, .ref 131]) rfl rfl rfl rfl (Nat.le_of_ble_eq_true rfl) rfl (cr_mono (k_funBody (d := d + 4) (C := C) hC (x := z66) s59 hK59 hq59 (by omega)) ?_)
                    rintro s71 out ⟨hK71, hY71, ⟨z71, hc71, rfl, hz71, hp71⟩ | ⟨rfl, hc71⟩⟩
                    · refine .inl ⟨_, rfl, ?_⟩
                      have hX71 : FX s0.1 s71.1 := FX_tr hX59 hY71
                      have hC71 : s71.2 = s0.2 := hc71.trans hC59
                      have hq71 : s71.1 131 1 = (C : Int) := (hY71 131 1 (by unfold fx; omega)).trans hq59
                      unfold i32 at hz71
                      clear hp71
                      show wr (d + 244) tb_M20 161 [(5, vi z66), (4, vi z59), (3, vi z9), (2, vi l2), (0, .ref 131), (1, .ref C)] [vi z71, vi z59, .ref 131] s71 _
                      refine wr_n (pc2 := 171) (lv2 := [(5, vi z66), (4, vi z59), (3, vi z9), (2, vi l2), (0, .ref 131), (1, .ref C)]) (st2 := [vi z71, vi z59, .ref 131]) 1 (fun _ _ => rfl) ?_
                      refine wr_call1 (args := [vi z59, vi z71]) (rest := []) rfl rfl rfl rfl (Nat.le_of_ble_eq_true rfl) (cr_mono (k_routineFoot (d := d + 243) (C := C) hC (x := z59) (y := z71) s71 hK71 hq71 (by omega) (by omega)) ?_)
                      rintro s72 out ⟨hK72, hY72, hc72, rfl⟩
                      refine ⟨_, rfl, ?_⟩
                      have hX72 : FX s0.1 s72.1 := FX_tr hX71 hY72
                      have hC72 : s72.2 = s0.2 := hc72.trans hC71
                      have hq72 : s72.1 131 1 = (C : Int) := (hY72 131 1 (by unfold fx; omega)).trans hq71
                      show wr (d + 244) tb_M20 174 [(5, vi z66), (4, vi z59), (3, vi z9), (2, vi l2), (0, .ref 131), (1, .ref C)] [] s72 _
                      refine wr_n (pc2 := 182) (lv2 := [(5, vi z66), (4, vi z59), (3, vi z9), (2, vi l2), (0, .ref 131), (1, .ref C)]) (st2 := []) 1 (fun _ _ => rfl) ?_
                      refine wr_inc (a := l2) rfl rfl ?_
                      show wr (d + 244) tb_M20 185 [(2, vi (l2 + 1)), (5, vi z66), (4, vi z59), (3, vi z9), (0, .ref 131), (1, .ref C)] [] s72 _
                      refine wr_n (pc2 := 42) (lv2 := [(2, vi (l2 + 1)), (5, vi z66), (4, vi z59), (3, vi z9), (0, .ref 131), (1, .ref C)]) (st2 := []) 1 (fun _ _ => rfl) ?_
                      exact (ih _ (by omega)).1 (l2 + 1) z66 z59 z9 s72 rfl hK72 hq72 hX72 hC72 (by omega) (by omega) (by omega) (by omega)  
                    · refine .inr ⟨rfl, ?_⟩
                      exact ⟨hK71, (FX_tr hX59 hY71), .inr ⟨rfl, TH hC59 hc71⟩⟩
                · refine .inr ⟨rfl, ?_⟩
                  exact ⟨hK59, (FX_tr hX11 hY59), .inr ⟨rfl, TH hC11 hc59⟩⟩
  · intro l2 l3 l5 l4 s hw hK hq hX hc hl2 hl3 hl5 hl4
    refine wr_n (pc2 := 46) (lv2 := [(2, vi l2), (3, vi l3), (5, vi l5), (4, vi l4), (0, .ref 131), (1, .ref C)]) (st2 := [vi 2000, vi l2]) 2 (fun _ _ => rfl) ?_
    by_cases h1 : 2000 ≤ l2
    · refine wr_if2t rfl rfl (by unfold i32; omega) (by unfold i32; omega) h1 ?_
      exact k_program5_188v3 hC l2 l3 l5 l4 s hK hq hX hc (by omega) (by omega) (by omega) (by omega)  
    · refine wr_if2f rfl rfl (by unfold i32; omega) (by unfold i32; omega) h1 ?_
      refine wr_n (pc2 := 50) (lv2 := [(2, vi l2), (3, vi l3), (5, vi l5), (4, vi l4), (0, .ref 131), (1, .ref C)]) (st2 := [.ref 131]) 1 (fun _ _ => rfl) ?_
      refine wr_get (v := .ref 137) rfl rfl rfl (by decide) (rv_ref (hK.1 131 0 137 rfl)) fun h2 => ?_
      show wr (d + 244) tb_M20 53 [(2, vi l2), (3, vi l3), (5, vi l5), (4, vi l4), (0, .ref 131), (1, .ref C)] [.ref 137] s _
      refine wr_call1 (args := []) (rest := []) rfl rfl rfl rfl (Nat.le_of_ble_eq_true rfl) (cr_mono (k_kind (d := d + 243) s hK) ?_)
      rintro s3 out ⟨z3, rfl, hz3, hp3, e3⟩
      refine ⟨_, rfl, ?_⟩
      rw [e3]
      unfold i32 at hz3
      clear hp3
      show wr (d + 244) tb_M20 56 [(2, vi l2), (3, vi l3), (5, vi l5), (4, vi l4), (0, .ref 131), (1, .ref C)] [vi z3] s _
      refine wr_n (pc2 := 59) (lv2 := [(2, vi l2), (3, vi l3), (5, vi l5), (4, vi l4), (0, .ref 131), (1, .ref C)]) (st2 := [vi 300, vi z3]) 1 (fun _ _ => rfl) ?_
      by_cases h4 : z3 < 300
      · refine wr_if2t rfl rfl (by unfold i32; omega) (by unfold i32; omega) h4 ?_
        exact k_program5_188v3 hC l2 l3 l5 l4 s hK hq hX hc (by omega) (by omega) (by omega) (by omega)  
      · refine wr_if2f rfl rfl (by unfold i32; omega) (by unfold i32; omega) h4 ?_
        refine wr_n (pc2 := 63) (lv2 := [(2, vi l2), (3, vi l3), (5, vi l5), (4, vi l4), (0, .ref 131), (1, .ref C)]) (st2 := [.ref 131]) 1 (fun _ _ => rfl) ?_
        refine wr_get (v := .ref 137) rfl rfl rfl (by decide) (rv_ref (hK.1 131 0 137 rfl)) fun h5 => ?_
        show wr (d + 244) tb_M20 66 [(2, vi l2), (3, vi l3), (5, vi l5), (4, vi l4), (0, .ref 131), (1, .ref C)] [.ref 137] s _
        refine wr_call1 (args := []) (rest := []) rfl rfl rfl rfl (Nat.le_of_ble_eq_true rfl) (cr_mono (k_kind (d := d + 243) s hK) ?_)
        rintro s6 out ⟨z6, rfl, hz6, hp6, e6⟩
        refine ⟨_, rfl, ?_⟩
        rw [e6]
        unfold i32 at hz6
        clear hp6
        show wr (d + 244) tb_M20 69 [(2, vi l2), (3, vi l3), (5, vi l5), (4, vi l4), (0, .ref 131), (1, .ref C)] [vi z6] s _
        refine wr_n (pc2 := 72) (lv2 := [(2, vi l2), (3, vi l3), (5, vi l5), (4, vi l4), (0, .ref 131), (1, .ref C)]) (st2 := [vi 307, vi z6]) 1 (fun _ _ => rfl) ?_
        by_cases h7 : 307 < z6
        · refine wr_if2t rfl rfl (by unfold i32; omega) (by unfold i32; omega) h7 ?_
          exact k_program5_188v3 hC l2 l3 l5 l4 s hK hq hX hc (by omega) (by omega) (by omega) (by omega)  
        · refine wr_if2f rfl rfl (by unfold i32; omega) (by unfold i32; omega) h7 ?_
          refine wr_n (pc2 := 76) (lv2 := [(2, vi l2), (3, vi l3), (5, vi l5), (4, vi l4), (0, .ref 131), (1, .ref C)]) (st2 := [.ref 131]) 1 (fun _ _ => rfl) ?_
          refine wr_get (v := .ref 137) rfl rfl rfl (by decide) (rv_ref (hK.1 131 0 137 rfl)) fun h8 => ?_
          show wr (d + 244) tb_M20 79 [(2, vi l2), (3, vi l3), (5, vi l5), (4, vi l4), (0, .ref 131), (1, .ref C)] [.ref 137] s _
          refine wr_call1 (args := []) (rest := []) rfl rfl rfl rfl (Nat.le_of_ble_eq_true rfl) (cr_mono (k_kind (d := d + 243) s hK) ?_)
          rintro s9 out ⟨z9, rfl, hz9, hp9, e9⟩
          refine ⟨_, rfl, ?_⟩
          rw [e9]
          unfold i32 at hz9
          clear hp9
          show wr (d + 244) tb_M20 82 [(2, vi l2), (3, vi l3), (5, vi l5), (4, vi l4), (0, .ref 131), (1, .ref C)] [vi z9] s _
          refine wr_n (pc2 := 84) (lv2 := [(3, vi z9), (2, vi l2), (5, vi l5), (4, vi l4), (0, .ref 131), (1, .ref C)]) (st2 := [.ref 131]) 2 (fun _ _ => rfl) ?_
          refine wr_get (v := .ref 137) rfl rfl rfl (by decide) (rv_ref (hK.1 131 0 137 rfl)) fun h10 => ?_
          show wr (d + 244) tb_M20 87 [(3, vi z9), (2, vi l2), (5, vi l5), (4, vi l4), (0, .ref 131), (1, .ref C)] [.ref 137] s _
          refine wr_call1 (args := []) (rest := []) rfl rfl rfl rfl (Nat.le_of_ble_eq_true rfl) (cr_mono (k_step (d := d + 243) s hK) ?_)
          rintro s11 out ⟨hK11, hY11, hc11, rfl⟩
          refine ⟨_, rfl, ?_⟩
          have hX11 : FX s0.1 s11.1 := FX_tr hX hY11
          have hC11 : s11.2 = s0.2 := hc11.trans hc
          have hq11 : s11.1 131 1 = (C : Int) := (hY11 131 1 (by unfold fx; omega)).trans hq
          show wr (d + 244) tb_M20 90 [(3, vi z9), (2, vi l2), (5, vi l5), (4, vi l4), (0, .ref 131), (1, .ref C)] [] s11 _
          refine wr_n (pc2 := 94) (lv2 := [(3, vi z9), (2, vi l2), (5, vi l5), (4, vi l4), (0, .ref 131), (1, .ref C)]) (st2 := [vi 306, vi z9]) 2 (fun _ _ => rfl) ?_
          by_cases h12 : z9 = 306
          · refine wr_if2t rfl rfl (by unfold i32; omega) (by unfold i32; omega) h12 ?_
            refine wr_n (pc2 := 109) (lv2 := [(3, vi z9), (2, vi l2), (5, vi l5), (4, vi l4), (0, .ref 131), (1, .ref C)]) (st2 := [vi 307, vi z9, .ref 131]) 3 (fun _ _ => rfl) ?_
            by_cases h13 : z9 ≠ 307
            · refine wr_if2t rfl rfl (by unfold i32; omega) (by unfold i32; omega) h13 ?_
              refine wr_n (pc2 := 118) (lv2 := [(3, vi z9), (2, vi l2), (5, vi l5), (4, vi l4), (0, .ref 131), (1, .ref C)]) (st2 := [vi 5, .ref 131]) 1 (fun _ _ => rfl) ?_
              refine wr_call1T (args := [vi 5]) (rest := []) rfl rfl rfl rfl (Nat.le_of_ble_eq_true rfl) rfl (cr_mono (k_routineHead (d := d + 239) (C := C) hC (x := 5) s11 hK11 hq11 (by omega)) ?_)
              rintro s14 out ⟨hK14, hY14, ⟨z14, hc14, rfl, hz14, hp14⟩ | ⟨rfl, hc14⟩⟩
              · refine .inl ⟨_, rfl, ?_⟩
                have hX14 : FX s0.1 s14.1 := FX_tr hX11 hY14
                have hC14 : s14.2 = s0.2 := hc14.trans hC11
                have hq14 : s14.1 131 1 = (C : Int) := (hY14 131 1 (by unfold fx; omega)).trans hq11
                unfold i32 at hz14
                clear hp14
                show wr (d + 244) tb_M20 121 [(3, vi z9), (2, vi l2), (5, vi l5), (4, vi l4), (0, .ref 131), (1, .ref C)] [vi z14] s14 _
                refine wr_n (pc2 := 124) (lv2 := [(4, vi z14), (3, vi z9), (2, vi l2), (5, vi l5), (0, .ref 131), (1, .ref C)]) (st2 := [.ref 131]) 2 (fun _ _ => rfl) ?_
                refine wr_get (v := .ref C) rfl rfl rfl (by decide) (rv_ref (show (s14.1) 131 1 = ((C : Nat) : Int) from hq14)) fun h15 => ?_
                show wr (d + 244) tb_M20 127 [(4, vi z14), (3, vi z9), (2, vi l2), (5, vi l5), (0, .ref 131), (1, .ref C)] [.ref C] s14 _
                refine wr_get (v := .ref (C + 6)) rfl rfl (TK0 hC) (by decide) (rv_ref (hK14.1 C 5 (C + 6) (rcK hC (by omega)))) fun h16 => ?_
                show wr (d + 244) tb_M20 130 [(4, vi z14), (3, vi z9), (2, vi l2), (5, vi l5), (0, .ref 131), (1, .ref C)] [.ref (C + 6)] s14 _
                refine wr_get (v := vi (s14.1 (C + 6) 3)) rfl rfl (TK6 hC) (by decide) rfl fun h17 => ?_
                have h17 : -2147483648 ≤ s14.1 (C + 6) 3 ∧ s14.1 (C + 6) 3 ≤ 2147483647 := h17
                show wr (d + 244) tb_M20 133 [(4, vi z14), (3, vi z9), (2, vi l2), (5, vi l5), (0, .ref 131), (1, .ref C)] [vi (s14.1 (C + 6) 3)] s14 _
                have hb18 : 0 ≤ s14.1 (C + 6) 3 ∧ s14.1 (C + 6) 3 ≤ 58 := kb_to (kC6_3 hC) (hK14.2 (C + 6) 3)
                refine wr_n (pc2 := 134) (lv2 := [(4, vi z14), (3, vi z9), (2, vi l2), (5, vi l5), (0, .ref 131), (1, .ref C)]) (st2 := [.ref 131, vi (s14.1 (C + 6) 3)]) 1 (fun _ _ => rfl) ?_
                refine wr_get (v := .ref C) rfl rfl rfl (by decide) (rv_ref (show (s14.1) 131 1 = ((C : Nat) : Int) from hq14)) fun h19 => ?_
                show wr (d + 244) tb_M20 137 [(4, vi z14), (3, vi z9), (2, vi l2), (5, vi l5), (0, .ref 131), (1, .ref C)] [.ref C, vi (s14.1 (C + 6) 3)] s14 _
                refine wr_n (pc2 := 139) (lv2 := [(4, vi z14), (3, vi z9), (2, vi l2), (5, vi l5), (0, .ref 131), (1, .ref C)]) (st2 := [vi z14, .ref C, vi (s14.1 (C + 6) 3)]) 1 (fun _ _ => rfl) ?_
                refine wr_call1 (args := [vi z14]) (rest := [vi (s14.1 (C + 6) 3)]) rfl rfl rfl (TK0 hC) (Nat.le_of_ble_eq_true rfl) (cr_mono (k_par (d := d + 243) (C := C) hC (x := z14) s14 hK14 (by omega)) ?_)
                rintro s20 out ⟨z20, rfl, hz20, hp20, e20⟩
                refine ⟨_, rfl, ?_⟩
                rw [e20]
                unfold i32 at hz20
                clear hp20
                show wr (d + 244) tb_M20 142 [(4, vi z14), (3, vi z9), (2, vi l2), (5, vi l5), (0, .ref 131), (1, .ref C)] [vi z20, vi (s14.1 (C + 6) 3)] s14 _
                refine wr_any2 rfl rfl fun z21 h22 => ?_
                unfold i32 at h22
                show wr (d + 244) tb_M20 143 [(4, vi z14), (3, vi z9), (2, vi l2), (5, vi l5), (0, .ref 131), (1, .ref C)] [vi z21] s14 _
                refine wr_n (pc2 := 152) (lv2 := [(5, vi z21), (4, vi z14), (3, vi z9), (2, vi l2), (0, .ref 131), (1, .ref C)]) (st2 := [vi 307, vi z9, vi z14, .ref 131]) 5 (fun _ _ => rfl) ?_
                by_cases h23 : z9 ≠ 307
                · refine wr_if2t rfl rfl (by unfold i32; omega) (by unfold i32; omega) h23 ?_
                  refine wr_n (pc2 := 168) (lv2 := [(5, vi z21), (4, vi z14), (3, vi z9), (2, vi l2), (0, .ref 131), (1, .ref C)]) (st2 := [vi z21, vi 0, .ref 131, vi z14, .ref 131]) 3 (fun _ _ => rfl) ?_
                  refine wr_call1T (args := [vi 0, vi z21]) (rest := [vi z14, .ref 131]) rfl rfl rfl rfl (Nat.le_of_ble_eq_true rfl) rfl (cr_mono (cr_up (by omega) (k_JB C s14 0 z21 hC hK14 hq14 (by omega) (by omega))) ?_)
                  rintro s24 out ⟨hK24, hY24, ⟨z24, hc24, rfl, hz24, hp24⟩ | ⟨rfl, hc24⟩⟩
                  · refine .inl ⟨_, rfl, ?_⟩
                    have hX24 : FX s0.1 s24.1 := FX_tr hX14 hY24
                    have hC24 : s24.2 = s0.2 := hc24.trans hC14
                    have hq24 : s24.1 131 1 = (C : Int) := (hY24 131 1 (by unfold fx; omega)).trans hq14
                    unfold i32 at hz24
                    clear hp24
                    show wr (d + 244) tb_M20 171 [(5, vi z21), (4, vi z14), (3, vi z9), (2, vi l2), (0, .ref 131), (1, .ref C)] [vi z24, vi z14, .ref 131] s24 _
                    refine wr_call1 (args := [vi z14, vi z24]) (rest := []) rfl rfl rfl rfl (Nat.le_of_ble_eq_true rfl) (cr_mono (k_routineFoot (d := d + 243) (C := C) hC (x := z14) (y := z24) s24 hK24 hq24 (by omega) (by omega)) ?_)
                    rintro s25 out ⟨hK25, hY25, hc25, rfl⟩
                    refine ⟨_, rfl, ?_⟩
                    have hX25 : FX s0.1 s25.1 := FX_tr hX24 hY25
                    have hC25 : s25.2 = s0.2 := hc25.trans hC24
                    have hq25 : s25.1 131 1 = (C : Int) := (hY25 131 1 (by unfold fx; omega)).trans hq24
                    show wr (d + 244) tb_M20 174 [(5, vi z21), (4, vi z14), (3, vi z9), (2, vi l2), (0, .ref 131), (1, .ref C)] [] s25 _
                    refine wr_n (pc2 := 182) (lv2 := [(5, vi z21), (4, vi z14), (3, vi z9), (2, vi l2), (0, .ref 131), (1, .ref C)]) (st2 := []) 1 (fun _ _ => rfl) ?_
                    refine wr_inc (a := l2) rfl rfl ?_
                    show wr (d + 244) tb_M20 185 [(2, vi (l2 + 1)), (5, vi z21), (4, vi z14), (3, vi z9), (0, .ref 131), (1, .ref C)] [] s25 _
                    refine wr_n (pc2 := 42) (lv2 := [(2, vi (l2 + 1)), (5, vi z21), (4, vi z14), (3, vi z9), (0, .ref 131), (1, .ref C)]) (st2 := []) 1 (fun _ _ => rfl) ?_
                    exact (ih _ (by omega)).1 (l2 + 1) z21 z14 z9 s25 rfl hK25 hq25 hX25 hC25 (by omega) (by omega) (by omega) (by omega)  
                  · refine .inr ⟨rfl, ?_⟩
                    exact ⟨hK24, (FX_tr hX14 hY24), .inr ⟨rfl, TH hC14 hc24⟩⟩
                · refine wr_if2f rfl rfl (by unfold i32; omega) (by unfold i32; omega) h23 ?_
                  refine wr_n (pc2 := 158) (lv2 := [(5, vi z21), (4, vi z14), (3, vi z9), (2, vi l2), (0, .ref 131), (1, .ref C)]) (st2 := [vi z21, .ref 131, vi z14, .ref 131]) 2 (fun _ _ => rfl) ?_
                  refine wr_call1T (args := [vi z21]) (rest := [vi z14, .ref 131]) rfl rfl rfl rfl (Nat.le_of_ble_eq_true rfl) rfl (cr_mono (k_funBody (d := d + 4) (C := C) hC (x := z21) s14 hK14 hq14 (by omega)) ?_)
                  rintro s26 out ⟨hK26, hY26, ⟨z26, hc26, rfl, hz26, hp26⟩ | ⟨rfl, hc26⟩⟩
                  · refine .inl ⟨_, rfl, ?_⟩
                    have hX26 : FX s0.1 s26.1 := FX_tr hX14 hY26
                    have hC26 : s26.2 = s0.2 := hc26.trans hC14
                    have hq26 : s26.1 131 1 = (C : Int) := (hY26 131 1 (by unfold fx; omega)).trans hq14
                    unfold i32 at hz26
                    clear hp26
                    show wr (d + 244) tb_M20 161 [(5, vi z21), (4, vi z14), (3, vi z9), (2, vi l2), (0, .ref 131), (1, .ref C)] [vi z26, vi z14, .ref 131] s26 _
                    refine wr_n (pc2 := 171) (lv2 := [(5, vi z21), (4, vi z14), (3, vi z9), (2, vi l2), (0, .ref 131), (1, .ref C)]) (st2 := [vi z26, vi z14, .ref 131]) 1 (fun _ _ => rfl) ?_
                    refine wr_call1 (args := [vi z14, vi z26]) (rest := []) rfl rfl rfl rfl (Nat.le_of_ble_eq_true rfl) (cr_mono (k_routineFoot (d := d + 243) (C := C) hC (x := z14) (y := z26) s26 hK26 hq26 (by omega) (by omega)) ?_)
                    rintro s27 out ⟨hK27, hY27, hc27, rfl⟩
                    refine ⟨_, rfl, ?_⟩
                    have hX27 : FX s0.1 s27.1 := FX_tr hX26 hY27
                    have hC27 : s27.2 = s0.2 := hc27.trans hC26
                    have hq27 : s27.1 131 1 = (C : Int) := (hY27 131 1 (by unfold fx; omega)).trans hq26
                    show wr (d + 244) tb_M20 174 [(5, vi z21), (4, vi z14), (3, vi z9), (2, vi l2), (0, .ref 131), (1, .ref C)] [] s27 _
                    refine wr_n (pc2 := 182) (lv2 := [(5, vi z21), (4, vi z14), (3, vi z9), (2, vi l2), (0, .ref 131), (1, .ref C)]) (st2 := []) 1 (fun _ _ => rfl) ?_
                    refine wr_inc (a := l2) rfl rfl ?_
                    show wr (d + 244) tb_M20 185 [(2, vi (l2 + 1)), (5, vi z21), (4, vi z14), (3, vi z9), (0, .ref 131), (1, .ref C)] [] s27 _
                    refine wr_n (pc2 := 42) (lv2 := [(2, vi (l2 + 1)), (5, vi z21), (4, vi z14), (3, vi z9), (0, .ref 131), (1, .ref C)]) (st2 := []) 1 (fun _ _ => rfl) ?_
                    exact (ih _ (by omega)).1 (l2 + 1) z21 z14 z9 s27 rfl hK27 hq27 hX27 hC27 (by omega) (by omega) (by omega) (by omega)  
                  · refine .inr ⟨rfl, ?_⟩
                    exact ⟨hK26, (FX_tr hX14 hY26), .inr ⟨rfl, TH hC14 hc26⟩⟩
              · refine .inr ⟨rfl, ?_⟩
                exact ⟨hK14, (FX_tr hX11 hY14), .inr ⟨rfl, TH hC11 hc14⟩⟩
            · refine wr_if2f rfl rfl (by unfold i32; omega) (by unfold i32; omega) h13 ?_
              refine wr_n (pc2 := 118) (lv2 := [(3, vi z9), (2, vi l2), (5, vi l5), (4, vi l4), (0, .ref 131), (1, .ref C)]) (st2 := [vi 6, .ref 131]) 2 (fun _ _ => rfl) ?_
              refine wr_call1T (args := [vi 6]) (rest := []) rfl rfl rfl rfl (Nat.le_of_ble_eq_true rfl) rfl (cr_mono (k_routineHead (d := d + 239) (C := C) hC (x := 6) s11 hK11 hq11 (by omega)) ?_)
              rintro s28 out ⟨hK28, hY28, ⟨z28, hc28, rfl, hz28, hp28⟩ | ⟨rfl, hc28⟩⟩
              · refine .inl ⟨_, rfl, ?_⟩
                have hX28 : FX s0.1 s28.1 := FX_tr hX11 hY28
                have hC28 : s28.2 = s0.2 := hc28.trans hC11
                have hq28 : s28.1 131 1 = (C : Int) := (hY28 131 1 (by unfold fx; omega)).trans hq11
                unfold i32 at hz28
                clear hp28
                show wr (d + 244) tb_M20 121 [(3, vi z9), (2, vi l2), (5, vi l5), (4, vi l4), (0, .ref 131), (1, .ref C)] [vi z28] s28 _
                refine wr_n (pc2 := 124) (lv2 := [(4, vi z28), (3, vi z9), (2, vi l2), (5, vi l5), (0, .ref 131), (1, .ref C)]) (st2 := [.ref 131]) 2 (fun _ _ => rfl) ?_
                refine wr_get (v := .ref C) rfl rfl rfl (by decide) (rv_ref (show (s28.1) 131 1 = ((C : Nat) : Int) from hq28)) fun h29 => ?_
                show wr (d + 244) tb_M20 127 [(4, vi z28), (3, vi z9), (2, vi l2), (5, vi l5), (0, .ref 131), (1, .ref C)] [.ref C] s28 _
                refine wr_get (v := .ref (C + 6)) rfl rfl (TK0 hC) (by decide) (rv_ref (hK28.1 C 5 (C + 6) (rcK hC (by omega)))) fun h30 => ?_
                show wr (d + 244) tb_M20 130 [(4, vi z28), (3, vi z9), (2, vi l2), (5, vi l5), (0, .ref 131), (1, .ref C)] [.ref (C + 6)] s28 _
                refine wr_get (v := vi (s28.1 (C + 6) 3)) rfl rfl (TK6 hC) (by decide) rfl fun h31 => ?_
                have h31 : -2147483648 ≤ s28.1 (C + 6) 3 ∧ s28.1 (C + 6) 3 ≤ 2147483647 := h31
                show wr (d + 244) tb_M20 133 [(4, vi z28), (3, vi z9), (2, vi l2), (5, vi l5), (0, .ref 131), (1, .ref C)] [vi (s28.1 (C + 6) 3)] s28 _
                have hb32 : 0 ≤ s28.1 (C + 6) 3 ∧ s28.1 (C + 6) 3 ≤ 58 := kb_to (kC6_3 hC) (hK28.2 (C + 6) 3)
                refine wr_n (pc2 := 134) (lv2 := [(4, vi z28), (3, vi z9), (2, vi l2), (5, vi l5), (0, .ref 131), (1, .ref C)]) (st2 := [.ref 131, vi (s28.1 (C + 6) 3)]) 1 (fun _ _ => rfl) ?_
                refine wr_get (v := .ref C) rfl rfl rfl (by decide) (rv_ref (show (s28.1) 131 1 = ((C : Nat) : Int) from hq28)) fun h33 => ?_
                show wr (d + 244) tb_M20 137 [(4, vi z28), (3, vi z9), (2, vi l2), (5, vi l5), (0, .ref 131), (1, .ref C)] [.ref C, vi (s28.1 (C + 6) 3)] s28 _
                refine wr_n (pc2 := 139) (lv2 := [(4, vi z28), (3, vi z9), (2, vi l2), (5, vi l5), (0, .ref 131), (1, .ref C)]) (st2 := [vi z28, .ref C, vi (s28.1 (C + 6) 3)]) 1 (fun _ _ => rfl) ?_
                refine wr_call1 (args := [vi z28]) (rest := [vi (s28.1 (C + 6) 3)]) rfl rfl rfl (TK0 hC) (Nat.le_of_ble_eq_true rfl) (cr_mono (k_par (d := d + 243) (C := C) hC (x := z28) s28 hK28 (by omega)) ?_)
                rintro s34 out ⟨z34, rfl, hz34, hp34, e34⟩
                refine ⟨_, rfl, ?_⟩
                rw [e34]
                unfold i32 at hz34
                clear hp34
                show wr (d + 244) tb_M20 142 [(4, vi z28), (3, vi z9), (2, vi l2), (5, vi l5), (0, .ref 131), (1, .ref C)] [vi z34, vi (s28.1 (C + 6) 3)] s28 _
                refine wr_any2 rfl rfl fun z35 h36 => ?_
                unfold i32 at h36
                show wr (d + 244) tb_M20 143 [(4, vi z28), (3, vi z9), (2, vi l2), (5, vi l5), (0, .ref 131), (1, .ref C)] [vi z35] s28 _
                refine wr_n (pc2 := 152) (lv2 := [(5, vi z35), (4, vi z28), (3, vi z9), (2, vi l2), (0, .ref 131), (1, .ref C)]) (st2 := [vi 307, vi z9, vi z28, .ref 131]) 5 (fun _ _ => rfl) ?_
                by_cases h37 : z9 ≠ 307
                · refine wr_if2t rfl rfl (by unfold i32; omega) (by unfold i32; omega) h37 ?_
                  refine wr_n (pc2 := 168) (lv2 := [(5, vi z35), (4, vi z28), (3, vi z9), (2, vi l2), (0, .ref 131), (1, .ref C)]) (st2 := [vi z35, vi 0, .ref 131, vi z28, .ref 131]) 3 (fun _ _ => rfl) ?_
                  refine wr_call1T (args := [vi 0, vi z35]) (rest := [vi z28, .ref 131]) rfl rfl rfl rfl (Nat.le_of_ble_eq_true rfl) rfl (cr_mono (cr_up (by omega) (k_JB C s28 0 z35 hC hK28 hq28 (by omega) (by omega))) ?_)
                  rintro s38 out ⟨hK38, hY38, ⟨z38, hc38, rfl, hz38, hp38⟩ | ⟨rfl, hc38⟩⟩
                  · refine .inl ⟨_, rfl, ?_⟩
                    have hX38 : FX s0.1 s38.1 := FX_tr hX28 hY38
                    have hC38 : s38.2 = s0.2 := hc38.trans hC28
                    have hq38 : s38.1 131 1 = (C : Int) := (hY38 131 1 (by unfold fx; omega)).trans hq28
                    unfold i32 at hz38
                    clear hp38
                    show wr (d + 244) tb_M20 171 [(5, vi z35), (4, vi z28), (3, vi z9), (2, vi l2), (0, .ref 131), (1, .ref C)] [vi z38, vi z28, .ref 131] s38 _
                    refine wr_call1 (args := [vi z28, vi z38]) (rest := []) rfl rfl rfl rfl (Nat.le_of_ble_eq_true rfl) (cr_mono (k_routineFoot (d := d + 243) (C := C) hC (x := z28) (y := z38) s38 hK38 hq38 (by omega) (by omega)) ?_)
                    rintro s39 out ⟨hK39, hY39, hc39, rfl⟩
                    refine ⟨_, rfl, ?_⟩
                    have hX39 : FX s0.1 s39.1 := FX_tr hX38 hY39
                    have hC39 : s39.2 = s0.2 := hc39.trans hC38
                    have hq39 : s39.1 131 1 = (C : Int) := (hY39 131 1 (by unfold fx; omega)).trans hq38
                    show wr (d + 244) tb_M20 174 [(5, vi z35), (4, vi z28), (3, vi z9), (2, vi l2), (0, .ref 131), (1, .ref C)] [] s39 _
                    refine wr_n (pc2 := 182) (lv2 := [(5, vi z35), (4, vi z28), (3, vi z9), (2, vi l2), (0, .ref 131), (1, .ref C)]) (st2 := []) 1 (fun _ _ => rfl) ?_
                    refine wr_inc (a := l2) rfl rfl ?_
                    show wr (d + 244) tb_M20 185 [(2, vi (l2 + 1)), (5, vi z35), (4, vi z28), (3, vi z9), (0, .ref 131), (1, .ref C)] [] s39 _
                    refine wr_n (pc2 := 42) (lv2 := [(2, vi (l2 + 1)), (5, vi z35), (4, vi z28), (3, vi z9), (0, .ref 131), (1, .ref C)]) (st2 := []) 1 (fun _ _ => rfl) ?_
                    exact (ih _ (by omega)).1 (l2 + 1) z35 z28 z9 s39 rfl hK39 hq39 hX39 hC39 (by omega) (by omega) (by omega) (by omega)  
                  · refine .inr ⟨rfl, ?_⟩
                    exact ⟨hK38, (FX_tr hX28 hY38), .inr ⟨rfl, TH hC28 hc38⟩⟩
                · refine wr_if2f rfl rfl (by unfold i32; omega) (by unfold i32; omega) h37 ?_
                  refine wr_n (pc2 := 158) (lv2 := [(5, vi z35), (4, vi z28), (3, vi z9), (2, vi l2), (0, .ref 131), (1, .ref C)]) (st2 := [vi z35, .ref 131, vi z28, .ref 131]) 2 (fun _ _ => rfl) ?_
                  refine wr_call1T (args := [vi z35]) (rest := [vi z28, .ref 131]) rfl rfl rfl rfl (Nat.le_of_ble_eq_true rfl) rfl (cr_mono (k_funBody (d := d + 4) (C := C) hC (x := z35) s28 hK28 hq28 (by omega)) ?_)
                  rintro s40 out ⟨hK40, hY40, ⟨z40, hc40, rfl, hz40, hp40⟩ | ⟨rfl, hc40⟩⟩
                  · refine .inl ⟨_, rfl, ?_⟩
                    have hX40 : FX s0.1 s40.1 := FX_tr hX28 hY40
                    have hC40 : s40.2 = s0.2 := hc40.trans hC28
                    have hq40 : s40.1 131 1 = (C : Int) := (hY40 131 1 (by unfold fx; omega)).trans hq28
                    unfold i32 at hz40
                    clear hp40
                    show wr (d + 244) tb_M20 161 [(5, vi z35), (4, vi z28), (3, vi z9), (2, vi l2), (0, .ref 131), (1, .ref C)] [vi z40, vi z28, .ref 131] s40 _
                    refine wr_n (pc2 := 171) (lv2 := [(5, vi z35), (4, vi z28), (3, vi z9), (2, vi l2), (0, .ref 131), (1, .ref C)]) (st2 := [vi z40, vi z28, .ref 131]) 1 (fun _ _ => rfl) ?_
                    refine wr_call1 (args := [vi z28, vi z40]) (rest := []) rfl rfl rfl rfl (Nat.le_of_ble_eq_true rfl) (cr_mono (k_routineFoot (d := d + 243) (C := C) hC (x := z28) (y := z40) s40 hK40 hq40 (by omega) (by omega)) ?_)
                    rintro s41 out ⟨hK41, hY41, hc41, rfl⟩
                    refine ⟨_, rfl, ?_⟩
                    have hX41 : FX s0.1 s41.1 := FX_tr hX40 hY41
                    have hC41 : s41.2 = s0.2 := hc41.trans hC40
                    have hq41 : s41.1 131 1 = (C : Int) := (hY41 131 1 (by unfold fx; omega)).trans hq40
                    show wr (d + 244) tb_M20 174 [(5, vi z35), (4, vi z28), (3, vi z9), (2, vi l2), (0, .ref 131), (1, .ref C)] [] s41 _
                    refine wr_n (pc2 := 182) (lv2 := [(5, vi z35), (4, vi z28), (3, vi z9), (2, vi l2), (0, .ref 131), (1, .ref C)]) (st2 := []) 1 (fun _ _ => rfl) ?_
                    refine wr_inc (a := l2) rfl rfl ?_
                    show wr (d + 244) tb_M20 185 [(2, vi (l2 + 1)), (5, vi z35), (4, vi z28), (3, vi z9), (0, .ref 131), (1, .ref C)] [] s41 _
                    refine wr_n (pc2 := 42) (lv2 := [(2, vi (l2 + 1)), (5, vi z35), (4, vi z28), (3, vi z9), (0, .ref 131), (1, .ref C)]) (st2 := []) 1 (fun _ _ => rfl) ?_
                    exact (ih _ (by omega)).1 (l2 + 1) z35 z28 z9 s41 rfl hK41 hq41 hX41 hC41 (by omega) (by omega) (by omega) (by omega)  
                  · refine .inr ⟨rfl, ?_⟩
                    exact ⟨hK40, (FX_tr hX28 hY40), .inr ⟨rfl, TH hC28 hc40⟩⟩
              · refine .inr ⟨rfl, ?_⟩
                exact ⟨hK28, (FX_tr hX11 hY28), .inr ⟨rfl, TH hC11 hc28⟩⟩
          · refine wr_if2f rfl rfl (by unfold i32; omega) (by unfold i32; omega) h12 ?_
            refine wr_n (pc2 := 101) (lv2 := [(3, vi z9), (2, vi l2), (5, vi l5), (4, vi l4), (0, .ref 131), (1, .ref C)]) (st2 := [vi 307, vi z9]) 2 (fun _ _ => rfl) ?_
            by_cases h42 : z9 ≠ 307
            · refine wr_if2t rfl rfl (by unfold i32; omega) (by unfold i32; omega) h42 ?_
              refine wr_n (pc2 := 179) (lv2 := [(3, vi z9), (2, vi l2), (5, vi l5), (4, vi l4), (0, .ref 131), (1, .ref C)]) (st2 := [vi z9, .ref 131]) 2 (fun _ _ => rfl) ?_
              refine wr_call1T (args := [vi z9]) (rest := []) rfl rfl rfl rfl (Nat.le_of_ble_eq_true rfl) rfl (cr_mono (k_shortDecl (d := d + 241) (C := C) hC (x := z9) s11 hK11 hq11 (by omega)) ?_)
              rintro s43 out ⟨hK43, hY43, ⟨hc43, rfl⟩ | ⟨rfl, hc43⟩⟩
              · refine .inl ⟨_, rfl, ?_⟩
                have hX43 : FX s0.1 s43.1 := FX_tr hX11 hY43
                have hC43 : s43.2 = s0.2 := hc43.trans hC11
                have hq43 : s43.1 131 1 = (C : Int) := (hY43 131 1 (by unfold fx; omega)).trans hq11
                show wr (d + 244) tb_M20 182 [(3, vi z9), (2, vi l2), (5, vi l5), (4, vi l4), (0, .ref 131), (1, .ref C)] [] s43 _
                refine wr_inc (a := l2) rfl rfl ?_
                show wr (d + 244) tb_M20 185 [(2, vi (l2 + 1)), (3, vi z9), (5, vi l5), (4, vi l4), (0, .ref 131), (1, .ref C)] [] s43 _
                refine wr_n (pc2 := 42) (lv2 := [(2, vi (l2 + 1)), (3, vi z9), (5, vi l5), (4, vi l4), (0, .ref 131), (1, .ref C)]) (st2 := []) 1 (fun _ _ => rfl) ?_
                exact (ih _ (by omega)).2 (l2 + 1) z9 l5 l4 s43 rfl hK43 hq43 hX43 hC43 (by omega) (by omega) (by omega) (by omega)  
              · refine .inr ⟨rfl, ?_⟩
                exact ⟨hK43, (FX_tr hX11 hY43), .inr ⟨rfl, TH hC11 hc43⟩⟩
            · refine wr_if2f rfl rfl (by unfold i32; omega) (by unfold i32; omega) h42 ?_
              refine wr_n (pc2 := 109) (lv2 := [(3, vi z9), (2, vi l2), (5, vi l5), (4, vi l4), (0, .ref 131), (1, .ref C)]) (st2 := [vi 307, vi z9, .ref 131]) 3 (fun _ _ => rfl) ?_
              by_cases h44 : z9 ≠ 307
              · refine wr_if2t rfl rfl (by unfold i32; omega) (by unfold i32; omega) h44 ?_
                refine wr_n (pc2 := 118) (lv2 := [(3, vi z9), (2, vi l2), (5, vi l5), (4, vi l4), (0, .ref 131), (1, .ref C)]) (st2 := [vi 5, .ref 131]) 1 (fun _ _ => rfl) ?_
                refine wr_call1T (args := [vi 5]) (rest := []) rfl rfl rfl rfl (Nat.le_of_ble_eq_true rfl) rfl (cr_mono (k_routineHead (d := d + 239) (C := C) hC (x := 5) s11 hK11 hq11 (by omega)) ?_)
                rintro s45 out ⟨hK45, hY45, ⟨z45, hc45, rfl, hz45, hp45⟩ | ⟨rfl, hc45⟩⟩
                · refine .inl ⟨_, rfl, ?_⟩
                  have hX45 : FX s0.1 s45.1 := FX_tr hX11 hY45
                  have hC45 : s45.2 = s0.2 := hc45.trans hC11
                  have hq45 : s45.1 131 1 = (C : Int) := (hY45 131 1 (by unfold fx; omega)).trans hq11
                  unfold i32 at hz45
                  clear hp45
                  show wr (d + 244) tb_M20 121 [(3, vi z9), (2, vi l2), (5, vi l5), (4, vi l4), (0, .ref 131), (1, .ref C)] [vi z45] s45 _
                  refine wr_n (pc2 := 124) (lv2 := [(4, vi z45), (3, vi z9), (2, vi l2), (5, vi l5), (0, .ref 131), (1, .ref C)]) (st2 := [.ref 131]) 2 (fun _ _ => rfl) ?_
                  refine wr_get (v := .ref C) rfl rfl rfl (by decide) (rv_ref (show (s45.1) 131 1 = ((C : Nat) : Int) from hq45)) fun h46 => ?_
                  show wr (d + 244) tb_M20 127 [(4, vi z45), (3, vi z9), (2, vi l2), (5, vi l5), (0, .ref 131), (1, .ref C)] [.ref C] s45 _
                  refine wr_get (v := .ref (C + 6)) rfl rfl (TK0 hC) (by decide) (rv_ref (hK45.1 C 5 (C + 6) (rcK hC (by omega)))) fun h47 => ?_
                  show wr (d + 244) tb_M20 130 [(4, vi z45), (3, vi z9), (2, vi l2), (5, vi l5), (0, .ref 131), (1, .ref C)] [.ref (C + 6)] s45 _
                  refine wr_get (v := vi (s45.1 (C + 6) 3)) rfl rfl (TK6 hC) (by decide) rfl fun h48 => ?_
                  have h48 : -2147483648 ≤ s45.1 (C + 6) 3 ∧ s45.1 (C + 6) 3 ≤ 2147483647 := h48
                  show wr (d + 244) tb_M20 133 [(4, vi z45), (3, vi z9), (2, vi l2), (5, vi l5), (0, .ref 131), (1, .ref C)] [vi (s45.1 (C + 6) 3)] s45 _
                  have hb49 : 0 ≤ s45.1 (C + 6) 3 ∧ s45.1 (C + 6) 3 ≤ 58 := kb_to (kC6_3 hC) (hK45.2 (C + 6) 3)
                  refine wr_n (pc2 := 134) (lv2 := [(4, vi z45), (3, vi z9), (2, vi l2), (5, vi l5), (0, .ref 131), (1, .ref C)]) (st2 := [.ref 131, vi (s45.1 (C + 6) 3)]) 1 (fun _ _ => rfl) ?_
                  refine wr_get (v := .ref C) rfl rfl rfl (by decide) (rv_ref (show (s45.1) 131 1 = ((C : Nat) : Int) from hq45)) fun h50 => ?_
                  show wr (d + 244) tb_M20 137 [(4, vi z45), (3, vi z9), (2, vi l2), (5, vi l5), (0, .ref 131), (1, .ref C)] [.ref C, vi (s45.1 (C + 6) 3)] s45 _
                  refine wr_n (pc2 := 139) (lv2 := [(4, vi z45), (3, vi z9), (2, vi l2), (5, vi l5), (0, .ref 131), (1, .ref C)]) (st2 := [vi z45, .ref C, vi (s45.1 (C + 6) 3)]) 1 (fun _ _ => rfl) ?_
                  refine wr_call1 (args := [vi z45]) (rest := [vi (s45.1 (C + 6) 3)]) rfl rfl rfl (TK0 hC) (Nat.le_of_ble_eq_true rfl) (cr_mono (k_par (d := d + 243) (C := C) hC (x := z45) s45 hK45 (by omega)) ?_)
                  rintro s51 out ⟨z51, rfl, hz51, hp51, e51⟩
                  refine ⟨_, rfl, ?_⟩
                  rw [e51]
                  unfold i32 at hz51
                  clear hp51
                  show wr (d + 244) tb_M20 142 [(4, vi z45), (3, vi z9), (2, vi l2), (5, vi l5), (0, .ref 131), (1, .ref C)] [vi z51, vi (s45.1 (C + 6) 3)] s45 _
                  refine wr_any2 rfl rfl fun z52 h53 => ?_
                  unfold i32 at h53
                  show wr (d + 244) tb_M20 143 [(4, vi z45), (3, vi z9), (2, vi l2), (5, vi l5), (0, .ref 131), (1, .ref C)] [vi z52] s45 _
                  refine wr_n (pc2 := 152) (lv2 := [(5, vi z52), (4, vi z45), (3, vi z9), (2, vi l2), (0, .ref 131), (1, .ref C)]) (st2 := [vi 307, vi z9, vi z45, .ref 131]) 5 (fun _ _ => rfl) ?_
                  by_cases h54 : z9 ≠ 307
                  · refine wr_if2t rfl rfl (by unfold i32; omega) (by unfold i32; omega) h54 ?_
                    refine wr_n (pc2 := 168) (lv2 := [(5, vi z52), (4, vi z45), (3, vi z9), (2, vi l2), (0, .ref 131), (1, .ref C)]) (st2 := [vi z52, vi 0, .ref 131, vi z45, .ref 131]) 3 (fun _ _ => rfl) ?_
                    refine wr_call1T (args := [vi 0, vi z52]) (rest := [vi z45, .ref 131]) rfl rfl rfl rfl (Nat.le_of_ble_eq_true rfl) rfl (cr_mono (cr_up (by omega) (k_JB C s45 0 z52 hC hK45 hq45 (by omega) (by omega))) ?_)
                    rintro s55 out ⟨hK55, hY55, ⟨z55, hc55, rfl, hz55, hp55⟩ | ⟨rfl, hc55⟩⟩
                    · refine .inl ⟨_, rfl, ?_⟩
                      have hX55 : FX s0.1 s55.1 := FX_tr hX45 hY55
                      have hC55 : s55.2 = s0.2 := hc55.trans hC45
                      have hq55 : s55.1 131 1 = (C : Int) := (hY55 131 1 (by unfold fx; omega)).trans hq45
                      unfold i32 at hz55
                      clear hp55
                      show wr (d + 244) tb_M20 171 [(5, vi z52), (4, vi z45), (3, vi z9), (2, vi l2), (0, .ref 131), (1, .ref C)] [vi z55, vi z45, .ref 131] s55 _
                      refine wr_call1 (args := [vi z45, vi z55]) (rest := []) rfl rfl rfl rfl (Nat.le_of_ble_eq_true rfl) (cr_mono (k_routineFoot (d := d + 243) (C := C) hC (x := z45) (y := z55) s55 hK55 hq55 (by omega) (by omega)) ?_)
                      rintro s56 out ⟨hK56, hY56, hc56, rfl⟩
                      refine ⟨_, rfl, ?_⟩
                      have hX56 : FX s0.1 s56.1 := FX_tr hX55 hY56
                      have hC56 : s56.2 = s0.2 := hc56.trans hC55
                      have hq56 : s56.1 131 1 = (C : Int) := (hY56 131 1 (by unfold fx; omega)).trans hq55
                      show wr (d + 244) tb_M20 174 [(5, vi z52), (4, vi z45), (3, vi z9), (2, vi l2), (0, .ref 131), (1, .ref C)] [] s56 _
                      refine wr_n (pc2 := 182) (lv2 := [(5, vi z52), (4, vi z45), (3, vi z9), (2, vi l2), (0, .ref 131), (1, .ref C)]) (st2 := []) 1 (fun _ _ => rfl) ?_
                      refine wr_inc (a := l2) rfl rfl ?_
                      show wr (d + 244) tb_M20 185 [(2, vi (l2 + 1)), (5, vi z52), (4, vi z45), (3, vi z9), (0, .ref 131), (1, .ref C)] [] s56 _
                      refine wr_n (pc2 := 42) (lv2 := [(2, vi (l2 + 1)), (5, vi z52), (4, vi z45), (3, vi z9), (0, .ref 131), (1, .ref C)]) (st2 := []) 1 (fun _ _ => rfl) ?_
                      exact (ih _ (by omega)).1 (l2 + 1) z52 z45 z9 s56 rfl hK56 hq56 hX56 hC56 (by omega) (by omega) (by omega) (by omega)  
                    · refine .inr ⟨rfl, ?_⟩
                      exact ⟨hK55, (FX_tr hX45 hY55), .inr ⟨rfl, TH hC45 hc55⟩⟩
                  · refine wr_if2f rfl rfl (by unfold i32; omega) (by unfold i32; omega) h54 ?_
                    refine wr_n (pc2 := 158) (lv2 := [(5, vi z52), (4, vi z45), (3, vi z9), (2, vi l2), (0, .ref 131), (1, .ref C)]) (st2 := [vi z52, .ref 131, vi z45, .ref 131]) 2 (fun _ _ => rfl) ?_
                    refine wr_call1T (args := [vi z52]) (rest := [vi z45, .ref 131]) rfl rfl rfl rfl (Nat.le_of_ble_eq_true rfl) rfl (cr_mono (k_funBody (d := d + 4) (C := C) hC (x := z52) s45 hK45 hq45 (by omega)) ?_)
                    rintro s57 out ⟨hK57, hY57, ⟨z57, hc57, rfl, hz57, hp57⟩ | ⟨rfl, hc57⟩⟩
                    · refine .inl ⟨_, rfl, ?_⟩
                      have hX57 : FX s0.1 s57.1 := FX_tr hX45 hY57
                      have hC57 : s57.2 = s0.2 := hc57.trans hC45
                      have hq57 : s57.1 131 1 = (C : Int) := (hY57 131 1 (by unfold fx; omega)).trans hq45
                      unfold i32 at hz57
                      clear hp57
                      show wr (d + 244) tb_M20 161 [(5, vi z52), (4, vi z45), (3, vi z9), (2, vi l2), (0, .ref 131), (1, .ref C)] [vi z57, vi z45, .ref 131] s57 _
                      refine wr_n (pc2 := 171) (lv2 := [(5, vi z52), (4, vi z45), (3, vi z9), (2, vi l2), (0, .ref 131), (1, .ref C)]) (st2 := [vi z57, vi z45, .ref 131]) 1 (fun _ _ => rfl) ?_
                      refine wr_call1 (args := [vi z45, vi z57]) (rest := []) rfl rfl rfl rfl (Nat.le_of_ble_eq_true rfl) (cr_mono (k_routineFoot (d := d + 243) (C := C) hC (x := z45) (y := z57) s57 hK57 hq57 (by omega) (by omega)) ?_)
                      rintro s58 out ⟨hK58, hY58, hc58, rfl⟩
                      refine ⟨_, rfl, ?_⟩
                      have hX58 : FX s0.1 s58.1 := FX_tr hX57 hY58
                      have hC58 : s58.2 = s0.2 := hc58.trans hC57
                      have hq58 : s58.1 131 1 = (C : Int) := (hY58 131 1 (by unfold fx; omega)).trans hq57
                      show wr (d + 244) tb_M20 174 [(5, vi z52), (4, vi z45), (3, vi z9), (2, vi l2), (0, .ref 131), (1, .ref C)] [] s58 _
                      refine wr_n (pc2 := 182) (lv2 := [(5, vi z52), (4, vi z45), (3, vi z9), (2, vi l2), (0, .ref 131), (1, .ref C)]) (st2 := []) 1 (fun _ _ => rfl) ?_
                      refine wr_inc (a := l2) rfl rfl ?_
                      show wr (d + 244) tb_M20 185 [(2, vi (l2 + 1)), (5, vi z52), (4, vi z45), (3, vi z9), (0, .ref 131), (1, .ref C)] [] s58 _
                      refine wr_n (pc2 := 42) (lv2 := [(2, vi (l2 + 1)), (5, vi z52), (4, vi z45), (3, vi z9), (0, .ref 131), (1, .ref C)]) (st2 := []) 1 (fun _ _ => rfl) ?_
                      exact (ih _ (by omega)).1 (l2 + 1) z52 z45 z9 s58 rfl hK58 hq58 hX58 hC58 (by omega) (by omega) (by omega) (by omega)  
                    · refine .inr ⟨rfl, ?_⟩
                      exact ⟨hK57, (FX_tr hX45 hY57), .inr ⟨rfl, TH hC45 hc57⟩⟩
                · refine .inr ⟨rfl, ?_⟩
                  exact ⟨hK45, (FX_tr hX11 hY45), .inr ⟨rfl, TH hC11 hc45⟩⟩
              · refine wr_if2f rfl rfl (by unfold i32; omega) (by unfold i32; omega) h44 ?_
                refine wr_n (pc2 := 118) (lv2 := [(3, vi z9), (2, vi l2), (5, vi l5), (4, vi l4), (0, .ref 131), (1, .ref C)]) (st2 := [vi 6, .ref 131]) 2 (fun _ _ => rfl) ?_
                refine wr_call1T (args := [vi 6]) (rest := []) rfl rfl rfl rfl (Nat.le_of_ble_eq_true rfl) rfl (cr_mono (k_routineHead (d := d + 239) (C := C) hC (x := 6) s11 hK11 hq11 (by omega)) ?_)
                rintro s59 out ⟨hK59, hY59, ⟨z59, hc59, rfl, hz59, hp59⟩ | ⟨rfl, hc59⟩⟩
                · refine .inl ⟨_, rfl, ?_⟩
                  have hX59 : FX s0.1 s59.1 := FX_tr hX11 hY59
                  have hC59 : s59.2 = s0.2 := hc59.trans hC11
                  have hq59 : s59.1 131 1 = (C : Int) := (hY59 131 1 (by unfold fx; omega)).trans hq11
                  unfold i32 at hz59
                  clear hp59
                  show wr (d + 244) tb_M20 121 [(3, vi z9), (2, vi l2), (5, vi l5), (4, vi l4), (0, .ref 131), (1, .ref C)] [vi z59] s59 _
                  refine wr_n (pc2 := 124) (lv2 := [(4, vi z59), (3, vi z9), (2, vi l2), (5, vi l5), (0, .ref 131), (1, .ref C)]) (st2 := [.ref 131]) 2 (fun _ _ => rfl) ?_
                  refine wr_get (v := .ref C) rfl rfl rfl (by decide) (rv_ref (show (s59.1) 131 1 = ((C : Nat) : Int) from hq59)) fun h60 => ?_
                  show wr (d + 244) tb_M20 127 [(4, vi z59), (3, vi z9), (2, vi l2), (5, vi l5), (0, .ref 131), (1, .ref C)] [.ref C] s59 _
                  refine wr_get (v := .ref (C + 6)) rfl rfl (TK0 hC) (by decide) (rv_ref (hK59.1 C 5 (C + 6) (rcK hC (by omega)))) fun h61 => ?_
                  show wr (d + 244) tb_M20 130 [(4, vi z59), (3, vi z9), (2, vi l2), (5, vi l5), (0, .ref 131), (1, .ref C)] [.ref (C + 6)] s59 _
                  refine wr_get (v := vi (s59.1 (C + 6) 3)) rfl rfl (TK6 hC) (by decide) rfl fun h62 => ?_
                  have h62 : -2147483648 ≤ s59.1 (C + 6) 3 ∧ s59.1 (C + 6) 3 ≤ 2147483647 := h62
                  show wr (d + 244) tb_M20 133 [(4, vi z59), (3, vi z9), (2, vi l2), (5, vi l5), (0, .ref 131), (1, .ref C)] [vi (s59.1 (C + 6) 3)] s59 _
                  have hb63 : 0 ≤ s59.1 (C + 6) 3 ∧ s59.1 (C + 6) 3 ≤ 58 := kb_to (kC6_3 hC) (hK59.2 (C + 6) 3)
                  refine wr_n (pc2 := 134) (lv2 := [(4, vi z59), (3, vi z9), (2, vi l2), (5, vi l5), (0, .ref 131), (1, .ref C)]) (st2 := [.ref 131, vi (s59.1 (C + 6) 3)]) 1 (fun _ _ => rfl) ?_
                  refine wr_get (v := .ref C) rfl rfl rfl (by decide) (rv_ref (show (s59.1) 131 1 = ((C : Nat) : Int) from hq59)) fun h64 => ?_
                  show wr (d + 244) tb_M20 137 [(4, vi z59), (3, vi z9), (2, vi l2), (5, vi l5), (0, .ref 131), (1, .ref C)] [.ref C, vi (s59.1 (C + 6) 3)] s59 _
                  refine wr_n (pc2 := 139) (lv2 := [(4, vi z59), (3, vi z9), (2, vi l2), (5, vi l5), (0, .ref 131), (1, .ref C)]) (st2 := [vi z59, .ref C, vi (s59.1 (C + 6) 3)]) 1 (fun _ _ => rfl) ?_
                  refine wr_call1 (args := [vi z59]) (rest := [vi (s59.1 (C + 6) 3)]) rfl rfl rfl (TK0 hC) (Nat.le_of_ble_eq_true rfl) (cr_mono (k_par (d := d + 243) (C := C) hC (x := z59) s59 hK59 (by omega)) ?_)
                  rintro s65 out ⟨z65, rfl, hz65, hp65, e65⟩
                  refine ⟨_, rfl, ?_⟩
                  rw [e65]
                  unfold i32 at hz65
                  clear hp65
                  show wr (d + 244) tb_M20 142 [(4, vi z59), (3, vi z9), (2, vi l2), (5, vi l5), (0, .ref 131), (1, .ref C)] [vi z65, vi (s59.1 (C + 6) 3)] s59 _
                  refine wr_any2 rfl rfl fun z66 h67 => ?_
                  unfold i32 at h67
                  show wr (d + 244) tb_M20 143 [(4, vi z59), (3, vi z9), (2, vi l2), (5, vi l5), (0, .ref 131), (1, .ref C)] [vi z66] s59 _
                  refine wr_n (pc2 := 152) (lv2 := [(5, vi z66), (4, vi z59), (3, vi z9), (2, vi l2), (0, .ref 131), (1, .ref C)]) (st2 := [vi 307, vi z9, vi z59, .ref 131]) 5 (fun _ _ => rfl) ?_
                  by_cases h68 : z9 ≠ 307
                  · refine wr_if2t rfl rfl (by unfold i32; omega) (by unfold i32; omega) h68 ?_
                    refine wr_n (pc2 := 168) (lv2 := [(5, vi z66), (4, vi z59), (3, vi z9), (2, vi l2), (0, .ref 131), (1, .ref C)]) (st2 := [vi z66, vi 0, .ref 131, vi z59, .ref 131]) 3 (fun _ _ => rfl) ?_
                    refine wr_call1T (args := [vi 0, vi z66]) (rest := [vi z59, .ref 131]) rfl rfl rfl rfl (Nat.le_of_ble_eq_true rfl) rfl (cr_mono (cr_up (by omega) (k_JB C s59 0 z66 hC hK59 hq59 (by omega) (by omega))) ?_)
                    rintro s69 out ⟨hK69, hY69, ⟨z69, hc69, rfl, hz69, hp69⟩ | ⟨rfl, hc69⟩⟩
                    · refine .inl ⟨_, rfl, ?_⟩
                      have hX69 : FX s0.1 s69.1 := FX_tr hX59 hY69
                      have hC69 : s69.2 = s0.2 := hc69.trans hC59
                      have hq69 : s69.1 131 1 = (C : Int) := (hY69 131 1 (by unfold fx; omega)).trans hq59
                      unfold i32 at hz69
                      clear hp69
                      show wr (d + 244) tb_M20 171 [(5, vi z66), (4, vi z59), (3, vi z9), (2, vi l2), (0, .ref 131), (1, .ref C)] [vi z69, vi z59, .ref 131] s69 _
                      refine wr_call1 (args := [vi z59, vi z69]) (rest := []) rfl rfl rfl rfl (Nat.le_of_ble_eq_true rfl) (cr_mono (k_routineFoot (d := d + 243) (C := C) hC (x := z59) (y := z69) s69 hK69 hq69 (by omega) (by omega)) ?_)
                      rintro s70 out ⟨hK70, hY70, hc70, rfl⟩
                      refine ⟨_, rfl, ?_⟩
                      have hX70 : FX s0.1 s70.1 := FX_tr hX69 hY70
                      have hC70 : s70.2 = s0.2 := hc70.trans hC69
                      have hq70 : s70.1 131 1 = (C : Int) := (hY70 131 1 (by unfold fx; omega)).trans hq69
                      show wr (d + 244) tb_M20 174 [(5, vi z66), (4, vi z59), (3, vi z9), (2, vi l2), (0, .ref 131), (1, .ref C)] [] s70 _
                      refine wr_n (pc2 := 182) (lv2 := [(5, vi z66), (4, vi z59), (3, vi z9), (2, vi l2), (0, .ref 131), (1, .ref C)]) (st2 := []) 1 (fun _ _ => rfl) ?_
                      refine wr_inc (a := l2) rfl rfl ?_
                      show wr (d + 244) tb_M20 185 [(2, vi (l2 + 1)), (5, vi z66), (4, vi z59), (3, vi z9), (0, .ref 131), (1, .ref C)] [] s70 _
                      refine wr_n (pc2 := 42) (lv2 := [(2, vi (l2 + 1)), (5, vi z66), (4, vi z59), (3, vi z9), (0, .ref 131), (1, .ref C)]) (st2 := []) 1 (fun _ _ => rfl) ?_
                      exact (ih _ (by omega)).1 (l2 + 1) z66 z59 z9 s70 rfl hK70 hq70 hX70 hC70 (by omega) (by omega) (by omega) (by omega)  
                    · refine .inr ⟨rfl, ?_⟩
                      exact ⟨hK69, (FX_tr hX59 hY69), .inr ⟨rfl, TH hC59 hc69⟩⟩
                  · refine wr_if2f rfl rfl (by unfold i32; omega) (by unfold i32; omega) h68 ?_
                    refine wr_n (pc2 := 158) (lv2 := [(5, vi z66), (4, vi z59), (3, vi z9), (2, vi l2), (0, .ref 131), (1, .ref C)]) (st2 := [vi z66, .ref 131, vi z59, .ref 131]) 2 (fun _ _ => rfl) ?_
                    refine wr_call1T (args := [vi z66]) (rest := [vi z59, .ref 131]) rfl rfl rfl rfl (Nat.le_of_ble_eq_true rfl) rfl (cr_mono (k_funBody (d := d + 4) (C := C) hC (x := z66) s59 hK59 hq59 (by omega)) ?_)
                    rintro s71 out ⟨hK71, hY71, ⟨z71, hc71, rfl, hz71, hp71⟩ | ⟨rfl, hc71⟩⟩
                    · refine .inl ⟨_, rfl, ?_⟩
                      have hX71 : FX s0.1 s71.1 := FX_tr hX59 hY71
                      have hC71 : s71.2 = s0.2 := hc71.trans hC59
                      have hq71 : s71.1 131 1 = (C : Int) := (hY71 131 1 (by unfold fx; omega)).trans hq59
                      unfold i32 at hz71
                      clear hp71
                      show wr (d + 244) tb_M20 161 [(5, vi z66), (4, vi z59), (3, vi z9), (2, vi l2), (0, .ref 131), (1, .ref C)] [vi z71, vi z59, .ref 131] s71 _
                      refine wr_n (pc2 := 171) (lv2 := [(5, vi z66), (4, vi z59), (3, vi z9), (2, vi l2), (0, .ref 131), (1, .ref C)]) (st2 := [vi z71, vi z59, .ref 131]) 1 (fun _ _ => rfl) ?_
                      refine wr_call1 (args := [vi z59, vi z71]) (rest := []) rfl rfl rfl rfl (Nat.le_of_ble_eq_true rfl) (cr_mono (k_routineFoot (d := d + 243) (C := C) hC (x := z59) (y := z71) s71 hK71 hq71 (by omega) (by omega)) ?_)
                      rintro s72 out ⟨hK72, hY72, hc72, rfl⟩
                      refine ⟨_, rfl, ?_⟩
                      have hX72 : FX s0.1 s72.1 := FX_tr hX71 hY72
                      have hC72 : s72.2 = s0.2 := hc72.trans hC71
                      have hq72 : s72.1 131 1 = (C : Int) := (hY72 131 1 (by unfold fx; omega)).trans hq71
                      show wr (d + 244) tb_M20 174 [(5, vi z66), (4, vi z59), (3, vi z9), (2, vi l2), (0, .ref 131), (1, .ref C)] [] s72 _
                      refine wr_n (pc2 := 182) (lv2 := [(5, vi z66), (4, vi z59), (3, vi z9), (2, vi l2), (0, .ref 131), (1, .ref C)]) (st2 := []) 1 (fun _ _ => rfl) ?_
                      refine wr_inc (a := l2) rfl rfl ?_
                      show wr (d + 244) tb_M20 185 [(2, vi (l2 + 1)), (5, vi z66), (4, vi z59), (3, vi z9), (0, .ref 131), (1, .ref C)] [] s72 _
                      refine wr_n (pc2 := 42) (lv2 := [(2, vi (l2 + 1)), (5, vi z66), (4, vi z59), (3, vi z9), (0, .ref 131), (1, .ref C)]) (st2 := []) 1 (fun _ _ => rfl) ?_
                      exact (ih _ (by omega)).1 (l2 + 1) z66 z59 z9 s72 rfl hK72 hq72 hX72 hC72 (by omega) (by omega) (by omega) (by omega)  
                    · refine .inr ⟨rfl, ?_⟩
                      exact ⟨hK71, (FX_tr hX59 hY71), .inr ⟨rfl, TH hC59 hc71⟩⟩
                · refine .inr ⟨rfl, ?_⟩
                  exact ⟨hK59, (FX_tr hX11 hY59), .inr ⟨rfl, TH hC11 hc59⟩⟩
set_option maxHeartbeats 20000000 in
set_option maxRecDepth 100000 in
theorem k_program5_188v4 {d : Nat} {s0 : rS} {C : Nat} (hC : C = 99 ∨ C = 115)  (l2 : Int) (l3 : Int) (s : rS) (hK : KI s.1) (hq : s.1 131 1 = (C : Int)) (hX : FX s0.1 s.1) (hc : s.2 = s0.2) (hl2 : (-2147483648) ≤ l2 ∧ l2 ≤ 2147483647) (hl3 : (-2147483648) ≤ l3 ∧ l3 ≤ 2147483647)   : wr (d + 244) tb_M20 188 [(2, vi l2), (3, vi l3), (0, .ref 131), (1, .ref C)] [] s (TV s0) := by
  refine wr_n (pc2 := 189) (lv2 := [(2, vi l2), (3, vi l3), (0, .ref 131), (1, .ref C)]) (st2 := [.ref 131]) 1 (fun _ _ => rfl) ?_
  refine wr_get (v := .ref C) rfl rfl rfl (by decide) (rv_ref (show (s.1) 131 1 = ((C : Nat) : Int) from hq)) fun h1 => ?_
  show wr (d + 244) tb_M20 192 [(2, vi l2), (3, vi l3), (0, .ref 131), (1, .ref C)] [.ref C] s _
  refine wr_n (pc2 := 195) (lv2 := [(2, vi l2), (3, vi l3), (0, .ref 131), (1, .ref C)]) (st2 := [.ref 131, vi 0, .ref 131, .ref C]) 3 (fun _ _ => rfl) ?_
  refine wr_get (v := .ref C) rfl rfl rfl (by decide) (rv_ref (show (s.1) 131 1 = ((C : Nat) : Int) from hq)) fun h2 => ?_
  show wr (d + 244) tb_M20 198 [(2, vi l2), (3, vi l3), (0, .ref 131), (1, .ref C)] [.ref C, vi 0, .ref 131, .ref C] s _
  refine wr_get (v := .ref (C + 6)) rfl rfl (TK0 hC) (by decide) (rv_ref (hK.1 C 5 (C + 6) (rcK hC (by omega)))) fun h3 => ?_
  show wr (d + 244) tb_M20 201 [(2, vi l2), (3, vi l3), (0, .ref 131), (1, .ref C)] [.ref (C + 6), vi 0, .ref 131, .ref C] s _
  refine wr_get (v := vi (s.1 (C + 6) 3)) rfl rfl (TK6 hC) (by decide) rfl fun h4 => ?_
  have h4 : -2147483648 ≤ s.1 (C + 6) 3 ∧ s.1 (C + 6) 3 ≤ 2147483647 := h4
  show wr (d + 244) tb_M20 204 [(2, vi l2), (3, vi l3), (0, .ref 131), (1, .ref C)] [vi (s.1 (C + 6) 3), vi 0, .ref 131, .ref C] s _
  have hb5 : 0 ≤ s.1 (C + 6) 3 ∧ s.1 (C + 6) 3 ≤ 58 := kb_to (kC6_3 hC) (hK.2 (C + 6) 3)
  refine wr_call1T (args := [vi 0, vi (s.1 (C + 6) 3)]) (rest := [.ref C]) rfl rfl rfl rfl (Nat.le_of_ble_eq_true rfl) rfl (cr_mono (cr_up (by omega) (k_JB C s 0 (s.1 (C + 6) 3) hC hK hq (by omega) (by omega))) ?_)
  rintro s6 out ⟨hK6, hY6, ⟨z6, hc6, rfl, hz6, hp6⟩ | ⟨rfl, hc6⟩⟩
  · refine .inl ⟨_, rfl, ?_⟩
    have hX6 : FX s0.1 s6.1 := FX_tr hX hY6
    have hC6 : s6.2 = s0.2 := hc6.trans hc
    have hq6 : s6.1 131 1 = (C : Int) := (hY6 131 1 (by unfold fx; omega)).trans hq
    unfold i32 at hz6
    clear hp6
    show wr (d + 244) tb_M20 207 [(2, vi l2), (3, vi l3), (0, .ref 131), (1, .ref C)] [vi z6, .ref C] s6 _
    refine wr_put (z := z6) rfl rfl rfl rfl (show 96 ≤ C by omega) (TK0 hC) (by decide) rfl (show -2147483648 ≤ z6 ∧ z6 ≤ 2147483647 by omega) (hf_int' _) ?_
    show wr (d + 244) tb_M20 210 [(2, vi l2), (3, vi l3), (0, .ref 131), (1, .ref C)] [] (up2 s6.1 C 13 z6, s6.2) _
    have hK7 : KI (up2 s6.1 C 13 z6) := (KI_up hK6 (nK (a := 0) hC (by omega)) (kb_no (kC_13 hC)))
    refine wr_n (pc2 := 212) (lv2 := [(2, vi l2), (3, vi l3), (0, .ref 131), (1, .ref C)]) (st2 := [.ref 131, .ref 131]) 2 (fun _ _ => rfl) ?_
    refine wr_get (v := .ref 137) rfl rfl rfl (by decide) (rv_ref (hK7.1 131 0 137 rfl)) fun h8 => ?_
    show wr (d + 244) tb_M20 215 [(2, vi l2), (3, vi l3), (0, .ref 131), (1, .ref C)] [.ref 137, .ref 131] (up2 s6.1 C 13 z6, s6.2) _
    refine wr_call1 (args := []) (rest := [.ref 131]) rfl rfl rfl rfl (Nat.le_of_ble_eq_true rfl) (cr_mono (k_kind (d := d + 243) (up2 s6.1 C 13 z6, s6.2) hK7) ?_)
    rintro s9 out ⟨z9, rfl, hz9, hp9, e9⟩
    refine ⟨_, rfl, ?_⟩
    rw [e9]
    unfold i32 at hz9
    clear hp9
    show wr (d + 244) tb_M20 218 [(2, vi l2), (3, vi l3), (0, .ref 131), (1, .ref C)] [vi z9, .ref 131] (up2 s6.1 C 13 z6, s6.2) _
    refine wr_n (pc2 := 219) (lv2 := [(2, vi l2), (3, vi l3), (0, .ref 131), (1, .ref C)]) (st2 := [vi 3, vi z9, .ref 131]) 1 (fun _ _ => rfl) ?_
    by_cases h10 : z9 ≠ 3
    · refine wr_if2t rfl rfl (by unfold i32; omega) (by unfold i32; omega) h10 ?_
      refine wr_n (pc2 := 228) (lv2 := [(2, vi l2), (3, vi l3), (0, .ref 131), (1, .ref C)]) (st2 := [.ref 131, vi 0, .ref 131]) 2 (fun _ _ => rfl) ?_
      refine wr_get (v := .ref 137) rfl rfl rfl (by decide) (rv_ref (hK7.1 131 0 137 rfl)) fun h11 => ?_
      show wr (d + 244) tb_M20 231 [(2, vi l2), (3, vi l3), (0, .ref 131), (1, .ref C)] [.ref 137, vi 0, .ref 131] (up2 s6.1 C 13 z6, s6.2) _
      refine wr_call1 (args := []) (rest := [vi 0, .ref 131]) rfl rfl rfl rfl (Nat.le_of_ble_eq_true rfl) (cr_mono (k_place (d := d + 243) (up2 s6.1 C 13 z6, s6.2) hK7) ?_)
      rintro s12 out ⟨z12, rfl, hz12, hp12, e12⟩
      refine ⟨_, rfl, ?_⟩
      rw [e12]
      unfold i32 at hz12
      clear hp12
      show wr (d + 244) tb_M20 234 [(2, vi l2), (3, vi l3), (0, .ref 131), (1, .ref C)] [vi z12, vi 0, .ref 131] (up2 s6.1 C 13 z6, s6.2) _
      refine wr_call1T (args := [vi 0, vi z12]) (rest := []) rfl rfl rfl rfl (Nat.le_of_ble_eq_true rfl) rfl (cr_mono (k_check (d := d + 243) (x := 0) (y := z12) (up2 s6.1 C 13 z6, s6.2) hK7 (by omega) (by omega)) ?_)
      rintro s13 out (⟨e13, hr13, rfl⟩ | ⟨hK13, hY13, rfl, hc13⟩)
      · exact absurd rfl hr13
      · refine .inr ⟨rfl, ?_⟩
        exact ⟨hK13, (FX_tr (FX_up hX6 (by unfold fx; omega)) hY13), .inr ⟨rfl, TH hC6 hc13⟩⟩
    · refine wr_if2f rfl rfl (by unfold i32; omega) (by unfold i32; omega) h10 ?_
      refine wr_n (pc2 := 228) (lv2 := [(2, vi l2), (3, vi l3), (0, .ref 131), (1, .ref C)]) (st2 := [.ref 131, vi 1, .ref 131]) 3 (fun _ _ => rfl) ?_
      refine wr_get (v := .ref 137) rfl rfl rfl (by decide) (rv_ref (hK7.1 131 0 137 rfl)) fun h14 => ?_
      show wr (d + 244) tb_M20 231 [(2, vi l2), (3, vi l3), (0, .ref 131), (1, .ref C)] [.ref 137, vi 1, .ref 131] (up2 s6.1 C 13 z6, s6.2) _
      refine wr_call1 (args := []) (rest := [vi 1, .ref 131]) rfl rfl rfl rfl (Nat.le_of_ble_eq_true rfl) (cr_mono (k_place (d := d + 243) (up2 s6.1 C 13 z6, s6.2) hK7) ?_)
      rintro s15 out ⟨z15, rfl, hz15, hp15, e15⟩
      refine ⟨_, rfl, ?_⟩
      rw [e15]
      unfold i32 at hz15
      clear hp15
      show wr (d + 244) tb_M20 234 [(2, vi l2), (3, vi l3), (0, .ref 131), (1, .ref C)] [vi z15, vi 1, .ref 131] (up2 s6.1 C 13 z6, s6.2) _
      refine wr_call1T (args := [vi 1, vi z15]) (rest := []) rfl rfl rfl rfl (Nat.le_of_ble_eq_true rfl) rfl (cr_mono (k_check (d := d + 243) (x := 1) (y := z15) (up2 s6.1 C 13 z6, s6.2) hK7 (by omega) (by omega)) ?_)
      rintro s16 out (⟨e16, hr16, rfl⟩ | ⟨hK16, hY16, rfl, hc16⟩)
      · refine .inl ⟨_, rfl, ?_⟩
        rw [e16]
        show wr (d + 244) tb_M20 237 [(2, vi l2), (3, vi l3), (0, .ref 131), (1, .ref C)] [] (up2 s6.1 C 13 z6, s6.2) _
        refine wr_end (fun _ _ => rfl) ?_
        exact ⟨hK7, (FX_up hX6 (by unfold fx; omega)), .inl ⟨hC6, rfl⟩⟩
      · refine .inr ⟨rfl, ?_⟩
        exact ⟨hK16, (FX_tr (FX_up hX6 (by unfold fx; omega)) hY16), .inr ⟨rfl, TH hC6 hc16⟩⟩
  · refine .inr ⟨rfl, ?_⟩
    exact ⟨hK6, (FX_tr hX hY6), .inr ⟨rfl, TH hc hc6⟩⟩
set_option maxHeartbeats 20000000 in
set_option maxRecDepth 100000 in
theorem k_program5_42v4 {d : Nat} {s0 : rS} {C : Nat} (hC : C = 99 ∨ C = 115)  : ∀ (w : Nat) (l2 : Int) (l3 : Int) (s : rS), (2000 - l2).toNat = w → KI s.1 → s.1 131 1 = (C : Int) → FX s0.1 s.1 → s.2 = s0.2 → 0 ≤ l2 ∧ l2 ≤ 2000 → (-2147483648) ≤ l3 ∧ l3 ≤ 2147483647 → wr (d + 244) tb_M20 42 [(2, vi l2), (3, vi l3), (0, .ref 131), (1, .ref C)] [] s (TV s0) := by
  intro w
  induction w using Nat.strongRecOn with | ind w ih => ?_
  intro l2 l3 s hw hK hq hX hc hl2 hl3
  refine wr_n (pc2 := 46) (lv2 := [(2, vi l2), (3, vi l3), (0, .ref 131), (1, .ref C)]) (st2 := [vi 2000, vi l2]) 2 (fun _ _ => rfl) ?_
  by_cases h1 : 2000 ≤ l2
  · refine wr_if2t rfl rfl (by unfold i32; omega) (by unfold i32; omega) h1 ?_
    exact k_program5_188v4 hC l2 l3 s hK hq hX hc (by omega) (by omega)  
  · refine wr_if2f rfl rfl (by unfold i32; omega) (by unfold i32; omega) h1 ?_
    refine wr_n (pc2 := 50) (lv2 := [(2, vi l2), (3, vi l3), (0, .ref 131), (1, .ref C)]) (st2 := [.ref 131]) 1 (fun _ _ => rfl) ?_
    refine wr_get (v := .ref 137) rfl rfl rfl (by decide) (rv_ref (hK.1 131 0 137 rfl)) fun h2 => ?_
    show wr (d + 244) tb_M20 53 [(2, vi l2), (3, vi l3), (0, .ref 131), (1, .ref C)] [.ref 137] s _
    refine wr_call1 (args := []) (rest := []) rfl rfl rfl rfl (Nat.le_of_ble_eq_true rfl) (cr_mono (k_kind (d := d + 243) s hK) ?_)
    rintro s3 out ⟨z3, rfl, hz3, hp3, e3⟩
    refine ⟨_, rfl, ?_⟩
    rw [e3]
    unfold i32 at hz3
    clear hp3
    show wr (d + 244) tb_M20 56 [(2, vi l2), (3, vi l3), (0, .ref 131), (1, .ref C)] [vi z3] s _
    refine wr_n (pc2 := 59) (lv2 := [(2, vi l2), (3, vi l3), (0, .ref 131), (1, .ref C)]) (st2 := [vi 300, vi z3]) 1 (fun _ _ => rfl) ?_
    by_cases h4 : z3 < 300
    · refine wr_if2t rfl rfl (by unfold i32; omega) (by unfold i32; omega) h4 ?_
      exact k_program5_188v4 hC l2 l3 s hK hq hX hc (by omega) (by omega)  
    · refine wr_if2f rfl rfl (by unfold i32; omega) (by unfold i32; omega) h4 ?_
      refine wr_n (pc2 := 63) (lv2 := [(2, vi l2), (3, vi l3), (0, .ref 131), (1, .ref C)]) (st2 := [.ref 131]) 1 (fun _ _ => rfl) ?_
      refine wr_get (v := .ref 137) rfl rfl rfl (by decide) (rv_ref (hK.1 131 0 137 rfl)) fun h5 => ?_
      show wr (d + 244) tb_M20 66 [(2, vi l2), (3, vi l3), (0, .ref 131), (1, .ref C)] [.ref 137] s _
      refine wr_call1 (args := []) (rest := []) rfl rfl rfl rfl (Nat.le_of_ble_eq_true rfl) (cr_mono (k_kind (d := d + 243) s hK) ?_)
      rintro s6 out ⟨z6, rfl, hz6, hp6, e6⟩
      refine ⟨_, rfl, ?_⟩
      rw [e6]
      unfold i32 at hz6
      clear hp6
      show wr (d + 244) tb_M20 69 [(2, vi l2), (3, vi l3), (0, .ref 131), (1, .ref C)] [vi z6] s _
      refine wr_n (pc2 := 72) (lv2 := [(2, vi l2), (3, vi l3), (0, .ref 131), (1, .ref C)]) (st2 := [vi 307, vi z6]) 1 (fun _ _ => rfl) ?_
      by_cases h7 : 307 < z6
      · refine wr_if2t rfl rfl (by unfold i32; omega) (by unfold i32; omega) h7 ?_
        exact k_program5_188v4 hC l2 l3 s hK hq hX hc (by omega) (by omega)  
      · refine wr_if2f rfl rfl (by unfold i32; omega) (by unfold i32; omega) h7 ?_
        refine wr_n (pc2 := 76) (lv2 := [(2, vi l2), (3, vi l3), (0, .ref 131), (1, .ref C)]) (st2 := [.ref 131]) 1 (fun _ _ => rfl) ?_
        refine wr_get (v := .ref 137) rfl rfl rfl (by decide) (rv_ref (hK.1 131 0 137 rfl)) fun h8 => ?_
        show wr (d + 244) tb_M20 79 [(2, vi l2), (3, vi l3), (0, .ref 131), (1, .ref C)] [.ref 137] s _
        refine wr_call1 (args := []) (rest := []) rfl rfl rfl rfl (Nat.le_of_ble_eq_true rfl) (cr_mono (k_kind (d := d + 243) s hK) ?_)
        rintro s9 out ⟨z9, rfl, hz9, hp9, e9⟩
        refine ⟨_, rfl, ?_⟩
        rw [e9]
        unfold i32 at hz9
        clear hp9
        show wr (d + 244) tb_M20 82 [(2, vi l2), (3, vi l3), (0, .ref 131), (1, .ref C)] [vi z9] s _
        refine wr_n (pc2 := 84) (lv2 := [(3, vi z9), (2, vi l2), (0, .ref 131), (1, .ref C)]) (st2 := [.ref 131]) 2 (fun _ _ => rfl) ?_
        refine wr_get (v := .ref 137) rfl rfl rfl (by decide) (rv_ref (hK.1 131 0 137 rfl)) fun h10 => ?_
        show wr (d + 244) tb_M20 87 [(3, vi z9), (2, vi l2), (0, .ref 131), (1, .ref C)] [.ref 137] s _
        refine wr_call1 (args := []) (rest := []) rfl rfl rfl rfl (Nat.le_of_ble_eq_true rfl) (cr_mono (k_step (d := d + 243) s hK) ?_)
        rintro s11 out ⟨hK11, hY11, hc11, rfl⟩
        refine ⟨_, rfl, ?_⟩
        have hX11 : FX s0.1 s11.1 := FX_tr hX hY11
        have hC11 : s11.2 = s0.2 := hc11.trans hc
        have hq11 : s11.1 131 1 = (C : Int) := (hY11 131 1 (by unfold fx; omega)).trans hq
        show wr (d + 244) tb_M20 90 [(3, vi z9), (2, vi l2), (0, .ref 131), (1, .ref C)] [] s11 _
        refine wr_n (pc2 := 94) (lv2 := [(3, vi z9), (2, vi l2), (0, .ref 131), (1, .ref C)]) (st2 := [vi 306, vi z9]) 2 (fun _ _ => rfl) ?_
        by_cases h12 : z9 = 306
        · refine wr_if2t rfl rfl (by unfold i32; omega) (by unfold i32; omega) h12 ?_
          refine wr_n (pc2 := 109) (lv2 := [(3, vi z9), (2, vi l2), (0, .ref 131), (1, .ref C)]) (st2 := [vi 307, vi z9, .ref 131]) 3 (fun _ _ => rfl) ?_
          by_cases h13 : z9 ≠ 307
          · refine wr_if2t rfl rfl (by unfold i32; omega) (by unfold i32; omega) h13 ?_
            refine wr_n (pc2 := 118) (lv2 := [(3, vi z9), (2, vi l2), (0, .ref 131), (1, .ref C)]) (st2 := [vi 5, .ref 131]) 1 (fun _ _ => rfl) ?_
            refine wr_call1T (args := [vi 5]) (rest := []) rfl rfl rfl rfl (Nat.le_of_ble_eq_true rfl) rfl (cr_mono (k_routineHead (d := d + 239) (C := C) hC (x := 5) s11 hK11 hq11 (by omega)) ?_)
            rintro s14 out ⟨hK14, hY14, ⟨z14, hc14, rfl, hz14, hp14⟩ | ⟨rfl, hc14⟩⟩
            · refine .inl ⟨_, rfl, ?_⟩
              have hX14 : FX s0.1 s14.1 := FX_tr hX11 hY14
              have hC14 : s14.2 = s0.2 := hc14.trans hC11
              have hq14 : s14.1 131 1 = (C : Int) := (hY14 131 1 (by unfold fx; omega)).trans hq11
              unfold i32 at hz14
              clear hp14
              show wr (d + 244) tb_M20 121 [(3, vi z9), (2, vi l2), (0, .ref 131), (1, .ref C)] [vi z14] s14 _
              refine wr_n (pc2 := 124) (lv2 := [(4, vi z14), (3, vi z9), (2, vi l2), (0, .ref 131), (1, .ref C)]) (st2 := [.ref 131]) 2 (fun _ _ => rfl) ?_
              refine wr_get (v := .ref C) rfl rfl rfl (by decide) (rv_ref (show (s14.1) 131 1 = ((C : Nat) : Int) from hq14)) fun h15 => ?_
              show wr (d + 244) tb_M20 127 [(4, vi z14), (3, vi z9), (2, vi l2), (0, .ref 131), (1, .ref C)] [.ref C] s14 _
              refine wr_get (v := .ref (C + 6)) rfl rfl (TK0 hC) (by decide) (rv_ref (hK14.1 C 5 (C + 6) (rcK hC (by omega)))) fun h16 => ?_
              show wr (d + 244) tb_M20 130 [(4, vi z14), (3, vi z9), (2, vi l2), (0, .ref 131), (1, .ref C)] [.ref (C + 6)] s14 _
              refine wr_get (v := vi (s14.1 (C + 6) 3)) rfl rfl (TK6 hC) (by decide) rfl fun h17 => ?_
              have h17 : -2147483648 ≤ s14.1 (C + 6) 3 ∧ s14.1 (C + 6) 3 ≤ 2147483647 := h17
              show wr (d + 244) tb_M20 133 [(4, vi z14), (3, vi z9), (2, vi l2), (0, .ref 131), (1, .ref C)] [vi (s14.1 (C + 6) 3)] s14 _
              have hb18 : 0 ≤ s14.1 (C + 6) 3 ∧ s14.1 (C + 6) 3 ≤ 58 := kb_to (kC6_3 hC) (hK14.2 (C + 6) 3)
              refine wr_n (pc2 := 134) (lv2 := [(4, vi z14), (3, vi z9), (2, vi l2), (0, .ref 131), (1, .ref C)]) (st2 := [.ref 131, vi (s14.1 (C + 6) 3)]) 1 (fun _ _ => rfl) ?_
              refine wr_get (v := .ref C) rfl rfl rfl (by decide) (rv_ref (show (s14.1) 131 1 = ((C : Nat) : Int) from hq14)) fun h19 => ?_
              show wr (d + 244) tb_M20 137 [(4, vi z14), (3, vi z9), (2, vi l2), (0, .ref 131), (1, .ref C)] [.ref C, vi (s14.1 (C + 6) 3)] s14 _
              refine wr_n (pc2 := 139) (lv2 := [(4, vi z14), (3, vi z9), (2, vi l2), (0, .ref 131), (1, .ref C)]) (st2 := [vi z14, .ref C, vi (s14.1 (C + 6) 3)]) 1 (fun _ _ => rfl) ?_
              refine wr_call1 (args := [vi z14]) (rest := [vi (s14.1 (C + 6) 3)]) rfl rfl rfl (TK0 hC) (Nat.le_of_ble_eq_true rfl) (cr_mono (k_par (d := d + 243) (C := C) hC (x := z14) s14 hK14 (by omega)) ?_)
              rintro s20 out ⟨z20, rfl, hz20, hp20, e20⟩
              refine ⟨_, rfl, ?_⟩
              rw [e20]
              unfold i32 at hz20
              clear hp20
              show wr (d + 244) tb_M20 142 [(4, vi z14), (3, vi z9), (2, vi l2), (0, .ref 131), (1, .ref C)] [vi z20, vi (s14.1 (C + 6) 3)] s14 _
              refine wr_any2 rfl rfl fun z21 h22 => ?_
              unfold i32 at h22
              show wr (d + 244) tb_M20 143 [(4, vi z14), (3, vi z9), (2, vi l2), (0, .ref 131), (1, .ref C)] [vi z21] s14 _
              refine wr_n (pc2 := 152) (lv2 := [(5, vi z21), (4, vi z14), (3, vi z9), (2, vi l2), (0, .ref 131), (1, .ref C)]) (st2 := [vi 307, vi z9, vi z14, .ref 131]) 5 (fun _ _ => rfl) ?_
              by_cases h23 : z9 ≠ 307
              · refine wr_if2t rfl rfl (by unfold i32; omega) (by unfold i32; omega) h23 ?_
                refine wr_n (pc2 := 168) (lv2 := [(5, vi z21), (4, vi z14), (3, vi z9), (2, vi l2), (0, .ref 131), (1, .ref C)]) (st2 := [vi z21, vi 0, .ref 131, vi z14, .ref 131]) 3 (fun _ _ => rfl) ?_
                refine wr_call1T (args := [vi 0, vi z21]) (rest := [vi z14, .ref 131]) rfl rfl rfl rfl (Nat.le_of_ble_eq_true rfl) rfl (cr_mono (cr_up (by omega) (k_JB C s14 0 z21 hC hK14 hq14 (by omega) (by omega))) ?_)
                rintro s24 out ⟨hK24, hY24, ⟨z24, hc24, rfl, hz24, hp24⟩ | ⟨rfl, hc24⟩⟩
                · refine .inl ⟨_, rfl, ?_⟩
                  have hX24 : FX s0.1 s24.1 := FX_tr hX14 hY24
                  have hC24 : s24.2 = s0.2 := hc24.trans hC14
                  have hq24 : s24.1 131 1 = (C : Int) := (hY24 131 1 (by unfold fx; omega)).trans hq14
                  unfold i32 at hz24
                  clear hp24
                  show wr (d + 244) tb_M20 171 [(5, vi z21), (4, vi z14), (3, vi z9), (2, vi l2), (0, .ref 131), (1, .ref C)] [vi z24, vi z14, .ref 131] s24 _
                  refine wr_call1 (args := [vi z14, vi z24]) (rest := []) rfl rfl rfl rfl (Nat.le_of_ble_eq_true rfl) (cr_mono (k_routineFoot (d := d + 243) (C := C) hC (x := z14) (y := z24) s24 hK24 hq24 (by omega) (by omega)) ?_)
                  rintro s25 out ⟨hK25, hY25, hc25, rfl⟩
                  refine ⟨_, rfl, ?_⟩
                  have hX25 : FX s0.1 s25.1 := FX_tr hX24 hY25
                  have hC25 : s25.2 = s0.2 := hc25.trans hC24
                  have hq25 : s25.1 131 1 = (C : Int) := (hY25 131 1 (by unfold fx; omega)).trans hq24
                  show wr (d + 244) tb_M20 174 [(5, vi z21), (4, vi z14), (3, vi z9), (2, vi l2), (0, .ref 131), (1, .ref C)] [] s25 _
                  refine wr_n (pc2 := 182) (lv2 := [(5, vi z21), (4, vi z14), (3, vi z9), (2, vi l2), (0, .ref 131), (1, .ref C)]) (st2 := []) 1 (fun _ _ => rfl) ?_
                  refine wr_inc (a := l2) rfl rfl ?_
                  show wr (d + 244) tb_M20 185 [(2, vi (l2 + 1)), (5, vi z21), (4, vi z14), (3, vi z9), (0, .ref 131), (1, .ref C)] [] s25 _
                  refine wr_n (pc2 := 42) (lv2 := [(2, vi (l2 + 1)), (5, vi z21), (4, vi z14), (3, vi z9), (0, .ref 131), (1, .ref C)]) (st2 := []) 1 (fun _ _ => rfl) ?_
                  exact (k_program5_42v2 hC _).1 (l2 + 1) z21 z14 z9 s25 rfl hK25 hq25 hX25 hC25 (by omega) (by omega) (by omega) (by omega)  
                · refine .inr ⟨rfl, ?_⟩
                  exact ⟨hK24, (FX_tr hX14 hY24), .inr ⟨rfl, TH hC14 hc24⟩⟩
              · refine wr_if2f rfl rfl (by unfold i32; omega) (by unfold i32; omega) h23 ?_
                refine wr_n (pc2 := 158) (lv2 := [(5, vi z21), (4, vi z14), (3, vi z9), (2, vi l2), (0, .ref 131), (1, .ref C)]) (st2 := [vi z21, .ref 131, vi z14, .ref 131]) 2 (fun _ _ => rfl) ?_
                refine wr_call1T (args := [vi z21]) (rest := [vi z14, .ref 131]) rfl rfl rfl rfl (Nat.le_of_ble_eq_true rfl) rfl (cr_mono (k_funBody (d := d + 4) (C := C) hC (x := z21) s14 hK14 hq14 (by omega)) ?_)
                rintro s26 out ⟨hK26, hY26, ⟨z26, hc26, rfl, hz26, hp26⟩ | ⟨rfl, hc26⟩⟩
                · refine .inl ⟨_, rfl, ?_⟩
                  have hX26 : FX s0.1 s26.1 := FX_tr hX14 hY26
                  have hC26 : s26.2 = s0.2 := hc26.trans hC14
                  have hq26 : s26.1 131 1 = (C : Int) := (hY26 131 1 (by unfold fx; omega)).trans hq14
                  unfold i32 at hz26
                  clear hp26
                  show wr (d + 244) tb_M20 161 [(5, vi z21), (4, vi z14), (3, vi z9), (2, vi l2), (0, .ref 131), (1, .ref C)] [vi z26, vi z14, .ref 131] s26 _
                  refine wr_n (pc2 := 171) (lv2 := [(5, vi z21), (4, vi z14), (3, vi z9), (2, vi l2), (0, .ref 131), (1, .ref C)]) (st2 := [vi z26, vi z14, .ref 131]) 1 (fun _ _ => rfl) ?_
                  refine wr_call1 (args := [vi z14, vi z26]) (rest := []) rfl rfl rfl rfl (Nat.le_of_ble_eq_true rfl) (cr_mono (k_routineFoot (d := d + 243) (C := C) hC (x := z14) (y := z26) s26 hK26 hq26 (by omega) (by omega)) ?_)
                  rintro s27 out ⟨hK27, hY27, hc27, rfl⟩
                  refine ⟨_, rfl, ?_⟩
                  have hX27 : FX s0.1 s27.1 := FX_tr hX26 hY27
                  have hC27 : s27.2 = s0.2 := hc27.trans hC26
                  have hq27 : s27.1 131 1 = (C : Int) := (hY27 131 1 (by unfold fx; omega)).trans hq26
                  show wr (d + 244) tb_M20 174 [(5, vi z21), (4, vi z14), (3, vi z9), (2, vi l2), (0, .ref 131), (1, .ref C)] [] s27 _
                  refine wr_n (pc2 := 182) (lv2 := [(5, vi z21), (4, vi z14), (3, vi z9), (2, vi l2), (0, .ref 131), (1, .ref C)]) (st2 := []) 1 (fun _ _ => rfl) ?_
                  refine wr_inc (a := l2) rfl rfl ?_
                  show wr (d + 244) tb_M20 185 [(2, vi (l2 + 1)), (5, vi z21), (4, vi z14), (3, vi z9), (0, .ref 131), (1, .ref C)] [] s27 _
                  refine wr_n (pc2 := 42) (lv2 := [(2, vi (l2 + 1)), (5, vi z21), (4, vi z14), (3, vi z9), (0, .ref 131), (1, .ref C)]) (st2 := []) 1 (fun _ _ => rfl) ?_
                  exact (k_program5_42v2 hC _).1 (l2 + 1) z21 z14 z9 s27 rfl hK27 hq27 hX27 hC27 (by omega) (by omega) (by omega) (by omega)  
                · refine .inr ⟨rfl, ?_⟩
                  exact ⟨hK26, (FX_tr hX14 hY26), .inr ⟨rfl, TH hC14 hc26⟩⟩
            · refine .inr ⟨rfl, ?_⟩
              exact ⟨hK14, (FX_tr hX11 hY14), .inr ⟨rfl, TH hC11 hc14⟩⟩
          · refine wr_if2f rfl rfl (by unfold i32; omega) (by unfold i32; omega) h13 ?_
            refine wr_n (pc2 := 118) (lv2 := [(3, vi z9), (2, vi l2), (0, .ref 131), (1, .ref C)]) (st2 := [vi 6, .ref 131]) 2 (fun _ _ => rfl) ?_
            refine wr_call1T (args := [vi 6]) (rest := []) rfl rfl rfl rfl (Nat.le_of_ble_eq_true rfl) rfl (cr_mono (k_routineHead (d := d + 239) (C := C) hC (x := 6) s11 hK11 hq11 (by omega)) ?_)
            rintro s28 out ⟨hK28, hY28, ⟨z28, hc28, rfl, hz28, hp28⟩ | ⟨rfl, hc28⟩⟩
            · refine .inl ⟨_, rfl, ?_⟩
              have hX28 : FX s0.1 s28.1 := FX_tr hX11 hY28
              have hC28 : s28.2 = s0.2 := hc28.trans hC11
              have hq28 : s28.1 131 1 = (C : Int) := (hY28 131 1 (by unfold fx; omega)).trans hq11
              unfold i32 at hz28
              clear hp28
              show wr (d + 244) tb_M20 121 [(3, vi z9), (2, vi l2), (0, .ref 131), (1, .ref C)] [vi z28] s28 _
              refine wr_n (pc2 := 124) (lv2 := [(4, vi z28), (3, vi z9), (2, vi l2), (0, .ref 131), (1, .ref C)]) (st2 := [.ref 131]) 2 (fun _ _ => rfl) ?_
              refine wr_get (v := .ref C) rfl rfl rfl (by decide) (rv_ref (show (s28.1) 131 1 = ((C : Nat) : Int) from hq28)) fun h29 => ?_
              show wr (d + 244) tb_M20 127 [(4, vi z28), (3, vi z9), (2, vi l2), (0, .ref 131), (1, .ref C)] [.ref C] s28 _
              refine wr_get (v := .ref (C + 6)) rfl rfl (TK0 hC) (by decide) (rv_ref (hK28.1 C 5 (C + 6) (rcK hC (by omega)))) fun h30 => ?_
              show wr (d + 244) tb_M20 130 [(4, vi z28), (3, vi z9), (2, vi l2), (0, .ref 131), (1, .ref C)] [.ref (C + 6)] s28 _
              refine wr_get (v := vi (s28.1 (C + 6) 3)) rfl rfl (TK6 hC) (by decide) rfl fun h31 => ?_
              have h31 : -2147483648 ≤ s28.1 (C + 6) 3 ∧ s28.1 (C + 6) 3 ≤ 2147483647 := h31
              show wr (d + 244) tb_M20 133 [(4, vi z28), (3, vi z9), (2, vi l2), (0, .ref 131), (1, .ref C)] [vi (s28.1 (C + 6) 3)] s28 _
              have hb32 : 0 ≤ s28.1 (C + 6) 3 ∧ s28.1 (C + 6) 3 ≤ 58 := kb_to (kC6_3 hC) (hK28.2 (C + 6) 3)
              refine wr_n (pc2 := 134) (lv2 := [(4, vi z28), (3, vi z9), (2, vi l2), (0, .ref 131), (1, .ref C)]) (st2 := [.ref 131, vi (s28.1 (C + 6) 3)]) 1 (fun _ _ => rfl) ?_
              refine wr_get (v := .ref C) rfl rfl rfl (by decide) (rv_ref (show (s28.1) 131 1 = ((C : Nat) : Int) from hq28)) fun h33 => ?_
              show wr (d + 244) tb_M20 137 [(4, vi z28), (3, vi z9), (2, vi l2), (0, .ref 131), (1, .ref C)] [.ref C, vi (s28.1 (C + 6) 3)] s28 _
              refine wr_n (pc2 := 139) (lv2 := [(4, vi z28), (3, vi z9), (2, vi l2), (0, .ref 131), (1, .ref C)]) (st2 := [vi z28, .ref C, vi (s28.1 (C + 6) 3)]) 1 (fun _ _ => rfl) ?_
              refine wr_call1 (args := [vi z28]) (rest := [vi (s28.1 (C + 6) 3)]) rfl rfl rfl (TK0 hC) (Nat.le_of_ble_eq_true rfl) (cr_mono (k_par (d := d + 243) (C := C) hC (x := z28) s28 hK28 (by omega)) ?_)
              rintro s34 out ⟨z34, rfl, hz34, hp34, e34⟩
              refine ⟨_, rfl, ?_⟩
              rw [e34]
              unfold i32 at hz34
              clear hp34
              show wr (d + 244) tb_M20 142 [(4, vi z28), (3, vi z9), (2, vi l2), (0, .ref 131), (1, .ref C)] [vi z34, vi (s28.1 (C + 6) 3)] s28 _
              refine wr_any2 rfl rfl fun z35 h36 => ?_
              unfold i32 at h36
              show wr (d + 244) tb_M20 143 [(4, vi z28), (3, vi z9), (2, vi l2), (0, .ref 131), (1, .ref C)] [vi z35] s28 _
              refine wr_n (pc2 := 152) (lv2 := [(5, vi z35), (4, vi z28), (3, vi z9), (2, vi l2), (0, .ref 131), (1, .ref C)]) (st2 := [vi 307, vi z9, vi z28, .ref 131]) 5 (fun _ _ => rfl) ?_
              by_cases h37 : z9 ≠ 307
              · refine wr_if2t rfl rfl (by unfold i32; omega) (by unfold i32; omega) h37 ?_
                refine wr_n (pc2 := 168) (lv2 := [(5, vi z35), (4, vi z28), (3, vi z9), (2, vi l2), (0, .ref 131), (1, .ref C)]) (st2 := [vi z35, vi 0, .ref 131, vi z28, .ref 131]) 3 (fun _ _ => rfl) ?_
                refine wr_call1T (args := [vi 0, vi z35]) (rest := [vi z28, .ref 131]) rfl rfl rfl rfl (Nat.le_of_ble_eq_true rfl) rfl (cr_mono (cr_up (by omega) (k_JB C s28 0 z35 hC hK28 hq28 (by omega) (by omega))) ?_)
                rintro s38 out ⟨hK38, hY38, ⟨z38, hc38, rfl, hz38, hp38⟩ | ⟨rfl, hc38⟩⟩
                · refine .inl ⟨_, rfl, ?_⟩
                  have hX38 : FX s0.1 s38.1 := FX_tr hX28 hY38
                  have hC38 : s38.2 = s0.2 := hc38.trans hC28
                  have hq38 : s38.1 131 1 = (C : Int) := (hY38 131 1 (by unfold fx; omega)).trans hq28
                  unfold i32 at hz38
                  clear hp38
                  show wr (d + 244) tb_M20 171 [(5, vi z35), (4, vi z28), (3, vi z9), (2, vi l2), (0, .ref 131), (1, .ref C)] [vi z38, vi z28, .ref 131] s38 _
                  refine wr_call1 (args := [vi z28, vi z38]) (rest := []) rfl rfl rfl rfl (Nat.le_of_ble_eq_true rfl) (cr_mono (k_routineFoot (d := d + 243) (C := C) hC (x := z28) (y := z38) s38 hK38 hq38 (by omega) (by omega)) ?_)
                  rintro s39 out ⟨hK39, hY39, hc39, rfl⟩
                  refine ⟨_, rfl, ?_⟩
                  have hX39 : FX s0.1 s39.1 := FX_tr hX38 hY39
                  have hC39 : s39.2 = s0.2 := hc39.trans hC38
                  have hq39 : s39.1 131 1 = (C : Int) := (hY39 131 1 (by unfold fx; omega)).trans hq38
                  show wr (d + 244) tb_M20 174 [(5, vi z35), (4, vi z28), (3, vi z9), (2, vi l2), (0, .ref 131), (1, .ref C)] [] s39 _
                  refine wr_n (pc2 := 182) (lv2 := [(5, vi z35), (4, vi z28), (3, vi z9), (2, vi l2), (0, .ref 131), (1, .ref C)]) (st2 := []) 1 (fun _ _ => rfl) ?_
                  refine wr_inc (a := l2) rfl rfl ?_
                  show wr (d + 244) tb_M20 185 [(2, vi (l2 + 1)), (5, vi z35), (4, vi z28), (3, vi z9), (0, .ref 131), (1, .ref C)] [] s39 _
                  refine wr_n (pc2 := 42) (lv2 := [(2, vi (l2 + 1)), (5, vi z35), (4, vi z28), (3, vi z9), (0, .ref 131), (1, .ref C)]) (st2 := []) 1 (fun _ _ => rfl) ?_
                  exact (k_program5_42v2 hC _).1 (l2 + 1) z35 z28 z9 s39 rfl hK39 hq39 hX39 hC39 (by omega) (by omega) (by omega) (by omega)  
                · refine .inr ⟨rfl, ?_⟩
                  exact ⟨hK38, (FX_tr hX28 hY38), .inr ⟨rfl, TH hC28 hc38⟩⟩
              · refine wr_if2f rfl rfl (by unfold i32; omega) (by unfold i32; omega) h37 ?_
                refine wr_n (pc2 := 158) (lv2 := [(5, vi z35), (4, vi z28), (3, vi z9), (2, vi l2), (0, .ref 131), (1, .ref C)]) (st2 := [vi z35, .ref 131, vi z28, .ref 131]) 2 (fun _ _ => rfl) ?_
                refine wr_call1T (args := [vi z35]) (rest := [vi z28, .ref 131]) rfl rfl rfl rfl (Nat.le_of_ble_eq_true rfl) rfl (cr_mono (k_funBody (d := d + 4) (C := C) hC (x := z35) s28 hK28 hq28 (by omega)) ?_)
                rintro s40 out ⟨hK40, hY40, ⟨z40, hc40, rfl, hz40, hp40⟩ | ⟨rfl, hc40⟩⟩
                · refine .inl ⟨_, rfl, ?_⟩
                  have hX40 : FX s0.1 s40.1 := FX_tr hX28 hY40
                  have hC40 : s40.2 = s0.2 := hc40.trans hC28
                  have hq40 : s40.1 131 1 = (C : Int) := (hY40 131 1 (by unfold fx; omega)).trans hq28
                  unfold i32 at hz40
                  clear hp40
                  show wr (d + 244) tb_M20 161 [(5, vi z35), (4, vi z28), (3, vi z9), (2, vi l2), (0, .ref 131), (1, .ref C)] [vi z40, vi z28, .ref 131] s40 _
                  refine wr_n (pc2 := 171) (lv2 := [(5, vi z35), (4, vi z28), (3, vi z9), (2, vi l2), (0, .ref 131), (1, .ref C)]) (st2 := [vi z40, vi z28, .ref 131]) 1 (fun _ _ => rfl) ?_
                  refine wr_call1 (args := [vi z28, vi z40]) (rest := []) rfl rfl rfl rfl (Nat.le_of_ble_eq_true rfl) (cr_mono (k_routineFoot (d := d + 243) (C := C) hC (x := z28) (y := z40) s40 hK40 hq40 (by omega) (by omega)) ?_)
                  rintro s41 out ⟨hK41, hY41, hc41, rfl⟩
                  refine ⟨_, rfl, ?_⟩
                  have hX41 : FX s0.1 s41.1 := FX_tr hX40 hY41
                  have hC41 : s41.2 = s0.2 := hc41.trans hC40
                  have hq41 : s41.1 131 1 = (C : Int) := (hY41 131 1 (by unfold fx; omega)).trans hq40
                  show wr (d + 244) tb_M20 174 [(5, vi z35), (4, vi z28), (3, vi z9), (2, vi l2), (0, .ref 131), (1, .ref C)] [] s41 _
                  refine wr_n (pc2 := 182) (lv2 := [(5, vi z35), (4, vi z28), (3, vi z9), (2, vi l2), (0, .ref 131), (1, .ref C)]) (st2 := []) 1 (fun _ _ => rfl) ?_
                  refine wr_inc (a := l2) rfl rfl ?_
                  show wr (d + 244) tb_M20 185 [(2, vi (l2 + 1)), (5, vi z35), (4, vi z28), (3, vi z9), (0, .ref 131), (1, .ref C)] [] s41 _
                  refine wr_n (pc2 := 42) (lv2 := [(2, vi (l2 + 1)), (5, vi z35), (4, vi z28), (3, vi z9), (0, .ref 131), (1, .ref C)]) (st2 := []) 1 (fun _ _ => rfl) ?_
                  exact (k_program5_42v2 hC _).1 (l2 + 1) z35 z28 z9 s41 rfl hK41 hq41 hX41 hC41 (by omega) (by omega) (by omega) (by omega)  
                · refine .inr ⟨rfl, ?_⟩
                  exact ⟨hK40, (FX_tr hX28 hY40), .inr ⟨rfl, TH hC28 hc40⟩⟩
            · refine .inr ⟨rfl, ?_⟩
              exact ⟨hK28, (FX_tr hX11 hY28), .inr ⟨rfl, TH hC11 hc28⟩⟩
        · refine wr_if2f rfl rfl (by unfold i32; omega) (by unfold i32; omega) h12 ?_
          refine wr_n (pc2 := 101) (lv2 := [(3, vi z9), (2, vi l2), (0, .ref 131), (1, .ref C)]) (st2 := [vi 307, vi z9]) 2 (fun _ _ => rfl) ?_
          by_cases h42 : z9 ≠ 307
          · refine wr_if2t rfl rfl (by unfold i32; omega) (by unfold i32; omega) h42 ?_
            refine wr_n (pc2 := 179) (lv2 := [(3, vi z9), (2, vi l2), (0, .ref 131), (1, .ref C)]) (st2 := [vi z9, .ref 131]) 2 (fun _ _ => rfl) ?_
            refine wr_call1T (args := [vi z9]) (rest := []) rfl rfl rfl rfl (Nat.le_of_ble_eq_true rfl) rfl (cr_mono (k_shortDecl (d := d + 241) (C := C) hC (x := z9) s11 hK11 hq11 (by omega)) ?_)
            rintro s43 out ⟨hK43, hY43, ⟨hc43, rfl⟩ | ⟨rfl, hc43⟩⟩
            · refine .inl ⟨_, rfl, ?_⟩
              have hX43 : FX s0.1 s43.1 := FX_tr hX11 hY43
              have hC43 : s43.2 = s0.2 := hc43.trans hC11
              have hq43 : s43.1 131 1 = (C : Int) := (hY43 131 1 (by unfold fx; omega)).trans hq11
              show wr (d + 244) tb_M20 182 [(3, vi z9), (2, vi l2), (0, .ref 131), (1, .ref C)] [] s43 _
              refine wr_inc (a := l2) rfl rfl ?_
              show wr (d + 244) tb_M20 185 [(2, vi (l2 + 1)), (3, vi z9), (0, .ref 131), (1, .ref C)] [] s43 _
              refine wr_n (pc2 := 42) (lv2 := [(2, vi (l2 + 1)), (3, vi z9), (0, .ref 131), (1, .ref C)]) (st2 := []) 1 (fun _ _ => rfl) ?_
              exact ih _ (by omega) (l2 + 1) z9 s43 rfl hK43 hq43 hX43 hC43 (by omega) (by omega)  
            · refine .inr ⟨rfl, ?_⟩
              exact ⟨hK43, (FX_tr hX11 hY43), .inr ⟨rfl, TH hC11 hc43⟩⟩
          · refine wr_if2f rfl rfl (by unfold i32; omega) (by unfold i32; omega) h42 ?_
            refine wr_n (pc2 := 109) (lv2 := [(3, vi z9), (2, vi l2), (0, .ref 131), (1, .ref C)]) (st2 := [vi 307, vi z9, .ref 131]) 3 (fun _ _ => rfl) ?_
            by_cases h44 : z9 ≠ 307
            · refine wr_if2t rfl rfl (by unfold i32; omega) (by unfold i32; omega) h44 ?_
              refine wr_n (pc2 := 118) (lv2 := [(3, vi z9), (2, vi l2), (0, .ref 131), (1, .ref C)]) (st2 := [vi 5, .ref 131]) 1 (fun _ _ => rfl) ?_
              refine wr_call1T (args := [vi 5]) (rest := []) rfl rfl rfl rfl (Nat.le_of_ble_eq_true rfl) rfl (cr_mono (k_routineHead (d := d + 239) (C := C) hC (x := 5) s11 hK11 hq11 (by omega)) ?_)
              rintro s45 out ⟨hK45, hY45, ⟨z45, hc45, rfl, hz45, hp45⟩ | ⟨rfl, hc45⟩⟩
              · refine .inl ⟨_, rfl, ?_⟩
                have hX45 : FX s0.1 s45.1 := FX_tr hX11 hY45
                have hC45 : s45.2 = s0.2 := hc45.trans hC11
                have hq45 : s45.1 131 1 = (C : Int) := (hY45 131 1 (by unfold fx; omega)).trans hq11
                unfold i32 at hz45
                clear hp45
                show wr (d + 244) tb_M20 121 [(3, vi z9), (2, vi l2), (0, .ref 131), (1, .ref C)] [vi z45] s45 _
                refine wr_n (pc2 := 124) (lv2 := [(4, vi z45), (3, vi z9), (2, vi l2), (0, .ref 131), (1, .ref C)]) (st2 := [.ref 131]) 2 (fun _ _ => rfl) ?_
                refine wr_get (v := .ref C) rfl rfl rfl (by decide) (rv_ref (show (s45.1) 131 1 = ((C : Nat) : Int) from hq45)) fun h46 => ?_
                show wr (d + 244) tb_M20 127 [(4, vi z45), (3, vi z9), (2, vi l2), (0, .ref 131), (1, .ref C)] [.ref C] s45 _
                refine wr_get (v := .ref (C + 6)) rfl rfl (TK0 hC) (by decide) (rv_ref (hK45.1 C 5 (C + 6) (rcK hC (by omega)))) fun h47 => ?_
                show wr (d + 244) tb_M20 130 [(4, vi z45), (3, vi z9), (2, vi l2), (0, .ref 131), (1, .ref C)] [.ref (C + 6)] s45 _
                refine wr_get (v := vi (s45.1 (C + 6) 3)) rfl rfl (TK6 hC) (by decide) rfl fun h48 => ?_
                have h48 : -2147483648 ≤ s45.1 (C + 6) 3 ∧ s45.1 (C + 6) 3 ≤ 2147483647 := h48
                show wr (d + 244) tb_M20 133 [(4, vi z45), (3, vi z9), (2, vi l2), (0, .ref 131), (1, .ref C)] [vi (s45.1 (C + 6) 3)] s45 _
                have hb49 : 0 ≤ s45.1 (C + 6) 3 ∧ s45.1 (C + 6) 3 ≤ 58 := kb_to (kC6_3 hC) (hK45.2 (C + 6) 3)
                refine wr_n (pc2 := 134) (lv2 := [(4, vi z45), (3, vi z9), (2, vi l2), (0, .ref 131), (1, .ref C)]) (st2 := [.ref 131, vi (s45.1 (C + 6) 3)]) 1 (fun _ _ => rfl) ?_
                refine wr_get (v := .ref C) rfl rfl rfl (by decide) (rv_ref (show (s45.1) 131 1 = ((C : Nat) : Int) from hq45)) fun h50 => ?_
                show wr (d + 244) tb_M20 137 [(4, vi z45), (3, vi z9), (2, vi l2), (0, .ref 131), (1, .ref C)] [.ref C, vi (s45.1 (C + 6) 3)] s45 _
                refine wr_n (pc2 := 139) (lv2 := [(4, vi z45), (3, vi z9), (2, vi l2), (0, .ref 131), (1, .ref C)]) (st2 := [vi z45, .ref C, vi (s45.1 (C + 6) 3)]) 1 (fun _ _ => rfl) ?_
                refine wr_call1 (args := [vi z45]) (rest := [vi (s45.1 (C + 6) 3)]) rfl rfl rfl (TK0 hC) (Nat.le_of_ble_eq_true rfl) (cr_mono (k_par (d := d + 243) (C := C) hC (x := z45) s45 hK45 (by omega)) ?_)
                rintro s51 out ⟨z51, rfl, hz51, hp51, e51⟩
                refine ⟨_, rfl, ?_⟩
                rw [e51]
                unfold i32 at hz51
                clear hp51
                show wr (d + 244) tb_M20 142 [(4, vi z45), (3, vi z9), (2, vi l2), (0, .ref 131), (1, .ref C)] [vi z51, vi (s45.1 (C + 6) 3)] s45 _
                refine wr_any2 rfl rfl fun z52 h53 => ?_
                unfold i32 at h53
                show wr (d + 244) tb_M20 143 [(4, vi z45), (3, vi z9), (2, vi l2), (0, .ref 131), (1, .ref C)] [vi z52] s45 _
                refine wr_n (pc2 := 152) (lv2 := [(5, vi z52), (4, vi z45), (3, vi z9), (2, vi l2), (0, .ref 131), (1, .ref C)]) (st2 := [vi 307, vi z9, vi z45, .ref 131]) 5 (fun _ _ => rfl) ?_
                by_cases h54 : z9 ≠ 307
                · refine wr_if2t rfl rfl (by unfold i32; omega) (by unfold i32; omega) h54 ?_
                  refine wr_n (pc2 := 168) (lv2 := [(5, vi z52), (4, vi z45), (3, vi z9), (2, vi l2), (0, .ref 131), (1, .ref C)]) (st2 := [vi z52, vi 0, .ref 131, vi z45, .ref 131]) 3 (fun _ _ => rfl) ?_
                  refine wr_call1T (args := [vi 0, vi z52]) (rest := [vi z45, .ref 131]) rfl rfl rfl rfl (Nat.le_of_ble_eq_true rfl) rfl (cr_mono (cr_up (by omega) (k_JB C s45 0 z52 hC hK45 hq45 (by omega) (by omega))) ?_)
                  rintro s55 out ⟨hK55, hY55, ⟨z55, hc55, rfl, hz55, hp55⟩ | ⟨rfl, hc55⟩⟩
                  · refine .inl ⟨_, rfl, ?_⟩
                    have hX55 : FX s0.1 s55.1 := FX_tr hX45 hY55
                    have hC55 : s55.2 = s0.2 := hc55.trans hC45
                    have hq55 : s55.1 131 1 = (C : Int) := (hY55 131 1 (by unfold fx; omega)).trans hq45
                    unfold i32 at hz55
                    clear hp55
                    show wr (d + 244) tb_M20 171 [(5, vi z52), (4, vi z45), (3, vi z9), (2, vi l2), (0, .ref 131), (1, .ref C)] [vi z55, vi z45, .ref 131] s55 _
                    refine wr_call1 (args := [vi z45, vi z55]) (rest := []) rfl rfl rfl rfl (Nat.le_of_ble_eq_true rfl) (cr_mono (k_routineFoot (d := d + 243) (C := C) hC (x := z45) (y := z55) s55 hK55 hq55 (by omega) (by omega)) ?_)
                    rintro s56 out ⟨hK56, hY56, hc56, rfl⟩
                    refine ⟨_, rfl, ?_⟩
                    have hX56 : FX s0.1 s56.1 := FX_tr hX55 hY56
                    have hC56 : s56.2 = s0.2 := hc56.trans hC55
                    have hq56 : s56.1 131 1 = (C : Int) := (hY56 131 1 (by unfold fx; omega)).trans hq55
                    show wr (d + 244) tb_M20 174 [(5, vi z52), (4, vi z45), (3, vi z9), (2, vi l2), (0, .ref 131), (1, .ref C)] [] s56 _
                    refine wr_n (pc2 := 182) (lv2 := [(5, vi z52), (4, vi z45), (3, vi z9), (2, vi l2), (0, .ref 131), (1, .ref C)]) (st2 := []) 1 (fun _ _ => rfl) ?_
                    refine wr_inc (a := l2) rfl rfl ?_
                    show wr (d + 244) tb_M20 185 [(2, vi (l2 + 1)), (5, vi z52), (4, vi z45), (3, vi z9), (0, .ref 131), (1, .ref C)] [] s56 _
                    refine wr_n (pc2 := 42) (lv2 := [(2, vi (l2 + 1)), (5, vi z52), (4, vi z45), (3, vi z9), (0, .ref 131), (1, .ref C)]) (st2 := []) 1 (fun _ _ => rfl) ?_
                    exact (k_program5_42v2 hC _).1 (l2 + 1) z52 z45 z9 s56 rfl hK56 hq56 hX56 hC56 (by omega) (by omega) (by omega) (by omega)  
                  · refine .inr ⟨rfl, ?_⟩
                    exact ⟨hK55, (FX_tr hX45 hY55), .inr ⟨rfl, TH hC45 hc55⟩⟩
                · refine wr_if2f rfl rfl (by unfold i32; omega) (by unfold i32; omega) h54 ?_
                  refine wr_n (pc2 := 158) (lv2 := [(5, vi z52), (4, vi z45), (3, vi z9), (2, vi l2), (0, .ref 131), (1, .ref C)]) (st2 := [vi z52, .ref 131, vi z45, .ref 131]) 2 (fun _ _ => rfl) ?_
                  refine wr_call1T (args := [vi z52]) (rest := [vi z45, .ref 131]) rfl rfl rfl rfl (Nat.le_of_ble_eq_true rfl) rfl (cr_mono (k_funBody (d := d + 4) (C := C) hC (x := z52) s45 hK45 hq45 (by omega)) ?_)
                  rintro s57 out ⟨hK57, hY57, ⟨z57, hc57, rfl, hz57, hp57⟩ | ⟨rfl, hc57⟩⟩
                  · refine .inl ⟨_, rfl, ?_⟩
                    have hX57 : FX s0.1 s57.1 := FX_tr hX45 hY57
                    have hC57 : s57.2 = s0.2 := hc57.trans hC45
                    have hq57 : s57.1 131 1 = (C : Int) := (hY57 131 1 (by unfold fx; omega)).trans hq45
                    unfold i32 at hz57
                    clear hp57
                    show wr (d + 244) tb_M20 161 [(5, vi z52), (4, vi z45), (3, vi z9), (2, vi l2), (0, .ref 131), (1, .ref C)] [vi z57, vi z45, .ref 131] s57 _
                    refine wr_n (pc2 := 171) (lv2 := [(5, vi z52), (4, vi z45), (3, vi z9), (2, vi l2), (0, .ref 131), (1, .ref C)]) (st2 := [vi z57, vi z45, .ref 131]) 1 (fun _ _ => rfl) ?_
                    refine wr_call1 (args := [vi z45, vi z57]) (rest := []) rfl rfl rfl rfl (Nat.le_of_ble_eq_true rfl) (cr_mono (k_routineFoot (d := d + 243) (C := C) hC (x := z45) (y := z57) s57 hK57 hq57 (by omega) (by omega)) ?_)
                    rintro s58 out ⟨hK58, hY58, hc58, rfl⟩
                    refine ⟨_, rfl, ?_⟩
                    have hX58 : FX s0.1 s58.1 := FX_tr hX57 hY58
                    have hC58 : s58.2 = s0.2 := hc58.trans hC57
                    have hq58 : s58.1 131 1 = (C : Int) := (hY58 131 1 (by unfold fx; omega)).trans hq57
                    show wr (d + 244) tb_M20 174 [(5, vi z52), (4, vi z45), (3, vi z9), (2, vi l2), (0, .ref 131), (1, .ref C)] [] s58 _
                    refine wr_n (pc2 := 182) (lv2 := [(5, vi z52), (4, vi z45), (3, vi z9), (2, vi l2), (0, .ref 131), (1, .ref C)]) (st2 := []) 1 (fun _ _ => rfl) ?_
                    refine wr_inc (a := l2) rfl rfl ?_
                    show wr (d + 244) tb_M20 185 [(2, vi (l2 + 1)), (5, vi z52), (4, vi z45), (3, vi z9), (0, .ref 131), (1, .ref C)] [] s58 _
                    refine wr_n (pc2 := 42) (lv2 := [(2, vi (l2 + 1)), (5, vi z52), (4, vi z45), (3, vi z9), (0, .ref 131), (1, .ref C)]) (st2 := []) 1 (fun _ _ => rfl) ?_
                    exact (k_program5_42v2 hC _).1 (l2 + 1) z52 z45 z9 s58 rfl hK58 hq58 hX58 hC58 (by omega) (by omega) (by omega) (by omega)  
                  · refine .inr ⟨rfl, ?_⟩
                    exact ⟨hK57, (FX_tr hX45 hY57), .inr ⟨rfl, TH hC45 hc57⟩⟩
              · refine .inr ⟨rfl, ?_⟩
                exact ⟨hK45, (FX_tr hX11 hY45), .inr ⟨rfl, TH hC11 hc45⟩⟩
            · refine wr_if2f rfl rfl (by unfold i32; omega) (by unfold i32; omega) h44 ?_
              refine wr_n (pc2 := 118) (lv2 := [(3, vi z9), (2, vi l2), (0, .ref 131), (1, .ref C)]) (st2 := [vi 6, .ref 131]) 2 (fun _ _ => rfl) ?_
              refine wr_call1T (args := [vi 6]) (rest := []) rfl rfl rfl rfl (Nat.le_of_ble_eq_true rfl) rfl (cr_mono (k_routineHead (d := d + 239) (C := C) hC (x := 6) s11 hK11 hq11 (by omega)) ?_)
              rintro s59 out ⟨hK59, hY59, ⟨z59, hc59, rfl, hz59, hp59⟩ | ⟨rfl, hc59⟩⟩
              · refine .inl ⟨_, rfl, ?_⟩
                have hX59 : FX s0.1 s59.1 := FX_tr hX11 hY59
                have hC59 : s59.2 = s0.2 := hc59.trans hC11
                have hq59 : s59.1 131 1 = (C : Int) := (hY59 131 1 (by unfold fx; omega)).trans hq11
                unfold i32 at hz59
                clear hp59
                show wr (d + 244) tb_M20 121 [(3, vi z9), (2, vi l2), (0, .ref 131), (1, .ref C)] [vi z59] s59 _
                refine wr_n (pc2 := 124) (lv2 := [(4, vi z59), (3, vi z9), (2, vi l2), (0, .ref 131), (1, .ref C)]) (st2 := [.ref 131]) 2 (fun _ _ => rfl) ?_
                refine wr_get (v := .ref C) rfl rfl rfl (by decide) (rv_ref (show (s59.1) 131 1 = ((C : Nat) : Int) from hq59)) fun h60 => ?_
                show wr (d + 244) tb_M20 127 [(4, vi z59), (3, vi z9), (2, vi l2), (0, .ref 131), (1, .ref C)] [.ref C] s59 _
                refine wr_get (v := .ref (C + 6)) rfl rfl (TK0 hC) (by decide) (rv_ref (hK59.1 C 5 (C + 6) (rcK hC (by omega)))) fun h61 => ?_
                show wr (d + 244) tb_M20 130 [(4, vi z59), (3, vi z9), (2, vi l2), (0, .ref 131), (1, .ref C)] [.ref (C + 6)] s59 _
                refine wr_get (v := vi (s59.1 (C + 6) 3)) rfl rfl (TK6 hC) (by decide) rfl fun h62 => ?_
                have h62 : -2147483648 ≤ s59.1 (C + 6) 3 ∧ s59.1 (C + 6) 3 ≤ 2147483647 := h62
                show wr (d + 244) tb_M20 133 [(4, vi z59), (3, vi z9), (2, vi l2), (0, .ref 131), (1, .ref C)] [vi (s59.1 (C + 6) 3)] s59 _
                have hb63 : 0 ≤ s59.1 (C + 6) 3 ∧ s59.1 (C + 6) 3 ≤ 58 := kb_to (kC6_3 hC) (hK59.2 (C + 6) 3)
                refine wr_n (pc2 := 134) (lv2 := [(4, vi z59), (3, vi z9), (2, vi l2), (0, .ref 131), (1, .ref C)]) (st2 := [.ref 131, vi (s59.1 (C + 6) 3)]) 1 (fun _ _ => rfl) ?_
                refine wr_get (v := .ref C) rfl rfl rfl (by decide) (rv_ref (show (s59.1) 131 1 = ((C : Nat) : Int) from hq59)) fun h64 => ?_
                show wr (d + 244) tb_M20 137 [(4, vi z59), (3, vi z9), (2, vi l2), (0, .ref 131), (1, .ref C)] [.ref C, vi (s59.1 (C + 6) 3)] s59 _
                refine wr_n (pc2 := 139) (lv2 := [(4, vi z59), (3, vi z9), (2, vi l2), (0, .ref 131), (1, .ref C)]) (st2 := [vi z59, .ref C, vi (s59.1 (C + 6) 3)]) 1 (fun _ _ => rfl) ?_
                refine wr_call1 (args := [vi z59]) (rest := [vi (s59.1 (C + 6) 3)]) rfl rfl rfl (TK0 hC) (Nat.le_of_ble_eq_true rfl) (cr_mono (k_par (d := d + 243) (C := C) hC (x := z59) s59 hK59 (by omega)) ?_)
                rintro s65 out ⟨z65, rfl, hz65, hp65, e65⟩
                refine ⟨_, rfl, ?_⟩
                rw [e65]
                unfold i32 at hz65
                clear hp65
                show wr (d + 244) tb_M20 142 [(4, vi z59), (3, vi z9), (2, vi l2), (0, .ref 131), (1, .ref C)] [vi z65, vi (s59.1 (C + 6) 3)] s59 _
                refine wr_any2 rfl rfl fun z66 h67 => ?_
                unfold i32 at h67
                show wr (d + 244) tb_M20 143 [(4, vi z59), (3, vi z9), (2, vi l2), (0, .ref 131), (1, .ref C)] [vi z66] s59 _
                refine wr_n (pc2 := 152) (lv2 := [(5, vi z66), (4, vi z59), (3, vi z9), (2, vi l2), (0, .ref 131), (1, .ref C)]) (st2 := [vi 307, vi z9, vi z59, .ref 131]) 5 (fun _ _ => rfl) ?_
                by_cases h68 : z9 ≠ 307
                · refine wr_if2t rfl rfl (by unfold i32; omega) (by unfold i32; omega) h68 ?_
                  refine wr_n (pc2 := 168) (lv2 := [(5, vi z66), (4, vi z59), (3, vi z9), (2, vi l2), (0, .ref 131), (1, .ref C)]) (st2 := [vi z66, vi 0, .ref 131, vi z59, .ref 131]) 3 (fun _ _ => rfl) ?_
                  refine wr_call1T (args := [vi 0, vi z66]) (rest := [vi z59, .ref 131]) rfl rfl rfl rfl (Nat.le_of_ble_eq_true rfl) rfl (cr_mono (cr_up (by omega) (k_JB C s59 0 z66 hC hK59 hq59 (by omega) (by omega))) ?_)
                  rintro s69 out ⟨hK69, hY69, ⟨z69, hc69, rfl, hz69, hp69⟩ | ⟨rfl, hc69⟩⟩
                  · refine .inl ⟨_, rfl, ?_⟩
                    have hX69 : FX s0.1 s69.1 := FX_tr hX59 hY69
                    have hC69 : s69.2 = s0.2 := hc69.trans hC59
                    have hq69 : s69.1 131 1 = (C : Int) := (hY69 131 1 (by unfold fx; omega)).trans hq59
                    unfold i32 at hz69
                    clear hp69
                    show wr (d + 244) tb_M20 171 [(5, vi z66), (4, vi z59), (3, vi z9), (2, vi l2), (0, .ref 131), (1, .ref C)] [vi z69, vi z59, .ref 131] s69 _
                    refine wr_call1 (args := [vi z59, vi z69]) (rest := []) rfl rfl rfl rfl (Nat.le_of_ble_eq_true rfl) (cr_mono (k_routineFoot (d := d + 243) (C := C) hC (x := z59) (y := z69) s69 hK69 hq69 (by omega) (by omega)) ?_)
                    rintro s70 out ⟨hK70, hY70, hc70, rfl⟩
                    refine ⟨_, rfl, ?_⟩
                    have hX70 : FX s0.1 s70.1 := FX_tr hX69 hY70
                    have hC70 : s70.2 = s0.2 := hc70.trans hC69
                    have hq70 : s70.1 131 1 = (C : Int) := (hY70 131 1 (by unfold fx; omega)).trans hq69
                    show wr (d + 244) tb_M20 174 [(5, vi z66), (4, vi z59), (3, vi z9), (2, vi l2), (0, .ref 131), (1, .ref C)] [] s70 _
                    refine wr_n (pc2 := 182) (lv2 := [(5, vi z66), (4, vi z59), (3, vi z9), (2, vi l2), (0, .ref 131), (1, .ref C)]) (st2 := []) 1 (fun _ _ => rfl) ?_
                    refine wr_inc (a := l2) rfl rfl ?_
                    show wr (d + 244) tb_M20 185 [(2, vi (l2 + 1)), (5, vi z66), (4, vi z59), (3, vi z9), (0, .ref 131), (1, .ref C)] [] s70 _
                    refine wr_n (pc2 := 42) (lv2 := [(2, vi (l2 + 1)), (5, vi z66), (4, vi z59), (3, vi z9), (0, .ref 131), (1, .ref C)]) (st2 := []) 1 (fun _ _ => rfl) ?_
                    exact (k_program5_42v2 hC _).1 (l2 + 1) z66 z59 z9 s70 rfl hK70 hq70 hX70 hC70 (by omega) (by omega) (by omega) (by omega)  
                  · refine .inr ⟨rfl, ?_⟩
                    exact ⟨hK69, (FX_tr hX59 hY69), .inr ⟨rfl, TH hC59 hc69⟩⟩
                · refine wr_if2f rfl rfl (by unfold i32; omega) (by unfold i32; omega) h68 ?_
                  refine wr_n (pc2 := 158) (lv2 := [(5, vi z66), (4, vi z59), (3, vi z9), (2, vi l2), (0, .ref 131), (1, .ref C)]) (st2 := [vi z66, .ref 131, vi z59, .ref 131]) 2 (fun _ _ => rfl) ?_
                  refine wr_call1T (args := [vi z66]) (rest := [vi z59, .ref 131]) rfl rfl rfl rfl (Nat.le_of_ble_eq_true rfl) rfl (cr_mono (k_funBody (d := d + 4) (C := C) hC (x := z66) s59 hK59 hq59 (by omega)) ?_)
                  rintro s71 out ⟨hK71, hY71, ⟨z71, hc71, rfl, hz71, hp71⟩ | ⟨rfl, hc71⟩⟩
                  · refine .inl ⟨_, rfl, ?_⟩
                    have hX71 : FX s0.1 s71.1 := FX_tr hX59 hY71
                    have hC71 : s71.2 = s0.2 := hc71.trans hC59
                    have hq71 : s71.1 131 1 = (C : Int) := (hY71 131 1 (by unfold fx; omega)).trans hq59
                    unfold i32 at hz71
                    clear hp71
                    show wr (d + 244) tb_M20 161 [(5, vi z66), (4, vi z59), (3, vi z9), (2, vi l2), (0, .ref 131), (1, .ref C)] [vi z71, vi z59, .ref 131] s71 _
                    refine wr_n (pc2 := 171) (lv2 := [(5, vi z66), (4, vi z59), (3, vi z9), (2, vi l2), (0, .ref 131), (1, .ref C)]) (st2 := [vi z71, vi z59, .ref 131]) 1 (fun _ _ => rfl) ?_
                    refine wr_call1 (args := [vi z59, vi z71]) (rest := []) rfl rfl rfl rfl (Nat.le_of_ble_eq_true rfl) (cr_mono (k_routineFoot (d := d + 243) (C := C) hC (x := z59) (y := z71) s71 hK71 hq71 (by omega) (by omega)) ?_)
                    rintro s72 out ⟨hK72, hY72, hc72, rfl⟩
                    refine ⟨_, rfl, ?_⟩
                    have hX72 : FX s0.1 s72.1 := FX_tr hX71 hY72
                    have hC72 : s72.2 = s0.2 := hc72.trans hC71
                    have hq72 : s72.1 131 1 = (C : Int) := (hY72 131 1 (by unfold fx; omega)).trans hq71
                    show wr (d + 244) tb_M20 174 [(5, vi z66), (4, vi z59), (3, vi z9), (2, vi l2), (0, .ref 131), (1, .ref C)] [] s72 _
                    refine wr_n (pc2 := 182) (lv2 := [(5, vi z66), (4, vi z59), (3, vi z9), (2, vi l2), (0, .ref 131), (1, .ref C)]) (st2 := []) 1 (fun _ _ => rfl) ?_
                    refine wr_inc (a := l2) rfl rfl ?_
                    show wr (d + 244) tb_M20 185 [(2, vi (l2 + 1)), (5, vi z66), (4, vi z59), (3, vi z9), (0, .ref 131), (1, .ref C)] [] s72 _
                    refine wr_n (pc2 := 42) (lv2 := [(2, vi (l2 + 1)), (5, vi z66), (4, vi z59), (3, vi z9), (0, .ref 131), (1, .ref C)]) (st2 := []) 1 (fun _ _ => rfl) ?_
                    exact (k_program5_42v2 hC _).1 (l2 + 1) z66 z59 z9 s72 rfl hK72 hq72 hX72 hC72 (by omega) (by omega) (by omega) (by omega)  
                  · refine .inr ⟨rfl, ?_⟩
                    exact ⟨hK71, (FX_tr hX59 hY71), .inr ⟨rfl, TH hC59 hc71⟩⟩
              · refine .inr ⟨rfl, ?_⟩
                exact ⟨hK59, (FX_tr hX11 hY59), .inr ⟨rfl, TH hC11 hc59⟩⟩
set_option maxHeartbeats 20000000 in
set_option maxRecDepth 100000 in
theorem k_program5_42 {d : Nat} {s0 : rS} {C : Nat} (hC : C = 99 ∨ C = 115)  : ∀ (w : Nat) (l2 : Int) (s : rS), (2000 - l2).toNat = w → KI s.1 → s.1 131 1 = (C : Int) → FX s0.1 s.1 → s.2 = s0.2 → 0 ≤ l2 ∧ l2 ≤ 2000 → wr (d + 244) tb_M20 42 [(2, vi l2), (0, .ref 131), (1, .ref C)] [] s (TV s0) := by
  intro w
  induction w using Nat.strongRecOn with | ind w ih => ?_
  intro l2 s hw hK hq hX hc hl2
  refine wr_n (pc2 := 46) (lv2 := [(2, vi l2), (0, .ref 131), (1, .ref C)]) (st2 := [vi 2000, vi l2]) 2 (fun _ _ => rfl) ?_
  by_cases h1 : 2000 ≤ l2
  · refine wr_if2t rfl rfl (by unfold i32; omega) (by unfold i32; omega) h1 ?_
    exact k_program5_188 hC l2 s hK hq hX hc (by omega)  
  · refine wr_if2f rfl rfl (by unfold i32; omega) (by unfold i32; omega) h1 ?_
    refine wr_n (pc2 := 50) (lv2 := [(2, vi l2), (0, .ref 131), (1, .ref C)]) (st2 := [.ref 131]) 1 (fun _ _ => rfl) ?_
    refine wr_get (v := .ref 137) rfl rfl rfl (by decide) (rv_ref (hK.1 131 0 137 rfl)) fun h2 => ?_
    show wr (d + 244) tb_M20 53 [(2, vi l2), (0, .ref 131), (1, .ref C)] [.ref 137] s _
    refine wr_call1 (args := []) (rest := []) rfl rfl rfl rfl (Nat.le_of_ble_eq_true rfl) (cr_mono (k_kind (d := d + 243) s hK) ?_)
    rintro s3 out ⟨z3, rfl, hz3, hp3, e3⟩
    refine ⟨_, rfl, ?_⟩
    rw [e3]
    unfold i32 at hz3
    clear hp3
    show wr (d + 244) tb_M20 56 [(2, vi l2), (0, .ref 131), (1, .ref C)] [vi z3] s _
    refine wr_n (pc2 := 59) (lv2 := [(2, vi l2), (0, .ref 131), (1, .ref C)]) (st2 := [vi 300, vi z3]) 1 (fun _ _ => rfl) ?_
    by_cases h4 : z3 < 300
    · refine wr_if2t rfl rfl (by unfold i32; omega) (by unfold i32; omega) h4 ?_
      exact k_program5_188 hC l2 s hK hq hX hc (by omega)  
    · refine wr_if2f rfl rfl (by unfold i32; omega) (by unfold i32; omega) h4 ?_
      refine wr_n (pc2 := 63) (lv2 := [(2, vi l2), (0, .ref 131), (1, .ref C)]) (st2 := [.ref 131]) 1 (fun _ _ => rfl) ?_
      refine wr_get (v := .ref 137) rfl rfl rfl (by decide) (rv_ref (hK.1 131 0 137 rfl)) fun h5 => ?_
      show wr (d + 244) tb_M20 66 [(2, vi l2), (0, .ref 131), (1, .ref C)] [.ref 137] s _
      refine wr_call1 (args := []) (rest := []) rfl rfl rfl rfl (Nat.le_of_ble_eq_true rfl) (cr_mono (k_kind (d := d + 243) s hK) ?_)
      rintro s6 out ⟨z6, rfl, hz6, hp6, e6⟩
      refine ⟨_, rfl, ?_⟩
      rw [e6]
      unfold i32 at hz6
      clear hp6
      show wr (d + 244) tb_M20 69 [(2, vi l2), (0, .ref 131), (1, .ref C)] [vi z6] s _
      refine wr_n (pc2 := 72) (lv2 := [(2, vi l2), (0, .ref 131), (1, .ref C)]) (st2 := [vi 307, vi z6]) 1 (fun _ _ => rfl) ?_
      by_cases h7 : 307 < z6
      · refine wr_if2t rfl rfl (by unfold i32; omega) (by unfold i32; omega) h7 ?_
        exact k_program5_188 hC l2 s hK hq hX hc (by omega)  
      · refine wr_if2f rfl rfl (by unfold i32; omega) (by unfold i32; omega) h7 ?_
        refine wr_n (pc2 := 76) (lv2 := [(2, vi l2), (0, .ref 131), (1, .ref C)]) (st2 := [.ref 131]) 1 (fun _ _ => rfl) ?_
        refine wr_get (v := .ref 137) rfl rfl rfl (by decide) (rv_ref (hK.1 131 0 137 rfl)) fun h8 => ?_
        show wr (d + 244) tb_M20 79 [(2, vi l2), (0, .ref 131), (1, .ref C)] [.ref 137] s _
        refine wr_call1 (args := []) (rest := []) rfl rfl rfl rfl (Nat.le_of_ble_eq_true rfl) (cr_mono (k_kind (d := d + 243) s hK) ?_)
        rintro s9 out ⟨z9, rfl, hz9, hp9, e9⟩
        refine ⟨_, rfl, ?_⟩
        rw [e9]
        unfold i32 at hz9
        clear hp9
        show wr (d + 244) tb_M20 82 [(2, vi l2), (0, .ref 131), (1, .ref C)] [vi z9] s _
        refine wr_n (pc2 := 84) (lv2 := [(3, vi z9), (2, vi l2), (0, .ref 131), (1, .ref C)]) (st2 := [.ref 131]) 2 (fun _ _ => rfl) ?_
        refine wr_get (v := .ref 137) rfl rfl rfl (by decide) (rv_ref (hK.1 131 0 137 rfl)) fun h10 => ?_
        show wr (d + 244) tb_M20 87 [(3, vi z9), (2, vi l2), (0, .ref 131), (1, .ref C)] [.ref 137] s _
        refine wr_call1 (args := []) (rest := []) rfl rfl rfl rfl (Nat.le_of_ble_eq_true rfl) (cr_mono (k_step (d := d + 243) s hK) ?_)
        rintro s11 out ⟨hK11, hY11, hc11, rfl⟩
        refine ⟨_, rfl, ?_⟩
        have hX11 : FX s0.1 s11.1 := FX_tr hX hY11
        have hC11 : s11.2 = s0.2 := hc11.trans hc
        have hq11 : s11.1 131 1 = (C : Int) := (hY11 131 1 (by unfold fx; omega)).trans hq
        show wr (d + 244) tb_M20 90 [(3, vi z9), (2, vi l2), (0, .ref 131), (1, .ref C)] [] s11 _
        refine wr_n (pc2 := 94) (lv2 := [(3, vi z9), (2, vi l2), (0, .ref 131), (1, .ref C)]) (st2 := [vi 306, vi z9]) 2 (fun _ _ => rfl) ?_
        by_cases h12 : z9 = 306
        · refine wr_if2t rfl rfl (by unfold i32; omega) (by unfold i32; omega) h12 ?_
          refine wr_n (pc2 := 109) (lv2 := [(3, vi z9), (2, vi l2), (0, .ref 131), (1, .ref C)]) (st2 := [vi 307, vi z9, .ref 131]) 3 (fun _ _ => rfl) ?_
          by_cases h13 : z9 ≠ 307
          · refine wr_if2t rfl rfl (by unfold i32; omega) (by unfold i32; omega) h13 ?_
            refine wr_n (pc2 := 118) (lv2 := [(3, vi z9), (2, vi l2), (0, .ref 131), (1, .ref C)]) (st2 := [vi 5, .ref 131]) 1 (fun _ _ => rfl) ?_
            refine wr_call1T (args := [vi 5]) (rest := []) rfl rfl rfl rfl (Nat.le_of_ble_eq_true rfl) rfl (cr_mono (k_routineHead (d := d + 239) (C := C) hC (x := 5) s11 hK11 hq11 (by omega)) ?_)
            rintro s14 out ⟨hK14, hY14, ⟨z14, hc14, rfl, hz14, hp14⟩ | ⟨rfl, hc14⟩⟩
            · refine .inl ⟨_, rfl, ?_⟩
              have hX14 : FX s0.1 s14.1 := FX_tr hX11 hY14
              have hC14 : s14.2 = s0.2 := hc14.trans hC11
              have hq14 : s14.1 131 1 = (C : Int) := (hY14 131 1 (by unfold fx; omega)).trans hq11
              unfold i32 at hz14
              clear hp14
              show wr (d + 244) tb_M20 121 [(3, vi z9), (2, vi l2), (0, .ref 131), (1, .ref C)] [vi z14] s14 _
              refine wr_n (pc2 := 124) (lv2 := [(4, vi z14), (3, vi z9), (2, vi l2), (0, .ref 131), (1, .ref C)]) (st2 := [.ref 131]) 2 (fun _ _ => rfl) ?_
              refine wr_get (v := .ref C) rfl rfl rfl (by decide) (rv_ref (show (s14.1) 131 1 = ((C : Nat) : Int) from hq14)) fun h15 => ?_
              show wr (d + 244) tb_M20 127 [(4, vi z14), (3, vi z9), (2, vi l2), (0, .ref 131), (1, .ref C)] [.ref C] s14 _
              refine wr_get (v := .ref (C + 6)) rfl rfl (TK0 hC) (by decide) (rv_ref (hK14.1 C 5 (C + 6) (rcK hC (by omega)))) fun h16 => ?_
              show wr (d + 244) tb_M20 130 [(4, vi z14), (3, vi z9), (2, vi l2), (0, .ref 131), (1, .ref C)] [.ref (C + 6)] s14 _
              refine wr_get (v := vi (s14.1 (C + 6) 3)) rfl rfl (TK6 hC) (by decide) rfl fun h17 => ?_
              have h17 : -2147483648 ≤ s14.1 (C + 6) 3 ∧ s14.1 (C + 6) 3 ≤ 2147483647 := h17
              show wr (d + 244) tb_M20 133 [(4, vi z14), (3, vi z9), (2, vi l2), (0, .ref 131), (1, .ref C)] [vi (s14.1 (C + 6) 3)] s14 _
              have hb18 : 0 ≤ s14.1 (C + 6) 3 ∧ s14.1 (C + 6) 3 ≤ 58 := kb_to (kC6_3 hC) (hK14.2 (C + 6) 3)
              refine wr_n (pc2 := 134) (lv2 := [(4, vi z14), (3, vi z9), (2, vi l2), (0, .ref 131), (1, .ref C)]) (st2 := [.ref 131, vi (s14.1 (C + 6) 3)]) 1 (fun _ _ => rfl) ?_
              refine wr_get (v := .ref C) rfl rfl rfl (by decide) (rv_ref (show (s14.1) 131 1 = ((C : Nat) : Int) from hq14)) fun h19 => ?_
              show wr (d + 244) tb_M20 137 [(4, vi z14), (3, vi z9), (2, vi l2), (0, .ref 131), (1, .ref C)] [.ref C, vi (s14.1 (C + 6) 3)] s14 _
              refine wr_n (pc2 := 139) (lv2 := [(4, vi z14), (3, vi z9), (2, vi l2), (0, .ref 131), (1, .ref C)]) (st2 := [vi z14, .ref C, vi (s14.1 (C + 6) 3)]) 1 (fun _ _ => rfl) ?_
              refine wr_call1 (args := [vi z14]) (rest := [vi (s14.1 (C + 6) 3)]) rfl rfl rfl (TK0 hC) (Nat.le_of_ble_eq_true rfl) (cr_mono (k_par (d := d + 243) (C := C) hC (x := z14) s14 hK14 (by omega)) ?_)
              rintro s20 out ⟨z20, rfl, hz20, hp20, e20⟩
              refine ⟨_, rfl, ?_⟩
              rw [e20]
              unfold i32 at hz20
              clear hp20
              show wr (d + 244) tb_M20 142 [(4, vi z14), (3, vi z9), (2, vi l2), (0, .ref 131), (1, .ref C)] [vi z20, vi (s14.1 (C + 6) 3)] s14 _
              refine wr_any2 rfl rfl fun z21 h22 => ?_
              unfold i32 at h22
              show wr (d + 244) tb_M20 143 [(4, vi z14), (3, vi z9), (2, vi l2), (0, .ref 131), (1, .ref C)] [vi z21] s14 _
              refine wr_n (pc2 := 152) (lv2 := [(5, vi z21), (4, vi z14), (3, vi z9), (2, vi l2), (0, .ref 131), (1, .ref C)]) (st2 := [vi 307, vi z9, vi z14, .ref 131]) 5 (fun _ _ => rfl) ?_
              by_cases h23 : z9 ≠ 307
              · refine wr_if2t rfl rfl (by unfold i32; omega) (by unfold i32; omega) h23 ?_
                refine wr_n (pc2 := 168) (lv2 := [(5, vi z21), (4, vi z14), (3, vi z9), (2, vi l2), (0, .ref 131), (1, .ref C)]) (st2 := [vi z21, vi 0, .ref 131, vi z14, .ref 131]) 3 (fun _ _ => rfl) ?_
                refine wr_call1T (args := [vi 0, vi z21]) (rest := [vi z14, .ref 131]) rfl rfl rfl rfl (Nat.le_of_ble_eq_true rfl) rfl (cr_mono (cr_up (by omega) (k_JB C s14 0 z21 hC hK14 hq14 (by omega) (by omega))) ?_)
                rintro s24 out ⟨hK24, hY24, ⟨z24, hc24, rfl, hz24, hp24⟩ | ⟨rfl, hc24⟩⟩
                · refine .inl ⟨_, rfl, ?_⟩
                  have hX24 : FX s0.1 s24.1 := FX_tr hX14 hY24
                  have hC24 : s24.2 = s0.2 := hc24.trans hC14
                  have hq24 : s24.1 131 1 = (C : Int) := (hY24 131 1 (by unfold fx; omega)).trans hq14
                  unfold i32 at hz24
                  clear hp24
                  show wr (d + 244) tb_M20 171 [(5, vi z21), (4, vi z14), (3, vi z9), (2, vi l2), (0, .ref 131), (1, .ref C)] [vi z24, vi z14, .ref 131] s24 _
                  refine wr_call1 (args := [vi z14, vi z24]) (rest := []) rfl rfl rfl rfl (Nat.le_of_ble_eq_true rfl) (cr_mono (k_routineFoot (d := d + 243) (C := C) hC (x := z14) (y := z24) s24 hK24 hq24 (by omega) (by omega)) ?_)
                  rintro s25 out ⟨hK25, hY25, hc25, rfl⟩
                  refine ⟨_, rfl, ?_⟩
                  have hX25 : FX s0.1 s25.1 := FX_tr hX24 hY25
                  have hC25 : s25.2 = s0.2 := hc25.trans hC24
                  have hq25 : s25.1 131 1 = (C : Int) := (hY25 131 1 (by unfold fx; omega)).trans hq24
                  show wr (d + 244) tb_M20 174 [(5, vi z21), (4, vi z14), (3, vi z9), (2, vi l2), (0, .ref 131), (1, .ref C)] [] s25 _
                  refine wr_n (pc2 := 182) (lv2 := [(5, vi z21), (4, vi z14), (3, vi z9), (2, vi l2), (0, .ref 131), (1, .ref C)]) (st2 := []) 1 (fun _ _ => rfl) ?_
                  refine wr_inc (a := l2) rfl rfl ?_
                  show wr (d + 244) tb_M20 185 [(2, vi (l2 + 1)), (5, vi z21), (4, vi z14), (3, vi z9), (0, .ref 131), (1, .ref C)] [] s25 _
                  refine wr_n (pc2 := 42) (lv2 := [(2, vi (l2 + 1)), (5, vi z21), (4, vi z14), (3, vi z9), (0, .ref 131), (1, .ref C)]) (st2 := []) 1 (fun _ _ => rfl) ?_
                  exact (k_program5_42v2 hC _).1 (l2 + 1) z21 z14 z9 s25 rfl hK25 hq25 hX25 hC25 (by omega) (by omega) (by omega) (by omega)  
                · refine .inr ⟨rfl, ?_⟩
                  exact ⟨hK24, (FX_tr hX14 hY24), .inr ⟨rfl, TH hC14 hc24⟩⟩
              · refine wr_if2f rfl rfl (by unfold i32; omega) (by unfold i32; omega) h23 ?_
                refine wr_n (pc2 := 158) (lv2 := [(5, vi z21), (4, vi z14), (3, vi z9), (2, vi l2), (0, .ref 131), (1, .ref C)]) (st2 := [vi z21, .ref 131, vi z14, .ref 131]) 2 (fun _ _ => rfl) ?_
                refine wr_call1T (args := [vi z21]) (rest := [vi z14, .ref 131]) rfl rfl rfl rfl (Nat.le_of_ble_eq_true rfl) rfl (cr_mono (k_funBody (d := d + 4) (C := C) hC (x := z21) s14 hK14 hq14 (by omega)) ?_)
                rintro s26 out ⟨hK26, hY26, ⟨z26, hc26, rfl, hz26, hp26⟩ | ⟨rfl, hc26⟩⟩
                · refine .inl ⟨_, rfl, ?_⟩
                  have hX26 : FX s0.1 s26.1 := FX_tr hX14 hY26
                  have hC26 : s26.2 = s0.2 := hc26.trans hC14
                  have hq26 : s26.1 131 1 = (C : Int) := (hY26 131 1 (by unfold fx; omega)).trans hq14
                  unfold i32 at hz26
                  clear hp26
                  show wr (d + 244) tb_M20 161 [(5, vi z21), (4, vi z14), (3, vi z9), (2, vi l2), (0, .ref 131), (1, .ref C)] [vi z26, vi z14, .ref 131] s26 _
                  refine wr_n (pc2 := 171) (lv2 := [(5, vi z21), (4, vi z14), (3, vi z9), (2, vi l2), (0, .ref 131), (1, .ref C)]) (st2 := [vi z26, vi z14, .ref 131]) 1 (fun _ _ => rfl) ?_
                  refine wr_call1 (args := [vi z14, vi z26]) (rest := []) rfl rfl rfl rfl (Nat.le_of_ble_eq_true rfl) (cr_mono (k_routineFoot (d := d + 243) (C := C) hC (x := z14) (y := z26) s26 hK26 hq26 (by omega) (by omega)) ?_)
                  rintro s27 out ⟨hK27, hY27, hc27, rfl⟩
                  refine ⟨_, rfl, ?_⟩
                  have hX27 : FX s0.1 s27.1 := FX_tr hX26 hY27
                  have hC27 : s27.2 = s0.2 := hc27.trans hC26
                  have hq27 : s27.1 131 1 = (C : Int) := (hY27 131 1 (by unfold fx; omega)).trans hq26
                  show wr (d + 244) tb_M20 174 [(5, vi z21), (4, vi z14), (3, vi z9), (2, vi l2), (0, .ref 131), (1, .ref C)] [] s27 _
                  refine wr_n (pc2 := 182) (lv2 := [(5, vi z21), (4, vi z14), (3, vi z9), (2, vi l2), (0, .ref 131), (1, .ref C)]) (st2 := []) 1 (fun _ _ => rfl) ?_
                  refine wr_inc (a := l2) rfl rfl ?_
                  show wr (d + 244) tb_M20 185 [(2, vi (l2 + 1)), (5, vi z21), (4, vi z14), (3, vi z9), (0, .ref 131), (1, .ref C)] [] s27 _
                  refine wr_n (pc2 := 42) (lv2 := [(2, vi (l2 + 1)), (5, vi z21), (4, vi z14), (3, vi z9), (0, .ref 131), (1, .ref C)]) (st2 := []) 1 (fun _ _ => rfl) ?_
                  exact (k_program5_42v2 hC _).1 (l2 + 1) z21 z14 z9 s27 rfl hK27 hq27 hX27 hC27 (by omega) (by omega) (by omega) (by omega)  
                · refine .inr ⟨rfl, ?_⟩
                  exact ⟨hK26, (FX_tr hX14 hY26), .inr ⟨rfl, TH hC14 hc26⟩⟩
            · refine .inr ⟨rfl, ?_⟩
              exact ⟨hK14, (FX_tr hX11 hY14), .inr ⟨rfl, TH hC11 hc14⟩⟩
          · refine wr_if2f rfl rfl (by unfold i32; omega) (by unfold i32; omega) h13 ?_
            refine wr_n (pc2 := 118) (lv2 := [(3, vi z9), (2, vi l2), (0, .ref 131), (1, .ref C)]) (st2 := [vi 6, .ref 131]) 2 (fun _ _ => rfl) ?_
            refine wr_call1T (args := [vi 6]) (rest := []) rfl rfl rfl rfl (Nat.le_of_ble_eq_true rfl) rfl (cr_mono (k_routineHead (d := d + 239) (C := C) hC (x := 6) s11 hK11 hq11 (by omega)) ?_)
            rintro s28 out ⟨hK28, hY28, ⟨z28, hc28, rfl, hz28, hp28⟩ | ⟨rfl, hc28⟩⟩
            · refine .inl ⟨_, rfl, ?_⟩
              have hX28 : FX s0.1 s28.1 := FX_tr hX11 hY28
              have hC28 : s28.2 = s0.2 := hc28.trans hC11
              have hq28 : s28.1 131 1 = (C : Int) := (hY28 131 1 (by unfold fx; omega)).trans hq11
              unfold i32 at hz28
              clear hp28
              show wr (d + 244) tb_M20 121 [(3, vi z9), (2, vi l2), (0, .ref 131), (1, .ref C)] [vi z28] s28 _
              refine wr_n (pc2 := 124) (lv2 := [(4, vi z28), (3, vi z9), (2, vi l2), (0, .ref 131), (1, .ref C)]) (st2 := [.ref 131]) 2 (fun _ _ => rfl) ?_
              refine wr_get (v := .ref C) rfl rfl rfl (by decide) (rv_ref (show (s28.1) 131 1 = ((C : Nat) : Int) from hq28)) fun h29 => ?_
              show wr (d + 244) tb_M20 127 [(4, vi z28), (3, vi z9), (2, vi l2), (0, .ref 131), (1, .ref C)] [.ref C] s28 _
              refine wr_get (v := .ref (C + 6)) rfl rfl (TK0 hC) (by decide) (rv_ref (hK28.1 C 5 (C + 6) (rcK hC (by omega)))) fun h30 => ?_
              show wr (d + 244) tb_M20 130 [(4, vi z28), (3, vi z9), (2, vi l2), (0, .ref 131), (1, .ref C)] [.ref (C + 6)] s28 _
              refine wr_get (v := vi (s28.1 (C + 6) 3)) rfl rfl (TK6 hC) (by decide) rfl fun h31 => ?_
              have h31 : -2147483648 ≤ s28.1 (C + 6) 3 ∧ s28.1 (C + 6) 3 ≤ 2147483647 := h31
              show wr (d + 244) tb_M20 133 [(4, vi z28), (3, vi z9), (2, vi l2), (0, .ref 131), (1, .ref C)] [vi (s28.1 (C + 6) 3)] s28 _
              have hb32 : 0 ≤ s28.1 (C + 6) 3 ∧ s28.1 (C + 6) 3 ≤ 58 := kb_to (kC6_3 hC) (hK28.2 (C + 6) 3)
              refine wr_n (pc2 := 134) (lv2 := [(4, vi z28), (3, vi z9), (2, vi l2), (0, .ref 131), (1, .ref C)]) (st2 := [.ref 131, vi (s28.1 (C + 6) 3)]) 1 (fun _ _ => rfl) ?_
              refine wr_get (v := .ref C) rfl rfl rfl (by decide) (rv_ref (show (s28.1) 131 1 = ((C : Nat) : Int) from hq28)) fun h33 => ?_
              show wr (d + 244) tb_M20 137 [(4, vi z28), (3, vi z9), (2, vi l2), (0, .ref 131), (1, .ref C)] [.ref C, vi (s28.1 (C + 6) 3)] s28 _
              refine wr_n (pc2 := 139) (lv2 := [(4, vi z28), (3, vi z9), (2, vi l2), (0, .ref 131), (1, .ref C)]) (st2 := [vi z28, .ref C, vi (s28.1 (C + 6) 3)]) 1 (fun _ _ => rfl) ?_
              refine wr_call1 (args := [vi z28]) (rest := [vi (s28.1 (C + 6) 3)]) rfl rfl rfl (TK0 hC) (Nat.le_of_ble_eq_true rfl) (cr_mono (k_par (d := d + 243) (C := C) hC (x := z28) s28 hK28 (by omega)) ?_)
              rintro s34 out ⟨z34, rfl, hz34, hp34, e34⟩
              refine ⟨_, rfl, ?_⟩
              rw [e34]
              unfold i32 at hz34
              clear hp34
              show wr (d + 244) tb_M20 142 [(4, vi z28), (3, vi z9), (2, vi l2), (0, .ref 131), (1, .ref C)] [vi z34, vi (s28.1 (C + 6) 3)] s28 _
              refine wr_any2 rfl rfl fun z35 h36 => ?_
              unfold i32 at h36
              show wr (d + 244) tb_M20 143 [(4, vi z28), (3, vi z9), (2, vi l2), (0, .ref 131), (1, .ref C)] [vi z35] s28 _
              refine wr_n (pc2 := 152) (lv2 := [(5, vi z35), (4, vi z28), (3, vi z9), (2, vi l2), (0, .ref 131), (1, .ref C)]) (st2 := [vi 307, vi z9, vi z28, .ref 131]) 5 (fun _ _ => rfl) ?_
              by_cases h37 : z9 ≠ 307
              · refine wr_if2t rfl rfl (by unfold i32; omega) (by unfold i32; omega) h37 ?_
                refine wr_n (pc2 := 168) (lv2 := [(5, vi z35), (4, vi z28), (3, vi z9), (2, vi l2), (0, .ref 131), (1, .ref C)]) (st2 := [vi z35, vi 0, .ref 131, vi z28, .ref 131]) 3 (fun _ _ => rfl) ?_
                refine wr_call1T (args := [vi 0, vi z35]) (rest := [vi z28, .ref 131]) rfl rfl rfl rfl (Nat.le_of_ble_eq_true rfl) rfl (cr_mono (cr_up (by omega) (k_JB C s28 0 z35 hC hK28 hq28 (by omega) (by omega))) ?_)
                rintro s38 out ⟨hK38, hY38, ⟨z38, hc38, rfl, hz38, hp38⟩ | ⟨rfl, hc38⟩⟩
                · refine .inl ⟨_, rfl, ?_⟩
                  have hX38 : FX s0.1 s38.1 := FX_tr hX28 hY38
                  have hC38 : s38.2 = s0.2 := hc38.trans hC28
                  have hq38 : s38.1 131 1 = (C : Int) := (hY38 131 1 (by unfold fx; omega)).trans hq28
                  unfold i32 at hz38
                  clear hp38
                  show wr (d + 244) tb_M20 171 [(5, vi z35), (4, vi z28), (3, vi z9), (2, vi l2), (0, .ref 131), (1, .ref C)] [vi z38, vi z28, .ref 131] s38 _
                  refine wr_call1 (args := [vi z28, vi z38]) (rest := []) rfl rfl rfl rfl (Nat.le_of_ble_eq_true rfl) (cr_mono (k_routineFoot (d := d + 243) (C := C) hC (x := z28) (y := z38) s38 hK38 hq38 (by omega) (by omega)) ?_)
                  rintro s39 out ⟨hK39, hY39, hc39, rfl⟩
                  refine ⟨_, rfl, ?_⟩
                  have hX39 : FX s0.1 s39.1 := FX_tr hX38 hY39
                  have hC39 : s39.2 = s0.2 := hc39.trans hC38
                  have hq39 : s39.1 131 1 = (C : Int) := (hY39 131 1 (by unfold fx; omega)).trans hq38
                  show wr (d + 244) tb_M20 174 [(5, vi z35), (4, vi z28), (3, vi z9), (2, vi l2), (0, .ref 131), (1, .ref C)] [] s39 _
                  refine wr_n (pc2 := 182) (lv2 := [(5, vi z35), (4, vi z28), (3, vi z9), (2, vi l2), (0, .ref 131), (1, .ref C)]) (st2 := []) 1 (fun _ _ => rfl) ?_
                  refine wr_inc (a := l2) rfl rfl ?_
                  show wr (d + 244) tb_M20 185 [(2, vi (l2 + 1)), (5, vi z35), (4, vi z28), (3, vi z9), (0, .ref 131), (1, .ref C)] [] s39 _
                  refine wr_n (pc2 := 42) (lv2 := [(2, vi (l2 + 1)), (5, vi z35), (4, vi z28), (3, vi z9), (0, .ref 131), (1, .ref C)]) (st2 := []) 1 (fun _ _ => rfl) ?_
                  exact (k_program5_42v2 hC _).1 (l2 + 1) z35 z28 z9 s39 rfl hK39 hq39 hX39 hC39 (by omega) (by omega) (by omega) (by omega)  
                · refine .inr ⟨rfl, ?_⟩
                  exact ⟨hK38, (FX_tr hX28 hY38), .inr ⟨rfl, TH hC28 hc38⟩⟩
              · refine wr_if2f rfl rfl (by unfold i32; omega) (by unfold i32; omega) h37 ?_
                refine wr_n (pc2 := 158) (lv2 := [(5, vi z35), (4, vi z28), (3, vi z9), (2, vi l2), (0, .ref 131), (1, .ref C)]) (st2 := [vi z35, .ref 131, vi z28, .ref 131]) 2 (fun _ _ => rfl) ?_
                refine wr_call1T (args := [vi z35]) (rest := [vi z28, .ref 131]) rfl rfl rfl rfl (Nat.le_of_ble_eq_true rfl) rfl (cr_mono (k_funBody (d := d + 4) (C := C) hC (x := z35) s28 hK28 hq28 (by omega)) ?_)
                rintro s40 out ⟨hK40, hY40, ⟨z40, hc40, rfl, hz40, hp40⟩ | ⟨rfl, hc40⟩⟩
                · refine .inl ⟨_, rfl, ?_⟩
                  have hX40 : FX s0.1 s40.1 := FX_tr hX28 hY40
                  have hC40 : s40.2 = s0.2 := hc40.trans hC28
                  have hq40 : s40.1 131 1 = (C : Int) := (hY40 131 1 (by unfold fx; omega)).trans hq28
                  unfold i32 at hz40
                  clear hp40
                  show wr (d + 244) tb_M20 161 [(5, vi z35), (4, vi z28), (3, vi z9), (2, vi l2), (0, .ref 131), (1, .ref C)] [vi z40, vi z28, .ref 131] s40 _
                  refine wr_n (pc2 := 171) (lv2 := [(5, vi z35), (4, vi z28), (3, vi z9), (2, vi l2), (0, .ref 131), (1, .ref C)]) (st2 := [vi z40, vi z28, .ref 131]) 1 (fun _ _ => rfl) ?_
                  refine wr_call1 (args := [vi z28, vi z40]) (rest := []) rfl rfl rfl rfl (Nat.le_of_ble_eq_true rfl) (cr_mono (k_routineFoot (d := d + 243) (C := C) hC (x := z28) (y := z40) s40 hK40 hq40 (by omega) (by omega)) ?_)
                  rintro s41 out ⟨hK41, hY41, hc41, rfl⟩
                  refine ⟨_, rfl, ?_⟩
                  have hX41 : FX s0.1 s41.1 := FX_tr hX40 hY41
                  have hC41 : s41.2 = s0.2 := hc41.trans hC40
                  have hq41 : s41.1 131 1 = (C : Int) := (hY41 131 1 (by unfold fx; omega)).trans hq40
                  show wr (d + 244) tb_M20 174 [(5, vi z35), (4, vi z28), (3, vi z9), (2, vi l2), (0, .ref 131), (1, .ref C)] [] s41 _
                  refine wr_n (pc2 := 182) (lv2 := [(5, vi z35), (4, vi z28), (3, vi z9), (2, vi l2), (0, .ref 131), (1, .ref C)]) (st2 := []) 1 (fun _ _ => rfl) ?_
                  refine wr_inc (a := l2) rfl rfl ?_
                  show wr (d + 244) tb_M20 185 [(2, vi (l2 + 1)), (5, vi z35), (4, vi z28), (3, vi z9), (0, .ref 131), (1, .ref C)] [] s41 _
                  refine wr_n (pc2 := 42) (lv2 := [(2, vi (l2 + 1)), (5, vi z35), (4, vi z28), (3, vi z9), (0, .ref 131), (1, .ref C)]) (st2 := []) 1 (fun _ _ => rfl) ?_
                  exact (k_program5_42v2 hC _).1 (l2 + 1) z35 z28 z9 s41 rfl hK41 hq41 hX41 hC41 (by omega) (by omega) (by omega) (by omega)  
                · refine .inr ⟨rfl, ?_⟩
                  exact ⟨hK40, (FX_tr hX28 hY40), .inr ⟨rfl, TH hC28 hc40⟩⟩
            · refine .inr ⟨rfl, ?_⟩
              exact ⟨hK28, (FX_tr hX11 hY28), .inr ⟨rfl, TH hC11 hc28⟩⟩
        · refine wr_if2f rfl rfl (by unfold i32; omega) (by unfold i32; omega) h12 ?_
          refine wr_n (pc2 := 101) (lv2 := [(3, vi z9), (2, vi l2), (0, .ref 131), (1, .ref C)]) (st2 := [vi 307, vi z9]) 2 (fun _ _ => rfl) ?_
          by_cases h42 : z9 ≠ 307
          · refine wr_if2t rfl rfl (by unfold i32; omega) (by unfold i32; omega) h42 ?_
            refine wr_n (pc2 := 179) (lv2 := [(3, vi z9), (2, vi l2), (0, .ref 131), (1, .ref C)]) (st2 := [vi z9, .ref 131]) 2 (fun _ _ => rfl) ?_
            refine wr_call1T (args := [vi z9]) (rest := []) rfl rfl rfl rfl (Nat.le_of_ble_eq_true rfl) rfl (cr_mono (k_shortDecl (d := d + 241) (C := C) hC (x := z9) s11 hK11 hq11 (by omega)) ?_)
            rintro s43 out ⟨hK43, hY43, ⟨hc43, rfl⟩ | ⟨rfl, hc43⟩⟩
            · refine .inl ⟨_, rfl, ?_⟩
              have hX43 : FX s0.1 s43.1 := FX_tr hX11 hY43
              have hC43 : s43.2 = s0.2 := hc43.trans hC11
              have hq43 : s43.1 131 1 = (C : Int) := (hY43 131 1 (by unfold fx; omega)).trans hq11
              show wr (d + 244) tb_M20 182 [(3, vi z9), (2, vi l2), (0, .ref 131), (1, .ref C)] [] s43 _
              refine wr_inc (a := l2) rfl rfl ?_
              show wr (d + 244) tb_M20 185 [(2, vi (l2 + 1)), (3, vi z9), (0, .ref 131), (1, .ref C)] [] s43 _
              refine wr_n (pc2 := 42) (lv2 := [(2, vi (l2 + 1)), (3, vi z9), (0, .ref 131), (1, .ref C)]) (st2 := []) 1 (fun _ _ => rfl) ?_
              exact k_program5_42v4 hC _ (l2 + 1) z9 s43 rfl hK43 hq43 hX43 hC43 (by omega) (by omega)  
            · refine .inr ⟨rfl, ?_⟩
              exact ⟨hK43, (FX_tr hX11 hY43), .inr ⟨rfl, TH hC11 hc43⟩⟩
          · refine wr_if2f rfl rfl (by unfold i32; omega) (by unfold i32; omega) h42 ?_
            refine wr_n (pc2 := 109) (lv2 := [(3, vi z9), (2, vi l2), (0, .ref 131), (1, .ref C)]) (st2 := [vi 307, vi z9, .ref 131]) 3 (fun _ _ => rfl) ?_
            by_cases h44 : z9 ≠ 307
            · refine wr_if2t rfl rfl (by unfold i32; omega) (by unfold i32; omega) h44 ?_
              refine wr_n (pc2 := 118) (lv2 := [(3, vi z9), (2, vi l2), (0, .ref 131), (1, .ref C)]) (st2 := [vi 5, .ref 131]) 1 (fun _ _ => rfl) ?_
              refine wr_call1T (args := [vi 5]) (rest := []) rfl rfl rfl rfl (Nat.le_of_ble_eq_true rfl) rfl (cr_mono (k_routineHead (d := d + 239) (C := C) hC (x := 5) s11 hK11 hq11 (by omega)) ?_)
              rintro s45 out ⟨hK45, hY45, ⟨z45, hc45, rfl, hz45, hp45⟩ | ⟨rfl, hc45⟩⟩
              · refine .inl ⟨_, rfl, ?_⟩
                have hX45 : FX s0.1 s45.1 := FX_tr hX11 hY45
                have hC45 : s45.2 = s0.2 := hc45.trans hC11
                have hq45 : s45.1 131 1 = (C : Int) := (hY45 131 1 (by unfold fx; omega)).trans hq11
                unfold i32 at hz45
                clear hp45
                show wr (d + 244) tb_M20 121 [(3, vi z9), (2, vi l2), (0, .ref 131), (1, .ref C)] [vi z45] s45 _
                refine wr_n (pc2 := 124) (lv2 := [(4, vi z45), (3, vi z9), (2, vi l2), (0, .ref 131), (1, .ref C)]) (st2 := [.ref 131]) 2 (fun _ _ => rfl) ?_
                refine wr_get (v := .ref C) rfl rfl rfl (by decide) (rv_ref (show (s45.1) 131 1 = ((C : Nat) : Int) from hq45)) fun h46 => ?_
                show wr (d + 244) tb_M20 127 [(4, vi z45), (3, vi z9), (2, vi l2), (0, .ref 131), (1, .ref C)] [.ref C] s45 _
                refine wr_get (v := .ref (C + 6)) rfl rfl (TK0 hC) (by decide) (rv_ref (hK45.1 C 5 (C + 6) (rcK hC (by omega)))) fun h47 => ?_
                show wr (d + 244) tb_M20 130 [(4, vi z45), (3, vi z9), (2, vi l2), (0, .ref 131), (1, .ref C)] [.ref (C + 6)] s45 _
                refine wr_get (v := vi (s45.1 (C + 6) 3)) rfl rfl (TK6 hC) (by decide) rfl fun h48 => ?_
                have h48 : -2147483648 ≤ s45.1 (C + 6) 3 ∧ s45.1 (C + 6) 3 ≤ 2147483647 := h48
                show wr (d + 244) tb_M20 133 [(4, vi z45), (3, vi z9), (2, vi l2), (0, .ref 131), (1, .ref C)] [vi (s45.1 (C + 6) 3)] s45 _
                have hb49 : 0 ≤ s45.1 (C + 6) 3 ∧ s45.1 (C + 6) 3 ≤ 58 := kb_to (kC6_3 hC) (hK45.2 (C + 6) 3)
                refine wr_n (pc2 := 134) (lv2 := [(4, vi z45), (3, vi z9), (2, vi l2), (0, .ref 131), (1, .ref C)]) (st2 := [.ref 131, vi (s45.1 (C + 6) 3)]) 1 (fun _ _ => rfl) ?_
                refine wr_get (v := .ref C) rfl rfl rfl (by decide) (rv_ref (show (s45.1) 131 1 = ((C : Nat) : Int) from hq45)) fun h50 => ?_
                show wr (d + 244) tb_M20 137 [(4, vi z45), (3, vi z9), (2, vi l2), (0, .ref 131), (1, .ref C)] [.ref C, vi (s45.1 (C + 6) 3)] s45 _
                refine wr_n (pc2 := 139) (lv2 := [(4, vi z45), (3, vi z9), (2, vi l2), (0, .ref 131), (1, .ref C)]) (st2 := [vi z45, .ref C, vi (s45.1 (C + 6) 3)]) 1 (fun _ _ => rfl) ?_
                refine wr_call1 (args := [vi z45]) (rest := [vi (s45.1 (C + 6) 3)]) rfl rfl rfl (TK0 hC) (Nat.le_of_ble_eq_true rfl) (cr_mono (k_par (d := d + 243) (C := C) hC (x := z45) s45 hK45 (by omega)) ?_)
                rintro s51 out ⟨z51, rfl, hz51, hp51, e51⟩
                refine ⟨_, rfl, ?_⟩
                rw [e51]
                unfold i32 at hz51
                clear hp51
                show wr (d + 244) tb_M20 142 [(4, vi z45), (3, vi z9), (2, vi l2), (0, .ref 131), (1, .ref C)] [vi z51, vi (s45.1 (C + 6) 3)] s45 _
                refine wr_any2 rfl rfl fun z52 h53 => ?_
                unfold i32 at h53
                show wr (d + 244) tb_M20 143 [(4, vi z45), (3, vi z9), (2, vi l2), (0, .ref 131), (1, .ref C)] [vi z52] s45 _
                refine wr_n (pc2 := 152) (lv2 := [(5, vi z52), (4, vi z45), (3, vi z9), (2, vi l2), (0, .ref 131), (1, .ref C)]) (st2 := [vi 307, vi z9, vi z45, .ref 131]) 5 (fun _ _ => rfl) ?_
                by_cases h54 : z9 ≠ 307
                · refine wr_if2t rfl rfl (by unfold i32; omega) (by unfold i32; omega) h54 ?_
                  refine wr_n (pc2 := 168) (lv2 := [(5, vi z52), (4, vi z45), (3, vi z9), (2, vi l2), (0, .ref 131), (1, .ref C)]) (st2 := [vi z52, vi 0, .ref 131, vi z45, .ref 131]) 3 (fun _ _ => rfl) ?_
                  refine wr_call1T (args := [vi 0, vi z52]) (rest := [vi z45, .ref 131]) rfl rfl rfl rfl (Nat.le_of_ble_eq_true rfl) rfl (cr_mono (cr_up (by omega) (k_JB C s45 0 z52 hC hK45 hq45 (by omega) (by omega))) ?_)
                  rintro s55 out ⟨hK55, hY55, ⟨z55, hc55, rfl, hz55, hp55⟩ | ⟨rfl, hc55⟩⟩
                  · refine .inl ⟨_, rfl, ?_⟩
                    have hX55 : FX s0.1 s55.1 := FX_tr hX45 hY55
                    have hC55 : s55.2 = s0.2 := hc55.trans hC45
                    have hq55 : s55.1 131 1 = (C : Int) := (hY55 131 1 (by unfold fx; omega)).trans hq45
                    unfold i32 at hz55
                    clear hp55
                    show wr (d + 244) tb_M20 171 [(5, vi z52), (4, vi z45), (3, vi z9), (2, vi l2), (0, .ref 131), (1, .ref C)] [vi z55, vi z45, .ref 131] s55 _
                    refine wr_call1 (args := [vi z45, vi z55]) (rest := []) rfl rfl rfl rfl (Nat.le_of_ble_eq_true rfl) (cr_mono (k_routineFoot (d := d + 243) (C := C) hC (x := z45) (y := z55) s55 hK55 hq55 (by omega) (by omega)) ?_)
                    rintro s56 out ⟨hK56, hY56, hc56, rfl⟩
                    refine ⟨_, rfl, ?_⟩
                    have hX56 : FX s0.1 s56.1 := FX_tr hX55 hY56
                    have hC56 : s56.2 = s0.2 := hc56.trans hC55
                    have hq56 : s56.1 131 1 = (C : Int) := (hY56 131 1 (by unfold fx; omega)).trans hq55
                    show wr (d + 244) tb_M20 174 [(5, vi z52), (4, vi z45), (3, vi z9), (2, vi l2), (0, .ref 131), (1, .ref C)] [] s56 _
                    refine wr_n (pc2 := 182) (lv2 := [(5, vi z52), (4, vi z45), (3, vi z9), (2, vi l2), (0, .ref 131), (1, .ref C)]) (st2 := []) 1 (fun _ _ => rfl) ?_
                    refine wr_inc (a := l2) rfl rfl ?_
                    show wr (d + 244) tb_M20 185 [(2, vi (l2 + 1)), (5, vi z52), (4, vi z45), (3, vi z9), (0, .ref 131), (1, .ref C)] [] s56 _
                    refine wr_n (pc2 := 42) (lv2 := [(2, vi (l2 + 1)), (5, vi z52), (4, vi z45), (3, vi z9), (0, .ref 131), (1, .ref C)]) (st2 := []) 1 (fun _ _ => rfl) ?_
                    exact (k_program5_42v2 hC _).1 (l2 + 1) z52 z45 z9 s56 rfl hK56 hq56 hX56 hC56 (by omega) (by omega) (by omega) (by omega)  
                  · refine .inr ⟨rfl, ?_⟩
                    exact ⟨hK55, (FX_tr hX45 hY55), .inr ⟨rfl, TH hC45 hc55⟩⟩
                · refine wr_if2f rfl rfl (by unfold i32; omega) (by unfold i32; omega) h54 ?_
                  refine wr_n (pc2 := 158) (lv2 := [(5, vi z52), (4, vi z45), (3, vi z9), (2, vi l2), (0, .ref 131), (1, .ref C)]) (st2 := [vi z52, .ref 131, vi z45, .ref 131]) 2 (fun _ _ => rfl) ?_
                  refine wr_call1T (args := [vi z52]) (rest := [vi z45, .ref 131]) rfl rfl rfl rfl (Nat.le_of_ble_eq_true rfl) rfl (cr_mono (k_funBody (d := d + 4) (C := C) hC (x := z52) s45 hK45 hq45 (by omega)) ?_)
                  rintro s57 out ⟨hK57, hY57, ⟨z57, hc57, rfl, hz57, hp57⟩ | ⟨rfl, hc57⟩⟩
                  · refine .inl ⟨_, rfl, ?_⟩
                    have hX57 : FX s0.1 s57.1 := FX_tr hX45 hY57
                    have hC57 : s57.2 = s0.2 := hc57.trans hC45
                    have hq57 : s57.1 131 1 = (C : Int) := (hY57 131 1 (by unfold fx; omega)).trans hq45
                    unfold i32 at hz57
                    clear hp57
                    show wr (d + 244) tb_M20 161 [(5, vi z52), (4, vi z45), (3, vi z9), (2, vi l2), (0, .ref 131), (1, .ref C)] [vi z57, vi z45, .ref 131] s57 _
                    refine wr_n (pc2 := 171) (lv2 := [(5, vi z52), (4, vi z45), (3, vi z9), (2, vi l2), (0, .ref 131), (1, .ref C)]) (st2 := [vi z57, vi z45, .ref 131]) 1 (fun _ _ => rfl) ?_
                    refine wr_call1 (args := [vi z45, vi z57]) (rest := []) rfl rfl rfl rfl (Nat.le_of_ble_eq_true rfl) (cr_mono (k_routineFoot (d := d + 243) (C := C) hC (x := z45) (y := z57) s57 hK57 hq57 (by omega) (by omega)) ?_)
                    rintro s58 out ⟨hK58, hY58, hc58, rfl⟩
                    refine ⟨_, rfl, ?_⟩
                    have hX58 : FX s0.1 s58.1 := FX_tr hX57 hY58
                    have hC58 : s58.2 = s0.2 := hc58.trans hC57
                    have hq58 : s58.1 131 1 = (C : Int) := (hY58 131 1 (by unfold fx; omega)).trans hq57
                    show wr (d + 244) tb_M20 174 [(5, vi z52), (4, vi z45), (3, vi z9), (2, vi l2), (0, .ref 131), (1, .ref C)] [] s58 _
                    refine wr_n (pc2 := 182) (lv2 := [(5, vi z52), (4, vi z45), (3, vi z9), (2, vi l2), (0, .ref 131), (1, .ref C)]) (st2 := []) 1 (fun _ _ => rfl) ?_
                    refine wr_inc (a := l2) rfl rfl ?_
                    show wr (d + 244) tb_M20 185 [(2, vi (l2 + 1)), (5, vi z52), (4, vi z45), (3, vi z9), (0, .ref 131), (1, .ref C)] [] s58 _
                    refine wr_n (pc2 := 42) (lv2 := [(2, vi (l2 + 1)), (5, vi z52), (4, vi z45), (3, vi z9), (0, .ref 131), (1, .ref C)]) (st2 := []) 1 (fun _ _ => rfl) ?_
                    exact (k_program5_42v2 hC _).1 (l2 + 1) z52 z45 z9 s58 rfl hK58 hq58 hX58 hC58 (by omega) (by omega) (by omega) (by omega)  
                  · refine .inr ⟨rfl, ?_⟩
                    exact ⟨hK57, (FX_tr hX45 hY57), .inr ⟨rfl, TH hC45 hc57⟩⟩
              · refine .inr ⟨rfl, ?_⟩
                exact ⟨hK45, (FX_tr hX11 hY45), .inr ⟨rfl, TH hC11 hc45⟩⟩
            · refine wr_if2f rfl rfl (by unfold i32; omega) (by unfold i32; omega) h44 ?_
              refine wr_n (pc2 := 118) (lv2 := [(3, vi z9), (2, vi l2), (0, .ref 131), (1, .ref C)]) (st2 := [vi 6, .ref 131]) 2 (fun _ _ => rfl) ?_
              refine wr_call1T (args := [vi 6]) (rest := []) rfl rfl rfl rfl (Nat.le_of_ble_eq_true rfl) rfl (cr_mono (k_routineHead (d := d + 239) (C := C) hC (x := 6) s11 hK11 hq11 (by omega)) ?_)
              rintro s59 out ⟨hK59, hY59, ⟨z59, hc59, rfl, hz59, hp59⟩ | ⟨rfl, hc59⟩⟩
              · refine .inl ⟨_, rfl, ?_⟩
                have hX59 : FX s0.1 s59.1 := FX_tr hX11 hY59
                have hC59 : s59.2 = s0.2 := hc59.trans hC11
                have hq59 : s59.1 131 1 = (C : Int) := (hY59 131 1 (by unfold fx; omega)).trans hq11
                unfold i32 at hz59
                clear hp59
                show wr (d + 244) tb_M20 121 [(3, vi z9), (2, vi l2), (0, .ref 131), (1, .ref C)] [vi z59] s59 _
                refine wr_n (pc2 := 124) (lv2 := [(4, vi z59), (3, vi z9), (2, vi l2), (0, .ref 131), (1, .ref C)]) (st2 := [.ref 131]) 2 (fun _ _ => rfl) ?_
                refine wr_get (v := .ref C) rfl rfl rfl (by decide) (rv_ref (show (s59.1) 131 1 = ((C : Nat) : Int) from hq59)) fun h60 => ?_
                show wr (d + 244) tb_M20 127 [(4, vi z59), (3, vi z9), (2, vi l2), (0, .ref 131), (1, .ref C)] [.ref C] s59 _
                refine wr_get (v := .ref (C + 6)) rfl rfl (TK0 hC) (by decide) (rv_ref (hK59.1 C 5 (C + 6) (rcK hC (by omega)))) fun h61 => ?_
                show wr (d + 244) tb_M20 130 [(4, vi z59), (3, vi z9), (2, vi l2), (0, .ref 131), (1, .ref C)] [.ref (C + 6)] s59 _
                refine wr_get (v := vi (s59.1 (C + 6) 3)) rfl rfl (TK6 hC) (by decide) rfl fun h62 => ?_
                have h62 : -2147483648 ≤ s59.1 (C + 6) 3 ∧ s59.1 (C + 6) 3 ≤ 2147483647 := h62
                show wr (d + 244) tb_M20 133 [(4, vi z59), (3, vi z9), (2, vi l2), (0, .ref 131), (1, .ref C)] [vi (s59.1 (C + 6) 3)] s59 _
                have hb63 : 0 ≤ s59.1 (C + 6) 3 ∧ s59.1 (C + 6) 3 ≤ 58 := kb_to (kC6_3 hC) (hK59.2 (C + 6) 3)
                refine wr_n (pc2 := 134) (lv2 := [(4, vi z59), (3, vi z9), (2, vi l2), (0, .ref 131), (1, .ref C)]) (st2 := [.ref 131, vi (s59.1 (C + 6) 3)]) 1 (fun _ _ => rfl) ?_
                refine wr_get (v := .ref C) rfl rfl rfl (by decide) (rv_ref (show (s59.1) 131 1 = ((C : Nat) : Int) from hq59)) fun h64 => ?_
                show wr (d + 244) tb_M20 137 [(4, vi z59), (3, vi z9), (2, vi l2), (0, .ref 131), (1, .ref C)] [.ref C, vi (s59.1 (C + 6) 3)] s59 _
                refine wr_n (pc2 := 139) (lv2 := [(4, vi z59), (3, vi z9), (2, vi l2), (0, .ref 131), (1, .ref C)]) (st2 := [vi z59, .ref C, vi (s59.1 (C + 6) 3)]) 1 (fun _ _ => rfl) ?_
                refine wr_call1 (args := [vi z59]) (rest := [vi (s59.1 (C + 6) 3)]) rfl rfl rfl (TK0 hC) (Nat.le_of_ble_eq_true rfl) (cr_mono (k_par (d := d + 243) (C := C) hC (x := z59) s59 hK59 (by omega)) ?_)
                rintro s65 out ⟨z65, rfl, hz65, hp65, e65⟩
                refine ⟨_, rfl, ?_⟩
                rw [e65]
                unfold i32 at hz65
                clear hp65
                show wr (d + 244) tb_M20 142 [(4, vi z59), (3, vi z9), (2, vi l2), (0, .ref 131), (1, .ref C)] [vi z65, vi (s59.1 (C + 6) 3)] s59 _
                refine wr_any2 rfl rfl fun z66 h67 => ?_
                unfold i32 at h67
                show wr (d + 244) tb_M20 143 [(4, vi z59), (3, vi z9), (2, vi l2), (0, .ref 131), (1, .ref C)] [vi z66] s59 _
                refine wr_n (pc2 := 152) (lv2 := [(5, vi z66), (4, vi z59), (3, vi z9), (2, vi l2), (0, .ref 131), (1, .ref C)]) (st2 := [vi 307, vi z9, vi z59, .ref 131]) 5 (fun _ _ => rfl) ?_
                by_cases h68 : z9 ≠ 307
                · refine wr_if2t rfl rfl (by unfold i32; omega) (by unfold i32; omega) h68 ?_
                  refine wr_n (pc2 := 168) (lv2 := [(5, vi z66), (4, vi z59), (3, vi z9), (2, vi l2), (0, .ref 131), (1, .ref C)]) (st2 := [vi z66, vi 0, .ref 131, vi z59, .ref 131]) 3 (fun _ _ => rfl) ?_
                  refine wr_call1T (args := [vi 0, vi z66]) (rest := [vi z59, .ref 131]) rfl rfl rfl rfl (Nat.le_of_ble_eq_true rfl) rfl (cr_mono (cr_up (by omega) (k_JB C s59 0 z66 hC hK59 hq59 (by omega) (by omega))) ?_)
                  rintro s69 out ⟨hK69, hY69, ⟨z69, hc69, rfl, hz69, hp69⟩ | ⟨rfl, hc69⟩⟩
                  · refine .inl ⟨_, rfl, ?_⟩
                    have hX69 : FX s0.1 s69.1 := FX_tr hX59 hY69
                    have hC69 : s69.2 = s0.2 := hc69.trans hC59
                    have hq69 : s69.1 131 1 = (C : Int) := (hY69 131 1 (by unfold fx; omega)).trans hq59
                    unfold i32 at hz69
                    clear hp69
                    show wr (d + 244) tb_M20 171 [(5, vi z66), (4, vi z59), (3, vi z9), (2, vi l2), (0, .ref 131), (1, .ref C)] [vi z69, vi z59, .ref 131] s69 _
                    refine wr_call1 (args := [vi z59, vi z69]) (rest := []) rfl rfl rfl rfl (Nat.le_of_ble_eq_true rfl) (cr_mono (k_routineFoot (d := d + 243) (C := C) hC (x := z59) (y := z69) s69 hK69 hq69 (by omega) (by omega)) ?_)
                    rintro s70 out ⟨hK70, hY70, hc70, rfl⟩
                    refine ⟨_, rfl, ?_⟩
                    have hX70 : FX s0.1 s70.1 := FX_tr hX69 hY70
                    have hC70 : s70.2 = s0.2 := hc70.trans hC69
                    have hq70 : s70.1 131 1 = (C : Int) := (hY70 131 1 (by unfold fx; omega)).trans hq69
                    show wr (d + 244) tb_M20 174 [(5, vi z66), (4, vi z59), (3, vi z9), (2, vi l2), (0, .ref 131), (1, .ref C)] [] s70 _
                    refine wr_n (pc2 := 182) (lv2 := [(5, vi z66), (4, vi z59), (3, vi z9), (2, vi l2), (0, .ref 131), (1, .ref C)]) (st2 := []) 1 (fun _ _ => rfl) ?_
                    refine wr_inc (a := l2) rfl rfl ?_
                    show wr (d + 244) tb_M20 185 [(2, vi (l2 + 1)), (5, vi z66), (4, vi z59), (3, vi z9), (0, .ref 131), (1, .ref C)] [] s70 _
                    refine wr_n (pc2 := 42) (lv2 := [(2, vi (l2 + 1)), (5, vi z66), (4, vi z59), (3, vi z9), (0, .ref 131), (1, .ref C)]) (st2 := []) 1 (fun _ _ => rfl) ?_
                    exact (k_program5_42v2 hC _).1 (l2 + 1) z66 z59 z9 s70 rfl hK70 hq70 hX70 hC70 (by omega) (by omega) (by omega) (by omega)  
                  · refine .inr ⟨rfl, ?_⟩
                    exact ⟨hK69, (FX_tr hX59 hY69), .inr ⟨rfl, TH hC59 hc69⟩⟩
                · refine wr_if2f rfl rfl (by unfold i32; omega) (by unfold i32; omega) h68 ?_
                  refine wr_n (pc2 := 158) (lv2 := [(5, vi z66), (4, vi z59), (3, vi z9), (2, vi l2), (0, .ref 131), (1, .ref C)]) (st2 := [vi z66, .ref 131, vi z59, .ref 131]) 2 (fun _ _ => rfl) ?_
                  refine wr_call1T (args := [vi z66]) (rest := [vi z59, .ref 131]) rfl rfl rfl rfl (Nat.le_of_ble_eq_true rfl) rfl (cr_mono (k_funBody (d := d + 4) (C := C) hC (x := z66) s59 hK59 hq59 (by omega)) ?_)
                  rintro s71 out ⟨hK71, hY71, ⟨z71, hc71, rfl, hz71, hp71⟩ | ⟨rfl, hc71⟩⟩
                  · refine .inl ⟨_, rfl, ?_⟩
                    have hX71 : FX s0.1 s71.1 := FX_tr hX59 hY71
                    have hC71 : s71.2 = s0.2 := hc71.trans hC59
                    have hq71 : s71.1 131 1 = (C : Int) := (hY71 131 1 (by unfold fx; omega)).trans hq59
                    unfold i32 at hz71
                    clear hp71
                    show wr (d + 244) tb_M20 161 [(5, vi z66), (4, vi z59), (3, vi z9), (2, vi l2), (0, .ref 131), (1, .ref C)] [vi z71, vi z59, .ref 131] s71 _
                    refine wr_n (pc2 := 171) (lv2 := [(5, vi z66), (4, vi z59), (3, vi z9), (2, vi l2), (0, .ref 131), (1, .ref C)]) (st2 := [vi z71, vi z59, .ref 131]) 1 (fun _ _ => rfl) ?_
                    refine wr_call1 (args := [vi z59, vi z71]) (rest := []) rfl rfl rfl rfl (Nat.le_of_ble_eq_true rfl) (cr_mono (k_routineFoot (d := d + 243) (C := C) hC (x := z59) (y := z71) s71 hK71 hq71 (by omega) (by omega)) ?_)
                    rintro s72 out ⟨hK72, hY72, hc72, rfl⟩
                    refine ⟨_, rfl, ?_⟩
                    have hX72 : FX s0.1 s72.1 := FX_tr hX71 hY72
                    have hC72 : s72.2 = s0.2 := hc72.trans hC71
                    have hq72 : s72.1 131 1 = (C : Int) := (hY72 131 1 (by unfold fx; omega)).trans hq71
                    show wr (d + 244) tb_M20 174 [(5, vi z66), (4, vi z59), (3, vi z9), (2, vi l2), (0, .ref 131), (1, .ref C)] [] s72 _
                    refine wr_n (pc2 := 182) (lv2 := [(5, vi z66), (4, vi z59), (3, vi z9), (2, vi l2), (0, .ref 131), (1, .ref C)]) (st2 := []) 1 (fun _ _ => rfl) ?_
                    refine wr_inc (a := l2) rfl rfl ?_
                    show wr (d + 244) tb_M20 185 [(2, vi (l2 + 1)), (5, vi z66), (4, vi z59), (3, vi z9), (0, .ref 131), (1, .ref C)] [] s72 _
                    refine wr_n (pc2 := 42) (lv2 := [(2, vi (l2 + 1)), (5, vi z66), (4, vi z59), (3, vi z9), (0, .ref 131), (1, .ref C)]) (st2 := []) 1 (fun _ _ => rfl) ?_
                    exact (k_program5_42v2 hC _).1 (l2 + 1) z66 z59 z9 s72 rfl hK72 hq72 hX72 hC72 (by omega) (by omega) (by omega) (by omega)  
                  · refine .inr ⟨rfl, ?_⟩
                    exact ⟨hK71, (FX_tr hX59 hY71), .inr ⟨rfl, TH hC59 hc71⟩⟩
              · refine .inr ⟨rfl, ?_⟩
                exact ⟨hK59, (FX_tr hX11 hY59), .inr ⟨rfl, TH hC11 hc59⟩⟩
set_option maxHeartbeats 20000000 in
set_option maxRecDepth 100000 in
theorem k_program5 {d C : Nat} (hC : C = 99 ∨ C = 115) (s : rS) (hK : KI s.1) (hq : s.1 131 1 = (C : Int)) : wr (d + 244) tb_M20 5 [(0, .ref 131), (1, .ref C)] [] s (TV s) := by
  refine wr_n (pc2 := 6) (lv2 := [(0, .ref 131), (1, .ref C)]) (st2 := [.ref 131]) 1 (fun _ _ => rfl) ?_
  refine wr_get (v := .ref C) rfl rfl rfl (by decide) (rv_ref (show (s.1) 131 1 = ((C : Nat) : Int) from hq)) fun h1 => ?_
  show wr (d + 244) tb_M20 9 [(0, .ref 131), (1, .ref C)] [.ref C] s _
  refine wr_call1 (args := []) (rest := []) rfl rfl rfl (TK0 hC) (Nat.le_of_ble_eq_true rfl) (cr_mono (k_clear (d := d + 242) (C := C) hC s hK) ?_)
  rintro s2 out ⟨hK2, hY2, hc2, rfl⟩
  refine ⟨_, rfl, ?_⟩
  have hX2 : FX s.1 s2.1 := FX_tr FX_rf hY2
  have hC2 : s2.2 = s.2 := hc2.trans rfl
  have hq2 : s2.1 131 1 = (C : Int) := (hY2 131 1 (by unfold fx; omega)).trans hq
  show wr (d + 244) tb_M20 12 [(0, .ref 131), (1, .ref C)] [] s2 _
  refine wr_n (pc2 := 15) (lv2 := [(0, .ref 131), (1, .ref C)]) (st2 := [vi ((-2)), .ref 131]) 2 (fun _ _ => rfl) ?_
  refine wr_put (z := (-2)) rfl rfl rfl rfl (by decide) rfl (by decide) rfl (show -2147483648 ≤ (-2) ∧ (-2) ≤ 2147483647 by omega) (hf_int' _) ?_
  show wr (d + 244) tb_M20 18 [(0, .ref 131), (1, .ref C)] [] (up2 s2.1 131 3 ((-2)), s2.2) _
  have hK3 : KI (up2 s2.1 131 3 ((-2))) := (KI_up hK2 rfl (kb_no rfl))
  refine wr_n (pc2 := 20) (lv2 := [(0, .ref 131), (1, .ref C)]) (st2 := [vi 0, .ref 131]) 2 (fun _ _ => rfl) ?_
  refine wr_put (z := 0) rfl rfl rfl rfl (by decide) rfl (by decide) rfl (show -2147483648 ≤ 0 ∧ 0 ≤ 2147483647 by omega) (hf_int' _) ?_
  show wr (d + 244) tb_M20 23 [(0, .ref 131), (1, .ref C)] [] (up2 (up2 s2.1 131 3 ((-2))) 131 6 0, s2.2) _
  have hK4 : KI (up2 (up2 s2.1 131 3 ((-2))) 131 6 0) := (KI_up (KI_up hK2 rfl (kb_no rfl)) rfl (kb_of rfl (show 0 ≤ 0 ∧ 0 ≤ 210 by omega)))
  refine wr_n (pc2 := 25) (lv2 := [(0, .ref 131), (1, .ref C)]) (st2 := [vi ((-1)), .ref 131]) 2 (fun _ _ => rfl) ?_
  refine wr_put (z := (-1)) rfl rfl rfl rfl (by decide) rfl (by decide) rfl (show -2147483648 ≤ (-1) ∧ (-1) ≤ 2147483647 by omega) (hf_int' _) ?_
  show wr (d + 244) tb_M20 28 [(0, .ref 131), (1, .ref C)] [] (up2 (up2 (up2 s2.1 131 3 ((-2))) 131 6 0) 131 13 ((-1)), s2.2) _
  have hK5 : KI (up2 (up2 (up2 s2.1 131 3 ((-2))) 131 6 0) 131 13 ((-1))) := (KI_up (KI_up (KI_up hK2 rfl (kb_no rfl)) rfl (kb_of rfl (show 0 ≤ 0 ∧ 0 ≤ 210 by omega))) rfl (kb_no rfl))
  refine wr_n (pc2 := 30) (lv2 := [(0, .ref 131), (1, .ref C)]) (st2 := [vi 0, .ref 131]) 2 (fun _ _ => rfl) ?_
  refine wr_put (z := 0) rfl rfl rfl rfl (by decide) rfl (by decide) rfl (show -2147483648 ≤ 0 ∧ 0 ≤ 2147483647 by omega) (hf_int' _) ?_
  show wr (d + 244) tb_M20 33 [(0, .ref 131), (1, .ref C)] [] (up2 (up2 (up2 (up2 s2.1 131 3 ((-2))) 131 6 0) 131 13 ((-1))) 131 14 0, s2.2) _
  have hK6 : KI (up2 (up2 (up2 (up2 s2.1 131 3 ((-2))) 131 6 0) 131 13 ((-1))) 131 14 0) := (KI_up (KI_up (KI_up (KI_up hK2 rfl (kb_no rfl)) rfl (kb_of rfl (show 0 ≤ 0 ∧ 0 ≤ 210 by omega))) rfl (kb_no rfl)) rfl (kb_no rfl))
  refine wr_n (pc2 := 34) (lv2 := [(0, .ref 131), (1, .ref C)]) (st2 := [.ref 131]) 1 (fun _ _ => rfl) ?_
  refine wr_get (v := .ref 137) rfl rfl rfl (by decide) (rv_ref (hK6.1 131 0 137 rfl)) fun h7 => ?_
  show wr (d + 244) tb_M20 37 [(0, .ref 131), (1, .ref C)] [.ref 137] (up2 (up2 (up2 (up2 s2.1 131 3 ((-2))) 131 6 0) 131 13 ((-1))) 131 14 0, s2.2) _
  refine wr_call1 (args := []) (rest := []) rfl rfl rfl rfl (Nat.le_of_ble_eq_true rfl) (cr_mono (k_scan (d := d + 239) (up2 (up2 (up2 (up2 s2.1 131 3 ((-2))) 131 6 0) 131 13 ((-1))) 131 14 0, s2.2) hK6) ?_)
  rintro s8 out ⟨hK8, hY8, hc8, rfl⟩
  refine ⟨_, rfl, ?_⟩
  have hX8 : FX s.1 s8.1 := FX_tr (FX_up (FX_up (FX_up (FX_up hX2 (by unfold fx; omega)) (by unfold fx; omega)) (by unfold fx; omega)) (by unfold fx; omega)) hY8
  have hC8 : s8.2 = s.2 := hc8.trans hC2
  have hq8 : s8.1 131 1 = (C : Int) := (hY8 131 1 (by unfold fx; omega)).trans (show (up2 (up2 (up2 (up2 s2.1 131 3 ((-2))) 131 6 0) 131 13 ((-1))) 131 14 0) 131 1 = ((C : Nat) : Int) from ((if_neg (by omega)).trans ((if_neg (by omega)).trans ((if_neg (by omega)).trans ((if_neg (by omega)).trans hq2)))))
  show wr (d + 244) tb_M20 40 [(0, .ref 131), (1, .ref C)] [] s8 _
  refine wr_n (pc2 := 42) (lv2 := [(2, vi 0), (0, .ref 131), (1, .ref C)]) (st2 := []) 2 (fun _ _ => rfl) ?_
  exact k_program5_42 hC _ 0 s8 rfl hK8 hq8 hX8 hC8 (by omega)  
theorem k_program {d C : Nat} (hC : C = 99 ∨ C = 115) (s : rS) (hK : KI s.1) : cr (d + 245) 20 [.ref 131, .ref C] s (TV (up2 s.1 131 1 (C : Int), s.2)) := by
  refine cr_of (M := tb_M20) rfl (Nat.le_of_ble_eq_true rfl) ?_
  show wr (d + 244) tb_M20 0 [(0, .ref 131), (1, .ref C)] [] s _
  refine wr_n (pc2 := 2) (lv2 := [(0, .ref 131), (1, .ref C)]) (st2 := [.ref C, .ref 131]) 2 (fun _ _ => rfl) ?_
  refine wr_put (z := (C : Int)) rfl rfl rfl rfl (by decide) rfl (by decide) (rv_ref rfl) (show -1 ≤ (C : Int) by omega) (hf_ref _ _) ?_
  exact k_program5 hC (up2 s.1 131 1 (C : Int), s.2) (KI_up hK rfl (kb_no rfl)) (show up2 s.1 131 1 (C : Int) 131 1 = (C : Int) from up_self)
