/-! Our own objects: small methods, exactly. -/
set_option maxRecDepth 100000 in
theorem and255 : ∀ k : Fin 256, Int32.ofInt (((k : Nat) : Int) - 128) &&& Int32.ofInt 255 = Int32.ofInt (if 128 ≤ (k : Nat) then ((k : Nat) : Int) - 128 else ((k : Nat) : Int) + 128) := by decide +kernel
theorem wr_and255 {d pc row : Nat} {M : hm_M} {lv : List (Nat × Value)} {st : List Value} {s : rS} {Q : rS → hm_Out → Prop} {a : Int} (ho : (hm_Mi M)[pc]? = some (some (.iand, 1, 3, row))) (ha : -128 ≤ a ∧ a ≤ 127) (kk : ∀ z, (0 ≤ a ∧ z = a ∨ a < 0 ∧ z = a + 256) → wr d M (pc + 1) lv (vi z :: st) s Q) : wr d M pc lv (vi 255 :: vi a :: st) s Q := by
  have h := and255 ⟨(a + 128).toNat, by omega⟩
  have e1 : (((⟨(a + 128).toNat, by omega⟩ : Fin 256) : Nat) : Int) = a + 128 := by show (((a + 128).toNat : Nat) : Int) = a + 128; omega
  rw [e1, show a + 128 - 128 = a by omega] at h
  have h2 : Int32.ofInt a &&& Int32.ofInt 255 = Int32.ofInt (if 0 ≤ a then a else a + 256) := by
    rw [h]
    congr 1
    by_cases e : 0 ≤ a
    · rw [if_pos (show 128 ≤ (a + 128).toNat by omega), if_pos e]
    · rw [if_neg (show ¬ 128 ≤ (a + 128).toNat by omega), if_neg e]; omega
  refine wr_go (fun call g => ?_) (kk (if 0 ≤ a then a else a + 256) (by split <;> omega))
  rw [hs_of ho]
  show hm_pu 1 g (some (1, pc + 1, lv, Value.int (Int32.ofInt a &&& Int32.ofInt 255) :: st)) = _
  rw [h2]
  rfl
set_option maxHeartbeats 20000000 in
set_option maxRecDepth 100000 in
theorem xa_at {d : Nat}  {x : Int} (s : rS) (hK : KI s.1) (hx : (-2147483648) ≤ x ∧ x ≤ 2147483647)  : cr (d + 1) 26 [.ref 97, vi x] s (PZ (fun z => z = -1 ∧ ¬ (0 ≤ x ∧ x < s.1 97 1) ∨ 0 ≤ x ∧ x < s.1 97 1 ∧ -128 ≤ s.1 98 (x).toNat ∧ s.1 98 (x).toNat ≤ 127 ∧ (0 ≤ s.1 98 (x).toNat ∧ z = s.1 98 (x).toNat ∨ s.1 98 (x).toNat < 0 ∧ z = s.1 98 (x).toNat + 256)) s) := by
  refine cr_of (M := tb_M26) rfl (Nat.le_of_ble_eq_true rfl) ?_
  show wr (d) tb_M26 0 [(0, .ref 97), (1, vi x)] [] s _
  refine wr_n (pc2 := 1) (lv2 := [(0, .ref 97), (1, vi x)]) (st2 := [vi x]) 1 (fun _ _ => rfl) ?_
  by_cases h1 : x < 0
  · refine wr_if1t rfl rfl (by unfold i32; omega) h1 ?_
    refine wr_n (pc2 := 26) (lv2 := [(0, .ref 97), (1, vi x)]) (st2 := [vi ((-1))]) 1 (fun _ _ => rfl) ?_
    refine wr_end (fun _ _ => rfl) ?_
    exact ⟨(-1), rfl, by unfold i32; omega, (by omega), rfl⟩
  · refine wr_if1f rfl rfl (by unfold i32; omega) h1 ?_
    refine wr_n (pc2 := 6) (lv2 := [(0, .ref 97), (1, vi x)]) (st2 := [.ref 97, vi x]) 2 (fun _ _ => rfl) ?_
    refine wr_get (v := vi (s.1 97 1)) rfl rfl rfl (by decide) rfl fun h2 => ?_
    have h2 : -2147483648 ≤ s.1 97 1 ∧ s.1 97 1 ≤ 2147483647 := h2
    show wr d tb_M26 9 [(0, .ref 97), (1, vi x)] [vi (s.1 97 1), vi x] s _
    have hb3 : 0 ≤ s.1 97 1 ∧ s.1 97 1 ≤ 2000 := kb_to rfl (hK.2 97 1)
    by_cases h4 : s.1 97 1 ≤ x
    · refine wr_if2t rfl rfl (by unfold i32; omega) (by unfold i32; omega) h4 ?_
      refine wr_n (pc2 := 26) (lv2 := [(0, .ref 97), (1, vi x)]) (st2 := [vi ((-1))]) 1 (fun _ _ => rfl) ?_
      refine wr_end (fun _ _ => rfl) ?_
      exact ⟨(-1), rfl, by unfold i32; omega, (by omega), rfl⟩
    · refine wr_if2f rfl rfl (by unfold i32; omega) (by unfold i32; omega) h4 ?_
      refine wr_n (pc2 := 13) (lv2 := [(0, .ref 97), (1, vi x)]) (st2 := [.ref 97]) 1 (fun _ _ => rfl) ?_
      refine wr_get (v := .ref 98) rfl rfl rfl (by decide) (rv_ref (hK.1 97 0 98 rfl)) fun h5 => ?_
      show wr d tb_M26 16 [(0, .ref 97), (1, vi x)] [.ref 98] s _
      refine wr_n (pc2 := 17) (lv2 := [(0, .ref 97), (1, vi x)]) (st2 := [vi x, .ref 98]) 1 (fun _ _ => rfl) ?_
      refine wr_ald (a := x) (v := vi (s.1 98 x.toNat)) rfl rfl rfl (by omega) (by omega) (by decide) rfl fun h6 => ?_
      have h6 : -128 ≤ s.1 98 x.toNat ∧ s.1 98 x.toNat ≤ 127 := h6
      show wr d tb_M26 18 [(0, .ref 97), (1, vi x)] [vi (s.1 98 x.toNat)] s _
      refine wr_n (pc2 := 21) (lv2 := [(0, .ref 97), (1, vi x)]) (st2 := [vi 255, vi (s.1 98 x.toNat)]) 1 (fun _ _ => rfl) ?_
      refine wr_and255 (a := s.1 98 x.toNat) rfl (by omega) fun z7 h8 => ?_
      show wr d tb_M26 22 [(0, .ref 97), (1, vi x)] [vi z7] s _
      refine wr_n (pc2 := 26) (lv2 := [(0, .ref 97), (1, vi x)]) (st2 := [vi z7]) 1 (fun _ _ => rfl) ?_
      refine wr_reti rfl rfl ?_
      exact ⟨z7, rfl, by unfold i32; omega, (by omega), rfl⟩
set_option maxHeartbeats 20000000 in
set_option maxRecDepth 100000 in
theorem xa_isLetter {d : Nat}  {x : Int} (s : rS) (hK : KI s.1) (hx : (-2147483648) ≤ x ∧ x ≤ 2147483647)  : cr (d + 1) 27 [vi x] s (PZ (fun z => z = 1 ∧ 97 ≤ x ∧ x ≤ 122 ∨ z = 0 ∧ ¬ (97 ≤ x ∧ x ≤ 122)) s) := by
  refine cr_of (M := tb_M27) rfl (Nat.le_of_ble_eq_true rfl) ?_
  show wr (d) tb_M27 0 [(0, vi x)] [] s _
  refine wr_n (pc2 := 3) (lv2 := [(0, vi x)]) (st2 := [vi 97, vi x]) 2 (fun _ _ => rfl) ?_
  by_cases h1 : x < 97
  · refine wr_if2t rfl rfl (by unfold i32; omega) (by unfold i32; omega) h1 ?_
    refine wr_n (pc2 := 17) (lv2 := [(0, vi x)]) (st2 := [vi 0]) 1 (fun _ _ => rfl) ?_
    refine wr_end (fun _ _ => rfl) ?_
    exact ⟨0, rfl, by unfold i32; omega, (by omega), rfl⟩
  · refine wr_if2f rfl rfl (by unfold i32; omega) (by unfold i32; omega) h1 ?_
    refine wr_n (pc2 := 9) (lv2 := [(0, vi x)]) (st2 := [vi 122, vi x]) 2 (fun _ _ => rfl) ?_
    by_cases h2 : 122 < x
    · refine wr_if2t rfl rfl (by unfold i32; omega) (by unfold i32; omega) h2 ?_
      refine wr_n (pc2 := 17) (lv2 := [(0, vi x)]) (st2 := [vi 0]) 1 (fun _ _ => rfl) ?_
      refine wr_end (fun _ _ => rfl) ?_
      exact ⟨0, rfl, by unfold i32; omega, (by omega), rfl⟩
    · refine wr_if2f rfl rfl (by unfold i32; omega) (by unfold i32; omega) h2 ?_
      refine wr_n (pc2 := 17) (lv2 := [(0, vi x)]) (st2 := [vi 1]) 2 (fun _ _ => rfl) ?_
      refine wr_end (fun _ _ => rfl) ?_
      exact ⟨1, rfl, by unfold i32; omega, (by omega), rfl⟩
set_option maxHeartbeats 20000000 in
set_option maxRecDepth 100000 in
theorem xa_isDigit {d : Nat}  {x : Int} (s : rS) (hK : KI s.1) (hx : (-2147483648) ≤ x ∧ x ≤ 2147483647)  : cr (d + 1) 30 [vi x] s (PZ (fun z => z = 1 ∧ 48 ≤ x ∧ x ≤ 57 ∨ z = 0 ∧ ¬ (48 ≤ x ∧ x ≤ 57)) s) := by
  refine cr_of (M := tb_M30) rfl (Nat.le_of_ble_eq_true rfl) ?_
  show wr (d) tb_M30 0 [(0, vi x)] [] s _
  refine wr_n (pc2 := 3) (lv2 := [(0, vi x)]) (st2 := [vi 48, vi x]) 2 (fun _ _ => rfl) ?_
  by_cases h1 : x < 48
  · refine wr_if2t rfl rfl (by unfold i32; omega) (by unfold i32; omega) h1 ?_
    refine wr_n (pc2 := 17) (lv2 := [(0, vi x)]) (st2 := [vi 0]) 1 (fun _ _ => rfl) ?_
    refine wr_end (fun _ _ => rfl) ?_
    exact ⟨0, rfl, by unfold i32; omega, (by omega), rfl⟩
  · refine wr_if2f rfl rfl (by unfold i32; omega) (by unfold i32; omega) h1 ?_
    refine wr_n (pc2 := 9) (lv2 := [(0, vi x)]) (st2 := [vi 57, vi x]) 2 (fun _ _ => rfl) ?_
    by_cases h2 : 57 < x
    · refine wr_if2t rfl rfl (by unfold i32; omega) (by unfold i32; omega) h2 ?_
      refine wr_n (pc2 := 17) (lv2 := [(0, vi x)]) (st2 := [vi 0]) 1 (fun _ _ => rfl) ?_
      refine wr_end (fun _ _ => rfl) ?_
      exact ⟨0, rfl, by unfold i32; omega, (by omega), rfl⟩
    · refine wr_if2f rfl rfl (by unfold i32; omega) (by unfold i32; omega) h2 ?_
      refine wr_n (pc2 := 17) (lv2 := [(0, vi x)]) (st2 := [vi 1]) 2 (fun _ _ => rfl) ?_
      refine wr_end (fun _ _ => rfl) ?_
      exact ⟨1, rfl, by unfold i32; omega, (by omega), rfl⟩
set_option maxHeartbeats 20000000 in
set_option maxRecDepth 100000 in
theorem xa_inName {d : Nat}  {x : Int} (s : rS) (hK : KI s.1) (hx : (-2147483648) ≤ x ∧ x ≤ 2147483647)  : cr (d + 2) 29 [vi x] s (PZ (fun z => z = 1 ∧ (97 ≤ x ∧ x ≤ 122 ∨ 48 ≤ x ∧ x ≤ 57) ∨ z = 0 ∧ ¬ (97 ≤ x ∧ x ≤ 122) ∧ ¬ (48 ≤ x ∧ x ≤ 57)) s) := by
  refine cr_of (M := tb_M29) rfl (Nat.le_of_ble_eq_true rfl) ?_
  show wr (d + 1) tb_M29 0 [(0, vi x)] [] s _
  refine wr_n (pc2 := 1) (lv2 := [(0, vi x)]) (st2 := [vi x]) 1 (fun _ _ => rfl) ?_
  refine wr_call0 (args := [vi x]) (rest := []) rfl rfl rfl (Nat.le_of_ble_eq_true rfl) (cr_mono (xa_isLetter (d := d + 0) (x := x) s hK (by omega)) ?_)
  rintro s1 out ⟨z1, rfl, hz1, hp1, e1⟩
  refine ⟨_, rfl, ?_⟩
  rw [e1]
  unfold i32 at hz1
  replace hp1 : z1 = 1 ∧ 97 ≤ x ∧ x ≤ 122 ∨ z1 = 0 ∧ ¬ (97 ≤ x ∧ x ≤ 122) := hp1
  show wr (d + 1) tb_M29 4 [(0, vi x)] [vi z1] s _
  by_cases h2 : z1 ≠ 0
  · refine wr_if1t rfl rfl (by unfold i32; omega) h2 ?_
    refine wr_n (pc2 := 19) (lv2 := [(0, vi x)]) (st2 := [vi 1]) 2 (fun _ _ => rfl) ?_
    refine wr_end (fun _ _ => rfl) ?_
    exact ⟨1, rfl, by unfold i32; omega, (by omega), rfl⟩
  · refine wr_if1f rfl rfl (by unfold i32; omega) h2 ?_
    refine wr_n (pc2 := 8) (lv2 := [(0, vi x)]) (st2 := [vi x]) 1 (fun _ _ => rfl) ?_
    refine wr_call0 (args := [vi x]) (rest := []) rfl rfl rfl (Nat.le_of_ble_eq_true rfl) (cr_mono (xa_isDigit (d := d + 0) (x := x) s hK (by omega)) ?_)
    rintro s3 out ⟨z3, rfl, hz3, hp3, e3⟩
    refine ⟨_, rfl, ?_⟩
    rw [e3]
    unfold i32 at hz3
    replace hp3 : z3 = 1 ∧ 48 ≤ x ∧ x ≤ 57 ∨ z3 = 0 ∧ ¬ (48 ≤ x ∧ x ≤ 57) := hp3
    show wr (d + 1) tb_M29 11 [(0, vi x)] [vi z3] s _
    by_cases h4 : z3 = 0
    · refine wr_if1t rfl rfl (by unfold i32; omega) h4 ?_
      refine wr_n (pc2 := 19) (lv2 := [(0, vi x)]) (st2 := [vi 0]) 1 (fun _ _ => rfl) ?_
      refine wr_end (fun _ _ => rfl) ?_
      exact ⟨0, rfl, by unfold i32; omega, (by omega), rfl⟩
    · refine wr_if1f rfl rfl (by unfold i32; omega) h4 ?_
      refine wr_n (pc2 := 19) (lv2 := [(0, vi x)]) (st2 := [vi 1]) 2 (fun _ _ => rfl) ?_
      refine wr_end (fun _ _ => rfl) ?_
      exact ⟨1, rfl, by unfold i32; omega, (by omega), rfl⟩
set_option maxHeartbeats 20000000 in
set_option maxRecDepth 100000 in
theorem xa_kind {d : Nat}  (s : rS) (hK : KI s.1)   : cr (d + 1) 34 [.ref 137] s (PZ (fun z => 0 ≤ s.1 137 5 ∧ s.1 137 5 ≤ 2000 ∧ z = s.1 139 (s.1 137 5).toNat ∨ ¬ (0 ≤ s.1 137 5 ∧ s.1 137 5 ≤ 2000) ∧ z = 3) s) := by
  refine cr_of (M := tb_M34) rfl (Nat.le_of_ble_eq_true rfl) ?_
  show wr (d) tb_M34 0 [(0, .ref 137)] [] s _
  refine wr_n (pc2 := 1) (lv2 := [(0, .ref 137)]) (st2 := [.ref 137]) 1 (fun _ _ => rfl) ?_
  refine wr_get (v := vi (s.1 137 5)) rfl rfl rfl (by decide) rfl fun h1 => ?_
  have h1 : -2147483648 ≤ s.1 137 5 ∧ s.1 137 5 ≤ 2147483647 := h1
  show wr d tb_M34 4 [(0, .ref 137)] [vi (s.1 137 5)] s _
  by_cases h2 : s.1 137 5 < 0
  · refine wr_if1t rfl rfl (by unfold i32; omega) h2 ?_
    refine wr_n (pc2 := 30) (lv2 := [(0, .ref 137)]) (st2 := [vi 3]) 1 (fun _ _ => rfl) ?_
    refine wr_end (fun _ _ => rfl) ?_
    exact ⟨3, rfl, by unfold i32; omega, (by omega), rfl⟩
  · refine wr_if1f rfl rfl (by unfold i32; omega) h2 ?_
    refine wr_n (pc2 := 8) (lv2 := [(0, .ref 137)]) (st2 := [.ref 137]) 1 (fun _ _ => rfl) ?_
    refine wr_get (v := vi (s.1 137 5)) rfl rfl rfl (by decide) rfl fun h3 => ?_
    have h3 : -2147483648 ≤ s.1 137 5 ∧ s.1 137 5 ≤ 2147483647 := h3
    show wr d tb_M34 11 [(0, .ref 137)] [vi (s.1 137 5)] s _
    refine wr_n (pc2 := 14) (lv2 := [(0, .ref 137)]) (st2 := [vi 2000, vi (s.1 137 5)]) 1 (fun _ _ => rfl) ?_
    by_cases h4 : 2000 < s.1 137 5
    · refine wr_if2t rfl rfl (by unfold i32; omega) (by unfold i32; omega) h4 ?_
      refine wr_n (pc2 := 30) (lv2 := [(0, .ref 137)]) (st2 := [vi 3]) 1 (fun _ _ => rfl) ?_
      refine wr_end (fun _ _ => rfl) ?_
      exact ⟨3, rfl, by unfold i32; omega, (by omega), rfl⟩
    · refine wr_if2f rfl rfl (by unfold i32; omega) (by unfold i32; omega) h4 ?_
      refine wr_n (pc2 := 18) (lv2 := [(0, .ref 137)]) (st2 := [.ref 137]) 1 (fun _ _ => rfl) ?_
      refine wr_get (v := .ref 139) rfl rfl rfl (by decide) (rv_ref (hK.1 137 2 139 rfl)) fun h5 => ?_
      show wr d tb_M34 21 [(0, .ref 137)] [.ref 139] s _
      refine wr_n (pc2 := 22) (lv2 := [(0, .ref 137)]) (st2 := [.ref 137, .ref 139]) 1 (fun _ _ => rfl) ?_
      refine wr_get (v := vi (s.1 137 5)) rfl rfl rfl (by decide) rfl fun h6 => ?_
      have h6 : -2147483648 ≤ s.1 137 5 ∧ s.1 137 5 ≤ 2147483647 := h6
      show wr d tb_M34 25 [(0, .ref 137)] [vi (s.1 137 5), .ref 139] s _
      refine wr_ald (a := s.1 137 5) (v := vi (s.1 139 ((s.1 137 5).toNat))) rfl rfl rfl (by omega) (by omega) (by decide) rfl fun h7 => ?_
      have h7 : -2147483648 ≤ s.1 139 ((s.1 137 5).toNat) ∧ s.1 139 ((s.1 137 5).toNat) ≤ 2147483647 := h7
      show wr d tb_M34 26 [(0, .ref 137)] [vi (s.1 139 ((s.1 137 5).toNat))] s _
      refine wr_n (pc2 := 30) (lv2 := [(0, .ref 137)]) (st2 := [vi (s.1 139 ((s.1 137 5).toNat))]) 1 (fun _ _ => rfl) ?_
      refine wr_reti rfl rfl ?_
      exact ⟨s.1 139 ((s.1 137 5).toNat), rfl, by unfold i32; omega, (by omega), rfl⟩
set_option maxHeartbeats 20000000 in
set_option maxRecDepth 100000 in
theorem xa_place {d : Nat}  (s : rS) (hK : KI s.1)   : cr (d + 1) 40 [.ref 137] s (PZ (fun z => 0 ≤ s.1 137 5 ∧ s.1 137 5 ≤ 2000 ∧ z = s.1 140 (s.1 137 5).toNat ∨ ¬ (0 ≤ s.1 137 5 ∧ s.1 137 5 ≤ 2000) ∧ z = 0) s) := by
  refine cr_of (M := tb_M40) rfl (Nat.le_of_ble_eq_true rfl) ?_
  show wr (d) tb_M40 0 [(0, .ref 137)] [] s _
  refine wr_n (pc2 := 1) (lv2 := [(0, .ref 137)]) (st2 := [.ref 137]) 1 (fun _ _ => rfl) ?_
  refine wr_get (v := vi (s.1 137 5)) rfl rfl rfl (by decide) rfl fun h1 => ?_
  have h1 : -2147483648 ≤ s.1 137 5 ∧ s.1 137 5 ≤ 2147483647 := h1
  show wr d tb_M40 4 [(0, .ref 137)] [vi (s.1 137 5)] s _
  by_cases h2 : s.1 137 5 < 0
  · refine wr_if1t rfl rfl (by unfold i32; omega) h2 ?_
    refine wr_n (pc2 := 30) (lv2 := [(0, .ref 137)]) (st2 := [vi 0]) 1 (fun _ _ => rfl) ?_
    refine wr_end (fun _ _ => rfl) ?_
    exact ⟨0, rfl, by unfold i32; omega, (by omega), rfl⟩
  · refine wr_if1f rfl rfl (by unfold i32; omega) h2 ?_
    refine wr_n (pc2 := 8) (lv2 := [(0, .ref 137)]) (st2 := [.ref 137]) 1 (fun _ _ => rfl) ?_
    refine wr_get (v := vi (s.1 137 5)) rfl rfl rfl (by decide) rfl fun h3 => ?_
    have h3 : -2147483648 ≤ s.1 137 5 ∧ s.1 137 5 ≤ 2147483647 := h3
    show wr d tb_M40 11 [(0, .ref 137)] [vi (s.1 137 5)] s _
    refine wr_n (pc2 := 14) (lv2 := [(0, .ref 137)]) (st2 := [vi 2000, vi (s.1 137 5)]) 1 (fun _ _ => rfl) ?_
    by_cases h4 : 2000 < s.1 137 5
    · refine wr_if2t rfl rfl (by unfold i32; omega) (by unfold i32; omega) h4 ?_
      refine wr_n (pc2 := 30) (lv2 := [(0, .ref 137)]) (st2 := [vi 0]) 1 (fun _ _ => rfl) ?_
      refine wr_end (fun _ _ => rfl) ?_
      exact ⟨0, rfl, by unfold i32; omega, (by omega), rfl⟩
    · refine wr_if2f rfl rfl (by unfold i32; omega) (by unfold i32; omega) h4 ?_
      refine wr_n (pc2 := 18) (lv2 := [(0, .ref 137)]) (st2 := [.ref 137]) 1 (fun _ _ => rfl) ?_
      refine wr_get (v := .ref 140) rfl rfl rfl (by decide) (rv_ref (hK.1 137 3 140 rfl)) fun h5 => ?_
      show wr d tb_M40 21 [(0, .ref 137)] [.ref 140] s _
      refine wr_n (pc2 := 22) (lv2 := [(0, .ref 137)]) (st2 := [.ref 137, .ref 140]) 1 (fun _ _ => rfl) ?_
      refine wr_get (v := vi (s.1 137 5)) rfl rfl rfl (by decide) rfl fun h6 => ?_
      have h6 : -2147483648 ≤ s.1 137 5 ∧ s.1 137 5 ≤ 2147483647 := h6
      show wr d tb_M40 25 [(0, .ref 137)] [vi (s.1 137 5), .ref 140] s _
      refine wr_ald (a := s.1 137 5) (v := vi (s.1 140 ((s.1 137 5).toNat))) rfl rfl rfl (by omega) (by omega) (by decide) rfl fun h7 => ?_
      have h7 : -2147483648 ≤ s.1 140 ((s.1 137 5).toNat) ∧ s.1 140 ((s.1 137 5).toNat) ≤ 2147483647 := h7
      show wr d tb_M40 26 [(0, .ref 137)] [vi (s.1 140 ((s.1 137 5).toNat))] s _
      refine wr_n (pc2 := 30) (lv2 := [(0, .ref 137)]) (st2 := [vi (s.1 140 ((s.1 137 5).toNat))]) 1 (fun _ _ => rfl) ?_
      refine wr_reti rfl rfl ?_
      exact ⟨s.1 140 ((s.1 137 5).toNat), rfl, by unfold i32; omega, (by omega), rfl⟩
