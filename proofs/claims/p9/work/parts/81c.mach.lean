set_option maxHeartbeats 20000000 in
set_option maxRecDepth 100000 in
theorem c_together {d : Nat} {a x y : Int} (s : rS) (hx : i32 x) (hy : i32 y) : cr (d + 1) 168 [vi a, vi x, vi y] s (fun s2 out => ∃ z : Int, out = some (some (vi z)) ∧ i32 z ∧ s2 = s) := by
  unfold i32 at hx hy
  refine cr_of (M := tb_M168) rfl (Nat.le_of_ble_eq_true rfl) ?_
  show wr d tb_M168 0 [(0, vi a), (1, vi x), (2, vi y)] [] s _
  refine wr_n (pc2 := 1) (lv2 := [(0, vi a), (1, vi x), (2, vi y)]) (st2 := [vi a]) 1 (fun _ _ => rfl) ?_
  refine wr_lsw rfl (by decide) fun off hoff => ?_
  have hoff2 : off = 147 ∨ off = 151 ∨ off = 155 ∨ off = 159 ∨ off = 171 ∨ off = 183 ∨ off = 187 ∨ off = 191 ∨ off = 195 ∨ off = 199 ∨ off = 203 ∨ off = 220 ∨ off = 237 ∨ off = 251 ∨ off = 265 ∨ off = 279 ∨ off = 293 ∨ off = 307 := by simp at hoff; omega
  clear hoff
  rcases hoff2 with rfl | rfl | rfl | rfl | rfl | rfl | rfl | rfl | rfl | rfl | rfl | rfl | rfl | rfl | rfl | rfl | rfl | rfl
  · refine ⟨148, rfl, ?_⟩
    refine wr_n (pc2 := 150) (lv2 := [(0, vi a), (1, vi x), (2, vi y)]) (st2 := [vi y, vi x]) 2 (fun _ _ => rfl) ?_
    refine wr_any2 rfl rfl fun z1 h2 => ?_
    unfold i32 at h2
    show wr d tb_M168 151 [(0, vi a), (1, vi x), (2, vi y)] [vi z1] s _
    refine wr_reti rfl rfl ?_
    exact ⟨z1, rfl, by unfold i32; omega, rfl⟩
  · refine ⟨152, rfl, ?_⟩
    refine wr_n (pc2 := 154) (lv2 := [(0, vi a), (1, vi x), (2, vi y)]) (st2 := [vi y, vi x]) 2 (fun _ _ => rfl) ?_
    refine wr_any2 rfl rfl fun z3 h4 => ?_
    unfold i32 at h4
    show wr d tb_M168 155 [(0, vi a), (1, vi x), (2, vi y)] [vi z3] s _
    refine wr_reti rfl rfl ?_
    exact ⟨z3, rfl, by unfold i32; omega, rfl⟩
  · refine ⟨156, rfl, ?_⟩
    refine wr_n (pc2 := 158) (lv2 := [(0, vi a), (1, vi x), (2, vi y)]) (st2 := [vi y, vi x]) 2 (fun _ _ => rfl) ?_
    refine wr_any2 rfl rfl fun z5 h6 => ?_
    unfold i32 at h6
    show wr d tb_M168 159 [(0, vi a), (1, vi x), (2, vi y)] [vi z5] s _
    refine wr_reti rfl rfl ?_
    exact ⟨z5, rfl, by unfold i32; omega, rfl⟩
  · refine ⟨160, rfl, ?_⟩
    refine wr_n (pc2 := 161) (lv2 := [(0, vi a), (1, vi x), (2, vi y)]) (st2 := [vi y]) 1 (fun _ _ => rfl) ?_
    by_cases h7 : y ≠ 0
    · refine wr_if1t rfl rfl (by unfold i32; omega) h7 ?_
      refine wr_n (pc2 := 170) (lv2 := [(0, vi a), (1, vi x), (2, vi y)]) (st2 := [vi y, vi x]) 2 (fun _ _ => rfl) ?_
      refine wr_div rfl (by unfold i32; omega) (by omega) fun z8 h9 => ?_
      unfold i32 at h9
      show wr d tb_M168 171 [(0, vi a), (1, vi x), (2, vi y)] [vi z8] s _
      refine wr_reti rfl rfl ?_
      exact ⟨z8, rfl, by unfold i32; omega, rfl⟩
    · refine wr_if1f rfl rfl (by unfold i32; omega) h7 ?_
      refine wr_n (pc2 := 171) (lv2 := [(0, vi a), (1, vi x), (2, vi y)]) (st2 := [vi 0]) 2 (fun _ _ => rfl) ?_
      refine wr_end (fun _ _ => rfl) ?_
      exact ⟨0, rfl, by unfold i32; omega, rfl⟩
  · refine ⟨172, rfl, ?_⟩
    refine wr_n (pc2 := 173) (lv2 := [(0, vi a), (1, vi x), (2, vi y)]) (st2 := [vi y]) 1 (fun _ _ => rfl) ?_
    by_cases h10 : y ≠ 0
    · refine wr_if1t rfl rfl (by unfold i32; omega) h10 ?_
      refine wr_n (pc2 := 182) (lv2 := [(0, vi a), (1, vi x), (2, vi y)]) (st2 := [vi y, vi x]) 2 (fun _ _ => rfl) ?_
      refine wr_rem rfl (by unfold i32; omega) (by omega) fun z11 h12 => ?_
      unfold i32 at h12
      show wr d tb_M168 183 [(0, vi a), (1, vi x), (2, vi y)] [vi z11] s _
      refine wr_reti rfl rfl ?_
      exact ⟨z11, rfl, by unfold i32; omega, rfl⟩
    · refine wr_if1f rfl rfl (by unfold i32; omega) h10 ?_
      refine wr_n (pc2 := 183) (lv2 := [(0, vi a), (1, vi x), (2, vi y)]) (st2 := [vi 0]) 2 (fun _ _ => rfl) ?_
      refine wr_end (fun _ _ => rfl) ?_
      exact ⟨0, rfl, by unfold i32; omega, rfl⟩
  · refine ⟨184, rfl, ?_⟩
    refine wr_n (pc2 := 186) (lv2 := [(0, vi a), (1, vi x), (2, vi y)]) (st2 := [vi y, vi x]) 2 (fun _ _ => rfl) ?_
    refine wr_any2 rfl rfl fun z13 h14 => ?_
    unfold i32 at h14
    show wr d tb_M168 187 [(0, vi a), (1, vi x), (2, vi y)] [vi z13] s _
    refine wr_reti rfl rfl ?_
    exact ⟨z13, rfl, by unfold i32; omega, rfl⟩
  · refine ⟨188, rfl, ?_⟩
    refine wr_n (pc2 := 190) (lv2 := [(0, vi a), (1, vi x), (2, vi y)]) (st2 := [vi y, vi x]) 2 (fun _ _ => rfl) ?_
    refine wr_any2 rfl rfl fun z15 h16 => ?_
    unfold i32 at h16
    show wr d tb_M168 191 [(0, vi a), (1, vi x), (2, vi y)] [vi z15] s _
    refine wr_reti rfl rfl ?_
    exact ⟨z15, rfl, by unfold i32; omega, rfl⟩
  · refine ⟨192, rfl, ?_⟩
    refine wr_n (pc2 := 194) (lv2 := [(0, vi a), (1, vi x), (2, vi y)]) (st2 := [vi y, vi x]) 2 (fun _ _ => rfl) ?_
    refine wr_any2 rfl rfl fun z17 h18 => ?_
    unfold i32 at h18
    show wr d tb_M168 195 [(0, vi a), (1, vi x), (2, vi y)] [vi z17] s _
    refine wr_reti rfl rfl ?_
    exact ⟨z17, rfl, by unfold i32; omega, rfl⟩
  · refine ⟨196, rfl, ?_⟩
    refine wr_n (pc2 := 198) (lv2 := [(0, vi a), (1, vi x), (2, vi y)]) (st2 := [vi y, vi x]) 2 (fun _ _ => rfl) ?_
    refine wr_any2 rfl rfl fun z19 h20 => ?_
    unfold i32 at h20
    show wr d tb_M168 199 [(0, vi a), (1, vi x), (2, vi y)] [vi z19] s _
    refine wr_reti rfl rfl ?_
    exact ⟨z19, rfl, by unfold i32; omega, rfl⟩
  · refine ⟨200, rfl, ?_⟩
    refine wr_n (pc2 := 202) (lv2 := [(0, vi a), (1, vi x), (2, vi y)]) (st2 := [vi y, vi x]) 2 (fun _ _ => rfl) ?_
    refine wr_any2 rfl rfl fun z21 h22 => ?_
    unfold i32 at h22
    show wr d tb_M168 203 [(0, vi a), (1, vi x), (2, vi y)] [vi z21] s _
    refine wr_reti rfl rfl ?_
    exact ⟨z21, rfl, by unfold i32; omega, rfl⟩
  · refine ⟨204, rfl, ?_⟩
    refine wr_n (pc2 := 205) (lv2 := [(0, vi a), (1, vi x), (2, vi y)]) (st2 := [vi x]) 1 (fun _ _ => rfl) ?_
    by_cases h23 : x = 0
    · refine wr_if1t rfl rfl (by unfold i32; omega) h23 ?_
      refine wr_n (pc2 := 328) (lv2 := [(3, vi 0), (0, vi a), (1, vi x), (2, vi y)]) (st2 := [vi 0]) 6 (fun _ _ => rfl) ?_
      refine wr_end (fun _ _ => rfl) ?_
      exact ⟨0, rfl, by unfold i32; omega, rfl⟩
    · refine wr_if1f rfl rfl (by unfold i32; omega) h23 ?_
      refine wr_n (pc2 := 209) (lv2 := [(0, vi a), (1, vi x), (2, vi y)]) (st2 := [vi y]) 1 (fun _ _ => rfl) ?_
      by_cases h24 : y = 0
      · refine wr_if1t rfl rfl (by unfold i32; omega) h24 ?_
        refine wr_n (pc2 := 328) (lv2 := [(3, vi 0), (0, vi a), (1, vi x), (2, vi y)]) (st2 := [vi 0]) 6 (fun _ _ => rfl) ?_
        refine wr_end (fun _ _ => rfl) ?_
        exact ⟨0, rfl, by unfold i32; omega, rfl⟩
      · refine wr_if1f rfl rfl (by unfold i32; omega) h24 ?_
        refine wr_n (pc2 := 328) (lv2 := [(3, vi 1), (0, vi a), (1, vi x), (2, vi y)]) (st2 := [vi 1]) 8 (fun _ _ => rfl) ?_
        refine wr_end (fun _ _ => rfl) ?_
        exact ⟨1, rfl, by unfold i32; omega, rfl⟩
  · refine ⟨221, rfl, ?_⟩
    refine wr_n (pc2 := 222) (lv2 := [(0, vi a), (1, vi x), (2, vi y)]) (st2 := [vi x]) 1 (fun _ _ => rfl) ?_
    by_cases h25 : x ≠ 0
    · refine wr_if1t rfl rfl (by unfold i32; omega) h25 ?_
      refine wr_n (pc2 := 328) (lv2 := [(3, vi 1), (0, vi a), (1, vi x), (2, vi y)]) (st2 := [vi 1]) 8 (fun _ _ => rfl) ?_
      refine wr_end (fun _ _ => rfl) ?_
      exact ⟨1, rfl, by unfold i32; omega, rfl⟩
    · refine wr_if1f rfl rfl (by unfold i32; omega) h25 ?_
      refine wr_n (pc2 := 226) (lv2 := [(0, vi a), (1, vi x), (2, vi y)]) (st2 := [vi y]) 1 (fun _ _ => rfl) ?_
      by_cases h26 : y = 0
      · refine wr_if1t rfl rfl (by unfold i32; omega) h26 ?_
        refine wr_n (pc2 := 328) (lv2 := [(3, vi 0), (0, vi a), (1, vi x), (2, vi y)]) (st2 := [vi 0]) 6 (fun _ _ => rfl) ?_
        refine wr_end (fun _ _ => rfl) ?_
        exact ⟨0, rfl, by unfold i32; omega, rfl⟩
      · refine wr_if1f rfl rfl (by unfold i32; omega) h26 ?_
        refine wr_n (pc2 := 328) (lv2 := [(3, vi 1), (0, vi a), (1, vi x), (2, vi y)]) (st2 := [vi 1]) 8 (fun _ _ => rfl) ?_
        refine wr_end (fun _ _ => rfl) ?_
        exact ⟨1, rfl, by unfold i32; omega, rfl⟩
  · refine ⟨238, rfl, ?_⟩
    refine wr_n (pc2 := 240) (lv2 := [(0, vi a), (1, vi x), (2, vi y)]) (st2 := [vi y, vi x]) 2 (fun _ _ => rfl) ?_
    by_cases h27 : x ≠ y
    · refine wr_if2t rfl rfl (by unfold i32; omega) (by unfold i32; omega) h27 ?_
      refine wr_n (pc2 := 328) (lv2 := [(3, vi 0), (0, vi a), (1, vi x), (2, vi y)]) (st2 := [vi 0]) 6 (fun _ _ => rfl) ?_
      refine wr_end (fun _ _ => rfl) ?_
      exact ⟨0, rfl, by unfold i32; omega, rfl⟩
    · refine wr_if2f rfl rfl (by unfold i32; omega) (by unfold i32; omega) h27 ?_
      refine wr_n (pc2 := 328) (lv2 := [(3, vi 1), (0, vi a), (1, vi x), (2, vi y)]) (st2 := [vi 1]) 8 (fun _ _ => rfl) ?_
      refine wr_end (fun _ _ => rfl) ?_
      exact ⟨1, rfl, by unfold i32; omega, rfl⟩
  · refine ⟨252, rfl, ?_⟩
    refine wr_n (pc2 := 254) (lv2 := [(0, vi a), (1, vi x), (2, vi y)]) (st2 := [vi y, vi x]) 2 (fun _ _ => rfl) ?_
    by_cases h28 : x = y
    · refine wr_if2t rfl rfl (by unfold i32; omega) (by unfold i32; omega) h28 ?_
      refine wr_n (pc2 := 328) (lv2 := [(3, vi 0), (0, vi a), (1, vi x), (2, vi y)]) (st2 := [vi 0]) 6 (fun _ _ => rfl) ?_
      refine wr_end (fun _ _ => rfl) ?_
      exact ⟨0, rfl, by unfold i32; omega, rfl⟩
    · refine wr_if2f rfl rfl (by unfold i32; omega) (by unfold i32; omega) h28 ?_
      refine wr_n (pc2 := 328) (lv2 := [(3, vi 1), (0, vi a), (1, vi x), (2, vi y)]) (st2 := [vi 1]) 8 (fun _ _ => rfl) ?_
      refine wr_end (fun _ _ => rfl) ?_
      exact ⟨1, rfl, by unfold i32; omega, rfl⟩
  · refine ⟨266, rfl, ?_⟩
    refine wr_n (pc2 := 268) (lv2 := [(0, vi a), (1, vi x), (2, vi y)]) (st2 := [vi y, vi x]) 2 (fun _ _ => rfl) ?_
    by_cases h29 : y ≤ x
    · refine wr_if2t rfl rfl (by unfold i32; omega) (by unfold i32; omega) h29 ?_
      refine wr_n (pc2 := 328) (lv2 := [(3, vi 0), (0, vi a), (1, vi x), (2, vi y)]) (st2 := [vi 0]) 6 (fun _ _ => rfl) ?_
      refine wr_end (fun _ _ => rfl) ?_
      exact ⟨0, rfl, by unfold i32; omega, rfl⟩
    · refine wr_if2f rfl rfl (by unfold i32; omega) (by unfold i32; omega) h29 ?_
      refine wr_n (pc2 := 328) (lv2 := [(3, vi 1), (0, vi a), (1, vi x), (2, vi y)]) (st2 := [vi 1]) 8 (fun _ _ => rfl) ?_
      refine wr_end (fun _ _ => rfl) ?_
      exact ⟨1, rfl, by unfold i32; omega, rfl⟩
  · refine ⟨280, rfl, ?_⟩
    refine wr_n (pc2 := 282) (lv2 := [(0, vi a), (1, vi x), (2, vi y)]) (st2 := [vi y, vi x]) 2 (fun _ _ => rfl) ?_
    by_cases h30 : y < x
    · refine wr_if2t rfl rfl (by unfold i32; omega) (by unfold i32; omega) h30 ?_
      refine wr_n (pc2 := 328) (lv2 := [(3, vi 0), (0, vi a), (1, vi x), (2, vi y)]) (st2 := [vi 0]) 6 (fun _ _ => rfl) ?_
      refine wr_end (fun _ _ => rfl) ?_
      exact ⟨0, rfl, by unfold i32; omega, rfl⟩
    · refine wr_if2f rfl rfl (by unfold i32; omega) (by unfold i32; omega) h30 ?_
      refine wr_n (pc2 := 328) (lv2 := [(3, vi 1), (0, vi a), (1, vi x), (2, vi y)]) (st2 := [vi 1]) 8 (fun _ _ => rfl) ?_
      refine wr_end (fun _ _ => rfl) ?_
      exact ⟨1, rfl, by unfold i32; omega, rfl⟩
  · refine ⟨294, rfl, ?_⟩
    refine wr_n (pc2 := 296) (lv2 := [(0, vi a), (1, vi x), (2, vi y)]) (st2 := [vi y, vi x]) 2 (fun _ _ => rfl) ?_
    by_cases h31 : x ≤ y
    · refine wr_if2t rfl rfl (by unfold i32; omega) (by unfold i32; omega) h31 ?_
      refine wr_n (pc2 := 328) (lv2 := [(3, vi 0), (0, vi a), (1, vi x), (2, vi y)]) (st2 := [vi 0]) 6 (fun _ _ => rfl) ?_
      refine wr_end (fun _ _ => rfl) ?_
      exact ⟨0, rfl, by unfold i32; omega, rfl⟩
    · refine wr_if2f rfl rfl (by unfold i32; omega) (by unfold i32; omega) h31 ?_
      refine wr_n (pc2 := 328) (lv2 := [(3, vi 1), (0, vi a), (1, vi x), (2, vi y)]) (st2 := [vi 1]) 8 (fun _ _ => rfl) ?_
      refine wr_end (fun _ _ => rfl) ?_
      exact ⟨1, rfl, by unfold i32; omega, rfl⟩
  · refine ⟨308, rfl, ?_⟩
    refine wr_n (pc2 := 310) (lv2 := [(0, vi a), (1, vi x), (2, vi y)]) (st2 := [vi y, vi x]) 2 (fun _ _ => rfl) ?_
    by_cases h32 : x < y
    · refine wr_if2t rfl rfl (by unfold i32; omega) (by unfold i32; omega) h32 ?_
      refine wr_n (pc2 := 328) (lv2 := [(3, vi 0), (0, vi a), (1, vi x), (2, vi y)]) (st2 := [vi 0]) 5 (fun _ _ => rfl) ?_
      refine wr_end (fun _ _ => rfl) ?_
      exact ⟨0, rfl, by unfold i32; omega, rfl⟩
    · refine wr_if2f rfl rfl (by unfold i32; omega) (by unfold i32; omega) h32 ?_
      refine wr_n (pc2 := 328) (lv2 := [(3, vi 1), (0, vi a), (1, vi x), (2, vi y)]) (st2 := [vi 1]) 7 (fun _ _ => rfl) ?_
      refine wr_end (fun _ _ => rfl) ?_
      exact ⟨1, rfl, by unfold i32; omega, rfl⟩
set_option maxRecDepth 100000 in
theorem c_readb {d C b p : Nat} (hC : C = 177 ∨ C = 186) (s : rS) (hR : RF s.1) (h17 : s.1 170 17 = (C : Int)) (hb : b < 700) (hp : s.1 205 b = (p : Int)) (hp2 : p < 24000) : cr (d + 1) 166 [.ref 170, vi (b : Int)] s (fun s2 out => out = some (some (vi (s.1 (C + 1) p))) ∧ i32 (s.1 (C + 1) p) ∧ s2 = (up2 s.1 205 b ((p : Int) + 1), s.2)) := by
  refine cr_of (M := tb_M166) rfl (Nat.le_of_ble_eq_true rfl) ?_
  show wr d tb_M166 0 [(0, .ref 170), (1, vi ((b : Int)))] [] s _
  refine wr_n (pc2 := 1) (lv2 := [(0, .ref 170), (1, vi ((b : Int)))]) (st2 := [.ref 170]) 1 (fun _ _ => rfl) ?_
  refine wr_get (v := .ref 205) rfl rfl rfl (by decide) (rv_ref (hR 170 40 205 rfl)) fun h1 => ?_
  show wr d tb_M166 4 [(0, .ref 170), (1, vi ((b : Int)))] [.ref 205] s _
  refine wr_n (pc2 := 6) (lv2 := [(0, .ref 170), (1, vi ((b : Int)))]) (st2 := [vi ((b : Int)), .ref 205, vi ((b : Int)), .ref 205]) 2 (fun _ _ => rfl) ?_
  refine wr_ald (a := (b : Int)) (v := vi (s.1 205 b)) rfl rfl rfl (by omega) (by omega) (by decide) rfl fun h2 => ?_
  have h2 : -2147483648 ≤ s.1 205 b ∧ s.1 205 b ≤ 2147483647 := h2
  show wr d tb_M166 7 [(0, .ref 170), (1, vi ((b : Int)))] [vi (s.1 205 b), vi ((b : Int)), .ref 205] s _
  rw [hp]
  show wr d tb_M166 7 [(0, .ref 170), (1, vi ((b : Int)))] [vi ((p : Int)), vi ((b : Int)), .ref 205] s _
  refine wr_n (pc2 := 8) (lv2 := [(0, .ref 170), (1, vi ((b : Int)))]) (st2 := [vi 1, vi ((p : Int)), vi ((b : Int)), .ref 205]) 1 (fun _ _ => rfl) ?_
  refine wr_add (a := (p : Int)) (b := 1) rfl ?_
  show wr d tb_M166 9 [(0, .ref 170), (1, vi ((b : Int)))] [vi ((p : Int) + 1), vi ((b : Int)), .ref 205] s _
  refine wr_ast (a := (b : Int)) (z := (p : Int) + 1) rfl (by decide) rfl rfl (by omega) (by omega) (by decide) rfl (show -2147483648 ≤ (p : Int) + 1 ∧ (p : Int) + 1 ≤ 2147483647 by omega) ?_
  show wr d tb_M166 10 [(0, .ref 170), (1, vi ((b : Int)))] [] (up2 s.1 205 b ((p : Int) + 1), s.2) _
  have hR3 : RF (up2 s.1 205 b ((p : Int) + 1)) := (RF_up hR rfl)
  refine wr_n (pc2 := 11) (lv2 := [(0, .ref 170), (1, vi ((b : Int)))]) (st2 := [.ref 170]) 1 (fun _ _ => rfl) ?_
  refine wr_get (v := .ref C) rfl rfl rfl (by decide) (rv_ref (show (up2 s.1 205 b ((p : Int) + 1)) 170 17 = ((C : Nat) : Int) from h17)) fun h4 => ?_
  show wr d tb_M166 14 [(0, .ref 170), (1, vi ((b : Int)))] [.ref C] (up2 s.1 205 b ((p : Int) + 1), s.2) _
  refine wr_get (v := .ref (C + 1)) rfl rfl (TG_C hC) (by decide) (rv_ref (hR3 C 0 (C + 1) (rc_C0 hC))) fun h5 => ?_
  show wr d tb_M166 17 [(0, .ref 170), (1, vi ((b : Int)))] [.ref (C + 1)] (up2 s.1 205 b ((p : Int) + 1), s.2) _
  refine wr_n (pc2 := 18) (lv2 := [(0, .ref 170), (1, vi ((b : Int)))]) (st2 := [.ref 170, .ref (C + 1)]) 1 (fun _ _ => rfl) ?_
  refine wr_get (v := .ref 205) rfl rfl rfl (by decide) (rv_ref (hR3 170 40 205 rfl)) fun h6 => ?_
  show wr d tb_M166 21 [(0, .ref 170), (1, vi ((b : Int)))] [.ref 205, .ref (C + 1)] (up2 s.1 205 b ((p : Int) + 1), s.2) _
  refine wr_n (pc2 := 22) (lv2 := [(0, .ref 170), (1, vi ((b : Int)))]) (st2 := [vi ((b : Int)), .ref 205, .ref (C + 1)]) 1 (fun _ _ => rfl) ?_
  refine wr_ald (a := (b : Int)) (v := vi ((p : Int) + 1)) rfl rfl rfl (by omega) (by omega) (by decide) (by show rv _ ((up2 s.1 205 b ((p : Int) + 1)) 205 b) = _; rw [up_self]; rfl) fun h7 => ?_
  have h7 : rg _ ((up2 s.1 205 b ((p : Int) + 1)) 205 b) := h7
  rw [up_self] at h7
  have h7 : -2147483648 ≤ (p : Int) + 1 ∧ (p : Int) + 1 ≤ 2147483647 := h7
  show wr d tb_M166 23 [(0, .ref 170), (1, vi ((b : Int)))] [vi ((p : Int) + 1), .ref (C + 1)] (up2 s.1 205 b ((p : Int) + 1), s.2) _
  refine wr_n (pc2 := 24) (lv2 := [(0, .ref 170), (1, vi ((b : Int)))]) (st2 := [vi 1, vi ((p : Int) + 1), .ref (C + 1)]) 1 (fun _ _ => rfl) ?_
  refine wr_sub (a := (p : Int) + 1) (b := 1) rfl ?_
  show wr d tb_M166 25 [(0, .ref 170), (1, vi ((b : Int)))] [vi (((p : Int) + 1) - 1), .ref (C + 1)] (up2 s.1 205 b ((p : Int) + 1), s.2) _
  rw [show ((p : Int) + 1) - 1 = (p : Int) by omega]
  show wr d tb_M166 25 [(0, .ref 170), (1, vi ((b : Int)))] [vi ((p : Int)), .ref (C + 1)] (up2 s.1 205 b ((p : Int) + 1), s.2) _
  refine wr_ald (a := (p : Int)) (v := vi (s.1 (C + 1) p)) rfl (TG_C1 hC) rfl (by omega) (by omega) (by decide) (by show rv _ ((up2 s.1 205 b ((p : Int) + 1)) (C + 1) p) = _; rw [up_nk (by omega)]; rfl) fun h8 => ?_
  have h8 : rg _ ((up2 s.1 205 b ((p : Int) + 1)) (C + 1) p) := h8
  rw [up_nk (by omega)] at h8
  have h8 : -2147483648 ≤ s.1 (C + 1) p ∧ s.1 (C + 1) p ≤ 2147483647 := h8
  show wr d tb_M166 26 [(0, .ref 170), (1, vi ((b : Int)))] [vi (s.1 (C + 1) p)] (up2 s.1 205 b ((p : Int) + 1), s.2) _
  have hcd : i32 (s.1 (C + 1) p) := h8
  refine wr_reti rfl rfl ?_
  exact ⟨rfl, hcd, rfl⟩
