theorem c_put {d C : Nat} {v : Int} (hC : C = 177 ∨ C = 186) (s : rS) (hR : RF s.1) (hc : s.1 170 19 = (C : Int)) (hv : i32 v) (hm : 0 ≤ s.1 C 1 ∧ s.1 C 1 < 24000) : cr (d + 1) 140 [.ref 170, vi v] s (fun s2 out => out = some (some (vi (s.1 C 1))) ∧ s2 = (up2 (up2 s.1 (C + 1) (s.1 C 1).toNat v) C 1 (s.1 C 1 + 1), s.2)) := by
  unfold i32 at hv
  rcases hC with rfl | rfl
  · refine cr_of (M := tb_M140) rfl (Nat.le_of_ble_eq_true rfl) ?_
    show wr d tb_M140 0 [(0, .ref 170), (1, vi v)] [] s _
    refine wr_n (pc2 := 1) (lv2 := [(0, .ref 170), (1, vi v)]) (st2 := [.ref 170]) 1 (fun _ _ => rfl) ?_
    refine wr_get (v := .ref 177) rfl rfl rfl (by decide) (rv_ref (show s.1 170 19 = ((177 : Nat) : Int) from hc)) fun h1 => ?_
    show wr d tb_M140 4 [(0, .ref 170), (1, vi v)] [.ref 177] s _
    refine wr_get (v := .ref 178) rfl rfl rfl (by decide) (rv_ref (hR 177 0 178 rfl)) fun h2 => ?_
    show wr d tb_M140 7 [(0, .ref 170), (1, vi v)] [.ref 178] s _
    refine wr_n (pc2 := 8) (lv2 := [(0, .ref 170), (1, vi v)]) (st2 := [.ref 170, .ref 178]) 1 (fun _ _ => rfl) ?_
    refine wr_get (v := .ref 177) rfl rfl rfl (by decide) (rv_ref (show s.1 170 19 = ((177 : Nat) : Int) from hc)) fun h3 => ?_
    show wr d tb_M140 11 [(0, .ref 170), (1, vi v)] [.ref 177, .ref 178] s _
    refine wr_get (v := vi (s.1 177 1)) rfl rfl rfl (by decide) rfl fun h4 => ?_
    have h4 : -2147483648 ≤ s.1 177 1 ∧ s.1 177 1 ≤ 2147483647 := h4
    show wr d tb_M140 14 [(0, .ref 170), (1, vi v)] [vi (s.1 177 1), .ref 178] s _
    refine wr_n (pc2 := 15) (lv2 := [(0, .ref 170), (1, vi v)]) (st2 := [vi v, vi (s.1 177 1), .ref 178]) 1 (fun _ _ => rfl) ?_
    refine wr_ast (a := s.1 177 1) (z := v) rfl (by decide) rfl rfl (by omega) (by omega) (by decide) rfl (show -2147483648 ≤ v ∧ v ≤ 2147483647 by omega) ?_
    show wr d tb_M140 16 [(0, .ref 170), (1, vi v)] [] (up2 s.1 178 ((s.1 177 1).toNat) v, s.2) _
    have hR5 : RF (up2 s.1 178 ((s.1 177 1).toNat) v) := (RF_up hR rfl)
    refine wr_n (pc2 := 17) (lv2 := [(0, .ref 170), (1, vi v)]) (st2 := [.ref 170]) 1 (fun _ _ => rfl) ?_
    refine wr_get (v := .ref 177) rfl rfl rfl (by decide) (rv_ref (show (up2 s.1 178 ((s.1 177 1).toNat) v) 170 19 = ((177 : Nat) : Int) from hc)) fun h6 => ?_
    show wr d tb_M140 20 [(0, .ref 170), (1, vi v)] [.ref 177] (up2 s.1 178 ((s.1 177 1).toNat) v, s.2) _
    refine wr_n (pc2 := 21) (lv2 := [(0, .ref 170), (1, vi v)]) (st2 := [.ref 177, .ref 177]) 1 (fun _ _ => rfl) ?_
    refine wr_get (v := vi (s.1 177 1)) rfl rfl rfl (by decide) rfl fun h7 => ?_
    have h7 : -2147483648 ≤ s.1 177 1 ∧ s.1 177 1 ≤ 2147483647 := h7
    show wr d tb_M140 24 [(0, .ref 170), (1, vi v)] [vi (s.1 177 1), .ref 177] (up2 s.1 178 ((s.1 177 1).toNat) v, s.2) _
    refine wr_n (pc2 := 25) (lv2 := [(0, .ref 170), (1, vi v)]) (st2 := [vi 1, vi (s.1 177 1), .ref 177]) 1 (fun _ _ => rfl) ?_
    refine wr_add (a := s.1 177 1) (b := 1) rfl ?_
    show wr d tb_M140 26 [(0, .ref 170), (1, vi v)] [vi (s.1 177 1 + 1), .ref 177] (up2 s.1 178 ((s.1 177 1).toNat) v, s.2) _
    refine wr_put (z := s.1 177 1 + 1) rfl rfl rfl rfl (by decide) rfl (by decide) rfl (show -2147483648 ≤ s.1 177 1 + 1 ∧ s.1 177 1 + 1 ≤ 2147483647 by omega) (hf_int' _) ?_
    show wr d tb_M140 29 [(0, .ref 170), (1, vi v)] [] (up2 (up2 s.1 178 ((s.1 177 1).toNat) v) 177 1 (s.1 177 1 + 1), s.2) _
    have hR8 : RF (up2 (up2 s.1 178 ((s.1 177 1).toNat) v) 177 1 (s.1 177 1 + 1)) := (RF_up (RF_up hR rfl) rfl)
    refine wr_n (pc2 := 30) (lv2 := [(0, .ref 170), (1, vi v)]) (st2 := [.ref 170]) 1 (fun _ _ => rfl) ?_
    refine wr_get (v := .ref 177) rfl rfl rfl (by decide) (rv_ref (show (up2 (up2 s.1 178 ((s.1 177 1).toNat) v) 177 1 (s.1 177 1 + 1)) 170 19 = ((177 : Nat) : Int) from hc)) fun h9 => ?_
    show wr d tb_M140 33 [(0, .ref 170), (1, vi v)] [.ref 177] (up2 (up2 s.1 178 ((s.1 177 1).toNat) v) 177 1 (s.1 177 1 + 1), s.2) _
    refine wr_get (v := vi (s.1 177 1 + 1)) rfl rfl rfl (by decide) rfl fun h10 => ?_
    have h10 : -2147483648 ≤ s.1 177 1 + 1 ∧ s.1 177 1 + 1 ≤ 2147483647 := h10
    show wr d tb_M140 36 [(0, .ref 170), (1, vi v)] [vi (s.1 177 1 + 1)] (up2 (up2 s.1 178 ((s.1 177 1).toNat) v) 177 1 (s.1 177 1 + 1), s.2) _
    refine wr_n (pc2 := 37) (lv2 := [(0, .ref 170), (1, vi v)]) (st2 := [vi 1, vi (s.1 177 1 + 1)]) 1 (fun _ _ => rfl) ?_
    refine wr_sub (a := s.1 177 1 + 1) (b := 1) rfl ?_
    show wr d tb_M140 38 [(0, .ref 170), (1, vi v)] [vi ((s.1 177 1 + 1) - 1)] (up2 (up2 s.1 178 ((s.1 177 1).toNat) v) 177 1 (s.1 177 1 + 1), s.2) _
    refine wr_reti rfl rfl ?_
    exact ⟨congrArg (fun z => some (some (vi z))) (show s.1 177 1 + 1 - 1 = s.1 177 1 by omega), rfl⟩
  · refine cr_of (M := tb_M140) rfl (Nat.le_of_ble_eq_true rfl) ?_
    show wr d tb_M140 0 [(0, .ref 170), (1, vi v)] [] s _
    refine wr_n (pc2 := 1) (lv2 := [(0, .ref 170), (1, vi v)]) (st2 := [.ref 170]) 1 (fun _ _ => rfl) ?_
    refine wr_get (v := .ref 186) rfl rfl rfl (by decide) (rv_ref (show s.1 170 19 = ((186 : Nat) : Int) from hc)) fun h1 => ?_
    show wr d tb_M140 4 [(0, .ref 170), (1, vi v)] [.ref 186] s _
    refine wr_get (v := .ref 187) rfl rfl rfl (by decide) (rv_ref (hR 186 0 187 rfl)) fun h2 => ?_
    show wr d tb_M140 7 [(0, .ref 170), (1, vi v)] [.ref 187] s _
    refine wr_n (pc2 := 8) (lv2 := [(0, .ref 170), (1, vi v)]) (st2 := [.ref 170, .ref 187]) 1 (fun _ _ => rfl) ?_
    refine wr_get (v := .ref 186) rfl rfl rfl (by decide) (rv_ref (show s.1 170 19 = ((186 : Nat) : Int) from hc)) fun h3 => ?_
    show wr d tb_M140 11 [(0, .ref 170), (1, vi v)] [.ref 186, .ref 187] s _
    refine wr_get (v := vi (s.1 186 1)) rfl rfl rfl (by decide) rfl fun h4 => ?_
    have h4 : -2147483648 ≤ s.1 186 1 ∧ s.1 186 1 ≤ 2147483647 := h4
    show wr d tb_M140 14 [(0, .ref 170), (1, vi v)] [vi (s.1 186 1), .ref 187] s _
    refine wr_n (pc2 := 15) (lv2 := [(0, .ref 170), (1, vi v)]) (st2 := [vi v, vi (s.1 186 1), .ref 187]) 1 (fun _ _ => rfl) ?_
    refine wr_ast (a := s.1 186 1) (z := v) rfl (by decide) rfl rfl (by omega) (by omega) (by decide) rfl (show -2147483648 ≤ v ∧ v ≤ 2147483647 by omega) ?_
    show wr d tb_M140 16 [(0, .ref 170), (1, vi v)] [] (up2 s.1 187 ((s.1 186 1).toNat) v, s.2) _
    have hR5 : RF (up2 s.1 187 ((s.1 186 1).toNat) v) := (RF_up hR rfl)
    refine wr_n (pc2 := 17) (lv2 := [(0, .ref 170), (1, vi v)]) (st2 := [.ref 170]) 1 (fun _ _ => rfl) ?_
    refine wr_get (v := .ref 186) rfl rfl rfl (by decide) (rv_ref (show (up2 s.1 187 ((s.1 186 1).toNat) v) 170 19 = ((186 : Nat) : Int) from hc)) fun h6 => ?_
    show wr d tb_M140 20 [(0, .ref 170), (1, vi v)] [.ref 186] (up2 s.1 187 ((s.1 186 1).toNat) v, s.2) _
    refine wr_n (pc2 := 21) (lv2 := [(0, .ref 170), (1, vi v)]) (st2 := [.ref 186, .ref 186]) 1 (fun _ _ => rfl) ?_
    refine wr_get (v := vi (s.1 186 1)) rfl rfl rfl (by decide) rfl fun h7 => ?_
    have h7 : -2147483648 ≤ s.1 186 1 ∧ s.1 186 1 ≤ 2147483647 := h7
    show wr d tb_M140 24 [(0, .ref 170), (1, vi v)] [vi (s.1 186 1), .ref 186] (up2 s.1 187 ((s.1 186 1).toNat) v, s.2) _
    refine wr_n (pc2 := 25) (lv2 := [(0, .ref 170), (1, vi v)]) (st2 := [vi 1, vi (s.1 186 1), .ref 186]) 1 (fun _ _ => rfl) ?_
    refine wr_add (a := s.1 186 1) (b := 1) rfl ?_
    show wr d tb_M140 26 [(0, .ref 170), (1, vi v)] [vi (s.1 186 1 + 1), .ref 186] (up2 s.1 187 ((s.1 186 1).toNat) v, s.2) _
    refine wr_put (z := s.1 186 1 + 1) rfl rfl rfl rfl (by decide) rfl (by decide) rfl (show -2147483648 ≤ s.1 186 1 + 1 ∧ s.1 186 1 + 1 ≤ 2147483647 by omega) (hf_int' _) ?_
    show wr d tb_M140 29 [(0, .ref 170), (1, vi v)] [] (up2 (up2 s.1 187 ((s.1 186 1).toNat) v) 186 1 (s.1 186 1 + 1), s.2) _
    have hR8 : RF (up2 (up2 s.1 187 ((s.1 186 1).toNat) v) 186 1 (s.1 186 1 + 1)) := (RF_up (RF_up hR rfl) rfl)
    refine wr_n (pc2 := 30) (lv2 := [(0, .ref 170), (1, vi v)]) (st2 := [.ref 170]) 1 (fun _ _ => rfl) ?_
    refine wr_get (v := .ref 186) rfl rfl rfl (by decide) (rv_ref (show (up2 (up2 s.1 187 ((s.1 186 1).toNat) v) 186 1 (s.1 186 1 + 1)) 170 19 = ((186 : Nat) : Int) from hc)) fun h9 => ?_
    show wr d tb_M140 33 [(0, .ref 170), (1, vi v)] [.ref 186] (up2 (up2 s.1 187 ((s.1 186 1).toNat) v) 186 1 (s.1 186 1 + 1), s.2) _
    refine wr_get (v := vi (s.1 186 1 + 1)) rfl rfl rfl (by decide) rfl fun h10 => ?_
    have h10 : -2147483648 ≤ s.1 186 1 + 1 ∧ s.1 186 1 + 1 ≤ 2147483647 := h10
    show wr d tb_M140 36 [(0, .ref 170), (1, vi v)] [vi (s.1 186 1 + 1)] (up2 (up2 s.1 187 ((s.1 186 1).toNat) v) 186 1 (s.1 186 1 + 1), s.2) _
    refine wr_n (pc2 := 37) (lv2 := [(0, .ref 170), (1, vi v)]) (st2 := [vi 1, vi (s.1 186 1 + 1)]) 1 (fun _ _ => rfl) ?_
    refine wr_sub (a := s.1 186 1 + 1) (b := 1) rfl ?_
    show wr d tb_M140 38 [(0, .ref 170), (1, vi v)] [vi ((s.1 186 1 + 1) - 1)] (up2 (up2 s.1 187 ((s.1 186 1).toNat) v) 186 1 (s.1 186 1 + 1), s.2) _
    refine wr_reti rfl rfl ?_
    exact ⟨congrArg (fun z => some (some (vi z))) (show s.1 186 1 + 1 - 1 = s.1 186 1 by omega), rfl⟩
theorem c_put2 {d C : Nat} {op v : Int} (hC : C = 177 ∨ C = 186) (s : rS) (hR : RF s.1) (hc : s.1 170 19 = (C : Int)) (ho : i32 op) (hv : i32 v) (hm : 0 ≤ s.1 C 1 ∧ s.1 C 1 < 23999) : cr (d + 2) 147 [.ref 170, vi op, vi v] s (fun s2 out => out = some none ∧ s2 = (up2 (up2 (up2 (up2 s.1 (C + 1) (s.1 C 1).toNat op) C 1 (s.1 C 1 + 1)) (C + 1) (s.1 C 1 + 1).toNat v) C 1 (s.1 C 1 + 1 + 1), s.2)) := by
  unfold i32 at ho hv
  rcases hC with rfl | rfl
  · refine cr_of (M := tb_M147) rfl (Nat.le_of_ble_eq_true rfl) ?_
    show wr (d + 1) tb_M147 0 [(0, .ref 170), (1, vi op), (2, vi v)] [] s _
    refine wr_n (pc2 := 2) (lv2 := [(0, .ref 170), (1, vi op), (2, vi v)]) (st2 := [vi op, .ref 170]) 2 (fun _ _ => rfl) ?_
    refine wr_call1 (args := [vi op]) (rest := []) rfl rfl rfl rfl (Nat.le_of_ble_eq_true rfl) (cr_mono (c_put (d := d) (v := op) (C := 177) (by omega) _ hR (show s.1 170 19 = ((177 : Nat) : Int) from hc) (by unfold i32; omega) (show 0 ≤ s.1 177 1 ∧ s.1 177 1 < 24000 by omega)) ?_)
    rintro s2 out ⟨rfl, e1⟩
    refine ⟨_, rfl, ?_⟩
    rw [e1]
    show wr (d + 1) tb_M147 5 [(0, .ref 170), (1, vi op), (2, vi v)] [vi (s.1 177 1)] (up2 (up2 s.1 178 ((s.1 177 1).toNat) op) 177 1 (s.1 177 1 + 1), s.2) _
    have hR3 : RF (up2 (up2 s.1 178 ((s.1 177 1).toNat) op) 177 1 (s.1 177 1 + 1)) := (RF_up (RF_up hR rfl) rfl)
    refine wr_n (pc2 := 8) (lv2 := [(0, .ref 170), (1, vi op), (2, vi v)]) (st2 := [vi v, .ref 170]) 3 (fun _ _ => rfl) ?_
    refine wr_call1 (args := [vi v]) (rest := []) rfl rfl rfl rfl (Nat.le_of_ble_eq_true rfl) (cr_mono (c_put (d := d) (v := v) (C := 177) (by omega) _ hR3 (show (up2 (up2 s.1 178 ((s.1 177 1).toNat) op) 177 1 (s.1 177 1 + 1)) 170 19 = ((177 : Nat) : Int) from hc) (by unfold i32; omega) (show 0 ≤ s.1 177 1 + 1 ∧ s.1 177 1 + 1 < 24000 by omega)) ?_)
    rintro s5 out ⟨rfl, e4⟩
    refine ⟨_, rfl, ?_⟩
    rw [e4]
    show wr (d + 1) tb_M147 11 [(0, .ref 170), (1, vi op), (2, vi v)] [vi (s.1 177 1 + 1)] (up2 (up2 (up2 (up2 s.1 178 ((s.1 177 1).toNat) op) 177 1 (s.1 177 1 + 1)) 178 ((s.1 177 1 + 1).toNat) v) 177 1 (s.1 177 1 + 1 + 1), s.2) _
    have hR6 : RF (up2 (up2 (up2 (up2 s.1 178 ((s.1 177 1).toNat) op) 177 1 (s.1 177 1 + 1)) 178 ((s.1 177 1 + 1).toNat) v) 177 1 (s.1 177 1 + 1 + 1)) := (RF_up (RF_up (RF_up (RF_up hR rfl) rfl) rfl) rfl)
    refine wr_n (pc2 := 12) (lv2 := [(0, .ref 170), (1, vi op), (2, vi v)]) (st2 := []) 1 (fun _ _ => rfl) ?_
    refine wr_end (fun _ _ => rfl) ?_
    exact ⟨rfl, rfl⟩
  · refine cr_of (M := tb_M147) rfl (Nat.le_of_ble_eq_true rfl) ?_
    show wr (d + 1) tb_M147 0 [(0, .ref 170), (1, vi op), (2, vi v)] [] s _
    refine wr_n (pc2 := 2) (lv2 := [(0, .ref 170), (1, vi op), (2, vi v)]) (st2 := [vi op, .ref 170]) 2 (fun _ _ => rfl) ?_
    refine wr_call1 (args := [vi op]) (rest := []) rfl rfl rfl rfl (Nat.le_of_ble_eq_true rfl) (cr_mono (c_put (d := d) (v := op) (C := 186) (by omega) _ hR (show s.1 170 19 = ((186 : Nat) : Int) from hc) (by unfold i32; omega) (show 0 ≤ s.1 186 1 ∧ s.1 186 1 < 24000 by omega)) ?_)
    rintro s2 out ⟨rfl, e1⟩
    refine ⟨_, rfl, ?_⟩
    rw [e1]
    show wr (d + 1) tb_M147 5 [(0, .ref 170), (1, vi op), (2, vi v)] [vi (s.1 186 1)] (up2 (up2 s.1 187 ((s.1 186 1).toNat) op) 186 1 (s.1 186 1 + 1), s.2) _
    have hR3 : RF (up2 (up2 s.1 187 ((s.1 186 1).toNat) op) 186 1 (s.1 186 1 + 1)) := (RF_up (RF_up hR rfl) rfl)
    refine wr_n (pc2 := 8) (lv2 := [(0, .ref 170), (1, vi op), (2, vi v)]) (st2 := [vi v, .ref 170]) 3 (fun _ _ => rfl) ?_
    refine wr_call1 (args := [vi v]) (rest := []) rfl rfl rfl rfl (Nat.le_of_ble_eq_true rfl) (cr_mono (c_put (d := d) (v := v) (C := 186) (by omega) _ hR3 (show (up2 (up2 s.1 187 ((s.1 186 1).toNat) op) 186 1 (s.1 186 1 + 1)) 170 19 = ((186 : Nat) : Int) from hc) (by unfold i32; omega) (show 0 ≤ s.1 186 1 + 1 ∧ s.1 186 1 + 1 < 24000 by omega)) ?_)
    rintro s5 out ⟨rfl, e4⟩
    refine ⟨_, rfl, ?_⟩
    rw [e4]
    show wr (d + 1) tb_M147 11 [(0, .ref 170), (1, vi op), (2, vi v)] [vi (s.1 186 1 + 1)] (up2 (up2 (up2 (up2 s.1 187 ((s.1 186 1).toNat) op) 186 1 (s.1 186 1 + 1)) 187 ((s.1 186 1 + 1).toNat) v) 186 1 (s.1 186 1 + 1 + 1), s.2) _
    have hR6 : RF (up2 (up2 (up2 (up2 s.1 187 ((s.1 186 1).toNat) op) 186 1 (s.1 186 1 + 1)) 187 ((s.1 186 1 + 1).toNat) v) 186 1 (s.1 186 1 + 1 + 1)) := (RF_up (RF_up (RF_up (RF_up hR rfl) rfl) rfl) rfl)
    refine wr_n (pc2 := 12) (lv2 := [(0, .ref 170), (1, vi op), (2, vi v)]) (st2 := []) 1 (fun _ _ => rfl) ?_
    refine wr_end (fun _ _ => rfl) ?_
    exact ⟨rfl, rfl⟩
theorem c_part {d C : Nat}  (hC : C = 177 ∨ C = 186) (s : rS) (hR : RF s.1) (hc : s.1 170 19 = (C : Int)) (hm : 0 ≤ s.1 C 1 ∧ s.1 C 1 < 24000) (hp : 0 ≤ s.1 C 3 ∧ s.1 C 3 < 1000000) : cr (d + 2) 142 [.ref 170] s (fun s2 out => out = some none ∧ s2 = (up2 (up2 (up2 s.1 (C + 1) (s.1 C 1).toNat 0) C 1 (s.1 C 1 + 1)) C 3 (s.1 C 3 + 1), s.2)) := by
  rcases hC with rfl | rfl
  · refine cr_of (M := tb_M142) rfl (Nat.le_of_ble_eq_true rfl) ?_
    show wr (d + 1) tb_M142 0 [(0, .ref 170)] [] s _
    refine wr_n (pc2 := 2) (lv2 := [(0, .ref 170)]) (st2 := [vi 0, .ref 170]) 2 (fun _ _ => rfl) ?_
    refine wr_call1 (args := [vi 0]) (rest := []) rfl rfl rfl rfl (Nat.le_of_ble_eq_true rfl) (cr_mono (c_put (d := d) (v := 0) (C := 177) (by omega) _ hR (show s.1 170 19 = ((177 : Nat) : Int) from hc) (by unfold i32; omega) (show 0 ≤ s.1 177 1 ∧ s.1 177 1 < 24000 by omega)) ?_)
    rintro s2 out ⟨rfl, e1⟩
    refine ⟨_, rfl, ?_⟩
    rw [e1]
    show wr (d + 1) tb_M142 5 [(0, .ref 170)] [vi (s.1 177 1)] (up2 (up2 s.1 178 ((s.1 177 1).toNat) 0) 177 1 (s.1 177 1 + 1), s.2) _
    have hR3 : RF (up2 (up2 s.1 178 ((s.1 177 1).toNat) 0) 177 1 (s.1 177 1 + 1)) := (RF_up (RF_up hR rfl) rfl)
    refine wr_n (pc2 := 7) (lv2 := [(0, .ref 170)]) (st2 := [.ref 170]) 2 (fun _ _ => rfl) ?_
    refine wr_get (v := .ref 177) rfl rfl rfl (by decide) (rv_ref (show (up2 (up2 s.1 178 ((s.1 177 1).toNat) 0) 177 1 (s.1 177 1 + 1)) 170 19 = ((177 : Nat) : Int) from hc)) fun h4 => ?_
    show wr (d + 1) tb_M142 10 [(0, .ref 170)] [.ref 177] (up2 (up2 s.1 178 ((s.1 177 1).toNat) 0) 177 1 (s.1 177 1 + 1), s.2) _
    refine wr_n (pc2 := 11) (lv2 := [(0, .ref 170)]) (st2 := [.ref 177, .ref 177]) 1 (fun _ _ => rfl) ?_
    refine wr_get (v := vi (s.1 177 3)) rfl rfl rfl (by decide) rfl fun h5 => ?_
    have h5 : -2147483648 ≤ s.1 177 3 ∧ s.1 177 3 ≤ 2147483647 := h5
    show wr (d + 1) tb_M142 14 [(0, .ref 170)] [vi (s.1 177 3), .ref 177] (up2 (up2 s.1 178 ((s.1 177 1).toNat) 0) 177 1 (s.1 177 1 + 1), s.2) _
    refine wr_n (pc2 := 15) (lv2 := [(0, .ref 170)]) (st2 := [vi 1, vi (s.1 177 3), .ref 177]) 1 (fun _ _ => rfl) ?_
    refine wr_add (a := s.1 177 3) (b := 1) rfl ?_
    show wr (d + 1) tb_M142 16 [(0, .ref 170)] [vi (s.1 177 3 + 1), .ref 177] (up2 (up2 s.1 178 ((s.1 177 1).toNat) 0) 177 1 (s.1 177 1 + 1), s.2) _
    refine wr_put (z := s.1 177 3 + 1) rfl rfl rfl rfl (by decide) rfl (by decide) rfl (show -2147483648 ≤ s.1 177 3 + 1 ∧ s.1 177 3 + 1 ≤ 2147483647 by omega) (hf_int' _) ?_
    show wr (d + 1) tb_M142 19 [(0, .ref 170)] [] (up2 (up2 (up2 s.1 178 ((s.1 177 1).toNat) 0) 177 1 (s.1 177 1 + 1)) 177 3 (s.1 177 3 + 1), s.2) _
    have hR6 : RF (up2 (up2 (up2 s.1 178 ((s.1 177 1).toNat) 0) 177 1 (s.1 177 1 + 1)) 177 3 (s.1 177 3 + 1)) := (RF_up (RF_up (RF_up hR rfl) rfl) rfl)
    refine wr_end (fun _ _ => rfl) ?_
    exact ⟨rfl, rfl⟩
  · refine cr_of (M := tb_M142) rfl (Nat.le_of_ble_eq_true rfl) ?_
    show wr (d + 1) tb_M142 0 [(0, .ref 170)] [] s _
    refine wr_n (pc2 := 2) (lv2 := [(0, .ref 170)]) (st2 := [vi 0, .ref 170]) 2 (fun _ _ => rfl) ?_
    refine wr_call1 (args := [vi 0]) (rest := []) rfl rfl rfl rfl (Nat.le_of_ble_eq_true rfl) (cr_mono (c_put (d := d) (v := 0) (C := 186) (by omega) _ hR (show s.1 170 19 = ((186 : Nat) : Int) from hc) (by unfold i32; omega) (show 0 ≤ s.1 186 1 ∧ s.1 186 1 < 24000 by omega)) ?_)
    rintro s2 out ⟨rfl, e1⟩
    refine ⟨_, rfl, ?_⟩
    rw [e1]
    show wr (d + 1) tb_M142 5 [(0, .ref 170)] [vi (s.1 186 1)] (up2 (up2 s.1 187 ((s.1 186 1).toNat) 0) 186 1 (s.1 186 1 + 1), s.2) _
    have hR3 : RF (up2 (up2 s.1 187 ((s.1 186 1).toNat) 0) 186 1 (s.1 186 1 + 1)) := (RF_up (RF_up hR rfl) rfl)
    refine wr_n (pc2 := 7) (lv2 := [(0, .ref 170)]) (st2 := [.ref 170]) 2 (fun _ _ => rfl) ?_
    refine wr_get (v := .ref 186) rfl rfl rfl (by decide) (rv_ref (show (up2 (up2 s.1 187 ((s.1 186 1).toNat) 0) 186 1 (s.1 186 1 + 1)) 170 19 = ((186 : Nat) : Int) from hc)) fun h4 => ?_
    show wr (d + 1) tb_M142 10 [(0, .ref 170)] [.ref 186] (up2 (up2 s.1 187 ((s.1 186 1).toNat) 0) 186 1 (s.1 186 1 + 1), s.2) _
    refine wr_n (pc2 := 11) (lv2 := [(0, .ref 170)]) (st2 := [.ref 186, .ref 186]) 1 (fun _ _ => rfl) ?_
    refine wr_get (v := vi (s.1 186 3)) rfl rfl rfl (by decide) rfl fun h5 => ?_
    have h5 : -2147483648 ≤ s.1 186 3 ∧ s.1 186 3 ≤ 2147483647 := h5
    show wr (d + 1) tb_M142 14 [(0, .ref 170)] [vi (s.1 186 3), .ref 186] (up2 (up2 s.1 187 ((s.1 186 1).toNat) 0) 186 1 (s.1 186 1 + 1), s.2) _
    refine wr_n (pc2 := 15) (lv2 := [(0, .ref 170)]) (st2 := [vi 1, vi (s.1 186 3), .ref 186]) 1 (fun _ _ => rfl) ?_
    refine wr_add (a := s.1 186 3) (b := 1) rfl ?_
    show wr (d + 1) tb_M142 16 [(0, .ref 170)] [vi (s.1 186 3 + 1), .ref 186] (up2 (up2 s.1 187 ((s.1 186 1).toNat) 0) 186 1 (s.1 186 1 + 1), s.2) _
    refine wr_put (z := s.1 186 3 + 1) rfl rfl rfl rfl (by decide) rfl (by decide) rfl (show -2147483648 ≤ s.1 186 3 + 1 ∧ s.1 186 3 + 1 ≤ 2147483647 by omega) (hf_int' _) ?_
    show wr (d + 1) tb_M142 19 [(0, .ref 170)] [] (up2 (up2 (up2 s.1 187 ((s.1 186 1).toNat) 0) 186 1 (s.1 186 1 + 1)) 186 3 (s.1 186 3 + 1), s.2) _
    have hR6 : RF (up2 (up2 (up2 s.1 187 ((s.1 186 1).toNat) 0) 186 1 (s.1 186 1 + 1)) 186 3 (s.1 186 3 + 1)) := (RF_up (RF_up (RF_up hR rfl) rfl) rfl)
    refine wr_end (fun _ _ => rfl) ?_
    exact ⟨rfl, rfl⟩
theorem c_scope {d : Nat}  (s : rS) (hR : RF s.1) (hs : 0 ≤ s.1 170 16 ∧ s.1 170 16 < 1000000) : cr (d + 1) 135 [.ref 170] s (fun s2 out => out = some none ∧ s2 = (up2 (up2 s.1 170 15 (s.1 170 16)) 170 16 (s.1 170 16 + 1), s.2)) := by
  refine cr_of (M := tb_M135) rfl (Nat.le_of_ble_eq_true rfl) ?_
  show wr d tb_M135 0 [(0, .ref 170)] [] s _
  refine wr_n (pc2 := 2) (lv2 := [(0, .ref 170)]) (st2 := [.ref 170, .ref 170]) 2 (fun _ _ => rfl) ?_
  refine wr_get (v := vi (s.1 170 16)) rfl rfl rfl (by decide) rfl fun h1 => ?_
  have h1 : -2147483648 ≤ s.1 170 16 ∧ s.1 170 16 ≤ 2147483647 := h1
  show wr d tb_M135 5 [(0, .ref 170)] [vi (s.1 170 16), .ref 170] s _
  refine wr_put (z := s.1 170 16) rfl rfl rfl rfl (by decide) rfl (by decide) rfl (show -2147483648 ≤ s.1 170 16 ∧ s.1 170 16 ≤ 2147483647 by omega) (hf_int' _) ?_
  show wr d tb_M135 8 [(0, .ref 170)] [] (up2 s.1 170 15 (s.1 170 16), s.2) _
  have hR2 : RF (up2 s.1 170 15 (s.1 170 16)) := (RF_up hR rfl)
  refine wr_n (pc2 := 10) (lv2 := [(0, .ref 170)]) (st2 := [.ref 170, .ref 170]) 2 (fun _ _ => rfl) ?_
  refine wr_get (v := vi (s.1 170 16)) rfl rfl rfl (by decide) rfl fun h3 => ?_
  have h3 : -2147483648 ≤ s.1 170 16 ∧ s.1 170 16 ≤ 2147483647 := h3
  show wr d tb_M135 13 [(0, .ref 170)] [vi (s.1 170 16), .ref 170] (up2 s.1 170 15 (s.1 170 16), s.2) _
  refine wr_n (pc2 := 14) (lv2 := [(0, .ref 170)]) (st2 := [vi 1, vi (s.1 170 16), .ref 170]) 1 (fun _ _ => rfl) ?_
  refine wr_add (a := s.1 170 16) (b := 1) rfl ?_
  show wr d tb_M135 15 [(0, .ref 170)] [vi (s.1 170 16 + 1), .ref 170] (up2 s.1 170 15 (s.1 170 16), s.2) _
  refine wr_put (z := s.1 170 16 + 1) rfl rfl rfl rfl (by decide) rfl (by decide) rfl (show -2147483648 ≤ s.1 170 16 + 1 ∧ s.1 170 16 + 1 ≤ 2147483647 by omega) (hf_int' _) ?_
  show wr d tb_M135 18 [(0, .ref 170)] [] (up2 (up2 s.1 170 15 (s.1 170 16)) 170 16 (s.1 170 16 + 1), s.2) _
  have hR4 : RF (up2 (up2 s.1 170 15 (s.1 170 16)) 170 16 (s.1 170 16 + 1)) := (RF_up (RF_up hR rfl) rfl)
  refine wr_end (fun _ _ => rfl) ?_
  exact ⟨rfl, rfl⟩
theorem c_forget {d : Nat}  (s : rS) (hR : RF s.1) : cr (d + 1) 138 [.ref 170] s (fun s2 out => out = some none ∧ s2 = (up2 (up2 (up2 (up2 (up2 s.1 170 22 0) 170 23 0) 170 24 0) 170 25 0) 170 26 0, s.2)) := by
  refine cr_of (M := tb_M138) rfl (Nat.le_of_ble_eq_true rfl) ?_
  show wr d tb_M138 0 [(0, .ref 170)] [] s _
  refine wr_n (pc2 := 2) (lv2 := [(0, .ref 170)]) (st2 := [vl 0, .ref 170]) 2 (fun _ _ => rfl) ?_
  refine wr_put (z := 0) rfl rfl rfl rfl (by decide) rfl (by decide) rfl (by first | exact ⟨by omega, by omega⟩ | assumption) (fit_l _) ?_
  show wr d tb_M138 5 [(0, .ref 170)] [] (up2 s.1 170 22 0, s.2) _
  have hR1 : RF (up2 s.1 170 22 0) := (RF_up hR rfl)
  refine wr_n (pc2 := 7) (lv2 := [(0, .ref 170)]) (st2 := [vl 0, .ref 170]) 2 (fun _ _ => rfl) ?_
  refine wr_put (z := 0) rfl rfl rfl rfl (by decide) rfl (by decide) rfl (by first | exact ⟨by omega, by omega⟩ | assumption) (fit_l _) ?_
  show wr d tb_M138 10 [(0, .ref 170)] [] (up2 (up2 s.1 170 22 0) 170 23 0, s.2) _
  have hR2 : RF (up2 (up2 s.1 170 22 0) 170 23 0) := (RF_up (RF_up hR rfl) rfl)
  refine wr_n (pc2 := 12) (lv2 := [(0, .ref 170)]) (st2 := [vl 0, .ref 170]) 2 (fun _ _ => rfl) ?_
  refine wr_put (z := 0) rfl rfl rfl rfl (by decide) rfl (by decide) rfl (by first | exact ⟨by omega, by omega⟩ | assumption) (fit_l _) ?_
  show wr d tb_M138 15 [(0, .ref 170)] [] (up2 (up2 (up2 s.1 170 22 0) 170 23 0) 170 24 0, s.2) _
  have hR3 : RF (up2 (up2 (up2 s.1 170 22 0) 170 23 0) 170 24 0) := (RF_up (RF_up (RF_up hR rfl) rfl) rfl)
  refine wr_n (pc2 := 17) (lv2 := [(0, .ref 170)]) (st2 := [vl 0, .ref 170]) 2 (fun _ _ => rfl) ?_
  refine wr_put (z := 0) rfl rfl rfl rfl (by decide) rfl (by decide) rfl (by first | exact ⟨by omega, by omega⟩ | assumption) (fit_l _) ?_
  show wr d tb_M138 20 [(0, .ref 170)] [] (up2 (up2 (up2 (up2 s.1 170 22 0) 170 23 0) 170 24 0) 170 25 0, s.2) _
  have hR4 : RF (up2 (up2 (up2 (up2 s.1 170 22 0) 170 23 0) 170 24 0) 170 25 0) := (RF_up (RF_up (RF_up (RF_up hR rfl) rfl) rfl) rfl)
  refine wr_n (pc2 := 22) (lv2 := [(0, .ref 170)]) (st2 := [vl 0, .ref 170]) 2 (fun _ _ => rfl) ?_
  refine wr_put (z := 0) rfl rfl rfl rfl (by decide) rfl (by decide) rfl (by first | exact ⟨by omega, by omega⟩ | assumption) (fit_l _) ?_
  show wr d tb_M138 25 [(0, .ref 170)] [] (up2 (up2 (up2 (up2 (up2 s.1 170 22 0) 170 23 0) 170 24 0) 170 25 0) 170 26 0, s.2) _
  have hR5 : RF (up2 (up2 (up2 (up2 (up2 s.1 170 22 0) 170 23 0) 170 24 0) 170 25 0) 170 26 0) := (RF_up (RF_up (RF_up (RF_up (RF_up hR rfl) rfl) rfl) rfl) rfl)
  refine wr_end (fun _ _ => rfl) ?_
  exact ⟨rfl, rfl⟩
theorem c_isName {d : Nat} {a b : Int} (s : rS) (hR : RF s.1) (ha : i32 a) (hb : i32 b) : cr (d + 3) 130 [.ref 170, vi a, vi b] s (fun s2 out => ∃ e : Int, out = some (some (vi e)) ∧ (e = 1 ∧ s.1 170 4 = 1 ∧ a < b ∧ s2 = s ∨ e = 0 ∧ s2.2 = s.2 ∧ same 170 [8] s.1 s2.1)) := by
  unfold i32 at ha hb
  refine cr_of (M := tb_M130) rfl (Nat.le_of_ble_eq_true rfl) ?_
  show wr (d + 2) tb_M130 0 [(0, .ref 170), (1, vi a), (2, vi b)] [] s _
  refine wr_n (pc2 := 1) (lv2 := [(0, .ref 170), (1, vi a), (2, vi b)]) (st2 := [.ref 170]) 1 (fun _ _ => rfl) ?_
  refine wr_get (v := vi (s.1 170 4)) rfl rfl rfl (by decide) rfl fun h1 => ?_
  have h1 : -2147483648 ≤ s.1 170 4 ∧ s.1 170 4 ≤ 2147483647 := h1
  show wr (d + 2) tb_M130 4 [(0, .ref 170), (1, vi a), (2, vi b)] [vi (s.1 170 4)] s _
  refine wr_n (pc2 := 5) (lv2 := [(0, .ref 170), (1, vi a), (2, vi b)]) (st2 := [vi 1, vi (s.1 170 4)]) 1 (fun _ _ => rfl) ?_
  by_cases h2 : s.1 170 4 ≠ 1
  · refine wr_if2t rfl rfl (by unfold i32; omega) (by unfold i32; omega) h2 ?_
    refine wr_n (pc2 := 14) (lv2 := [(0, .ref 170), (1, vi a), (2, vi b)]) (st2 := [.ref 170]) 1 (fun _ _ => rfl) ?_
    refine wr_call1 (args := []) (rest := []) rfl rfl rfl rfl (Nat.le_of_ble_eq_true rfl) (cr_mono (c_bad0 (d := d) _ hR) ?_)
    rintro s6 out ⟨rfl, h3, h4⟩
    refine ⟨_, rfl, ?_⟩
    show wr (d + 2) tb_M130 17 [(0, .ref 170), (1, vi a), (2, vi b)] [vi 0] s6 _
    have hR7 : RF s6.1 := same_RF h4 (by decide) hR
    refine wr_n (pc2 := 25) (lv2 := [(0, .ref 170), (1, vi a), (2, vi b)]) (st2 := [vi 0]) 2 (fun _ _ => rfl) ?_
    refine wr_end (fun _ _ => rfl) ?_
    exact ⟨0, rfl, Or.inr ⟨rfl, h3, h4⟩⟩
  · refine wr_if2f rfl rfl (by unfold i32; omega) (by unfold i32; omega) h2 ?_
    refine wr_n (pc2 := 10) (lv2 := [(0, .ref 170), (1, vi a), (2, vi b)]) (st2 := [vi b, vi a]) 2 (fun _ _ => rfl) ?_
    by_cases h8 : a < b
    · refine wr_if2t rfl rfl (by unfold i32; omega) (by unfold i32; omega) h8 ?_
      refine wr_n (pc2 := 25) (lv2 := [(0, .ref 170), (1, vi a), (2, vi b)]) (st2 := [vi 1]) 2 (fun _ _ => rfl) ?_
      refine wr_end (fun _ _ => rfl) ?_
      exact ⟨1, rfl, Or.inl ⟨rfl, by omega, by omega, rfl⟩⟩
    · refine wr_if2f rfl rfl (by unfold i32; omega) (by unfold i32; omega) h8 ?_
      refine wr_n (pc2 := 14) (lv2 := [(0, .ref 170), (1, vi a), (2, vi b)]) (st2 := [.ref 170]) 1 (fun _ _ => rfl) ?_
      refine wr_call1 (args := []) (rest := []) rfl rfl rfl rfl (Nat.le_of_ble_eq_true rfl) (cr_mono (c_bad0 (d := d) _ hR) ?_)
      rintro s12 out ⟨rfl, h9, h10⟩
      refine ⟨_, rfl, ?_⟩
      show wr (d + 2) tb_M130 17 [(0, .ref 170), (1, vi a), (2, vi b)] [vi 0] s12 _
      have hR13 : RF s12.1 := same_RF h10 (by decide) hR
      refine wr_n (pc2 := 25) (lv2 := [(0, .ref 170), (1, vi a), (2, vi b)]) (st2 := [vi 0]) 2 (fun _ _ => rfl) ?_
      refine wr_end (fun _ _ => rfl) ?_
      exact ⟨0, rfl, Or.inr ⟨rfl, h9, h10⟩⟩
