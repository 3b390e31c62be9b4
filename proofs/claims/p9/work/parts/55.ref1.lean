theorem c_isSmall {d : Nat} {c : Int} (s : rS) (hc : i32 c) : cr (d + 1) 124 [vi c] s fun s2 out => ∃ b : Int, out = some (some (vi b)) ∧ (b = 1 ∧ 97 ≤ c ∧ c ≤ 122 ∨ b = 0 ∧ ¬ (97 ≤ c ∧ c ≤ 122)) ∧ s2 = s := by
  unfold i32 at hc
  refine cr_of (M := tb_M124) rfl (Nat.le_of_ble_eq_true rfl) ?_
  show wr d tb_M124 0 [(0, vi c)] [] s _
  refine wr_n (pc2 := 3) (lv2 := [(0, vi c)]) (st2 := [vi 97, vi c]) 2 (fun _ _ => rfl) ?_
  by_cases h1 : c < 97
  · refine wr_if2t rfl rfl (by unfold i32; omega) (by unfold i32; omega) h1 ?_
    refine wr_n (pc2 := 17) (lv2 := [(0, vi c)]) (st2 := [vi 0]) 1 (fun _ _ => rfl) ?_
    refine wr_end (fun _ _ => rfl) ?_
    exact ⟨0, rfl, by omega, rfl⟩
  · refine wr_if2f rfl rfl (by unfold i32; omega) (by unfold i32; omega) h1 ?_
    refine wr_n (pc2 := 9) (lv2 := [(0, vi c)]) (st2 := [vi 122, vi c]) 2 (fun _ _ => rfl) ?_
    by_cases h2 : 122 < c
    · refine wr_if2t rfl rfl (by unfold i32; omega) (by unfold i32; omega) h2 ?_
      refine wr_n (pc2 := 17) (lv2 := [(0, vi c)]) (st2 := [vi 0]) 1 (fun _ _ => rfl) ?_
      refine wr_end (fun _ _ => rfl) ?_
      exact ⟨0, rfl, by omega, rfl⟩
    · refine wr_if2f rfl rfl (by unfold i32; omega) (by unfold i32; omega) h2 ?_
      refine wr_n (pc2 := 17) (lv2 := [(0, vi c)]) (st2 := [vi 1]) 2 (fun _ _ => rfl) ?_
      refine wr_end (fun _ _ => rfl) ?_
      exact ⟨1, rfl, by omega, rfl⟩
theorem c_isDigit {d : Nat} {c : Int} (s : rS) (hc : i32 c) : cr (d + 1) 125 [vi c] s fun s2 out => ∃ b : Int, out = some (some (vi b)) ∧ (b = 1 ∧ 48 ≤ c ∧ c ≤ 57 ∨ b = 0 ∧ ¬ (48 ≤ c ∧ c ≤ 57)) ∧ s2 = s := by
  unfold i32 at hc
  refine cr_of (M := tb_M125) rfl (Nat.le_of_ble_eq_true rfl) ?_
  show wr d tb_M125 0 [(0, vi c)] [] s _
  refine wr_n (pc2 := 3) (lv2 := [(0, vi c)]) (st2 := [vi 48, vi c]) 2 (fun _ _ => rfl) ?_
  by_cases h1 : c < 48
  · refine wr_if2t rfl rfl (by unfold i32; omega) (by unfold i32; omega) h1 ?_
    refine wr_n (pc2 := 17) (lv2 := [(0, vi c)]) (st2 := [vi 0]) 1 (fun _ _ => rfl) ?_
    refine wr_end (fun _ _ => rfl) ?_
    exact ⟨0, rfl, by omega, rfl⟩
  · refine wr_if2f rfl rfl (by unfold i32; omega) (by unfold i32; omega) h1 ?_
    refine wr_n (pc2 := 9) (lv2 := [(0, vi c)]) (st2 := [vi 57, vi c]) 2 (fun _ _ => rfl) ?_
    by_cases h2 : 57 < c
    · refine wr_if2t rfl rfl (by unfold i32; omega) (by unfold i32; omega) h2 ?_
      refine wr_n (pc2 := 17) (lv2 := [(0, vi c)]) (st2 := [vi 0]) 1 (fun _ _ => rfl) ?_
      refine wr_end (fun _ _ => rfl) ?_
      exact ⟨0, rfl, by omega, rfl⟩
    · refine wr_if2f rfl rfl (by unfold i32; omega) (by unfold i32; omega) h2 ?_
      refine wr_n (pc2 := 17) (lv2 := [(0, vi c)]) (st2 := [vi 1]) 2 (fun _ _ => rfl) ?_
      refine wr_end (fun _ _ => rfl) ?_
      exact ⟨1, rfl, by omega, rfl⟩
theorem c_push {d : Nat} {b : Nat} {v : Int} (s : rS) (hR : RF s.1) (hb : b < 700) (hv : i32 v) (ht : 0 ≤ s.1 208 b ∧ s.1 208 b < 1000) : cr (d + 1) 164 [.ref 170, vi ((b : Int)), vi v] s fun s2 out => out = some none ∧ s2 = (up2 (up2 s.1 (220 + b) (s.1 208 b).toNat v) 208 b (s.1 208 b + 1), s.2) := by
  unfold i32 at hv
  refine cr_of (M := tb_M164) rfl (Nat.le_of_ble_eq_true rfl) ?_
  show wr d tb_M164 0 [(0, .ref 170), (1, vi ((b : Int))), (2, vi v)] [] s _
  refine wr_n (pc2 := 1) (lv2 := [(0, .ref 170), (1, vi ((b : Int))), (2, vi v)]) (st2 := [.ref 170]) 1 (fun _ _ => rfl) ?_
  refine wr_get (v := .ref 219) rfl rfl rfl (by decide) (rv_ref (hR 170 48 219 rfl)) fun h1 => ?_
  show wr d tb_M164 4 [(0, .ref 170), (1, vi ((b : Int))), (2, vi v)] [.ref 219] s _
  refine wr_n (pc2 := 5) (lv2 := [(0, .ref 170), (1, vi ((b : Int))), (2, vi v)]) (st2 := [vi ((b : Int)), .ref 219]) 1 (fun _ _ => rfl) ?_
  refine wr_ald (a := (b : Int)) (v := .ref (220 + b)) rfl rfl rfl (by omega) (by omega) (by decide) (rv_ref (hR 219 b (220 + b) (rc_st (by omega)))) fun h2 => ?_
  show wr d tb_M164 6 [(0, .ref 170), (1, vi ((b : Int))), (2, vi v)] [.ref (220 + b)] s _
  refine wr_n (pc2 := 7) (lv2 := [(0, .ref 170), (1, vi ((b : Int))), (2, vi v)]) (st2 := [.ref 170, .ref (220 + b)]) 1 (fun _ _ => rfl) ?_
  refine wr_get (v := .ref 208) rfl rfl rfl (by decide) (rv_ref (hR 170 43 208 rfl)) fun h3 => ?_
  show wr d tb_M164 10 [(0, .ref 170), (1, vi ((b : Int))), (2, vi v)] [.ref 208, .ref (220 + b)] s _
  refine wr_n (pc2 := 11) (lv2 := [(0, .ref 170), (1, vi ((b : Int))), (2, vi v)]) (st2 := [vi ((b : Int)), .ref 208, .ref (220 + b)]) 1 (fun _ _ => rfl) ?_
  refine wr_ald (a := (b : Int)) (v := vi (s.1 208 b)) rfl rfl rfl (by omega) (by omega) (by decide) rfl fun h4 => ?_
  have h4 : -2147483648 ≤ s.1 208 b ∧ s.1 208 b ≤ 2147483647 := h4
  show wr d tb_M164 12 [(0, .ref 170), (1, vi ((b : Int))), (2, vi v)] [vi (s.1 208 b), .ref (220 + b)] s _
  refine wr_n (pc2 := 13) (lv2 := [(0, .ref 170), (1, vi ((b : Int))), (2, vi v)]) (st2 := [vi v, vi (s.1 208 b), .ref (220 + b)]) 1 (fun _ _ => rfl) ?_
  refine wr_ast (a := s.1 208 b) (z := v) rfl (show 96 ≤ 220 + b by omega) (TG_st (by omega)) rfl (by omega) (by omega) (by decide) rfl (show -2147483648 ≤ v ∧ v ≤ 2147483647 by omega) ?_
  show wr d tb_M164 14 [(0, .ref 170), (1, vi ((b : Int))), (2, vi v)] [] (up2 s.1 (220 + b) ((s.1 208 b).toNat) v, s.2) _
  have hR5 : RF (up2 s.1 (220 + b) ((s.1 208 b).toNat) v) := (RF_up hR (rc_hi (by omega) (by omega) (by omega)))
  refine wr_n (pc2 := 15) (lv2 := [(0, .ref 170), (1, vi ((b : Int))), (2, vi v)]) (st2 := [.ref 170]) 1 (fun _ _ => rfl) ?_
  refine wr_get (v := .ref 208) rfl rfl rfl (by decide) (rv_ref (hR5 170 43 208 rfl)) fun h6 => ?_
  show wr d tb_M164 18 [(0, .ref 170), (1, vi ((b : Int))), (2, vi v)] [.ref 208] (up2 s.1 (220 + b) ((s.1 208 b).toNat) v, s.2) _
  refine wr_n (pc2 := 20) (lv2 := [(0, .ref 170), (1, vi ((b : Int))), (2, vi v)]) (st2 := [vi ((b : Int)), .ref 208, vi ((b : Int)), .ref 208]) 2 (fun _ _ => rfl) ?_
  refine wr_ald (a := (b : Int)) (v := vi (s.1 208 b)) rfl rfl rfl (by omega) (by omega) (by decide) (by show rv _ ((up2 s.1 (220 + b) ((s.1 208 b).toNat) v) 208 b) = _; rw [up_nk (by omega)]; rfl) fun h7 => ?_
  have h7 : rg _ ((up2 s.1 (220 + b) ((s.1 208 b).toNat) v) 208 b) := h7
  rw [up_nk (by omega)] at h7
  have h7 : -2147483648 ≤ s.1 208 b ∧ s.1 208 b ≤ 2147483647 := h7
  show wr d tb_M164 21 [(0, .ref 170), (1, vi ((b : Int))), (2, vi v)] [vi (s.1 208 b), vi ((b : Int)), .ref 208] (up2 s.1 (220 + b) ((s.1 208 b).toNat) v, s.2) _
  refine wr_n (pc2 := 22) (lv2 := [(0, .ref 170), (1, vi ((b : Int))), (2, vi v)]) (st2 := [vi 1, vi (s.1 208 b), vi ((b : Int)), .ref 208]) 1 (fun _ _ => rfl) ?_
  refine wr_add (a := s.1 208 b) (b := 1) rfl ?_
  show wr d tb_M164 23 [(0, .ref 170), (1, vi ((b : Int))), (2, vi v)] [vi (s.1 208 b + 1), vi ((b : Int)), .ref 208] (up2 s.1 (220 + b) ((s.1 208 b).toNat) v, s.2) _
  refine wr_ast (a := (b : Int)) (z := s.1 208 b + 1) rfl (by decide) rfl rfl (by omega) (by omega) (by decide) rfl (show -2147483648 ≤ s.1 208 b + 1 ∧ s.1 208 b + 1 ≤ 2147483647 by omega) ?_
  show wr d tb_M164 24 [(0, .ref 170), (1, vi ((b : Int))), (2, vi v)] [] (up2 (up2 s.1 (220 + b) ((s.1 208 b).toNat) v) 208 b (s.1 208 b + 1), s.2) _
  have hR8 : RF (up2 (up2 s.1 (220 + b) ((s.1 208 b).toNat) v) 208 b (s.1 208 b + 1)) := (RF_up (RF_up hR (rc_hi (by omega) (by omega) (by omega))) rfl)
  refine wr_end (fun _ _ => rfl) ?_
  exact ⟨rfl, rfl⟩
theorem c_pop {d : Nat} {b : Nat} (s : rS) (hR : RF s.1) (hb : b < 700) (ht : 0 < s.1 208 b ∧ s.1 208 b ≤ 1000) : cr (d + 1) 167 [.ref 170, vi ((b : Int))] s fun s2 out => out = some (some (vi (s.1 (220 + b) (s.1 208 b - 1).toNat))) ∧ i32 (s.1 (220 + b) (s.1 208 b - 1).toNat) ∧ s2 = (up2 s.1 208 b (s.1 208 b - 1), s.2) := by
  refine cr_of (M := tb_M167) rfl (Nat.le_of_ble_eq_true rfl) ?_
  show wr d tb_M167 0 [(0, .ref 170), (1, vi ((b : Int)))] [] s _
  refine wr_n (pc2 := 1) (lv2 := [(0, .ref 170), (1, vi ((b : Int)))]) (st2 := [.ref 170]) 1 (fun _ _ => rfl) ?_
  refine wr_get (v := .ref 208) rfl rfl rfl (by decide) (rv_ref (hR 170 43 208 rfl)) fun h1 => ?_
  show wr d tb_M167 4 [(0, .ref 170), (1, vi ((b : Int)))] [.ref 208] s _
  refine wr_n (pc2 := 6) (lv2 := [(0, .ref 170), (1, vi ((b : Int)))]) (st2 := [vi ((b : Int)), .ref 208, vi ((b : Int)), .ref 208]) 2 (fun _ _ => rfl) ?_
  refine wr_ald (a := (b : Int)) (v := vi (s.1 208 b)) rfl rfl rfl (by omega) (by omega) (by decide) rfl fun h2 => ?_
  have h2 : -2147483648 ≤ s.1 208 b ∧ s.1 208 b ≤ 2147483647 := h2
  show wr d tb_M167 7 [(0, .ref 170), (1, vi ((b : Int)))] [vi (s.1 208 b), vi ((b : Int)), .ref 208] s _
  refine wr_n (pc2 := 8) (lv2 := [(0, .ref 170), (1, vi ((b : Int)))]) (st2 := [vi 1, vi (s.1 208 b), vi ((b : Int)), .ref 208]) 1 (fun _ _ => rfl) ?_
  refine wr_sub (a := s.1 208 b) (b := 1) rfl ?_
  show wr d tb_M167 9 [(0, .ref 170), (1, vi ((b : Int)))] [vi ((s.1 208 b) - 1), vi ((b : Int)), .ref 208] s _
  refine wr_ast (a := (b : Int)) (z := (s.1 208 b) - 1) rfl (by decide) rfl rfl (by omega) (by omega) (by decide) rfl (show -2147483648 ≤ (s.1 208 b) - 1 ∧ (s.1 208 b) - 1 ≤ 2147483647 by omega) ?_
  show wr d tb_M167 10 [(0, .ref 170), (1, vi ((b : Int)))] [] (up2 s.1 208 b ((s.1 208 b) - 1), s.2) _
  have hR3 : RF (up2 s.1 208 b ((s.1 208 b) - 1)) := (RF_up hR rfl)
  refine wr_n (pc2 := 11) (lv2 := [(0, .ref 170), (1, vi ((b : Int)))]) (st2 := [.ref 170]) 1 (fun _ _ => rfl) ?_
  refine wr_get (v := .ref 219) rfl rfl rfl (by decide) (rv_ref (hR3 170 48 219 rfl)) fun h4 => ?_
  show wr d tb_M167 14 [(0, .ref 170), (1, vi ((b : Int)))] [.ref 219] (up2 s.1 208 b ((s.1 208 b) - 1), s.2) _
  refine wr_n (pc2 := 15) (lv2 := [(0, .ref 170), (1, vi ((b : Int)))]) (st2 := [vi ((b : Int)), .ref 219]) 1 (fun _ _ => rfl) ?_
  refine wr_ald (a := (b : Int)) (v := .ref (220 + b)) rfl rfl rfl (by omega) (by omega) (by decide) (rv_ref (hR3 219 b (220 + b) (rc_st (by omega)))) fun h5 => ?_
  show wr d tb_M167 16 [(0, .ref 170), (1, vi ((b : Int)))] [.ref (220 + b)] (up2 s.1 208 b ((s.1 208 b) - 1), s.2) _
  refine wr_n (pc2 := 17) (lv2 := [(0, .ref 170), (1, vi ((b : Int)))]) (st2 := [.ref 170, .ref (220 + b)]) 1 (fun _ _ => rfl) ?_
  refine wr_get (v := .ref 208) rfl rfl rfl (by decide) (rv_ref (hR3 170 43 208 rfl)) fun h6 => ?_
  show wr d tb_M167 20 [(0, .ref 170), (1, vi ((b : Int)))] [.ref 208, .ref (220 + b)] (up2 s.1 208 b ((s.1 208 b) - 1), s.2) _
  refine wr_n (pc2 := 21) (lv2 := [(0, .ref 170), (1, vi ((b : Int)))]) (st2 := [vi ((b : Int)), .ref 208, .ref (220 + b)]) 1 (fun _ _ => rfl) ?_
  refine wr_ald (a := (b : Int)) (v := vi ((s.1 208 b) - 1)) rfl rfl rfl (by omega) (by omega) (by decide) (by show rv _ ((up2 s.1 208 b ((s.1 208 b) - 1)) 208 b) = _; rw [up_self]; rfl) fun h7 => ?_
  have h7 : rg _ ((up2 s.1 208 b ((s.1 208 b) - 1)) 208 b) := h7
  rw [up_self] at h7
  have h7 : -2147483648 ≤ (s.1 208 b) - 1 ∧ (s.1 208 b) - 1 ≤ 2147483647 := h7
  show wr d tb_M167 22 [(0, .ref 170), (1, vi ((b : Int)))] [vi ((s.1 208 b) - 1), .ref (220 + b)] (up2 s.1 208 b ((s.1 208 b) - 1), s.2) _
  refine wr_ald (a := (s.1 208 b) - 1) (v := vi (s.1 (220 + b) (((s.1 208 b) - 1).toNat))) rfl (TG_st (by omega)) rfl (by omega) (by omega) (by decide) (by show rv _ ((up2 s.1 208 b ((s.1 208 b) - 1)) (220 + b) (((s.1 208 b) - 1).toNat)) = _; rw [up_nk (by omega)]; rfl) fun h8 => ?_
  have h8 : rg _ ((up2 s.1 208 b ((s.1 208 b) - 1)) (220 + b) (((s.1 208 b) - 1).toNat)) := h8
  rw [up_nk (by omega)] at h8
  have h8 : -2147483648 ≤ s.1 (220 + b) (((s.1 208 b) - 1).toNat) ∧ s.1 (220 + b) (((s.1 208 b) - 1).toNat) ≤ 2147483647 := h8
  show wr d tb_M167 23 [(0, .ref 170), (1, vi ((b : Int)))] [vi (s.1 (220 + b) (((s.1 208 b) - 1).toNat))] (up2 s.1 208 b ((s.1 208 b) - 1), s.2) _
  refine wr_reti rfl rfl ?_
  exact ⟨rfl, by assumption, rfl⟩
theorem c_wait {d : Nat} {b : Nat} {h w : Int} (s : rS) (hR : RF s.1) (hb : b < 700) (hh : i32 h) (hw : i32 w) : cr (d + 1) 171 [.ref 170, vi ((b : Int)), vi h, vi w] s fun s2 out => out = some none ∧ s2 = (up2 (up2 s.1 206 b h) 207 b w, s.2) := by
  unfold i32 at hh hw
  refine cr_of (M := tb_M171) rfl (Nat.le_of_ble_eq_true rfl) ?_
  show wr d tb_M171 0 [(0, .ref 170), (1, vi ((b : Int))), (2, vi h), (3, vi w)] [] s _
  refine wr_n (pc2 := 1) (lv2 := [(0, .ref 170), (1, vi ((b : Int))), (2, vi h), (3, vi w)]) (st2 := [.ref 170]) 1 (fun _ _ => rfl) ?_
  refine wr_get (v := .ref 206) rfl rfl rfl (by decide) (rv_ref (hR 170 41 206 rfl)) fun h1 => ?_
  show wr d tb_M171 4 [(0, .ref 170), (1, vi ((b : Int))), (2, vi h), (3, vi w)] [.ref 206] s _
  refine wr_n (pc2 := 6) (lv2 := [(0, .ref 170), (1, vi ((b : Int))), (2, vi h), (3, vi w)]) (st2 := [vi h, vi ((b : Int)), .ref 206]) 2 (fun _ _ => rfl) ?_
  refine wr_ast (a := (b : Int)) (z := h) rfl (by decide) rfl rfl (by omega) (by omega) (by decide) rfl (show -2147483648 ≤ h ∧ h ≤ 2147483647 by omega) ?_
  show wr d tb_M171 7 [(0, .ref 170), (1, vi ((b : Int))), (2, vi h), (3, vi w)] [] (up2 s.1 206 b h, s.2) _
  have hR2 : RF (up2 s.1 206 b h) := (RF_up hR rfl)
  refine wr_n (pc2 := 8) (lv2 := [(0, .ref 170), (1, vi ((b : Int))), (2, vi h), (3, vi w)]) (st2 := [.ref 170]) 1 (fun _ _ => rfl) ?_
  refine wr_get (v := .ref 207) rfl rfl rfl (by decide) (rv_ref (hR2 170 42 207 rfl)) fun h3 => ?_
  show wr d tb_M171 11 [(0, .ref 170), (1, vi ((b : Int))), (2, vi h), (3, vi w)] [.ref 207] (up2 s.1 206 b h, s.2) _
  refine wr_n (pc2 := 13) (lv2 := [(0, .ref 170), (1, vi ((b : Int))), (2, vi h), (3, vi w)]) (st2 := [vi w, vi ((b : Int)), .ref 207]) 2 (fun _ _ => rfl) ?_
  refine wr_ast (a := (b : Int)) (z := w) rfl (by decide) rfl rfl (by omega) (by omega) (by decide) rfl (show -2147483648 ≤ w ∧ w ≤ 2147483647 by omega) ?_
  show wr d tb_M171 14 [(0, .ref 170), (1, vi ((b : Int))), (2, vi h), (3, vi w)] [] (up2 (up2 s.1 206 b h) 207 b w, s.2) _
  have hR4 : RF (up2 (up2 s.1 206 b h) 207 b w) := (RF_up (RF_up hR rfl) rfl)
  refine wr_end (fun _ _ => rfl) ?_
  exact ⟨rfl, rfl⟩
theorem c_make {d : Nat} {b : Nat} {p a : Int} (s : rS) (hR : RF s.1) (hb : b < 700) (hp : i32 p) (ha : i32 a) : cr (d + 1) 161 [.ref 170, vi ((b : Int)), vi p, vi a] s fun s2 out => out = some none ∧ s2 = (up2 (up2 (up2 (up2 (up2 (up2 s.1 205 b p) 206 b 1) 208 b 0) 209 b 0) 210 b a) 211 b 0, s.2) := by
  unfold i32 at hp ha
  refine cr_of (M := tb_M161) rfl (Nat.le_of_ble_eq_true rfl) ?_
  show wr d tb_M161 0 [(0, .ref 170), (1, vi ((b : Int))), (2, vi p), (3, vi a)] [] s _
  refine wr_n (pc2 := 1) (lv2 := [(0, .ref 170), (1, vi ((b : Int))), (2, vi p), (3, vi a)]) (st2 := [.ref 170]) 1 (fun _ _ => rfl) ?_
  refine wr_get (v := .ref 205) rfl rfl rfl (by decide) (rv_ref (hR 170 40 205 rfl)) fun h1 => ?_
  show wr d tb_M161 4 [(0, .ref 170), (1, vi ((b : Int))), (2, vi p), (3, vi a)] [.ref 205] s _
  refine wr_n (pc2 := 6) (lv2 := [(0, .ref 170), (1, vi ((b : Int))), (2, vi p), (3, vi a)]) (st2 := [vi p, vi ((b : Int)), .ref 205]) 2 (fun _ _ => rfl) ?_
  refine wr_ast (a := (b : Int)) (z := p) rfl (by decide) rfl rfl (by omega) (by omega) (by decide) rfl (show -2147483648 ≤ p ∧ p ≤ 2147483647 by omega) ?_
  show wr d tb_M161 7 [(0, .ref 170), (1, vi ((b : Int))), (2, vi p), (3, vi a)] [] (up2 s.1 205 b p, s.2) _
  have hR2 : RF (up2 s.1 205 b p) := (RF_up hR rfl)
  refine wr_n (pc2 := 8) (lv2 := [(0, .ref 170), (1, vi ((b : Int))), (2, vi p), (3, vi a)]) (st2 := [.ref 170]) 1 (fun _ _ => rfl) ?_
  refine wr_get (v := .ref 206) rfl rfl rfl (by decide) (rv_ref (hR2 170 41 206 rfl)) fun h3 => ?_
  show wr d tb_M161 11 [(0, .ref 170), (1, vi ((b : Int))), (2, vi p), (3, vi a)] [.ref 206] (up2 s.1 205 b p, s.2) _
  refine wr_n (pc2 := 13) (lv2 := [(0, .ref 170), (1, vi ((b : Int))), (2, vi p), (3, vi a)]) (st2 := [vi 1, vi ((b : Int)), .ref 206]) 2 (fun _ _ => rfl) ?_
  refine wr_ast (a := (b : Int)) (z := 1) rfl (by decide) rfl rfl (by omega) (by omega) (by decide) rfl (show -2147483648 ≤ 1 ∧ 1 ≤ 2147483647 by omega) ?_
  show wr d tb_M161 14 [(0, .ref 170), (1, vi ((b : Int))), (2, vi p), (3, vi a)] [] (up2 (up2 s.1 205 b p) 206 b 1, s.2) _
  have hR4 : RF (up2 (up2 s.1 205 b p) 206 b 1) := (RF_up (RF_up hR rfl) rfl)
  refine wr_n (pc2 := 15) (lv2 := [(0, .ref 170), (1, vi ((b : Int))), (2, vi p), (3, vi a)]) (st2 := [.ref 170]) 1 (fun _ _ => rfl) ?_
  refine wr_get (v := .ref 208) rfl rfl rfl (by decide) (rv_ref (hR4 170 43 208 rfl)) fun h5 => ?_
  show wr d tb_M161 18 [(0, .ref 170), (1, vi ((b : Int))), (2, vi p), (3, vi a)] [.ref 208] (up2 (up2 s.1 205 b p) 206 b 1, s.2) _
  refine wr_n (pc2 := 20) (lv2 := [(0, .ref 170), (1, vi ((b : Int))), (2, vi p), (3, vi a)]) (st2 := [vi 0, vi ((b : Int)), .ref 208]) 2 (fun _ _ => rfl) ?_
  refine wr_ast (a := (b : Int)) (z := 0) rfl (by decide) rfl rfl (by omega) (by omega) (by decide) rfl (show -2147483648 ≤ 0 ∧ 0 ≤ 2147483647 by omega) ?_
  show wr d tb_M161 21 [(0, .ref 170), (1, vi ((b : Int))), (2, vi p), (3, vi a)] [] (up2 (up2 (up2 s.1 205 b p) 206 b 1) 208 b 0, s.2) _
  have hR6 : RF (up2 (up2 (up2 s.1 205 b p) 206 b 1) 208 b 0) := (RF_up (RF_up (RF_up hR rfl) rfl) rfl)
  refine wr_n (pc2 := 22) (lv2 := [(0, .ref 170), (1, vi ((b : Int))), (2, vi p), (3, vi a)]) (st2 := [.ref 170]) 1 (fun _ _ => rfl) ?_
  refine wr_get (v := .ref 209) rfl rfl rfl (by decide) (rv_ref (hR6 170 44 209 rfl)) fun h7 => ?_
  show wr d tb_M161 25 [(0, .ref 170), (1, vi ((b : Int))), (2, vi p), (3, vi a)] [.ref 209] (up2 (up2 (up2 s.1 205 b p) 206 b 1) 208 b 0, s.2) _
  refine wr_n (pc2 := 27) (lv2 := [(0, .ref 170), (1, vi ((b : Int))), (2, vi p), (3, vi a)]) (st2 := [vi 0, vi ((b : Int)), .ref 209]) 2 (fun _ _ => rfl) ?_
  refine wr_ast (a := (b : Int)) (z := 0) rfl (by decide) rfl rfl (by omega) (by omega) (by decide) rfl (show -2147483648 ≤ 0 ∧ 0 ≤ 2147483647 by omega) ?_
  show wr d tb_M161 28 [(0, .ref 170), (1, vi ((b : Int))), (2, vi p), (3, vi a)] [] (up2 (up2 (up2 (up2 s.1 205 b p) 206 b 1) 208 b 0) 209 b 0, s.2) _
  have hR8 : RF (up2 (up2 (up2 (up2 s.1 205 b p) 206 b 1) 208 b 0) 209 b 0) := (RF_up (RF_up (RF_up (RF_up hR rfl) rfl) rfl) rfl)
  refine wr_n (pc2 := 29) (lv2 := [(0, .ref 170), (1, vi ((b : Int))), (2, vi p), (3, vi a)]) (st2 := [.ref 170]) 1 (fun _ _ => rfl) ?_
  refine wr_get (v := .ref 210) rfl rfl rfl (by decide) (rv_ref (hR8 170 45 210 rfl)) fun h9 => ?_
  show wr d tb_M161 32 [(0, .ref 170), (1, vi ((b : Int))), (2, vi p), (3, vi a)] [.ref 210] (up2 (up2 (up2 (up2 s.1 205 b p) 206 b 1) 208 b 0) 209 b 0, s.2) _
  refine wr_n (pc2 := 34) (lv2 := [(0, .ref 170), (1, vi ((b : Int))), (2, vi p), (3, vi a)]) (st2 := [vi a, vi ((b : Int)), .ref 210]) 2 (fun _ _ => rfl) ?_
  refine wr_ast (a := (b : Int)) (z := a) rfl (by decide) rfl rfl (by omega) (by omega) (by decide) rfl (show -2147483648 ≤ a ∧ a ≤ 2147483647 by omega) ?_
  show wr d tb_M161 35 [(0, .ref 170), (1, vi ((b : Int))), (2, vi p), (3, vi a)] [] (up2 (up2 (up2 (up2 (up2 s.1 205 b p) 206 b 1) 208 b 0) 209 b 0) 210 b a, s.2) _
  have hR10 : RF (up2 (up2 (up2 (up2 (up2 s.1 205 b p) 206 b 1) 208 b 0) 209 b 0) 210 b a) := (RF_up (RF_up (RF_up (RF_up (RF_up hR rfl) rfl) rfl) rfl) rfl)
  refine wr_n (pc2 := 36) (lv2 := [(0, .ref 170), (1, vi ((b : Int))), (2, vi p), (3, vi a)]) (st2 := [.ref 170]) 1 (fun _ _ => rfl) ?_
  refine wr_get (v := .ref 211) rfl rfl rfl (by decide) (rv_ref (hR10 170 46 211 rfl)) fun h11 => ?_
  show wr d tb_M161 39 [(0, .ref 170), (1, vi ((b : Int))), (2, vi p), (3, vi a)] [.ref 211] (up2 (up2 (up2 (up2 (up2 s.1 205 b p) 206 b 1) 208 b 0) 209 b 0) 210 b a, s.2) _
  refine wr_n (pc2 := 41) (lv2 := [(0, .ref 170), (1, vi ((b : Int))), (2, vi p), (3, vi a)]) (st2 := [vi 0, vi ((b : Int)), .ref 211]) 2 (fun _ _ => rfl) ?_
  refine wr_ast (a := (b : Int)) (z := 0) rfl (by decide) rfl rfl (by omega) (by omega) (by decide) rfl (show -2147483648 ≤ 0 ∧ 0 ≤ 2147483647 by omega) ?_
  show wr d tb_M161 42 [(0, .ref 170), (1, vi ((b : Int))), (2, vi p), (3, vi a)] [] (up2 (up2 (up2 (up2 (up2 (up2 s.1 205 b p) 206 b 1) 208 b 0) 209 b 0) 210 b a) 211 b 0, s.2) _
  have hR12 : RF (up2 (up2 (up2 (up2 (up2 (up2 s.1 205 b p) 206 b 1) 208 b 0) 209 b 0) 210 b a) 211 b 0) := (RF_up (RF_up (RF_up (RF_up (RF_up (RF_up hR rfl) rfl) rfl) rfl) rfl) rfl)
  refine wr_end (fun _ _ => rfl) ?_
  exact ⟨rfl, rfl⟩
