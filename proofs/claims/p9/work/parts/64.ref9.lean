theorem c_variable {d C : Nat} {t : Int} (hC : C = 177 ∨ C = 186) (s : rS) (hR : RF s.1) (hc : s.1 170 19 = (C : Int)) (hL : LX s.1) (hN : NM s.1) (hn : s.1 170 14 < 100) (ht : i32 t) (hv : 0 ≤ s.1 C 4 ∧ s.1 C 4 ≤ 24) : cr (d + 8) 137 [.ref 170, vi t] s (fun s2 out => ∃ b : Int, out = some (some (vi b)) ∧ s2.2 = s.2 ∧ (b = 0 ∧ same 170 [8] s.1 s2.1 ∨ b = 1 ∧ ∃ r1, same 170 [3, 4, 5, 6, 7] (up2 (up2 (up2 (up2 (up2 (up2 s.1 172 (s.1 170 14).toNat (s.1 170 5)) 173 (s.1 170 14).toNat (s.1 170 6)) 174 (s.1 170 14).toNat 0) 175 (s.1 170 14).toNat (s.1 C 4)) 176 (s.1 170 14).toNat (s.1 170 15)) 170 14 (s.1 170 14 + 1)) r1 ∧ s2.1 = up2 (up2 r1 (C + 2) (s.1 C 4).toNat t) C 4 (s.1 C 4 + 1) ∧ LX r1 ∧ s.1 170 6 ≤ r1 170 5 ∧ s.1 170 4 = 1 ∧ s.1 C 4 < 24)) := by
  unfold i32 at ht
  rcases hC with rfl | rfl
  · refine cr_of (M := tb_M137) rfl (Nat.le_of_ble_eq_true rfl) ?_
    show wr (d + 7) tb_M137 0 [(0, .ref 170), (1, vi t)] [] s _
    refine wr_n (pc2 := 2) (lv2 := [(0, .ref 170), (1, vi t)]) (st2 := [.ref 170, .ref 170]) 2 (fun _ _ => rfl) ?_
    refine wr_get (v := .ref 177) rfl rfl rfl (by decide) (rv_ref (show s.1 170 19 = ((177 : Nat) : Int) from hc)) fun h1 => ?_
    show wr (d + 7) tb_M137 5 [(0, .ref 170), (1, vi t)] [.ref 177, .ref 170] s _
    refine wr_get (v := vi (s.1 177 4)) rfl rfl rfl (by decide) rfl fun h2 => ?_
    have h2 : -2147483648 ≤ s.1 177 4 ∧ s.1 177 4 ≤ 2147483647 := h2
    show wr (d + 7) tb_M137 8 [(0, .ref 170), (1, vi t)] [vi (s.1 177 4), .ref 170] s _
    refine wr_n (pc2 := 10) (lv2 := [(0, .ref 170), (1, vi t)]) (st2 := [vi 24, vi (s.1 177 4), .ref 170]) 1 (fun _ _ => rfl) ?_
    refine wr_call1 (args := [vi (s.1 177 4), vi 24]) (rest := []) rfl rfl rfl rfl (Nat.le_of_ble_eq_true rfl) (cr_mono (c_isName (d := d + 4) _ hR (a := s.1 177 4) (b := 24) (by unfold i32; omega) (by unfold i32; omega)) ?_)
    rintro s4 out ⟨b, rfl, ⟨rfl, hk, hlt, e3⟩ | ⟨rfl, hc1, hs1⟩⟩
    · refine ⟨_, rfl, ?_⟩
      rw [e3]
      show wr (d + 7) tb_M137 13 [(0, .ref 170), (1, vi t)] [vi 1] s _
      refine wr_n (pc2 := 19) (lv2 := [(0, .ref 170), (1, vi t)]) (st2 := [.ref 170, vi 0, .ref 170]) 4 (fun _ _ => rfl) ?_
      refine wr_get (v := .ref 177) rfl rfl rfl (by decide) (rv_ref (show s.1 170 19 = ((177 : Nat) : Int) from hc)) fun h5 => ?_
      show wr (d + 7) tb_M137 22 [(0, .ref 170), (1, vi t)] [.ref 177, vi 0, .ref 170] s _
      refine wr_get (v := vi (s.1 177 4)) rfl rfl rfl (by decide) rfl fun h6 => ?_
      have h6 : -2147483648 ≤ s.1 177 4 ∧ s.1 177 4 ≤ 2147483647 := h6
      show wr (d + 7) tb_M137 25 [(0, .ref 170), (1, vi t)] [vi (s.1 177 4), vi 0, .ref 170] s _
      refine wr_call1 (args := [vi 0, vi (s.1 177 4)]) (rest := []) rfl rfl rfl rfl (Nat.le_of_ble_eq_true rfl) (cr_mono (c_declare (d := d) _ hR hL hN (w := 0) (u := s.1 177 4) (by unfold i32; omega) (by unfold i32; omega) hn) ?_)
      rintro s7 out ⟨b, rfl, hc2, ⟨rfl, hs2⟩ | ⟨rfl, hs3, hL3, hf3⟩⟩
      · refine ⟨_, rfl, ?_⟩
        show wr (d + 7) tb_M137 28 [(0, .ref 170), (1, vi t)] [vi 0] s7 _
        have hR8 : RF s7.1 := same_RF hs2 (by decide) hR
        refine wr_n (pc2 := 32) (lv2 := [(0, .ref 170), (1, vi t)]) (st2 := [vi 0]) 2 (fun _ _ => rfl) ?_
        refine wr_end (fun _ _ => rfl) ?_
        exact ⟨0, rfl, hc2, Or.inl ⟨rfl, hs2⟩⟩
      · refine ⟨_, rfl, ?_⟩
        show wr (d + 7) tb_M137 28 [(0, .ref 170), (1, vi t)] [vi 1] s7 _
        have hR9 : RF s7.1 := same_RF hs3 (by decide) (RF_up (RF_up (RF_up (RF_up (RF_up (RF_up hR rfl) rfl) rfl) rfl) rfl) rfl)
        have hc : s7.1 170 19 = ((177 : Nat) : Int) := (hs3 170 19 (by decide)).trans hc
        have hv3 : s7.1 177 4 = s.1 177 4 := hs3 177 4 (by decide)
        refine wr_n (pc2 := 34) (lv2 := [(0, .ref 170), (1, vi t)]) (st2 := [.ref 170]) 2 (fun _ _ => rfl) ?_
        refine wr_get (v := .ref 177) rfl rfl rfl (by decide) (rv_ref (show s7.1 170 19 = ((177 : Nat) : Int) from hc)) fun h10 => ?_
        show wr (d + 7) tb_M137 37 [(0, .ref 170), (1, vi t)] [.ref 177] s7 _
        refine wr_get (v := .ref 179) rfl rfl rfl (by decide) (rv_ref (hR9 177 11 179 rfl)) fun h11 => ?_
        show wr (d + 7) tb_M137 40 [(0, .ref 170), (1, vi t)] [.ref 179] s7 _
        refine wr_n (pc2 := 41) (lv2 := [(0, .ref 170), (1, vi t)]) (st2 := [.ref 170, .ref 179]) 1 (fun _ _ => rfl) ?_
        refine wr_get (v := .ref 177) rfl rfl rfl (by decide) (rv_ref (show s7.1 170 19 = ((177 : Nat) : Int) from hc)) fun h12 => ?_
        show wr (d + 7) tb_M137 44 [(0, .ref 170), (1, vi t)] [.ref 177, .ref 179] s7 _
        refine wr_get (v := vi (s7.1 177 4)) rfl rfl rfl (by decide) rfl fun h13 => ?_
        have h13 : -2147483648 ≤ s7.1 177 4 ∧ s7.1 177 4 ≤ 2147483647 := h13
        show wr (d + 7) tb_M137 47 [(0, .ref 170), (1, vi t)] [vi (s7.1 177 4), .ref 179] s7 _
        refine wr_n (pc2 := 48) (lv2 := [(0, .ref 170), (1, vi t)]) (st2 := [vi t, vi (s7.1 177 4), .ref 179]) 1 (fun _ _ => rfl) ?_
        refine wr_ast (a := s7.1 177 4) (z := t) rfl (by decide) rfl rfl (by omega) (by omega) (by decide) rfl (show -2147483648 ≤ t ∧ t ≤ 2147483647 by omega) ?_
        show wr (d + 7) tb_M137 49 [(0, .ref 170), (1, vi t)] [] (up2 s7.1 179 ((s7.1 177 4).toNat) t, s7.2) _
        have hR14 : RF (up2 s7.1 179 ((s7.1 177 4).toNat) t) := (RF_up hR9 rfl)
        refine wr_n (pc2 := 50) (lv2 := [(0, .ref 170), (1, vi t)]) (st2 := [.ref 170]) 1 (fun _ _ => rfl) ?_
        refine wr_get (v := .ref 177) rfl rfl rfl (by decide) (rv_ref (show (up2 s7.1 179 ((s7.1 177 4).toNat) t) 170 19 = ((177 : Nat) : Int) from hc)) fun h15 => ?_
        show wr (d + 7) tb_M137 53 [(0, .ref 170), (1, vi t)] [.ref 177] (up2 s7.1 179 ((s7.1 177 4).toNat) t, s7.2) _
        refine wr_n (pc2 := 54) (lv2 := [(0, .ref 170), (1, vi t)]) (st2 := [.ref 177, .ref 177]) 1 (fun _ _ => rfl) ?_
        refine wr_get (v := vi (s7.1 177 4)) rfl rfl rfl (by decide) rfl fun h16 => ?_
        have h16 : -2147483648 ≤ s7.1 177 4 ∧ s7.1 177 4 ≤ 2147483647 := h16
        show wr (d + 7) tb_M137 57 [(0, .ref 170), (1, vi t)] [vi (s7.1 177 4), .ref 177] (up2 s7.1 179 ((s7.1 177 4).toNat) t, s7.2) _
        refine wr_n (pc2 := 58) (lv2 := [(0, .ref 170), (1, vi t)]) (st2 := [vi 1, vi (s7.1 177 4), .ref 177]) 1 (fun _ _ => rfl) ?_
        refine wr_add (a := s7.1 177 4) (b := 1) rfl ?_
        show wr (d + 7) tb_M137 59 [(0, .ref 170), (1, vi t)] [vi (s7.1 177 4 + 1), .ref 177] (up2 s7.1 179 ((s7.1 177 4).toNat) t, s7.2) _
        refine wr_put (z := s7.1 177 4 + 1) rfl rfl rfl rfl (by decide) rfl (by decide) rfl (show -2147483648 ≤ s7.1 177 4 + 1 ∧ s7.1 177 4 + 1 ≤ 2147483647 by omega) (hf_int' _) ?_
        show wr (d + 7) tb_M137 62 [(0, .ref 170), (1, vi t)] [] (up2 (up2 s7.1 179 ((s7.1 177 4).toNat) t) 177 4 (s7.1 177 4 + 1), s7.2) _
        have hR17 : RF (up2 (up2 s7.1 179 ((s7.1 177 4).toNat) t) 177 4 (s7.1 177 4 + 1)) := (RF_up (RF_up hR9 rfl) rfl)
        refine wr_n (pc2 := 63) (lv2 := [(0, .ref 170), (1, vi t)]) (st2 := [vi 1]) 1 (fun _ _ => rfl) ?_
        refine wr_end (fun _ _ => rfl) ?_
        exact ⟨1, rfl, hc2, Or.inr ⟨rfl, _, hs3, by rw [← hv3], hL3, by omega, by omega, by omega⟩⟩
    · refine ⟨_, rfl, ?_⟩
      show wr (d + 7) tb_M137 13 [(0, .ref 170), (1, vi t)] [vi 0] s4 _
      have hR18 : RF s4.1 := same_RF hs1 (by decide) hR
      refine wr_n (pc2 := 32) (lv2 := [(0, .ref 170), (1, vi t)]) (st2 := [vi 0]) 2 (fun _ _ => rfl) ?_
      refine wr_end (fun _ _ => rfl) ?_
      exact ⟨0, rfl, hc1, Or.inl ⟨rfl, hs1⟩⟩
  · refine cr_of (M := tb_M137) rfl (Nat.le_of_ble_eq_true rfl) ?_
    show wr (d + 7) tb_M137 0 [(0, .ref 170), (1, vi t)] [] s _
    refine wr_n (pc2 := 2) (lv2 := [(0, .ref 170), (1, vi t)]) (st2 := [.ref 170, .ref 170]) 2 (fun _ _ => rfl) ?_
    refine wr_get (v := .ref 186) rfl rfl rfl (by decide) (rv_ref (show s.1 170 19 = ((186 : Nat) : Int) from hc)) fun h1 => ?_
    show wr (d + 7) tb_M137 5 [(0, .ref 170), (1, vi t)] [.ref 186, .ref 170] s _
    refine wr_get (v := vi (s.1 186 4)) rfl rfl rfl (by decide) rfl fun h2 => ?_
    have h2 : -2147483648 ≤ s.1 186 4 ∧ s.1 186 4 ≤ 2147483647 := h2
    show wr (d + 7) tb_M137 8 [(0, .ref 170), (1, vi t)] [vi (s.1 186 4), .ref 170] s _
    refine wr_n (pc2 := 10) (lv2 := [(0, .ref 170), (1, vi t)]) (st2 := [vi 24, vi (s.1 186 4), .ref 170]) 1 (fun _ _ => rfl) ?_
    refine wr_call1 (args := [vi (s.1 186 4), vi 24]) (rest := []) rfl rfl rfl rfl (Nat.le_of_ble_eq_true rfl) (cr_mono (c_isName (d := d + 4) _ hR (a := s.1 186 4) (b := 24) (by unfold i32; omega) (by unfold i32; omega)) ?_)
    rintro s4 out ⟨b, rfl, ⟨rfl, hk, hlt, e3⟩ | ⟨rfl, hc1, hs1⟩⟩
    · refine ⟨_, rfl, ?_⟩
      rw [e3]
      show wr (d + 7) tb_M137 13 [(0, .ref 170), (1, vi t)] [vi 1] s _
      refine wr_n (pc2 := 19) (lv2 := [(0, .ref 170), (1, vi t)]) (st2 := [.ref 170, vi 0, .ref 170]) 4 (fun _ _ => rfl) ?_
      refine wr_get (v := .ref 186) rfl rfl rfl (by decide) (rv_ref (show s.1 170 19 = ((186 : Nat) : Int) from hc)) fun h5 => ?_
      show wr (d + 7) tb_M137 22 [(0, .ref 170), (1, vi t)] [.ref 186, vi 0, .ref 170] s _
      refine wr_get (v := vi (s.1 186 4)) rfl rfl rfl (by decide) rfl fun h6 => ?_
      have h6 : -2147483648 ≤ s.1 186 4 ∧ s.1 186 4 ≤ 2147483647 := h6
      show wr (d + 7) tb_M137 25 [(0, .ref 170), (1, vi t)] [vi (s.1 186 4), vi 0, .ref 170] s _
      refine wr_call1 (args := [vi 0, vi (s.1 186 4)]) (rest := []) rfl rfl rfl rfl (Nat.le_of_ble_eq_true rfl) (cr_mono (c_declare (d := d) _ hR hL hN (w := 0) (u := s.1 186 4) (by unfold i32; omega) (by unfold i32; omega) hn) ?_)
      rintro s7 out ⟨b, rfl, hc2, ⟨rfl, hs2⟩ | ⟨rfl, hs3, hL3, hf3⟩⟩
      · refine ⟨_, rfl, ?_⟩
        show wr (d + 7) tb_M137 28 [(0, .ref 170), (1, vi t)] [vi 0] s7 _
        have hR8 : RF s7.1 := same_RF hs2 (by decide) hR
        refine wr_n (pc2 := 32) (lv2 := [(0, .ref 170), (1, vi t)]) (st2 := [vi 0]) 2 (fun _ _ => rfl) ?_
        refine wr_end (fun _ _ => rfl) ?_
        exact ⟨0, rfl, hc2, Or.inl ⟨rfl, hs2⟩⟩
      · refine ⟨_, rfl, ?_⟩
        show wr (d + 7) tb_M137 28 [(0, .ref 170), (1, vi t)] [vi 1] s7 _
        have hR9 : RF s7.1 := same_RF hs3 (by decide) (RF_up (RF_up (RF_up (RF_up (RF_up (RF_up hR rfl) rfl) rfl) rfl) rfl) rfl)
        have hc : s7.1 170 19 = ((186 : Nat) : Int) := (hs3 170 19 (by decide)).trans hc
        have hv3 : s7.1 186 4 = s.1 186 4 := hs3 186 4 (by decide)
        refine wr_n (pc2 := 34) (lv2 := [(0, .ref 170), (1, vi t)]) (st2 := [.ref 170]) 2 (fun _ _ => rfl) ?_
        refine wr_get (v := .ref 186) rfl rfl rfl (by decide) (rv_ref (show s7.1 170 19 = ((186 : Nat) : Int) from hc)) fun h10 => ?_
        show wr (d + 7) tb_M137 37 [(0, .ref 170), (1, vi t)] [.ref 186] s7 _
        refine wr_get (v := .ref 188) rfl rfl rfl (by decide) (rv_ref (hR9 186 11 188 rfl)) fun h11 => ?_
        show wr (d + 7) tb_M137 40 [(0, .ref 170), (1, vi t)] [.ref 188] s7 _
        refine wr_n (pc2 := 41) (lv2 := [(0, .ref 170), (1, vi t)]) (st2 := [.ref 170, .ref 188]) 1 (fun _ _ => rfl) ?_
        refine wr_get (v := .ref 186) rfl rfl rfl (by decide) (rv_ref (show s7.1 170 19 = ((186 : Nat) : Int) from hc)) fun h12 => ?_
        show wr (d + 7) tb_M137 44 [(0, .ref 170), (1, vi t)] [.ref 186, .ref 188] s7 _
        refine wr_get (v := vi (s7.1 186 4)) rfl rfl rfl (by decide) rfl fun h13 => ?_
        have h13 : -2147483648 ≤ s7.1 186 4 ∧ s7.1 186 4 ≤ 2147483647 := h13
        show wr (d + 7) tb_M137 47 [(0, .ref 170), (1, vi t)] [vi (s7.1 186 4), .ref 188] s7 _
        refine wr_n (pc2 := 48) (lv2 := [(0, .ref 170), (1, vi t)]) (st2 := [vi t, vi (s7.1 186 4), .ref 188]) 1 (fun _ _ => rfl) ?_
        refine wr_ast (a := s7.1 186 4) (z := t) rfl (by decide) rfl rfl (by omega) (by omega) (by decide) rfl (show -2147483648 ≤ t ∧ t ≤ 2147483647 by omega) ?_
        show wr (d + 7) tb_M137 49 [(0, .ref 170), (1, vi t)] [] (up2 s7.1 188 ((s7.1 186 4).toNat) t, s7.2) _
        have hR14 : RF (up2 s7.1 188 ((s7.1 186 4).toNat) t) := (RF_up hR9 rfl)
        refine wr_n (pc2 := 50) (lv2 := [(0, .ref 170), (1, vi t)]) (st2 := [.ref 170]) 1 (fun _ _ => rfl) ?_
        refine wr_get (v := .ref 186) rfl rfl rfl (by decide) (rv_ref (show (up2 s7.1 188 ((s7.1 186 4).toNat) t) 170 19 = ((186 : Nat) : Int) from hc)) fun h15 => ?_
        show wr (d + 7) tb_M137 53 [(0, .ref 170), (1, vi t)] [.ref 186] (up2 s7.1 188 ((s7.1 186 4).toNat) t, s7.2) _
        refine wr_n (pc2 := 54) (lv2 := [(0, .ref 170), (1, vi t)]) (st2 := [.ref 186, .ref 186]) 1 (fun _ _ => rfl) ?_
        refine wr_get (v := vi (s7.1 186 4)) rfl rfl rfl (by decide) rfl fun h16 => ?_
        have h16 : -2147483648 ≤ s7.1 186 4 ∧ s7.1 186 4 ≤ 2147483647 := h16
        show wr (d + 7) tb_M137 57 [(0, .ref 170), (1, vi t)] [vi (s7.1 186 4), .ref 186] (up2 s7.1 188 ((s7.1 186 4).toNat) t, s7.2) _
        refine wr_n (pc2 := 58) (lv2 := [(0, .ref 170), (1, vi t)]) (st2 := [vi 1, vi (s7.1 186 4), .ref 186]) 1 (fun _ _ => rfl) ?_
        refine wr_add (a := s7.1 186 4) (b := 1) rfl ?_
        show wr (d + 7) tb_M137 59 [(0, .ref 170), (1, vi t)] [vi (s7.1 186 4 + 1), .ref 186] (up2 s7.1 188 ((s7.1 186 4).toNat) t, s7.2) _
        refine wr_put (z := s7.1 186 4 + 1) rfl rfl rfl rfl (by decide) rfl (by decide) rfl (show -2147483648 ≤ s7.1 186 4 + 1 ∧ s7.1 186 4 + 1 ≤ 2147483647 by omega) (hf_int' _) ?_
        show wr (d + 7) tb_M137 62 [(0, .ref 170), (1, vi t)] [] (up2 (up2 s7.1 188 ((s7.1 186 4).toNat) t) 186 4 (s7.1 186 4 + 1), s7.2) _
        have hR17 : RF (up2 (up2 s7.1 188 ((s7.1 186 4).toNat) t) 186 4 (s7.1 186 4 + 1)) := (RF_up (RF_up hR9 rfl) rfl)
        refine wr_n (pc2 := 63) (lv2 := [(0, .ref 170), (1, vi t)]) (st2 := [vi 1]) 1 (fun _ _ => rfl) ?_
        refine wr_end (fun _ _ => rfl) ?_
        exact ⟨1, rfl, hc2, Or.inr ⟨rfl, _, hs3, by rw [← hv3], hL3, by omega, by omega, by omega⟩⟩
    · refine ⟨_, rfl, ?_⟩
      show wr (d + 7) tb_M137 13 [(0, .ref 170), (1, vi t)] [vi 0] s4 _
      have hR18 : RF s4.1 := same_RF hs1 (by decide) hR
      refine wr_n (pc2 := 32) (lv2 := [(0, .ref 170), (1, vi t)]) (st2 := [vi 0]) 2 (fun _ _ => rfl) ?_
      refine wr_end (fun _ _ => rfl) ?_
      exact ⟨0, rfl, hc1, Or.inl ⟨rfl, hs1⟩⟩
