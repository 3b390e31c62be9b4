set_option maxHeartbeats 20000000 in
set_option maxRecDepth 100000 in
theorem l_free {d : Nat} {b k l n : Int} {s : rS} {Q : rS → hm_Out → Prop} (hR : RF s.1) (h55 : 1 ≤ s.1 170 55 ∧ s.1 170 55 ≤ 700) (hQ : ∀ o : Nat, (o : Int) ≤ s.1 170 55 → (∀ c, c < o → s.1 206 c ≠ 0) → ((o : Int) = s.1 170 55 ∨ (o : Int) < s.1 170 55 ∧ s.1 206 o = 0) → wr d tb_M169 61 [(5, vi ((o : Int))), (4, vi k), (3, vi l), (2, vi n), (0, .ref 170), (1, vi b)] [] s Q) : ∀ (w o : Nat), 700 - o = w → (o : Int) ≤ s.1 170 55 → (∀ c, c < o → s.1 206 c ≠ 0) → wr d tb_M169 36 [(5, vi ((o : Int))), (4, vi k), (3, vi l), (2, vi n), (0, .ref 170), (1, vi b)] [] s Q := by
  intro w
  induction w using Nat.strongRecOn with | ind w ih => ?_
  intro o hw ho hn
  refine wr_n (pc2 := 39) (lv2 := [(5, vi ((o : Int))), (4, vi k), (3, vi l), (2, vi n), (0, .ref 170), (1, vi b)]) (st2 := [.ref 170, vi ((o : Int))]) 2 (fun _ _ => rfl) ?_
  refine wr_get (v := vi (s.1 170 55)) rfl rfl rfl (by decide) rfl fun h1 => ?_
  have h1 : -2147483648 ≤ s.1 170 55 ∧ s.1 170 55 ≤ 2147483647 := h1
  show wr d tb_M169 42 [(5, vi ((o : Int))), (4, vi k), (3, vi l), (2, vi n), (0, .ref 170), (1, vi b)] [vi (s.1 170 55), vi ((o : Int))] s _
  by_cases h2 : s.1 170 55 ≤ (o : Int)
  · refine wr_if2t rfl rfl (by unfold i32; omega) (by unfold i32; omega) h2 ?_
    exact hQ o ho hn (by omega)
  · refine wr_if2f rfl rfl (by unfold i32; omega) (by unfold i32; omega) h2 ?_
    refine wr_n (pc2 := 46) (lv2 := [(5, vi ((o : Int))), (4, vi k), (3, vi l), (2, vi n), (0, .ref 170), (1, vi b)]) (st2 := [.ref 170]) 1 (fun _ _ => rfl) ?_
    refine wr_get (v := .ref 206) rfl rfl rfl (by decide) (rv_ref (hR 170 41 206 rfl)) fun h3 => ?_
    show wr d tb_M169 49 [(5, vi ((o : Int))), (4, vi k), (3, vi l), (2, vi n), (0, .ref 170), (1, vi b)] [.ref 206] s _
    refine wr_n (pc2 := 51) (lv2 := [(5, vi ((o : Int))), (4, vi k), (3, vi l), (2, vi n), (0, .ref 170), (1, vi b)]) (st2 := [vi ((o : Int)), .ref 206]) 1 (fun _ _ => rfl) ?_
    refine wr_ald (a := (o : Int)) (v := vi (s.1 206 o)) rfl rfl rfl (by omega) (by omega) (by decide) rfl fun h4 => ?_
    have h4 : -2147483648 ≤ s.1 206 o ∧ s.1 206 o ≤ 2147483647 := h4
    show wr d tb_M169 52 [(5, vi ((o : Int))), (4, vi k), (3, vi l), (2, vi n), (0, .ref 170), (1, vi b)] [vi (s.1 206 o)] s _
    by_cases h5 : s.1 206 o = 0
    · refine wr_if1t rfl rfl (by unfold i32; omega) h5 ?_
      exact hQ o ho hn (by omega)
    · refine wr_if1f rfl rfl (by unfold i32; omega) h5 ?_
      refine wr_inc (a := (o : Int)) rfl rfl ?_
      show wr d tb_M169 58 [(5, vi ((o : Int) + 1)), (4, vi k), (3, vi l), (2, vi n), (0, .ref 170), (1, vi b)] [] s _
      refine wr_n (pc2 := 36) (lv2 := [(5, vi ((o : Int) + 1)), (4, vi k), (3, vi l), (2, vi n), (0, .ref 170), (1, vi b)]) (st2 := []) 1 (fun _ _ => rfl) ?_
      rw [show (o : Int) + 1 = ((o + 1 : Nat) : Int) by omega]
      exact ih _ (by omega) _ rfl (by omega) (fun c hc => by
        by_cases e : c = o
        · subst e; assumption
        · exact hn c (by omega))
set_option maxHeartbeats 20000000 in
set_option maxRecDepth 100000 in
theorem x_make {d o : Nat} {t a : Int} (s : rS) (hR : RF s.1) (ho : o < 700) (ht : i32 t) (ha : i32 a) : cr (d + 1) 161 [.ref 170, vi (o : Int), vi t, vi a] s (fun s2 out => out = some none ∧ s2.2 = s.2 ∧ (∀ k j, ¬ (205 ≤ k ∧ k ≤ 211 ∧ j = o) → s2.1 k j = s.1 k j) ∧ s2.1 205 o = t ∧ s2.1 206 o = 1 ∧ s2.1 208 o = 0 ∧ s2.1 209 o = 0 ∧ s2.1 210 o = a ∧ s2.1 211 o = 0) := by
  unfold i32 at ht ha
  refine cr_of (M := tb_M161) rfl (Nat.le_of_ble_eq_true rfl) ?_
  show wr d tb_M161 0 [(0, .ref 170), (1, vi ((o : Int))), (2, vi t), (3, vi a)] [] s _
  refine wr_n (pc2 := 1) (lv2 := [(0, .ref 170), (1, vi ((o : Int))), (2, vi t), (3, vi a)]) (st2 := [.ref 170]) 1 (fun _ _ => rfl) ?_
  refine wr_get (v := .ref 205) rfl rfl rfl (by decide) (rv_ref (hR 170 40 205 rfl)) fun h1 => ?_
  show wr d tb_M161 4 [(0, .ref 170), (1, vi ((o : Int))), (2, vi t), (3, vi a)] [.ref 205] s _
  refine wr_n (pc2 := 6) (lv2 := [(0, .ref 170), (1, vi ((o : Int))), (2, vi t), (3, vi a)]) (st2 := [vi t, vi ((o : Int)), .ref 205]) 2 (fun _ _ => rfl) ?_
  refine wr_ast (a := (o : Int)) (z := t) rfl (by decide) rfl rfl (by omega) (by omega) (by decide) rfl (show -2147483648 ≤ t ∧ t ≤ 2147483647 by omega) ?_
  show wr d tb_M161 7 [(0, .ref 170), (1, vi ((o : Int))), (2, vi t), (3, vi a)] [] (up2 s.1 205 o t, s.2) _
  have hR2 : RF (up2 s.1 205 o t) := (RF_up hR rfl)
  refine wr_n (pc2 := 8) (lv2 := [(0, .ref 170), (1, vi ((o : Int))), (2, vi t), (3, vi a)]) (st2 := [.ref 170]) 1 (fun _ _ => rfl) ?_
  refine wr_get (v := .ref 206) rfl rfl rfl (by decide) (rv_ref (hR2 170 41 206 rfl)) fun h3 => ?_
  show wr d tb_M161 11 [(0, .ref 170), (1, vi ((o : Int))), (2, vi t), (3, vi a)] [.ref 206] (up2 s.1 205 o t, s.2) _
  refine wr_n (pc2 := 13) (lv2 := [(0, .ref 170), (1, vi ((o : Int))), (2, vi t), (3, vi a)]) (st2 := [vi 1, vi ((o : Int)), .ref 206]) 2 (fun _ _ => rfl) ?_
  refine wr_ast (a := (o : Int)) (z := 1) rfl (by decide) rfl rfl (by omega) (by omega) (by decide) rfl (show -2147483648 ≤ 1 ∧ 1 ≤ 2147483647 by omega) ?_
  show wr d tb_M161 14 [(0, .ref 170), (1, vi ((o : Int))), (2, vi t), (3, vi a)] [] (up2 (up2 s.1 205 o t) 206 o 1, s.2) _
  have hR4 : RF (up2 (up2 s.1 205 o t) 206 o 1) := (RF_up (RF_up hR rfl) rfl)
  refine wr_n (pc2 := 15) (lv2 := [(0, .ref 170), (1, vi ((o : Int))), (2, vi t), (3, vi a)]) (st2 := [.ref 170]) 1 (fun _ _ => rfl) ?_
  refine wr_get (v := .ref 208) rfl rfl rfl (by decide) (rv_ref (hR4 170 43 208 rfl)) fun h5 => ?_
  show wr d tb_M161 18 [(0, .ref 170), (1, vi ((o : Int))), (2, vi t), (3, vi a)] [.ref 208] (up2 (up2 s.1 205 o t) 206 o 1, s.2) _
  refine wr_n (pc2 := 20) (lv2 := [(0, .ref 170), (1, vi ((o : Int))), (2, vi t), (3, vi a)]) (st2 := [vi 0, vi ((o : Int)), .ref 208]) 2 (fun _ _ => rfl) ?_
  refine wr_ast (a := (o : Int)) (z := 0) rfl (by decide) rfl rfl (by omega) (by omega) (by decide) rfl (show -2147483648 ≤ 0 ∧ 0 ≤ 2147483647 by omega) ?_
  show wr d tb_M161 21 [(0, .ref 170), (1, vi ((o : Int))), (2, vi t), (3, vi a)] [] (up2 (up2 (up2 s.1 205 o t) 206 o 1) 208 o 0, s.2) _
  have hR6 : RF (up2 (up2 (up2 s.1 205 o t) 206 o 1) 208 o 0) := (RF_up (RF_up (RF_up hR rfl) rfl) rfl)
  refine wr_n (pc2 := 22) (lv2 := [(0, .ref 170), (1, vi ((o : Int))), (2, vi t), (3, vi a)]) (st2 := [.ref 170]) 1 (fun _ _ => rfl) ?_
  refine wr_get (v := .ref 209) rfl rfl rfl (by decide) (rv_ref (hR6 170 44 209 rfl)) fun h7 => ?_
  show wr d tb_M161 25 [(0, .ref 170), (1, vi ((o : Int))), (2, vi t), (3, vi a)] [.ref 209] (up2 (up2 (up2 s.1 205 o t) 206 o 1) 208 o 0, s.2) _
  refine wr_n (pc2 := 27) (lv2 := [(0, .ref 170), (1, vi ((o : Int))), (2, vi t), (3, vi a)]) (st2 := [vi 0, vi ((o : Int)), .ref 209]) 2 (fun _ _ => rfl) ?_
  refine wr_ast (a := (o : Int)) (z := 0) rfl (by decide) rfl rfl (by omega) (by omega) (by decide) rfl (show -2147483648 ≤ 0 ∧ 0 ≤ 2147483647 by omega) ?_
  show wr d tb_M161 28 [(0, .ref 170), (1, vi ((o : Int))), (2, vi t), (3, vi a)] [] (up2 (up2 (up2 (up2 s.1 205 o t) 206 o 1) 208 o 0) 209 o 0, s.2) _
  have hR8 : RF (up2 (up2 (up2 (up2 s.1 205 o t) 206 o 1) 208 o 0) 209 o 0) := (RF_up (RF_up (RF_up (RF_up hR rfl) rfl) rfl) rfl)
  refine wr_n (pc2 := 29) (lv2 := [(0, .ref 170), (1, vi ((o : Int))), (2, vi t), (3, vi a)]) (st2 := [.ref 170]) 1 (fun _ _ => rfl) ?_
  refine wr_get (v := .ref 210) rfl rfl rfl (by decide) (rv_ref (hR8 170 45 210 rfl)) fun h9 => ?_
  show wr d tb_M161 32 [(0, .ref 170), (1, vi ((o : Int))), (2, vi t), (3, vi a)] [.ref 210] (up2 (up2 (up2 (up2 s.1 205 o t) 206 o 1) 208 o 0) 209 o 0, s.2) _
  refine wr_n (pc2 := 34) (lv2 := [(0, .ref 170), (1, vi ((o : Int))), (2, vi t), (3, vi a)]) (st2 := [vi a, vi ((o : Int)), .ref 210]) 2 (fun _ _ => rfl) ?_
  refine wr_ast (a := (o : Int)) (z := a) rfl (by decide) rfl rfl (by omega) (by omega) (by decide) rfl (show -2147483648 ≤ a ∧ a ≤ 2147483647 by omega) ?_
  show wr d tb_M161 35 [(0, .ref 170), (1, vi ((o : Int))), (2, vi t), (3, vi a)] [] (up2 (up2 (up2 (up2 (up2 s.1 205 o t) 206 o 1) 208 o 0) 209 o 0) 210 o a, s.2) _
  have hR10 : RF (up2 (up2 (up2 (up2 (up2 s.1 205 o t) 206 o 1) 208 o 0) 209 o 0) 210 o a) := (RF_up (RF_up (RF_up (RF_up (RF_up hR rfl) rfl) rfl) rfl) rfl)
  refine wr_n (pc2 := 36) (lv2 := [(0, .ref 170), (1, vi ((o : Int))), (2, vi t), (3, vi a)]) (st2 := [.ref 170]) 1 (fun _ _ => rfl) ?_
  refine wr_get (v := .ref 211) rfl rfl rfl (by decide) (rv_ref (hR10 170 46 211 rfl)) fun h11 => ?_
  show wr d tb_M161 39 [(0, .ref 170), (1, vi ((o : Int))), (2, vi t), (3, vi a)] [.ref 211] (up2 (up2 (up2 (up2 (up2 s.1 205 o t) 206 o 1) 208 o 0) 209 o 0) 210 o a, s.2) _
  refine wr_n (pc2 := 41) (lv2 := [(0, .ref 170), (1, vi ((o : Int))), (2, vi t), (3, vi a)]) (st2 := [vi 0, vi ((o : Int)), .ref 211]) 2 (fun _ _ => rfl) ?_
  refine wr_ast (a := (o : Int)) (z := 0) rfl (by decide) rfl rfl (by omega) (by omega) (by decide) rfl (show -2147483648 ≤ 0 ∧ 0 ≤ 2147483647 by omega) ?_
  show wr d tb_M161 42 [(0, .ref 170), (1, vi ((o : Int))), (2, vi t), (3, vi a)] [] (up2 (up2 (up2 (up2 (up2 (up2 s.1 205 o t) 206 o 1) 208 o 0) 209 o 0) 210 o a) 211 o 0, s.2) _
  have hR12 : RF (up2 (up2 (up2 (up2 (up2 (up2 s.1 205 o t) 206 o 1) 208 o 0) 209 o 0) 210 o a) 211 o 0) := (RF_up (RF_up (RF_up (RF_up (RF_up (RF_up hR rfl) rfl) rfl) rfl) rfl) rfl)
  refine wr_end (fun _ _ => rfl) ?_
  refine ⟨rfl, rfl, fun k j hn => ((if_neg (by omega)).trans ((if_neg (by omega)).trans ((if_neg (by omega)).trans ((if_neg (by omega)).trans ((if_neg (by omega)).trans ((if_neg (by omega)).trans rfl)))))), ?_⟩
  refine ⟨?_, ?_, ?_, ?_, ?_, ?_⟩
  · show (up2 (up2 (up2 (up2 (up2 (up2 s.1 205 o t) 206 o 1) 208 o 0) 209 o 0) 210 o a) 211 o 0) 205 o = _; rw [up_nk (by omega), up_nk (by omega), up_nk (by omega), up_nk (by omega), up_nk (by omega)]; exact up_self
  · show (up2 (up2 (up2 (up2 (up2 (up2 s.1 205 o t) 206 o 1) 208 o 0) 209 o 0) 210 o a) 211 o 0) 206 o = _; rw [up_nk (by omega), up_nk (by omega), up_nk (by omega), up_nk (by omega)]; exact up_self
  · show (up2 (up2 (up2 (up2 (up2 (up2 s.1 205 o t) 206 o 1) 208 o 0) 209 o 0) 210 o a) 211 o 0) 208 o = _; rw [up_nk (by omega), up_nk (by omega), up_nk (by omega)]; exact up_self
  · show (up2 (up2 (up2 (up2 (up2 (up2 s.1 205 o t) 206 o 1) 208 o 0) 209 o 0) 210 o a) 211 o 0) 209 o = _; rw [up_nk (by omega), up_nk (by omega)]; exact up_self
  · show (up2 (up2 (up2 (up2 (up2 (up2 s.1 205 o t) 206 o 1) 208 o 0) 209 o 0) 210 o a) 211 o 0) 210 o = _; rw [up_nk (by omega)]; exact up_self
  · show (up2 (up2 (up2 (up2 (up2 (up2 s.1 205 o t) 206 o 1) 208 o 0) 209 o 0) 210 o a) 211 o 0) 211 o = _; exact up_self
