/-! The law's loop. -/
def LI6 (n : Nat) (s : rS) : Prop := LI n s ∧ LV6 n s.1
theorem RF_feed {r r2 : tab} (h : RF r) (hf : ∀ i j, i ≠ 171 → ¬ (i = 170 ∧ j = 1) → r2 i j = r i j) : RF r2 := fun k j v hv => by
  refine (hf k j (fun e => ?_) (fun e => ?_)).trans (h k j v hv)
  · rw [e, n0 rfl (by omega) (by omega)] at hv
    cases hv
  · rw [e.1, e.2] at hv
    cases hv
theorem SI_feed {C D : Nat} {r r2 : tab} (h : SI C D r) (hf : ∀ i j, i ≠ 171 → ¬ (i = 170 ∧ j = 1) → r2 i j = r i j) (ht : 0 ≤ r2 170 1 ∧ r2 170 1 ≤ 2000) : SI C D r2 := by
  have hC := SI_C h
  obtain ⟨h1, h2, h3, h4, h5⟩ := h
  exact ⟨h1, ht, (hf _ _ (by omega) (by omega)).trans h3, (hf _ _ (by omega) (by omega)).trans h4, SA_at hC h5 (fun k j a b => hf k j (by omega) (by omega)) (hf _ _ (by omega) (by omega)) (fun q => HD_at q (fun i => hf _ _ (by omega) (by omega))) (fun F q => SW_at q (fun k e1 e2 e3 => funext fun j => hf k j (by omega) (by omega)) (hf _ _ (by omega) (by omega)) (hf _ _ (by omega) (by omega)))⟩
theorem arg_at (xs : List Int32) {k : Nat} (hk : k < xs.length) : ∃ y : Int, (xs.map Value.int)[k]? = some (vi y) ∧ -2147483648 ≤ y ∧ y ≤ 2147483647 := by
  obtain ⟨z, hz, h1, h2⟩ := i32_of xs[k]
  refine ⟨z, ?_, h1, h2⟩
  rw [List.getElem?_map, List.getElem?_eq_getElem hk, hz]
  rfl
set_option maxHeartbeats 20000000 in
set_option maxRecDepth 100000 in
theorem l_law (xs : List Int32) (hxs : xs.length ≤ 384) : ∀ (w n : Nat) (s : rS), 65 - n = w → n ≤ 64 → LI6 n s → wv 0 (.inl (.int, xs.map Value.int)) 600 tb_M0 18 [(3, vi (6 * (n : Int))), (2, .ref 170), (1, .ref 96), (0, .ref 0)] [] s LQ := by
  intro w
  induction w with
  | zero => intro n s hw hn; omega
  | succ w ih =>
    intro n s hw hn hL
    have hlen : (xs.map Value.int).length = xs.length := List.length_map _
    have c1 := hL.1.2.2.2.2.1
    have c2 := hL.1.2.2.2.2.2
    have c3 := hL.1.2.2.2.1
    refine wv_n (pc2 := 20) (lv2 := [(3, vi (6 * (n : Int))), (2, .ref 170), (1, .ref 96), (0, .ref 0)]) (st2 := [.ref 0, vi (6 * (n : Int))]) 2 (fun _ _ => rfl) ?_
    refine wv_alenq rfl ?_
    rw [hlen]
    refine wv_n (pc2 := 23) (lv2 := [(3, vi (6 * (n : Int))), (2, .ref 170), (1, .ref 96), (0, .ref 0)]) (st2 := [vi 6, vi (xs.length : Int), vi (6 * (n : Int))]) 1 (fun _ _ => rfl) ?_
    refine wv_sub (a := (xs.length : Int)) (b := 6) rfl ?_
    by_cases hg : (xs.length : Int) - 6 < 6 * (n : Int)
    · refine wv_if2t rfl rfl (by unfold i32; omega) (by unfold i32; omega) hg ?_
      refine wv_n (pc2 := 329) (lv2 := [(3, vi (6 * (n : Int))), (2, .ref 170), (1, .ref 96), (0, .ref 0)]) (st2 := [vi 1]) 1 (fun _ _ => rfl) ?_
      exact wv_end (fun _ _ => rfl) ⟨rfl, by omega, by omega⟩
    · refine wv_if2f rfl rfl (by unfold i32; omega) (by unfold i32; omega) hg ?_
      obtain ⟨y0, hv0, hy0⟩ := arg_at xs (k := (6 * (n : Int)).toNat) (by omega)
      obtain ⟨y1, hv1, hy1⟩ := arg_at xs (k := (6 * (n : Int) + 1).toNat) (by omega)
      obtain ⟨y2, hv2, hy2⟩ := arg_at xs (k := (6 * (n : Int) + 2).toNat) (by omega)
      obtain ⟨y3, hv3, hy3⟩ := arg_at xs (k := (6 * (n : Int) + 3).toNat) (by omega)
      obtain ⟨y4, hv4, hy4⟩ := arg_at xs (k := (6 * (n : Int) + 4).toNat) (by omega)
      obtain ⟨y5, hv5, hy5⟩ := arg_at xs (k := (6 * (n : Int) + 5).toNat) (by omega)
      have nxt : ∀ s2, LI6 (n + 1) s2 → wv 0 (.inl (.int, xs.map Value.int)) 600 tb_M0 322 [(3, vi (6 * (n : Int))), (2, .ref 170), (1, .ref 96), (0, .ref 0)] [] s2 LQ := fun s2 h2 => by
        refine wv_inc (a := 6 * (n : Int)) rfl rfl ?_
        refine wv_n (pc2 := 18) (lv2 := [(3, vi (6 * (n : Int) + 6)), (2, .ref 170), (1, .ref 96), (0, .ref 0)]) (st2 := []) 1 (fun _ _ => rfl) ?_
        rw [show 6 * (n : Int) + 6 = 6 * ((n + 1 : Nat) : Int) by omega]
        exact ih (n + 1) s2 (by omega) (by omega) h2
      obtain ⟨C, D, F, hX⟩ := hL.1.2.1
      obtain ⟨C0, D0, hS⟩ := hL.1.2.2.1
      have t0 : 0 ≤ s.1 97 1 ∧ s.1 97 1 ≤ 2000 := kb_to rfl (hX.1.2 97 1)
      refine wv_n (pc2 := 29) (lv2 := [(3, vi (6 * (n : Int))), (2, .ref 170), (1, .ref 96), (0, .ref 0)]) (st2 := [vi (6 * (n : Int)), .ref 0]) 2 (fun _ _ => rfl) ?_
      refine wv_aldq (a := 6 * (n : Int)) rfl (by omega) (by omega) hv0 ?_
      refine wv_n (pc2 := 32) (lv2 := [(3, vi (6 * (n : Int))), (2, .ref 170), (1, .ref 96), (0, .ref 0)]) (st2 := [vi 15, vi y0]) 1 (fun _ _ => rfl) ?_
      refine wv_and (a := y0) (b := 15) rfl (by omega) fun z hz => ?_
      refine wv_tsw rfl (by decide) (by unfold i32; omega) fun off hoff => ?_
      have hoff2 : off = 51 ∨ off = 114 ∨ off = 137 ∨ off = 150 ∨ off = 163 ∨ off = 186 ∨ off = 219 ∨ off = 242 ∨ off = 266 ∨ off = 289 := by simp at hoff; omega
      clear hoff
      rcases hoff2 with rfl | rfl | rfl | rfl | rfl | rfl | rfl | rfl | rfl | rfl
      · refine ⟨84, rfl, ?_⟩
        refine wv_n (pc2 := 85) (lv2 := [(3, vi (6 * (n : Int))), (2, .ref 170), (1, .ref 96), (0, .ref 0)]) (st2 := [.ref 96]) 1 (fun _ _ => rfl) ?_
        refine wv_n (pc2 := 88) (lv2 := [(3, vi (6 * (n : Int))), (2, .ref 170), (1, .ref 96), (0, .ref 0)]) (st2 := [vi 1, vi (6 * (n : Int)), .ref 0, .ref 96]) 3 (fun _ _ => rfl) ?_
        refine wv_add (a := 6 * (n : Int)) (b := 1) rfl ?_
        refine wv_aldq (a := 6 * (n : Int) + 1) rfl (by omega) (by omega) hv1 ?_
        show wv 0 _ 600 tb_M0 90 [(3, vi (6 * (n : Int))), (2, .ref 170), (1, .ref 96), (0, .ref 0)] [vi y1, .ref 96] s _
        refine wv_n (pc2 := 93) (lv2 := [(3, vi (6 * (n : Int))), (2, .ref 170), (1, .ref 96), (0, .ref 0)]) (st2 := [vi 2, vi (6 * (n : Int)), .ref 0, vi y1, .ref 96]) 3 (fun _ _ => rfl) ?_
        refine wv_add (a := 6 * (n : Int)) (b := 2) rfl ?_
        refine wv_aldq (a := 6 * (n : Int) + 2) rfl (by omega) (by omega) hv2 ?_
        show wv 0 _ 600 tb_M0 95 [(3, vi (6 * (n : Int))), (2, .ref 170), (1, .ref 96), (0, .ref 0)] [vi y2, vi y1, .ref 96] s _
        refine wv_n (pc2 := 98) (lv2 := [(3, vi (6 * (n : Int))), (2, .ref 170), (1, .ref 96), (0, .ref 0)]) (st2 := [vi 3, vi (6 * (n : Int)), .ref 0, vi y2, vi y1, .ref 96]) 3 (fun _ _ => rfl) ?_
        refine wv_add (a := 6 * (n : Int)) (b := 3) rfl ?_
        refine wv_aldq (a := 6 * (n : Int) + 3) rfl (by omega) (by omega) hv3 ?_
        show wv 0 _ 600 tb_M0 100 [(3, vi (6 * (n : Int))), (2, .ref 170), (1, .ref 96), (0, .ref 0)] [vi y3, vi y2, vi y1, .ref 96] s _
        refine wv_n (pc2 := 103) (lv2 := [(3, vi (6 * (n : Int))), (2, .ref 170), (1, .ref 96), (0, .ref 0)]) (st2 := [vi 4, vi (6 * (n : Int)), .ref 0, vi y3, vi y2, vi y1, .ref 96]) 3 (fun _ _ => rfl) ?_
        refine wv_add (a := 6 * (n : Int)) (b := 4) rfl ?_
        refine wv_aldq (a := 6 * (n : Int) + 4) rfl (by omega) (by omega) hv4 ?_
        show wv 0 _ 600 tb_M0 105 [(3, vi (6 * (n : Int))), (2, .ref 170), (1, .ref 96), (0, .ref 0)] [vi y4, vi y3, vi y2, vi y1, .ref 96] s _
        refine wv_n (pc2 := 108) (lv2 := [(3, vi (6 * (n : Int))), (2, .ref 170), (1, .ref 96), (0, .ref 0)]) (st2 := [vi 5, vi (6 * (n : Int)), .ref 0, vi y4, vi y3, vi y2, vi y1, .ref 96]) 3 (fun _ _ => rfl) ?_
        refine wv_add (a := 6 * (n : Int)) (b := 5) rfl ?_
        refine wv_aldq (a := 6 * (n : Int) + 5) rfl (by omega) (by omega) hv5 ?_
        show wv 0 _ 600 tb_M0 110 [(3, vi (6 * (n : Int))), (2, .ref 170), (1, .ref 96), (0, .ref 0)] [vi y5, vi y4, vi y3, vi y2, vi y1, .ref 96] s _
        refine wv_call1 (args := [vi y1, vi y2, vi y3, vi y4, vi y5]) (rest := []) (p := 96) rfl rfl rfl rfl (Nat.le_of_ble_eq_true rfl) (cr_mono (cr_up (by omega) (z_feed (d := 0) s hX hy1 hy2 hy3 hy4 hy5)) ?_)
        rintro s1 out hx
        obtain ⟨z1, rfl, hc1, ⟨C1, D1, F1, hX1⟩, hb1⟩ := hx
        have hi1 : HI s.1 s1.1 := by
          rcases hb1 with ⟨_, _, q3⟩ | ⟨_, _, _, q4, _⟩
          · rw [q3]; exact fun _ _ _ => rfl
          · exact fun k j hk => q4 k j (by omega) (by omega)
        have hz1 : s.1 97 1 + 20 ≤ 2000 ∧ z1 = s.1 97 1 + 20 ∧ s1.1 97 1 = s.1 97 1 + 20 ∨ 2000 < s.1 97 1 + 20 ∧ z1 = -3 ∧ s1.1 97 1 = s.1 97 1 := by
          rcases hb1 with ⟨q1, q2, q3⟩ | ⟨q1, q2, q3, _⟩
          · exact .inr ⟨q1, q2, by rw [q3]⟩
          · exact .inl ⟨q1, q2, q3⟩
        have hS1 := SI_HI hS hi1
        have hR1 := hX1.1.1
        have a2 : s1.1 170 1 = s.1 170 1 := hi1 _ _ (by omega)
        have a3 := hS1.2.1
        refine ⟨_, rfl, ?_⟩
        show wv 0 _ 600 tb_M0 113 [(3, vi (6 * (n : Int))), (2, .ref 170), (1, .ref 96), (0, .ref 0)] [vi z1] s1 _
        refine wv_pop rfl rfl ?_
        refine wv_n (pc2 := 115) (lv2 := [(3, vi (6 * (n : Int))), (2, .ref 170), (1, .ref 96), (0, .ref 0)]) (st2 := [.ref 170]) 1 (fun _ _ => rfl) ?_
        refine wv_n (pc2 := 118) (lv2 := [(3, vi (6 * (n : Int))), (2, .ref 170), (1, .ref 96), (0, .ref 0)]) (st2 := [vi 1, vi (6 * (n : Int)), .ref 0, .ref 170]) 3 (fun _ _ => rfl) ?_
        refine wv_add (a := 6 * (n : Int)) (b := 1) rfl ?_
        refine wv_aldq (a := 6 * (n : Int) + 1) rfl (by omega) (by omega) hv1 ?_
        show wv 0 _ 600 tb_M0 120 [(3, vi (6 * (n : Int))), (2, .ref 170), (1, .ref 96), (0, .ref 0)] [vi y1, .ref 170] s1 _
        refine wv_n (pc2 := 123) (lv2 := [(3, vi (6 * (n : Int))), (2, .ref 170), (1, .ref 96), (0, .ref 0)]) (st2 := [vi 2, vi (6 * (n : Int)), .ref 0, vi y1, .ref 170]) 3 (fun _ _ => rfl) ?_
        refine wv_add (a := 6 * (n : Int)) (b := 2) rfl ?_
        refine wv_aldq (a := 6 * (n : Int) + 2) rfl (by omega) (by omega) hv2 ?_
        show wv 0 _ 600 tb_M0 125 [(3, vi (6 * (n : Int))), (2, .ref 170), (1, .ref 96), (0, .ref 0)] [vi y2, vi y1, .ref 170] s1 _
        refine wv_n (pc2 := 128) (lv2 := [(3, vi (6 * (n : Int))), (2, .ref 170), (1, .ref 96), (0, .ref 0)]) (st2 := [vi 3, vi (6 * (n : Int)), .ref 0, vi y2, vi y1, .ref 170]) 3 (fun _ _ => rfl) ?_
        refine wv_add (a := 6 * (n : Int)) (b := 3) rfl ?_
        refine wv_aldq (a := 6 * (n : Int) + 3) rfl (by omega) (by omega) hv3 ?_
        show wv 0 _ 600 tb_M0 130 [(3, vi (6 * (n : Int))), (2, .ref 170), (1, .ref 96), (0, .ref 0)] [vi y3, vi y2, vi y1, .ref 170] s1 _
        refine wv_n (pc2 := 133) (lv2 := [(3, vi (6 * (n : Int))), (2, .ref 170), (1, .ref 96), (0, .ref 0)]) (st2 := [vi 4, vi (6 * (n : Int)), .ref 0, vi y3, vi y2, vi y1, .ref 170]) 3 (fun _ _ => rfl) ?_
        refine wv_add (a := 6 * (n : Int)) (b := 4) rfl ?_
        refine wv_aldq (a := 6 * (n : Int) + 4) rfl (by omega) (by omega) hv4 ?_
        show wv 0 _ 600 tb_M0 135 [(3, vi (6 * (n : Int))), (2, .ref 170), (1, .ref 96), (0, .ref 0)] [vi y4, vi y3, vi y2, vi y1, .ref 170] s1 _
        refine wv_n (pc2 := 138) (lv2 := [(3, vi (6 * (n : Int))), (2, .ref 170), (1, .ref 96), (0, .ref 0)]) (st2 := [vi 5, vi (6 * (n : Int)), .ref 0, vi y4, vi y3, vi y2, vi y1, .ref 170]) 3 (fun _ _ => rfl) ?_
        refine wv_add (a := 6 * (n : Int)) (b := 5) rfl ?_
        refine wv_aldq (a := 6 * (n : Int) + 5) rfl (by omega) (by omega) hv5 ?_
        show wv 0 _ 600 tb_M0 140 [(3, vi (6 * (n : Int))), (2, .ref 170), (1, .ref 96), (0, .ref 0)] [vi y5, vi y4, vi y3, vi y2, vi y1, .ref 170] s1 _
        refine wv_call1 (args := [vi y1, vi y2, vi y3, vi y4, vi y5]) (rest := []) (p := 170) rfl rfl rfl rfl (Nat.le_of_ble_eq_true rfl) (cr_mono (cr_up (by omega) (p_feedb (d := 0) (a := y1) (b := y2) (c := y3) (e := y4) (f := y5) s1 hR1 a3)) ?_)
        rintro s2 out hx
        obtain ⟨z2, rfl, hz2⟩ := hx
        refine ⟨_, rfl, ?_⟩
        show wv 0 _ 600 tb_M0 143 [(3, vi (6 * (n : Int))), (2, .ref 170), (1, .ref 96), (0, .ref 0)] [vi z2] s2 _
        refine wv_pop rfl rfl ?_
        refine wv_n (pc2 := 322) (lv2 := [(3, vi (6 * (n : Int))), (2, .ref 170), (1, .ref 96), (0, .ref 0)]) (st2 := []) 1 (fun _ _ => rfl) ?_
        rcases hz2 with ⟨b1, b2, e2⟩ | ⟨b1, b2, b3, b7, b6, b5⟩
        · skip
          refine nxt s2 ?_
          rw [e2]
          refine ⟨⟨hR1, ⟨C1, D1, F1, hX1⟩, ⟨_, _, hS1⟩, by omega, by rw [hc1]; omega, by rw [hc1]; omega⟩, ?_⟩
          rcases hb1 with ⟨_, _, q3⟩ | ⟨q1, _⟩
          · rw [q3]; exact LV6_u hL.2 hL.1.1
          · omega
        · skip
          refine nxt s2 ?_
          have b4 : ∀ i j, i ≠ 171 → ¬ (i = 170 ∧ j = 1) → s2.1 i j = s1.1 i j := fun i j q1 q2 => b7 i j (fun q => q1 q.1) q2
          have hR2 : RF s2.1 := RF_feed hR1 b4
          have hlo : LO s1.1 s2.1 := fun k j hk => b4 k j (by omega) (by omega)
          have a5 := hlo 97 1 (by omega)
          refine ⟨⟨hR2, ⟨C1, D1, F1, XI_LO hX1 hlo hR2⟩, ⟨_, _, SI_feed hS1 b4 (by omega)⟩, by omega, ?_, ?_⟩, ?_⟩
          · rw [b5]; show s1.2.1 + 1 ≤ _; rw [hc1]; omega
          · rw [b5]; show s1.2.2 + 5 ≤ _; rw [hc1]; omega
          · rcases hb1 with ⟨q1, _⟩ | ⟨q1, q2, q3, q4, q5⟩
            · omega
            · exact LV6_f hL.2 hX hS hR2 (by omega) (by omega) q3 q4 q5 b7 b6
      · refine ⟨147, rfl, ?_⟩
        refine wv_n (pc2 := 148) (lv2 := [(3, vi (6 * (n : Int))), (2, .ref 170), (1, .ref 96), (0, .ref 0)]) (st2 := [.ref 96]) 1 (fun _ _ => rfl) ?_
        refine wv_n (pc2 := 151) (lv2 := [(3, vi (6 * (n : Int))), (2, .ref 170), (1, .ref 96), (0, .ref 0)]) (st2 := [vi 1, vi (6 * (n : Int)), .ref 0, .ref 96]) 3 (fun _ _ => rfl) ?_
        refine wv_add (a := 6 * (n : Int)) (b := 1) rfl ?_
        refine wv_aldq (a := 6 * (n : Int) + 1) rfl (by omega) (by omega) hv1 ?_
        show wv 0 _ 600 tb_M0 153 [(3, vi (6 * (n : Int))), (2, .ref 170), (1, .ref 96), (0, .ref 0)] [vi y1, .ref 96] s _
        refine wv_call1 (args := [vi y1]) (rest := []) (p := 96) rfl rfl rfl rfl (Nat.le_of_ble_eq_true rfl) (cr_mono (cr_up (by omega) (zl_end (d := 0) s hX hy1)) ?_)
        rintro s1 out hx
        obtain ⟨⟨z1, rfl, hz1⟩, hc1, ⟨C1, D1, F1, hX1⟩, hj1⟩ := hx
        have hi1 : HI s.1 s1.1 := fun k j hk => hj1 k j (by omega)
        have hz1 : z1 = y1 ∧ 0 ≤ y1 ∧ y1 ≤ s.1 97 1 ∧ s1.1 97 1 = y1 ∨ z1 = -1 ∧ ¬ (0 ≤ y1 ∧ y1 ≤ s.1 97 1) ∧ s1.1 97 1 = s.1 97 1 := hz1
        have hS1 := SI_HI hS hi1
        have hR1 := hX1.1.1
        have a2 : s1.1 170 1 = s.1 170 1 := hi1 _ _ (by omega)
        have a3 := hS1.2.1
        refine ⟨_, rfl, ?_⟩
        show wv 0 _ 600 tb_M0 156 [(3, vi (6 * (n : Int))), (2, .ref 170), (1, .ref 96), (0, .ref 0)] [vi z1] s1 _
        refine wv_pop rfl rfl ?_
        refine wv_n (pc2 := 158) (lv2 := [(3, vi (6 * (n : Int))), (2, .ref 170), (1, .ref 96), (0, .ref 0)]) (st2 := [.ref 170]) 1 (fun _ _ => rfl) ?_
        refine wv_n (pc2 := 161) (lv2 := [(3, vi (6 * (n : Int))), (2, .ref 170), (1, .ref 96), (0, .ref 0)]) (st2 := [vi 1, vi (6 * (n : Int)), .ref 0, .ref 170]) 3 (fun _ _ => rfl) ?_
        refine wv_add (a := 6 * (n : Int)) (b := 1) rfl ?_
        refine wv_aldq (a := 6 * (n : Int) + 1) rfl (by omega) (by omega) hv1 ?_
        show wv 0 _ 600 tb_M0 163 [(3, vi (6 * (n : Int))), (2, .ref 170), (1, .ref 96), (0, .ref 0)] [vi y1, .ref 170] s1 _
        refine wv_call1 (args := [vi y1]) (rest := []) (p := 170) rfl rfl rfl rfl (Nat.le_of_ble_eq_true rfl) (cr_mono (cr_up (by omega) (p_end (d := 0) s1 hR1 hS1 (show i32 y1 from hy1))) ?_)
        rintro s2 out hx
        obtain ⟨z2, rfl, hz2⟩ := hx
        refine ⟨_, rfl, ?_⟩
        show wv 0 _ 600 tb_M0 166 [(3, vi (6 * (n : Int))), (2, .ref 170), (1, .ref 96), (0, .ref 0)] [vi z2] s2 _
        refine wv_pop rfl rfl ?_
        refine wv_n (pc2 := 322) (lv2 := [(3, vi (6 * (n : Int))), (2, .ref 170), (1, .ref 96), (0, .ref 0)]) (st2 := []) 1 (fun _ _ => rfl) ?_
        refine nxt s2 ?_
        rcases hz2 with ⟨_, b1, b2, e2⟩ | ⟨_, b1, e2⟩
        · rw [e2]
          have hR2 : RF (up2 s1.1 170 1 y1) := RF_up hR1 rfl
          have hS2 : SI C0 D0 (up2 s1.1 170 1 y1) := SI_fr hS1 (fun k j e1 e3 => if_neg e1) (by rw [up_self]; omega) (fun q => HD_at q (fun i => if_neg (by omega)))
          refine ⟨⟨hR2, ⟨C1, D1, F1, XI_LO hX1 (fun k j hk => if_neg (by omega)) hR2⟩, ⟨C0, D0, hS2⟩, ?_, ?_, ?_⟩, LV6_h hL.2 hX hS hj1 (show LH s1.1 (up2 s1.1 170 1 y1) from fun k j q => if_neg q) (by omega) hR2⟩
          · show up2 s1.1 170 1 y1 97 1 = up2 s1.1 170 1 y1 170 1
            rw [up_self, up_nk (by omega)]; omega
          · show s1.2.1 ≤ _; rw [hc1]; omega
          · show s1.2.2 ≤ _; rw [hc1]; omega
        · rw [e2]
          exact ⟨⟨hR1, ⟨C1, D1, F1, hX1⟩, ⟨_, _, hS1⟩, by omega, by rw [hc1]; omega, by rw [hc1]; omega⟩, LV6_h hL.2 hX hS hj1 (fun k j q => rfl) (by omega) hR1⟩
      · refine ⟨170, rfl, ?_⟩
        refine wv_n (pc2 := 171) (lv2 := [(3, vi (6 * (n : Int))), (2, .ref 170), (1, .ref 96), (0, .ref 0)]) (st2 := [.ref 96]) 1 (fun _ _ => rfl) ?_
        refine wv_call1 (args := []) (rest := []) (p := 96) rfl rfl rfl rfl (Nat.le_of_ble_eq_true rfl) (cr_rg fun hrg => cr_mono (cr_up (by omega) (c6_comp (d := 0) s hX hrg hL.2)) ?_)
        rintro s1 out hx
        obtain ⟨⟨v1, rfl, hv9⟩, hL1, hp1⟩ := L1_X hL.1 hx.1
        obtain ⟨C1, D1, hS1⟩ := hL1.2.2.1
        have hR1 := hL1.1
        have a1 : s1.1 97 1 = 0 := hp1
        have a2 := hL1.2.2.2.2.1
        have hD1 : D1 = 177 ∨ D1 = 186 := by rcases hS1.1 with q | q <;> omega
        refine ⟨_, rfl, ?_⟩
        show wv 0 _ 600 tb_M0 174 [(3, vi (6 * (n : Int))), (2, .ref 170), (1, .ref 96), (0, .ref 0)] [v1] s1 _
        refine wv_pop rfl hv9 ?_
        refine wv_n (pc2 := 176) (lv2 := [(3, vi (6 * (n : Int))), (2, .ref 170), (1, .ref 96), (0, .ref 0)]) (st2 := [.ref 170]) 1 (fun _ _ => rfl) ?_
        refine wv_call1 (args := []) (rest := []) (p := 170) rfl rfl rfl rfl (Nat.le_of_ble_eq_true rfl) (cr_mono (cr_up (by omega) (qq_compile (d := 0) s1 hR1 hS1 (r_model hD1 hR1 hS1.2.2.2.1))) ?_)
        rintro s2 out hw
        obtain ⟨⟨v2, rfl, hv8⟩, hL2⟩ := LI_M hL1 hw.1 (fun z hz => by have hz : z = 0 := hz; omega)
        refine ⟨_, rfl, ?_⟩
        show wv 0 _ 600 tb_M0 179 [(3, vi (6 * (n : Int))), (2, .ref 170), (1, .ref 96), (0, .ref 0)] [v2] s2 _
        refine wv_pop rfl hv8 ?_
        refine wv_n (pc2 := 322) (lv2 := [(3, vi (6 * (n : Int))), (2, .ref 170), (1, .ref 96), (0, .ref 0)]) (st2 := []) 1 (fun _ _ => rfl) ?_
        have hi1 : HI s.1 s1.1 := hx.1.2.2.2.1
        exact nxt s2 ⟨hL2, LV6_c hL.2 hX hx hS1 hw (fun v hv => p_same hX.2.2.1 hX.1 hrg (by rw [hi1 170 1 (by omega)]; exact c3.symm) (fun j hj => by rw [hi1 171 j (by omega)]; exact hL.2.2.1 j hj) hv)⟩
      · refine ⟨183, rfl, ?_⟩
        refine wv_n (pc2 := 184) (lv2 := [(3, vi (6 * (n : Int))), (2, .ref 170), (1, .ref 96), (0, .ref 0)]) (st2 := [.ref 96]) 1 (fun _ _ => rfl) ?_
        refine wv_call1 (args := []) (rest := []) (p := 96) rfl rfl rfl rfl (Nat.le_of_ble_eq_true rfl) (cr_mono (cr_up (by omega) (c6_begin (d := 0) s hX hL.2)) ?_)
        rintro s1 out hx
        obtain ⟨hx, hW⟩ := hx
        obtain ⟨z1, rfl, hz1⟩ := W6_1 hW
        obtain ⟨_, hL1, hp1⟩ := L1_X hL.1 (X4_XP hx)
        obtain ⟨C1, D1, hS1⟩ := hL1.2.2.1
        have hR1 := hL1.1
        have a1 : s1.1 97 1 = s.1 97 1 := hp1
        have a2 := hL1.2.2.2.2.1
        have hj : HJ4 s.1 s1.1 := hx.2.2.2.1
        refine ⟨_, rfl, ?_⟩
        show wv 0 _ 600 tb_M0 187 [(3, vi (6 * (n : Int))), (2, .ref 170), (1, .ref 96), (0, .ref 0)] [vi z1] s1 _
        refine wv_pop rfl rfl ?_
        refine wv_n (pc2 := 189) (lv2 := [(3, vi (6 * (n : Int))), (2, .ref 170), (1, .ref 96), (0, .ref 0)]) (st2 := [.ref 170]) 1 (fun _ _ => rfl) ?_
        refine wv_call1 (args := []) (rest := []) (p := 170) rfl rfl rfl rfl (Nat.le_of_ble_eq_true rfl) (cr_mono (cr_up (by omega) (r6_begin (d := 0) hL.2 hj hR1 hS1 hW)) ?_)
        rintro s2 out ⟨hw, hV⟩
        obtain ⟨⟨v2, rfl, hv8⟩, hL2⟩ := LI_M hL1 (M2_MP hw) (fun z hz => by have hz : z = s1.1 170 1 := hz; omega)
        refine ⟨_, rfl, ?_⟩
        show wv 0 _ 600 tb_M0 192 [(3, vi (6 * (n : Int))), (2, .ref 170), (1, .ref 96), (0, .ref 0)] [v2] s2 _
        refine wv_pop rfl hv8 ?_
        refine wv_n (pc2 := 322) (lv2 := [(3, vi (6 * (n : Int))), (2, .ref 170), (1, .ref 96), (0, .ref 0)]) (st2 := []) 1 (fun _ _ => rfl) ?_
        exact nxt s2 ⟨hL2, hV⟩
      · refine ⟨196, rfl, ?_⟩
        refine wv_n (pc2 := 197) (lv2 := [(3, vi (6 * (n : Int))), (2, .ref 170), (1, .ref 96), (0, .ref 0)]) (st2 := [.ref 96]) 1 (fun _ _ => rfl) ?_
        refine wv_n (pc2 := 200) (lv2 := [(3, vi (6 * (n : Int))), (2, .ref 170), (1, .ref 96), (0, .ref 0)]) (st2 := [vi 1, vi (6 * (n : Int)), .ref 0, .ref 96]) 3 (fun _ _ => rfl) ?_
        refine wv_add (a := 6 * (n : Int)) (b := 1) rfl ?_
        refine wv_aldq (a := 6 * (n : Int) + 1) rfl (by omega) (by omega) hv1 ?_
        show wv 0 _ 600 tb_M0 202 [(3, vi (6 * (n : Int))), (2, .ref 170), (1, .ref 96), (0, .ref 0)] [vi y1, .ref 96] s _
        refine wv_call1 (args := [vi y1]) (rest := []) (p := 96) rfl rfl rfl rfl (Nat.le_of_ble_eq_true rfl) (cr_mono (cr_up (by omega) (c6_run (d := 0) s hX hL.2 hy1)) ?_)
        rintro s1 out hx
        obtain ⟨hx, hW⟩ := hx
        obtain ⟨z1, rfl, hz1⟩ := W6_1 hW
        obtain ⟨_, hL1, hp1⟩ := L1_X hL.1 (X4_XP hx)
        obtain ⟨C1, D1, hS1⟩ := hL1.2.2.1
        have hR1 := hL1.1
        have a1 : s1.1 97 1 = s.1 97 1 := hp1
        have a2 := hL1.2.2.2.2.1
        have hj : HJ4 s.1 s1.1 := hx.2.2.2.1
        refine ⟨_, rfl, ?_⟩
        show wv 0 _ 600 tb_M0 205 [(3, vi (6 * (n : Int))), (2, .ref 170), (1, .ref 96), (0, .ref 0)] [vi z1] s1 _
        refine wv_pop rfl rfl ?_
        refine wv_n (pc2 := 207) (lv2 := [(3, vi (6 * (n : Int))), (2, .ref 170), (1, .ref 96), (0, .ref 0)]) (st2 := [.ref 170]) 1 (fun _ _ => rfl) ?_
        refine wv_n (pc2 := 210) (lv2 := [(3, vi (6 * (n : Int))), (2, .ref 170), (1, .ref 96), (0, .ref 0)]) (st2 := [vi 1, vi (6 * (n : Int)), .ref 0, .ref 170]) 3 (fun _ _ => rfl) ?_
        refine wv_add (a := 6 * (n : Int)) (b := 1) rfl ?_
        refine wv_aldq (a := 6 * (n : Int) + 1) rfl (by omega) (by omega) hv1 ?_
        show wv 0 _ 600 tb_M0 212 [(3, vi (6 * (n : Int))), (2, .ref 170), (1, .ref 96), (0, .ref 0)] [vi y1, .ref 170] s1 _
        refine wv_call1 (args := [vi y1]) (rest := []) (p := 170) rfl rfl rfl rfl (Nat.le_of_ble_eq_true rfl) (cr_mono (cr_up (by omega) (r6_run (d := 0) (by omega) hL.2 hj hR1 hS1 (show i32 y1 from hy1) hW)) ?_)
        rintro s2 out ⟨hw, rfl, hV⟩
        obtain ⟨_, hL2⟩ := LI_M hL1 (M2_MP hw) (fun z hz => by have hz : z = s1.1 170 1 := hz; omega)
        refine ⟨_, rfl, ?_⟩
        show wv 0 _ 600 tb_M0 215 [(3, vi (6 * (n : Int))), (2, .ref 170), (1, .ref 96), (0, .ref 0)] [vi z1] s2 _
        refine wv_pop rfl rfl ?_
        refine wv_n (pc2 := 322) (lv2 := [(3, vi (6 * (n : Int))), (2, .ref 170), (1, .ref 96), (0, .ref 0)]) (st2 := []) 1 (fun _ _ => rfl) ?_
        exact nxt s2 ⟨hL2, hV⟩
      · refine ⟨219, rfl, ?_⟩
        refine wv_n (pc2 := 220) (lv2 := [(3, vi (6 * (n : Int))), (2, .ref 170), (1, .ref 96), (0, .ref 0)]) (st2 := [.ref 96]) 1 (fun _ _ => rfl) ?_
        refine wv_n (pc2 := 223) (lv2 := [(3, vi (6 * (n : Int))), (2, .ref 170), (1, .ref 96), (0, .ref 0)]) (st2 := [vi 1, vi (6 * (n : Int)), .ref 0, .ref 96]) 3 (fun _ _ => rfl) ?_
        refine wv_add (a := 6 * (n : Int)) (b := 1) rfl ?_
        refine wv_aldq (a := 6 * (n : Int) + 1) rfl (by omega) (by omega) hv1 ?_
        show wv 0 _ 600 tb_M0 225 [(3, vi (6 * (n : Int))), (2, .ref 170), (1, .ref 96), (0, .ref 0)] [vi y1, .ref 96] s _
        refine wv_n (pc2 := 228) (lv2 := [(3, vi (6 * (n : Int))), (2, .ref 170), (1, .ref 96), (0, .ref 0)]) (st2 := [vi 2, vi (6 * (n : Int)), .ref 0, vi y1, .ref 96]) 3 (fun _ _ => rfl) ?_
        refine wv_add (a := 6 * (n : Int)) (b := 2) rfl ?_
        refine wv_aldq (a := 6 * (n : Int) + 2) rfl (by omega) (by omega) hv2 ?_
        show wv 0 _ 600 tb_M0 230 [(3, vi (6 * (n : Int))), (2, .ref 170), (1, .ref 96), (0, .ref 0)] [vi y2, vi y1, .ref 96] s _
        refine wv_call1 (args := [vi y1, vi y2]) (rest := []) (p := 96) rfl rfl rfl rfl (Nat.le_of_ble_eq_true rfl) (cr_mono (cr_up (by omega) (c6_give (d := 0) s hX hL.2 hy1 hy2)) ?_)
        rintro s1 out hx
        obtain ⟨hx, hW⟩ := hx
        obtain ⟨z1, rfl, hz1⟩ := W6_1 hW
        obtain ⟨_, hL1, hp1⟩ := L1_X hL.1 (X4_XP hx)
        obtain ⟨C1, D1, hS1⟩ := hL1.2.2.1
        have hR1 := hL1.1
        have a1 : s1.1 97 1 = s.1 97 1 := hp1
        have a2 := hL1.2.2.2.2.1
        have hj : HJ4 s.1 s1.1 := hx.2.2.2.1
        refine ⟨_, rfl, ?_⟩
        show wv 0 _ 600 tb_M0 233 [(3, vi (6 * (n : Int))), (2, .ref 170), (1, .ref 96), (0, .ref 0)] [vi z1] s1 _
        refine wv_pop rfl rfl ?_
        refine wv_n (pc2 := 235) (lv2 := [(3, vi (6 * (n : Int))), (2, .ref 170), (1, .ref 96), (0, .ref 0)]) (st2 := [.ref 170]) 1 (fun _ _ => rfl) ?_
        refine wv_n (pc2 := 238) (lv2 := [(3, vi (6 * (n : Int))), (2, .ref 170), (1, .ref 96), (0, .ref 0)]) (st2 := [vi 1, vi (6 * (n : Int)), .ref 0, .ref 170]) 3 (fun _ _ => rfl) ?_
        refine wv_add (a := 6 * (n : Int)) (b := 1) rfl ?_
        refine wv_aldq (a := 6 * (n : Int) + 1) rfl (by omega) (by omega) hv1 ?_
        show wv 0 _ 600 tb_M0 240 [(3, vi (6 * (n : Int))), (2, .ref 170), (1, .ref 96), (0, .ref 0)] [vi y1, .ref 170] s1 _
        refine wv_n (pc2 := 243) (lv2 := [(3, vi (6 * (n : Int))), (2, .ref 170), (1, .ref 96), (0, .ref 0)]) (st2 := [vi 2, vi (6 * (n : Int)), .ref 0, vi y1, .ref 170]) 3 (fun _ _ => rfl) ?_
        refine wv_add (a := 6 * (n : Int)) (b := 2) rfl ?_
        refine wv_aldq (a := 6 * (n : Int) + 2) rfl (by omega) (by omega) hv2 ?_
        show wv 0 _ 600 tb_M0 245 [(3, vi (6 * (n : Int))), (2, .ref 170), (1, .ref 96), (0, .ref 0)] [vi y2, vi y1, .ref 170] s1 _
        refine wv_call1 (args := [vi y1, vi y2]) (rest := []) (p := 170) rfl rfl rfl rfl (Nat.le_of_ble_eq_true rfl) (cr_mono (cr_up (by omega) (r6_give (d := 0) hL.2 hj hR1 hS1 (show i32 y1 from hy1) (show i32 y2 from hy2) hW)) ?_)
        rintro s2 out ⟨hw, rfl, hV⟩
        obtain ⟨_, hL2⟩ := LI_M hL1 (M2_MP hw) (fun z hz => by have hz : z = s1.1 170 1 := hz; omega)
        refine ⟨_, rfl, ?_⟩
        show wv 0 _ 600 tb_M0 248 [(3, vi (6 * (n : Int))), (2, .ref 170), (1, .ref 96), (0, .ref 0)] [vi z1] s2 _
        refine wv_pop rfl rfl ?_
        refine wv_n (pc2 := 322) (lv2 := [(3, vi (6 * (n : Int))), (2, .ref 170), (1, .ref 96), (0, .ref 0)]) (st2 := []) 1 (fun _ _ => rfl) ?_
        exact nxt s2 ⟨hL2, hV⟩
      · refine ⟨252, rfl, ?_⟩
        refine wv_n (pc2 := 253) (lv2 := [(3, vi (6 * (n : Int))), (2, .ref 170), (1, .ref 96), (0, .ref 0)]) (st2 := [.ref 96]) 1 (fun _ _ => rfl) ?_
        refine wv_n (pc2 := 256) (lv2 := [(3, vi (6 * (n : Int))), (2, .ref 170), (1, .ref 96), (0, .ref 0)]) (st2 := [vi 1, vi (6 * (n : Int)), .ref 0, .ref 96]) 3 (fun _ _ => rfl) ?_
        refine wv_add (a := 6 * (n : Int)) (b := 1) rfl ?_
        refine wv_aldq (a := 6 * (n : Int) + 1) rfl (by omega) (by omega) hv1 ?_
        show wv 0 _ 600 tb_M0 258 [(3, vi (6 * (n : Int))), (2, .ref 170), (1, .ref 96), (0, .ref 0)] [vi y1, .ref 96] s _
        refine wv_call1 (args := [vi y1]) (rest := []) (p := 96) rfl rfl rfl rfl (Nat.le_of_ble_eq_true rfl) (cr_mono (cr_up (by omega) (c6_take (d := 0) s hX hL.2 hy1)) ?_)
        rintro s1 out hx
        obtain ⟨hx, hW⟩ := hx
        obtain ⟨z1, rfl, hz1⟩ := W6_2 hW
        obtain ⟨_, hL1, hp1⟩ := L1_X hL.1 (X4_XP hx)
        obtain ⟨C1, D1, hS1⟩ := hL1.2.2.1
        have hR1 := hL1.1
        have a1 : s1.1 97 1 = s.1 97 1 := hp1
        have a2 := hL1.2.2.2.2.1
        have hj : HJ4 s.1 s1.1 := hx.2.2.2.1
        refine ⟨_, rfl, ?_⟩
        show wv 0 _ 600 tb_M0 261 [(3, vi (6 * (n : Int))), (2, .ref 170), (1, .ref 96), (0, .ref 0)] [vl z1] s1 _
        refine wv_pop2 rfl rfl ?_
        refine wv_n (pc2 := 263) (lv2 := [(3, vi (6 * (n : Int))), (2, .ref 170), (1, .ref 96), (0, .ref 0)]) (st2 := [.ref 170]) 1 (fun _ _ => rfl) ?_
        refine wv_n (pc2 := 266) (lv2 := [(3, vi (6 * (n : Int))), (2, .ref 170), (1, .ref 96), (0, .ref 0)]) (st2 := [vi 1, vi (6 * (n : Int)), .ref 0, .ref 170]) 3 (fun _ _ => rfl) ?_
        refine wv_add (a := 6 * (n : Int)) (b := 1) rfl ?_
        refine wv_aldq (a := 6 * (n : Int) + 1) rfl (by omega) (by omega) hv1 ?_
        show wv 0 _ 600 tb_M0 268 [(3, vi (6 * (n : Int))), (2, .ref 170), (1, .ref 96), (0, .ref 0)] [vi y1, .ref 170] s1 _
        refine wv_call1 (args := [vi y1]) (rest := []) (p := 170) rfl rfl rfl rfl (Nat.le_of_ble_eq_true rfl) (cr_mono (cr_up (by omega) (r6_take (d := 0) hL.2 hj hR1 hS1 (show i32 y1 from hy1) hW)) ?_)
        rintro s2 out ⟨hw, rfl, hV⟩
        obtain ⟨_, hL2⟩ := LI_M hL1 (M2_MP hw) (fun z hz => by have hz : z = s1.1 170 1 := hz; omega)
        refine ⟨_, rfl, ?_⟩
        show wv 0 _ 600 tb_M0 271 [(3, vi (6 * (n : Int))), (2, .ref 170), (1, .ref 96), (0, .ref 0)] [vl z1] s2 _
        refine wv_pop2 rfl rfl ?_
        refine wv_n (pc2 := 322) (lv2 := [(3, vi (6 * (n : Int))), (2, .ref 170), (1, .ref 96), (0, .ref 0)]) (st2 := []) 1 (fun _ _ => rfl) ?_
        exact nxt s2 ⟨hL2, hV⟩
      · refine ⟨275, rfl, ?_⟩
        refine wv_n (pc2 := 276) (lv2 := [(3, vi (6 * (n : Int))), (2, .ref 170), (1, .ref 96), (0, .ref 0)]) (st2 := [.ref 96]) 1 (fun _ _ => rfl) ?_
        refine wv_n (pc2 := 279) (lv2 := [(3, vi (6 * (n : Int))), (2, .ref 170), (1, .ref 96), (0, .ref 0)]) (st2 := [vi 1, vi (6 * (n : Int)), .ref 0, .ref 96]) 3 (fun _ _ => rfl) ?_
        refine wv_add (a := 6 * (n : Int)) (b := 1) rfl ?_
        refine wv_aldq (a := 6 * (n : Int) + 1) rfl (by omega) (by omega) hv1 ?_
        show wv 0 _ 600 tb_M0 281 [(3, vi (6 * (n : Int))), (2, .ref 170), (1, .ref 96), (0, .ref 0)] [vi y1, .ref 96] s _
        refine wv_call1 (args := [vi y1]) (rest := []) (p := 96) rfl rfl rfl rfl (Nat.le_of_ble_eq_true rfl) (cr_rg fun hrg => cr_rg2 fun hrg2 => cr_mono (cr_up (by omega) (c9_look (d := 0) s hX hL.2 hy1)) ?_)
        rintro s1 out ⟨hx, hW⟩
        obtain ⟨z1, rfl, hz1⟩ := W6_2 hW
        obtain ⟨_, hL1, hp1⟩ := L1_X hL.1 (XL_XP hx)
        obtain ⟨C1, D1, hS1⟩ := hL1.2.2.1
        have hR1 := hL1.1
        have a1 : s1.1 97 1 = 0 := hp1
        have a2 := hL1.2.2.2.2.1
        have hj : HL s.1 s1.1 := hx.2.2.2.1
        refine ⟨_, rfl, ?_⟩
        show wv 0 _ 600 tb_M0 284 [(3, vi (6 * (n : Int))), (2, .ref 170), (1, .ref 96), (0, .ref 0)] [vl z1] s1 _
        refine wv_n (pc2 := 285) (lv2 := [(3, vi (6 * (n : Int))), (2, .ref 170), (1, .ref 96), (0, .ref 0)]) (st2 := [.ref 170, vl z1]) 1 (fun _ _ => rfl) ?_
        refine wv_n (pc2 := 288) (lv2 := [(3, vi (6 * (n : Int))), (2, .ref 170), (1, .ref 96), (0, .ref 0)]) (st2 := [vi 1, vi (6 * (n : Int)), .ref 0, .ref 170, vl z1]) 3 (fun _ _ => rfl) ?_
        refine wv_add (a := 6 * (n : Int)) (b := 1) rfl ?_
        refine wv_aldq (a := 6 * (n : Int) + 1) rfl (by omega) (by omega) hv1 ?_
        show wv 0 _ 600 tb_M0 290 [(3, vi (6 * (n : Int))), (2, .ref 170), (1, .ref 96), (0, .ref 0)] [vi y1, .ref 170, vl z1] s1 _
        refine wv_call1 (args := [vi y1]) (rest := [vl z1]) (p := 170) rfl rfl rfl rfl (Nat.le_of_ble_eq_true rfl) (cr_mono (cr_up (by omega) (r9_look (d := 0) hL.2 hX hrg hrg2 c3 hj hR1 hS1 (show i32 y1 from hy1) hW)) ?_)
        rintro s2 out ⟨hw, rfl⟩
        obtain ⟨_, hL2⟩ := LI_M hL1 (M3_MP hw) (fun z hz => by have hz : z = 0 := hz; omega)
        refine ⟨_, rfl, ?_⟩
        show wv 0 _ 600 tb_M0 293 [(3, vi (6 * (n : Int))), (2, .ref 170), (1, .ref 96), (0, .ref 0)] [vl z1, vl z1] s2 _
        refine wv_lcme (a := z1) rfl ?_
        show wv 0 _ 600 tb_M0 294 [(3, vi (6 * (n : Int))), (2, .ref 170), (1, .ref 96), (0, .ref 0)] [vi 0] s2 _
        refine wv_if1t rfl rfl (by unfold i32; omega) (show (0 : Int) = 0 from rfl) ?_
        exact nxt s2 ⟨hL2, LV6_h hL.2 hX hS hx.2.2.2.1 hw.2.2.2.1 (by omega) hw.2.2.1⟩
      · refine ⟨299, rfl, ?_⟩
        refine wv_n (pc2 := 300) (lv2 := [(3, vi (6 * (n : Int))), (2, .ref 170), (1, .ref 96), (0, .ref 0)]) (st2 := [.ref 96]) 1 (fun _ _ => rfl) ?_
        refine wv_n (pc2 := 303) (lv2 := [(3, vi (6 * (n : Int))), (2, .ref 170), (1, .ref 96), (0, .ref 0)]) (st2 := [vi 1, vi (6 * (n : Int)), .ref 0, .ref 96]) 3 (fun _ _ => rfl) ?_
        refine wv_add (a := 6 * (n : Int)) (b := 1) rfl ?_
        refine wv_aldq (a := 6 * (n : Int) + 1) rfl (by omega) (by omega) hv1 ?_
        show wv 0 _ 600 tb_M0 305 [(3, vi (6 * (n : Int))), (2, .ref 170), (1, .ref 96), (0, .ref 0)] [vi y1, .ref 96] s _
        refine wv_call1 (args := [vi y1]) (rest := []) (p := 96) rfl rfl rfl rfl (Nat.le_of_ble_eq_true rfl) (cr_mono (cr_up (by omega) (zl_count (d := 0) s hX hy1)) ?_)
        rintro s1 out hx
        obtain ⟨⟨v1, rfl, hv9⟩, hL1, hp1⟩ := L1_X hL.1 (XL_XP hx)
        obtain ⟨C1, D1, hS1⟩ := hL1.2.2.1
        have hR1 := hL1.1
        have a1 : s1.1 97 1 = s.1 97 1 := hp1
        have a2 := hL1.2.2.2.2.1
        refine ⟨_, rfl, ?_⟩
        show wv 0 _ 600 tb_M0 308 [(3, vi (6 * (n : Int))), (2, .ref 170), (1, .ref 96), (0, .ref 0)] [v1] s1 _
        refine wv_pop rfl hv9 ?_
        refine wv_n (pc2 := 310) (lv2 := [(3, vi (6 * (n : Int))), (2, .ref 170), (1, .ref 96), (0, .ref 0)]) (st2 := [.ref 170]) 1 (fun _ _ => rfl) ?_
        refine wv_n (pc2 := 313) (lv2 := [(3, vi (6 * (n : Int))), (2, .ref 170), (1, .ref 96), (0, .ref 0)]) (st2 := [vi 1, vi (6 * (n : Int)), .ref 0, .ref 170]) 3 (fun _ _ => rfl) ?_
        refine wv_add (a := 6 * (n : Int)) (b := 1) rfl ?_
        refine wv_aldq (a := 6 * (n : Int) + 1) rfl (by omega) (by omega) hv1 ?_
        show wv 0 _ 600 tb_M0 315 [(3, vi (6 * (n : Int))), (2, .ref 170), (1, .ref 96), (0, .ref 0)] [vi y1, .ref 170] s1 _
        refine wv_call1 (args := [vi y1]) (rest := []) (p := 170) rfl rfl rfl rfl (Nat.le_of_ble_eq_true rfl) (cr_mono (cr_up (by omega) (ql_count (d := 0) s1 hR1 hS1 (show i32 y1 from hy1))) ?_)
        rintro s2 out hw
        obtain ⟨⟨v2, rfl, hv8⟩, hL2⟩ := LI_M hL1 (M3_MP hw) (fun z hz => by have hz : z = s1.1 170 1 := hz; omega)
        refine ⟨_, rfl, ?_⟩
        show wv 0 _ 600 tb_M0 318 [(3, vi (6 * (n : Int))), (2, .ref 170), (1, .ref 96), (0, .ref 0)] [v2] s2 _
        refine wv_pop rfl hv8 ?_
        refine wv_n (pc2 := 322) (lv2 := [(3, vi (6 * (n : Int))), (2, .ref 170), (1, .ref 96), (0, .ref 0)]) (st2 := []) 1 (fun _ _ => rfl) ?_
        exact nxt s2 ⟨hL2, LV6_h hL.2 hX hS hx.2.2.2.1 hw.2.2.2.1 (by omega) hw.2.2.1⟩
      · refine ⟨322, rfl, ?_⟩
        refine nxt s ?_
        exact ⟨⟨hL.1.1, hL.1.2.1, hL.1.2.2.1, hL.1.2.2.2.1, by omega, by omega⟩, LV6_u hL.2 hL.1.1⟩
theorem pz_good (xs : List Int32) (hxs : xs.length ≤ 384) : tb_good xs := by
  obtain ⟨G, s, h1, h2, h3, h4, h5, h6, h7, h8, h9, h11, h10⟩ := pc_begun (.inl (.int, xs.map Value.int))
  obtain ⟨gf, out, w1, s2, w2, w3, rfl, w4, w5⟩ := l_law xs hxs _ 0 s rfl (by omega) ⟨⟨h7, ⟨_, _, _, h5⟩, ⟨_, _, h6⟩, by rw [h8, h9], by rw [h3]; decide, by rw [h3]; decide⟩, ⟨⟨.inl h11.1, by rw [h11.1, h11.2.1]⟩, fun _ j _ => by rw [h11.2.2.2 j]; exact Int.le_refl _⟩, fun j hj => absurd hj (by rw [h8]; omega), fun j _ => by rw [h11.2.2.1 j]; exact Int.le_refl _, ⟨by rw [h5.2.2.2.2.1, h5.2.2.2.2.2.1]; rfl, h5.2.2.2.2.2.2.trans h5.2.2.2.2.1.symm⟩, fun q => by rw [h11.1] at q; omega⟩ G h1 h2 h4
  obtain ⟨K, n, w6⟩ := h10 _ _ w1
  exact ⟨K, 600, n, gf, w6, by rw [w3]; exact w4, by rw [w3]; exact w5, by decide, by decide⟩
theorem i_vc : Claimed_1_1 ∧ Claimed_1_2 := tb_final pz_good
