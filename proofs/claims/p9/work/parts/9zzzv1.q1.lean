/-! The compiler once more: Work and the other circuit are kept. -/
def fxq (C k j : Nat) : Prop := fx k j ∨ 142 ≤ k ∧ k ≤ 169 ∨ (C = 99 ∧ 115 ≤ k ∧ k < 131 ∨ C = 115 ∧ 99 ≤ k ∧ k < 115)
def FXq (C : Nat) (r r2 : tab) : Prop := ∀ k j, fxq C k j → r2 k j = r k j
section FXQ
variable {C k j : Nat} {r r1 r2 : tab} {z : Int}
theorem FXq_rf : FXq C r r := fun _ _ _ => rfl
theorem FXq_tr (h : FXq C r r1) (q : FXq C r1 r2) : FXq C r r2 := fun k j e => (q k j e).trans (h k j e)
theorem FXq_up (h : FXq C r r1) (hk : ¬ fxq C k j) : FXq C r (up2 r1 k j z) := fun a c e => (if_neg (by rintro ⟨rfl, rfl⟩; exact hk e)).trans (h a c e)
end FXQ
def KVq (C : Nat) (s : rS) : rS → hm_Out → Prop := fun s2 out => KI s2.1 ∧ FXq C s.1 s2.1 ∧ s2.2 = s.2 ∧ out = some none
def KZq (C : Nat) (P : Int → Prop) (s : rS) : rS → hm_Out → Prop := fun s2 out => KI s2.1 ∧ FXq C s.1 s2.1 ∧ s2.2 = s.2 ∧ ∃ z : Int, out = some (some (vi z)) ∧ i32 z ∧ P z
def TVq (C : Nat) (s : rS) : rS → hm_Out → Prop := fun s2 out => KI s2.1 ∧ FXq C s.1 s2.1 ∧ (s2.2 = s.2 ∧ out = some none ∨ out = none ∧ s2.2 = (s.2.1 + 1, s.2.2 + 6))
def TZq (C : Nat) (P : Int → Prop) (s : rS) : rS → hm_Out → Prop := fun s2 out => KI s2.1 ∧ FXq C s.1 s2.1 ∧ ((∃ z : Int, s2.2 = s.2 ∧ out = some (some (vi z)) ∧ i32 z ∧ P z) ∨ out = none ∧ s2.2 = (s.2.1 + 1, s.2.2 + 6))
theorem k_fillq {C : Nat} {d q n : Nat} {v : Int} (ht : tb_TG q = some (.inl .int, n)) (hn0 : 1 ≤ n) (hn : n ≤ 30000) (hq : 96 ≤ q) (hv : i32 v) (hrc : ∀ j, tb_rc q j = none) (hkb : ∀ j, kb q j v) (hfx : ∀ j, ¬ fxq C q j) (s : rS) (hK : KI s.1) : cr (d + 1) 23 [.ref q, vi v] s (KVq C s) := by
  refine cr_mono (c_fill2 ht hn0 hn hq hv s) ?_
  rintro s2 out ⟨rfl, hc, hf, hz⟩
  refine ⟨⟨fun k j x hx => ?_, fun k j => ?_⟩, fun k j e => hf k j (fun q1 => hfx j (q1.1 ▸ e)), hc, rfl⟩
  · exact (hf k j (fun e => by rw [e.1, hrc] at hx; cases hx)).trans (hK.1 k j x hx)
  · by_cases e : k = q ∧ j < n
    · obtain ⟨rfl, e⟩ := e
      rw [hz j e]
      exact hkb j
    · rw [hf k j e]
      exact hK.2 k j
set_option maxHeartbeats 20000000 in
set_option maxRecDepth 100000 in
theorem k_naddq {d : Nat} {C : Nat} (hC : C = 99 ∨ C = 115)  {w x y : Int} (s : rS) (hK : KI s.1) (hw : i64 w) (hx : (-2147483648) ≤ x ∧ x ≤ 2147483647) (hy : (-2147483648) ≤ y ∧ y ≤ 2147483647)  : cr (d + 1) 42 [.ref (C + 6), vl w, vi x, vi y] s (KVq C s) := by
  refine cr_of (M := tb_M42) rfl (Nat.le_of_ble_eq_true rfl) ?_
  show wr (d) tb_M42 0 [(0, .ref (C + 6)), (1, vl w), (3, vi x), (4, vi y)] [] s _
  refine wr_n (pc2 := 1) (lv2 := [(0, .ref (C + 6)), (1, vl w), (3, vi x), (4, vi y)]) (st2 := [.ref (C + 6)]) 1 (fun _ _ => rfl) ?_
  refine wr_get (v := vi (s.1 (C + 6) 3)) rfl rfl (TK6 hC) (by decide) rfl fun h1 => ?_
  have h1 : -2147483648 ≤ s.1 (C + 6) 3 ∧ s.1 (C + 6) 3 ≤ 2147483647 := h1
  show wr d tb_M42 4 [(0, .ref (C + 6)), (1, vl w), (3, vi x), (4, vi y)] [vi (s.1 (C + 6) 3)] s _
  have hb2 : 0 ≤ s.1 (C + 6) 3 ∧ s.1 (C + 6) 3 ≤ 58 := kb_to (kC6_3 hC) (hK.2 (C + 6) 3)
  refine wr_n (pc2 := 6) (lv2 := [(0, .ref (C + 6)), (1, vl w), (3, vi x), (4, vi y)]) (st2 := [vi 58, vi (s.1 (C + 6) 3)]) 1 (fun _ _ => rfl) ?_
  by_cases h3 : 58 ≤ s.1 (C + 6) 3
  · refine wr_if2t rfl rfl (by unfold i32; omega) (by unfold i32; omega) h3 ?_
    refine wr_end (fun _ _ => rfl) ?_
    exact ⟨hK, FXq_rf, rfl, rfl⟩
  · refine wr_if2f rfl rfl (by unfold i32; omega) (by unfold i32; omega) h3 ?_
    refine wr_n (pc2 := 10) (lv2 := [(0, .ref (C + 6)), (1, vl w), (3, vi x), (4, vi y)]) (st2 := [.ref (C + 6)]) 1 (fun _ _ => rfl) ?_
    refine wr_get (v := .ref (C + 7)) rfl rfl (TK6 hC) (by decide) (rv_ref (hK.1 (C + 6) 0 (C + 7) (rK6 hC (by omega)))) fun h4 => ?_
    show wr d tb_M42 13 [(0, .ref (C + 6)), (1, vl w), (3, vi x), (4, vi y)] [.ref (C + 7)] s _
    refine wr_n (pc2 := 14) (lv2 := [(0, .ref (C + 6)), (1, vl w), (3, vi x), (4, vi y)]) (st2 := [.ref (C + 6), .ref (C + 7)]) 1 (fun _ _ => rfl) ?_
    refine wr_get (v := vi (s.1 (C + 6) 3)) rfl rfl (TK6 hC) (by decide) rfl fun h5 => ?_
    have h5 : -2147483648 ≤ s.1 (C + 6) 3 ∧ s.1 (C + 6) 3 ≤ 2147483647 := h5
    show wr d tb_M42 17 [(0, .ref (C + 6)), (1, vl w), (3, vi x), (4, vi y)] [vi (s.1 (C + 6) 3), .ref (C + 7)] s _
    have hb6 : 0 ≤ s.1 (C + 6) 3 ∧ s.1 (C + 6) 3 ≤ 58 := kb_to (kC6_3 hC) (hK.2 (C + 6) 3)
    refine wr_n (pc2 := 18) (lv2 := [(0, .ref (C + 6)), (1, vl w), (3, vi x), (4, vi y)]) (st2 := [vl w, vi (s.1 (C + 6) 3), .ref (C + 7)]) 1 (fun _ _ => rfl) ?_
    refine wr_ast (a := s.1 (C + 6) 3) (z := w) rfl (show 96 ≤ C + 7 by omega) (TK7 hC) rfl (by omega) (by omega) (by decide) rfl hw ?_
    show wr d tb_M42 19 [(0, .ref (C + 6)), (1, vl w), (3, vi x), (4, vi y)] [] (up2 s.1 (C + 7) ((s.1 (C + 6) 3).toNat) w, s.2) _
    have hK7 : KI (up2 s.1 (C + 7) ((s.1 (C + 6) 3).toNat) w) := (KI_up hK (nK hC (by omega)) (kb_no (kC7 hC)))
    refine wr_n (pc2 := 20) (lv2 := [(0, .ref (C + 6)), (1, vl w), (3, vi x), (4, vi y)]) (st2 := [.ref (C + 6)]) 1 (fun _ _ => rfl) ?_
    refine wr_get (v := .ref (C + 8)) rfl rfl (TK6 hC) (by decide) (rv_ref (hK7.1 (C + 6) 1 (C + 8) (rK6 hC (by omega)))) fun h8 => ?_
    show wr d tb_M42 23 [(0, .ref (C + 6)), (1, vl w), (3, vi x), (4, vi y)] [.ref (C + 8)] (up2 s.1 (C + 7) ((s.1 (C + 6) 3).toNat) w, s.2) _
    refine wr_n (pc2 := 24) (lv2 := [(0, .ref (C + 6)), (1, vl w), (3, vi x), (4, vi y)]) (st2 := [.ref (C + 6), .ref (C + 8)]) 1 (fun _ _ => rfl) ?_
    refine wr_get (v := vi (s.1 (C + 6) 3)) rfl rfl (TK6 hC) (by decide) (by show rv _ ((up2 s.1 (C + 7) ((s.1 (C + 6) 3).toNat) w) (C + 6) 3) = _; rw [up_nk (by omega)]; rfl) fun h9 => ?_
    replace h9 : rg _ ((up2 s.1 (C + 7) ((s.1 (C + 6) 3).toNat) w) (C + 6) 3) := h9
    rw [up_nk (by omega)] at h9
    have h9 : -2147483648 ≤ s.1 (C + 6) 3 ∧ s.1 (C + 6) 3 ≤ 2147483647 := h9
    show wr d tb_M42 27 [(0, .ref (C + 6)), (1, vl w), (3, vi x), (4, vi y)] [vi (s.1 (C + 6) 3), .ref (C + 8)] (up2 s.1 (C + 7) ((s.1 (C + 6) 3).toNat) w, s.2) _
    have hb10 : 0 ≤ s.1 (C + 6) 3 ∧ s.1 (C + 6) 3 ≤ 58 := kb_to (kC6_3 hC) (hK.2 (C + 6) 3)
    refine wr_n (pc2 := 28) (lv2 := [(0, .ref (C + 6)), (1, vl w), (3, vi x), (4, vi y)]) (st2 := [vi x, vi (s.1 (C + 6) 3), .ref (C + 8)]) 1 (fun _ _ => rfl) ?_
    refine wr_ast (a := s.1 (C + 6) 3) (z := x) rfl (show 96 ≤ C + 8 by omega) (TK8 hC) rfl (by omega) (by omega) (by decide) rfl (show -2147483648 ≤ x ∧ x ≤ 2147483647 by omega) ?_
    show wr d tb_M42 29 [(0, .ref (C + 6)), (1, vl w), (3, vi x), (4, vi y)] [] (up2 (up2 s.1 (C + 7) ((s.1 (C + 6) 3).toNat) w) (C + 8) ((s.1 (C + 6) 3).toNat) x, s.2) _
    have hK11 : KI (up2 (up2 s.1 (C + 7) ((s.1 (C + 6) 3).toNat) w) (C + 8) ((s.1 (C + 6) 3).toNat) x) := (KI_up (KI_up hK (nK hC (by omega)) (kb_no (kC7 hC))) (nK hC (by omega)) (kb_no (kC8 hC)))
    refine wr_n (pc2 := 30) (lv2 := [(0, .ref (C + 6)), (1, vl w), (3, vi x), (4, vi y)]) (st2 := [.ref (C + 6)]) 1 (fun _ _ => rfl) ?_
    refine wr_get (v := .ref (C + 9)) rfl rfl (TK6 hC) (by decide) (rv_ref (hK11.1 (C + 6) 2 (C + 9) (rK6 hC (by omega)))) fun h12 => ?_
    show wr d tb_M42 33 [(0, .ref (C + 6)), (1, vl w), (3, vi x), (4, vi y)] [.ref (C + 9)] (up2 (up2 s.1 (C + 7) ((s.1 (C + 6) 3).toNat) w) (C + 8) ((s.1 (C + 6) 3).toNat) x, s.2) _
    refine wr_n (pc2 := 34) (lv2 := [(0, .ref (C + 6)), (1, vl w), (3, vi x), (4, vi y)]) (st2 := [.ref (C + 6), .ref (C + 9)]) 1 (fun _ _ => rfl) ?_
    refine wr_get (v := vi (s.1 (C + 6) 3)) rfl rfl (TK6 hC) (by decide) (by show rv _ ((up2 (up2 s.1 (C + 7) ((s.1 (C + 6) 3).toNat) w) (C + 8) ((s.1 (C + 6) 3).toNat) x) (C + 6) 3) = _; rw [up_nk (by omega), up_nk (by omega)]; rfl) fun h13 => ?_
    replace h13 : rg _ ((up2 (up2 s.1 (C + 7) ((s.1 (C + 6) 3).toNat) w) (C + 8) ((s.1 (C + 6) 3).toNat) x) (C + 6) 3) := h13
    rw [up_nk (by omega), up_nk (by omega)] at h13
    have h13 : -2147483648 ≤ s.1 (C + 6) 3 ∧ s.1 (C + 6) 3 ≤ 2147483647 := h13
    show wr d tb_M42 37 [(0, .ref (C + 6)), (1, vl w), (3, vi x), (4, vi y)] [vi (s.1 (C + 6) 3), .ref (C + 9)] (up2 (up2 s.1 (C + 7) ((s.1 (C + 6) 3).toNat) w) (C + 8) ((s.1 (C + 6) 3).toNat) x, s.2) _
    have hb14 : 0 ≤ s.1 (C + 6) 3 ∧ s.1 (C + 6) 3 ≤ 58 := kb_to (kC6_3 hC) (hK.2 (C + 6) 3)
    refine wr_n (pc2 := 39) (lv2 := [(0, .ref (C + 6)), (1, vl w), (3, vi x), (4, vi y)]) (st2 := [vi y, vi (s.1 (C + 6) 3), .ref (C + 9)]) 1 (fun _ _ => rfl) ?_
    refine wr_ast (a := s.1 (C + 6) 3) (z := y) rfl (show 96 ≤ C + 9 by omega) (TK9 hC) rfl (by omega) (by omega) (by decide) rfl (show -2147483648 ≤ y ∧ y ≤ 2147483647 by omega) ?_
    show wr d tb_M42 40 [(0, .ref (C + 6)), (1, vl w), (3, vi x), (4, vi y)] [] (up2 (up2 (up2 s.1 (C + 7) ((s.1 (C + 6) 3).toNat) w) (C + 8) ((s.1 (C + 6) 3).toNat) x) (C + 9) ((s.1 (C + 6) 3).toNat) y, s.2) _
    have hK15 : KI (up2 (up2 (up2 s.1 (C + 7) ((s.1 (C + 6) 3).toNat) w) (C + 8) ((s.1 (C + 6) 3).toNat) x) (C + 9) ((s.1 (C + 6) 3).toNat) y) := (KI_up (KI_up (KI_up hK (nK hC (by omega)) (kb_no (kC7 hC))) (nK hC (by omega)) (kb_no (kC8 hC))) (nK hC (by omega)) (kb_no (kC9 hC)))
    refine wr_n (pc2 := 42) (lv2 := [(0, .ref (C + 6)), (1, vl w), (3, vi x), (4, vi y)]) (st2 := [.ref (C + 6), .ref (C + 6)]) 2 (fun _ _ => rfl) ?_
    refine wr_get (v := vi (s.1 (C + 6) 3)) rfl rfl (TK6 hC) (by decide) (by show rv _ ((up2 (up2 (up2 s.1 (C + 7) ((s.1 (C + 6) 3).toNat) w) (C + 8) ((s.1 (C + 6) 3).toNat) x) (C + 9) ((s.1 (C + 6) 3).toNat) y) (C + 6) 3) = _; rw [up_nk (by omega), up_nk (by omega), up_nk (by omega)]; rfl) fun h16 => ?_
    replace h16 : rg _ ((up2 (up2 (up2 s.1 (C + 7) ((s.1 (C + 6) 3).toNat) w) (C + 8) ((s.1 (C + 6) 3).toNat) x) (C + 9) ((s.1 (C + 6) 3).toNat) y) (C + 6) 3) := h16
    rw [up_nk (by omega), up_nk (by omega), up_nk (by omega)] at h16
    have h16 : -2147483648 ≤ s.1 (C + 6) 3 ∧ s.1 (C + 6) 3 ≤ 2147483647 := h16
    show wr d tb_M42 45 [(0, .ref (C + 6)), (1, vl w), (3, vi x), (4, vi y)] [vi (s.1 (C + 6) 3), .ref (C + 6)] (up2 (up2 (up2 s.1 (C + 7) ((s.1 (C + 6) 3).toNat) w) (C + 8) ((s.1 (C + 6) 3).toNat) x) (C + 9) ((s.1 (C + 6) 3).toNat) y, s.2) _
    have hb17 : 0 ≤ s.1 (C + 6) 3 ∧ s.1 (C + 6) 3 ≤ 58 := kb_to (kC6_3 hC) (hK.2 (C + 6) 3)
    refine wr_n (pc2 := 46) (lv2 := [(0, .ref (C + 6)), (1, vl w), (3, vi x), (4, vi y)]) (st2 := [vi 1, vi (s.1 (C + 6) 3), .ref (C + 6)]) 1 (fun _ _ => rfl) ?_
    refine wr_add (a := s.1 (C + 6) 3) (b := 1) rfl ?_
    show wr d tb_M42 47 [(0, .ref (C + 6)), (1, vl w), (3, vi x), (4, vi y)] [vi (s.1 (C + 6) 3 + 1), .ref (C + 6)] (up2 (up2 (up2 s.1 (C + 7) ((s.1 (C + 6) 3).toNat) w) (C + 8) ((s.1 (C + 6) 3).toNat) x) (C + 9) ((s.1 (C + 6) 3).toNat) y, s.2) _
    refine wr_put (z := s.1 (C + 6) 3 + 1) rfl rfl rfl rfl (show 96 ≤ C + 6 by omega) (TK6 hC) (by decide) rfl (show -2147483648 ≤ s.1 (C + 6) 3 + 1 ∧ s.1 (C + 6) 3 + 1 ≤ 2147483647 by omega) (hf_int' _) ?_
    show wr d tb_M42 50 [(0, .ref (C + 6)), (1, vl w), (3, vi x), (4, vi y)] [] (up2 (up2 (up2 (up2 s.1 (C + 7) ((s.1 (C + 6) 3).toNat) w) (C + 8) ((s.1 (C + 6) 3).toNat) x) (C + 9) ((s.1 (C + 6) 3).toNat) y) (C + 6) 3 (s.1 (C + 6) 3 + 1), s.2) _
    have hK18 : KI (up2 (up2 (up2 (up2 s.1 (C + 7) ((s.1 (C + 6) 3).toNat) w) (C + 8) ((s.1 (C + 6) 3).toNat) x) (C + 9) ((s.1 (C + 6) 3).toNat) y) (C + 6) 3 (s.1 (C + 6) 3 + 1)) := (KI_up (KI_up (KI_up (KI_up hK (nK hC (by omega)) (kb_no (kC7 hC))) (nK hC (by omega)) (kb_no (kC8 hC))) (nK hC (by omega)) (kb_no (kC9 hC))) (nK hC (by omega)) (kb_of (kC6_3 hC) (show 0 ≤ s.1 (C + 6) 3 + 1 ∧ s.1 (C + 6) 3 + 1 ≤ 58 by omega)))
    refine wr_end (fun _ _ => rfl) ?_
    exact ⟨hK18, (FXq_up (FXq_up (FXq_up (FXq_up FXq_rf (by unfold fxq fx; omega)) (by unfold fxq fx; omega)) (by unfold fxq fx; omega)) (by unfold fxq fx; omega)), rfl, rfl⟩
set_option maxHeartbeats 20000000 in
set_option maxRecDepth 100000 in
theorem k_cutq {d : Nat} {C : Nat} (hC : C = 99 ∨ C = 115)  {x : Int} (s : rS) (hK : KI s.1) (hx : (-2147483648) ≤ x ∧ x ≤ 2147483647)  : cr (d + 1) 22 [.ref (C + 6), vi x] s (KVq C s) := by
  refine cr_of (M := tb_M22) rfl (Nat.le_of_ble_eq_true rfl) ?_
  show wr (d) tb_M22 0 [(0, .ref (C + 6)), (1, vi x)] [] s _
  refine wr_n (pc2 := 1) (lv2 := [(0, .ref (C + 6)), (1, vi x)]) (st2 := [vi x]) 1 (fun _ _ => rfl) ?_
  by_cases h1 : x < 0
  · refine wr_if1t rfl rfl (by unfold i32; omega) h1 ?_
    refine wr_end (fun _ _ => rfl) ?_
    exact ⟨hK, FXq_rf, rfl, rfl⟩
  · refine wr_if1f rfl rfl (by unfold i32; omega) h1 ?_
    refine wr_n (pc2 := 6) (lv2 := [(0, .ref (C + 6)), (1, vi x)]) (st2 := [.ref (C + 6), vi x]) 2 (fun _ _ => rfl) ?_
    refine wr_get (v := vi (s.1 (C + 6) 3)) rfl rfl (TK6 hC) (by decide) rfl fun h2 => ?_
    have h2 : -2147483648 ≤ s.1 (C + 6) 3 ∧ s.1 (C + 6) 3 ≤ 2147483647 := h2
    show wr d tb_M22 9 [(0, .ref (C + 6)), (1, vi x)] [vi (s.1 (C + 6) 3), vi x] s _
    have hb3 : 0 ≤ s.1 (C + 6) 3 ∧ s.1 (C + 6) 3 ≤ 58 := kb_to (kC6_3 hC) (hK.2 (C + 6) 3)
    by_cases h4 : s.1 (C + 6) 3 ≤ x
    · refine wr_if2t rfl rfl (by unfold i32; omega) (by unfold i32; omega) h4 ?_
      refine wr_end (fun _ _ => rfl) ?_
      exact ⟨hK, FXq_rf, rfl, rfl⟩
    · refine wr_if2f rfl rfl (by unfold i32; omega) (by unfold i32; omega) h4 ?_
      refine wr_n (pc2 := 14) (lv2 := [(0, .ref (C + 6)), (1, vi x)]) (st2 := [vi x, .ref (C + 6)]) 2 (fun _ _ => rfl) ?_
      refine wr_put (z := x) rfl rfl rfl rfl (show 96 ≤ C + 6 by omega) (TK6 hC) (by decide) rfl (show -2147483648 ≤ x ∧ x ≤ 2147483647 by omega) (hf_int' _) ?_
      show wr d tb_M22 17 [(0, .ref (C + 6)), (1, vi x)] [] (up2 s.1 (C + 6) 3 x, s.2) _
      have hK5 : KI (up2 s.1 (C + 6) 3 x) := (KI_up hK (nK hC (by omega)) (kb_of (kC6_3 hC) (show 0 ≤ x ∧ x ≤ 58 by omega)))
      refine wr_end (fun _ _ => rfl) ?_
      exact ⟨hK5, (FXq_up FXq_rf (by unfold fxq fx; omega)), rfl, rfl⟩
def KAZq (C : Nat) (P : Int → Prop) (s : rS) : rS → hm_Out → Prop := fun s2 out => KI s2.1 ∧ FXq C s.1 s2.1 ∧ s2.2 = s.2 ∧ s2.1 131 6 = s.1 131 6 ∧ ∃ z : Int, out = some (some (vi z)) ∧ i32 z ∧ P z
set_option maxHeartbeats 20000000 in
set_option maxRecDepth 100000 in
theorem k_caddq {d : Nat} {C : Nat} (hC : C = 99 ∨ C = 115)  {x y u v : Int} (s : rS) (hK : KI s.1) (hx : (-2147483648) ≤ x ∧ x ≤ 2147483647) (hy : (-2147483648) ≤ y ∧ y ≤ 2147483647) (hu : (-2147483648) ≤ u ∧ u ≤ 2147483647) (hv : (-2147483648) ≤ v ∧ v ≤ 2147483647)  : cr (d + 1) 54 [.ref C, vi x, vi y, vi u, vi v] s (KAZq C (fun z => True) s) := by
  refine cr_of (M := tb_M54) rfl (Nat.le_of_ble_eq_true rfl) ?_
  show wr (d) tb_M54 0 [(0, .ref C), (1, vi x), (2, vi y), (3, vi u), (4, vi v)] [] s _
  refine wr_n (pc2 := 1) (lv2 := [(0, .ref C), (1, vi x), (2, vi y), (3, vi u), (4, vi v)]) (st2 := [.ref C]) 1 (fun _ _ => rfl) ?_
  refine wr_get (v := vi (s.1 C 12)) rfl rfl (TK0 hC) (by decide) rfl fun h1 => ?_
  have h1 : -2147483648 ≤ s.1 C 12 ∧ s.1 C 12 ≤ 2147483647 := h1
  show wr d tb_M54 4 [(0, .ref C), (1, vi x), (2, vi y), (3, vi u), (4, vi v)] [vi (s.1 C 12)] s _
  have hb2 : 0 ≤ s.1 C 12 ∧ s.1 C 12 ≤ 2000 := kb_to (kC_12 hC) (hK.2 C 12)
  refine wr_n (pc2 := 7) (lv2 := [(0, .ref C), (1, vi x), (2, vi y), (3, vi u), (4, vi v)]) (st2 := [vi 2000, vi (s.1 C 12)]) 1 (fun _ _ => rfl) ?_
  by_cases h3 : s.1 C 12 < 2000
  · refine wr_if2t rfl rfl (by unfold i32; omega) (by unfold i32; omega) h3 ?_
    refine wr_n (pc2 := 13) (lv2 := [(0, .ref C), (1, vi x), (2, vi y), (3, vi u), (4, vi v)]) (st2 := [.ref C]) 1 (fun _ _ => rfl) ?_
    refine wr_get (v := .ref (C + 1)) rfl rfl (TK0 hC) (by decide) (rv_ref (hK.1 C 0 (C + 1) (rcK hC (by omega)))) fun h4 => ?_
    show wr d tb_M54 16 [(0, .ref C), (1, vi x), (2, vi y), (3, vi u), (4, vi v)] [.ref (C + 1)] s _
    refine wr_n (pc2 := 17) (lv2 := [(0, .ref C), (1, vi x), (2, vi y), (3, vi u), (4, vi v)]) (st2 := [.ref C, .ref (C + 1)]) 1 (fun _ _ => rfl) ?_
    refine wr_get (v := vi (s.1 C 12)) rfl rfl (TK0 hC) (by decide) rfl fun h5 => ?_
    have h5 : -2147483648 ≤ s.1 C 12 ∧ s.1 C 12 ≤ 2147483647 := h5
    show wr d tb_M54 20 [(0, .ref C), (1, vi x), (2, vi y), (3, vi u), (4, vi v)] [vi (s.1 C 12), .ref (C + 1)] s _
    have hb6 : 0 ≤ s.1 C 12 ∧ s.1 C 12 ≤ 2000 := kb_to (kC_12 hC) (hK.2 C 12)
    refine wr_n (pc2 := 21) (lv2 := [(0, .ref C), (1, vi x), (2, vi y), (3, vi u), (4, vi v)]) (st2 := [vi x, vi (s.1 C 12), .ref (C + 1)]) 1 (fun _ _ => rfl) ?_
    refine wr_ast (a := s.1 C 12) (z := x) rfl (show 96 ≤ C + 1 by omega) (TK1 hC) rfl (by omega) (by omega) (by decide) rfl (show -2147483648 ≤ x ∧ x ≤ 2147483647 by omega) ?_
    show wr d tb_M54 22 [(0, .ref C), (1, vi x), (2, vi y), (3, vi u), (4, vi v)] [] (up2 s.1 (C + 1) ((s.1 C 12).toNat) x, s.2) _
    have hK7 : KI (up2 s.1 (C + 1) ((s.1 C 12).toNat) x) := (KI_up hK (nK hC (by omega)) (kb_no (kC1 hC)))
    refine wr_n (pc2 := 23) (lv2 := [(0, .ref C), (1, vi x), (2, vi y), (3, vi u), (4, vi v)]) (st2 := [.ref C]) 1 (fun _ _ => rfl) ?_
    refine wr_get (v := .ref (C + 2)) rfl rfl (TK0 hC) (by decide) (rv_ref (hK7.1 C 1 (C + 2) (rcK hC (by omega)))) fun h8 => ?_
    show wr d tb_M54 26 [(0, .ref C), (1, vi x), (2, vi y), (3, vi u), (4, vi v)] [.ref (C + 2)] (up2 s.1 (C + 1) ((s.1 C 12).toNat) x, s.2) _
    refine wr_n (pc2 := 27) (lv2 := [(0, .ref C), (1, vi x), (2, vi y), (3, vi u), (4, vi v)]) (st2 := [.ref C, .ref (C + 2)]) 1 (fun _ _ => rfl) ?_
    refine wr_get (v := vi (s.1 C 12)) rfl rfl (TK0 hC) (by decide) (by show rv _ ((up2 s.1 (C + 1) ((s.1 C 12).toNat) x) C 12) = _; rw [up_nk (by omega)]; rfl) fun h9 => ?_
    replace h9 : rg _ ((up2 s.1 (C + 1) ((s.1 C 12).toNat) x) C 12) := h9
    rw [up_nk (by omega)] at h9
    have h9 : -2147483648 ≤ s.1 C 12 ∧ s.1 C 12 ≤ 2147483647 := h9
    show wr d tb_M54 30 [(0, .ref C), (1, vi x), (2, vi y), (3, vi u), (4, vi v)] [vi (s.1 C 12), .ref (C + 2)] (up2 s.1 (C + 1) ((s.1 C 12).toNat) x, s.2) _
    have hb10 : 0 ≤ s.1 C 12 ∧ s.1 C 12 ≤ 2000 := kb_to (kC_12 hC) (hK.2 C 12)
    refine wr_n (pc2 := 31) (lv2 := [(0, .ref C), (1, vi x), (2, vi y), (3, vi u), (4, vi v)]) (st2 := [vi y, vi (s.1 C 12), .ref (C + 2)]) 1 (fun _ _ => rfl) ?_
    refine wr_ast (a := s.1 C 12) (z := y) rfl (show 96 ≤ C + 2 by omega) (TK2 hC) rfl (by omega) (by omega) (by decide) rfl (show -2147483648 ≤ y ∧ y ≤ 2147483647 by omega) ?_
    show wr d tb_M54 32 [(0, .ref C), (1, vi x), (2, vi y), (3, vi u), (4, vi v)] [] (up2 (up2 s.1 (C + 1) ((s.1 C 12).toNat) x) (C + 2) ((s.1 C 12).toNat) y, s.2) _
    have hK11 : KI (up2 (up2 s.1 (C + 1) ((s.1 C 12).toNat) x) (C + 2) ((s.1 C 12).toNat) y) := (KI_up (KI_up hK (nK hC (by omega)) (kb_no (kC1 hC))) (nK hC (by omega)) (kb_no (kC2 hC)))
    refine wr_n (pc2 := 33) (lv2 := [(0, .ref C), (1, vi x), (2, vi y), (3, vi u), (4, vi v)]) (st2 := [.ref C]) 1 (fun _ _ => rfl) ?_
    refine wr_get (v := .ref (C + 3)) rfl rfl (TK0 hC) (by decide) (rv_ref (hK11.1 C 2 (C + 3) (rcK hC (by omega)))) fun h12 => ?_
    show wr d tb_M54 36 [(0, .ref C), (1, vi x), (2, vi y), (3, vi u), (4, vi v)] [.ref (C + 3)] (up2 (up2 s.1 (C + 1) ((s.1 C 12).toNat) x) (C + 2) ((s.1 C 12).toNat) y, s.2) _
    refine wr_n (pc2 := 37) (lv2 := [(0, .ref C), (1, vi x), (2, vi y), (3, vi u), (4, vi v)]) (st2 := [.ref C, .ref (C + 3)]) 1 (fun _ _ => rfl) ?_
    refine wr_get (v := vi (s.1 C 12)) rfl rfl (TK0 hC) (by decide) (by show rv _ ((up2 (up2 s.1 (C + 1) ((s.1 C 12).toNat) x) (C + 2) ((s.1 C 12).toNat) y) C 12) = _; rw [up_nk (by omega), up_nk (by omega)]; rfl) fun h13 => ?_
    replace h13 : rg _ ((up2 (up2 s.1 (C + 1) ((s.1 C 12).toNat) x) (C + 2) ((s.1 C 12).toNat) y) C 12) := h13
    rw [up_nk (by omega), up_nk (by omega)] at h13
    have h13 : -2147483648 ≤ s.1 C 12 ∧ s.1 C 12 ≤ 2147483647 := h13
    show wr d tb_M54 40 [(0, .ref C), (1, vi x), (2, vi y), (3, vi u), (4, vi v)] [vi (s.1 C 12), .ref (C + 3)] (up2 (up2 s.1 (C + 1) ((s.1 C 12).toNat) x) (C + 2) ((s.1 C 12).toNat) y, s.2) _
    have hb14 : 0 ≤ s.1 C 12 ∧ s.1 C 12 ≤ 2000 := kb_to (kC_12 hC) (hK.2 C 12)
    refine wr_n (pc2 := 41) (lv2 := [(0, .ref C), (1, vi x), (2, vi y), (3, vi u), (4, vi v)]) (st2 := [vi u, vi (s.1 C 12), .ref (C + 3)]) 1 (fun _ _ => rfl) ?_
    refine wr_ast (a := s.1 C 12) (z := u) rfl (show 96 ≤ C + 3 by omega) (TK3 hC) rfl (by omega) (by omega) (by decide) rfl (show -2147483648 ≤ u ∧ u ≤ 2147483647 by omega) ?_
    show wr d tb_M54 42 [(0, .ref C), (1, vi x), (2, vi y), (3, vi u), (4, vi v)] [] (up2 (up2 (up2 s.1 (C + 1) ((s.1 C 12).toNat) x) (C + 2) ((s.1 C 12).toNat) y) (C + 3) ((s.1 C 12).toNat) u, s.2) _
    have hK15 : KI (up2 (up2 (up2 s.1 (C + 1) ((s.1 C 12).toNat) x) (C + 2) ((s.1 C 12).toNat) y) (C + 3) ((s.1 C 12).toNat) u) := (KI_up (KI_up (KI_up hK (nK hC (by omega)) (kb_no (kC1 hC))) (nK hC (by omega)) (kb_no (kC2 hC))) (nK hC (by omega)) (kb_no (kC3 hC)))
    refine wr_n (pc2 := 43) (lv2 := [(0, .ref C), (1, vi x), (2, vi y), (3, vi u), (4, vi v)]) (st2 := [.ref C]) 1 (fun _ _ => rfl) ?_
    refine wr_get (v := .ref (C + 4)) rfl rfl (TK0 hC) (by decide) (rv_ref (hK15.1 C 3 (C + 4) (rcK hC (by omega)))) fun h16 => ?_
    show wr d tb_M54 46 [(0, .ref C), (1, vi x), (2, vi y), (3, vi u), (4, vi v)] [.ref (C + 4)] (up2 (up2 (up2 s.1 (C + 1) ((s.1 C 12).toNat) x) (C + 2) ((s.1 C 12).toNat) y) (C + 3) ((s.1 C 12).toNat) u, s.2) _
    refine wr_n (pc2 := 47) (lv2 := [(0, .ref C), (1, vi x), (2, vi y), (3, vi u), (4, vi v)]) (st2 := [.ref C, .ref (C + 4)]) 1 (fun _ _ => rfl) ?_
    refine wr_get (v := vi (s.1 C 12)) rfl rfl (TK0 hC) (by decide) (by show rv _ ((up2 (up2 (up2 s.1 (C + 1) ((s.1 C 12).toNat) x) (C + 2) ((s.1 C 12).toNat) y) (C + 3) ((s.1 C 12).toNat) u) C 12) = _; rw [up_nk (by omega), up_nk (by omega), up_nk (by omega)]; rfl) fun h17 => ?_
    replace h17 : rg _ ((up2 (up2 (up2 s.1 (C + 1) ((s.1 C 12).toNat) x) (C + 2) ((s.1 C 12).toNat) y) (C + 3) ((s.1 C 12).toNat) u) C 12) := h17
    rw [up_nk (by omega), up_nk (by omega), up_nk (by omega)] at h17
    have h17 : -2147483648 ≤ s.1 C 12 ∧ s.1 C 12 ≤ 2147483647 := h17
    show wr d tb_M54 50 [(0, .ref C), (1, vi x), (2, vi y), (3, vi u), (4, vi v)] [vi (s.1 C 12), .ref (C + 4)] (up2 (up2 (up2 s.1 (C + 1) ((s.1 C 12).toNat) x) (C + 2) ((s.1 C 12).toNat) y) (C + 3) ((s.1 C 12).toNat) u, s.2) _
    have hb18 : 0 ≤ s.1 C 12 ∧ s.1 C 12 ≤ 2000 := kb_to (kC_12 hC) (hK.2 C 12)
    refine wr_n (pc2 := 52) (lv2 := [(0, .ref C), (1, vi x), (2, vi y), (3, vi u), (4, vi v)]) (st2 := [vi v, vi (s.1 C 12), .ref (C + 4)]) 1 (fun _ _ => rfl) ?_
    refine wr_ast (a := s.1 C 12) (z := v) rfl (show 96 ≤ C + 4 by omega) (TK4 hC) rfl (by omega) (by omega) (by decide) rfl (show -2147483648 ≤ v ∧ v ≤ 2147483647 by omega) ?_
    show wr d tb_M54 53 [(0, .ref C), (1, vi x), (2, vi y), (3, vi u), (4, vi v)] [] (up2 (up2 (up2 (up2 s.1 (C + 1) ((s.1 C 12).toNat) x) (C + 2) ((s.1 C 12).toNat) y) (C + 3) ((s.1 C 12).toNat) u) (C + 4) ((s.1 C 12).toNat) v, s.2) _
    have hK19 : KI (up2 (up2 (up2 (up2 s.1 (C + 1) ((s.1 C 12).toNat) x) (C + 2) ((s.1 C 12).toNat) y) (C + 3) ((s.1 C 12).toNat) u) (C + 4) ((s.1 C 12).toNat) v) := (KI_up (KI_up (KI_up (KI_up hK (nK hC (by omega)) (kb_no (kC1 hC))) (nK hC (by omega)) (kb_no (kC2 hC))) (nK hC (by omega)) (kb_no (kC3 hC))) (nK hC (by omega)) (kb_no (kC4 hC)))
    refine wr_n (pc2 := 54) (lv2 := [(0, .ref C), (1, vi x), (2, vi y), (3, vi u), (4, vi v)]) (st2 := [.ref C]) 1 (fun _ _ => rfl) ?_
    refine wr_get (v := .ref (C + 5)) rfl rfl (TK0 hC) (by decide) (rv_ref (hK19.1 C 4 (C + 5) (rcK hC (by omega)))) fun h20 => ?_
    show wr d tb_M54 57 [(0, .ref C), (1, vi x), (2, vi y), (3, vi u), (4, vi v)] [.ref (C + 5)] (up2 (up2 (up2 (up2 s.1 (C + 1) ((s.1 C 12).toNat) x) (C + 2) ((s.1 C 12).toNat) y) (C + 3) ((s.1 C 12).toNat) u) (C + 4) ((s.1 C 12).toNat) v, s.2) _
    refine wr_n (pc2 := 58) (lv2 := [(0, .ref C), (1, vi x), (2, vi y), (3, vi u), (4, vi v)]) (st2 := [.ref C, .ref (C + 5)]) 1 (fun _ _ => rfl) ?_
    refine wr_get (v := vi (s.1 C 12)) rfl rfl (TK0 hC) (by decide) (by show rv _ ((up2 (up2 (up2 (up2 s.1 (C + 1) ((s.1 C 12).toNat) x) (C + 2) ((s.1 C 12).toNat) y) (C + 3) ((s.1 C 12).toNat) u) (C + 4) ((s.1 C 12).toNat) v) C 12) = _; rw [up_nk (by omega), up_nk (by omega), up_nk (by omega), up_nk (by omega)]; rfl) fun h21 => ?_
    replace h21 : rg _ ((up2 (up2 (up2 (up2 s.1 (C + 1) ((s.1 C 12).toNat) x) (C + 2) ((s.1 C 12).toNat) y) (C + 3) ((s.1 C 12).toNat) u) (C + 4) ((s.1 C 12).toNat) v) C 12) := h21
    rw [up_nk (by omega), up_nk (by omega), up_nk (by omega), up_nk (by omega)] at h21
    have h21 : -2147483648 ≤ s.1 C 12 ∧ s.1 C 12 ≤ 2147483647 := h21
    show wr d tb_M54 61 [(0, .ref C), (1, vi x), (2, vi y), (3, vi u), (4, vi v)] [vi (s.1 C 12), .ref (C + 5)] (up2 (up2 (up2 (up2 s.1 (C + 1) ((s.1 C 12).toNat) x) (C + 2) ((s.1 C 12).toNat) y) (C + 3) ((s.1 C 12).toNat) u) (C + 4) ((s.1 C 12).toNat) v, s.2) _
    have hb22 : 0 ≤ s.1 C 12 ∧ s.1 C 12 ≤ 2000 := kb_to (kC_12 hC) (hK.2 C 12)
    refine wr_n (pc2 := 62) (lv2 := [(0, .ref C), (1, vi x), (2, vi y), (3, vi u), (4, vi v)]) (st2 := [vi ((-1)), vi (s.1 C 12), .ref (C + 5)]) 1 (fun _ _ => rfl) ?_
    refine wr_ast (a := s.1 C 12) (z := (-1)) rfl (show 96 ≤ C + 5 by omega) (TK5 hC) rfl (by omega) (by omega) (by decide) rfl (show -2147483648 ≤ (-1) ∧ (-1) ≤ 2147483647 by omega) ?_
    show wr d tb_M54 63 [(0, .ref C), (1, vi x), (2, vi y), (3, vi u), (4, vi v)] [] (up2 (up2 (up2 (up2 (up2 s.1 (C + 1) ((s.1 C 12).toNat) x) (C + 2) ((s.1 C 12).toNat) y) (C + 3) ((s.1 C 12).toNat) u) (C + 4) ((s.1 C 12).toNat) v) (C + 5) ((s.1 C 12).toNat) ((-1)), s.2) _
    have hK23 : KI (up2 (up2 (up2 (up2 (up2 s.1 (C + 1) ((s.1 C 12).toNat) x) (C + 2) ((s.1 C 12).toNat) y) (C + 3) ((s.1 C 12).toNat) u) (C + 4) ((s.1 C 12).toNat) v) (C + 5) ((s.1 C 12).toNat) ((-1))) := (KI_up (KI_up (KI_up (KI_up (KI_up hK (nK hC (by omega)) (kb_no (kC1 hC))) (nK hC (by omega)) (kb_no (kC2 hC))) (nK hC (by omega)) (kb_no (kC3 hC))) (nK hC (by omega)) (kb_no (kC4 hC))) (nK hC (by omega)) (kb_no (kC5 hC)))
    refine wr_n (pc2 := 65) (lv2 := [(0, .ref C), (1, vi x), (2, vi y), (3, vi u), (4, vi v)]) (st2 := [.ref C, .ref C]) 2 (fun _ _ => rfl) ?_
    refine wr_get (v := vi (s.1 C 12)) rfl rfl (TK0 hC) (by decide) (by show rv _ ((up2 (up2 (up2 (up2 (up2 s.1 (C + 1) ((s.1 C 12).toNat) x) (C + 2) ((s.1 C 12).toNat) y) (C + 3) ((s.1 C 12).toNat) u) (C + 4) ((s.1 C 12).toNat) v) (C + 5) ((s.1 C 12).toNat) ((-1))) C 12) = _; rw [up_nk (by omega), up_nk (by omega), up_nk (by omega), up_nk (by omega), up_nk (by omega)]; rfl) fun h24 => ?_
    replace h24 : rg _ ((up2 (up2 (up2 (up2 (up2 s.1 (C + 1) ((s.1 C 12).toNat) x) (C + 2) ((s.1 C 12).toNat) y) (C + 3) ((s.1 C 12).toNat) u) (C + 4) ((s.1 C 12).toNat) v) (C + 5) ((s.1 C 12).toNat) ((-1))) C 12) := h24
    rw [up_nk (by omega), up_nk (by omega), up_nk (by omega), up_nk (by omega), up_nk (by omega)] at h24
    have h24 : -2147483648 ≤ s.1 C 12 ∧ s.1 C 12 ≤ 2147483647 := h24
    show wr d tb_M54 68 [(0, .ref C), (1, vi x), (2, vi y), (3, vi u), (4, vi v)] [vi (s.1 C 12), .ref C] (up2 (up2 (up2 (up2 (up2 s.1 (C + 1) ((s.1 C 12).toNat) x) (C + 2) ((s.1 C 12).toNat) y) (C + 3) ((s.1 C 12).toNat) u) (C + 4) ((s.1 C 12).toNat) v) (C + 5) ((s.1 C 12).toNat) ((-1)), s.2) _
    have hb25 : 0 ≤ s.1 C 12 ∧ s.1 C 12 ≤ 2000 := kb_to (kC_12 hC) (hK.2 C 12)
    refine wr_n (pc2 := 69) (lv2 := [(0, .ref C), (1, vi x), (2, vi y), (3, vi u), (4, vi v)]) (st2 := [vi 1, vi (s.1 C 12), .ref C]) 1 (fun _ _ => rfl) ?_
    refine wr_add (a := s.1 C 12) (b := 1) rfl ?_
    show wr d tb_M54 70 [(0, .ref C), (1, vi x), (2, vi y), (3, vi u), (4, vi v)] [vi (s.1 C 12 + 1), .ref C] (up2 (up2 (up2 (up2 (up2 s.1 (C + 1) ((s.1 C 12).toNat) x) (C + 2) ((s.1 C 12).toNat) y) (C + 3) ((s.1 C 12).toNat) u) (C + 4) ((s.1 C 12).toNat) v) (C + 5) ((s.1 C 12).toNat) ((-1)), s.2) _
    refine wr_put (z := s.1 C 12 + 1) rfl rfl rfl rfl (show 96 ≤ C by omega) (TK0 hC) (by decide) rfl (show -2147483648 ≤ s.1 C 12 + 1 ∧ s.1 C 12 + 1 ≤ 2147483647 by omega) (hf_int' _) ?_
    show wr d tb_M54 73 [(0, .ref C), (1, vi x), (2, vi y), (3, vi u), (4, vi v)] [] (up2 (up2 (up2 (up2 (up2 (up2 s.1 (C + 1) ((s.1 C 12).toNat) x) (C + 2) ((s.1 C 12).toNat) y) (C + 3) ((s.1 C 12).toNat) u) (C + 4) ((s.1 C 12).toNat) v) (C + 5) ((s.1 C 12).toNat) ((-1))) C 12 (s.1 C 12 + 1), s.2) _
    have hK26 : KI (up2 (up2 (up2 (up2 (up2 (up2 s.1 (C + 1) ((s.1 C 12).toNat) x) (C + 2) ((s.1 C 12).toNat) y) (C + 3) ((s.1 C 12).toNat) u) (C + 4) ((s.1 C 12).toNat) v) (C + 5) ((s.1 C 12).toNat) ((-1))) C 12 (s.1 C 12 + 1)) := (KI_up (KI_up (KI_up (KI_up (KI_up (KI_up hK (nK hC (by omega)) (kb_no (kC1 hC))) (nK hC (by omega)) (kb_no (kC2 hC))) (nK hC (by omega)) (kb_no (kC3 hC))) (nK hC (by omega)) (kb_no (kC4 hC))) (nK hC (by omega)) (kb_no (kC5 hC))) (nK (a := 0) hC (by omega)) (kb_of (kC_12 hC) (show 0 ≤ s.1 C 12 + 1 ∧ s.1 C 12 + 1 ≤ 2000 by omega)))
    refine wr_n (pc2 := 74) (lv2 := [(0, .ref C), (1, vi x), (2, vi y), (3, vi u), (4, vi v)]) (st2 := [.ref C]) 1 (fun _ _ => rfl) ?_
    refine wr_get (v := vi (s.1 C 12 + 1)) rfl rfl (TK0 hC) (by decide) (by show rv _ ((up2 (up2 (up2 (up2 (up2 (up2 s.1 (C + 1) ((s.1 C 12).toNat) x) (C + 2) ((s.1 C 12).toNat) y) (C + 3) ((s.1 C 12).toNat) u) (C + 4) ((s.1 C 12).toNat) v) (C + 5) ((s.1 C 12).toNat) ((-1))) C 12 (s.1 C 12 + 1)) C 12) = _; rw [up_self]; rfl) fun h27 => ?_
    replace h27 : rg _ ((up2 (up2 (up2 (up2 (up2 (up2 s.1 (C + 1) ((s.1 C 12).toNat) x) (C + 2) ((s.1 C 12).toNat) y) (C + 3) ((s.1 C 12).toNat) u) (C + 4) ((s.1 C 12).toNat) v) (C + 5) ((s.1 C 12).toNat) ((-1))) C 12 (s.1 C 12 + 1)) C 12) := h27
    rw [up_self] at h27
    have h27 : -2147483648 ≤ s.1 C 12 + 1 ∧ s.1 C 12 + 1 ≤ 2147483647 := h27
    show wr d tb_M54 77 [(0, .ref C), (1, vi x), (2, vi y), (3, vi u), (4, vi v)] [vi (s.1 C 12 + 1)] (up2 (up2 (up2 (up2 (up2 (up2 s.1 (C + 1) ((s.1 C 12).toNat) x) (C + 2) ((s.1 C 12).toNat) y) (C + 3) ((s.1 C 12).toNat) u) (C + 4) ((s.1 C 12).toNat) v) (C + 5) ((s.1 C 12).toNat) ((-1))) C 12 (s.1 C 12 + 1), s.2) _
    refine wr_n (pc2 := 78) (lv2 := [(0, .ref C), (1, vi x), (2, vi y), (3, vi u), (4, vi v)]) (st2 := [vi 1, vi (s.1 C 12 + 1)]) 1 (fun _ _ => rfl) ?_
    refine wr_sub (a := s.1 C 12 + 1) (b := 1) rfl ?_
    show wr d tb_M54 79 [(0, .ref C), (1, vi x), (2, vi y), (3, vi u), (4, vi v)] [vi ((s.1 C 12 + 1) - 1)] (up2 (up2 (up2 (up2 (up2 (up2 s.1 (C + 1) ((s.1 C 12).toNat) x) (C + 2) ((s.1 C 12).toNat) y) (C + 3) ((s.1 C 12).toNat) u) (C + 4) ((s.1 C 12).toNat) v) (C + 5) ((s.1 C 12).toNat) ((-1))) C 12 (s.1 C 12 + 1), s.2) _
    refine wr_reti rfl rfl ?_
    exact ⟨hK26, (FXq_up (FXq_up (FXq_up (FXq_up (FXq_up (FXq_up FXq_rf (by unfold fxq fx; omega)) (by unfold fxq fx; omega)) (by unfold fxq fx; omega)) (by unfold fxq fx; omega)) (by unfold fxq fx; omega)) (by unfold fxq fx; omega)), rfl, (show (up2 (up2 (up2 (up2 (up2 (up2 s.1 (C + 1) ((s.1 C 12).toNat) x) (C + 2) ((s.1 C 12).toNat) y) (C + 3) ((s.1 C 12).toNat) u) (C + 4) ((s.1 C 12).toNat) v) (C + 5) ((s.1 C 12).toNat) ((-1))) C 12 (s.1 C 12 + 1)) 131 6 = s.1 131 6 from (if_neg (by omega)).trans ((if_neg (by omega)).trans ((if_neg (by omega)).trans ((if_neg (by omega)).trans ((if_neg (by omega)).trans ((if_neg (by omega)).trans (rfl))))))), (s.1 C 12 + 1) - 1, rfl, by unfold i32; omega, trivial⟩
  · refine wr_if2f rfl rfl (by unfold i32; omega) (by unfold i32; omega) h3 ?_
    refine wr_n (pc2 := 11) (lv2 := [(0, .ref C), (1, vi x), (2, vi y), (3, vi u), (4, vi v)]) (st2 := [vi ((-1))]) 1 (fun _ _ => rfl) ?_
    refine wr_end (fun _ _ => rfl) ?_
    exact ⟨hK, FXq_rf, rfl, (show (s.1) 131 6 = s.1 131 6 from rfl), (-1), rfl, by unfold i32; omega, trivial⟩
set_option maxHeartbeats 20000000 in
set_option maxRecDepth 100000 in
theorem k_linkq {d : Nat} {C : Nat} (hC : C = 99 ∨ C = 115)  {x y : Int} (s : rS) (hK : KI s.1) (hx : (-2147483648) ≤ x ∧ x ≤ 2147483647) (hy : (-2147483648) ≤ y ∧ y ≤ 2147483647)  : cr (d + 2) 66 [.ref C, vi x, vi y] s (KVq C s) := by
  refine cr_of (M := tb_M66) rfl (Nat.le_of_ble_eq_true rfl) ?_
  show wr (d + 1) tb_M66 0 [(0, .ref C), (1, vi x), (2, vi y)] [] s _
  refine wr_n (pc2 := 2) (lv2 := [(0, .ref C), (1, vi x), (2, vi y)]) (st2 := [vi x, .ref C]) 2 (fun _ _ => rfl) ?_
  refine wr_call1 (args := [vi x]) (rest := []) rfl rfl rfl (TK0 hC) (Nat.le_of_ble_eq_true rfl) (cr_mono (k_has (d := d + 0) (C := C) hC (x := x) s hK (by omega)) ?_)
  rintro s1 out ⟨z1, rfl, hz1, hp1, e1⟩
  refine ⟨_, rfl, ?_⟩
  rw [e1]
  unfold i32 at hz1
  replace hp1 : z1 = 0 ∨ z1 = 1 ∧ 0 ≤ x ∧ x ≤ 1999 := hp1
  show wr (d + 1) tb_M66 5 [(0, .ref C), (1, vi x), (2, vi y)] [vi z1] s _
  by_cases h2 : z1 = 0
  · refine wr_if1t rfl rfl (by unfold i32; omega) h2 ?_
    refine wr_end (fun _ _ => rfl) ?_
    exact ⟨hK, FXq_rf, rfl, rfl⟩
  · refine wr_if1f rfl rfl (by unfold i32; omega) h2 ?_
    refine wr_n (pc2 := 9) (lv2 := [(0, .ref C), (1, vi x), (2, vi y)]) (st2 := [.ref C]) 1 (fun _ _ => rfl) ?_
    refine wr_get (v := .ref (C + 5)) rfl rfl (TK0 hC) (by decide) (rv_ref (hK.1 C 4 (C + 5) (rcK hC (by omega)))) fun h3 => ?_
    show wr (d + 1) tb_M66 12 [(0, .ref C), (1, vi x), (2, vi y)] [.ref (C + 5)] s _
    refine wr_n (pc2 := 14) (lv2 := [(0, .ref C), (1, vi x), (2, vi y)]) (st2 := [vi y, vi x, .ref (C + 5)]) 2 (fun _ _ => rfl) ?_
    refine wr_ast (a := x) (z := y) rfl (show 96 ≤ C + 5 by omega) (TK5 hC) rfl (by omega) (by omega) (by decide) rfl (show -2147483648 ≤ y ∧ y ≤ 2147483647 by omega) ?_
    show wr (d + 1) tb_M66 15 [(0, .ref C), (1, vi x), (2, vi y)] [] (up2 s.1 (C + 5) x.toNat y, s.2) _
    have hK4 : KI (up2 s.1 (C + 5) x.toNat y) := (KI_up hK (nK hC (by omega)) (kb_no (kC5 hC)))
    refine wr_end (fun _ _ => rfl) ?_
    exact ⟨hK4, (FXq_up FXq_rf (by unfold fxq fx; omega)), rfl, rfl⟩
set_option maxHeartbeats 20000000 in
set_option maxRecDepth 100000 in
theorem k_setBitsq {d : Nat} {C : Nat} (hC : C = 99 ∨ C = 115)  {x y : Int} (s : rS) (hK : KI s.1) (hx : (-2147483648) ≤ x ∧ x ≤ 2147483647) (hy : (-2147483648) ≤ y ∧ y ≤ 2147483647)  : cr (d + 1) 46 [.ref C, vi x, vi y] s (KVq C s) := by
  refine cr_of (M := tb_M46) rfl (Nat.le_of_ble_eq_true rfl) ?_
  show wr (d) tb_M46 0 [(0, .ref C), (1, vi x), (2, vi y)] [] s _
  refine wr_n (pc2 := 1) (lv2 := [(0, .ref C), (1, vi x), (2, vi y)]) (st2 := [vi x]) 1 (fun _ _ => rfl) ?_
  by_cases h1 : x < 0
  · refine wr_if1t rfl rfl (by unfold i32; omega) h1 ?_
    refine wr_end (fun _ _ => rfl) ?_
    exact ⟨hK, FXq_rf, rfl, rfl⟩
  · refine wr_if1f rfl rfl (by unfold i32; omega) h1 ?_
    refine wr_n (pc2 := 7) (lv2 := [(0, .ref C), (1, vi x), (2, vi y)]) (st2 := [vi 24, vi x]) 2 (fun _ _ => rfl) ?_
    by_cases h2 : 24 ≤ x
    · refine wr_if2t rfl rfl (by unfold i32; omega) (by unfold i32; omega) h2 ?_
      refine wr_end (fun _ _ => rfl) ?_
      exact ⟨hK, FXq_rf, rfl, rfl⟩
    · refine wr_if2f rfl rfl (by unfold i32; omega) (by unfold i32; omega) h2 ?_
      refine wr_n (pc2 := 11) (lv2 := [(0, .ref C), (1, vi x), (2, vi y)]) (st2 := [.ref C]) 1 (fun _ _ => rfl) ?_
      refine wr_get (v := .ref (C + 11)) rfl rfl (TK0 hC) (by decide) (rv_ref (hK.1 C 7 (C + 11) (rcK hC (by omega)))) fun h3 => ?_
      show wr d tb_M46 14 [(0, .ref C), (1, vi x), (2, vi y)] [.ref (C + 11)] s _
      refine wr_n (pc2 := 16) (lv2 := [(0, .ref C), (1, vi x), (2, vi y)]) (st2 := [vi y, vi x, .ref (C + 11)]) 2 (fun _ _ => rfl) ?_
      refine wr_ast (a := x) (z := y) rfl (show 96 ≤ C + 11 by omega) (TK11 hC) rfl (by omega) (by omega) (by decide) rfl (show -2147483648 ≤ y ∧ y ≤ 2147483647 by omega) ?_
      show wr d tb_M46 17 [(0, .ref C), (1, vi x), (2, vi y)] [] (up2 s.1 (C + 11) x.toNat y, s.2) _
      have hK4 : KI (up2 s.1 (C + 11) x.toNat y) := (KI_up hK (nK hC (by omega)) (kb_no (kC11 hC)))
      refine wr_end (fun _ _ => rfl) ?_
      exact ⟨hK4, (FXq_up FXq_rf (by unfold fxq fx; omega)), rfl, rfl⟩
set_option maxHeartbeats 20000000 in
set_option maxRecDepth 100000 in
theorem k_setSizeq {d : Nat} {C : Nat} (hC : C = 99 ∨ C = 115)  {x y : Int} (s : rS) (hK : KI s.1) (hx : (-2147483648) ≤ x ∧ x ≤ 2147483647) (hy : 0 ≤ y ∧ y ≤ 64)  : cr (d + 1) 77 [.ref C, vi x, vi y] s (KVq C s) := by
  refine cr_of (M := tb_M77) rfl (Nat.le_of_ble_eq_true rfl) ?_
  show wr (d) tb_M77 0 [(0, .ref C), (1, vi x), (2, vi y)] [] s _
  refine wr_n (pc2 := 1) (lv2 := [(0, .ref C), (1, vi x), (2, vi y)]) (st2 := [vi x]) 1 (fun _ _ => rfl) ?_
  by_cases h1 : x < 0
  · refine wr_if1t rfl rfl (by unfold i32; omega) h1 ?_
    refine wr_end (fun _ _ => rfl) ?_
    exact ⟨hK, FXq_rf, rfl, rfl⟩
  · refine wr_if1f rfl rfl (by unfold i32; omega) h1 ?_
    refine wr_n (pc2 := 7) (lv2 := [(0, .ref C), (1, vi x), (2, vi y)]) (st2 := [vi 6, vi x]) 2 (fun _ _ => rfl) ?_
    by_cases h2 : 6 ≤ x
    · refine wr_if2t rfl rfl (by unfold i32; omega) (by unfold i32; omega) h2 ?_
      refine wr_end (fun _ _ => rfl) ?_
      exact ⟨hK, FXq_rf, rfl, rfl⟩
    · refine wr_if2f rfl rfl (by unfold i32; omega) (by unfold i32; omega) h2 ?_
      refine wr_n (pc2 := 11) (lv2 := [(0, .ref C), (1, vi x), (2, vi y)]) (st2 := [.ref C]) 1 (fun _ _ => rfl) ?_
      refine wr_get (v := .ref (C + 12)) rfl rfl (TK0 hC) (by decide) (rv_ref (hK.1 C 8 (C + 12) (rcK hC (by omega)))) fun h3 => ?_
      show wr d tb_M77 14 [(0, .ref C), (1, vi x), (2, vi y)] [.ref (C + 12)] s _
      refine wr_n (pc2 := 16) (lv2 := [(0, .ref C), (1, vi x), (2, vi y)]) (st2 := [vi y, vi x, .ref (C + 12)]) 2 (fun _ _ => rfl) ?_
      refine wr_ast (a := x) (z := y) rfl (show 96 ≤ C + 12 by omega) (TK12 hC) rfl (by omega) (by omega) (by decide) rfl (show -2147483648 ≤ y ∧ y ≤ 2147483647 by omega) ?_
      show wr d tb_M77 17 [(0, .ref C), (1, vi x), (2, vi y)] [] (up2 s.1 (C + 12) x.toNat y, s.2) _
      have hK4 : KI (up2 s.1 (C + 12) x.toNat y) := (KI_up hK (nK hC (by omega)) (kb_of (kC12 hC) (show 0 ≤ y ∧ y ≤ 64 by omega)))
      refine wr_end (fun _ _ => rfl) ?_
      exact ⟨hK4, (FXq_up FXq_rf (by unfold fxq fx; omega)), rfl, rfl⟩
set_option maxHeartbeats 20000000 in
set_option maxRecDepth 100000 in
theorem k_setParq {d : Nat} {C : Nat} (hC : C = 99 ∨ C = 115)  {x y u : Int} (s : rS) (hK : KI s.1) (hx : (-2147483648) ≤ x ∧ x ≤ 2147483647) (hy : (-2147483648) ≤ y ∧ y ≤ 2147483647) (hu : (-2147483648) ≤ u ∧ u ≤ 2147483647)  : cr (d + 1) 47 [.ref C, vi x, vi y, vi u] s (KVq C s) := by
  refine cr_of (M := tb_M47) rfl (Nat.le_of_ble_eq_true rfl) ?_
  show wr (d) tb_M47 0 [(0, .ref C), (1, vi x), (2, vi y), (3, vi u)] [] s _
  refine wr_n (pc2 := 1) (lv2 := [(0, .ref C), (1, vi x), (2, vi y), (3, vi u)]) (st2 := [vi x]) 1 (fun _ _ => rfl) ?_
  by_cases h1 : x < 0
  · refine wr_if1t rfl rfl (by unfold i32; omega) h1 ?_
    refine wr_end (fun _ _ => rfl) ?_
    exact ⟨hK, FXq_rf, rfl, rfl⟩
  · refine wr_if1f rfl rfl (by unfold i32; omega) h1 ?_
    refine wr_n (pc2 := 7) (lv2 := [(0, .ref C), (1, vi x), (2, vi y), (3, vi u)]) (st2 := [vi 12, vi x]) 2 (fun _ _ => rfl) ?_
    by_cases h2 : 12 ≤ x
    · refine wr_if2t rfl rfl (by unfold i32; omega) (by unfold i32; omega) h2 ?_
      refine wr_end (fun _ _ => rfl) ?_
      exact ⟨hK, FXq_rf, rfl, rfl⟩
    · refine wr_if2f rfl rfl (by unfold i32; omega) (by unfold i32; omega) h2 ?_
      refine wr_n (pc2 := 11) (lv2 := [(0, .ref C), (1, vi x), (2, vi y), (3, vi u)]) (st2 := [.ref C]) 1 (fun _ _ => rfl) ?_
      refine wr_get (v := .ref (C + 14)) rfl rfl (TK0 hC) (by decide) (rv_ref (hK.1 C 10 (C + 14) (rcK hC (by omega)))) fun h3 => ?_
      show wr d tb_M47 14 [(0, .ref C), (1, vi x), (2, vi y), (3, vi u)] [.ref (C + 14)] s _
      refine wr_n (pc2 := 16) (lv2 := [(0, .ref C), (1, vi x), (2, vi y), (3, vi u)]) (st2 := [vi y, vi x, .ref (C + 14)]) 2 (fun _ _ => rfl) ?_
      refine wr_ast (a := x) (z := y) rfl (show 96 ≤ C + 14 by omega) (TK14 hC) rfl (by omega) (by omega) (by decide) rfl (show -2147483648 ≤ y ∧ y ≤ 2147483647 by omega) ?_
      show wr d tb_M47 17 [(0, .ref C), (1, vi x), (2, vi y), (3, vi u)] [] (up2 s.1 (C + 14) x.toNat y, s.2) _
      have hK4 : KI (up2 s.1 (C + 14) x.toNat y) := (KI_up hK (nK hC (by omega)) (kb_no (kC14 hC)))
      refine wr_n (pc2 := 18) (lv2 := [(0, .ref C), (1, vi x), (2, vi y), (3, vi u)]) (st2 := [.ref C]) 1 (fun _ _ => rfl) ?_
      refine wr_get (v := .ref (C + 13)) rfl rfl (TK0 hC) (by decide) (rv_ref (hK4.1 C 9 (C + 13) (rcK hC (by omega)))) fun h5 => ?_
      show wr d tb_M47 21 [(0, .ref C), (1, vi x), (2, vi y), (3, vi u)] [.ref (C + 13)] (up2 s.1 (C + 14) x.toNat y, s.2) _
      refine wr_n (pc2 := 23) (lv2 := [(0, .ref C), (1, vi x), (2, vi y), (3, vi u)]) (st2 := [vi u, vi x, .ref (C + 13)]) 2 (fun _ _ => rfl) ?_
      refine wr_ast (a := x) (z := u) rfl (show 96 ≤ C + 13 by omega) (TK13 hC) rfl (by omega) (by omega) (by decide) rfl (show -2147483648 ≤ u ∧ u ≤ 2147483647 by omega) ?_
      show wr d tb_M47 24 [(0, .ref C), (1, vi x), (2, vi y), (3, vi u)] [] (up2 (up2 s.1 (C + 14) x.toNat y) (C + 13) x.toNat u, s.2) _
      have hK6 : KI (up2 (up2 s.1 (C + 14) x.toNat y) (C + 13) x.toNat u) := (KI_up (KI_up hK (nK hC (by omega)) (kb_no (kC14 hC))) (nK hC (by omega)) (kb_no (kC13 hC)))
      refine wr_end (fun _ _ => rfl) ?_
      exact ⟨hK6, (FXq_up (FXq_up FXq_rf (by unfold fxq fx; omega)) (by unfold fxq fx; omega)), rfl, rfl⟩
set_option maxHeartbeats 20000000 in
set_option maxRecDepth 100000 in
theorem k_clearq {d : Nat} {C : Nat} (hC : C = 99 ∨ C = 115)  (s : rS) (hK : KI s.1)   : cr (d + 2) 21 [.ref C] s (KVq C s) := by
  refine cr_of (M := tb_M21) rfl (Nat.le_of_ble_eq_true rfl) ?_
  show wr (d + 1) tb_M21 0 [(0, .ref C)] [] s _
  refine wr_n (pc2 := 1) (lv2 := [(0, .ref C)]) (st2 := [.ref C]) 1 (fun _ _ => rfl) ?_
  refine wr_get (v := .ref (C + 6)) rfl rfl (TK0 hC) (by decide) (rv_ref (hK.1 C 5 (C + 6) (rcK hC (by omega)))) fun h1 => ?_
  show wr (d + 1) tb_M21 4 [(0, .ref C)] [.ref (C + 6)] s _
  refine wr_n (pc2 := 5) (lv2 := [(0, .ref C)]) (st2 := [vi 0, .ref (C + 6)]) 1 (fun _ _ => rfl) ?_
  refine wr_call1 (args := [vi 0]) (rest := []) rfl rfl rfl (TK6 hC) (Nat.le_of_ble_eq_true rfl) (cr_mono (k_cutq (d := d + 0) (C := C) hC (x := 0) s hK (by omega)) ?_)
  rintro s2 out ⟨hK2, hY2, hc2, rfl⟩
  refine ⟨_, rfl, ?_⟩
  have hX2 : FXq C s.1 s2.1 := FXq_tr FXq_rf hY2
  have hC2 : s2.2 = s.2 := hc2.trans rfl
  show wr (d + 1) tb_M21 8 [(0, .ref C)] [] s2 _
  refine wr_n (pc2 := 9) (lv2 := [(0, .ref C)]) (st2 := [.ref C]) 1 (fun _ _ => rfl) ?_
  refine wr_get (v := .ref (C + 10)) rfl rfl (TK0 hC) (by decide) (rv_ref (hK2.1 C 6 (C + 10) (rcK hC (by omega)))) fun h3 => ?_
  show wr (d + 1) tb_M21 12 [(0, .ref C)] [.ref (C + 10)] s2 _
  refine wr_n (pc2 := 13) (lv2 := [(0, .ref C)]) (st2 := [vi 0, .ref (C + 10)]) 1 (fun _ _ => rfl) ?_
  refine wr_call0 (args := [.ref (C + 10), vi 0]) (rest := []) rfl rfl rfl (Nat.le_of_ble_eq_true rfl) (cr_mono (k_fillq (C := C) (d := d + 0) (q := C + 10) (n := 6) (TK10 hC) (by omega) (by omega) (by omega) (by unfold i32; omega) (fun j => (nK hC (by omega))) (fun j => kb_of (kC10 hC) ⟨by omega, LIM_nn j⟩) (fun j => by unfold fxq fx; omega) s2 hK2) ?_)
  rintro s4 out ⟨hK4, hY4, hc4, rfl⟩
  refine ⟨_, rfl, ?_⟩
  have hX4 : FXq C s.1 s4.1 := FXq_tr hX2 hY4
  have hC4 : s4.2 = s.2 := hc4.trans hC2
  show wr (d + 1) tb_M21 16 [(0, .ref C)] [] s4 _
  refine wr_n (pc2 := 18) (lv2 := [(0, .ref C)]) (st2 := [vi 0, .ref C]) 2 (fun _ _ => rfl) ?_
  refine wr_put (z := 0) rfl rfl rfl rfl (show 96 ≤ C by omega) (TK0 hC) (by decide) rfl (show -2147483648 ≤ 0 ∧ 0 ≤ 2147483647 by omega) (hf_int' _) ?_
  show wr (d + 1) tb_M21 21 [(0, .ref C)] [] (up2 s4.1 C 12 0, s4.2) _
  have hK5 : KI (up2 s4.1 C 12 0) := (KI_up hK4 (nK (a := 0) hC (by omega)) (kb_of (kC_12 hC) (show 0 ≤ 0 ∧ 0 ≤ 2000 by omega)))
  refine wr_n (pc2 := 23) (lv2 := [(0, .ref C)]) (st2 := [vi ((-1)), .ref C]) 2 (fun _ _ => rfl) ?_
  refine wr_put (z := (-1)) rfl rfl rfl rfl (show 96 ≤ C by omega) (TK0 hC) (by decide) rfl (show -2147483648 ≤ (-1) ∧ (-1) ≤ 2147483647 by omega) (hf_int' _) ?_
  show wr (d + 1) tb_M21 26 [(0, .ref C)] [] (up2 (up2 s4.1 C 12 0) C 13 ((-1)), s4.2) _
  have hK6 : KI (up2 (up2 s4.1 C 12 0) C 13 ((-1))) := (KI_up (KI_up hK4 (nK (a := 0) hC (by omega)) (kb_of (kC_12 hC) (show 0 ≤ 0 ∧ 0 ≤ 2000 by omega))) (nK (a := 0) hC (by omega)) (kb_no (kC_13 hC)))
  refine wr_end (fun _ _ => rfl) ?_
  exact ⟨hK6, (FXq_up (FXq_up hX4 (by unfold fxq fx; omega)) (by unfold fxq fx; omega)), hC4, rfl⟩
