/-! The reference's feed, with its bytes. -/
def FB (A : Nat → Int) (s0 : rS) : rS → hm_Out → Prop := fun s2 out => ∃ z : Int, out = some (some (vi z)) ∧ (2000 < s0.1 170 1 + 20 ∧ z = -3 ∧ s2 = s0 ∨ s0.1 170 1 + 20 ≤ 2000 ∧ z = s0.1 170 1 + 20 ∧ s2.1 170 1 = s0.1 170 1 + 20 ∧ (∀ i j, ¬ (i = 171 ∧ (s0.1 170 1).toNat ≤ j) → ¬ (i = 170 ∧ j = 1) → s2.1 i j = s0.1 i j) ∧ (∀ k : Nat, k < 20 → s2.1 171 ((s0.1 170 1).toNat + k) = byt (A k) (24 - 8 * ((k % 4 : Nat) : Int))) ∧ s2.2 = (s0.2.1 + 1, s0.2.2 + 5))
set_option maxHeartbeats 20000000 in
set_option maxRecDepth 100000 in
theorem l_feedb {d q : Nat} {a b c e f : Value} {A : Nat → Int} {l : List Value} {s0 : rS} (hq : 1631 ≤ q) (hl : ∀ k, k < 20 → l[k / 4]? = some (vi (A k))) (h0 : 0 ≤ s0.1 170 1 ∧ s0.1 170 1 + 20 ≤ 2000) : ∀ (w k : Nat) (s : rS), 20 - k = w → k ≤ 20 → RF s.1 → (∀ i j, ¬ (i = 171 ∧ (s0.1 170 1).toNat ≤ j) → s.1 i j = s0.1 i j) → (∀ m : Nat, m < k → s.1 171 ((s0.1 170 1).toNat + m) = byt (A m) (24 - 8 * ((m % 4 : Nat) : Int))) → s.2 = (s0.2.1 + 1, s0.2.2 + 5) → wv q (.inl (.int, l)) d tb_M118 46 [(7, vi (k : Int)), (6, .ref q), (0, .ref 170), (1, a), (2, b), (3, c), (4, e), (5, f)] [] s (FB A s0) := by
  intro w
  induction w with
  | zero =>
    intro k s hw hk hR hf hb hc
    have h1 := hf 170 1 (by omega)
    refine wv_n (pc2 := 50) (lv2 := [(7, vi (k : Int)), (6, .ref q), (0, .ref 170), (1, a), (2, b), (3, c), (4, e), (5, f)]) (st2 := [vi 20, vi (k : Int)]) 2 (fun _ _ => rfl) ?_
    refine wv_if2t rfl rfl (by unfold i32; omega) (by unfold i32; omega) (show (20 : Int) ≤ (k : Int) by omega) ?_
    refine wv_of ?_
    refine wr_n (pc2 := 92) (lv2 := [(7, vi (k : Int)), (6, .ref q), (0, .ref 170), (1, a), (2, b), (3, c), (4, e), (5, f)]) (st2 := [.ref 170, .ref 170]) 2 (fun _ _ => rfl) ?_
    refine wr_get (v := vi (s.1 170 1)) rfl rfl rfl (by decide) rfl fun h2 => ?_
    refine wr_n (pc2 := 97) (lv2 := [(7, vi (k : Int)), (6, .ref q), (0, .ref 170), (1, a), (2, b), (3, c), (4, e), (5, f)]) (st2 := [vi 20, vi (s.1 170 1), .ref 170]) 1 (fun _ _ => rfl) ?_
    refine wr_add (a := s.1 170 1) (b := 20) rfl ?_
    refine wr_put (z := s.1 170 1 + 20) rfl rfl rfl rfl (by decide) rfl (by decide) rfl (show -2147483648 ≤ s.1 170 1 + 20 ∧ s.1 170 1 + 20 ≤ 2147483647 by omega) (hf_int' _) ?_
    refine wr_n (pc2 := 102) (lv2 := [(7, vi (k : Int)), (6, .ref q), (0, .ref 170), (1, a), (2, b), (3, c), (4, e), (5, f)]) (st2 := [.ref 170]) 1 (fun _ _ => rfl) ?_
    refine wr_get (v := vi (s.1 170 1 + 20)) rfl rfl rfl (by decide) rfl fun h3 => ?_
    refine wr_reti rfl rfl ?_
    exact ⟨s.1 170 1 + 20, rfl, .inr ⟨h0.2, by omega, (show up2 s.1 170 1 (s.1 170 1 + 20) 170 1 = _ from up_self).trans (by omega), fun i j h4 h5 => (show up2 s.1 170 1 (s.1 170 1 + 20) i j = _ from if_neg h5).trans (hf i j h4), fun m hm => (show up2 s.1 170 1 (s.1 170 1 + 20) 171 _ = _ from if_neg (by omega)).trans (hb m (by omega)), hc⟩⟩
  | succ w ih =>
    intro k s hw hk hR hf hb hc
    have h1 := hf 170 1 (by omega)
    have hx : l[((k : Int) / 4).toNat]? = some (vi (A k)) := by rw [show ((k : Int) / 4).toNat = k / 4 by omega]; exact hl k (by omega)
    refine wv_n (pc2 := 50) (lv2 := [(7, vi (k : Int)), (6, .ref q), (0, .ref 170), (1, a), (2, b), (3, c), (4, e), (5, f)]) (st2 := [vi 20, vi (k : Int)]) 2 (fun _ _ => rfl) ?_
    refine wv_if2f rfl rfl (by unfold i32; omega) (by unfold i32; omega) (show ¬ (20 : Int) ≤ (k : Int) by omega) ?_
    refine wv_n (pc2 := 54) (lv2 := [(7, vi (k : Int)), (6, .ref q), (0, .ref 170), (1, a), (2, b), (3, c), (4, e), (5, f)]) (st2 := [.ref 170]) 1 (fun _ _ => rfl) ?_
    refine wv_get (v := .ref 171) rfl rfl rfl (by decide) (rv_ref (hR 170 0 171 rfl)) fun h2 => ?_
    refine wv_n (pc2 := 58) (lv2 := [(7, vi (k : Int)), (6, .ref q), (0, .ref 170), (1, a), (2, b), (3, c), (4, e), (5, f)]) (st2 := [.ref 170, .ref 171]) 1 (fun _ _ => rfl) ?_
    refine wv_get (v := vi (s.1 170 1)) rfl rfl rfl (by decide) rfl fun h3 => ?_
    refine wv_n (pc2 := 63) (lv2 := [(7, vi (k : Int)), (6, .ref q), (0, .ref 170), (1, a), (2, b), (3, c), (4, e), (5, f)]) (st2 := [vi (k : Int), vi (s.1 170 1), .ref 171]) 1 (fun _ _ => rfl) ?_
    refine wv_add (a := s.1 170 1) (b := (k : Int)) rfl ?_
    refine wv_n (pc2 := 69) (lv2 := [(7, vi (k : Int)), (6, .ref q), (0, .ref 170), (1, a), (2, b), (3, c), (4, e), (5, f)]) (st2 := [vi 4, vi (k : Int), .ref q, vi (s.1 170 1 + (k : Int)), .ref 171]) 3 (fun _ _ => rfl) ?_
    refine wv_divx (a := (k : Int)) (b := 4) rfl (by omega) (by omega) ?_
    refine wv_aldq (a := (k : Int) / 4) rfl (by omega) (by omega) hx ?_
    refine wv_n (pc2 := 78) (lv2 := [(7, vi (k : Int)), (6, .ref q), (0, .ref 170), (1, a), (2, b), (3, c), (4, e), (5, f)]) (st2 := [vi 4, vi (k : Int), vi 8, vi 24, vi (A k), vi (s.1 170 1 + (k : Int)), .ref 171]) 4 (fun _ _ => rfl) ?_
    refine wv_remr (a := (k : Int)) (b := 4) rfl (by omega) (by omega) ?_
    refine wv_mul (a := 8) (b := (k : Int) - (k : Int) / 4 * 4) rfl ?_
    refine wv_sub (a := 24) (b := 8 * ((k : Int) - (k : Int) / 4 * 4)) rfl ?_
    rw [show 24 - 8 * ((k : Int) - (k : Int) / 4 * 4) = 24 - 8 * ((k % 4 : Nat) : Int) by omega]
    refine wv_shr rfl ?_
    refine wv_i2b rfl ?_
    refine wv_bstx (a := s.1 170 1 + (k : Int)) (p := 171) (n := 2000) rfl (by decide) rfl (by omega) (by omega) (by omega) (by decide) ?_
    refine wv_inc (a := (k : Int)) rfl rfl ?_
    refine wv_n (pc2 := 46) (lv2 := [(7, vi ((k : Int) + 1)), (6, .ref q), (0, .ref 170), (1, a), (2, b), (3, c), (4, e), (5, f)]) (st2 := []) 1 (fun _ _ => rfl) ?_
    rw [show (k : Int) + 1 = ((k + 1 : Nat) : Int) from rfl]
    have hidx : (s.1 170 1 + (k : Int)).toNat = (s0.1 170 1).toNat + k := by omega
    refine ih (k + 1) _ (by omega) (by omega) (RF_up hR (n0 rfl (by omega) (by omega))) (fun i j hi => (show up2 s.1 171 (s.1 170 1 + (k : Int)).toNat _ i j = _ from if_neg (by omega)).trans (hf i j hi)) (fun m hm => ?_) hc
    show up2 s.1 171 (s.1 170 1 + (k : Int)).toNat (byt (A k) (24 - 8 * ((k % 4 : Nat) : Int))) 171 ((s0.1 170 1).toNat + m) = _
    rw [hidx]
    by_cases e : m = k
    · rw [e]
      exact up_self
    · rw [up_nj (by omega)]
      exact hb m (by omega)
set_option maxHeartbeats 20000000 in
set_option maxRecDepth 100000 in
theorem p_feedb {d : Nat} {a b c e f : Int} (s : rS) (hR : RF s.1) (h0 : 0 ≤ s.1 170 1 ∧ s.1 170 1 ≤ 2000) : cr (d + 1) 118 [.ref 170, vi a, vi b, vi c, vi e, vi f] s (FB (ar5 a b c e f) s) := by
  refine cr_of (M := tb_M118) rfl (Nat.le_of_ble_eq_true rfl) ?_
  show wr d tb_M118 0 [(0, .ref 170), (1, vi a), (2, vi b), (3, vi c), (4, vi e), (5, vi f)] [] s _
  refine wr_n (pc2 := 1) (lv2 := [(0, .ref 170), (1, vi a), (2, vi b), (3, vi c), (4, vi e), (5, vi f)]) (st2 := [.ref 170]) 1 (fun _ _ => rfl) ?_
  refine wr_get (v := vi (s.1 170 1)) rfl rfl rfl (by decide) rfl fun h2 => ?_
  refine wr_n (pc2 := 6) (lv2 := [(0, .ref 170), (1, vi a), (2, vi b), (3, vi c), (4, vi e), (5, vi f)]) (st2 := [vi 20, vi (s.1 170 1)]) 1 (fun _ _ => rfl) ?_
  refine wr_add (a := s.1 170 1) (b := 20) rfl ?_
  refine wr_n (pc2 := 10) (lv2 := [(0, .ref 170), (1, vi a), (2, vi b), (3, vi c), (4, vi e), (5, vi f)]) (st2 := [vi 2000, vi (s.1 170 1 + 20)]) 1 (fun _ _ => rfl) ?_
  by_cases h : s.1 170 1 + 20 ≤ 2000
  · refine wr_if2t rfl rfl (by unfold i32; omega) (by unfold i32; omega) h ?_
    refine wr_n (pc2 := 17) (lv2 := [(0, .ref 170), (1, vi a), (2, vi b), (3, vi c), (4, vi e), (5, vi f)]) (st2 := [vi 5]) 1 (fun _ _ => rfl) ?_
    refine wr_newI (n := 5) (rest := []) (fun _ _ => rfl) fun q hq => ?_
    refine wv_n (pc2 := 22) (lv2 := [(0, .ref 170), (1, vi a), (2, vi b), (3, vi c), (4, vi e), (5, vi f)]) (st2 := [vi a, vi 0, .ref q, .ref q]) 3 (fun _ _ => rfl) ?_
    refine wv_astq (a := 0) (l := List.replicate 5 (.int 0)) rfl hq (by omega) (by omega) (by decide) ?_
    refine wv_n (pc2 := 26) (lv2 := [(0, .ref 170), (1, vi a), (2, vi b), (3, vi c), (4, vi e), (5, vi f)]) (st2 := [vi b, vi 1, .ref q, .ref q]) 3 (fun _ _ => rfl) ?_
    refine wv_astq (a := 1) rfl hq (by omega) (by omega) (by simp) ?_
    refine wv_n (pc2 := 30) (lv2 := [(0, .ref 170), (1, vi a), (2, vi b), (3, vi c), (4, vi e), (5, vi f)]) (st2 := [vi c, vi 2, .ref q, .ref q]) 3 (fun _ _ => rfl) ?_
    refine wv_astq (a := 2) rfl hq (by omega) (by omega) (by simp) ?_
    refine wv_n (pc2 := 35) (lv2 := [(0, .ref 170), (1, vi a), (2, vi b), (3, vi c), (4, vi e), (5, vi f)]) (st2 := [vi e, vi 3, .ref q, .ref q]) 3 (fun _ _ => rfl) ?_
    refine wv_astq (a := 3) rfl hq (by omega) (by omega) (by simp) ?_
    refine wv_n (pc2 := 40) (lv2 := [(0, .ref 170), (1, vi a), (2, vi b), (3, vi c), (4, vi e), (5, vi f)]) (st2 := [vi f, vi 4, .ref q, .ref q]) 3 (fun _ _ => rfl) ?_
    refine wv_astq (a := 4) rfl hq (by omega) (by omega) (by simp) ?_
    refine wv_n (pc2 := 46) (lv2 := [(7, vi ((0 : Nat) : Int)), (6, .ref q), (0, .ref 170), (1, vi a), (2, vi b), (3, vi c), (4, vi e), (5, vi f)]) (st2 := []) 3 (fun _ _ => rfl) ?_
    refine l_feedb hq (fun k hk => ?_) ⟨h0.1, h⟩ _ 0 _ rfl (by omega) hR (fun _ _ _ => rfl) (fun m hm => absurd hm (by omega)) rfl
    have hk5 : k / 4 = 0 ∧ k < 4 ∨ k / 4 = 1 ∧ ¬ k < 4 ∧ k < 8 ∨ k / 4 = 2 ∧ ¬ k < 4 ∧ ¬ k < 8 ∧ k < 12 ∨ k / 4 = 3 ∧ ¬ k < 4 ∧ ¬ k < 8 ∧ ¬ k < 12 ∧ k < 16 ∨ k / 4 = 4 ∧ ¬ k < 4 ∧ ¬ k < 8 ∧ ¬ k < 12 ∧ ¬ k < 16 := by omega
    unfold ar5
    rcases hk5 with ⟨e, h1⟩ | ⟨e, h1, h2⟩ | ⟨e, h1, h2, h3⟩ | ⟨e, h1, h2, h3, h4⟩ | ⟨e, h1, h2, h3, h4⟩
    · rw [e, if_pos h1]; rfl
    · rw [e, if_neg h1, if_pos h2]; rfl
    · rw [e, if_neg h1, if_neg h2, if_pos h3]; rfl
    · rw [e, if_neg h1, if_neg h2, if_neg h3, if_pos h4]; rfl
    · rw [e, if_neg h1, if_neg h2, if_neg h3, if_neg h4]; rfl
  · refine wr_if2f rfl rfl (by unfold i32; omega) (by unfold i32; omega) h ?_
    refine wr_n (pc2 := 15) (lv2 := [(0, .ref 170), (1, vi a), (2, vi b), (3, vi c), (4, vi e), (5, vi f)]) (st2 := [vi (-3)]) 1 (fun _ _ => rfl) ?_
    refine wr_end (fun _ _ => rfl) ?_
    exact ⟨-3, rfl, .inl ⟨by omega, rfl, rfl⟩⟩
