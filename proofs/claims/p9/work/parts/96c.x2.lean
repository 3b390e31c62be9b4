/-! Names exactly. -/
def nmk (T : Nat → Int) (n p : Nat) : Int := if 8 < upto aln T n p - p then 4 else match rwi (wdn T p (upto aln T n p - p)) RWl 0 with
  | some i => 300 + (i : Int)
  | none => 1
def SNP (T : Nat → Int) (n p : Nat) (s : rS) : rS → hm_Out → Prop := fun s2 out => KI s2.1 ∧ s2.2 = s.2 ∧ (∀ k j, ¬ (k = 137 ∧ j = 6) → ¬ (k = 141 ∧ j = (s.1 137 5).toNat) → s2.1 k j = s.1 k j) ∧ s2.1 137 6 = (upto aln T n p : Int) ∧ out = some (some (vi (nmk T n p))) ∧ (upto aln T n p - p ≤ 8 → s2.1 141 (s.1 137 5).toNat = wdn T p (upto aln T n p - p))
theorem aln_iff {c : Int} : aln c = true ↔ (97 ≤ c ∧ c ≤ 122 ∨ 48 ≤ c ∧ c ≤ 57) := by
  unfold aln ltr dgt
  rw [Bool.or_eq_true, decide_eq_true_eq, decide_eq_true_eq]
theorem rwi_hit {w : Int} {i : Nat} (hi : i < 15) (h : RWf i = w) : rwi w (RWl.drop i) i = some i := by
  have : i = 0 ∨ i = 1 ∨ i = 2 ∨ i = 3 ∨ i = 4 ∨ i = 5 ∨ i = 6 ∨ i = 7 ∨ i = 8 ∨ i = 9 ∨ i = 10 ∨ i = 11 ∨ i = 12 ∨ i = 13 ∨ i = 14 := by omega
  rcases this with rfl | rfl | rfl | rfl | rfl | rfl | rfl | rfl | rfl | rfl | rfl | rfl | rfl | rfl | rfl <;> exact if_pos h
theorem rwi_miss {w : Int} {i : Nat} (hi : i < 15) (h : RWf i ≠ w) : rwi w (RWl.drop i) i = rwi w (RWl.drop (i + 1)) (i + 1) := by
  have : i = 0 ∨ i = 1 ∨ i = 2 ∨ i = 3 ∨ i = 4 ∨ i = 5 ∨ i = 6 ∨ i = 7 ∨ i = 8 ∨ i = 9 ∨ i = 10 ∨ i = 11 ∨ i = 12 ∨ i = 13 ∨ i = 14 := by omega
  rcases this with rfl | rfl | rfl | rfl | rfl | rfl | rfl | rfl | rfl | rfl | rfl | rfl | rfl | rfl | rfl <;> exact if_neg h
set_option maxHeartbeats 20000000 in
set_option maxRecDepth 100000 in
theorem sn_words {d p n : Nat} {T : Nat → Int} {l1 : Int} {s0 s : rS} (hK : KI s.1) (hc : s.2 = s0.2) (hfr : ∀ k j, ¬ (k = 137 ∧ j = 6) → ¬ (k = 141 ∧ j = (s0.1 137 5).toNat) → s.1 k j = s0.1 k j) (h6 : s.1 137 6 = (upto aln T n p : Int)) (h8 : upto aln T n p - p ≤ 8) (hv : s.1 141 (s0.1 137 5).toNat = wdn T p (upto aln T n p - p)) (hw64 : i64 (wdn T p (upto aln T n p - p))) (hl1 : -2147483648 ≤ l1 ∧ l1 ≤ 2147483647) : ∀ (m i : Nat), 15 - i = m → i ≤ 15 → rwi (wdn T p (upto aln T n p - p)) RWl 0 = rwi (wdn T p (upto aln T n p - p)) (RWl.drop i) i → wr (d + 2) tb_M28 95 [(4, vi ((i : Int))), (2, vl (wdn T p (upto aln T n p - p))), (1, vi l1), (0, .ref 137)] [] s (SNP T n p s0) := by
  intro m
  induction m with
  | zero =>
    intro i hm hi hrest
    refine wr_n (pc2 := 99) (lv2 := [(4, vi ((i : Int))), (2, vl (wdn T p (upto aln T n p - p))), (1, vi l1), (0, .ref 137)]) (st2 := [vi 15, vi ((i : Int))]) 2 (fun _ _ => rfl) ?_
    refine wr_if2t rfl rfl (by unfold i32; omega) (by unfold i32; omega) (by show 15 ≤ (i : Int); omega) ?_
    show wr (d + 2) tb_M28 127 [(4, vi ((i : Int))), (2, vl (wdn T p (upto aln T n p - p))), (1, vi l1), (0, .ref 137)] [] s _
    refine wr_n (pc2 := 128) (lv2 := [(4, vi ((i : Int))), (2, vl (wdn T p (upto aln T n p - p))), (1, vi l1), (0, .ref 137)]) (st2 := [vi 1]) 1 (fun _ _ => rfl) ?_
    refine wr_end (fun _ _ => rfl) ?_
    have hno : rwi (wdn T p (upto aln T n p - p)) RWl 0 = none := by rw [hrest]; unfold RWl; rw [show i = 15 by omega]; rfl
    refine ⟨hK, hc, hfr, h6, ?_, fun _ => hv⟩
    unfold nmk
    rw [if_neg (by omega), hno]
  | succ m ih =>
    intro i hm hi hrest
    refine wr_n (pc2 := 99) (lv2 := [(4, vi ((i : Int))), (2, vl (wdn T p (upto aln T n p - p))), (1, vi l1), (0, .ref 137)]) (st2 := [vi 15, vi ((i : Int))]) 2 (fun _ _ => rfl) ?_
    refine wr_if2f rfl rfl (by unfold i32; omega) (by unfold i32; omega) (by show ¬ (15 ≤ (i : Int)); omega) ?_
    show wr (d + 2) tb_M28 102 [(4, vi ((i : Int))), (2, vl (wdn T p (upto aln T n p - p))), (1, vi l1), (0, .ref 137)] [] s _
    refine wr_n (pc2 := 103) (lv2 := [(4, vi ((i : Int))), (2, vl (wdn T p (upto aln T n p - p))), (1, vi l1), (0, .ref 137)]) (st2 := [.ref 137]) 1 (fun _ _ => rfl) ?_
    refine wr_get (v := .ref 138) rfl rfl rfl (by decide) (rv_ref (hK.1 137 1 138 rfl)) fun h1 => ?_
    show wr (d + 2) tb_M28 106 [(4, vi ((i : Int))), (2, vl (wdn T p (upto aln T n p - p))), (1, vi l1), (0, .ref 137)] [.ref 138] s _
    refine wr_n (pc2 := 108) (lv2 := [(4, vi ((i : Int))), (2, vl (wdn T p (upto aln T n p - p))), (1, vi l1), (0, .ref 137)]) (st2 := [vi ((i : Int)), .ref 138]) 1 (fun _ _ => rfl) ?_
    refine wr_ald (a := (i : Int)) (v := vl (s.1 138 i)) rfl rfl rfl (by omega) (by omega) (by decide) rfl fun h2 => ?_
    show wr (d + 2) tb_M28 109 [(4, vi ((i : Int))), (2, vl (wdn T p (upto aln T n p - p))), (1, vi l1), (0, .ref 137)] [vl (s.1 138 i)] s _
    have hk138 : s.1 138 i = RWf i := by have := kb_to (a := RWf i) (b := RWf i) rfl (hK.2 138 i); omega
    refine wr_n (pc2 := 110) (lv2 := [(4, vi ((i : Int))), (2, vl (wdn T p (upto aln T n p - p))), (1, vi l1), (0, .ref 137)]) (st2 := [vl (wdn T p (upto aln T n p - p)), vl (s.1 138 i)]) 1 (fun _ _ => rfl) ?_
    refine wr_lcmp (a := s.1 138 i) (b := wdn T p (upto aln T n p - p)) rfl h2 hw64 fun z3 h4 => ?_
    show wr (d + 2) tb_M28 111 [(4, vi ((i : Int))), (2, vl (wdn T p (upto aln T n p - p))), (1, vi l1), (0, .ref 137)] [vi z3] s _
    by_cases h5 : z3 ≠ 0
    · refine wr_if1t rfl rfl (by unfold i32; omega) h5 ?_
      refine wr_inc (a := (i : Int)) rfl rfl ?_
      show wr (d + 2) tb_M28 124 [(4, vi ((i : Int) + 1)), (2, vl (wdn T p (upto aln T n p - p))), (1, vi l1), (0, .ref 137)] [] s _
      refine wr_n (pc2 := 95) (lv2 := [(4, vi ((i : Int) + 1)), (2, vl (wdn T p (upto aln T n p - p))), (1, vi l1), (0, .ref 137)]) (st2 := []) 1 (fun _ _ => rfl) ?_
      rw [show (i : Int) + 1 = ((i + 1 : Nat) : Int) from rfl]
      exact ih (i + 1) (by omega) (by omega) (hrest.trans (rwi_miss (by omega) (by omega)))
    · refine wr_if1f rfl rfl (by unfold i32; omega) h5 ?_
      refine wr_n (pc2 := 119) (lv2 := [(4, vi ((i : Int))), (2, vl (wdn T p (upto aln T n p - p))), (1, vi l1), (0, .ref 137)]) (st2 := [vi ((i : Int)), vi 300]) 2 (fun _ _ => rfl) ?_
      refine wr_add (a := 300) (b := (i : Int)) rfl ?_
      show wr (d + 2) tb_M28 120 [(4, vi ((i : Int))), (2, vl (wdn T p (upto aln T n p - p))), (1, vi l1), (0, .ref 137)] [vi (300 + ((i : Int)))] s _
      refine wr_reti rfl rfl ?_
      have hyes : rwi (wdn T p (upto aln T n p - p)) RWl 0 = some i := hrest.trans (rwi_hit (by omega) (by omega))
      refine ⟨hK, hc, hfr, h6, ?_, fun _ => hv⟩
      unfold nmk
      rw [if_neg (by omega), hyes]
