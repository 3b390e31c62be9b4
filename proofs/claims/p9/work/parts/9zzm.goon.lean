/-! goOn. -/
section GOON
variable {t : tab} {Q : Nat → Nat} {act : Nat → Prop} {M N : Nat} {IN : Nat → Prop}
theorem LP_15 {l : List Int} {v : Int} (h : LPx M N IN t l Q act) : LPx M N IN (up2 t 142 15 v) l Q act := by
  obtain ⟨hS, hk, h0, hQ, hd⟩ := h
  have e : zp (up2 t 142 15 v) = zp t := zp_n (.inr ⟨rfl, by omega⟩)
  refine ⟨by rw [e]; exact hS, SK_o hk (if_neg (by omega)) (fun j => if_neg (by omega)), h0, hQ, ?_⟩
  rw [show up2 t 142 15 v 142 13 = t 142 13 from if_neg (by omega)]
  exact hd
/-- how goOn ends, from the loop on -/
def GOx (M N : Nat) (IN : Nat → Prop) (t5 : tab) (Q5 : Nat → Nat) (most C : Int) (X : RO) : Prop := ∃ ps t2 l2 Q2 act2, ∃ n2 : Nat, okx rdx stx (zp t5, Q5, 0) ps ∧ rnx stx (zp t5, Q5, 0) ps = (zp t2, Q2, n2) ∧ LPx M N IN t2 l2 Q2 act2 ∧ (n2 : Int) = t2 142 15 ∧ (n2 : Int) ≤ most ∧ (∀ j, t2 144 j ≤ C + 2000000) ∧ ((l2 = [] ∧ X = some (some (0, up2 t2 142 14 (if t2 142 13 = 0 then 2 else 1)))) ∨ (∃ q : Nat, 0 < Q2 q ∧ zp t2 144 q < 0 ∧ (n2 : Int) = most ∧ X = some (some (0, up2 (up2 (up2 t2 142 6 (imi (t2 142 6) 1)) 142 14 3) 142 15 0))))
theorem go_5 {most C : Int} {l : List Int} (h : LPx M N IN t l Q act) (hm : 0 ≤ most ∧ most ≤ 20000) (h15 : t 142 15 = 0) (hC : 0 ≤ C ∧ C + 2000000 < 2147483646) (hb : ∀ j, t 144 j ≤ C) : GOx M N IN t Q most C (wG 51 [most, 0] t) := by
  obtain ⟨⟨⟨cx, anc, hJ⟩, hK, hI, hu, hM, hq⟩, _⟩ := id h
  have w := Mz_s (s := zp t) (act := act) (Q_room hJ hK hI hu (Int.le_of_eq hM))
  have m2 := hJ.2.1
  obtain ⟨ps, t2, l2, Q2, act2, n2, k1, k2, k3, k4, k5, _, k7, k8⟩ := go_loop hm.2 1000000 0 C t l Q act 0 (by omega) (by omega) h (by rw [h15]; rfl) (by omega) hC.1 (by omega) hb (by omega)
  exact ⟨ps, t2, l2, Q2, act2, n2, k1, k2, k3, k4, k5, fun j => by have := k7 j; omega, k8⟩
/-- it has been run before -/
theorem go_w {most C : Int} {l : List Int} (h : LPx M N IN t l Q act) (h14 : t 142 14 ≠ 0) (hm : 0 ≤ most ∧ most ≤ 20000) (hC : 0 ≤ C ∧ C + 2000000 < 2147483646) (hb : ∀ j, t 144 j ≤ C) : ∃ t4 Q4 t5 l5 Q5, WKx 152 8 (zp t) Q (zp t4) Q4 ∧ WKx 153 8 (zp t4) Q4 (zp t5) Q5 ∧ LPx M N IN t5 l5 Q5 act ∧ GOx M N IN t5 Q5 most C (wG 30 [most] t) := by
  obtain ⟨t4, l4, Q4, a1, a2, a3, a4, a5, a6⟩ := wk_all (K := 152) (.inl rfl) (LP_15 (v := 0) h)
  obtain ⟨t5, l5, Q5, b1, b2, b3, b4, b5, b6⟩ := wk_all (K := 153) (.inr rfl) a2
  have e : zp (up2 t 142 15 0) = zp t := zp_n (.inr ⟨rfl, by omega⟩)
  rw [e] at a6
  refine ⟨t4, Q4, t5, l5, Q5, a6, b6, b2, ?_⟩
  have := go_5 b2 hm (b5.trans (a5.trans up_self)) hC (fun j => by rw [b3, a3, show up2 t 142 15 0 144 j = t 144 j from if_neg (by omega)]; exact hb j)
  rw [wG_82]
  unfold wM82
  rw [if_pos h14]
  rw [show wG 19 [152] (up2 t 142 15 0) = some (some (0, t4)) from a1, bo_s, show wG 19 [153] t4 = some (some (0, t5)) from b1, bo_s]
  exact this
/-- it begins -/
theorem go_r {most C : Int} {c : Cxx} {root : Nat} (hz : SZx (zp t)) (h12 : t 99 12 = (M : Int)) (hM : M ≤ 2000) (hE : EF (zp t) c root) (hr : (root : Int) = t 99 13) (hI : INC (zp t) N IN) (hu : ∀ y z c, IN y → IN z → CHl (zp t) y c → CHl (zp t) z c → y = z) (hq : QBx t) (h6 : t 142 6 = 0) (h13 : t 142 13 = 0) (h14 : t 142 14 = 0) (hL : ∀ L, L < 12 → t 152 L = -1 ∧ t 153 L = -1) (hm : 0 ≤ most ∧ most ≤ 20000) (hC : 0 ≤ C ∧ C + 2000000 < 2147483646) (hb : ∀ j, t 144 j ≤ C) : ∃ t5, zp t5 = up2 (up2 (zp t) 143 root (-1)) 144 root (-1) ∧ LPx M N IN t5 [(root : Int)] (fun r => if r = root then 1 else 0) (fun r => r = root) ∧ GOx M N IN t5 (fun r => if r = root then 1 else 0) most C (wG 30 [most] t) := by
  obtain ⟨t5, h5⟩ : ∃ t5, t5 = akw (up2 t 142 15 0) (t 99 13) (-1) := ⟨_, rfl⟩
  have rl := (EF_k hE).2.1
  have rl2 : (root : Int) < t 99 12 := rl
  have e0 : zp (up2 t 142 15 0) = zp t := zp_n (.inr ⟨rfl, by omega⟩)
  have x := ex_ak (t := up2 t 142 15 0) (c := t 99 13) (p := -1)
  rw [← h5, e0, ← hr] at x
  have aw : awx (zp t) (root : Int) (-1) = ([(143, root, -1), (144, root, -1)], [(root : Int)]) := by
    unfold awx
    rw [if_pos ⟨by omega, rl⟩, Int.toNat_natCast]
    unfold pux
    rw [if_pos (by omega)]
  rw [aw] at x
  have d13 : (up2 t 142 15 0) 142 13 = 0 := (if_neg (by omega)).trans h13
  have zz : zp t5 = up2 (up2 (zp t) 143 root (-1)) 144 root (-1) := (x.1 (.inl d13)).1.trans (by rw [e0]; rfl)
  have sk : SKx t5 [(root : Int)] := x.2.2 [] ⟨(if_neg (by omega)).trans h6, trivial⟩ (by show 0 + 1 ≤ 2000; omega)
  have o : ∀ k j, k ≠ 143 → k ≠ 144 → up2 (up2 (zp t) 143 root (-1)) 144 root (-1) k j = zp t k j := fun k j q1 q2 => (if_neg (by omega)).trans (if_neg (by omega))
  have ol : ∀ k j, 99 ≤ k ∧ k ≤ 114 → up2 (up2 (zp t) 143 root (-1)) 144 root (-1) k j = zp t k j := fun k j q => o k j (by omega) (by omega)
  have e3 : up2 (up2 (zp t) 143 root (-1)) 144 root (-1) 143 root = -1 := (if_neg (by omega)).trans up_self
  have e4 : up2 (up2 (zp t) 143 root (-1)) 144 root (-1) 144 root = -1 := up_self
  have ps : PSy M N IN (zp t5) (fun r => if r = root then 1 else 0) (fun r => r = root) := by
    rw [zz]
    refine ⟨⟨_, _, J_start (c := c) (root := root) (fun r => by rw [ol 111 r (by omega)]; exact hz r) (by rw [ol 99 12 (by omega)]; show t 99 12 ≤ 2000; omega) (EF_ext ol hE) e3 e4 (fun L hl => ?_) (fun r => rfl)⟩, KJ_start (INC_ext ol hI) (by rw [ol 99 13 (by omega)]; exact hr) e3, INC_ext ol hI, fun y z c y1 z1 y2 z2 => hu y z c y1 z1 ((CH_ext ol).mp y2) ((CH_ext ol).mp z2), by rw [ol 99 12 (by omega)]; exact h12, ?_⟩
    · rw [o 152 L (by omega) (by omega), o 153 L (by omega) (by omega)]
      exact hL L hl
    · exact QB_up (QB_up (show QBx (zp t) from fun i hi => by
        have := hq i hi
        rw [zp_o (k := 154 + 2 * i) (j := 1) (by omega), zp_o (k := 154 + 2 * i) (j := 2) (by omega), zp_o (k := 162 + 2 * i) (j := 1) (by omega), zp_o (k := 162 + 2 * i) (j := 2) (by omega)]
        exact this) (by omega)) (by omega)
  have lp : LPx M N IN t5 [(root : Int)] (fun r => if r = root then 1 else 0) (fun r => r = root) := by
    refine ⟨ps, sk, fun v hv => ?_, fun r => ?_, ?_⟩
    · rcases List.mem_cons.mp hv with q | q
      · omega
      · exact absurd q List.not_mem_nil
    · show (if r = root then 1 else 0) = _
      rw [List.count_cons, List.count_nil]
      simp only [beq_iff_eq]
      by_cases e : r = root
      · rw [if_pos e, if_pos (by omega)]
      · rw [if_neg e, if_neg (by omega)]
    · exact (x.1 (.inl d13)).2
  refine ⟨t5, zz, lp, ?_⟩
  have := go_5 (C := C) lp hm (x.2.1.2.trans up_self) hC (fun j => by
    have ez : t5 144 j = zp t5 144 j := rfl
    rw [ez, zz]
    by_cases e : j = root
    · rw [e, e4]
      omega
    · rw [show up2 (up2 (zp t) 143 root (-1)) 144 root (-1) 144 j = zp t 144 j from (if_neg (by omega)).trans (if_neg (by omega))]
      exact hb j)
  rw [wG_82]
  unfold wM82
  rw [if_neg (fun q => q h14), ← h5]
  exact this
end GOON
