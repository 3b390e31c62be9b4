/-! wake. -/
section WAKEY
variable {Q : Nat → Nat} {act : Nat → Prop} {M N : Nat} {IN : Nat → Prop}
theorem wk_o {t : tab} {K L j : Nat} {z : Int} (hK : K = 152 ∨ K = 153) (hj : j ≠ 6) : psw (up2 t K L (-1)) z 142 j = t 142 j := by
  have e : up2 t K L (-1) 142 j = t 142 j := if_neg (by omega)
  unfold psw
  split
  · exact (if_neg (fun q => hj q.2)).trans ((if_neg (by omega)).trans e)
  · exact e
theorem wk_l {K : Nat} (hK : K = 152 ∨ K = 153) : ∀ (m : Nat) (t : tab) (l : List Int) (Q : Nat → Nat), m ≤ 12 → LPx M N IN t l Q act → ∃ t2 l2 Q2, wG 33 [(K : Int), 12 - (m : Int)] t = some (some (0, t2)) ∧ LPx M N IN t2 l2 Q2 act ∧ (∀ j, t2 144 j = t 144 j) ∧ t2 142 14 = t 142 14 ∧ t2 142 15 = t 142 15
  | 0, t, l, Q, _, h => by
    refine ⟨t, l, Q, ?_, h, fun _ => rfl, rfl, rfl⟩
    rw [wG_85_3]
    unfold wM85_3
    rw [if_pos (by omega)]
  | m + 1, t, l, Q, hm, h => by
    obtain ⟨l1, Q1, h1, f1⟩ := wk_1 h hK (L := 12 - (m + 1)) (by omega)
    obtain ⟨t2, l2, Q2, k1, k2, k3, k4, k5⟩ := wk_l hK m _ l1 Q1 (by omega) h1
    refine ⟨t2, l2, Q2, ?_, k2, fun j => (k3 j).trans (f1 j), k4.trans (wk_o hK (by omega)), k5.trans (wk_o hK (by omega))⟩
    rw [wG_85_3]
    unfold wM85_3
    rw [if_neg (by omega), Int.toNat_natCast, show ((12 : Int) - ((m + 1 : Nat) : Int)).toNat = 12 - (m + 1) by omega, show (12 : Int) - ((m + 1 : Nat) : Int) + 1 = 12 - (m : Int) by omega]
    exact k1
theorem wk_all {K : Nat} (hK : K = 152 ∨ K = 153) {t : tab} {l : List Int} (h : LPx M N IN t l Q act) : ∃ t2 l2 Q2, wG 19 [(K : Int)] t = some (some (0, t2)) ∧ LPx M N IN t2 l2 Q2 act ∧ (∀ j, t2 144 j = t 144 j) ∧ t2 142 14 = t 142 14 ∧ t2 142 15 = t 142 15 := by
  obtain ⟨t2, l2, Q2, k1, k2⟩ := wk_l hK 4 t l Q (by omega) h
  refine ⟨t2, l2, Q2, ?_, k2⟩
  rw [wG_85]
  exact k1
end WAKEY
