/-! wake. -/
/-- lines from a on are cleared, who waited there is ready -/
def WKx (K a : Nat) (s : tab) (Q : Nat → Nat) (s2 : tab) (Q2 : Nat → Nat) : Prop := (∀ k j, s2 k j = if k = K ∧ a ≤ j ∧ j < 12 then -1 else s k j) ∧ ∀ r : Nat, ((∃ L, a ≤ L ∧ L < 12 ∧ s K L = (r : Int)) → Q2 r = 1) ∧ ((∀ L, a ≤ L → L < 12 → s K L ≠ (r : Int)) → Q2 r = Q r)
section WAKEY
variable {Q : Nat → Nat} {act : Nat → Prop} {M N : Nat} {IN : Nat → Prop}
theorem wk_o {t : tab} {K L j : Nat} {z : Int} (hK : K = 152 ∨ K = 153) (hj : j ≠ 6) : psw (up2 t K L (-1)) z 142 j = t 142 j := by
  have e : up2 t K L (-1) 142 j = t 142 j := if_neg (by omega)
  unfold psw
  split
  · exact (if_neg (fun q => hj q.2)).trans ((if_neg (by omega)).trans e)
  · exact e
theorem wk_l {K : Nat} (hK : K = 152 ∨ K = 153) : ∀ (m : Nat) (t : tab) (l : List Int) (Q : Nat → Nat), m ≤ 12 → LPx M N IN t l Q act → ∃ t2 l2 Q2, wG 48 [(K : Int), 12 - (m : Int)] t = some (some (0, t2)) ∧ LPx M N IN t2 l2 Q2 act ∧ (∀ j, t2 144 j = t 144 j) ∧ t2 142 14 = t 142 14 ∧ t2 142 15 = t 142 15 ∧ WKx K (12 - m) (zp t) Q (zp t2) Q2
  | 0, t, l, Q, _, h => by
    refine ⟨t, l, Q, ?_, h, fun _ => rfl, rfl, rfl, fun k j => (if_neg (by omega)).symm, fun r => ⟨fun q => ?_, fun _ => rfl⟩⟩
    · rw [wG_85_3]
      unfold wM85_3
      rw [if_pos (by omega)]
    · obtain ⟨L, q1, q2, _⟩ := q
      omega
  | m + 1, t, l, Q, hm, h => by
    obtain ⟨l1, Q1, h1, f1, f2, f3⟩ := wk_1 h hK (L := 12 - (m + 1)) (by omega)
    obtain ⟨t2, l2, Q2, k1, k2, k3, k4, k5, k6, k7⟩ := wk_l hK m _ l1 Q1 (by omega) h1
    have hz : zp t K (12 - (m + 1)) = t K (12 - (m + 1)) := zp_o (by omega)
    refine ⟨t2, l2, Q2, ?_, k2, fun j => (k3 j).trans (f1 j), k4.trans (wk_o hK (by omega)), k5.trans (wk_o hK (by omega)), fun k j => ?_, fun r => ⟨fun q => ?_, fun q => ?_⟩⟩
    · rw [wG_85_3]
      unfold wM85_3
      rw [if_neg (by omega), Int.toNat_natCast, show ((12 : Int) - ((m + 1 : Nat) : Int)).toNat = 12 - (m + 1) by omega, show (12 : Int) - ((m + 1 : Nat) : Int) + 1 = 12 - (m : Int) by omega]
      exact k1
    · rw [k6, f2]
      by_cases e1 : k = K ∧ 12 - m ≤ j ∧ j < 12
      · rw [if_pos e1, if_pos (by omega)]
      · rw [if_neg e1]
        by_cases e2 : k = K ∧ j = 12 - (m + 1)
        · rw [e2.1, e2.2, up_self, if_pos (by omega)]
        · rw [show up2 (zp t) K (12 - (m + 1)) (-1) k j = zp t k j from if_neg e2, if_neg (by omega)]
    · obtain ⟨L, q1, q2, q3⟩ := q
      by_cases e1 : L = 12 - (m + 1)
      · rw [e1, hz] at q3
        by_cases e2 : ∃ L, 12 - m ≤ L ∧ L < 12 ∧ zp (psw (up2 t K (12 - (m + 1)) (-1)) (t K (12 - (m + 1)))) K L = (r : Int)
        · exact (k7 r).1 e2
        · rw [(k7 r).2 (fun L w1 w2 w3 => e2 ⟨L, w1, w2, w3⟩), f3, if_pos q3]
      · refine (k7 r).1 ⟨L, by omega, q2, ?_⟩
        rw [f2, show up2 (zp t) K (12 - (m + 1)) (-1) K L = zp t K L from if_neg (by omega)]
        exact q3
    · rw [(k7 r).2 (fun L w1 w2 w3 => ?_), f3, if_neg]
      · rw [← hz]
        exact q _ (by omega) (by omega)
      · rw [f2, show up2 (zp t) K (12 - (m + 1)) (-1) K L = zp t K L from if_neg (by omega)] at w3
        exact q L (by omega) w2 w3
theorem wk_all {K : Nat} (hK : K = 152 ∨ K = 153) {t : tab} {l : List Int} (h : LPx M N IN t l Q act) : ∃ t2 l2 Q2, wG 19 [(K : Int)] t = some (some (0, t2)) ∧ LPx M N IN t2 l2 Q2 act ∧ (∀ j, t2 144 j = t 144 j) ∧ t2 142 14 = t 142 14 ∧ t2 142 15 = t 142 15 ∧ WKx K 8 (zp t) Q (zp t2) Q2 := by
  obtain ⟨t2, l2, Q2, k1, k2⟩ := wk_l hK 4 t l Q (by omega) h
  refine ⟨t2, l2, Q2, ?_, k2⟩
  rw [wG_85]
  exact k1
end WAKEY
