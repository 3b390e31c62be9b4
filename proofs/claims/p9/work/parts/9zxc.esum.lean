/-! The small methods of the reference's run answer as told. -/
section ESU
variable {t : tab} {x y a b c v w : Int}
theorem e_inz : eG 0 [a, b, c] t = some (some (inz a b c, t)) := by
  rw [eG_120]
  unfold eM120 inz
  repeat' split
  all_goals first | rfl | omega
theorem e_rds : eG 1 [b] t = some (some (rdz t b, rds t b)) := by
  rw [eG_166]
  rfl
theorem up_n1 {t : tab} {k j k2 j2 : Nat} {z : Int} (h : k2 ≠ k) : up2 t k j z k2 j2 = t k2 j2 := if_neg (fun q => h q.1)
theorem e_pos : eG 3 [b] t = some (some (poz t b, pos t b)) := by
  rw [eG_167]
  unfold eM167 poz pos
  rw [up_n1 (by omega)]
theorem e_phE : eG 2 [b, v] t = some (some (0, phE t b v)) := by
  rw [eG_164]
  unfold eM164 phE
  rw [up_n1 (t := t) (by omega)]
theorem e_wtE : eG 4 [b, w, x] t = some (some (0, wtE t b w x)) := by
  rw [eG_171]
  rfl
theorem e_tgx : eG 7 [a, x, y] t = some (some (tgx a x y, t)) := by
  rw [eG_168]
  unfold eM168 tgx
  by_cases h37 : a = 37
  · rw [if_pos h37, if_pos h37]
    unfold rmx rmw
    by_cases e : y = 0
    · rw [if_neg (fun q => q e), if_pos e]
    · rw [if_pos e, if_neg e]
  rw [if_neg h37, if_neg h37]
  by_cases h38 : a = 38
  · rw [if_pos h38, if_pos h38]
  rw [if_neg h38, if_neg h38]
  by_cases h42 : a = 42
  · rw [if_pos h42, if_pos h42]
  rw [if_neg h42, if_neg h42]
  by_cases h43 : a = 43
  · rw [if_pos h43, if_pos h43]
  rw [if_neg h43, if_neg h43]
  by_cases h45 : a = 45
  · rw [if_pos h45, if_pos h45]
  rw [if_neg h45, if_neg h45]
  by_cases h47 : a = 47
  · rw [if_pos h47, if_pos h47]
    unfold dvx dv0
    by_cases e : y = 0
    · rw [if_neg (fun q => q e), if_pos e]
    · rw [if_pos e, if_neg e]
  rw [if_neg h47, if_neg h47]
  by_cases h60 : a = 60
  · rw [if_pos h60, if_pos h60]
    unfold tru
    repeat' split
    all_goals first | rfl | omega
  rw [if_neg h60, if_neg h60]
  by_cases h62 : a = 62
  · rw [if_pos h62, if_pos h62]
    unfold tru
    repeat' split
    all_goals first | rfl | omega
  rw [if_neg h62, if_neg h62]
  by_cases h94 : a = 94
  · rw [if_pos h94, if_pos h94]
  rw [if_neg h94, if_neg h94]
  by_cases h124 : a = 124
  · rw [if_pos h124, if_pos h124]
  rw [if_neg h124, if_neg h124]
  by_cases h9766 : a = 9766
  · rw [if_pos h9766, if_pos h9766]
    unfold tru
    repeat' split
    all_goals first | rfl | omega
  rw [if_neg h9766, if_neg h9766]
  by_cases h15420 : a = 15420
  · rw [if_pos h15420, if_pos h15420]
  rw [if_neg h15420, if_neg h15420]
  by_cases h15649 : a = 15649
  · rw [if_pos h15649, if_pos h15649]
    unfold tru
    repeat' split
    all_goals first | rfl | omega
  rw [if_neg h15649, if_neg h15649]
  by_cases h15676 : a = 15676
  · rw [if_pos h15676, if_pos h15676]
    unfold tru
    repeat' split
    all_goals first | rfl | omega
  rw [if_neg h15676, if_neg h15676]
  by_cases h15677 : a = 15677
  · rw [if_pos h15677, if_pos h15677]
    unfold tru
    repeat' split
    all_goals first | rfl | omega
  rw [if_neg h15677, if_neg h15677]
  by_cases h15934 : a = 15934
  · rw [if_pos h15934, if_pos h15934]
  rw [if_neg h15934, if_neg h15934]
  by_cases h31868 : a = 31868
  · rw [if_pos h31868, if_pos h31868]
    unfold tru
    repeat' split
    all_goals first | rfl | omega
  rw [if_neg h31868, if_neg h31868]
  unfold tru
  repeat' split
  all_goals first | rfl | omega
end ESU
