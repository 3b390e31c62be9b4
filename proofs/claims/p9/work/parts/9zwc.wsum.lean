/-! The small methods of Work answer as told. -/
section WSU
variable {t : tab} {x y a b c p v w r g q : Int}
theorem v_hsz : wG 0 [x] t = some (some (hsz t x, t)) := by
  rw [wG_67]
  unfold wM67 hsz
  repeat' split
  all_goals first | rfl | omega
theorem v_flx : wG 1 [x] t = some (some (flx t x, t)) := by
  rw [wG_97]
  unfold wM97 flx hsz
  by_cases h : 0 ≤ x ∧ x < t 99 12
  · rw [if_pos h, if_pos h, if_neg (by decide)]
  · rw [if_neg h, if_neg h, if_pos rfl]
theorem v_fpx : wG 2 [x] t = some (some (fpx t x, t)) := by
  rw [wG_99]
  unfold wM99 fpx
  repeat' split
  all_goals first | rfl | omega
theorem v_bdx : wG 3 [x] t = some (some (bdx t x, t)) := by
  rw [wG_101]
  unfold wM101 bdx
  repeat' split
  all_goals first | rfl | omega
theorem v_plx : wG 4 [r, x] t = some (some (plx t r x, t)) := by
  rw [wG_94]
  unfold wM94 plx
  repeat' split
  all_goals first | rfl | omega
theorem v_vax : wG 15 [x] t = some (some (vax t x, t)) := by
  rw [wG_90]
  unfold wM90 vax hsz
  by_cases h : 0 ≤ x ∧ x < t 99 12
  · rw [if_pos h, if_pos h, if_neg (by decide)]
  · rw [if_neg h, if_neg h, if_pos rfl]
theorem v_vrx : wG 16 [x] t = some (some (vrx t x, t)) := by
  rw [wG_89]
  unfold wM89 vrx
  repeat' split
  all_goals first | rfl | omega
theorem v_itw : wG 17 [r, x] t = some (some (itw t r x, t)) := by
  rw [wG_93]
  unfold wM93 itw
  repeat' split
  all_goals first | rfl | omega
theorem v_tr0 : wG 8 [0] t = some (some (0, t)) := by
  rw [wG_92]
  exact if_pos rfl
theorem v_tr1 : wG 8 [1] t = some (some (1, t)) := by
  rw [wG_92]
  exact if_neg (by decide)
theorem v_s1x : wG 9 [a, v] t = some (some (s1x a v, t)) := by
  rw [wG_95]
  unfold wM95 s1x tru
  repeat' split
  all_goals first | rfl | omega
theorem v_psw : wG 11 [x] t = some (some (0, psw t x)) := by
  rw [wG_84]
  unfold wM84 psw
  repeat' split
  all_goals first | rfl | omega
theorem v_akw : wG 12 [x, p] t = some (some (0, akw t x p)) := by
  rw [wG_83]
  unfold wM83 akw hsz
  by_cases h : 0 ≤ x ∧ x < t 99 12
  · rw [if_pos h, if_pos h, if_neg (by decide)]
  · rw [if_neg h, if_neg h, if_pos rfl]
theorem v_tlw : wG 13 [x, v] t = some (some (0, tlw t x v)) := by
  rw [wG_88]
  unfold wM88 tlw hsz
  by_cases h : 0 ≤ x ∧ x < t 99 12
  · rw [if_pos h, if_pos h, if_neg (by decide)]
    by_cases h2 : 0 ≤ t 143 x.toNat
    · rw [if_pos h2, if_pos h2]
    · rw [if_neg h2, if_neg h2]
  · rw [if_neg h, if_neg h, if_pos rfl]
theorem v_otw : wG 14 [c, p, v] t = some (some (0, otw t c p v)) := by
  rw [wG_102]
  unfold wM102 otw
  split <;> rfl
theorem v_asw : wG 18 [g, x, v] t = some (some (0, asw t g x v)) := by
  rw [wG_100]
  unfold wM100 asw
  by_cases h : 0 ≤ g ∧ g < 24
  · rw [if_neg (by omega), if_neg (by omega), if_pos h]
    by_cases h2 : t 110 g.toNat = 0
    · rw [if_neg (fun q => q h2), if_pos h2]
    · rw [if_pos h2, if_neg h2]
  · rw [if_neg h]
    have key : (if imi g 24 < 0 then some (some ((0 : Int), t)) else if 6 ≤ imi g 24 then some (some (0, t)) else some (some (0, up2 t 149 ((ipl (imu (imi g 24) 64) (plx t (imi g 24) x)).toNat) (i2s v)))) = some (some (0, if 0 ≤ imi g 24 ∧ imi g 24 < 6 then up2 t 149 (ipl (imu (imi g 24) 64) (plx t (imi g 24) x)).toNat (i2s v) else t)) := by
      by_cases h1 : 0 ≤ imi g 24 ∧ imi g 24 < 6
      · rw [if_neg (by omega), if_neg (by omega), if_pos h1]
      · rw [if_neg h1]
        split
        · rfl
        · rw [if_pos (by omega)]
    by_cases h3 : g < 0
    · rw [if_pos h3]
      exact key
    · rw [if_neg h3, if_pos (by omega)]
      exact key
theorem v_how : wG 20 [a, b, v] t = some (some (0, how t a b v)) := by
  rw [wG_106]
  unfold wM106 how hsz
  by_cases h : 0 ≤ b ∧ b < t 99 12
  · rw [if_pos h, if_pos h, if_neg (by decide)]
  · rw [if_neg h, if_neg h, if_pos rfl]
theorem v_qcl : wG 5 [q] t = some (some (0, qcl t q)) := by
  rw [wG_79]
  rfl
theorem v_qad : wG 6 [q, v] t = some (some (qaz t q, qad t q v)) := by
  rw [wG_105]
  unfold wM105 qaz qad
  split <;> rfl
theorem v_qrm : wG 7 [q] t = some (some (qrz t q, qrm t q)) := by
  rw [wG_108]
  unfold wM108 qrz qrm
  split <;> rfl
theorem v_s2x : wG 10 [a, x, y] t = some (some (s2x a x y, t)) := by
  rw [wG_91]
  unfold wM91
  by_cases h38 : a = 38
  · rw [if_pos h38, h38, show s2x 38 x y = ian x y from rfl]
  rw [if_neg h38]
  by_cases h42 : a = 42
  · rw [if_pos h42, h42, show s2x 42 x y = imu x y from rfl]
  rw [if_neg h42]
  by_cases h43 : a = 43
  · rw [if_pos h43, h43, show s2x 43 x y = ipl x y from rfl]
  rw [if_neg h43]
  by_cases h45 : a = 45
  · rw [if_pos h45, h45, show s2x 45 x y = imi x y from rfl]
  rw [if_neg h45]
  by_cases h47 : a = 47
  · rw [if_pos h47, h47, show s2x 47 x y = dvx x y from rfl]
    unfold dvx dv0
    by_cases e : y = 0
    · rw [if_neg (fun q => q e), if_pos e]
    · rw [if_pos e, if_neg e]
  rw [if_neg h47]
  by_cases h60 : a = 60
  · rw [if_pos h60, h60, show s2x 60 x y = tru (x < y) from rfl]
    unfold tru
    repeat' split
    all_goals first | rfl | omega
  rw [if_neg h60]
  by_cases h62 : a = 62
  · rw [if_pos h62, h62, show s2x 62 x y = tru (y < x) from rfl]
    unfold tru
    repeat' split
    all_goals first | rfl | omega
  rw [if_neg h62]
  by_cases h94 : a = 94
  · rw [if_pos h94, h94, show s2x 94 x y = ixo x y from rfl]
  rw [if_neg h94]
  by_cases h124 : a = 124
  · rw [if_pos h124, h124, show s2x 124 x y = ior x y from rfl]
  rw [if_neg h124]
  by_cases h8509 : a = 8509
  · rw [if_pos h8509, h8509, show s2x 8509 x y = tru (x ≠ y) from rfl]
    unfold tru
    repeat' split
    all_goals first | rfl | omega
  rw [if_neg h8509]
  by_cases h9766 : a = 9766
  · rw [if_pos h9766, h9766, show s2x 9766 x y = tru (x ≠ 0 ∧ y ≠ 0) from rfl]
    unfold tru
    repeat' split
    all_goals first | rfl | omega
  rw [if_neg h9766]
  by_cases h15420 : a = 15420
  · rw [if_pos h15420, h15420, show s2x 15420 x y = isl x (ian y 31) from rfl]
  rw [if_neg h15420]
  by_cases h15421 : a = 15421
  · rw [if_pos h15421, h15421, show s2x 15421 x y = tru (x ≤ y) from rfl]
    unfold tru
    repeat' split
    all_goals first | rfl | omega
  rw [if_neg h15421]
  by_cases h15677 : a = 15677
  · rw [if_pos h15677, h15677, show s2x 15677 x y = tru (x = y) from rfl]
    unfold tru
    repeat' split
    all_goals first | rfl | omega
  rw [if_neg h15677]
  by_cases h15933 : a = 15933
  · rw [if_pos h15933, h15933, show s2x 15933 x y = tru (y ≤ x) from rfl]
    unfold tru
    repeat' split
    all_goals first | rfl | omega
  rw [if_neg h15933]
  by_cases h15934 : a = 15934
  · rw [if_pos h15934, h15934, show s2x 15934 x y = isr x (ian y 31) from rfl]
  rw [if_neg h15934]
  by_cases h31868 : a = 31868
  · rw [if_pos h31868, h31868, show s2x 31868 x y = tru (x ≠ 0 ∨ y ≠ 0) from rfl]
    unfold tru
    repeat' split
    all_goals first | rfl | omega
  rw [if_neg h31868]
  have e : s2x a x y = rmx x y := by
    unfold s2x
    rw [if_neg h31868, if_neg h9766, if_neg h124, if_neg h94, if_neg h38, if_neg h15677, if_neg h8509, if_neg h60, if_neg h15421, if_neg h62, if_neg h15933, if_neg h15420, if_neg h15934, if_neg h43, if_neg h45, if_neg h42, if_neg h47]
  rw [e]
  unfold rmx rmw
  by_cases e : y = 0
  · rw [if_neg (fun q => q e), if_pos e]
  · rw [if_pos e, if_neg e]
end WSU
