/-! What the small methods answer. -/
theorem s_atb {t : tab} {x : Int} : cG 0 [x] t = some (some (atb t x, t)) := by
  rw [cG_26]
  unfold cM26 atb
  repeat' split
  all_goals first | rfl | omega
theorem s_ltz {t : tab} {x : Int} : cG 1 [x] t = some (some (ltz x, t)) := by
  rw [cG_27]
  unfold cM27 ltz
  repeat' split
  all_goals first | rfl | omega
theorem s_dgz {t : tab} {x : Int} : cG 2 [x] t = some (some (dgz x, t)) := by
  rw [cG_30]
  unfold cM30 dgz
  repeat' split
  all_goals first | rfl | omega
theorem s_kkd {t : tab} : cG 4 [] t = some (some (kkd t, t)) := by
  rw [cG_34]
  unfold cM34 kkd
  repeat' split
  all_goals first | rfl | omega
theorem s_plc {t : tab} : cG 5 [] t = some (some (plc t, t)) := by
  rw [cG_40]
  unfold cM40 plc
  repeat' split
  all_goals first | rfl | omega
theorem s_vlu {t : tab} : cG 6 [] t = some (some (vlu t, t)) := by
  rw [cG_38]
  unfold cM38 vlu
  repeat' split
  all_goals first | rfl | omega
theorem s_nkd {t : tab} {x : Int} : cG 17 [x] t = some (some (nkd t x, t)) := by
  rw [cG_62]
  unfold cM62 nkd
  repeat' split
  all_goals first | rfl | omega
theorem s_nnm {t : tab} {x : Int} : cG 18 [x] t = some (some (nnm t x, t)) := by
  rw [cG_63]
  unfold cM63 nnm
  repeat' split
  all_goals first | rfl | omega
theorem s_nad {t : tab} {w k n : Int} : cG 15 [w, k, n] t = some (some (0, nad t w k n)) := by
  rw [cG_42]
  unfold cM42 nad
  repeat' split
  all_goals first | rfl | omega
theorem s_ncu {t : tab} {x : Int} : cG 16 [x] t = some (some (0, ncu t x)) := by
  rw [cG_22]
  unfold cM22 ncu
  repeat' split
  all_goals first | rfl | omega
theorem s_spm {t : tab} {r f n : Int} : cG 25 [r, f, n] t = some (some (0, spm t r f n)) := by
  rw [cG_47]
  unfold cM47 spm
  repeat' split
  all_goals first | rfl | omega
theorem s_prm {t : tab} {x : Int} : cG 26 [x] t = some (some (prm t x, t)) := by
  rw [cG_48]
  unfold cM48 prm
  repeat' split
  all_goals first | rfl | omega
theorem s_lin {t : tab} {x : Int} : cG 34 [x] t = some (some (lin t x, t)) := by
  rw [cG_73]
  unfold cM73 lin
  repeat' split
  all_goals first | rfl | omega
theorem s_stp {t : tab} : cG 7 [] t = some (some (0, stp t)) := by
  rw [cG_35]
  unfold cM35 stp
  repeat' split
  all_goals first | rfl | omega
theorem s_alz {t : tab} {x : Int} : cG 3 [x] t = some (some (alz x, t)) := by
  rw [cG_29]
  unfold cM29 alz ltz dgz
  repeat' split
  all_goals first | rfl | omega
theorem s_hsz {t : tab} {x : Int} : cG 20 [x] t = some (some (hsz t x, t)) := by
  rw [cG_67]
  unfold cM67 hsz
  repeat' split
  all_goals first | rfl | omega
theorem s_cad {t : tab} {k a b c : Int} : cG 21 [k, a, b, c] t = some (some (cadz t, cad t k a b c)) := by
  rw [cG_54]
  unfold cM54 cad cadz
  by_cases h : t 99 12 < 2000
  · rw [if_pos h, if_pos h, if_pos h, Int.add_sub_cancel]
  · rw [if_neg h, if_neg h, if_neg h]
theorem s_lnk {t : tab} {x y : Int} : cG 22 [x, y] t = some (some (0, lnk t x y)) := by
  rw [cG_66]
  unfold cM66 lnk hsz
  by_cases h : 0 ≤ x ∧ x < t 99 12
  · rw [if_pos h, if_pos h, if_neg (by decide)]
  · rw [if_neg h, if_neg h, if_pos rfl]
theorem s_sbi {t : tab} {x y : Int} : cG 23 [x, y] t = some (some (0, sbi t x y)) := by
  rw [cG_46]
  unfold cM46 sbi
  repeat' split
  all_goals first | rfl | omega
theorem s_ssi {t : tab} {x y : Int} : cG 24 [x, y] t = some (some (0, ssi t x y)) := by
  rw [cG_77]
  unfold cM77 ssi
  repeat' split
  all_goals first | rfl | omega
theorem chk0 {t : tab} : cG 27 [0] t = some none := by
  rw [cG_41]
  exact if_neg (by decide)
theorem chk1 {t : tab} : cG 27 [1] t = some (some (0, t)) := by
  rw [cG_41]
  exact if_pos (by decide)
set_option maxHeartbeats 20000000 in
set_option maxRecDepth 100000 in
theorem s_lvl {t : tab} {x : Int} : cG 28 [x] t = some (some (lvl x, t)) := by
  rw [cG_68]
  unfold cM68
  by_cases h37 : x = 37
  · rw [if_pos h37, h37]
    rfl
  rw [if_neg h37]
  by_cases h38 : x = 38
  · rw [if_pos h38, h38]
    rfl
  rw [if_neg h38]
  by_cases h42 : x = 42
  · rw [if_pos h42, h42]
    rfl
  rw [if_neg h42]
  by_cases h43 : x = 43
  · rw [if_pos h43, h43]
    rfl
  rw [if_neg h43]
  by_cases h45 : x = 45
  · rw [if_pos h45, h45]
    rfl
  rw [if_neg h45]
  by_cases h47 : x = 47
  · rw [if_pos h47, h47]
    rfl
  rw [if_neg h47]
  by_cases h60 : x = 60
  · rw [if_pos h60, h60]
    rfl
  rw [if_neg h60]
  by_cases h62 : x = 62
  · rw [if_pos h62, h62]
    rfl
  rw [if_neg h62]
  by_cases h94 : x = 94
  · rw [if_pos h94, h94]
    rfl
  rw [if_neg h94]
  by_cases h124 : x = 124
  · rw [if_pos h124, h124]
    rfl
  rw [if_neg h124]
  by_cases h8509 : x = 8509
  · rw [if_pos h8509, h8509]
    rfl
  rw [if_neg h8509]
  by_cases h9766 : x = 9766
  · rw [if_pos h9766, h9766]
    rfl
  rw [if_neg h9766]
  by_cases h15420 : x = 15420
  · rw [if_pos h15420, h15420]
    rfl
  rw [if_neg h15420]
  by_cases h15421 : x = 15421
  · rw [if_pos h15421, h15421]
    rfl
  rw [if_neg h15421]
  by_cases h15677 : x = 15677
  · rw [if_pos h15677, h15677]
    rfl
  rw [if_neg h15677]
  by_cases h15933 : x = 15933
  · rw [if_pos h15933, h15933]
    rfl
  rw [if_neg h15933]
  by_cases h15934 : x = 15934
  · rw [if_pos h15934, h15934]
    rfl
  rw [if_neg h15934]
  by_cases h31868 : x = 31868
  · rw [if_pos h31868, h31868]
    rfl
  rw [if_neg h31868]
  unfold lvl
  iterate 10 rw [if_neg (by omega)]
set_option maxHeartbeats 20000000 in
set_option maxRecDepth 100000 in
theorem s_sgz {t : tab} {x : Int} : cG 8 [x] t = some (some (sgz x, t)) := by
  rw [cG_33]
  unfold cM33
  by_cases h33 : x = 33
  · rw [if_pos h33, h33]
    rfl
  rw [if_neg h33]
  by_cases h34 : x = 34
  · rw [if_pos h34, h34]
    rfl
  rw [if_neg h34]
  by_cases h35 : x = 35
  · rw [if_pos h35, h35]
    rfl
  rw [if_neg h35]
  by_cases h36 : x = 36
  · rw [if_pos h36, h36]
    rfl
  rw [if_neg h36]
  by_cases h37 : x = 37
  · rw [if_pos h37, h37]
    rfl
  rw [if_neg h37]
  by_cases h38 : x = 38
  · rw [if_pos h38, h38]
    rfl
  rw [if_neg h38]
  by_cases h39 : x = 39
  · rw [if_pos h39, h39]
    rfl
  rw [if_neg h39]
  by_cases h40 : x = 40
  · rw [if_pos h40, h40]
    rfl
  rw [if_neg h40]
  by_cases h41 : x = 41
  · rw [if_pos h41, h41]
    rfl
  rw [if_neg h41]
  by_cases h42 : x = 42
  · rw [if_pos h42, h42]
    rfl
  rw [if_neg h42]
  by_cases h43 : x = 43
  · rw [if_pos h43, h43]
    rfl
  rw [if_neg h43]
  by_cases h44 : x = 44
  · rw [if_pos h44, h44]
    rfl
  rw [if_neg h44]
  by_cases h45 : x = 45
  · rw [if_pos h45, h45]
    rfl
  rw [if_neg h45]
  by_cases h46 : x = 46
  · rw [if_pos h46, h46]
    rfl
  rw [if_neg h46]
  by_cases h47 : x = 47
  · rw [if_pos h47, h47]
    rfl
  rw [if_neg h47]
  by_cases h48 : x = 48
  · rw [if_pos h48, h48]
    rfl
  rw [if_neg h48]
  by_cases h49 : x = 49
  · rw [if_pos h49, h49]
    rfl
  rw [if_neg h49]
  by_cases h50 : x = 50
  · rw [if_pos h50, h50]
    rfl
  rw [if_neg h50]
  by_cases h51 : x = 51
  · rw [if_pos h51, h51]
    rfl
  rw [if_neg h51]
  by_cases h52 : x = 52
  · rw [if_pos h52, h52]
    rfl
  rw [if_neg h52]
  by_cases h53 : x = 53
  · rw [if_pos h53, h53]
    rfl
  rw [if_neg h53]
  by_cases h54 : x = 54
  · rw [if_pos h54, h54]
    rfl
  rw [if_neg h54]
  by_cases h55 : x = 55
  · rw [if_pos h55, h55]
    rfl
  rw [if_neg h55]
  by_cases h56 : x = 56
  · rw [if_pos h56, h56]
    rfl
  rw [if_neg h56]
  by_cases h57 : x = 57
  · rw [if_pos h57, h57]
    rfl
  rw [if_neg h57]
  by_cases h58 : x = 58
  · rw [if_pos h58, h58]
    rfl
  rw [if_neg h58]
  by_cases h59 : x = 59
  · rw [if_pos h59, h59]
    rfl
  rw [if_neg h59]
  by_cases h60 : x = 60
  · rw [if_pos h60, h60]
    rfl
  rw [if_neg h60]
  by_cases h61 : x = 61
  · rw [if_pos h61, h61]
    rfl
  rw [if_neg h61]
  by_cases h62 : x = 62
  · rw [if_pos h62, h62]
    rfl
  rw [if_neg h62]
  by_cases h63 : x = 63
  · rw [if_pos h63, h63]
    rfl
  rw [if_neg h63]
  by_cases h64 : x = 64
  · rw [if_pos h64, h64]
    rfl
  rw [if_neg h64]
  by_cases h65 : x = 65
  · rw [if_pos h65, h65]
    rfl
  rw [if_neg h65]
  by_cases h66 : x = 66
  · rw [if_pos h66, h66]
    rfl
  rw [if_neg h66]
  by_cases h67 : x = 67
  · rw [if_pos h67, h67]
    rfl
  rw [if_neg h67]
  by_cases h68 : x = 68
  · rw [if_pos h68, h68]
    rfl
  rw [if_neg h68]
  by_cases h69 : x = 69
  · rw [if_pos h69, h69]
    rfl
  rw [if_neg h69]
  by_cases h70 : x = 70
  · rw [if_pos h70, h70]
    rfl
  rw [if_neg h70]
  by_cases h71 : x = 71
  · rw [if_pos h71, h71]
    rfl
  rw [if_neg h71]
  by_cases h72 : x = 72
  · rw [if_pos h72, h72]
    rfl
  rw [if_neg h72]
  by_cases h73 : x = 73
  · rw [if_pos h73, h73]
    rfl
  rw [if_neg h73]
  by_cases h74 : x = 74
  · rw [if_pos h74, h74]
    rfl
  rw [if_neg h74]
  by_cases h75 : x = 75
  · rw [if_pos h75, h75]
    rfl
  rw [if_neg h75]
  by_cases h76 : x = 76
  · rw [if_pos h76, h76]
    rfl
  rw [if_neg h76]
  by_cases h77 : x = 77
  · rw [if_pos h77, h77]
    rfl
  rw [if_neg h77]
  by_cases h78 : x = 78
  · rw [if_pos h78, h78]
    rfl
  rw [if_neg h78]
  by_cases h79 : x = 79
  · rw [if_pos h79, h79]
    rfl
  rw [if_neg h79]
  by_cases h80 : x = 80
  · rw [if_pos h80, h80]
    rfl
  rw [if_neg h80]
  by_cases h81 : x = 81
  · rw [if_pos h81, h81]
    rfl
  rw [if_neg h81]
  by_cases h82 : x = 82
  · rw [if_pos h82, h82]
    rfl
  rw [if_neg h82]
  by_cases h83 : x = 83
  · rw [if_pos h83, h83]
    rfl
  rw [if_neg h83]
  by_cases h84 : x = 84
  · rw [if_pos h84, h84]
    rfl
  rw [if_neg h84]
  by_cases h85 : x = 85
  · rw [if_pos h85, h85]
    rfl
  rw [if_neg h85]
  by_cases h86 : x = 86
  · rw [if_pos h86, h86]
    rfl
  rw [if_neg h86]
  by_cases h87 : x = 87
  · rw [if_pos h87, h87]
    rfl
  rw [if_neg h87]
  by_cases h88 : x = 88
  · rw [if_pos h88, h88]
    rfl
  rw [if_neg h88]
  by_cases h89 : x = 89
  · rw [if_pos h89, h89]
    rfl
  rw [if_neg h89]
  by_cases h90 : x = 90
  · rw [if_pos h90, h90]
    rfl
  rw [if_neg h90]
  by_cases h91 : x = 91
  · rw [if_pos h91, h91]
    rfl
  rw [if_neg h91]
  by_cases h92 : x = 92
  · rw [if_pos h92, h92]
    rfl
  rw [if_neg h92]
  by_cases h93 : x = 93
  · rw [if_pos h93, h93]
    rfl
  rw [if_neg h93]
  by_cases h94 : x = 94
  · rw [if_pos h94, h94]
    rfl
  rw [if_neg h94]
  by_cases h95 : x = 95
  · rw [if_pos h95, h95]
    rfl
  rw [if_neg h95]
  by_cases h96 : x = 96
  · rw [if_pos h96, h96]
    rfl
  rw [if_neg h96]
  by_cases h97 : x = 97
  · rw [if_pos h97, h97]
    rfl
  rw [if_neg h97]
  by_cases h98 : x = 98
  · rw [if_pos h98, h98]
    rfl
  rw [if_neg h98]
  by_cases h99 : x = 99
  · rw [if_pos h99, h99]
    rfl
  rw [if_neg h99]
  by_cases h100 : x = 100
  · rw [if_pos h100, h100]
    rfl
  rw [if_neg h100]
  by_cases h101 : x = 101
  · rw [if_pos h101, h101]
    rfl
  rw [if_neg h101]
  by_cases h102 : x = 102
  · rw [if_pos h102, h102]
    rfl
  rw [if_neg h102]
  by_cases h103 : x = 103
  · rw [if_pos h103, h103]
    rfl
  rw [if_neg h103]
  by_cases h104 : x = 104
  · rw [if_pos h104, h104]
    rfl
  rw [if_neg h104]
  by_cases h105 : x = 105
  · rw [if_pos h105, h105]
    rfl
  rw [if_neg h105]
  by_cases h106 : x = 106
  · rw [if_pos h106, h106]
    rfl
  rw [if_neg h106]
  by_cases h107 : x = 107
  · rw [if_pos h107, h107]
    rfl
  rw [if_neg h107]
  by_cases h108 : x = 108
  · rw [if_pos h108, h108]
    rfl
  rw [if_neg h108]
  by_cases h109 : x = 109
  · rw [if_pos h109, h109]
    rfl
  rw [if_neg h109]
  by_cases h110 : x = 110
  · rw [if_pos h110, h110]
    rfl
  rw [if_neg h110]
  by_cases h111 : x = 111
  · rw [if_pos h111, h111]
    rfl
  rw [if_neg h111]
  by_cases h112 : x = 112
  · rw [if_pos h112, h112]
    rfl
  rw [if_neg h112]
  by_cases h113 : x = 113
  · rw [if_pos h113, h113]
    rfl
  rw [if_neg h113]
  by_cases h114 : x = 114
  · rw [if_pos h114, h114]
    rfl
  rw [if_neg h114]
  by_cases h115 : x = 115
  · rw [if_pos h115, h115]
    rfl
  rw [if_neg h115]
  by_cases h116 : x = 116
  · rw [if_pos h116, h116]
    rfl
  rw [if_neg h116]
  by_cases h117 : x = 117
  · rw [if_pos h117, h117]
    rfl
  rw [if_neg h117]
  by_cases h118 : x = 118
  · rw [if_pos h118, h118]
    rfl
  rw [if_neg h118]
  by_cases h119 : x = 119
  · rw [if_pos h119, h119]
    rfl
  rw [if_neg h119]
  by_cases h120 : x = 120
  · rw [if_pos h120, h120]
    rfl
  rw [if_neg h120]
  by_cases h121 : x = 121
  · rw [if_pos h121, h121]
    rfl
  rw [if_neg h121]
  by_cases h122 : x = 122
  · rw [if_pos h122, h122]
    rfl
  rw [if_neg h122]
  by_cases h123 : x = 123
  · rw [if_pos h123, h123]
    rfl
  rw [if_neg h123]
  by_cases h124 : x = 124
  · rw [if_pos h124, h124]
    rfl
  rw [if_neg h124]
  by_cases h125 : x = 125
  · rw [if_pos h125, h125]
    rfl
  rw [if_neg h125]
  by_cases h126 : x = 126
  · rw [if_pos h126, h126]
    rfl
  rw [if_neg h126]
  unfold sgz sg1
  rw [if_neg (by rw [decide_eq_true_eq]; omega)]
theorem s_ccl {t : tab} : cG 19 [] t = some (some (0, ccl t)) := by
  rw [cG_21]
  unfold cM21
  rw [cG_23]
  unfold cM23
  rw [cG_23_5]
  unfold cM23_5
  rw [if_neg (by decide)]
  rw [cG_23_5]
  unfold cM23_5
  rw [if_neg (by decide)]
  rw [cG_23_5]
  unfold cM23_5
  rw [if_neg (by decide)]
  rw [cG_23_5]
  unfold cM23_5
  rw [if_neg (by decide)]
  rw [cG_23_5]
  unfold cM23_5
  rw [if_neg (by decide)]
  rw [cG_23_5]
  unfold cM23_5
  rw [if_neg (by decide)]
  rw [cG_23_5]
  unfold cM23_5
  rw [if_pos (by decide)]
  rfl
theorem c_nothrow : ∀ (f i : Nat), i ∈ [9, 10, 11, 12, 13, 58, 59, 60, 61, 62] → ∀ xs t, it cB f i xs t ≠ some none
  | 0, _, _, _, _ => fun h => by cases h
  | f + 1, i, hi, xs, t => fun h => by
    have ih := c_nothrow f
    simp only [List.mem_cons, List.not_mem_nil, or_false] at hi
    rcases hi with rfl | rfl | rfl | rfl | rfl | rfl | rfl | rfl | rfl | rfl
    · have h : cM28 (it cB f) t = some none := h
      unfold cM28 at h
      exact ih _ (by decide) _ _ h
    · have h : cM31 (it cB f) t = some none := h
      unfold cM31 at h
      exact ih _ (by decide) _ _ h
    · have h : cM32 (it cB f) (xs.getD 0 0) t = some none := h
      generalize xs.getD 0 0 = x1 at h
      unfold cM32 at h
      by_cases e1 : atb t (ipl (t 137 6) 1) ≠ x1
      · rw [if_pos e1] at h
        by_cases e2 : atb t (ipl (t 137 6) 1) ≠ 61
        · rw [if_pos e2] at h
          by_cases e3 : sgz x1 = 0
          · rw [if_pos e3] at h
            cases h
          · rw [if_neg e3] at h
            cases h
        · rw [if_neg e2] at h
          by_cases e4 : x1 = 33
          · rw [if_pos e4] at h
            cases h
          · rw [if_neg e4] at h
            by_cases e5 : x1 = 60
            · rw [if_pos e5] at h
              cases h
            · rw [if_neg e5] at h
              by_cases e6 : x1 ≠ 62
              · rw [if_pos e6] at h
                by_cases e7 : sgz x1 = 0
                · rw [if_pos e7] at h
                  cases h
                · rw [if_neg e7] at h
                  cases h
              · rw [if_neg e6] at h
                cases h
      · rw [if_neg e1] at h
        by_cases e8 : x1 = 38
        · rw [if_pos e8] at h
          cases h
        · rw [if_neg e8] at h
          by_cases e9 : x1 = 124
          · rw [if_pos e9] at h
            cases h
          · rw [if_neg e9] at h
            by_cases e10 : x1 = 61
            · rw [if_pos e10] at h
              cases h
            · rw [if_neg e10] at h
              by_cases e11 : x1 = 60
              · rw [if_pos e11] at h
                cases h
              · rw [if_neg e11] at h
                by_cases e12 : x1 ≠ 62
                · rw [if_pos e12] at h
                  by_cases e13 : atb t (ipl (t 137 6) 1) ≠ 61
                  · rw [if_pos e13] at h
                    by_cases e14 : sgz x1 = 0
                    · rw [if_pos e14] at h
                      cases h
                    · rw [if_neg e14] at h
                      cases h
                  · rw [if_neg e13] at h
                    by_cases e15 : x1 = 33
                    · rw [if_pos e15] at h
                      cases h
                    · rw [if_neg e15] at h
                      by_cases e16 : sgz x1 = 0
                      · rw [if_pos e16] at h
                        cases h
                      · rw [if_neg e16] at h
                        cases h
                · rw [if_neg e12] at h
                  cases h
    · have h : cM25 (it cB f) t = some none := h
      unfold cM25 at h
      exact ih _ (by decide) _ _ h
    · have h : cM24 (it cB f) t = some none := h
      unfold cM24 at h
      exact ih _ (by decide) _ _ h
    · have h : cM28_7 (it cB f) (xs.getD 0 0) (xs.getD 1 0) t = some none := h
      generalize xs.getD 0 0 = y1 at h
      generalize xs.getD 1 0 = y2 at h
      unfold cM28_7 at h
      by_cases e1 : t 97 1 ≤ t 137 6
      · rw [if_pos e1] at h
        by_cases e2 : imi (t 137 6) y1 ≤ 8
        · rw [if_pos e2] at h
          exact ih _ (by decide) _ _ h
        · rw [if_neg e2] at h
          cases h
      · rw [if_neg e1] at h
        by_cases e3 : alz (atb t (t 137 6)) = 0
        · rw [if_pos e3] at h
          by_cases e4 : imi (t 137 6) y1 ≤ 8
          · rw [if_pos e4] at h
            exact ih _ (by decide) _ _ h
          · rw [if_neg e4] at h
            cases h
        · rw [if_neg e3] at h
          exact ih _ (by decide) _ _ h
    · have h : cM28_95 (it cB f) (xs.getD 0 0) (xs.getD 1 0) t = some none := h
      generalize xs.getD 0 0 = y2 at h
      generalize xs.getD 1 0 = y4 at h
      unfold cM28_95 at h
      by_cases e1 : 15 ≤ y4
      · rw [if_pos e1] at h
        cases h
      · rw [if_neg e1] at h
        by_cases e2 : t 138 y4.toNat ≠ y2
        · rw [if_pos e2] at h
          exact ih _ (by decide) _ _ h
        · rw [if_neg e2] at h
          cases h
    · have h : cM31_2 (it cB f) (xs.getD 0 0) t = some none := h
      generalize xs.getD 0 0 = y1 at h
      unfold cM31_2 at h
      by_cases e1 : t 97 1 ≤ t 137 6
      · rw [if_pos e1] at h
        by_cases e2 : y1 ≤ 65535
        · rw [if_pos e2] at h
          cases h
        · rw [if_neg e2] at h
          cases h
      · rw [if_neg e1] at h
        by_cases e3 : dgz (atb t (t 137 6)) = 0
        · rw [if_pos e3] at h
          by_cases e4 : y1 ≤ 65535
          · rw [if_pos e4] at h
            cases h
          · rw [if_neg e4] at h
            cases h
        · rw [if_neg e3] at h
          exact ih _ (by decide) _ _ h
    · have h : cM25_99999 (it cB f) t = some none := h
      unfold cM25_99999 at h
      by_cases e1 : t 97 1 ≤ t 137 6
      · rw [if_pos e1] at h
        by_cases e2 : 0 ≤ atb (up2 t 140 ((t 137 5).toNat) (t 137 6)) (t 137 6)
        · rw [if_pos e2] at h
          by_cases e3 : ltz (atb (up2 t 140 ((t 137 5).toNat) (t 137 6)) (t 137 6)) = 0
          · rw [if_pos e3] at h
            by_cases e4 : dgz (atb (up2 t 140 ((t 137 5).toNat) (t 137 6)) (t 137 6)) = 0
            · rw [if_pos e4] at h
              rcases bo_inv h with ⟨h9, h8⟩ | ⟨z16, t16, h9, h⟩
              · exact ih _ (by decide) _ _ h9
              clear h9
              cases h
            · rw [if_neg e4] at h
              rcases bo_inv h with ⟨h9, h8⟩ | ⟨z17, t17, h9, h⟩
              · exact ih _ (by decide) _ _ h9
              clear h9
              cases h
          · rw [if_neg e3] at h
            rcases bo_inv h with ⟨h9, h8⟩ | ⟨z18, t18, h9, h⟩
            · exact ih _ (by decide) _ _ h9
            clear h9
            cases h
        · rw [if_neg e2] at h
          cases h
      · rw [if_neg e1] at h
        by_cases e5 : atb t (t 137 6) = 32
        · rw [if_pos e5] at h
          exact ih _ (by decide) _ _ h
        · rw [if_neg e5] at h
          by_cases e6 : atb t (t 137 6) ≠ 10
          · rw [if_pos e6] at h
            by_cases e7 : 0 ≤ atb (up2 t 140 ((t 137 5).toNat) (t 137 6)) (t 137 6)
            · rw [if_pos e7] at h
              by_cases e8 : ltz (atb (up2 t 140 ((t 137 5).toNat) (t 137 6)) (t 137 6)) = 0
              · rw [if_pos e8] at h
                by_cases e9 : dgz (atb (up2 t 140 ((t 137 5).toNat) (t 137 6)) (t 137 6)) = 0
                · rw [if_pos e9] at h
                  rcases bo_inv h with ⟨h9, h8⟩ | ⟨z40, t40, h9, h⟩
                  · exact ih _ (by decide) _ _ h9
                  clear h9
                  cases h
                · rw [if_neg e9] at h
                  rcases bo_inv h with ⟨h9, h8⟩ | ⟨z41, t41, h9, h⟩
                  · exact ih _ (by decide) _ _ h9
                  clear h9
                  cases h
              · rw [if_neg e8] at h
                rcases bo_inv h with ⟨h9, h8⟩ | ⟨z42, t42, h9, h⟩
                · exact ih _ (by decide) _ _ h9
                clear h9
                cases h
            · rw [if_neg e7] at h
              cases h
          · rw [if_neg e6] at h
            exact ih _ (by decide) _ _ h
    · have h : cM24_12 (it cB f) (xs.getD 0 0) t = some none := h
      generalize xs.getD 0 0 = y1 at h
      unfold cM24_12 at h
      by_cases e1 : 2000 < t 137 5
      · rw [if_pos e1] at h
        cases h
      · rw [if_neg e1] at h
        by_cases e2 : y1 = 3
        · rw [if_pos e2] at h
          cases h
        · rw [if_neg e2] at h
          by_cases e3 : y1 = 4
          · rw [if_pos e3] at h
            cases h
          · rw [if_neg e3] at h
            rcases bo_inv h with ⟨h9, h8⟩ | ⟨z8, t8, h9, h⟩
            · exact ih _ (by decide) _ _ h9
            clear h9
            exact ih _ (by decide) _ _ h
theorem c_scan9 {t : tab} : cG 13 [] t ≠ some none := fun h => by
  obtain ⟨f, hf⟩ := lim_ex h
  exact c_nothrow f _ (by decide) _ _ hf
theorem fdl_lt {t : tab} {w : Int} : ∀ m : Nat, fdl t w m < m ∧ -1 ≤ fdl t w m
  | 0 => ⟨by show (-1 : Int) < 0; omega, by show (-1 : Int) ≤ -1; omega⟩
  | m + 1 => by
    have := fdl_lt (t := t) (w := w) m
    show (if t 106 m = w then (m : Int) else fdl t w m) < ((m + 1 : Nat) : Int) ∧ -1 ≤ (if t 106 m = w then (m : Int) else fdl t w m)
    split <;> omega
theorem fdn_loop {t : tab} {w : Int} : ∀ (d i : Nat) (f0 : Nat) (y : Int), (t 105 3).toNat - i = d → f0 ≤ i → y = (if (f0 : Int) ≤ fdl t w i then fdl t w i else -1) → (i ≤ (t 105 3).toNat) → cG 63 [w, y, (i : Int)] t = some (some (if (f0 : Int) ≤ fdl t w (t 105 3).toNat then fdl t w (t 105 3).toNat else -1, t)) := by
  intro d
  induction d with
  | zero =>
    intro i f0 y hd hf hy hi
    rw [cG_39_10]
    unfold cM39_10
    rw [if_pos (by omega), hy, show i = (t 105 3).toNat by omega]
  | succ d ih =>
    intro i f0 y hd hf hy hi
    rw [cG_39_10]
    unfold cM39_10
    rw [if_neg (by omega)]
    have e0 : fdl t w (i + 1) = (if t 106 i = w then (i : Int) else fdl t w i) := rfl
    have e1 : ((i : Int)).toNat = i := Int.toNat_natCast i
    rw [e1]
    by_cases e : t 106 i = w
    · rw [if_neg (fun h => h e), show ((i : Int) + 1) = ((i + 1 : Nat) : Int) from rfl]
      refine ih (i + 1) f0 _ (by omega) (by omega) ?_ (by omega)
      rw [e0, if_pos e, if_pos (by omega)]
    · rw [if_pos e, show ((i : Int) + 1) = ((i + 1 : Nat) : Int) from rfl]
      refine ih (i + 1) f0 _ (by omega) (by omega) ?_ (by omega)
      rw [e0, if_neg e]
      exact hy
theorem s_fdn {t : tab} {w f : Int} : cG 14 [w, f] t = some (some (fdn t w f, t)) := by
  rw [cG_39]
  unfold cM39
  obtain ⟨i, hi⟩ : ∃ i : Nat, mxx f 0 = (i : Int) := ⟨(mxx f 0).toNat, by unfold mxx; split <;> omega⟩
  unfold fdn
  rw [hi]
  have hl := fdl_lt (t := t) (w := w) (t 105 3).toNat
  by_cases h : i ≤ (t 105 3).toNat
  · refine fdn_loop _ i i _ rfl (Nat.le_refl _) ?_ h
    have := fdl_lt (t := t) (w := w) i
    rw [if_neg (by omega)]
  · rw [cG_39_10]
    unfold cM39_10
    rw [if_pos (by omega), if_neg (by omega)]
