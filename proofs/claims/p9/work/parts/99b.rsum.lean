/-! What small methods of the reference answer. -/
theorem q_inz {t : tab} {a b c : Int} : rG 0 [a, b, c] t = some (some (inz a b c, t)) := by
  rw [rG_120]
  unfold rM120 inz
  repeat' split
  all_goals first | rfl | omega
theorem q_ltz {t : tab} {a : Int} : rG 1 [a] t = some (some (ltz a, t)) := by
  rw [rG_124]
  unfold rM124 ltz
  repeat' split
  all_goals first | rfl | omega
theorem q_dgz {t : tab} {a : Int} : rG 2 [a] t = some (some (dgz a, t)) := by
  rw [rG_125]
  unfold rM125 dgz
  repeat' split
  all_goals first | rfl | omega
theorem q_put1 {t : tab} {a : Int} : rG 11 [a] t = some (some (ptz t, pt1 t a)) := by
  rw [rG_140]
  unfold rM140 ptz pt1
  repeat' split
  all_goals first | rfl | omega
theorem q_pt2 {t : tab} {a b : Int} : rG 12 [a, b] t = some (some (0, pt2 t a b)) := by
  rw [rG_147]
  unfold rM147 pt2
  repeat' split
  all_goals first | rfl | omega
theorem q_prt {t : tab} : rG 13 [] t = some (some (0, prt t)) := by
  rw [rG_142]
  unfold rM142 prt
  repeat' split
  all_goals first | rfl | omega
theorem q_sto {t : tab} {a b : Int} : rG 18 [a, b] t = some (some (0, sto t a b)) := by
  rw [rG_158]
  unfold rM158 sto
  repeat' split
  all_goals first | rfl | omega
theorem q_sgo {t : tab} : rG 21 [] t = some (some (sgo t, t)) := by
  rw [rG_152]
  unfold rM152 sgo
  repeat' split
  all_goals first | rfl | omega
theorem q_bad1 {t : tab} : rG 6 [] t = some (some (0, t)) := by
  rw [rG_132]
  rfl
theorem q_bad0 {t : tab} : rG 7 [] t = some (some (0, t)) := by
  rw [rG_131]
  rfl
theorem q_rfg {t : tab} : rG 14 [] t = some (some (0, rfg t)) := by
  rw [rG_138]
  rfl
theorem q_rop {t : tab} : rG 15 [] t = some (some (0, rop t)) := by
  rw [rG_135]
  rfl
/-- methods that change nothing -/
theorem r_pure : ∀ (f i : Nat), i ∈ [3, 5, 9, 16, 19, 20, 40, 41, 48, 49, 50, 51] → ∀ xs t z t3, it rB f i xs t = some (some (z, t3)) → t3 = t
  | 0, _, _, _, _, _, _, h => by cases h
  | f + 1, i, hi, xs, t, z, t3, h => by
    have ih := r_pure f
    simp only [List.mem_cons, List.not_mem_nil, or_false] at hi
    rcases hi with rfl | rfl | rfl | rfl | rfl | rfl | rfl | rfl | rfl | rfl | rfl | rfl
    · have h : rM126 (it rB f) t = some (some (z, t3)) := h
      unfold rM126 at h
      exact ih _ (by decide) _ _ _ _ h
    · have h : rM127 (it rB f) (xs.getD 0 0) t = some (some (z, t3)) := h
      generalize xs.getD 0 0 = x1 at h
      unfold rM127 at h
      by_cases e1 : t 170 4 = 2
      · rw [if_pos e1] at h
        by_cases e2 : imi (t 170 6) (t 170 5) = txn (x1 : Int)
        · rw [if_pos e2] at h
          exact ih _ (by decide) _ _ _ _ h
        · rw [if_neg e2] at h
          cases h; rfl
      · rw [if_neg e1] at h
        by_cases e3 : t 170 4 ≠ 4
        · rw [if_pos e3] at h
          cases h; rfl
        · rw [if_neg e3] at h
          by_cases e4 : imi (t 170 6) (t 170 5) = txn (x1 : Int)
          · rw [if_pos e4] at h
            exact ih _ (by decide) _ _ _ _ h
          · rw [if_neg e4] at h
            cases h; rfl
    · have h : rM134 (it rB f) t = some (some (z, t3)) := h
      unfold rM134 at h
      exact ih _ (by decide) _ _ _ _ h
    · have h : rM130 (it rB f) (xs.getD 0 0) (xs.getD 1 0) t = some (some (z, t3)) := h
      generalize xs.getD 0 0 = x1 at h
      generalize xs.getD 1 0 = x2 at h
      unfold rM130 at h
      by_cases e1 : t 170 4 ≠ 1
      · rw [if_pos e1] at h
        cases h; rfl
      · rw [if_neg e1] at h
        by_cases e2 : x1 < x2
        · rw [if_pos e2] at h
          cases h; rfl
        · rw [if_neg e2] at h
          cases h; rfl
    · have h : rM148 (it rB f) (xs.getD 0 0) t = some (some (z, t3)) := h
      generalize xs.getD 0 0 = x1 at h
      unfold rM148 at h
      exact ih _ (by decide) _ _ _ _ h
    · have h : rM151 (it rB f) t = some (some (z, t3)) := h
      unfold rM151 at h
      rcases bo_inv h with ⟨h9, h8⟩ | ⟨z1, t1, h9, h⟩
      · cases h8
      clear h9
      by_cases e1 : z1 = 0
      · rw [if_pos e1] at h
        rcases bo_inv h with ⟨h9, h8⟩ | ⟨z3, t3, h9, h⟩
        · cases h8
        clear h9
        by_cases e2 : z3 = 0
        · rw [if_pos e2] at h
          rcases bo_inv h with ⟨h9, h8⟩ | ⟨z5, t5, h9, h⟩
          · cases h8
          clear h9
          by_cases e3 : z5 = 0
          · rw [if_pos e3] at h
            rcases bo_inv h with ⟨h9, h8⟩ | ⟨z7, t7, h9, h⟩
            · cases h8
            clear h9
            by_cases e4 : z7 = 0
            · rw [if_pos e4] at h
              rcases bo_inv h with ⟨h9, h8⟩ | ⟨z9, t9, h9, h⟩
              · cases h8
              clear h9
              by_cases e5 : z9 = 0
              · rw [if_pos e5] at h
                rcases bo_inv h with ⟨h9, h8⟩ | ⟨z11, t11, h9, h⟩
                · cases h8
                clear h9
                by_cases e6 : z11 ≠ 0
                · rw [if_pos e6] at h
                  cases h; rfl
                · rw [if_neg e6] at h
                  rcases bo_inv h with ⟨h9, h8⟩ | ⟨z13, t13, h9, h⟩
                  · cases h8
                  clear h9
                  by_cases e7 : z13 = 0
                  · rw [if_pos e7] at h
                    rcases bo_inv h with ⟨h9, h8⟩ | ⟨z15, t15, h9, h⟩
                    · cases h8
                    clear h9
                    by_cases e8 : z15 ≠ 0
                    · rw [if_pos e8] at h
                      cases h; rfl
                    · rw [if_neg e8] at h
                      rcases bo_inv h with ⟨h9, h8⟩ | ⟨z17, t17, h9, h⟩
                      · cases h8
                      clear h9
                      by_cases e9 : z17 ≠ 0
                      · rw [if_pos e9] at h
                        cases h; rfl
                      · rw [if_neg e9] at h
                        rcases bo_inv h with ⟨h9, h8⟩ | ⟨z19, t19, h9, h⟩
                        · cases h8
                        clear h9
                        by_cases e10 : z19 ≠ 0
                        · rw [if_pos e10] at h
                          cases h; rfl
                        · rw [if_neg e10] at h
                          rcases bo_inv h with ⟨h9, h8⟩ | ⟨z21, t21, h9, h⟩
                          · cases h8
                          clear h9
                          by_cases e11 : z21 = 0
                          · rw [if_pos e11] at h
                            rcases bo_inv h with ⟨h9, h8⟩ | ⟨z23, t23, h9, h⟩
                            · cases h8
                            clear h9
                            by_cases e12 : z23 ≠ 0
                            · rw [if_pos e12] at h
                              cases h; rfl
                            · rw [if_neg e12] at h
                              rcases bo_inv h with ⟨h9, h8⟩ | ⟨z25, t25, h9, h⟩
                              · cases h8
                              clear h9
                              by_cases e13 : z25 = 0
                              · rw [if_pos e13] at h
                                rcases bo_inv h with ⟨h9, h8⟩ | ⟨z27, t27, h9, h⟩
                                · cases h8
                                clear h9
                                by_cases e14 : z27 ≠ 0
                                · rw [if_pos e14] at h
                                  cases h; rfl
                                · rw [if_neg e14] at h
                                  rcases bo_inv h with ⟨h9, h8⟩ | ⟨z29, t29, h9, h⟩
                                  · cases h8
                                  clear h9
                                  by_cases e15 : z29 = 0
                                  · rw [if_pos e15] at h
                                    rcases bo_inv h with ⟨h9, h8⟩ | ⟨z31, t31, h9, h⟩
                                    · cases h8
                                    clear h9
                                    by_cases e16 : z31 ≠ 0
                                    · rw [if_pos e16] at h
                                      cases h; rfl
                                    · rw [if_neg e16] at h
                                      rcases bo_inv h with ⟨h9, h8⟩ | ⟨z33, t33, h9, h⟩
                                      · cases h8
                                      clear h9
                                      by_cases e17 : z33 ≠ 0
                                      · rw [if_pos e17] at h
                                        cases h; rfl
                                      · rw [if_neg e17] at h
                                        rcases bo_inv h with ⟨h9, h8⟩ | ⟨z35, t35, h9, h⟩
                                        · cases h8
                                        clear h9
                                        by_cases e18 : z35 = 0
                                        · rw [if_pos e18] at h
                                          cases h; rfl
                                        · rw [if_neg e18] at h
                                          cases h; rfl
                                  · rw [if_neg e15] at h
                                    cases h; rfl
                              · rw [if_neg e13] at h
                                cases h; rfl
                          · rw [if_neg e11] at h
                            cases h; rfl
                  · rw [if_neg e7] at h
                    cases h; rfl
              · rw [if_neg e5] at h
                cases h; rfl
            · rw [if_neg e4] at h
              cases h; rfl
          · rw [if_neg e3] at h
            cases h; rfl
        · rw [if_neg e2] at h
          cases h; rfl
      · rw [if_neg e1] at h
        cases h; rfl
    · have h : rM126_15 (it rB f) (xs.getD 0 0) (xs.getD 1 0) t = some (some (z, t3)) := h
      generalize xs.getD 0 0 = y2 at h
      generalize xs.getD 1 0 = y3 at h
      unfold rM126_15 at h
      by_cases e1 : txn (4 : Int) ≤ ipl (ipl y3 y2) 1
      · rw [if_pos e1] at h
        cases h; rfl
      · rw [if_neg e1] at h
        by_cases e2 : txc (4 : Int) y3 ≠ 32
        · rw [if_pos e2] at h
          exact ih _ (by decide) _ _ _ _ h
        · rw [if_neg e2] at h
          by_cases e3 : txc (4 : Int) (ipl (ipl y3 y2) 1) ≠ 32
          · rw [if_pos e3] at h
            exact ih _ (by decide) _ _ _ _ h
          · rw [if_neg e3] at h
            exact ih _ (by decide) _ _ _ _ h
    · have h : rM126_61 (it rB f) (xs.getD 0 0) (xs.getD 1 0) (xs.getD 2 0) (xs.getD 3 0) t = some (some (z, t3)) := h
      generalize xs.getD 0 0 = y2 at h
      generalize xs.getD 1 0 = y3 at h
      generalize xs.getD 2 0 = y4 at h
      generalize xs.getD 3 0 = y5 at h
      unfold rM126_61 at h
      by_cases e1 : y2 ≤ y5
      · rw [if_pos e1] at h
        by_cases e2 : y4 = 0
        · rw [if_pos e2] at h
          exact ih _ (by decide) _ _ _ _ h
        · rw [if_neg e2] at h
          cases h; rfl
      · rw [if_neg e1] at h
        by_cases e3 : y4 = 0
        · rw [if_pos e3] at h
          exact ih _ (by decide) _ _ _ _ h
        · rw [if_neg e3] at h
          by_cases e4 : txc (4 : Int) (ipl (ipl y3 1) y5) ≠ t 171 ((ipl (t 170 5) y5).toNat)
          · rw [if_pos e4] at h
            exact ih _ (by decide) _ _ _ _ h
          · rw [if_neg e4] at h
            exact ih _ (by decide) _ _ _ _ h
    · have h : rM127_36 (it rB f) (xs.getD 0 0) (xs.getD 1 0) t = some (some (z, t3)) := h
      generalize xs.getD 0 0 = x1 at h
      generalize xs.getD 1 0 = y2 at h
      unfold rM127_36 at h
      by_cases e1 : txn (x1 : Int) ≤ y2
      · rw [if_pos e1] at h
        cases h; rfl
      · rw [if_neg e1] at h
        by_cases e2 : t 171 ((ipl (t 170 5) y2).toNat) = txc (x1 : Int) y2
        · rw [if_pos e2] at h
          exact ih _ (by decide) _ _ _ _ h
        · rw [if_neg e2] at h
          cases h; rfl
    · have h : rM134_7 (it rB f) (xs.getD 0 0) t = some (some (z, t3)) := h
      generalize xs.getD 0 0 = y1 at h
      unfold rM134_7 at h
      by_cases e1 : y1 < 0
      · rw [if_pos e1] at h
        cases h; rfl
      · rw [if_neg e1] at h
        by_cases e2 : imi (t 173 y1.toNat) (t 172 y1.toNat) ≠ imi (t 170 6) (t 170 5)
        · rw [if_pos e2] at h
          exact ih _ (by decide) _ _ _ _ h
        · rw [if_neg e2] at h
          exact ih _ (by decide) _ _ _ _ h
    · have h : rM134_44 (it rB f) (xs.getD 0 0) (xs.getD 1 0) (xs.getD 2 0) t = some (some (z, t3)) := h
      generalize xs.getD 0 0 = y1 at h
      generalize xs.getD 1 0 = y2 at h
      generalize xs.getD 2 0 = y3 at h
      unfold rM134_44 at h
      by_cases e1 : imi (t 170 6) (t 170 5) ≤ y3
      · rw [if_pos e1] at h
        by_cases e2 : y2 = 0
        · rw [if_pos e2] at h
          exact ih _ (by decide) _ _ _ _ h
        · rw [if_neg e2] at h
          cases h; rfl
      · rw [if_neg e1] at h
        by_cases e3 : y2 = 0
        · rw [if_pos e3] at h
          exact ih _ (by decide) _ _ _ _ h
        · rw [if_neg e3] at h
          by_cases e4 : t 171 ((ipl (t 172 y1.toNat) y3).toNat) ≠ t 171 ((ipl (t 170 5) y3).toNat)
          · rw [if_pos e4] at h
            exact ih _ (by decide) _ _ _ _ h
          · rw [if_neg e4] at h
            exact ih _ (by decide) _ _ _ _ h
    · have h : rM148_5 (it rB f) (xs.getD 0 0) (xs.getD 1 0) t = some (some (z, t3)) := h
      generalize xs.getD 0 0 = y1 at h
      generalize xs.getD 1 0 = y2 at h
      unfold rM148_5 at h
      by_cases e1 : t 170 2 ≤ y2
      · rw [if_pos e1] at h
        by_cases e2 : y2 = t 170 2
        · rw [if_pos e2] at h
          cases h; rfl
        · rw [if_neg e2] at h
          by_cases e3 : t 171 y2.toNat = y1
          · rw [if_pos e3] at h
            by_cases e4 : ipl y2 1 = t 170 2
            · rw [if_pos e4] at h
              cases h; rfl
            · rw [if_neg e4] at h
              by_cases e5 : t 171 ((ipl y2 1).toNat) ≠ 61
              · rw [if_pos e5] at h
                cases h; rfl
              · rw [if_neg e5] at h
                by_cases e6 : y1 = 61
                · rw [if_pos e6] at h
                  cases h; rfl
                · rw [if_neg e6] at h
                  by_cases e7 : y1 = 33
                  · rw [if_pos e7] at h
                    cases h; rfl
                  · rw [if_neg e7] at h
                    cases h; rfl
          · rw [if_neg e3] at h
            cases h; rfl
      · rw [if_neg e1] at h
        by_cases e8 : t 171 y2.toNat = 32
        · rw [if_pos e8] at h
          exact ih _ (by decide) _ _ _ _ h
        · rw [if_neg e8] at h
          by_cases e9 : t 171 y2.toNat ≠ 10
          · rw [if_pos e9] at h
            by_cases e10 : y2 = t 170 2
            · rw [if_pos e10] at h
              cases h; rfl
            · rw [if_neg e10] at h
              by_cases e11 : t 171 y2.toNat = y1
              · rw [if_pos e11] at h
                by_cases e12 : ipl y2 1 = t 170 2
                · rw [if_pos e12] at h
                  cases h; rfl
                · rw [if_neg e12] at h
                  by_cases e13 : t 171 ((ipl y2 1).toNat) ≠ 61
                  · rw [if_pos e13] at h
                    cases h; rfl
                  · rw [if_neg e13] at h
                    by_cases e14 : y1 = 61
                    · rw [if_pos e14] at h
                      cases h; rfl
                    · rw [if_neg e14] at h
                      by_cases e15 : y1 = 33
                      · rw [if_pos e15] at h
                        cases h; rfl
                      · rw [if_neg e15] at h
                        cases h; rfl
              · rw [if_neg e11] at h
                cases h; rfl
          · rw [if_neg e9] at h
            exact ih _ (by decide) _ _ _ _ h
theorem pu_126 {xs : List Int} {t t3 : tab} {z : Int} (h : rG 3 xs t = some (some (z, t3))) : t3 = t := by
  obtain ⟨f, hf⟩ := lim_ex h
  exact r_pure f _ (by decide) _ _ _ _ hf
theorem pu_127 {xs : List Int} {t t3 : tab} {z : Int} (h : rG 5 xs t = some (some (z, t3))) : t3 = t := by
  obtain ⟨f, hf⟩ := lim_ex h
  exact r_pure f _ (by decide) _ _ _ _ hf
theorem pu_130 {xs : List Int} {t t3 : tab} {z : Int} (h : rG 16 xs t = some (some (z, t3))) : t3 = t := by
  obtain ⟨f, hf⟩ := lim_ex h
  exact r_pure f _ (by decide) _ _ _ _ hf
theorem pu_134 {xs : List Int} {t t3 : tab} {z : Int} (h : rG 9 xs t = some (some (z, t3))) : t3 = t := by
  obtain ⟨f, hf⟩ := lim_ex h
  exact r_pure f _ (by decide) _ _ _ _ hf
theorem pu_148 {xs : List Int} {t t3 : tab} {z : Int} (h : rG 19 xs t = some (some (z, t3))) : t3 = t := by
  obtain ⟨f, hf⟩ := lim_ex h
  exact r_pure f _ (by decide) _ _ _ _ hf
theorem pu_151 {xs : List Int} {t t3 : tab} {z : Int} (h : rG 20 xs t = some (some (z, t3))) : t3 = t := by
  obtain ⟨f, hf⟩ := lim_ex h
  exact r_pure f _ (by decide) _ _ _ _ hf
