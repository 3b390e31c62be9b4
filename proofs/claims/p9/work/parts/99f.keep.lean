/-! No method of the reference's but read writes the look table. -/
def LKk (k j : Nat) : Prop := 181 ≤ k ∧ k ≤ 185 ∨ k = 177 ∧ j = 18
theorem up_k {r : tab} {q p k j : Nat} {z : Int} (h : ¬ (k = q ∧ j = p)) : up2 r q p z k j = r k j := if_neg h
theorem kp_pt1 {t : tab} {a : Int} {k j : Nat} (hk : LKk k j) : pt1 t a k j = t k j := by
  unfold LKk at hk
  exact (up_k (by omega)).trans (up_k (by omega))
theorem kp_pt2 {t : tab} {a b : Int} {k j : Nat} (hk : LKk k j) : pt2 t a b k j = t k j := (kp_pt1 hk).trans (kp_pt1 hk)
theorem kp_prt {t : tab} {k j : Nat} (hk : LKk k j) : prt t k j = t k j := by
  have h2 := hk
  unfold LKk at h2
  exact (up_k (by omega)).trans (kp_pt1 hk)
theorem kp_sto {t : tab} {a b : Int} {k j : Nat} (hk : LKk k j) : sto t a b k j = t k j := kp_pt2 hk
theorem kp_rfg {t : tab} {k j : Nat} (hk : LKk k j) : rfg t k j = t k j := by
  unfold LKk at hk
  exact (up_k (by omega)).trans ((up_k (by omega)).trans ((up_k (by omega)).trans ((up_k (by omega)).trans (up_k (by omega)))))
theorem kp_rop {t : tab} {k j : Nat} (hk : LKk k j) : rop t k j = t k j := by
  unfold LKk at hk
  exact (up_k (by omega)).trans (up_k (by omega))
def KPr (rc : MRq) : Prop := ∀ i, i ∈ [0, 1, 2, 3, 4, 5, 6, 7, 8, 9, 10, 11, 12, 13, 14, 15, 16, 17, 18, 19, 20, 21, 22, 23, 24, 25, 26, 27, 28, 29, 30, 31, 32, 33, 34, 35, 36, 37, 39, 40, 41, 42, 43, 44, 45, 46, 47, 48, 49, 50, 51, 52, 53, 54, 55, 56, 57, 58, 59, 60, 61, 62, 63, 64, 65] → ∀ xs t z t3, rc i xs t = some (some (z, t3)) → ∀ k j, LKk k j → t3 k j = t k j
set_option maxHeartbeats 4000000 in
theorem kp_rM120 {rc : MRq} (ih : KPr rc) {x0 x2 x4 : Int} {t t3 : tab} {z : Int} (h : rM120 rc x0 x2 x4 t = some (some (z, t3))) {k j : Nat} (hk : LKk k j) : t3 k j = t k j := by
  have hk2 : 181 ≤ k ∧ k ≤ 185 ∨ k = 177 ∧ j = 18 := hk
  unfold rM120 at h
  by_cases e1 : x0 < x2
  · rw [if_pos e1] at h
    cases h
    exact rfl
  · rw [if_neg e1] at h
    by_cases e2 : x4 < x0
    · rw [if_pos e2] at h
      cases h
      exact rfl
    · rw [if_neg e2] at h
      cases h
      exact rfl
set_option maxHeartbeats 4000000 in
theorem kp_rM124 {rc : MRq} (ih : KPr rc) {x0 : Int} {t t3 : tab} {z : Int} (h : rM124 rc x0 t = some (some (z, t3))) {k j : Nat} (hk : LKk k j) : t3 k j = t k j := by
  have hk2 : 181 ≤ k ∧ k ≤ 185 ∨ k = 177 ∧ j = 18 := hk
  unfold rM124 at h
  by_cases e1 : x0 < 97
  · rw [if_pos e1] at h
    cases h
    exact rfl
  · rw [if_neg e1] at h
    by_cases e2 : 122 < x0
    · rw [if_pos e2] at h
      cases h
      exact rfl
    · rw [if_neg e2] at h
      cases h
      exact rfl
set_option maxHeartbeats 4000000 in
theorem kp_rM125 {rc : MRq} (ih : KPr rc) {x0 : Int} {t t3 : tab} {z : Int} (h : rM125 rc x0 t = some (some (z, t3))) {k j : Nat} (hk : LKk k j) : t3 k j = t k j := by
  have hk2 : 181 ≤ k ∧ k ≤ 185 ∨ k = 177 ∧ j = 18 := hk
  unfold rM125 at h
  by_cases e1 : x0 < 48
  · rw [if_pos e1] at h
    cases h
    exact rfl
  · rw [if_neg e1] at h
    by_cases e2 : 57 < x0
    · rw [if_pos e2] at h
      cases h
      exact rfl
    · rw [if_neg e2] at h
      cases h
      exact rfl
set_option maxHeartbeats 4000000 in
theorem kp_rM126 {rc : MRq} (ih : KPr rc) {t t3 : tab} {z : Int} (h : rM126 rc t = some (some (z, t3))) {k j : Nat} (hk : LKk k j) : t3 k j = t k j := by
  have hk2 : 181 ≤ k ∧ k ≤ 185 ∨ k = 177 ∧ j = 18 := hk
  unfold rM126 at h
  exact (ih _ (by decide) _ _ _ _ h k j hk).trans (rfl)
set_option maxHeartbeats 4000000 in
theorem kp_rM123 {rc : MRq} (ih : KPr rc) {t t3 : tab} {z : Int} (h : rM123 rc t = some (some (z, t3))) {k j : Nat} (hk : LKk k j) : t3 k j = t k j := by
  have hk2 : 181 ≤ k ∧ k ≤ 185 ∨ k = 177 ∧ j = 18 := hk
  unfold rM123 at h
  exact (ih _ (by decide) _ _ _ _ h k j hk).trans (rfl)
set_option maxHeartbeats 4000000 in
theorem kp_rM127 {rc : MRq} (ih : KPr rc) {x1 : Int} {t t3 : tab} {z : Int} (h : rM127 rc x1 t = some (some (z, t3))) {k j : Nat} (hk : LKk k j) : t3 k j = t k j := by
  have hk2 : 181 ≤ k ∧ k ≤ 185 ∨ k = 177 ∧ j = 18 := hk
  unfold rM127 at h
  by_cases e1 : t 170 4 = 2
  · rw [if_pos e1] at h
    by_cases e2 : imi (t 170 6) (t 170 5) = txn (x1 : Int)
    · rw [if_pos e2] at h
      exact (ih _ (by decide) _ _ _ _ h k j hk).trans (rfl)
    · rw [if_neg e2] at h
      cases h
      exact rfl
  · rw [if_neg e1] at h
    by_cases e3 : t 170 4 ≠ 4
    · rw [if_pos e3] at h
      cases h
      exact rfl
    · rw [if_neg e3] at h
      by_cases e4 : imi (t 170 6) (t 170 5) = txn (x1 : Int)
      · rw [if_pos e4] at h
        exact (ih _ (by decide) _ _ _ _ h k j hk).trans (rfl)
      · rw [if_neg e4] at h
        cases h
        exact rfl
set_option maxHeartbeats 4000000 in
theorem kp_rM132 {rc : MRq} (ih : KPr rc) {t t3 : tab} {z : Int} (h : rM132 rc t = some (some (z, t3))) {k j : Nat} (hk : LKk k j) : t3 k j = t k j := by
  have hk2 : 181 ≤ k ∧ k ≤ 185 ∨ k = 177 ∧ j = 18 := hk
  unfold rM132 at h
  cases h
  exact rfl
set_option maxHeartbeats 4000000 in
theorem kp_rM131 {rc : MRq} (ih : KPr rc) {t t3 : tab} {z : Int} (h : rM131 rc t = some (some (z, t3))) {k j : Nat} (hk : LKk k j) : t3 k j = t k j := by
  have hk2 : 181 ≤ k ∧ k ≤ 185 ∨ k = 177 ∧ j = 18 := hk
  unfold rM131 at h
  cases h
  exact rfl
set_option maxHeartbeats 4000000 in
theorem kp_rM136 {rc : MRq} (ih : KPr rc) {x1 : Int} {t t3 : tab} {z : Int} (h : rM136 rc x1 t = some (some (z, t3))) {k j : Nat} (hk : LKk k j) : t3 k j = t k j := by
  have hk2 : 181 ≤ k ∧ k ≤ 185 ∨ k = 177 ∧ j = 18 := hk
  unfold rM136 at h
  rcases bo_inv h with ⟨h9, h8⟩ | ⟨z1, t1, h9, h⟩
  · cases h8
  have kt1 : t1 k j = t k j := (ih _ (by decide) _ _ _ _ h9 k j hk).trans (rfl)
  clear h9
  by_cases e1 : z1 ≠ 0
  · rw [if_pos e1] at h
    rcases bo_inv h with ⟨h9, h8⟩ | ⟨z3, t3, h9, h⟩
    · cases h8
    have kt3 : t3 k j = t k j := (ih _ (by decide) _ _ _ _ h9 k j hk).trans (rfl)
    clear h9
    cases h
    exact kt3
  · rw [if_neg e1] at h
    cases h
    exact rfl
set_option maxHeartbeats 4000000 in
theorem kp_rM134 {rc : MRq} (ih : KPr rc) {t t3 : tab} {z : Int} (h : rM134 rc t = some (some (z, t3))) {k j : Nat} (hk : LKk k j) : t3 k j = t k j := by
  have hk2 : 181 ≤ k ∧ k ≤ 185 ∨ k = 177 ∧ j = 18 := hk
  unfold rM134 at h
  exact (ih _ (by decide) _ _ _ _ h k j hk).trans (rfl)
set_option maxHeartbeats 4000000 in
theorem kp_rM133 {rc : MRq} (ih : KPr rc) {x1 x2 : Int} {t t3 : tab} {z : Int} (h : rM133 rc x1 x2 t = some (some (z, t3))) {k j : Nat} (hk : LKk k j) : t3 k j = t k j := by
  have hk2 : 181 ≤ k ∧ k ≤ 185 ∨ k = 177 ∧ j = 18 := hk
  unfold rM133 at h
  rcases bo_inv h with ⟨h9, h8⟩ | ⟨z1, t1, h9, h⟩
  · cases h8
  have kt1 : t1 k j = t k j := (ih _ (by decide) _ _ _ _ h9 k j hk).trans (rfl)
  clear h9
  by_cases e1 : z1 < 0
  · rw [if_pos e1] at h
    rcases bo_inv h with ⟨h9, h8⟩ | ⟨z29, t29, h9, h⟩
    · cases h8
    have kt29 : t29 k j = t k j := (ih _ (by decide) _ _ _ _ h9 k j hk).trans ((up_k (by omega)).trans ((up_k (by omega)).trans ((up_k (by omega)).trans ((up_k (by omega)).trans ((up_k (by omega)).trans ((up_k (by omega)).trans (rfl)))))))
    clear h9
    cases h
    exact kt29
  · rw [if_neg e1] at h
    by_cases e2 : t 176 z1.toNat ≠ t 170 15
    · rw [if_pos e2] at h
      rcases bo_inv h with ⟨h9, h8⟩ | ⟨z61, t61, h9, h⟩
      · cases h8
      have kt61 : t61 k j = t k j := (ih _ (by decide) _ _ _ _ h9 k j hk).trans ((up_k (by omega)).trans ((up_k (by omega)).trans ((up_k (by omega)).trans ((up_k (by omega)).trans ((up_k (by omega)).trans ((up_k (by omega)).trans (rfl)))))))
      clear h9
      cases h
      exact kt61
    · rw [if_neg e2] at h
      cases h
      exact rfl
set_option maxHeartbeats 4000000 in
theorem kp_rM140 {rc : MRq} (ih : KPr rc) {x1 : Int} {t t3 : tab} {z : Int} (h : rM140 rc x1 t = some (some (z, t3))) {k j : Nat} (hk : LKk k j) : t3 k j = t k j := by
  have hk2 : 181 ≤ k ∧ k ≤ 185 ∨ k = 177 ∧ j = 18 := hk
  unfold rM140 at h
  cases h
  exact (up_k (by omega)).trans ((up_k (by omega)).trans (rfl))
set_option maxHeartbeats 4000000 in
theorem kp_rM147 {rc : MRq} (ih : KPr rc) {x1 x2 : Int} {t t3 : tab} {z : Int} (h : rM147 rc x1 x2 t = some (some (z, t3))) {k j : Nat} (hk : LKk k j) : t3 k j = t k j := by
  have hk2 : 181 ≤ k ∧ k ≤ 185 ∨ k = 177 ∧ j = 18 := hk
  unfold rM147 at h
  cases h
  exact (kp_pt1 hk).trans ((kp_pt1 hk).trans (rfl))
set_option maxHeartbeats 4000000 in
theorem kp_rM142 {rc : MRq} (ih : KPr rc) {t t3 : tab} {z : Int} (h : rM142 rc t = some (some (z, t3))) {k j : Nat} (hk : LKk k j) : t3 k j = t k j := by
  have hk2 : 181 ≤ k ∧ k ≤ 185 ∨ k = 177 ∧ j = 18 := hk
  unfold rM142 at h
  cases h
  exact (up_k (by omega)).trans ((kp_pt1 hk).trans (rfl))
set_option maxHeartbeats 4000000 in
theorem kp_rM138 {rc : MRq} (ih : KPr rc) {t t3 : tab} {z : Int} (h : rM138 rc t = some (some (z, t3))) {k j : Nat} (hk : LKk k j) : t3 k j = t k j := by
  have hk2 : 181 ≤ k ∧ k ≤ 185 ∨ k = 177 ∧ j = 18 := hk
  unfold rM138 at h
  cases h
  exact (up_k (by omega)).trans ((up_k (by omega)).trans ((up_k (by omega)).trans ((up_k (by omega)).trans ((up_k (by omega)).trans (rfl)))))
set_option maxHeartbeats 4000000 in
theorem kp_rM135 {rc : MRq} (ih : KPr rc) {t t3 : tab} {z : Int} (h : rM135 rc t = some (some (z, t3))) {k j : Nat} (hk : LKk k j) : t3 k j = t k j := by
  have hk2 : 181 ≤ k ∧ k ≤ 185 ∨ k = 177 ∧ j = 18 := hk
  unfold rM135 at h
  cases h
  exact (up_k (by omega)).trans ((up_k (by omega)).trans (rfl))
set_option maxHeartbeats 4000000 in
theorem kp_rM130 {rc : MRq} (ih : KPr rc) {x1 x2 : Int} {t t3 : tab} {z : Int} (h : rM130 rc x1 x2 t = some (some (z, t3))) {k j : Nat} (hk : LKk k j) : t3 k j = t k j := by
  have hk2 : 181 ≤ k ∧ k ≤ 185 ∨ k = 177 ∧ j = 18 := hk
  unfold rM130 at h
  by_cases e1 : t 170 4 ≠ 1
  · rw [if_pos e1] at h
    cases h
    exact rfl
  · rw [if_neg e1] at h
    by_cases e2 : x1 < x2
    · rw [if_pos e2] at h
      cases h
      exact rfl
    · rw [if_neg e2] at h
      cases h
      exact rfl
set_option maxHeartbeats 4000000 in
theorem kp_rM137 {rc : MRq} (ih : KPr rc) {x1 : Int} {t t3 : tab} {z : Int} (h : rM137 rc x1 t = some (some (z, t3))) {k j : Nat} (hk : LKk k j) : t3 k j = t k j := by
  have hk2 : 181 ≤ k ∧ k ≤ 185 ∨ k = 177 ∧ j = 18 := hk
  unfold rM137 at h
  rcases bo_inv h with ⟨h9, h8⟩ | ⟨z2, t2, h9, h⟩
  · cases h8
  have kt2 : t2 k j = t k j := (ih _ (by decide) _ _ _ _ h9 k j hk).trans (rfl)
  clear h9
  by_cases e1 : z2 = 0
  · rw [if_pos e1] at h
    cases h
    exact rfl
  · rw [if_neg e1] at h
    rcases bo_inv h with ⟨h9, h8⟩ | ⟨z5, t5, h9, h⟩
    · cases h8
    have kt5 : t5 k j = t k j := (ih _ (by decide) _ _ _ _ h9 k j hk).trans (rfl)
    clear h9
    by_cases e2 : z5 ≠ 0
    · rw [if_pos e2] at h
      cases h
      exact (up_k (by omega)).trans ((up_k (by omega)).trans (kt5))
    · rw [if_neg e2] at h
      cases h
      exact kt5
set_option maxHeartbeats 4000000 in
theorem kp_rM158 {rc : MRq} (ih : KPr rc) {x1 x2 : Int} {t t3 : tab} {z : Int} (h : rM158 rc x1 x2 t = some (some (z, t3))) {k j : Nat} (hk : LKk k j) : t3 k j = t k j := by
  have hk2 : 181 ≤ k ∧ k ≤ 185 ∨ k = 177 ∧ j = 18 := hk
  unfold rM158 at h
  by_cases e1 : x1 ≠ 0
  · rw [if_pos e1] at h
    cases h
    exact (kp_pt2 hk).trans (rfl)
  · rw [if_neg e1] at h
    cases h
    exact (kp_pt2 hk).trans (rfl)
set_option maxHeartbeats 4000000 in
theorem kp_rM148 {rc : MRq} (ih : KPr rc) {x1 : Int} {t t3 : tab} {z : Int} (h : rM148 rc x1 t = some (some (z, t3))) {k j : Nat} (hk : LKk k j) : t3 k j = t k j := by
  have hk2 : 181 ≤ k ∧ k ≤ 185 ∨ k = 177 ∧ j = 18 := hk
  unfold rM148 at h
  exact (ih _ (by decide) _ _ _ _ h k j hk).trans (rfl)
set_option maxHeartbeats 4000000 in
theorem kp_rM151 {rc : MRq} (ih : KPr rc) {t t3 : tab} {z : Int} (h : rM151 rc t = some (some (z, t3))) {k j : Nat} (hk : LKk k j) : t3 k j = t k j := by
  have hk2 : 181 ≤ k ∧ k ≤ 185 ∨ k = 177 ∧ j = 18 := hk
  unfold rM151 at h
  rcases bo_inv h with ⟨h9, h8⟩ | ⟨z1, t1, h9, h⟩
  · cases h8
  have kt1 : t1 k j = t k j := (ih _ (by decide) _ _ _ _ h9 k j hk).trans (rfl)
  clear h9
  by_cases e1 : z1 = 0
  · rw [if_pos e1] at h
    rcases bo_inv h with ⟨h9, h8⟩ | ⟨z3, t3, h9, h⟩
    · cases h8
    have kt3 : t3 k j = t k j := (ih _ (by decide) _ _ _ _ h9 k j hk).trans (rfl)
    clear h9
    by_cases e2 : z3 = 0
    · rw [if_pos e2] at h
      rcases bo_inv h with ⟨h9, h8⟩ | ⟨z5, t5, h9, h⟩
      · cases h8
      have kt5 : t5 k j = t k j := (ih _ (by decide) _ _ _ _ h9 k j hk).trans (rfl)
      clear h9
      by_cases e3 : z5 = 0
      · rw [if_pos e3] at h
        rcases bo_inv h with ⟨h9, h8⟩ | ⟨z7, t7, h9, h⟩
        · cases h8
        have kt7 : t7 k j = t k j := (ih _ (by decide) _ _ _ _ h9 k j hk).trans (rfl)
        clear h9
        by_cases e4 : z7 = 0
        · rw [if_pos e4] at h
          rcases bo_inv h with ⟨h9, h8⟩ | ⟨z9, t9, h9, h⟩
          · cases h8
          have kt9 : t9 k j = t k j := (ih _ (by decide) _ _ _ _ h9 k j hk).trans (rfl)
          clear h9
          by_cases e5 : z9 = 0
          · rw [if_pos e5] at h
            rcases bo_inv h with ⟨h9, h8⟩ | ⟨z11, t11, h9, h⟩
            · cases h8
            have kt11 : t11 k j = t k j := (ih _ (by decide) _ _ _ _ h9 k j hk).trans (rfl)
            clear h9
            by_cases e6 : z11 ≠ 0
            · rw [if_pos e6] at h
              cases h
              exact rfl
            · rw [if_neg e6] at h
              rcases bo_inv h with ⟨h9, h8⟩ | ⟨z13, t13, h9, h⟩
              · cases h8
              have kt13 : t13 k j = t k j := (ih _ (by decide) _ _ _ _ h9 k j hk).trans (rfl)
              clear h9
              by_cases e7 : z13 = 0
              · rw [if_pos e7] at h
                rcases bo_inv h with ⟨h9, h8⟩ | ⟨z15, t15, h9, h⟩
                · cases h8
                have kt15 : t15 k j = t k j := (ih _ (by decide) _ _ _ _ h9 k j hk).trans (rfl)
                clear h9
                by_cases e8 : z15 ≠ 0
                · rw [if_pos e8] at h
                  cases h
                  exact rfl
                · rw [if_neg e8] at h
                  rcases bo_inv h with ⟨h9, h8⟩ | ⟨z17, t17, h9, h⟩
                  · cases h8
                  have kt17 : t17 k j = t k j := (ih _ (by decide) _ _ _ _ h9 k j hk).trans (rfl)
                  clear h9
                  by_cases e9 : z17 ≠ 0
                  · rw [if_pos e9] at h
                    cases h
                    exact rfl
                  · rw [if_neg e9] at h
                    rcases bo_inv h with ⟨h9, h8⟩ | ⟨z19, t19, h9, h⟩
                    · cases h8
                    have kt19 : t19 k j = t k j := (ih _ (by decide) _ _ _ _ h9 k j hk).trans (rfl)
                    clear h9
                    by_cases e10 : z19 ≠ 0
                    · rw [if_pos e10] at h
                      cases h
                      exact rfl
                    · rw [if_neg e10] at h
                      rcases bo_inv h with ⟨h9, h8⟩ | ⟨z21, t21, h9, h⟩
                      · cases h8
                      have kt21 : t21 k j = t k j := (ih _ (by decide) _ _ _ _ h9 k j hk).trans (rfl)
                      clear h9
                      by_cases e11 : z21 = 0
                      · rw [if_pos e11] at h
                        rcases bo_inv h with ⟨h9, h8⟩ | ⟨z23, t23, h9, h⟩
                        · cases h8
                        have kt23 : t23 k j = t k j := (ih _ (by decide) _ _ _ _ h9 k j hk).trans (rfl)
                        clear h9
                        by_cases e12 : z23 ≠ 0
                        · rw [if_pos e12] at h
                          cases h
                          exact rfl
                        · rw [if_neg e12] at h
                          rcases bo_inv h with ⟨h9, h8⟩ | ⟨z25, t25, h9, h⟩
                          · cases h8
                          have kt25 : t25 k j = t k j := (ih _ (by decide) _ _ _ _ h9 k j hk).trans (rfl)
                          clear h9
                          by_cases e13 : z25 = 0
                          · rw [if_pos e13] at h
                            rcases bo_inv h with ⟨h9, h8⟩ | ⟨z27, t27, h9, h⟩
                            · cases h8
                            have kt27 : t27 k j = t k j := (ih _ (by decide) _ _ _ _ h9 k j hk).trans (rfl)
                            clear h9
                            by_cases e14 : z27 ≠ 0
                            · rw [if_pos e14] at h
                              cases h
                              exact rfl
                            · rw [if_neg e14] at h
                              rcases bo_inv h with ⟨h9, h8⟩ | ⟨z29, t29, h9, h⟩
                              · cases h8
                              have kt29 : t29 k j = t k j := (ih _ (by decide) _ _ _ _ h9 k j hk).trans (rfl)
                              clear h9
                              by_cases e15 : z29 = 0
                              · rw [if_pos e15] at h
                                rcases bo_inv h with ⟨h9, h8⟩ | ⟨z31, t31, h9, h⟩
                                · cases h8
                                have kt31 : t31 k j = t k j := (ih _ (by decide) _ _ _ _ h9 k j hk).trans (rfl)
                                clear h9
                                by_cases e16 : z31 ≠ 0
                                · rw [if_pos e16] at h
                                  cases h
                                  exact rfl
                                · rw [if_neg e16] at h
                                  rcases bo_inv h with ⟨h9, h8⟩ | ⟨z33, t33, h9, h⟩
                                  · cases h8
                                  have kt33 : t33 k j = t k j := (ih _ (by decide) _ _ _ _ h9 k j hk).trans (rfl)
                                  clear h9
                                  by_cases e17 : z33 ≠ 0
                                  · rw [if_pos e17] at h
                                    cases h
                                    exact rfl
                                  · rw [if_neg e17] at h
                                    rcases bo_inv h with ⟨h9, h8⟩ | ⟨z35, t35, h9, h⟩
                                    · cases h8
                                    have kt35 : t35 k j = t k j := (ih _ (by decide) _ _ _ _ h9 k j hk).trans (rfl)
                                    clear h9
                                    by_cases e18 : z35 = 0
                                    · rw [if_pos e18] at h
                                      cases h
                                      exact rfl
                                    · rw [if_neg e18] at h
                                      cases h
                                      exact rfl
                              · rw [if_neg e15] at h
                                cases h
                                exact rfl
                          · rw [if_neg e13] at h
                            cases h
                            exact rfl
                      · rw [if_neg e11] at h
                        cases h
                        exact rfl
              · rw [if_neg e7] at h
                cases h
                exact rfl
          · rw [if_neg e5] at h
            cases h
            exact rfl
        · rw [if_neg e4] at h
          cases h
          exact rfl
      · rw [if_neg e3] at h
        cases h
        exact rfl
    · rw [if_neg e2] at h
      cases h
      exact rfl
  · rw [if_neg e1] at h
    cases h
    exact rfl
set_option maxHeartbeats 4000000 in
theorem kp_rM152 {rc : MRq} (ih : KPr rc) {t t3 : tab} {z : Int} (h : rM152 rc t = some (some (z, t3))) {k j : Nat} (hk : LKk k j) : t3 k j = t k j := by
  have hk2 : 181 ≤ k ∧ k ≤ 185 ∨ k = 177 ∧ j = 18 := hk
  unfold rM152 at h
  by_cases e1 : imi (t 170 6) (t 170 5) ≠ 1
  · rw [if_pos e1] at h
    cases h
    exact rfl
  · rw [if_neg e1] at h
    cases h
    exact rfl
set_option maxHeartbeats 4000000 in
theorem kp_rM144 {rc : MRq} (ih : KPr rc) {x1 x2 : Int} {t t3 : tab} {z : Int} (h : rM144 rc x1 x2 t = some (some (z, t3))) {k j : Nat} (hk : LKk k j) : t3 k j = t k j := by
  have hk2 : 181 ≤ k ∧ k ≤ 185 ∨ k = 177 ∧ j = 18 := hk
  unfold rM144 at h
  by_cases e1 : x1 ≤ 9
  · rw [if_pos e1] at h
    rcases bo_inv h with ⟨h9, h8⟩ | ⟨z3, t3, h9, h⟩
    · cases h8
    have kt3 : t3 k j = t k j := (ih _ (by decide) _ _ _ _ h9 k j hk).trans (rfl)
    clear h9
    by_cases e2 : z3 ≠ 0
    · rw [if_pos e2] at h
      exact (ih _ (by decide) _ _ _ _ h k j hk).trans (kt3)
    · rw [if_neg e2] at h
      cases h
      exact kt3
  · rw [if_neg e1] at h
    rcases bo_inv h with ⟨h9, h8⟩ | ⟨z5, t5, h9, h⟩
    · cases h8
    have kt5 : t5 k j = t k j := (ih _ (by decide) _ _ _ _ h9 k j hk).trans (rfl)
    clear h9
    cases h
    exact kt5
set_option maxHeartbeats 4000000 in
theorem kp_rM145 {rc : MRq} (ih : KPr rc) {x1 : Int} {t t3 : tab} {z : Int} (h : rM145 rc x1 t = some (some (z, t3))) {k j : Nat} (hk : LKk k j) : t3 k j = t k j := by
  have hk2 : 181 ≤ k ∧ k ≤ 185 ∨ k = 177 ∧ j = 18 := hk
  unfold rM145 at h
  rcases bo_inv h with ⟨h9, h8⟩ | ⟨z1, t1, h9, h⟩
  · cases h8
  have kt1 : t1 k j = t k j := (ih _ (by decide) _ _ _ _ h9 k j hk).trans (rfl)
  clear h9
  by_cases e1 : z1 ≠ 0
  · rw [if_pos e1] at h
    by_cases e2 : x1 ≠ 20
    · rw [if_pos e2] at h
      rcases bo_inv h with ⟨h9, h8⟩ | ⟨z8, t8, h9, h⟩
      · cases h8
      have kt8 : t8 k j = t k j := (ih _ (by decide) _ _ _ _ h9 k j hk).trans (rfl)
      clear h9
      rcases bo_inv h with ⟨h9, h8⟩ | ⟨z10, t10, h9, h⟩
      · cases h8
      have kt10 : t10 k j = t k j := (ih _ (by decide) _ _ _ _ h9 k j hk).trans (kt8)
      clear h9
      by_cases e3 : z10 ≠ 0
      · rw [if_pos e3] at h
        cases h
        exact (kp_pt2 hk).trans ((kp_prt hk).trans (kt10))
      · rw [if_neg e3] at h
        cases h
        exact kt10
    · rw [if_neg e2] at h
      cases h
      exact rfl
  · rw [if_neg e1] at h
    rcases bo_inv h with ⟨h9, h8⟩ | ⟨z15, t15, h9, h⟩
    · cases h8
    have kt15 : t15 k j = t k j := (ih _ (by decide) _ _ _ _ h9 k j hk).trans (rfl)
    clear h9
    by_cases e4 : z15 ≠ 0
    · rw [if_pos e4] at h
      by_cases e5 : x1 ≠ 20
      · rw [if_pos e5] at h
        rcases bo_inv h with ⟨h9, h8⟩ | ⟨z22, t22, h9, h⟩
        · cases h8
        have kt22 : t22 k j = t k j := (ih _ (by decide) _ _ _ _ h9 k j hk).trans (rfl)
        clear h9
        rcases bo_inv h with ⟨h9, h8⟩ | ⟨z24, t24, h9, h⟩
        · cases h8
        have kt24 : t24 k j = t k j := (ih _ (by decide) _ _ _ _ h9 k j hk).trans (kt22)
        clear h9
        by_cases e6 : z24 ≠ 0
        · rw [if_pos e6] at h
          cases h
          exact (kp_pt2 hk).trans ((kp_prt hk).trans (kt24))
        · rw [if_neg e6] at h
          cases h
          exact kt24
      · rw [if_neg e5] at h
        cases h
        exact rfl
    · rw [if_neg e4] at h
      rcases bo_inv h with ⟨h9, h8⟩ | ⟨z29, t29, h9, h⟩
      · cases h8
      have kt29 : t29 k j = t k j := (ih _ (by decide) _ _ _ _ h9 k j hk).trans (rfl)
      clear h9
      by_cases e7 : z29 ≠ 0
      · rw [if_pos e7] at h
        by_cases e8 : x1 ≠ 20
        · rw [if_pos e8] at h
          rcases bo_inv h with ⟨h9, h8⟩ | ⟨z36, t36, h9, h⟩
          · cases h8
          have kt36 : t36 k j = t k j := (ih _ (by decide) _ _ _ _ h9 k j hk).trans (rfl)
          clear h9
          rcases bo_inv h with ⟨h9, h8⟩ | ⟨z38, t38, h9, h⟩
          · cases h8
          have kt38 : t38 k j = t k j := (ih _ (by decide) _ _ _ _ h9 k j hk).trans (kt36)
          clear h9
          by_cases e9 : z38 ≠ 0
          · rw [if_pos e9] at h
            cases h
            exact (kp_pt2 hk).trans ((kp_prt hk).trans (kt38))
          · rw [if_neg e9] at h
            cases h
            exact kt38
        · rw [if_neg e8] at h
          cases h
          exact rfl
      · rw [if_neg e7] at h
        rcases bo_inv h with ⟨h9, h8⟩ | ⟨z43, t43, h9, h⟩
        · cases h8
        have kt43 : t43 k j = t k j := (ih _ (by decide) _ _ _ _ h9 k j hk).trans (rfl)
        clear h9
        cases h
        exact kt43
set_option maxHeartbeats 4000000 in
theorem kp_rM146 {rc : MRq} (ih : KPr rc) {x1 : Int} {t t3 : tab} {z : Int} (h : rM146 rc x1 t = some (some (z, t3))) {k j : Nat} (hk : LKk k j) : t3 k j = t k j := by
  have hk2 : 181 ≤ k ∧ k ≤ 185 ∨ k = 177 ∧ j = 18 := hk
  unfold rM146 at h
  by_cases e1 : t 170 4 ≠ 3
  · rw [if_pos e1] at h
    rcases bo_inv h with ⟨h9, h8⟩ | ⟨z3, t3, h9, h⟩
    · cases h8
    have kt3 : t3 k j = t k j := (ih _ (by decide) _ _ _ _ h9 k j hk).trans (rfl)
    clear h9
    by_cases e2 : z3 = 0
    · rw [if_pos e2] at h
      by_cases e3 : t 170 4 = 1
      · rw [if_pos e3] at h
        rcases bo_inv h with ⟨h9, h8⟩ | ⟨z7, t7, h9, h⟩
        · cases h8
        have kt7 : t7 k j = t k j := (ih _ (by decide) _ _ _ _ h9 k j hk).trans (rfl)
        clear h9
        by_cases e4 : z7 < 0
        · rw [if_pos e4] at h
          cases h
          exact rfl
        · rw [if_neg e4] at h
          rcases bo_inv h with ⟨h9, h8⟩ | ⟨z14, t14, h9, h⟩
          · cases h8
          have kt14 : t14 k j = t k j := (ih _ (by decide) _ _ _ _ h9 k j hk).trans (rfl)
          clear h9
          by_cases e5 : z14 = 0
          · rw [if_pos e5] at h
            rcases bo_inv h with ⟨h9, h8⟩ | ⟨z16, t16, h9, h⟩
            · cases h8
            have kt16 : t16 k j = t k j := (ih _ (by decide) _ _ _ _ h9 k j hk).trans (rfl)
            clear h9
            by_cases e6 : z16 = 0
            · rw [if_pos e6] at h
              by_cases e7 : t 174 z7.toNat = 0
              · rw [if_pos e7] at h
                by_cases e8 : t 174 z7.toNat ≠ 6
                · rw [if_pos e8] at h
                  rcases bo_inv h with ⟨h9, h8⟩ | ⟨z23, t23, h9, h⟩
                  · cases h8
                  have kt23 : t23 k j = t k j := (ih _ (by decide) _ _ _ _ h9 k j hk).trans (rfl)
                  clear h9
                  by_cases e9 : t23 174 z7.toNat ≠ 1
                  · rw [if_pos e9] at h
                    by_cases e10 : t23 174 z7.toNat ≠ 0
                    · rw [if_pos e10] at h
                      by_cases e11 : x1 ≠ 20
                      · rw [if_pos e11] at h
                        rcases bo_inv h with ⟨h9, h8⟩ | ⟨z40, t40, h9, h⟩
                        · cases h8
                        have kt40 : t40 k j = t k j := (ih _ (by decide) _ _ _ _ h9 k j hk).trans ((up_k (by omega)).trans ((kp_prt hk).trans (kt23)))
                        clear h9
                        rcases bo_inv h with ⟨h9, h8⟩ | ⟨z42, t42, h9, h⟩
                        · cases h8
                        have kt42 : t42 k j = t k j := (ih _ (by decide) _ _ _ _ h9 k j hk).trans (kt40)
                        clear h9
                        by_cases e12 : z42 = 0
                        · rw [if_pos e12] at h
                          cases h
                          exact kt42
                        · rw [if_neg e12] at h
                          rcases bo_inv h with ⟨h9, h8⟩ | ⟨z44, t44, h9, h⟩
                          · cases h8
                          have kt44 : t44 k j = t k j := (ih _ (by decide) _ _ _ _ h9 k j hk).trans (kt42)
                          clear h9
                          by_cases e13 : z44 ≠ 0
                          · rw [if_pos e13] at h
                            cases h
                            exact (kp_pt2 hk).trans (kt44)
                          · rw [if_neg e13] at h
                            cases h
                            exact kt44
                      · rw [if_neg e11] at h
                        cases h
                        exact (up_k (by omega)).trans ((kp_prt hk).trans (kt23))
                    · rw [if_neg e10] at h
                      cases h
                      exact (kp_pt2 hk).trans ((up_k (by omega)).trans ((kp_prt hk).trans (kt23)))
                  · rw [if_neg e9] at h
                    by_cases e14 : t23 174 z7.toNat ≠ 0
                    · rw [if_pos e14] at h
                      by_cases e15 : x1 ≠ 20
                      · rw [if_pos e15] at h
                        rcases bo_inv h with ⟨h9, h8⟩ | ⟨z65, t65, h9, h⟩
                        · cases h8
                        have kt65 : t65 k j = t k j := (ih _ (by decide) _ _ _ _ h9 k j hk).trans ((up_k (by omega)).trans ((kp_prt hk).trans (kt23)))
                        clear h9
                        rcases bo_inv h with ⟨h9, h8⟩ | ⟨z67, t67, h9, h⟩
                        · cases h8
                        have kt67 : t67 k j = t k j := (ih _ (by decide) _ _ _ _ h9 k j hk).trans (kt65)
                        clear h9
                        by_cases e16 : z67 = 0
                        · rw [if_pos e16] at h
                          cases h
                          exact kt67
                        · rw [if_neg e16] at h
                          rcases bo_inv h with ⟨h9, h8⟩ | ⟨z69, t69, h9, h⟩
                          · cases h8
                          have kt69 : t69 k j = t k j := (ih _ (by decide) _ _ _ _ h9 k j hk).trans (kt67)
                          clear h9
                          by_cases e17 : z69 ≠ 0
                          · rw [if_pos e17] at h
                            cases h
                            exact (kp_pt2 hk).trans (kt69)
                          · rw [if_neg e17] at h
                            cases h
                            exact kt69
                      · rw [if_neg e15] at h
                        cases h
                        exact (up_k (by omega)).trans ((kp_prt hk).trans (kt23))
                    · rw [if_neg e14] at h
                      cases h
                      exact (kp_pt2 hk).trans ((up_k (by omega)).trans ((kp_prt hk).trans (kt23)))
                · rw [if_neg e8] at h
                  by_cases e18 : t 175 z7.toNat ≠ t 170 35
                  · rw [if_pos e18] at h
                    rcases bo_inv h with ⟨h9, h8⟩ | ⟨z85, t85, h9, h⟩
                    · cases h8
                    have kt85 : t85 k j = t k j := (ih _ (by decide) _ _ _ _ h9 k j hk).trans (rfl)
                    clear h9
                    cases h
                    exact kt85
                  · rw [if_neg e18] at h
                    cases h
                    exact rfl
              · rw [if_neg e7] at h
                cases h
                exact rfl
            · rw [if_neg e6] at h
              by_cases e19 : t 174 z7.toNat = 6
              · rw [if_pos e19] at h
                by_cases e20 : t 175 z7.toNat ≠ t 170 35
                · rw [if_pos e20] at h
                  rcases bo_inv h with ⟨h9, h8⟩ | ⟨z97, t97, h9, h⟩
                  · cases h8
                  have kt97 : t97 k j = t k j := (ih _ (by decide) _ _ _ _ h9 k j hk).trans (rfl)
                  clear h9
                  cases h
                  exact kt97
                · rw [if_neg e20] at h
                  cases h
                  exact rfl
              · rw [if_neg e19] at h
                cases h
                exact rfl
          · rw [if_neg e5] at h
            by_cases e21 : t 174 z7.toNat = 1
            · rw [if_pos e21] at h
              by_cases e22 : t 174 z7.toNat ≠ 6
              · rw [if_pos e22] at h
                rcases bo_inv h with ⟨h9, h8⟩ | ⟨z105, t105, h9, h⟩
                · cases h8
                have kt105 : t105 k j = t k j := (ih _ (by decide) _ _ _ _ h9 k j hk).trans (rfl)
                clear h9
                by_cases e23 : t105 174 z7.toNat ≠ 1
                · rw [if_pos e23] at h
                  by_cases e24 : t105 174 z7.toNat ≠ 0
                  · rw [if_pos e24] at h
                    by_cases e25 : x1 ≠ 20
                    · rw [if_pos e25] at h
                      rcases bo_inv h with ⟨h9, h8⟩ | ⟨z122, t122, h9, h⟩
                      · cases h8
                      have kt122 : t122 k j = t k j := (ih _ (by decide) _ _ _ _ h9 k j hk).trans ((up_k (by omega)).trans ((kp_prt hk).trans (kt105)))
                      clear h9
                      rcases bo_inv h with ⟨h9, h8⟩ | ⟨z124, t124, h9, h⟩
                      · cases h8
                      have kt124 : t124 k j = t k j := (ih _ (by decide) _ _ _ _ h9 k j hk).trans (kt122)
                      clear h9
                      by_cases e26 : z124 = 0
                      · rw [if_pos e26] at h
                        cases h
                        exact kt124
                      · rw [if_neg e26] at h
                        rcases bo_inv h with ⟨h9, h8⟩ | ⟨z126, t126, h9, h⟩
                        · cases h8
                        have kt126 : t126 k j = t k j := (ih _ (by decide) _ _ _ _ h9 k j hk).trans (kt124)
                        clear h9
                        by_cases e27 : z126 ≠ 0
                        · rw [if_pos e27] at h
                          cases h
                          exact (kp_pt2 hk).trans (kt126)
                        · rw [if_neg e27] at h
                          cases h
                          exact kt126
                    · rw [if_neg e25] at h
                      cases h
                      exact (up_k (by omega)).trans ((kp_prt hk).trans (kt105))
                  · rw [if_neg e24] at h
                    cases h
                    exact (kp_pt2 hk).trans ((up_k (by omega)).trans ((kp_prt hk).trans (kt105)))
                · rw [if_neg e23] at h
                  by_cases e28 : t105 174 z7.toNat ≠ 0
                  · rw [if_pos e28] at h
                    by_cases e29 : x1 ≠ 20
                    · rw [if_pos e29] at h
                      rcases bo_inv h with ⟨h9, h8⟩ | ⟨z147, t147, h9, h⟩
                      · cases h8
                      have kt147 : t147 k j = t k j := (ih _ (by decide) _ _ _ _ h9 k j hk).trans ((up_k (by omega)).trans ((kp_prt hk).trans (kt105)))
                      clear h9
                      rcases bo_inv h with ⟨h9, h8⟩ | ⟨z149, t149, h9, h⟩
                      · cases h8
                      have kt149 : t149 k j = t k j := (ih _ (by decide) _ _ _ _ h9 k j hk).trans (kt147)
                      clear h9
                      by_cases e30 : z149 = 0
                      · rw [if_pos e30] at h
                        cases h
                        exact kt149
                      · rw [if_neg e30] at h
                        rcases bo_inv h with ⟨h9, h8⟩ | ⟨z151, t151, h9, h⟩
                        · cases h8
                        have kt151 : t151 k j = t k j := (ih _ (by decide) _ _ _ _ h9 k j hk).trans (kt149)
                        clear h9
                        by_cases e31 : z151 ≠ 0
                        · rw [if_pos e31] at h
                          cases h
                          exact (kp_pt2 hk).trans (kt151)
                        · rw [if_neg e31] at h
                          cases h
                          exact kt151
                    · rw [if_neg e29] at h
                      cases h
                      exact (up_k (by omega)).trans ((kp_prt hk).trans (kt105))
                  · rw [if_neg e28] at h
                    cases h
                    exact (kp_pt2 hk).trans ((up_k (by omega)).trans ((kp_prt hk).trans (kt105)))
              · rw [if_neg e22] at h
                by_cases e32 : t 175 z7.toNat ≠ t 170 35
                · rw [if_pos e32] at h
                  rcases bo_inv h with ⟨h9, h8⟩ | ⟨z167, t167, h9, h⟩
                  · cases h8
                  have kt167 : t167 k j = t k j := (ih _ (by decide) _ _ _ _ h9 k j hk).trans (rfl)
                  clear h9
                  cases h
                  exact kt167
                · rw [if_neg e32] at h
                  cases h
                  exact rfl
            · rw [if_neg e21] at h
              cases h
              exact rfl
      · rw [if_neg e3] at h
        cases h
        exact rfl
    · rw [if_neg e2] at h
      by_cases e33 : x1 ≠ 20
      · rw [if_pos e33] at h
        rcases bo_inv h with ⟨h9, h8⟩ | ⟨z172, t172, h9, h⟩
        · cases h8
        have kt172 : t172 k j = t k j := (ih _ (by decide) _ _ _ _ h9 k j hk).trans (rfl)
        clear h9
        rcases bo_inv h with ⟨h9, h8⟩ | ⟨z174, t174, h9, h⟩
        · cases h8
        have kt174 : t174 k j = t k j := (ih _ (by decide) _ _ _ _ h9 k j hk).trans (kt172)
        clear h9
        by_cases e34 : z174 = 0
        · rw [if_pos e34] at h
          cases h
          exact kt174
        · rw [if_neg e34] at h
          rcases bo_inv h with ⟨h9, h8⟩ | ⟨z176, t176, h9, h⟩
          · cases h8
          have kt176 : t176 k j = t k j := (ih _ (by decide) _ _ _ _ h9 k j hk).trans (kt174)
          clear h9
          by_cases e35 : z176 = 0
          · rw [if_pos e35] at h
            cases h
            exact kt176
          · rw [if_neg e35] at h
            cases h
            exact kt176
      · rw [if_neg e33] at h
        cases h
        exact rfl
  · rw [if_neg e1] at h
    rcases bo_inv h with ⟨h9, h8⟩ | ⟨z182, t182, h9, h⟩
    · cases h8
    have kt182 : t182 k j = t k j := (ih _ (by decide) _ _ _ _ h9 k j hk).trans ((kp_pt2 hk).trans ((kp_prt hk).trans (rfl)))
    clear h9
    cases h
    exact kt182
set_option maxHeartbeats 4000000 in
theorem kp_rM149 {rc : MRq} (ih : KPr rc) {x1 x3 : Int} {t t3 : tab} {z : Int} (h : rM149 rc x1 x3 t = some (some (z, t3))) {k j : Nat} (hk : LKk k j) : t3 k j = t k j := by
  have hk2 : 181 ≤ k ∧ k ≤ 185 ∨ k = 177 ∧ j = 18 := hk
  unfold rM149 at h
  exact (ih _ (by decide) _ _ _ _ h k j hk).trans (rfl)
set_option maxHeartbeats 4000000 in
theorem kp_rM150 {rc : MRq} (ih : KPr rc) {x1 x3 x4 : Int} {t t3 : tab} {z : Int} (h : rM150 rc x1 x3 x4 t = some (some (z, t3))) {k j : Nat} (hk : LKk k j) : t3 k j = t k j := by
  have hk2 : 181 ≤ k ∧ k ≤ 185 ∨ k = 177 ∧ j = 18 := hk
  unfold rM150 at h
  rcases bo_inv h with ⟨h9, h8⟩ | ⟨z5, t5, h9, h⟩
  · cases h8
  have kt5 : t5 k j = t k j := (ih _ (by decide) _ _ _ _ h9 k j hk).trans ((kp_prt hk).trans (rfl))
  clear h9
  rcases bo_inv h with ⟨h9, h8⟩ | ⟨z6, t6, h9, h⟩
  · cases h8
  have kt6 : t6 k j = t k j := (ih _ (by decide) _ _ _ _ h9 k j hk).trans (kt5)
  clear h9
  by_cases e1 : z6 ≠ 0
  · rw [if_pos e1] at h
    exact (ih _ (by decide) _ _ _ _ h k j hk).trans (kt6)
  · rw [if_neg e1] at h
    cases h
    exact kt6
set_option maxHeartbeats 4000000 in
theorem kp_rM157 {rc : MRq} (ih : KPr rc) {x1 x3 : Int} {t t3 : tab} {z : Int} (h : rM157 rc x1 x3 t = some (some (z, t3))) {k j : Nat} (hk : LKk k j) : t3 k j = t k j := by
  have hk2 : 181 ≤ k ∧ k ≤ 185 ∨ k = 177 ∧ j = 18 := hk
  unfold rM157 at h
  rcases bo_inv h with ⟨h9, h8⟩ | ⟨z1, t1, h9, h⟩
  · cases h8
  have kt1 : t1 k j = t k j := (ih _ (by decide) _ _ _ _ h9 k j hk).trans (rfl)
  clear h9
  by_cases e1 : t1 170 37 = 0
  · rw [if_pos e1] at h
    by_cases e2 : t1 174 x1.toNat ≠ 1
    · rw [if_pos e2] at h
      by_cases e3 : t1 174 x1.toNat ≠ 0
      · rw [if_pos e3] at h
        by_cases e4 : ipl x3 1 ≠ 20
        · rw [if_pos e4] at h
          rcases bo_inv h with ⟨h9, h8⟩ | ⟨z20, t20, h9, h⟩
          · cases h8
          have kt20 : t20 k j = t k j := (ih _ (by decide) _ _ _ _ h9 k j hk).trans ((up_k (by omega)).trans (kt1))
          clear h9
          rcases bo_inv h with ⟨h9, h8⟩ | ⟨z22, t22, h9, h⟩
          · cases h8
          have kt22 : t22 k j = t k j := (ih _ (by decide) _ _ _ _ h9 k j hk).trans (kt20)
          clear h9
          by_cases e5 : z22 = 0
          · rw [if_pos e5] at h
            cases h
            exact kt22
          · rw [if_neg e5] at h
            rcases bo_inv h with ⟨h9, h8⟩ | ⟨z24, t24, h9, h⟩
            · cases h8
            have kt24 : t24 k j = t k j := (ih _ (by decide) _ _ _ _ h9 k j hk).trans (kt22)
            clear h9
            by_cases e6 : z24 = 0
            · rw [if_pos e6] at h
              cases h
              exact kt24
            · rw [if_neg e6] at h
              cases h
              exact kt24
        · rw [if_neg e4] at h
          cases h
          exact (up_k (by omega)).trans (kt1)
      · rw [if_neg e3] at h
        cases h
        exact (up_k (by omega)).trans (kt1)
    · rw [if_neg e2] at h
      by_cases e7 : t1 174 x1.toNat ≠ 0
      · rw [if_pos e7] at h
        by_cases e8 : ipl x3 1 ≠ 20
        · rw [if_pos e8] at h
          rcases bo_inv h with ⟨h9, h8⟩ | ⟨z38, t38, h9, h⟩
          · cases h8
          have kt38 : t38 k j = t k j := (ih _ (by decide) _ _ _ _ h9 k j hk).trans ((up_k (by omega)).trans (kt1))
          clear h9
          rcases bo_inv h with ⟨h9, h8⟩ | ⟨z40, t40, h9, h⟩
          · cases h8
          have kt40 : t40 k j = t k j := (ih _ (by decide) _ _ _ _ h9 k j hk).trans (kt38)
          clear h9
          by_cases e9 : z40 = 0
          · rw [if_pos e9] at h
            cases h
            exact kt40
          · rw [if_neg e9] at h
            rcases bo_inv h with ⟨h9, h8⟩ | ⟨z42, t42, h9, h⟩
            · cases h8
            have kt42 : t42 k j = t k j := (ih _ (by decide) _ _ _ _ h9 k j hk).trans (kt40)
            clear h9
            by_cases e10 : z42 = 0
            · rw [if_pos e10] at h
              cases h
              exact kt42
            · rw [if_neg e10] at h
              cases h
              exact kt42
        · rw [if_neg e8] at h
          cases h
          exact (up_k (by omega)).trans (kt1)
      · rw [if_neg e7] at h
        cases h
        exact (up_k (by omega)).trans (kt1)
  · rw [if_neg e1] at h
    by_cases e11 : t1 174 x1.toNat = 1
    · rw [if_pos e11] at h
      cases h
      exact kt1
    · rw [if_neg e11] at h
      by_cases e12 : t1 170 36 ≤ t1 175 x1.toNat
      · rw [if_pos e12] at h
        by_cases e13 : t1 174 x1.toNat ≠ 0
        · rw [if_pos e13] at h
          by_cases e14 : ipl x3 1 ≠ 20
          · rw [if_pos e14] at h
            rcases bo_inv h with ⟨h9, h8⟩ | ⟨z70, t70, h9, h⟩
            · cases h8
            have kt70 : t70 k j = t k j := (ih _ (by decide) _ _ _ _ h9 k j hk).trans ((up_k (by omega)).trans (kt1))
            clear h9
            rcases bo_inv h with ⟨h9, h8⟩ | ⟨z72, t72, h9, h⟩
            · cases h8
            have kt72 : t72 k j = t k j := (ih _ (by decide) _ _ _ _ h9 k j hk).trans (kt70)
            clear h9
            by_cases e15 : z72 = 0
            · rw [if_pos e15] at h
              cases h
              exact kt72
            · rw [if_neg e15] at h
              rcases bo_inv h with ⟨h9, h8⟩ | ⟨z74, t74, h9, h⟩
              · cases h8
              have kt74 : t74 k j = t k j := (ih _ (by decide) _ _ _ _ h9 k j hk).trans (kt72)
              clear h9
              by_cases e16 : z74 = 0
              · rw [if_pos e16] at h
                cases h
                exact kt74
              · rw [if_neg e16] at h
                cases h
                exact kt74
          · rw [if_neg e14] at h
            cases h
            exact (up_k (by omega)).trans (kt1)
        · rw [if_neg e13] at h
          cases h
          exact (up_k (by omega)).trans (kt1)
      · rw [if_neg e12] at h
        cases h
        exact kt1
set_option maxHeartbeats 4000000 in
theorem kp_rM139 {rc : MRq} (ih : KPr rc) {x1 : Int} {t t3 : tab} {z : Int} (h : rM139 rc x1 t = some (some (z, t3))) {k j : Nat} (hk : LKk k j) : t3 k j = t k j := by
  have hk2 : 181 ≤ k ∧ k ≤ 185 ∨ k = 177 ∧ j = 18 := hk
  unfold rM139 at h
  rcases bo_inv h with ⟨h9, h8⟩ | ⟨z1, t1, h9, h⟩
  · cases h8
  have kt1 : t1 k j = t k j := (ih _ (by decide) _ _ _ _ h9 k j hk).trans (rfl)
  clear h9
  by_cases e1 : z1 ≠ 0
  · rw [if_pos e1] at h
    exact (ih _ (by decide) _ _ _ _ h k j hk).trans ((kp_pt1 hk).trans (kt1))
  · rw [if_neg e1] at h
    cases h
    exact kt1
set_option maxHeartbeats 4000000 in
theorem kp_rM141 {rc : MRq} (ih : KPr rc) {x1 : Int} {t t3 : tab} {z : Int} (h : rM141 rc x1 t = some (some (z, t3))) {k j : Nat} (hk : LKk k j) : t3 k j = t k j := by
  have hk2 : 181 ≤ k ∧ k ≤ 185 ∨ k = 177 ∧ j = 18 := hk
  unfold rM141 at h
  by_cases e1 : x1 ≠ 20
  · rw [if_pos e1] at h
    rcases bo_inv h with ⟨h9, h8⟩ | ⟨z2, t2, h9, h⟩
    · cases h8
    have kt2 : t2 k j = t k j := (ih _ (by decide) _ _ _ _ h9 k j hk).trans (rfl)
    clear h9
    by_cases e2 : z2 = 0
    · rw [if_pos e2] at h
      rcases bo_inv h with ⟨h9, h8⟩ | ⟨z4, t4, h9, h⟩
      · cases h8
      have kt4 : t4 k j = t k j := (ih _ (by decide) _ _ _ _ h9 k j hk).trans (rfl)
      clear h9
      by_cases e3 : z4 = 0
      · rw [if_pos e3] at h
        rcases bo_inv h with ⟨h9, h8⟩ | ⟨z6, t6, h9, h⟩
        · cases h8
        have kt6 : t6 k j = t k j := (ih _ (by decide) _ _ _ _ h9 k j hk).trans (rfl)
        clear h9
        by_cases e4 : z6 = 0
        · rw [if_pos e4] at h
          rcases bo_inv h with ⟨h9, h8⟩ | ⟨z8, t8, h9, h⟩
          · cases h8
          have kt8 : t8 k j = t k j := (ih _ (by decide) _ _ _ _ h9 k j hk).trans (rfl)
          clear h9
          by_cases e5 : z8 = 0
          · rw [if_pos e5] at h
            rcases bo_inv h with ⟨h9, h8⟩ | ⟨z10, t10, h9, h⟩
            · cases h8
            have kt10 : t10 k j = t k j := (ih _ (by decide) _ _ _ _ h9 k j hk).trans (rfl)
            clear h9
            by_cases e6 : z10 = 0
            · rw [if_pos e6] at h
              rcases bo_inv h with ⟨h9, h8⟩ | ⟨z12, t12, h9, h⟩
              · cases h8
              have kt12 : t12 k j = t k j := (ih _ (by decide) _ _ _ _ h9 k j hk).trans (rfl)
              clear h9
              by_cases e7 : z12 = 0
              · rw [if_pos e7] at h
                by_cases e8 : t 170 4 ≠ 1
                · rw [if_pos e8] at h
                  cases h
                  exact rfl
                · rw [if_neg e8] at h
                  rcases bo_inv h with ⟨h9, h8⟩ | ⟨z17, t17, h9, h⟩
                  · cases h8
                  have kt17 : t17 k j = t k j := (ih _ (by decide) _ _ _ _ h9 k j hk).trans (rfl)
                  clear h9
                  cases h
                  exact kt17
              · rw [if_neg e7] at h
                rcases bo_inv h with ⟨h9, h8⟩ | ⟨z18, t18, h9, h⟩
                · cases h8
                have kt18 : t18 k j = t k j := (ih _ (by decide) _ _ _ _ h9 k j hk).trans (rfl)
                clear h9
                cases h
                exact kt18
            · rw [if_neg e6] at h
              rcases bo_inv h with ⟨h9, h8⟩ | ⟨z19, t19, h9, h⟩
              · cases h8
              have kt19 : t19 k j = t k j := (ih _ (by decide) _ _ _ _ h9 k j hk).trans (rfl)
              clear h9
              cases h
              exact kt19
          · rw [if_neg e5] at h
            rcases bo_inv h with ⟨h9, h8⟩ | ⟨z20, t20, h9, h⟩
            · cases h8
            have kt20 : t20 k j = t k j := (ih _ (by decide) _ _ _ _ h9 k j hk).trans (rfl)
            clear h9
            cases h
            exact kt20
        · rw [if_neg e4] at h
          rcases bo_inv h with ⟨h9, h8⟩ | ⟨z21, t21, h9, h⟩
          · cases h8
          have kt21 : t21 k j = t k j := (ih _ (by decide) _ _ _ _ h9 k j hk).trans (rfl)
          clear h9
          cases h
          exact kt21
      · rw [if_neg e3] at h
        rcases bo_inv h with ⟨h9, h8⟩ | ⟨z23, t23, h9, h⟩
        · cases h8
        have kt23 : t23 k j = t k j := (ih _ (by decide) _ _ _ _ h9 k j hk).trans ((kp_prt hk).trans (rfl))
        clear h9
        rcases bo_inv h with ⟨h9, h8⟩ | ⟨z24, t24, h9, h⟩
        · cases h8
        have kt24 : t24 k j = t k j := (ih _ (by decide) _ _ _ _ h9 k j hk).trans (kt23)
        clear h9
        cases h
        exact kt24
    · rw [if_neg e2] at h
      rcases bo_inv h with ⟨h9, h8⟩ | ⟨z28, t28, h9, h⟩
      · cases h8
      have kt28 : t28 k j = t k j := (ih _ (by decide) _ _ _ _ h9 k j hk).trans ((kp_rop hk).trans (rfl))
      clear h9
      by_cases e9 : z28 ≠ 0
      · rw [if_pos e9] at h
        cases h
        exact (up_k (by omega)).trans (kt28)
      · rw [if_neg e9] at h
        cases h
        exact kt28
  · rw [if_neg e1] at h
    cases h
    exact rfl
set_option maxHeartbeats 4000000 in
theorem kp_rM143 {rc : MRq} (ih : KPr rc) {x1 : Int} {t t3 : tab} {z : Int} (h : rM143 rc x1 t = some (some (z, t3))) {k j : Nat} (hk : LKk k j) : t3 k j = t k j := by
  have hk2 : 181 ≤ k ∧ k ≤ 185 ∨ k = 177 ∧ j = 18 := hk
  unfold rM143 at h
  rcases bo_inv h with ⟨h9, h8⟩ | ⟨z2, t2, h9, h⟩
  · cases h8
  have kt2 : t2 k j = t k j := (ih _ (by decide) _ _ _ _ h9 k j hk).trans ((kp_prt hk).trans (rfl))
  clear h9
  rcases bo_inv h with ⟨h9, h8⟩ | ⟨z3, t3, h9, h⟩
  · cases h8
  have kt3 : t3 k j = t k j := (ih _ (by decide) _ _ _ _ h9 k j hk).trans (kt2)
  clear h9
  by_cases e1 : z3 = 0
  · rw [if_pos e1] at h
    cases h
    exact kt3
  · rw [if_neg e1] at h
    rcases bo_inv h with ⟨h9, h8⟩ | ⟨z6, t6, h9, h⟩
    · cases h8
    have kt6 : t6 k j = t k j := (ih _ (by decide) _ _ _ _ h9 k j hk).trans (kt3)
    clear h9
    by_cases e2 : z6 = 0
    · rw [if_pos e2] at h
      cases h
      exact kt6
    · rw [if_neg e2] at h
      rcases bo_inv h with ⟨h9, h8⟩ | ⟨z8, t8, h9, h⟩
      · cases h8
      have kt8 : t8 k j = t k j := (ih _ (by decide) _ _ _ _ h9 k j hk).trans (kt6)
      clear h9
      by_cases e3 : z8 ≠ 0
      · rw [if_pos e3] at h
        rcases bo_inv h with ⟨h9, h8⟩ | ⟨z13, t13, h9, h⟩
        · cases h8
        have kt13 : t13 k j = t k j := (ih _ (by decide) _ _ _ _ h9 k j hk).trans ((kp_pt1 hk).trans ((kp_pt1 hk).trans (kt8)))
        clear h9
        by_cases e4 : z13 ≠ 0
        · rw [if_pos e4] at h
          rcases bo_inv h with ⟨h9, h8⟩ | ⟨z15, t15, h9, h⟩
          · cases h8
          have kt15 : t15 k j = t k j := (ih _ (by decide) _ _ _ _ h9 k j hk).trans (kt13)
          clear h9
          by_cases e5 : z15 = 0
          · rw [if_pos e5] at h
            cases h
            exact (up_k (by omega)).trans (kt13)
          · rw [if_neg e5] at h
            rcases bo_inv h with ⟨h9, h8⟩ | ⟨z21, t21, h9, h⟩
            · cases h8
            have kt21 : t21 k j = t k j := (ih _ (by decide) _ _ _ _ h9 k j hk).trans (kt13)
            clear h9
            rcases bo_inv h with ⟨h9, h8⟩ | ⟨z29, t29, h9, h⟩
            · cases h8
            have kt29 : t29 k j = t k j := (ih _ (by decide) _ _ _ _ h9 k j hk).trans ((up_k (by omega)).trans ((kp_pt1 hk).trans ((kp_pt1 hk).trans (kt21))))
            clear h9
            by_cases e6 : z29 ≠ 0
            · rw [if_pos e6] at h
              cases h
              exact (up_k (by omega)).trans (kt29)
            · rw [if_neg e6] at h
              cases h
              exact kt29
        · rw [if_neg e4] at h
          cases h
          exact kt13
      · rw [if_neg e3] at h
        cases h
        exact kt8
set_option maxHeartbeats 4000000 in
theorem kp_rM153 {rc : MRq} (ih : KPr rc) {x1 : Int} {t t3 : tab} {z : Int} (h : rM153 rc x1 t = some (some (z, t3))) {k j : Nat} (hk : LKk k j) : t3 k j = t k j := by
  have hk2 : 181 ≤ k ∧ k ≤ 185 ∨ k = 177 ∧ j = 18 := hk
  unfold rM153 at h
  rcases bo_inv h with ⟨h9, h8⟩ | ⟨z2, t2, h9, h⟩
  · cases h8
  have kt2 : t2 k j = t k j := (ih _ (by decide) _ _ _ _ h9 k j hk).trans ((kp_prt hk).trans (rfl))
  clear h9
  rcases bo_inv h with ⟨h9, h8⟩ | ⟨z4, t4, h9, h⟩
  · cases h8
  have kt4 : t4 k j = t k j := (ih _ (by decide) _ _ _ _ h9 k j hk).trans (kt2)
  clear h9
  by_cases e1 : z4 = 0
  · rw [if_pos e1] at h
    cases h
    exact kt4
  · rw [if_neg e1] at h
    rcases bo_inv h with ⟨h9, h8⟩ | ⟨z7, t7, h9, h⟩
    · cases h8
    have kt7 : t7 k j = t k j := (ih _ (by decide) _ _ _ _ h9 k j hk).trans (kt4)
    clear h9
    by_cases e2 : z7 = 0
    · rw [if_pos e2] at h
      cases h
      exact kt7
    · rw [if_neg e2] at h
      rcases bo_inv h with ⟨h9, h8⟩ | ⟨z9, t9, h9, h⟩
      · cases h8
      have kt9 : t9 k j = t k j := (ih _ (by decide) _ _ _ _ h9 k j hk).trans (kt7)
      clear h9
      by_cases e3 : z9 ≠ 0
      · rw [if_pos e3] at h
        rcases bo_inv h with ⟨h9, h8⟩ | ⟨z14, t14, h9, h⟩
        · cases h8
        have kt14 : t14 k j = t k j := (ih _ (by decide) _ _ _ _ h9 k j hk).trans ((kp_pt1 hk).trans ((kp_pt1 hk).trans (kt9)))
        clear h9
        by_cases e4 : z14 ≠ 0
        · rw [if_pos e4] at h
          cases h
          exact (up_k (by omega)).trans ((kp_pt2 hk).trans (kt14))
        · rw [if_neg e4] at h
          cases h
          exact kt14
      · rw [if_neg e3] at h
        cases h
        exact kt9
set_option maxHeartbeats 4000000 in
theorem kp_rM154 {rc : MRq} (ih : KPr rc) {x1 : Int} {t t3 : tab} {z : Int} (h : rM154 rc x1 t = some (some (z, t3))) {k j : Nat} (hk : LKk k j) : t3 k j = t k j := by
  have hk2 : 181 ≤ k ∧ k ≤ 185 ∨ k = 177 ∧ j = 18 := hk
  unfold rM154 at h
  rcases bo_inv h with ⟨h9, h8⟩ | ⟨z2, t2, h9, h⟩
  · cases h8
  have kt2 : t2 k j = t k j := (ih _ (by decide) _ _ _ _ h9 k j hk).trans ((kp_prt hk).trans (rfl))
  clear h9
  by_cases e1 : t2 170 4 = 3
  · rw [if_pos e1] at h
    rcases bo_inv h with ⟨h9, h8⟩ | ⟨z16, t16, h9, h⟩
    · cases h8
    have kt16 : t16 k j = t k j := (ih _ (by decide) _ _ _ _ h9 k j hk).trans ((kp_pt1 hk).trans ((up_k (by omega)).trans ((kp_pt1 hk).trans ((kp_pt1 hk).trans ((kp_pt1 hk).trans ((kp_pt2 hk).trans (kt2)))))))
    clear h9
    rcases bo_inv h with ⟨h9, h8⟩ | ⟨z18, t18, h9, h⟩
    · cases h8
    have kt18 : t18 k j = t k j := (ih _ (by decide) _ _ _ _ h9 k j hk).trans (kt16)
    clear h9
    by_cases e2 : z18 ≠ 0
    · rw [if_pos e2] at h
      cases h
      exact (up_k (by omega)).trans ((kp_pt2 hk).trans (kt18))
    · rw [if_neg e2] at h
      cases h
      exact kt18
  · rw [if_neg e1] at h
    cases h
    exact kt2
set_option maxHeartbeats 4000000 in
theorem kp_rM155 {rc : MRq} (ih : KPr rc) {x1 : Int} {t t3 : tab} {z : Int} (h : rM155 rc x1 t = some (some (z, t3))) {k j : Nat} (hk : LKk k j) : t3 k j = t k j := by
  have hk2 : 181 ≤ k ∧ k ≤ 185 ∨ k = 177 ∧ j = 18 := hk
  unfold rM155 at h
  rcases bo_inv h with ⟨h9, h8⟩ | ⟨z3, t3, h9, h⟩
  · cases h8
  have kt3 : t3 k j = t k j := (ih _ (by decide) _ _ _ _ h9 k j hk).trans ((kp_prt hk).trans (rfl))
  clear h9
  rcases bo_inv h with ⟨h9, h8⟩ | ⟨z4, t4, h9, h⟩
  · cases h8
  have kt4 : t4 k j = t k j := (ih _ (by decide) _ _ _ _ h9 k j hk).trans (kt3)
  clear h9
  by_cases e1 : z4 ≠ 0
  · rw [if_pos e1] at h
    exact (ih _ (by decide) _ _ _ _ h k j hk).trans ((kp_pt1 hk).trans ((kp_pt1 hk).trans (kt4)))
  · rw [if_neg e1] at h
    cases h
    exact kt4
set_option maxHeartbeats 4000000 in
theorem kp_rM156 {rc : MRq} (ih : KPr rc) {x1 : Int} {t t3 : tab} {z : Int} (h : rM156 rc x1 t = some (some (z, t3))) {k j : Nat} (hk : LKk k j) : t3 k j = t k j := by
  have hk2 : 181 ≤ k ∧ k ≤ 185 ∨ k = 177 ∧ j = 18 := hk
  unfold rM156 at h
  rcases bo_inv h with ⟨h9, h8⟩ | ⟨z1, t1, h9, h⟩
  · cases h8
  have kt1 : t1 k j = t k j := (ih _ (by decide) _ _ _ _ h9 k j hk).trans (rfl)
  clear h9
  by_cases e1 : 0 ≤ z1
  · rw [if_pos e1] at h
    by_cases e2 : t 174 z1.toNat ≠ 0
    · rw [if_pos e2] at h
      by_cases e3 : t 174 z1.toNat ≠ 1
      · rw [if_pos e3] at h
        by_cases e4 : t 174 z1.toNat ≠ 5
        · rw [if_pos e4] at h
          by_cases e5 : t 170 37 ≠ 0
          · rw [if_pos e5] at h
            exact (ih _ (by decide) _ _ _ _ h k j hk).trans (rfl)
          · rw [if_neg e5] at h
            by_cases e6 : t 174 z1.toNat = 2
            · rw [if_pos e6] at h
              rcases bo_inv h with ⟨h9, h8⟩ | ⟨z17, t17, h9, h⟩
              · cases h8
              have kt17 : t17 k j = t k j := (ih _ (by decide) _ _ _ _ h9 k j hk).trans (rfl)
              clear h9
              by_cases e7 : z17 ≠ 0
              · rw [if_pos e7] at h
                exact (ih _ (by decide) _ _ _ _ h k j hk).trans (rfl)
              · rw [if_neg e7] at h
                rcases bo_inv h with ⟨h9, h8⟩ | ⟨z20, t20, h9, h⟩
                · cases h8
                have kt20 : t20 k j = t k j := (ih _ (by decide) _ _ _ _ h9 k j hk).trans (rfl)
                clear h9
                by_cases e8 : z20 = 0
                · rw [if_pos e8] at h
                  exact (ih _ (by decide) _ _ _ _ h k j hk).trans (rfl)
                · rw [if_neg e8] at h
                  exact (ih _ (by decide) _ _ _ _ h k j hk).trans (rfl)
            · rw [if_neg e6] at h
              by_cases e9 : t 174 z1.toNat ≠ 4
              · rw [if_pos e9] at h
                by_cases e10 : t 174 z1.toNat ≠ 3
                · rw [if_pos e10] at h
                  exact (ih _ (by decide) _ _ _ _ h k j hk).trans (rfl)
                · rw [if_neg e10] at h
                  rcases bo_inv h with ⟨h9, h8⟩ | ⟨z25, t25, h9, h⟩
                  · cases h8
                  have kt25 : t25 k j = t k j := (ih _ (by decide) _ _ _ _ h9 k j hk).trans (rfl)
                  clear h9
                  by_cases e11 : z25 = 0
                  · rw [if_pos e11] at h
                    exact (ih _ (by decide) _ _ _ _ h k j hk).trans (rfl)
                  · rw [if_neg e11] at h
                    exact (ih _ (by decide) _ _ _ _ h k j hk).trans (rfl)
              · rw [if_neg e9] at h
                rcases bo_inv h with ⟨h9, h8⟩ | ⟨z27, t27, h9, h⟩
                · cases h8
                have kt27 : t27 k j = t k j := (ih _ (by decide) _ _ _ _ h9 k j hk).trans (rfl)
                clear h9
                by_cases e12 : z27 ≠ 0
                · rw [if_pos e12] at h
                  exact (ih _ (by decide) _ _ _ _ h k j hk).trans (rfl)
                · rw [if_neg e12] at h
                  by_cases e13 : t 174 z1.toNat ≠ 3
                  · rw [if_pos e13] at h
                    exact (ih _ (by decide) _ _ _ _ h k j hk).trans (rfl)
                  · rw [if_neg e13] at h
                    rcases bo_inv h with ⟨h9, h8⟩ | ⟨z31, t31, h9, h⟩
                    · cases h8
                    have kt31 : t31 k j = t k j := (ih _ (by decide) _ _ _ _ h9 k j hk).trans (rfl)
                    clear h9
                    by_cases e14 : z31 = 0
                    · rw [if_pos e14] at h
                      exact (ih _ (by decide) _ _ _ _ h k j hk).trans (rfl)
                    · rw [if_neg e14] at h
                      exact (ih _ (by decide) _ _ _ _ h k j hk).trans (rfl)
        · rw [if_neg e4] at h
          rcases bo_inv h with ⟨h9, h8⟩ | ⟨z33, t33, h9, h⟩
          · cases h8
          have kt33 : t33 k j = t k j := (ih _ (by decide) _ _ _ _ h9 k j hk).trans (rfl)
          clear h9
          by_cases e15 : z33 = 0
          · rw [if_pos e15] at h
            exact (ih _ (by decide) _ _ _ _ h k j hk).trans (rfl)
          · rw [if_neg e15] at h
            by_cases e16 : t 170 37 ≠ 0
            · rw [if_pos e16] at h
              exact (ih _ (by decide) _ _ _ _ h k j hk).trans (rfl)
            · rw [if_neg e16] at h
              by_cases e17 : t 175 z1.toNat = t 170 35
              · rw [if_pos e17] at h
                exact (ih _ (by decide) _ _ _ _ h k j hk).trans (rfl)
              · rw [if_neg e17] at h
                exact (ih _ (by decide) _ _ _ _ h k j hk).trans (rfl)
      · rw [if_neg e3] at h
        rcases bo_inv h with ⟨h9, h8⟩ | ⟨z39, t39, h9, h⟩
        · cases h8
        have kt39 : t39 k j = t k j := (ih _ (by decide) _ _ _ _ h9 k j hk).trans (rfl)
        clear h9
        exact (ih _ (by decide) _ _ _ _ h k j hk).trans (rfl)
    · rw [if_neg e2] at h
      rcases bo_inv h with ⟨h9, h8⟩ | ⟨z40, t40, h9, h⟩
      · cases h8
      have kt40 : t40 k j = t k j := (ih _ (by decide) _ _ _ _ h9 k j hk).trans (rfl)
      clear h9
      exact (ih _ (by decide) _ _ _ _ h k j hk).trans (rfl)
  · rw [if_neg e1] at h
    cases h
    exact rfl
set_option maxHeartbeats 4000000 in
theorem kp_rM159 {rc : MRq} (ih : KPr rc) {t t3 : tab} {z : Int} (h : rM159 rc t = some (some (z, t3))) {k j : Nat} (hk : LKk k j) : t3 k j = t k j := by
  have hk2 : 181 ≤ k ∧ k ≤ 185 ∨ k = 177 ∧ j = 18 := hk
  unfold rM159 at h
  rcases bo_inv h with ⟨h9, h8⟩ | ⟨z1, t1, h9, h⟩
  · cases h8
  have kt1 : t1 k j = t k j := (ih _ (by decide) _ _ _ _ h9 k j hk).trans (rfl)
  clear h9
  by_cases e1 : z1 ≠ 0
  · rw [if_pos e1] at h
    exact (ih _ (by decide) _ _ _ _ h k j hk).trans (kt1)
  · rw [if_neg e1] at h
    cases h
    exact kt1
set_option maxHeartbeats 4000000 in
theorem kp_rM129 {rc : MRq} (ih : KPr rc) {x1 : Int} {t t3 : tab} {z : Int} (h : rM129 rc x1 t = some (some (z, t3))) {k j : Nat} (hk : LKk k j) : t3 k j = t k j := by
  have hk2 : 181 ≤ k ∧ k ≤ 185 ∨ k = 177 ∧ j = 18 := hk
  unfold rM129 at h
  rcases bo_inv h with ⟨h9, h8⟩ | ⟨z1, t1, h9, h⟩
  · cases h8
  have kt1 : t1 k j = t k j := (ih _ (by decide) _ _ _ _ h9 k j hk).trans (rfl)
  clear h9
  rcases bo_inv h with ⟨h9, h8⟩ | ⟨z3, t3, h9, h⟩
  · cases h8
  have kt3 : t3 k j = t k j := (ih _ (by decide) _ _ _ _ h9 k j hk).trans (kt1)
  clear h9
  by_cases e1 : z3 = 0
  · rw [if_pos e1] at h
    cases h
    exact kt1
  · rw [if_neg e1] at h
    by_cases e2 : x1 = 0
    · rw [if_pos e2] at h
      rcases bo_inv h with ⟨h9, h8⟩ | ⟨z6, t6, h9, h⟩
      · cases h8
      have kt6 : t6 k j = t k j := (ih _ (by decide) _ _ _ _ h9 k j hk).trans (kt1)
      clear h9
      by_cases e3 : z6 ≠ 0
      · rw [if_pos e3] at h
        rcases bo_inv h with ⟨h9, h8⟩ | ⟨z25, t25, h9, h⟩
        · cases h8
        have kt25 : t25 k j = t k j := (ih _ (by decide) _ _ _ _ h9 k j hk).trans ((up_k (by omega)).trans ((up_k (by omega)).trans ((up_k (by omega)).trans ((up_k (by omega)).trans ((up_k (by omega)).trans ((up_k (by omega)).trans ((up_k (by omega)).trans ((up_k (by omega)).trans (kt6)))))))))
        clear h9
        by_cases e4 : z25 ≠ 0
        · rw [if_pos e4] at h
          exact (ih _ (by decide) _ _ _ _ h k j hk).trans (kt25)
        · rw [if_neg e4] at h
          cases h
          exact kt25
      · rw [if_neg e3] at h
        cases h
        exact kt6
    · rw [if_neg e2] at h
      rcases bo_inv h with ⟨h9, h8⟩ | ⟨z27, t27, h9, h⟩
      · cases h8
      have kt27 : t27 k j = t k j := (ih _ (by decide) _ _ _ _ h9 k j hk).trans (kt1)
      clear h9
      by_cases e5 : z27 ≠ 0
      · rw [if_pos e5] at h
        rcases bo_inv h with ⟨h9, h8⟩ | ⟨z46, t46, h9, h⟩
        · cases h8
        have kt46 : t46 k j = t k j := (ih _ (by decide) _ _ _ _ h9 k j hk).trans ((up_k (by omega)).trans ((up_k (by omega)).trans ((up_k (by omega)).trans ((up_k (by omega)).trans ((up_k (by omega)).trans ((up_k (by omega)).trans ((up_k (by omega)).trans ((up_k (by omega)).trans (kt27)))))))))
        clear h9
        by_cases e6 : z46 ≠ 0
        · rw [if_pos e6] at h
          exact (ih _ (by decide) _ _ _ _ h k j hk).trans (kt46)
        · rw [if_neg e6] at h
          cases h
          exact kt46
      · rw [if_neg e5] at h
        cases h
        exact kt27
set_option maxHeartbeats 4000000 in
theorem kp_rM128 {rc : MRq} (ih : KPr rc) {t t3 : tab} {z : Int} (h : rM128 rc t = some (some (z, t3))) {k j : Nat} (hk : LKk k j) : t3 k j = t k j := by
  have hk2 : 181 ≤ k ∧ k ≤ 185 ∨ k = 177 ∧ j = 18 := hk
  unfold rM128 at h
  rcases bo_inv h with ⟨h9, h8⟩ | ⟨z1, t1, h9, h⟩
  · cases h8
  have kt1 : t1 k j = t k j := (ih _ (by decide) _ _ _ _ h9 k j hk).trans (rfl)
  clear h9
  rcases bo_inv h with ⟨h9, h8⟩ | ⟨z2, t2, h9, h⟩
  · cases h8
  have kt2 : t2 k j = t k j := (ih _ (by decide) _ _ _ _ h9 k j hk).trans (rfl)
  clear h9
  rcases bo_inv h with ⟨h9, h8⟩ | ⟨z3, t3, h9, h⟩
  · cases h8
  have kt3 : t3 k j = t k j := (ih _ (by decide) _ _ _ _ h9 k j hk).trans (rfl)
  clear h9
  by_cases e1 : z3 ≠ 0
  · rw [if_pos e1] at h
    rcases bo_inv h with ⟨h9, h8⟩ | ⟨z5, t5, h9, h⟩
    · cases h8
    have kt5 : t5 k j = t k j := (ih _ (by decide) _ _ _ _ h9 k j hk).trans (rfl)
    clear h9
    cases h
    exact kt5
  · rw [if_neg e1] at h
    rcases bo_inv h with ⟨h9, h8⟩ | ⟨z6, t6, h9, h⟩
    · cases h8
    have kt6 : t6 k j = t k j := (ih _ (by decide) _ _ _ _ h9 k j hk).trans (rfl)
    clear h9
    by_cases e2 : z6 = 0
    · rw [if_pos e2] at h
      rcases bo_inv h with ⟨h9, h8⟩ | ⟨z8, t8, h9, h⟩
      · cases h8
      have kt8 : t8 k j = t k j := (ih _ (by decide) _ _ _ _ h9 k j hk).trans (rfl)
      clear h9
      by_cases e3 : z8 = 0
      · rw [if_pos e3] at h
        by_cases e4 : z1 = 0
        · rw [if_pos e4] at h
          by_cases e5 : z2 = 0
          · rw [if_pos e5] at h
            rcases bo_inv h with ⟨h9, h8⟩ | ⟨z12, t12, h9, h⟩
            · cases h8
            have kt12 : t12 k j = t k j := (ih _ (by decide) _ _ _ _ h9 k j hk).trans (rfl)
            clear h9
            rcases bo_inv h with ⟨h9, h8⟩ | ⟨z13, t13, h9, h⟩
            · cases h8
            have kt13 : t13 k j = t k j := (ih _ (by decide) _ _ _ _ h9 k j hk).trans (rfl)
            clear h9
            rcases bo_inv h with ⟨h9, h8⟩ | ⟨z14, t14, h9, h⟩
            · cases h8
            have kt14 : t14 k j = t k j := (ih _ (by decide) _ _ _ _ h9 k j hk).trans (rfl)
            clear h9
            by_cases e6 : z12 = 0
            · rw [if_pos e6] at h
              by_cases e7 : z13 = 0
              · rw [if_pos e7] at h
                rcases bo_inv h with ⟨h9, h8⟩ | ⟨z18, t18, h9, h⟩
                · cases h8
                have kt18 : t18 k j = t k j := (ih _ (by decide) _ _ _ _ h9 k j hk).trans (kt14)
                clear h9
                by_cases e8 : z18 = 0
                · rw [if_pos e8] at h
                  cases h
                  exact kt14
                · rw [if_neg e8] at h
                  rcases bo_inv h with ⟨h9, h8⟩ | ⟨z20, t20, h9, h⟩
                  · cases h8
                  have kt20 : t20 k j = t k j := (ih _ (by decide) _ _ _ _ h9 k j hk).trans (kt14)
                  clear h9
                  by_cases e9 : z20 ≠ 0
                  · rw [if_pos e9] at h
                    rcases bo_inv h with ⟨h9, h8⟩ | ⟨z25, t25, h9, h⟩
                    · cases h8
                    have kt25 : t25 k j = t k j := (ih _ (by decide) _ _ _ _ h9 k j hk).trans ((up_k (by omega)).trans (kt20))
                    clear h9
                    cases h
                    exact kt25
                  · rw [if_neg e9] at h
                    cases h
                    exact kt20
              · rw [if_neg e7] at h
                rcases bo_inv h with ⟨h9, h8⟩ | ⟨z27, t27, h9, h⟩
                · cases h8
                have kt27 : t27 k j = t k j := (ih _ (by decide) _ _ _ _ h9 k j hk).trans (kt14)
                clear h9
                by_cases e10 : z27 = 0
                · rw [if_pos e10] at h
                  cases h
                  exact kt14
                · rw [if_neg e10] at h
                  rcases bo_inv h with ⟨h9, h8⟩ | ⟨z29, t29, h9, h⟩
                  · cases h8
                  have kt29 : t29 k j = t k j := (ih _ (by decide) _ _ _ _ h9 k j hk).trans (kt14)
                  clear h9
                  by_cases e11 : z29 ≠ 0
                  · rw [if_pos e11] at h
                    rcases bo_inv h with ⟨h9, h8⟩ | ⟨z34, t34, h9, h⟩
                    · cases h8
                    have kt34 : t34 k j = t k j := (ih _ (by decide) _ _ _ _ h9 k j hk).trans ((up_k (by omega)).trans (kt29))
                    clear h9
                    cases h
                    exact kt34
                  · rw [if_neg e11] at h
                    cases h
                    exact kt29
            · rw [if_neg e6] at h
              rcases bo_inv h with ⟨h9, h8⟩ | ⟨z36, t36, h9, h⟩
              · cases h8
              have kt36 : t36 k j = t k j := (ih _ (by decide) _ _ _ _ h9 k j hk).trans (kt14)
              clear h9
              by_cases e12 : z36 = 0
              · rw [if_pos e12] at h
                cases h
                exact kt14
              · rw [if_neg e12] at h
                rcases bo_inv h with ⟨h9, h8⟩ | ⟨z38, t38, h9, h⟩
                · cases h8
                have kt38 : t38 k j = t k j := (ih _ (by decide) _ _ _ _ h9 k j hk).trans (kt14)
                clear h9
                by_cases e13 : z38 ≠ 0
                · rw [if_pos e13] at h
                  rcases bo_inv h with ⟨h9, h8⟩ | ⟨z43, t43, h9, h⟩
                  · cases h8
                  have kt43 : t43 k j = t k j := (ih _ (by decide) _ _ _ _ h9 k j hk).trans ((up_k (by omega)).trans (kt38))
                  clear h9
                  cases h
                  exact kt43
                · rw [if_neg e13] at h
                  cases h
                  exact kt38
          · rw [if_neg e5] at h
            rcases bo_inv h with ⟨h9, h8⟩ | ⟨z44, t44, h9, h⟩
            · cases h8
            have kt44 : t44 k j = t k j := (ih _ (by decide) _ _ _ _ h9 k j hk).trans (rfl)
            clear h9
            rcases bo_inv h with ⟨h9, h8⟩ | ⟨z46, t46, h9, h⟩
            · cases h8
            have kt46 : t46 k j = t k j := (ih _ (by decide) _ _ _ _ h9 k j hk).trans (kt44)
            clear h9
            by_cases e14 : z46 = 0
            · rw [if_pos e14] at h
              cases h
              exact kt44
            · rw [if_neg e14] at h
              rcases bo_inv h with ⟨h9, h8⟩ | ⟨z49, t49, h9, h⟩
              · cases h8
              have kt49 : t49 k j = t k j := (ih _ (by decide) _ _ _ _ h9 k j hk).trans (kt44)
              clear h9
              by_cases e15 : z49 = 0
              · rw [if_pos e15] at h
                cases h
                exact kt49
              · rw [if_neg e15] at h
                rcases bo_inv h with ⟨h9, h8⟩ | ⟨z51, t51, h9, h⟩
                · cases h8
                have kt51 : t51 k j = t k j := (ih _ (by decide) _ _ _ _ h9 k j hk).trans (kt49)
                clear h9
                by_cases e16 : z51 ≠ 0
                · rw [if_pos e16] at h
                  by_cases e17 : t51 170 4 ≠ 3
                  · rw [if_pos e17] at h
                    cases h
                    exact kt51
                  · rw [if_neg e17] at h
                    by_cases e18 : inz (t51 170 7) 1 64 = 0
                    · rw [if_pos e18] at h
                      cases h
                      exact kt51
                    · rw [if_neg e18] at h
                      rcases bo_inv h with ⟨h9, h8⟩ | ⟨z62, t62, h9, h⟩
                      · cases h8
                      have kt62 : t62 k j = t k j := (ih _ (by decide) _ _ _ _ h9 k j hk).trans (kt51)
                      clear h9
                      by_cases e19 : z62 = 1
                      · rw [if_pos e19] at h
                        rcases bo_inv h with ⟨h9, h8⟩ | ⟨z72, t72, h9, h⟩
                        · cases h8
                        have kt72 : t72 k j = t k j := (ih _ (by decide) _ _ _ _ h9 k j hk).trans ((up_k (by omega)).trans ((up_k (by omega)).trans (kt62)))
                        clear h9
                        rcases bo_inv h with ⟨h9, h8⟩ | ⟨z73, t73, h9, h⟩
                        · cases h8
                        have kt73 : t73 k j = t k j := (ih _ (by decide) _ _ _ _ h9 k j hk).trans (kt72)
                        clear h9
                        by_cases e20 : z73 = 0
                        · rw [if_pos e20] at h
                          cases h
                          exact kt73
                        · rw [if_neg e20] at h
                          rcases bo_inv h with ⟨h9, h8⟩ | ⟨z75, t75, h9, h⟩
                          · cases h8
                          have kt75 : t75 k j = t k j := (ih _ (by decide) _ _ _ _ h9 k j hk).trans (kt73)
                          clear h9
                          by_cases e21 : z75 = 0
                          · rw [if_pos e21] at h
                            cases h
                            exact kt75
                          · rw [if_neg e21] at h
                            cases h
                            exact kt75
                      · rw [if_neg e19] at h
                        cases h
                        exact kt62
                · rw [if_neg e16] at h
                  cases h
                  exact kt51
        · rw [if_neg e4] at h
          rcases bo_inv h with ⟨h9, h8⟩ | ⟨z78, t78, h9, h⟩
          · cases h8
          have kt78 : t78 k j = t k j := (ih _ (by decide) _ _ _ _ h9 k j hk).trans (rfl)
          clear h9
          rcases bo_inv h with ⟨h9, h8⟩ | ⟨z79, t79, h9, h⟩
          · cases h8
          have kt79 : t79 k j = t k j := (ih _ (by decide) _ _ _ _ h9 k j hk).trans (kt78)
          clear h9
          by_cases e22 : z79 = 0
          · rw [if_pos e22] at h
            cases h
            exact kt79
          · rw [if_neg e22] at h
            rcases bo_inv h with ⟨h9, h8⟩ | ⟨z81, t81, h9, h⟩
            · cases h8
            have kt81 : t81 k j = t k j := (ih _ (by decide) _ _ _ _ h9 k j hk).trans (kt79)
            clear h9
            by_cases e23 : z81 ≠ 0
            · rw [if_pos e23] at h
              by_cases e24 : t81 170 4 ≠ 3
              · rw [if_pos e24] at h
                cases h
                exact kt81
              · rw [if_neg e24] at h
                by_cases e25 : inz (t81 170 7) 1 16 ≠ 0
                · rw [if_pos e25] at h
                  rcases bo_inv h with ⟨h9, h8⟩ | ⟨z96, t96, h9, h⟩
                  · cases h8
                  have kt96 : t96 k j = t k j := (ih _ (by decide) _ _ _ _ h9 k j hk).trans ((up_k (by omega)).trans (kt81))
                  clear h9
                  rcases bo_inv h with ⟨h9, h8⟩ | ⟨z97, t97, h9, h⟩
                  · cases h8
                  have kt97 : t97 k j = t k j := (ih _ (by decide) _ _ _ _ h9 k j hk).trans (kt96)
                  clear h9
                  cases h
                  exact kt97
                · rw [if_neg e25] at h
                  cases h
                  exact kt81
            · rw [if_neg e23] at h
              cases h
              exact kt81
      · rw [if_neg e3] at h
        rcases bo_inv h with ⟨h9, h8⟩ | ⟨z99, t99, h9, h⟩
        · cases h8
        have kt99 : t99 k j = t k j := (ih _ (by decide) _ _ _ _ h9 k j hk).trans (rfl)
        clear h9
        rcases bo_inv h with ⟨h9, h8⟩ | ⟨z100, t100, h9, h⟩
        · cases h8
        have kt100 : t100 k j = t k j := (ih _ (by decide) _ _ _ _ h9 k j hk).trans (kt99)
        clear h9
        by_cases e26 : z100 = 0
        · rw [if_pos e26] at h
          cases h
          exact kt100
        · rw [if_neg e26] at h
          rcases bo_inv h with ⟨h9, h8⟩ | ⟨z102, t102, h9, h⟩
          · cases h8
          have kt102 : t102 k j = t k j := (ih _ (by decide) _ _ _ _ h9 k j hk).trans (kt100)
          clear h9
          by_cases e27 : z102 = 0
          · rw [if_pos e27] at h
            cases h
            exact kt102
          · rw [if_neg e27] at h
            cases h
            exact kt102
    · rw [if_neg e2] at h
      rcases bo_inv h with ⟨h9, h8⟩ | ⟨z104, t104, h9, h⟩
      · cases h8
      have kt104 : t104 k j = t k j := (ih _ (by decide) _ _ _ _ h9 k j hk).trans (rfl)
      clear h9
      cases h
      exact kt104
set_option maxHeartbeats 4000000 in
theorem kp_rM76 {rc : MRq} (ih : KPr rc) {x0 : Int} {t t3 : tab} {z : Int} (h : rM76 rc x0 t = some (some (z, t3))) {k j : Nat} (hk : LKk k j) : t3 k j = t k j := by
  have hk2 : 181 ≤ k ∧ k ≤ 185 ∨ k = 177 ∧ j = 18 := hk
  unfold rM76 at h
  cases h
  exact rfl
set_option maxHeartbeats 4000000 in
theorem kp_rM126_15 {rc : MRq} (ih : KPr rc) {y2 y3 : Int} {t t3 : tab} {z : Int} (h : rM126_15 rc y2 y3 t = some (some (z, t3))) {k j : Nat} (hk : LKk k j) : t3 k j = t k j := by
  have hk2 : 181 ≤ k ∧ k ≤ 185 ∨ k = 177 ∧ j = 18 := hk
  unfold rM126_15 at h
  by_cases e1 : txn (4 : Int) ≤ ipl (ipl y3 y2) 1
  · rw [if_pos e1] at h
    cases h
    exact rfl
  · rw [if_neg e1] at h
    by_cases e2 : txc (4 : Int) y3 ≠ 32
    · rw [if_pos e2] at h
      exact (ih _ (by decide) _ _ _ _ h k j hk).trans (rfl)
    · rw [if_neg e2] at h
      by_cases e3 : txc (4 : Int) (ipl (ipl y3 y2) 1) ≠ 32
      · rw [if_pos e3] at h
        exact (ih _ (by decide) _ _ _ _ h k j hk).trans (rfl)
      · rw [if_neg e3] at h
        exact (ih _ (by decide) _ _ _ _ h k j hk).trans (rfl)
set_option maxHeartbeats 4000000 in
theorem kp_rM126_61 {rc : MRq} (ih : KPr rc) {y2 y3 y4 y5 : Int} {t t3 : tab} {z : Int} (h : rM126_61 rc y2 y3 y4 y5 t = some (some (z, t3))) {k j : Nat} (hk : LKk k j) : t3 k j = t k j := by
  have hk2 : 181 ≤ k ∧ k ≤ 185 ∨ k = 177 ∧ j = 18 := hk
  unfold rM126_61 at h
  by_cases e1 : y2 ≤ y5
  · rw [if_pos e1] at h
    by_cases e2 : y4 = 0
    · rw [if_pos e2] at h
      exact (ih _ (by decide) _ _ _ _ h k j hk).trans (rfl)
    · rw [if_neg e2] at h
      cases h
      exact rfl
  · rw [if_neg e1] at h
    by_cases e3 : y4 = 0
    · rw [if_pos e3] at h
      exact (ih _ (by decide) _ _ _ _ h k j hk).trans (rfl)
    · rw [if_neg e3] at h
      by_cases e4 : txc (4 : Int) (ipl (ipl y3 1) y5) ≠ t 171 ((ipl (t 170 5) y5).toNat)
      · rw [if_pos e4] at h
        exact (ih _ (by decide) _ _ _ _ h k j hk).trans (rfl)
      · rw [if_neg e4] at h
        exact (ih _ (by decide) _ _ _ _ h k j hk).trans (rfl)
set_option maxHeartbeats 4000000 in
theorem kp_rM123_99999 {rc : MRq} (ih : KPr rc) {t t3 : tab} {z : Int} (h : rM123_99999 rc t = some (some (z, t3))) {k j : Nat} (hk : LKk k j) : t3 k j = t k j := by
  have hk2 : 181 ≤ k ∧ k ≤ 185 ∨ k = 177 ∧ j = 18 := hk
  unfold rM123_99999 at h
  by_cases e1 : t 170 2 ≤ t 170 3
  · rw [if_pos e1] at h
    by_cases e2 : t 170 3 ≠ t 170 2
    · rw [if_pos e2] at h
      by_cases e3 : ltz (t 171 ((t 170 3).toNat)) = 0
      · rw [if_pos e3] at h
        by_cases e4 : dgz (t 171 ((t 170 3).toNat)) = 0
        · rw [if_pos e4] at h
          by_cases e5 : t 170 2 ≤ ipl (t 170 3) 1
          · rw [if_pos e5] at h
            exact (ih _ (by decide) _ _ _ _ h k j hk).trans ((up_k (by omega)).trans (rfl))
          · rw [if_neg e5] at h
            exact (ih _ (by decide) _ _ _ _ h k j hk).trans ((up_k (by omega)).trans (rfl))
        · rw [if_neg e4] at h
          exact (ih _ (by decide) _ _ _ _ h k j hk).trans ((up_k (by omega)).trans ((up_k (by omega)).trans (rfl)))
      · rw [if_neg e3] at h
        exact (ih _ (by decide) _ _ _ _ h k j hk).trans ((up_k (by omega)).trans (rfl))
    · rw [if_neg e2] at h
      cases h
      exact (up_k (by omega)).trans ((up_k (by omega)).trans ((up_k (by omega)).trans (rfl)))
  · rw [if_neg e1] at h
    by_cases e6 : t 171 ((t 170 3).toNat) = 32
    · rw [if_pos e6] at h
      exact (ih _ (by decide) _ _ _ _ h k j hk).trans ((up_k (by omega)).trans (rfl))
    · rw [if_neg e6] at h
      by_cases e7 : t 171 ((t 170 3).toNat) ≠ 10
      · rw [if_pos e7] at h
        by_cases e8 : t 170 3 ≠ t 170 2
        · rw [if_pos e8] at h
          by_cases e9 : ltz (t 171 ((t 170 3).toNat)) = 0
          · rw [if_pos e9] at h
            by_cases e10 : dgz (t 171 ((t 170 3).toNat)) = 0
            · rw [if_pos e10] at h
              by_cases e11 : t 170 2 ≤ ipl (t 170 3) 1
              · rw [if_pos e11] at h
                exact (ih _ (by decide) _ _ _ _ h k j hk).trans ((up_k (by omega)).trans (rfl))
              · rw [if_neg e11] at h
                exact (ih _ (by decide) _ _ _ _ h k j hk).trans ((up_k (by omega)).trans (rfl))
            · rw [if_neg e10] at h
              exact (ih _ (by decide) _ _ _ _ h k j hk).trans ((up_k (by omega)).trans ((up_k (by omega)).trans (rfl)))
          · rw [if_neg e9] at h
            exact (ih _ (by decide) _ _ _ _ h k j hk).trans ((up_k (by omega)).trans (rfl))
        · rw [if_neg e8] at h
          cases h
          exact (up_k (by omega)).trans ((up_k (by omega)).trans ((up_k (by omega)).trans (rfl)))
      · rw [if_neg e7] at h
        exact (ih _ (by decide) _ _ _ _ h k j hk).trans ((up_k (by omega)).trans (rfl))
set_option maxHeartbeats 4000000 in
theorem kp_rM123_340 {rc : MRq} (ih : KPr rc) {y1 ys0 : Int} {t t3 : tab} {z : Int} (h : rM123_340 rc y1 ys0 t = some (some (z, t3))) {k j : Nat} (hk : LKk k j) : t3 k j = t k j := by
  have hk2 : 181 ≤ k ∧ k ≤ 185 ∨ k = 177 ∧ j = 18 := hk
  unfold rM123_340 at h
  by_cases e1 : y1 = 123
  · rw [if_pos e1] at h
    exact (ih _ (by decide) _ _ _ _ h k j hk).trans (rfl)
  · rw [if_neg e1] at h
    by_cases e2 : y1 = 125
    · rw [if_pos e2] at h
      exact (ih _ (by decide) _ _ _ _ h k j hk).trans (rfl)
    · rw [if_neg e2] at h
      by_cases e3 : y1 = 40
      · rw [if_pos e3] at h
        exact (ih _ (by decide) _ _ _ _ h k j hk).trans (rfl)
      · rw [if_neg e3] at h
        by_cases e4 : y1 = 41
        · rw [if_pos e4] at h
          exact (ih _ (by decide) _ _ _ _ h k j hk).trans (rfl)
        · rw [if_neg e4] at h
          by_cases e5 : y1 = 91
          · rw [if_pos e5] at h
            exact (ih _ (by decide) _ _ _ _ h k j hk).trans (rfl)
          · rw [if_neg e5] at h
            by_cases e6 : y1 = 93
            · rw [if_pos e6] at h
              exact (ih _ (by decide) _ _ _ _ h k j hk).trans (rfl)
            · rw [if_neg e6] at h
              by_cases e7 : y1 = 44
              · rw [if_pos e7] at h
                exact (ih _ (by decide) _ _ _ _ h k j hk).trans (rfl)
              · rw [if_neg e7] at h
                by_cases e8 : y1 = 59
                · rw [if_pos e8] at h
                  exact (ih _ (by decide) _ _ _ _ h k j hk).trans (rfl)
                · rw [if_neg e8] at h
                  by_cases e9 : y1 = 58
                  · rw [if_pos e9] at h
                    exact (ih _ (by decide) _ _ _ _ h k j hk).trans (rfl)
                  · rw [if_neg e9] at h
                    by_cases e10 : y1 = 61
                    · rw [if_pos e10] at h
                      exact (ih _ (by decide) _ _ _ _ h k j hk).trans (rfl)
                    · rw [if_neg e10] at h
                      by_cases e11 : y1 = 43
                      · rw [if_pos e11] at h
                        exact (ih _ (by decide) _ _ _ _ h k j hk).trans (rfl)
                      · rw [if_neg e11] at h
                        by_cases e12 : y1 = 45
                        · rw [if_pos e12] at h
                          exact (ih _ (by decide) _ _ _ _ h k j hk).trans (rfl)
                        · rw [if_neg e12] at h
                          by_cases e13 : y1 = 42
                          · rw [if_pos e13] at h
                            exact (ih _ (by decide) _ _ _ _ h k j hk).trans (rfl)
                          · rw [if_neg e13] at h
                            by_cases e14 : y1 = 47
                            · rw [if_pos e14] at h
                              exact (ih _ (by decide) _ _ _ _ h k j hk).trans (rfl)
                            · rw [if_neg e14] at h
                              by_cases e15 : y1 = 37
                              · rw [if_pos e15] at h
                                exact (ih _ (by decide) _ _ _ _ h k j hk).trans (rfl)
                              · rw [if_neg e15] at h
                                by_cases e16 : y1 = 38
                                · rw [if_pos e16] at h
                                  exact (ih _ (by decide) _ _ _ _ h k j hk).trans (rfl)
                                · rw [if_neg e16] at h
                                  by_cases e17 : y1 = 124
                                  · rw [if_pos e17] at h
                                    exact (ih _ (by decide) _ _ _ _ h k j hk).trans (rfl)
                                  · rw [if_neg e17] at h
                                    by_cases e18 : y1 = 94
                                    · rw [if_pos e18] at h
                                      exact (ih _ (by decide) _ _ _ _ h k j hk).trans (rfl)
                                    · rw [if_neg e18] at h
                                      by_cases e19 : y1 = 126
                                      · rw [if_pos e19] at h
                                        exact (ih _ (by decide) _ _ _ _ h k j hk).trans (rfl)
                                      · rw [if_neg e19] at h
                                        by_cases e20 : y1 = 33
                                        · rw [if_pos e20] at h
                                          exact (ih _ (by decide) _ _ _ _ h k j hk).trans (rfl)
                                        · rw [if_neg e20] at h
                                          by_cases e21 : y1 = 63
                                          · rw [if_pos e21] at h
                                            exact (ih _ (by decide) _ _ _ _ h k j hk).trans (rfl)
                                          · rw [if_neg e21] at h
                                            by_cases e22 : y1 = 60
                                            · rw [if_pos e22] at h
                                              exact (ih _ (by decide) _ _ _ _ h k j hk).trans (rfl)
                                            · rw [if_neg e22] at h
                                              by_cases e23 : y1 ≠ 62
                                              · rw [if_pos e23] at h
                                                exact (ih _ (by decide) _ _ _ _ h k j hk).trans (rfl)
                                              · rw [if_neg e23] at h
                                                exact (ih _ (by decide) _ _ _ _ h k j hk).trans (rfl)
set_option maxHeartbeats 4000000 in
theorem kp_rM123_213 {rc : MRq} (ih : KPr rc) {t t3 : tab} {z : Int} (h : rM123_213 rc t = some (some (z, t3))) {k j : Nat} (hk : LKk k j) : t3 k j = t k j := by
  have hk2 : 181 ≤ k ∧ k ≤ 185 ∨ k = 177 ∧ j = 18 := hk
  unfold rM123_213 at h
  by_cases e1 : t 170 2 ≤ t 170 3
  · rw [if_pos e1] at h
    by_cases e2 : 65535 < t 170 7
    · rw [if_pos e2] at h
      cases h
      exact (up_k (by omega)).trans ((up_k (by omega)).trans (rfl))
    · rw [if_neg e2] at h
      cases h
      exact (up_k (by omega)).trans ((up_k (by omega)).trans (rfl))
  · rw [if_neg e1] at h
    by_cases e3 : dgz (t 171 ((t 170 3).toNat)) = 0
    · rw [if_pos e3] at h
      by_cases e4 : 65535 < t 170 7
      · rw [if_pos e4] at h
        cases h
        exact (up_k (by omega)).trans ((up_k (by omega)).trans (rfl))
      · rw [if_neg e4] at h
        cases h
        exact (up_k (by omega)).trans ((up_k (by omega)).trans (rfl))
    · rw [if_neg e3] at h
      exact (ih _ (by decide) _ _ _ _ h k j hk).trans ((up_k (by omega)).trans ((up_k (by omega)).trans (rfl)))
set_option maxHeartbeats 4000000 in
theorem kp_rM123_94 {rc : MRq} (ih : KPr rc) {t t3 : tab} {z : Int} (h : rM123_94 rc t = some (some (z, t3))) {k j : Nat} (hk : LKk k j) : t3 k j = t k j := by
  have hk2 : 181 ≤ k ∧ k ≤ 185 ∨ k = 177 ∧ j = 18 := hk
  unfold rM123_94 at h
  by_cases e1 : t 170 2 ≤ t 170 3
  · rw [if_pos e1] at h
    rcases bo_inv h with ⟨h9, h8⟩ | ⟨z6, t6, h9, h⟩
    · cases h8
    have kt6 : t6 k j = t k j := (ih _ (by decide) _ _ _ _ h9 k j hk).trans ((up_k (by omega)).trans (rfl))
    clear h9
    by_cases e2 : z6 = 0
    · rw [if_pos e2] at h
      by_cases e3 : 8 < imi (t 170 3) (t 170 5)
      · rw [if_pos e3] at h
        cases h
        exact (up_k (by omega)).trans ((up_k (by omega)).trans ((up_k (by omega)).trans (rfl)))
      · rw [if_neg e3] at h
        cases h
        exact (up_k (by omega)).trans ((up_k (by omega)).trans ((up_k (by omega)).trans (rfl)))
    · rw [if_neg e2] at h
      cases h
      exact (up_k (by omega)).trans ((up_k (by omega)).trans ((up_k (by omega)).trans (rfl)))
  · rw [if_neg e1] at h
    by_cases e4 : ltz (t 171 ((t 170 3).toNat)) ≠ 0
    · rw [if_pos e4] at h
      exact (ih _ (by decide) _ _ _ _ h k j hk).trans ((up_k (by omega)).trans (rfl))
    · rw [if_neg e4] at h
      by_cases e5 : dgz (t 171 ((t 170 3).toNat)) = 0
      · rw [if_pos e5] at h
        rcases bo_inv h with ⟨h9, h8⟩ | ⟨z38, t38, h9, h⟩
        · cases h8
        have kt38 : t38 k j = t k j := (ih _ (by decide) _ _ _ _ h9 k j hk).trans ((up_k (by omega)).trans (rfl))
        clear h9
        by_cases e6 : z38 = 0
        · rw [if_pos e6] at h
          by_cases e7 : 8 < imi (t 170 3) (t 170 5)
          · rw [if_pos e7] at h
            cases h
            exact (up_k (by omega)).trans ((up_k (by omega)).trans ((up_k (by omega)).trans (rfl)))
          · rw [if_neg e7] at h
            cases h
            exact (up_k (by omega)).trans ((up_k (by omega)).trans ((up_k (by omega)).trans (rfl)))
        · rw [if_neg e6] at h
          cases h
          exact (up_k (by omega)).trans ((up_k (by omega)).trans ((up_k (by omega)).trans (rfl)))
      · rw [if_neg e5] at h
        exact (ih _ (by decide) _ _ _ _ h k j hk).trans ((up_k (by omega)).trans (rfl))
set_option maxHeartbeats 4000000 in
theorem kp_rM123_484 {rc : MRq} (ih : KPr rc) {y1 y2 ys0 : Int} {t t3 : tab} {z : Int} (h : rM123_484 rc y1 y2 ys0 t = some (some (z, t3))) {k j : Nat} (hk : LKk k j) : t3 k j = t k j := by
  have hk2 : 181 ≤ k ∧ k ≤ 185 ∨ k = 177 ∧ j = 18 := hk
  unfold rM123_484 at h
  by_cases e1 : y2 ≠ 61
  · rw [if_pos e1] at h
    by_cases e2 : y2 ≠ y1
    · rw [if_pos e2] at h
      exact (ih _ (by decide) _ _ _ _ h k j hk).trans (rfl)
    · rw [if_neg e2] at h
      by_cases e3 : y1 = 38
      · rw [if_pos e3] at h
        exact (ih _ (by decide) _ _ _ _ h k j hk).trans (rfl)
      · rw [if_neg e3] at h
        by_cases e4 : y1 = 124
        · rw [if_pos e4] at h
          exact (ih _ (by decide) _ _ _ _ h k j hk).trans (rfl)
        · rw [if_neg e4] at h
          by_cases e5 : y1 = 60
          · rw [if_pos e5] at h
            exact (ih _ (by decide) _ _ _ _ h k j hk).trans (rfl)
          · rw [if_neg e5] at h
            by_cases e6 : y1 ≠ 62
            · rw [if_pos e6] at h
              exact (ih _ (by decide) _ _ _ _ h k j hk).trans (rfl)
            · rw [if_neg e6] at h
              exact (ih _ (by decide) _ _ _ _ h k j hk).trans (rfl)
  · rw [if_neg e1] at h
    by_cases e7 : y1 = 61
    · rw [if_pos e7] at h
      exact (ih _ (by decide) _ _ _ _ h k j hk).trans (rfl)
    · rw [if_neg e7] at h
      by_cases e8 : y1 = 33
      · rw [if_pos e8] at h
        exact (ih _ (by decide) _ _ _ _ h k j hk).trans (rfl)
      · rw [if_neg e8] at h
        by_cases e9 : y1 = 60
        · rw [if_pos e9] at h
          exact (ih _ (by decide) _ _ _ _ h k j hk).trans (rfl)
        · rw [if_neg e9] at h
          by_cases e10 : y1 = 62
          · rw [if_pos e10] at h
            exact (ih _ (by decide) _ _ _ _ h k j hk).trans (rfl)
          · rw [if_neg e10] at h
            by_cases e11 : y2 ≠ y1
            · rw [if_pos e11] at h
              exact (ih _ (by decide) _ _ _ _ h k j hk).trans (rfl)
            · rw [if_neg e11] at h
              by_cases e12 : y1 = 38
              · rw [if_pos e12] at h
                exact (ih _ (by decide) _ _ _ _ h k j hk).trans (rfl)
              · rw [if_neg e12] at h
                by_cases e13 : y1 = 124
                · rw [if_pos e13] at h
                  exact (ih _ (by decide) _ _ _ _ h k j hk).trans (rfl)
                · rw [if_neg e13] at h
                  exact (ih _ (by decide) _ _ _ _ h k j hk).trans (rfl)
set_option maxHeartbeats 4000000 in
theorem kp_rM123_549 {rc : MRq} (ih : KPr rc) {y3 ys0 : Int} {t t3 : tab} {z : Int} (h : rM123_549 rc y3 ys0 t = some (some (z, t3))) {k j : Nat} (hk : LKk k j) : t3 k j = t k j := by
  have hk2 : 181 ≤ k ∧ k ≤ 185 ∨ k = 177 ∧ j = 18 := hk
  unfold rM123_549 at h
  by_cases e1 : y3 = 0
  · rw [if_pos e1] at h
    by_cases e2 : ys0 = 0
    · rw [if_pos e2] at h
      cases h
      exact (up_k (by omega)).trans ((up_k (by omega)).trans ((up_k (by omega)).trans (rfl)))
    · rw [if_neg e2] at h
      cases h
      exact (up_k (by omega)).trans ((up_k (by omega)).trans ((up_k (by omega)).trans (rfl)))
  · rw [if_neg e1] at h
    by_cases e3 : ys0 = 0
    · rw [if_pos e3] at h
      cases h
      exact (up_k (by omega)).trans ((up_k (by omega)).trans ((up_k (by omega)).trans (rfl)))
    · rw [if_neg e3] at h
      cases h
      exact (up_k (by omega)).trans ((up_k (by omega)).trans ((up_k (by omega)).trans (rfl)))
set_option maxHeartbeats 4000000 in
theorem kp_rM127_36 {rc : MRq} (ih : KPr rc) {x1 y2 : Int} {t t3 : tab} {z : Int} (h : rM127_36 rc x1 y2 t = some (some (z, t3))) {k j : Nat} (hk : LKk k j) : t3 k j = t k j := by
  have hk2 : 181 ≤ k ∧ k ≤ 185 ∨ k = 177 ∧ j = 18 := hk
  unfold rM127_36 at h
  by_cases e1 : txn (x1 : Int) ≤ y2
  · rw [if_pos e1] at h
    cases h
    exact rfl
  · rw [if_neg e1] at h
    by_cases e2 : t 171 ((ipl (t 170 5) y2).toNat) = txc (x1 : Int) y2
    · rw [if_pos e2] at h
      exact (ih _ (by decide) _ _ _ _ h k j hk).trans (rfl)
    · rw [if_neg e2] at h
      cases h
      exact rfl
set_option maxHeartbeats 4000000 in
theorem kp_rM134_7 {rc : MRq} (ih : KPr rc) {y1 : Int} {t t3 : tab} {z : Int} (h : rM134_7 rc y1 t = some (some (z, t3))) {k j : Nat} (hk : LKk k j) : t3 k j = t k j := by
  have hk2 : 181 ≤ k ∧ k ≤ 185 ∨ k = 177 ∧ j = 18 := hk
  unfold rM134_7 at h
  by_cases e1 : y1 < 0
  · rw [if_pos e1] at h
    cases h
    exact rfl
  · rw [if_neg e1] at h
    by_cases e2 : imi (t 173 y1.toNat) (t 172 y1.toNat) ≠ imi (t 170 6) (t 170 5)
    · rw [if_pos e2] at h
      exact (ih _ (by decide) _ _ _ _ h k j hk).trans (rfl)
    · rw [if_neg e2] at h
      exact (ih _ (by decide) _ _ _ _ h k j hk).trans (rfl)
set_option maxHeartbeats 4000000 in
theorem kp_rM134_44 {rc : MRq} (ih : KPr rc) {y1 y2 y3 : Int} {t t3 : tab} {z : Int} (h : rM134_44 rc y1 y2 y3 t = some (some (z, t3))) {k j : Nat} (hk : LKk k j) : t3 k j = t k j := by
  have hk2 : 181 ≤ k ∧ k ≤ 185 ∨ k = 177 ∧ j = 18 := hk
  unfold rM134_44 at h
  by_cases e1 : imi (t 170 6) (t 170 5) ≤ y3
  · rw [if_pos e1] at h
    by_cases e2 : y2 = 0
    · rw [if_pos e2] at h
      exact (ih _ (by decide) _ _ _ _ h k j hk).trans (rfl)
    · rw [if_neg e2] at h
      cases h
      exact rfl
  · rw [if_neg e1] at h
    by_cases e3 : y2 = 0
    · rw [if_pos e3] at h
      exact (ih _ (by decide) _ _ _ _ h k j hk).trans (rfl)
    · rw [if_neg e3] at h
      by_cases e4 : t 171 ((ipl (t 172 y1.toNat) y3).toNat) ≠ t 171 ((ipl (t 170 5) y3).toNat)
      · rw [if_pos e4] at h
        exact (ih _ (by decide) _ _ _ _ h k j hk).trans (rfl)
      · rw [if_neg e4] at h
        exact (ih _ (by decide) _ _ _ _ h k j hk).trans (rfl)
set_option maxHeartbeats 4000000 in
theorem kp_rM148_5 {rc : MRq} (ih : KPr rc) {y1 y2 : Int} {t t3 : tab} {z : Int} (h : rM148_5 rc y1 y2 t = some (some (z, t3))) {k j : Nat} (hk : LKk k j) : t3 k j = t k j := by
  have hk2 : 181 ≤ k ∧ k ≤ 185 ∨ k = 177 ∧ j = 18 := hk
  unfold rM148_5 at h
  by_cases e1 : t 170 2 ≤ y2
  · rw [if_pos e1] at h
    by_cases e2 : y2 = t 170 2
    · rw [if_pos e2] at h
      cases h
      exact rfl
    · rw [if_neg e2] at h
      by_cases e3 : t 171 y2.toNat = y1
      · rw [if_pos e3] at h
        by_cases e4 : ipl y2 1 = t 170 2
        · rw [if_pos e4] at h
          cases h
          exact rfl
        · rw [if_neg e4] at h
          by_cases e5 : t 171 ((ipl y2 1).toNat) ≠ 61
          · rw [if_pos e5] at h
            cases h
            exact rfl
          · rw [if_neg e5] at h
            by_cases e6 : y1 = 61
            · rw [if_pos e6] at h
              cases h
              exact rfl
            · rw [if_neg e6] at h
              by_cases e7 : y1 = 33
              · rw [if_pos e7] at h
                cases h
                exact rfl
              · rw [if_neg e7] at h
                cases h
                exact rfl
      · rw [if_neg e3] at h
        cases h
        exact rfl
  · rw [if_neg e1] at h
    by_cases e8 : t 171 y2.toNat = 32
    · rw [if_pos e8] at h
      exact (ih _ (by decide) _ _ _ _ h k j hk).trans (rfl)
    · rw [if_neg e8] at h
      by_cases e9 : t 171 y2.toNat ≠ 10
      · rw [if_pos e9] at h
        by_cases e10 : y2 = t 170 2
        · rw [if_pos e10] at h
          cases h
          exact rfl
        · rw [if_neg e10] at h
          by_cases e11 : t 171 y2.toNat = y1
          · rw [if_pos e11] at h
            by_cases e12 : ipl y2 1 = t 170 2
            · rw [if_pos e12] at h
              cases h
              exact rfl
            · rw [if_neg e12] at h
              by_cases e13 : t 171 ((ipl y2 1).toNat) ≠ 61
              · rw [if_pos e13] at h
                cases h
                exact rfl
              · rw [if_neg e13] at h
                by_cases e14 : y1 = 61
                · rw [if_pos e14] at h
                  cases h
                  exact rfl
                · rw [if_neg e14] at h
                  by_cases e15 : y1 = 33
                  · rw [if_pos e15] at h
                    cases h
                    exact rfl
                  · rw [if_neg e15] at h
                    cases h
                    exact rfl
          · rw [if_neg e11] at h
            cases h
            exact rfl
      · rw [if_neg e9] at h
        exact (ih _ (by decide) _ _ _ _ h k j hk).trans (rfl)
set_option maxHeartbeats 4000000 in
theorem kp_rM144_25 {rc : MRq} (ih : KPr rc) {y1 y2 : Int} {t t3 : tab} {z : Int} (h : rM144_25 rc y1 y2 t = some (some (z, t3))) {k j : Nat} (hk : LKk k j) : t3 k j = t k j := by
  have hk2 : 181 ≤ k ∧ k ≤ 185 ∨ k = 177 ∧ j = 18 := hk
  unfold rM144_25 at h
  rcases bo_inv h with ⟨h9, h8⟩ | ⟨z1, t1, h9, h⟩
  · cases h8
  have kt1 : t1 k j = t k j := (ih _ (by decide) _ _ _ _ h9 k j hk).trans (rfl)
  clear h9
  by_cases e1 : z1 ≠ y1
  · rw [if_pos e1] at h
    cases h
    exact rfl
  · rw [if_neg e1] at h
    rcases bo_inv h with ⟨h9, h8⟩ | ⟨z4, t4, h9, h⟩
    · cases h8
    have kt4 : t4 k j = t k j := (ih _ (by decide) _ _ _ _ h9 k j hk).trans (rfl)
    clear h9
    rcases bo_inv h with ⟨h9, h8⟩ | ⟨z6, t6, h9, h⟩
    · cases h8
    have kt6 : t6 k j = t k j := (ih _ (by decide) _ _ _ _ h9 k j hk).trans (kt4)
    clear h9
    by_cases e2 : z6 ≠ 0
    · rw [if_pos e2] at h
      exact (ih _ (by decide) _ _ _ _ h k j hk).trans ((kp_pt2 hk).trans ((kp_prt hk).trans (kt6)))
    · rw [if_neg e2] at h
      cases h
      exact kt6
set_option maxHeartbeats 4000000 in
theorem kp_rM149_6 {rc : MRq} (ih : KPr rc) {y1 y3 y4 : Int} {t t3 : tab} {z : Int} (h : rM149_6 rc y1 y3 y4 t = some (some (z, t3))) {k j : Nat} (hk : LKk k j) : t3 k j = t k j := by
  have hk2 : 181 ≤ k ∧ k ≤ 185 ∨ k = 177 ∧ j = 18 := hk
  unfold rM149_6 at h
  by_cases e1 : t 170 2 ≤ y4
  · rw [if_pos e1] at h
    cases h
    exact rfl
  · rw [if_neg e1] at h
    by_cases e2 : t 171 y4.toNat = 32
    · rw [if_pos e2] at h
      exact (ih _ (by decide) _ _ _ _ h k j hk).trans (rfl)
    · rw [if_neg e2] at h
      by_cases e3 : t 171 y4.toNat ≠ 10
      · rw [if_pos e3] at h
        by_cases e4 : t 171 y4.toNat = 40
        · rw [if_pos e4] at h
          by_cases e5 : y3 ≠ 20
          · rw [if_pos e5] at h
            rcases bo_inv h with ⟨h9, h8⟩ | ⟨z21, t21, h9, h⟩
            · cases h8
            have kt21 : t21 k j = t k j := (ih _ (by decide) _ _ _ _ h9 k j hk).trans (rfl)
            clear h9
            cases h
            exact kt21
          · rw [if_neg e5] at h
            cases h
            exact rfl
        · rw [if_neg e4] at h
          cases h
          exact rfl
      · rw [if_neg e3] at h
        exact (ih _ (by decide) _ _ _ _ h k j hk).trans (rfl)
set_option maxHeartbeats 4000000 in
theorem kp_rM150_31 {rc : MRq} (ih : KPr rc) {y3 y4 y5 y6 : Int} {t t3 : tab} {z : Int} (h : rM150_31 rc y3 y4 y5 y6 t = some (some (z, t3))) {k j : Nat} (hk : LKk k j) : t3 k j = t k j := by
  have hk2 : 181 ≤ k ∧ k ≤ 185 ∨ k = 177 ∧ j = 18 := hk
  unfold rM150_31 at h
  by_cases e1 : y6 ≠ 0
  · rw [if_pos e1] at h
    rcases bo_inv h with ⟨h9, h8⟩ | ⟨z2, t2, h9, h⟩
    · cases h8
    have kt2 : t2 k j = t k j := (ih _ (by decide) _ _ _ _ h9 k j hk).trans (rfl)
    clear h9
    by_cases e2 : z2 = 0
    · rw [if_pos e2] at h
      rcases bo_inv h with ⟨h9, h8⟩ | ⟨z4, t4, h9, h⟩
      · cases h8
      have kt4 : t4 k j = t k j := (ih _ (by decide) _ _ _ _ h9 k j hk).trans (rfl)
      clear h9
      by_cases e3 : z4 ≠ 0
      · rw [if_pos e3] at h
        by_cases e4 : y6 = t 201 y5.toNat
        · rw [if_pos e4] at h
          rcases bo_inv h with ⟨h9, h8⟩ | ⟨z10, t10, h9, h⟩
          · cases h8
          have kt10 : t10 k j = t k j := (ih _ (by decide) _ _ _ _ h9 k j hk).trans (rfl)
          clear h9
          exact (ih _ (by decide) _ _ _ _ h k j hk).trans (kt10)
        · rw [if_neg e4] at h
          cases h
          exact rfl
      · rw [if_neg e3] at h
        cases h
        exact rfl
    · rw [if_neg e2] at h
      by_cases e5 : y6 ≤ 0
      · rw [if_pos e5] at h
        rcases bo_inv h with ⟨h9, h8⟩ | ⟨z15, t15, h9, h⟩
        · cases h8
        have kt15 : t15 k j = t k j := (ih _ (by decide) _ _ _ _ h9 k j hk).trans (rfl)
        clear h9
        by_cases e6 : z15 ≠ 0
        · rw [if_pos e6] at h
          exact (ih _ (by decide) _ _ _ _ h k j hk).trans (kt15)
        · rw [if_neg e6] at h
          cases h
          exact kt15
      · rw [if_neg e5] at h
        rcases bo_inv h with ⟨h9, h8⟩ | ⟨z18, t18, h9, h⟩
        · cases h8
        have kt18 : t18 k j = t k j := (ih _ (by decide) _ _ _ _ h9 k j hk).trans (rfl)
        clear h9
        rcases bo_inv h with ⟨h9, h8⟩ | ⟨z19, t19, h9, h⟩
        · cases h8
        have kt19 : t19 k j = t k j := (ih _ (by decide) _ _ _ _ h9 k j hk).trans (kt18)
        clear h9
        by_cases e7 : z19 ≠ 0
        · rw [if_pos e7] at h
          exact (ih _ (by decide) _ _ _ _ h k j hk).trans (kt19)
        · rw [if_neg e7] at h
          cases h
          exact kt19
  · rw [if_neg e1] at h
    rcases bo_inv h with ⟨h9, h8⟩ | ⟨z22, t22, h9, h⟩
    · cases h8
    have kt22 : t22 k j = t k j := (ih _ (by decide) _ _ _ _ h9 k j hk).trans (rfl)
    clear h9
    by_cases e8 : z22 ≠ 0
    · rw [if_pos e8] at h
      by_cases e9 : y6 = t 201 y5.toNat
      · rw [if_pos e9] at h
        rcases bo_inv h with ⟨h9, h8⟩ | ⟨z29, t29, h9, h⟩
        · cases h8
        have kt29 : t29 k j = t k j := (ih _ (by decide) _ _ _ _ h9 k j hk).trans (rfl)
        clear h9
        exact (ih _ (by decide) _ _ _ _ h k j hk).trans (kt29)
      · rw [if_neg e9] at h
        cases h
        exact rfl
    · rw [if_neg e8] at h
      by_cases e10 : y6 ≤ 0
      · rw [if_pos e10] at h
        rcases bo_inv h with ⟨h9, h8⟩ | ⟨z33, t33, h9, h⟩
        · cases h8
        have kt33 : t33 k j = t k j := (ih _ (by decide) _ _ _ _ h9 k j hk).trans (rfl)
        clear h9
        by_cases e11 : z33 ≠ 0
        · rw [if_pos e11] at h
          exact (ih _ (by decide) _ _ _ _ h k j hk).trans (kt33)
        · rw [if_neg e11] at h
          cases h
          exact kt33
      · rw [if_neg e10] at h
        rcases bo_inv h with ⟨h9, h8⟩ | ⟨z36, t36, h9, h⟩
        · cases h8
        have kt36 : t36 k j = t k j := (ih _ (by decide) _ _ _ _ h9 k j hk).trans (rfl)
        clear h9
        rcases bo_inv h with ⟨h9, h8⟩ | ⟨z37, t37, h9, h⟩
        · cases h8
        have kt37 : t37 k j = t k j := (ih _ (by decide) _ _ _ _ h9 k j hk).trans (kt36)
        clear h9
        by_cases e12 : z37 ≠ 0
        · rw [if_pos e12] at h
          exact (ih _ (by decide) _ _ _ _ h k j hk).trans (kt37)
        · rw [if_neg e12] at h
          cases h
          exact kt37
set_option maxHeartbeats 4000000 in
theorem kp_rM150_128 {rc : MRq} (ih : KPr rc) {y4 y5 y7 : Int} {t t3 : tab} {z : Int} (h : rM150_128 rc y4 y5 y7 t = some (some (z, t3))) {k j : Nat} (hk : LKk k j) : t3 k j = t k j := by
  have hk2 : 181 ≤ k ∧ k ≤ 185 ∨ k = 177 ∧ j = 18 := hk
  unfold rM150_128 at h
  by_cases e1 : y7 < 0
  · rw [if_pos e1] at h
    by_cases e2 : y4 ≠ 0
    · rw [if_pos e2] at h
      cases h
      exact (up_k (by omega)).trans ((up_k (by omega)).trans ((up_k (by omega)).trans ((up_k (by omega)).trans ((up_k (by omega)).trans ((kp_pt2 hk).trans (rfl))))))
    · rw [if_neg e2] at h
      rcases bo_inv h with ⟨h9, h8⟩ | ⟨z32, t32, h9, h⟩
      · cases h8
      have kt32 : t32 k j = t k j := (ih _ (by decide) _ _ _ _ h9 k j hk).trans ((up_k (by omega)).trans ((up_k (by omega)).trans ((up_k (by omega)).trans ((up_k (by omega)).trans ((up_k (by omega)).trans ((kp_pt2 hk).trans (rfl)))))))
      clear h9
      by_cases e3 : z32 = 0
      · rw [if_pos e3] at h
        cases h
        exact kt32
      · rw [if_neg e3] at h
        cases h
        exact kt32
  · rw [if_neg e1] at h
    exact (ih _ (by decide) _ _ _ _ h k j hk).trans ((kp_pt2 hk).trans (rfl))
set_option maxHeartbeats 4000000 in
theorem kp_rM139_26 {rc : MRq} (ih : KPr rc) {y1 y2 y3 y4 : Int} {t t3 : tab} {z : Int} (h : rM139_26 rc y1 y2 y3 y4 t = some (some (z, t3))) {k j : Nat} (hk : LKk k j) : t3 k j = t k j := by
  have hk2 : 181 ≤ k ∧ k ≤ 185 ∨ k = 177 ∧ j = 18 := hk
  unfold rM139_26 at h
  rcases bo_inv h with ⟨h9, h8⟩ | ⟨z1, t1, h9, h⟩
  · cases h8
  have kt1 : t1 k j = t k j := (ih _ (by decide) _ _ _ _ h9 k j hk).trans (rfl)
  clear h9
  by_cases e1 : z1 = 0
  · rw [if_pos e1] at h
    exact (ih _ (by decide) _ _ _ _ h k j hk).trans (rfl)
  · rw [if_neg e1] at h
    rcases bo_inv h with ⟨h9, h8⟩ | ⟨z3, t3, h9, h⟩
    · cases h8
    have kt3 : t3 k j = t k j := (ih _ (by decide) _ _ _ _ h9 k j hk).trans (rfl)
    clear h9
    rcases bo_inv h with ⟨h9, h8⟩ | ⟨z4, t4, h9, h⟩
    · cases h8
    have kt4 : t4 k j = t k j := (ih _ (by decide) _ _ _ _ h9 k j hk).trans (kt3)
    clear h9
    by_cases e2 : z4 = 0
    · rw [if_pos e2] at h
      cases h
      exact kt4
    · rw [if_neg e2] at h
      rcases bo_inv h with ⟨h9, h8⟩ | ⟨z6, t6, h9, h⟩
      · cases h8
      have kt6 : t6 k j = t k j := (ih _ (by decide) _ _ _ _ h9 k j hk).trans (kt4)
      clear h9
      by_cases e3 : z6 ≠ 0
      · rw [if_pos e3] at h
        exact (ih _ (by decide) _ _ _ _ h k j hk).trans (kt6)
      · rw [if_neg e3] at h
        cases h
        exact kt6
set_option maxHeartbeats 4000000 in
theorem kp_rM139_58 {rc : MRq} (ih : KPr rc) {y1 y2 y3 y4 : Int} {t t3 : tab} {z : Int} (h : rM139_58 rc y1 y2 y3 y4 t = some (some (z, t3))) {k j : Nat} (hk : LKk k j) : t3 k j = t k j := by
  have hk2 : 181 ≤ k ∧ k ≤ 185 ∨ k = 177 ∧ j = 18 := hk
  unfold rM139_58 at h
  rcases bo_inv h with ⟨h9, h8⟩ | ⟨z1, t1, h9, h⟩
  · cases h8
  have kt1 : t1 k j = t k j := (ih _ (by decide) _ _ _ _ h9 k j hk).trans (rfl)
  clear h9
  by_cases e1 : z1 ≠ 0
  · rw [if_pos e1] at h
    rcases bo_inv h with ⟨h9, h8⟩ | ⟨z3, t3, h9, h⟩
    · cases h8
    have kt3 : t3 k j = t k j := (ih _ (by decide) _ _ _ _ h9 k j hk).trans (rfl)
    clear h9
    by_cases e2 : y4 = 1
    · rw [if_pos e2] at h
      cases h
      exact (up_k (by omega)).trans (kt3)
    · rw [if_neg e2] at h
      cases h
      exact (up_k (by omega)).trans ((up_k (by omega)).trans ((up_k (by omega)).trans (kt3)))
  · rw [if_neg e1] at h
    rcases bo_inv h with ⟨h9, h8⟩ | ⟨z12, t12, h9, h⟩
    · cases h8
    have kt12 : t12 k j = t k j := (ih _ (by decide) _ _ _ _ h9 k j hk).trans (rfl)
    clear h9
    by_cases e3 : z12 ≠ 0
    · rw [if_pos e3] at h
      exact (ih _ (by decide) _ _ _ _ h k j hk).trans (kt12)
    · rw [if_neg e3] at h
      cases h
      exact kt12
set_option maxHeartbeats 4000000 in
theorem kp_rM155_53 {rc : MRq} (ih : KPr rc) {y1 y2 y3 y4 y5 y6 : Int} {t t3 : tab} {z : Int} (h : rM155_53 rc y1 y2 y3 y4 y5 y6 t = some (some (z, t3))) {k j : Nat} (hk : LKk k j) : t3 k j = t k j := by
  have hk2 : 181 ≤ k ∧ k ≤ 185 ∨ k = 177 ∧ j = 18 := hk
  unfold rM155_53 at h
  by_cases e1 : 6 ≤ y6
  · rw [if_pos e1] at h
    exact (ih _ (by decide) _ _ _ _ h k j hk).trans ((kp_pt1 hk).trans ((kp_pt1 hk).trans (rfl)))
  · rw [if_neg e1] at h
    exact (ih _ (by decide) _ _ _ _ h k j hk).trans ((kp_pt1 hk).trans (rfl))
set_option maxHeartbeats 4000000 in
theorem kp_rM155_134 {rc : MRq} (ih : KPr rc) {y1 y2 y3 y4 y5 y6 y7 y9 y11 y13 y15 y17 y19 y21 y23 y25 y27 : Int} {t t3 : tab} {z : Int} (h : rM155_134 rc y1 y2 y3 y4 y5 y6 y7 y9 y11 y13 y15 y17 y19 y21 y23 y25 y27 t = some (some (z, t3))) {k j : Nat} (hk : LKk k j) : t3 k j = t k j := by
  have hk2 : 181 ≤ k ∧ k ≤ 185 ∨ k = 177 ∧ j = 18 := hk
  unfold rM155_134 at h
  by_cases e1 : y5 ≠ 6
  · rw [if_pos e1] at h
    by_cases e2 : y5 ≤ 0
    · rw [if_pos e2] at h
      rcases bo_inv h with ⟨h9, h8⟩ | ⟨z10, t10, h9, h⟩
      · cases h8
      have kt10 : t10 k j = t k j := (ih _ (by decide) _ _ _ _ h9 k j hk).trans ((up_k (by omega)).trans ((kp_rfg hk).trans (rfl)))
      clear h9
      by_cases e3 : z10 ≠ 0
      · rw [if_pos e3] at h
        by_cases e4 : la y17 (lo (t10 170 23) (t10 170 22)) ≠ 0
        · rw [if_pos e4] at h
          exact (ih _ (by decide) _ _ _ _ h k j hk).trans ((kp_pt1 hk).trans (kt10))
        · rw [if_neg e4] at h
          by_cases e5 : la (t10 170 22) (lo y19 y17) ≠ 0
          · rw [if_pos e5] at h
            exact (ih _ (by decide) _ _ _ _ h k j hk).trans ((kp_pt1 hk).trans (kt10))
          · rw [if_neg e5] at h
            by_cases e6 : la y21 (t10 170 24) ≠ 0
            · rw [if_pos e6] at h
              exact (ih _ (by decide) _ _ _ _ h k j hk).trans ((kp_pt1 hk).trans (kt10))
            · rw [if_neg e6] at h
              by_cases e7 : la y23 (t10 170 25) ≠ 0
              · rw [if_pos e7] at h
                exact (ih _ (by decide) _ _ _ _ h k j hk).trans ((kp_pt1 hk).trans (kt10))
              · rw [if_neg e7] at h
                by_cases e8 : la y25 (t10 170 26) = 0
                · rw [if_pos e8] at h
                  exact (ih _ (by decide) _ _ _ _ h k j hk).trans ((kp_pt1 hk).trans (kt10))
                · rw [if_neg e8] at h
                  exact (ih _ (by decide) _ _ _ _ h k j hk).trans ((kp_pt1 hk).trans (kt10))
      · rw [if_neg e3] at h
        cases h
        exact kt10
    · rw [if_neg e2] at h
      rcases bo_inv h with ⟨h9, h8⟩ | ⟨z24, t24, h9, h⟩
      · cases h8
      have kt24 : t24 k j = t k j := (ih _ (by decide) _ _ _ _ h9 k j hk).trans (rfl)
      clear h9
      rcases bo_inv h with ⟨h9, h8⟩ | ⟨z32, t32, h9, h⟩
      · cases h8
      have kt32 : t32 k j = t k j := (ih _ (by decide) _ _ _ _ h9 k j hk).trans ((up_k (by omega)).trans ((kp_rfg hk).trans (kt24)))
      clear h9
      by_cases e9 : z32 ≠ 0
      · rw [if_pos e9] at h
        by_cases e10 : la y17 (lo (t32 170 23) (t32 170 22)) ≠ 0
        · rw [if_pos e10] at h
          exact (ih _ (by decide) _ _ _ _ h k j hk).trans ((kp_pt1 hk).trans (kt32))
        · rw [if_neg e10] at h
          by_cases e11 : la (t32 170 22) (lo y19 y17) ≠ 0
          · rw [if_pos e11] at h
            exact (ih _ (by decide) _ _ _ _ h k j hk).trans ((kp_pt1 hk).trans (kt32))
          · rw [if_neg e11] at h
            by_cases e12 : la y21 (t32 170 24) ≠ 0
            · rw [if_pos e12] at h
              exact (ih _ (by decide) _ _ _ _ h k j hk).trans ((kp_pt1 hk).trans (kt32))
            · rw [if_neg e12] at h
              by_cases e13 : la y23 (t32 170 25) ≠ 0
              · rw [if_pos e13] at h
                exact (ih _ (by decide) _ _ _ _ h k j hk).trans ((kp_pt1 hk).trans (kt32))
              · rw [if_neg e13] at h
                by_cases e14 : la y25 (t32 170 26) = 0
                · rw [if_pos e14] at h
                  exact (ih _ (by decide) _ _ _ _ h k j hk).trans ((kp_pt1 hk).trans (kt32))
                · rw [if_neg e14] at h
                  exact (ih _ (by decide) _ _ _ _ h k j hk).trans ((kp_pt1 hk).trans (kt32))
      · rw [if_neg e9] at h
        cases h
        exact kt32
  · rw [if_neg e1] at h
    cases h
    exact rfl
set_option maxHeartbeats 4000000 in
theorem kp_rM155_273 {rc : MRq} (ih : KPr rc) {y1 y2 y3 y4 y5 y6 y7 y9 y11 y13 y15 y17 y19 y21 y23 y25 ys0 ys1 : Int} {t t3 : tab} {z : Int} (h : rM155_273 rc y1 y2 y3 y4 y5 y6 y7 y9 y11 y13 y15 y17 y19 y21 y23 y25 ys0 ys1 t = some (some (z, t3))) {k j : Nat} (hk : LKk k j) : t3 k j = t k j := by
  have hk2 : 181 ≤ k ∧ k ≤ 185 ∨ k = 177 ∧ j = 18 := hk
  unfold rM155_273 at h
  by_cases e1 : ipl y5 1 ≠ 1
  · rw [if_pos e1] at h
    rcases bo_inv h with ⟨h9, h8⟩ | ⟨z8, t8, h9, h⟩
    · cases h8
    have kt8 : t8 k j = t k j := (ih _ (by decide) _ _ _ _ h9 k j hk).trans (rfl)
    clear h9
    by_cases e2 : z8 ≠ 0
    · rw [if_pos e2] at h
      exact (ih _ (by decide) _ _ _ _ h k j hk).trans (rfl)
    · rw [if_neg e2] at h
      rcases bo_inv h with ⟨h9, h8⟩ | ⟨z10, t10, h9, h⟩
      · cases h8
      have kt10 : t10 k j = t k j := (ih _ (by decide) _ _ _ _ h9 k j hk).trans (rfl)
      clear h9
      by_cases e3 : z10 ≠ 0
      · rw [if_pos e3] at h
        by_cases e4 : ior ys1 ys0 = 0
        · rw [if_pos e4] at h
          cases h
          exact (up_k (by omega)).trans ((up_k (by omega)).trans ((up_k (by omega)).trans ((up_k (by omega)).trans ((up_k (by omega)).trans ((up_k (by omega)).trans ((up_k (by omega)).trans (kt10)))))))
        · rw [if_neg e4] at h
          by_cases e5 : t10 170 21 < 0
          · rw [if_pos e5] at h
            cases h
            exact (up_k (by omega)).trans ((up_k (by omega)).trans ((up_k (by omega)).trans ((up_k (by omega)).trans ((up_k (by omega)).trans ((up_k (by omega)).trans ((up_k (by omega)).trans ((up_k (by omega)).trans (kt10))))))))
          · rw [if_neg e5] at h
            by_cases e6 : t10 170 21 ≤ y2
            · rw [if_pos e6] at h
              cases h
              exact (up_k (by omega)).trans ((up_k (by omega)).trans ((up_k (by omega)).trans ((up_k (by omega)).trans ((up_k (by omega)).trans ((up_k (by omega)).trans ((up_k (by omega)).trans (kt10)))))))
            · rw [if_neg e6] at h
              cases h
              exact (up_k (by omega)).trans ((up_k (by omega)).trans ((up_k (by omega)).trans ((up_k (by omega)).trans ((up_k (by omega)).trans ((up_k (by omega)).trans ((up_k (by omega)).trans ((up_k (by omega)).trans (kt10))))))))
      · rw [if_neg e3] at h
        cases h
        exact kt10
  · rw [if_neg e1] at h
    rcases bo_inv h with ⟨h9, h8⟩ | ⟨z31, t31, h9, h⟩
    · cases h8
    have kt31 : t31 k j = t k j := (ih _ (by decide) _ _ _ _ h9 k j hk).trans (rfl)
    clear h9
    by_cases e7 : z31 ≠ 0
    · rw [if_pos e7] at h
      exact (ih _ (by decide) _ _ _ _ h k j hk).trans (rfl)
    · rw [if_neg e7] at h
      cases h
      exact rfl
set_option maxHeartbeats 4000000 in
theorem kp_rM156_164 {rc : MRq} (ih : KPr rc) {y1 y2 y3 y4 y5 ys0 : Int} {t t3 : tab} {z : Int} (h : rM156_164 rc y1 y2 y3 y4 y5 ys0 t = some (some (z, t3))) {k j : Nat} (hk : LKk k j) : t3 k j = t k j := by
  have hk2 : 181 ≤ k ∧ k ≤ 185 ∨ k = 177 ∧ j = 18 := hk
  unfold rM156_164 at h
  by_cases e1 : ys0 ≠ 0
  · rw [if_pos e1] at h
    by_cases e2 : y4 ≠ 5
    · rw [if_pos e2] at h
      by_cases e3 : 1 < y4
      · rw [if_pos e3] at h
        rcases bo_inv h with ⟨h9, h8⟩ | ⟨z5, t5, h9, h⟩
        · cases h8
        have kt5 : t5 k j = t k j := (ih _ (by decide) _ _ _ _ h9 k j hk).trans ((kp_prt hk).trans (rfl))
        clear h9
        rcases bo_inv h with ⟨h9, h8⟩ | ⟨z6, t6, h9, h⟩
        · cases h8
        have kt6 : t6 k j = t k j := (ih _ (by decide) _ _ _ _ h9 k j hk).trans (kt5)
        clear h9
        by_cases e4 : z6 = 0
        · rw [if_pos e4] at h
          rcases bo_inv h with ⟨h9, h8⟩ | ⟨z8, t8, h9, h⟩
          · cases h8
          have kt8 : t8 k j = t k j := (ih _ (by decide) _ _ _ _ h9 k j hk).trans (kt5)
          clear h9
          by_cases e5 : t8 170 4 ≠ 1
          · rw [if_pos e5] at h
            cases h
            exact kt8
          · rw [if_neg e5] at h
            rcases bo_inv h with ⟨h9, h8⟩ | ⟨z13, t13, h9, h⟩
            · cases h8
            have kt13 : t13 k j = t k j := (ih _ (by decide) _ _ _ _ h9 k j hk).trans (kt8)
            clear h9
            by_cases e6 : 0 ≤ z13
            · rw [if_pos e6] at h
              rcases bo_inv h with ⟨h9, h8⟩ | ⟨z19, t19, h9, h⟩
              · cases h8
              have kt19 : t19 k j = t k j := (ih _ (by decide) _ _ _ _ h9 k j hk).trans (kt8)
              clear h9
              by_cases e7 : z19 = 0
              · rw [if_pos e7] at h
                by_cases e8 : t8 174 z13.toNat = 0
                · rw [if_pos e8] at h
                  rcases bo_inv h with ⟨h9, h8⟩ | ⟨z22, t22, h9, h⟩
                  · cases h8
                  have kt22 : t22 k j = t k j := (ih _ (by decide) _ _ _ _ h9 k j hk).trans (kt8)
                  clear h9
                  by_cases e9 : z22 ≠ 0
                  · rw [if_pos e9] at h
                    by_cases e10 : y4 ≠ 2
                    · rw [if_pos e10] at h
                      rcases bo_inv h with ⟨h9, h8⟩ | ⟨z36, t36, h9, h⟩
                      · cases h8
                      have kt36 : t36 k j = t k j := (ih _ (by decide) _ _ _ _ h9 k j hk).trans ((kp_sto hk).trans ((up_k (by omega)).trans ((kp_pt2 hk).trans (kt22))))
                      clear h9
                      cases h
                      exact kt36
                    · rw [if_neg e10] at h
                      rcases bo_inv h with ⟨h9, h8⟩ | ⟨z47, t47, h9, h⟩
                      · cases h8
                      have kt47 : t47 k j = t k j := (ih _ (by decide) _ _ _ _ h9 k j hk).trans ((kp_sto hk).trans ((up_k (by omega)).trans ((kp_pt2 hk).trans (kt22))))
                      clear h9
                      cases h
                      exact kt47
                  · rw [if_neg e9] at h
                    cases h
                    exact kt22
                · rw [if_neg e8] at h
                  cases h
                  exact kt8
              · rw [if_neg e7] at h
                by_cases e11 : t8 174 z13.toNat = 1
                · rw [if_pos e11] at h
                  rcases bo_inv h with ⟨h9, h8⟩ | ⟨z50, t50, h9, h⟩
                  · cases h8
                  have kt50 : t50 k j = t k j := (ih _ (by decide) _ _ _ _ h9 k j hk).trans (kt8)
                  clear h9
                  by_cases e12 : z50 ≠ 0
                  · rw [if_pos e12] at h
                    by_cases e13 : y4 ≠ 2
                    · rw [if_pos e13] at h
                      rcases bo_inv h with ⟨h9, h8⟩ | ⟨z64, t64, h9, h⟩
                      · cases h8
                      have kt64 : t64 k j = t k j := (ih _ (by decide) _ _ _ _ h9 k j hk).trans ((kp_sto hk).trans ((up_k (by omega)).trans ((kp_pt2 hk).trans (kt50))))
                      clear h9
                      cases h
                      exact kt64
                    · rw [if_neg e13] at h
                      rcases bo_inv h with ⟨h9, h8⟩ | ⟨z75, t75, h9, h⟩
                      · cases h8
                      have kt75 : t75 k j = t k j := (ih _ (by decide) _ _ _ _ h9 k j hk).trans ((kp_sto hk).trans ((up_k (by omega)).trans ((kp_pt2 hk).trans (kt50))))
                      clear h9
                      cases h
                      exact kt75
                  · rw [if_neg e12] at h
                    cases h
                    exact kt50
                · rw [if_neg e11] at h
                  cases h
                  exact kt8
            · rw [if_neg e6] at h
              cases h
              exact kt8
        · rw [if_neg e4] at h
          rcases bo_inv h with ⟨h9, h8⟩ | ⟨z78, t78, h9, h⟩
          · cases h8
          have kt78 : t78 k j = t k j := (ih _ (by decide) _ _ _ _ h9 k j hk).trans (kt5)
          clear h9
          rcases bo_inv h with ⟨h9, h8⟩ | ⟨z80, t80, h9, h⟩
          · cases h8
          have kt80 : t80 k j = t k j := (ih _ (by decide) _ _ _ _ h9 k j hk).trans (kt78)
          clear h9
          by_cases e14 : z80 ≠ 0
          · rw [if_pos e14] at h
            by_cases e15 : y4 ≠ 2
            · rw [if_pos e15] at h
              rcases bo_inv h with ⟨h9, h8⟩ | ⟨z87, t87, h9, h⟩
              · cases h8
              have kt87 : t87 k j = t k j := (ih _ (by decide) _ _ _ _ h9 k j hk).trans ((up_k (by omega)).trans ((kp_pt2 hk).trans (kt80)))
              clear h9
              cases h
              exact kt87
            · rw [if_neg e15] at h
              rcases bo_inv h with ⟨h9, h8⟩ | ⟨z91, t91, h9, h⟩
              · cases h8
              have kt91 : t91 k j = t k j := (ih _ (by decide) _ _ _ _ h9 k j hk).trans ((up_k (by omega)).trans ((kp_pt2 hk).trans (kt80)))
              clear h9
              cases h
              exact kt91
          · rw [if_neg e14] at h
            cases h
            exact kt80
      · rw [if_neg e3] at h
        rcases bo_inv h with ⟨h9, h8⟩ | ⟨z93, t93, h9, h⟩
        · cases h8
        have kt93 : t93 k j = t k j := (ih _ (by decide) _ _ _ _ h9 k j hk).trans ((kp_prt hk).trans (rfl))
        clear h9
        by_cases e16 : z93 ≠ 0
        · rw [if_pos e16] at h
          rcases bo_inv h with ⟨h9, h8⟩ | ⟨z95, t95, h9, h⟩
          · cases h8
          have kt95 : t95 k j = t k j := (ih _ (by decide) _ _ _ _ h9 k j hk).trans (kt93)
          clear h9
          by_cases e17 : z95 = 0
          · rw [if_pos e17] at h
            cases h
            exact kt95
          · rw [if_neg e17] at h
            rcases bo_inv h with ⟨h9, h8⟩ | ⟨z98, t98, h9, h⟩
            · cases h8
            have kt98 : t98 k j = t k j := (ih _ (by decide) _ _ _ _ h9 k j hk).trans (kt95)
            clear h9
            by_cases e18 : z98 ≠ 0
            · rw [if_pos e18] at h
              rcases bo_inv h with ⟨h9, h8⟩ | ⟨z101, t101, h9, h⟩
              · cases h8
              have kt101 : t101 k j = t k j := (ih _ (by decide) _ _ _ _ h9 k j hk).trans ((kp_sto hk).trans (kt98))
              clear h9
              cases h
              exact kt101
            · rw [if_neg e18] at h
              cases h
              exact kt98
        · rw [if_neg e16] at h
          cases h
          exact kt93
    · rw [if_neg e2] at h
      rcases bo_inv h with ⟨h9, h8⟩ | ⟨z103, t103, h9, h⟩
      · cases h8
      have kt103 : t103 k j = t k j := (ih _ (by decide) _ _ _ _ h9 k j hk).trans (rfl)
      clear h9
      cases h
      exact kt103
  · rw [if_neg e1] at h
    rcases bo_inv h with ⟨h9, h8⟩ | ⟨z104, t104, h9, h⟩
    · cases h8
    have kt104 : t104 k j = t k j := (ih _ (by decide) _ _ _ _ h9 k j hk).trans (rfl)
    clear h9
    by_cases e19 : z104 ≠ 0
    · rw [if_pos e19] at h
      cases h
      exact rfl
    · rw [if_neg e19] at h
      rcases bo_inv h with ⟨h9, h8⟩ | ⟨z107, t107, h9, h⟩
      · cases h8
      have kt107 : t107 k j = t k j := (ih _ (by decide) _ _ _ _ h9 k j hk).trans (rfl)
      clear h9
      by_cases e20 : z107 ≠ 0
      · rw [if_pos e20] at h
        cases h
        exact rfl
      · rw [if_neg e20] at h
        rcases bo_inv h with ⟨h9, h8⟩ | ⟨z110, t110, h9, h⟩
        · cases h8
        have kt110 : t110 k j = t k j := (ih _ (by decide) _ _ _ _ h9 k j hk).trans (rfl)
        clear h9
        by_cases e21 : z110 ≠ 0
        · rw [if_pos e21] at h
          cases h
          exact rfl
        · rw [if_neg e21] at h
          rcases bo_inv h with ⟨h9, h8⟩ | ⟨z113, t113, h9, h⟩
          · cases h8
          have kt113 : t113 k j = t k j := (ih _ (by decide) _ _ _ _ h9 k j hk).trans (rfl)
          clear h9
          by_cases e22 : z113 ≠ 0
          · rw [if_pos e22] at h
            cases h
            exact rfl
          · rw [if_neg e22] at h
            rcases bo_inv h with ⟨h9, h8⟩ | ⟨z116, t116, h9, h⟩
            · cases h8
            have kt116 : t116 k j = t k j := (ih _ (by decide) _ _ _ _ h9 k j hk).trans (rfl)
            clear h9
            by_cases e23 : z116 ≠ 0
            · rw [if_pos e23] at h
              cases h
              exact rfl
            · rw [if_neg e23] at h
              rcases bo_inv h with ⟨h9, h8⟩ | ⟨z119, t119, h9, h⟩
              · cases h8
              have kt119 : t119 k j = t k j := (ih _ (by decide) _ _ _ _ h9 k j hk).trans (rfl)
              clear h9
              cases h
              exact kt119
set_option maxHeartbeats 4000000 in
theorem kp_rM159_12 {rc : MRq} (ih : KPr rc) {t t3 : tab} {z : Int} (h : rM159_12 rc t = some (some (z, t3))) {k j : Nat} (hk : LKk k j) : t3 k j = t k j := by
  have hk2 : 181 ≤ k ∧ k ≤ 185 ∨ k = 177 ∧ j = 18 := hk
  unfold rM159_12 at h
  rcases bo_inv h with ⟨h9, h8⟩ | ⟨z1, t1, h9, h⟩
  · cases h8
  have kt1 : t1 k j = t k j := (ih _ (by decide) _ _ _ _ h9 k j hk).trans (rfl)
  clear h9
  by_cases e1 : z1 = 0
  · rw [if_pos e1] at h
    exact (ih _ (by decide) _ _ _ _ h k j hk).trans (rfl)
  · rw [if_neg e1] at h
    rcases bo_inv h with ⟨h9, h8⟩ | ⟨z3, t3, h9, h⟩
    · cases h8
    have kt3 : t3 k j = t k j := (ih _ (by decide) _ _ _ _ h9 k j hk).trans (rfl)
    clear h9
    rcases bo_inv h with ⟨h9, h8⟩ | ⟨z4, t4, h9, h⟩
    · cases h8
    have kt4 : t4 k j = t k j := (ih _ (by decide) _ _ _ _ h9 k j hk).trans (kt3)
    clear h9
    by_cases e2 : z4 = 0
    · rw [if_pos e2] at h
      cases h
      exact kt4
    · rw [if_neg e2] at h
      rcases bo_inv h with ⟨h9, h8⟩ | ⟨z6, t6, h9, h⟩
      · cases h8
      have kt6 : t6 k j = t k j := (ih _ (by decide) _ _ _ _ h9 k j hk).trans (kt4)
      clear h9
      by_cases e3 : z6 ≠ 0
      · rw [if_pos e3] at h
        exact (ih _ (by decide) _ _ _ _ h k j hk).trans (kt6)
      · rw [if_neg e3] at h
        cases h
        exact kt6
set_option maxHeartbeats 4000000 in
theorem kp_rM159_44 {rc : MRq} (ih : KPr rc) {t t3 : tab} {z : Int} (h : rM159_44 rc t = some (some (z, t3))) {k j : Nat} (hk : LKk k j) : t3 k j = t k j := by
  have hk2 : 181 ≤ k ∧ k ≤ 185 ∨ k = 177 ∧ j = 18 := hk
  unfold rM159_44 at h
  rcases bo_inv h with ⟨h9, h8⟩ | ⟨z1, t1, h9, h⟩
  · cases h8
  have kt1 : t1 k j = t k j := (ih _ (by decide) _ _ _ _ h9 k j hk).trans (rfl)
  clear h9
  by_cases e1 : z1 ≠ 0
  · rw [if_pos e1] at h
    rcases bo_inv h with ⟨h9, h8⟩ | ⟨z3, t3, h9, h⟩
    · cases h8
    have kt3 : t3 k j = t k j := (ih _ (by decide) _ _ _ _ h9 k j hk).trans (rfl)
    clear h9
    rcases bo_inv h with ⟨h9, h8⟩ | ⟨z4, t4, h9, h⟩
    · cases h8
    have kt4 : t4 k j = t k j := (ih _ (by decide) _ _ _ _ h9 k j hk).trans (kt3)
    clear h9
    by_cases e2 : z4 = 0
    · rw [if_pos e2] at h
      cases h
      exact kt4
    · rw [if_neg e2] at h
      rcases bo_inv h with ⟨h9, h8⟩ | ⟨z6, t6, h9, h⟩
      · cases h8
      have kt6 : t6 k j = t k j := (ih _ (by decide) _ _ _ _ h9 k j hk).trans (kt4)
      clear h9
      by_cases e3 : z6 = 0
      · rw [if_pos e3] at h
        cases h
        exact kt6
      · rw [if_neg e3] at h
        rcases bo_inv h with ⟨h9, h8⟩ | ⟨z8, t8, h9, h⟩
        · cases h8
        have kt8 : t8 k j = t k j := (ih _ (by decide) _ _ _ _ h9 k j hk).trans (kt6)
        clear h9
        by_cases e4 : z8 = 0
        · rw [if_pos e4] at h
          cases h
          exact kt8
        · rw [if_neg e4] at h
          cases h
          exact kt8
  · rw [if_neg e1] at h
    rcases bo_inv h with ⟨h9, h8⟩ | ⟨z10, t10, h9, h⟩
    · cases h8
    have kt10 : t10 k j = t k j := (ih _ (by decide) _ _ _ _ h9 k j hk).trans (rfl)
    clear h9
    by_cases e5 : z10 ≠ 0
    · rw [if_pos e5] at h
      exact (ih _ (by decide) _ _ _ _ h k j hk).trans (kt10)
    · rw [if_neg e5] at h
      cases h
      exact kt10
set_option maxHeartbeats 4000000 in
theorem kp_rM129_131 {rc : MRq} (ih : KPr rc) {y1 y2 y3 y4 : Int} {t t3 : tab} {z : Int} (h : rM129_131 rc y1 y2 y3 y4 t = some (some (z, t3))) {k j : Nat} (hk : LKk k j) : t3 k j = t k j := by
  have hk2 : 181 ≤ k ∧ k ≤ 185 ∨ k = 177 ∧ j = 18 := hk
  unfold rM129_131 at h
  by_cases e1 : t 201 y2.toNat ≠ 0
  · rw [if_pos e1] at h
    rcases bo_inv h with ⟨h9, h8⟩ | ⟨z5, t5, h9, h⟩
    · cases h8
    have kt5 : t5 k j = t k j := (ih _ (by decide) _ _ _ _ h9 k j hk).trans (rfl)
    clear h9
    by_cases e2 : z5 = 0
    · rw [if_pos e2] at h
      rcases bo_inv h with ⟨h9, h8⟩ | ⟨z7, t7, h9, h⟩
      · cases h8
      have kt7 : t7 k j = t k j := (ih _ (by decide) _ _ _ _ h9 k j hk).trans (rfl)
      clear h9
      by_cases e3 : z7 ≠ 0
      · rw [if_pos e3] at h
        by_cases e4 : y1 = 0
        · rw [if_pos e4] at h
          rcases bo_inv h with ⟨h9, h8⟩ | ⟨z15, t15, h9, h⟩
          · cases h8
          have kt15 : t15 k j = t k j := (ih _ (by decide) _ _ _ _ h9 k j hk).trans ((up_k (by omega)).trans ((kp_rfg hk).trans (kt7)))
          clear h9
          by_cases e5 : z15 ≠ 0
          · rw [if_pos e5] at h
            exact (ih _ (by decide) _ _ _ _ h k j hk).trans ((kp_pt1 hk).trans (kt15))
          · rw [if_neg e5] at h
            cases h
            exact kt15
        · rw [if_neg e4] at h
          rcases bo_inv h with ⟨h9, h8⟩ | ⟨z18, t18, h9, h⟩
          · cases h8
          have kt18 : t18 k j = t k j := (ih _ (by decide) _ _ _ _ h9 k j hk).trans ((up_k (by omega)).trans ((kp_rfg hk).trans (kt7)))
          clear h9
          by_cases e6 : z18 = 0
          · rw [if_pos e6] at h
            cases h
            exact kt18
          · rw [if_neg e6] at h
            exact (ih _ (by decide) _ _ _ _ h k j hk).trans ((kp_pt1 hk).trans (kt18))
      · rw [if_neg e3] at h
        cases h
        exact kt7
    · rw [if_neg e2] at h
      by_cases e7 : t 201 y2.toNat ≤ 0
      · rw [if_pos e7] at h
        by_cases e8 : t 201 y2.toNat ≠ 4
        · rw [if_pos e8] at h
          rcases bo_inv h with ⟨h9, h8⟩ | ⟨z29, t29, h9, h⟩
          · cases h8
          have kt29 : t29 k j = t k j := (ih _ (by decide) _ _ _ _ h9 k j hk).trans (rfl)
          clear h9
          by_cases e9 : z29 ≠ 0
          · rw [if_pos e9] at h
            exact (ih _ (by decide) _ _ _ _ h k j hk).trans ((up_k (by omega)).trans (kt29))
          · rw [if_neg e9] at h
            cases h
            exact kt29
        · rw [if_neg e8] at h
          cases h
          exact rfl
      · rw [if_neg e7] at h
        rcases bo_inv h with ⟨h9, h8⟩ | ⟨z39, t39, h9, h⟩
        · cases h8
        have kt39 : t39 k j = t k j := (ih _ (by decide) _ _ _ _ h9 k j hk).trans (rfl)
        clear h9
        by_cases e10 : t39 201 y2.toNat ≠ 4
        · rw [if_pos e10] at h
          rcases bo_inv h with ⟨h9, h8⟩ | ⟨z44, t44, h9, h⟩
          · cases h8
          have kt44 : t44 k j = t k j := (ih _ (by decide) _ _ _ _ h9 k j hk).trans (kt39)
          clear h9
          by_cases e11 : z44 ≠ 0
          · rw [if_pos e11] at h
            exact (ih _ (by decide) _ _ _ _ h k j hk).trans ((up_k (by omega)).trans (kt44))
          · rw [if_neg e11] at h
            cases h
            exact kt44
        · rw [if_neg e10] at h
          cases h
          exact kt39
  · rw [if_neg e1] at h
    rcases bo_inv h with ⟨h9, h8⟩ | ⟨z54, t54, h9, h⟩
    · cases h8
    have kt54 : t54 k j = t k j := (ih _ (by decide) _ _ _ _ h9 k j hk).trans (rfl)
    clear h9
    by_cases e12 : z54 ≠ 0
    · rw [if_pos e12] at h
      rcases bo_inv h with ⟨h9, h8⟩ | ⟨z56, t56, h9, h⟩
      · cases h8
      have kt56 : t56 k j = t k j := (ih _ (by decide) _ _ _ _ h9 k j hk).trans (rfl)
      clear h9
      by_cases e13 : z56 ≠ 0
      · rw [if_pos e13] at h
        by_cases e14 : y1 = 0
        · rw [if_pos e14] at h
          rcases bo_inv h with ⟨h9, h8⟩ | ⟨z64, t64, h9, h⟩
          · cases h8
          have kt64 : t64 k j = t k j := (ih _ (by decide) _ _ _ _ h9 k j hk).trans ((up_k (by omega)).trans ((kp_rfg hk).trans (kt56)))
          clear h9
          by_cases e15 : z64 ≠ 0
          · rw [if_pos e15] at h
            exact (ih _ (by decide) _ _ _ _ h k j hk).trans ((kp_pt1 hk).trans (kt64))
          · rw [if_neg e15] at h
            cases h
            exact kt64
        · rw [if_neg e14] at h
          rcases bo_inv h with ⟨h9, h8⟩ | ⟨z67, t67, h9, h⟩
          · cases h8
          have kt67 : t67 k j = t k j := (ih _ (by decide) _ _ _ _ h9 k j hk).trans ((up_k (by omega)).trans ((kp_rfg hk).trans (kt56)))
          clear h9
          by_cases e16 : z67 = 0
          · rw [if_pos e16] at h
            cases h
            exact kt67
          · rw [if_neg e16] at h
            exact (ih _ (by decide) _ _ _ _ h k j hk).trans ((kp_pt1 hk).trans (kt67))
      · rw [if_neg e13] at h
        cases h
        exact kt56
    · rw [if_neg e12] at h
      by_cases e17 : t 201 y2.toNat ≤ 0
      · rw [if_pos e17] at h
        by_cases e18 : t 201 y2.toNat ≠ 4
        · rw [if_pos e18] at h
          rcases bo_inv h with ⟨h9, h8⟩ | ⟨z78, t78, h9, h⟩
          · cases h8
          have kt78 : t78 k j = t k j := (ih _ (by decide) _ _ _ _ h9 k j hk).trans (rfl)
          clear h9
          by_cases e19 : z78 ≠ 0
          · rw [if_pos e19] at h
            exact (ih _ (by decide) _ _ _ _ h k j hk).trans ((up_k (by omega)).trans (kt78))
          · rw [if_neg e19] at h
            cases h
            exact kt78
        · rw [if_neg e18] at h
          cases h
          exact rfl
      · rw [if_neg e17] at h
        rcases bo_inv h with ⟨h9, h8⟩ | ⟨z88, t88, h9, h⟩
        · cases h8
        have kt88 : t88 k j = t k j := (ih _ (by decide) _ _ _ _ h9 k j hk).trans (rfl)
        clear h9
        by_cases e20 : t88 201 y2.toNat ≠ 4
        · rw [if_pos e20] at h
          rcases bo_inv h with ⟨h9, h8⟩ | ⟨z93, t93, h9, h⟩
          · cases h8
          have kt93 : t93 k j = t k j := (ih _ (by decide) _ _ _ _ h9 k j hk).trans (kt88)
          clear h9
          by_cases e21 : z93 ≠ 0
          · rw [if_pos e21] at h
            exact (ih _ (by decide) _ _ _ _ h k j hk).trans ((up_k (by omega)).trans (kt93))
          · rw [if_neg e21] at h
            cases h
            exact kt93
        · rw [if_neg e20] at h
          cases h
          exact kt88
set_option maxHeartbeats 4000000 in
theorem kp_rM129_277 {rc : MRq} (ih : KPr rc) {y2 y3 y4 y5 : Int} {t t3 : tab} {z : Int} (h : rM129_277 rc y2 y3 y4 y5 t = some (some (z, t3))) {k j : Nat} (hk : LKk k j) : t3 k j = t k j := by
  have hk2 : 181 ≤ k ∧ k ≤ 185 ∨ k = 177 ∧ j = 18 := hk
  unfold rM129_277 at h
  by_cases e1 : t 201 y2.toNat ≤ y5
  · rw [if_pos e1] at h
    cases h
    exact (up_k (by omega)).trans ((up_k (by omega)).trans ((up_k (by omega)).trans ((up_k (by omega)).trans ((up_k (by omega)).trans ((up_k (by omega)).trans ((up_k (by omega)).trans ((up_k (by omega)).trans ((up_k (by omega)).trans (rfl)))))))))
  · rw [if_neg e1] at h
    exact (ih _ (by decide) _ _ _ _ h k j hk).trans ((up_k (by omega)).trans (rfl))
theorem r_keep : ∀ (f : Nat), KPr (it rB f)
  | 0 => fun _ _ _ _ _ _ h => by cases h
  | f + 1 => fun i hi xs t z t3 h k j hk => by
    simp only [List.mem_cons, List.not_mem_nil, or_false] at hi
    rcases hi with rfl | rfl | rfl | rfl | rfl | rfl | rfl | rfl | rfl | rfl | rfl | rfl | rfl | rfl | rfl | rfl | rfl | rfl | rfl | rfl | rfl | rfl | rfl | rfl | rfl | rfl | rfl | rfl | rfl | rfl | rfl | rfl | rfl | rfl | rfl | rfl | rfl | rfl | rfl | rfl | rfl | rfl | rfl | rfl | rfl | rfl | rfl | rfl | rfl | rfl | rfl | rfl | rfl | rfl | rfl | rfl | rfl | rfl | rfl | rfl | rfl | rfl | rfl | rfl | rfl
    · exact kp_rM120 (r_keep f) (show rM120 (it rB f) (xs.getD 0 0) (xs.getD 1 0) (xs.getD 2 0) t = some (some (z, t3)) from h) hk
    · exact kp_rM124 (r_keep f) (show rM124 (it rB f) (xs.getD 0 0) t = some (some (z, t3)) from h) hk
    · exact kp_rM125 (r_keep f) (show rM125 (it rB f) (xs.getD 0 0) t = some (some (z, t3)) from h) hk
    · exact kp_rM126 (r_keep f) (show rM126 (it rB f) t = some (some (z, t3)) from h) hk
    · exact kp_rM123 (r_keep f) (show rM123 (it rB f) t = some (some (z, t3)) from h) hk
    · exact kp_rM127 (r_keep f) (show rM127 (it rB f) (xs.getD 0 0) t = some (some (z, t3)) from h) hk
    · exact kp_rM132 (r_keep f) (show rM132 (it rB f) t = some (some (z, t3)) from h) hk
    · exact kp_rM131 (r_keep f) (show rM131 (it rB f) t = some (some (z, t3)) from h) hk
    · exact kp_rM136 (r_keep f) (show rM136 (it rB f) (xs.getD 0 0) t = some (some (z, t3)) from h) hk
    · exact kp_rM134 (r_keep f) (show rM134 (it rB f) t = some (some (z, t3)) from h) hk
    · exact kp_rM133 (r_keep f) (show rM133 (it rB f) (xs.getD 0 0) (xs.getD 1 0) t = some (some (z, t3)) from h) hk
    · exact kp_rM140 (r_keep f) (show rM140 (it rB f) (xs.getD 0 0) t = some (some (z, t3)) from h) hk
    · exact kp_rM147 (r_keep f) (show rM147 (it rB f) (xs.getD 0 0) (xs.getD 1 0) t = some (some (z, t3)) from h) hk
    · exact kp_rM142 (r_keep f) (show rM142 (it rB f) t = some (some (z, t3)) from h) hk
    · exact kp_rM138 (r_keep f) (show rM138 (it rB f) t = some (some (z, t3)) from h) hk
    · exact kp_rM135 (r_keep f) (show rM135 (it rB f) t = some (some (z, t3)) from h) hk
    · exact kp_rM130 (r_keep f) (show rM130 (it rB f) (xs.getD 0 0) (xs.getD 1 0) t = some (some (z, t3)) from h) hk
    · exact kp_rM137 (r_keep f) (show rM137 (it rB f) (xs.getD 0 0) t = some (some (z, t3)) from h) hk
    · exact kp_rM158 (r_keep f) (show rM158 (it rB f) (xs.getD 0 0) (xs.getD 1 0) t = some (some (z, t3)) from h) hk
    · exact kp_rM148 (r_keep f) (show rM148 (it rB f) (xs.getD 0 0) t = some (some (z, t3)) from h) hk
    · exact kp_rM151 (r_keep f) (show rM151 (it rB f) t = some (some (z, t3)) from h) hk
    · exact kp_rM152 (r_keep f) (show rM152 (it rB f) t = some (some (z, t3)) from h) hk
    · exact kp_rM144 (r_keep f) (show rM144 (it rB f) (xs.getD 0 0) (xs.getD 1 0) t = some (some (z, t3)) from h) hk
    · exact kp_rM145 (r_keep f) (show rM145 (it rB f) (xs.getD 0 0) t = some (some (z, t3)) from h) hk
    · exact kp_rM146 (r_keep f) (show rM146 (it rB f) (xs.getD 0 0) t = some (some (z, t3)) from h) hk
    · exact kp_rM149 (r_keep f) (show rM149 (it rB f) (xs.getD 0 0) (xs.getD 1 0) t = some (some (z, t3)) from h) hk
    · exact kp_rM150 (r_keep f) (show rM150 (it rB f) (xs.getD 0 0) (xs.getD 1 0) (xs.getD 2 0) t = some (some (z, t3)) from h) hk
    · exact kp_rM157 (r_keep f) (show rM157 (it rB f) (xs.getD 0 0) (xs.getD 1 0) t = some (some (z, t3)) from h) hk
    · exact kp_rM139 (r_keep f) (show rM139 (it rB f) (xs.getD 0 0) t = some (some (z, t3)) from h) hk
    · exact kp_rM141 (r_keep f) (show rM141 (it rB f) (xs.getD 0 0) t = some (some (z, t3)) from h) hk
    · exact kp_rM143 (r_keep f) (show rM143 (it rB f) (xs.getD 0 0) t = some (some (z, t3)) from h) hk
    · exact kp_rM153 (r_keep f) (show rM153 (it rB f) (xs.getD 0 0) t = some (some (z, t3)) from h) hk
    · exact kp_rM154 (r_keep f) (show rM154 (it rB f) (xs.getD 0 0) t = some (some (z, t3)) from h) hk
    · exact kp_rM155 (r_keep f) (show rM155 (it rB f) (xs.getD 0 0) t = some (some (z, t3)) from h) hk
    · exact kp_rM156 (r_keep f) (show rM156 (it rB f) (xs.getD 0 0) t = some (some (z, t3)) from h) hk
    · exact kp_rM159 (r_keep f) (show rM159 (it rB f) t = some (some (z, t3)) from h) hk
    · exact kp_rM129 (r_keep f) (show rM129 (it rB f) (xs.getD 0 0) t = some (some (z, t3)) from h) hk
    · exact kp_rM128 (r_keep f) (show rM128 (it rB f) t = some (some (z, t3)) from h) hk
    · exact kp_rM76 (r_keep f) (show rM76 (it rB f) (xs.getD 0 0) t = some (some (z, t3)) from h) hk
    · exact kp_rM126_15 (r_keep f) (show rM126_15 (it rB f) (xs.getD 0 0) (xs.getD 1 0) t = some (some (z, t3)) from h) hk
    · exact kp_rM126_61 (r_keep f) (show rM126_61 (it rB f) (xs.getD 0 0) (xs.getD 1 0) (xs.getD 2 0) (xs.getD 3 0) t = some (some (z, t3)) from h) hk
    · exact kp_rM123_99999 (r_keep f) (show rM123_99999 (it rB f) t = some (some (z, t3)) from h) hk
    · exact kp_rM123_340 (r_keep f) (show rM123_340 (it rB f) (xs.getD 0 0) (xs.getD 1 0) t = some (some (z, t3)) from h) hk
    · exact kp_rM123_213 (r_keep f) (show rM123_213 (it rB f) t = some (some (z, t3)) from h) hk
    · exact kp_rM123_94 (r_keep f) (show rM123_94 (it rB f) t = some (some (z, t3)) from h) hk
    · exact kp_rM123_484 (r_keep f) (show rM123_484 (it rB f) (xs.getD 0 0) (xs.getD 1 0) (xs.getD 2 0) t = some (some (z, t3)) from h) hk
    · exact kp_rM123_549 (r_keep f) (show rM123_549 (it rB f) (xs.getD 0 0) (xs.getD 1 0) t = some (some (z, t3)) from h) hk
    · exact kp_rM127_36 (r_keep f) (show rM127_36 (it rB f) (xs.getD 0 0) (xs.getD 1 0) t = some (some (z, t3)) from h) hk
    · exact kp_rM134_7 (r_keep f) (show rM134_7 (it rB f) (xs.getD 0 0) t = some (some (z, t3)) from h) hk
    · exact kp_rM134_44 (r_keep f) (show rM134_44 (it rB f) (xs.getD 0 0) (xs.getD 1 0) (xs.getD 2 0) t = some (some (z, t3)) from h) hk
    · exact kp_rM148_5 (r_keep f) (show rM148_5 (it rB f) (xs.getD 0 0) (xs.getD 1 0) t = some (some (z, t3)) from h) hk
    · exact kp_rM144_25 (r_keep f) (show rM144_25 (it rB f) (xs.getD 0 0) (xs.getD 1 0) t = some (some (z, t3)) from h) hk
    · exact kp_rM149_6 (r_keep f) (show rM149_6 (it rB f) (xs.getD 0 0) (xs.getD 1 0) (xs.getD 2 0) t = some (some (z, t3)) from h) hk
    · exact kp_rM150_31 (r_keep f) (show rM150_31 (it rB f) (xs.getD 0 0) (xs.getD 1 0) (xs.getD 2 0) (xs.getD 3 0) t = some (some (z, t3)) from h) hk
    · exact kp_rM150_128 (r_keep f) (show rM150_128 (it rB f) (xs.getD 0 0) (xs.getD 1 0) (xs.getD 2 0) t = some (some (z, t3)) from h) hk
    · exact kp_rM139_26 (r_keep f) (show rM139_26 (it rB f) (xs.getD 0 0) (xs.getD 1 0) (xs.getD 2 0) (xs.getD 3 0) t = some (some (z, t3)) from h) hk
    · exact kp_rM139_58 (r_keep f) (show rM139_58 (it rB f) (xs.getD 0 0) (xs.getD 1 0) (xs.getD 2 0) (xs.getD 3 0) t = some (some (z, t3)) from h) hk
    · exact kp_rM155_53 (r_keep f) (show rM155_53 (it rB f) (xs.getD 0 0) (xs.getD 1 0) (xs.getD 2 0) (xs.getD 3 0) (xs.getD 4 0) (xs.getD 5 0) t = some (some (z, t3)) from h) hk
    · exact kp_rM155_134 (r_keep f) (show rM155_134 (it rB f) (xs.getD 0 0) (xs.getD 1 0) (xs.getD 2 0) (xs.getD 3 0) (xs.getD 4 0) (xs.getD 5 0) (xs.getD 6 0) (xs.getD 7 0) (xs.getD 8 0) (xs.getD 9 0) (xs.getD 10 0) (xs.getD 11 0) (xs.getD 12 0) (xs.getD 13 0) (xs.getD 14 0) (xs.getD 15 0) (xs.getD 16 0) t = some (some (z, t3)) from h) hk
    · exact kp_rM155_273 (r_keep f) (show rM155_273 (it rB f) (xs.getD 0 0) (xs.getD 1 0) (xs.getD 2 0) (xs.getD 3 0) (xs.getD 4 0) (xs.getD 5 0) (xs.getD 6 0) (xs.getD 7 0) (xs.getD 8 0) (xs.getD 9 0) (xs.getD 10 0) (xs.getD 11 0) (xs.getD 12 0) (xs.getD 13 0) (xs.getD 14 0) (xs.getD 15 0) (xs.getD 16 0) (xs.getD 17 0) t = some (some (z, t3)) from h) hk
    · exact kp_rM156_164 (r_keep f) (show rM156_164 (it rB f) (xs.getD 0 0) (xs.getD 1 0) (xs.getD 2 0) (xs.getD 3 0) (xs.getD 4 0) (xs.getD 5 0) t = some (some (z, t3)) from h) hk
    · exact kp_rM159_12 (r_keep f) (show rM159_12 (it rB f) t = some (some (z, t3)) from h) hk
    · exact kp_rM159_44 (r_keep f) (show rM159_44 (it rB f) t = some (some (z, t3)) from h) hk
    · exact kp_rM129_131 (r_keep f) (show rM129_131 (it rB f) (xs.getD 0 0) (xs.getD 1 0) (xs.getD 2 0) (xs.getD 3 0) t = some (some (z, t3)) from h) hk
    · exact kp_rM129_277 (r_keep f) (show rM129_277 (it rB f) (xs.getD 0 0) (xs.getD 1 0) (xs.getD 2 0) (xs.getD 3 0) t = some (some (z, t3)) from h) hk
theorem rG_keep {i : Nat} {xs : List Int} {t t3 : tab} {z : Int} (hi : i ∈ [0, 1, 2, 3, 4, 5, 6, 7, 8, 9, 10, 11, 12, 13, 14, 15, 16, 17, 18, 19, 20, 21, 22, 23, 24, 25, 26, 27, 28, 29, 30, 31, 32, 33, 34, 35, 36, 37, 39, 40, 41, 42, 43, 44, 45, 46, 47, 48, 49, 50, 51, 52, 53, 54, 55, 56, 57, 58, 59, 60, 61, 62, 63, 64, 65]) (h : rG i xs t = some (some (z, t3))) {k j : Nat} (hk : LKk k j) : t3 k j = t k j := by
  obtain ⟨f, hf⟩ := lim_ex h
  exact r_keep f _ hi _ _ _ _ hf k j hk
