/-! A new beginning. -/
section RESTX
variable {K : SCt} {M : Nat} {C : Int} {t t2 e : tab}
theorem fl_l {q n : Nat} {v : Int} : ∀ (m y : Nat) (t : tab), m + y = n → ∃ t2, wG 54 [(q : Int), v, (y : Int), (n : Int)] t = some (some (0, t2)) ∧ (∀ j, y ≤ j → j < n → t2 q j = v) ∧ ∀ k j, ¬ (k = q ∧ y ≤ j ∧ j < n) → t2 k j = t k j
  | 0, y, t, h => by
    refine ⟨t, ?_, fun j a b => by omega, fun _ _ _ => rfl⟩
    rw [wG_23_5]
    unfold wM23_5
    rw [if_pos (by omega)]
  | m + 1, y, t, h => by
    obtain ⟨t2, a1, a2, a3⟩ := fl_l (q := q) (n := n) (v := v) m (y + 1) (up2 t q y v) (by omega)
    refine ⟨t2, ?_, fun j b c => ?_, fun k j b => ?_⟩
    · rw [wG_23_5]
      unfold wM23_5
      rw [if_neg (by omega), Int.toNat_natCast, Int.toNat_natCast]
      exact a1
    · by_cases e : j = y
      · rw [e, a3 q y (by omega)]
        exact up_self
      · exact a2 j (by omega) c
    · rw [a3 k j (by omega)]
      exact if_neg (by omega)
theorem fl_e {q n : Nat} {v : Int} (hn : fln q = n) (t : tab) : ∃ t2, wG 32 [(q : Int), v] t = some (some (0, t2)) ∧ (∀ j, j < n → t2 q j = v) ∧ ∀ k j, ¬ (k = q ∧ j < n) → t2 k j = t k j := by
  obtain ⟨t2, a1, a2, a3⟩ := fl_l (q := q) (n := n) (v := v) n 0 t (by omega)
  refine ⟨t2, ?_, fun j h => a2 j (by omega) h, fun k j h => a3 k j (by omega)⟩
  rw [wG_23]
  unfold wM23
  rw [Int.toNat_natCast, hn]
  exact a1
theorem cl_61 : ∀ (m i : Nat) (t : tab), m + i = 4 → ∃ t2, wG 53 [(i : Int)] t = some (some (0, t2)) ∧ (∀ k, i ≤ k → k < 4 → t2 (162 + 2 * k) 1 = 0 ∧ t2 (162 + 2 * k) 2 = 0) ∧ (t2 142 6 = 0 ∧ t2 142 13 = 0 ∧ t2 142 14 = 0) ∧ ∀ k j, ¬ (162 + 2 * i ≤ k ∧ k < 170 ∧ (j = 1 ∨ j = 2)) → ¬ (k = 142 ∧ (j = 6 ∨ j = 13 ∨ j = 14)) → t2 k j = t k j
  | 0, i, t, h => by
    refine ⟨up2 (up2 (up2 t 142 6 0) 142 13 0) 142 14 0, ?_, fun k a b => by omega, ⟨?_, ?_, up_self⟩, fun k j a b => ?_⟩
    · rw [wG_78_61]
      unfold wM78_61
      rw [if_pos (by omega)]
    · exact (if_neg (by omega)).trans ((if_neg (by omega)).trans up_self)
    · exact (if_neg (by omega)).trans up_self
    · exact (if_neg (by omega)).trans ((if_neg (by omega)).trans (if_neg (by omega)))
  | m + 1, i, t, h => by
    obtain ⟨t2, a1, a2, a3, a4⟩ := cl_61 m (i + 1) (qcl t ((162 + 2 * i : Nat) : Int)) (by omega)
    have q1 : qcl t ((162 + 2 * i : Nat) : Int) (162 + 2 * i) 1 = 0 := by
      unfold qcl
      rw [Int.toNat_natCast]
      exact (if_neg (by omega)).trans up_self
    have q2 : qcl t ((162 + 2 * i : Nat) : Int) (162 + 2 * i) 2 = 0 := by
      unfold qcl
      rw [Int.toNat_natCast]
      exact up_self
    refine ⟨t2, ?_, fun k b c => ?_, a3, fun k j b c => ?_⟩
    · rw [wG_78_61]
      unfold wM78_61
      rw [if_neg (by omega), Int.toNat_natCast]
      exact a1
    · by_cases e : k = i
      · rw [e, a4 _ _ (by omega) (by omega), a4 _ _ (by omega) (by omega)]
        exact ⟨q1, q2⟩
      · exact a2 k (by omega) c
    · rw [a4 k j (by omega) c]
      unfold qcl
      rw [Int.toNat_natCast]
      exact (if_neg (by omega)).trans (if_neg (by omega))
theorem cl_39 : ∀ (m i : Nat) (t : tab), m + i = 4 → ∃ t2, wG 52 [(i : Int)] t = wG 53 [((0 : Nat) : Int)] t2 ∧ (∀ k, i ≤ k → k < 4 → t2 (154 + 2 * k) 1 = 0 ∧ t2 (154 + 2 * k) 2 = 0) ∧ ∀ k j, ¬ (154 + 2 * i ≤ k ∧ k < 162 ∧ (j = 1 ∨ j = 2)) → t2 k j = t k j
  | 0, i, t, h => by
    refine ⟨t, ?_, fun k a b => by omega, fun _ _ _ => rfl⟩
    rw [wG_78_39]
    unfold wM78_39
    rw [if_pos (by omega)]
    rfl
  | m + 1, i, t, h => by
    obtain ⟨t2, a1, a2, a4⟩ := cl_39 m (i + 1) (qcl t ((154 + 2 * i : Nat) : Int)) (by omega)
    have q1 : qcl t ((154 + 2 * i : Nat) : Int) (154 + 2 * i) 1 = 0 := by
      unfold qcl
      rw [Int.toNat_natCast]
      exact (if_neg (by omega)).trans up_self
    have q2 : qcl t ((154 + 2 * i : Nat) : Int) (154 + 2 * i) 2 = 0 := by
      unfold qcl
      rw [Int.toNat_natCast]
      exact up_self
    refine ⟨t2, ?_, fun k b c => ?_, fun k j b => ?_⟩
    · rw [wG_78_39]
      unfold wM78_39
      rw [if_neg (by omega), Int.toNat_natCast]
      exact a1
    · by_cases e : k = i
      · rw [e, a4 _ _ (by omega), a4 _ _ (by omega)]
        exact ⟨q1, q2⟩
      · exact a2 k (by omega) c
    · rw [a4 k j (by omega)]
      unfold qcl
      rw [Int.toNat_natCast]
      exact (if_neg (by omega)).trans (if_neg (by omega))
/-- what restart does -/
def RSx (t t2 : tab) : Prop := (∀ j, j < 24 → t2 148 j = 0) ∧ (∀ j, j < 384 → t2 149 j = 0) ∧ (∀ L, L < 12 → t2 152 L = -1 ∧ t2 153 L = -1) ∧ (∀ k, k < 4 → t2 (154 + 2 * k) 1 = 0 ∧ t2 (154 + 2 * k) 2 = 0 ∧ t2 (162 + 2 * k) 1 = 0 ∧ t2 (162 + 2 * k) 2 = 0) ∧ (t2 142 6 = 0 ∧ t2 142 13 = 0 ∧ t2 142 14 = 0) ∧ ∀ k j, k < 148 → k ≠ 142 → t2 k j = t k j
theorem rs_e (t : tab) : ∃ t2, wG 31 [] t = some (some (0, t2)) ∧ RSx t t2 := by
  obtain ⟨t1, a1, a2, a3⟩ := fl_e (q := 148) (n := 24) (v := 0) rfl t
  obtain ⟨t3, b1, b2, b3⟩ := fl_e (q := 149) (n := 384) (v := 0) rfl t1
  obtain ⟨t4, c1, c2, c3⟩ := fl_e (q := 152) (n := 12) (v := -1) rfl t3
  obtain ⟨t5, d1, d2, d3⟩ := fl_e (q := 153) (n := 12) (v := -1) rfl t4
  obtain ⟨t6, e1, e2, e3⟩ := cl_39 4 0 t5 rfl
  obtain ⟨t7, f1, f2, f3, f4⟩ := cl_61 4 0 t6 rfl
  refine ⟨t7, ?_, fun j hj => ?_, fun j hj => ?_, fun L hL => ⟨?_, ?_⟩, fun k hk => ?_, f3, fun k j w1 w2 => ?_⟩
  · rw [wG_78]
    unfold wM78
    rw [show wG 32 [148, 0] t = some (some (0, t1)) from a1, bo_s, show wG 32 [149, 0] t1 = some (some (0, t3)) from b1, bo_s, show wG 32 [152, -1] t3 = some (some (0, t4)) from c1, bo_s, show wG 32 [153, -1] t4 = some (some (0, t5)) from d1, bo_s]
    exact e1.trans f1
  · rw [f4 148 j (by omega) (by omega), e3 148 j (by omega), d3 148 j (by omega), c3 148 j (by omega), b3 148 j (by omega)]
    exact a2 j hj
  · rw [f4 149 j (by omega) (by omega), e3 149 j (by omega), d3 149 j (by omega), c3 149 j (by omega)]
    exact b2 j hj
  · rw [f4 152 L (by omega) (by omega), e3 152 L (by omega), d3 152 L (by omega)]
    exact c2 L hL
  · rw [f4 153 L (by omega) (by omega), e3 153 L (by omega)]
    exact d2 L hL
  · have u := e2 k (by omega) hk
    have v := f2 k (by omega) hk
    refine ⟨?_, ?_, v.1, v.2⟩
    · rw [f4 _ _ (by omega) (by omega)]; exact u.1
    · rw [f4 _ _ (by omega) (by omega)]; exact u.2
  · rw [f4 k j (by omega) (by omega), e3 k j (by omega), d3 k j (by omega), c3 k j (by omega), b3 k j (by omega)]
    exact a3 k j (by omega)
/-- READY, in both -/
theorem bt_0 (h1 : ∀ k j, 99 ≤ k ∧ k ≤ 114 → t2 k j = K.1 k j) (h2 : STr K e) (h3 : ∀ j, t2 144 j ≤ C) (hr : RSx t t2) (e52 : e 170 52 = 0) (e55 : e 170 55 = 1) (e5 : e 205 0 = K.2.1 177 2) (e6 : e 206 0 = 1) (e8 : e 208 0 = 0) (e9 : e 209 0 = 0) (v3 : ∀ j, j < 24 → e 203 j = 0) (vi : ∀ a, a < 6 → ∀ j, j < 64 → e (213 + a) j = 0) (vh : ∀ j, j < 8 → e 1630 j = 0) : BTW K M C t2 e := by
  obtain ⟨r1, r2, r3, r4, ⟨r5, r6, r7⟩, _⟩ := hr
  have zq : ∀ (k j : Nat), 143 ≤ k → k ≠ 147 → zp t2 k j = t2 k j := fun k j w1 w2 => zp_o (by omega)
  have q0 : ∀ {h : Int} {f q g : Nat → Int}, h = 0 → q 1 = 0 → q 2 = 0 → QQx h f q g := fun e1 e2 e3 => ⟨by omega, by omega, by omega, by omega, by omega, fun k hk => by omega⟩
  refine ⟨h1, h2, h3, .inl ⟨r7, e52, r5, r6, r3, fun i hi => ?_, ⟨fun v hv => ?_, fun a j ha hj => ?_, h2.2.1, h2.2.2, fun i hi => ⟨?_, ?_⟩⟩, e55, e6, e5, e8, e9⟩⟩
  · obtain ⟨w1, w2, w3, w4⟩ := r4 i hi
    omega
  · rw [v3 v hv, zq _ _ (by omega) (by omega), r1 v hv]
  · rw [vi a ha j hj, zq _ _ (by omega) (by omega), r2 _ (by omega)]
  · obtain ⟨w1, w2, w3, w4⟩ := r4 i hi
    exact q0 (vh i (by omega)) ((zq _ _ (by omega) (by omega)).trans w1) ((zq _ _ (by omega) (by omega)).trans w2)
  · obtain ⟨w1, w2, w3, w4⟩ := r4 i hi
    exact q0 (vh (4 + i) (by omega)) ((zq _ _ (by omega) (by omega)).trans w3) ((zq _ _ (by omega) (by omega)).trans w4)
end RESTX
