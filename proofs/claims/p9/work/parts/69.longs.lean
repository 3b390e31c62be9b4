/-! Longs. -/
def i64 (z : Int) : Prop := -9223372036854775808 ≤ z ∧ z ≤ 9223372036854775807
theorem l_or (m n : Nat) : Int64.ofInt (m : Int) ||| Int64.ofInt (n : Int) = Int64.ofInt ((m ||| n : Nat) : Int) := by
  rw [Int64.ofInt_eq_ofNat, Int64.ofInt_eq_ofNat, Int64.ofInt_eq_ofNat]
  apply Int64.toBitVec_inj.mp
  apply BitVec.eq_of_toNat_eq
  simp [Int64.toBitVec_or, Int64.toBitVec_ofNat', BitVec.toNat_or, BitVec.toNat_ofNat, Nat.or_mod_two_pow]
theorem l_and (m n : Nat) : Int64.ofInt (m : Int) &&& Int64.ofInt (n : Int) = Int64.ofInt ((m &&& n : Nat) : Int) := by
  rw [Int64.ofInt_eq_ofNat, Int64.ofInt_eq_ofNat, Int64.ofInt_eq_ofNat]
  apply Int64.toBitVec_inj.mp
  apply BitVec.eq_of_toNat_eq
  simp [Int64.toBitVec_and, Int64.toBitVec_ofNat', BitVec.toNat_and, BitVec.toNat_ofNat, Nat.and_mod_two_pow]
theorem l_shl : ∀ k : Fin 12, (Int64.ofInt 1) <<< ((Int32.ofInt ((k : Nat) : Int)).toInt64 &&& 63) = Int64.ofInt ((2 ^ (k : Nat) : Nat) : Int) := by decide
section LONGS
variable {M : hm_M} {pc row d : Nat} {lv : List (Nat × Value)} {st : List Value} {s : rS} {i : Instr} {Q : rS → hm_Out → Prop} {a b : Int}
theorem wr_anyl (ho : (hm_Mi M)[pc]? = some (some (i, 1, 4, row))) {f : Int64 → Int64 → Int64} (hf : hm_l2 i = some f) (kk : ∀ z, i64 z → Int64.ofInt z = f (Int64.ofInt a) (Int64.ofInt b) → wr d M (pc + 1) lv (vl z :: st) s Q) : wr d M pc lv (vl b :: vl a :: st) s Q := by
  obtain ⟨z, hz, h1, h2⟩ := i64_of (f (Int64.ofInt a) (Int64.ofInt b))
  refine wr_go (fun call g => ?_) (kk z ⟨h1, h2⟩ hz.symm)
  rw [hs_of ho]
  show hm_pu 1 g (hm_gJ i pc lv _) = _
  simp [hm_gJ, hf, hm_pu, hz]
theorem wr_lor (ho : (hm_Mi M)[pc]? = some (some (.lor, 1, 4, row))) (kk : ∀ z, i64 z → (∀ m n : Nat, a = (m : Int) → b = (n : Int) → m < 4096 → n < 4096 → z = ((m ||| n : Nat) : Int)) → wr d M (pc + 1) lv (vl z :: st) s Q) : wr d M pc lv (vl b :: vl a :: st) s Q := by
  refine wr_anyl ho (f := fun x y => x ||| y) rfl fun z hz he => kk z hz fun m n h1 h2 h3 h4 => ?_
  subst h1 h2
  have he : Int64.ofInt z = Int64.ofInt (m : Int) ||| Int64.ofInt (n : Int) := he
  rw [l_or] at he
  have h5 : m ||| n < 2 ^ 12 := Nat.or_lt_two_pow h3 h4
  have h6 := congrArg Int64.toInt he
  rw [i64_to hz.1 hz.2, i64_to (by omega) (by omega)] at h6
  exact h6
theorem wr_land (ho : (hm_Mi M)[pc]? = some (some (.land, 1, 4, row))) (kk : ∀ z, i64 z → (∀ m n : Nat, a = (m : Int) → b = (n : Int) → m < 4096 → n < 4096 → z = ((m &&& n : Nat) : Int)) → wr d M (pc + 1) lv (vl z :: st) s Q) : wr d M pc lv (vl b :: vl a :: st) s Q := by
  refine wr_anyl ho (f := fun x y => x &&& y) rfl fun z hz he => kk z hz fun m n h1 h2 h3 h4 => ?_
  subst h1 h2
  have he : Int64.ofInt z = Int64.ofInt (m : Int) &&& Int64.ofInt (n : Int) := he
  rw [l_and] at he
  have h5 : m &&& n < 2 ^ 12 := Nat.and_lt_two_pow m h4
  have h6 := congrArg Int64.toInt he
  rw [i64_to hz.1 hz.2, i64_to (by omega) (by omega)] at h6
  exact h6
theorem wr_lshl (ho : (hm_Mi M)[pc]? = some (some (.lshl, 1, 6, row))) (kk : ∀ z, i64 z → (∀ k : Nat, a = 1 → b = (k : Int) → k < 12 → z = ((2 ^ k : Nat) : Int)) → wr d M (pc + 1) lv (vl z :: st) s Q) : wr d M pc lv (vi b :: vl a :: st) s Q := by
  obtain ⟨z, hz, h1, h2⟩ := i64_of (Int64.ofInt a <<< ((Int32.ofInt b).toInt64 &&& 63))
  refine wr_go (fun call g => ?_) (kk z ⟨h1, h2⟩ fun k e1 e2 e3 => ?_)
  · rw [hs_of ho]
    show some (Sum.inl (pc + 1, lv, Value.long (Int64.ofInt a <<< ((Int32.ofInt b).toInt64 &&& 63)) :: st, g)) = _
    rw [hz]
  · subst e1 e2
    have h3 := l_shl ⟨k, e3⟩
    have h4 : Int64.ofInt z = Int64.ofInt ((2 ^ k : Nat) : Int) := hz.symm.trans h3
    have h5 := congrArg Int64.toInt h4
    have h6 : 2 ^ k < 2 ^ 12 := Nat.pow_lt_pow_right (by omega) e3
    obtain ⟨w, hw⟩ : ∃ w, w = 2 ^ k := ⟨_, rfl⟩
    rw [← hw] at h5 h6 ⊢
    rw [i64_to h1 h2, i64_to (by omega) (by omega)] at h5
    exact h5
theorem wr_lcmp (ho : (hm_Mi M)[pc]? = some (some (.lcmp, 1, 6, row))) (ha : i64 a) (hb : i64 b) (kk : ∀ z : Int, (-1 ≤ z ∧ z ≤ 1 ∧ (z = 0 ↔ a = b) ∧ (z < 0 ↔ a < b)) → wr d M (pc + 1) lv (vi z :: st) s Q) : wr d M pc lv (vl b :: vl a :: st) s Q := by
  have e : Int64.ofInt a < Int64.ofInt b ↔ a < b := by rw [Int64.lt_iff_toInt_lt, i64_to ha.1 ha.2, i64_to hb.1 hb.2]
  have e2 : Int64.ofInt a = Int64.ofInt b ↔ a = b := by rw [← Int64.toInt_inj, i64_to ha.1 ha.2, i64_to hb.1 hb.2]
  have e3 : Int64.ofInt b < Int64.ofInt a ↔ b < a := by rw [Int64.lt_iff_toInt_lt, i64_to ha.1 ha.2, i64_to hb.1 hb.2]
  have key : ∃ z : Int, lg_cmp (Int64.ofInt a) (Int64.ofInt b) = Int32.ofInt z ∧ -1 ≤ z ∧ z ≤ 1 ∧ (z = 0 ↔ a = b) ∧ (z < 0 ↔ a < b) := by
    unfold lg_cmp
    by_cases h1 : a < b
    · refine ⟨-1, ?_, by omega⟩
      simp [e, e2, e3, h1, show ¬ b < a by omega, show ¬ a = b by omega] <;> rfl
    · by_cases h2 : a = b
      · refine ⟨0, ?_, by omega⟩
        simp [e, e2, e3, h1, h2] <;> rfl
      · refine ⟨1, ?_, by omega⟩
        simp [e, e2, e3, h1, h2, show b < a by omega] <;> rfl
  obtain ⟨z, hz, h⟩ := key
  refine wr_go (fun call g => ?_) (kk z h)
  rw [hs_of ho]
  show some (Sum.inl (pc + 1, lv, Value.int (lg_cmp (Int64.ofInt a) (Int64.ofInt b)) :: st, g)) = _
  rw [hz]
/-- ints as longs -/
theorem wr_i2l (ho : (hm_Mi M)[pc]? = some (some (.i2l, 1, 5, row))) (ha : i32 a) (kk : wr d M (pc + 1) lv (vl a :: st) s Q) : wr d M pc lv (vi a :: st) s Q := by
  refine wr_go (fun call g => ?_) kk
  rw [hs_of ho]
  show some (Sum.inl (pc + 1, lv, Value.long (Int32.ofInt a).toInt64 :: st, g)) = _
  have : (Int32.ofInt a).toInt64 = Int64.ofInt a := by
    apply Int64.toInt_inj.mp
    rw [Int32.toInt_toInt64, i32_to ha.1 ha.2, i64_to (by have := ha.1; omega) (by have := ha.2; omega)]
  rw [this]
end LONGS
