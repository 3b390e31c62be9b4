/-! When branches clash, in both. -/
theorem la_nat {m k : Nat} (hm : m < 2 ^ 62) : la (m : Int) (k : Int) = ((m &&& k : Nat) : Int) := by
  unfold la
  have h1 : m &&& k ≤ m := Nat.and_le_left
  have h2 : Int64.ofInt (m : Int) &&& Int64.ofInt (k : Int) = Int64.ofInt ((m &&& k : Nat) : Int) := by
    rw [Int64.ofInt_eq_ofNat, Int64.ofInt_eq_ofNat, Int64.ofInt_eq_ofNat]
    apply Int64.toBitVec_inj.mp
    apply BitVec.eq_of_toNat_eq
    simp [Int64.toBitVec_and]
  rw [h2, i64_to (by omega) (by omega)]
theorem sh_lt {m k : Nat} (hm : m < 2 ^ 12) (hk : k ≤ 50) : m <<< k < 2 ^ 62 := by
  rw [Nat.shiftLeft_eq]
  have h1 : m * 2 ^ k < 2 ^ 12 * 2 ^ k := Nat.mul_lt_mul_of_pos_right hm (Nat.two_pow_pos k)
  rw [← Nat.pow_add] at h1
  exact Nat.lt_of_lt_of_le h1 (Nat.pow_le_pow_right (by omega) (by omega))
theorem i64_q {q : Nat} (h : q < 2 ^ 62) : (Int64.ofInt (q : Int)).toInt = (q : Int) := by
  rw [i64_to (by omega) (by omega)]
theorem l_shq {m k : Nat} {c : Int64} (hm : m < 2 ^ 12) (hc : (c.toBitVec.smod 64).toNat = k) : Int64.ofInt (m : Int) <<< c = Int64.ofInt ((m <<< k : Nat) : Int) := by
  rw [Int64.ofInt_eq_ofNat, Int64.ofInt_eq_ofNat]
  apply Int64.toBitVec_inj.mp
  apply BitVec.eq_of_toNat_eq
  rw [Int64.toBitVec_shiftLeft, BitVec.shiftLeft_eq', BitVec.toNat_shiftLeft, Int64.toBitVec_ofNat', Int64.toBitVec_ofNat', BitVec.toNat_ofNat, BitVec.toNat_ofNat, Nat.mod_eq_of_lt (show m < 2 ^ 64 by omega), hc]
theorem lsl_n12 {m : Nat} (hm : m < 4096) : lsl (m : Int) 12 = ((m <<< 12 : Nat) : Int) := by
  unfold lsl
  rw [show (Int32.ofInt 12).toInt64 &&& 63 = (12 : Int64) by decide, l_shq (k := 12) hm (by decide), i64_q (sh_lt hm (by decide))]
theorem lsl_n24 {m : Nat} (hm : m < 4096) : lsl (m : Int) 24 = ((m <<< 24 : Nat) : Int) := by
  unfold lsl
  rw [show (Int32.ofInt 24).toInt64 &&& 63 = (24 : Int64) by decide, l_shq (k := 24) hm (by decide), i64_q (sh_lt hm (by decide))]
theorem and_0 {x y : Nat} : x &&& y = 0 ↔ ∀ i, x.testBit i = true → y.testBit i = true → False := by
  constructor
  · intro h i h1 h2
    have := Nat.testBit_and x y i
    rw [h, h1, h2, Nat.zero_testBit] at this
    cases this
  · intro h
    apply Nat.eq_of_testBit_eq
    intro i
    rw [Nat.testBit_and, Nat.zero_testBit]
    cases h1 : x.testBit i
    · rfl
    · cases h2 : y.testBit i
      · rfl
      · exact absurd (h i h1 h2) id
theorem pk_bit {a b c i : Nat} : (a ||| (b <<< 12 ||| c <<< 24)).testBit i = (a.testBit i || ((decide (12 ≤ i) && b.testBit (i - 12)) || (decide (24 ≤ i) && c.testBit (i - 24)))) := by
  rw [Nat.testBit_or, Nat.testBit_or, Nat.testBit_shiftLeft, Nat.testBit_shiftLeft]
theorem bit_lt {a i : Nat} (ha : a < 4096) (h : a.testBit i = true) : i < 12 := by
  by_cases c : i < 12
  · exact c
  · have h2 : a < 2 ^ i := Nat.lt_of_lt_of_le (show a < 2 ^ 12 by omega) (Nat.pow_le_pow_right (by omega) (by omega))
    rw [Nat.testBit_lt_two_pow h2] at h
    cases h
theorem pk_an {a b c a2 b2 c2 : Nat} (ha : a < 4096) (hb : b < 4096) (_hc : c < 4096) (ha2 : a2 < 4096) (hb2 : b2 < 4096) (_hc2 : c2 < 4096) : (a ||| (b <<< 12 ||| c <<< 24)) &&& (a2 ||| (b2 <<< 12 ||| c2 <<< 24)) = 0 ↔ (a &&& a2 = 0 ∧ b &&& b2 = 0 ∧ c &&& c2 = 0) := by
  rw [and_0, and_0, and_0, and_0]
  constructor
  · intro h
    refine ⟨fun i h1 h2 => h i ?_ ?_, fun i h1 h2 => h (i + 12) ?_ ?_, fun i h1 h2 => h (i + 24) ?_ ?_⟩
    · rw [pk_bit, h1, Bool.true_or]
    · rw [pk_bit, h2, Bool.true_or]
    · rw [pk_bit, Nat.add_sub_cancel, h1, decide_eq_true (by omega), Bool.true_and, Bool.true_or, Bool.or_true]
    · rw [pk_bit, Nat.add_sub_cancel, h2, decide_eq_true (by omega), Bool.true_and, Bool.true_or, Bool.or_true]
    · rw [pk_bit, Nat.add_sub_cancel, h1, decide_eq_true (show 24 ≤ i + 24 by omega), Bool.true_and, Bool.or_true, Bool.or_true]
    · rw [pk_bit, Nat.add_sub_cancel, h2, decide_eq_true (show 24 ≤ i + 24 by omega), Bool.true_and, Bool.or_true, Bool.or_true]
  · intro ⟨h1, h2, h3⟩ i p q
    rw [pk_bit, Bool.or_eq_true, Bool.or_eq_true, Bool.and_eq_true, Bool.and_eq_true, decide_eq_true_eq, decide_eq_true_eq] at p q
    rcases p with p | ⟨p0, p⟩ | ⟨p0, p⟩
    · have := bit_lt ha p
      rcases q with q | ⟨q0, q⟩ | ⟨q0, q⟩
      · exact h1 i p q
      · omega
      · omega
    · have := bit_lt hb p
      rcases q with q | ⟨q0, q⟩ | ⟨q0, q⟩
      · have := bit_lt ha2 q
        omega
      · exact h2 _ p q
      · omega
    · rcases q with q | ⟨q0, q⟩ | ⟨q0, q⟩
      · have := bit_lt ha2 q
        omega
      · have := bit_lt hb2 q
        omega
      · exact h3 _ p q
theorem pkm_nat {a b c : Nat} (ha : a < 4096) (hb : b < 4096) (hc : c < 4096) : pkm (a : Int) (b : Int) (c : Int) = ((a ||| (b <<< 12 ||| c <<< 24) : Nat) : Int) ∧ a ||| (b <<< 12 ||| c <<< 24) < 2 ^ 62 := by
  have h1 : b <<< 12 < 2 ^ 62 := sh_lt hb (by decide)
  have h2 : c <<< 24 < 2 ^ 62 := sh_lt hc (by decide)
  have ha2 : a < 2 ^ 62 := by clear h1 h2; omega
  have h3 := Nat.or_lt_two_pow h1 h2
  unfold pkm
  rw [lsl_n12 hb, lsl_n24 hc, lo_nat h1 h2, lo_nat ha2 h3]
  exact ⟨rfl, Nat.or_lt_two_pow ha2 h3⟩
theorem pk_la {a b c a2 b2 c2 : Int} (h : MB3 a b c) (h2 : MB3 a2 b2 c2) : la (pkm a b c) (pkm a2 b2 c2) = 0 ↔ (la a2 a = 0 ∧ la b2 b = 0 ∧ la c2 c = 0) := by
  obtain ⟨⟨p1, p2⟩, ⟨p3, p4⟩, p5, p6⟩ := h
  obtain ⟨⟨q1, q2⟩, ⟨q3, q4⟩, q5, q6⟩ := h2
  obtain ⟨a, rfl⟩ : ∃ m : Nat, a = (m : Int) := ⟨a.toNat, by omega⟩
  obtain ⟨b, rfl⟩ : ∃ m : Nat, b = (m : Int) := ⟨b.toNat, by omega⟩
  obtain ⟨c, rfl⟩ : ∃ m : Nat, c = (m : Int) := ⟨c.toNat, by omega⟩
  obtain ⟨a2, rfl⟩ : ∃ m : Nat, a2 = (m : Int) := ⟨a2.toNat, by omega⟩
  obtain ⟨b2, rfl⟩ : ∃ m : Nat, b2 = (m : Int) := ⟨b2.toNat, by omega⟩
  obtain ⟨c2, rfl⟩ : ∃ m : Nat, c2 = (m : Int) := ⟨c2.toNat, by omega⟩
  have e1 := pkm_nat (a := a) (b := b) (c := c) (by omega) (by omega) (by omega)
  have e2 := pkm_nat (a := a2) (b := b2) (c := c2) (by omega) (by omega) (by omega)
  have e3 := pk_an (a := a2) (b := b2) (c := c2) (a2 := a) (b2 := b) (c2 := c) (by omega) (by omega) (by omega) (by omega) (by omega) (by omega)
  rw [e1.1, e2.1, la_nat e1.2, la_nat (by omega), la_nat (by omega), la_nat (by omega), Nat.and_comm]
  rw [show ∀ m : Nat, ((m : Int) = 0) = (m = 0) from fun m => propext (by omega), e3]
  rw [show ∀ m : Nat, ((m : Int) = 0) = (m = 0) from fun m => propext (by omega), show ∀ m : Nat, ((m : Int) = 0) = (m = 0) from fun m => propext (by omega), show ∀ m : Nat, ((m : Int) = 0) = (m = 0) from fun m => propext (by omega)]
theorem la_comm (a b : Int) : la a b = la b a := by
  unfold la
  rw [Int64.and_comm]
theorem la_lo0 (a b : Int) : la (lo 0 a) b = la a b := by
  unfold la lo
  rw [Int64.ofInt_toInt, show Int64.ofInt 0 = 0 from rfl, Int64.zero_or]
theorem lo_lo0 (a b : Int) : lo a (lo 0 b) = lo a b := by
  unfold lo
  rw [Int64.ofInt_toInt, show Int64.ofInt 0 = 0 from rfl, Int64.zero_or]
theorem l64_0 (x : Int64) : x.toInt = 0 ↔ x = 0 := by
  constructor
  · intro h
    have := congrArg Int64.ofInt h
    rw [Int64.ofInt_toInt] at this
    exact this
  · intro h
    rw [h]
    rfl
theorem or_0 (x y : Int64) : x ||| y = 0 ↔ (x = 0 ∧ y = 0) := by
  constructor
  · intro h
    have h2 := congrArg Int64.toBitVec h
    rw [Int64.toBitVec_or] at h2
    have h3 := BitVec.or_eq_zero_iff.mp h2
    exact ⟨Int64.toBitVec_inj.mp h3.1, Int64.toBitVec_inj.mp h3.2⟩
  · intro ⟨h1, h2⟩
    rw [h1, h2]
    rfl
theorem lo3_0 (a b c d x y : Int) : lo (lo (la a b) (la c d)) (la x y) = 0 ↔ (la a b = 0 ∧ la c d = 0 ∧ la x y = 0) := by
  unfold lo la
  simp only [Int64.ofInt_toInt, l64_0, or_0, and_assoc]
/-- our test of a clash against the reference's five -/
theorem clash_e {A U a u S R K p q r x7 x8 x9 y9 y11 y13 : Int} (h7 : x7 = lo 0 (lo U A)) (h8 : x8 = lo 0 A) (h9 : x9 = lo 0 (pkm S R K)) (hb : MB3 S R K) (h10 : y9 = lo u a) (h11 : y11 = a) (h12 : y13 = pkm p q r) (hc : MB3 p q r) : lo (lo (la x8 y9) (la x7 y11)) (la x9 y13) = 0 ↔ (la a (lo U A) = 0 ∧ la A (lo u a) = 0 ∧ la p S = 0 ∧ la q R = 0 ∧ la r K = 0) := by
  rw [lo3_0, h7, h8, h9, h10, h11, h12, la_lo0, la_lo0, la_lo0, pk_la hb hc, la_comm (lo U A) a]
  exact ⟨fun ⟨a, b, c⟩ => ⟨b, a, c⟩, fun ⟨b, a, c⟩ => ⟨a, b, c⟩⟩
