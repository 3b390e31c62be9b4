/-! Letters put together into longs. -/
theorem l_shl8 (m : Nat) : Int64.ofInt (m : Int) <<< ((Int32.ofInt 8).toInt64 &&& 63) = Int64.ofInt ((m * 256 : Nat) : Int) := by
  have h8 : (Int32.ofInt 8).toInt64 &&& 63 = (8 : Int64) := by decide
  rw [h8, Int64.ofInt_eq_ofNat, Int64.ofInt_eq_ofNat]
  apply Int64.toBitVec_inj.mp
  apply BitVec.eq_of_toNat_eq
  simp [Int64.toBitVec_shiftLeft, BitVec.toNat_shiftLeft, Nat.shiftLeft_eq]
section LONGX
variable {M : hm_M} {pc row d : Nat} {lv : List (Nat × Value)} {st : List Value} {s : rS} {Q : rS → hm_Out → Prop} {a b : Int}
theorem wr_lshl8 (ho : (hm_Mi M)[pc]? = some (some (.lshl, 1, 6, row))) (kk : ∀ z, i64 z → (0 ≤ a → a < 36028797018963968 → z = a * 256) → wr d M (pc + 1) lv (vl z :: st) s Q) : wr d M pc lv (vi 8 :: vl a :: st) s Q := by
  obtain ⟨z, hz, h1, h2⟩ := i64_of (Int64.ofInt a <<< ((Int32.ofInt 8).toInt64 &&& 63))
  refine wr_go (fun call g => ?_) (kk z ⟨h1, h2⟩ fun e1 e2 => ?_)
  · rw [hs_of ho]
    show some (Sum.inl (pc + 1, lv, Value.long (Int64.ofInt a <<< ((Int32.ofInt 8).toInt64 &&& 63)) :: st, g)) = _
    rw [hz]
  · obtain ⟨m, rfl⟩ : ∃ m : Nat, a = (m : Int) := ⟨a.toNat, by omega⟩
    have h4 : Int64.ofInt z = Int64.ofInt ((m * 256 : Nat) : Int) := hz.symm.trans (l_shl8 m)
    have h5 := congrArg Int64.toInt h4
    rw [i64_to h1 h2, i64_to (by omega) (by omega)] at h5
    omega
theorem wr_lorx (ho : (hm_Mi M)[pc]? = some (some (.lor, 1, 4, row))) (kk : ∀ z, i64 z → (∀ w : Int, a = w * 256 → 0 ≤ w → w < 36028797018963968 → 0 ≤ b → b < 256 → z = w * 256 + b) → wr d M (pc + 1) lv (vl z :: st) s Q) : wr d M pc lv (vl b :: vl a :: st) s Q := by
  refine wr_anyl ho (f := fun x y => x ||| y) rfl fun z hz he => kk z hz fun w e1 e2 e3 e4 e5 => ?_
  obtain ⟨m, rfl⟩ : ∃ m : Nat, w = (m : Int) := ⟨w.toNat, by omega⟩
  obtain ⟨c, rfl⟩ : ∃ c : Nat, b = (c : Int) := ⟨b.toNat, by omega⟩
  have he : Int64.ofInt z = Int64.ofInt a ||| Int64.ofInt (c : Int) := he
  rw [e1, show (m : Int) * 256 = ((m * 256 : Nat) : Int) by omega, l_or] at he
  have h7 : m * 256 ||| c = m * 256 + c := by
    have := Nat.shiftLeft_add_eq_or_of_lt (show c < 2 ^ 8 by omega) m
    rw [Nat.shiftLeft_eq] at this
    exact this.symm
  rw [h7] at he
  have h6 := congrArg Int64.toInt he
  rw [i64_to hz.1 hz.2, i64_to (by omega) (by omega)] at h6
  omega
end LONGX
