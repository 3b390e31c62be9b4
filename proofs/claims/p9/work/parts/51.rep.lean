/-! The things as a table of whole numbers: r k j is what slot j of thing k holds (a reference by its thing, null by -1). -/
abbrev rK : Type := FieldType ⊕ Nat
/-- the kind of a value of a type: 0 int, 1 long, 2 reference -/
def rk1 (ty : FieldType) : Nat := match ty with
  | .long => 1
  | .object _ => 2
  | .array _ => 2
  | _ => 0
def rkd (tyf : Nat → Nat → FieldType) (t : rK) (j : Nat) : Nat := match t with
  | .inl ty => rk1 ty
  | .inr ci => rk1 (tyf ci j)
def rty (tyf : Nat → Nat → FieldType) (t : rK) (j : Nat) : FieldType := match t with
  | .inl ty => ty
  | .inr ci => tyf ci j
def rv (kd : Nat) (z : Int) : Value := match kd with
  | 0 => .int (Int32.ofInt z)
  | 1 => .long (Int64.ofInt z)
  | _ => if z < 0 then .null else .ref z.toNat
/-- the bounds of a number by its type -/
def rg (ty : FieldType) (z : Int) : Prop := match ty with
  | .boolean => 0 ≤ z ∧ z ≤ 1
  | .byte => -128 ≤ z ∧ z ≤ 127
  | .long => -9223372036854775808 ≤ z ∧ z ≤ 9223372036854775807
  | .object _ => -1 ≤ z
  | .array _ => -1 ≤ z
  | _ => -2147483648 ≤ z ∧ z ≤ 2147483647
/-- g holds r: the things' kinds are those of TG, and their slots hold r's numbers; thing by thing the read-only ones are RO's -/
def Rp (tyf : Nat → Nat → FieldType) (TG : Nat → Option (rK × Nat)) (RO : Nat → Option hm_E) (g : hm_G) (r : Nat → Nat → Int) : Prop :=
  (∀ k t n, TG k = some (t, n) → tg g.1 k = some (t, n) ∧ ∀ j, j < n → sl g.1 k j = some (rv (rkd tyf t j) (r k j)) ∧ rg (rty tyf t j) (r k j)) ∧ ∀ k e, RO k = some e → g.1[k]? = some e
def up2 (r : Nat → Nat → Int) (k j : Nat) (z : Int) : Nat → Nat → Int := fun k2 j2 => if k2 = k ∧ j2 = j then z else r k2 j2
theorem up_self {r : Nat → Nat → Int} {k j : Nat} {z : Int} : up2 r k j z k j = z := if_pos ⟨rfl, rfl⟩
theorem up_nk {r : Nat → Nat → Int} {k j k2 j2 : Nat} {z : Int} (h : k2 ≠ k) : up2 r k j z k2 j2 = r k2 j2 := if_neg fun e => h e.1
theorem up_nj {r : Nat → Nat → Int} {k j k2 j2 : Nat} {z : Int} (h : j2 ≠ j) : up2 r k j z k2 j2 = r k2 j2 := if_neg fun e => h e.2
section REP
variable {tyf : Nat → Nat → FieldType} {TG : Nat → Option (rK × Nat)} {RO : Nat → Option hm_E} {g : hm_G} {r : Nat → Nat → Int} {k j n : Nat} {t : rK} {z : Int}
theorem Rp_tg (h : Rp tyf TG RO g r) (ht : TG k = some (t, n)) : tg g.1 k = some (t, n) := (h.1 k t n ht).1
theorem Rp_sl (h : Rp tyf TG RO g r) (ht : TG k = some (t, n)) (hj : j < n) : sl g.1 k j = some (rv (rkd tyf t j) (r k j)) := ((h.1 k t n ht).2 j hj).1
theorem Rp_rg (h : Rp tyf TG RO g r) (ht : TG k = some (t, n)) (hj : j < n) : rg (rty tyf t j) (r k j) := ((h.1 k t n ht).2 j hj).2
theorem Rp_set (h : Rp tyf TG RO g r) (ht : TG k = some (t, n)) (hj : j < n) (hz : rg (rty tyf t j) z) (hk : ∀ e, RO k ≠ some e) : Rp tyf TG RO (hset g.1 k j (rv (rkd tyf t j) z), g.2) (up2 r k j z) := by
  refine ⟨fun k2 t2 n2 h2 => ⟨by rw [show (hset g.1 k j (rv (rkd tyf t j) z), g.2).1 = hset g.1 k j (rv (rkd tyf t j) z) from rfl, tg_hset]; exact Rp_tg h h2, fun j2 hj2 => ?_⟩, fun k2 e2 h2 => ?_⟩
  · by_cases e1 : k2 = k
    · subst e1
      cases ht.symm.trans h2
      by_cases e2 : j2 = j
      · subst e2
        rw [up_self]
        exact ⟨sl_self (Rp_tg h ht) hj, hz⟩
      · rw [up_nj e2]
        exact ⟨(sl_nj (Ne.symm e2)).trans (Rp_sl h h2 hj2), Rp_rg h h2 hj2⟩
    · rw [up_nk e1]
      exact ⟨(sl_ne (Ne.symm e1)).trans (Rp_sl h h2 hj2), Rp_rg h h2 hj2⟩
  · have e1 : k ≠ k2 := fun e => hk e2 (by rw [e]; exact h2)
    exact (hset_at_ne e1).trans (h.2 k2 e2 h2)
end REP
/-- numbers as ints -/
theorem i32_to {z : Int} (h1 : -2147483648 ≤ z) (h2 : z ≤ 2147483647) : (Int32.ofInt z).toInt = z := Int32.toInt_ofInt_of_le h1 (by omega)
theorem i32_nat {z : Int} (h1 : 0 ≤ z) (h2 : z ≤ 2147483647) : (Int32.ofInt z).toNatClampNeg = z.toNat := by
  show (Int32.ofInt z).toInt.toNat = z.toNat
  rw [i32_to (by omega) h2]
theorem i32_add (a b : Int) : Int32.ofInt a + Int32.ofInt b = Int32.ofInt (a + b) := (Int32.ofInt_add a b).symm
theorem i32_sub (a b : Int) : Int32.ofInt a - Int32.ofInt b = Int32.ofInt (a - b) := (Int32.ofInt_sub a b).symm
theorem i32_mul (a b : Int) : Int32.ofInt a * Int32.ofInt b = Int32.ofInt (a * b) := (Int32.ofInt_mul a b).symm
theorem i32_of (x : Int32) : ∃ z : Int, x = Int32.ofInt z ∧ -2147483648 ≤ z ∧ z ≤ 2147483647 := ⟨x.toInt, by simp, x.le_toInt, by have := x.toInt_lt; omega⟩
theorem i64_to {z : Int} (h1 : -9223372036854775808 ≤ z) (h2 : z ≤ 9223372036854775807) : (Int64.ofInt z).toInt = z := Int64.toInt_ofInt_of_le h1 (by omega)
theorem i64_of (x : Int64) : ∃ z : Int, x = Int64.ofInt z ∧ -9223372036854775808 ≤ z ∧ z ≤ 9223372036854775807 := ⟨x.toInt, by simp, x.le_toInt, by have := x.toInt_lt; omega⟩
