/-! Bytes as they are fed. -/
def byt (a s : Int) : Int := ((Int32.ofInt a >>> (Int32.ofInt s &&& 31)).toInt8).toInt
def ar5 (x y u v w : Int) (k : Nat) : Int := if k < 4 then x else if k < 8 then y else if k < 12 then u else if k < 16 then v else w
section BYT
variable {M : hm_M} {pc row p q d n : Nat} {E : hm_E} {lv : List (Nat × Value)} {st : List Value} {s : rS} {x y : Int32} {Q : rS → hm_Out → Prop} {a b : Int}
theorem wr_shr (ho : (hm_Mi M)[pc]? = some (some (.ishr, 1, 3, row))) (kk : wr d M (pc + 1) lv (.int (x >>> (y &&& 31)) :: st) s Q) : wr d M pc lv (.int y :: .int x :: st) s Q := wr_go (fun call g => by rw [hs_of ho]; rfl) kk
theorem wr_i2b (ho : (hm_Mi M)[pc]? = some (some (.i2b, 1, 5, row))) (kk : wr d M (pc + 1) lv (.int x.toInt8.toInt32 :: st) s Q) : wr d M pc lv (.int x :: st) s Q := wr_go (fun call g => by rw [hs_of ho]; rfl) kk
theorem b8 (x : Int32) : x.toInt8.toInt32.toInt8 = x.toInt8 := by simp
theorem b8_rng (x : Int32) : -128 ≤ x.toInt8.toInt ∧ x.toInt8.toInt ≤ 127 := by
  have h4 := x.toInt8.le_toInt
  have h5 := x.toInt8.toInt_lt
  omega
theorem b8_val (x : Int32) : Value.int x.toInt8.toInt32 = Value.int (Int32.ofInt x.toInt8.toInt) := rfl
theorem wr_bstx (ho : (hm_Mi M)[pc]? = some (some (.bastore, 1, 11, 1))) (hro : hm_Tro tb_T ≤ q) (ht : tb_TG q = some (.inl .byte, n)) (h0 : 0 ≤ a) (h1 : a < n) (hn : n ≤ 2147483647) (kk : wr d M (pc + 1) lv st (up2 s.1 q a.toNat x.toInt8.toInt, s.2) Q) : wr d M pc lv (.int x.toInt8.toInt32 :: vi a :: .ref q :: st) s Q :=
  wr_ast (ty := .byte) ho hro ht rfl h0 h1 hn (by show some (Value.int x.toInt8.toInt32.toInt8.toInt32) = some (Value.int (Int32.ofInt x.toInt8.toInt)); rw [b8, b8_val]) (b8_rng x) kk
theorem wv_shr (ho : (hm_Mi M)[pc]? = some (some (.ishr, 1, 3, row))) (kk : wv q E d M (pc + 1) lv (.int (x >>> (y &&& 31)) :: st) s Q) : wv q E d M pc lv (.int y :: .int x :: st) s Q := wv_go (fun call g => by rw [hs_of ho]; rfl) kk
theorem wv_i2b (ho : (hm_Mi M)[pc]? = some (some (.i2b, 1, 5, row))) (kk : wv q E d M (pc + 1) lv (.int x.toInt8.toInt32 :: st) s Q) : wv q E d M pc lv (.int x :: st) s Q := wv_go (fun call g => by rw [hs_of ho]; rfl) kk
theorem wv_mul (ho : (hm_Mi M)[pc]? = some (some (.imul, 1, 3, row))) (kk : wv q E d M (pc + 1) lv (vi (a * b) :: st) s Q) : wv q E d M pc lv (vi b :: vi a :: st) s Q := wv_go (fun call g => by rw [hs_of ho]; show some (Sum.inl (pc + 1, lv, Value.int (Int32.ofInt a * Int32.ofInt b) :: st, g)) = _; rw [i32_mul]) kk
theorem wv_remr (ho : (hm_Mi M)[pc]? = some (some (.irem, 1, 6, row))) (ha : 0 ≤ a ∧ a ≤ 2147483647) (hb : 1 ≤ b ∧ b ≤ 2147483647) (kk : wv q E d M (pc + 1) lv (vi (a - a / b * b) :: st) s Q) : wv q E d M pc lv (vi b :: vi a :: st) s Q := by
  refine wv_go (fun call g => ?_) kk
  rw [hs_of ho]
  have hb0 : i32 b := by unfold i32; omega
  show hm_pu 1 g (if Int32.ofInt b = 0 then none else some (1, pc + 1, lv, Value.int (Int32.ofInt a - Int32.ofInt a / Int32.ofInt b * Int32.ofInt b) :: st)) = _
  have hd : Int32.ofInt a / Int32.ofInt b = Int32.ofInt (a / b) := by
    rw [← Int.tdiv_eq_ediv_of_nonneg ha.1]
    exact (Int32.ofInt_tdiv (by show -2147483648 ≤ a; omega) (by show a ≤ 2147483647; omega) (by show -2147483648 ≤ b; omega) (by show b ≤ 2147483647; omega)).symm
  rw [if_neg (ofInt_ne hb0 (by omega)), hd, i32_mul, i32_sub]
  rfl
theorem wv_bstx (ho : (hm_Mi M)[pc]? = some (some (.bastore, 1, 11, 1))) (hro : hm_Tro tb_T ≤ p) (ht : tb_TG p = some (.inl .byte, n)) (hpq : p ≠ q) (h0 : 0 ≤ a) (h1 : a < n) (hn : n ≤ 2147483647) (kk : wv q E d M (pc + 1) lv st (up2 s.1 p a.toNat x.toInt8.toInt, s.2) Q) : wv q E d M pc lv (.int x.toInt8.toInt32 :: vi a :: .ref p :: st) s Q := fun g hg hc hE => by
  obtain ⟨l, k1, k2⟩ := tg_arr (Rp_tg hg ht)
  have hj : a.toNat < n := by omega
  have h3 : rP (hset g.1 p a.toNat (rv (rk1 .byte) x.toInt8.toInt), g.2) (up2 s.1 p a.toNat x.toInt8.toInt) := Rp_set hg ht hj (b8_rng x) (tb_RO_hi hro)
  obtain ⟨gf, out, h4, h5⟩ := kk _ h3 hc ((hset_at_ne hpq).trans hE)
  rw [← hset_arr k1, ← i32_nat h0 (by omega)] at h4
  exact ⟨gf, out, hm_bo_go (fun call => hs_ast (w := rv (rk1 .byte) x.toInt8.toInt) ho hro k1 rfl (nn_i h0 (by omega)) (by rw [i32_nat h0 (by omega), k2]; exact hj) (by show some (Value.int x.toInt8.toInt32.toInt8.toInt32) = some (Value.int (Int32.ofInt x.toInt8.toInt)); rw [b8, b8_val])) h4, h5⟩
end BYT
