/-! Rules and things of our own Work. -/
section PRW
variable {P : EPx} {C : Nat} {M : hm_M} {N K pc row k k2 ci fi q d n rt r2 len : Nat} {lv : List (Nat × Value)} {st rest args : List Value} {s : rS} {v w : Value} {i : Instr} {x y : Int32} {Q Q2 : rS → hm_Out → Prop} {ty : FieldType} {a b z : Int} {t : tab} {X A B : RO} {KX : Int → tab → RO}
/-- a row of a row -/
theorem pr_row {v : Nat} (ho : (hm_Mi M)[pc]? = some (some (i, 1, 11, 0))) (ht : tb_TG q = some (.inl ty, n)) (hty : hm_aty i ty = true) (hk : rk1 ty = 2) (ha : i32 a) (hn : n ≤ 2147483647) (hv : 0 ≤ a → a < n → s.1 q a.toNat = ((v : Nat) : Int)) (kk : 0 ≤ a → a < n → pr N K d M (pc + 1) lv (.ref v :: st) s Q) : pr N K d M pc lv (vi a :: .ref q :: st) s Q := by
  by_cases h : 0 ≤ a ∧ a < n
  · exact pr_ald ho ht hty ha hn (by rw [hk]; exact rv_ref (hv h.1 h.2)) (fun h1 h2 _ => kk h1 h2)
  · exact pr_ald ho ht hty ha hn rfl (fun h1 h2 _ => absurd ⟨h1, h2⟩ h)
theorem pr_ineg (ho : (hm_Mi M)[pc]? = some (some (.ineg, 1, 5, row))) (kk : pr N K d M (pc + 1) lv (vi (ing a) :: st) s Q) : pr N K d M pc lv (vi a :: st) s Q := by
  refine pr_go (fun call g => ?_) kk
  rw [hs_of ho]
  show some (Sum.inl (pc + 1, lv, Value.int (-(Int32.ofInt a)) :: st, g)) = some (Sum.inl (pc + 1, lv, Value.int (Int32.ofInt (-(Int32.ofInt a)).toInt) :: st, g))
  rw [Int32.ofInt_toInt]
theorem pr_i2s (ho : (hm_Mi M)[pc]? = some (some (.i2s, 1, 5, row))) (kk : pr N K d M (pc + 1) lv (vi (i2s a) :: st) s Q) : pr N K d M pc lv (vi a :: st) s Q := by
  refine pr_go (fun call g => ?_) kk
  rw [hs_of ho]
  show some (Sum.inl (pc + 1, lv, Value.int (Int32.ofInt a).toInt16.toInt32 :: st, g)) = some (Sum.inl (pc + 1, lv, Value.int (Int32.ofInt (Int32.ofInt a).toInt16.toInt) :: st, g))
  rw [← Int16.toInt_toInt32, Int32.ofInt_toInt]
def dv0 (x y : Int) : Int := (Int32.ofInt x / Int32.ofInt y).toInt
def rmw (x y : Int) : Int := (Int32.ofInt x - Int32.ofInt x / Int32.ofInt y * Int32.ofInt y).toInt
theorem pr_idiv (ho : (hm_Mi M)[pc]? = some (some (.idiv, 1, 6, row))) (kk : pr N K d M (pc + 1) lv (vi (dv0 a b) :: st) s Q) : pr N K d M pc lv (vi b :: vi a :: st) s Q := by
  by_cases e : Int32.ofInt b = 0
  · refine fun m hm g gf out hg hc hr => absurd (run_none hr ?_) id
    rw [hs_of ho]
    show hm_pu 1 g (if Int32.ofInt b = 0 then none else some (1, pc + 1, lv, Value.int (Int32.ofInt a / Int32.ofInt b) :: st)) = _
    rw [if_pos e]
    rfl
  · refine pr_go (fun call g => ?_) kk
    rw [hs_of ho]
    show hm_pu 1 g (if Int32.ofInt b = 0 then none else some (1, pc + 1, lv, Value.int (Int32.ofInt a / Int32.ofInt b) :: st)) = _
    rw [if_neg e]
    show some (Sum.inl (pc + 1, lv, Value.int (Int32.ofInt a / Int32.ofInt b) :: st, g)) = some (Sum.inl (pc + 1, lv, Value.int (Int32.ofInt (Int32.ofInt a / Int32.ofInt b).toInt) :: st, g))
    rw [Int32.ofInt_toInt]
theorem pr_irem (ho : (hm_Mi M)[pc]? = some (some (.irem, 1, 6, row))) (kk : pr N K d M (pc + 1) lv (vi (rmw a b) :: st) s Q) : pr N K d M pc lv (vi b :: vi a :: st) s Q := by
  by_cases e : Int32.ofInt b = 0
  · refine fun m hm g gf out hg hc hr => absurd (run_none hr ?_) id
    rw [hs_of ho]
    show hm_pu 1 g (if Int32.ofInt b = 0 then none else some (1, pc + 1, lv, Value.int (Int32.ofInt a - Int32.ofInt a / Int32.ofInt b * Int32.ofInt b) :: st)) = _
    rw [if_pos e]
    rfl
  · refine pr_go (fun call g => ?_) kk
    rw [hs_of ho]
    show hm_pu 1 g (if Int32.ofInt b = 0 then none else some (1, pc + 1, lv, Value.int (Int32.ofInt a - Int32.ofInt a / Int32.ofInt b * Int32.ofInt b) :: st)) = _
    rw [if_neg e]
    show some (Sum.inl (pc + 1, lv, Value.int (Int32.ofInt a - Int32.ofInt a / Int32.ofInt b * Int32.ofInt b) :: st, g)) = some (Sum.inl (pc + 1, lv, Value.int (Int32.ofInt (Int32.ofInt a - Int32.ofInt a / Int32.ofInt b * Int32.ofInt b).toInt) :: st, g))
    rw [Int32.ofInt_toInt]
end PRW
theorem i2s_i32 {a : Int} : i32 (i2s a) := by
  have h1 := (Int32.ofInt a).toInt16.le_toInt
  have h2 := (Int32.ofInt a).toInt16.toInt_lt
  unfold i2s i32
  omega
theorem ior_z {a b : Int} (ha : 0 ≤ a ∧ a ≤ 1) (hb : 0 ≤ b ∧ b ≤ 1) : 0 ≤ ior a b ∧ ior a b ≤ 1 := by
  have h : (a = 0 ∨ a = 1) ∧ (b = 0 ∨ b = 1) := by omega
  rcases h with ⟨rfl | rfl, rfl | rfl⟩ <;> decide
/-- queues; rows of those that wait; rows that are filled -/
def isQw (k : Nat) : Prop := k = 154 ∨ k = 156 ∨ k = 158 ∨ k = 160 ∨ k = 162 ∨ k = 164 ∨ k = 166 ∨ k = 168
def isW (k : Nat) : Prop := k = 152 ∨ k = 153
def isF (k : Nat) : Prop := k = 148 ∨ k = 149 ∨ k = 152 ∨ k = 153
def fln (k : Nat) : Nat := if k = 148 then 24 else if k = 149 then 384 else 12
def relW (k j : Nat) : Bool := if k = 96 then (j == 1 || j == 3) else if k = 97 then j == 1 else if k = 99 then (j == 12 || j == 13) else if k = 105 then j == 3 else if k = 142 then (j == 6 || j == 13 || j == 14 || j == 15) else if k < 154 then (k == 98 || k == 106 || k == 107 || k == 108 || k == 109 || k == 112 || k == 140 || k == 100 || k == 101 || k == 102 || k == 103 || k == 104 || k == 110 || k == 111 || k == 113 || k == 114 || k == 143 || k == 144 || k == 145 || k == 146 || k == 147 || k == 148 || k == 149 || k == 152 || k == 153) else if k < 170 then (j == 1 || j == 2 || k % 2 == 1) else false
def wP : EPx := (99, 16, relW, 142, 0, (fun _ => True), (fun _ => True))
theorem EE_142 {C : Nat} {t : tab} {s : rS} (h : EE wP C t s) : EE wP C t (up2 s.1 142 0 (C : Int), s.2) := by
  have e : up2 s.1 142 0 (C : Int) = s.1 := by
    funext k j
    by_cases q : k = 142 ∧ j = 0
    · rw [q.1, q.2, up_self]
      exact h.2.2.1.symm
    · exact if_neg q
  rw [e]
  exact h
section WTH
variable {k i j C : Nat}
theorem isQwi (h : i < 4) : isQw (154 + 2 * i) := by unfold isQw; omega
theorem isQwo (h : i < 4) : isQw (162 + 2 * i) := by unfold isQw; omega
theorem isW_152 : isW 152 := .inl rfl
theorem isW_153 : isW 153 := .inr rfl
theorem isF_148 : isF 148 := .inl rfl
theorem isF_149 : isF 149 := .inr (.inl rfl)
theorem isF_152 : isF 152 := .inr (.inr (.inl rfl))
theorem isF_153 : isF 153 := .inr (.inr (.inr rfl))
theorem ge_q (h : isQw k) : 154 ≤ k ∧ k ≤ 168 := by unfold isQw at h; omega
theorem ge_w (h : isW k) : 152 ≤ k ∧ k ≤ 153 := by unfold isW at h; omega
theorem ge_f (h : isF k) : 148 ≤ k ∧ k ≤ 153 := by unfold isF at h; omega
theorem fln_b (_ : isF k) : fln k ≤ 2147483647 := by
  unfold fln
  split
  · omega
  · split <;> omega
theorem up_jn {t : tab} {k2 j2 : Nat} {z : Int} (h : j2 ≠ j) : up2 t k j z k2 j2 = t k2 j2 := if_neg (fun q => h q.2)
theorem fln_i (_ : isF k) : i32 ((fln k : Nat) : Int) := by
  unfold fln i32
  split
  · omega
  · split <;> omega
theorem TGw_q (h : isQw k) : tb_TG k = some (.inr 3, 3) := by rcases h with rfl | rfl | rfl | rfl | rfl | rfl | rfl | rfl <;> rfl
theorem TGw_q1 (h : isQw k) : tb_TG (k + 1) = some (.inl .int, 40) := by rcases h with rfl | rfl | rfl | rfl | rfl | rfl | rfl | rfl <;> rfl
theorem TGw_w (h : isW k) : tb_TG k = some (.inl .int, 12) := by rcases h with rfl | rfl <;> rfl
theorem TGw_f (h : isF k) : tb_TG k = some (.inl .int, fln k) := by rcases h with rfl | rfl | rfl | rfl <;> rfl
theorem rcw_q (h : isQw k) : tb_rc k 0 = some (k + 1) := by rcases h with rfl | rfl | rfl | rfl | rfl | rfl | rfl | rfl <;> rfl
theorem rcw_i (h : i < 4) : tb_rc 150 i = some (154 + 2 * i) := by
  match i, h with
  | 0, _ => rfl
  | 1, _ => rfl
  | 2, _ => rfl
  | 3, _ => rfl
theorem rcw_o (h : i < 4) : tb_rc 151 i = some (162 + 2 * i) := by
  match i, h with
  | 0, _ => rfl
  | 1, _ => rfl
  | 2, _ => rfl
  | 3, _ => rfl
theorem nw_q (h : isQw k) (hj : j ≠ 0) : tb_rc k j = none := by
  match j, hj with
  | 0, hj => exact absurd rfl hj
  | 1, _ => rcases h with rfl | rfl | rfl | rfl | rfl | rfl | rfl | rfl <;> rfl
  | 2, _ => rcases h with rfl | rfl | rfl | rfl | rfl | rfl | rfl | rfl <;> rfl
  | j + 3, _ => rcases h with rfl | rfl | rfl | rfl | rfl | rfl | rfl | rfl <;> rfl
theorem nw_q1 (h : isQw k) : tb_rc (k + 1) j = none := by rcases h with rfl | rfl | rfl | rfl | rfl | rfl | rfl | rfl <;> exact n0 rfl (by omega) (by omega)
theorem nw_w (h : isW k) : tb_rc k j = none := by rcases h with rfl | rfl <;> exact n0 rfl (by omega) (by omega)
theorem nw_f (h : isF k) : tb_rc k j = none := by rcases h with rfl | rfl | rfl | rfl <;> exact n0 rfl (by omega) (by omega)
theorem pv_hi (h : 115 ≤ k) : ph wP C k = k := if_neg (fun e => by have h2 : k < 99 + 16 := e.2; omega)
theorem pv_q (h : isQw k) : ph wP C k = k := pv_hi (by unfold isQw at h; omega)
theorem pv_q1 (h : isQw k) : ph wP C (k + 1) = k + 1 := pv_hi (by unfold isQw at h; omega)
theorem pv_w (h : isW k) : ph wP C k = k := pv_hi (by unfold isW at h; omega)
theorem pv_f (h : isF k) : ph wP C k = k := pv_hi (by unfold isF at h; omega)
theorem rw_q (h : isQw k) (hj : j = 1 ∨ j = 2) : wP.2.2.1 k j = true := by rcases h with rfl | rfl | rfl | rfl | rfl | rfl | rfl | rfl <;> rcases hj with rfl | rfl <;> rfl
theorem rw_q1 (h : isQw k) : wP.2.2.1 (k + 1) j = true := by
  show relW (k + 1) j = true
  unfold isQw at h
  unfold relW
  rw [if_neg (by omega), if_neg (by omega), if_neg (by omega), if_neg (by omega), if_neg (by omega), if_neg (by omega), if_pos (by omega), show (k + 1) % 2 = 1 by omega]
  simp
theorem rw_w (h : isW k) : wP.2.2.1 k j = true := by rcases h with rfl | rfl <;> rfl
theorem rw_f (h : isF k) : wP.2.2.1 k j = true := by rcases h with rfl | rfl | rfl | rfl <;> rfl
end WTH
/-! What the small methods of Work do. -/
def psw (t : tab) (x : Int) : tab := if 0 ≤ x ∧ x < 2000 ∧ 0 ≤ t 142 6 ∧ t 142 6 < 2000 then up2 (up2 t 147 (t 142 6).toNat x) 142 6 (ipl (t 142 6) 1) else t
def akw (t : tab) (x p : Int) : tab := if 0 ≤ x ∧ x < t 99 12 then psw (up2 (up2 t 143 x.toNat p) 144 x.toNat (-1)) x else t
def tlw (t : tab) (x v : Int) : tab := if 0 ≤ x ∧ x < t 99 12 then psw (up2 (up2 t 145 x.toNat v) 142 13 (ior (t 142 13) (if 0 ≤ t 143 x.toNat then 0 else 1))) (t 143 x.toNat) else t
def otw (t : tab) (c p v : Int) : tab := if c < 0 then tlw t p v else akw t c p
def itw (t : tab) (r x : Int) : Int := if 0 ≤ r ∧ r < 6 then t 149 (ipl (imu r 64) (plx t r x)).toNat else 0
def asw (t : tab) (g x v : Int) : tab := if 0 ≤ g ∧ g < 24 then up2 t 148 g.toNat (if t 110 g.toNat = 0 then i2s v else ian v (imi (isl 1 (t 110 g.toNat)) 1)) else if 0 ≤ imi g 24 ∧ imi g 24 < 6 then up2 t 149 (ipl (imu (imi g 24) 64) (plx t (imi g 24) x)).toNat (i2s v) else t
def how (t : tab) (a b v : Int) : tab := if 0 ≤ b ∧ b < t 99 12 then tlw (tlw (asw t (t 102 b.toNat) (vax t (t 103 b.toNat)) v) a 0) b 0 else t
def qaz (t : tab) (q : Int) : Int := if t q.toNat 2 < 40 then 1 else 0
def qad (t : tab) (q v : Int) : tab := if t q.toNat 2 < 40 then up2 (up2 t (q.toNat + 1) (rmw (ipl (t q.toNat 1) (t q.toNat 2)) 40).toNat v) q.toNat 2 (ipl (up2 t (q.toNat + 1) (rmw (ipl (t q.toNat 1) (t q.toNat 2)) 40).toNat v q.toNat 2) 1) else t
def qrz (t : tab) (q : Int) : Int := if 0 < t q.toNat 2 then t (q.toNat + 1) (t q.toNat 1).toNat else 0
def qrm (t : tab) (q : Int) : tab := if 0 < t q.toNat 2 then up2 (up2 t q.toNat 1 (rmw (ipl (t q.toNat 1) 1) 40)) q.toNat 2 (imi (t q.toNat 2) 1) else t
def qcl (t : tab) (q : Int) : tab := up2 (up2 t q.toNat 1 0) q.toNat 2 0
