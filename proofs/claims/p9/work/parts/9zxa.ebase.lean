/-! Things and rules of the reference's run. -/
def relE (k j : Nat) : Bool := if k = 170 then (j == 1 || j == 20 || j == 52 || j == 53 || j == 54 || j == 55) else if k = 177 then (j == 1 || j == 2 || j == 3 || j == 4 || j == 5 || j == 6 || j == 7 || j == 8 || j == 9 || j == 10 || j == 18) else if k < 186 then (k == 171 || 178 ≤ k) else if k < 220 then (203 ≤ k && k != 212 && k != 219) else (k != 920 && k != 1621 && k ≤ 1630)
def eP : EPx := (177, 9, relE, 170, 17, (fun _ => True), (fun _ => True))
section ETH
variable {k i j C : Nat}
theorem pe_hi (h : 195 ≤ k) : ph eP C k = k := if_neg (fun e => by have h2 : k < 177 + 9 := e.2; omega)
theorem re_hi (h : 220 ≤ k) (h1 : k ≠ 920) (h2 : k ≠ 1621) (h3 : k ≤ 1630) : eP.2.2.1 k j = true := by
  show relE k j = true
  unfold relE
  rw [if_neg (by omega), if_neg (by omega), if_neg (by omega), if_neg (by omega)]
  simp [h1, h2, h3]
theorem re_st (h : i < 700) : eP.2.2.1 (220 + i) j = true := re_hi (by omega) (by omega) (by omega) (by omega)
theorem re_bk (h : i < 700) : eP.2.2.1 (921 + i) j = true := re_hi (by omega) (by omega) (by omega) (by omega)
theorem re_in (h : i < 8) : eP.2.2.1 (1622 + i) j = true := re_hi (by omega) (by omega) (by omega) (by omega)
theorem re_it (h : i < 6) : eP.2.2.1 (213 + i) j = true := by
  match i, h with
  | 0, _ => rfl
  | 1, _ => rfl
  | 2, _ => rfl
  | 3, _ => rfl
  | 4, _ => rfl
  | 5, _ => rfl
theorem nx_it (h : i < 6) : tb_rc (213 + i) j = none := by
  match i, h with
  | 0, _ => exact n0 rfl (by omega) (by omega)
  | 1, _ => exact n0 rfl (by omega) (by omega)
  | 2, _ => exact n0 rfl (by omega) (by omega)
  | 3, _ => exact n0 rfl (by omega) (by omega)
  | 4, _ => exact n0 rfl (by omega) (by omega)
  | 5, _ => exact n0 rfl (by omega) (by omega)
end ETH
/-! What the small methods do. -/
def rdz (t : tab) (b : Int) : Int := t 178 ((imi (ipl (t 205 b.toNat) 1) 1).toNat)
def rds (t : tab) (b : Int) : tab := up2 t 205 b.toNat (ipl (t 205 b.toNat) 1)
def poz (t : tab) (b : Int) : Int := t (220 + b.toNat) ((imi (t 208 b.toNat) 1).toNat)
def pos (t : tab) (b : Int) : tab := up2 t 208 b.toNat (imi (t 208 b.toNat) 1)
def phE (t : tab) (b v : Int) : tab := up2 (up2 t (220 + b.toNat) ((t 208 b.toNat).toNat) v) 208 b.toNat (ipl (t 208 b.toNat) 1)
def wtE (t : tab) (b w x : Int) : tab := up2 (up2 t 206 b.toNat w) 207 b.toNat x
def tgx (a x y : Int) : Int :=
  if a = 37 then rmx x y else if a = 38 then ian x y else if a = 42 then imu x y else if a = 43 then ipl x y else if a = 45 then imi x y else if a = 47 then dvx x y else if a = 60 then tru (x < y) else if a = 62 then tru (y < x) else if a = 94 then ixo x y else if a = 124 then ior x y else if a = 9766 then tru (x ≠ 0 ∧ y ≠ 0) else if a = 15420 then isl x y else if a = 15649 then tru (x ≠ y) else if a = 15676 then tru (x ≤ y) else if a = 15677 then tru (x = y) else if a = 15934 then isr x y else if a = 31868 then tru (x ≠ 0 ∨ y ≠ 0) else tru (y ≤ x)
