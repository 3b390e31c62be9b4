/-! The two objects as they are made, by the kernel; thing 0 out of sight. -/
def ivl (v : Value) : Int := match v with
  | .int x => x.toInt
  | .long x => x.toInt
  | .ref q => (q : Int)
  | _ => -1
/-- the numbers that things hold -/
def r0 (h : hm_H) : tab := fun k j => match sl h k j with
  | some v => ivl v
  | none => 0
def ckV (ty : FieldType) (v : Value) : Bool := match ty, v with
  | .int, .int _ => true
  | .byte, .int x => decide (-128 ≤ x.toInt ∧ x.toInt ≤ 127)
  | .boolean, .int x => decide (0 ≤ x.toInt ∧ x.toInt ≤ 1)
  | .long, .long _ => true
  | .object _, .ref _ => true
  | .object _, .null => true
  | .array _, .ref _ => true
  | .array _, .null => true
  | _, _ => false
/-- n slots that are as they should be: what is behind them -/
def ckA (f : Value → Bool) : Nat → List Value → Option (List Value)
  | 0, l => some l
  | _ + 1, [] => none
  | n + 1, v :: l => match f v with
    | true => ckA f n l
    | false => none
def ckB (f : Value → Bool) : Nat → Nat → List Value → Bool
  | 0, b, l => match ckA f b l with
    | some [] => true
    | _ => false
  | a + 1, b, l => match ckA f 1000 l with
    | some l2 => ckB f a b l2
    | none => false
def ckL (tf : Nat → FieldType) : Nat → List Value → Bool
  | _, [] => true
  | j, v :: l => match ckV (tf j) v with
    | true => ckL tf (j + 1) l
    | false => false
def ckE (k : Nat) (x : hm_E) : Bool := match tb_TG k with
  | none => true
  | some (.inl ty, n) => match x with
    | .inl (ty2, l) => decide (ty2 = ty) && ckB (ckV ty) (n / 1000) (n % 1000) l
    | _ => false
  | some (.inr ci, n) => match x with
    | .inr (.inl (c2, l)) => Nat.beq c2 ci && (Nat.beq l.length n && ckL (tb_ty ci) 0 l)
    | _ => false
def ckH : Nat → hm_H → Bool
  | _, [] => true
  | k, x :: l => match ckE k x with
    | true => ckH (k + 1) l
    | false => false
/-- slots that hold one thing for ever -/
def ckS : List (Option Nat) → List Value → Bool
  | [], _ => true
  | none :: r, _ :: l => ckS r l
  | some p :: r, .ref q :: l => match Nat.beq p q with
    | true => ckS r l
    | false => false
  | _, _ => false
def slots (x : hm_E) : List Value := match x with
  | .inl q => q.2
  | .inr (.inl q) => q.2
  | .inr (.inr _) => []
def ckR : List (List (Option Nat)) → hm_H → Bool
  | [], _ => true
  | r :: rs, x :: l => match ckS r (slots x) with
    | true => ckR rs l
    | false => false
  | _ :: _, [] => false
def ckF : Nat → Nat → List Value → Bool
  | _, 0, _ => true
  | q, n + 1, .ref p :: l => match Nat.beq p q with
    | true => ckF (q + 1) n l
    | false => false
  | _, _, _ => false
def ckZ (v : Value) : Bool := match v with
  | .int x => decide (x = 0)
  | _ => false
def at9 (h : hm_H) (k : Nat) : List Value := match h[k]? with
  | some x => slots x
  | none => []
def zr (h : hm_H) (k n : Nat) : Bool := ckB ckZ (n / 1000) (n % 1000) (at9 h k)
def is (h : hm_H) (k j : Nat) (v : Value) : Bool := decide ((at9 h k)[j]? = some v)
def pz_S0 : hm_S := (0, [(0, .ref 0)], [], hz_D :: (tb_ro []).drop 1, 0, 0)
def eqE (x y : hm_E) : Bool := match x, y with
  | .inl a, .inl b => decide (a = b)
  | .inr (.inl a), .inr (.inl b) => decide (a = b)
  | .inr (.inr a), .inr (.inr b) => decide (a = b)
  | _, _ => false
def eqH : hm_H → hm_H → Bool
  | [], [] => true
  | x :: l, y :: m => match eqE x y with
    | true => eqH l m
    | false => false
  | _, _ => false
def ckG (h : hm_H) : Bool :=
  eqH ((h.take 96).drop 1) ((tb_ro []).drop 1) && (decide (h.length = 1631) && (ckH 96 (h.drop 96) && (ckR tb_rl (h.drop 96) && (ckF 220 700 (at9 h 219) && (ckF 921 700 (at9 h 920) && (ckF 1622 8 (at9 h 1621) &&
  (zr h 109 6 && (zr h 125 6 && (zr h 111 6 && (zr h 127 6 && (zr h 147 2000 && (zr h 152 12 && (zr h 153 12 &&
  (is h 97 1 (.int 0) && (is h 99 12 (.int 0) && (is h 115 12 (.int 0) && (is h 105 3 (.int 0) && (is h 121 3 (.int 0) && (is h 131 6 (.int 0) && (is h 142 6 (.int 0) &&
  ([154, 156, 158, 160, 162, 164, 166, 168].all (fun q => is h q 1 (.int 0) && is h q 2 (.int 0)) &&
  (is h 96 1 (.ref 99) && (is h 96 2 (.ref 115) && (is h 142 0 (.ref 99) && (is h 170 1 (.int 0) && (is h 170 20 (.int 0) && (is h 170 17 (.ref 177) && (is h 170 18 (.ref 186) && (decide (at9 h 138 = RWl.map fun z => Value.long (Int64.ofInt z)) && (is h 96 3 (.int 0) && (zr h 140 2001 && zr h 144 2000)))))))))))))))))))))))))))))))
def pc_chk (S : hm_S) : Bool := decide (S.1 = 18) && (decide (S.2.1 = [(3, .int 0), (2, .ref 170), (1, .ref 96), (0, .ref 0)]) && (decide (S.2.2.1 = []) && (decide (S.2.2.2.2 = (1535, 815634)) && ckG S.2.2.2.1)))
def pc_fin (a : Option hm_S) : Bool := match a with
  | some S => pc_chk S
  | none => false
set_option maxRecDepth 100000 in
theorem pc_closed : pc_fin (hm_go_n tb_T (hm_call tb_T tb_pg 100000 600) tb_M0 10 pz_S0) = true := by decide +kernel
