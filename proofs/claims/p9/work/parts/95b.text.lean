/-! Texts: tokens by their places. T: the bytes, n: how many. -/
def ltr (c : Int) : Bool := decide (97 ≤ c ∧ c ≤ 122)
def dgt (c : Int) : Bool := decide (48 ≤ c ∧ c ≤ 57)
def aln (c : Int) : Bool := ltr c || dgt c
def blk (c : Int) : Bool := decide (c = 32 ∨ c = 10)
def upt (q : Int → Bool) (T : Nat → Int) (n : Nat) : Nat → Nat → Nat
  | 0, p => p
  | f + 1, p => if p < n ∧ q (T p) = true then upt q T n f (p + 1) else p
/-- the first place from p on that is not q's -/
def upto (q : Int → Bool) (T : Nat → Int) (n p : Nat) : Nat := upt q T n (n - p) p
section UPTO
variable {q : Int → Bool} {T : Nat → Int} {n p : Nat}
theorem upto_yes (h : p < n) (hq : q (T p) = true) : upto q T n p = upto q T n (p + 1) := by
  unfold upto
  rw [show n - p = (n - (p + 1)) + 1 by omega]
  show (if p < n ∧ q (T p) = true then upt q T n (n - (p + 1)) (p + 1) else p) = _
  rw [if_pos ⟨h, hq⟩]
theorem upto_no (h : ¬ (p < n ∧ q (T p) = true)) : upto q T n p = p := by
  unfold upto
  cases n - p with
  | zero => rfl
  | succ f =>
    show (if p < n ∧ q (T p) = true then upt q T n f (p + 1) else p) = p
    rw [if_neg h]
theorem upt_ge : ∀ (f p : Nat), p ≤ upt q T n f p
  | 0, p => Nat.le_refl _
  | f + 1, p => by
    show p ≤ (if p < n ∧ q (T p) = true then upt q T n f (p + 1) else p)
    split
    · exact Nat.le_trans (by omega) (upt_ge f (p + 1))
    · exact Nat.le_refl _
theorem upto_ge : p ≤ upto q T n p := upt_ge _ _
theorem upt_le : ∀ (f p : Nat), p ≤ n → upt q T n f p ≤ n
  | 0, p, h => h
  | f + 1, p, h => by
    show (if p < n ∧ q (T p) = true then upt q T n f (p + 1) else p) ≤ n
    split
    · exact upt_le f (p + 1) (by omega)
    · exact h
theorem upto_le (h : p ≤ n) : upto q T n p ≤ n := upt_le _ _ h
theorem upt_in : ∀ (f p : Nat), ∀ j, p ≤ j → j < upt q T n f p → j < n ∧ q (T j) = true
  | 0, p, j, h1, h2 => absurd (show j < p from h2) (by omega)
  | f + 1, p, j, h1, h2 => by
    have h2 : j < (if p < n ∧ q (T p) = true then upt q T n f (p + 1) else p) := h2
    split at h2
    · rename_i hp
      by_cases e : j = p
      · subst e; exact hp
      · exact upt_in f (p + 1) j (by omega) h2
    · omega
theorem upto_in : ∀ j, p ≤ j → j < upto q T n p → j < n ∧ q (T j) = true := upt_in _ _
theorem upto_end : ¬ (upto q T n p < n ∧ q (T (upto q T n p)) = true) := by
  have key : ∀ (f p : Nat), n - p ≤ f → ¬ (upt q T n f p < n ∧ q (T (upt q T n f p)) = true) := by
    intro f
    induction f with
    | zero => intro p h e; have : p < n := e.1; omega
    | succ f ih =>
      intro p h
      show ¬ ((if p < n ∧ q (T p) = true then upt q T n f (p + 1) else p) < n ∧ q (T (if p < n ∧ q (T p) = true then upt q T n f (p + 1) else p)) = true)
      split
      · exact ih (p + 1) (by omega)
      · assumption
  exact key _ _ (Nat.le_refl _)
end UPTO
/-- k letters from p on as a number -/
def wdn (T : Nat → Int) (p : Nat) : Nat → Int
  | 0 => 0
  | k + 1 => wdn T p k * 256 + T (p + k)
/-- k digits from p on as a number, cut at c -/
def nmn (c : Int) (T : Nat → Int) (p : Nat) : Nat → Int
  | 0 => 0
  | k + 1 => min (nmn c T p k * 10 + T (p + k) - 48) c
def rwi (w : Int) : List Int → Nat → Option Nat
  | [], _ => none
  | x :: l, i => if x = w then some i else rwi w l (i + 1)
def sg2 (c d : Int) : Bool := decide (d = c ∧ (c = 38 ∨ c = 124 ∨ c = 61 ∨ c = 60 ∨ c = 62) ∨ d = 61 ∧ (c = 33 ∨ c = 60 ∨ c = 62))
def sg1 (c : Int) : Bool := decide (c = 123 ∨ c = 125 ∨ c = 40 ∨ c = 41 ∨ c = 91 ∨ c = 93 ∨ c = 44 ∨ c = 59 ∨ c = 58 ∨ c = 61 ∨ c = 43 ∨ c = 45 ∨ c = 42 ∨ c = 47 ∨ c = 37 ∨ c = 38 ∨ c = 124 ∨ c = 94 ∨ c = 126 ∨ c = 33 ∨ c = 63 ∨ c = 60 ∨ c = 62)
def nxc (T : Nat → Int) (n p : Nat) : Int := if p + 1 < n then T (p + 1) else -1
/-- the kind of the token at p (no blank there): 1 name, 2 number, 3 end, 4 none, a sign by its bytes, a word as 300 and on -/
def kd (T : Nat → Int) (n p : Nat) : Int :=
  if n ≤ p then 3
  else if ltr (T p) = true then (if 8 < upto aln T n p - p then 4 else match rwi (wdn T p (upto aln T n p - p)) RWl 0 with
    | some i => 300 + (i : Int)
    | none => 1)
  else if dgt (T p) = true then (if nmn 65536 T p (upto dgt T n p - p) ≤ 65535 then 2 else 4)
  else if sg2 (T p) (nxc T n p) = true then T p * 256 + nxc T n p
  else if sg1 (T p) = true then T p else 4
/-- where it ends -/
def nx (T : Nat → Int) (n p : Nat) : Nat :=
  if n ≤ p then p
  else if ltr (T p) = true then upto aln T n p
  else if dgt (T p) = true then upto dgt T n p
  else if sg2 (T p) (nxc T n p) = true then p + 2 else p + 1
/-- the place of the token behind it -/
def nxt (T : Nat → Int) (n p : Nat) : Nat := upto blk T n (nx T n p)
/-- its value: a name's letters, a number's digits -/
def vl9 (T : Nat → Int) (n p : Nat) : Int := if ltr (T p) = true then wdn T p (upto aln T n p - p) else nmn 65536 T p (upto dgt T n p - p)
section WDN
variable {T : Nat → Int} {n p : Nat}
theorem wdn_rng : ∀ k, k ≤ 8 → (∀ j, j < k → 48 ≤ T (p + j) ∧ T (p + j) ≤ 122) → 0 ≤ wdn T p k ∧ wdn T p k < 256 ^ k
  | 0, _, _ => ⟨by show (0 : Int) ≤ 0; omega, by show (0 : Int) < 1; omega⟩
  | k + 1, hk, h => by
    have ih := wdn_rng k (by omega) (fun j hj => h j (by omega))
    have hc := h k (by omega)
    show 0 ≤ wdn T p k * 256 + T (p + k) ∧ wdn T p k * 256 + T (p + k) < 256 ^ (k + 1)
    rw [Int.pow_succ]
    omega
/-- names with the same number are the same letters -/
theorem wdn_inj {T2 : Nat → Int} {p2 : Nat} : ∀ k k2, (∀ j, j < k → 48 ≤ T (p + j) ∧ T (p + j) ≤ 122) → (∀ j, j < k2 → 48 ≤ T2 (p2 + j) ∧ T2 (p2 + j) ≤ 122) → wdn T p k = wdn T2 p2 k2 → k = k2 ∧ ∀ j, j < k → T (p + j) = T2 (p2 + j)
  | 0, 0, _, _, _ => ⟨rfl, fun j hj => absurd hj (by omega)⟩
  | 0, k2 + 1, _, h2, e => by
    exfalso
    have e : (0 : Int) = wdn T2 p2 k2 * 256 + T2 (p2 + k2) := e
    have := h2 k2 (by omega)
    have nn : ∀ m, m ≤ k2 → 0 ≤ wdn T2 p2 m := by
      intro m
      induction m with
      | zero => intro _; show (0 : Int) ≤ 0; omega
      | succ m ih =>
        intro hm
        have a1 := ih (by omega)
        have a2 := h2 m (by omega)
        show 0 ≤ wdn T2 p2 m * 256 + T2 (p2 + m)
        omega
    have := nn k2 (Nat.le_refl _)
    omega
  | k + 1, 0, h, _, e => by
    exfalso
    have e : wdn T p k * 256 + T (p + k) = (0 : Int) := e
    have := h k (by omega)
    have nn : ∀ m, m ≤ k → 0 ≤ wdn T p m := by
      intro m
      induction m with
      | zero => intro _; show (0 : Int) ≤ 0; omega
      | succ m ih =>
        intro hm
        have a1 := ih (by omega)
        have a2 := h m (by omega)
        show 0 ≤ wdn T p m * 256 + T (p + m)
        omega
    have := nn k (Nat.le_refl _)
    omega
  | k + 1, k2 + 1, h, h2, e => by
    have e : wdn T p k * 256 + T (p + k) = wdn T2 p2 k2 * 256 + T2 (p2 + k2) := e
    have a := h k (by omega)
    have b := h2 k2 (by omega)
    have e1 : T (p + k) = T2 (p2 + k2) := by omega
    have e2 : wdn T p k = wdn T2 p2 k2 := by omega
    obtain ⟨i1, i2⟩ := wdn_inj k k2 (fun j hj => h j (by omega)) (fun j hj => h2 j (by omega)) e2
    subst i1
    refine ⟨rfl, fun j hj => ?_⟩
    by_cases ej : j = k
    · subst ej; exact e1
    · exact i2 j (by omega)
/-- numbers cut at two bounds: both are small, or none -/
theorem nmn_two {c c2 : Int} (hc : 65536 ≤ c) (hc2 : 65536 ≤ c2) : ∀ k, (∀ j, j < k → 48 ≤ T (p + j) ∧ T (p + j) ≤ 57) → 0 ≤ nmn c T p k ∧ 0 ≤ nmn c2 T p k ∧ (nmn c T p k = nmn c2 T p k ∧ nmn c T p k ≤ 65535 ∨ 65535 < nmn c T p k ∧ 65535 < nmn c2 T p k)
  | 0, _ => ⟨by show (0 : Int) ≤ 0; omega, by show (0 : Int) ≤ 0; omega, .inl ⟨rfl, by show (0 : Int) ≤ 65535; omega⟩⟩
  | k + 1, h => by
    have ih := nmn_two hc hc2 k (fun j hj => h j (by omega))
    have hd := h k (by omega)
    show 0 ≤ min (nmn c T p k * 10 + T (p + k) - 48) c ∧ 0 ≤ min (nmn c2 T p k * 10 + T (p + k) - 48) c2 ∧ (min (nmn c T p k * 10 + T (p + k) - 48) c = min (nmn c2 T p k * 10 + T (p + k) - 48) c2 ∧ min (nmn c T p k * 10 + T (p + k) - 48) c ≤ 65535 ∨ 65535 < min (nmn c T p k * 10 + T (p + k) - 48) c ∧ 65535 < min (nmn c2 T p k * 10 + T (p + k) - 48) c2)
    omega
end WDN
