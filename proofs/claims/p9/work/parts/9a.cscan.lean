/-! The tokens that our own reading of them gives. -/
theorem ian255 {b : Int} (h : -128 ≤ b ∧ b ≤ 127) : ian b 255 = if b < 0 then b + 256 else b := by
  have h2 := and255 ⟨(b + 128).toNat, by omega⟩
  have e1 : (((⟨(b + 128).toNat, by omega⟩ : Fin 256) : Nat) : Int) = b + 128 := by show (((b + 128).toNat : Nat) : Int) = b + 128; omega
  rw [e1, show b + 128 - 128 = b by omega] at h2
  unfold ian
  rw [h2]
  by_cases e : b < 0
  · rw [if_pos e, if_neg (show ¬ 128 ≤ (b + 128).toNat by omega), i32_to (by omega) (by omega)]
    omega
  · rw [if_neg e, if_pos (show 128 ≤ (b + 128).toNat by omega), i32_to (by omega) (by omega)]
theorem ipl_e {a b : Int} (h : -2147483648 ≤ a + b ∧ a + b ≤ 2147483647) : ipl a b = a + b := by
  unfold ipl
  rw [i32_add, i32_to h.1 h.2]
theorem imi_e {a b : Int} (h : -2147483648 ≤ a - b ∧ a - b ≤ 2147483647) : imi a b = a - b := by
  unfold imi
  rw [i32_sub, i32_to h.1 h.2]
/-- the table holds the text T of n bytes -/
def CSc (T : Nat → Int) (n : Nat) (t : tab) : Prop := t 97 1 = (n : Int) ∧ n ≤ 2000 ∧ (∀ j, j < n → t 98 j = T j ∧ -128 ≤ T j ∧ T j ≤ 127) ∧ ∀ j, j < 15 → t 138 j = RWf j
theorem CSc_up {T : Nat → Int} {n k j : Nat} {z : Int} {t : tab} (h : CSc T n t) (hk : k ≠ 97 ∧ k ≠ 98 ∧ k ≠ 138) : CSc T n (up2 t k j z) := by
  refine ⟨(up_nk (by omega)).trans h.1, h.2.1, fun i hi => ?_, fun i hi => ?_⟩
  · rw [up_nk (by omega)]
    exact h.2.2.1 i hi
  · rw [up_nk (by omega)]
    exact h.2.2.2 i hi
section CSCAN
variable {T : Nat → Int} {n : Nat} {t : tab}
theorem atb_in (h : CSc T n t) {q : Nat} (hq : q < n) : atb t (q : Int) = if T q < 0 then T q + 256 else T q := by
  unfold atb
  have h1 := h.1
  rw [if_pos (by omega), Int.toNat_natCast, (h.2.2.1 q hq).1]
  exact ian255 (h.2.2.1 q hq).2
theorem atb_out (h : CSc T n t) {q : Nat} (hq : n ≤ q) : atb t (q : Int) = -1 := by
  unfold atb
  have h1 := h.1
  exact if_neg (by omega)
theorem atb_rng (h : CSc T n t) {q : Nat} (hq : q < n) : (atb t (q : Int) = T q ∧ 0 ≤ T q) ∨ (T q < 0 ∧ 128 ≤ atb t (q : Int)) := by
  have hr := (h.2.2.1 q hq).2
  rw [atb_in h hq]
  split <;> omega
theorem blk_iff {c : Int} : blk c = true ↔ (c = 32 ∨ c = 10) := by
  unfold blk
  rw [decide_eq_true_eq]
theorem ltr_iff {c : Int} : ltr c = true ↔ (97 ≤ c ∧ c ≤ 122) := by
  unfold ltr
  rw [decide_eq_true_eq]
theorem dgt_iff {c : Int} : dgt c = true ↔ (48 ≤ c ∧ c ≤ 57) := by
  unfold dgt
  rw [decide_eq_true_eq]
/-- blanks are passed -/
theorem cs_blank : ∀ (d q : Nat) (t : tab), n - q = d → CSc T n t → t 137 6 = (q : Int) → q ≤ n → cG 61 [] t = cG 61 [] (up2 t 137 6 ((upto blk T n q : Nat) : Int)) := by
  intro d
  induction d with
  | zero =>
    intro q t hd h h6 hq
    rw [upto_no (by omega), ← h6, up_id]
  | succ d ih =>
    intro q t hd h h6 hq
    by_cases hb : blk (T q) = true
    · rw [upto_yes (by omega) hb]
      have e := ih (q + 1) (up2 t 137 6 ((q : Int) + 1)) (by omega) (CSc_up h (by omega)) (by rw [up_self]; omega) (by omega)
      rw [up_up] at e
      rw [← e]
      conv => lhs; rw [cG_25_99999]
      unfold cM25_99999
      have h1 := h.1
      have hb2 := blk_iff.mp hb
      have ha := atb_in h (q := q) (by omega)
      rw [if_neg (by omega), h6, ha]
      rcases hb2 with hb2 | hb2
      · rw [hb2]
        rfl
      · rw [hb2]
        rfl
    · rw [upto_no (fun e => hb e.2), ← h6, up_id]
theorem lo_byte {y c : Int} (h0 : 0 ≤ y) (h1 : y < 36028797018963968) (hc : 0 ≤ c ∧ c < 256) : lo (lsl y 8) c = y * 256 + c := by
  obtain ⟨m, rfl⟩ : ∃ m : Nat, y = (m : Int) := ⟨y.toNat, by omega⟩
  obtain ⟨b, rfl⟩ : ∃ b : Nat, c = (b : Int) := ⟨c.toNat, by omega⟩
  have e1 : lsl (m : Int) 8 = ((m * 256 : Nat) : Int) := by
    unfold lsl
    rw [l_shl8, i64_to (by omega) (by omega)]
  unfold lo
  rw [e1, l_or]
  have h7 : m * 256 ||| b = m * 256 + b := by
    have := Nat.shiftLeft_add_eq_or_of_lt (show b < 2 ^ 8 by omega) m
    rw [Nat.shiftLeft_eq] at this
    exact this.symm
  rw [h7, i64_to (by omega) (by omega)]
  omega
theorem wdn_top {T : Nat → Int} {p : Nat} : ∀ k, (∀ j, j < k + 1 → 48 ≤ T (p + j) ∧ T (p + j) ≤ 122) → wdn T p (k + 1) < 128 * 256 ^ k
  | 0, h => by
    have := h 0 (by omega)
    show (0 : Int) * 256 + T (p + 0) < 128 * 256 ^ 0
    rw [Int.pow_zero]
    omega
  | k + 1, h => by
    have ih := wdn_top k (fun j hj => h j (by omega))
    have hc := h (k + 1) (by omega)
    show wdn T p (k + 1) * 256 + T (p + (k + 1)) < 128 * 256 ^ (k + 1)
    rw [Int.pow_succ]
    omega
theorem wdn_small {T : Nat → Int} {p k : Nat} (hk : k ≤ 7) (h : ∀ j, j < k → 48 ≤ T (p + j) ∧ T (p + j) ≤ 122) : 0 ≤ wdn T p k ∧ wdn T p k < 36028797018963968 := by
  refine ⟨(wdn_rng k (by omega) h).1, ?_⟩
  cases k with
  | zero => show (0 : Int) < 36028797018963968; omega
  | succ k =>
    have h1 := wdn_top k h
    have h2 : (256 : Int) ^ k ≤ 281474976710656 := by rcases (show k = 0 ∨ k = 1 ∨ k = 2 ∨ k = 3 ∨ k = 4 ∨ k = 5 ∨ k = 6 by omega) with h7 | h7 | h7 | h7 | h7 | h7 | h7 <;> rw [h7] <;> decide
    omega
/-- a word against the reserved ones -/
theorem cs_words {w : Int} (h : CSc T n t) : ∀ (d i : Nat), 15 - i = d → i ≤ 15 → cG 59 [w, (i : Int)] t = some (some ((match rwi w (RWl.drop i) i with
    | some k => 300 + (k : Int)
    | none => 1), t)) := by
  intro d
  induction d with
  | zero =>
    intro i hd hi
    rw [cG_28_95]
    unfold cM28_95
    rw [if_pos (by omega), show i = 15 by omega]
    rfl
  | succ d ih =>
    intro i hd hi
    rw [cG_28_95]
    unfold cM28_95
    rw [if_neg (by omega), Int.toNat_natCast, h.2.2.2 i (by omega)]
    by_cases e : RWf i = w
    · rw [if_neg (fun q => q e), rwi_hit (by omega) e, ipl_e (by omega)]
    · rw [if_pos e, show (i : Int) + 1 = ((i + 1 : Nat) : Int) from rfl, ih (i + 1) (by omega) (by omega), rwi_miss (by omega) e]
/-- a name's letters -/
theorem cs_name {p : Nat} : ∀ (d q : Nat) (y : Int) (t : tab), n - q = d → CSc T n t → t 137 6 = (q : Int) → p ≤ q → q ≤ n → upto aln T n q = upto aln T n p → (∀ j, p ≤ j → j < q → aln (T j) = true) → (q - p ≤ 8 → y = wdn T p (q - p)) → ∃ w, cG 58 [(p : Int), y] t = some (some (nmk T n p, up2 (up2 t 137 6 ((upto aln T n p : Nat) : Int)) 141 (t 137 5).toNat w)) ∧ (upto aln T n p - p ≤ 8 → w = wdn T p (upto aln T n p - p)) := by
  have fin : ∀ (q : Nat) (y : Int) (t : tab), CSc T n t → t 137 6 = (q : Int) → p ≤ q → q ≤ n → q = upto aln T n p → (q - p ≤ 8 → y = wdn T p (q - p)) → ∃ w, (if imi (t 137 6) (p : Int) ≤ 8 then cG 59 [y, 0] (up2 t 141 (t 137 5).toNat y) else some (some (4, up2 t 141 (t 137 5).toNat y))) = some (some (nmk T n p, up2 (up2 t 137 6 ((upto aln T n p : Nat) : Int)) 141 (t 137 5).toNat w)) ∧ (upto aln T n p - p ≤ 8 → w = wdn T p (upto aln T n p - p)) := by
    intro q y t h h6 hpq hqn hq hy
    have h2 := h.2.1
    have e1 : imi (t 137 6) (p : Int) = ((q - p : Nat) : Int) := by
      unfold imi
      rw [h6, i32_sub, i32_to (by omega) (by omega)]
      omega
    have e2 : up2 t 137 6 ((upto aln T n p : Nat) : Int) = t := by rw [← hq, ← h6, up_id]
    refine ⟨y, ?_, by rw [← hq]; exact hy⟩
    rw [e1, e2]
    by_cases h8 : q - p ≤ 8
    · rw [if_pos (by omega)]
      have := cs_words (w := y) (CSc_up h (k := 141) (j := (t 137 5).toNat) (z := y) (by omega)) 15 0 rfl (by omega)
      rw [show ((0 : Nat) : Int) = 0 from rfl] at this
      rw [this]
      unfold nmk
      rw [if_neg (by omega), ← hq, ← hy h8]
      rfl
    · rw [if_neg (by omega)]
      unfold nmk
      rw [if_pos (by omega)]
  intro d
  induction d with
  | zero =>
    intro q y t hd h h6 hpq hqn hup hall hy
    rw [cG_28_7]
    unfold cM28_7
    have h1 := h.1
    rw [if_pos (by omega)]
    exact fin q y t h h6 hpq hqn ((upto_no (by omega)).symm.trans hup) hy
  | succ d ih =>
    intro q y t hd h h6 hpq hqn hup hall hy
    rw [cG_28_7]
    unfold cM28_7
    have h1 := h.1
    have h2 := h.2.1
    have ha := atb_in h (q := q) (by omega)
    have hr := (h.2.2.1 q (by omega)).2
    rw [if_neg (by omega), h6]
    by_cases hb : aln (T q) = true
    · have hb2 := aln_iff.mp hb
      rw [if_neg (by omega)] at ha
      rw [ha, if_neg (by unfold alz; rw [if_pos hb2]; omega), ipl_e (by omega), show (q : Int) + 1 = ((q + 1 : Nat) : Int) from rfl]
      obtain ⟨w, e1, e2⟩ := ih (q + 1) (lo (lsl y 8) (T q)) (up2 t 137 6 ((q + 1 : Nat) : Int)) (by omega) (CSc_up h (by omega)) up_self (by omega) (by omega) ((upto_yes (by omega) hb).symm.trans hup) (fun j j1 j2 => by
        by_cases e : j = q
        · subst e; exact hb
        · exact hall j j1 (by omega)) (fun h8 => by
        have hl : ∀ j, j < q - p → 48 ≤ T (p + j) ∧ T (p + j) ≤ 122 := fun j hj => by have := aln_iff.mp (hall (p + j) (by omega) (by omega)); omega
        have hs := wdn_small (T := T) (p := p) (k := q - p) (by omega) hl
        rw [hy (by omega), lo_byte hs.1 hs.2 (by omega), show q + 1 - p = (q - p) + 1 by omega]
        show _ = wdn T p (q - p) * 256 + T (p + (q - p))
        rw [show p + (q - p) = q by omega])
      rw [show (up2 t 137 6 ((q + 1 : Nat) : Int)) 137 5 = t 137 5 from rfl, up_up] at e1
      exact ⟨w, e1, e2⟩
    · have hb2 : ¬ (97 ≤ T q ∧ T q ≤ 122 ∨ 48 ≤ T q ∧ T q ≤ 57) := fun e => hb (aln_iff.mpr e)
      have hz : alz (atb t (q : Int)) = 0 := by
        have := atb_rng h (q := q) (by omega)
        unfold alz
        exact if_neg (by omega)
      rw [if_pos hz, ← h6]
      exact fin q y t h h6 hpq hqn ((upto_no (fun e => hb e.2)).symm.trans hup) hy
theorem mn_num {y c : Int} (h0 : 0 ≤ y ∧ y ≤ 65536) (hc : 0 ≤ c ∧ c ≤ 255) : mnx (lmi (lpl (lmu y 10) c) 48) 65536 = min (y * 10 + c - 48) 65536 := by
  have e : lmi (lpl (lmu y 10) c) 48 = y * 10 + c - 48 := by
    unfold lmi lpl lmu
    rw [Int64.ofInt_toInt, Int64.ofInt_toInt, ← Int64.ofInt_mul, ← Int64.ofInt_add, ← Int64.ofInt_sub, i64_to (by omega) (by omega)]
  rw [e]
  unfold mnx
  omega
/-- a number's digits -/
theorem cs_num {p : Nat} : ∀ (d q : Nat) (t : tab), n - q = d → CSc T n t → t 137 6 = (q : Int) → p ≤ q → q ≤ n → upto dgt T n q = upto dgt T n p → (∀ j, p ≤ j → j < q → dgt (T j) = true) → cG 60 [nmn 65536 T p (q - p)] t = some (some (if nmn 65536 T p (upto dgt T n p - p) ≤ 65535 then 2 else 4, up2 (up2 t 137 6 ((upto dgt T n p : Nat) : Int)) 141 (t 137 5).toNat (nmn 65536 T p (upto dgt T n p - p)))) := by
  have rng : ∀ q, p ≤ q → (∀ j, p ≤ j → j < q → dgt (T j) = true) → 0 ≤ nmn 65536 T p (q - p) ∧ nmn 65536 T p (q - p) ≤ 65536 := by
    intro q hpq hall
    have hd : ∀ j, j < q - p → 48 ≤ T (p + j) ∧ T (p + j) ≤ 57 := fun j hj => dgt_iff.mp (hall (p + j) (by omega) (by omega))
    have := nmn_two (T := T) (p := p) (c := 65536) (c2 := 65536) (by omega) (by omega) (q - p) hd
    refine ⟨this.1, ?_⟩
    cases q - p with
    | zero => show (0 : Int) ≤ 65536; omega
    | succ k => show min _ (65536 : Int) ≤ 65536; omega
  have fin : ∀ (q : Nat) (t : tab), t 137 6 = (q : Int) → q = upto dgt T n p → (if nmn 65536 T p (q - p) ≤ 65535 then some (some (2, up2 t 141 (t 137 5).toNat (nmn 65536 T p (q - p)))) else some (some (4, up2 t 141 (t 137 5).toNat (nmn 65536 T p (q - p))))) = (some (some (if nmn 65536 T p (upto dgt T n p - p) ≤ 65535 then 2 else 4, up2 (up2 t 137 6 ((upto dgt T n p : Nat) : Int)) 141 (t 137 5).toNat (nmn 65536 T p (upto dgt T n p - p)))) : RO) := by
    intro q t h6 hq
    have e2 : up2 t 137 6 ((upto dgt T n p : Nat) : Int) = t := by rw [← hq, ← h6, up_id]
    rw [e2, ← hq]
    split <;> rfl
  intro d
  induction d with
  | zero =>
    intro q t hd h h6 hpq hqn hup hall
    rw [cG_31_2]
    unfold cM31_2
    have h1 := h.1
    rw [if_pos (by omega)]
    exact fin q t h6 ((upto_no (by omega)).symm.trans hup)
  | succ d ih =>
    intro q t hd h h6 hpq hqn hup hall
    rw [cG_31_2]
    unfold cM31_2
    have h1 := h.1
    have ha := atb_in h (q := q) (by omega)
    have hr := (h.2.2.1 q (by omega)).2
    have hg := rng q hpq hall
    rw [if_neg (by omega)]
    by_cases hb : dgt (T q) = true
    · have hb2 := dgt_iff.mp hb
      rw [if_neg (by omega)] at ha
      rw [h6, ha, if_neg (by unfold dgz; rw [if_pos hb2]; omega), show (q : Int) + 1 = ((q + 1 : Nat) : Int) from rfl, mn_num hg (by omega)]
      have e := ih (q + 1) (up2 t 137 6 ((q + 1 : Nat) : Int)) (by omega) (CSc_up h (by omega)) up_self (by omega) (by omega) ((upto_yes (by omega) hb).symm.trans hup) (fun j j1 j2 => by
        by_cases e : j = q
        · subst e; exact hb
        · exact hall j j1 (by omega))
      rw [show q + 1 - p = (q - p) + 1 by omega, show (up2 t 137 6 ((q + 1 : Nat) : Int)) 137 5 = t 137 5 from rfl, up_up] at e
      rw [← e]
      show _ = cG 60 [min (nmn 65536 T p (q - p) * 10 + T (p + (q - p)) - 48) 65536] _
      rw [show p + (q - p) = q by omega]
    · have hb2 : ¬ (48 ≤ T q ∧ T q ≤ 57) := fun e => hb (dgt_iff.mpr e)
      have hz : dgz (atb t (q : Int)) = 0 := by
        have := atb_rng h (q := q) (by omega)
        unfold dgz
        exact if_neg (by omega)
      rw [h6, if_pos hz]
      exact fin q t h6 ((upto_no (fun e => hb e.2)).symm.trans hup)
theorem sgz1 {c : Int} (h : sg1 c = true) : sgz c = 1 := if_pos h
theorem sgz0 {c : Int} (h : ¬ sg1 c = true) : sgz c = 0 := if_neg h
theorem sv_38_38 : ior (isl 38 8) 38 = 38 * 256 + 38 := by decide
theorem sv_124_124 : ior (isl 124 8) 124 = 124 * 256 + 124 := by decide
theorem sv_61_61 : ior (isl 61 8) 61 = 61 * 256 + 61 := by decide
theorem sv_60_60 : ior (isl 60 8) 60 = 60 * 256 + 60 := by decide
theorem sv_62_62 : ior (isl 62 8) 62 = 62 * 256 + 62 := by decide
theorem sv_33_61 : ior (isl 33 8) 61 = 33 * 256 + 61 := by decide
theorem sv_60_61 : ior (isl 60 8) 61 = 60 * 256 + 61 := by decide
theorem sv_62_61 : ior (isl 62 8) 61 = 62 * 256 + 61 := by decide
/-- a sign -/
theorem cs_sign (h : CSc T n t) {p : Nat} (h6 : t 137 6 = (p : Int)) (hp : p < n) : cG 11 [if T p < 0 then T p + 256 else T p] t = some (some (if sg2 (T p) (nxc T n p) = true then T p * 256 + nxc T n p else if sg1 (T p) = true then T p else 4, up2 t 137 6 ((if sg2 (T p) (nxc T n p) = true then p + 2 else p + 1 : Nat) : Int))) := by
  have h2 := h.2.1
  have hr := (h.2.2.1 p hp).2
  obtain ⟨x, hx⟩ : ∃ x : Int, x = if T p < 0 then T p + 256 else T p := ⟨_, rfl⟩
  rw [← hx]
  have hx : (x = T p ∧ 0 ≤ T p) ∨ (T p < 0 ∧ 128 ≤ x) := by
    rw [hx]
    split <;> omega
  obtain ⟨d, hd⟩ : ∃ d : Int, d = atb t ((p : Int) + 1) := ⟨_, rfl⟩
  obtain ⟨e, he⟩ : ∃ e : Int, e = nxc T n p := ⟨_, rfl⟩
  have hde : (e = d ∧ -1 ≤ e ∧ e ≤ 127) ∨ (e < 0 ∧ 128 ≤ d) := by
    unfold nxc at he
    by_cases hq : p + 1 < n
    · have hr2 := (h.2.2.1 (p + 1) hq).2
      have ha := atb_in h hq
      rw [show (((p + 1 : Nat)) : Int) = (p : Int) + 1 from rfl] at ha
      rw [if_pos hq] at he
      rw [hd, he, ha]
      split <;> omega
    · have ha := atb_out h (show n ≤ p + 1 by omega)
      rw [show (((p + 1 : Nat)) : Int) = (p : Int) + 1 from rfl] at ha
      rw [if_neg hq] at he
      omega
  rw [← he, cG_32]
  unfold cM32
  have e1 : ipl (t 137 6) 1 = ((p + 1 : Nat) : Int) := by rw [h6, ipl_e (by omega)]; omega
  have e2 : ipl (t 137 6) 2 = ((p + 2 : Nat) : Int) := by rw [h6, ipl_e (by omega)]; omega
  rw [e1, e2, show (((p + 1 : Nat)) : Int) = (p : Int) + 1 from rfl, ← hd]
  by_cases hs : sg2 (T p) e = true
  · rw [if_pos hs, if_pos hs]
    unfold sg2 at hs
    rw [decide_eq_true_eq] at hs
    rcases hs with ⟨b1, b2 | b2 | b2 | b2 | b2⟩ | ⟨b1, b2 | b2 | b2⟩
    · have a1 : x = 38 := by omega
      have a2 : d = 38 := by omega
      have a4 : e = 38 := by omega
      rw [a1, a2, b2, a4, if_neg (by decide), if_pos (by decide), sv_38_38]
    · have a1 : x = 124 := by omega
      have a2 : d = 124 := by omega
      have a4 : e = 124 := by omega
      rw [a1, a2, b2, a4, if_neg (by decide), if_neg (by decide), if_pos (by decide), sv_124_124]
    · have a1 : x = 61 := by omega
      have a2 : d = 61 := by omega
      have a4 : e = 61 := by omega
      rw [a1, a2, b2, a4, if_neg (by decide), if_neg (by decide), if_neg (by decide), if_pos (by decide), sv_61_61]
    · have a1 : x = 60 := by omega
      have a2 : d = 60 := by omega
      have a4 : e = 60 := by omega
      rw [a1, a2, b2, a4, if_neg (by decide), if_neg (by decide), if_neg (by decide), if_neg (by decide), if_pos (by decide), sv_60_60]
    · have a1 : x = 62 := by omega
      have a2 : d = 62 := by omega
      have a4 : e = 62 := by omega
      rw [a1, a2, b2, a4, if_neg (by decide), if_neg (by decide), if_neg (by decide), if_neg (by decide), if_neg (by decide), if_neg (by decide), sv_62_62]
    · have a1 : x = 33 := by omega
      have a2 : d = 61 := by omega
      have a4 : e = 61 := by omega
      rw [a1, a2, b2, a4, if_pos (by decide), if_neg (by decide), if_pos (by decide), sv_33_61]
    · have a1 : x = 60 := by omega
      have a2 : d = 61 := by omega
      have a4 : e = 61 := by omega
      rw [a1, a2, b2, a4, if_pos (by decide), if_neg (by decide), if_neg (by decide), if_pos (by decide), sv_60_61]
    · have a1 : x = 62 := by omega
      have a2 : d = 61 := by omega
      have a4 : e = 61 := by omega
      rw [a1, a2, b2, a4, if_pos (by decide), if_neg (by decide), if_neg (by decide), if_neg (by decide), if_neg (by decide), sv_62_61]
  · rw [if_neg hs, if_neg hs]
    unfold sg2 at hs
    rw [decide_eq_true_eq] at hs
    have hq : ∀ (k : Int) (hk : k = if sg1 (T p) = true then T p else 4), (if sgz x = 0 then (some (some (4, up2 t 137 6 ((p : Int) + 1))) : RO) else some (some (x, up2 t 137 6 ((p : Int) + 1)))) = some (some (k, up2 t 137 6 ((p + 1 : Nat) : Int))) := by
      intro k hk
      rcases hx with ⟨q1, q2⟩ | ⟨q1, q2⟩
      · rw [hk, q1]
        by_cases hs1 : sg1 (T p) = true
        · rw [sgz1 hs1, if_pos hs1, if_neg (by decide)]
          rfl
        · rw [sgz0 hs1, if_neg hs1, if_pos rfl]
          rfl
      · have n1 : ¬ sg1 (T p) = true := by unfold sg1; rw [decide_eq_true_eq]; omega
        have n2 : ¬ sg1 x = true := by unfold sg1; rw [decide_eq_true_eq]; omega
        rw [hk, sgz0 n2, if_neg n1, if_pos rfl]
        rfl
    have hq := hq _ rfl
    by_cases c1 : d ≠ x
    · rw [if_pos c1]
      by_cases c2 : d ≠ 61
      · rw [if_pos c2]
        exact hq
      · rw [if_neg c2, if_neg (by omega), if_neg (by omega), if_pos (by omega)]
        exact hq
    · rw [if_neg c1, if_neg (by omega), if_neg (by omega), if_neg (by omega), if_neg (by omega), if_pos (by omega), if_pos (by omega)]
      exact hq
/-- what reading the token from q on leaves: at p, index i -/
def TKp (T : Nat → Int) (n p i : Nat) (t t2 : tab) : Prop := t2 137 6 = ((nx T n p : Nat) : Int) ∧ t2 140 i = (p : Int) ∧ (kd T n p = 1 ∨ kd T n p = 2 → t2 141 i = vl9 T n p) ∧ ∀ k j, ¬ (k = 137 ∧ j = 6) → ¬ (k = 140 ∧ j = i) → ¬ (k = 141 ∧ j = i) → t2 k j = t k j
theorem rwi_le {w : Int} : ∀ (l : List Int) (i k : Nat), rwi w l i = some k → i ≤ k
  | [], i, k, h => by cases h
  | x :: l, i, k, h => by
    have h : (if x = w then some i else rwi w l (i + 1)) = some k := h
    split at h
    · cases h; exact Nat.le_refl _
    · have := rwi_le l (i + 1) k h; omega
theorem nmk_kd {p : Nat} (hp : p < n) (hl : ltr (T p) = true) : kd T n p = nmk T n p := by
  unfold kd nmk
  rw [if_neg (by omega), if_pos hl]
  rfl
theorem cs_token (h : CSc T n t) {q i : Nat} (h6 : t 137 6 = (q : Int)) (hq : q ≤ n) (h5 : t 137 5 = (i : Int)) : ∃ t2, cG 12 [] t = some (some (kd T n (upto blk T n q), t2)) ∧ TKp T n (upto blk T n q) i t t2 := by
  rw [cG_25]
  unfold cM25
  rw [cs_blank _ q t rfl h h6 hq]
  obtain ⟨p, hp⟩ : ∃ p, p = upto blk T n q := ⟨_, rfl⟩
  rw [← hp]
  have hpn : p ≤ n := by rw [hp]; exact upto_le hq
  have hb : ¬ (p < n ∧ blk (T p) = true) := by rw [hp]; exact upto_end
  have h' : CSc T n (up2 t 137 6 (p : Int)) := CSc_up h (by omega)
  obtain ⟨t1, ht1⟩ : ∃ t1, t1 = up2 t 137 6 (p : Int) := ⟨_, rfl⟩
  rw [← ht1] at h' ⊢
  have f6 : t1 137 6 = (p : Int) := by rw [ht1, up_self]
  have f5 : t1 137 5 = (i : Int) := by rw [ht1]; exact h5
  have f97 := h'.1
  have hfr : ∀ k j, ¬ (k = 137 ∧ j = 6) → t1 k j = t k j := fun k j e => by rw [ht1]; exact if_neg e
  have h'' : CSc T n (up2 t1 140 i (p : Int)) := CSc_up h' (by omega)
  obtain ⟨t3, ht3⟩ : ∃ t3, t3 = up2 t1 140 i (p : Int) := ⟨_, rfl⟩
  rw [← ht3] at h''
  have g6 : t3 137 6 = (p : Int) := by rw [ht3]; exact f6
  have g5 : t3 137 5 = (i : Int) := by rw [ht3]; exact f5
  have g140 : t3 140 i = (p : Int) := by rw [ht3, up_self]
  have gfr : ∀ k j, ¬ (k = 137 ∧ j = 6) → ¬ (k = 140 ∧ j = i) → t3 k j = t k j := fun k j e1 e2 => by rw [ht3]; exact (if_neg e2).trans (hfr k j e1)
  have e3 : up2 t1 140 ((t1 137 5).toNat) (t1 137 6) = t3 := by rw [f5, f6, Int.toNat_natCast, ht3]
  have key : ∃ t2, (if 0 ≤ atb t3 (p : Int) then (if ltz (atb t3 (p : Int)) = 0 then (if dgz (atb t3 (p : Int)) = 0 then bo (cG 11 [atb t3 (p : Int)] t3) (fun z16 t16 => some (some (z16, t16))) else bo (cG 10 [] t3) (fun z16 t16 => some (some (z16, t16)))) else bo (cG 9 [] t3) (fun z16 t16 => some (some (z16, t16)))) else some (some (3, t3))) = some (some (kd T n p, t2)) ∧ TKp T n p i t t2 := by
    by_cases hpe : p < n
    · have ha := atb_in h'' hpe
      have hr := (h''.2.2.1 p hpe).2
      rw [if_pos (by rw [ha]; split <;> omega)]
      by_cases hl : ltr (T p) = true
      · have hl2 := ltr_iff.mp hl
        rw [if_neg (show ¬ T p < 0 by omega)] at ha
        rw [ha, if_neg (by unfold ltz; rw [if_pos hl2]; decide)]
        obtain ⟨w, w1, w2⟩ := cs_name (T := T) (n := n) (p := p) (n - p) p 0 t3 rfl h'' g6 (Nat.le_refl _) hpn rfl (fun j j1 j2 => absurd j2 (by omega)) (fun _ => by rw [Nat.sub_self]; rfl)
        have w1 : cG 9 [] t3 = some (some (nmk T n p, up2 (up2 t3 137 6 ((upto aln T n p : Nat) : Int)) 141 (t3 137 5).toNat w)) := by rw [cG_28]; unfold cM28; rw [g6]; exact w1
        rw [w1, bo_s, nmk_kd hpe hl, g5, Int.toNat_natCast]
        refine ⟨_, rfl, ?_, ?_, fun hk => ?_, fun k j a1 a2 a3 => ?_⟩
        · have : nx T n p = upto aln T n p := by unfold nx; rw [if_neg (by omega), if_pos hl]
          rw [this]
          exact (if_neg (by omega)).trans up_self
        · exact g140
        · rw [up_self]
          unfold vl9
          rw [if_pos hl]
          refine w2 ?_
          rw [nmk_kd hpe hl] at hk
          unfold nmk at hk
          split at hk
          · omega
          · omega
        · exact (if_neg a3).trans ((if_neg a1).trans (gfr k j a1 a2))
      · have hz : ltz (atb t3 (p : Int)) = 0 := by
          have := atb_rng h'' hpe
          have hl2 : ¬ (97 ≤ T p ∧ T p ≤ 122) := fun e => hl (ltr_iff.mpr e)
          unfold ltz
          exact if_neg (by omega)
        rw [if_pos hz]
        by_cases hd : dgt (T p) = true
        · have hd2 := dgt_iff.mp hd
          rw [if_neg (show ¬ T p < 0 by omega)] at ha
          rw [ha, if_neg (by unfold dgz; rw [if_pos hd2]; decide)]
          have w1 := cs_num (T := T) (n := n) (p := p) (n - p) p t3 rfl h'' g6 (Nat.le_refl _) hpn rfl (fun j j1 j2 => absurd j2 (by omega))
          rw [Nat.sub_self] at w1
          have w1 : cG 10 [] t3 = some (some (if nmn 65536 T p (upto dgt T n p - p) ≤ 65535 then 2 else 4, up2 (up2 t3 137 6 ((upto dgt T n p : Nat) : Int)) 141 (t3 137 5).toNat (nmn 65536 T p (upto dgt T n p - p)))) := by rw [cG_31]; unfold cM31; exact w1
          rw [w1, bo_s, g5, Int.toNat_natCast]
          have hk0 : kd T n p = if nmn 65536 T p (upto dgt T n p - p) ≤ 65535 then 2 else 4 := by unfold kd; rw [if_neg (by omega), if_neg hl, if_pos hd]
          refine ⟨_, by rw [hk0], ?_, ?_, fun hk => ?_, fun k j a1 a2 a3 => ?_⟩
          · have : nx T n p = upto dgt T n p := by unfold nx; rw [if_neg (by omega), if_neg hl, if_pos hd]
            rw [this]
            exact (if_neg (by omega)).trans up_self
          · exact g140
          · rw [up_self]
            unfold vl9
            rw [if_neg hl]
          · exact (if_neg a3).trans ((if_neg a1).trans (gfr k j a1 a2))
        · have hz2 : dgz (atb t3 (p : Int)) = 0 := by
            have := atb_rng h'' hpe
            have hd2 : ¬ (48 ≤ T p ∧ T p ≤ 57) := fun e => hd (dgt_iff.mpr e)
            unfold dgz
            exact if_neg (by omega)
          rw [if_pos hz2, ha, cs_sign h'' g6 hpe, bo_s]
          have hk0 : kd T n p = if sg2 (T p) (nxc T n p) = true then T p * 256 + nxc T n p else if sg1 (T p) = true then T p else 4 := by unfold kd; rw [if_neg (by omega), if_neg hl, if_neg hd]
          refine ⟨_, by rw [hk0], ?_, ?_, fun hk => ?_, fun k j a1 a2 a3 => ?_⟩
          · have : nx T n p = if sg2 (T p) (nxc T n p) = true then p + 2 else p + 1 := by unfold nx; rw [if_neg (by omega), if_neg hl, if_neg hd]
            rw [this]
            exact up_self
          · exact g140
          · exfalso
            rw [hk0] at hk
            have hq : sg2 (T p) (nxc T n p) = true → 33 ≤ T p ∧ 38 ≤ nxc T n p := fun e => by unfold sg2 at e; rw [decide_eq_true_eq] at e; omega
            have hq1 : sg1 (T p) = true → 33 ≤ T p := fun e => by unfold sg1 at e; rw [decide_eq_true_eq] at e; omega
            split at hk
            · rename_i e; have := hq e; omega
            · split at hk
              · rename_i e; have := hq1 e; omega
              · omega
          · exact (if_neg a1).trans (gfr k j a1 a2)
    · have hp2 : p = n := by omega
      rw [atb_out h'' (show n ≤ p by omega), if_neg (by decide)]
      have hk0 : kd T n p = 3 := by unfold kd; exact if_pos (by omega)
      refine ⟨_, by rw [hk0], ?_, g140, fun hk => ?_, fun k j a1 a2 a3 => gfr k j a1 a2⟩
      · have : nx T n p = p := by unfold nx; exact if_pos (by omega)
        rw [this]
        exact g6
      · rw [hk0] at hk
        omega
  rw [cG_25_99999]
  unfold cM25_99999
  rw [e3, f6]
  by_cases hpe : p < n
  · have ha := atb_in h' hpe
    have hb2 : ¬ (T p = 32 ∨ T p = 10) := fun e => hb ⟨hpe, blk_iff.mpr e⟩
    have hr := (h'.2.2.1 p hpe).2
    have n1 : ¬ atb t1 (p : Int) = 32 := by rw [ha]; split <;> omega
    have n2 : atb t1 (p : Int) ≠ 10 := by rw [ha]; split <;> omega
    rw [if_neg (by omega), if_neg n1, if_pos n2]
    exact key
  · rw [if_pos (by omega)]
    exact key
/-- the places of the tokens -/
def pls (T : Nat → Int) (n : Nat) : Nat → Nat
  | 0 => upto blk T n 0
  | i + 1 => nxt T n (pls T n i)
theorem nx_gt {p : Nat} (hp : p < n) : p < nx T n p := by
  unfold nx
  rw [if_neg (by omega)]
  split
  · rename_i hl
    rw [upto_yes hp (aln_iff.mpr (.inl (ltr_iff.mp hl)))]
    have := upto_ge (q := aln) (T := T) (n := n) (p := p + 1)
    omega
  · split
    · rename_i hd
      rw [upto_yes hp hd]
      have := upto_ge (q := dgt) (T := T) (n := n) (p := p + 1)
      omega
    · split <;> omega
theorem nx_le {p : Nat} (hp : p ≤ n) : nx T n p ≤ n := by
  unfold nx
  split
  · exact hp
  · split
    · exact upto_le hp
    · split
      · exact upto_le hp
      · split
        · rename_i hs
          have hs : sg2 (T p) (nxc T n p) = true := hs
          unfold sg2 at hs
          rw [decide_eq_true_eq] at hs
          unfold nxc at hs
          split at hs
          · omega
          · omega
        · omega
theorem pls_le : ∀ i, pls T n i ≤ n
  | 0 => upto_le (Nat.zero_le _)
  | i + 1 => upto_le (nx_le (pls_le i))
theorem kd_end {p : Nat} : kd T n p = 3 ↔ n ≤ p := by
  constructor
  · intro h
    by_cases hp : n ≤ p
    · exact hp
    · exfalso
      unfold kd at h
      rw [if_neg hp] at h
      split at h
      · split at h
        · omega
        · split at h <;> omega
      · split at h
        · split at h <;> omega
        · split at h
          · rename_i hs
            unfold sg2 at hs
            rw [decide_eq_true_eq] at hs
            omega
          · split at h
            · rename_i hs
              unfold sg1 at hs
              rw [decide_eq_true_eq] at hs
              omega
            · omega
  · intro h
    unfold kd
    exact if_pos h
theorem pls_ge : ∀ i, (∀ j, j < i → kd T n (pls T n j) ≠ 3) → i ≤ pls T n i
  | 0, _ => Nat.zero_le _
  | i + 1, h => by
    have ih := pls_ge i (fun j hj => h j (by omega))
    have hk := h i (by omega)
    have hp : pls T n i < n := by
      have := pls_le (T := T) (n := n) i
      by_cases e : n ≤ pls T n i
      · exact absurd (kd_end.mpr e) hk
      · omega
    have h1 := nx_gt (T := T) hp
    have h2 := upto_ge (q := blk) (T := T) (n := n) (p := nx T n (pls T n i))
    show i + 1 ≤ upto blk T n (nx T n (pls T n i))
    omega
/-- the arrays hold the tokens up to the one of index e, the first that is no token or the end -/
def TKS (T : Nat → Int) (n e : Nat) (t : tab) : Prop := e ≤ n ∧ n ≤ 2000 ∧ (kd T n (pls T n e) = 3 ∨ kd T n (pls T n e) = 4) ∧ (∀ j, j < e → kd T n (pls T n j) ≠ 3 ∧ kd T n (pls T n j) ≠ 4) ∧ ∀ j, j ≤ e → t 139 j = kd T n (pls T n j) ∧ t 140 j = ((pls T n j : Nat) : Int) ∧ (kd T n (pls T n j) = 1 ∨ kd T n (pls T n j) = 2 → t 141 j = vl9 T n (pls T n j))
theorem cs_scan1 : ∀ (d i q : Nat) (last : Int) (t : tab), n - i = d → CSc T n t → t 137 5 = (i : Int) → t 137 6 = (q : Int) → q ≤ n → upto blk T n q = pls T n i → (∀ j, j < i → kd T n (pls T n j) ≠ 3 ∧ kd T n (pls T n j) ≠ 4) → last ≠ 3 → last ≠ 4 → (∀ j, j < i → t 139 j = kd T n (pls T n j) ∧ t 140 j = ((pls T n j : Nat) : Int) ∧ (kd T n (pls T n j) = 1 ∨ kd T n (pls T n j) = 2 → t 141 j = vl9 T n (pls T n j))) → ∃ t2 e, cG 62 [last] t = some (some (0, t2)) ∧ TKS T n e t2 ∧ t2 137 5 = 0 ∧ (∀ k j, k ≠ 137 → k ≠ 139 → k ≠ 140 → k ≠ 141 → t2 k j = t k j) ∧ ((∀ j, 0 ≤ t 140 j) → ∀ j, 0 ≤ t2 140 j) := by
  intro d
  induction d using Nat.strongRecOn with | ind d ih => ?_
  intro i q last t hd h h5 h6 hq hup hno hl3 hl4 har
  have hin := pls_ge (T := T) (n := n) i (fun j hj => (hno j hj).1)
  have hle := pls_le (T := T) (n := n) i
  have h2 := h.2.1
  rw [cG_24_12]
  unfold cM24_12
  rw [if_neg (by omega), if_neg hl3, if_neg hl4]
  obtain ⟨t2, e1, e2, e3, e4, e5⟩ := cs_token h h6 hq h5
  rw [e1, bo_s, hup]
  rw [hup] at e2 e3 e4
  have f5 : t2 137 5 = (i : Int) := (e5 137 5 (by omega) (by omega) (by omega)).trans h5
  rw [f5, Int.toNat_natCast]
  obtain ⟨t4, ht4⟩ : ∃ t4, t4 = up2 (up2 t2 139 i (kd T n (pls T n i))) 137 5 ((i : Int) + 1) := ⟨_, rfl⟩
  rw [← ht4]
  have k5 : t4 137 5 = ((i + 1 : Nat) : Int) := by rw [ht4, up_self]; rfl
  have k6 : t4 137 6 = ((nx T n (pls T n i) : Nat) : Int) := by rw [ht4]; exact e2
  have kfr : ∀ k j, k ≠ 137 → k ≠ 139 → k ≠ 140 → k ≠ 141 → t4 k j = t k j := fun k j a1 a2 a3 a4 => by
    rw [ht4]
    exact (if_neg (by omega)).trans ((if_neg (by omega)).trans (e5 k j (by omega) (by omega) (by omega)))
  have kar : ∀ j, j < i + 1 → t4 139 j = kd T n (pls T n j) ∧ t4 140 j = ((pls T n j : Nat) : Int) ∧ (kd T n (pls T n j) = 1 ∨ kd T n (pls T n j) = 2 → t4 141 j = vl9 T n (pls T n j)) := fun j hj => by
    rw [ht4]
    by_cases ej : j = i
    · subst ej
      refine ⟨(if_neg (by omega)).trans (if_pos ⟨rfl, rfl⟩), (if_neg (by omega)).trans ((if_neg (by omega)).trans e3), fun hk => (if_neg (by omega)).trans ((if_neg (by omega)).trans (e4 hk))⟩
    · have := har j (by omega)
      refine ⟨(if_neg (by omega)).trans ((if_neg (by omega)).trans ((e5 139 j (by omega) (by omega) (by omega)).trans this.1)), (if_neg (by omega)).trans ((if_neg (by omega)).trans ((e5 140 j (by omega) (by omega) (by omega)).trans this.2.1)), fun hk => (if_neg (by omega)).trans ((if_neg (by omega)).trans ((e5 141 j (by omega) (by omega) (by omega)).trans (this.2.2 hk)))⟩
  have knn : (∀ j, 0 ≤ t 140 j) → ∀ j, 0 ≤ t4 140 j := fun hn j => by
    rw [ht4]
    have e6 : (up2 (up2 t2 139 i (kd T n (pls T n i))) 137 5 ((i : Int) + 1)) 140 j = t2 140 j := (if_neg (by omega)).trans (if_neg (by omega))
    rw [e6]
    by_cases ej : j = i
    · subst ej
      rw [e3]
      omega
    · rw [e5 140 j (by omega) (by omega) (by omega)]
      exact hn j
  have h4 : CSc T n t4 := by
    refine ⟨(kfr 97 1 (by omega) (by omega) (by omega) (by omega)).trans h.1, h2, fun j hj => ?_, fun j hj => ?_⟩
    · rw [kfr 98 j (by omega) (by omega) (by omega) (by omega)]
      exact h.2.2.1 j hj
    · rw [kfr 138 j (by omega) (by omega) (by omega) (by omega)]
      exact h.2.2.2 j hj
  by_cases hk : kd T n (pls T n i) = 3 ∨ kd T n (pls T n i) = 4
  · have hf : cG 62 [kd T n (pls T n i)] t4 = some (some (0, up2 t4 137 5 0)) := by
      rw [cG_24_12]
      unfold cM24_12
      split
      · rfl
      · rcases hk with hk | hk
        · rw [if_pos hk]
        · rw [if_neg (by omega), if_pos hk]
    refine ⟨_, i, hf, ⟨by omega, h2, hk, hno, fun j hj => kar j (by omega)⟩, up_self, fun k j a1 a2 a3 a4 => (if_neg (by omega)).trans (kfr k j a1 a2 a3 a4), fun hn j => ?_⟩
    rw [show up2 t4 137 5 0 140 j = t4 140 j from if_neg (by omega)]
    exact knn hn j
  · have hpn : pls T n i < n := by
      by_cases e : n ≤ pls T n i
      · exact absurd (.inl (kd_end.mpr e)) hk
      · omega
    obtain ⟨t6, e, g1, g2, g3, g4, g5⟩ := ih (n - (i + 1)) (by omega) (i + 1) (nx T n (pls T n i)) (kd T n (pls T n i)) t4 rfl h4 k5 k6 (nx_le hle) rfl (fun j hj => by
      by_cases ej : j = i
      · subst ej; omega
      · exact hno j (by omega)) (by omega) (by omega) kar
    exact ⟨t6, e, g1, g2, g3, fun k j a1 a2 a3 a4 => (g4 k j a1 a2 a3 a4).trans (kfr k j a1 a2 a3 a4), fun hn => g5 (knn hn)⟩
theorem cs_scan (h : CSc T n t) : ∃ t2 e, cG 13 [] t = some (some (0, t2)) ∧ TKS T n e t2 ∧ t2 137 5 = 0 ∧ (∀ k j, k ≠ 137 → k ≠ 139 → k ≠ 140 → k ≠ 141 → t2 k j = t k j) ∧ ((∀ j, 0 ≤ t 140 j) → ∀ j, 0 ≤ t2 140 j) := by
  rw [cG_24]
  unfold cM24
  obtain ⟨t2, e, g1, g2, g3, g4, g5⟩ := cs_scan1 (T := T) (n := n) n 0 0 1 (up2 (up2 t 137 6 0) 137 5 0) rfl (CSc_up (CSc_up h (by omega)) (by omega)) up_self rfl (Nat.zero_le _) rfl (fun j hj => absurd hj (by omega)) (by decide) (by decide) (fun j hj => absurd hj (by omega))
  exact ⟨t2, e, g1, g2, g3, fun k j a1 a2 a3 a4 => (g4 k j a1 a2 a3 a4).trans ((if_neg (by omega)).trans (if_neg (by omega))), fun hn => g5 (fun j => by rw [show up2 (up2 t 137 6 0) 137 5 0 140 j = t 140 j from (if_neg (by omega)).trans (if_neg (by omega))]; exact hn j)⟩
end CSCAN
