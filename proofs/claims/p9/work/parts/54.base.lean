/-! Slots that hold one thing for ever. -/
def tb_rl : List (List (Option Nat)) := [[some 97, none, none, none, some 131, some 142], [some 98], [], [some 100, some 101, some 102, some 103, some 104, some 105, some 109, some 110, some 111, some 112, some 113, some 114], [], [], [], [], [], [some 106, some 107, some 108], [], [], [], [], [], [], [], [], [], [some 116, some 117, some 118, some 119, some 120, some 121, some 125, some 126, some 127, some 128, some 129, some 130], [], [], [], [], [], [some 122, some 123, some 124], [], [], [], [], [], [], [], [], [], [some 137, none, none, none, some 132, some 133, none, none, none, none, some 134, some 135, some 136], [], [], [], [], [], [some 97, some 138, some 139, some 140, some 141], [], [], [], [], [none, some 143, some 144, some 145, some 146, some 147, none, some 148, some 149, some 150, some 151, some 152, some 153], [], [], [], [], [], [], [], [some 154, some 156, some 158, some 160], [some 162, some 164, some 166, some 168], [], [], [some 155], [], [some 157], [], [some 159], [], [some 161], [], [some 163], [], [some 165], [], [some 167], [], [some 169], [], [some 171, none, none, none, none, none, none, none, none, some 172, some 173, some 174, some 175, some 176, none, none, none, none, none, none, none, none, none, none, none, none, none, some 195, some 196, some 197, some 198, some 199, some 200, some 201, some 202, none, none, none, some 203, some 204, some 205, some 206, some 207, some 208, some 209, some 210, some 211, some 212, some 219, some 920, some 1621, some 1630], [], [], [], [], [], [], [some 178, none, none, none, none, none, none, none, none, none, none, some 179, some 180, some 181, some 182, some 183, some 184, some 185], [], [], [], [], [], [], [], [], [some 187, none, none, none, none, none, none, none, none, none, none, some 188, some 189, some 190, some 191, some 192, some 193, some 194], [], [], [], [], [], [], [], [], [], [], [], [], [], [], [], [], [], [], [], [], [], [], [], [], [], [some 213, some 214, some 215, some 216, some 217, some 218], [], [], [], [], [], [], []]
/-- the thing that a slot holds for ever -/
def tb_rc (k j : Nat) : Option Nat := if k < 96 then none else if k < 219 then ((tb_rl[k - 96]?.getD [])[j]?).getD none else if k = 219 then (if j < 700 then some (220 + j) else none) else if k = 920 then (if j < 700 then some (921 + j) else none) else if k = 1621 then (if j < 8 then some (1622 + j) else none) else none
def RF (r : Nat → Nat → Int) : Prop := ∀ k j v, tb_rc k j = some v → r k j = (v : Int)
theorem RF_up {r : Nat → Nat → Int} {k j : Nat} {z : Int} (h : RF r) (hn : tb_rc k j = none) : RF (up2 r k j z) := fun k2 j2 v hv => by
  by_cases e : k2 = k ∧ j2 = j
  · rw [e.1, e.2, hn] at hv
    cases hv
  · exact (if_neg e).trans (h k2 j2 v hv)
/-- rows of the reference's stacks -/
theorem TG_st {b : Nat} (h : b < 700) : tb_TG (220 + b) = some (.inl .int, 1000) := by
  unfold tb_TG
  rw [if_neg (by omega), if_neg (by omega), if_pos (by omega)]
theorem TG_bk {b : Nat} (h : b < 700) : tb_TG (921 + b) = some (.inl .int, 16) := by
  unfold tb_TG
  rw [if_neg (by omega), if_neg (by omega), if_neg (by omega), if_neg (by omega), if_pos (by omega)]
theorem TG_in {b : Nat} (h : b < 8) : tb_TG (1622 + b) = some (.inl .int, 40) := by
  unfold tb_TG
  rw [if_neg (by omega), if_neg (by omega), if_neg (by omega), if_neg (by omega), if_neg (by omega), if_neg (by omega), if_pos (by omega)]
theorem TG_it {b : Nat} (h : b < 6) : tb_TG (213 + b) = some (.inl .int, 64) := by
  match b, h with
  | 0, _ => rfl
  | 1, _ => rfl
  | 2, _ => rfl
  | 3, _ => rfl
  | 4, _ => rfl
  | 5, _ => rfl
theorem rc_st {b : Nat} (h : b < 700) : tb_rc 219 b = some (220 + b) := by
  show (if b < 700 then _ else _) = _
  rw [if_pos h]
theorem rc_bk {b : Nat} (h : b < 700) : tb_rc 920 b = some (921 + b) := by
  show (if b < 700 then _ else _) = _
  rw [if_pos h]
theorem rc_in {b : Nat} (h : b < 8) : tb_rc 1621 b = some (1622 + b) := by
  show (if b < 8 then _ else _) = _
  rw [if_pos h]
theorem rc_it {b : Nat} (h : b < 6) : tb_rc 212 b = some (213 + b) := by
  match b, h with
  | 0, _ => rfl
  | 1, _ => rfl
  | 2, _ => rfl
  | 3, _ => rfl
  | 4, _ => rfl
  | 5, _ => rfl
/-- rows hold no things -/
theorem rc_hi {k j : Nat} (h : 220 ≤ k) (h1 : k ≠ 920) (h2 : k ≠ 1621) : tb_rc k j = none := by
  unfold tb_rc
  rw [if_neg (by omega), if_neg (by omega), if_neg (by omega), if_neg h1, if_neg h2]
theorem rv_ref {z : Int} {n : Nat} (h : z = (n : Int)) : rv 2 z = .ref n := by
  subst h
  show (if (n : Int) < 0 then Value.null else .ref (n : Int).toNat) = _
  rw [if_neg (by omega), Int.toNat_natCast]
theorem fit_l (z : Int) : hm_fit .long (vl z) = true := by simp [hm_fit, narrow, fits]
theorem wr_inc {d row pc k : Nat} {M : hm_M} {lv : List (Nat × Value)} {st : List Value} {s : rS} {Q : rS → hm_Out → Prop} {a n : Int} (ho : (hm_Mi M)[pc]? = some (some (.iinc k n, 3, 6, row))) (hv : hm_at k lv = some (vi a)) (kk : wr d M (pc + 3) (hm_st1 lv k (vi (a + n))) st s Q) : wr d M pc lv st s Q := wr_go (fun call g => by
  rw [hs_of ho]
  show hm_pu 3 g (hm_gD (.iinc k n) pc lv st) = _
  simp only [hm_gD, hv, hm_pu, if_true]
  rw [i32_add]) kk
theorem wr_reti {d row pc : Nat} {M : hm_M} {lv : List (Nat × Value)} {s : rS} {Q : rS → hm_Out → Prop} {x : Int32} (ho : (hm_Mi M)[pc]? = some (some (.ireturn, 1, 16, row))) (hr : hm_Mr M = some .int) (hq : Q s (some (some (.int x)))) : wr d M pc lv [.int x] s Q := wr_end (fun call g => by
  rw [hs_of ho]
  show hm_dE M (.ireturn, 1, 16, row) [.int x] g = _
  simp [hm_dE, hm_ret, hr, narrow]) hq
theorem wr_retz {d row pc : Nat} {M : hm_M} {lv : List (Nat × Value)} {s : rS} {Q : rS → hm_Out → Prop} {z : Int} (ho : (hm_Mi M)[pc]? = some (some (.ireturn, 1, 16, row))) (hr : hm_Mr M = some .boolean) (hz : 0 ≤ z ∧ z ≤ 1) (hq : Q s (some (some (vi z)))) : wr d M pc lv [vi z] s Q := wr_end (fun call g => by
  rw [hs_of ho]
  show hm_dE M (.ireturn, 1, 16, row) [vi z] g = _
  have h : z = 0 ∨ z = 1 := by omega
  have hn : narrow .boolean (vi z) = vi z := by rcases h with rfl | rfl <;> rfl
  have hn2 : narrow .boolean (.int (Int32.ofInt z)) = .int (Int32.ofInt z) := hn
  simp [hm_dE, hm_ret, hr, hn2]) hq
theorem up_up {r : Nat → Nat → Int} {k j : Nat} {a b : Int} : up2 (up2 r k j a) k j b = up2 r k j b := by
  funext k2 j2
  by_cases e : k2 = k ∧ j2 = j
  · show (if _ then _ else _) = (if _ then _ else _)
    rw [if_pos e, if_pos e]
  · show (if k2 = k ∧ j2 = j then b else up2 r k j a k2 j2) = (if k2 = k ∧ j2 = j then b else r k2 j2)
    rw [if_neg e, if_neg e]
    exact if_neg e
theorem up_id {r : Nat → Nat → Int} {k j : Nat} : up2 r k j (r k j) = r := by
  funext k2 j2
  by_cases e : k2 = k ∧ j2 = j
  · rw [e.1, e.2]; exact up_self
  · exact if_neg e
/-- the table is the same but for some slots of thing q -/
def same (q : Nat) (l : List Nat) (r r2 : Nat → Nat → Int) : Prop := ∀ k j, ¬ (k = q ∧ j ∈ l) → r2 k j = r k j
theorem same_rf {q : Nat} {l : List Nat} {r : Nat → Nat → Int} : same q l r r := fun _ _ _ => rfl
theorem same_up {q j : Nat} {l : List Nat} {r r2 : Nat → Nat → Int} {z : Int} (h : same q l r r2) (hj : j ∈ l) : same q l r (up2 r2 q j z) := fun k2 j2 hn => (if_neg (fun e => hn ⟨e.1, by rw [e.2]; exact hj⟩)).trans (h k2 j2 hn)
theorem same_tr {q : Nat} {l : List Nat} {r r2 r3 : Nat → Nat → Int} (h : same q l r r2) (h2 : same q l r2 r3) : same q l r r3 := fun k j hn => (h2 k j hn).trans (h k j hn)
theorem same_RF {q : Nat} {l : List Nat} {r r2 : Nat → Nat → Int} (h : same q l r r2) (hl : ∀ j ∈ l, tb_rc q j = none) (hR : RF r) : RF r2 := fun k j v hv => (h k j (fun e => by rw [e.1, hl j e.2] at hv; cases hv)).trans (hR k j v hv)
theorem wr_min {d row pc ix : Nat} {M : hm_M} {lv : List (Nat × Value)} {st : List Value} {s : rS} {Q : rS → hm_Out → Prop} {a b : Int} (ho : (hm_Mi M)[pc]? = some (some (.invokestatic ix, 3, 15, row))) (hx : (hm_Tl tb_T)[row]? = some (hm_Mo M, ix, 2)) (ha : i32 a) (hb : i32 b) (hs : (st.map fun v => v.category).sum ≤ 8) (kk : ∀ z, (z ≤ a ∧ z ≤ b ∧ (z = a ∨ z = b)) → wr d M (pc + 3) lv (vi z :: st) s Q) : wr d M pc lv (vi b :: vi a :: st) s Q := by
  refine wr_go (fun call g => ?_) (kk (if b < a then b else a) (by split <;> omega))
  rw [hs_of ho]
  show hm_dL tb_T M (.invokestatic ix, 3, 15, row) pc lv (vi b :: vi a :: st) g = _
  have h1 : (Int32.ofInt b < Int32.ofInt a) ↔ b < a := by rw [Int32.lt_iff_toInt_lt, i32_to ha.1 ha.2, i32_to hb.1 hb.2]
  have h2 : ((vi b :: vi a :: st).map fun v => v.category).sum ≤ 16 := by
    show 1 + (1 + (st.map fun v => v.category).sum) ≤ 16
    omega
  unfold hm_dL
  rw [hx]
  dsimp only
  rw [if_pos ⟨rfl, rfl, rfl, h2⟩]
  show some (Sum.inl (pc + 3, lv, Value.int (if Int32.ofInt b < Int32.ofInt a then Int32.ofInt b else Int32.ofInt a) :: st, g)) = _
  by_cases e : b < a
  · rw [if_pos (h1.mpr e), if_pos e]
  · rw [if_neg (fun q => e (h1.mp q)), if_neg e]
theorem up_past {r : Nat → Nat → Int} {k j k1 j1 : Nat} {a b c : Int} (h : ¬ (k1 = k ∧ j1 = j)) : up2 (up2 (up2 r k j a) k1 j1 b) k j c = up2 (up2 r k1 j1 b) k j c := by
  funext k2 j2
  by_cases e : k2 = k ∧ j2 = j
  · rw [e.1, e.2, up_self, up_self]
  · show (if k2 = k ∧ j2 = j then c else up2 (up2 r k j a) k1 j1 b k2 j2) = (if k2 = k ∧ j2 = j then c else up2 r k1 j1 b k2 j2)
    rw [if_neg e, if_neg e]
    show (if k2 = k1 ∧ j2 = j1 then b else up2 r k j a k2 j2) = (if k2 = k1 ∧ j2 = j1 then b else r k2 j2)
    rw [show up2 r k j a k2 j2 = r k2 j2 from if_neg e]
theorem upS_id {s : rS} {k j : Nat} {z : Int} (h : s.1 k j = z) : (up2 s.1 k j z, s.2) = s := by
  subst h
  rw [up_id]
