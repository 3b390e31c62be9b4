/-! A small machine of our own: values by the numbers of the things made (or given); its steps are tied, row by row, to the kit's rows on the real one. -/
/-- v of the small machine and w of the real one, where thing k lies at as[k]; 'retAddr' stands for a reference or null that is only moved about -/
def hm_v (as : List Nat) (v w : Value) : Prop := match v with
  | .ref k => ∃ a, as[k]? = some a ∧ w = .ref a
  | .retAddr _ => w = .null ∨ ∃ a, w = .ref a
  | v => w = v
def hm_vs (as : List Nat) : List Value → List Value → Prop
  | [], [] => True
  | v :: l, w :: m => hm_v as v w ∧ hm_vs as l m
  | _, _ => False
def hm_lv (as : List Nat) : List (Nat × Value) → List (Nat × Value) → Prop
  | [], [] => True
  | q :: l, r :: m => q.1 = r.1 ∧ hm_v as q.2 r.2 ∧ hm_lv as l m
  | _, _ => False
/-- as2 goes on as -/
def hm_le (as as2 : List Nat) : Prop := ∀ (k a : Nat), as[k]? = some a → as2[k]? = some a
theorem hm_le_rf {as : List Nat} : hm_le as as := fun _ _ h => h
theorem hm_le_tr {a b c : List Nat} (h1 : hm_le a b) (h2 : hm_le b c) : hm_le a c := fun k x h => h2 k x (h1 k x h)
theorem hm_le_app {as ex : List Nat} : hm_le as (as ++ ex) := fun k a h => by
  rw [List.getElem?_append_left (List.getElem?_eq_some_iff.mp h).1]
  exact h
theorem hm_v_cat {as : List Nat} {v w : Value} (h : hm_v as v w) : w.category = v.category := by
  cases v with
  | ref k => obtain ⟨a, -, rfl⟩ := h; rfl
  | retAddr k =>
    rcases h with rfl | ⟨a, rfl⟩
    · rfl
    · rfl
  | _ => cases h; rfl
theorem hm_v_int {as : List Nat} {x : Int32} {w : Value} (h : hm_v as (.int x) w) : w = .int x := h
theorem hm_v_long {as : List Nat} {x : Int64} {w : Value} (h : hm_v as (.long x) w) : w = .long x := h
theorem hm_v_null {as : List Nat} {w : Value} (h : hm_v as .null w) : w = .null := h
theorem hm_v_grow {as as2 : List Nat} (hg : hm_le as as2) {v w : Value} (h : hm_v as v w) : hm_v as2 v w := by
  cases v with
  | ref k => obtain ⟨a, ha, rfl⟩ := h; exact ⟨a, hg k a ha, rfl⟩
  | retAddr k => exact h
  | _ => exact h
theorem hm_vs_grow {as as2 : List Nat} (hg : hm_le as as2) : ∀ {l m : List Value}, hm_vs as l m → hm_vs as2 l m
  | [], [], _ => trivial
  | _ :: _, _ :: _, h => ⟨hm_v_grow hg h.1, hm_vs_grow hg h.2⟩
  | [], _ :: _, h => h.elim
  | _ :: _, [], h => h.elim
theorem hm_lv_grow {as as2 : List Nat} (hg : hm_le as as2) : ∀ {l m : List (Nat × Value)}, hm_lv as l m → hm_lv as2 l m
  | [], [], _ => trivial
  | _ :: _, _ :: _, h => ⟨h.1, hm_v_grow hg h.2.1, hm_lv_grow hg h.2.2⟩
  | [], _ :: _, h => h.elim
  | _ :: _, [], h => h.elim
theorem hm_vs_cons {as : List Nat} {v : Value} {l m : List Value} (h : hm_vs as (v :: l) m) : ∃ w m2, m = w :: m2 ∧ hm_v as v w ∧ hm_vs as l m2 := by
  cases m with
  | nil => exact h.elim
  | cons w m2 => exact ⟨w, m2, rfl, h.1, h.2⟩
theorem hm_vs_nil {as : List Nat} {m : List Value} (h : hm_vs as [] m) : m = [] := by
  cases m with
  | nil => rfl
  | cons w m2 => exact h.elim
theorem hm_vs_len {as : List Nat} : ∀ {l m : List Value}, hm_vs as l m → m.length = l.length
  | [], [], _ => rfl
  | _ :: _, _ :: _, h => by simp [hm_vs_len h.2]
  | [], _ :: _, h => h.elim
  | _ :: _, [], h => h.elim
theorem hm_vs_cat {as : List Nat} : ∀ {l m : List Value}, hm_vs as l m → (m.map fun v => v.category).sum = (l.map fun v => v.category).sum
  | [], [], _ => rfl
  | _ :: _, _ :: _, h => by simp [hm_v_cat h.1, hm_vs_cat h.2]
  | [], _ :: _, h => h.elim
  | _ :: _, [], h => h.elim
theorem hm_vs_app {as : List Nat} : ∀ {l m : List Value} {l2 m2 : List Value}, hm_vs as l m → hm_vs as l2 m2 → hm_vs as (l ++ l2) (m ++ m2)
  | [], [], _, _, _, h2 => h2
  | _ :: _, _ :: _, _, _, h, h2 => ⟨h.1, hm_vs_app h.2 h2⟩
  | [], _ :: _, _, _, h, _ => h.elim
  | _ :: _, [], _, _, h, _ => h.elim
theorem hm_vs_split {as : List Nat} : ∀ {l : List Value} {l2 m : List Value}, hm_vs as (l ++ l2) m → ∃ m1 m2, m = m1 ++ m2 ∧ hm_vs as l m1 ∧ hm_vs as l2 m2
  | [], _, m, h => ⟨[], m, rfl, trivial, h⟩
  | v :: l, l2, m, h => by
    obtain ⟨w, m3, rfl, h1, h2⟩ := hm_vs_cons (v := v) (l := l ++ l2) h
    obtain ⟨m1, m2, rfl, h3, h4⟩ := hm_vs_split h2
    exact ⟨w :: m1, m2, rfl, ⟨h1, h3⟩, h4⟩
theorem hm_vs_rev {as : List Nat} : ∀ {l m : List Value}, hm_vs as l m → hm_vs as l.reverse m.reverse
  | [], [], _ => trivial
  | _ :: _, _ :: _, h => by
    rw [List.reverse_cons, List.reverse_cons]
    exact hm_vs_app (hm_vs_rev h.2) ⟨h.1, trivial⟩
  | [], _ :: _, h => h.elim
  | _ :: _, [], h => h.elim
theorem hm_lv_mem {as : List Nat} : ∀ {l m : List (Nat × Value)}, hm_lv as l m → ∀ i v, (i, v) ∈ l → ∃ w, hm_v as v w ∧ (i, w) ∈ m
  | [], [], _, _, _, hm => by cases hm
  | q :: l, r :: m, h, i, v, hm => by
    rcases List.mem_cons.mp hm with e | hm
    · subst e
      obtain ⟨r1, r2⟩ := r
      exact ⟨r2, h.2.1, by rw [show i = r1 from h.1]; exact List.mem_cons_self⟩
    · obtain ⟨w, h1, h2⟩ := hm_lv_mem h.2.2 i v hm
      exact ⟨w, h1, List.mem_cons_of_mem _ h2⟩
  | [], _ :: _, h, _, _, _ => h.elim
  | _ :: _, [], h, _, _, _ => h.elim
theorem hm_lv_filter {as : List Nat} (P : Nat → Nat → Bool) : ∀ {l m : List (Nat × Value)}, hm_lv as l m → hm_lv as (l.filter fun q => P q.1 q.2.category) (m.filter fun q => P q.1 q.2.category)
  | [], [], _ => trivial
  | q :: l, r :: m, h => by
    have e1 : r.1 = q.1 := h.1.symm
    have e2 : r.2.category = q.2.category := hm_v_cat h.2.1
    rw [List.filter_cons, List.filter_cons, e1, e2]
    by_cases c : P q.1 q.2.category = true
    · rw [if_pos c, if_pos c]
      exact ⟨h.1, h.2.1, hm_lv_filter P h.2.2⟩
    · rw [if_neg c, if_neg c]
      exact hm_lv_filter P h.2.2
  | [], _ :: _, h => h.elim
  | _ :: _, [], h => h.elim
/-- the places behind a store, of one slot and of two -/
def hm_st1 (lv : List (Nat × Value)) (i : Nat) (v : Value) : List (Nat × Value) := (i, v) :: lv.filter (fun q => !(q.1 == i) && !(q.1 + 1 == i && q.2.category == 2))
def hm_st2 (lv : List (Nat × Value)) (i : Nat) (v : Value) : List (Nat × Value) := (i, v) :: lv.filter (fun q => !(q.1 == i) && (!(q.1 == i + 1) && !(q.1 + 1 == i && q.2.category == 2)))
theorem hm_lv_st1 {as : List Nat} {l m : List (Nat × Value)} (h : hm_lv as l m) (i : Nat) {v w : Value} (hv : hm_v as v w) : hm_lv as (hm_st1 l i v) (hm_st1 m i w) :=
  ⟨rfl, hv, hm_lv_filter (fun a b => !(a == i) && !(a + 1 == i && b == 2)) h⟩
theorem hm_lv_st2 {as : List Nat} {l m : List (Nat × Value)} (h : hm_lv as l m) (i : Nat) {v w : Value} (hv : hm_v as v w) : hm_lv as (hm_st2 l i v) (hm_st2 m i w) :=
  ⟨rfl, hv, hm_lv_filter (fun a b => !(a == i) && (!(a == i + 1) && !(a + 1 == i && b == 2))) h⟩
/-- what place i holds -/
def hm_at (i : Nat) : List (Nat × Value) → Option Value
  | [] => none
  | q :: l => if q.1 = i then some q.2 else hm_at i l
theorem hm_at_mem {i : Nat} {v : Value} : ∀ {l : List (Nat × Value)}, hm_at i l = some v → (i, v) ∈ l
  | [], h => by cases h
  | q :: l, h => by
    unfold hm_at at h
    by_cases c : q.1 = i
    · rw [if_pos c] at h
      cases h
      obtain ⟨q1, q2⟩ := q
      subst c
      exact List.mem_cons_self
    · rw [if_neg c] at h
      exact List.mem_cons_of_mem _ (hm_at_mem h)
theorem hm_lv_at {as : List Nat} {ls : Array Slot} {nL : Nat} {l m : List (Nat × Value)} (hl : lv_has ls nL m) (h : hm_lv as l m) {i : Nat} {v : Value} (hv : hm_at i l = some v) : ∃ w, hm_v as v w ∧ ls[i]? = some (.val w) := by
  obtain ⟨w, h1, h2⟩ := hm_lv_mem h i v (hm_at_mem hv)
  exact ⟨w, h1, hl.2.2 (i, w) h2⟩
/-- what an instruction on operands and places alone makes: the next pc, places, operands -/
abbrev hm_P : Type := Nat × List (Nat × Value) × List Value
def hm_tg (pc : Nat) (off : Int) : Option Nat := if 0 ≤ (pc : Int) + off then some ((pc : Int) + off).toNat else none
theorem hm_tg_ok {pc tgt : Nat} {off : Int} (h : hm_tg pc off = some tgt) : (pc : Int) + off = (tgt : Int) := by
  unfold hm_tg at h
  by_cases c : 0 ≤ (pc : Int) + off
  · rw [if_pos c] at h
    cases h
    omega
  · rw [if_neg c] at h
    cases h
/-- constants -/
def hm_gK (i : Instr) (pc : Nat) (lv : List (Nat × Value)) (st : List Value) : Option (Nat × hm_P) := match i with
  | .iconst n => some (1, pc + 1, lv, .int (Int32.ofInt n) :: st)
  | .bipush n => some (2, pc + 2, lv, .int (Int8.ofInt n).toInt32 :: st)
  | .sipush n => some (3, pc + 3, lv, .int (Int16.ofInt n).toInt32 :: st)
  | .lconst n => some (1, pc + 1, lv, .long (Int64.ofNat (n : Nat)) :: st)
  | .aconst_null => some (1, pc + 1, lv, .null :: st)
  | _ => none
/-- loads: the kind (0 int, 1 long, 2 reference), the place, the length -/
def hm_ld (i : Instr) : Option (Nat × Nat × Nat) := match i with
  | .iload k => some (0, k, 2)
  | .iload_n k => some (0, (k : Nat), 1)
  | .lload k => some (1, k, 2)
  | .lload_n k => some (1, (k : Nat), 1)
  | .aload k => some (2, k, 2)
  | .aload_n k => some (2, (k : Nat), 1)
  | _ => none
def hm_sto (i : Instr) : Option (Nat × Nat × Nat) := match i with
  | .istore k => some (0, k, 2)
  | .istore_n k => some (0, (k : Nat), 1)
  | .lstore k => some (1, k, 2)
  | .lstore_n k => some (1, (k : Nat), 1)
  | .astore k => some (2, k, 2)
  | .astore_n k => some (2, (k : Nat), 1)
  | _ => none
def hm_kind (k : Nat) (v : Value) : Bool := match v with
  | .int _ => k == 0
  | .long _ => k == 1
  | .ref _ => k == 2
  | .null => k == 2
  | .retAddr _ => k == 2
  | _ => false
def hm_gL (i : Instr) (pc : Nat) (lv : List (Nat × Value)) (st : List Value) : Option (Nat × hm_P) := match hm_ld i with
  | none => none
  | some q => match hm_at q.2.1 lv with
    | none => none
    | some v => if hm_kind q.1 v = true then some (q.2.2, pc + q.2.2, lv, v :: st) else none
def hm_gS (nL : Nat) (i : Instr) (pc : Nat) (lv : List (Nat × Value)) (st : List Value) : Option (Nat × hm_P) := match hm_sto i, st with
  | some q, v :: st => if hm_kind q.1 v = true ∧ q.2.1 + v.category ≤ nL then some (q.2.2, pc + q.2.2, (if q.1 = 1 then hm_st2 lv q.2.1 v else hm_st1 lv q.2.1 v), st) else none
  | _, _ => none
/-- two ints, one int -/
def hm_b2 (i : Instr) : Option (Int32 → Int32 → Int32) := match i with
  | .iadd => some fun x y => x + y
  | .isub => some fun x y => x - y
  | .imul => some fun x y => x * y
  | .iand => some fun x y => x &&& y
  | .ior => some fun x y => x ||| y
  | .ixor => some fun x y => x ^^^ y
  | .ishl => some fun x y => x <<< (y &&& 31)
  | .ishr => some fun x y => x >>> (y &&& 31)
  | .iushr => some fun x y => (x.toUInt32 >>> (y.toUInt32 &&& Int32.toUInt32 31)).toInt32
  | _ => none
def hm_l2 (i : Instr) : Option (Int64 → Int64 → Int64) := match i with
  | .ladd => some fun x y => x + y
  | .lsub => some fun x y => x - y
  | .lmul => some fun x y => x * y
  | .land => some fun x y => x &&& y
  | .lor => some fun x y => x ||| y
  | _ => none
def hm_u1 (i : Instr) (v : Value) : Option Value := match i, v with
  | .ineg, .int x => some (.int (-x))
  | .i2l, .int x => some (.long x.toInt64)
  | .l2i, .long x => some (.int x.toInt32)
  | .i2b, .int x => some (.int x.toInt8.toInt32)
  | .i2s, .int x => some (.int x.toInt16.toInt32)
  | .i2c, .int x => some (.int (x.toUInt32 % 65536).toInt32)
  | _, _ => none
def hm_gA (i : Instr) (pc : Nat) (lv : List (Nat × Value)) (st : List Value) : Option (Nat × hm_P) := match hm_b2 i, st with
  | some f, .int y :: .int x :: r => some (1, pc + 1, lv, .int (f x y) :: r)
  | _, _ => none
def hm_gJ (i : Instr) (pc : Nat) (lv : List (Nat × Value)) (st : List Value) : Option (Nat × hm_P) := match hm_l2 i, st with
  | some f, .long y :: .long x :: r => some (1, pc + 1, lv, .long (f x y) :: r)
  | _, _ => none
def hm_gU (i : Instr) (pc : Nat) (lv : List (Nat × Value)) (st : List Value) : Option (Nat × hm_P) := match st with
  | v :: r => match hm_u1 i v with
    | some w => some (1, pc + 1, lv, w :: r)
    | none => none
  | _ => none
/-- division; mixed longs; moves of operands -/
def hm_gD (i : Instr) (pc : Nat) (lv : List (Nat × Value)) (st : List Value) : Option (Nat × hm_P) := match i with
  | .idiv => match st with
    | .int y :: .int x :: r => if y = 0 then none else some (1, pc + 1, lv, .int (x / y) :: r)
    | _ => none
  | .irem => match st with
    | .int y :: .int x :: r => if y = 0 then none else some (1, pc + 1, lv, .int (x - x / y * y) :: r)
    | _ => none
  | .lshl => match st with
    | .int y :: .long x :: r => some (1, pc + 1, lv, .long (x <<< (y.toInt64 &&& 63)) :: r)
    | _ => none
  | .lcmp => match st with
    | .long y :: .long x :: r => some (1, pc + 1, lv, .int (lg_cmp x y) :: r)
    | _ => none
  | .dup => match st with
    | v :: r => if v.category = 1 then some (1, pc + 1, lv, v :: v :: r) else none
    | _ => none
  | .pop => match st with
    | v :: r => if v.category = 1 then some (1, pc + 1, lv, r) else none
    | _ => none
  | .dup2 => match st with
    | v :: w :: r => if v.category = 1 ∧ w.category = 1 then some (1, pc + 1, lv, v :: w :: v :: w :: r) else none
    | _ => none
  | .pop2 => match st with
    | v :: r => if v.category = 2 then some (1, pc + 1, lv, r) else none
    | _ => none
  | .iinc k n => match hm_at k lv with
    | some (.int x) => some (3, pc + 3, hm_st1 lv k (.int (x + Int32.ofInt n)), st)
    | _ => none
  | _ => none
/-- does the branch go? -/
def hm_c1 (c : ClassFile.Cond) (x : Int32) : Bool := match c with
  | .eq => decide (x = 0)
  | .ne => decide (¬ x = 0)
  | .lt => decide (x < 0)
  | .ge => decide (0 ≤ x)
  | .gt => decide (0 < x)
  | .le => decide (x ≤ 0)
def hm_c2 (c : ClassFile.Cond) (x y : Int32) : Bool := match c with
  | .eq => decide (x = y)
  | .ne => decide (¬ x = y)
  | .lt => decide (x < y)
  | .ge => decide (y ≤ x)
  | .gt => decide (y < x)
  | .le => decide (x ≤ y)
def hm_go (b : Bool) (pc : Nat) (off : Int) (lv : List (Nat × Value)) (r : List Value) : Option (Nat × hm_P) := match hm_tg pc off with
  | none => none
  | some t => some (3, (if b = true then t else pc + 3), lv, r)
def hm_gB (i : Instr) (pc : Nat) (lv : List (Nat × Value)) (st : List Value) : Option (Nat × hm_P) := match i with
  | .ifCond c off => match st with
    | .int x :: r => hm_go (hm_c1 c x) pc off lv r
    | _ => none
  | .if_icmp c off => match st with
    | .int y :: .int x :: r => hm_go (hm_c2 c x y) pc off lv r
    | _ => none
  | .ifnull off => match st with
    | .ref _ :: r => hm_go false pc off lv r
    | .null :: r => hm_go true pc off lv r
    | _ => none
  | .ifnonnull off => match st with
    | .ref _ :: r => hm_go true pc off lv r
    | .null :: r => hm_go false pc off lv r
    | _ => none
  | .goto off => hm_go true pc off lv st
  | _ => none
/-- switches: their length is of no matter -/
def hm_gW (i : Instr) (pc : Nat) (lv : List (Nat × Value)) (st : List Value) : Option hm_P := match i with
  | .lookupswitch dflt ps => match st with
    | .int x :: r => if (ps.toList.zip (ps.toList.drop 1)).all (fun (a, next) => a.1 < next.1) = true then (hm_tg pc (Op.lookupswitch.offset ps.toList dflt x.toInt)).map fun t => (t, lv, r) else none
    | _ => none
  | .tableswitch dflt lo hi offs => match st with
    | .int x :: r => if x.toInt < lo ∨ hi < x.toInt then (hm_tg pc dflt).map fun t => (t, lv, r) else match offs[(x.toInt - lo).toNat]? with
      | some off => (hm_tg pc off).map fun t => (t, lv, r)
      | none => none
    | _ => none
  | _ => none
