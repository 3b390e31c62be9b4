/-! What the check says. -/
theorem ckV_ok {ty : FieldType} {v : Value} (h : ckV ty v = true) : v = rv (rk1 ty) (ivl v) ∧ rg ty (ivl v) := by
  have hi : ∀ x : Int32, Value.int x = Value.int (Int32.ofInt x.toInt) := fun x => by rw [Int32.ofInt_toInt]
  have hr : ∀ q : Nat, Value.ref q = (if (q : Int) < 0 then Value.null else Value.ref ((q : Int).toNat)) := fun q => by rw [if_neg (by omega), Int.toNat_natCast]
  unfold ckV at h
  split at h
  · rename_i x
    exact ⟨hi x, x.le_toInt, by have := x.toInt_lt; show x.toInt ≤ 2147483647; omega⟩
  · rename_i x
    have h2 : -128 ≤ x.toInt ∧ x.toInt ≤ 127 := of_decide_eq_true h
    exact ⟨hi x, h2⟩
  · rename_i x
    have h2 : 0 ≤ x.toInt ∧ x.toInt ≤ 1 := of_decide_eq_true h
    exact ⟨hi x, h2⟩
  · rename_i x
    exact ⟨by show Value.long x = Value.long (Int64.ofInt x.toInt); rw [Int64.ofInt_toInt], x.le_toInt, by have := x.toInt_lt; show x.toInt ≤ 9223372036854775807; omega⟩
  · rename_i q
    exact ⟨hr q, by show -1 ≤ (q : Int); omega⟩
  · exact ⟨rfl, by show (-1 : Int) ≤ -1; omega⟩
  · rename_i q
    exact ⟨hr q, by show -1 ≤ (q : Int); omega⟩
  · exact ⟨rfl, by show (-1 : Int) ≤ -1; omega⟩
  · cases h
theorem ckA_ok {f : Value → Bool} : ∀ {n : Nat} {l r : List Value}, ckA f n l = some r → ∃ m, l = m ++ r ∧ m.length = n ∧ ∀ v ∈ m, f v = true
  | 0, l, r, h => by
    unfold ckA at h
    cases h
    exact ⟨[], rfl, rfl, fun v hv => by cases hv⟩
  | n + 1, [], r, h => by unfold ckA at h; cases h
  | n + 1, v :: l, r, h => by
    unfold ckA at h
    split at h
    · rename_i hv
      obtain ⟨m, h1, h2, h3⟩ := ckA_ok h
      refine ⟨v :: m, by rw [h1]; rfl, by simp [h2], fun w hw => ?_⟩
      rcases List.mem_cons.mp hw with rfl | hw
      · exact hv
      · exact h3 w hw
    · cases h
theorem ckB_ok {f : Value → Bool} : ∀ {a b : Nat} {l : List Value}, ckB f a b l = true → l.length = a * 1000 + b ∧ ∀ v ∈ l, f v = true
  | 0, b, l, h => by
    unfold ckB at h
    split at h
    · rename_i hm
      obtain ⟨m, h1, h2, h3⟩ := ckA_ok hm
      rw [List.append_nil] at h1
      subst h1
      exact ⟨by omega, h3⟩
    · cases h
  | a + 1, b, l, h => by
    unfold ckB at h
    split at h
    · rename_i l2 hm
      obtain ⟨m, h1, h2, h3⟩ := ckA_ok hm
      obtain ⟨k1, k2⟩ := ckB_ok h
      subst h1
      refine ⟨by rw [List.length_append]; omega, fun v hv => ?_⟩
      rcases List.mem_append.mp hv with hv | hv
      · exact h3 v hv
      · exact k2 v hv
    · cases h
theorem ckL_ok {tf : Nat → FieldType} : ∀ {j : Nat} {l : List Value}, ckL tf j l = true → ∀ (i : Nat) (v : Value), l[i]? = some v → ckV (tf (j + i)) v = true
  | j, [], h, i, v, hv => by simp at hv
  | j, w :: l, h, i, v, hv => by
    unfold ckL at h
    split at h
    · rename_i hw
      cases i with
      | zero => simp at hv; subst hv; exact hw
      | succ i =>
        have := ckL_ok h i v (by simpa using hv)
        rw [show j + (i + 1) = j + 1 + i by omega]
        exact this
    · cases h
theorem ckH_ok : ∀ {k : Nat} {l : hm_H}, ckH k l = true → ∀ (i : Nat) (x : hm_E), l[i]? = some x → ckE (k + i) x = true
  | k, [], h, i, x, hx => by simp at hx
  | k, y :: l, h, i, x, hx => by
    unfold ckH at h
    split at h
    · rename_i hy
      cases i with
      | zero => simp at hx; subst hx; exact hy
      | succ i =>
        have := ckH_ok h i x (by simpa using hx)
        rw [show k + (i + 1) = k + 1 + i by omega]
        exact this
    · cases h
theorem ckS_ok : ∀ {r : List (Option Nat)} {l : List Value}, ckS r l = true → ∀ (j p : Nat), r[j]? = some (some p) → l[j]? = some (Value.ref p)
  | [], l, h, j, p, hp => by simp at hp
  | none :: r, [], h, j, p, hp => by unfold ckS at h; cases h
  | none :: r, v :: l, h, j, p, hp => by
    unfold ckS at h
    cases j with
    | zero => simp at hp
    | succ j => simpa using ckS_ok h j p (by simpa using hp)
  | some q :: r, [], h, j, p, hp => by unfold ckS at h; cases h
  | some q :: r, v :: l, h, j, p, hp => by
    cases v with
    | ref a =>
      unfold ckS at h
      split at h
      · rename_i hq
        have e : q = a := Nat.eq_of_beq_eq_true hq
        cases j with
        | zero => simp at hp; subst hp; subst e; rfl
        | succ j => simpa using ckS_ok h j p (by simpa using hp)
      · cases h
    | _ => unfold ckS at h; cases h
theorem ckR_ok : ∀ {rs : List (List (Option Nat))} {l : hm_H}, ckR rs l = true → ∀ (i : Nat) (r : List (Option Nat)), rs[i]? = some r → ∃ x : hm_E, l[i]? = some x ∧ ckS r (slots x) = true
  | [], l, h, i, r, hr => by simp at hr
  | r0 :: rs, [], h, i, r, hr => by unfold ckR at h; cases h
  | r0 :: rs, x :: l, h, i, r, hr => by
    unfold ckR at h
    split at h
    · rename_i hx
      cases i with
      | zero => simp at hr; subst hr; exact ⟨x, rfl, hx⟩
      | succ i =>
        obtain ⟨y, h1, h2⟩ := ckR_ok h i r (by simpa using hr)
        exact ⟨y, by simpa using h1, h2⟩
    · cases h
theorem ckF_ok : ∀ {n q : Nat} {l : List Value}, ckF q n l = true → ∀ j : Nat, j < n → l[j]? = some (Value.ref (q + j))
  | 0, q, l, h, j, hj => absurd hj (by omega)
  | n + 1, q, [], h, j, hj => by unfold ckF at h; cases h
  | n + 1, q, v :: l, h, j, hj => by
    cases v with
    | ref a =>
      unfold ckF at h
      split at h
      · rename_i ha
        have e : a = q := Nat.eq_of_beq_eq_true ha
        cases j with
        | zero => rw [e]; rfl
        | succ j =>
          have := ckF_ok h j (by omega)
          rw [show q + (j + 1) = q + 1 + j by omega]
          simpa using this
      · cases h
    | _ => unfold ckF at h; cases h
theorem eqE_ok {x y : hm_E} (h : eqE x y = true) : x = y := by
  unfold eqE at h
  split at h
  · rw [of_decide_eq_true h]
  · rw [of_decide_eq_true h]
  · rw [of_decide_eq_true h]
  · cases h
theorem eqH_ok : ∀ {l m : hm_H}, eqH l m = true → l = m
  | [], [], _ => rfl
  | [], y :: m, h => by unfold eqH at h; cases h
  | x :: l, [], h => by unfold eqH at h; cases h
  | x :: l, y :: m, h => by
    unfold eqH at h
    split at h
    · rename_i hx
      rw [eqE_ok hx, eqH_ok h]
    · cases h
theorem sl_at9 (h : hm_H) (k j : Nat) : sl h k j = (at9 h k)[j]? := by
  unfold sl at9 slots
  cases h[k]? with
  | none => rfl
  | some x =>
    match x with
    | .inl q => rfl
    | .inr (.inl q) => rfl
    | .inr (.inr q) => rfl
theorem is_ok {h : hm_H} {k j : Nat} {v : Value} (hh : is h k j v = true) : r0 h k j = ivl v := by
  have h1 : (at9 h k)[j]? = some v := of_decide_eq_true hh
  unfold r0
  rw [sl_at9, h1]
theorem zr_ok {h : hm_H} {k n : Nat} (hh : zr h k n = true) : ∀ j, r0 h k j = 0 := fun j => by
  obtain ⟨h1, h2⟩ := ckB_ok hh
  unfold r0
  rw [sl_at9]
  cases hx : (at9 h k)[j]? with
  | none => rfl
  | some v =>
    have hv := h2 v (List.mem_of_getElem? hx)
    unfold ckZ at hv
    split at hv
    · rename_i x
      rw [of_decide_eq_true hv]
      rfl
    · cases hv
theorem ckE_ok {h : hm_H} {k n : Nat} {x : hm_E} {t : rK} (hx : h[k]? = some x) (hc : ckE k x = true) (ht : tb_TG k = some (t, n)) : tg h k = some (t, n) ∧ ∀ j, j < n → ∃ v, sl h k j = some v ∧ ckV (rty tb_ty t j) v = true := by
  unfold ckE at hc
  rw [ht] at hc
  cases t with
  | inl ty =>
    dsimp only at hc
    split at hc
    · rename_i ty2 l
      rw [Bool.and_eq_true, decide_eq_true_eq] at hc
      obtain ⟨e, hb⟩ := hc
      subst e
      obtain ⟨h1, h2⟩ := ckB_ok hb
      have hl : l.length = n := by omega
      refine ⟨by unfold tg; rw [hx]; dsimp only; rw [hl], fun j hj => ⟨l[j]'(by omega), ?_, h2 _ (List.getElem_mem _)⟩⟩
      unfold sl
      rw [hx]
      show l[j]? = _
      exact List.getElem?_eq_getElem _
    · cases hc
  | inr ci =>
    dsimp only at hc
    split at hc
    · rename_i c2 l
      rw [Bool.and_eq_true, Bool.and_eq_true] at hc
      obtain ⟨e, hb, hl⟩ := hc
      have e := Nat.eq_of_beq_eq_true e
      subst e
      have hb := Nat.eq_of_beq_eq_true hb
      refine ⟨by unfold tg; rw [hx]; dsimp only; rw [hb], fun j hj => ⟨l[j]'(by omega), ?_, ?_⟩⟩
      · unfold sl
        rw [hx]
        show l[j]? = _
        exact List.getElem?_eq_getElem _
      · have := ckL_ok hl j (l[j]'(by omega)) (List.getElem?_eq_getElem (by omega))
        rw [Nat.zero_add] at this
        exact this
    · cases hc
theorem TG_rng {k n : Nat} {t : rK} (h : tb_TG k = some (t, n)) : 96 ≤ k ∧ k < 1631 := by
  unfold tb_TG at h
  constructor
  · refine Nat.le_of_not_lt fun q => ?_
    rw [if_pos q] at h
    cases h
  · refine Nat.lt_of_not_le fun q => ?_
    rw [if_neg (by omega), if_neg (by omega), if_neg (by omega), if_neg (by omega), if_neg (by omega), if_neg (by omega), if_neg (by omega), if_neg (by omega)] at h
    cases h
theorem Rp_0 {h : hm_H} {c : Nat × Nat} (h1 : eqH ((h.take 96).drop 1) ((tb_ro []).drop 1) = true) (h2 : h.length = 1631) (h3 : ckH 96 (h.drop 96) = true) : rP (h, c) (r0 h) := by
  refine ⟨fun k t n hk => ?_, fun k e hk => ?_⟩
  · have hr := TG_rng hk
    have hx : h[k]? = some (h[k]'(by omega)) := List.getElem?_eq_getElem (by omega)
    have hc := ckH_ok h3 (k - 96) (h[k]'(by omega)) (by rw [List.getElem?_drop, show 96 + (k - 96) = k by omega]; exact hx)
    rw [show 96 + (k - 96) = k by omega] at hc
    obtain ⟨a1, a2⟩ := ckE_ok hx hc hk
    refine ⟨a1, fun j hj => ?_⟩
    obtain ⟨v, b1, b2⟩ := a2 j hj
    have b3 := ckV_ok b2
    have e : r0 h k j = ivl v := by unfold r0; rw [b1]
    rw [e]
    refine ⟨?_, b3.2⟩
    show sl h k j = _
    rw [b1]
    congr 1
    exact b3.1.trans (by cases t <;> rfl)
  · have e9 := eqH_ok h1
    unfold tb_RO at hk
    by_cases k0 : k = 0
    · rw [if_pos k0] at hk; cases hk
    · rw [if_neg k0] at hk
      have hl : (tb_ro []).length = 96 := by decide +kernel
      have hlt := (List.getElem?_eq_some_iff.mp hk).1
      have h5 : ((h.take 96).drop 1)[k - 1]? = ((tb_ro []).drop 1)[k - 1]? := by rw [e9]
      rw [List.getElem?_drop, List.getElem?_drop, show 1 + (k - 1) = k by omega, List.getElem?_take_of_lt (by omega), hk] at h5
      exact h5

theorem RF_0 {h : hm_H} (h2 : h.length = 1631) (h4 : ckR tb_rl (h.drop 96) = true) (h5 : ckF 220 700 (at9 h 219) = true) (h6 : ckF 921 700 (at9 h 920) = true) (h7 : ckF 1622 8 (at9 h 1621) = true) : RF (r0 h) := by
  have key : ∀ k j v, (at9 h k)[j]? = some (Value.ref v) → r0 h k j = (v : Int) := fun k j v hv => by
    unfold r0
    rw [sl_at9, hv]
    rfl
  intro k j v hv
  unfold tb_rc at hv
  by_cases a1 : k < 96
  · rw [if_pos a1] at hv; cases hv
  rw [if_neg a1] at hv
  by_cases a2 : k < 219
  · rw [if_pos a2] at hv
    cases hr : tb_rl[k - 96]? with
    | none => rw [hr] at hv; simp at hv
    | some r =>
      rw [hr] at hv
      have hv : (r[j]?).getD none = some v := hv
      cases hj : r[j]? with
      | none => rw [hj] at hv; cases hv
      | some o =>
        rw [hj] at hv
        have hv : o = some v := hv
        obtain ⟨x, b1, b2⟩ := ckR_ok h4 (k - 96) r hr
        have b3 := ckS_ok b2 j v (by rw [hj, hv])
        rw [List.getElem?_drop, show 96 + (k - 96) = k by omega] at b1
        refine key k j v ?_
        unfold at9
        rw [b1]
        exact b3
  rw [if_neg a2] at hv
  by_cases a3 : k = 219
  · rw [if_pos a3] at hv
    by_cases a4 : j < 700
    · rw [if_pos a4] at hv
      cases hv
      subst a3
      exact key 219 j _ (ckF_ok h5 j a4)
    · rw [if_neg a4] at hv; cases hv
  rw [if_neg a3] at hv
  by_cases a5 : k = 920
  · rw [if_pos a5] at hv
    by_cases a4 : j < 700
    · rw [if_pos a4] at hv
      cases hv
      subst a5
      exact key 920 j _ (ckF_ok h6 j a4)
    · rw [if_neg a4] at hv; cases hv
  rw [if_neg a5] at hv
  by_cases a6 : k = 1621
  · rw [if_pos a6] at hv
    by_cases a4 : j < 8
    · rw [if_pos a4] at hv
      cases hv
      subst a6
      exact key 1621 j _ (ckF_ok h7 j a4)
    · rw [if_neg a4] at hv; cases hv
  rw [if_neg a6] at hv
  cases hv
/-- the start -/
theorem start_ok {h : hm_H} {c : Nat × Nat} (hg : ckG h = true) : rP (h, c) (r0 h) ∧ XI 99 115 99 (r0 h) ∧ SI 177 186 (r0 h) ∧ RF (r0 h) ∧ r0 h 97 1 = 0 ∧ r0 h 170 1 = 0 ∧ r0 h 96 3 = 0 ∧ r0 h 170 20 = 0 ∧ (∀ j, r0 h 140 j = 0) ∧ ∀ j, r0 h 144 j = 0 := by
  unfold ckG at hg
  simp only [Bool.and_eq_true, decide_eq_true_eq] at hg
  obtain ⟨g1, g2, g3, g4, g5, g6, g7, z1, z2, z3, z4, z5, z6, z7, i1, i2, i3, i4, i5, i6, i7, qs, j1, j2, j3, j4, j5, j6, j7, j8, m1, m2, m3⟩ := hg
  have hRF := RF_0 g2 g4 g5 g6 g7
  have qq : ∀ q, q = 154 ∨ q = 156 ∨ q = 158 ∨ q = 160 ∨ q = 162 ∨ q = 164 ∨ q = 166 ∨ q = 168 → r0 h q 1 = 0 ∧ r0 h q 2 = 0 := fun q hq => by
    have := List.all_eq_true.mp qs q (by simp; omega)
    rw [Bool.and_eq_true] at this
    exact ⟨is_ok this.1, is_ok this.2⟩
  have t97 : r0 h 97 1 = 0 := is_ok i1
  have hKI : KI (r0 h) := by
    refine ⟨hRF, fun k j => ?_⟩
    by_cases e1 : k = 97
    · subst e1
      by_cases hj : j = 1
      · subst hj; exact kb_of (a := 0) (b := 2000) rfl (by rw [t97]; omega)
      · exact kb_no (by simp [kbd, hj])
    by_cases e2 : k = 99 ∨ k = 115
    · by_cases hj : j = 12
      · subst hj
        refine kb_of (kC_12 e2) ?_
        rcases e2 with rfl | rfl
        · rw [is_ok i2]; decide
        · rw [is_ok i3]; decide
      · exact kb_no (by rcases e2 with rfl | rfl <;> simp [kbd, hj])
    by_cases e3 : k = 105 ∨ k = 121
    · by_cases hj : j = 3
      · subst hj
        rcases e3 with rfl | rfl
        · exact kb_of (a := 0) (b := 58) rfl (by rw [is_ok i4]; decide)
        · exact kb_of (a := 0) (b := 58) rfl (by rw [is_ok i5]; decide)
      · exact kb_no (by rcases e3 with rfl | rfl <;> simp [kbd, hj])
    by_cases e4 : k = 109 ∨ k = 125
    · rcases e4 with rfl | rfl
      · exact kb_of (a := 0) (b := LIM j) rfl (by rw [zr_ok z1]; exact ⟨by omega, LIM_nn j⟩)
      · exact kb_of (a := 0) (b := LIM j) rfl (by rw [zr_ok z2]; exact ⟨by omega, LIM_nn j⟩)
    by_cases e5 : k = 111 ∨ k = 127
    · rcases e5 with rfl | rfl
      · exact kb_of (a := 0) (b := 64) rfl (by rw [zr_ok z3]; omega)
      · exact kb_of (a := 0) (b := 64) rfl (by rw [zr_ok z4]; omega)
    by_cases e6 : k = 131
    · subst e6
      by_cases hj : j = 6
      · subst hj; exact kb_of (a := 0) (b := 210) rfl (by rw [is_ok i6]; decide)
      · exact kb_no (by simp [kbd, hj])
    by_cases e138 : k = 138
    · subst e138
      have hv : r0 h 138 j = RWf j := by
        unfold r0
        rw [sl_at9, j8]
        by_cases hj : j < 15
        · have : j = 0 ∨ j = 1 ∨ j = 2 ∨ j = 3 ∨ j = 4 ∨ j = 5 ∨ j = 6 ∨ j = 7 ∨ j = 8 ∨ j = 9 ∨ j = 10 ∨ j = 11 ∨ j = 12 ∨ j = 13 ∨ j = 14 := by omega
          rcases this with rfl | rfl | rfl | rfl | rfl | rfl | rfl | rfl | rfl | rfl | rfl | rfl | rfl | rfl | rfl <;> decide
        · have hl : (RWl.map fun z => Value.long (Int64.ofInt z)).length = 15 := rfl
          have hl2 : RWl.length = 15 := rfl
          rw [List.getElem?_eq_none (by omega)]
          unfold RWf
          rw [List.getD_eq_getElem?_getD, List.getElem?_eq_none (by omega)]
          rfl
      exact kb_of (a := RWf j) (b := RWf j) rfl (by rw [hv]; omega)
    by_cases e7 : k = 142
    · subst e7
      by_cases hj : j = 6
      · subst hj; exact kb_of (a := 0) (b := 2000) rfl (by rw [is_ok i7]; decide)
      · exact kb_no (by simp [kbd, hj])
    by_cases e8 : k = 147
    · subst e8
      exact kb_of (a := 0) (b := 1999) rfl (by rw [zr_ok z5]; omega)
    by_cases e9 : k = 152 ∨ k = 153
    · rcases e9 with rfl | rfl
      · exact kb_of (a := -1) (b := 1999) rfl (by rw [zr_ok z6]; omega)
      · exact kb_of (a := -1) (b := 1999) rfl (by rw [zr_ok z7]; omega)
    by_cases e10 : k = 154 ∨ k = 156 ∨ k = 158 ∨ k = 160 ∨ k = 162 ∨ k = 164 ∨ k = 166 ∨ k = 168
    · have q2 := qq k e10
      by_cases hj : j = 1
      · subst hj; exact kb_of (kQ_1 e10) (by rw [q2.1]; omega)
      · by_cases hj2 : j = 2
        · subst hj2; exact kb_of (kQ_2 e10) (by rw [q2.2]; omega)
        · exact kb_no (by rcases e10 with rfl | rfl | rfl | rfl | rfl | rfl | rfl | rfl <;> simp [kbd, hj, hj2])
    exact kb_no (by unfold kbd; rw [if_neg e1, if_neg e2, if_neg e3, if_neg e4, if_neg e5, if_neg e6, if_neg e138, if_neg e7, if_neg e8, if_neg e9, if_neg e10])
  exact ⟨Rp_0 g1 g2 g3, ⟨hKI, .inl rfl, .inr rfl, .inl rfl, is_ok j1, is_ok j2, is_ok j3⟩, ⟨.inl ⟨rfl, rfl⟩, by rw [is_ok j4]; decide, is_ok j6, is_ok j7, .inl (is_ok j5)⟩, hRF, t97, is_ok j4, is_ok m1, is_ok j5, zr_ok m2, zr_ok m3⟩
theorem pc_matched {a : Option hm_S} (h : pc_fin a = true) : ∃ S, a = some S ∧ pc_chk S = true := by
  cases a with
  | none => cases h
  | some S => exact ⟨S, rfl, h⟩
theorem pc_begun (E : hm_E) : ∃ (G : hm_G) (s : rS), rP G s.1 ∧ G.2 = s.2 ∧ s.2 = (1535, 815634) ∧ G.1[0]? = some E ∧ XI 99 115 99 s.1 ∧ SI 177 186 s.1 ∧ RF s.1 ∧ s.1 97 1 = 0 ∧ s.1 170 1 = 0 ∧ (s.1 96 3 = 0 ∧ s.1 170 20 = 0 ∧ (∀ j, s.1 140 j = 0) ∧ ∀ j, s.1 144 j = 0) ∧ ∀ gf out, hm_bo tb_T tb_pg 600 tb_M0 (18, [(3, .int 0), (2, .ref 170), (1, .ref 96), (0, .ref 0)], [], G) gf out → hm_bo tb_T tb_pg 600 tb_M0 (0, [(0, .ref 0)], [], hz_g E pz_S0.2.2.2) gf out := by
  obtain ⟨S, hS, hc⟩ := pc_matched pc_closed
  have hz0 : hz_ok pz_S0.2.2.2.1 := rfl
  unfold pc_chk at hc
  simp only [Bool.and_eq_true, decide_eq_true_eq] at hc
  obtain ⟨c1, c2, c3, c4, c5⟩ := hc
  obtain ⟨p1, p2, p3, p4, p5, p6, p7⟩ := start_ok (c := S.2.2.2.2) c5
  obtain ⟨q1, q2⟩ := hz_go_n (E := E) (c2 := hm_call tb_T tb_pg 100000 600) (by decide) (hz_calls (by decide) 600) 10 pz_S0 _ hz0 hS
  refine ⟨hz_g E S.2.2.2, (r0 S.2.2.2.1, S.2.2.2.2), Rp_out p1 rfl (fun e he => by cases he), rfl, c4, List.getElem?_set_self (hz_len q2), p2, p3, p4, p5, p6, p7, fun gf out k => hm_bo_n 10 _ _ q1 ?_⟩
  rw [c1, c2, c3]
  exact k
