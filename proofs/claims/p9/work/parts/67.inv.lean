/-! What holds while the reference reads a text. -/
abbrev tab : Type := Nat → Nat → Int
/-- how many procs and funs are known, where the text of the one at hand begins, how many arrays there are; the procs' and funs' entries, first weights, frames, first branches -/
abbrev gH : Type := Nat × Int × Nat × (Nat → Nat) × (Nat → Nat) × (Nat → fR) × (Nat → Nat)
abbrev gn (y : gH) : Nat := y.1
abbrev gt (y : gH) : Int := y.2.1
abbrev ga (y : gH) : Nat := y.2.2.1
abbrev ge (y : gH) : Nat → Nat := y.2.2.2.1
abbrev gw (y : gH) : Nat → Nat := y.2.2.2.2.1
abbrev gd (y : gH) : Nat → fR := y.2.2.2.2.2.1
abbrev gk (y : gH) : Nat → Nat := y.2.2.2.2.2.2
abbrev gG (y : gH) : Ph := Gr (gn y) (ge y) (gw y) (gd y)
/-- the branches of the procs and funs of a mask -/
def ZM (ko : Nat → Nat) (m : Nat) (x : Nat) : Prop := ∃ i, m.testBit i = true ∧ ko i ≤ x ∧ x < ko (i + 1)
/-- a mask of known procs and funs -/
def MB (nr : Nat) (z : Int) : Prop := ∃ m : Nat, z = (m : Int) ∧ ∀ i, m.testBit i = true → i < nr
def CT (C : Nat) (r : tab) : Prop := (0 ≤ r C 4 ∧ r C 4 ≤ 24) ∧ (0 ≤ r C 5 ∧ r C 5 ≤ 6) ∧ (0 ≤ r C 6 ∧ r C 6 ≤ 8) ∧ (0 ≤ r C 7 ∧ r C 7 ≤ 4) ∧ (0 ≤ r C 8 ∧ r C 8 ≤ 4) ∧ (0 ≤ r C 9 ∧ r C 9 ≤ 12) ∧ r 170 14 ≤ r C 4 + r C 5 + r C 6 + r C 7 + r C 8 + r C 9
/-- a known proc or fun -/
def R1 (y : gH) (r : tab) (i : Nat) : Prop := r 200 i = (ge y i : Int) ∧ 0 ≤ r 201 i ∧ r 201 i ≤ 4 ∧ 0 ≤ r 202 i ∧ r 202 i + r 201 i ≤ 24 ∧ frk (gd y i) = i ∧ 2 ≤ fk (gd y i) ∧ fk (gd y i) ≤ 3 ∧ 2 * (frm (gd y i) : Int) ≤ gt y ∧ ∃ m : Nat, r 199 i = (m : Int) ∧ (∀ j, m.testBit j = true → j ≤ i) ∧ ∀ x, fz (gd y i) x → ZM (gk y) m x
/-- what a name can mean -/
def N1 (C : Nat) (y : gH) (r : tab) (k : Nat) : Prop := (r 174 k = 1 → r 175 k < r C 5) ∧ (r 174 k = 5 → r 175 k = r 170 35 ∨ ∃ i : Nat, i < gn y ∧ r 175 k = (i : Int) ∧ fk (gd y i) = 2) ∧ (r 174 k = 6 → r 175 k = r 170 35 ∨ ∃ i : Nat, i < gn y ∧ r 175 k = (i : Int) ∧ fk (gd y i) = 3)
def RT (C : Nat) (y : gH) (r : tab) : Prop := (gn y ≤ 12 ∧ r C 5 = (ga y : Int)) ∧ (r 170 35 = -1 ∧ r C 9 = (gn y : Int) ∨ r 170 35 = (gn y : Int) ∧ r C 9 = (gn y : Int) + 1) ∧ 0 ≤ gt y ∧ gt y ≤ r 170 5 ∧ True ∧ (∀ i : Nat, i < gn y → R1 y r i) ∧ (∀ k : Nat, (k : Int) < r 170 14 → N1 C y r k) ∧ ∀ a : Nat, (a : Int) < r C 5 → 1 ≤ r (C + 3) a ∧ r (C + 3) a ≤ 64
def PI (C : Nat) (y : gH) (r : tab) : Prop := r 170 19 = (C : Int) ∧ LX r ∧ NM r ∧ CT C r ∧ RT C y r
/-- the slots that reading a STATEMENT may change -/
def SS (C : Nat) (r : tab) (k j : Nat) : Prop := (k = 170 ∧ (3 ≤ j ∧ j ≤ 7 ∨ 14 ≤ j ∧ j ≤ 16 ∨ 21 ≤ j ∧ j ≤ 26)) ∨ (172 ≤ k ∧ k ≤ 176 ∧ r 170 14 ≤ (j : Int)) ∨ (k = C ∧ (j = 1 ∨ j = 3 ∨ j = 4 ∨ j = 10)) ∨ (k = C + 1 ∧ r C 1 ≤ (j : Int)) ∨ k = C + 2
/-- the slots that reading a text may change -/
def PS (C : Nat) (k j : Nat) : Prop := (k = 170 ∧ (2 ≤ j ∧ j ≤ 8 ∨ 14 ≤ j ∧ j ≤ 16 ∨ 21 ≤ j ∧ j ≤ 26 ∨ 35 ≤ j ∧ j ≤ 37)) ∨ (172 ≤ k ∧ k ≤ 176) ∨ (k = C ∧ (1 ≤ j ∧ j ≤ 10 ∨ j = 18)) ∨ (C + 1 ≤ k ∧ k ≤ C + 8) ∨ (195 ≤ k ∧ k ≤ 202)
def FR (C : Nat) (r r2 : tab) : Prop := ∀ k j, ¬ PS C k j → r2 k j = r k j
def BX (C nr : Nat) (r r2 : tab) : Prop := (∀ k j, ¬ SS C r k j → r2 k j = r k j) ∧ LX r2 ∧ NM r2 ∧ r 170 5 ≤ r2 170 5 ∧ r C 1 ≤ r2 C 1 ∧ r 170 14 ≤ r2 170 14 ∧ r2 170 14 - r 170 14 ≤ r2 C 4 - r C 4 ∧ r2 C 4 ≤ 24 ∧ r C 4 ≤ r2 C 4 ∧ (∀ k : Nat, r 170 14 ≤ (k : Int) → (k : Int) < r2 170 14 → r2 174 k = 0) ∧ (r2 170 21 < 0 → r 170 21 < 0) ∧ True ∧ (MB nr (r 170 26) → MB nr (r2 170 26))
/-- more bits -/
def CS (r r2 : tab) : Prop := ∀ i, (r 170 26).toNat.testBit i = true → (r2 170 26).toNat.testBit i = true
theorem CS_rf {r : tab} : CS r r := fun _ h => h
theorem CS_tr {r r1 r2 : tab} (h : CS r r1) (k : CS r1 r2) : CS r r2 := fun i q => k i (h i q)
theorem CS_eq {r r2 : tab} (h : r2 170 26 = r 170 26) : CS r r2 := fun i q => by rw [h]; exact q
section INV
variable {C nr : Nat} {y : gH} {r r1 r2 : tab} {z : Int} {j : Nat}
theorem SS_PS {k : Nat} (h : SS C r k j) : PS C k j := by
  unfold SS at h
  unfold PS
  omega
theorem BX_FR (h : BX C nr r r2) : FR C r r2 := fun k j hn => h.1 k j fun q => hn (SS_PS q)
theorem FR_rf : FR C r r := fun _ _ _ => rfl
theorem FR_tr (h : FR C r r1) (k : FR C r1 r2) : FR C r r2 := fun a b hn => (k a b hn).trans (h a b hn)
theorem FR_bad (h : same 170 [8] r r2) : FR C r r2 := fun k j hn => h k j fun q => hn (.inl ⟨q.1, by have := q.2; simp only [List.mem_cons, List.not_mem_nil, or_false] at this; omega⟩)
theorem FR_up {k : Nat} (h : FR C r r1) (hk : PS C k j) : FR C r (up2 r1 k j z) := fun a b hn => (if_neg fun e => hn (by rw [e.1, e.2]; exact hk)).trans (h a b hn)
theorem PS_rc (hC : C = 177 ∨ C = 186) {k : Nat} (q : PS C k j) : tb_rc k j = none := by
  rcases q with ⟨rfl, q2⟩ | q | ⟨rfl, q2⟩ | q | q
  · have : j = 2 ∨ j = 3 ∨ j = 4 ∨ j = 5 ∨ j = 6 ∨ j = 7 ∨ j = 8 ∨ j = 14 ∨ j = 15 ∨ j = 16 ∨ j = 21 ∨ j = 22 ∨ j = 23 ∨ j = 24 ∨ j = 25 ∨ j = 26 ∨ j = 35 ∨ j = 36 ∨ j = 37 := by omega
    rcases this with rfl | rfl | rfl | rfl | rfl | rfl | rfl | rfl | rfl | rfl | rfl | rfl | rfl | rfl | rfl | rfl | rfl | rfl | rfl <;> rfl
  · have : k = 172 ∨ k = 173 ∨ k = 174 ∨ k = 175 ∨ k = 176 := by omega
    rcases this with rfl | rfl | rfl | rfl | rfl <;> rfl
  · have : j = 1 ∨ j = 2 ∨ j = 3 ∨ j = 4 ∨ j = 5 ∨ j = 6 ∨ j = 7 ∨ j = 8 ∨ j = 9 ∨ j = 10 ∨ j = 18 := by omega
    rcases hC with rfl | rfl <;> rcases this with rfl | rfl | rfl | rfl | rfl | rfl | rfl | rfl | rfl | rfl | rfl <;> rfl
  · rcases hC with rfl | rfl
    · have : k = 178 ∨ k = 179 ∨ k = 180 ∨ k = 181 ∨ k = 182 ∨ k = 183 ∨ k = 184 ∨ k = 185 := by omega
      rcases this with rfl | rfl | rfl | rfl | rfl | rfl | rfl | rfl <;> rfl
    · have : k = 187 ∨ k = 188 ∨ k = 189 ∨ k = 190 ∨ k = 191 ∨ k = 192 ∨ k = 193 ∨ k = 194 := by omega
      rcases this with rfl | rfl | rfl | rfl | rfl | rfl | rfl | rfl <;> rfl
  · have : k = 195 ∨ k = 196 ∨ k = 197 ∨ k = 198 ∨ k = 199 ∨ k = 200 ∨ k = 201 ∨ k = 202 := by omega
    rcases this with rfl | rfl | rfl | rfl | rfl | rfl | rfl | rfl <;> rfl
theorem FR_RF (hC : C = 177 ∨ C = 186) (h : FR C r r2) (hR : RF r) : RF r2 := fun k j v hv => by
  refine (h k j fun q => ?_).trans (hR k j v hv)
  rw [PS_rc hC q] at hv
  cases hv
theorem BX_RF (hC : C = 177 ∨ C = 186) (h : BX C nr r r2) (hR : RF r) : RF r2 := FR_RF hC (BX_FR h) hR
theorem BX_tr (hC : C = 177 ∨ C = 186) (h : BX C nr r r1) (k : BX C nr r1 r2) : BX C nr r r2 := by
  obtain ⟨a1, a2, a3, a4, a5, a6, a7, a8, a9, a10, a11, a12⟩ := id h
  obtain ⟨b1, b2, b3, b4, b5, b6, b7, b8, b9, b10, b11, b12⟩ := id k
  refine ⟨fun p q hn => (b1 p q fun e => hn ?_).trans (a1 p q hn), b2, b3, by omega, by omega, by omega, by omega, b8, by omega, fun p h1 h2 => ?_, fun q => a11 (b11 q), b12.1, fun q => b12.2 (a12.2 q)⟩
  · unfold SS at e ⊢
    omega
  · by_cases e : r1 170 14 ≤ (p : Int)
    · exact b10 p e h2
    · rw [b1 174 p (by unfold SS; omega)]
      exact a10 p h1 (by omega)
theorem BX_rf (hL : LX r) (hN : NM r) (h4 : r C 4 ≤ 24) : BX C nr r r := ⟨fun _ _ _ => rfl, hL, hN, Int.le_refl _, Int.le_refl _, Int.le_refl _, by omega, h4, Int.le_refl _, fun k h1 h2 => absurd h2 (by omega), id, trivial, id⟩
/-- reading a STATEMENT keeps what holds -/
theorem PI_BX (hC : C = 177 ∨ C = 186) (h : PI C y r) (k : BX C (gn y) r r2) : PI C y r2 := by
  obtain ⟨p1, p2, p3, p4, q0, q1, q2, q3, q4, q5, q6, q7⟩ := h
  obtain ⟨b1, b2, b3, b4, b5, b6, b7, b8, b9, b10, b11, b12⟩ := k
  have e5 : r2 C 5 = r C 5 := b1 C 5 (by unfold SS; omega)
  have e6 : r2 C 6 = r C 6 := b1 C 6 (by unfold SS; omega)
  have e7 : r2 C 7 = r C 7 := b1 C 7 (by unfold SS; omega)
  have e8 : r2 C 8 = r C 8 := b1 C 8 (by unfold SS; omega)
  have e9 : r2 C 9 = r C 9 := b1 C 9 (by unfold SS; omega)
  have e35 : r2 170 35 = r 170 35 := b1 170 35 (by unfold SS; omega)
  refine ⟨(b1 170 19 (by unfold SS; omega)).trans p1, b2, b3, ?_, by rw [e5]; exact q0, by rw [e35, e9]; exact q1, q2, by omega, b12.1, fun i hi => ?_, fun k hk => ?_, fun a ha => ?_⟩
  · unfold CT at p4 ⊢
    rw [e5, e6, e7, e8, e9]
    omega
  · have := q5 i hi
    unfold R1 at this ⊢
    rw [b1 199 i (by unfold SS; omega), b1 200 i (by unfold SS; omega), b1 201 i (by unfold SS; omega), b1 202 i (by unfold SS; omega)]
    exact this
  · by_cases e : r 170 14 ≤ (k : Int)
    · have h0 := b10 k e hk
      unfold N1
      rw [h0]
      exact ⟨fun q => absurd q (by decide), fun q => absurd q (by decide), fun q => absurd q (by decide)⟩
    · have g1 := b1 174 k (by unfold SS; omega)
      have g2 := b1 175 k (by unfold SS; omega)
      have := q6 k (by omega)
      unfold N1 at this ⊢
      rw [g1, g2, e5, e35]
      exact this
  · rw [b1 (C + 3) a (by unfold SS; omega)]
    exact q7 a (by omega)
/-- single slots -/
def quiet (C k j : Nat) : Prop := ¬ (k = 170 ∧ (2 ≤ j ∧ j ≤ 7 ∨ j = 14 ∨ j = 21 ∨ j = 26)) ∧ ¬ (k = C ∧ (j = 1 ∨ j = 4)) ∧ ¬ (172 ≤ k ∧ k ≤ 176)
theorem LX_at (h : LX r1) (e : ∀ j, 2 ≤ j → j ≤ 7 → r2 170 j = r1 170 j) : LX r2 := by
  unfold LX at h ⊢
  rw [e 2 (by omega) (by omega), e 3 (by omega) (by omega), e 4 (by omega) (by omega), e 5 (by omega) (by omega), e 6 (by omega) (by omega), e 7 (by omega) (by omega)]
  exact h
theorem NM_at (h : NM r1) (e0 : r2 170 14 = r1 170 14) (e : ∀ k j, 172 ≤ k → k ≤ 175 → r2 k j = r1 k j) : NM r2 := by
  unfold NM at h ⊢
  rw [e0]
  refine ⟨h.1, h.2.1, fun k hk => ?_⟩
  rw [e 172 k (by omega) (by omega), e 173 k (by omega) (by omega), e 174 k (by omega) (by omega), e 175 k (by omega) (by omega)]
  exact h.2.2 k hk
theorem BX_set {k : Nat} (hC : C = 177 ∨ C = 186) (h : BX C nr r r1) (hs : SS C r k j) (hq : quiet C k j) : BX C nr r (up2 r1 k j z) := by
  obtain ⟨a1, a2, a3, a4, a5, a6, a7, a8, a9, a10, a11, a12⟩ := h
  have u : ∀ k2 j2, ¬ (k2 = k ∧ j2 = j) → up2 r1 k j z k2 j2 = r1 k2 j2 := fun k j2 h => if_neg h
  have us : up2 r1 k j z k j = z := up_self
  refine ⟨fun p q hn => (u p q (by rintro ⟨rfl, rfl⟩; exact hn hs)).trans (a1 p q hn), LX_at a2 (fun j2 h1 h2 => u 170 j2 (by first | omega | (unfold quiet at hq; omega))), NM_at a3 (u 170 14 (by first | omega | (unfold quiet at hq; omega))) (fun k2 j2 h1 h2 => u k2 j2 (by first | omega | (unfold quiet at hq; omega))), ?_, ?_, ?_, ?_, ?_, ?_, ?_, ?_, ?_⟩
  · rw [(u 170 5 (by first | omega | (unfold quiet at hq; omega)))]; exact a4
  · rw [(u C 1 (by first | omega | (unfold quiet at hq; omega)))]; exact a5
  · rw [(u 170 14 (by first | omega | (unfold quiet at hq; omega)))]; exact a6
  · rw [(u 170 14 (by first | omega | (unfold quiet at hq; omega))), (u C 4 (by first | omega | (unfold quiet at hq; omega)))]; exact a7
  · rw [(u C 4 (by first | omega | (unfold quiet at hq; omega)))]; exact a8
  · rw [(u C 4 (by first | omega | (unfold quiet at hq; omega)))]; exact a9
  · intro k2 h1 h2
    rw [(u 170 14 (by first | omega | (unfold quiet at hq; omega)))] at h2
    rw [(u 174 k2 (by first | omega | (unfold quiet at hq; omega)))]
    exact a10 k2 h1 h2
  · rw [(u 170 21 (by first | omega | (unfold quiet at hq; omega)))]; exact a11
  · rw [(u 170 26 (by first | omega | (unfold quiet at hq; omega)))]; exact a12
theorem BX_many (hC : C = 177 ∨ C = 186) (h : BX C nr r r1) (hz : r C 1 ≤ z) : BX C nr r (up2 r1 C 1 z) := by
  obtain ⟨a1, a2, a3, a4, a5, a6, a7, a8, a9, a10, a11, a12⟩ := h
  have u : ∀ k2 j2, ¬ (k2 = C ∧ j2 = 1) → up2 r1 C 1 z k2 j2 = r1 k2 j2 := fun k j2 h => if_neg h
  have us : up2 r1 C 1 z C 1 = z := up_self
  refine ⟨fun p q hn => (u p q (by rintro ⟨rfl, rfl⟩; exact hn (by unfold SS; omega))).trans (a1 p q hn), LX_at a2 (fun j2 h1 h2 => u 170 j2 (by first | omega | (unfold quiet at hq; omega))), NM_at a3 (u 170 14 (by first | omega | (unfold quiet at hq; omega))) (fun k2 j2 h1 h2 => u k2 j2 (by first | omega | (unfold quiet at hq; omega))), ?_, ?_, ?_, ?_, ?_, ?_, ?_, ?_, ?_⟩
  · rw [(u 170 5 (by first | omega | (unfold quiet at hq; omega)))]; exact a4
  · rw [us]; exact hz
  · rw [(u 170 14 (by first | omega | (unfold quiet at hq; omega)))]; exact a6
  · rw [(u 170 14 (by first | omega | (unfold quiet at hq; omega))), (u C 4 (by first | omega | (unfold quiet at hq; omega)))]; exact a7
  · rw [(u C 4 (by first | omega | (unfold quiet at hq; omega)))]; exact a8
  · rw [(u C 4 (by first | omega | (unfold quiet at hq; omega)))]; exact a9
  · intro k2 h1 h2
    rw [(u 170 14 (by first | omega | (unfold quiet at hq; omega)))] at h2
    rw [(u 174 k2 (by first | omega | (unfold quiet at hq; omega)))]
    exact a10 k2 h1 h2
  · rw [(u 170 21 (by first | omega | (unfold quiet at hq; omega)))]; exact a11
  · rw [(u 170 26 (by first | omega | (unfold quiet at hq; omega)))]; exact a12
theorem BX_par (hC : C = 177 ∨ C = 186) (h : BX C nr r r1) (hz : z < 0 → r 170 21 < 0) : BX C nr r (up2 r1 170 21 z) := by
  obtain ⟨a1, a2, a3, a4, a5, a6, a7, a8, a9, a10, a11, a12⟩ := h
  have u : ∀ k2 j2, ¬ (k2 = 170 ∧ j2 = 21) → up2 r1 170 21 z k2 j2 = r1 k2 j2 := fun k j2 h => if_neg h
  have us : up2 r1 170 21 z 170 21 = z := up_self
  refine ⟨fun p q hn => (u p q (by rintro ⟨rfl, rfl⟩; exact hn (by unfold SS; omega))).trans (a1 p q hn), LX_at a2 (fun j2 h1 h2 => u 170 j2 (by first | omega | (unfold quiet at hq; omega))), NM_at a3 (u 170 14 (by first | omega | (unfold quiet at hq; omega))) (fun k2 j2 h1 h2 => u k2 j2 (by first | omega | (unfold quiet at hq; omega))), ?_, ?_, ?_, ?_, ?_, ?_, ?_, ?_, ?_⟩
  · rw [(u 170 5 (by first | omega | (unfold quiet at hq; omega)))]; exact a4
  · rw [(u C 1 (by first | omega | (unfold quiet at hq; omega)))]; exact a5
  · rw [(u 170 14 (by first | omega | (unfold quiet at hq; omega)))]; exact a6
  · rw [(u 170 14 (by first | omega | (unfold quiet at hq; omega))), (u C 4 (by first | omega | (unfold quiet at hq; omega)))]; exact a7
  · rw [(u C 4 (by first | omega | (unfold quiet at hq; omega)))]; exact a8
  · rw [(u C 4 (by first | omega | (unfold quiet at hq; omega)))]; exact a9
  · intro k2 h1 h2
    rw [(u 170 14 (by first | omega | (unfold quiet at hq; omega)))] at h2
    rw [(u 174 k2 (by first | omega | (unfold quiet at hq; omega)))]
    exact a10 k2 h1 h2
  · rw [us]; exact hz
  · rw [(u 170 26 (by first | omega | (unfold quiet at hq; omega)))]; exact a12
theorem BX_called (hC : C = 177 ∨ C = 186) (h : BX C nr r r1) (hz : True ∧ (MB nr (r 170 26) → MB nr z)) : BX C nr r (up2 r1 170 26 z) := by
  obtain ⟨a1, a2, a3, a4, a5, a6, a7, a8, a9, a10, a11, a12⟩ := h
  have u : ∀ k2 j2, ¬ (k2 = 170 ∧ j2 = 26) → up2 r1 170 26 z k2 j2 = r1 k2 j2 := fun k j2 h => if_neg h
  have us : up2 r1 170 26 z 170 26 = z := up_self
  refine ⟨fun p q hn => (u p q (by rintro ⟨rfl, rfl⟩; exact hn (by unfold SS; omega))).trans (a1 p q hn), LX_at a2 (fun j2 h1 h2 => u 170 j2 (by first | omega | (unfold quiet at hq; omega))), NM_at a3 (u 170 14 (by first | omega | (unfold quiet at hq; omega))) (fun k2 j2 h1 h2 => u k2 j2 (by first | omega | (unfold quiet at hq; omega))), ?_, ?_, ?_, ?_, ?_, ?_, ?_, ?_, ?_⟩
  · rw [(u 170 5 (by first | omega | (unfold quiet at hq; omega)))]; exact a4
  · rw [(u C 1 (by first | omega | (unfold quiet at hq; omega)))]; exact a5
  · rw [(u 170 14 (by first | omega | (unfold quiet at hq; omega)))]; exact a6
  · rw [(u 170 14 (by first | omega | (unfold quiet at hq; omega))), (u C 4 (by first | omega | (unfold quiet at hq; omega)))]; exact a7
  · rw [(u C 4 (by first | omega | (unfold quiet at hq; omega)))]; exact a8
  · rw [(u C 4 (by first | omega | (unfold quiet at hq; omega)))]; exact a9
  · intro k2 h1 h2
    rw [(u 170 14 (by first | omega | (unfold quiet at hq; omega)))] at h2
    rw [(u 174 k2 (by first | omega | (unfold quiet at hq; omega)))]
    exact a10 k2 h1 h2
  · rw [(u 170 21 (by first | omega | (unfold quiet at hq; omega)))]; exact a11
  · rw [us]; exact hz
theorem BX_names (hC : C = 177 ∨ C = 186) (h : BX C nr r r1) (hn0 : 0 ≤ r 170 14) (hz : z = r 170 14) : BX C nr r (up2 r1 170 14 z) := by
  obtain ⟨a1, a2, a3, a4, a5, a6, a7, a8, a9, a10, a11, a12⟩ := h
  have u : ∀ k2 j2, ¬ (k2 = 170 ∧ j2 = 14) → up2 r1 170 14 z k2 j2 = r1 k2 j2 := fun k j2 h => if_neg h
  have us : up2 r1 170 14 z 170 14 = z := up_self
  refine ⟨fun p q hn => (u p q (by rintro ⟨rfl, rfl⟩; exact hn (by unfold SS; omega))).trans (a1 p q hn), LX_at a2 (fun j2 h1 h2 => u 170 j2 (by first | omega | (unfold quiet at hq; omega))), ?_, ?_, ?_, ?_, ?_, ?_, ?_, ?_, ?_, ?_⟩
  · unfold NM at a3 ⊢
    rw [us]
    refine ⟨by have := hn0; omega, by omega, fun k2 hk => ?_⟩
    rw [u 172 k2 (by omega), u 173 k2 (by omega), u 174 k2 (by omega), u 175 k2 (by omega)]
    exact a3.2.2 k2 (by omega)
  · rw [(u 170 5 (by first | omega | (unfold quiet at hq; omega)))]; exact a4
  · rw [(u C 1 (by first | omega | (unfold quiet at hq; omega)))]; exact a5
  · rw [us]; omega
  · rw [us, u C 4 (by omega)]; omega
  · rw [(u C 4 (by first | omega | (unfold quiet at hq; omega)))]; exact a8
  · rw [(u C 4 (by first | omega | (unfold quiet at hq; omega)))]; exact a9
  · intro k2 h1 h2
    rw [us] at h2
    omega
  · rw [(u 170 21 (by first | omega | (unfold quiet at hq; omega)))]; exact a11
  · rw [(u 170 26 (by first | omega | (unfold quiet at hq; omega)))]; exact a12
end INV
