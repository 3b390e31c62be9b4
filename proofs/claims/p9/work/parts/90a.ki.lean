/-! The bounds that the numbers of our own objects keep. -/
def LIM (j : Nat) : Int := match j with
  | 0 => 24
  | 1 => 6
  | 2 => 8
  | 3 => 4
  | 4 => 4
  | 5 => 12
  | _ => 0
/-- the words that are no names, as they stand in thing 138 -/
def RWl : List Int := [7758194, 6909556, 418531926393, 1667785070, 26990, 7304564, 1886547811, 6714734, 26982, 1701606245, 512852847717, 125780002955636, 7364978, 125780071117422, 1936419184]
def RWf (j : Nat) : Int := RWl.getD j 0
def kbd (k j : Nat) : Option (Int × Int) :=
  if k = 97 then (if j = 1 then some (0, 2000) else none)
  else if k = 99 ∨ k = 115 then (if j = 12 then some (0, 2000) else none)
  else if k = 105 ∨ k = 121 then (if j = 3 then some (0, 58) else none)
  else if k = 109 ∨ k = 125 then some (0, LIM j)
  else if k = 111 ∨ k = 127 then some (0, 64)
  else if k = 131 then (if j = 6 then some (0, 210) else none)
  else if k = 138 then some (RWf j, RWf j)
  else if k = 142 then (if j = 6 then some (0, 2000) else none)
  else if k = 147 then some (0, 1999)
  else if k = 152 ∨ k = 153 then some (-1, 1999)
  else if k = 154 ∨ k = 156 ∨ k = 158 ∨ k = 160 ∨ k = 162 ∨ k = 164 ∨ k = 166 ∨ k = 168 then (if j = 1 then some (0, 39) else if j = 2 then some (0, 40) else none)
  else none
def kb (k j : Nat) (z : Int) : Prop := match kbd k j with
  | none => True
  | some b => b.1 ≤ z ∧ z ≤ b.2
def KI (r : tab) : Prop := RF r ∧ ∀ k j, kb k j (r k j)
/-- what no inner call changes -/
def fx (k j : Nat) : Prop := 170 ≤ k ∨ k = 96 ∨ k = 98 ∨ k = 97 ∧ j = 1 ∨ k = 131 ∧ j = 1 ∨ k = 142 ∧ j = 0
def FX (r r2 : tab) : Prop := ∀ k j, fx k j → r2 k j = r k j
section KIS
variable {r r1 r2 : tab} {k j : Nat} {z : Int} {C Q : Nat}
theorem KI_up (h : KI r) (hn : tb_rc k j = none) (hb : kb k j z) : KI (up2 r k j z) := ⟨RF_up h.1 hn, fun k2 j2 => by
  by_cases e : k2 = k ∧ j2 = j
  · obtain ⟨rfl, rfl⟩ := e
    rw [up_self]
    exact hb
  · rw [show up2 r k j z k2 j2 = r k2 j2 from if_neg e]
    exact h.2 k2 j2⟩
theorem FX_rf : FX r r := fun _ _ _ => rfl
theorem FX_tr (h : FX r r1) (q : FX r1 r2) : FX r r2 := fun k j e => (q k j e).trans (h k j e)
theorem FX_up (h : FX r r1) (hk : ¬ fx k j) : FX r (up2 r1 k j z) := fun a c e => (if_neg (by rintro ⟨rfl, rfl⟩; exact hk e)).trans (h a c e)
theorem TH {a b x : Nat × Nat} (h : a = b) (q : x = (a.1 + 1, a.2 + 6)) : x = (b.1 + 1, b.2 + 6) := by rw [q, h]
/-- out of bounds: no bound -/
theorem kb_no (h : kbd k j = none) : kb k j z := by unfold kb; rw [h]; trivial
theorem kb_of {a b : Int} (h : kbd k j = some (a, b)) (q : a ≤ z ∧ z ≤ b) : kb k j z := by unfold kb; rw [h]; exact q
theorem kb_to {a b : Int} (h : kbd k j = some (a, b)) (q : kb k j z) : a ≤ z ∧ z ≤ b := by unfold kb at q; rw [h] at q; exact q
theorem kC_12 (hC : C = 99 ∨ C = 115) : kbd C 12 = some (0, 2000) := by rcases hC with rfl | rfl <;> rfl
theorem kC_13 (hC : C = 99 ∨ C = 115) : kbd C 13 = none := by rcases hC with rfl | rfl <;> rfl
theorem kC1 (hC : C = 99 ∨ C = 115) : kbd (C + 1) j = none := by rcases hC with rfl | rfl <;> rfl
theorem kC2 (hC : C = 99 ∨ C = 115) : kbd (C + 2) j = none := by rcases hC with rfl | rfl <;> rfl
theorem kC3 (hC : C = 99 ∨ C = 115) : kbd (C + 3) j = none := by rcases hC with rfl | rfl <;> rfl
theorem kC4 (hC : C = 99 ∨ C = 115) : kbd (C + 4) j = none := by rcases hC with rfl | rfl <;> rfl
theorem kC5 (hC : C = 99 ∨ C = 115) : kbd (C + 5) j = none := by rcases hC with rfl | rfl <;> rfl
theorem kC6_3 (hC : C = 99 ∨ C = 115) : kbd (C + 6) 3 = some (0, 58) := by rcases hC with rfl | rfl <;> rfl
theorem kC7 (hC : C = 99 ∨ C = 115) : kbd (C + 7) j = none := by rcases hC with rfl | rfl <;> rfl
theorem kC8 (hC : C = 99 ∨ C = 115) : kbd (C + 8) j = none := by rcases hC with rfl | rfl <;> rfl
theorem kC9 (hC : C = 99 ∨ C = 115) : kbd (C + 9) j = none := by rcases hC with rfl | rfl <;> rfl
theorem kC10 (hC : C = 99 ∨ C = 115) : kbd (C + 10) j = some (0, LIM j) := by rcases hC with rfl | rfl <;> rfl
theorem kC11 (hC : C = 99 ∨ C = 115) : kbd (C + 11) j = none := by rcases hC with rfl | rfl <;> rfl
theorem kC12 (hC : C = 99 ∨ C = 115) : kbd (C + 12) j = some (0, 64) := by rcases hC with rfl | rfl <;> rfl
theorem kC13 (hC : C = 99 ∨ C = 115) : kbd (C + 13) j = none := by rcases hC with rfl | rfl <;> rfl
theorem kC14 (hC : C = 99 ∨ C = 115) : kbd (C + 14) j = none := by rcases hC with rfl | rfl <;> rfl
theorem kC15 (hC : C = 99 ∨ C = 115) : kbd (C + 15) j = none := by rcases hC with rfl | rfl <;> rfl
def cof (i : Nat) : Nat := match i with
  | 0 => 1
  | 1 => 2
  | 2 => 3
  | 3 => 4
  | 4 => 5
  | 5 => 6
  | i + 6 => i + 10
theorem rcK (hC : C = 99 ∨ C = 115) {i : Nat} (hi : i < 12) : tb_rc C i = some (C + cof i) := by
  have : i = 0 ∨ i = 1 ∨ i = 2 ∨ i = 3 ∨ i = 4 ∨ i = 5 ∨ i = 6 ∨ i = 7 ∨ i = 8 ∨ i = 9 ∨ i = 10 ∨ i = 11 := by omega
  rcases hC with rfl | rfl <;> rcases this with rfl | rfl | rfl | rfl | rfl | rfl | rfl | rfl | rfl | rfl | rfl | rfl <;> rfl
theorem rK6 (hC : C = 99 ∨ C = 115) {i : Nat} (hi : i < 3) : tb_rc (C + 6) i = some (C + (7 + i)) := by
  have : i = 0 ∨ i = 1 ∨ i = 2 := by omega
  rcases hC with rfl | rfl <;> rcases this with rfl | rfl | rfl <;> rfl
/-- slots of numbers -/
theorem nK {a : Nat} (hC : C = 99 ∨ C = 115) (h : a = 0 ∧ 12 ≤ j ∨ 1 ≤ a ∧ a ≤ 15 ∧ a ≠ 6 ∨ a = 6 ∧ 3 ≤ j) : tb_rc (C + a) j = none := by
  have key : ∀ l : List (Option Nat), (l.length ≤ j) → ((l[j]?).getD none = none) := fun l hl => by rw [List.getElem?_eq_none hl]; rfl
  rcases h with ⟨rfl, h⟩ | ⟨h1, h2, h3⟩ | ⟨rfl, h⟩
  · rcases hC with rfl | rfl
    · exact key [some 100, some 101, some 102, some 103, some 104, some 105, some 109, some 110, some 111, some 112, some 113, some 114] h
    · exact key [some 116, some 117, some 118, some 119, some 120, some 121, some 125, some 126, some 127, some 128, some 129, some 130] h
  · have : a = 1 ∨ a = 2 ∨ a = 3 ∨ a = 4 ∨ a = 5 ∨ a = 7 ∨ a = 8 ∨ a = 9 ∨ a = 10 ∨ a = 11 ∨ a = 12 ∨ a = 13 ∨ a = 14 ∨ a = 15 := by omega
    rcases hC with rfl | rfl <;> rcases this with rfl | rfl | rfl | rfl | rfl | rfl | rfl | rfl | rfl | rfl | rfl | rfl | rfl | rfl <;> exact key [] (Nat.zero_le _)
  · rcases hC with rfl | rfl
    · exact key [some 106, some 107, some 108] h
    · exact key [some 122, some 123, some 124] h
theorem TK0 (hC : C = 99 ∨ C = 115) : tb_TG C = some (.inr 0, 14) := by rcases hC with rfl | rfl <;> rfl
theorem TK6 (hC : C = 99 ∨ C = 115) : tb_TG (C + 6) = some (.inr 2, 4) := by rcases hC with rfl | rfl <;> rfl
theorem TK1 (hC : C = 99 ∨ C = 115) : tb_TG (C + 1) = some (.inl .int, 2000) := by rcases hC with rfl | rfl <;> rfl
theorem TK2 (hC : C = 99 ∨ C = 115) : tb_TG (C + 2) = some (.inl .int, 2000) := by rcases hC with rfl | rfl <;> rfl
theorem TK3 (hC : C = 99 ∨ C = 115) : tb_TG (C + 3) = some (.inl .int, 2000) := by rcases hC with rfl | rfl <;> rfl
theorem TK4 (hC : C = 99 ∨ C = 115) : tb_TG (C + 4) = some (.inl .int, 2000) := by rcases hC with rfl | rfl <;> rfl
theorem TK5 (hC : C = 99 ∨ C = 115) : tb_TG (C + 5) = some (.inl .int, 2000) := by rcases hC with rfl | rfl <;> rfl
theorem TK7 (hC : C = 99 ∨ C = 115) : tb_TG (C + 7) = some (.inl .long, 58) := by rcases hC with rfl | rfl <;> rfl
theorem TK8 (hC : C = 99 ∨ C = 115) : tb_TG (C + 8) = some (.inl .int, 58) := by rcases hC with rfl | rfl <;> rfl
theorem TK9 (hC : C = 99 ∨ C = 115) : tb_TG (C + 9) = some (.inl .int, 58) := by rcases hC with rfl | rfl <;> rfl
theorem TK10 (hC : C = 99 ∨ C = 115) : tb_TG (C + 10) = some (.inl .int, 6) := by rcases hC with rfl | rfl <;> rfl
theorem TK11 (hC : C = 99 ∨ C = 115) : tb_TG (C + 11) = some (.inl .int, 24) := by rcases hC with rfl | rfl <;> rfl
theorem TK12 (hC : C = 99 ∨ C = 115) : tb_TG (C + 12) = some (.inl .int, 6) := by rcases hC with rfl | rfl <;> rfl
theorem TK13 (hC : C = 99 ∨ C = 115) : tb_TG (C + 13) = some (.inl .int, 12) := by rcases hC with rfl | rfl <;> rfl
theorem TK14 (hC : C = 99 ∨ C = 115) : tb_TG (C + 14) = some (.inl .int, 12) := by rcases hC with rfl | rfl <;> rfl
theorem TK15 (hC : C = 99 ∨ C = 115) : tb_TG (C + 15) = some (.inl .int, 12) := by rcases hC with rfl | rfl <;> rfl
/-- a queue -/
def isQ (Q : Nat) : Prop := Q = 154 ∨ Q = 156 ∨ Q = 158 ∨ Q = 160 ∨ Q = 162 ∨ Q = 164 ∨ Q = 166 ∨ Q = 168
theorem kQ_1 (hQ : isQ Q) : kbd Q 1 = some (0, 39) := by rcases hQ with rfl | rfl | rfl | rfl | rfl | rfl | rfl | rfl <;> rfl
theorem kQ_2 (hQ : isQ Q) : kbd Q 2 = some (0, 40) := by rcases hQ with rfl | rfl | rfl | rfl | rfl | rfl | rfl | rfl <;> rfl
theorem kQ1 (hQ : isQ Q) : kbd (Q + 1) j = none := by rcases hQ with rfl | rfl | rfl | rfl | rfl | rfl | rfl | rfl <;> rfl
theorem rQ (hQ : isQ Q) : tb_rc Q 0 = some (Q + 1) := by rcases hQ with rfl | rfl | rfl | rfl | rfl | rfl | rfl | rfl <;> rfl
theorem nQ (hQ : isQ Q) (hj : 1 ≤ j) : tb_rc Q j = none := by
  have key : ∀ x : Nat, (([some x] : List (Option Nat))[j]?).getD none = none := fun x => by rw [List.getElem?_eq_none (by simpa using hj)]; rfl
  rcases hQ with rfl | rfl | rfl | rfl | rfl | rfl | rfl | rfl
  · exact key 155
  · exact key 157
  · exact key 159
  · exact key 161
  · exact key 163
  · exact key 165
  · exact key 167
  · exact key 169
theorem nQ1 (hQ : isQ Q) : tb_rc (Q + 1) j = none := by
  have key : ([] : List (Option Nat))[j]?.getD none = none := rfl
  rcases hQ with rfl | rfl | rfl | rfl | rfl | rfl | rfl | rfl <;> exact key
theorem TQ0 (hQ : isQ Q) : tb_TG Q = some (.inr 3, 3) := by rcases hQ with rfl | rfl | rfl | rfl | rfl | rfl | rfl | rfl <;> rfl
theorem TQ1 (hQ : isQ Q) : tb_TG (Q + 1) = some (.inl .int, 40) := by rcases hQ with rfl | rfl | rfl | rfl | rfl | rfl | rfl | rfl <;> rfl
theorem r_ins {i : Nat} (hi : i < 4) : tb_rc 150 i = some (154 + 2 * i) := by
  have : i = 0 ∨ i = 1 ∨ i = 2 ∨ i = 3 := by omega
  rcases this with rfl | rfl | rfl | rfl <;> rfl
theorem r_outs {i : Nat} (hi : i < 4) : tb_rc 151 i = some (162 + 2 * i) := by
  have : i = 0 ∨ i = 1 ∨ i = 2 ∨ i = 3 := by omega
  rcases this with rfl | rfl | rfl | rfl <;> rfl
theorem isQ_in {i : Nat} (hi : i < 4) : isQ (154 + 2 * i) := by unfold isQ; omega
theorem isQ_out {i : Nat} (hi : i < 4) : isQ (162 + 2 * i) := by unfold isQ; omega
/-- arrays of numbers: no slot of theirs holds a thing -/
theorem n0 (h : tb_rl[k - 96]?.getD [] = []) (h1 : 96 ≤ k) (h2 : k < 219) : tb_rc k j = none := by
  unfold tb_rc
  rw [if_neg (by omega), if_pos h2, h]
  rfl
end KIS
/-- how calls end -/
def PZ (P : Int → Prop) (s : rS) : rS → hm_Out → Prop := fun s2 out => ∃ z : Int, out = some (some (vi z)) ∧ i32 z ∧ P z ∧ s2 = s
def PL (s : rS) : rS → hm_Out → Prop := fun s2 out => ∃ z : Int, out = some (some (vl z)) ∧ i64 z ∧ s2 = s
def KV (s : rS) : rS → hm_Out → Prop := fun s2 out => KI s2.1 ∧ FX s.1 s2.1 ∧ s2.2 = s.2 ∧ out = some none
def KZ (P : Int → Prop) (s : rS) : rS → hm_Out → Prop := fun s2 out => KI s2.1 ∧ FX s.1 s2.1 ∧ s2.2 = s.2 ∧ ∃ z : Int, out = some (some (vi z)) ∧ i32 z ∧ P z
def TV (s : rS) : rS → hm_Out → Prop := fun s2 out => KI s2.1 ∧ FX s.1 s2.1 ∧ (s2.2 = s.2 ∧ out = some none ∨ out = none ∧ s2.2 = (s.2.1 + 1, s.2.2 + 6))
def TZ (P : Int → Prop) (s : rS) : rS → hm_Out → Prop := fun s2 out => KI s2.1 ∧ FX s.1 s2.1 ∧ ((∃ z : Int, s2.2 = s.2 ∧ out = some (some (vi z)) ∧ i32 z ∧ P z) ∨ out = none ∧ s2.2 = (s.2.1 + 1, s.2.2 + 6))
