/-! One step of a branch. -/
def HD (r : tab) : Prop := ∀ i, i < 8 → 0 ≤ r 1630 i ∧ r 1630 i ≤ 40
def MC (C : Nat) (F : Ph) (na : Nat) (r : tab) : Prop := r 170 17 = (C : Int) ∧ (∀ p h w x, F p h w x → inst na (r (C + 1)) F p h w x) ∧ na ≤ 6 ∧ (∀ a, a < na → 1 ≤ r (C + 3) a ∧ r (C + 3) a ≤ 64) ∧ HD r
/-- the slots that a run may change -/
def RS (k j : Nat) : Prop := 203 ≤ k ∧ k ≤ 211 ∨ 213 ≤ k ∧ k ≤ 218 ∨ 220 ≤ k ∧ k ≤ 919 ∨ 921 ≤ k ∧ k ≤ 1620 ∨ 1622 ≤ k ∧ k ≤ 1630 ∨ k = 170 ∧ 52 ≤ j ∧ j ≤ 55
def RX (r r2 : tab) : Prop := ∀ k j, ¬ RS k j → r2 k j = r k j
/-- b goes, or could go as soon as it is asked -/
abbrev can (r : tab) (b : Nat) : Prop := r 206 b = 1 ∨ r 206 b = 4 ∧ r 1630 (4 + (r 207 b).toNat) < 40 ∨ r 206 b = 5 ∧ 0 < r 1630 (r 207 b).toNat
def cans (r : tab) : Nat := sm (fun b => if can r b then 1 else 0) (r 170 55).toNat
theorem cans_one {r r2 : tab} {b : Nat} (hb : (b : Int) < r 170 55) (h55 : r2 170 55 = r 170 55) (h30 : ∀ i, r2 1630 i = r 1630 i) (hf : ∀ j, j ≠ b → r2 206 j = r 206 j ∧ r2 207 j = r 207 j) : cans r2 + (if can r b then 1 else 0) = cans r + (if can r2 b then 1 else 0) := by
  unfold cans
  rw [h55]
  exact sm_one (u := fun c => if can r2 c then 1 else 0) (v := fun c => if can r c then 1 else 0) (i := b) (by omega) (fun j _ hj => by
    have e : can r2 j = can r j := by unfold can; rw [(hf j hj).1, (hf j hj).2, h30, h30]
    show (if can r2 j then 1 else 0) = if can r j then 1 else 0
    simp only [e])
def ON (F : Ph) (G : Nat → gB) (b : Nat) (s : rS) : rS → hm_Out → Prop := fun s2 out => out = some none ∧ s2.2 = s.2 ∧ RF s2.1 ∧ RX s.1 s2.1 ∧ HD s2.1 ∧ ((s2.1 170 52 = 3 ∨ s2.1 170 52 = 1) ∨ s2.1 170 52 = 2 ∧ s2.1 170 54 = s.1 170 54 ∧ ∃ (G2 : Nat → gB) (own2 : Nat → Nat → Prop), RI F s2.1 G2 own2 ∧ s.1 170 55 ≤ s2.1 170 55 ∧ (s2.1 170 53 = s.1 170 53 + 1 ∧ s.1 170 53 < s.1 170 54 ∨ s2.1 170 53 = s.1 170 53 ∧ (mu s2.1 G2 < mu s.1 G ∨ mu s2.1 G2 = mu s.1 G ∧ cans s2.1 < cans s.1 ∧ s2.1 206 b ≠ 1)))
theorem RX_RF {r r2 : tab} (h : RX r r2) (hR : RF r) : RF r2 := fun k j v hv => by
  refine (h k j fun q => ?_).trans (hR k j v hv)
  have key : tb_rc k j = none := by
    rcases q with q | q | q | q | q | ⟨rfl, q⟩
    · have : k = 203 ∨ k = 204 ∨ k = 205 ∨ k = 206 ∨ k = 207 ∨ k = 208 ∨ k = 209 ∨ k = 210 ∨ k = 211 := by omega
      rcases this with rfl | rfl | rfl | rfl | rfl | rfl | rfl | rfl | rfl <;> rfl
    · have : k = 213 ∨ k = 214 ∨ k = 215 ∨ k = 216 ∨ k = 217 ∨ k = 218 := by omega
      rcases this with rfl | rfl | rfl | rfl | rfl | rfl <;> rfl
    · exact rc_hi (by omega) (by omega) (by omega)
    · exact rc_hi (by omega) (by omega) (by omega)
    · exact rc_hi (by omega) (by omega) (by omega)
    · have : j = 52 ∨ j = 53 ∨ j = 54 ∨ j = 55 := by omega
      rcases this with rfl | rfl | rfl | rfl <;> rfl
  rw [key] at hv
  cases hv
theorem HD_at {r r2 : tab} (h : HD r) (e : ∀ i, r2 1630 i = r 1630 i) : HD r2 := fun i hi => by rw [e]; exact h i hi
section STEPS
variable {F : Ph} {G : Nat → gB} {own : Nat → Nat → Prop} {b : Nat} {s s2 : rS}
/-- what the steps keep: all but branch b's own, variables, items, counters, ins and outs -/
def LC (b : Nat) (r r2 : tab) : Prop := ∀ k j, ¬ (205 ≤ k ∧ k ≤ 209 ∧ j = b) → ¬ (k = 220 + b) → ¬ (k = 921 + b) → ¬ (k = 203 ∨ k = 204 ∨ 213 ≤ k ∧ k ≤ 218 ∨ 1622 ≤ k ∧ k ≤ 1630) → ¬ (k = 170 ∧ 52 ≤ j ∧ j ≤ 53) → r2 k j = r k j
theorem LC_RX {r r2 : tab} (hb : b < 700) (h : LC b r r2) : RX r r2 := fun k j hn => h k j (fun q => hn (by unfold RS; omega)) (fun q => hn (by unfold RS; omega)) (fun q => hn (by unfold RS; omega)) (fun q => hn (by unfold RS; omega)) (fun q => hn (by unfold RS; omega))
theorem LC_oth {r r2 : tab} (hb : b < 700) (h : LC b r r2) : ∀ j, j ≠ b → r2 205 j = r 205 j ∧ r2 206 j = r 206 j ∧ r2 207 j = r 207 j ∧ r2 208 j = r 208 j ∧ r2 209 j = r 209 j := fun j hj => ⟨h _ _ (by omega) (by omega) (by omega) (by omega) (by omega), h _ _ (by omega) (by omega) (by omega) (by omega) (by omega), h _ _ (by omega) (by omega) (by omega) (by omega) (by omega), h _ _ (by omega) (by omega) (by omega) (by omega) (by omega), h _ _ (by omega) (by omega) (by omega) (by omega) (by omega)⟩
theorem LC_bk {r r2 : tab} (hb : b < 700) (h : LC b r r2) (h7 : r 170 55 ≤ 700) : ∀ j, j ≠ b → (j : Int) < r 170 55 → ∀ i, r2 (921 + j) i = r (921 + j) i := fun j hj h8 i => h _ _ (by omega) (by omega) (by omega) (by omega) (by omega)
/-- b's new ghost, where it goes on or waits: what holds then -/
theorem ST_loc {g2 : gB} {h1 : Int} (hb7 : b < 700) (hI : RI F s.1 G own) (hb : (b : Int) < s.1 170 55) (hg : s.1 206 b = 1) (hL : LC b s.1 s2.1) (hg2 : s2.1 206 b = h1) (hh1 : 1 ≤ h1 ∧ h1 ≤ 5) (hw : h1 = 4 ∨ h1 = 5 → 0 ≤ s2.1 207 b ∧ s2.1 207 b < 4) (hB : BI F s2.1 b g2 (eo h1)) (hx : bx g2 0 = bx (G b) 0) : RI F s2.1 (gup G b g2) own ∧ mu s2.1 (gup G b g2) + pot (G b) 1 = mu s.1 G + pot g2 h1 ∧ goes s2.1 + 1 = goes s.1 + (if h1 = 1 then 1 else 0) ∧ s2.1 170 55 = s.1 170 55 ∧ s2.1 170 54 = s.1 170 54 := by
  have e55 : s2.1 170 55 = s.1 170 55 := hL _ _ (by omega) (by omega) (by omega) (by omega) (by omega)
  have e54 : s2.1 170 54 = s.1 170 54 := hL _ _ (by omega) (by omega) (by omega) (by omega) (by omega)
  obtain ⟨q1, q2, q3⟩ := RI_loc hI hb hg (by omega) hg2 hh1 e55 (fun k j hk => hL k j (by omega) (by omega) (by omega) (by omega) (by omega)) (LC_oth hb7 hL) (LC_bk hb7 hL hI.1.2) hw hB hx
  rw [if_pos rfl] at q3
  exact ⟨q1, q2, q3, e55, e54⟩
/-- b goes on in its frame -/
theorem ST_cur {p2 h2 w2 : Nat} (hb7 : b < 700) (hR : RF s.1) (hI : RI F s.1 G own) (hb : (b : Int) < s.1 170 55) (hg : s.1 206 b = 1) (hst : s.1 170 52 = 2) (hL : LC b s.1 s2.1) (hH : HD s2.1) (hc : s2.2 = s.2) (h52 : s2.1 170 52 = s.1 170 52) (h53 : s2.1 170 53 = s.1 170 53) (h6 : s2.1 206 b = s.1 206 b) (h9 : s2.1 209 b = s.1 209 b) (hbk : ∀ i, s2.1 (921 + b) i = s.1 (921 + b) i) (h5 : s2.1 205 b = (p2 : Int)) (h8 : s2.1 208 b = (bb (G b) (bn (G b)) : Int) + h2) (hh : (bb (G b) (bn (G b)) : Int) + h2 ≤ 1000) (hF : F p2 h2 w2 (bx (G b) (bn (G b)))) (hw : w2 < bw (G b) (bn (G b))) : ON F G b s s2 (some none) := by
  have hB0 := (hI.2.1 b ⟨hb, by omega⟩).1
  rw [hg] at hB0
  have hB := BI_cur (r2 := s2.1) hB0 h5 h9 hbk h8 hh hF
  obtain ⟨q1, q2, q3, q4, q5⟩ := ST_loc (h1 := 1) hb7 hI hb hg hL (h6.trans hg) (by omega) (by omega) hB rfl
  have hp := pot_cur (g := G b) (h2 := h2) (w2 := w2) (h := 1)
  exact ⟨rfl, hc, RX_RF (LC_RX hb7 hL) hR, LC_RX hb7 hL, hH, .inr ⟨by omega, q5, _, _, q1, by omega, .inr ⟨h53, .inl (by omega)⟩⟩⟩
/-- PART -/
theorem ST_part {p2 h2 w2 : Nat} (hb7 : b < 700) (hR : RF s.1) (hI : RI F s.1 G own) (hb : (b : Int) < s.1 170 55) (hg : s.1 206 b = 1) (hst : s.1 170 52 = 2) (hL : LC b s.1 s2.1) (hH : HD s2.1) (hc : s2.2 = s.2) (h52 : s2.1 170 52 = s.1 170 52) (h53 : s2.1 170 53 = s.1 170 53 + 1) (hlt : s.1 170 53 < s.1 170 54) (h6 : s2.1 206 b = s.1 206 b) (h9 : s2.1 209 b = s.1 209 b) (hbk : ∀ i, s2.1 (921 + b) i = s.1 (921 + b) i) (h5 : s2.1 205 b = (p2 : Int)) (h8 : s2.1 208 b = (bb (G b) (bn (G b)) : Int) + h2) (hh : (bb (G b) (bn (G b)) : Int) + h2 ≤ 1000) (hF : F p2 h2 w2 (bx (G b) (bn (G b)))) : ON F G b s s2 (some none) := by
  have hB0 := (hI.2.1 b ⟨hb, by omega⟩).1
  rw [hg] at hB0
  have hB := BI_cur (r2 := s2.1) hB0 h5 h9 hbk h8 hh hF
  obtain ⟨q1, q2, q3, q4, q5⟩ := ST_loc (h1 := 1) hb7 hI hb hg hL (h6.trans hg) (by omega) (by omega) hB rfl
  exact ⟨rfl, hc, RX_RF (LC_RX hb7 hL) hR, LC_RX hb7 hL, hH, .inr ⟨by omega, q5, _, _, q1, by omega, .inl ⟨h53, hlt⟩⟩⟩
/-- a call -/
theorem ST_call {p t w2 w3 : Nat} {y : fR} (hb7 : b < 700) (hR : RF s.1) (hI : RI F s.1 G own) (hb : (b : Int) < s.1 170 55) (hg : s.1 206 b = 1) (hst : s.1 170 52 = 2) (hL : LC b s.1 s2.1) (hH : HD s2.1) (hc : s2.2 = s.2) (h52 : s2.1 170 52 = s.1 170 52) (h53 : s2.1 170 53 = s.1 170 53) (h6 : s2.1 206 b = s.1 206 b) (h9 : s2.1 209 b = s.1 209 b + 1) (hbk : ∀ i, i ≠ bn (G b) → s2.1 (921 + b) i = s.1 (921 + b) i) (hbn : s2.1 (921 + b) (bn (G b)) = (p : Int)) (h5 : s2.1 205 b = (t : Int)) (h8 : s2.1 208 b = s.1 208 b) (hy : 2 ≤ fk y ∧ fk y ≤ 3) (hrk : frk y < frk (bx (G b) (bn (G b)))) (hrm : bh (G b) (bn (G b)) + frm y ≤ frm (bx (G b) (bn (G b)))) (hz : ∀ n, fz y n → fz (bx (G b) (bn (G b))) n) (hF : F t 0 w2 y) (hF2 : F p (bh (G b) (bn (G b)) + (fk y - 2)) w3 (bx (G b) (bn (G b)))) (hw : w2 + w3 < bw (G b) (bn (G b))) : ON F G b s s2 (some none) := by
  have hB0 := (hI.2.1 b ⟨hb, by omega⟩).1
  rw [hg] at hB0
  have hB := BI_call (r2 := s2.1) hB0 h5 (by rw [h9, hB0.1]) hbk hbn h8 hy hrk hrm hz hF hF2
  obtain ⟨q1, q2, q3, q4, q5⟩ := ST_loc (h1 := 1) hb7 hI hb hg hL (h6.trans hg) (by omega) (by omega) hB (show gup (bx (G b)) (bn (G b) + 1) y 0 = bx (G b) 0 from gup_ne (by omega))
  have hp := pot_call (g := G b) (w2 := w2) (w3 := w3) (y := y) (h := 1) (bb2 := gup (bb (G b)) (bn (G b) + 1) (bb (G b) (bn (G b)) + bh (G b) (bn (G b)))) (bh2 := gup (gup (bh (G b)) (bn (G b)) (bh (G b) (bn (G b)) + (fk y - 2))) (bn (G b) + 1) 0) (bx2 := gup (bx (G b)) (bn (G b) + 1) y)
  exact ⟨rfl, hc, RX_RF (LC_RX hb7 hL) hR, LC_RX hb7 hL, hH, .inr ⟨by omega, q5, _, _, q1, by omega, .inr ⟨h53, .inl (by omega)⟩⟩⟩
/-- the end of a call -/
theorem ST_back {m : Nat} (hb7 : b < 700) (hR : RF s.1) (hI : RI F s.1 G own) (hb : (b : Int) < s.1 170 55) (hg : s.1 206 b = 1) (hst : s.1 170 52 = 2) (hL : LC b s.1 s2.1) (hH : HD s2.1) (hc : s2.2 = s.2) (h52 : s2.1 170 52 = s.1 170 52) (h53 : s2.1 170 53 = s.1 170 53) (h6 : s2.1 206 b = s.1 206 b) (hm : bn (G b) = m + 1) (hh : bh (G b) (m + 1) + 2 = fk (bx (G b) (m + 1))) (h9 : s2.1 209 b = (m : Int)) (hbk : ∀ i, s2.1 (921 + b) i = s.1 (921 + b) i) (h5 : s2.1 205 b = s.1 (921 + b) m) (h8 : s2.1 208 b = s.1 208 b) (hw : 0 < bw (G b) (m + 1)) : ON F G b s s2 (some none) := by
  have hB0 := (hI.2.1 b ⟨hb, by omega⟩).1
  rw [hg] at hB0
  have hB := BI_back (r2 := s2.1) hB0 hm hh h5 h9 hbk h8
  obtain ⟨q1, q2, q3, q4, q5⟩ := ST_loc (h1 := 1) hb7 hI hb hg hL (h6.trans hg) (by omega) (by omega) hB rfl
  have hp := pot_back (g := G b) (h := 1) hm
  exact ⟨rfl, hc, RX_RF (LC_RX hb7 hL) hR, LC_RX hb7 hL, hH, .inr ⟨by omega, q5, _, _, q1, by omega, .inr ⟨h53, .inl (by omega)⟩⟩⟩
/-- b waits: to send or to receive (its weight falls by two), or for a port (all stays) -/
theorem ST_wait {p2 h2 w2 : Nat} {h1 : Int} (hb7 : b < 700) (hR : RF s.1) (hI : RI F s.1 G own) (hb : (b : Int) < s.1 170 55) (hg : s.1 206 b = 1) (hst : s.1 170 52 = 2) (hL : LC b s.1 s2.1) (hH : HD s2.1) (hc : s2.2 = s.2) (h52 : s2.1 170 52 = s.1 170 52) (h53 : s2.1 170 53 = s.1 170 53) (h6 : s2.1 206 b = h1) (hh1 : 2 ≤ h1 ∧ h1 ≤ 5) (hw7 : h1 = 4 ∨ h1 = 5 → 0 ≤ s2.1 207 b ∧ s2.1 207 b < 4) (h9 : s2.1 209 b = s.1 209 b) (hbk : ∀ i, s2.1 (921 + b) i = s.1 (921 + b) i) (h5 : s2.1 205 b = (p2 : Int)) (h8 : s2.1 208 b = s.1 208 b) (h8b : s.1 208 b = (bb (G b) (bn (G b)) : Int) + h2 + eo h1) (hh : (bb (G b) (bn (G b)) : Int) + h2 ≤ 1000) (hF : F p2 h2 w2 (bx (G b) (bn (G b)))) (hw : h1 ≤ 3 ∧ w2 + 1 < bw (G b) (bn (G b)) ∨ 4 ≤ h1 ∧ w2 = bw (G b) (bn (G b))) (h30 : ∀ i, s2.1 1630 i = s.1 1630 i) (hbl : h1 ≤ 3 ∨ ∃ q : Nat, s2.1 207 b = (q : Int) ∧ (h1 = 4 ∧ 40 ≤ s.1 1630 (4 + q) ∨ h1 = 5 ∧ s.1 1630 q ≤ 0)) : ON F G b s s2 (some none) := by
  have hB0 := (hI.2.1 b ⟨hb, by omega⟩).1
  rw [hg] at hB0
  have hB : BI F s2.1 b (bn (G b), bb (G b), gup (bh (G b)) (bn (G b)) h2, gup (bw (G b)) (bn (G b)) w2, bx (G b)) (eo h1) := by
    have hB1 := BI_cur (r2 := up2 s2.1 208 b ((bb (G b) (bn (G b)) : Int) + h2)) (p2 := p2) (h2 := h2) (w2 := w2) hB0 ((if_neg (by omega)).trans h5) ((if_neg (by omega)).trans h9) (fun i => (if_neg (by omega)).trans (hbk i)) up_self hh hF
    obtain ⟨a1, a2, a3, a4, a5, a6, a7⟩ := hB1
    obtain ⟨c1, c2, c3, c4, c5, c6, c7⟩ := hB0
    refine ⟨h9.trans c1, a2, fun i hi => ?_, a4, ⟨p2, h5, ?_⟩, ?_, a7⟩
    · have := a3 i hi
      unfold B2 at this ⊢
      rw [show up2 s2.1 208 b ((bb (G b) (bn (G b)) : Int) + h2) (921 + b) i = s2.1 (921 + b) i from if_neg (by omega)] at this
      exact this
    · show F p2 (gup (bh (G b)) (bn (G b)) h2 (bn (G b))) (gup (bw (G b)) (bn (G b)) w2 (bn (G b))) (bx (G b) (bn (G b)))
      rw [gup_self, gup_self]
      exact hF
    · show s2.1 208 b = (bb (G b) (bn (G b)) : Int) + (gup (bh (G b)) (bn (G b)) h2 (bn (G b)) : Nat) + eo h1 ∧ (bb (G b) (bn (G b)) : Int) + (gup (bh (G b)) (bn (G b)) h2 (bn (G b)) : Nat) ≤ 1000 ∧ s2.1 208 b ≤ 1000 ∧ 0 ≤ s2.1 208 b
      rw [gup_self, h8]
      exact ⟨h8b, hh, c6.2.2⟩
  obtain ⟨q1, q2, q3, q4, q5⟩ := ST_loc (h1 := h1) hb7 hI hb hg hL h6 (by omega) hw7 hB rfl
  have hp := pot_cur (g := G b) (h2 := h2) (w2 := w2) (h := h1)
  have hpg : pot (G b) h1 = pot (G b) 1 + (if h1 ≤ 3 then 1 else 0) := by
    unfold pot
    rw [if_neg (show ¬ ((1 : Int) = 2 ∨ (1 : Int) = 3) by omega)]
    by_cases e : h1 ≤ 3
    · rw [if_pos e, if_pos (by omega)]
    · rw [if_neg e, if_neg (by omega)]
  have hne : ¬ h1 = 1 := by omega
  rw [if_neg hne] at q3
  refine ⟨rfl, hc, RX_RF (LC_RX hb7 hL) hR, LC_RX hb7 hL, hH, .inr ⟨by omega, q5, _, _, q1, by omega, .inr ⟨h53, ?_⟩⟩⟩
  rcases hw with ⟨e1, e2⟩ | ⟨e1, e2⟩
  · rw [if_pos e1] at hpg
    left
    omega
  · rw [if_neg (by omega)] at hpg
    right
    have hcn := cans_one (r := s.1) (r2 := s2.1) hb q4 h30 (fun j hj => ⟨(LC_oth hb7 hL j hj).2.1, (LC_oth hb7 hL j hj).2.2.1⟩)
    have n2 : ¬ can s2.1 b := by
      unfold can
      rcases hbl with q | ⟨q, q7, q8⟩
      · omega
      · rw [q7, h6, h30, h30, Int.toNat_natCast]
        omega
    rw [if_pos (show can s.1 b from .inl hg), if_neg n2] at hcn
    exact ⟨by omega, by omega, by omega⟩
end STEPS
