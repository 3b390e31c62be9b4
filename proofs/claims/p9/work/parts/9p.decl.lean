/-! Names declared, in both. -/
section DECL
variable {T : Nat → Int} {n e N : Nat} {g : Gtt} {s t s2 t2 : tab} {rc : MRq}
def RRu (u : Int) (s t : tab) : Prop := ∀ r : Nat, (r : Int) < s 109 5 → (r : Int) ≠ u → t 201 r = s 112 r ∧ s 134 r = lo (t 196 r) (t 195 r) ∧ s 135 r = lo 0 (t 195 r) ∧ lo (s 136 r) (lsl 1 (24 + (r : Int))) = pkm (t 197 r) (t 198 r) (t 199 r) ∧ MB3 (t 197 r) (t 198 r) (t 199 r)
def RSu (N : Nat) (s : tab) : Prop := (N : Int) ≤ s 109 0 + s 109 1 + s 109 2 + s 109 3 + s 109 4 + s 109 5
/-- tokens, names, counts, routines but u, pars, scopes -/
def RHx (T : Nat → Int) (n e N : Nat) (u : Int) (s t : tab) : Prop := RLx T n e s t ∧ RNm T n N s t ∧ RCt s t ∧ RRu u s t ∧ RPf s t ∧ RSc N s t ∧ RSu N s
theorem RQ_H (h : RQx T n e N g s t) : RHx T n e N (s 131 13) s t := ⟨h.1.1, h.1.2.1.1, h.1.2.1.2.1, h.1.2.1.2.2.1, h.2.1, h.2.2.1, h.2.2.2.1⟩
/-- names of the scope at hand are those from b on -/
def SCb (N : Nat) (b : Int) (t : tab) : Prop := 0 ≤ b ∧ b ≤ (N : Int) ∧ ∀ j : Nat, j < N → (t 176 j = t 170 15 ↔ b ≤ (j : Int))
theorem fdn_b {b v : Int} (hb : 0 ≤ b) : fdn s v b = if b ≤ fdn s v 0 then fdn s v 0 else -1 := by
  have hl := fdl_lt (t := s) (w := v) (s 105 3).toNat
  unfold fdn
  rw [show mxx b 0 = b from by unfold mxx; split <;> omega, show mxx 0 0 = 0 from by decide]
  by_cases c : 0 ≤ fdl s v (s 105 3).toNat
  · rw [if_pos c]
  · rw [if_neg c, if_neg (by omega), if_neg (by omega)]
theorem nad_e (h : s 105 3 = (N : Int)) (hN : N < 58) {w k m : Int} : nad s w k m = up2 (up2 (up2 (up2 s 106 N w) 107 N k) 108 N m) 105 3 ((N : Int) + 1) := by
  unfold nad
  rw [h, Int.toNat_natCast, if_pos (by omega)]
/-- our table with one more name, and the reference's -/
def cnm (s : tab) (N c : Nat) (w m : Int) : tab := up2 (up2 (up2 (up2 (up2 s 109 c (m + 1)) 106 N (vlu s)) 107 N w) 108 N m) 105 3 ((N : Int) + 1)
def rnm (t : tab) (N : Nat) (w m : Int) : tab := up2 (up2 (up2 (up2 (up2 (up2 t 172 N (t 170 5)) 173 N (t 170 6)) 174 N w) 175 N m) 176 N (t 170 15)) 170 14 ((N : Int) + 1)
theorem cnm_o {c : Nat} {w m : Int} (k j : Nat) (h : ¬ (k = 109 ∧ j = c) ∧ ¬ (k = 106 ∧ j = N) ∧ ¬ (k = 107 ∧ j = N) ∧ ¬ (k = 108 ∧ j = N) ∧ ¬ (k = 105 ∧ j = 3)) : (cnm s N c w m) k j = s k j := by
  unfold cnm
  exact (if_neg h.2.2.2.2).trans ((if_neg h.2.2.2.1).trans ((if_neg h.2.2.1).trans ((if_neg h.2.1).trans (if_neg h.1))))
theorem rnm_o {w m : Int} (k j : Nat) (h : ¬ ((k = 172 ∨ k = 173 ∨ k = 174 ∨ k = 175 ∨ k = 176) ∧ j = N) ∧ ¬ (k = 170 ∧ j = 14)) : (rnm t N w m) k j = t k j := by
  unfold rnm
  exact (if_neg h.2).trans ((if_neg (by omega)).trans ((if_neg (by omega)).trans ((if_neg (by omega)).trans ((if_neg (by omega)).trans (if_neg (by omega))))))
/-- one more name: before the step -/
theorem H_name {u : Int} (h : RHx T n e N u s t) (hk : kkd s = 1) {c : Nat} {w m : Int} (hc : c < 6) (hm : s 109 c = m) (hl : m < LIM c) (hw : 0 ≤ w ∧ w ≤ 6) (hcw : kcn w = c) {u2 : Int} (hu : (c ≠ 5 ∧ u2 = u) ∨ (c = 5 ∧ u2 = m ∧ u = -1)) : N < 58 ∧ RLx T n e (cnm s N c w m) (up2 (rnm t N w m) 177 (4 + c) (m + 1)) ∧ ((∀ j, j < N → t 176 j = t 170 15 → s 106 j ≠ vlu s) → RNm T n (N + 1) (cnm s N c w m) (up2 (rnm t N w m) 177 (4 + c) (m + 1))) ∧ RCt (cnm s N c w m) (up2 (rnm t N w m) 177 (4 + c) (m + 1)) ∧ RRu u2 (cnm s N c w m) (up2 (rnm t N w m) 177 (4 + c) (m + 1)) ∧ RPf (cnm s N c w m) (up2 (rnm t N w m) 177 (4 + c) (m + 1)) ∧ RSc (N + 1) (cnm s N c w m) (up2 (rnm t N w m) 177 (4 + c) (m + 1)) ∧ RSu (N + 1) (cnm s N c w m) := by
  obtain ⟨hL, ⟨a1, a2, a3, a4, a5⟩, hct, hrr, hpf, ⟨c1, c2, c3, c4⟩, hsu⟩ := h
  have hmc := hct c hc
  have hlim : LIM 0 = 24 ∧ LIM 1 = 6 ∧ LIM 2 = 8 ∧ LIM 3 = 4 ∧ LIM 4 = 4 ∧ LIM 5 = 12 := ⟨rfl, rfl, rfl, rfl, rfl, rfl⟩
  have q0 := hct 0 (by omega)
  have q1 := hct 1 (by omega)
  have q2 := hct 2 (by omega)
  have q3 := hct 3 (by omega)
  have q4 := hct 4 (by omega)
  have q5 := hct 5 (by omega)
  have hc6 : c = 0 ∨ c = 1 ∨ c = 2 ∨ c = 3 ∨ c = 4 ∨ c = 5 := by omega
  have hN : N < 58 := by
    unfold RSu at hsu
    rcases hc6 with q | q | q | q | q | q <;> subst q <;> omega
  have co := fun k j (q : ¬ (k = 109 ∧ j = c) ∧ ¬ (k = 106 ∧ j = N) ∧ ¬ (k = 107 ∧ j = N) ∧ ¬ (k = 108 ∧ j = N) ∧ ¬ (k = 105 ∧ j = 3)) => cnm_o (s := s) (N := N) (c := c) (w := w) (m := m) k j q
  have ro : ∀ k j, (¬ ((k = 172 ∨ k = 173 ∨ k = 174 ∨ k = 175 ∨ k = 176) ∧ j = N) ∧ ¬ (k = 170 ∧ j = 14) ∧ ¬ (k = 177 ∧ j = 4 + c)) → (up2 (rnm t N w m) 177 (4 + c) (m + 1)) k j = t k j := fun k j q => (if_neg q.2.2).trans (rnm_o k j ⟨q.1, q.2.1⟩)
  have s5 : (cnm s N c w m) 137 5 = s 137 5 := co 137 5 (by omega)
  have s109 : ∀ d : Nat, (cnm s N c w m) 109 d = if d = c then m + 1 else s 109 d := fun d => by
    by_cases q : d = c
    · rw [if_pos q, q]
      unfold cnm
      exact (if_neg (by omega)).trans ((if_neg (by omega)).trans ((if_neg (by omega)).trans ((if_neg (by omega)).trans up_self)))
    · rw [if_neg q]
      exact co 109 d (by omega)
  have hmono : ∀ d : Nat, s 109 d ≤ (cnm s N c w m) 109 d := fun d => by
    rw [s109]
    split
    · rename_i q
      rw [q]
      omega
    · exact Int.le_refl _
  have hkd := RL_kk hL
  rw [hk] at hkd
  obtain ⟨hp, hltr⟩ := kd_name hkd.symm
  have hv := RL_vl hL (.inl hk)
  obtain ⟨⟨b1, b2, b3, b4, b5⟩, l2, l3, l4, ⟨k1, k2, k3, k4, k5⟩⟩ := hL
  have hnx : nx T n (pls T n (s 137 5).toNat) = upto aln T n (pls T n (s 137 5).toNat) := by unfold nx; rw [if_neg (by omega), if_pos hltr]
  refine ⟨hN, ⟨⟨b1, b2, b3, b4, fun j hj => ?_⟩, ⟨(ro 170 2 (by omega)).trans l2.1, l2.2.1, fun j hj => ?_⟩, by rw [s5]; exact l3, by rw [s5]; exact l4, ?_⟩, fun hun => ⟨?_, ?_, ⟨by omega, fun i j hi hj hq => ?_⟩, fun j hj => ?_, fun j hj => ?_⟩, fun d hd => ?_, fun r hr1 hr2 => ?_, ?_, ⟨?_, ?_, ?_, fun j hj => ?_⟩, ?_⟩
  · rw [co 139 j (by omega), co 140 j (by omega), co 141 j (by omega)]
    exact b5 j hj
  · rw [ro 171 j (by omega)]
    exact l2.2.2 j hj
  · rw [s5]
    exact ⟨(ro 170 5 (by omega)).trans k1, (ro 170 3 (by omega)).trans k2, (ro 170 6 (by omega)).trans k3, (ro 170 4 (by omega)).trans k4, fun q => (ro 170 7 (by omega)).trans (k5 q)⟩
  · exact up_self
  · exact (if_neg (by omega)).trans up_self
  · by_cases ej : j = N
    · subst ej
      rw [show (up2 (rnm t j w m) 177 (4 + c) (m + 1)) 176 j = t 170 15 from (if_neg (by omega)).trans (by unfold rnm; exact (if_neg (by omega)).trans up_self), ro 176 i (by omega)] at hq
      rw [show (cnm s j c w m) 106 j = vlu s from by unfold cnm; exact (if_neg (by omega)).trans ((if_neg (by omega)).trans ((if_neg (by omega)).trans up_self)), co 106 i (by omega)]
      exact hun i hi hq
    · rw [ro 176 i (by omega), ro 176 j (by omega)] at hq
      rw [co 106 i (by omega), co 106 j (by omega)]
      exact a3.2 i j hi (by omega) hq
  · by_cases ej : j = N
    · subst ej
      refine ⟨pls T n (s 137 5).toNat, nx T n (pls T n (s 137 5).toNat), ?_, ?_, nx_gt hp, nx_le (Nat.le_of_lt hp), fun i i1 i2 => (upto_in (q := aln) (T := T) (n := n) (p := pls T n (s 137 5).toNat) i i1 (by rw [← hnx]; exact i2)).2, ?_⟩
      · rw [show (up2 (rnm t j w m) 177 (4 + c) (m + 1)) 172 j = t 170 5 from (if_neg (by omega)).trans (by unfold rnm; exact (if_neg (by omega)).trans ((if_neg (by omega)).trans ((if_neg (by omega)).trans ((if_neg (by omega)).trans ((if_neg (by omega)).trans up_self)))))]
        exact k1
      · rw [show (up2 (rnm t j w m) 177 (4 + c) (m + 1)) 173 j = t 170 6 from (if_neg (by omega)).trans (by unfold rnm; exact (if_neg (by omega)).trans ((if_neg (by omega)).trans ((if_neg (by omega)).trans ((if_neg (by omega)).trans up_self))))]
        exact k3
      · show (cnm s j c w m) 106 j = _
        rw [show (cnm s j c w m) 106 j = vlu s from by unfold cnm; exact (if_neg (by omega)).trans ((if_neg (by omega)).trans ((if_neg (by omega)).trans up_self)), hv, hnx]
        unfold vl9
        rw [if_pos hltr]
    · obtain ⟨a, b, z1, z2, z3, z4, z5, z6⟩ := a4 j (by omega)
      exact ⟨a, b, (ro 172 j (by omega)).trans z1, (ro 173 j (by omega)).trans z2, z3, z4, z5, (co 106 j (by omega)).trans z6⟩
  · by_cases ej : j = N
    · subst ej
      have e1 : (cnm s j c w m) 107 j = w := by unfold cnm; exact (if_neg (by omega)).trans ((if_neg (by omega)).trans up_self)
      have e2 : (cnm s j c w m) 108 j = m := by unfold cnm; exact (if_neg (by omega)).trans up_self
      have e3 : (up2 (rnm t j w m) 177 (4 + c) (m + 1)) 174 j = w := (if_neg (by omega)).trans (by unfold rnm; exact (if_neg (by omega)).trans ((if_neg (by omega)).trans ((if_neg (by omega)).trans up_self)))
      have e4 : (up2 (rnm t j w m) 177 (4 + c) (m + 1)) 175 j = m := (if_neg (by omega)).trans (by unfold rnm; exact (if_neg (by omega)).trans ((if_neg (by omega)).trans up_self))
      rw [e1, e2, e3, e4, hcw, s109, if_pos rfl]
      exact ⟨rfl, rfl, hw.1, hw.2, by omega, by omega⟩
    · obtain ⟨z1, z2, z3, z4, z5, z6⟩ := a5 j (by omega)
      rw [ro 174 j (by omega), ro 175 j (by omega), co 107 j (by omega), co 108 j (by omega)]
      exact ⟨z1, z2, z3, z4, z5, Int.lt_of_lt_of_le z6 (hmono _)⟩
  · rw [s109]
    by_cases q : d = c
    · rw [if_pos q, q, up_self]
      exact ⟨rfl, by omega, by omega⟩
    · rw [if_neg q, ro 177 (4 + d) (by omega)]
      exact hct d hd
  · rw [s109] at hr1
    have hr3 : (r : Int) < s 109 5 ∧ (r : Int) ≠ u := by
      rcases hu with ⟨w1, w2⟩ | ⟨w1, w2, w3⟩
      · rw [if_neg (by omega)] at hr1
        exact ⟨hr1, by omega⟩
      · rw [if_pos w1.symm] at hr1
        rw [w1] at hm
        exact ⟨by omega, by omega⟩
    rw [ro 201 r (by omega), co 112 r (by omega), co 134 r (by omega), co 135 r (by omega), co 136 r (by omega), ro 195 r (by omega), ro 196 r (by omega), ro 197 r (by omega), ro 198 r (by omega), ro 199 r (by omega)]
    exact hrr r hr3.1 hr3.2
  · unfold RPf
    rw [co 131 3 (by omega), ro 170 21 (by omega)]
    exact hpf
  · rw [ro 170 15 (by omega)]
    exact c1
  · rw [ro 170 15 (by omega), ro 170 16 (by omega)]
    exact c2
  · rw [ro 170 16 (by omega), s5]
    exact c3
  · rw [ro 170 16 (by omega)]
    by_cases ej : j = N
    · subst ej
      rw [show (up2 (rnm t j w m) 177 (4 + c) (m + 1)) 176 j = t 170 15 from (if_neg (by omega)).trans (by unfold rnm; exact (if_neg (by omega)).trans up_self)]
      exact ⟨c1, c2⟩
    · rw [ro 176 j (by omega)]
      exact c4 j (by omega)
  · unfold RSu at hsu ⊢
    rw [s109, s109, s109, s109, s109, s109]
    rcases hc6 with q | q | q | q | q | q <;> subst q <;> simp only [if_true, reduceIte, show ¬ (0 = 1) by omega, show ¬ (0 = 2) by omega] <;> omega
end DECL
