/-! Routines, in both. -/
section ROUT
variable {T : Nat → Int} {n e N N1 p q M : Nat} {s t s2 t2 s0 t0 : tab} {rc : MRq} {F y1 y3 : Int}
/-- while PARAMETERS are read: N1 names before them, p of them; routine q, F its first variable -/
def RPx (T : Nat → Int) (n e N1 p q : Nat) (F y1 y3 : Int) (s t : tab) : Prop := RHx T n e (N1 + p) (q : Int) s t ∧ SCb (N1 + p) (N1 : Int) t ∧ s 109 0 = F + (p : Int) ∧ (∀ j : Nat, j < N1 + p → ((N1 : Int) ≤ (j : Int) → s 107 j = 0 ∧ F ≤ s 108 j) ∧ ((j : Int) < (N1 : Int) → s 107 j = 0 → s 108 j < F)) ∧ (t 170 35 = (q : Int) ∧ t 170 36 = F ∧ t 170 37 = (if y1 = 0 then 1 else 0) ∧ t 201 q = (p : Int) ∧ t 202 q = F) ∧ (q < 12 ∧ 0 ≤ F ∧ p ≤ 4) ∧ s 131 6 = 0 ∧ (0 ≤ y3 ∧ y3 < t 170 15) ∧ ∀ j : Nat, j < N1 → t 176 j = y3
theorem RP_lex (h : RPx T n e N1 p q F y1 y3 s t) (hL : RLx T n e s2 t2) (hs : ∀ k j, ¬ (k = 137 ∧ j = 5) → s2 k j = s k j) (hi : s 137 5 ≤ s2 137 5) (ht : ∀ k j, ¬ lexs k j → t2 k j = t k j) : RPx T n e N1 p q F y1 y3 s2 t2 := by
  obtain ⟨a, b, c, d, h5, f, g, i, k⟩ := h
  have hj : ∀ j, 10 ≤ j → t2 170 j = t 170 j := fun j hj => ht 170 j (by unfold lexs; omega)
  refine ⟨H_lex hL a.2 hs hi ht, SC_lex b ht, (hs 109 0 (by omega)).trans c, fun j hj => ?_, ?_, f, (hs 131 6 (by omega)).trans g, ?_, fun j hj => (ht 176 j (by unfold lexs; omega)).trans (k j hj)⟩
  · rw [hs 107 j (by omega), hs 108 j (by omega)]
    exact d j hj
  · rw [hj 35 (by omega), hj 36 (by omega), hj 37 (by omega), ht 201 q (by unfold lexs; omega), ht 202 q (by unfold lexs; omega)]
    exact h5
  · rw [hj 15 (by omega)]
    exact i
/-- our table once the PARAMETERS are read -/
def FNx (y1 b m F z : Int) (s : tab) : tab := up2 (up2 (up2 (up2 (up2 (spm s m F z) 131 13 m) 131 14 (if y1 = 0 then b else 0)) 131 7 0) 131 8 0) 131 9 0
theorem FN_e {b z : Int} (hq : q < 12) : FNx y1 b (q : Int) F z s = up2 (up2 (up2 (up2 (up2 (up2 (up2 s 113 q F) 112 q z) 131 13 (q : Int)) 131 14 (if y1 = 0 then b else 0)) 131 7 0) 131 8 0) 131 9 0 := by
  unfold FNx spm
  rw [if_pos ⟨by omega, by omega⟩, Int.toNat_natCast]
theorem RP_Q (h : RPx T n e N1 p q F y1 y3 s t) : RQx T n e (N1 + p) (0, 0, 0) (FNx y1 (N1 : Int) (q : Int) F (p : Int) s) (rfg t) ∧ SCb (N1 + p) (N1 : Int) (rfg t) ∧ (FNx y1 (N1 : Int) (q : Int) F (p : Int) s) 112 q = (p : Int) ∧ (FNx y1 (N1 : Int) (q : Int) F (p : Int) s) 113 q = F := by
  obtain ⟨⟨⟨hT, hx, l3, l4, l5⟩, ⟨a1, a2, a3, a4, a5⟩, b, c, hpf, ⟨c1, c2, c3, c4⟩, hsu⟩, hsc, h109, hnm, ⟨r35, r36, r37, r201, r202⟩, ⟨q12, F0, p4⟩, p0, _, _⟩ := h
  rw [FN_e q12]
  have hct0 := (b 0 (by omega)).2
  refine ⟨⟨⟨⟨hT, hx, l3, l4, l5⟩, ⟨⟨a1, a2, a3, a4, a5⟩, b, fun r h1 h2 => ?_, r35.symm, ?_⟩, ?_, ?_, ?_, ?_⟩, hpf, ⟨c1, c2, c3, c4⟩, hsu, fun hf => ?_⟩, hsc, ?_, ?_⟩
  · have h2 : (r : Int) ≠ (q : Int) := h2
    obtain ⟨z1, z2⟩ := c r h1 h2
    refine ⟨z1.trans ?_, z2⟩
    show s 112 r = (up2 (up2 s 113 q F) 112 q (p : Int)) 112 r
    exact ((if_neg (by omega)).trans (if_neg (by omega))).symm
  · by_cases y : y1 = 0
    · rw [if_pos y] at r37
      refine .inr ⟨r37, ?_, fun j hj => ?_⟩
      · show 0 ≤ (if y1 = 0 then (N1 : Int) else 0)
        rw [if_pos y]
        omega
      · have := hnm j hj
        rw [← r36] at this
        show ((if y1 = 0 then (N1 : Int) else 0) ≤ (j : Int) → s 107 j = 0 ∧ t 170 36 ≤ s 108 j) ∧ ((j : Int) < (if y1 = 0 then (N1 : Int) else 0) → s 107 j = 0 → s 108 j < t 170 36)
        rw [if_pos y]
        exact this
    · rw [if_neg y] at r37
      refine .inl ⟨r37, ?_⟩
      show (if y1 = 0 then (N1 : Int) else 0) = 0
      exact if_neg y
  · show (0 : Int) = lo 0 (lo 0 0)
    decide
  · show (0 : Int) = lo 0 0
    decide
  · show (0 : Int) = lo 0 (pkm 0 0 0)
    decide
  · show MB3 0 0 0
    exact ⟨⟨by decide, by decide⟩, ⟨by decide, by decide⟩, by decide, by decide⟩
  · show (if y1 = 0 then (N1 : Int) else 0) ≤ ((N1 + p : Nat) : Int) ∧ t 170 36 ≤ s 109 0
    rw [r36]
    refine ⟨?_, by omega⟩
    split <;> omega
  · show (up2 (up2 s 113 q F) 112 q (p : Int)) 112 q = (p : Int)
    exact up_self
  · show (up2 (up2 s 113 q F) 112 q (p : Int)) 113 q = F
    exact (if_neg (by omega)).trans up_self
/-- bits from F + i on, k of them -/
def orb (F : Int) : Nat → Int → Int → Int
  | 0, _, a => a
  | k + 1, i, a => orb F k (i + 1) (lo a (lsl 1 (F + i)))
theorem bits4 : ∀ f : Fin 25, lsl (lmi (lsl 1 0) 1) ((f : Nat) : Int) = 0 ∧ lsl (lmi (lsl 1 1) 1) ((f : Nat) : Int) = lsl 1 (((f : Nat) : Int) + 0) ∧ lsl (lmi (lsl 1 2) 1) ((f : Nat) : Int) = lo (lsl 1 (((f : Nat) : Int) + 0)) (lsl 1 (((f : Nat) : Int) + (0 + 1))) ∧ lsl (lmi (lsl 1 3) 1) ((f : Nat) : Int) = lo (lsl 1 (((f : Nat) : Int) + 0)) (lo (lsl 1 (((f : Nat) : Int) + (0 + 1))) (lsl 1 (((f : Nat) : Int) + (0 + 1 + 1)))) ∧ lsl (lmi (lsl 1 4) 1) ((f : Nat) : Int) = lo (lsl 1 (((f : Nat) : Int) + 0)) (lo (lsl 1 (((f : Nat) : Int) + (0 + 1))) (lo (lsl 1 (((f : Nat) : Int) + (0 + 1 + 1))) (lsl 1 (((f : Nat) : Int) + (0 + 1 + 1 + 1))))) := by
  decide +kernel
theorem or_B (F0 : 0 ≤ F) (F1 : F ≤ 24) (p4 : p ≤ 4) (a : Int) : lo 0 (orb F p 0 a) = lo a (lsl (lmi (lsl 1 (p : Int)) 1) F) := by
  obtain ⟨f, rfl⟩ : ∃ f : Nat, F = (f : Int) := ⟨F.toNat, by omega⟩
  obtain ⟨b0, b1, b2, b3, b4⟩ := bits4 ⟨f, by omega⟩
  have hp5 : p = 0 ∨ p = 1 ∨ p = 2 ∨ p = 3 ∨ p = 4 := by omega
  rcases hp5 with z | z | z | z | z
  · subst z
    show lo 0 a = lo a (lsl (lmi (lsl 1 0) 1) (f : Int))
    rw [b0, lo_comm]
  · subst z
    show lo 0 (lo a (lsl 1 ((f : Int) + 0))) = lo a (lsl (lmi (lsl 1 1) 1) (f : Int))
    rw [b1, lo_zero]
  · subst z
    show lo 0 (lo (lo a (lsl 1 ((f : Int) + 0))) (lsl 1 ((f : Int) + (0 + 1)))) = lo a (lsl (lmi (lsl 1 2) 1) (f : Int))
    rw [b2, lo_zero, lo_assoc]
  · subst z
    show lo 0 (lo (lo (lo a (lsl 1 ((f : Int) + 0))) (lsl 1 ((f : Int) + (0 + 1)))) (lsl 1 ((f : Int) + (0 + 1 + 1)))) = lo a (lsl (lmi (lsl 1 3) 1) (f : Int))
    rw [b3, lo_zero, lo_assoc, lo_assoc]
  · subst z
    show lo 0 (lo (lo (lo (lo a (lsl 1 ((f : Int) + 0))) (lsl 1 ((f : Int) + (0 + 1)))) (lsl 1 ((f : Int) + (0 + 1 + 1)))) (lsl 1 ((f : Int) + (0 + 1 + 1 + 1)))) = lo a (lsl (lmi (lsl 1 4) 1) (f : Int))
    rw [b4, lo_zero, lo_assoc, lo_assoc, lo_assoc]
theorem lsl_24 : ∀ m : Fin 12, lsl (lsl 1 ((m : Nat) : Int)) 24 = lsl 1 (24 + ((m : Nat) : Int)) := by decide +kernel
/-- the reference's table at a routine's end -/
def efR (q : Nat) (y3 y4 : Int) (t : tab) : tab := up2 (up2 (up2 (up2 (up2 (up2 (up2 (up2 (up2 t 195 q (t 170 22)) 196 q (t 170 23)) 197 q (t 170 24)) 198 q (t 170 25)) 199 q (lo (t 170 26) (lsl 1 (q : Int)))) 170 14 y4) 170 15 y3) 170 35 (-1)) 170 37 0
theorem ef_o {y4 : Int} (k j : Nat) (h1 : ¬ ((195 ≤ k ∧ k ≤ 199) ∧ j = q)) (h2 : ¬ (k = 170 ∧ (j = 14 ∨ j = 15 ∨ j = 35 ∨ j = 37))) : (efR q y3 y4 t) k j = t k j := by
  unfold efR
  exact (if_neg (by omega)).trans ((if_neg (by omega)).trans ((if_neg (by omega)).trans ((if_neg (by omega)).trans ((if_neg (by omega)).trans ((if_neg (by omega)).trans ((if_neg (by omega)).trans ((if_neg (by omega)).trans (if_neg (by omega)))))))))
theorem ef_q {y4 : Int} : (efR q y3 y4 t) 195 q = t 170 22 ∧ (efR q y3 y4 t) 196 q = t 170 23 ∧ (efR q y3 y4 t) 197 q = t 170 24 ∧ (efR q y3 y4 t) 198 q = t 170 25 ∧ (efR q y3 y4 t) 199 q = lo (t 170 26) (lsl 1 (q : Int)) := by
  unfold efR
  refine ⟨?_, ?_, ?_, ?_, ?_⟩
  · exact (if_neg (by omega)).trans ((if_neg (by omega)).trans ((if_neg (by omega)).trans ((if_neg (by omega)).trans ((if_neg (by omega)).trans ((if_neg (by omega)).trans ((if_neg (by omega)).trans ((if_neg (by omega)).trans up_self)))))))
  · exact (if_neg (by omega)).trans ((if_neg (by omega)).trans ((if_neg (by omega)).trans ((if_neg (by omega)).trans ((if_neg (by omega)).trans ((if_neg (by omega)).trans ((if_neg (by omega)).trans up_self))))))
  · exact (if_neg (by omega)).trans ((if_neg (by omega)).trans ((if_neg (by omega)).trans ((if_neg (by omega)).trans ((if_neg (by omega)).trans ((if_neg (by omega)).trans up_self)))))
  · exact (if_neg (by omega)).trans ((if_neg (by omega)).trans ((if_neg (by omega)).trans ((if_neg (by omega)).trans ((if_neg (by omega)).trans up_self))))
  · exact (if_neg (by omega)).trans ((if_neg (by omega)).trans ((if_neg (by omega)).trans ((if_neg (by omega)).trans up_self)))
def P277 (rc : MRq) : Prop := ∀ (t : tab) (q k : Nat) (F y3 y4 i : Int) (v : Option (Int × tab)), t 201 q = i + (k : Int) → t 202 q = F → 0 ≤ F → F ≤ 24 → 0 ≤ i → i + (k : Int) ≤ 4 → rc 65 [(q : Int), y3, y4, i] t = some v → v = some (1, efR q y3 y4 (up2 t 170 22 (orb F k i (t 170 22))))
theorem p_277 (h277 : P277 rc) : ∀ (t : tab) (q k : Nat) (F y3 y4 i : Int) (v : Option (Int × tab)), t 201 q = i + (k : Int) → t 202 q = F → 0 ≤ F → F ≤ 24 → 0 ≤ i → i + (k : Int) ≤ 4 → rM129_277 rc (q : Int) y3 y4 i t = some v → v = some (1, efR q y3 y4 (up2 t 170 22 (orb F k i (t 170 22)))) := by
  intro t q k F y3 y4 i v h1 h2 F0 F1 i0 i1 h
  unfold rM129_277 at h
  rw [Int.toNat_natCast, h1, h2] at h
  cases k with
  | zero =>
    rw [if_pos (by omega)] at h
    cases h
    show _ = some ((1 : Int), efR q y3 y4 (up2 t 170 22 (t 170 22)))
    rw [up_id]
    rfl
  | succ k =>
    rw [if_neg (by omega), ipl_e (by omega)] at h
    have e1 : (up2 t 170 22 (lo (t 170 22) (lsl 1 (F + i)))) 201 q = (i + 1) + (k : Int) := by
      show t 201 q = _
      omega
    have := h277 (up2 t 170 22 (lo (t 170 22) (lsl 1 (F + i)))) q k F y3 y4 (i + 1) v e1 h2 F0 F1 (by omega) (by omega) h
    rw [this, up_up]
    rfl
theorem p_rd (hQ : RQx T n e M (0, 0, 0) s t) (hM : N1 ≤ M) (h13 : s 131 13 = (q : Int)) (q12 : q < 12) (h201 : t 201 q = (p : Int)) (h112 : s 112 q = (p : Int)) (p6 : s 131 6 = 0) (hy : 0 ≤ y3 ∧ y3 < t 170 15) (h176 : ∀ j : Nat, j < N1 → t 176 j = y3) {s9 t9 : tab} {O B : Int} (hor : lo 0 O = lo (t 170 22) B) (tg : ∀ k j, ¬ ((195 ≤ k ∧ k ≤ 199) ∧ j = q) → ¬ (k = 170 ∧ (j = 14 ∨ j = 15 ∨ j = 35 ∨ j = 37 ∨ j = 22)) → t9 k j = t k j) (so : ∀ k j, ¬ (k = 105 ∧ j = 3) → ¬ (k = 131 ∧ (j = 13 ∨ j = 14)) → ¬ ((k = 134 ∨ k = 135 ∨ k = 136) ∧ j = q) → s9 k j = s k j) (s134 : s9 134 q = lo (s 131 7) B) (s135 : s9 135 q = lo (s 131 8) B) (s136 : s9 136 q = s 131 9) (s105 : s9 105 3 = (N1 : Int)) (s13 : s9 131 13 = -1) (s14 : s9 131 14 = 0) (e195 : t9 195 q = O) (e196 : t9 196 q = t 170 23) (e197 : t9 197 q = t 170 24) (e198 : t9 198 q = t 170 25) (e199 : t9 199 q = lo (t 170 26) (lsl 1 (q : Int))) (r14 : t9 170 14 = (N1 : Int)) (r15 : t9 170 15 = y3) (r35 : t9 170 35 = -1) (r37 : t9 170 37 = 0) : RDx T n e N1 s9 t9 := by
  obtain ⟨⟨⟨hT, ⟨x1, x2, x3⟩, l3, l4, k1, k2, k3, k4, k5⟩, ⟨⟨a1, a2, a3, a4, a5⟩, b, c, d1, d2⟩, m1, m2, m3, m4⟩, pf, ⟨c1, c2, c3, c4⟩, q1, q2⟩ := hQ
  have cc : ∀ k j, k ≠ 105 → k ≠ 131 → ¬ (134 ≤ k ∧ k ≤ 136) → s9 k j = s k j := fun k j z1 z2 z3 => so k j (by omega) (by omega) (by omega)
  have rr : ∀ k j, k ≠ 170 → ¬ (195 ≤ k ∧ k ≤ 199) → t9 k j = t k j := fun k j z1 z2 => tg k j (by omega) (by omega)
  have i5 : s9 137 5 = s 137 5 := cc 137 5 (by omega) (by omega) (by omega)
  refine ⟨⟨⟨?_, ⟨(tg 170 2 (by omega) (by omega)).trans x1, x2, fun j hj => ?_⟩, by rw [i5]; exact l3, by rw [i5]; exact l4, ?_⟩, ⟨s105, r14, by omega, fun j hj => ?_, fun j hj => ?_⟩, fun d hd => ?_, fun r hr1 hr2 => ?_, ?_, ⟨by rw [r15]; exact hy.1, ?_, ?_, fun j hj => ?_⟩, ?_⟩, ⟨Int.le_refl _, by omega, fun j hj => ?_⟩, (so 131 6 (by omega) (by omega) (by omega)).trans p6, s13, s14, r35, r37, ?_⟩
  · obtain ⟨y1, y2, y3, y4, y5⟩ := hT
    refine ⟨y1, y2, y3, y4, fun j hj => ?_⟩
    rw [cc 139 j (by omega) (by omega) (by omega), cc 140 j (by omega) (by omega) (by omega), cc 141 j (by omega) (by omega) (by omega)]
    exact y5 j hj
  · rw [rr 171 j (by omega) (by omega)]
    exact x3 j hj
  · rw [i5]
    exact ⟨(tg 170 5 (by omega) (by omega)).trans k1, (tg 170 3 (by omega) (by omega)).trans k2, (tg 170 6 (by omega) (by omega)).trans k3, (tg 170 4 (by omega) (by omega)).trans k4, fun w => (tg 170 7 (by omega) (by omega)).trans (k5 w)⟩
  · obtain ⟨a, b, z1, z2, z3, z4, z5, z6⟩ := a4 j (by omega)
    exact ⟨a, b, (rr 172 j (by omega) (by omega)).trans z1, (rr 173 j (by omega) (by omega)).trans z2, z3, z4, z5, (cc 106 j (by omega) (by omega) (by omega)).trans z6⟩
  · rw [rr 174 j (by omega) (by omega), rr 175 j (by omega) (by omega), cc 107 j (by omega) (by omega) (by omega), cc 108 j (by omega) (by omega) (by omega), cc 109 _ (by omega) (by omega) (by omega)]
    exact a5 j (by omega)
  · rw [rr 177 _ (by omega) (by omega), cc 109 d (by omega) (by omega) (by omega)]
    exact b d hd
  · rw [cc 109 5 (by omega) (by omega) (by omega)] at hr1
    by_cases hrq : r = q
    · subst hrq
      rw [rr 201 r (by omega) (by omega), cc 112 r (by omega) (by omega) (by omega), s134, s135, s136, e195, e196, e197, e198, e199, h201, h112]
      refine ⟨rfl, ?_, ?_, ?_, m4.1, m4.2.1, lo_4k m4.2.2 (lsl_4x ⟨by omega, by omega⟩)⟩
      · rw [m1]
        show lo (lo 0 (lo (t 170 23) (t 170 22))) B = lo (t 170 23) O
        rw [lo_zero, lo_assoc, ← hor, lo_lc, lo_zero]
      · rw [m2]
        show lo (lo 0 (t 170 22)) B = lo 0 O
        rw [hor, lo_assoc, lo_zero]
      · rw [m3]
        show lo (lo 0 (pkm (t 170 24) (t 170 25) (t 170 26))) (lsl 1 (24 + (r : Int))) = pkm (t 170 24) (t 170 25) (lo (t 170 26) (lsl 1 (r : Int)))
        have hb := lsl_24 ⟨r, q12⟩
        unfold pkm
        rw [lsl_lo, show lsl (lsl 1 (r : Int)) 24 = lsl 1 (24 + (r : Int)) from hb, lo_zero]
        simp only [lo_assoc]
    · obtain ⟨z1, z2, z3, z4, z5⟩ := c r hr1 (by omega)
      rw [rr 201 r (by omega) (by omega), cc 112 r (by omega) (by omega) (by omega), so 134 r (by omega) (by omega) (by omega), so 135 r (by omega) (by omega) (by omega), so 136 r (by omega) (by omega) (by omega), tg 195 r (by omega) (by omega), tg 196 r (by omega) (by omega), tg 197 r (by omega) (by omega), tg 198 r (by omega) (by omega), tg 199 r (by omega) (by omega)]
      exact ⟨z1, z2, z3, z4, z5⟩
  · unfold RPf
    rw [so 131 3 (by omega) (by omega) (by omega), tg 170 21 (by omega) (by omega)]
    exact pf
  · rw [r15, tg 170 16 (by omega) (by omega)]
    omega
  · rw [tg 170 16 (by omega) (by omega), i5]
    exact c3
  · rw [rr 176 j (by omega) (by omega), tg 170 16 (by omega) (by omega)]
    exact c4 j (by omega)
  · unfold RSu
    rw [cc 109 0 (by omega) (by omega) (by omega), cc 109 1 (by omega) (by omega) (by omega), cc 109 2 (by omega) (by omega) (by omega), cc 109 3 (by omega) (by omega) (by omega), cc 109 4 (by omega) (by omega) (by omega), cc 109 5 (by omega) (by omega) (by omega)]
    omega
  · rw [rr 176 j (by omega) (by omega), r15, h176 j hj]
    exact ⟨fun _ => by omega, fun _ => rfl⟩
  · unfold MLx
    rw [so 131 7 (by omega) (by omega) (by omega), so 131 8 (by omega) (by omega) (by omega), so 131 9 (by omega) (by omega) (by omega), m1, m2, m3]
    exact ⟨lo_zero _ _, lo_zero _ _, lo_zero _ _⟩
theorem p_rend (hQ : RQx T n e M (0, 0, 0) s t) (hM : N1 ≤ M) (h13 : s 131 13 = (q : Int)) (q12 : q < 12) (h201 : t 201 q = (p : Int)) (h112 : s 112 q = (p : Int)) (h113 : s 113 q = F) (p4 : p ≤ 4) (F0 : 0 ≤ F) (F1 : F ≤ 24) (p6 : s 131 6 = 0) (hy : 0 ≤ y3 ∧ y3 < t 170 15) (h176 : ∀ j : Nat, j < N1 → t 176 j = y3) {t3 : tab} (ht : ∀ k j, ¬ (k = 170 ∧ j = 14) → t3 k j = t k j) : ∃ s2, cG 52 [(q : Int)] (ncu s (N1 : Int)) = some (some (0, s2)) ∧ RDx T n e N1 s2 (efR q y3 (N1 : Int) (up2 t3 170 22 (orb F p 0 (t3 170 22)))) ∧ s2 137 5 = s 137 5 := by
  rw [ncu_e hQ.1.2.1.1.1 hM]
  have hor := or_B F0 F1 p4 (t 170 22)
  rw [ht 170 22 (by omega)]
  obtain ⟨O, hO⟩ : ∃ O, O = orb F p 0 (t 170 22) := ⟨_, rfl⟩
  rw [← hO] at hor ⊢
  obtain ⟨B, hB⟩ : ∃ B, B = lsl (lmi (lsl 1 (p : Int)) 1) F := ⟨_, rfl⟩
  rw [← hB] at hor
  have hend : cG 52 [(q : Int)] (up2 s 105 3 (N1 : Int)) = some (some (0, up2 (up2 (up2 (up2 (up2 (up2 s 105 3 (N1 : Int)) 131 13 (-1)) 131 14 0) 134 q (lo (s 131 7) B)) 135 q (lo (s 131 8) B)) 136 q (s 131 9))) := by
    rw [cG_74]
    unfold cM74
    rw [if_neg (by omega), if_neg (by omega), Int.toNat_natCast]
    rw [show (up2 s 105 3 (N1 : Int)) 112 q = (p : Int) from h112, show (up2 s 105 3 (N1 : Int)) 113 q = F from h113, ← hB]
    rfl
  have tg : ∀ k j, ¬ ((195 ≤ k ∧ k ≤ 199) ∧ j = q) → ¬ (k = 170 ∧ (j = 14 ∨ j = 15 ∨ j = 35 ∨ j = 37 ∨ j = 22)) → (efR q y3 (N1 : Int) (up2 t3 170 22 O)) k j = t k j := fun k j z1 z2 => (ef_o k j z1 (by omega)).trans ((if_neg (by omega)).trans (ht k j (by omega)))
  have so : ∀ k j, ¬ (k = 105 ∧ j = 3) → ¬ (k = 131 ∧ (j = 13 ∨ j = 14)) → ¬ ((k = 134 ∨ k = 135 ∨ k = 136) ∧ j = q) → (up2 (up2 (up2 (up2 (up2 (up2 s 105 3 (N1 : Int)) 131 13 (-1)) 131 14 0) 134 q (lo (s 131 7) B)) 135 q (lo (s 131 8) B)) 136 q (s 131 9)) k j = s k j := fun k j z1 z2 z3 => (if_neg (by omega)).trans ((if_neg (by omega)).trans ((if_neg (by omega)).trans ((if_neg (by omega)).trans ((if_neg (by omega)).trans (if_neg (by omega))))))
  have s134 : (up2 (up2 (up2 (up2 (up2 (up2 s 105 3 (N1 : Int)) 131 13 (-1)) 131 14 0) 134 q (lo (s 131 7) B)) 135 q (lo (s 131 8) B)) 136 q (s 131 9)) 134 q = lo (s 131 7) B := (if_neg (by omega)).trans ((if_neg (by omega)).trans up_self)
  have s135 : (up2 (up2 (up2 (up2 (up2 (up2 s 105 3 (N1 : Int)) 131 13 (-1)) 131 14 0) 134 q (lo (s 131 7) B)) 135 q (lo (s 131 8) B)) 136 q (s 131 9)) 135 q = lo (s 131 8) B := (if_neg (by omega)).trans up_self
  have s136 : (up2 (up2 (up2 (up2 (up2 (up2 s 105 3 (N1 : Int)) 131 13 (-1)) 131 14 0) 134 q (lo (s 131 7) B)) 135 q (lo (s 131 8) B)) 136 q (s 131 9)) 136 q = s 131 9 := up_self
  have s105 : (up2 (up2 (up2 (up2 (up2 (up2 s 105 3 (N1 : Int)) 131 13 (-1)) 131 14 0) 134 q (lo (s 131 7) B)) 135 q (lo (s 131 8) B)) 136 q (s 131 9)) 105 3 = (N1 : Int) := rfl
  have s13 : (up2 (up2 (up2 (up2 (up2 (up2 s 105 3 (N1 : Int)) 131 13 (-1)) 131 14 0) 134 q (lo (s 131 7) B)) 135 q (lo (s 131 8) B)) 136 q (s 131 9)) 131 13 = -1 := rfl
  have s14 : (up2 (up2 (up2 (up2 (up2 (up2 s 105 3 (N1 : Int)) 131 13 (-1)) 131 14 0) 134 q (lo (s 131 7) B)) 135 q (lo (s 131 8) B)) 136 q (s 131 9)) 131 14 = 0 := rfl
  refine ⟨_, hend, ?_, so 137 5 (by omega) (by omega) (by omega)⟩
  obtain ⟨e195, e196, e197, e198, e199⟩ := ef_q (q := q) (y3 := y3) (y4 := (N1 : Int)) (t := up2 t3 170 22 O)
  have e195 : (efR q y3 (N1 : Int) (up2 t3 170 22 O)) 195 q = O := e195
  have e196 : (efR q y3 (N1 : Int) (up2 t3 170 22 O)) 196 q = t 170 23 := e196.trans (ht 170 23 (by omega))
  have e197 : (efR q y3 (N1 : Int) (up2 t3 170 22 O)) 197 q = t 170 24 := e197.trans (ht 170 24 (by omega))
  have e198 : (efR q y3 (N1 : Int) (up2 t3 170 22 O)) 198 q = t 170 25 := e198.trans (ht 170 25 (by omega))
  have e199 : (efR q y3 (N1 : Int) (up2 t3 170 22 O)) 199 q = lo (t 170 26) (lsl 1 (q : Int)) := by
    rw [e199]
    show lo (t3 170 26) _ = _
    rw [ht 170 26 (by omega)]
  have r14 : (efR q y3 (N1 : Int) (up2 t3 170 22 O)) 170 14 = (N1 : Int) := rfl
  have r15 : (efR q y3 (N1 : Int) (up2 t3 170 22 O)) 170 15 = y3 := rfl
  have r35 : (efR q y3 (N1 : Int) (up2 t3 170 22 O)) 170 35 = -1 := rfl
  have r37 : (efR q y3 (N1 : Int) (up2 t3 170 22 O)) 170 37 = 0 := rfl
  exact p_rd hQ hM h13 q12 h201 h112 p6 hy h176 hor tg so s134 s135 s136 s105 s13 s14 e195 e196 e197 e198 e199 r14 r15 r35 r37
/-- our body and end -/
noncomputable def BDx (y1 z : Int) (s : tab) : RO := bo (if y1 = 0 then cG 53 [imi (s 105 3) (prm s z)] s else cG 45 [0, imi (s 105 3) (prm s z)] s) fun _ s2 => cG 52 [z] s2
noncomputable def WRx (y1 b m F p : Int) (s : tab) : RO := bo (cG 70 [b, p] s) fun z9 s9 => bo (cG 29 [41] s9) fun _ s10 => BDx y1 m (FNx y1 b m F z9 s10)
noncomputable def WQx (y1 b m F : Int) (s : tab) : RO := if kkd s ≠ 41 then (bo (cG 50 [b] s) fun z9 s9 => bo (cG 29 [41] s9) fun _ s10 => BDx y1 m (FNx y1 b m F z9 s10)) else (bo (cG 29 [41] s) fun _ s10 => BDx y1 m (FNx y1 b m F 0 s10))
theorem c_36 : (bo (cG 51 [if y1 = 0 then 6 else 5] s) fun z s1 => BDx y1 z s1) = bo (cG 31 [if y1 = 0 then 6 else 5, 0] s) fun z1 s1 => bo (cG 29 [40] s1) fun _ s6 => WQx y1 (s1 105 3) z1 (s1 109 0) s6 := by
  rw [cG_36]
  unfold cM36
  by_cases y : y1 = 0
  · rw [if_pos y, bo_as]
    congr 1
    funext z1 s1
    rw [bo_as]
    congr 1
    funext z6 s6
    unfold WQx
    by_cases k : kkd s6 ≠ 41
    · rw [if_pos k, if_pos k, bo_as]
      congr 1
      funext z9 s9
      rw [bo_as]
      congr 1
      funext z10 s10
      rw [if_neg (by decide), bo_s]
      unfold FNx
      rw [if_pos y]
    · rw [if_neg k, if_neg k, bo_as]
      congr 1
      funext z10 s10
      rw [if_neg (by decide), bo_s]
      unfold FNx
      rw [if_pos y]
  · rw [if_neg y, bo_as]
    congr 1
    funext z1 s1
    rw [bo_as]
    congr 1
    funext z6 s6
    unfold WQx
    by_cases k : kkd s6 ≠ 41
    · rw [if_pos k, if_pos k, bo_as]
      congr 1
      funext z9 s9
      rw [bo_as]
      congr 1
      funext z10 s10
      rw [if_pos (by decide), bo_s]
      unfold FNx
      rw [if_neg y]
    · rw [if_neg k, if_neg k, bo_as]
      congr 1
      funext z10 s10
      rw [if_pos (by decide), bo_s]
      unfold FNx
      rw [if_neg y]
def P131 (rc : MRq) : Prop := ∀ (T : Nat → Int) (n e N1 p q : Nat) (F y1 y3 : Int) (s t : tab) (v : Option (Int × tab)), RPx T n e N1 p q F y1 y3 s t → rc 64 [y1, (q : Int), y3, (N1 : Int)] t = some v → ODx T n e s (if p = 0 then WQx y1 (N1 : Int) (q : Int) F s else WRx y1 (N1 : Int) (q : Int) F (p : Int) s) v
/-- ) and the body -/
theorem p_close (hrc : rle rc rG) (hY : PYx rc) (hB : PBx rc) (h277 : P277 rc) {v : Option (Int × tab)} (h : RPx T n e N1 p q F y1 y3 s t) (hh : (bo (rc 8 [24] t) fun z7 t7 => if z7 ≠ 0 then (if y1 = 0 then (bo (rc 35 [] (rfg t7)) fun z15 t15 => if z15 ≠ 0 then rc 65 [(q : Int), y3, (N1 : Int), 0] t15 else some (some (0, t15))) else (bo (rc 28 [0] (rfg t7)) fun z18 t18 => if z18 = 0 then some (some (0, t18)) else rc 65 [(q : Int), y3, (N1 : Int), 0] t18)) else some (some (0, t7))) = some v) : ODx T n e s (bo (cG 29 [41] s) fun _ s10 => BDx y1 (q : Int) (FNx y1 (N1 : Int) (q : Int) F (p : Int) s10)) v := by
  rcases RL_take h.1.1 is_24 (by decide) with ⟨t7, c1, c2, c3, c4, c5, c6, c7⟩ | ⟨c1, c2, c3⟩
  · have hh := bxr hrc c1 hh
    try dsimp only at hh
    rw [if_pos (by decide)] at hh
    rw [c3, bo_s]
    have h7 := RP_lex h c4 c5 (by omega) c7
    obtain ⟨hQ, hsc, e112, e113⟩ := RP_Q h7
    obtain ⟨hR7, _, h109, _, ⟨r35, r36, r37, r201, r202⟩, ⟨q12, F0, p4⟩, p0, hy, h176⟩ := h7
    have h24 := (hR7.2.2.1 0 (by omega)).2.2
    have l0 : LIM 0 = 24 := rfl
    have e105 : (FNx y1 (N1 : Int) (q : Int) F (p : Int) (stp s)) 105 3 = ((N1 + p : Nat) : Int) := hQ.1.2.1.1.1
    have h58 : N1 + p ≤ 58 := hQ.1.2.1.1.2.2.1
    have eprm : prm (FNx y1 (N1 : Int) (q : Int) F (p : Int) (stp s)) (q : Int) = (p : Int) := by
      unfold prm
      rw [if_pos ⟨by omega, by omega⟩, Int.toNat_natCast]
      exact e112
    have s6 : (FNx y1 (N1 : Int) (q : Int) F (p : Int) (stp s)) 131 6 = 0 := by
      rw [FN_e q12]
      exact p0
    have s13 : (FNx y1 (N1 : Int) (q : Int) F (p : Int) (stp s)) 131 13 = (q : Int) := by
      rw [FN_e q12]
      rfl
    have s5 : (FNx y1 (N1 : Int) (q : Int) F (p : Int) (stp s)) 137 5 = (stp s) 137 5 := by
      rw [FN_e q12]
      rfl
    unfold BDx
    rw [e105, eprm, imi_e (by omega), show ((N1 + p : Nat) : Int) - (p : Int) = (N1 : Int) by omega]
    by_cases y : y1 = 0
    · rw [if_pos y] at hh ⊢
      rcases bo_inv hh with ⟨h9, _⟩ | ⟨z6, t6, h9, hh⟩
      · obtain ⟨z, t9, w1, _⟩ := hY T n e (N1 + p) (0, 0, 0) _ _ (N1 : Int) _ hQ hsc s6 h9
        cases w1
      · obtain ⟨z, t9, w1, w2⟩ := hY T n e (N1 + p) (0, 0, 0) _ _ (N1 : Int) _ hQ hsc s6 h9
        cases w1
        rcases w2 with ⟨rfl, M, s5', f1, f2, f3, f4, f5, f6⟩ | ⟨rfl, f1⟩
        · rw [if_pos (by decide)] at hh
          rw [f1, bo_s]
          have u201 : t6 201 q = (p : Int) := (f5.2.2.2.2.2.1 q).trans r201
          have u202 : t6 202 q = F := (f5.2.2.2.2.2.2 q).trans r202
          have hv := h277 t6 q p F y3 (N1 : Int) 0 v (by omega) u202 F0 (by omega) (by omega) (by omega) hh
          obtain ⟨s9, g1, g2, g3⟩ := p_rend (N1 := N1) (q := q) (p := p) (F := F) (y3 := y3) f3 (by omega) (f4.2.2.1.trans s13) q12 u201 ((f4.1 q).trans e112) ((f4.2.1 q).trans e113) p4 F0 (by omega) (f4.2.2.2.2.1.trans s6) (by rw [f5.1]; exact hy) (fun j hj => (f5.2.1 j (by omega)).trans (h176 j hj)) (t3 := t6) (fun _ _ _ => rfl)
          refine ⟨1, _, hv, .inl ⟨rfl, N1, s9, g1, g2, ?_⟩⟩
          omega
        · rw [if_neg (by decide)] at hh
          cases hh
          refine OD_no ?_
          rw [f1]
          rfl
    · rw [if_neg y] at hh ⊢
      rcases bo_inv hh with ⟨h9, _⟩ | ⟨z6, t6, h9, hh⟩
      · obtain ⟨z, t9, w1, _⟩ := hB T n e (N1 + p) (0, 0, 0) _ _ 0 (N1 : Int) _ (RQ_w hQ) hsc (by omega) (by omega) s6 h9
        cases w1
      · obtain ⟨z, t9, w1, w2⟩ := hB T n e (N1 + p) (0, 0, 0) _ _ 0 (N1 : Int) _ (RQ_w hQ) hsc (by omega) (by omega) s6 h9
        cases w1
        rcases w2 with ⟨rfl, M, s5', t5, f1, f0, f2, f3, f4, f5, f6⟩ | ⟨rfl, f1⟩
        · rw [if_neg (by decide)] at hh
          rw [f1, bo_s]
          have hk : ∀ k j, ¬ (k = 170 ∧ j = 14) → t6 k j = t5 k j := fun k j z => by
            rw [f0]
            exact if_neg z
          have u201 : t6 201 q = (p : Int) := (hk 201 q (by omega)).trans ((f5.2.2.2.2.2.1 q).trans r201)
          have u202 : t6 202 q = F := (hk 202 q (by omega)).trans ((f5.2.2.2.2.2.2 q).trans r202)
          have hv := h277 t6 q p F y3 (N1 : Int) 0 v (by omega) u202 F0 (by omega) (by omega) (by omega) hh
          obtain ⟨s9, g1, g2, g3⟩ := p_rend (N1 := N1) (q := q) (p := p) (F := F) (y3 := y3) f3 (by omega) (f4.2.2.1.trans s13) q12 ((f5.2.2.2.2.2.1 q).trans r201) ((f4.1 q).trans e112) ((f4.2.1 q).trans e113) p4 F0 (by omega) (f4.2.2.2.2.1.trans s6) (by rw [f5.1]; exact hy) (fun j hj => (f5.2.1 j (by omega)).trans (h176 j hj)) (t3 := t6) hk
          refine ⟨1, _, hv, .inl ⟨rfl, N1, s9, g1, g2, ?_⟩⟩
          omega
        · rw [if_pos rfl] at hh
          cases hh
          refine OD_no ?_
          rw [f1]
          rfl
  · have hh := bxr hrc c1 hh
    try dsimp only at hh
    rw [if_neg (by decide)] at hh
    cases hh
    refine OD_no ?_
    rw [c3]
    rfl
/-- one PARAMETER more -/
theorem p_more (hrc : rle rc rG) (h131 : P131 rc) {v : Option (Int × tab)} (h : RPx T n e N1 p q F y1 y3 s t) (p3 : p ≤ 3) (hh : (bo (rc 17 [] t) fun z29 t29 => if z29 ≠ 0 then rc 64 [y1, (q : Int), y3, (N1 : Int)] (up2 t29 201 q (ipl (t29 201 q) 1)) else some (some (0, t29))) = some v) : ODx T n e s (bo (cG 32 [(N1 : Int)] s) fun _ s10 => WRx y1 (N1 : Int) (q : Int) F ((p : Int) + 1) s10) v := by
  obtain ⟨hH, hsc, h109, hnm, ⟨r35, r36, r37, r201, r202⟩, ⟨q12, F0, p4⟩, p0, hy, h176⟩ := h
  rw [cG_45]
  unfold cM45
  rcases p_int (b := (N1 : Int)) hH hsc with ⟨t9, a1, a2⟩ | ⟨s2, t2, a2, a3, a4, a5, a6, a7, a8, a9, a10, a11, a12⟩
  · have hh := bxr hrc a1 hh
    try dsimp only at hh
    rw [if_neg (by decide)] at hh
    cases hh
    refine OD_no ?_
    rw [a2]
    rfl
  · have hh := bxr hrc a2 hh
    try dsimp only at hh
    rw [if_pos (by decide)] at hh
    rw [a3, bo_s, bo_s]
    have tk : ∀ j, 10 ≤ j → j ≠ 14 → t2 170 j = t 170 j := fun j z1 z2 => a7.1 170 j (by unfold lexs; omega) (by omega) (by omega)
    have t201 : t2 201 q = (p : Int) := (a7.1 201 q (by unfold lexs; omega) (by omega) (by omega)).trans r201
    have t202 : t2 202 q = F := (a7.1 202 q (by unfold lexs; omega) (by omega) (by omega)).trans r202
    have e9 : s2 109 0 = s 109 0 + 1 := by rw [a11, if_pos rfl]
    have hn : RPx T n e N1 (p + 1) q F y1 y3 s2 (up2 t2 201 q (ipl (t2 201 q) 1)) := by
      obtain ⟨hL, ⟨b1, b2, b3, b4, b5⟩, hC, hR, hP, ⟨d1, d2, d3, d4⟩, hU⟩ := a4
      obtain ⟨l1, ⟨l2, l2', l2''⟩, l3, l4, l5⟩ := hL
      refine ⟨⟨⟨l1, ⟨l2, l2', l2''⟩, l3, l4, l5⟩, ⟨b1, b2, b3, b4, b5⟩, hC, fun r z1 z2 => ?_, hP, ⟨d1, d2, d3, d4⟩, hU⟩, a5, by omega, fun j hj => ?_, ⟨(tk 35 (by omega) (by omega)).trans r35, (tk 36 (by omega) (by omega)).trans r36, (tk 37 (by omega) (by omega)).trans r37, ?_, t202⟩, ⟨q12, F0, by omega⟩, (a6.1 131 6 (by omega) (by omega)).trans p0, ?_, fun j hj => (a7.2 j (by omega)).trans (h176 j hj)⟩
      · obtain ⟨w1, w2⟩ := hR r z1 z2
        exact ⟨(if_neg (by omega)).trans w1, w2⟩
      · by_cases ej : j = N1 + p
        · subst ej
          rw [a9, a10]
          exact ⟨fun _ => ⟨rfl, by omega⟩, fun z => absurd z (by omega)⟩
        · rw [(a8 j (by omega)).1, (a8 j (by omega)).2]
          exact hnm j (by omega)
      · rw [up_self, t201, ipl_e (by omega)]
        omega
      · show 0 ≤ y3 ∧ y3 < t2 170 15
        rw [tk 15 (by omega) (by omega)]
        exact hy
    have := h131 T n e N1 (p + 1) q F y1 y3 s2 _ v hn hh
    rw [if_neg (by omega), show ((p + 1 : Nat) : Int) = (p : Int) + 1 by omega] at this
    exact OD_pre this (by rw [a6.2]; omega)
theorem p_131 (hrc : rle rc rG) (hY : PYx rc) (hB : PBx rc) (h277 : P277 rc) (h131 : P131 rc) : ∀ (T : Nat → Int) (n e N1 p q : Nat) (F y1 y3 : Int) (s t : tab) (v : Option (Int × tab)), RPx T n e N1 p q F y1 y3 s t → rM129_131 rc y1 (q : Int) y3 (N1 : Int) t = some v → ODx T n e s (if p = 0 then WQx y1 (N1 : Int) (q : Int) F s else WRx y1 (N1 : Int) (q : Int) F (p : Int) s) v := by
  intro T n e N1 p q F y1 y3 s t v h hh
  unfold rM129_131 at hh
  rw [Int.toNat_natCast] at hh
  have r201 : t 201 q = (p : Int) := h.2.2.2.2.1.2.2.2.1
  have p4 : p ≤ 4 := h.2.2.2.2.2.1.2.2
  have hL := h.1.1
  by_cases p0 : p = 0
  · rw [if_neg (show ¬ (t 201 q ≠ 0) by omega)] at hh
    rw [if_pos p0]
    have hh := bxr hrc (RL_is is_24 hL) hh
    try dsimp only at hh
    unfold WQx
    by_cases k1 : kkd s = 41
    · rw [if_pos k1, if_pos (by decide)] at hh
      rw [if_neg (fun z => z k1)]
      have := p_close hrc hY hB h277 h hh
      rw [show (p : Int) = 0 by omega] at this
      exact this
    · rw [if_neg k1, if_neg (by decide), if_pos (show t 201 q ≤ 0 by omega), if_pos (show t 201 q ≠ 4 by omega)] at hh
      rw [if_pos k1, cG_44]
      unfold cM44
      rw [bo_as]
      have := p_more hrc h131 h (by omega) hh
      rw [show (p : Int) + 1 = 1 by omega] at this
      exact this
  · rw [if_pos (show t 201 q ≠ 0 by omega)] at hh
    rw [if_neg p0]
    have hh := bxr hrc (RL_is is_26 hL) hh
    try dsimp only at hh
    unfold WRx
    rw [cG_44_7]
    unfold cM44_7
    rw [if_neg (show ¬ (2000 ≤ (p : Int)) by omega)]
    by_cases k1 : kkd s = 44
    · rw [if_pos k1, if_neg (by decide), if_neg (show ¬ (t 201 q ≤ 0) by omega)] at hh
      rw [if_neg (show ¬ (kkd s ≠ 44) from fun z => z k1)]
      have stk := RL_stk hL (by omega) (by omega)
      obtain ⟨t9, d1, d2, d3, d4⟩ := RL_step hL (by omega) (by omega)
      have hh := bxr hrc d1 hh
      try dsimp only at hh
      have h9 := RP_lex h d2 stk (by omega) d4
      have u201 : t9 201 q = (p : Int) := h9.2.2.2.2.1.2.2.2.1
      by_cases k2 : p = 4
      · rw [if_neg (show ¬ (t9 201 q ≠ 4) by omega)] at hh
        rw [if_pos (by omega)]
        cases hh
        exact OD_no rfl
      · rw [if_pos (show t9 201 q ≠ 4 by omega)] at hh
        rw [if_neg (by omega), bo_as]
        exact OD_pre (p_more hrc h131 h9 (by omega) hh) (by omega)
    · rw [if_neg k1, if_pos rfl] at hh
      rw [if_pos k1, bo_s]
      exact p_close hrc hY hB h277 h hh
/-- the reference's table behind proc NAME -/
def rtR (y1 : Int) (q : Nat) (t : tab) : tab := up2 (up2 (up2 (up2 (up2 (up2 (up2 t 170 15 (t 170 16)) 170 16 (ipl (t 170 16) 1)) 170 35 (q : Int)) 170 37 (if y1 = 0 then 1 else 0)) 170 36 (t 177 4)) 202 q (t 177 4)) 201 q 0
theorem RP_0 {s1 tU : tab} (h0 : RDx T n e N s0 t0) (hH : RHx T n e (N + 1) (q : Int) s1 tU) (hsc : SCb (N + 1) 0 tU) (hc : DGc s0 s1) (hr : DFr N t0 tU) (h2 : s0 137 5 + 1 ≤ s1 137 5) (q12 : q < 12) : RPx T n e (N + 1) 0 q (tU 177 4) y1 (tU 170 15) s1 (rtR y1 q tU) := by
  have hin := RL_in hH.1
  have z16 : t0 170 16 ≤ s0 137 5 + 1 := h0.1.2.2.2.2.2.1.2.2.1
  have y16 : tU 170 16 = t0 170 16 := hr.1 170 16 (by unfold lexs; omega) (by omega) (by omega)
  have y6 : s1 131 6 = 0 := (hc.1 131 6 (by omega) (by omega)).trans h0.2.2.1
  obtain ⟨⟨l1, ⟨l2, l2', l2''⟩, l3, l4, l5⟩, ⟨b1, b2, b3, b4, b5⟩, hC, hR, hP, ⟨d1, d2, d3, d4⟩, hU⟩ := hH
  have e16 : (rtR y1 q tU) 170 16 = tU 170 16 + 1 := by
    show ipl (tU 170 16) 1 = _
    exact ipl_e (by omega)
  have e15 : (rtR y1 q tU) 170 15 = tU 170 16 := rfl
  have hc0 := hC 0 (by omega)
  have e4 : tU 177 4 = s1 109 0 := hc0.1
  refine ⟨⟨⟨l1, ⟨l2, l2', l2''⟩, l3, l4, l5⟩, ⟨b1, b2, b3, b4, b5⟩, hC, fun r z1 z2 => ?_, hP, ⟨by rw [e15]; omega, by rw [e15, e16]; omega, by rw [e16]; omega, fun j hj => ?_⟩, hU⟩, ⟨by omega, by omega, fun j hj => ?_⟩, ?_, fun j hj => ?_, ⟨rfl, rfl, rfl, ?_, ?_⟩, ⟨q12, by omega, by omega⟩, y6, ⟨d1, by rw [e15]; exact d2⟩, fun j hj => (hsc.2.2 j hj).mpr (by omega)⟩
  · obtain ⟨w1, w2⟩ := hR r z1 z2
    refine ⟨?_, w2⟩
    show (up2 (up2 tU 202 q (tU 177 4)) 201 q 0) 201 r = s1 112 r
    exact (if_neg (by omega)).trans ((if_neg (by omega)).trans w1)
  · rw [e16]
    have : 0 ≤ tU 176 j ∧ tU 176 j < tU 170 16 := d4 j hj
    show 0 ≤ tU 176 j ∧ tU 176 j < tU 170 16 + 1
    omega
  · rw [e15]
    have : 0 ≤ tU 176 j ∧ tU 176 j < tU 170 16 := d4 j hj
    show tU 176 j = tU 170 16 ↔ _
    exact ⟨fun z => by omega, fun z => by omega⟩
  · rw [e4]
    omega
  · refine ⟨fun z => absurd z (by omega), fun _ z => ?_⟩
    obtain ⟨_, _, _, _, _, w⟩ := b5 j hj
    rw [z] at w
    rw [e4]
    exact w
  · show (up2 (up2 tU 202 q (tU 177 4)) 201 q 0) 201 q = ((0 : Nat) : Int)
    exact up_self
  · show (up2 (up2 tU 202 q (tU 177 4)) 201 q 0) 202 q = tU 177 4
    exact (if_neg (by omega)).trans up_self
def P129 (rc : MRq) : Prop := ∀ (T : Nat → Int) (n e N : Nat) (y1 : Int) (s t : tab) (v : Option (Int × tab)), RDx T n e N s t → kkd s ≠ 3 → kkd s ≠ 4 → rc 36 [y1] t = some v → ODx T n e s (bo (cG 51 [if y1 = 0 then 6 else 5] (stp s)) fun z s1 => BDx y1 z s1) v
/-- behind ( -/
theorem p_opn (hrc : rle rc rG) (h131 : P131 rc) {s1 t6 : tab} {m : Int} {v : Option (Int × tab)} (h0 : RDx T n e N s0 t0) (hm : m = (q : Int)) (q12 : q < 12) (hH : RHx T n e (N + 1) (q : Int) s1 (up2 t6 177 9 (ipl (t6 177 9) 1))) (hsc : SCb (N + 1) 0 (up2 t6 177 9 (ipl (t6 177 9) 1))) (hc : DGc s0 s1) (hr : DFr N t0 (up2 t6 177 9 (ipl (t6 177 9) 1))) (h2 : s0 137 5 + 1 ≤ s1 137 5) (h : (bo (rc 8 [22] (rtR y1 q (up2 t6 177 9 (ipl (t6 177 9) 1)))) fun z25 t25 => if z25 ≠ 0 then rc 64 [y1, (q : Int), t6 170 15, t6 170 14] t25 else some (some (0, t25))) = some v) : ODx T n e s0 (bo (cG 29 [40] s1) fun _ s6 => WQx y1 (s1 105 3) m (s1 109 0) s6) v := by
  have hp := RP_0 (y1 := y1) h0 hH hsc hc hr h2 q12
  have e3 : s1 105 3 = ((N + 1 : Nat) : Int) := hH.2.1.1
  have e14 : t6 170 14 = ((N + 1 : Nat) : Int) := hH.2.1.2.1
  have e4 : (up2 t6 177 9 (ipl (t6 177 9) 1)) 177 4 = s1 109 0 := (hH.2.2.1 0 (by omega)).1
  rw [e4] at hp
  rw [hm, e3]
  rcases RL_take hp.1.1 is_22 (by decide) with ⟨t7, c1, c2, c3, c4, c5, c6, c7⟩ | ⟨c1, c2, c3⟩
  · have h := bxr hrc c1 h
    try dsimp only at h
    rw [if_pos (by decide), e14] at h
    rw [c3, bo_s]
    have h7 := RP_lex hp c4 c5 (by omega) c7
    have := h131 T n e (N + 1) 0 q (s1 109 0) y1 (t6 170 15) (stp s1) t7 v h7 h
    rw [if_pos rfl] at this
    exact OD_pre this (by omega)
  · have h := bxr hrc c1 h
    try dsimp only at h
    rw [if_neg (by decide)] at h
    cases h
    refine OD_no ?_
    rw [c3]
    rfl
theorem p_129 (hrc : rle rc rG) (h131 : P131 rc) : ∀ (T : Nat → Int) (n e N : Nat) (y1 : Int) (s t : tab) (v : Option (Int × tab)), RDx T n e N s t → kkd s ≠ 3 → kkd s ≠ 4 → rM129 rc y1 t = some v → ODx T n e s (bo (cG 51 [if y1 = 0 then 6 else 5] (stp s)) fun z s1 => BDx y1 z s1) v := by
  intro T n e N y1 s t v h0 k3 k4 h
  rw [c_36]
  unfold rM129 at h
  have hL := h0.1.1
  have stk := RL_stk hL k3 k4
  obtain ⟨t9, d1, d2, d3, d4⟩ := RL_step hL k3 k4
  have h := bxr hrc d1 h
  try dsimp only at h
  have hH := H_lex d2 h0.1.2 stk (by omega) d4
  have hsc := SC_lex h0.2.1 d4
  have h5 := hH.2.2.1 5 (by omega)
  have l5 : LIM 5 = 12 := rfl
  obtain ⟨q, hq⟩ : ∃ q : Nat, (stp s) 109 5 = (q : Int) := ⟨((stp s) 109 5).toNat, by omega⟩
  have e9 : t9 177 9 = (q : Int) := h5.1.trans hq
  have hw : 0 ≤ (if y1 = 0 then (6 : Int) else 5) ∧ (if y1 = 0 then (6 : Int) else 5) ≤ 6 := by split <;> omega
  have hcw : kcn (if y1 = 0 then (6 : Int) else 5) = 5 := by split <;> rfl
  have h2 : (bo (rc 16 [t9 177 9, 12] t9) fun z3 t3 => if z3 = 0 then some (some (0, t9)) else bo (rc 10 [if y1 = 0 then 6 else 5, t9 177 9] t9) fun z6 t6 => if z6 ≠ 0 then (bo (rc 8 [22] (rtR y1 q (up2 t6 177 9 (ipl (t6 177 9) 1)))) fun z25 t25 => if z25 ≠ 0 then rc 64 [y1, (q : Int), t6 170 15, t6 170 14] t25 else some (some (0, t25))) else some (some (0, t6))) = some v := by
    rw [← h]
    congr 1
    funext z3 t3
    by_cases z0 : z3 = 0
    · rw [if_pos z0, if_pos z0]
    · rw [if_neg z0, if_neg z0]
      unfold rtR
      rw [e9, Int.toNat_natCast]
      by_cases y : y1 = 0
      · simp only [if_pos y]
        rfl
      · simp only [if_neg y]
        rfl
  rcases p_nm (b := 0) (w := if y1 = 0 then 6 else 5) (c := 5) (u2 := (q : Int)) (L := 12) (D := 9) rfl rfl hH (by omega) hw hcw (.inr ⟨rfl, hq.symm, rfl⟩) hsc with ⟨a1, a2⟩ | ⟨a1, ⟨a2, a3⟩ | ⟨s2, t2, a2, a3, a4, a5, a6, a7, _, _, _, _, a12⟩⟩
  · have h := bxr hrc a1 h2
    try dsimp only at h
    rw [if_pos rfl] at h
    cases h
    refine OD_no ?_
    rw [a2]
    rfl
  · have h := bxr hrc a1 h2
    try dsimp only at h
    rw [if_neg (by decide)] at h
    have h := bxr hrc a2 h
    try dsimp only at h
    rw [if_neg (by decide)] at h
    cases h
    refine OD_no ?_
    rw [a3]
    rfl
  · have h := bxr hrc a1 h2
    try dsimp only at h
    rw [if_neg (by decide)] at h
    have h := bxr hrc a2 h
    try dsimp only at h
    rw [if_pos (by decide)] at h
    rw [a3, bo_s]
    exact p_opn hrc h131 h0 hq (by omega) a4 a5 (DG_tr (DG_lex stk d3) (DG_F a6)) (DR_tr (DR_lex d4) a7 (Nat.le_refl _)) (by rw [a6.2]; omega) h
end ROUT
