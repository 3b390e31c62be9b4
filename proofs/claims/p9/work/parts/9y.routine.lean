/-! Routines, in both. -/
section ROUT
variable {T : Nat → Int} {n e N N1 p q M : Nat} {s t s2 t2 s0 t0 : tab} {rc : MRq} {F y1 y3 : Int}
/-- while PARAMETERS are read: N1 names before them, p of them; routine q, F its first variable -/
def RPx (T : Nat → Int) (n e N1 p q : Nat) (F y1 y3 : Int) (s t : tab) : Prop := RHx T n e (N1 + p) (q : Int) s t ∧ SCb (N1 + p) (N1 : Int) t ∧ s 109 0 = F + (p : Int) ∧ (∀ j : Nat, j < N1 + p → ((N1 : Int) ≤ (j : Int) → s 107 j = 0 ∧ F ≤ s 108 j) ∧ ((j : Int) < (N1 : Int) → s 107 j = 0 → s 108 j < F)) ∧ (t 170 35 = (q : Int) ∧ t 170 36 = F ∧ t 170 37 = (if y1 = 0 then 1 else 0) ∧ t 201 q = (p : Int) ∧ t 202 q = F) ∧ (q < 12 ∧ 0 ≤ F ∧ p ≤ 4) ∧ s 131 6 = 0 ∧ (0 ≤ y3 ∧ y3 < t 170 15) ∧ ∀ j : Nat, j < N1 → t 176 j = y3
theorem RP_lex (h : RPx T n e N1 p q F y1 y3 s t) (hL : RLx T n e s2 t2) (hs : ∀ k j, ¬ (k = 137 ∧ j = 5) → s2 k j = s k j) (hi : s 137 5 ≤ s2 137 5) (ht : ∀ k j, ¬ lexs k j → t2 k j = t k j) : RPx T n e N1 p q F y1 y3 s2 t2 := by
  obtain ⟨a, b, c, d, h5, f, g, i, k⟩ := h
  have hj : ∀ j, 10 ≤ j → t2 170 j = t 170 j := fun j hj => ht 170 j (by unfold lexs; omega)
  refine ⟨H_lex hL a.2 hs hi ht, SC_lex b ht, (hs 109 0 (by omega)).trans c, fun j hj => ?_, ?_, f, (hs 131 6 (by omega)).trans g, ?_, fun j hj => (ht 176 j (by unfold lexs; omega)).trans (k j hj)⟩
  · rw [hs 107 j (by omega), hs 108 j (by omega)]
    exact d j hj
  · rw [hj 35 (by omega), hj 36 (by omega), hj 37 (by omega), ht 201 q (by unfold lexs; omega), ht 202 q (by unfold lexs; omega)]
    exact h5
  · rw [hj 15 (by omega)]
    exact i
/-- our table once the PARAMETERS are read -/
def FNx (y1 b m F z : Int) (s : tab) : tab := up2 (up2 (up2 (up2 (up2 (spm s m F z) 131 13 m) 131 14 (if y1 = 0 then b else 0)) 131 7 0) 131 8 0) 131 9 0
theorem FN_e {b z : Int} (hq : q < 12) : FNx y1 b (q : Int) F z s = up2 (up2 (up2 (up2 (up2 (up2 (up2 s 113 q F) 112 q z) 131 13 (q : Int)) 131 14 (if y1 = 0 then b else 0)) 131 7 0) 131 8 0) 131 9 0 := by
  unfold FNx spm
  rw [if_pos ⟨by omega, by omega⟩, Int.toNat_natCast]
theorem RP_Q {H : Gmx × (Nat → Nat)} (h : RPx T n e N1 p q F y1 y3 s t) (hG : GPy H q y1 s t) : RQx T n e (N1 + p) (gRt H q y1 s t) (FNx y1 (N1 : Int) (q : Int) F (p : Int) s) (up2 (rfg t) 200 q ((rfg t) 177 1)) ∧ SCb (N1 + p) (N1 : Int) (up2 (rfg t) 200 q ((rfg t) 177 1)) ∧ (FNx y1 (N1 : Int) (q : Int) F (p : Int) s) 112 q = (p : Int) ∧ (FNx y1 (N1 : Int) (q : Int) F (p : Int) s) 113 q = F := by
  obtain ⟨⟨⟨hT, hx, l3, l4, l5⟩, ⟨a1, a2, a3, a4, a5⟩, b, c, hpf, ⟨c1, c2, c3, c4⟩, hsu⟩, hsc, h109, hnm, ⟨r35, r36, r37, r201, r202⟩, ⟨q12, F0, p4⟩, p0, _, _⟩ := h
  obtain ⟨⟨g1, g2, g3, g4, g5, g6⟩, gn, gr, gd, ge⟩ := hG
  rw [FN_e q12]
  have hct0 := (b 0 (by omega)).2
  refine ⟨⟨⟨⟨hT, hx, l3, l4, l5⟩, ⟨⟨a1, a2, a3, a4, a5⟩, b, fun r h1 h2 => ?_, r35.symm, ?_⟩, ⟨?_, ?_, ?_, ?_⟩, ⟨?_, ⟨⟨fun k q => absurd (show mbt 0 k from q) mbt_0, fun v q => q.elim (fun w => absurd (show mbt 0 v from w) mbt_0) (fun w => absurd (show mbt 0 v from w) mbt_0), fun _ v => ⟨fun w => absurd (show mbt 0 v from w) mbt_0, fun w => absurd (show mbt 0 v from w) mbt_0⟩⟩, fun _ => ?_⟩, fun j hj => ?_, fun r h1 h2 => ?_⟩⟩, hpf, ⟨c1, c2, c3, c4⟩, hsu, fun hf => ?_⟩, hsc, ?_, ?_⟩
  · have h2 : (r : Int) ≠ (q : Int) := h2
    obtain ⟨z1, z2⟩ := c r h1 h2
    refine ⟨z1.trans ?_, z2⟩
    show s 112 r = (up2 (up2 s 113 q F) 112 q (p : Int)) 112 r
    exact ((if_neg (by omega)).trans (if_neg (by omega))).symm
  · by_cases y : y1 = 0
    · rw [if_pos y] at r37
      refine .inr ⟨r37, ?_, fun j hj => ?_⟩
      · show 0 ≤ (if y1 = 0 then (N1 : Int) else 0)
        rw [if_pos y]
        omega
      · have := hnm j hj
        rw [← r36] at this
        show ((if y1 = 0 then (N1 : Int) else 0) ≤ (j : Int) → s 107 j = 0 ∧ t 170 36 ≤ s 108 j) ∧ ((j : Int) < (if y1 = 0 then (N1 : Int) else 0) → s 107 j = 0 → s 108 j < t 170 36)
        rw [if_pos y]
        exact this
    · rw [if_neg y] at r37
      refine .inl ⟨r37, ?_⟩
      show (if y1 = 0 then (N1 : Int) else 0) = 0
      exact if_neg y
  · show (0 : Int) = lo 0 (lo 0 0)
    decide
  · show (0 : Int) = lo 0 0
    decide
  · show (0 : Int) = lo 0 (pkm 0 0 0)
    decide
  · show MB3 0 0 0
    exact ⟨⟨by decide, by decide⟩, ⟨by decide, by decide⟩, by decide, by decide⟩
  · show 0 ≤ s 99 12 ∧ s 99 12 + s 131 6 ≤ s 137 5 ∧ 0 ≤ t 177 1 ∧ t 177 1 ≤ 12 * s 137 5 ∧ 0 ≤ t 177 10 ∧ t 177 10 ≤ s 137 5 ∧ (((s 99 12).toNat + 0 : Nat) : Int) ≤ s 99 12
    omega
  · show (up2 (up2 s 113 q F) 112 q (p : Int)) 113 q + (up2 (up2 s 113 q F) 112 q (p : Int)) 112 q ≤ s 109 0
    rw [show (up2 (up2 s 113 q F) 112 q (p : Int)) 113 q = F from (if_neg (by omega)).trans up_self, up_self, h109]
    exact Int.le_refl _
  · have hj : (j : Int) < s 105 3 := hj
    have hj2 : 0 ≤ s 108 j := (a5 j (by omega)).2.2.2.2.1
    obtain ⟨w1, w2⟩ := gn j hj
    show (s 107 j = 6 → (upG H.1 q (t 177 1) (cxm (fun z => z = (s 99 12).toNat) 0 0 0 0 0) (y1 = 0)).2.2 (s 108 j).toNat) ∧ (s 107 j = 5 → ¬ (upG H.1 q (t 177 1) (cxm (fun z => z = (s 99 12).toNat) 0 0 0 0 0) (y1 = 0)).2.2 (s 108 j).toNat)
    refine ⟨fun z => ?_, fun z zz => ?_⟩
    · rcases w1 z with ⟨w3, w4⟩ | ⟨w3, w4⟩
      · exact .inl ⟨by omega, w4⟩
      · exact .inr ⟨by omega, w4⟩
    · rcases w2 z with ⟨w3, w4⟩ | ⟨w3, w4⟩
      · rcases zz with ⟨_, zz⟩ | ⟨zz, _⟩
        · exact w4 zz
        · exact zz (by omega)
      · rcases zz with ⟨zz, _⟩ | ⟨_, zz⟩
        · omega
        · exact w4 zz
  · have h1 : (r : Int) < s 109 5 := h1
    have h2 : (r : Int) ≠ (q : Int) := h2
    refine RV_mv (gr r (by omega)).1 (upG_o (by omega)).1 (fun j hj => (upG_o (by omega)).2.1) (Nat.le_refl _) (fun k hk => ?_) (fun k k1 k2 k3 => ?_) ⟨Int.le_refl _, Int.le_refl _⟩ (upG_o (by omega)).2.2.mp
    · rcases hk with rfl | rfl
      · show (up2 (up2 s 113 q F) 112 q (p : Int)) 112 r = s 112 r
        exact (if_neg (by omega)).trans (if_neg (by omega))
      · show (up2 (up2 s 113 q F) 112 q (p : Int)) 113 r = s 113 r
        exact (if_neg (by omega)).trans (if_neg (by omega))
    · exact (if_neg (by omega)).trans (rfg_o k r (by omega))
  · show (if y1 = 0 then (N1 : Int) else 0) ≤ ((N1 + p : Nat) : Int) ∧ t 170 36 ≤ s 109 0
    rw [r36]
    refine ⟨?_, by omega⟩
    split <;> omega
  · show (up2 (up2 s 113 q F) 112 q (p : Int)) 112 q = (p : Int)
    exact up_self
  · show (up2 (up2 s 113 q F) 112 q (p : Int)) 113 q = F
    exact (if_neg (by omega)).trans up_self
theorem bits4 : ∀ f : Fin 25, lsl (lmi (lsl 1 0) 1) ((f : Nat) : Int) = 0 ∧ lsl (lmi (lsl 1 1) 1) ((f : Nat) : Int) = lsl 1 (((f : Nat) : Int) + 0) ∧ lsl (lmi (lsl 1 2) 1) ((f : Nat) : Int) = lo (lsl 1 (((f : Nat) : Int) + 0)) (lsl 1 (((f : Nat) : Int) + (0 + 1))) ∧ lsl (lmi (lsl 1 3) 1) ((f : Nat) : Int) = lo (lsl 1 (((f : Nat) : Int) + 0)) (lo (lsl 1 (((f : Nat) : Int) + (0 + 1))) (lsl 1 (((f : Nat) : Int) + (0 + 1 + 1)))) ∧ lsl (lmi (lsl 1 4) 1) ((f : Nat) : Int) = lo (lsl 1 (((f : Nat) : Int) + 0)) (lo (lsl 1 (((f : Nat) : Int) + (0 + 1))) (lo (lsl 1 (((f : Nat) : Int) + (0 + 1 + 1))) (lsl 1 (((f : Nat) : Int) + (0 + 1 + 1 + 1))))) := by
  decide +kernel
theorem or_B (F0 : 0 ≤ F) (F1 : F ≤ 24) (p4 : p ≤ 4) (a : Int) : lo 0 (orb F p 0 a) = lo a (lsl (lmi (lsl 1 (p : Int)) 1) F) := by
  obtain ⟨f, rfl⟩ : ∃ f : Nat, F = (f : Int) := ⟨F.toNat, by omega⟩
  obtain ⟨b0, b1, b2, b3, b4⟩ := bits4 ⟨f, by omega⟩
  have hp5 : p = 0 ∨ p = 1 ∨ p = 2 ∨ p = 3 ∨ p = 4 := by omega
  rcases hp5 with z | z | z | z | z
  · subst z
    show lo 0 a = lo a (lsl (lmi (lsl 1 0) 1) (f : Int))
    rw [b0, lo_comm]
  · subst z
    show lo 0 (lo a (lsl 1 ((f : Int) + 0))) = lo a (lsl (lmi (lsl 1 1) 1) (f : Int))
    rw [b1, lo_zero]
  · subst z
    show lo 0 (lo (lo a (lsl 1 ((f : Int) + 0))) (lsl 1 ((f : Int) + (0 + 1)))) = lo a (lsl (lmi (lsl 1 2) 1) (f : Int))
    rw [b2, lo_zero, lo_assoc]
  · subst z
    show lo 0 (lo (lo (lo a (lsl 1 ((f : Int) + 0))) (lsl 1 ((f : Int) + (0 + 1)))) (lsl 1 ((f : Int) + (0 + 1 + 1)))) = lo a (lsl (lmi (lsl 1 3) 1) (f : Int))
    rw [b3, lo_zero, lo_assoc, lo_assoc]
  · subst z
    show lo 0 (lo (lo (lo (lo a (lsl 1 ((f : Int) + 0))) (lsl 1 ((f : Int) + (0 + 1)))) (lsl 1 ((f : Int) + (0 + 1 + 1)))) (lsl 1 ((f : Int) + (0 + 1 + 1 + 1)))) = lo a (lsl (lmi (lsl 1 4) 1) (f : Int))
    rw [b4, lo_zero, lo_assoc, lo_assoc, lo_assoc]
theorem lsl_24 : ∀ m : Fin 12, lsl (lsl 1 ((m : Nat) : Int)) 24 = lsl 1 (24 + ((m : Nat) : Int)) := by decide +kernel
/-- the reference's table at a routine's end -/
def efR (q : Nat) (y3 y4 : Int) (t : tab) : tab := up2 (up2 (up2 (up2 (up2 (up2 (up2 (up2 (up2 t 195 q (t 170 22)) 196 q (t 170 23)) 197 q (t 170 24)) 198 q (t 170 25)) 199 q (lo (t 170 26) (lsl 1 (q : Int)))) 170 14 y4) 170 15 y3) 170 35 (-1)) 170 37 0
theorem ef_o {y4 : Int} (k j : Nat) (h1 : ¬ ((195 ≤ k ∧ k ≤ 199) ∧ j = q)) (h2 : ¬ (k = 170 ∧ (j = 14 ∨ j = 15 ∨ j = 35 ∨ j = 37))) : (efR q y3 y4 t) k j = t k j := by
  unfold efR
  exact (if_neg (by omega)).trans ((if_neg (by omega)).trans ((if_neg (by omega)).trans ((if_neg (by omega)).trans ((if_neg (by omega)).trans ((if_neg (by omega)).trans ((if_neg (by omega)).trans ((if_neg (by omega)).trans (if_neg (by omega)))))))))
theorem ef_q {y4 : Int} : (efR q y3 y4 t) 195 q = t 170 22 ∧ (efR q y3 y4 t) 196 q = t 170 23 ∧ (efR q y3 y4 t) 197 q = t 170 24 ∧ (efR q y3 y4 t) 198 q = t 170 25 ∧ (efR q y3 y4 t) 199 q = lo (t 170 26) (lsl 1 (q : Int)) := by
  unfold efR
  refine ⟨?_, ?_, ?_, ?_, ?_⟩
  · exact (if_neg (by omega)).trans ((if_neg (by omega)).trans ((if_neg (by omega)).trans ((if_neg (by omega)).trans ((if_neg (by omega)).trans ((if_neg (by omega)).trans ((if_neg (by omega)).trans ((if_neg (by omega)).trans up_self)))))))
  · exact (if_neg (by omega)).trans ((if_neg (by omega)).trans ((if_neg (by omega)).trans ((if_neg (by omega)).trans ((if_neg (by omega)).trans ((if_neg (by omega)).trans ((if_neg (by omega)).trans up_self))))))
  · exact (if_neg (by omega)).trans ((if_neg (by omega)).trans ((if_neg (by omega)).trans ((if_neg (by omega)).trans ((if_neg (by omega)).trans ((if_neg (by omega)).trans up_self)))))
  · exact (if_neg (by omega)).trans ((if_neg (by omega)).trans ((if_neg (by omega)).trans ((if_neg (by omega)).trans ((if_neg (by omega)).trans up_self))))
  · exact (if_neg (by omega)).trans ((if_neg (by omega)).trans ((if_neg (by omega)).trans ((if_neg (by omega)).trans up_self)))
def P277 (rc : MRq) : Prop := ∀ (t : tab) (q k : Nat) (F y3 y4 i : Int) (v : Option (Int × tab)), t 201 q = i + (k : Int) → t 202 q = F → 0 ≤ F → F ≤ 24 → 0 ≤ i → i + (k : Int) ≤ 4 → rc 65 [(q : Int), y3, y4, i] t = some v → v = some (1, efR q y3 y4 (up2 t 170 22 (orb F k i (t 170 22))))
theorem p_277 (h277 : P277 rc) : ∀ (t : tab) (q k : Nat) (F y3 y4 i : Int) (v : Option (Int × tab)), t 201 q = i + (k : Int) → t 202 q = F → 0 ≤ F → F ≤ 24 → 0 ≤ i → i + (k : Int) ≤ 4 → rM129_277 rc (q : Int) y3 y4 i t = some v → v = some (1, efR q y3 y4 (up2 t 170 22 (orb F k i (t 170 22)))) := by
  intro t q k F y3 y4 i v h1 h2 F0 F1 i0 i1 h
  unfold rM129_277 at h
  rw [Int.toNat_natCast, h1, h2] at h
  cases k with
  | zero =>
    rw [if_pos (by omega)] at h
    cases h
    show _ = some ((1 : Int), efR q y3 y4 (up2 t 170 22 (t 170 22)))
    rw [up_id]
    rfl
  | succ k =>
    rw [if_neg (by omega), ipl_e (by omega)] at h
    have e1 : (up2 t 170 22 (lo (t 170 22) (lsl 1 (F + i)))) 201 q = (i + 1) + (k : Int) := by
      show t 201 q = _
      omega
    have := h277 (up2 t 170 22 (lo (t 170 22) (lsl 1 (F + i)))) q k F y3 y4 (i + 1) v e1 h2 F0 F1 (by omega) (by omega) h
    rw [this, up_up]
    rfl
theorem p_rd {g : Gtt} (hg : g.1 = 0 ∧ g.2.1 = 0 ∧ g.2.2.1 = 0) (hQ : RQx T n e M g s t) (hM : N1 ≤ M) (h13 : s 131 13 = (q : Int)) (q12 : q < 12) (h201 : t 201 q = (p : Int)) (h112 : s 112 q = (p : Int)) (p6 : s 131 6 = 0) (hy : 0 ≤ y3 ∧ y3 < t 170 15) (h176 : ∀ j : Nat, j < N1 → t 176 j = y3) {s9 t9 : tab} {O B : Int} (hor : lo 0 O = lo (t 170 22) B) (tg : ∀ k j, ¬ ((195 ≤ k ∧ k ≤ 199) ∧ j = q) → ¬ (k = 170 ∧ (j = 14 ∨ j = 15 ∨ j = 35 ∨ j = 37 ∨ j = 22)) → t9 k j = t k j) (so : ∀ k j, ¬ (k = 105 ∧ j = 3) → ¬ (k = 131 ∧ (j = 13 ∨ j = 14)) → ¬ ((k = 134 ∨ k = 135 ∨ k = 136 ∨ k = 114) ∧ j = q) → s9 k j = s k j) (s134 : s9 134 q = lo (s 131 7) B) (s135 : s9 135 q = lo (s 131 8) B) (s136 : s9 136 q = s 131 9) (s105 : s9 105 3 = (N1 : Int)) (s13 : s9 131 13 = -1) (s14 : s9 131 14 = 0) (e195 : t9 195 q = O) (e196 : t9 196 q = t 170 23) (e197 : t9 197 q = t 170 24) (e198 : t9 198 q = t 170 25) (e199 : t9 199 q = lo (t 170 26) (lsl 1 (q : Int))) (r14 : t9 170 14 = (N1 : Int)) (r15 : t9 170 15 = y3) (r35 : t9 170 35 = -1) (r37 : t9 170 37 = 0) : RDx T n e N1 s9 t9 := by
  obtain ⟨⟨⟨hT, ⟨x1, x2, x3⟩, l3, l4, k1, k2, k3, k4, k5⟩, ⟨⟨a1, a2, a3, a4, a5⟩, b, c, d1, d2⟩, ⟨m1, m2, m3, m4⟩, _⟩, pf, ⟨c1, c2, c3, c4⟩, q1, q2⟩ := hQ
  rw [hg.1] at m1
  rw [hg.2.1] at m2
  rw [hg.2.2] at m3
  have cc : ∀ k j, k ≠ 105 → k ≠ 131 → ¬ (134 ≤ k ∧ k ≤ 136 ∨ k = 114) → s9 k j = s k j := fun k j z1 z2 z3 => so k j (by omega) (by omega) (by omega)
  have rr : ∀ k j, k ≠ 170 → ¬ (195 ≤ k ∧ k ≤ 199) → t9 k j = t k j := fun k j z1 z2 => tg k j (by omega) (by omega)
  have i5 : s9 137 5 = s 137 5 := cc 137 5 (by omega) (by omega) (by omega)
  refine ⟨⟨⟨?_, ⟨(tg 170 2 (by omega) (by omega)).trans x1, x2, fun j hj => ?_⟩, by rw [i5]; exact l3, by rw [i5]; exact l4, ?_⟩, ⟨s105, r14, ⟨by omega, UN_fr (show UNQ N1 s t from fun i j hi hj hq => a3.2 i j hi (by omega) hq) (fun j _ => cc 106 j (by omega) (by omega) (by omega)) (fun j _ => rr 176 j (by omega) (by omega))⟩, fun j hj => ?_, fun j hj => ?_⟩, fun d hd => ?_, fun r hr1 hr2 => ?_, ?_, ⟨by rw [r15]; exact hy.1, ?_, ?_, fun j hj => ?_⟩, ?_⟩, ⟨Int.le_refl _, by omega, fun j hj => ?_⟩, (so 131 6 (by omega) (by omega) (by omega)).trans p6, s13, s14, r35, r37, ?_⟩
  · obtain ⟨y1, y2, y3, y4, y5⟩ := hT
    refine ⟨y1, y2, y3, y4, fun j hj => ?_⟩
    rw [cc 139 j (by omega) (by omega) (by omega), cc 140 j (by omega) (by omega) (by omega), cc 141 j (by omega) (by omega) (by omega)]
    exact y5 j hj
  · rw [rr 171 j (by omega) (by omega)]
    exact x3 j hj
  · rw [i5]
    exact ⟨(tg 170 5 (by omega) (by omega)).trans k1, (tg 170 3 (by omega) (by omega)).trans k2, (tg 170 6 (by omega) (by omega)).trans k3, (tg 170 4 (by omega) (by omega)).trans k4, fun w => (tg 170 7 (by omega) (by omega)).trans (k5 w)⟩
  · obtain ⟨a, b, z1, z2, z3, z4, z5, z6⟩ := a4 j (by omega)
    exact ⟨a, b, (rr 172 j (by omega) (by omega)).trans z1, (rr 173 j (by omega) (by omega)).trans z2, z3, z4, z5, (cc 106 j (by omega) (by omega) (by omega)).trans z6⟩
  · rw [rr 174 j (by omega) (by omega), rr 175 j (by omega) (by omega), cc 107 j (by omega) (by omega) (by omega), cc 108 j (by omega) (by omega) (by omega), cc 109 _ (by omega) (by omega) (by omega)]
    exact a5 j (by omega)
  · rw [rr 177 _ (by omega) (by omega), cc 109 d (by omega) (by omega) (by omega)]
    exact b d hd
  · rw [cc 109 5 (by omega) (by omega) (by omega)] at hr1
    by_cases hrq : r = q
    · subst hrq
      rw [rr 201 r (by omega) (by omega), cc 112 r (by omega) (by omega) (by omega), s134, s135, s136, e195, e196, e197, e198, e199, h201, h112]
      refine ⟨rfl, ?_, ?_, ?_, m4.1, m4.2.1, lo_4k m4.2.2 (lsl_4x ⟨by omega, by omega⟩)⟩
      · rw [m1]
        show lo (lo 0 (lo (t 170 23) (t 170 22))) B = lo (t 170 23) O
        rw [lo_zero, lo_assoc, ← hor, lo_lc, lo_zero]
      · rw [m2]
        show lo (lo 0 (t 170 22)) B = lo 0 O
        rw [hor, lo_assoc, lo_zero]
      · rw [m3]
        show lo (lo 0 (pkm (t 170 24) (t 170 25) (t 170 26))) (lsl 1 (24 + (r : Int))) = pkm (t 170 24) (t 170 25) (lo (t 170 26) (lsl 1 (r : Int)))
        have hb := lsl_24 ⟨r, q12⟩
        unfold pkm
        rw [lsl_lo, show lsl (lsl 1 (r : Int)) 24 = lsl 1 (24 + (r : Int)) from hb, lo_zero]
        simp only [lo_assoc]
    · obtain ⟨z1, z2, z3, z4, z5⟩ := c r hr1 (by omega)
      rw [rr 201 r (by omega) (by omega), cc 112 r (by omega) (by omega) (by omega), so 134 r (by omega) (by omega) (by omega), so 135 r (by omega) (by omega) (by omega), so 136 r (by omega) (by omega) (by omega), tg 195 r (by omega) (by omega), tg 196 r (by omega) (by omega), tg 197 r (by omega) (by omega), tg 198 r (by omega) (by omega), tg 199 r (by omega) (by omega)]
      exact ⟨z1, z2, z3, z4, z5⟩
  · unfold RPf
    rw [so 131 3 (by omega) (by omega) (by omega), tg 170 21 (by omega) (by omega)]
    exact pf
  · rw [r15, tg 170 16 (by omega) (by omega)]
    omega
  · rw [tg 170 16 (by omega) (by omega), i5]
    exact c3
  · rw [rr 176 j (by omega) (by omega), tg 170 16 (by omega) (by omega)]
    exact c4 j (by omega)
  · unfold RSu
    rw [cc 109 0 (by omega) (by omega) (by omega), cc 109 1 (by omega) (by omega) (by omega), cc 109 2 (by omega) (by omega) (by omega), cc 109 3 (by omega) (by omega) (by omega), cc 109 4 (by omega) (by omega) (by omega), cc 109 5 (by omega) (by omega) (by omega)]
    omega
  · rw [rr 176 j (by omega) (by omega), r15, h176 j hj]
    exact ⟨fun _ => by omega, fun _ => rfl⟩
  · unfold MLx
    rw [so 131 7 (by omega) (by omega) (by omega), so 131 8 (by omega) (by omega) (by omega), so 131 9 (by omega) (by omega) (by omega), m1, m2, m3]
    exact ⟨lo_zero _ _, lo_zero _ _, lo_zero _ _⟩
theorem p_rend {g : Gtt} {rt : Int} (hg : g.1 = 0 ∧ g.2.1 = 0 ∧ g.2.2.1 = 0) (hQ : RQx T n e M g s t) (hM : N1 ≤ M) (h13 : s 131 13 = (q : Int)) (q12 : q < 12) (h201 : t 201 q = (p : Int)) (h112 : s 112 q = (p : Int)) (h113 : s 113 q = F) (p4 : p ≤ 4) (F0 : 0 ≤ F) (F1 : F ≤ 24) (p6 : s 131 6 = 0) (hy : 0 ≤ y3 ∧ y3 < t 170 15) (h176 : ∀ j : Nat, j < N1 → t 176 j = y3) {t3 : tab} (ht : ∀ k j, ¬ (k = 170 ∧ j = 14) → t3 k j = t k j) : ∃ s2, cG 52 [(q : Int), rt] (ncu s (N1 : Int)) = some (some (0, s2)) ∧ RDx T n e N1 s2 (efR q y3 (N1 : Int) (up2 t3 170 22 (orb F p 0 (t3 170 22)))) ∧ s2 137 5 = s 137 5 ∧ (∀ k j, ¬ (k = 105 ∧ j = 3) → ¬ (k = 131 ∧ (j = 13 ∨ j = 14)) → ¬ ((k = 134 ∨ k = 135 ∨ k = 136 ∨ k = 114) ∧ j = q) → s2 k j = s k j) ∧ s2 114 q = rt ∧ s2 105 3 = (N1 : Int) ∧ (∀ k j, ¬ ((195 ≤ k ∧ k ≤ 199) ∧ j = q) → ¬ (k = 170 ∧ (j = 14 ∨ j = 15 ∨ j = 35 ∨ j = 37 ∨ j = 22)) → (efR q y3 (N1 : Int) (up2 t3 170 22 (orb F p 0 (t3 170 22)))) k j = t k j) ∧ ((efR q y3 (N1 : Int) (up2 t3 170 22 (orb F p 0 (t3 170 22)))) 195 q = orb F p 0 (t 170 22) ∧ (efR q y3 (N1 : Int) (up2 t3 170 22 (orb F p 0 (t3 170 22)))) 196 q = t 170 23 ∧ (efR q y3 (N1 : Int) (up2 t3 170 22 (orb F p 0 (t3 170 22)))) 197 q = t 170 24 ∧ (efR q y3 (N1 : Int) (up2 t3 170 22 (orb F p 0 (t3 170 22)))) 198 q = t 170 25 ∧ (efR q y3 (N1 : Int) (up2 t3 170 22 (orb F p 0 (t3 170 22)))) 199 q = lo (t 170 26) (lsl 1 (q : Int))) := by
  rw [ncu_e hQ.1.2.1.1.1 hM]
  have hor := or_B F0 F1 p4 (t 170 22)
  rw [ht 170 22 (by omega)]
  obtain ⟨O, hO⟩ : ∃ O, O = orb F p 0 (t 170 22) := ⟨_, rfl⟩
  rw [← hO] at hor ⊢
  obtain ⟨B, hB⟩ : ∃ B, B = lsl (lmi (lsl 1 (p : Int)) 1) F := ⟨_, rfl⟩
  rw [← hB] at hor
  have hend : cG 52 [(q : Int), rt] (up2 s 105 3 (N1 : Int)) = some (some (0, up2 (up2 (up2 (up2 (up2 (up2 (up2 s 105 3 (N1 : Int)) 131 13 (-1)) 131 14 0) 114 q rt) 134 q (lo (s 131 7) B)) 135 q (lo (s 131 8) B)) 136 q (s 131 9))) := by
    rw [cG_74]
    unfold cM74
    rw [if_neg (by omega), if_neg (by omega), Int.toNat_natCast]
    rw [show (up2 s 105 3 (N1 : Int)) 112 q = (p : Int) from h112, show (up2 s 105 3 (N1 : Int)) 113 q = F from h113, ← hB]
    rfl
  have tg : ∀ k j, ¬ ((195 ≤ k ∧ k ≤ 199) ∧ j = q) → ¬ (k = 170 ∧ (j = 14 ∨ j = 15 ∨ j = 35 ∨ j = 37 ∨ j = 22)) → (efR q y3 (N1 : Int) (up2 t3 170 22 O)) k j = t k j := fun k j z1 z2 => (ef_o k j z1 (by omega)).trans ((if_neg (by omega)).trans (ht k j (by omega)))
  have so : ∀ k j, ¬ (k = 105 ∧ j = 3) → ¬ (k = 131 ∧ (j = 13 ∨ j = 14)) → ¬ ((k = 134 ∨ k = 135 ∨ k = 136 ∨ k = 114) ∧ j = q) → (up2 (up2 (up2 (up2 (up2 (up2 (up2 s 105 3 (N1 : Int)) 131 13 (-1)) 131 14 0) 114 q rt) 134 q (lo (s 131 7) B)) 135 q (lo (s 131 8) B)) 136 q (s 131 9)) k j = s k j := fun k j z1 z2 z3 => (if_neg (by omega)).trans ((if_neg (by omega)).trans ((if_neg (by omega)).trans ((if_neg (by omega)).trans ((if_neg (by omega)).trans ((if_neg (by omega)).trans (if_neg (by omega)))))))
  have s134 : (up2 (up2 (up2 (up2 (up2 (up2 (up2 s 105 3 (N1 : Int)) 131 13 (-1)) 131 14 0) 114 q rt) 134 q (lo (s 131 7) B)) 135 q (lo (s 131 8) B)) 136 q (s 131 9)) 134 q = lo (s 131 7) B := (if_neg (by omega)).trans ((if_neg (by omega)).trans up_self)
  have s135 : (up2 (up2 (up2 (up2 (up2 (up2 (up2 s 105 3 (N1 : Int)) 131 13 (-1)) 131 14 0) 114 q rt) 134 q (lo (s 131 7) B)) 135 q (lo (s 131 8) B)) 136 q (s 131 9)) 135 q = lo (s 131 8) B := (if_neg (by omega)).trans up_self
  have s136 : (up2 (up2 (up2 (up2 (up2 (up2 (up2 s 105 3 (N1 : Int)) 131 13 (-1)) 131 14 0) 114 q rt) 134 q (lo (s 131 7) B)) 135 q (lo (s 131 8) B)) 136 q (s 131 9)) 136 q = s 131 9 := up_self
  have s105 : (up2 (up2 (up2 (up2 (up2 (up2 (up2 s 105 3 (N1 : Int)) 131 13 (-1)) 131 14 0) 114 q rt) 134 q (lo (s 131 7) B)) 135 q (lo (s 131 8) B)) 136 q (s 131 9)) 105 3 = (N1 : Int) := rfl
  have s13 : (up2 (up2 (up2 (up2 (up2 (up2 (up2 s 105 3 (N1 : Int)) 131 13 (-1)) 131 14 0) 114 q rt) 134 q (lo (s 131 7) B)) 135 q (lo (s 131 8) B)) 136 q (s 131 9)) 131 13 = -1 := rfl
  have s14 : (up2 (up2 (up2 (up2 (up2 (up2 (up2 s 105 3 (N1 : Int)) 131 13 (-1)) 131 14 0) 114 q rt) 134 q (lo (s 131 7) B)) 135 q (lo (s 131 8) B)) 136 q (s 131 9)) 131 14 = 0 := rfl
  obtain ⟨e195, e196, e197, e198, e199⟩ := ef_q (q := q) (y3 := y3) (y4 := (N1 : Int)) (t := up2 t3 170 22 O)
  have e195 : (efR q y3 (N1 : Int) (up2 t3 170 22 O)) 195 q = O := e195
  have e196 : (efR q y3 (N1 : Int) (up2 t3 170 22 O)) 196 q = t 170 23 := e196.trans (ht 170 23 (by omega))
  have e197 : (efR q y3 (N1 : Int) (up2 t3 170 22 O)) 197 q = t 170 24 := e197.trans (ht 170 24 (by omega))
  have e198 : (efR q y3 (N1 : Int) (up2 t3 170 22 O)) 198 q = t 170 25 := e198.trans (ht 170 25 (by omega))
  have e199 : (efR q y3 (N1 : Int) (up2 t3 170 22 O)) 199 q = lo (t 170 26) (lsl 1 (q : Int)) := by
    rw [e199]
    show lo (t3 170 26) _ = _
    rw [ht 170 26 (by omega)]
  have r14 : (efR q y3 (N1 : Int) (up2 t3 170 22 O)) 170 14 = (N1 : Int) := rfl
  have r15 : (efR q y3 (N1 : Int) (up2 t3 170 22 O)) 170 15 = y3 := rfl
  have r35 : (efR q y3 (N1 : Int) (up2 t3 170 22 O)) 170 35 = -1 := rfl
  have r37 : (efR q y3 (N1 : Int) (up2 t3 170 22 O)) 170 37 = 0 := rfl
  exact ⟨_, hend, p_rd hg hQ hM h13 q12 h201 h112 p6 hy h176 hor tg so s134 s135 s136 s105 s13 s14 e195 e196 e197 e198 e199 r14 r15 r35 r37, so 137 5 (by omega) (by omega) (by omega), so, (if_neg (by omega)).trans ((if_neg (by omega)).trans ((if_neg (by omega)).trans up_self)), s105, tg, e195, e196, e197, e198, e199⟩
/-- our body and end -/
noncomputable def BDx (y1 z : Int) (s : tab) : RO := bo (if y1 = 0 then cG 53 [imi (s 105 3) (prm s z)] s else cG 45 [0, imi (s 105 3) (prm s z)] s) fun z2 s2 => cG 52 [z, z2] s2
noncomputable def WRx (y1 b m F p : Int) (s : tab) : RO := bo (cG 70 [b, p] s) fun z9 s9 => bo (cG 29 [41] s9) fun _ s10 => BDx y1 m (FNx y1 b m F z9 s10)
noncomputable def WQx (y1 b m F : Int) (s : tab) : RO := if kkd s ≠ 41 then (bo (cG 50 [b] s) fun z9 s9 => bo (cG 29 [41] s9) fun _ s10 => BDx y1 m (FNx y1 b m F z9 s10)) else (bo (cG 29 [41] s) fun _ s10 => BDx y1 m (FNx y1 b m F 0 s10))
theorem c_36 : (bo (cG 51 [if y1 = 0 then 6 else 5] s) fun z s1 => BDx y1 z s1) = bo (cG 31 [if y1 = 0 then 6 else 5, 0] s) fun z1 s1 => bo (cG 29 [40] s1) fun _ s6 => WQx y1 (s1 105 3) z1 (s1 109 0) s6 := by
  rw [cG_36]
  unfold cM36
  by_cases y : y1 = 0
  · rw [if_pos y, bo_as]
    congr 1
    funext z1 s1
    rw [bo_as]
    congr 1
    funext z6 s6
    unfold WQx
    by_cases k : kkd s6 ≠ 41
    · rw [if_pos k, if_pos k, bo_as]
      congr 1
      funext z9 s9
      rw [bo_as]
      congr 1
      funext z10 s10
      rw [if_neg (by decide), bo_s]
      unfold FNx
      rw [if_pos y]
    · rw [if_neg k, if_neg k, bo_as]
      congr 1
      funext z10 s10
      rw [if_neg (by decide), bo_s]
      unfold FNx
      rw [if_pos y]
  · rw [if_neg y, bo_as]
    congr 1
    funext z1 s1
    rw [bo_as]
    congr 1
    funext z6 s6
    unfold WQx
    by_cases k : kkd s6 ≠ 41
    · rw [if_pos k, if_pos k, bo_as]
      congr 1
      funext z9 s9
      rw [bo_as]
      congr 1
      funext z10 s10
      rw [if_pos (by decide), bo_s]
      unfold FNx
      rw [if_neg y]
    · rw [if_neg k, if_neg k, bo_as]
      congr 1
      funext z10 s10
      rw [if_pos (by decide), bo_s]
      unfold FNx
      rw [if_neg y]
end ROUT
