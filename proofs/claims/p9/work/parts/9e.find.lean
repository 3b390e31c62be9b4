/-! Names found. -/
section RIS3
variable {T : Nat → Int} {n p : Nat} {t : tab}
theorem ipl_m1 {m : Nat} (h : m ≤ 100) : ipl (m : Int) (-1) = (m : Int) - 1 := by
  rw [ipl_e (by omega)]
  omega
theorem ltr_rng {a b : Nat} (h : ∀ i, a ≤ i → i < b → aln (T i) = true) : ∀ j, j < b - a → 48 ≤ T (a + j) ∧ T (a + j) ≤ 122 := fun j hj => by
  have := aln_iff.mp (h (a + j) (by omega) (by omega))
  omega
/-- find() -/
theorem r_find (hx : RTx T n t) (hk : RTk T n p t) (hp : p < n) (hl : ltr (T p) = true) {N : Nat} (hN : t 170 14 = (N : Int)) (hN2 : N ≤ 100) {w : Nat → Int} (hw : NMr T n N w t) : rG 9 [] t = some (some (fdw w (wdn T p (nx T n p - p)) N, t)) := by
  have h2 := hx.2.1
  have hle := nx_le (T := T) (Nat.le_of_lt hp)
  have hgt := nx_gt (T := T) hp
  have hnx : nx T n p = upto aln T n p := by unfold nx; rw [if_neg (by omega), if_pos hl]
  have hall : ∀ j, p ≤ j → j < nx T n p → aln (T j) = true := fun j a b => (upto_in (q := aln) (T := T) (n := n) (p := p) j a (by rw [← hnx]; exact b)).2
  have hir := ltr_rng hall
  obtain ⟨L, hLd⟩ : ∃ L, L = nx T n p - p := ⟨_, rfl⟩
  rw [← hLd] at hir
  have hL : imi (t 170 6) (t 170 5) = (L : Int) := by rw [hk.1, hk.2.2.1, imi_e (by omega)]; omega
  have loop : ∀ m, m ≤ N → rG 49 [(m : Int) - 1] t = some (some (fdw w (wdn T p L) m, t)) := by
    intro m
    induction m with
    | zero =>
      intro _
      rw [rG_134_7]
      unfold rM134_7
      rw [if_pos (by omega)]
      rfl
    | succ m ih =>
      intro hm
      obtain ⟨a, b, a1, a2, a3, a4, a5, a6⟩ := hw m (by omega)
      have e0 : ((m + 1 : Nat) : Int) - 1 = (m : Int) := by omega
      have hir2 := ltr_rng a5
      rw [e0, rG_134_7]
      unfold rM134_7
      rw [if_neg (by omega), Int.toNat_natCast, a1, a2, hL, imi_e (by omega)]
      show _ = some (some (if w m = wdn T p L then (m : Int) else fdw w (wdn T p L) m, t))
      by_cases el : b - a = L
      · rw [if_neg (by omega)]
        by_cases ew : w m = wdn T p L
        · rw [if_pos ew]
          rw [a6] at ew
          obtain ⟨d1, d2⟩ := wdn_inj (b - a) L hir2 hir ew
          exact (rf_1 hx hk.1 (k := m) hL a1 (by omega) (by omega) L 0 rfl (Nat.zero_le _)).1 fun j _ hj => d2 j (by omega)
        · rw [if_neg ew, ← ih (by omega), ← ipl_m1 (show m ≤ 100 by omega)]
          refine (rf_1 hx hk.1 (k := m) hL a1 (by omega) (by omega) L 0 rfl (Nat.zero_le _)).2 ?_
          refine Classical.byContradiction fun hn => ew ?_
          rw [a6, el]
          exact wdn_congr L fun j hj => Classical.byContradiction fun h9 => hn ⟨j, Nat.zero_le _, hj, h9⟩
      · rw [if_pos (by omega)]
        have ew : ¬ w m = wdn T p L := fun ew => el (by
          rw [a6] at ew
          exact (wdn_inj (b - a) L hir2 hir ew).1)
        rw [if_neg ew, ← ih (by omega), ← ipl_m1 (show m ≤ 100 by omega)]
        exact rf_0 (i := 0) hL
  rw [rG_134]
  unfold rM134
  rw [hN, imi_e (by omega), ← hLd]
  exact loop N (Nat.le_refl _)
end RIS3
