/-! Signs that wait: our own loop of an E. -/
section EXP
variable {T : Nat → Int} {n e N : Nat} {g : Int × Int × Int} {s t s2 t2 : tab} {rc : MRq}
theorem lvl_rng (k : Int) : 0 ≤ lvl k ∧ lvl k ≤ 10 := by
  unfold lvl
  repeat' split
  all_goals omega
/-- the waiting signs above b: their levels rise -/
def SIx (b : Int) (s : tab) : Prop := b ≤ s 131 6 ∧ ∀ j : Nat, b ≤ (j : Int) → (j : Int) < s 131 6 → 1 ≤ lvl (s 132 j) ∧ ∀ k : Nat, b ≤ (k : Int) → k < j → lvl (s 132 k) < lvl (s 132 j)
theorem SI_up {b : Int} (hb : 0 ≤ b) (h : SIx b s) : ∀ m : Nat, b + (m : Int) < s 131 6 → (m : Int) + 1 ≤ lvl (s 132 (b.toNat + m))
  | 0, hm => by
    have := (h.2 (b.toNat + 0) (by omega) (by omega)).1
    omega
  | m + 1, hm => by
    have ih := SI_up hb h m (by omega)
    have := (h.2 (b.toNat + (m + 1)) (by omega) (by omega)).2 (b.toNat + m) (by omega) (by omega)
    omega
theorem SI_le {b : Int} (hb : 0 ≤ b) (h : SIx b s) : s 131 6 ≤ b + 10 := by
  by_cases a : b + 10 < s 131 6
  · have := SI_up hb h 10 (by omega)
    have := (lvl_rng (s 132 (b.toNat + 10))).2
    omega
  · omega
/-- join: the signs of at least this level go -/
theorem c_join {b lv : Int} (hb : 0 ≤ b) : ∀ (d : Nat) (s : tab), (s 131 6 - b).toNat = d → b ≤ s 131 6 → ∃ q : Int, cG 64 [b, lv] s = some (some (0, up2 s 131 6 q)) ∧ b ≤ q ∧ q ≤ s 131 6 ∧ (q = b ∨ lvl (s 132 (q - 1).toNat) < lv) ∧ (∀ j : Nat, q ≤ (j : Int) → (j : Int) < s 131 6 → lv ≤ lvl (s 132 j)) := by
  intro d
  induction d with
  | zero =>
    intro s hd hs
    refine ⟨s 131 6, ?_, by omega, by omega, .inl (by omega), fun j a1 a2 => absurd a1 (by omega)⟩
    rw [cG_69_3]
    unfold cM69_3
    rw [if_pos (by omega), up_id]
  | succ d ih =>
    intro s hd hs
    by_cases hl : lvl (s 132 (((s 131 6) - 1).toNat)) < lv
    · refine ⟨s 131 6, ?_, by omega, by omega, .inr hl, fun j a1 a2 => absurd a1 (by omega)⟩
      rw [cG_69_3]
      unfold cM69_3
      rw [if_neg (by omega), if_neg (by omega), if_pos hl, up_id]
    · obtain ⟨q, a1, a2, a3, a4, a5⟩ := ih (up2 s 131 6 ((s 131 6) - 1)) (by rw [up_self]; omega) (by rw [up_self]; omega)
      rw [up_self] at a3 a5
      rw [up_up] at a1
      have e9 : ∀ j, (up2 s 131 6 ((s 131 6) - 1)) 132 j = s 132 j := fun j => if_neg (by omega)
      rw [e9] at a4
      refine ⟨q, ?_, a2, by omega, a4, fun j b1 b2 => ?_⟩
      · rw [← a1, cG_69_3]
        conv => lhs; unfold cM69_3
        rw [if_neg (by omega), if_neg (by omega), if_neg hl]
      · by_cases ej : (j : Int) = s 131 6 - 1
        · rw [show j = (s 131 6 - 1).toNat by omega]
          omega
        · have := a5 j b1 (by omega)
          rw [e9] at this
          exact this
/-- our table but for the waiting signs -/
def PEq (s s2 : tab) : Prop := ∀ k j, ¬ (k = 131 ∧ j = 6) → k ≠ 132 → s2 k j = s k j
theorem PEq_kk (h : PEq s s2) : kkd s2 = kkd s := by
  unfold kkd
  rw [h 137 5 (by omega) (by omega), h 139 _ (by omega) (by omega)]
theorem PEq_RE (h : REx T n e N g s t) (hp : PEq s s2) : REx T n e N g s2 t := by
  have cc : ∀ k j, k ≠ 131 → k ≠ 132 → s2 k j = s k j := fun k j a b => hp k j (by omega) b
  have c5 := cc 137 5 (by omega) (by omega)
  obtain ⟨⟨⟨b1, b2, b3, b4, b5⟩, l2, l3, l4, l5⟩, ⟨⟨a1, a2, a3, a4, a5⟩, c1, c2, c3, c4⟩, m1, m2, m3⟩ := h
  have c13 : s2 131 13 = s 131 13 := hp 131 13 (by omega) (by omega)
  have c14 : s2 131 14 = s 131 14 := hp 131 14 (by omega) (by omega)
  refine ⟨⟨⟨b1, b2, b3, b4, fun j hj => ?_⟩, l2, by rw [c5]; exact l3, by rw [c5]; exact l4, by rw [c5]; exact l5⟩, ⟨⟨(cc 105 3 (by omega) (by omega)).trans a1, a2, a3, fun j hj => ?_, fun j hj => ?_⟩, fun c hc => ?_, fun r hr1 hr2 => ?_, c13.trans c3, ?_⟩, (hp 131 7 (by omega) (by omega)).trans m1, (hp 131 8 (by omega) (by omega)).trans m2, (hp 131 9 (by omega) (by omega)).trans m3.1, m3.2⟩
  · rw [cc 139 j (by omega) (by omega), cc 140 j (by omega) (by omega), cc 141 j (by omega) (by omega)]
    exact b5 j hj
  · obtain ⟨a, b, q1, q2, q3, q4, q5, q6⟩ := a4 j hj
    exact ⟨a, b, q1, q2, q3, q4, q5, (cc 106 j (by omega) (by omega)).trans q6⟩
  · rw [cc 107 j (by omega) (by omega), cc 108 j (by omega) (by omega), cc 109 _ (by omega) (by omega)]
    exact a5 j hj
  · rw [cc 109 c (by omega) (by omega)]
    exact c1 c hc
  · rw [cc 109 5 (by omega) (by omega)] at hr1
    rw [c13] at hr2
    rw [cc 112 r (by omega) (by omega), cc 134 r (by omega) (by omega), cc 135 r (by omega) (by omega), cc 136 r (by omega) (by omega)]
    exact c2 r hr1 hr2
  · rw [c14]
    rcases c4 with c4 | ⟨d2, d3, d4⟩
    · exact .inl c4
    · refine .inr ⟨d2, d3, fun j hj => ?_⟩
      rw [cc 107 j (by omega) (by omega), cc 108 j (by omega) (by omega)]
      exact d4 j hj
/-- what an E above b keeps -/
def FKc (b : Int) (s s2 : tab) : Prop := (∀ k j, ¬ (k = 137 ∧ j = 5) → ¬ (k = 131 ∧ (j = 6 ∨ j = 7 ∨ j = 8 ∨ j = 9)) → k ≠ 132 → s2 k j = s k j) ∧ (∀ j : Nat, (j : Int) < b → s2 132 j = s 132 j) ∧ s 137 5 ≤ s2 137 5
theorem FKc_tr {b : Int} {s3 : tab} (h : FKc b s s2) (h2 : FKc b s2 s3) : FKc b s s3 := ⟨fun k j a1 a2 a3 => (h2.1 k j a1 a2 a3).trans (h.1 k j a1 a2 a3), fun j hj => (h2.2.1 j hj).trans (h.2.1 j hj), Int.le_trans h.2.2 h2.2.2⟩
theorem FKc_E {b : Int} (h : FEc s s2) (hb : b ≤ s 131 6) : FKc b s s2 := ⟨h.1, fun j hj => h.2.2.1 j (by omega), h.2.2.2⟩
theorem SI_E {b : Int} (h : SIx b s) (hf : FEc s s2) : SIx b s2 := by
  refine ⟨by rw [hf.2.1]; exact h.1, fun j a1 a2 => ?_⟩
  rw [hf.2.1] at a2
  rw [hf.2.2.1 j a2]
  refine ⟨(h.2 j a1 a2).1, fun k k1 k2 => ?_⟩
  rw [hf.2.2.1 k (by omega)]
  exact (h.2 j a1 a2).2 k k1 k2
/-- an operand, then our loop -/
noncomputable def Kst (x b i : Int) (s : tab) : RO := bo (cG 41 [x] s) fun _ s1 => cG 66 [x, b, lvl (kkd s1), i] s1
/-- once around our loop -/
theorem c_round {x b i : Int} (h : REx T n e N g s t) (hb : 0 ≤ b ∧ b ≤ 200) (hs : SIx b s) (hl : 0 < lvl (kkd s)) (hi : i ≤ s 137 5) : ∃ s3 t2, cG 66 [x, b, lvl (kkd s), i] s = Kst x b (i + 1) s3 ∧ rG 4 [] t = some (some (0, t2)) ∧ REx T n e N g s3 t2 ∧ SIx b s3 ∧ FKc b s s3 ∧ FEr t t2 ∧ s3 137 5 = s 137 5 + 1 := by
  have hk3 : kkd s ≠ 3 := fun q => by rw [q] at hl; exact absurd hl (by decide)
  have hk4 : kkd s ≠ 4 := fun q => by rw [q] at hl; exact absurd hl (by decide)
  have hin := RL_in h.1
  have hlr := lvl_rng (kkd s)
  have hne : s 137 5 < 2000 := by
    have hk := RL_kk h.1
    have he := h.1.1.2.2.1
    have h1 := h.1.1.1
    have h2 := h.1.1.2.1
    have : (s 137 5).toNat ≠ e := fun q => by rw [q] at hk; omega
    omega
  obtain ⟨q, a1, a2, a3, a4, a5⟩ := c_join (lv := lvl (kkd s)) hb.1 _ s rfl hs.1
  have hj : cG 36 [b, lvl (kkd s)] s = some (some (0, up2 s 131 6 q)) := by rw [cG_69]; unfold cM69; exact a1
  have lt : ∀ j : Nat, b ≤ (j : Int) → (j : Int) < q → lvl (s 132 j) < lvl (kkd s) := fun j b1 b2 => by
    rcases a4 with a4 | a4
    · omega
    · by_cases ej : (j : Int) = q - 1
      · rw [show (q - 1).toNat = j by omega] at a4
        exact a4
      · have := (hs.2 (q - 1).toNat (by omega) (by omega)).2 j b1 (by omega)
        omega
  have hq9 : q ≤ b + 9 := by
    by_cases w : b + 9 < q
    · have h1 := SI_up hb.1 hs 9 (by omega)
      have h2 := lt (b.toNat + 9) (by omega) (by omega)
      omega
    · omega
  obtain ⟨sp, hsp⟩ : ∃ sp, sp = up2 (up2 (up2 s 131 6 q) 132 q.toNat (kkd s)) 131 6 (q + 1) := ⟨_, rfl⟩
  have hpe : PEq s sp := fun k j b1 b2 => by rw [hsp]; exact (if_neg b1).trans ((if_neg (by omega)).trans (if_neg b1))
  have hkp := PEq_kk hpe
  have hRp := PEq_RE h hpe
  obtain ⟨t2, c1, c2, c3, c4, c5⟩ := RE_step hRp (by rw [hkp]; exact hk3) (by rw [hkp]; exact hk4)
  have sp6 : sp 131 6 = q + 1 := by rw [hsp, up_self]
  have sp132 : ∀ j : Nat, sp 132 j = if (j : Int) = q then kkd s else s 132 j := fun j => by
    rw [hsp, show (up2 (up2 (up2 s 131 6 q) 132 q.toNat (kkd s)) 131 6 (q + 1)) 132 j = (up2 (up2 s 131 6 q) 132 q.toNat (kkd s)) 132 j from if_neg (by omega)]
    by_cases ej : (j : Int) = q
    · rw [if_pos ej, show q.toNat = j by omega, up_self]
    · rw [if_neg ej]
      exact (if_neg (by omega)).trans (if_neg (by omega))
  have sp5 : sp 137 5 = s 137 5 := hpe 137 5 (by omega) (by omega)
  have hsi : SIx b sp := by
    refine ⟨by rw [sp6]; omega, fun j b1 b2 => ?_⟩
    rw [sp6] at b2
    rw [sp132]
    by_cases ej : (j : Int) = q
    · rw [if_pos ej]
      refine ⟨by omega, fun k k1 k2 => ?_⟩
      rw [sp132, if_neg (by omega)]
      exact lt k k1 (by omega)
    · rw [if_neg ej]
      refine ⟨(hs.2 j b1 (by omega)).1, fun k k1 k2 => ?_⟩
      rw [sp132, if_neg (by omega)]
      exact (hs.2 j b1 (by omega)).2 k k1 k2
  refine ⟨stp sp, t2, ?_, c1, c2, SI_E hsi c3, ?_, c4, by rw [c5, sp5]⟩
  · rw [cG_57_26]
    unfold cM57_26
    have k6 : (up2 s 131 6 q) 131 6 = q := up_self
    have kk6 : kkd (up2 s 131 6 q) = kkd s := PEq_kk fun k j b1 _ => if_neg b1
    rw [if_neg (by omega), if_neg (by omega), hj, bo_s, k6, if_neg (by omega), kk6, ← hsp]
    rfl
  · refine FKc_tr (s2 := sp) ⟨fun k j b1 b2 b3 => hpe k j (by omega) b3, fun j hj => ?_, by rw [sp5]; exact Int.le_refl _⟩ (FKc_E c3 (by rw [sp6]; omega))
    rw [sp132, if_neg (by omega)]
/-- our E, from its loop's end on -/
theorem c_Eend {x b i : Int} (hb : 0 ≤ b) (hs : SIx b s) (hl : lvl (kkd s) ≤ 0) : cG 66 [x, b, lvl (kkd s), i] s = some (some (0, up2 s 131 6 b)) := by
  obtain ⟨q, a1, a2, a3, a4, a5⟩ := c_join (lv := 1) hb _ s rfl hs.1
  have hqb : q = b := by
    rcases a4 with a4 | a4
    · exact a4
    · by_cases w : b < q
      · have := (hs.2 (q - 1).toNat (by omega) (by omega)).1
        omega
      · omega
  have hj : cG 36 [b, 1] s = some (some (0, up2 s 131 6 q)) := by rw [cG_69]; unfold cM69; exact a1
  rw [cG_57_26]
  unfold cM57_26
  rw [hj, bo_s, hqb]
  split
  · rfl
  · rfl
end EXP
