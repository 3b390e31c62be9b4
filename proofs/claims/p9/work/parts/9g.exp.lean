/-! Signs that wait: our own loop of an E. -/
section EXP
variable {T : Nat → Int} {n e N : Nat} {g : Gtt} {s t s2 t2 : tab} {rc : MRq}
theorem lvl_rng (k : Int) : 0 ≤ lvl k ∧ lvl k ≤ 10 := by
  unfold lvl
  repeat' split
  all_goals omega
/-- the waiting signs above b: their levels rise -/
def SIx (b : Int) (s : tab) : Prop := b ≤ s 131 6 ∧ ∀ j : Nat, b ≤ (j : Int) → (j : Int) < s 131 6 → 1 ≤ lvl (s 132 j) ∧ ∀ k : Nat, b ≤ (k : Int) → k < j → lvl (s 132 k) < lvl (s 132 j)
theorem SI_up {b : Int} (hb : 0 ≤ b) (h : SIx b s) : ∀ m : Nat, b + (m : Int) < s 131 6 → (m : Int) + 1 ≤ lvl (s 132 (b.toNat + m))
  | 0, hm => by
    have := (h.2 (b.toNat + 0) (by omega) (by omega)).1
    omega
  | m + 1, hm => by
    have ih := SI_up hb h m (by omega)
    have := (h.2 (b.toNat + (m + 1)) (by omega) (by omega)).2 (b.toNat + m) (by omega) (by omega)
    omega
theorem SI_le {b : Int} (hb : 0 ≤ b) (h : SIx b s) : s 131 6 ≤ b + 10 := by
  by_cases a : b + 10 < s 131 6
  · have := SI_up hb h 10 (by omega)
    have := (lvl_rng (s 132 (b.toNat + 10))).2
    omega
  · omega
/-- a part is added -/
theorem cad_all {k a b c : Int} (h0 : 0 ≤ s 99 12) (h1 : s 99 12 < 2000) : cadz s = s 99 12 ∧ (cad s k a b c) 99 12 = s 99 12 + 1 ∧ ((cad s k a b c) 100 (s 99 12).toNat = k ∧ (cad s k a b c) 101 (s 99 12).toNat = a ∧ (cad s k a b c) 102 (s 99 12).toNat = b ∧ (cad s k a b c) 103 (s 99 12).toNat = c ∧ (cad s k a b c) 104 (s 99 12).toNat = -1) ∧ ∀ k2 j, ¬ (100 ≤ k2 ∧ k2 ≤ 104 ∧ j = (s 99 12).toNat) → ¬ (k2 = 99 ∧ j = 12) → (cad s k a b c) k2 j = s k2 j := by
  unfold cad cadz
  rw [if_pos h1, if_pos h1]
  refine ⟨rfl, up_self, ⟨?_, ?_, ?_, ?_, ?_⟩, fun k2 j q1 q2 => ?_⟩
  · exact (if_neg (by omega)).trans ((if_neg (by omega)).trans ((if_neg (by omega)).trans ((if_neg (by omega)).trans ((if_neg (by omega)).trans up_self))))
  · exact (if_neg (by omega)).trans ((if_neg (by omega)).trans ((if_neg (by omega)).trans ((if_neg (by omega)).trans up_self)))
  · exact (if_neg (by omega)).trans ((if_neg (by omega)).trans ((if_neg (by omega)).trans up_self))
  · exact (if_neg (by omega)).trans ((if_neg (by omega)).trans up_self)
  · exact (if_neg (by omega)).trans up_self
  · exact (if_neg (by omega)).trans ((if_neg (by omega)).trans ((if_neg (by omega)).trans ((if_neg (by omega)).trans ((if_neg (by omega)).trans (if_neg (by omega))))))
/-- signs as the reference writes them -/
theorem lvl_sg {c : Int} (h : 0 < lvl c) : (c = 31868 ∨ c = 9766 ∨ c = 15677 ∨ c = 8509 ∨ c = 15421 ∨ c = 15933 ∨ c = 15420 ∨ c = 15934) ∨ (c = 124 ∨ c = 94 ∨ c = 38 ∨ c = 60 ∨ c = 62 ∨ c = 43 ∨ c = 45 ∨ c = 42 ∨ c = 47 ∨ c = 37) := by
  unfold lvl at h
  repeat' split at h
  all_goals omega
theorem rwi_lt {w : Int} : ∀ (l : List Int) (k i : Nat), rwi w l k = some i → i < k + l.length
  | [], _, _, h => by cases h
  | x :: l, k, i, h => by
    have h : (if x = w then some k else rwi w l (k + 1)) = some i := h
    rw [List.length_cons]
    split at h
    · cases h
      omega
    · have := rwi_lt l (k + 1) i h
      omega
theorem sgo_e (h : RLx T n e s t) (hl : 0 < lvl (kkd s)) : sgo t = rsg (kkd s) := by
  have hk := RL_kk h
  obtain ⟨x1, x2, x3⟩ := h.2.1
  obtain ⟨k5, _, k6, _⟩ := h.2.2.2.2
  have hv := lvl_sg hl
  rw [hk] at hv ⊢
  obtain ⟨p, hp⟩ : ∃ p, p = pls T n (s 137 5).toNat := ⟨_, rfl⟩
  rw [← hp] at hv k5 k6 ⊢
  have hpn : p < n := by
    rcases Nat.lt_or_ge p n with a | a
    · exact a
    · rw [kd_end.mpr a] at hv; omega
  have hl0 : ¬ ltr (T p) = true := fun q => by
    rcases kd_ltr hpn q with a | a | ⟨i, a, b, _⟩
    · omega
    · omega
    · have := rwi_lt RWl 0 i b
      have : RWl.length = 15 := rfl
      omega
  have hd0 : ¬ dgt (T p) = true := fun q => by
    rcases kd_dgt hpn hl0 q with a | a <;> omega
  unfold sgo
  rw [k5, k6]
  rcases kd_sgn hpn hl0 hd0 with ⟨a, b, c⟩ | ⟨a, b, c, d⟩ | ⟨a, b, c, _⟩
  · have hn : p + 1 < n := by
      rcases Nat.lt_or_ge (p + 1) n with q | q
      · exact q
      · have := sg2_r a
        rw [show nxc T n p = -1 from if_neg (by omega)] at this
        omega
    have hx : nxc T n p = T (p + 1) := if_pos hn
    have r := sg2_r a
    rw [hx] at b r
    rw [c, imi_e (by omega), if_pos (by omega), ipl_e (a := (p : Int)) (by omega), show ((p : Int) + 1).toNat = p + 1 by omega, Int.toNat_natCast, (x3 (p + 1) hn).1, (x3 p hpn).1, b]
    have hm : imu 256 (T (p + 1)) = 256 * T (p + 1) := by
      unfold imu
      rw [i32_mul, i32_to (by omega) (by omega)]
    rw [hm, ipl_e (by omega)]
    unfold rsg
    rw [if_neg (by omega)]
    omega
  · have r := sg1_r b
    rw [d, imi_e (by omega), if_neg (by omega), Int.toNat_natCast, (x3 p hpn).1, c]
    unfold rsg
    rw [if_pos (by omega)]
  · omega
/-- an E whose last signs still wait: n of them, from h on; the E at hand is z -/
def VEx (s t : tab) (G : Gmx) (c : Cxx) : Nat → Nat → Nat → Int → Nat → Nat → Prop
  | 0, _, a, z, f, l => CO s t G 0 0 a (s 99 12).toNat z f l 0 0 0 c
  | n + 1, h, a, z, f, l => ∃ b1 m1 m2, CO s t G 0 0 a b1 (s 133 h) f m1 0 0 0 c ∧ VEx s t G c n (h + 1) b1 z m1 m2 ∧ t 178 m2 = 0 ∧ t 178 (m2 + 1) = 7 ∧ t 178 (m2 + 2) = rsg (s 132 h) ∧ l = m2 + 3
theorem VE_le {G : Gmx} {c : Cxx} : ∀ (n h a : Nat) (z : Int) (f l : Nat), VEx s t G c n h a z f l → a < (s 99 12).toNat ∧ f ≤ l ∧ z + 1 = s 99 12
  | 0, h, a, z, f, l, k => by
    have k : CO s t G 0 0 a (s 99 12).toNat z f l 0 0 0 c := k
    have h1 := CO_le k
    have h2 := (CO_rt k (by omega)).1
    exact ⟨h1.2.2 (by omega), h1.2.1, by omega⟩
  | n + 1, h, a, z, f, l, k => by
    obtain ⟨b1, m1, m2, k1, k2, _, _, _, k3⟩ := k
    have h1 := CO_le k1
    have h2 := VE_le n _ _ _ _ _ k2
    exact ⟨by omega, by omega, h2.2.2⟩
/-- nothing was written -/
theorem VE_ne {G : Gmx} {c d : Cxx} (h9 : s2 99 12 = s 99 12) (hp : ∀ k j : Nat, 100 ≤ k → k ≤ 104 → (j : Int) < s 99 12 → s2 k j = s k j) (h113 : ∀ r, s2 113 r = s 113 r) (hs : SBx c d) (ha : AUx d) : ∀ (n h a : Nat) (z : Int) (f l : Nat), (∀ j, h ≤ j → j < h + n → s2 132 j = s 132 j ∧ s2 133 j = s 133 j) → (∀ j, f ≤ j → j < l → t2 178 j = t 178 j) → VEx s t G c n h a z f l → VEx s2 t2 G d n h a z f l
  | 0, h, a, z, f, l, e1, e2, k => by
    have k : CO s t G 0 0 a (s 99 12).toNat z f l 0 0 0 c := k
    show CO s2 t2 G 0 0 a (s2 99 12).toNat z f l 0 0 0 d
    rw [h9]
    exact CO_sub (CO_ext k ⟨fun k j q1 q2 q3 q4 => hp k j q1 (by omega) (by omega), fun j q1 q2 q3 => hp 104 j (by omega) (by omega) (by omega), e2, fun q => absurd q (by omega), by omega, fun r _ => h113 r⟩) hs ha
  | n + 1, h, a, z, f, l, e1, e2, k => by
    obtain ⟨b1, m1, m2, k1, k2, k3, k4, k5, k6⟩ := k
    have h1 := CO_le k1
    have h2 := VE_le n _ _ _ _ _ k2
    have h3 := e1 h (Nat.le_refl _) (by omega)
    have hb := (CO_rt k1 (by omega)).2.1
    refine ⟨b1, m1, m2, ?_, VE_ne h9 hp h113 hs ha n _ _ _ _ _ (fun j q1 q2 => e1 j (by omega) (by omega)) (fun j q1 q2 => e2 j (by omega) (by omega)) k2, (e2 _ (by omega) (by omega)).trans k3, (e2 _ (by omega) (by omega)).trans k4, ?_, k6⟩
    · rw [h3.2]
      exact CO_sub (CO_ext k1 ⟨fun k j q1 q2 q3 q4 => hp k j q1 (by omega) (by omega), fun j q1 q2 q3 => hp 104 j (by omega) (by omega) (by omega), fun i q1 q2 => e2 i (by omega) (by omega), fun q => absurd q (by omega), by omega, fun r _ => h113 r⟩) hs ha
    · rw [h3.1]
      exact (e2 _ (by omega) (by omega)).trans k5
/-- the last sign that waits goes -/
theorem VE_j1 {G : Gmx} {c d : Cxx} (h0 : 0 ≤ s 99 12) (h9 : s2 99 12 = s 99 12 + 1) (hp : ∀ k j : Nat, 100 ≤ k → k ≤ 104 → (j : Int) < s 99 12 → s2 k j = s k j) (h113 : ∀ r, s2 113 r = s 113 r) (h32 : ∀ j, s2 132 j = s 132 j ∧ s2 133 j = s 133 j) (hs : SBx c d) (ha : AUx d) (hd : d.1 (s 99 12).toNat) {top : Nat} {z : Int} (p0 : s2 100 (s 99 12).toNat = 403) (p1 : s2 101 (s 99 12).toNat = s 132 top) (p2 : s2 102 (s 99 12).toNat = s 133 top) (p3 : s2 103 (s 99 12).toNat = z) (pl : 0 < lvl (s 132 top)) : ∀ (n h a : Nat) (f l : Nat), h + n = top → VEx s t G c (n + 1) h a z f l → VEx s2 t G d n h a (s 99 12) f l
  | 0, h, a, f, l, ht, k => by
    obtain ⟨b1, m1, m2, k1, k2, k3, k4, k5, k6⟩ := k
    have k2 : CO s t G 0 0 b1 (s 99 12).toNat z m1 m2 0 0 0 c := k2
    have e : h = top := by omega
    have h1 := CO_le k1
    have h2 := CO_le k2
    have up : ∀ {a b f l : Nat} {x : Int}, (b : Int) ≤ s 99 12 → CO s t G 0 0 a b x f l 0 0 0 c → CO s2 t G 0 0 a b x f l 0 0 0 d := fun hb k => CO_sub (CO_ext k ⟨fun k j q1 q2 q3 q4 => hp k j q1 (by omega) (by omega), fun j q1 q2 q3 => hp 104 j (by omega) (by omega) (by omega), fun _ _ _ => rfl, fun q => absurd q (by omega), by omega, fun r _ => h113 r⟩) hs ha
    show CO s2 t G 0 0 a (s2 99 12).toNat (s 99 12) f l 0 0 0 d
    refine CO_mk (.inl ⟨rfl, by omega, by omega, by omega, ha, hd, .inr (.inr (.inr (.inr (.inl ⟨p0, b1, m1, m2, ?_, ?_, k3, k4, ?_, k6, by rw [p1]; exact pl⟩))))⟩)
    · rw [p2, ← e]
      exact up (by have := h2.2.2 (by omega); omega) k1
    · rw [p3]
      exact up (by omega) k2
    · rw [p1, ← e]
      exact k5
  | n + 1, h, a, f, l, ht, k => by
    obtain ⟨b1, m1, m2, k1, k2, k3, k4, k5, k6⟩ := k
    have hb := (CO_rt k1 (by omega)).2.1
    refine ⟨b1, m1, m2, ?_, VE_j1 h0 h9 hp h113 h32 hs ha hd p0 p1 p2 p3 pl n (h + 1) b1 m1 m2 (by omega) k2, k3, k4, ?_, k6⟩
    · rw [(h32 h).2]
      exact CO_sub (CO_ext k1 ⟨fun k j q1 q2 q3 q4 => hp k j q1 (by omega) (by omega), fun j q1 q2 q3 => hp 104 j (by omega) (by omega) (by omega), fun _ _ _ => rfl, fun q => absurd q (by omega), by omega, fun r _ => h113 r⟩) hs ha
    · rw [(h32 h).1]
      exact k5
/-- our table but for the waiting signs and the parts -/
def PEq (s s2 : tab) : Prop := ∀ k j, ¬ (k = 131 ∧ j = 6) → k ≠ 132 → ¬ (99 ≤ k ∧ k ≤ 104 ∨ k = 133) → s2 k j = s k j
theorem PEq_tr {s3 : tab} (h : PEq s s2) (h2 : PEq s2 s3) : PEq s s3 := fun k j a b c => (h2 k j a b c).trans (h k j a b c)
theorem PEq_kk (h : PEq s s2) : kkd s2 = kkd s := by
  unfold kkd
  rw [h 137 5 (by omega) (by omega) (by omega), h 139 _ (by omega) (by omega) (by omega)]
/-- join: the signs from h on go -/
theorem c_join {b lv : Int} {h a f l : Nat} (hb : b ≤ (h : Int)) (hl1 : 1 ≤ lv) : ∀ (m : Nat) (s : tab) (z : Int), VEx s t g.2.2.2.1 (cxt g s t) m h a z f l → ((h + m : Nat) : Int) = s 131 6 → 0 ≤ s 99 12 → s 99 12 + (m : Int) ≤ 2000 → ((g.2.2.2.2.1 + g.2.2.2.2.2 : Nat) : Int) ≤ s 99 12 → (∀ j : Nat, h ≤ j → j < h + m → lv ≤ lvl (s 132 j)) → ((h : Int) = b ∨ lvl (s 132 (h - 1)) < lv) → s 104 (s 99 12 - 1).toNat = -1 → ∃ s2, cG 64 [b, lv, z] s = some (some (s2 99 12 - 1, s2)) ∧ CO s2 t g.2.2.2.1 0 0 a (s2 99 12).toNat (s2 99 12 - 1) f l 0 0 0 (cxt g s2 t) ∧ s2 131 6 = (h : Int) ∧ s2 99 12 = s 99 12 + (m : Int) ∧ PEq s s2 ∧ (∀ j, s2 132 j = s 132 j ∧ s2 133 j = s 133 j) ∧ PFx s t s2 t ∧ s2 104 (s2 99 12 - 1).toNat = -1 := by
  intro m
  induction m with
  | zero =>
    intro s z hv hm h0 h1 ha0 hlv hst h4
    have hz := (VE_le _ _ _ _ _ _ hv).2.2
    refine ⟨s, ?_, ?_, by omega, by omega, fun _ _ _ _ _ => rfl, fun _ => ⟨rfl, rfl⟩, PF_rf, h4⟩
    · rw [cG_69_3]
      unfold cM69_3
      rw [show s 99 12 - 1 = z by omega]
      by_cases e1 : s 131 6 ≤ b
      · rw [if_pos e1]
      · rw [if_neg e1]
        by_cases e2 : s 131 6 ≤ 0
        · rw [if_pos e2]
        · rw [if_neg e2]
          have : lvl (s 132 (((s 131 6) - 1).toNat)) < lv := by
            rcases hst with q | q
            · omega
            · rw [show ((s 131 6) - 1).toNat = h - 1 by omega]
              exact q
          rw [if_pos this]
    · have hv : CO s t g.2.2.2.1 0 0 a (s 99 12).toNat z f l 0 0 0 (cxt g s t) := hv
      rw [show s 99 12 - 1 = z by omega]
      exact hv
  | succ m ih =>
    intro s z hv hm h0 h1 ha0 hlv hst h4
    have hz := (VE_le _ _ _ _ _ _ hv).2.2
    obtain ⟨s1, hs1⟩ : ∃ s1, s1 = up2 s 131 6 ((s 131 6) - 1) := ⟨_, rfl⟩
    have c1 : ∀ k j, ¬ (k = 131 ∧ j = 6) → s1 k j = s k j := fun k j q => by rw [hs1]; exact if_neg q
    have e12 : s1 99 12 = s 99 12 := c1 99 12 (by omega)
    obtain ⟨s3, hs3⟩ : ∃ s3, s3 = cad s1 403 (s 132 (h + m)) (s 133 (h + m)) z := ⟨_, rfl⟩
    obtain ⟨d1, d2, ⟨d3, d4, d5, d6, d7⟩, d8⟩ := cad_all (s := s1) (k := 403) (a := s 132 (h + m)) (b := s 133 (h + m)) (c := z) (by omega) (by omega)
    rw [← hs3, e12] at d2 d3 d4 d5 d6 d7 d8
    rw [e12] at d1
    have o : ∀ k j, ¬ (100 ≤ k ∧ k ≤ 104 ∧ j = (s 99 12).toNat) → ¬ (k = 99 ∧ j = 12) → ¬ (k = 131 ∧ j = 6) → s3 k j = s k j := fun k j q1 q2 q3 => (d8 k j q1 q2).trans (c1 k j q3)
    have e36 : s3 131 6 = ((h + m : Nat) : Int) := by
      rw [d8 131 6 (by omega) (by omega), hs1, up_self]
      omega
    have pf : PFx s t s3 t := ⟨⟨by omega, fun k j q1 q2 q3 => o k j (by omega) (by omega) (by omega)⟩, ⟨Int.le_refl _, fun _ _ => rfl⟩, Int.le_refl _, fun _ _ _ _ q => q, fun q => q, fun r => o 113 r (by omega) (by omega) (by omega)⟩
    have hv3 : VEx s3 t g.2.2.2.1 (cxt g s3 t) m h a (s 99 12) f l := VE_j1 h0 d2 (fun k j q1 q2 q3 => o k j (by omega) (by omega) (by omega)) (fun r => o 113 r (by omega) (by omega) (by omega)) (fun j => ⟨o 132 j (by omega) (by omega) (by omega), o 133 j (by omega) (by omega) (by omega)⟩) (cxt_sb (by omega) (fun _ _ _ _ q => q)) cxt_au (.inl ⟨by omega, by omega⟩) d3 d4 d5 d6 (by have := hlv (h + m) (by omega) (by omega); omega) m h a f l rfl hv
    obtain ⟨s2, a1, a2, a3, a4, a5, a6, a7, a8⟩ := ih s3 (s 99 12) hv3 e36.symm (by omega) (by omega) (by omega) (fun j q1 q2 => by rw [o 132 j (by omega) (by omega) (by omega)]; exact hlv j q1 (by omega)) (by rw [o 132 _ (by omega) (by omega) (by omega)]; exact hst) (by rw [d2, show s 99 12 + 1 - 1 = s 99 12 by omega]; exact d7)
    refine ⟨s2, ?_, a2, a3, by omega, PEq_tr (fun k j q1 q2 q3 => o k j (by omega) (by omega) q1) a5, fun j => ⟨(a6 j).1.trans (o 132 j (by omega) (by omega) (by omega)), (a6 j).2.trans (o 133 j (by omega) (by omega) (by omega))⟩, PF_tr pf a7, a8⟩
    rw [← a1, cG_69_3]
    conv => lhs; unfold cM69_3
    have i1 : ((s 131 6) - 1).toNat = h + m := by omega
    rw [if_neg (by omega), if_neg (by omega), i1, if_neg (by have := hlv (h + m) (by omega) (by omega); omega), ← hs1, d1, ← hs3]
theorem PEq_RE (h : REx T n e N g s t) (hp : PEq s s2) (hn : 0 ≤ s2 99 12 ∧ s2 99 12 + s2 131 6 ≤ s2 137 5 ∧ ((g.2.2.2.2.1 + g.2.2.2.2.2 : Nat) : Int) ≤ s2 99 12) : REx T n e N g s2 t := by
  have cc : ∀ k j, (105 ≤ k ∧ k ≠ 131 ∧ k ≠ 132 ∧ k ≠ 133) → s2 k j = s k j := fun k j a => hp k j (by omega) (by omega) (by omega)
  have c5 := cc 137 5 (by omega)
  obtain ⟨⟨⟨b1, b2, b3, b4, b5⟩, l2, l3, l4, l5⟩, ⟨⟨a1, a2, a3, a4, a5⟩, c1, c2, c3, c4⟩, ⟨m1, m2, m3⟩, v1, v2, v3, v4⟩ := h
  have c13 : s2 131 13 = s 131 13 := hp 131 13 (by omega) (by omega) (by omega)
  have c14 : s2 131 14 = s 131 14 := hp 131 14 (by omega) (by omega) (by omega)
  refine ⟨⟨⟨b1, b2, b3, b4, fun j hj => ?_⟩, l2, by rw [c5]; exact l3, by rw [c5]; exact l4, by rw [c5]; exact l5⟩, ⟨⟨(cc 105 3 (by omega)).trans a1, a2, ⟨a3.1, UN_fr a3.2 (fun j _ => cc 106 j (by omega)) (fun _ _ => rfl)⟩, fun j hj => ?_, fun j hj => ?_⟩, fun c hc => ?_, fun r hr1 hr2 => ?_, c13.trans c3, ?_⟩, ⟨(hp 131 7 (by omega) (by omega) (by omega)).trans m1, (hp 131 8 (by omega) (by omega) (by omega)).trans m2, (hp 131 9 (by omega) (by omega) (by omega)).trans m3.1, m3.2⟩, ?_, ⟨MKr_mv v2.1 rfl rfl (cc 109 5 (by omega)) (Int.le_of_eq (cc 109 0 (by omega)).symm) (Int.le_of_eq (cc 109 1 (by omega)).symm), fun q => by rw [c13] at q ⊢; rw [cc 113 _ (by omega), cc 112 _ (by omega), cc 109 0 (by omega)]; exact v2.2 q⟩, fun j hj => ?_, fun r hr1 hr2 => ?_⟩
  · rw [cc 139 j (by omega), cc 140 j (by omega), cc 141 j (by omega)]
    exact b5 j hj
  · obtain ⟨a, b, q1, q2, q3, q4, q5, q6⟩ := a4 j hj
    exact ⟨a, b, q1, q2, q3, q4, q5, (cc 106 j (by omega)).trans q6⟩
  · rw [cc 107 j (by omega), cc 108 j (by omega), cc 109 _ (by omega)]
    exact a5 j hj
  · rw [cc 109 c (by omega)]
    exact c1 c hc
  · rw [cc 109 5 (by omega)] at hr1
    rw [c13] at hr2
    rw [cc 112 r (by omega), cc 134 r (by omega), cc 135 r (by omega), cc 136 r (by omega)]
    exact c2 r hr1 hr2
  · rw [c14]
    rcases c4 with c4 | ⟨d2, d3, d4⟩
    · exact .inl c4
    · refine .inr ⟨d2, d3, fun j hj => ?_⟩
      rw [cc 107 j (by omega), cc 108 j (by omega)]
      exact d4 j hj
  · obtain ⟨w1, w2, w3, w4, w5, w6, w7⟩ := v1
    rw [c5] at hn ⊢
    exact ⟨hn.1, hn.2.1, w3, w4, w5, w6, hn.2.2⟩
  · rw [cc 105 3 (by omega)] at hj
    rw [cc 107 j (by omega), cc 108 j (by omega)]
    exact v3 j hj
  · rw [cc 109 5 (by omega)] at hr1
    rw [c13] at hr2
    have vv := v4 r hr1 hr2
    unfold RVx at vv ⊢
    rw [cc 113 r (by omega), cc 112 r (by omega)]
    obtain ⟨z1, z2, z3, z4, z5, z6, z7, z8, z9, z10, z11, z12, z13⟩ := vv
    exact ⟨z1, z2, z3, z4, z5, z6, z7, z8, z9, z10, z11, fun v q => bnd_m (Int.le_of_eq (cc 109 0 (by omega)).symm) (Int.le_of_eq (cc 109 1 (by omega)).symm) (z12 v q), z13⟩
/-- what an E above b keeps -/
def FKc (b : Int) (s s2 : tab) : Prop := (∀ k j, ¬ (k = 137 ∧ j = 5 ∨ 99 ≤ k ∧ k ≤ 104 ∨ k = 133) → ¬ (k = 131 ∧ (j = 6 ∨ j = 7 ∨ j = 8 ∨ j = 9)) → k ≠ 132 → s2 k j = s k j) ∧ (∀ j : Nat, (j : Int) < b → s2 132 j = s 132 j ∧ s2 133 j = s 133 j) ∧ s 137 5 ≤ s2 137 5
theorem FKc_tr {b : Int} {s3 : tab} (h : FKc b s s2) (h2 : FKc b s2 s3) : FKc b s s3 := ⟨fun k j a1 a2 a3 => (h2.1 k j a1 a2 a3).trans (h.1 k j a1 a2 a3), fun j hj => ⟨(h2.2.1 j hj).1.trans (h.2.1 j hj).1, (h2.2.1 j hj).2.trans (h.2.1 j hj).2⟩, Int.le_trans h.2.2 h2.2.2⟩
theorem FKc_le {b c : Int} (h : FKc b s s2) (hb : c ≤ b) : FKc c s s2 := ⟨h.1, fun j hj => h.2.1 j (by omega), h.2.2⟩
theorem FKc_E {b : Int} (h : FEc s s2) (hb : b ≤ s 131 6) : FKc b s s2 := ⟨fun k j a1 a2 a3 => h.1 k j (by omega) a2 a3, fun j hj => ⟨h.2.2.1 j (by omega), h.1 133 j (by omega) (by omega) (by omega)⟩, h.2.2.2⟩
theorem SI_E {b : Int} (h : SIx b s) (hf : FEc s s2) : SIx b s2 := by
  refine ⟨by rw [hf.2.1]; exact h.1, fun j a1 a2 => ?_⟩
  rw [hf.2.1] at a2
  rw [hf.2.2.1 j a2]
  refine ⟨(h.2 j a1 a2).1, fun k k1 k2 => ?_⟩
  rw [hf.2.2.1 k (by omega)]
  exact (h.2 j a1 a2).2 k k1 k2
/-- an operand, then our loop -/
noncomputable def Kst (x b i : Int) (s : tab) : RO := bo (cG 41 [x] s) fun z s1 => cG 66 [x, b, z, lvl (kkd s1), i] s1
/-- once around our loop -/
theorem c_round {x b i w : Int} {h m a f : Nat} (hR : REx T n e N g s t) (hb : 0 ≤ b ∧ b ≤ 200) (hbh : b ≤ (h : Int)) (hs : SIx b s) (hl : 0 < lvl (kkd s)) (hi : i ≤ s 137 5) (hm : ((h + m : Nat) : Int) = s 131 6) (hlo : ∀ j : Nat, b ≤ (j : Int) → j < h → lvl (s 132 j) < lvl (kkd s)) (hhi : ∀ j : Nat, h ≤ j → j < h + m → lvl (kkd s) ≤ lvl (s 132 j)) (hv : VEx s t g.2.2.2.1 (cxt g s t) m h a w f (t 177 1).toNat) (h4 : s 104 (s 99 12 - 1).toNat = -1) : ∃ s3 t2, cG 66 [x, b, w, lvl (kkd s), i] s = Kst x b (i + 1) s3 ∧ rG 4 [] t = some (some (0, t2)) ∧ REx T n e N g s3 t2 ∧ SIx b s3 ∧ FKc (h : Int) s s3 ∧ FEr t t2 ∧ s3 137 5 = s 137 5 + 1 ∧ s3 131 6 = (h : Int) + 1 ∧ s3 132 h = kkd s ∧ (∀ j : Nat, j < h → s3 132 j = s 132 j) ∧ CO s3 t2 g.2.2.2.1 0 0 a (s3 99 12).toNat (s3 133 h) f (t2 177 1).toNat 0 0 0 (cxt g s3 t2) ∧ PFx s t s3 t2 ∧ t2 177 1 = t 177 1 ∧ s3 99 12 = s 99 12 + (m : Int) ∧ t2 177 10 = t 177 10 := by
  have hk3 : kkd s ≠ 3 := fun q => by rw [q] at hl; exact absurd hl (by decide)
  have hk4 : kkd s ≠ 4 := fun q => by rw [q] at hl; exact absurd hl (by decide)
  have hin := RL_in hR.1
  have hlr := lvl_rng (kkd s)
  obtain ⟨v1, v2, v3, v4, v5, v6, v7⟩ := hR.2.2.2.1
  have hne : s 137 5 < 2000 := by
    have hk := RL_kk hR.1
    have he := hR.1.1.2.2.1
    have h1 := hR.1.1.1
    have h2 := hR.1.1.2.1
    have : (s 137 5).toNat ≠ e := fun q => by rw [q] at hk; omega
    omega
  obtain ⟨s1, a1, a2, a3, a4, a5, a6, a7, _⟩ := c_join (b := b) (lv := lvl (kkd s)) hbh (by omega) m s w hv hm v1 (by omega) v7 hhi (by
    by_cases q : (h : Int) = b
    · exact .inl q
    · exact .inr (hlo (h - 1) (by omega) (by omega))) h4
  have hj : cG 36 [b, lvl (kkd s), w] s = some (some (s1 99 12 - 1, s1)) := by rw [cG_69]; unfold cM69; exact a1
  have hh9 : (h : Int) ≤ b + 9 := by
    by_cases w : b + 9 < (h : Int)
    · have h1 := SI_up hb.1 hs 9 (by omega)
      have h2 := hlo (b.toNat + 9) (by omega) (by omega)
      omega
    · omega
  obtain ⟨sp, hsp⟩ : ∃ sp, sp = up2 (up2 (up2 s1 132 h (kkd s)) 133 h (s1 99 12 - 1)) 131 6 ((h : Int) + 1) := ⟨_, rfl⟩
  have o : ∀ k j, ¬ (k = 131 ∧ j = 6) → ¬ ((k = 132 ∨ k = 133) ∧ j = h) → sp k j = s1 k j := fun k j q1 q2 => by rw [hsp]; exact (if_neg q1).trans ((if_neg (by omega)).trans (if_neg (by omega)))
  have hpe : PEq s sp := PEq_tr a5 (fun k j q1 q2 q3 => o k j q1 (by omega))
  have hkp := PEq_kk hpe
  have sp6 : sp 131 6 = (h : Int) + 1 := by rw [hsp, up_self]
  have sp132 : sp 132 h = kkd s := by rw [hsp]; exact (if_neg (by omega)).trans ((if_neg (by omega)).trans up_self)
  have sp133 : sp 133 h = s1 99 12 - 1 := by rw [hsp]; exact (if_neg (by omega)).trans up_self
  have spo : ∀ j : Nat, j ≠ h → sp 132 j = s 132 j ∧ sp 133 j = s 133 j := fun j q => ⟨(o 132 j (by omega) (by omega)).trans (a6 j).1, (o 133 j (by omega) (by omega)).trans (a6 j).2⟩
  have sp12 : sp 99 12 = s1 99 12 := o 99 12 (by omega) (by omega)
  have sp5 : sp 137 5 = s 137 5 := hpe 137 5 (by omega) (by omega) (by omega)
  obtain ⟨t2, c1, c2, c3, c4, c5⟩ := RE_step hR hk3 hk4
  obtain ⟨pf, pf2, pf3, pf10⟩ := PF_stp hR.1 hk3 hk4 c1
  have es : stp s = up2 s 137 5 (s 137 5 + 1) := stp_e hR.1 hk3 hk4
  have esp : stp sp = up2 sp 137 5 (sp 137 5 + 1) := by
    have h9 := es
    unfold stp at h9 ⊢
    have k1 : sp 139 (sp 137 5).toNat = s 139 (s 137 5).toNat := by rw [sp5]; exact hpe 139 _ (by omega) (by omega) (by omega)
    rw [k1, sp5]
    by_cases q : 0 ≤ s 137 5 ∧ s 137 5 < 2000 ∧ s 139 (s 137 5).toNat ≠ 3 ∧ s 139 (s 137 5).toNat ≠ 4
    · rw [if_pos q]
    · rw [if_neg q] at h9
      exfalso
      have : s 137 5 = s 137 5 + 1 := by
        conv => lhs; rw [h9]
        exact up_self
      omega
  obtain ⟨s3, hs3⟩ : ∃ s3, s3 = stp sp := ⟨_, rfl⟩
  have o3 : ∀ k j, ¬ (k = 137 ∧ j = 5) → s3 k j = sp k j := fun k j q => by rw [hs3, esp]; exact if_neg q
  have s35 : s3 137 5 = s 137 5 + 1 := by rw [hs3, esp, up_self, sp5]
  have hp3 : PEq (stp s) s3 := fun k j q1 q2 q3 => by
    by_cases q : k = 137 ∧ j = 5
    · rw [q.1, q.2, s35, c5]
    · rw [o3 k j q, hpe k j q1 q2 q3, es]
      exact (if_neg q).symm
  have e12 : s3 99 12 = s1 99 12 := (o3 99 12 (by omega)).trans sp12
  have e6 : s3 131 6 = (h : Int) + 1 := (o3 131 6 (by omega)).trans sp6
  have e32 : ∀ j, s3 132 j = sp 132 j := fun j => o3 132 j (by omega)
  have e33 : ∀ j, s3 133 j = sp 133 j := fun j => o3 133 j (by omega)
  have pf4 : PFx s1 t s3 t2 := by
    refine ⟨⟨by omega, fun k j q1 q2 q3 => (o3 k j (by omega)).trans (o k j (by omega) (by omega))⟩, pf.2.1, pf.2.2.1, pf.2.2.2.1, pf.2.2.2.2.1, fun r => (o3 113 r (by omega)).trans (o 113 r (by omega) (by omega))⟩
  refine ⟨s3, t2, ?_, c1, PEq_RE c2 hp3 ⟨by omega, by omega, by omega⟩, ?_, ?_, c4, s35, e6, (e32 h).trans sp132, fun j q => (e32 j).trans (spo j (by omega)).1, ?_, PF_tr a7 pf4, pf3, by omega, pf10⟩
  · rw [cG_57_26]
    unfold cM57_26
    have kk6 : kkd s1 = kkd s := PEq_kk a5
    rw [if_neg (by omega), if_neg (by omega), hj, bo_s, a3, if_neg (by omega), Int.toNat_natCast, kk6, ← hsp, ← hs3]
    rfl
  · refine ⟨by rw [e6]; omega, fun j b1 b2 => ?_⟩
    rw [e6] at b2
    rw [e32]
    by_cases ej : j = h
    · rw [ej, sp132]
      refine ⟨by omega, fun k k1 k2 => ?_⟩
      rw [e32, (spo k (by omega)).1]
      exact hlo k k1 k2
    · rw [(spo j ej).1]
      refine ⟨(hs.2 j b1 (by omega)).1, fun k k1 k2 => ?_⟩
      rw [e32, (spo k (by omega)).1]
      exact (hs.2 j b1 (by omega)).2 k k1 k2
  · refine ⟨fun k j q1 q2 q3 => (o3 k j (by omega)).trans (hpe k j (by omega) q3 (by omega)), fun j hj => ?_, by rw [s35]; omega⟩
    rw [e32, e33]
    exact spo j (by omega)
  · rw [e33, sp133, pf3]
    have := EM_up a2 (by omega) (by omega) (fun q => absurd q (by omega)) pf4
    rw [e12]
    exact this
/-- our E, from its loop's end on -/
theorem c_Eend {x b i w : Int} {m a f : Nat} (hR : REx T n e N g s t) (hb : 0 ≤ b) (hs : SIx b s) (hl : lvl (kkd s) ≤ 0) (hm : b + (m : Int) = s 131 6) (hv : VEx s t g.2.2.2.1 (cxt g s t) m b.toNat a w f (t 177 1).toNat) (h4 : s 104 (s 99 12 - 1).toNat = -1) : ∃ s2, cG 66 [x, b, w, lvl (kkd s), i] s = some (some (s2 99 12 - 1, s2)) ∧ CO s2 t g.2.2.2.1 0 0 a (s2 99 12).toNat (s2 99 12 - 1) f (t 177 1).toNat 0 0 0 (cxt g s2 t) ∧ s2 131 6 = b ∧ s2 99 12 = s 99 12 + (m : Int) ∧ PEq s s2 ∧ (∀ j, s2 132 j = s 132 j ∧ s2 133 j = s 133 j) ∧ PFx s t s2 t ∧ s2 104 (s2 99 12 - 1).toNat = -1 := by
  obtain ⟨v1, v2, v3, v4, v5, v6, v7⟩ := hR.2.2.2.1
  have hin := RL_in hR.1
  obtain ⟨s2, a1, a2, a3, a4, a5, a6, a7, a8⟩ := c_join (b := b) (lv := 1) (h := b.toNat) (by omega) (by omega) m s w hv (by omega) v1 (by omega) v7 (fun j q1 q2 => (hs.2 j (by omega) (by omega)).1) (.inl (by omega)) h4
  refine ⟨s2, ?_, a2, by omega, a4, a5, a6, a7, a8⟩
  have hj : cG 36 [b, 1, w] s = some (some (s2 99 12 - 1, s2)) := by rw [cG_69]; unfold cM69; exact a1
  rw [cG_57_26]
  unfold cM57_26
  rw [hj, bo_s]
  split
  · rfl
  · rfl
end EXP
