/-! Declarations, in both. -/
section DECX
variable {T : Nat → Int} {n e N : Nat} {s t s2 t2 s0 t0 : tab} {rc : MRq} {u : Int}
theorem bo_as {x : RO} {f k : Int → tab → RO} : bo (bo x f) k = bo x fun z t => bo (f z t) k := by
  unfold bo
  cases x with
  | none => rfl
  | some y => cases y <;> rfl
theorem RL_take (h : RLx T n e s t) {q c : Int} (hq : ∀ {p : Nat}, RTx T n t → RTk T n p t → p ≤ n → rG 5 [q] t = some (some (if kd T n p = c then 1 else 0, t))) (hc : c ≠ 3 ∧ c ≠ 4) : (∃ t2, rG 8 [q] t = some (some (1, t2)) ∧ kkd s = c ∧ cG 29 [c] s = some (some (0, stp s)) ∧ RLx T n e (stp s) t2 ∧ (∀ k j, ¬ (k = 137 ∧ j = 5) → (stp s) k j = s k j) ∧ (stp s) 137 5 = s 137 5 + 1 ∧ ∀ k j, ¬ lexs k j → t2 k j = t k j) ∨ (rG 8 [q] t = some (some (0, t)) ∧ kkd s ≠ c ∧ cG 29 [c] s = some none) := by
  have hi := RL_is hq h
  rw [rG_136, cG_43]
  unfold rM136 cM43
  rw [hi, bo_s]
  by_cases hk : kkd s = c
  · obtain ⟨t2, a1, a2, a3, a4⟩ := RL_step h (by omega) (by omega)
    refine .inl ⟨t2, ?_, hk, if_neg (fun q => q hk), a2, fun k j q => ?_, a3, a4⟩
    · rw [if_pos (by rw [if_pos hk]; decide), a1]
      rfl
    · rw [stp_e h (by omega) (by omega)]
      exact if_neg q
  · refine .inr ⟨?_, hk, if_pos hk⟩
    rw [if_neg (by rw [if_neg hk]; decide)]
theorem RL_stk (h : RLx T n e s t) (h3 : kkd s ≠ 3) (h4 : kkd s ≠ 4) : ∀ k j, ¬ (k = 137 ∧ j = 5) → (stp s) k j = s k j := fun k j q => by
  rw [stp_e h h3 h4]
  exact if_neg q
theorem SC_lex {b : Int} (h : SCb N b t) (ht : ∀ k j, ¬ lexs k j → t2 k j = t k j) : SCb N b t2 := ⟨h.1, h.2.1, fun j hj => by rw [ht 176 j (by unfold lexs; omega), ht 170 15 (by unfold lexs; omega)]; exact h.2.2 j hj⟩
/-- a number at hand -/
theorem RL_num (h : RLx T n e s t) (hk : kkd s = 2) : t 170 7 = vlu s ∧ 0 ≤ vlu s ∧ vlu s ≤ 65535 := by
  have hv := RL_vl h (.inr hk)
  have hk2 := RL_kk h
  have hr := kd_num (hk2.symm.trans hk)
  have h7 := h.2.2.2.2.2.2.2.2 (hk2.symm.trans hk)
  omega
theorem l2x_s : ∀ v : Fin 65, l2x ((v : Nat) : Int) = ((v : Nat) : Int) := by decide
theorem l2x_e {v : Int} (h : 0 ≤ v ∧ v ≤ 64) : l2x v = v := by
  have := l2x_s ⟨v.toNat, by omega⟩
  rw [show (((⟨v.toNat, by omega⟩ : Fin 65) : Nat) : Int) = v by show ((v.toNat : Nat) : Int) = v; omega] at this
  exact this
/-- a NAME declared, of kind w, count c -/
theorem p_nm {b w L : Int} {c D : Nat} (hL : LIM c = L) (hD : 4 + c = D) (h : RHx T n e N u s t) (hc : c < 6) (hw : 0 ≤ w ∧ w ≤ 6) (hcw : kcn w = c) {u2 : Int} (hu : (c ≠ 5 ∧ u2 = u) ∨ (c = 5 ∧ u2 = s 109 c ∧ u = -1)) (hsc : SCb N b t) : (rG 16 [t 177 D, L] t = some (some (0, t)) ∧ cG 31 [w, b] s = some none) ∨ (rG 16 [t 177 D, L] t = some (some (1, t)) ∧ ((rG 10 [w, t 177 D] t = some (some (0, t)) ∧ cG 31 [w, b] s = some none) ∨ ∃ s2 t2, rG 10 [w, t 177 D] t = some (some (1, t2)) ∧ cG 31 [w, b] s = some (some (s 109 c, s2)) ∧ RHx T n e (N + 1) u2 s2 (up2 t2 177 D (ipl (t2 177 D) 1)) ∧ SCb (N + 1) b (up2 t2 177 D (ipl (t2 177 D) 1)) ∧ DFc s s2 ∧ DFr N t (up2 t2 177 D (ipl (t2 177 D) 1)) ∧ (∀ j : Nat, j < N → s2 107 j = s 107 j ∧ s2 108 j = s 108 j) ∧ s2 107 N = w ∧ s2 108 N = s 109 c ∧ (∀ d : Nat, s2 109 d = if d = c then s 109 c + 1 else s 109 d) ∧ s 109 c < L ∧ t2 177 D = s 109 c)) := by
  subst hL
  subst hD
  have hk4 := RL_k4 h.1
  have hct := h.2.2.1 c hc
  have h3 : s 105 3 = (N : Int) := h.2.1.1
  have hlim := LIM_le (j := c)
  have hN58 : s 109 c < LIM c → N < 58 := fun q => by
    have hsu : RSu N s := h.2.2.2.2.2.2
    unfold RSu at hsu
    have q0 := (h.2.2.1 0 (by omega)).2.2
    have q1 := (h.2.2.1 1 (by omega)).2.2
    have q2 := (h.2.2.1 2 (by omega)).2.2
    have q3 := (h.2.2.1 3 (by omega)).2.2
    have q4 := (h.2.2.1 4 (by omega)).2.2
    have q5 := (h.2.2.1 5 (by omega)).2.2
    have l0 : LIM 0 = 24 := rfl
    have l1 : LIM 1 = 6 := rfl
    have l2 : LIM 2 = 8 := rfl
    have l3 : LIM 3 = 4 := rfl
    have l4 : LIM 4 = 4 := rfl
    have l5 : LIM 5 = 12 := rfl
    clear hct hcw hu hlim
    have hc6 : c = 0 ∨ c = 1 ∨ c = 2 ∨ c = 3 ∨ c = 4 ∨ c = 5 := by omega
    rcases hc6 with z | z | z | z | z | z <;> subst z <;> omega
  have hcd := c_dec (b := b) (w := w) (c := c) h3 hN58 hw hcw
  rw [r_isName, hct.1]
  by_cases k1 : kkd s = 1
  · rw [if_neg (show ¬ (t 170 4 ≠ 1) from fun q => q (by rw [hk4, k1]; rfl))]
    by_cases k2 : s 109 c < LIM c
    · rw [if_pos k2]
      refine .inr ⟨rfl, ?_⟩
      rcases p_dec h hc rfl hw hcw (u2 := u2) hu hsc k1 k2 with ⟨a1, a2⟩ | ⟨t2, a1, a2, a3, a4, a5, a6, a7, a8, a9, a10, a11⟩
      · exact .inl ⟨a2, a1⟩
      · have e7 : ipl (t2 177 (4 + c)) 1 = s 109 c + 1 := by
          rw [a7]
          exact ipl_e (by omega)
        refine .inr ⟨stp (cnm s N c w (s 109 c)), t2, a1, a2, ?_, ?_, a5, ?_, a8, a9, a10, a11, k2, a7⟩
        · rw [e7]
          exact a3
        · rw [e7]
          exact a4
        · rw [e7]
          exact a6
    · rw [if_neg k2]
      refine .inl ⟨rfl, ?_⟩
      rw [hcd, if_neg (fun q => q k1)]
      by_cases q : 0 ≤ fdn s (vlu s) b
      · rw [if_pos q]
      · rw [if_neg q, if_pos (by omega)]
  · rw [if_pos (show t 170 4 ≠ 1 from fun q => k1 (rkn_1 (hk4.symm.trans q)))]
    refine .inl ⟨rfl, ?_⟩
    rw [hcd, if_pos k1]
theorem H_b1 (h : RHx T n e N u s t) (a b : Nat) (z y : Int) : RHx T n e N u (up2 s 110 a z) (up2 t 179 b y) := by
  obtain ⟨⟨hT, hx, l3, l4, l5⟩, ⟨a1, a2, a3, a4, a5⟩, b', c, p, ⟨c1, c2, c3, c4⟩, q⟩ := h
  exact ⟨⟨hT, hx, l3, l4, l5⟩, ⟨a1, a2, a3, a4, a5⟩, b', c, p, ⟨c1, c2, c3, c4⟩, q⟩
theorem H_b2 (h : RHx T n e N u s t) (a b : Nat) (z y : Int) : RHx T n e N u (up2 s 111 a z) (up2 t 180 b y) := by
  obtain ⟨⟨hT, hx, l3, l4, l5⟩, ⟨a1, a2, a3, a4, a5⟩, b', c, p, ⟨c1, c2, c3, c4⟩, q⟩ := h
  exact ⟨⟨hT, hx, l3, l4, l5⟩, ⟨a1, a2, a3, a4, a5⟩, b', c, p, ⟨c1, c2, c3, c4⟩, q⟩
theorem H_bt (h : RHx T n e N u s t) (b : Nat) (y : Int) : RHx T n e N u s (up2 t 179 b y) := by
  obtain ⟨⟨hT, hx, l3, l4, l5⟩, ⟨a1, a2, a3, a4, a5⟩, b', c, p, ⟨c1, c2, c3, c4⟩, q⟩ := h
  exact ⟨⟨hT, hx, l3, l4, l5⟩, ⟨a1, a2, a3, a4, a5⟩, b', c, p, ⟨c1, c2, c3, c4⟩, q⟩
/-- an int: its bits x1 are written too -/
theorem p_int {x1 : Int} (h : RHx T n e N u s t) {b : Int} (hsc : SCb N b t) : (∃ t9, rG 17 [x1] t = some (some (0, t9)) ∧ cG 31 [0, b] s = some none) ∨ ∃ s2 t2, rG 17 [x1] t = some (some (1, up2 t2 179 (s 109 0).toNat x1)) ∧ cG 31 [0, b] s = some (some (s 109 0, s2)) ∧ RHx T n e (N + 1) u s2 t2 ∧ SCb (N + 1) b t2 ∧ DFc s s2 ∧ DFr N t t2 ∧ (∀ j : Nat, j < N → s2 107 j = s 107 j ∧ s2 108 j = s 108 j) ∧ s2 107 N = 0 ∧ s2 108 N = s 109 0 ∧ (∀ d : Nat, s2 109 d = if d = 0 then s 109 0 + 1 else s 109 d) ∧ s 109 0 < 24 := by
  rw [rG_137]
  unfold rM137
  rcases p_nm (b := b) (w := 0) (c := 0) (u2 := u) (L := 24) (D := 4) rfl rfl h (by omega) (by decide) (by decide) (.inl ⟨by decide, rfl⟩) hsc with ⟨a1, a2⟩ | ⟨a1, ⟨a2, a3⟩ | ⟨s2, t2, a2, a3, a4, a5, a6, a7, a8, a9, a10, a11, a12, a13⟩⟩
  · refine .inl ⟨t, ?_, a2⟩
    rw [a1, bo_s, if_pos rfl]
  · refine .inl ⟨t, ?_, a3⟩
    rw [a1, bo_s, if_neg (by decide), a2, bo_s, if_neg (by decide)]
  · refine .inr ⟨s2, _, ?_, a3, a4, a5, a6, a7, a8, a9, a10, a11, a12⟩
    rw [a1, bo_s, if_neg (by decide), a2, bo_s, if_pos (by decide), a13, up_comm (k := 179) (k2 := 177) (fun q => absurd q.1 (by decide))]
/-- what is known of the routines: their bodies' parts and code, and which counters are theirs -/
def RTB (H : Gmx × (Nat → Nat)) (s t : tab) (r : Nat) : Prop := t 170 21 = -1 → ∃ n a b l : Nat, (H.1.2.2 r → CO s t H.1 5 n a b (s 114 r) (t 200 r).toNat l (H.2 r) (H.2 (r + 1)) 0 (H.1.2.1 r)) ∧ (¬ H.1.2.2 r → CO s t H.1 1 0 a b (s 114 r) (t 200 r).toNat l (H.2 r) (H.2 (r + 1)) 0 (H.1.2.1 r) ∧ s 104 (s 114 r).toNat = -1) ∧ t 178 l = 12 ∧ (b : Int) ≤ s 99 12 ∧ (l : Int) < t 177 1 ∧ 0 ≤ s 114 r ∧ 0 ≤ t 200 r ∧ H.2 (1000 + r) ≤ a ∧ b ≤ H.2 (1000 + r + 1)
def GDy (H : Gmx × (Nat → Nat)) (s t : tab) : Prop := (0 ≤ s 99 12 ∧ s 99 12 ≤ s 137 5 ∧ 0 ≤ t 177 1 ∧ t 177 1 ≤ 12 * s 137 5 ∧ 0 ≤ t 177 10 ∧ t 177 10 ≤ s 137 5) ∧ (∀ j : Nat, (j : Int) < s 105 3 → (s 107 j = 6 → H.1.2.2 (s 108 j).toNat) ∧ (s 107 j = 5 → ¬ H.1.2.2 (s 108 j).toNat)) ∧ (∀ r : Nat, (r : Int) < s 109 5 → RVx H.1 (s 99 12).toNat s t r ∧ RTB H s t r ∧ H.2 r ≤ H.2 (r + 1)) ∧ H.2 (s 109 5).toNat = (t 177 10).toNat ∧ H.2 (1000 + (s 109 5).toNat) ≤ (s 99 12).toNat
theorem GD_fr {H : Gmx × (Nat → Nat)} (h : GDy H s t) (hs : ∀ k j, (k = 99 ∧ j = 12 ∨ 100 ≤ k ∧ k ≤ 104 ∨ 112 ≤ k ∧ k ≤ 114 ∨ k = 131 ∧ j = 13) → s2 k j = s k j) (h5 : s 137 5 ≤ s2 137 5) (h109 : s2 109 5 = s 109 5) (hn : ∀ j : Nat, (j : Int) < s2 105 3 → s2 107 j = 6 ∨ s2 107 j = 5 → (j : Int) < s 105 3 ∧ s2 107 j = s 107 j ∧ s2 108 j = s 108 j) (ht : ∀ k j, (k = 177 ∧ (j = 1 ∨ j = 10) ∨ k = 178 ∨ 195 ≤ k ∧ k ≤ 202 ∨ k = 170 ∧ j = 21) → t2 k j = t k j) (hbn : s 109 0 ≤ s2 109 0 ∧ s 109 1 ≤ s2 109 1) : GDy H s2 t2 := by
  obtain ⟨⟨a1, a2, a3, a4, a5, a6⟩, b, c, d⟩ := h
  have s12 := hs 99 12 (by omega)
  have t1 := ht 177 1 (by omega)
  have t10 := ht 177 10 (by omega)
  refine ⟨⟨by omega, by omega, by omega, by omega, by omega, by omega⟩, fun j hj => ⟨fun q => ?_, fun q => ?_⟩, fun r hr => ?_, by rw [h109, t10, s12]; exact d⟩
  · obtain ⟨z1, z2, z3⟩ := hn j hj (.inl q)
    rw [z3]
    exact (b j z1).1 (by rw [← z2]; exact q)
  · obtain ⟨z1, z2, z3⟩ := hn j hj (.inr q)
    rw [z3]
    exact (b j z1).2 (by rw [← z2]; exact q)
  · rw [h109] at hr
    obtain ⟨v, w, m⟩ := c r hr
    refine ⟨?_, fun q => ?_, m⟩
    · unfold RVx at v ⊢
      rw [s12, hs 113 r (by omega), hs 112 r (by omega), ht 200 r (by omega), ht 202 r (by omega), ht 195 r (by omega), ht 196 r (by omega), ht 197 r (by omega), ht 198 r (by omega), ht 199 r (by omega)]
      obtain ⟨x1, x2, x3, x4, x5, x6, x7, x8, x9, x10, x11, x12, x13⟩ := v
      exact ⟨x1, x2, x3, x4, x5, x6, x7, x8, x9, x10, x11, fun v q => bnd_m hbn.1 hbn.2 (x12 v q), x13⟩
    · rw [ht 170 21 (by omega)] at q
      obtain ⟨n, a, b', l, w1, w2, w3, w4, w5, w6, w7⟩ := w q
      have e : ∀ {md n : Nat} {x : Int} {f k0 k1 : Nat} {cc : Cxx}, CO s t H.1 md n a b' x f l k0 k1 0 cc → md ≠ 4 → CO s2 t2 H.1 md n a b' x f l k0 k1 0 cc := fun w hm => CO_ext w ⟨fun k j q1 q2 _ _ => hs k j (by omega), fun j _ _ _ => hs 104 j (by omega), fun i _ _ => ht 178 i (by omega), fun q => absurd q hm, by omega, fun r _ => hs 113 r (by omega)⟩
      refine ⟨n, a, b', l, fun q => ?_, fun q => ?_, by rw [ht 178 l (by omega)]; exact w3, by omega, by omega, by rw [hs 114 r (by omega)]; exact w6, by rw [ht 200 r (by omega)]; exact w7⟩
      · rw [hs 114 r (by omega), ht 200 r (by omega)]
        exact e (w1 q) (by omega)
      · rw [hs 114 r (by omega), ht 200 r (by omega)]
        exact ⟨e (w2 q).1 (by omega), (hs 104 _ (by omega)).trans (w2 q).2⟩
/-- the masks are longs -/
def MLx (s : tab) : Prop := lo 0 (s 131 7) = s 131 7 ∧ lo 0 (s 131 8) = s 131 8 ∧ lo 0 (s 131 9) = s 131 9
/-- between declarations -/
def RDx (T : Nat → Int) (n e N : Nat) (s t : tab) : Prop := RHx T n e N (-1) s t ∧ SCb N 0 t ∧ s 131 6 = 0 ∧ s 131 13 = -1 ∧ s 131 14 = 0 ∧ t 170 35 = -1 ∧ t 170 37 = 0 ∧ MLx s
/-- how a declaration ends -/
def ODx (T : Nat → Int) (n e : Nat) (s t : tab) (X : RO) (v : Option (Int × tab)) : Prop := ∃ z t2, v = some (z, t2) ∧ ((z = 1 ∧ ∃ M s2, X = some (some (0, s2)) ∧ RDx T n e M s2 t2 ∧ s 137 5 < s2 137 5 ∧ ∀ H, GDy H s t → RBx s t → ∃ H2, GDy H2 s2 t2 ∧ RBx s2 t2) ∨ (z = 0 ∧ X = some none))
theorem OD_no {X : RO} {t9 : tab} (h : X = some none) : ODx T n e s t X (some (0, t9)) := ⟨0, t9, rfl, .inr ⟨rfl, h⟩⟩
theorem OD_pre {X : RO} {v : Option (Int × tab)} (h : ODx T n e s t X v) (hi : s0 137 5 ≤ s 137 5) (hg : ∀ H, GDy H s0 t0 → RBx s0 t0 → ∃ H2, GDy H2 s t ∧ RBx s t) : ODx T n e s0 t0 X v := by
  obtain ⟨z, t2, e1, h⟩ := h
  refine ⟨z, t2, e1, ?_⟩
  rcases h with ⟨h1, M, s2, h2, h3, h4, h5⟩ | h
  · refine .inl ⟨h1, M, s2, h2, h3, by omega, fun H a b => ?_⟩
    obtain ⟨H2, c, d⟩ := hg H a b
    exact h5 H2 c d
  · exact .inr h
def DGc (s s2 : tab) : Prop := (∀ k j, ¬ (k = 137 ∧ j = 5) → ¬ (105 ≤ k ∧ k ≤ 111) → s2 k j = s k j) ∧ s 137 5 ≤ s2 137 5
theorem DG_tr {s3 : tab} (h : DGc s s2) (k : DGc s2 s3) : DGc s s3 := ⟨fun a b c d => (k.1 a b c d).trans (h.1 a b c d), Int.le_trans h.2 k.2⟩
theorem DG_lex (hs : ∀ k j, ¬ (k = 137 ∧ j = 5) → s2 k j = s k j) (hi : s2 137 5 = s 137 5 + 1) : DGc s s2 := ⟨fun k j a _ => hs k j a, by omega⟩
theorem DG_F (h : DFc s s2) : DGc s s2 := ⟨fun k j a b => h.1 k j a (by omega), by rw [h.2]; omega⟩
def DGr (N : Nat) (t t2 : tab) : Prop := (∀ k j, ¬ lexs k j → ¬ (172 ≤ k ∧ k ≤ 180 ∧ k ≠ 178 ∧ ¬ (k = 177 ∧ (j < 4 ∨ 9 < j))) → ¬ (k = 170 ∧ j = 14) → t2 k j = t k j) ∧ ∀ j : Nat, j < N → t2 176 j = t 176 j
theorem DR_F (h : DFr N t t2) : DGr N t t2 := ⟨fun k j a b c => h.1 k j a (by omega) c, fun j hj => h.2 176 j (by omega) hj⟩
/-- names but procs and funs; their number -/
def DNx (s s2 : tab) : Prop := s2 109 5 = s 109 5 ∧ (∀ j : Nat, (j : Int) < s2 105 3 → s2 107 j = 6 ∨ s2 107 j = 5 → (j : Int) < s 105 3 ∧ s2 107 j = s 107 j ∧ s2 108 j = s 108 j) ∧ s 109 0 ≤ s2 109 0 ∧ s 109 1 ≤ s2 109 1
theorem DN_tr {s3 : tab} (h : DNx s s2) (k : DNx s2 s3) : DNx s s3 := ⟨k.1.trans h.1, fun j hj q => by
  obtain ⟨a1, a2, a3⟩ := k.2.1 j hj q
  obtain ⟨b1, b2, b3⟩ := h.2.1 j a1 (by rw [← a2]; exact q)
  exact ⟨b1, a2.trans b2, a3.trans b3⟩, Int.le_trans h.2.2.1 k.2.2.1, Int.le_trans h.2.2.2 k.2.2.2⟩
theorem DN_eq (h : ∀ k j, 105 ≤ k → k ≤ 109 → s2 k j = s k j) : DNx s s2 := ⟨h 109 5 (by omega) (by omega), fun j hj _ => ⟨by rw [h 105 3 (by omega) (by omega)] at hj; exact hj, h 107 j (by omega) (by omega), h 108 j (by omega) (by omega)⟩, Int.le_of_eq (h 109 0 (by omega) (by omega)).symm, Int.le_of_eq (h 109 1 (by omega) (by omega)).symm⟩
theorem GD_D {M : Nat} {H : Gmx × (Nat → Nat)} (h : GDy H s t) (hc : DGc s s2) (hr : DGr M t t2) (hn : DNx s s2) : GDy H s2 t2 := GD_fr h (fun k j q => hc.1 k j (by omega) (by omega)) hc.2 hn.1 hn.2.1 (fun k j q => hr.1 k j (by unfold lexs; omega) (by omega) (by omega)) hn.2.2
/-- bits and sizes are as they were, there are no more of them -/
theorem RB_eq (h : RBx s t) (h0 : s2 109 0 = s 109 0 ∧ s2 109 1 = s 109 1) (hs : ∀ k j, k = 110 ∨ k = 111 → s2 k j = s k j) (ht : ∀ k j, k = 179 ∨ k = 180 → t2 k j = t k j) : RBx s2 t2 := by
  refine ⟨fun v hv => ?_, fun v hv => ?_⟩
  · rw [hs 110 v (by omega), ht 179 v (by omega)]
    exact h.1 v (by omega)
  · rw [hs 111 v (by omega), ht 180 v (by omega)]
    exact h.2 v (by omega)
theorem RB_lex (h : RBx s t) (hs : ∀ k j, ¬ (k = 137 ∧ j = 5) → s2 k j = s k j) (ht : ∀ k j, ¬ lexs k j → t2 k j = t k j) : RBx s2 t2 := RB_eq h ⟨hs 109 0 (by omega), hs 109 1 (by omega)⟩ (fun k j q => hs k j (by omega)) (fun k j q => ht k j (by unfold lexs; omega))
theorem DR_tr {M : Nat} {t3 : tab} (h : DGr N t t2) (k : DGr M t2 t3) (hM : N ≤ M) : DGr N t t3 := ⟨fun a b c d q => (k.1 a b c d q).trans (h.1 a b c d q), fun j hj => (k.2 j (by omega)).trans (h.2 j hj)⟩
theorem DR_lex (ht : ∀ k j, ¬ lexs k j → t2 k j = t k j) : DGr N t t2 := ⟨fun k j a _ _ => ht k j a, fun j _ => ht 176 j (by unfold lexs; omega)⟩
theorem RD_of {M : Nat} (h : RDx T n e N s t) (hH : RHx T n e M (-1) s2 t2) (hsc : SCb M 0 t2) (hc : DGc s s2) (hr : DGr N t t2) : RDx T n e M s2 t2 := by
  obtain ⟨_, _, a1, a2, a3, a4, a5, a6, a7, a8⟩ := h
  have c6 : ∀ j, s2 131 j = s 131 j := fun j => hc.1 131 j (by omega) (by omega)
  refine ⟨hH, hsc, (c6 6).trans a1, (c6 13).trans a2, (c6 14).trans a3, (hr.1 170 35 (by unfold lexs; omega) (by omega) (by omega)).trans a4, (hr.1 170 37 (by unfold lexs; omega) (by omega) (by omega)).trans a5, ?_⟩
  unfold MLx
  rw [c6, c6, c6]
  exact ⟨a6, a7, a8⟩
/-- the ; behind -/
theorem p_semi (hrc : rle rc rG) {M : Nat} {K : Int → tab → RO} {v : Option (Int × tab)} (h0 : RDx T n e N s0 t0) (hH : RHx T n e M (-1) s t) (hsc : SCb M 0 t) (hc : DGc s0 s) (hr : DGr N t0 t) (hn : DNx s0 s) (hb : RBx s0 t0 → RBx s t) (K0 : ∀ t2, K 0 t2 = some (some (0, t2))) (K1 : ∀ t2, K 1 t2 = some (some (1, t2))) (h : bo (rc 8 [30] t) K = some v) : ODx T n e s0 t0 (bo (cG 29 [59] s) fun _ s2 => some (some (0, s2))) v := by
  have hc2 := hc.2
  rcases RL_take hH.1 is_30 (by decide) with ⟨t7, c1, c2, c3, c4, c5, c6, c7⟩ | ⟨c1, c2, c3⟩
  · have h := bxr hrc c1 h
    rw [K1] at h
    cases h
    rw [c3, bo_s]
    have hc' : DGc s0 (stp s) := DG_tr hc (DG_lex c5 c6)
    have hr' : DGr N t0 t7 := ⟨fun k j a b d => (c7 k j a).trans (hr.1 k j a b d), fun j hj => (c7 176 j (by unfold lexs; omega)).trans (hr.2 j hj)⟩
    exact ⟨1, _, rfl, .inl ⟨rfl, M, _, rfl, RD_of h0 (H_lex c4 hH.2 c5 (by omega) c7) (SC_lex hsc c7) hc' hr', by omega, fun H a b => ⟨H, GD_D a hc' hr' (DN_tr hn (DN_eq (fun k j _ _ => c5 k j (by omega)))), RB_lex (hb b) c5 c7⟩⟩⟩
  · have h := bxr hrc c1 h
    rw [K0] at h
    cases h
    refine OD_no ?_
    rw [c3]
    rfl
/-- one more name that is no routine -/
theorem DN_nm {w : Int} (hw : w ≠ 5 ∧ w ≠ 6) (h3 : s 105 3 = (N : Int)) (h32 : s2 105 3 = ((N + 1 : Nat) : Int)) (h109 : s2 109 5 = s 109 5) (h7 : ∀ j : Nat, j < N → s2 107 j = s 107 j ∧ s2 108 j = s 108 j) (hN : s2 107 N = w) (hg : s 109 0 ≤ s2 109 0 ∧ s 109 1 ≤ s2 109 1) : DNx s s2 := ⟨h109, fun j hj q => by
  by_cases e : j = N
  · rw [e, hN] at q
    omega
  · have := h7 j (by omega)
    exact ⟨by omega, this.1, this.2⟩, hg⟩
/-- chan, in, out -/
theorem p_ch (hrc : rle rc rG) {w L : Int} {c D : Nat} (hL : LIM c = L) (hD : 4 + c = D) (hc5 : 2 ≤ c ∧ c < 5) (hw : 0 ≤ w ∧ w ≤ 4) (hcw : kcn w = c) {v : Option (Int × tab)} (h0 : RDx T n e N s0 t0) (hH : RHx T n e N (-1) s t) (hsc : SCb N 0 t) (hc : DGc s0 s) (hr : DGr N t0 t) (hn : DNx s0 s) (hb : RBx s0 t0 → RBx s t) (h : (bo (rc 16 [t 177 D, L] t) fun z18 t18 => if z18 = 0 then some (some (0, t)) else bo (rc 10 [w, t 177 D] t) fun z20 t20 => if z20 ≠ 0 then bo (rc 8 [30] (up2 t20 177 D (ipl (t20 177 D) 1))) fun z25 t25 => some (some (z25, t25)) else some (some (0, t20))) = some v) : ODx T n e s0 t0 (bo (cG 31 [w, 0] s) fun _ s1 => bo (cG 29 [59] s1) fun _ s2 => some (some (0, s2))) v := by
  rcases p_nm (b := 0) (w := w) (c := c) (u2 := -1) hL hD hH (by omega) (by omega) hcw (.inl ⟨by omega, rfl⟩) hsc with ⟨a1, a2⟩ | ⟨a1, ⟨a2, a3⟩ | ⟨s2, t2, a2, a3, a4, a5, a6, a7, a8, a9, a10, a11, _⟩⟩
  · have h := bxr hrc a1 h
    try dsimp only at h
    rw [if_pos rfl] at h
    cases h
    refine OD_no ?_
    rw [a2]
    rfl
  · have h := bxr hrc a1 h
    try dsimp only at h
    rw [if_neg (by decide)] at h
    have h := bxr hrc a2 h
    try dsimp only at h
    rw [if_neg (by decide)] at h
    cases h
    refine OD_no ?_
    rw [a3]
    rfl
  · have h := bxr hrc a1 h
    try dsimp only at h
    rw [if_neg (by decide)] at h
    have h := bxr hrc a2 h
    try dsimp only at h
    rw [if_pos (by decide)] at h
    rw [a3, bo_s]
    refine p_semi hrc h0 a4 a5 (DG_tr hc (DG_F a6)) (DR_tr hr (DR_F a7) (Nat.le_refl _)) (DN_tr hn (DN_nm (w := w) (by omega) hH.2.1.1 a4.2.1.1 (by rw [a11, if_neg (by omega)]) a8 a9 ⟨by rw [a11, if_neg (by omega)]; exact Int.le_refl _, by rw [a11, if_neg (by omega)]; exact Int.le_refl _⟩)) (fun b => RB_eq (hb b) ⟨by rw [a11, if_neg (by omega)], by rw [a11, if_neg (by omega)]⟩ (fun k j q => a6.1 k j (by omega) (by omega)) (fun k j q => a7.1 k j (by unfold lexs; omega) (by omega) (by omega))) (fun _ => rfl) (fun _ => rfl) h
/-- how many ones -/
def bcx (x : Int) : Int := match rM76 (fun _ _ _ => none) x (fun _ _ => 0) with
  | some (some (z, _)) => z
  | _ => 0
theorem r_bc {x : Int} : rG 39 [x] t = some (some (bcx x, t)) := by
  rw [rG_76]
  rfl
theorem c_bc {x : Int} : cG 57 [x] s = some (some (bcx x, s)) := by
  rw [cG_76]
  rfl
end DECX
