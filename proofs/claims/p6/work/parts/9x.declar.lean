/-! Declarations, in both. -/
section DECX
variable {T : Nat → Int} {n e N : Nat} {s t s2 t2 s0 t0 : tab} {rc : MRq} {u : Int}
theorem bo_as {x : RO} {f k : Int → tab → RO} : bo (bo x f) k = bo x fun z t => bo (f z t) k := by
  unfold bo
  cases x with
  | none => rfl
  | some y => cases y <;> rfl
theorem RL_take (h : RLx T n e s t) {q c : Int} (hq : ∀ {p : Nat}, RTx T n t → RTk T n p t → p ≤ n → rG 5 [q] t = some (some (if kd T n p = c then 1 else 0, t))) (hc : c ≠ 3 ∧ c ≠ 4) : (∃ t2, rG 8 [q] t = some (some (1, t2)) ∧ kkd s = c ∧ cG 29 [c] s = some (some (0, stp s)) ∧ RLx T n e (stp s) t2 ∧ (∀ k j, ¬ (k = 137 ∧ j = 5) → (stp s) k j = s k j) ∧ (stp s) 137 5 = s 137 5 + 1 ∧ ∀ k j, ¬ lexs k j → t2 k j = t k j) ∨ (rG 8 [q] t = some (some (0, t)) ∧ kkd s ≠ c ∧ cG 29 [c] s = some none) := by
  have hi := RL_is hq h
  rw [rG_136, cG_43]
  unfold rM136 cM43
  rw [hi, bo_s]
  by_cases hk : kkd s = c
  · obtain ⟨t2, a1, a2, a3, a4⟩ := RL_step h (by omega) (by omega)
    refine .inl ⟨t2, ?_, hk, if_neg (fun q => q hk), a2, fun k j q => ?_, a3, a4⟩
    · rw [if_pos (by rw [if_pos hk]; decide), a1]
      rfl
    · rw [stp_e h (by omega) (by omega)]
      exact if_neg q
  · refine .inr ⟨?_, hk, if_pos hk⟩
    rw [if_neg (by rw [if_neg hk]; decide)]
theorem RL_stk (h : RLx T n e s t) (h3 : kkd s ≠ 3) (h4 : kkd s ≠ 4) : ∀ k j, ¬ (k = 137 ∧ j = 5) → (stp s) k j = s k j := fun k j q => by
  rw [stp_e h h3 h4]
  exact if_neg q
theorem SC_lex {b : Int} (h : SCb N b t) (ht : ∀ k j, ¬ lexs k j → t2 k j = t k j) : SCb N b t2 := ⟨h.1, h.2.1, fun j hj => by rw [ht 176 j (by unfold lexs; omega), ht 170 15 (by unfold lexs; omega)]; exact h.2.2 j hj⟩
/-- a number at hand -/
theorem RL_num (h : RLx T n e s t) (hk : kkd s = 2) : t 170 7 = vlu s ∧ 0 ≤ vlu s ∧ vlu s ≤ 65535 := by
  have hv := RL_vl h (.inr hk)
  have hk2 := RL_kk h
  have hr := kd_num (hk2.symm.trans hk)
  have h7 := h.2.2.2.2.2.2.2.2 (hk2.symm.trans hk)
  omega
theorem l2x_s : ∀ v : Fin 65, l2x ((v : Nat) : Int) = ((v : Nat) : Int) := by decide
theorem l2x_e {v : Int} (h : 0 ≤ v ∧ v ≤ 64) : l2x v = v := by
  have := l2x_s ⟨v.toNat, by omega⟩
  rw [show (((⟨v.toNat, by omega⟩ : Fin 65) : Nat) : Int) = v by show ((v.toNat : Nat) : Int) = v; omega] at this
  exact this
/-- a NAME declared, of kind w, count c -/
theorem p_nm {b w L : Int} {c D : Nat} (hL : LIM c = L) (hD : 4 + c = D) (h : RHx T n e N u s t) (hc : c < 6) (hw : 0 ≤ w ∧ w ≤ 6) (hcw : kcn w = c) {u2 : Int} (hu : (c ≠ 5 ∧ u2 = u) ∨ (c = 5 ∧ u2 = s 109 c ∧ u = -1)) (hsc : SCb N b t) : (rG 16 [t 177 D, L] t = some (some (0, t)) ∧ cG 31 [w, b] s = some none) ∨ (rG 16 [t 177 D, L] t = some (some (1, t)) ∧ ((rG 10 [w, t 177 D] t = some (some (0, t)) ∧ cG 31 [w, b] s = some none) ∨ ∃ s2 t2, rG 10 [w, t 177 D] t = some (some (1, t2)) ∧ cG 31 [w, b] s = some (some (s 109 c, s2)) ∧ RHx T n e (N + 1) u2 s2 (up2 t2 177 D (ipl (t2 177 D) 1)) ∧ SCb (N + 1) b (up2 t2 177 D (ipl (t2 177 D) 1)) ∧ DFc s s2 ∧ DFr N t (up2 t2 177 D (ipl (t2 177 D) 1)) ∧ (∀ j : Nat, j < N → s2 107 j = s 107 j ∧ s2 108 j = s 108 j) ∧ s2 107 N = w ∧ s2 108 N = s 109 c ∧ (∀ d : Nat, s2 109 d = if d = c then s 109 c + 1 else s 109 d) ∧ s 109 c < L)) := by
  subst hL
  subst hD
  have hk4 := RL_k4 h.1
  have hct := h.2.2.1 c hc
  have h3 : s 105 3 = (N : Int) := h.2.1.1
  have hlim := LIM_le (j := c)
  have hN58 : s 109 c < LIM c → N < 58 := fun q => by
    have hsu : RSu N s := h.2.2.2.2.2.2
    unfold RSu at hsu
    have q0 := (h.2.2.1 0 (by omega)).2.2
    have q1 := (h.2.2.1 1 (by omega)).2.2
    have q2 := (h.2.2.1 2 (by omega)).2.2
    have q3 := (h.2.2.1 3 (by omega)).2.2
    have q4 := (h.2.2.1 4 (by omega)).2.2
    have q5 := (h.2.2.1 5 (by omega)).2.2
    have l0 : LIM 0 = 24 := rfl
    have l1 : LIM 1 = 6 := rfl
    have l2 : LIM 2 = 8 := rfl
    have l3 : LIM 3 = 4 := rfl
    have l4 : LIM 4 = 4 := rfl
    have l5 : LIM 5 = 12 := rfl
    clear hct hcw hu hlim
    have hc6 : c = 0 ∨ c = 1 ∨ c = 2 ∨ c = 3 ∨ c = 4 ∨ c = 5 := by omega
    rcases hc6 with z | z | z | z | z | z <;> subst z <;> omega
  have hcd := c_dec (b := b) (w := w) (c := c) h3 hN58 hw hcw
  rw [r_isName, hct.1]
  by_cases k1 : kkd s = 1
  · rw [if_neg (show ¬ (t 170 4 ≠ 1) from fun q => q (by rw [hk4, k1]; rfl))]
    by_cases k2 : s 109 c < LIM c
    · rw [if_pos k2]
      refine .inr ⟨rfl, ?_⟩
      rcases p_dec h hc rfl hw hcw (u2 := u2) hu hsc k1 k2 with ⟨a1, a2⟩ | ⟨t2, a1, a2, a3, a4, a5, a6, a7, a8, a9, a10, a11⟩
      · exact .inl ⟨a2, a1⟩
      · have e7 : ipl (t2 177 (4 + c)) 1 = s 109 c + 1 := by
          rw [a7]
          exact ipl_e (by omega)
        refine .inr ⟨stp (cnm s N c w (s 109 c)), t2, a1, a2, ?_, ?_, a5, ?_, a8, a9, a10, a11, k2⟩
        · rw [e7]
          exact a3
        · rw [e7]
          exact a4
        · rw [e7]
          exact a6
    · rw [if_neg k2]
      refine .inl ⟨rfl, ?_⟩
      rw [hcd, if_neg (fun q => q k1)]
      by_cases q : 0 ≤ fdn s (vlu s) b
      · rw [if_pos q]
      · rw [if_neg q, if_pos (by omega)]
  · rw [if_pos (show t 170 4 ≠ 1 from fun q => k1 (rkn_1 (hk4.symm.trans q)))]
    refine .inl ⟨rfl, ?_⟩
    rw [hcd, if_pos k1]
theorem p_int (h : RHx T n e N u s t) {b : Int} (hsc : SCb N b t) : (∃ t9, rG 17 [] t = some (some (0, t9)) ∧ cG 31 [0, b] s = some none) ∨ ∃ s2 t2, rG 17 [] t = some (some (1, t2)) ∧ cG 31 [0, b] s = some (some (s 109 0, s2)) ∧ RHx T n e (N + 1) u s2 t2 ∧ SCb (N + 1) b t2 ∧ DFc s s2 ∧ DFr N t t2 ∧ (∀ j : Nat, j < N → s2 107 j = s 107 j ∧ s2 108 j = s 108 j) ∧ s2 107 N = 0 ∧ s2 108 N = s 109 0 ∧ (∀ d : Nat, s2 109 d = if d = 0 then s 109 0 + 1 else s 109 d) ∧ s 109 0 < 24 := by
  rw [rG_137]
  unfold rM137
  rcases p_nm (b := b) (w := 0) (c := 0) (u2 := u) (L := 24) (D := 4) rfl rfl h (by omega) (by decide) (by decide) (.inl ⟨by decide, rfl⟩) hsc with ⟨a1, a2⟩ | ⟨a1, ⟨a2, a3⟩ | ⟨s2, t2, a2, a3, a4, a5, a6, a7, a8, a9, a10, a11, a12⟩⟩
  · refine .inl ⟨t, ?_, a2⟩
    rw [a1, bo_s, if_pos rfl]
  · refine .inl ⟨t, ?_, a3⟩
    rw [a1, bo_s, if_neg (by decide), a2, bo_s, if_neg (by decide)]
  · refine .inr ⟨s2, _, ?_, a3, a4, a5, a6, a7, a8, a9, a10, a11, a12⟩
    rw [a1, bo_s, if_neg (by decide), a2, bo_s, if_pos (by decide)]
/-- the masks are longs -/
def MLx (s : tab) : Prop := lo 0 (s 131 7) = s 131 7 ∧ lo 0 (s 131 8) = s 131 8 ∧ lo 0 (s 131 9) = s 131 9
/-- between declarations -/
def RDx (T : Nat → Int) (n e N : Nat) (s t : tab) : Prop := RHx T n e N (-1) s t ∧ SCb N 0 t ∧ s 131 6 = 0 ∧ s 131 13 = -1 ∧ s 131 14 = 0 ∧ t 170 35 = -1 ∧ t 170 37 = 0 ∧ MLx s
/-- how a declaration ends -/
def ODx (T : Nat → Int) (n e : Nat) (s : tab) (X : RO) (v : Option (Int × tab)) : Prop := ∃ z t2, v = some (z, t2) ∧ ((z = 1 ∧ ∃ M s2, X = some (some (0, s2)) ∧ RDx T n e M s2 t2 ∧ s 137 5 < s2 137 5) ∨ (z = 0 ∧ X = some none))
theorem OD_no {X : RO} {t9 : tab} (h : X = some none) : ODx T n e s X (some (0, t9)) := ⟨0, t9, rfl, .inr ⟨rfl, h⟩⟩
theorem OD_pre {X : RO} {v : Option (Int × tab)} (h : ODx T n e s X v) (hi : s0 137 5 ≤ s 137 5) : ODx T n e s0 X v := by
  obtain ⟨z, t2, e1, h⟩ := h
  refine ⟨z, t2, e1, ?_⟩
  rcases h with ⟨h1, M, s2, h2, h3, h4⟩ | h
  · exact .inl ⟨h1, M, s2, h2, h3, by omega⟩
  · exact .inr h
def DGc (s s2 : tab) : Prop := (∀ k j, ¬ (k = 137 ∧ j = 5) → ¬ (105 ≤ k ∧ k ≤ 109) → s2 k j = s k j) ∧ s 137 5 ≤ s2 137 5
theorem DG_tr {s3 : tab} (h : DGc s s2) (k : DGc s2 s3) : DGc s s3 := ⟨fun a b c d => (k.1 a b c d).trans (h.1 a b c d), Int.le_trans h.2 k.2⟩
theorem DG_lex (hs : ∀ k j, ¬ (k = 137 ∧ j = 5) → s2 k j = s k j) (hi : s2 137 5 = s 137 5 + 1) : DGc s s2 := ⟨fun k j a _ => hs k j a, by omega⟩
theorem DG_F (h : DFc s s2) : DGc s s2 := ⟨h.1, by rw [h.2]; omega⟩
theorem DR_tr {M : Nat} {t3 : tab} (h : DFr N t t2) (k : DFr M t2 t3) (hM : N ≤ M) : DFr N t t3 := ⟨fun a b c d q => (k.1 a b c d q).trans (h.1 a b c d q), fun j hj => (k.2 j (by omega)).trans (h.2 j hj)⟩
theorem DR_lex (ht : ∀ k j, ¬ lexs k j → t2 k j = t k j) : DFr N t t2 := ⟨fun k j a _ _ => ht k j a, fun j _ => ht 176 j (by unfold lexs; omega)⟩
theorem RD_of {M : Nat} (h : RDx T n e N s t) (hH : RHx T n e M (-1) s2 t2) (hsc : SCb M 0 t2) (hc : DGc s s2) (hr : DFr N t t2) : RDx T n e M s2 t2 := by
  obtain ⟨_, _, a1, a2, a3, a4, a5, a6, a7, a8⟩ := h
  have c6 : ∀ j, s2 131 j = s 131 j := fun j => hc.1 131 j (by omega) (by omega)
  refine ⟨hH, hsc, (c6 6).trans a1, (c6 13).trans a2, (c6 14).trans a3, (hr.1 170 35 (by unfold lexs; omega) (by omega) (by omega)).trans a4, (hr.1 170 37 (by unfold lexs; omega) (by omega) (by omega)).trans a5, ?_⟩
  unfold MLx
  rw [c6, c6, c6]
  exact ⟨a6, a7, a8⟩
/-- the ; behind -/
theorem p_semi (hrc : rle rc rG) {M : Nat} {K : Int → tab → RO} {v : Option (Int × tab)} (h0 : RDx T n e N s0 t0) (hH : RHx T n e M (-1) s t) (hsc : SCb M 0 t) (hc : DGc s0 s) (hr : DFr N t0 t) (K0 : ∀ t2, K 0 t2 = some (some (0, t2))) (K1 : ∀ t2, K 1 t2 = some (some (1, t2))) (h : bo (rc 8 [30] t) K = some v) : ODx T n e s0 (bo (cG 29 [59] s) fun _ s2 => some (some (0, s2))) v := by
  have hc2 := hc.2
  rcases RL_take hH.1 is_30 (by decide) with ⟨t7, c1, c2, c3, c4, c5, c6, c7⟩ | ⟨c1, c2, c3⟩
  · have h := bxr hrc c1 h
    rw [K1] at h
    cases h
    rw [c3, bo_s]
    exact ⟨1, _, rfl, .inl ⟨rfl, M, _, rfl, RD_of h0 (H_lex c4 hH.2 c5 (by omega) c7) (SC_lex hsc c7) (DG_tr hc (DG_lex c5 c6)) (⟨fun k j a b d => (c7 k j a).trans (hr.1 k j a b d), fun j hj => (c7 176 j (by unfold lexs; omega)).trans (hr.2 j hj)⟩), by omega⟩⟩
  · have h := bxr hrc c1 h
    rw [K0] at h
    cases h
    refine OD_no ?_
    rw [c3]
    rfl
/-- chan, in, out -/
theorem p_ch (hrc : rle rc rG) {w L : Int} {c D : Nat} (hL : LIM c = L) (hD : 4 + c = D) (hc5 : c < 5) (hw : 0 ≤ w ∧ w ≤ 6) (hcw : kcn w = c) {v : Option (Int × tab)} (h0 : RDx T n e N s0 t0) (hH : RHx T n e N (-1) s t) (hsc : SCb N 0 t) (hc : DGc s0 s) (hr : DFr N t0 t) (h : (bo (rc 16 [t 177 D, L] t) fun z18 t18 => if z18 = 0 then some (some (0, t)) else bo (rc 10 [w, t 177 D] t) fun z20 t20 => if z20 ≠ 0 then bo (rc 8 [30] (up2 t20 177 D (ipl (t20 177 D) 1))) fun z25 t25 => some (some (z25, t25)) else some (some (0, t20))) = some v) : ODx T n e s0 (bo (cG 31 [w, 0] s) fun _ s1 => bo (cG 29 [59] s1) fun _ s2 => some (some (0, s2))) v := by
  rcases p_nm (b := 0) (w := w) (c := c) (u2 := -1) hL hD hH (by omega) hw hcw (.inl ⟨by omega, rfl⟩) hsc with ⟨a1, a2⟩ | ⟨a1, ⟨a2, a3⟩ | ⟨s2, t2, a2, a3, a4, a5, a6, a7, _⟩⟩
  · have h := bxr hrc a1 h
    try dsimp only at h
    rw [if_pos rfl] at h
    cases h
    refine OD_no ?_
    rw [a2]
    rfl
  · have h := bxr hrc a1 h
    try dsimp only at h
    rw [if_neg (by decide)] at h
    have h := bxr hrc a2 h
    try dsimp only at h
    rw [if_neg (by decide)] at h
    cases h
    refine OD_no ?_
    rw [a3]
    rfl
  · have h := bxr hrc a1 h
    try dsimp only at h
    rw [if_neg (by decide)] at h
    have h := bxr hrc a2 h
    try dsimp only at h
    rw [if_pos (by decide)] at h
    rw [a3, bo_s]
    exact p_semi hrc h0 a4 a5 (DG_tr hc (DG_F a6)) (DR_tr hr a7 (Nat.le_refl _)) (fun _ => rfl) (fun _ => rfl) h
/-- how many ones -/
def bcx (x : Int) : Int := match rM76 (fun _ _ _ => none) x (fun _ _ => 0) with
  | some (some (z, _)) => z
  | _ => 0
theorem r_bc {x : Int} : rG 39 [x] t = some (some (bcx x, t)) := by
  rw [rG_76]
  rfl
theorem c_bc {x : Int} : cG 57 [x] s = some (some (bcx x, s)) := by
  rw [cG_76]
  rfl
/-- array -/
theorem p_arr (hrc : rle rc rG) {v : Option (Int × tab)} (h0 : RDx T n e N s0 t0) (hH : RHx T n e N (-1) s t) (hsc : SCb N 0 t) (hc : DGc s0 s) (hr : DFr N t0 t) (h : (bo (rc 16 [t 177 5, 6] t) fun z46 t46 => if z46 = 0 then some (some (0, t)) else bo (rc 10 [1, t 177 5] t) fun z49 t49 => if z49 = 0 then some (some (0, t49)) else bo (rc 8 [94] t49) fun z51 t51 => if z51 ≠ 0 then (if t51 170 4 ≠ 3 then some (some (0, t51)) else if inz (t51 170 7) 1 64 = 0 then some (some (0, t51)) else bo (rc 39 [t51 170 7] t51) fun z62 t62 => if z62 = 1 then (bo (rc 4 [] (up2 t62 177 5 (ipl (t62 177 5) 1))) fun z72 t72 => bo (rc 8 [44] t72) fun z73 t73 => if z73 = 0 then some (some (0, t73)) else bo (rc 8 [30] t73) fun z75 t75 => if z75 = 0 then some (some (0, t75)) else some (some (1, t75))) else some (some (0, t62))) else some (some (0, t51))) = some v) : ODx T n e s0 (bo (cG 31 [1, 0] s) fun _ s1 => bo (cG 29 [91] s1) fun _ s3 => bo (cG 30 [1, 64] s3) fun z15 s4 => bo (cG 57 [z15] s4) fun z16 s5 => if z16 ≠ 1 then some none else bo (cG 29 [93] s5) fun _ s6 => bo (cG 29 [59] s6) fun _ s7 => some (some (0, s7))) v := by
  rcases p_nm (b := 0) (w := 1) (c := 1) (u2 := -1) (L := 6) (D := 5) rfl rfl hH (by omega) (by decide) (by decide) (.inl ⟨by decide, rfl⟩) hsc with ⟨a1, a2⟩ | ⟨a1, ⟨a2, a3⟩ | ⟨s2, t2, a2, a3, a4, a5, a6, a7, _⟩⟩
  · have h := bxr hrc a1 h
    try dsimp only at h
    rw [if_pos rfl] at h
    cases h
    refine OD_no ?_
    rw [a2]
    rfl
  · have h := bxr hrc a1 h
    try dsimp only at h
    rw [if_neg (by decide)] at h
    have h := bxr hrc a2 h
    try dsimp only at h
    rw [if_pos rfl] at h
    cases h
    refine OD_no ?_
    rw [a3]
    rfl
  · have h := bxr hrc a1 h
    try dsimp only at h
    rw [if_neg (by decide)] at h
    have h := bxr hrc a2 h
    try dsimp only at h
    rw [if_neg (by decide)] at h
    rw [a3, bo_s]
    have hL2 : RLx T n e s2 t2 := by
      obtain ⟨q1, q2, q3, q4, q5⟩ := a4.1
      exact ⟨q1, q2, q3, q4, q5⟩
    rcases RL_take hL2 is_94 (by decide) with ⟨t7, c1, c2, c3, c4, c5, c6, c7⟩ | ⟨c1, c2, c3⟩
    · have h := bxr hrc c1 h
      try dsimp only at h
      rw [if_pos (by decide)] at h
      rw [c3, bo_s]
      have k4 := RL_k4 c4
      have hc59 : cG 30 [1, 64] (stp s2) = if kkd (stp s2) ≠ 2 then some none else if vlu (stp s2) < 1 then some none else if 64 < vlu (stp s2) then some none else some (some (l2x (vlu (stp s2)), stp (stp s2))) := by
        rw [cG_59]
        rfl
      rw [hc59]
      by_cases k2 : kkd (stp s2) = 2
      · rw [if_neg (show ¬ (t7 170 4 ≠ 3) from fun q => q (by rw [k4, k2]; rfl))] at h
        rw [if_neg (show ¬ (kkd (stp s2) ≠ 2) from fun q => q k2)]
        obtain ⟨v7, v0, v1⟩ := RL_num c4 k2
        rw [v7] at h
        unfold inz at h
        by_cases k3 : 1 ≤ vlu (stp s2) ∧ vlu (stp s2) ≤ 64
        · rw [if_pos k3, if_neg (by decide)] at h
          rw [if_neg (by omega), if_neg (by omega), bo_s, l2x_e (by omega), c_bc, bo_s]
          have h := bxr hrc r_bc h
          try dsimp only at h
          by_cases k5 : bcx (vlu (stp s2)) = 1
          · rw [if_pos k5] at h
            rw [if_neg (fun q => q k5)]
            have e7 : ∀ k j, ¬ lexs k j → (up2 t7 177 5 (ipl (t7 177 5) 1)) k j = (up2 t2 177 5 (ipl (t2 177 5) 1)) k j := fun k j q => by
              rw [c7 177 5 (by unfold lexs; omega)]
              by_cases y : k = 177 ∧ j = 5
              · rw [y.1, y.2, up_self, up_self]
              · exact (if_neg y).trans ((c7 k j q).trans (if_neg y).symm)
            have hL8 : RLx T n e (stp s2) (up2 t7 177 5 (ipl (t7 177 5) 1)) := by
              obtain ⟨q1, q2, q3, q4, q5⟩ := c4
              exact ⟨q1, q2, q3, q4, q5⟩
            have hH8 := H_lex hL8 a4.2 c5 (by omega) e7
            have hs8 := SC_lex a5 e7
            have stk := RL_stk hL8 (by omega) (by omega)
            obtain ⟨t9, d1, d2, d3, d4⟩ := RL_step hL8 (by omega) (by omega)
            have h := bxr hrc d1 h
            try dsimp only at h
            have hH9 := H_lex d2 hH8.2 stk (by omega) d4
            have hs9 := SC_lex hs8 d4
            have hc9 : DGc s0 (stp (stp s2)) := DG_tr hc (DG_tr (DG_F a6) (DG_tr (DG_lex c5 c6) (DG_lex stk d3)))
            have hr9 : DFr N t0 t9 := ⟨fun k j a b d => (d4 k j a).trans ((e7 k j a).trans ((a7.1 k j a b d).trans (hr.1 k j a b d))), fun j hj => (d4 176 j (by unfold lexs; omega)).trans ((e7 176 j (by unfold lexs; omega)).trans ((a7.2 j hj).trans (hr.2 j hj)))⟩
            rcases RL_take hH9.1 is_44 (by decide) with ⟨t10, g1, g2, g3, g4, g5, g6, g7⟩ | ⟨g1, g2, g3⟩
            · have h := bxr hrc g1 h
              try dsimp only at h
              rw [if_neg (by decide)] at h
              rw [g3, bo_s]
              exact p_semi hrc h0 (H_lex g4 hH9.2 g5 (by omega) g7) (SC_lex hs9 g7) (DG_tr hc9 (DG_lex g5 g6)) (DR_tr hr9 (DR_lex g7) (Nat.le_refl _)) (fun _ => rfl) (fun _ => rfl) h
            · have h := bxr hrc g1 h
              try dsimp only at h
              rw [if_pos rfl] at h
              cases h
              refine OD_no ?_
              rw [g3]
              rfl
          · rw [if_neg k5] at h
            rw [if_pos k5]
            cases h
            exact OD_no rfl
        · rw [if_neg k3, if_pos rfl] at h
          cases h
          refine OD_no ?_
          by_cases k5 : vlu (stp s2) < 1
          · rw [if_pos k5]
            rfl
          · rw [if_neg k5, if_pos (by omega)]
            rfl
      · rw [if_pos (show t7 170 4 ≠ 3 from fun q => k2 (rkn_3 (k4.symm.trans q)))] at h
        rw [if_pos k2]
        cases h
        exact OD_no rfl
    · have h := bxr hrc c1 h
      try dsimp only at h
      rw [if_neg (by decide)] at h
      cases h
      refine OD_no ?_
      rw [c3]
      rfl
/-- reg -/
theorem p_reg (hrc : rle rc rG) {v : Option (Int × tab)} (h0 : RDx T n e N s0 t0) (hH : RHx T n e N (-1) s t) (hsc : SCb N 0 t) (hc : DGc s0 s) (hr : DFr N t0 t) (h : (bo (rc 17 [] t) fun z79 t79 => if z79 = 0 then some (some (0, t79)) else bo (rc 8 [92] t79) fun z81 t81 => if z81 ≠ 0 then (if t81 170 4 ≠ 3 then some (some (0, t81)) else if inz (t81 170 7) 1 16 ≠ 0 then (bo (rc 4 [] t81) fun z96 t96 => bo (rc 8 [30] t96) fun z97 t97 => some (some (z97, t97))) else some (some (0, t81))) else some (some (0, t81))) = some v) : ODx T n e s0 (bo (cG 31 [0, 0] s) fun _ s1 => bo (cG 29 [58] s1) fun _ s3 => bo (cG 30 [1, 16] s3) fun _ s4 => bo (cG 29 [59] s4) fun _ s7 => some (some (0, s7))) v := by
  rcases p_int (b := 0) hH hsc with ⟨t9, a1, a2⟩ | ⟨s2, t2, a2, a3, a4, a5, a6, a7, _⟩
  · have h := bxr hrc a1 h
    try dsimp only at h
    rw [if_pos rfl] at h
    cases h
    refine OD_no ?_
    rw [a2]
    rfl
  · have h := bxr hrc a2 h
    try dsimp only at h
    rw [if_neg (by decide)] at h
    rw [a3, bo_s]
    rcases RL_take a4.1 is_92 (by decide) with ⟨t7, c1, c2, c3, c4, c5, c6, c7⟩ | ⟨c1, c2, c3⟩
    · have h := bxr hrc c1 h
      try dsimp only at h
      rw [if_pos (by decide)] at h
      rw [c3, bo_s]
      have k4 := RL_k4 c4
      have hc59 : cG 30 [1, 16] (stp s2) = if kkd (stp s2) ≠ 2 then some none else if vlu (stp s2) < 1 then some none else if 16 < vlu (stp s2) then some none else some (some (l2x (vlu (stp s2)), stp (stp s2))) := by
        rw [cG_59]
        rfl
      rw [hc59]
      by_cases k2 : kkd (stp s2) = 2
      · rw [if_neg (show ¬ (t7 170 4 ≠ 3) from fun q => q (by rw [k4, k2]; rfl))] at h
        rw [if_neg (show ¬ (kkd (stp s2) ≠ 2) from fun q => q k2)]
        obtain ⟨v7, v0, v1⟩ := RL_num c4 k2
        rw [v7] at h
        unfold inz at h
        by_cases k3 : 1 ≤ vlu (stp s2) ∧ vlu (stp s2) ≤ 16
        · rw [if_pos k3, if_pos (by decide)] at h
          rw [if_neg (by omega), if_neg (by omega), bo_s]
          have hH8 := H_lex c4 a4.2 c5 (by omega) c7
          have hs8 := SC_lex a5 c7
          have stk := RL_stk c4 (by omega) (by omega)
          obtain ⟨t9, d1, d2, d3, d4⟩ := RL_step c4 (by omega) (by omega)
          have h := bxr hrc d1 h
          try dsimp only at h
          exact p_semi hrc h0 (H_lex d2 hH8.2 stk (by omega) d4) (SC_lex hs8 d4) (DG_tr hc (DG_tr (DG_F a6) (DG_tr (DG_lex c5 c6) (DG_lex stk d3)))) (DR_tr hr (DR_tr a7 (DR_tr (DR_lex (N := N) c7) (DR_lex (N := N) d4) (Nat.le_refl _)) (Nat.le_refl _)) (Nat.le_refl _)) (fun _ => rfl) (fun _ => rfl) h
        · rw [if_neg k3, if_neg (by decide)] at h
          cases h
          refine OD_no ?_
          by_cases k5 : vlu (stp s2) < 1
          · rw [if_pos k5]
            rfl
          · rw [if_neg k5, if_pos (by omega)]
            rfl
      · rw [if_pos (show t7 170 4 ≠ 3 from fun q => k2 (rkn_3 (k4.symm.trans q)))] at h
        rw [if_pos k2]
        cases h
        exact OD_no rfl
    · have h := bxr hrc c1 h
      try dsimp only at h
      rw [if_neg (by decide)] at h
      cases h
      refine OD_no ?_
      rw [c3]
      rfl
/-- int -/
theorem p_intd (hrc : rle rc rG) {v : Option (Int × tab)} (h0 : RDx T n e N s0 t0) (hH : RHx T n e N (-1) s t) (hsc : SCb N 0 t) (hc : DGc s0 s) (hr : DFr N t0 t) (h : (bo (rc 17 [] t) fun z100 t100 => if z100 = 0 then some (some (0, t100)) else bo (rc 8 [30] t100) fun z102 t102 => if z102 = 0 then some (some (0, t102)) else some (some (1, t102))) = some v) : ODx T n e s0 (bo (cG 31 [0, 0] s) fun _ s1 => bo (cG 29 [59] s1) fun _ s2 => some (some (0, s2))) v := by
  rcases p_int (b := 0) hH hsc with ⟨t9, a1, a2⟩ | ⟨s2, t2, a2, a3, a4, a5, a6, a7, _⟩
  · have h := bxr hrc a1 h
    try dsimp only at h
    rw [if_pos rfl] at h
    cases h
    refine OD_no ?_
    rw [a2]
    rfl
  · have h := bxr hrc a2 h
    try dsimp only at h
    rw [if_neg (by decide)] at h
    rw [a3, bo_s]
    exact p_semi hrc h0 a4 a5 (DG_tr hc (DG_F a6)) (DR_tr hr a7 (Nat.le_refl _)) (fun _ => rfl) (fun _ => rfl) h
end DECX
