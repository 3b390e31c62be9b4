/-! What holds between the law's calls, for p6 and on. -/
section LV6S
variable {K : SCt} {M n C D : Nat} {r r2 t t1 e e2 : tab} {s s1 s2 : rS}
def WD (n C D : Nat) (K : SCt) (M : Nat) (t e r : tab) : Prop := r 96 1 = (C : Int) ∧ EEr wP C t r ∧ EEr eP D e r ∧ STK K M ∧ BTW K M (2000000 * (n : Int)) t e ∧ (∀ c, c < 6 → K.2.1 177 (4 + c) = K.1 109 c ∧ 0 ≤ K.1 109 c ∧ K.1 109 c ≤ LIM c) ∧ r D 2 = K.2.1 177 2 ∧ r D 7 = K.2.1 177 7 ∧ (r D 8 = K.2.1 177 8 ∧ LKR K.1 K.2.1 ∧ ∀ k j, LKk k j → inR (ph eP D k) j → r (ph eP D k) j = K.2.1 k j)
def WS (n : Nat) (r : tab) : Prop := ∃ C D K M t e, WD n C D K M t e r
def LV6 (n : Nat) (r : tab) : Prop := (((r 96 3 = 0 ∨ r 96 3 = 1) ∧ r 96 3 = r 170 20) ∧ (r 96 3 = 0 → ∀ j, j < 2000 → r 144 j ≤ 0)) ∧ (∀ j : Nat, (j : Int) < r 97 1 → r 98 j = r 171 j) ∧ (∀ j, j < 2001 → 0 ≤ r 140 j) ∧ (r 96 1 + r 96 2 = 214 ∧ r 142 0 = r 96 1) ∧ (r 96 3 = 1 → WS n r)
theorem w_get (h : EEr wP C t r) {k j : Nat} (hr : relW k j = true) (hk : k < 99 ∨ 115 ≤ k) (hi : inR k j) : r k j = t k j := by
  have p : ph wP C k = k := if_neg (fun q => by
    have q1 : 99 ≤ k := q.1
    have q2 : k < 99 + 16 := q.2
    omega)
  have u := (h.2.2.2.1 k j hr).2
  rw [p] at u
  exact u hi
theorem e_get (h : EEr eP D e r) {k j : Nat} (hr : relE k j = true) (hk : k < 177 ∨ 186 ≤ k) (hi : inR k j) : r k j = e k j := by
  have p : ph eP D k = k := if_neg (fun q => by
    have q1 : 177 ≤ k := q.1
    have q2 : k < 177 + 9 := q.2
    omega)
  have u := (h.2.2.2.1 k j hr).2
  rw [p] at u
  exact u hi
theorem e_getC (h : EEr eP D e r) {j : Nat} (hr : relE 177 j = true) (hj : j < 19) : r D j = e 177 j := by
  have p : ph eP D 177 = D := if_pos ⟨Nat.le_refl _, by decide⟩
  have u := (h.2.2.2.1 177 j hr).2
  rw [p] at u
  refine u ?_
  rcases h.1 with q | q
  · have q : D = 177 := q
    rw [q]
    exact ⟨_, 19, rfl, hj⟩
  · have q : D = 186 := q
    rw [q]
    exact ⟨_, 19, rfl, hj⟩
theorem WD_f (h : WD n C D K M t e r) : t 96 1 = (C : Int) ∧ t 96 3 = r 96 3 ∧ e 170 20 = r 170 20 ∧ e 177 7 = K.2.1 177 7 ∧ e 177 8 = K.2.1 177 8 := ⟨(w_get h.2.1 (k := 96) (j := 1) rfl (by omega) ⟨_, _, rfl, by decide⟩).symm.trans h.1, (w_get h.2.1 (k := 96) (j := 3) rfl (by omega) ⟨_, _, rfl, by decide⟩).symm, (e_get h.2.2.1 (k := 170) (j := 20) rfl (by omega) ⟨_, _, rfl, by decide⟩).symm, (e_getC h.2.2.1 (j := 7) rfl (by omega)).symm.trans h.2.2.2.2.2.2.2.1, (e_getC h.2.2.1 (j := 8) rfl (by omega)).symm.trans h.2.2.2.2.2.2.2.2.1⟩
theorem w_p3 {k j : Nat} (h : relW k j = true) (h1 : k ≠ 97) (h2 : k ≠ 98) (h3 : k ≠ 140) : (ph wP C k = 96 ∧ (j = 1 ∨ j = 3) ∨ 142 ≤ ph wP C k ∧ ph wP C k < 170) ∨ C ≤ ph wP C k ∧ ph wP C k < C + 16 := by
  have u := w_k h
  show ((if 99 ≤ k ∧ k < 99 + 16 then C + (k - 99) else k) = 96 ∧ (j = 1 ∨ j = 3) ∨ 142 ≤ (if 99 ≤ k ∧ k < 99 + 16 then C + (k - 99) else k) ∧ (if 99 ≤ k ∧ k < 99 + 16 then C + (k - 99) else k) < 170) ∨ C ≤ (if 99 ≤ k ∧ k < 99 + 16 then C + (k - 99) else k) ∧ (if 99 ≤ k ∧ k < 99 + 16 then C + (k - 99) else k) < C + 16
  by_cases e : 99 ≤ k ∧ k < 99 + 16
  · rw [if_pos e]
    omega
  · rw [if_neg e]
    left
    unfold relW at h
    by_cases e1 : k = 96
    · rw [if_pos e1] at h
      simp only [Bool.or_eq_true, beq_iff_eq] at h
      omega
    · by_cases e2 : 142 ≤ k
      · omega
      · exfalso
        rw [if_neg e1, if_neg h1, if_neg (by omega), if_neg (by omega), if_neg (by omega), if_pos (by omega)] at h
        simp only [Bool.or_eq_true, beq_iff_eq] at h
        omega
theorem e_p3 {k j : Nat} (h : relE k j = true) (h1 : ¬ (k = 170 ∧ j = 1 ∨ k = 171)) : 203 ≤ ph eP D k ∨ D ≤ ph eP D k ∧ ph eP D k < D + 9 ∨ ph eP D k = 170 ∧ (j = 20 ∨ 52 ≤ j ∧ j ≤ 55) := by
  by_cases z : 177 ≤ k ∧ k < 177 + 9
  · right
    left
    show D ≤ (if 177 ≤ k ∧ k < 177 + 9 then D + (k - 177) else k) ∧ (if 177 ≤ k ∧ k < 177 + 9 then D + (k - 177) else k) < D + 9
    rw [if_pos z]
    omega
  · rw [show ph eP D k = k from if_neg z]
    unfold relE at h
    by_cases a : k = 170
    · rw [if_pos a] at h
      simp only [Bool.or_eq_true, beq_iff_eq] at h
      omega
    · rw [if_neg a, if_neg (by omega)] at h
      by_cases b : k < 186
      · rw [if_pos b] at h
        simp only [Bool.or_eq_true, beq_iff_eq, decide_eq_true_eq] at h
        omega
      · rw [if_neg b] at h
        by_cases c : k < 220
        · rw [if_pos c] at h
          simp only [Bool.and_eq_true, decide_eq_true_eq] at h
          omega
        · omega
/-- calls that leave both circuits and their work as they are -/
def KQ (D k j : Nat) : Prop := 203 ≤ k ∨ D ≤ k ∧ k < D + 9 ∨ k = 170 ∧ (j = 17 ∨ j = 20 ∨ 52 ≤ j ∧ j ≤ 55)
theorem WS_q (h : WS n r) (hw : ∀ k j, k = 96 ∧ (j = 1 ∨ j = 2 ∨ j = 3) ∨ 142 ≤ k ∧ k < 170 → r2 k j = r k j) (hw2 : ∀ C : Nat, r 96 1 = (C : Int) → ∀ k j, C ≤ k ∧ k < C + 16 → r2 k j = r k j) (he : ∀ D : Nat, r 170 17 = (D : Int) → ∀ k j, KQ D k j → r2 k j = r k j) (hR : RF r2) : WS (n + 1) r2 := by
  obtain ⟨C, D, K, M, t, e, h1, h2, h3, h4, h5, h6, h7, h8, h9⟩ := h
  have hC : C = 99 ∨ C = 115 := h2.1
  have hD : D = 177 ∨ D = 186 := h3.1
  have he := he D h3.2.2.1
  unfold KQ at he
  refine ⟨C, D, K, M, fun k j => if k = 97 ∨ k = 98 ∨ k = 140 then r2 k j else t k j, fun k j => if k = 170 ∧ j = 1 ∨ k = 171 then r2 k j else e k j, (hw 96 1 (by omega)).trans h1, ⟨h2.1, hR, (hw 142 0 (by omega)).trans h2.2.2.1, fun k j w => ⟨(h2.2.2.2.1 k j w).1, fun q => ?_⟩, trivial⟩, ⟨h3.1, hR, (he 170 17 (by omega)).trans h3.2.2.1, fun k j w => ⟨(h3.2.2.2.1 k j w).1, fun q => ?_⟩, trivial⟩, h4, BTW_up (BTW_q h5 (fun k j w => if_neg (by omega)) (fun k j w => if_neg (by omega)) (fun a b _ => ⟨fun i hi => ?_, ?_⟩)) (by omega), h6, (he D 2 (by omega)).trans h7, (he D 7 (by omega)).trans h8, ⟨(he D 8 (by omega)).trans h9.1, h9.2.1, fun k j q i => ?_⟩⟩
  · show r2 (ph wP C k) j = if k = 97 ∨ k = 98 ∨ k = 140 then r2 k j else t k j
    by_cases a : k = 97 ∨ k = 98 ∨ k = 140
    · rw [if_pos a, show ph wP C k = k from if_neg (fun q => by have q1 : 99 ≤ k := q.1; have q2 : k < 99 + 16 := q.2; omega)]
    · have e : r2 (ph wP C k) j = r (ph wP C k) j := by
        rcases w_p3 (C := C) w (by omega) (by omega) (by omega) with z | z
        · exact hw _ _ (by omega)
        · exact hw2 C h1 _ _ z
      rw [if_neg a, e]
      exact (h2.2.2.2.1 k j w).2 q
  · show r2 (ph eP D k) j = if k = 170 ∧ j = 1 ∨ k = 171 then r2 k j else e k j
    have kk := e_k w
    by_cases a : k = 170 ∧ j = 1 ∨ k = 171
    · rw [if_pos a, show ph eP D k = k from if_neg (fun q => by have q1 : 177 ≤ k := q.1; omega)]
    · have p := e_p3 (D := D) w a
      rw [if_neg a, he _ _ (by omega)]
      exact (h3.2.2.2.1 k j w).2 q
  · have w := a i hi
    dsimp only
    rw [if_neg (by omega), if_neg (by omega), if_neg (by omega), if_neg (by omega)]
    exact w
  · refine SH_fr b (fun k j w => if_neg (by omega)) (fun k j w => ?_)
    rw [zp_o (by omega), zp_o (by omega)]
    exact if_neg (by omega)
  · rw [← h9.2.2 k j q i]
    refine he _ _ ?_
    have e : ph eP D k = D + (k - 177) := if_pos ⟨by unfold LKk at q; show 177 ≤ k; omega, by unfold LKk at q; show k < 177 + 9; omega⟩
    rw [e]
    unfold LKk at q
    omega
theorem LV6_q (h : LV6 n r) (hw : ∀ k j, k = 96 ∧ (j = 1 ∨ j = 2 ∨ j = 3) ∨ 142 ≤ k ∧ k < 170 → r2 k j = r k j) (hw2 : ∀ C : Nat, r 96 1 = (C : Int) → ∀ k j, C ≤ k ∧ k < C + 16 → r2 k j = r k j) (h40 : ∀ j, j < 2001 → 0 ≤ r2 140 j) (h20 : r2 170 20 = r 170 20) (he : ∀ D : Nat, r 170 17 = (D : Int) → ∀ k j, KQ D k j → r2 k j = r k j) (hR : RF r2) (hb : ∀ j : Nat, (j : Int) < r2 97 1 → r2 98 j = r2 171 j) : LV6 (n + 1) r2 := by
  obtain ⟨h1, h2, h3, h4, h5⟩ := h
  refine ⟨by rw [hw 96 3 (by omega), h20]; exact ⟨h1.1, fun q j hj => by rw [hw 144 j (by omega)]; exact h1.2 q j hj⟩, hb, h40, by rw [hw 96 1 (by omega), hw 96 2 (by omega), hw 142 0 (by omega)]; exact h4, fun q => WS_q (h5 (by rw [← hw 96 3 (by omega)]; exact q)) hw hw2 he hR⟩
/-- calls of Work's -/
theorem LV6_l (h : LV6 n s.1) (hj : HJ4 s.1 s1.1) (hl : LJ2 s1.1 s2.1) (hv : s1.1 142 0 = s.1 142 0) (h44 : s.1 96 3 = 0 → ∀ j, j < 2000 → s1.1 144 j = s.1 144 j) (hW : s.1 96 3 = 1 → WS (n + 1) s2.1) : LV6 (n + 1) s2.1 := by
  obtain ⟨h1, h2, h3, h4, h5⟩ := h
  have a : ∀ k j, (k = 96 ∨ k = 97 ∧ j = 1 ∨ 98 ≤ k ∧ k ≤ 141) → s2.1 k j = s.1 k j := fun k j w => (hl k j (by omega)).trans (hj k j (by omega))
  have b : ∀ k j, (171 ≤ k ∧ k < 203 ∨ k = 170 ∧ (j = 17 ∨ j = 18 ∨ j = 20)) → s2.1 k j = s.1 k j := fun k j w => (hl k j (by omega)).trans (hj k j (by omega))
  refine ⟨by rw [a 96 3 (by omega), b 170 20 (by omega)]; exact ⟨h1.1, fun q j hj => by rw [hl 144 j (by omega), h44 q j hj]; exact h1.2 q j hj⟩, fun j w => ?_, fun j hj => by rw [a 140 j (by omega)]; exact h3 j hj, by rw [a 96 1 (by omega), a 96 2 (by omega), hl 142 0 (by omega), hv]; exact h4, fun q => hW (by rw [← a 96 3 (by omega)]; exact q)⟩
  rw [a 97 1 (by omega)] at w
  rw [a 98 j (by omega), b 171 j (by omega)]
  exact h2 j w
/-- our own call, by its model -/
def W6 (n : Nat) (X : tab → RO) (rt : Nat) (s s1 : rS) (out : hm_Out) : Prop := (s.1 96 3 = 0 ∧ ∃ C t, EEr wP C t s.1 ∧ t 96 3 = 0 ∧ ∃ ob z t1, out = some ob ∧ rtv rt z ob ∧ X t = some (some (z, t1)) ∧ EEr wP C t1 s1.1) ∨ (s.1 96 3 = 1 ∧ ∃ C D K M t e, WD n C D K M t e s.1 ∧ ∃ ob z t1, out = some ob ∧ rtv rt z ob ∧ X t = some (some (z, t1)) ∧ EEr wP C t1 s1.1)
theorem W6_142 {X : tab → RO} {rt : Nat} {out : hm_Out} (h : W6 n X rt s s1 out) : s1.1 142 0 = s.1 142 0 := by
  rcases h with ⟨_, C, t, h1, _, ob, z, t1, _, _, _, h2⟩ | ⟨_, C, D, K, M, t, e, h1, ob, z, t1, _, _, _, h2⟩
  · exact h2.2.2.1.trans h1.2.2.1.symm
  · exact h2.2.2.1.trans h1.2.1.2.2.1.symm
theorem w6_call {d i rt : Nat} {vs : List Value} {Q : rS → hm_Out → Prop} {X : tab → RO} (hL : LV6 n s.1) (hR : RF s.1) (hC : C = 99 ∨ C = 115) (hC1 : s.1 96 1 = (C : Int)) (h : cr d i vs s Q) (h2 : ∀ (C : Nat) (t : tab) (s0 : rS), EE wP C t s0 → t 96 1 = (C : Int) → ∀ K, pcr K d i vs s0 (MQx wP C rt (X t))) (hQ : ∀ s1 out, Q s1 out → RF s1.1 ∧ out ≠ none) : cr d i vs s (fun s1 out => Q s1 out ∧ W6 n X rt s s1 out) := by
  rcases hL.1.1.1 with m | m
  · have hE := tnw_E hC hR (hL.2.2.2.1.2.trans hC1)
    have p : ph wP C 96 = 96 := if_neg (fun q => absurd q.1 (by decide))
    refine cr_mono (w_call hE h (fun s0 hE0 K => h2 C _ s0 hE0 (by show s.1 (ph wP C 96) 1 = _; rw [p]; exact hC1) K) hQ) ?_
    rintro s1 out ⟨q, w⟩
    exact ⟨q, .inl ⟨m, C, _, hE, by show s.1 (ph wP C 96) 3 = _; rw [p]; exact m, w⟩⟩
  · obtain ⟨C, D, K, M, t, e, hw⟩ := hL.2.2.2.2 m
    refine cr_mono (w_call hw.2.1 h (fun s0 hE0 K => h2 C t s0 hE0 (WD_f hw).1 K) hQ) ?_
    rintro s1 out ⟨q, w⟩
    exact ⟨q, .inr ⟨m, C, D, K, M, t, e, hw, w⟩⟩
theorem XP_R {c : Nat} {T : Int → Prop} : ∀ (s1 : rS) (out : hm_Out), XP4 c T s s1 out → RF s1.1 ∧ out ≠ none := by
  rintro s1 out ⟨⟨v, rfl, _⟩, _, ⟨C, D, E, hK, _⟩, _⟩
  exact ⟨hK.1, by intro q; cases q⟩
theorem MJ_R {c : Nat} {T : Int → Prop} : ∀ (s1 : rS) (out : hm_Out), MJ2 c T s s1 out → RF s1.1 ∧ out ≠ none := by
  rintro s1 out ⟨⟨v, rfl, _⟩, _, hR, _⟩
  exact ⟨hR, by intro q; cases q⟩
/-- put together again -/
theorem WD_mk (h : WD n C D K M t e s.1) (hj : HJ4 s.1 s1.1) (hl : LJ2 s1.1 s2.1) (hR : RF s2.1) (h1 : EEr wP C t1 s1.1) (h2 : EEr eP D e2 s2.1) (hB : BTW K M (2000000 * ((n + 1 : Nat) : Int)) t1 e2) : WD (n + 1) C D K M t1 e2 s2.1 := by
  obtain ⟨a1, a2, a3, a4, a5, a6, a7, a8, a9⟩ := h
  have hD : D = 177 ∨ D = 186 := a3.1
  have b : ∀ j, s2.1 D j = s.1 D j := fun j => (hl D j (by omega)).trans (hj D j (by omega))
  refine ⟨(hl 96 1 (by omega)).trans ((hj 96 1 (by omega)).trans a1), EEr_fr h1 hR (hl 142 0 (by omega)) (fun k j w => hl _ _ (.inl (w_p h1.1 w).2)), h2, a4, hB, a6, by rw [b]; exact a7, by rw [b]; exact a8, ⟨by rw [b]; exact a9.1, a9.2.1, fun k j q i => ?_⟩⟩
  rw [← a9.2.2 k j q i]
  have e : ph eP D k = D + (k - 177) := if_pos ⟨by unfold LKk at q; show 177 ≤ k; omega, by unfold LKk at q; show k < 177 + 9; omega⟩
  rw [e]
  unfold LKk at q
  exact (hl _ _ (by omega)).trans (hj _ _ (by omega))
theorem E_mid (h : EEr eP D e s.1) (hj : HJ4 s.1 s1.1) (hR : RF s1.1) : EEr eP D e s1.1 := EEr_fr h hR (hj 170 17 (by omega)) (fun k j w => hj _ _ (.inl (e_p h.1 w)))
end LV6S
