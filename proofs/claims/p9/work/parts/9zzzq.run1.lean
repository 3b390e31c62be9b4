/-! One run, in both. -/
section RUN1
variable {K : SCt} {M : Nat}
theorem rn_114 : ∀ (ps : List Nat) (x : PMt), JJx x → okx rdx stx x ps → ∀ k j, 99 ≤ k ∧ k ≤ 114 → (rnx stx x ps).1 k j = x.1 k j
  | [], _, _, _, _, _, _ => rfl
  | p :: ps, x, h, hp, k, j, hk => by
    obtain ⟨a, c, q, hJ⟩ := id h
    obtain ⟨s, Q, n⟩ := x
    exact (rn_114 ps _ (J_step _ p h hp.1) hp.2 k j hk).trans (st_114 (n := n) hJ hp.1 k j hk)
/-- what is known of the circuit -/
def STK (K : SCt) (M : Nat) : Prop := SPK K ∧ (∀ z, K.2.2.2.2.2 z → K.1 100 z = 402 ∨ K.1 100 z = 403 → PUR K.1 z) ∧ SZx K.1 ∧ K.1 99 12 = (M : Int) ∧ ∃ c, EF K.1 c (K.1 99 13).toNat
/-- not run yet -/
def RDYx (K : SCt) (t r : tab) : Prop := t 142 6 = 0 ∧ t 142 13 = 0 ∧ (∀ L, L < 12 → t 152 L = -1 ∧ t 153 L = -1) ∧ QBx t ∧ SHx K r (zp t) ∧ r 170 55 = 1 ∧ r 206 0 = 1 ∧ r 205 0 = K.2.1 177 2 ∧ r 208 0 = 0 ∧ r 209 0 = 0
/-- between calls: our table, the reference's -/
def BTW (K : SCt) (M : Nat) (C : Int) (t r : tab) : Prop := (∀ k j, 99 ≤ k ∧ k ≤ 114 → t k j = K.1 k j) ∧ STr K r ∧ (∀ j, t 144 j ≤ C) ∧
  ((t 142 14 = 0 ∧ r 170 52 = 0 ∧ RDYx K t r) ∨
  (t 142 14 = 2 ∧ r 170 52 = 2 ∧ ∃ n act lf dr LG, LPx M K.2.2.2.1 K.2.2.2.2.2 t [] (fun _ => 0) act ∧ REL K M True r (zp t) (fun _ => 0) n act lf dr LG ∧ smx (pfx K (zp t) act LG) M = 0) ∨
  (t 142 14 = 1 ∧ r 170 52 = 1 ∧ t 142 13 = 1 ∧ LPx M K.2.2.2.1 K.2.2.2.2.2 t [] (fun _ => 0) (fun _ => False) ∧ SHx K r (zp t)) ∨
  (t 142 14 = 3 ∧ r 170 52 = 3))
theorem LP_nil {t t2 : tab} {Q : Nat → Nat} {act act2 : Nat → Prop} {l : List Int} (h : LPx M K.2.2.2.1 K.2.2.2.2.2 t l Q act) (e : l = []) {w : Int} (e2 : t2 = up2 t 142 14 w) (hP : PSy M K.2.2.2.1 K.2.2.2.2.2 (zp t) (fun _ => 0) act2) : LPx M K.2.2.2.1 K.2.2.2.2.2 t2 [] (fun _ => 0) act2 := by
  subst e
  subst e2
  have ez : zp (up2 t 142 14 w) = zp t := zp_n (.inr ⟨rfl, by omega⟩)
  refine ⟨by rw [ez]; exact hP, SK_o h.2.1 (if_neg (by omega)) (fun j => if_neg (by omega)), fun v hv => absurd hv List.not_mem_nil, fun q => rfl, ?_⟩
  rw [show up2 t 142 14 w 142 13 = t 142 13 from if_neg (by omega)]
  exact h.2.2.2.2
theorem rn_fin (hS : STK K M) {t5 : tab} {l5 : List Int} {Q5 : Nat → Nat} {act5 : Nat → Prop} {m C : Int} {X : RO} {v : Option (Int × tab)} (hL : LPx M K.2.2.2.1 K.2.2.2.2.2 t5 l5 Q5 act5) (hst : ∀ k j, 99 ≤ k ∧ k ≤ 114 → zp t5 k j = K.1 k j) (hG : GOx M K.2.2.2.1 K.2.2.2.2.2 t5 Q5 m C X) (hO : OUT K M m (zp t5) Q5 0 v) : ∃ z rq tq, v = some (z, rq) ∧ X = some (some (0, tq)) ∧ tq 142 14 = z ∧ BTW K M (C + 2000000) tq rq := by
  obtain ⟨ps, t2, l2, Q2, act2, n2, k1, k2, k3, k4, k5, k6, k7⟩ := hG
  have jj : JJx (zp t5, Q5, 0) := by
    obtain ⟨⟨⟨cx, anc, hJ⟩, _⟩, _⟩ := hL
    exact ⟨act5, cx, anc, hJ⟩
  have st2 : ∀ k j, 99 ≤ k ∧ k ≤ 114 → t2 k j = K.1 k j := fun k j hk => by
    have u := rn_114 ps _ jj k1 k j hk
    rw [k2] at u
    exact (zp_o (show ¬ (k = 147 ∨ k = 142 ∧ j ≠ 13) by omega)).symm.trans (u.trans (hst k j hk))
  have qz : l2 = [] → ∀ q, Q2 q = 0 := fun e q => by
    rw [k3.2.2.2.1 q, e]
    rfl
  have nl : ∀ fs, okx rdx stx (zp t5, Q5, 0) fs → (∀ q, (rnx stx (zp t5, Q5, 0) fs).2.1 q = 0) → ((rnx stx (zp t5, Q5, 0) fs).2.2 : Int) ≤ m → l2 = [] ∧ X = some (some (0, up2 t2 142 14 (if t2 142 13 = 0 then 2 else 1))) ∧ (zp t2, Q2, n2) = rnx stx (zp t5, Q5, 0) fs := fun fs f1 f2 f3 => by
    have fd : ∀ q, ¬ rdx (rnx stx (zp t5, Q5, 0) fs) q := fun q w => by
      have w : 0 < (rnx stx (zp t5, Q5, 0) fs).2.1 q := w
      rw [f2] at w
      omega
    rcases k7 with ⟨e, w⟩ | ⟨q, u1, u2, u3, _⟩
    · refine ⟨e, w, ?_⟩
      rw [← k2]
      refine R_same jj k1 f1 (fun q w => ?_) fd
      rw [k2] at w
      have w : 0 < Q2 q := w
      rw [qz e] at w
      omega
    · exfalso
      have ok : okx rdx stx (zp t5, Q5, 0) (ps ++ [q]) := (ok_app ps [q] _).mpr ⟨k1, by rw [k2]; exact ⟨u1, trivial⟩⟩
      have le := R_n jj ok f1 fd
      rw [rn_app, k2] at le
      have le : n2 + (if zp t2 144 q < 0 then 1 else 0) ≤ (rnx stx (zp t5, Q5, 0) fs).2.2 := le
      rw [if_pos u2] at le
      omega
  have b4 : ∀ w : Int, ∀ j, up2 t2 142 14 w 144 j ≤ C + 2000000 := fun w j => by
    rw [show up2 t2 142 14 w 144 j = t2 144 j from if_neg (by omega)]
    exact k6 j
  have z13 : zp t2 142 13 = t2 142 13 := zp_o (by omega)
  have ez : ∀ w : Int, zp (up2 t2 142 14 w) = zp t2 := fun w => zp_n (.inr ⟨rfl, by omega⟩)
  obtain ⟨qs, o1, o⟩ := hO
  rcases o with ⟨rq, s2, Q3, n3, act, lf, dr, LG, e1, e2, e3, e4, e5⟩ | ⟨rq, e1, e2, e3, e4, e5⟩ | ⟨rq, s2, Q3, n3, e1, e2, ⟨d1, d2, d3, d4, d5, d6, d7, d8, d9, d10⟩, e4⟩
  · -- waits
    obtain ⟨us, s3, Q4, n4, LG2, a1, a2, a3, a4, a5, a6, a7⟩ := qu_end hS.2.1 e3 e5
    have okf : okx rdx stx (zp t5, Q5, 0) (qs ++ us) := (ok_app qs us _).mpr ⟨o1, by rw [e2]; exact a1⟩
    have rnf : rnx stx (zp t5, Q5, 0) (qs ++ us) = (s3, Q4, n4) := by rw [rn_app, e2]; exact a2
    have g4 := e3.2.2.2.2.2.2.2.2.2.2.2.2.2.2.1
    obtain ⟨f1, f2, f3⟩ := nl (qs ++ us) okf (fun q => by rw [rnf]; exact a4 q) (by rw [rnf]; show (n4 : Int) ≤ m; omega)
    rw [rnf] at f3
    have z1 : zp t2 = s3 := congrArg (fun x : PMt => x.1) f3
    have d13 : t2 142 13 = 0 := by rw [← z13, z1]; exact a6
    rw [if_pos d13] at f2
    have q4 : Q4 = fun _ => 0 := funext a4
    rw [q4, ← z1] at a3
    rw [← z1] at a7
    refine ⟨2, rq, up2 t2 142 14 2, e1, f2, up_self, fun k j hk => (if_neg (by omega)).trans (st2 k j hk), ST_h a3.2.1.2 a3.2.2.2.2.2.2.1, b4 2, .inr (.inl ⟨up_self, a3.2.2.2.2.2.2.2.2.2.2.2.2.2.2.2.2.1, n4, act, lf, dr, LG2, LP_nil k3 f1 rfl a3.1, ?_, ?_⟩)⟩
    · rw [ez]
      exact a3
    · rw [ez]
      exact a7
  · -- lost
    rcases k7 with ⟨e, w⟩ | ⟨q, u1, u2, u3, w⟩
    · exfalso
      have le := R_n jj o1 k1 (fun q w => by
        rw [k2] at w
        have w : 0 < Q2 q := w
        rw [qz e] at w
        omega)
      rw [k2] at le
      have le : (rnx stx (zp t5, Q5, 0) qs).2.2 ≤ n2 := le
      omega
    · refine ⟨3, rq, _, e1, w, (if_neg (by omega)).trans up_self, fun k j hk => ?_, e4, fun j => ?_, .inr (.inr (.inr ⟨(if_neg (by omega)).trans up_self, e3⟩))⟩
      · exact (if_neg (by omega)).trans ((if_neg (by omega)).trans ((if_neg (by omega)).trans (st2 k j hk)))
      · rw [show up2 (up2 (up2 t2 142 6 (imi (t2 142 6) 1)) 142 14 3) 142 15 0 144 j = t2 144 j from (if_neg (by omega)).trans ((if_neg (by omega)).trans (if_neg (by omega)))]
        exact k6 j
  · -- ended
    obtain ⟨f1, f2, f3⟩ := nl qs o1 (fun q => by rw [e2]; exact d3 q) (by rw [e2]; show (n3 : Int) ≤ m; omega)
    rw [e2] at f3
    have z1 : zp t2 = s2 := congrArg (fun x : PMt => x.1) f3
    have d13 : t2 142 13 = 1 := by rw [← z13, z1]; exact d2
    rw [if_neg (by omega)] at f2
    have q4 : Q3 = fun _ => 0 := funext d3
    rw [q4, ← z1] at d4
    rw [← z1] at d5
    refine ⟨1, rq, up2 t2 142 14 1, e1, f2, up_self, fun k j hk => (if_neg (by omega)).trans (st2 k j hk), ST_h d10 d5, b4 1, .inr (.inr (.inl ⟨up_self, d1, (if_neg (by omega)).trans d13, LP_nil k3 f1 rfl d4, ?_⟩))⟩
    rw [ez]
    exact d5
theorem rn_eq (hS : STK K M) {C m : Int} {t r : tab} {v : Option (Int × tab)} (hB : BTW K M C t r) (hC : 0 ≤ C ∧ C + 2000000 < 2147483646) (hm : 1 ≤ m ∧ m ≤ 20000) (h3 : t 142 14 ≠ 3) (h20 : r 170 20 ≠ 0) (hE : eG 12 [m] r = some v) : ∃ z rq tq, v = some (z, rq) ∧ wG 30 [m] t = some (some (0, tq)) ∧ tq 142 14 = z ∧ BTW K M (C + 2000000) tq rq := by
  obtain ⟨hst, hSt, hb, hB⟩ := hB
  obtain ⟨hK, hU, hz, h12, c, hEF⟩ := id hS
  have hm2 : inz m 1 20000 ≠ 0 := by
    unfold inz
    rw [if_pos hm]
    decide
  rw [eG_162] at hE
  unfold eM162 at hE
  rw [if_pos h20, if_neg hm2] at hE
  have ozp : ∀ k j, 99 ≤ k ∧ k ≤ 114 → zp t k j = K.1 k j := fun k j hk => (zp_o (by omega)).trans (hst k j hk)
  have oz : ∀ k j, ¬ (k = 170 ∧ (j = 52 ∨ j = 53 ∨ j = 54)) → up2 (up2 (up2 r 170 53 0) 170 54 m) 170 52 2 k j = r k j := fun k j w => (if_neg (by omega)).trans ((if_neg (by omega)).trans (if_neg (by omega)))
  have e54 : up2 (up2 (up2 r 170 53 0) 170 54 m) 170 52 2 170 54 = m := (if_neg (by omega)).trans up_self
  rcases hB with ⟨a1, a2, a3⟩ | ⟨a1, a2, n, act, lf, dr, LG, a3, a4, a5⟩ | ⟨a1, a2, a3, a4, a5⟩ | ⟨a1, _⟩
  · -- the first run
    rw [if_pos (by omega), if_pos (by omega)] at hE
    obtain ⟨b1, b2, b3, b4, b5, b6, b7, b8, b9, b10⟩ := a3
    obtain ⟨root, hroot⟩ : ∃ root : Nat, K.1 99 13 = (root : Int) := ⟨(K.1 99 13).toNat, by have := hK.2.2.2.2.1.2.1; omega⟩
    rw [hroot, Int.toNat_natCast] at hEF
    obtain ⟨t5, z5, lp5, g5⟩ := go_r (t := t) (M := M) (N := K.2.2.2.1) (IN := K.2.2.2.2.2) (c := c) (root := root) (C := C) (most := m) (fun i => by rw [ozp 111 i (by omega)]; exact hz i) ((hst 99 12 (by omega)).trans h12) (by have := hK.2.2.2.2.1.1; omega) (EF_ext ozp hEF) (by rw [hst 99 13 (by omega)]; exact hroot.symm) (INC_ext ozp hK.2.2.2.2.2) (fun y z c y1 z1 y2 z2 => hK.2.2.2.1 y z c y1 z1 ((CH_ext ozp).mp y2) ((CH_ext ozp).mp z2)) b4 b1 b2 a1 b3 (by omega) hC hb
    have st5 : ∀ k j, 99 ≤ k ∧ k ≤ 114 → zp t5 k j = K.1 k j := fun k j hk => by
      rw [z5]
      exact (if_neg (by omega)).trans ((if_neg (by omega)).trans (ozp k j hk))
    have o5 : ∀ k j, k ≠ 143 → k ≠ 144 → ¬ (k = 147 ∨ k = 142 ∧ j ≠ 13) → zp t5 k j = t k j := fun k j q1 q2 q3 => by
      rw [z5]
      exact (if_neg (by omega)).trans ((if_neg (by omega)).trans (zp_o q3))
    have hsh : SHx K (up2 (up2 (up2 r 170 53 0) 170 54 m) 170 52 2) (zp t5) := SH_fr b5 (fun k j w => oz k j (by omega)) (fun k j w => (o5 k j (by omega) (by omega) (by omega)).trans (zp_o (show ¬ (k = 147 ∨ k = 142 ∧ j ≠ 13) by omega)).symm)
    have hR := REL_0 (M := M) (s := zp t5) hK hroot lp5.1 st5 (fun i => (oz 178 i (by omega)).trans (hSt.1 i)) (by rw [z5]; exact (if_neg (by omega)).trans up_self) (by rw [z5]; exact up_self) (fun p => if_pos (.inl rfl)) ((o5 142 13 (by omega) (by omega) (by omega)).trans b2) (fun L hL => ⟨(o5 152 L (by omega) (by omega) (by omega)).trans (b3 L hL).1, (o5 153 L (by omega) (by omega) (by omega)).trans (b3 L hL).2⟩) hsh ((oz 170 55 (by omega)).trans b6) ((oz 206 0 (by omega)).trans b7) ((oz 205 0 (by omega)).trans b8) ((oz 208 0 (by omega)).trans b9) ((oz 209 0 (by omega)).trans b10) ((if_neg (by omega)).trans ((if_neg (by omega)).trans up_self)) (by rw [e54]; omega) up_self
    have u := lp_go hK hR hE
    rw [e54] at u
    exact rn_fin hS lp5 st5 g5 u
  · -- it waits
    rw [if_pos (by omega), if_pos (by omega)] at hE
    obtain ⟨t4, Q4, t5, l5, Q5, w1, w2, lp5, g5⟩ := go_w (most := m) (C := C) a3 (by omega) (by omega) hC hb
    have hR := REL_wk (REL_nw a4 a5 hm) (fun _ => rfl) w1 w2 lp5.1
    have u := lp_go hK hR hE
    rw [e54] at u
    exact rn_fin hS lp5 hR.2.1.1 g5 u
  · -- it has ended
    rw [if_pos (by omega), if_neg (fun w => w a2)] at hE
    cases hE
    obtain ⟨t4, Q4, t5, l5, Q5, w1, w2, lp5, g5⟩ := go_w (most := m) (C := C) a4 (by omega) (by omega) hC hb
    obtain ⟨⟨⟨cx, anc, hJ⟩, _⟩, _⟩ := id a4
    have ln : ∀ L, L < 12 → zp t 152 L = -1 ∧ zp t 153 L = -1 := fun L h => by
      have w := hJ.2.2.2.2.2.2.2.1 L h
      have x1 := w.1.1
      have x2 := w.2.1
      refine ⟨Classical.byContradiction fun z => (w.1.2 (by omega)).1, Classical.byContradiction fun z => (w.2.2 (by omega)).1⟩
    have z5 : zp t5 = zp t := by
      funext k j
      rw [w2.1]
      by_cases e : k = 153 ∧ 8 ≤ j ∧ j < 12
      · rw [if_pos e, e.1, (ln j e.2.2).2]
      · rw [if_neg e, w1.1]
        by_cases e2 : k = 152 ∧ 8 ≤ j ∧ j < 12
        · rw [if_pos e2, e2.1, (ln j e2.2.2).1]
        · rw [if_neg e2]
    have q5 : ∀ x : Nat, Q5 x = 0 := fun x => ((w2.2 x).2 (fun L u v e => by
      rw [w1.1, if_neg (by omega)] at e
      have := ln L v
      omega)).trans ((w1.2 x).2 (fun L u v e => by
      have := ln L v
      omega))
    obtain ⟨ps, t2, l2, Q2, act2, n2, k1, k2, k3, k4, k5, k6, k7⟩ := g5
    have ps0 : ps = [] := by
      cases ps with
      | nil => rfl
      | cons p ps =>
        exfalso
        have u : 0 < Q5 p := k1.1
        rw [q5] at u
        omega
    subst ps0
    have e2 : (zp t5, Q5, 0) = (zp t2, Q2, n2) := k2
    have z2 : zp t2 = zp t := (congrArg (fun x : PMt => x.1) e2).symm.trans z5
    have q2 : ∀ x, Q2 x = 0 := fun x => (congrArg (fun y : PMt => y.2.1 x) e2).symm.trans (q5 x)
    rcases k7 with ⟨e, w⟩ | ⟨q, u1, _⟩
    · have d13 : t2 142 13 = 1 := by
        rw [← (zp_o (by omega) : zp t2 142 13 = t2 142 13), z2, (zp_o (by omega) : zp t 142 13 = t 142 13)]
        exact a3
      rw [if_neg (by omega)] at w
      have ez : zp (up2 t2 142 14 1) = zp t2 := zp_n (.inr ⟨rfl, by omega⟩)
      refine ⟨1, _, up2 t2 142 14 1, rfl, w, up_self, fun k j hk => (if_neg (by omega)).trans ?_, ST_e hSt (fun k j q => if_neg (by omega)), fun j => ?_, .inr (.inr (.inl ⟨up_self, (if_neg (by omega)).trans a2, (if_neg (by omega)).trans d13, LP_nil k3 e rfl (by rw [z2]; exact a4.1), ?_⟩))⟩
      · rw [← (zp_o (by omega) : zp t2 k j = t2 k j), z2]
        exact ozp k j hk
      · rw [show up2 t2 142 14 1 144 j = t2 144 j from if_neg (by omega)]
        exact k6 j
      · rw [ez, z2]
        exact SH_fr a5 (fun k j w => if_neg (by omega)) (fun _ _ _ => rfl)
    · rw [q2] at u1
      omega
  · exact absurd a1 h3
end RUN1
