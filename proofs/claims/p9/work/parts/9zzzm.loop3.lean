/-! The reference's run is a run of the parts machine. -/
section LOOP3
variable {K : SCt} {M : Nat} {most : Int}
theorem st_of {W : Prop} {r s : tab} {Q : Nat → Nat} {act : Nat → Prop} {lf dr : Nat → Int} {LG : Nat → Prop} {b : Nat} (hbr : BRx K W r s Q act lf dr LG b) : (r 206 b = 1 ∨ r 206 b = 2 ∨ r 206 b = 3 ∨ r 206 b = 5 ∨ r 206 b = 6) ∨ r 206 b = 4 ∧ 0 ≤ r 207 b ∧ r 207 b < 4 := by
  rcases hbr.2 with ⟨c0, _⟩ | ⟨c0, _⟩ | ⟨c0, _⟩ | ⟨c0, _⟩ | ⟨z, l, S, B, v, tp, _, _, _, _, c5, _, _, _, c9, _⟩ | ⟨z, m, S, B, P, tp, _, _, _, _, _, _, _, _, _, c10, _⟩ | ⟨c0, _⟩
  · omega
  · omega
  · omega
  · omega
  · rcases c9 with ⟨_, c, _⟩ | ⟨_, c, d, _⟩
    · omega
    · exact .inr ⟨c, by omega, by omega⟩
  · rcases c10 with ⟨_, c, _⟩ | ⟨_, c, _⟩ <;> omega
  · omega
theorem xct_o {r : tab} {bs br j : Nat} : xct r bs br 170 j = r 170 j := by
  unfold xct phE pos
  exact (if_neg (by omega)).trans ((if_neg (by omega)).trans (if_neg (by omega)))
theorem up_eq {r : tab} {k j : Nat} {w : Int} (h : r k j = w) : up2 r k j w = r := by
  funext a c
  by_cases e : a = k ∧ c = j
  · rw [e.1, e.2, h]; exact up_self
  · exact if_neg e
/-- what the loop's four places give -/
def LPf (K : SCt) (M : Nat) (most : Int) (f : Nat) : Prop :=
  (∀ (r s : tab) (Q : Nat → Nat) (n : Nat) (act : Nat → Prop) (lf dr : Nat → Int) (LG : Nat → Prop) (y2 : Int) (v : Option (Int × tab)), REL K M False r s Q n act lf dr LG → r 170 54 = most → (y2 = 0 → ∀ b, QUb r b) → it eB f 22 [y2] r = some v → OUT K M most s Q n v) ∧
  (∀ (r s : tab) (Q : Nat → Nat) (n : Nat) (act : Nat → Prop) (lf dr : Nat → Int) (LG : Nat → Prop) (y2 : Int) (y3 : Nat) (v : Option (Int × tab)), REL K M False r s Q n act lf dr LG → r 170 54 = most → (y2 = 0 → ∀ b, b < y3 → QUb r b) → it eB f 23 [y2, (y3 : Int)] r = some v → OUT K M most s Q n v) ∧
  (∀ (r s : tab) (Q : Nat → Nat) (n : Nat) (act : Nat → Prop) (lf dr : Nat → Int) (LG : Nat → Prop) (b : Nat) (v : Option (Int × tab)), REL K M False r s Q n act lf dr LG → r 170 54 = most → (b : Int) < r 170 55 → it eB f 24 [1, (b : Int)] r = some v → OUT K M most s Q n v) ∧
  (∀ (r s : tab) (Q : Nat → Nat) (n b : Nat) (v : Option (Int × tab)), NXT K M b r s Q n → r 170 54 = most → (b : Int) < r 170 55 → it eB f 24 [1, (b : Int)] r = some v → OUT K M most s Q n v)
theorem lp_4 {f : Nat} (ih : ∀ g, g < f → LPf K M most g) (r s : tab) (Q : Nat → Nat) (n b : Nat) (v : Option (Int × tab)) (hN : NXT K M b r s Q n) (hm : r 170 54 = most) (hb : (b : Int) < r 170 55) (h : it eB f 24 [1, (b : Int)] r = some v) : OUT K M most s Q n v := by
  rcases hN with ⟨k, r9, ps, s9, Q9, n9, act9, lf9, dr9, LG9, a1, a2, a3, a4, a5, a6⟩ | ⟨k, r1, r9, ps, a1, a2, a3, a4, a5, a6, a7, a8⟩ | ⟨k, r9, ps, s9, Q9, n9, a1, a2, a3, a4, a5⟩
  · obtain ⟨g, w1, w2⟩ := ms_19 (k + 1) f r a1 h
    exact OU_pre a2 a3 ((ih g (by omega)).2.2.1 r9 s9 Q9 n9 act9 lf9 dr9 LG9 b v a4 (a5.trans hm) (by omega) w2)
  · obtain ⟨g, w1, w2⟩ := ms_19 (k + 1) f r (MS_tr k r a1 (MS_1 a2 a3 a4)) h
    have e := lv_19 w2 (by omega)
    rw [if_pos a5, a5] at e
    exact ⟨ps, a6, .inr (.inl ⟨_, e, up_self, (if_neg (by omega)).trans a5, ST_e a8 (fun k j q => if_neg (by omega)), by omega⟩)⟩
  · obtain ⟨g, w1, w2⟩ := ms_19 (k + 1) f r a1 h
    have e52 := a4.1
    have e := lv_19 w2 (by omega)
    rw [if_neg (by omega), e52] at e
    exact ⟨ps, a2, .inr (.inr ⟨r9, s9, Q9, n9, e, a3, a4, a5.trans hm⟩)⟩
theorem lp_3 (hK : SPK K) {f : Nat} (ih : ∀ g, g < f → LPf K M most g) (r s : tab) (Q : Nat → Nat) (n : Nat) (act : Nat → Prop) (lf dr : Nat → Int) (LG : Nat → Prop) (b : Nat) (v : Option (Int × tab)) (hR : REL K M False r s Q n act lf dr LG) (hm : r 170 54 = most) (hb : (b : Int) < r 170 55) (h : it eB f 24 [1, (b : Int)] r = some v) : OUT K M most s Q n v := by
  by_cases c : r 206 b = 1
  · exact lp_4 ih r s Q n b v (nx_all hK (TR_of h) hR ⟨hb, by omega⟩ c) hm hb h
  · cases f with
    | zero => cases h
    | succ f =>
      have h : eM162_141 (it eB f) 1 (b : Int) r = some v := h
      unfold eM162_141 at h
      rw [Int.toNat_natCast, if_pos c] at h
      exact (ih f (by omega)).2.1 r s Q n act lf dr LG 1 (b + 1) v hR hm (fun w => absurd w (by decide)) h
theorem lp_2 (hK : SPK K) {f : Nat} (ih : ∀ g, g < f → LPf K M most g) (r s : tab) (Q : Nat → Nat) (n : Nat) (act : Nat → Prop) (lf dr : Nat → Int) (LG : Nat → Prop) (y2 : Int) (y3 : Nat) (v : Option (Int × tab)) (hR : REL K M False r s Q n act lf dr LG) (hm : r 170 54 = most) (hq : y2 = 0 → ∀ b, b < y3 → QUb r b) (h : it eB f 23 [y2, (y3 : Int)] r = some v) : OUT K M most s Q n v := by
  cases f with
  | zero => cases h
  | succ f =>
    obtain ⟨i1, i2, i3, i4⟩ := ih f (by omega)
    obtain ⟨hPS, ⟨hst, hcd⟩, hBR, hinj, hcov, hdrs, hsh, hcn, hex, hst53, hLG, g1, g2, g3, g4, g5, g6, g7, g8⟩ := id hR
    have h : eM162_75 (it eB f) y2 (y3 : Int) r = some v := h
    unfold eM162_75 at h
    by_cases c : r 170 55 ≤ (y3 : Int)
    · rw [if_pos c] at h
      exact i1 r s Q n act lf dr LG y2 v hR hm (fun e b lv => hq e b (by have := lv.1; omega) lv) h
    have go : QUb r y3 → it eB f 23 [y2, (y3 : Int) + 1] r = some v → OUT K M most s Q n v := fun w e => i2 r s Q n act lf dr LG y2 (y3 + 1) v hR hm (fun e b lt => by
      by_cases eb : b = y3
      · rw [eb]; exact w
      · exact hq e b (by omega)) e
    rw [if_neg c, if_neg (fun w => w g6), Int.toNat_natCast] at h
    by_cases c0 : r 206 y3 = 0
    · rw [if_pos c0] at h
      exact go (fun lv => absurd c0 lv.2) h
    rw [if_neg c0] at h
    by_cases c6 : r 206 y3 = 6
    · rw [if_pos c6] at h
      exact go (fun _ => ⟨by omega, fun _ => by omega, fun _ => by omega, fun _ => by omega⟩) h
    rw [if_neg c6] at h
    by_cases c1 : r 206 y3 = 1
    · rw [if_pos c1, up_eq c1] at h
      exact i3 r s Q n act lf dr LG y3 v hR hm (by omega) h
    rw [if_neg c1] at h
    have lv : LVb r y3 := ⟨by omega, c0⟩
    have b7 := (hBR y3 lv).1
    have u54 : ∀ j, up2 r 206 y3 1 170 j = r 170 j := fun j => if_neg (by omega)
    have e10 : eG 10 [(y3 : Int)] r = eM163 eG (y3 : Int) r := eG_163
    unfold eM163 at e10
    rw [if_pos (show (0 : Int) ≤ (y3 : Int) ∧ (y3 : Int) < 700 by omega), Int.toNat_natCast] at e10
    have an : ∀ z t, eG 10 [(y3 : Int)] r = some (some (z, t)) → (if z ≠ 0 then it eB f 24 [1, (y3 : Int)] (up2 t 206 y3 1) else it eB f 23 [y2, (y3 : Int) + 1] t) = some v := fun z t e => by
      rcases bo_inv h with ⟨h9, _⟩ | ⟨z9, t9, h9, h8⟩
      · have := it_eG f _ _ _ _ h9
        rw [e] at this
        cases this
      · have := it_eG f _ _ _ _ h9
        rw [e] at this
        cases this
        exact h8
    rcases st_of (hBR y3 lv) with w | ⟨w, w1, w2⟩
    · by_cases c5 : r 206 y3 = 5
      · rw [if_pos (by omega), if_neg (fun q => q c5)] at e10
        by_cases cq : r 1630 (r 207 y3).toNat ≤ 0
        · rw [if_pos cq] at e10
          have := an _ _ e10
          rw [if_neg (by decide)] at this
          exact go (fun _ => ⟨by omega, fun _ => by omega, fun _ => cq, fun _ => by omega⟩) this
        · rw [if_neg cq] at e10
          have := an _ _ e10
          rw [if_pos (by decide)] at this
          exact i4 (up2 r 206 y3 1) s Q n y3 v (ag_r hK hR lv c5 (by omega)) ((u54 54).trans hm) (by rw [u54]; omega) this
      · have c23 : r 206 y3 = 2 ∨ r 206 y3 = 3 := by omega
        rw [if_pos (by omega), if_pos (by omega)] at e10
        rcases if_66 b7 g2 c23 700 0 (by omega) with ⟨y, y1, yl, y6, y7, yne, ye⟩ | ⟨ye, yn⟩
        · have := an _ _ (e10.trans ye)
          rw [if_pos (by decide)] at this
          have lvy : LVb r y := ⟨yl, by omega⟩
          have y8 := (hBR y lvy).1
          by_cases c2 : r 206 y3 = 2
          · rw [if_pos c2] at this
            obtain ⟨ps, s9, Q9, n9, act9, lf9, dr9, LG9, x1, x2, x3⟩ := ex_go (n := n) hK hR lv lvy c2 (by omega) y7.symm (xc_of (K := K) (r := r) (a := y) (c := y3) b7 y8 (fun e => yne e.symm) (.inr ⟨rfl, rfl⟩))
            have o : ∀ j, up2 (up2 (xct r y3 y) 206 y 1) 206 y3 1 170 j = r 170 j := fun j => (if_neg (by omega)).trans ((if_neg (by omega)).trans xct_o)
            exact OU_pre x1 x2 (i3 _ s9 Q9 n9 act9 lf9 dr9 LG9 y3 v x3 ((o 54).trans hm) (by rw [o]; omega) this)
          · rw [if_neg c2] at this
            obtain ⟨ps, s9, Q9, n9, act9, lf9, dr9, LG9, x1, x2, x3⟩ := ex_go (n := n) hK hR lvy lv (by omega) (by omega) y7 (xc_of (K := K) (r := r) (a := y) (c := y3) y8 b7 yne (.inl ⟨rfl, rfl⟩))
            have o : ∀ j, up2 (up2 (xct r y y3) 206 y 1) 206 y3 1 170 j = r 170 j := fun j => (if_neg (by omega)).trans ((if_neg (by omega)).trans xct_o)
            exact OU_pre x1 x2 (i3 _ s9 Q9 n9 act9 lf9 dr9 LG9 y3 v x3 ((o 54).trans hm) (by rw [o]; omega) this)
        · have := an _ _ (e10.trans ye)
          rw [if_neg (by decide)] at this
          exact go (fun _ => ⟨by omega, fun _ => by omega, fun _ => by omega, fun _ y q1 q2 q3 => yn y (by omega) q1 q2 q3⟩) this
    · have e4 : (ipl 4 (r 207 y3)).toNat = 4 + (r 207 y3).toNat := by
        rw [ipl_e (by omega)]
        omega
      rw [if_neg (fun q => q w), e4] at e10
      by_cases cq : 40 ≤ r 1630 (4 + (r 207 y3).toNat)
      · rw [if_pos cq] at e10
        have := an _ _ e10
        rw [if_neg (by decide)] at this
        exact go (fun _ => ⟨by omega, fun _ => cq, fun _ => by omega, fun _ => by omega⟩) this
      · rw [if_neg cq] at e10
        have := an _ _ e10
        rw [if_pos (by decide)] at this
        exact i4 (up2 r 206 y3 1) s Q n y3 v (ag_s hK hR lv w (by omega)) ((u54 54).trans hm) (by rw [u54]; omega) this
theorem lp_1 {f : Nat} (ih : ∀ g, g < f → LPf K M most g) (r s : tab) (Q : Nat → Nat) (n : Nat) (act : Nat → Prop) (lf dr : Nat → Int) (LG : Nat → Prop) (y2 : Int) (v : Option (Int × tab)) (hR : REL K M False r s Q n act lf dr LG) (hm : r 170 54 = most) (hq : y2 = 0 → ∀ b, QUb r b) (h : it eB f 22 [y2] r = some v) : OUT K M most s Q n v := by
  cases f with
  | zero => cases h
  | succ f =>
    have g6 := hR.2.2.2.2.2.2.2.2.2.2.2.2.2.2.2.2.1
    have h : eM162_59 (it eB f) y2 r = some v := h
    unfold eM162_59 at h
    by_cases c : y2 = 0
    · rw [if_pos c, if_pos (by omega), g6] at h
      cases h
      exact ⟨[], trivial, .inl ⟨r, s, Q, n, act, lf, dr, LG, rfl, rfl, hR, hm, hq c⟩⟩
    · rw [if_neg c, if_neg (fun w => w g6)] at h
      exact (ih f (by omega)).2.1 r s Q n act lf dr LG 0 0 v hR hm (fun _ b lt => absurd lt (by omega)) h
/-- the loop of the reference's run is a run of the parts machine -/
theorem lp_all (hK : SPK K) : ∀ (N f : Nat), f < N → LPf K M most f
  | 0, _, h => absurd h (by omega)
  | N + 1, f, h => by
    have ih : ∀ g, g < f → LPf K M most g := fun g w => lp_all hK N g (by omega)
    exact ⟨lp_1 ih, lp_2 hK ih, lp_3 hK ih, lp_4 ih⟩
theorem lp_go (hK : SPK K) {r s : tab} {Q : Nat → Nat} {n : Nat} {act : Nat → Prop} {lf dr : Nat → Int} {LG : Nat → Prop} {v : Option (Int × tab)} (hR : REL K M False r s Q n act lf dr LG) (h : eG 22 [1] r = some v) : OUT K M (r 170 54) s Q n v := by
  obtain ⟨f, w⟩ := lim_ex h
  exact (lp_all hK (f + 1) f (by omega)).1 r s Q n act lf dr LG 1 v hR rfl (fun e => absurd e (by decide)) w
end LOOP3
