/-! The exchange on a line. -/
section EXCH
variable {K : SCt} {W : Prop} {r r2 s s2 : tab} {Q Q2 : Nat → Nat} {act : Nat → Prop} {lf dr : Nat → Int} {LG : Nat → Prop} {b bs br xs xr M n n2 m l : Nat} {S B P S1 B1 : List Int} {tp tp1 v : Int}
/-- what the exchange does to the reference's table -/
def XCr (K : SCt) (r r2 : tab) (bs br : Nat) : Prop := ∀ (l m : Nat) (v : Int) (S B P B1 : List Int), BVx r bs l (v :: S) B → BVx r br m P B1 → S.length < 10000 → P.length < 10000 → (∀ k j, ¬ ((k = 206 ∨ k = 208) ∧ (j = bs ∨ j = br)) → k ≠ 220 + br → r2 k j = r k j) ∧ r2 206 bs = 1 ∧ r2 206 br = 1 ∧ BVx r2 bs l S B ∧ BVx r2 br m (v :: P) B1
theorem SN_of (hbr : BRx K W r s Q act lf dr LG b) (h2 : r 206 b = 2 ∨ r 206 b = 4) : SND K W r s Q act lf dr LG b := by
  rcases hbr.2 with ⟨c0, _⟩ | ⟨c0, _⟩ | ⟨c0, _⟩ | ⟨c0, _⟩ | h | ⟨z, m, S, B, P, tp, _, _, _, _, _, _, _, _, _, c10, _⟩ | ⟨c0, _⟩
  · omega
  · omega
  · omega
  · omega
  · exact h
  · rcases c10 with ⟨_, c, _⟩ | ⟨_, c, _⟩ <;> omega
  · omega
theorem RC_of (hbr : BRx K W r s Q act lf dr LG b) (h2 : r 206 b = 3 ∨ r 206 b = 5) : RCV K W r s Q act lf dr LG b := by
  rcases hbr.2 with ⟨c0, _⟩ | ⟨c0, _⟩ | ⟨c0, _⟩ | ⟨c0, _⟩ | ⟨z, l, S, B, v, tp, _, _, _, _, _, _, _, _, c9, _⟩ | h | ⟨c0, _⟩
  · omega
  · omega
  · omega
  · omega
  · rcases c9 with ⟨_, c, _⟩ | ⟨_, c, _⟩ <;> omega
  · exact h
  · omega
/-- one turn hands over, where one of the two waits -/
theorem ex_1 (hK : SPK K) (hR : REL K M W r s Q n act lf dr LG) (lbs : LVb r bs) (lbr : LVb r br) (s206 : r 206 bs = 2) (r206 : r 206 br = 3) (e207 : r 207 bs = r 207 br) (hX : XCr K r r2 bs br) (hw : (∃ xs : Nat, lf bs = (xs : Int) ∧ Q xs = 0) ∨ ∃ xr : Nat, lf br = (xr : Int) ∧ Q xr = 0) : ∃ p s2 Q2 n2 act2 lf2 dr2 LG2, 0 < Q p ∧ stx (s, Q, n) p = (s2, Q2, n2) ∧ REL K M W r2 s2 Q2 n2 act2 lf2 dr2 LG2 := by
  obtain ⟨hPS, ⟨hst, hcd⟩, hBR, hinj, hcov, hdrs, hsh, hcn, hex, hst53, hLG, g1, g2, g3, g4, g5, g6, g7, g8⟩ := id hR
  obtain ⟨xs, l, S, B, v, tp, a1, a2, a3, a4, a5, a6, a7, a8, a9, a10, a11, a12, a13⟩ := SN_of (hBR bs lbs) (.inl s206)
  obtain ⟨xr, m, S1, B1, P, tp1, c1, c2, c3, c4, c5, c6, c7, c8, c9, c10, c11, c12, c13⟩ := RC_of (hBR br lbr) (.inl r206)
  have ls : K.1 101 xs < 8 ∧ r 207 bs = K.1 101 xs ∧ BVx r bs l (v :: S) B := by
    rcases a9 with ⟨w1, _, w3, w4⟩ | ⟨_, w, _⟩
    · exact ⟨w1, w3, w4⟩
    · omega
  have lr : K.1 101 xr < 8 ∧ r 207 br = K.1 101 xr ∧ BVx r br (m + 2) (P ++ S1) B1 := by
    rcases c10 with ⟨w1, _, w3, w4⟩ | ⟨_, w, _⟩
    · exact ⟨w1, w3, w4⟩
    · omega
  have eL : K.1 101 xr = K.1 101 xs := by omega
  obtain ⟨_, _, _, _, _, _, rc6, _⟩ := id c6
  have kss : s 100 xs = 406 := (hst 100 xs (by omega)).trans a4
  have ksr : s 100 xr = 407 := (hst 100 xr (by omega)).trans c4
  have s1 := hst 101 xs (by omega)
  have r1 := hst 101 xr (by omega)
  have r3 := hst 103 xr (by omega)
  have ns : NoC s act xs := by
    rcases (LF_x hPS hst (hBR bs lbs) a1).2 with w | w
    · exact w
    · have := w.1; omega
  have nr : NoC s act xr := by
    rcases (LF_x hPS hst (hBR br lbr) c1).2 with w | w
    · exact w
    · have := w.1; omega
  have lS := (REL_len hK hR a3 a12).1
  have lS1 := (REL_len hK hR c3 c12).1
  have lP : P.length ≤ 1 := by
    rcases c7 with ⟨_, _, e⟩ | ⟨_, v, e, _⟩
    · rw [e]; exact Nat.zero_le 1
    · rw [e]; exact Nat.le_refl 1
  obtain ⟨o, e6s, e6r, bvs, bvr⟩ := hX l (m + 2) v S B (P ++ S1) B1 ls.2.2 lr.2.2 (by omega) (by rw [List.length_append]; omega)
  have ev : vax s (s 102 xs) = v := by rw [hst 102 xs (by omega)]; exact PV_v hst hPS a3 (by omega) a8
  have t0 := trn_0 (s := s) (p := xr)
  have hx := hex (K.1 101 xs).toNat (by omega)
  by_cases qs : Q xs = 0
  · -- the one that sends waits
    have w152 : s 152 (K.1 101 xs).toNat = (xs : Int) := by
      rcases a11 with w | ⟨_, _, w⟩
      · omega
      · exact w
    have qr : Q xr = 1 := by
      rcases c11 with w | ⟨_, _, _, w⟩
      · exact w
      · rw [eL] at w; omega
    have hsg : sgu s xr (trn s xr) ≠ 0 := by
      unfold sgu
      by_cases c : s 103 xr < 0
      · rw [if_pos c]; omega
      · rw [if_neg c]
        unfold trn
        rw [if_neg (by omega)]
        omega
    obtain ⟨s2, Q2, n2, x1, x2, x3, x4, ⟨x5, x6, x7, x8⟩, x9, x10, x11, x12⟩ := mv_h2 (n := n) (R := xs) hPS (show 0 < Q xr by omega) ksr ⟨by omega, .inr ⟨ksr, hsg, c5⟩⟩ (by rw [r1, eL]; exact w152)
    have xne := x4.2.2.1
    obtain ⟨lf2, dr2, y⟩ := t_ho (n2 := n2) (v := v) hR lbs lbr s206 r206 a1 a2 a3 a4 a7 a12 a13 c1 c2 c3 c4 c6 c7 c12 c13 ns nr x2 x3 (x5.trans ev) x6 (by
      rw [x8]
      refine ⟨by omega, ?_⟩
      unfold sgu
      by_cases c : K.1 103 xr < 0
      · rw [if_pos c]; omega
      · rw [if_neg c]
        unfold trn
        rw [if_neg (by omega)]
        omega) (fun k j w1 w2 w3 w4 w5 w6 => x9 k j (by omega) (by omega) (by omega) (by omega) w6) (fun k L w => by
        by_cases e : k = 152 ∧ L = (s 101 xr).toNat
        · rw [e.1, e.2]
          exact .inr ⟨x7, .inl (by rw [r1, eL]; exact w152)⟩
        · exact .inl (x9 k L (by omega) (by omega) (by omega) e (by omega))) x10 (fun z => by
        rw [x11]
        by_cases e : z = xr
        · rw [if_pos e, if_pos e]
        · rw [if_neg e, if_neg e]
          by_cases e2 : z = xs
          · rw [if_pos e2, e2, qs]
          · rw [if_neg e2]) (by
        rw [x12, Int.natCast_add]
        by_cases c : s 144 xr < 0
        · rw [if_pos c, ind_t (c9.mpr c)]; rfl
        · rw [if_neg c, ind_f (fun w => c (c9.mp w))]; rfl) o e6s e6r bvs bvr
    exact ⟨xr, s2, Q2, n2, _, lf2, dr2, _, by omega, x1, y⟩
  · -- the one that receives waits
    have qs1 : Q xs = 1 := by
      rcases a11 with w | ⟨_, w, _⟩
      · exact w
      · exact absurd w qs
    have qr : Q xr = 0 := by
      rcases hw with ⟨z, w1, w2⟩ | ⟨z, w1, w2⟩
      · rw [show z = xs by omega] at w2; exact absurd w2 qs
      · rw [show z = xr by omega] at w2; exact w2
    obtain ⟨wa, wb⟩ : (0 ≤ s 144 xr ∧ 2 ≤ sgu K.1 xr (s 144 xr)) ∧ s 153 (K.1 101 xr).toNat = (xr : Int) := by
      rcases c11 with w | ⟨_, _, w⟩
      · omega
      · exact w
    have txs : trn s xs = s 144 xs := if_neg (by omega)
    obtain ⟨s2, Q2, n2, x1, x2, x3, x4, ⟨x5, x6, x7⟩, x9, x10, x11, x12⟩ := mv_h1 (n := n) (R := xr) hPS (show 0 < Q xs by omega) kss ⟨by omega, .inl ⟨kss, by omega⟩⟩ (by rw [s1, ← eL]; exact wb)
    have xne := x4.2.2.1
    have e44 : s2 144 xr = s 144 xr := x9 144 xr (by omega) (by omega) (by omega) (by omega) (by omega)
    obtain ⟨lf2, dr2, y⟩ := t_ho (n2 := n2) (v := v) hR lbs lbr s206 r206 a1 a2 a3 a4 a7 a12 a13 c1 c2 c3 c4 c6 c7 c12 c13 ns nr x2 x3 (x5.trans ev) x6 (by rw [e44]; exact wa) (fun k j w1 w2 w3 w4 w5 w6 => x9 k j (by omega) (by omega) (by omega) (by omega) w6) (fun k L w => by
        by_cases e : k = 153 ∧ L = (s 101 xs).toNat
        · rw [e.1, e.2]
          exact .inr ⟨x7, .inr (by rw [s1, ← eL]; exact wb)⟩
        · exact .inl (x9 k L (by omega) (by omega) (by omega) e (by omega))) x10 (fun z => x11 z) (by
        rw [x12, Int.natCast_add, if_neg (by omega), ind_f (fun w => by have := c9.mp w; omega)]; rfl) o e6s e6r bvs bvr
    exact ⟨xs, s2, Q2, n2, _, lf2, dr2, _, by omega, x1, y⟩
/-- the exchange -/
theorem ex_go (hK : SPK K) (hR : REL K M W r s Q n act lf dr LG) (lbs : LVb r bs) (lbr : LVb r br) (s206 : r 206 bs = 2) (r206 : r 206 br = 3) (e207 : r 207 bs = r 207 br) (hX : XCr K r r2 bs br) : ∃ ps s2 Q2 n2 act2 lf2 dr2 LG2, okx rdx stx (s, Q, n) ps ∧ rnx stx (s, Q, n) ps = (s2, Q2, n2) ∧ REL K M W r2 s2 Q2 n2 act2 lf2 dr2 LG2 := by
  obtain ⟨hPS, ⟨hst, hcd⟩, hBR, _⟩ := id hR
  have hS := SN_of (hBR bs lbs) (.inl s206)
  have hC := RC_of (hBR br lbr) (.inl r206)
  obtain ⟨xs, l, S, B, v, tp, a1, a2, a3, a4, a5, a6, a7, a8, a9, a10, a11, a12, a13⟩ := id hS
  obtain ⟨xr, m, S1, B1, P, tp1, c1, c2, c3, c4, c5, c6, c7, c8, c9, c10, c11, c12, c13⟩ := id hC
  have ls : K.1 101 xs < 8 ∧ r 207 bs = K.1 101 xs := by
    rcases a9 with ⟨w1, _, w3, w4⟩ | ⟨_, w, _⟩
    · exact ⟨w1, w3⟩
    · omega
  have lr : r 207 br = K.1 101 xr := by
    rcases c10 with ⟨w1, _, w3, w4⟩ | ⟨_, w, _⟩
    · exact w3
    · omega
  by_cases w : Q xs = 0 ∨ Q xr = 0
  · obtain ⟨p, s2, Q2, n2, act2, lf2, dr2, LG2, y1, y2, y3⟩ := ex_1 hK hR lbs lbr s206 r206 e207 hX (w.imp (fun q => ⟨xs, a1, q⟩) (fun q => ⟨xr, c1, q⟩))
    exact ⟨[p], s2, Q2, n2, act2, lf2, dr2, LG2, ⟨y1, trivial⟩, y2, y3⟩
  · have qs : Q xs = 1 := a11.elim id (fun q => absurd (.inl q.2.1) w)
    have qr : Q xr = 1 := c11.elim id (fun q => absurd (.inr q.2.1) w)
    have nr : NoC s act xr := by
      rcases (LF_x hPS hst (hBR br lbr) c1).2 with w | w
      · exact w
      · have := w.1; rw [hst 100 xr (by omega)] at this; omega
    have no : s 153 (K.1 101 xs).toNat < 0 := Classical.byContradiction fun q => by
      obtain ⟨⟨cx, anc, hJ⟩, _⟩ := id hPS
      have wt := (hJ.2.2.2.2.2.2.2.1 (K.1 101 xs).toNat (by omega)).2.2 (by omega)
      have e := one_ch hPS c3 wt.1 nr wt.2.2.1 (.inr ⟨(hst 100 xr (by omega)).trans c4, wt.2.2.2.1⟩) (by rw [wt.2.2.2.2.1, hst 101 xr (by omega)]; omega)
      have w0 := wt.2.1
      rw [← e] at w0
      omega
    obtain ⟨s2, Q2, n2, x1, x2, x3, _⟩ := wt_s (n := n) hR lbs hS a1 qs (.inr ls.1) (fun _ => no) (fun q => by omega)
    obtain ⟨p, s4, Q4, n4, act2, lf2, dr2, LG2, y1, y2, y3⟩ := ex_1 hK x2 lbs lbr s206 r206 e207 hX (.inl ⟨xs, a1, x3⟩)
    exact ⟨[xs, p], s4, Q4, n4, act2, lf2, dr2, LG2, ⟨show 0 < Q xs by omega, by rw [x1]; exact ⟨y1, trivial⟩⟩, by show stx (stx (s, Q, n) xs) p = _; rw [x1]; exact y2, y3⟩
/-- what isFree does when it finds another -/
def xct (r : tab) (bs br : Nat) : tab := phE (pos r (bs : Int)) (br : Int) (poz r (bs : Int))
theorem xc_of {a c : Nat} (h1 : bs < 700) (h2 : br < 700) (ne : bs ≠ br) (hac : a = bs ∧ c = br ∨ a = br ∧ c = bs) : XCr K r (up2 (up2 (xct r bs br) 206 a 1) 206 c 1) bs br := fun l m v S B P B1 hs hr lS lP => by
  obtain ⟨p1, p2, p3⟩ := BV_po h1 hs (by omega)
  have hr2 : BVx (pos r (bs : Int)) br m P B1 := BV_fr hr (fun k j w => p3 k j (by omega) (by
    rcases w with w | w | w <;> omega) (by
    rcases w with w | w | w <;> omega))
  obtain ⟨q1, q2⟩ := BV_ph (v := v) h2 hr2 (by omega)
  have ex : xct r bs br = phE (pos r (bs : Int)) (br : Int) v := by
    unfold xct
    rw [p1]
  have p4 : ∀ k j, ¬ (k = 208 ∧ j = bs) → pos r (bs : Int) k j = r k j := fun k j w => by
    unfold pos
    rw [Int.toNat_natCast]
    exact if_neg w
  have q4 : ∀ k j, ¬ (k = 208 ∧ j = br) → k ≠ 220 + br → phE (pos r (bs : Int)) (br : Int) v k j = pos r (bs : Int) k j := fun k j w1 w2 => by
    unfold phE
    rw [Int.toNat_natCast]
    exact (if_neg w1).trans (if_neg (fun q => w2 q.1))
  have o : ∀ k j, ¬ (k = 206 ∧ (j = bs ∨ j = br)) → up2 (up2 (xct r bs br) 206 a 1) 206 c 1 k j = phE (pos r (bs : Int)) (br : Int) v k j := fun k j w => by
    rw [← ex]
    exact (if_neg (by omega)).trans (if_neg (by omega))
  refine ⟨fun k j w1 w2 => (o k j (by omega)).trans ((q4 k j (by omega) w2).trans (p4 k j (by omega))), ?_, ?_, ?_, ?_⟩
  · rcases hac with ⟨e1, e2⟩ | ⟨e1, e2⟩
    · rw [e1, e2]; exact (if_neg (by omega)).trans up_self
    · rw [e2]; exact up_self
  · rcases hac with ⟨e1, e2⟩ | ⟨e1, e2⟩
    · rw [e2]; exact up_self
    · rw [e1, e2]; exact (if_neg (by omega)).trans up_self
  · exact BV_fr p2 (fun k j w => (o k j (by omega)).trans (q2 k j (by omega) (by omega) (by omega)))
  · exact BV_fr q1 (fun k j w => o k j (by omega))
end EXCH
