/-! What holds between turns is kept by every turn: PARs, chans, all. -/
section STEPY
variable {s s2 : tab} {Q Q2 : Nat → Nat} {act : Nat → Prop} {cx : Nat → Cxx} {anc : Nat → Nat → Prop} {p : Nat}
theorem bw_t : ∀ (n : Nat) (y : Int) (t : tab), (∀ i, i < n → 0 ≤ nth s i y ∧ nth s i y < s 99 12) → s 99 12 ≤ 2000 → (∀ i j, i < n → j < n → nth s i y = nth s j y → i = j) →
    (∀ k j, k ≠ 143 → k ≠ 144 → apw (bwx s p n y).1 t k j = t k j) ∧ (∀ k j : Nat, (∀ i, i < n → (j : Int) ≠ nth s i y) → apw (bwx s p n y).1 t k j = t k j) ∧ (∀ i, i < n → apw (bwx s p n y).1 t 143 (nth s i y).toNat = (p : Int) ∧ apw (bwx s p n y).1 t 144 (nth s i y).toNat = -1) ∧
    (∀ r : Nat, (∀ i, i < n → (r : Int) ≠ nth s i y) → (bwx s p n y).2.count (r : Int) = 0) ∧ ∀ i, i < n → (bwx s p n y).2.count (nth s i y) = 1
  | 0, y, t, _, _, _ => ⟨fun _ _ _ _ => rfl, fun _ _ _ => rfl, fun i hi => absurd hi (Nat.not_lt_zero _), fun _ _ => List.count_nil, fun i hi => absurd hi (Nat.not_lt_zero _)⟩
  | n + 1, y, t, h, hz, hi => by
    obtain ⟨y0, y1⟩ := h 0 (Nat.succ_pos _)
    have y0 : 0 ≤ y := y0
    have y1 : y < s 99 12 := y1
    obtain ⟨c, hc⟩ : ∃ c : Nat, y = (c : Int) := ⟨y.toNat, (Int.toNat_of_nonneg y0).symm⟩
    have hb : bwx s p (n + 1) y = ((143, c, (p : Int)) :: (144, c, -1) :: (bwx s p n (flx s y)).1, (c : Int) :: (bwx s p n (flx s y)).2) := by
      show cax (awx s y p) (bwx s p n (flx s y)) = _
      unfold cax awx pux
      rw [if_pos ⟨y0, y1⟩, if_pos ⟨y0, by omega⟩, hc, Int.toNat_natCast]
      dsimp only [List.cons_append, List.nil_append]
    obtain ⟨a1, a2, a3, a4, a5⟩ := bw_t n (flx s y) (up2 (up2 t 143 c (p : Int)) 144 c (-1)) (fun i q => h (i + 1) (Nat.succ_lt_succ q)) hz (fun i j q r e => by have := hi (i + 1) (j + 1) (Nat.succ_lt_succ q) (Nat.succ_lt_succ r) e; omega)
    have n0 : ∀ i, i < n → (c : Int) ≠ nth s i (flx s y) := fun i q e => by
      have := hi 0 (i + 1) (Nat.succ_pos _) (Nat.succ_lt_succ q) (hc.trans e)
      omega
    rw [hb]
    dsimp only
    rw [apw_cons, apw_cons]
    dsimp only
    refine ⟨fun k j k1 k2 => ?_, fun k j q => ?_, fun i q => ?_, fun r q => ?_, fun i q => ?_⟩
    · rw [a1 k j k1 k2]
      exact (if_neg (fun e => k2 e.1)).trans (if_neg (fun e => k1 e.1))
    · have jc : j ≠ c := fun e => q 0 (Nat.succ_pos _) (by rw [e]; exact hc.symm)
      rw [a2 k j (fun i r => q (i + 1) (Nat.succ_lt_succ r))]
      exact (if_neg (fun e => jc e.2)).trans (if_neg (fun e => jc e.2))
    · cases i with
      | zero =>
        have e : (nth s 0 y).toNat = c := by
          show y.toNat = c
          rw [hc, Int.toNat_natCast]
        rw [e, a2 143 c n0, a2 144 c n0]
        exact ⟨(if_neg (by omega)).trans up_self, up_self⟩
      | succ i => exact a3 i (Nat.lt_of_succ_lt_succ q)
    · rw [List.count_cons, a4 r (fun i z => q (i + 1) (Nat.succ_lt_succ z))]
      have : ¬ (c : Int) = (r : Int) := fun e => q 0 (Nat.succ_pos _) (e.symm.trans hc.symm)
      simp only [beq_iff_eq]
      rw [if_neg this]
    · cases i with
      | zero =>
        have e : nth s 0 y = (c : Int) := hc
        rw [e, List.count_cons, a4 c n0]
        simp
      | succ i =>
        have e : nth s (i + 1) y = nth s i (flx s y) := rfl
        rw [e, List.count_cons, a5 i (Nat.lt_of_succ_lt_succ q)]
        have : ¬ (c : Int) = nth s i (flx s y) := n0 i (Nat.lt_of_succ_lt_succ q)
        simp only [beq_iff_eq]
        rw [if_neg this]
/-- a PAR begins -/
theorem st_P (h : JGx s Q act cx anc) {n : Nat} (hq : Q p = 1) (hn : NoC s act p) (ap : act p) (hk : s 100 p = 312) (h0 : trn s p = 0) : ∃ c r, JGx (stx (s, Q, n) p).1 (stx (s, Q, n) p).2.1 (fun q => act q ∨ ∃ i, i < (s 102 p).toNat ∧ q = (nth s i (s 101 p)).toNat) c r := by
  have hW : Wrx s p = cax ([(144, p, 1)], []) (bwx s p (s 102 p).toNat (s 101 p)) := by
    unfold Wrx gwx
    rw [if_neg (fun q => absurd (q.1.symm.trans hk) (by decide)), hk, if_neg (by decide), if_neg (by decide), if_neg (by decide), if_neg (by decide), if_neg (by decide), if_neg (by decide), if_neg (by decide), if_pos rfl, if_pos h0, h0]
    rfl
  obtain ⟨_, hlt, _, _, _, _, _, _, _, _, _, _, _, _, _, k13⟩ := EF_k (h.2.2.1 p ap).1
  obtain ⟨⟨g1, g2⟩, cs, g3, g4⟩ := k13 hk
  have hz := h.2.1
  obtain ⟨m, hm⟩ : ∃ m : Nat, s 102 p = (m : Int) := ⟨(s 102 p).toNat, by omega⟩
  have hm2 : (s 102 p).toNat = m := by omega
  rw [hm2] at hW g3 g4 ⊢
  have inj : ∀ i j, i < m → j < m → nth s i (s 101 p) = nth s j (s 101 p) → i = j := fun i j hi hj e => Classical.byContradiction fun ne => by
    have a := EF_p (g3 i hi).2.2.2.2
    have b := EF_p (g3 j hj).2.2.2.2
    rw [e] at a
    exact (g4 i j hi hj ne).1 _ ⟨a, b⟩
  have rng : ∀ i, i < m → 0 ≤ nth s i (s 101 p) ∧ nth s i (s 101 p) < s 99 12 := fun i hi => by
    have := (g3 i hi).2.2
    exact ⟨this.1, by have := this.2.1; omega⟩
  obtain ⟨a1, a2, a3, a4, a5⟩ := bw_t (p := p) m (s 101 p) (up2 s 144 p 1) rng hz inj
  have pn : ∀ i, i < m → (p : Int) ≠ nth s i (s 101 p) := fun i hi e => by
    have := (g3 i hi).2.2.2.1
    omega
  unfold stx
  dsimp only
  rw [hW]
  unfold cax
  dsimp only [List.cons_append, List.nil_append]
  rw [apw_cons]
  dsimp only
  have nj : ∀ {j : Nat}, (∀ i, i < m → j ≠ (nth s i (s 101 p)).toNat) → ∀ i, i < m → (j : Int) ≠ nth s i (s 101 p) := fun z i hi e => z i hi (by rw [← e, Int.toNat_natCast])
  refine J_par h (by omega) hn hk hm (m := fun i => (nth s i (s 101 p)).toNat) (cs := cs) (fun i hi => ?_) g4 (fun k j hk => (a1 k j (by omega) (by omega)).trans (if_neg (by omega))) (fun i hi => (a3 i hi).1) (fun j hj => (a2 143 j (nj hj)).trans (if_neg (by omega))) (fun i hi => (a3 i hi).2) ((a2 144 p pn).trans up_self) (fun j h1 h2 => (a2 144 j (nj h2)).trans (if_neg (fun e => h1 e.2))) (fun j => (a1 146 j (by omega) (by omega)).trans (if_neg (by omega))) (fun L => ⟨(a1 152 L (by omega) (by omega)).trans (if_neg (by omega)), (a1 153 L (by omega) (by omega)).trans (if_neg (by omega))⟩) (fun i hi => ?_) ?_ (fun r h1 h2 => ?_)
  · obtain ⟨b1, b2, b3, b4, b5⟩ := g3 i hi
    exact ⟨by omega, b5, b1, b2⟩
  · rw [Int.toNat_of_nonneg (rng i hi).1, a5 i hi, if_neg (fun e => pn i hi ((congrArg Int.ofNat e).symm.trans (Int.toNat_of_nonneg (rng i hi).1)))]
    omega
  · rw [if_pos rfl, a4 p pn, hq]
  · rw [if_neg h1, a4 r (nj h2)]
    omega
/-- two meet at a chan -/
theorem C_pt (h : JGx s Q act cx anc) {K L R : Nat} (hK : K = 152 ∨ K = 153) (hL : L < 12) (hR : s K L = (R : Int)) : act R ∧ Q R = 0 ∧ NoC s act R ∧ (K = 152 ∧ s 100 R = 406 ∨ K = 153 ∧ s 100 R = 407) ∧ ∀ k M, k = 152 ∨ k = 153 → M < 12 → (up2 s K L (-1) k M = s k M ∨ up2 s K L (-1) k M = -1) ∧ up2 s K L (-1) k M ≠ (R : Int) := by
  have hw := h.2.2.2.2.2.2.2.1 L hL
  obtain ⟨aR, zR, nR, kR⟩ : act R ∧ Q R = 0 ∧ NoC s act R ∧ (K = 152 ∧ s 100 R = 406 ∨ K = 153 ∧ s 100 R = 407) := by
    rcases hK with e | e
    · rw [e] at hR
      have := hw.1.2 (by omega)
      rw [hR, Int.toNat_natCast] at this
      exact ⟨this.1, this.2.1, this.2.2.1, .inl ⟨e, this.2.2.2.1⟩⟩
    · rw [e] at hR
      have := hw.2.2 (by omega)
      rw [hR, Int.toNat_natCast] at this
      exact ⟨this.1, this.2.1, this.2.2.1, .inr ⟨e, this.2.2.2.1⟩⟩
  have all : ∀ M, M < 12 → (∀ j : Nat, s 152 M = (j : Int) → s 100 j = 406 ∧ s 101 j = (M : Int)) ∧ ∀ j : Nat, s 153 M = (j : Int) → s 100 j = 407 ∧ s 101 j = (M : Int) := fun M hM => by
    have w := h.2.2.2.2.2.2.2.1 M hM
    refine ⟨fun j e => ?_, fun j e => ?_⟩
    · have := w.1.2 (by omega)
      rw [e, Int.toNat_natCast] at this
      exact ⟨this.2.2.2.1, this.2.2.2.2.1⟩
    · have := w.2.2 (by omega)
      rw [e, Int.toNat_natCast] at this
      exact ⟨this.2.2.2.1, this.2.2.2.2.1⟩
  have rl : s 101 R = (L : Int) := by
    rcases hK with e | e
    · rw [e] at hR
      exact ((all L hL).1 R hR).2
    · rw [e] at hR
      exact ((all L hL).2 R hR).2
  refine ⟨aR, zR, nR, kR, fun k M hk hM => ?_⟩
  by_cases e : k = K ∧ M = L
  · rw [e.1, e.2, up_self]
    exact ⟨.inr rfl, fun z => by omega⟩
  · rw [show up2 s K L (-1) k M = s k M from if_neg e]
    refine ⟨.inl rfl, fun z => e ?_⟩
    have := all M hM
    rcases hk with rfl | rfl
    · have := this.1 R z
      rcases kR with ⟨q, _⟩ | ⟨_, q⟩
      · exact ⟨q.symm, by omega⟩
      · exact absurd (this.1.symm.trans q) (by decide)
    · have := this.2 R z
      rcases kR with ⟨_, q⟩ | ⟨q, _⟩
      · exact absurd (this.1.symm.trans q) (by decide)
      · exact ⟨q.symm, by omega⟩
/-- the one that sends finds the other -/
theorem st_C1 (h : JGx s Q act cx anc) {n : Nat} (hq : Q p = 1) (hk : s 100 p = 406) {L R : Nat} (hL : L < 12) (hR : s 153 L = (R : Int)) {pre : wrl} (hp : PREx p pre) {ps : List Int} (hps : ∀ r : Nat, ps.count (r : Int) = (if R = r then 1 else 0) + (if s 143 p = (r : Int) then 1 else 0)) (hW : Wrx s p = ((144, p, trn s p + 1) :: (pre ++ [(153, L, -1)]), ps)) : ∃ c r, JGx (stx (s, Q, n) p).1 (stx (s, Q, n) p).2.1 (fun r => act r ∧ r ≠ p) c r := by
  obtain ⟨aR, zR, nR, kR, lR⟩ := C_pt h (.inr rfl) hL hR
  have kR : s 100 R = 407 := by
    rcases kR with ⟨q, _⟩ | ⟨_, q⟩
    · omega
    · exact q
  have npR : p ≠ R := fun e => by rw [← e] at zR; omega
  obtain ⟨s1, hs1⟩ : ∃ s1, s1 = up2 s 153 L (-1) := ⟨_, rfl⟩
  rw [← hs1] at lR
  have o1 : ∀ k j, ¬ (k = 153 ∧ j = L) → s1 k j = s k j := fun k j z => by
    rw [hs1]
    exact if_neg z
  obtain ⟨c1, r1, h1⟩ := J_rdy (s2 := s1) (Q2 := fun r => if r = R then 1 else Q r) h aR nR (.inr kR) (fun k j hk => o1 k j (by omega)) (fun j => o1 _ _ (by omega)) (fun j _ => o1 _ _ (by omega)) (fun j _ => o1 _ _ (by omega)) (fun M hM => ⟨lR 152 M (.inl rfl) hM, lR 153 M (.inr rfl) hM⟩) (fun r => rfl)
  have qp : 0 < (if p = R then 1 else Q p) := by
    rw [if_neg npR]
    omega
  obtain ⟨ap1, bp⟩ := h1.2.2.2.2.2.2.1 p qp
  have nw1 := J_nw h1 (p := p) qp
  obtain ⟨b1, b2, b3, b4, b5, b6⟩ := pre_o hp (up2 s 144 p (trn s p + 1))
  obtain ⟨s2, hs2⟩ : ∃ s2, s2 = up2 (apw pre (up2 s 144 p (trn s p + 1))) 153 L (-1) := ⟨_, rfl⟩
  have eT : apw (Wrx s p).1 s = s2 := by
    rw [hW, hs2]
    dsimp only
    rw [apw_cons, apw_app, apw_cons, apw_nil]
  have o2 : ∀ k j, ¬ (k = 153 ∧ j = L) → s2 k j = apw pre (up2 s 144 p (trn s p + 1)) k j := fun k j z => by
    rw [hs2]
    exact if_neg z
  have lines : ∀ k M, k = 152 ∨ k = 153 → s2 k M = s1 k M := fun k M hk => by
    by_cases e : k = 153 ∧ M = L
    · rw [e.1, e.2, hs1, hs2, up_self, up_self]
    · rw [o1 _ _ e, o2 _ _ e]
      rcases hk with rfl | rfl
      · exact (b4 M).trans (if_neg (by omega))
      · exact (b5 M).trans (if_neg (by omega))
  have np1 : NoC s1 act p := (bp (fun z => by
    have := z.1
    rw [o1 100 p (by omega), hk] at this
    exact absurd this (by decide))).2
  unfold stx
  dsimp only
  rw [eT]
  refine J_tell h1 ap1 np1 (fun k j hk => (o2 k j (by omega)).trans ((b1 k j hk).trans ((if_neg (by omega)).trans (o1 k j (by omega)).symm))) (fun j => (o2 _ _ (by omega)).trans ((b2 j).trans ((if_neg (by omega)).trans (o1 _ _ (by omega)).symm))) (fun j hj => (o2 _ _ (by omega)).trans ((b3 j).trans ((if_neg (fun e => hj e.2)).trans (o1 _ _ (by omega)).symm))) (fun j hj => (o2 _ _ (by omega)).trans ((b6 j hj).trans ((if_neg (by omega)).trans (o1 _ _ (by omega)).symm))) (fun M hM => ?_) (fun r => ?_)
  · rw [lines 152 M (.inl rfl), lines 153 M (.inr rfl)]
    exact ⟨⟨.inl rfl, (nw1 M hM).1⟩, .inl rfl, (nw1 M hM).2⟩
  · rw [hW]
    dsimp only
    rw [hps, o1 143 p (by omega)]
    by_cases e : r = p
    · rw [e, if_pos rfl, if_pos rfl, if_neg (fun z => npR z.symm), hq]
      omega
    · rw [if_neg e, if_neg e]
      by_cases e2 : r = R
      · rw [e2, if_pos rfl, if_pos rfl, zR]
        omega
      · rw [if_neg e2, if_neg (fun z => e2 z.symm)]
        omega
/-- the one that receives finds the other -/
theorem st_C2 (h : JGx s Q act cx anc) {n : Nat} (hq : Q p = 1) (hk : s 100 p = 407) {L R : Nat} (hL : L < 12) (hR : s 152 L = (R : Int)) {pre : wrl} (hp : PREx p pre) {ps : List Int} (hps : ∀ r : Nat, ps.count (r : Int) = (if p = r then 1 else 0) + (if s 143 R = (r : Int) then 1 else 0)) (hW : Wrx s p = ((144, p, trn s p + 1) :: (pre ++ [(152, L, -1)]), ps)) : ∃ c r, JGx (stx (s, Q, n) p).1 (stx (s, Q, n) p).2.1 (fun r => act r ∧ r ≠ R) c r := by
  obtain ⟨aR, zR, nR, kR, lR⟩ := C_pt h (.inl rfl) hL hR
  obtain ⟨s1, hs1⟩ : ∃ s1, s1 = up2 s 152 L (-1) := ⟨_, rfl⟩
  rw [← hs1] at lR
  have o1 : ∀ k j, ¬ (k = 152 ∧ j = L) → s1 k j = s k j := fun k j z => by
    rw [hs1]
    exact if_neg z
  obtain ⟨c1, r1, h1⟩ := J_tell (s2 := s1) (Q2 := fun r => (if r = R then 0 else Q r) + (if s 143 R = (r : Int) then 1 else 0)) h aR nR (fun k j hk => o1 k j (by omega)) (fun j => o1 _ _ (by omega)) (fun j _ => o1 _ _ (by omega)) (fun j _ => o1 _ _ (by omega)) (fun M hM => ⟨lR 152 M (.inl rfl) hM, lR 153 M (.inr rfl) hM⟩) (fun r => rfl)
  have npR : p ≠ R := fun e => by rw [← e] at zR; omega
  have qp : 0 < (if p = R then 0 else Q p) + (if s 143 R = (p : Int) then 1 else 0) := by
    rw [if_neg npR]
    omega
  obtain ⟨ap, bp⟩ := h1.2.2.2.2.2.2.1 p qp
  have nw1 := J_nw h1 (p := p) qp
  have k1 : s1 100 p = s 100 p := o1 _ _ (by omega)
  obtain ⟨qp1, np⟩ := bp (fun z => by
    have := z.1
    rw [k1, hk] at this
    exact absurd this (by decide))
  have qp1 : (if p = R then 0 else Q p) + (if s 143 R = (p : Int) then 1 else 0) = 1 := qp1
  rw [if_neg npR, hq] at qp1
  have nR1 : ¬ s 143 R = (p : Int) := fun e => by
    rw [if_pos e] at qp1
    omega
  obtain ⟨b1, b2, b3, b4, b5, b6⟩ := pre_o hp (up2 s 144 p (trn s p + 1))
  obtain ⟨s2, hs2⟩ : ∃ s2, s2 = up2 (apw pre (up2 s 144 p (trn s p + 1))) 152 L (-1) := ⟨_, rfl⟩
  have eT : apw (Wrx s p).1 s = s2 := by
    rw [hW, hs2]
    dsimp only
    rw [apw_cons, apw_app, apw_cons, apw_nil]
  have o2 : ∀ k j, ¬ (k = 152 ∧ j = L) → s2 k j = apw pre (up2 s 144 p (trn s p + 1)) k j := fun k j z => by
    rw [hs2]
    exact if_neg z
  have lines : ∀ k M, k = 152 ∨ k = 153 → s2 k M = s1 k M := fun k M hk => by
    by_cases e : k = 152 ∧ M = L
    · rw [e.1, e.2, hs1, hs2, up_self, up_self]
    · rw [o1 _ _ e, o2 _ _ e]
      rcases hk with rfl | rfl
      · exact (b4 M).trans (if_neg (by omega))
      · exact (b5 M).trans (if_neg (by omega))
  unfold stx
  dsimp only
  rw [eT]
  refine J_rdy h1 ap np (.inr (k1.trans hk)) (fun k j hk => (o2 k j (by omega)).trans ((b1 k j hk).trans ((if_neg (by omega)).trans (o1 k j (by omega)).symm))) (fun j => (o2 _ _ (by omega)).trans ((b2 j).trans ((if_neg (by omega)).trans (o1 _ _ (by omega)).symm))) (fun j hj => (o2 _ _ (by omega)).trans ((b3 j).trans ((if_neg (fun e => hj e.2)).trans (o1 _ _ (by omega)).symm))) (fun j hj => (o2 _ _ (by omega)).trans ((b6 j hj).trans ((if_neg (by omega)).trans (o1 _ _ (by omega)).symm))) (fun M hM => ?_) (fun r => ?_)
  · rw [lines 152 M (.inl rfl), lines 153 M (.inr rfl)]
    exact ⟨⟨.inl rfl, (nw1 M hM).1⟩, .inl rfl, (nw1 M hM).2⟩
  · rw [hW]
    dsimp only
    rw [hps]
    by_cases e : r = p
    · rw [e, if_pos rfl, if_pos rfl, if_neg nR1, hq]
    · rw [if_neg e, if_neg e, if_neg (fun z => e z.symm)]
      by_cases e2 : r = R
      · rw [e2, if_pos rfl, zR]
        omega
      · rw [if_neg e2]
        omega
theorem cn_app {a b : Int} {r : Nat} (ha : a < 2000) (hb : b < 2000) : (pux a ++ pux b).count (r : Int) = (if a = (r : Int) then 1 else 0) + (if b = (r : Int) then 1 else 0) := by
  rw [List.count_append, cn1 ha, cn1 hb]
theorem tw_2 {a : Nat} {v : Int} (h : (a : Int) < s 99 12) : (twx s (a : Int) v).2 = pux (s 143 a) := by
  unfold twx
  rw [if_pos ⟨Int.natCast_nonneg _, h⟩, Int.toNat_natCast]
theorem st_ch (h : JGx s Q act cx anc) {n : Nat} (hq : Q p = 1) (hn : NoC s act p) (ap : act p) (hc : CMx s p) : ∃ a c r, JGx (stx (s, Q, n) p).1 (stx (s, Q, n) p).2.1 a c r := by
  have fp := (h.2.2.1 p ap).1
  have hW := Wr_c fp hc
  obtain ⟨_, hlt, _, _, _, _, _, _, _, k7, k8, _⟩ := EF_k fp
  have h8 := hc.1
  have hb := J_143 h ap
  have hz := h.2.1
  have pi : ∀ {a r : Nat} {b : Int}, (a : Int) < 2000 → b < 2000 → (pux (a : Int) ++ pux b).count (r : Int) = (if a = r then 1 else 0) + (if b = (r : Int) then 1 else 0) := fun {a r b} ha hb => by
    rw [cn_app ha hb]
    by_cases e : a = r
    · rw [if_pos e, if_pos (show (a : Int) = (r : Int) by omega)]
    · rw [if_neg e, if_neg (show ¬ (a : Int) = (r : Int) by omega)]
  by_cases k : s 100 p = 406
  · have h0 := (k7 k).1.1
    have ep : prx s p = s 153 (s 101 p).toNat := if_pos k
    unfold chx at hW
    rw [if_pos k] at hW
    by_cases hr : 0 ≤ prx s p
    · rw [if_pos hr] at hW
      obtain ⟨⟨aR, _⟩, _, fR, _⟩ := J_pt h (by omega) hc hr
      obtain ⟨R, hR⟩ : ∃ R : Nat, prx s p = (R : Int) := ⟨(prx s p).toNat, (Int.toNat_of_nonneg hr).symm⟩
      rw [hR, Int.toNat_natCast] at aR fR
      have hltR := (EF_k fR).2.1
      refine ⟨_, st_C1 h hq k (L := (s 101 p).toNat) (R := R) (by omega) (by rw [← ep, hR]) (pre := [(145, R, vax s (s 102 p)), (147, R, 1)] ++ (twx s (p : Int) 0).1) (PR_app (PR_app (a := [_]) (PR_one (by omega)) (PR_one (by omega))) PR_tw) (ps := pux (R : Int) ++ pux (s 143 p)) (fun r => pi (by omega) hb) ?_⟩
      rw [hW, hR]
      unfold cax hox
      rw [if_pos ⟨by omega, hltR⟩, Int.toNat_natCast]
      unfold cax
      dsimp only [List.cons_append, List.nil_append]
      rw [tw_2 hlt, List.append_nil]
    · rw [if_neg hr] at hW
      exact ⟨_, st_W1 h hq hn (K := 152) (L := (s 101 p).toNat) (.inl ⟨rfl, k⟩) rfl h0 hW⟩
  · have k2 : s 100 p = 407 := by
      rcases hc.2 with q | q
      · exact absurd q.1 k
      · exact q.1
    have h0 := (k8 k2).1.1
    have ep : prx s p = s 152 (s 101 p).toNat := if_neg k
    unfold chx at hW
    rw [if_neg k] at hW
    by_cases hr : 0 ≤ prx s p
    · rw [if_pos hr] at hW
      obtain ⟨⟨aR, _⟩, _, fR, _⟩ := J_pt h (by omega) hc hr
      obtain ⟨R, hR⟩ : ∃ R : Nat, prx s p = (R : Int) := ⟨(prx s p).toNat, (Int.toNat_of_nonneg hr).symm⟩
      rw [hR, Int.toNat_natCast] at aR fR
      have hltR := (EF_k fR).2.1
      refine ⟨_, st_C2 h hq k2 (L := (s 101 p).toNat) (R := R) (by omega) (by rw [← ep, hR]) (pre := [(145, p, vax s (s 102 R)), (147, p, 1)] ++ (twx s (R : Int) 0).1) (PR_app (PR_app (a := [_]) (PR_one (by omega)) (PR_one (by omega))) PR_tw) (ps := pux (p : Int) ++ pux (s 143 R)) (fun r => pi (by omega) (J_143 h aR)) ?_⟩
      rw [hW, hR]
      unfold cax hox
      rw [if_pos ⟨by omega, hlt⟩, Int.toNat_natCast, Int.toNat_natCast]
      unfold cax
      dsimp only [List.cons_append, List.nil_append]
      rw [tw_2 hltR, List.append_nil]
    · rw [if_neg hr] at hW
      exact ⟨_, st_W1 h hq hn (K := 153) (L := (s 101 p).toNat) (.inr ⟨rfl, k2⟩) rfl h0 hW⟩
/-- what holds between turns -/
def JJx (x : PMt) : Prop := ∃ act cx anc, JGx x.1 x.2.1 act cx anc
theorem J_step (x : PMt) (p : Nat) (h : JJx x) (hp : rdx x p) : JJx (stx x p) := by
  obtain ⟨s, Q, n⟩ := x
  obtain ⟨act, cx, anc, h⟩ := h
  have h : JGx s Q act cx anc := h
  have hp : 0 < Q p := hp
  obtain ⟨ap, b⟩ := h.2.2.2.2.2.2.1 p hp
  show ∃ a c r, JGx (stx (s, Q, n) p).1 (stx (s, Q, n) p).2.1 a c r
  by_cases hb : PBg s p
  · obtain ⟨l, l1, l2, l3⟩ := h.2.2.2.2.2.2.2.2.1 p ap hb
    have b2 := hb.2
    have ht : trn s p = s 144 p := trn_of rfl (by omega)
    by_cases e : trn s p = s 102 p
    · have l0 : l = [] := List.length_eq_zero_iff.mp (by omega)
      have hn : NoC s act p := fun q aq z => by
        have := (l2 q).mpr ⟨aq, z⟩
        rw [l0] at this
        cases this
      have hq : Q p = 1 := by
        rw [l0] at l3
        have : (([] : List Nat).length : Int) = 0 := rfl
        omega
      refine ⟨_, st_T h hq hn ap ?_⟩
      have hW : Wrx s p = cax ([(144, p, trn s p + 1)], []) (twx s (p : Int) 0) := by
        unfold Wrx gwx
        rw [if_neg (fun q => absurd (q.1.symm.trans hb.1) (by decide)), hb.1, if_neg (by decide), if_neg (by decide), if_neg (by decide), if_neg (by decide), if_neg (by decide), if_neg (by decide), if_neg (by decide), if_pos rfl, if_neg (by omega), if_pos e]
      rw [hW]
      exact kt
    · refine ⟨_, J_count h hp hb ?_ (fun r => ?_)⟩
      · unfold stx
        rw [noop_W hb.1 (by omega) e]
        dsimp only
        rw [apw_cons, apw_nil, ht]
      · unfold stx
        rw [noop_W hb.1 (by omega) e]
        dsimp only
        rw [List.count_nil]
        by_cases z : r = p
        · rw [if_pos z, if_pos z, z]
          omega
        · rw [if_neg z, if_neg z]
          omega
  · obtain ⟨hq, hn⟩ := b hb
    by_cases hk : s 100 p = 312
    · have : ¬ 1 ≤ s 144 p := fun z => hb ⟨hk, z⟩
      refine ⟨_, st_P h hq hn ap hk ?_⟩
      unfold trn
      split
      · rfl
      · omega
    · by_cases hc : CMx s p
      · exact st_ch h hq hn ap hc
      · obtain ⟨fp, pp⟩ := h.2.2.1 p ap
        rcases k_all fp pp hc hk with k | k | k | k
        · obtain ⟨pre, y, k1, k2, k3, k4⟩ := k
          exact ⟨_, st_A h hq hn ap hk k1 k2.1 k3 k4⟩
        · exact ⟨_, st_T h hq hn ap k⟩
        · exact ⟨_, st_W h hq hn k⟩
        · exact ⟨_, st_S h hq hn ap k⟩
theorem J_comm (x : PMt) (p q : Nat) (h : JJx x) (hp : rdx x p) (hq : rdx x q) (hne : p ≠ q) : rdx (stx x p) q ∧ stx (stx x p) q = stx (stx x q) p := by
  refine ⟨st_ok hq hne, ?_⟩
  obtain ⟨s, Q, n⟩ := x
  obtain ⟨act, cx, anc, h⟩ := h
  exact cm_all h hp hq hne
theorem st_n (x : PMt) (p : Nat) : x.2.2 ≤ (stx x p).2.2 := Nat.le_add_right _ _
theorem rn_n : ∀ (ps : List Nat) (x : PMt), x.2.2 ≤ (rnx stx x ps).2.2
  | [], _ => Nat.le_refl _
  | p :: ps, x => Nat.le_trans (st_n x p) (rn_n ps (stx x p))
/-- whole runs end alike -/
theorem R_same {x : PMt} {ps qs : List Nat} (h : JJx x) (hp : okx rdx stx x ps) (hq : okx rdx stx x qs) (dp : ∀ r, ¬ rdx (rnx stx x ps) r) (dq : ∀ r, ¬ rdx (rnx stx x qs) r) : rnx stx x ps = rnx stx x qs := rn_same (J := JJx) J_step J_comm h hp hq dp dq
/-- no run counts more than a whole run -/
theorem R_n {x : PMt} {ps qs : List Nat} (h : JJx x) (hp : okx rdx stx x ps) (hq : okx rdx stx x qs) (dq : ∀ r, ¬ rdx (rnx stx x qs) r) : (rnx stx x ps).2.2 ≤ (rnx stx x qs).2.2 := by
  obtain ⟨rs, _, r2, _⟩ := rn_conf (J := JJx) J_step J_comm ps qs x h hp hq dq
  rw [← r2]
  exact rn_n rs _
theorem R_J {x : PMt} {ps : List Nat} (h : JJx x) (hp : okx rdx stx x ps) : JJx (rnx stx x ps) := rn_J (J := JJx) J_step ps x h hp
end STEPY
