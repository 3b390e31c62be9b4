/-! What holds between turns is kept by every turn. -/
section STEPX
variable {s s2 : tab} {Q Q2 : Nat → Nat} {act : Nat → Prop} {cx : Nat → Cxx} {anc : Nat → Nat → Prop} {p : Nat}
theorem cn1 {z : Int} {r : Nat} (h : z < 2000) : (pux z).count (r : Int) = if z = (r : Int) then 1 else 0 := by
  unfold pux
  by_cases e : z = (r : Int)
  · rw [if_pos e, if_pos ⟨by omega, h⟩, e]
    simp
  · rw [if_neg e]
    split
    · rw [List.count_cons, List.count_nil]
      simp only [beq_iff_eq]
      rw [if_neg e]
    · rfl
theorem trn_of {u : Int} (h : s2 144 p = u) (h0 : 0 ≤ u) : trn s2 p = u := by
  unfold trn
  rw [h, if_neg (Int.not_lt.mpr h0)]
/-- a list of harmless writes -/
theorem pre_o {l : wrl} (h : PREx p l) (t : tab) : (∀ k j, 99 ≤ k ∧ k ≤ 114 → apw l t k j = t k j) ∧ (∀ j, apw l t 143 j = t 143 j) ∧ (∀ j, apw l t 144 j = t 144 j) ∧ (∀ j, apw l t 152 j = t 152 j) ∧ (∀ j, apw l t 153 j = t 153 j) ∧ ∀ j, j ≠ p → apw l t 146 j = t 146 j := by
  refine ⟨fun k j hk => apw_o _ _ _ _ (fun w hw e => ?_), fun j => apw_o _ _ _ _ (fun w hw e => (h w hw).2.1 e.1), fun j => apw_o _ _ _ _ (fun w hw e => (h w hw).2.2.1 e.1), fun j => apw_o _ _ _ _ (fun w hw e => (h w hw).2.2.2.1 e.1), fun j => apw_o _ _ _ _ (fun w hw e => (h w hw).2.2.2.2.1 e.1), fun j hj => apw_o _ _ _ _ (fun w hw e => ?_)⟩
  · have := (h w hw).1
    omega
  · exact hj (e.2.symm.trans ((h w hw).2.2.2.2.2 e.1))
theorem J_143 (h : JGx s Q act cx anc) {r : Nat} (ar : act r) : s 143 r < 2000 := by
  rcases h.2.2.2.1 r ar with k | ⟨y, k, ay, _⟩
  · omega
  · have := (EF_k (h.2.2.1 y ay).1).2.1
    have := h.2.1
    omega
/-- the part is done -/
theorem st_T (h : JGx s Q act cx anc) {n : Nat} (hq : Q p = 1) (hn : NoC s act p) (ap : act p) (k : KTx s p (Wrx s p)) : ∃ c r, JGx (stx (s, Q, n) p).1 (stx (s, Q, n) p).2.1 (fun r => act r ∧ r ≠ p) c r := by
  obtain ⟨pre, v, u, hpre, hW⟩ := k
  have hlt := (EF_k (h.2.2.1 p ap).1).2.1
  have h43 := J_143 h ap
  obtain ⟨l, hl, hl2⟩ : ∃ l, PREx p l ∧ Wrx s p = ((144, p, u) :: l, pux (s 143 p)) := by
    refine ⟨pre ++ (twx s p v).1, PR_app hpre PR_tw, ?_⟩
    rw [hW]
    unfold cax
    have : (twx s (p : Int) v).2 = pux (s 143 p) := by
      unfold twx
      rw [if_pos ⟨by omega, hlt⟩, Int.toNat_natCast]
    rw [this]
    rfl
  unfold stx
  dsimp only
  rw [hl2]
  dsimp only
  obtain ⟨o1, o2, o3, o4, o5, o6⟩ := pre_o hl (up2 s 144 p u)
  rw [apw_cons]
  have nw : ∀ L, L < 12 → s 152 L ≠ (p : Int) ∧ s 153 L ≠ (p : Int) := fun L hL => by
    have w := h.2.2.2.2.2.2.2.1 L hL
    refine ⟨fun e => ?_, fun e => ?_⟩
    · have := (w.1.2 (by omega)).2.1
      rw [e, Int.toNat_natCast] at this
      omega
    · have := (w.2.2 (by omega)).2.1
      rw [e, Int.toNat_natCast] at this
      omega
  refine J_tell h ap hn (fun k j hk => (o1 k j hk).trans (if_neg (by omega))) (fun j => (o2 j).trans (if_neg (by omega))) (fun j hj => (o3 j).trans (if_neg (fun e => hj e.2))) (fun j hj => (o6 j hj).trans (if_neg (by omega))) (fun L hL => ?_) (fun r => ?_)
  · rw [o4, o5]
    exact ⟨⟨.inl (if_neg (by omega)), by rw [show (up2 s 144 p u) 152 L = s 152 L from if_neg (by omega)]; exact (nw L hL).1⟩, .inl (if_neg (by omega)), by rw [show (up2 s 144 p u) 153 L = s 153 L from if_neg (by omega)]; exact (nw L hL).2⟩
  · rw [cn1 h43]
    by_cases e : r = p
    · rw [if_pos e, if_pos e, e, hq]
    · rw [if_neg e, if_neg e]
      omega
/-- it has a value -/
theorem J_nw (h : JGx s Q act cx anc) (hq : 0 < Q p) : ∀ L, L < 12 → s 152 L ≠ (p : Int) ∧ s 153 L ≠ (p : Int) := fun L hL => by
  have w := h.2.2.2.2.2.2.2.1 L hL
  refine ⟨fun e => ?_, fun e => ?_⟩
  · have := (w.1.2 (by omega)).2.1
    rw [e, Int.toNat_natCast] at this
    omega
  · have := (w.2.2 (by omega)).2.1
    rw [e, Int.toNat_natCast] at this
    omega
theorem st_S (h : JGx s Q act cx anc) {n : Nat} (hq : Q p = 1) (hn : NoC s act p) (ap : act p) (k : KSx s p (Wrx s p)) : ∃ c r, JGx (stx (s, Q, n) p).1 (stx (s, Q, n) p).2.1 act c r := by
  obtain ⟨pre, u, hpre, hk, hW⟩ := k
  have hlt := (EF_k (h.2.2.1 p ap).1).2.1
  have h2 := h.2.1
  unfold stx
  dsimp only
  rw [hW]
  dsimp only
  obtain ⟨o1, o2, o3, o4, o5, o6⟩ := pre_o hpre (up2 s 144 p u)
  rw [apw_cons]
  have nw := J_nw h (p := p) (by omega)
  refine J_rdy h ap hn (.inr hk) (fun k j hk => (o1 k j hk).trans (if_neg (by omega))) (fun j => (o2 j).trans (if_neg (by omega))) (fun j hj => (o3 j).trans (if_neg (fun e => hj e.2))) (fun j hj => (o6 j hj).trans (if_neg (by omega))) (fun L hL => ?_) (fun r => ?_)
  · rw [o4, o5]
    exact ⟨⟨.inl (if_neg (by omega)), by rw [show (up2 s 144 p u) 152 L = s 152 L from if_neg (by omega)]; exact (nw L hL).1⟩, .inl (if_neg (by omega)), by rw [show (up2 s 144 p u) 153 L = s 153 L from if_neg (by omega)]; exact (nw L hL).2⟩
  · rw [cn1 (by omega)]
    by_cases e : r = p
    · rw [if_pos e, if_pos e, e, hq, if_pos rfl]
    · rw [if_neg e, if_neg e, if_neg (show ¬ (p : Int) = (r : Int) by omega)]
      omega
/-- a child is asked -/
theorem st_A (h : JGx s Q act cx anc) {n : Nat} (hq : Q p = 1) (hn : NoC s act p) (ap : act p) (hk : s 100 p ≠ 312) {pre : wrl} {y : Int} (hpre : PREx p pre) (hy : CHx (EF s) (cx p) p y) (hW : Wrx s p = cax ((144, p, trn s p + 1) :: pre, []) (awx s y p)) (hph : ∀ t : tab, t 146 p = s 146 p → PHc s p (trn s p + 1) (apw pre t 146 p)) : ∃ c r, JGx (stx (s, Q, n) p).1 (stx (s, Q, n) p).2.1 (fun q => act q ∨ (q : Int) = y) c r := by
  obtain ⟨y0, y1, y2⟩ := hy
  have hlt := (EF_k (h.2.2.1 p ap).1).2.1
  have h2 := h.2.1
  have h0 := trn_0 (s := s) (p := p)
  obtain ⟨c, rfl⟩ : ∃ c : Nat, y = (c : Int) := ⟨y.toNat, by omega⟩
  rw [Int.toNat_natCast] at y2
  have hcp : c < p := by omega
  have hW2 : Wrx s p = ((144, p, trn s p + 1) :: (pre ++ [(143, c, (p : Int)), (144, c, -1)]), pux (c : Int)) := by
    rw [hW]
    unfold cax awx
    rw [if_pos ⟨by omega, by omega⟩, Int.toNat_natCast]
    dsimp only [List.cons_append, List.nil_append]
  unfold stx
  dsimp only
  rw [hW2]
  dsimp only
  obtain ⟨o1, o2, o3, o4, o5, o6⟩ := pre_o hpre (up2 s 144 p (trn s p + 1))
  have hT : apw ((144, p, trn s p + 1) :: (pre ++ [(143, c, (p : Int)), (144, c, -1)])) s = up2 (up2 (apw pre (up2 s 144 p (trn s p + 1))) 143 c (p : Int)) 144 c (-1) := by
    rw [apw_cons, apw_app, apw_cons, apw_cons, apw_nil]
  rw [hT]
  have hne : c ≠ p := by omega
  rw [show (fun q => act q ∨ (q : Int) = (c : Int)) = (fun q => act q ∨ q = c) from funext fun q => propext (or_congr_right ⟨fun e => Int.ofNat.inj e, fun e => congrArg Int.ofNat e⟩)]
  have e0 : ∀ k j, 99 ≤ k ∧ k ≤ 114 → (up2 (up2 (apw pre (up2 s 144 p (trn s p + 1))) 143 c (p : Int)) 144 c (-1)) k j = s k j := fun k j hk => (if_neg (by omega)).trans ((if_neg (by omega)).trans ((o1 k j hk).trans (if_neg (by omega))))
  have e4p : (up2 (up2 (apw pre (up2 s 144 p (trn s p + 1))) 143 c (p : Int)) 144 c (-1)) 144 p = trn s p + 1 := (if_neg (by omega)).trans ((if_neg (by omega)).trans ((o3 p).trans up_self))
  have e6p : (up2 (up2 (apw pre (up2 s 144 p (trn s p + 1))) 143 c (p : Int)) 144 c (-1)) 146 p = apw pre (up2 s 144 p (trn s p + 1)) 146 p := (if_neg (by omega)).trans (if_neg (by omega))
  refine J_ask h (by omega) hn hk hcp y2 e0 (fun j => ?_) (fun j j1 j2 => (if_neg (by omega)).trans ((if_neg (by omega)).trans ((o3 j).trans (if_neg (fun e => j1 e.2))))) up_self (fun j hj => (if_neg (by omega)).trans ((if_neg (by omega)).trans ((o6 j hj).trans (if_neg (by omega))))) ?_ (fun L => ⟨(if_neg (by omega)).trans ((if_neg (by omega)).trans ((o4 L).trans (if_neg (by omega)))), (if_neg (by omega)).trans ((if_neg (by omega)).trans ((o5 L).trans (if_neg (by omega))))⟩) (fun r => ?_)
  · rw [show (up2 (up2 (apw pre (up2 s 144 p (trn s p + 1))) 143 c (p : Int)) 144 c (-1)) 143 j = (up2 (apw pre (up2 s 144 p (trn s p + 1))) 143 c (p : Int)) 143 j from if_neg (by omega)]
    by_cases e : j = c
    · rw [if_pos e, e]
      exact up_self
    · rw [if_neg e]
      exact (if_neg (fun z => e z.2)).trans ((o2 j).trans (if_neg (by omega)))
  · have ht : trn (up2 (up2 (apw pre (up2 s 144 p (trn s p + 1))) 143 c (p : Int)) 144 c (-1)) p = trn s p + 1 := trn_of e4p (by omega)
    have hp2 := hph (up2 s 144 p (trn s p + 1)) (if_neg (by omega))
    unfold PHx
    simp only [ht, e6p, e0 100 _ (by omega : 99 ≤ 100 ∧ 100 ≤ 114), e0 101 _ (by omega : 99 ≤ 101 ∧ 101 ≤ 114), e0 102 _ (by omega : 99 ≤ 102 ∧ 102 ≤ 114), e0 103 _ (by omega : 99 ≤ 103 ∧ 103 ≤ 114), e0 114 _ (by omega : 99 ≤ 114 ∧ 114 ≤ 114), nth_ext e0]
    exact ⟨fun k _ => hp2.1 k, fun k _ => hp2.2.1 k, hp2.2.2⟩
  · rw [cn1 (by omega)]
    by_cases e : r = c
    · rw [e, if_neg hne, if_pos rfl, if_pos rfl]
      omega
    · rw [if_neg e, if_neg (show ¬ (c : Int) = (r : Int) by omega)]
      by_cases e2 : r = p
      · rw [if_pos e2, if_pos e2, e2, hq]
      · rw [if_neg e2, if_neg e2]
        omega
/-- it waits -/
theorem st_W1 (h : JGx s Q act cx anc) {n : Nat} (hq : Q p = 1) (hn : NoC s act p) {K L : Nat} (hK : K = 152 ∧ s 100 p = 406 ∨ K = 153 ∧ s 100 p = 407) (hL : L = (s 101 p).toNat) (h0 : 0 ≤ s 101 p) (hW : Wrx s p = ([(144, p, trn s p + 1), (K, L, (p : Int))], [])) : ∃ c r, JGx (stx (s, Q, n) p).1 (stx (s, Q, n) p).2.1 act c r := by
  unfold stx
  dsimp only
  rw [hW]
  obtain ⟨s2, hs2⟩ : ∃ s2, s2 = up2 (up2 s 144 p (trn s p + 1)) K L (p : Int) := ⟨_, rfl⟩
  have e : apw [(144, p, trn s p + 1), (K, L, (p : Int))] s = s2 := by
    rw [apw_cons, apw_cons, apw_nil, hs2]
  dsimp only
  rw [e]
  have o : ∀ k j, ¬ (k = 144 ∧ j = p) → ¬ (k = K ∧ j = L) → s2 k j = s k j := fun k j h1 h2 => by
    rw [hs2]
    exact (if_neg h2).trans (if_neg h1)
  have w : s2 K L = (p : Int) := by rw [hs2]; exact up_self
  refine J_wait (p := p) h (by omega) hn (hK.imp And.right And.right) h0 (fun k j hk => o k j (by omega) (by omega)) (fun j => o _ _ (by omega) (by omega)) (fun j hj => o _ _ (fun e => hj e.2) (by omega)) ?_ (fun j => o _ _ (by omega) (by omega)) (fun M => ?_) (fun r => ?_)
  · have : s2 144 p = trn s p + 1 := by
      rw [hs2]
      exact (if_neg (by omega)).trans up_self
    have := trn_0 (s := s) (p := p)
    omega
  · rcases hK with ⟨k1, k2⟩ | ⟨k1, k2⟩
    · refine ⟨?_, (o _ _ (by omega) (by omega)).trans (if_neg (fun z => absurd (k2.symm.trans z.1) (by decide))).symm⟩
      by_cases e : M = (s 101 p).toNat
      · rw [if_pos ⟨k2, e⟩, e, ← hL, ← k1]
        exact w
      · rw [if_neg (fun z => e z.2)]
        exact o _ _ (by omega) (fun z => e (z.2.trans hL))
    · refine ⟨(o _ _ (by omega) (by omega)).trans (if_neg (fun z => absurd (k2.symm.trans z.1) (by decide))).symm, ?_⟩
      by_cases e : M = (s 101 p).toNat
      · rw [if_pos ⟨k2, e⟩, e, ← hL, ← k1]
        exact w
      · rw [if_neg (fun z => e z.2)]
        exact o _ _ (by omega) (fun z => e (z.2.trans hL))
  · rw [List.count_nil]
    by_cases e : r = p
    · rw [if_pos e, if_pos e, e, hq]
    · rw [if_neg e, if_neg e]
      omega
theorem st_W (h : JGx s Q act cx anc) {n : Nat} (hq : Q p = 1) (hn : NoC s act p) (k : KWx s p (Wrx s p)) : ∃ c r, JGx (stx (s, Q, n) p).1 (stx (s, Q, n) p).2.1 act c r := by
  obtain ⟨k, h0⟩ := k
  rcases k with ⟨k, hW⟩ | ⟨k, hW⟩
  · exact st_W1 h hq hn (.inl ⟨rfl, k⟩) rfl h0 hW
  · exact st_W1 h hq hn (.inr ⟨rfl, k⟩) rfl h0 hW
end STEPX
