/-! Every turn takes from the weight what it must: chans, PARs, all. -/
section POT3
variable {s s2 : tab} {Q Q2 : Nat → Nat} {act : Nat → Prop} {cx : Nat → Cxx} {anc : Nat → Nat → Prop} {p : Nat} {n M : Nat}
theorem w_C1 (h : JGx s Q act cx anc) (hM : s 99 12 ≤ (M : Int)) (hq : Q p = 1) (ap : act p) (hk : s 100 p = 406) {L R : Nat} (hL : L < 12) (hR : s 153 L = (R : Int)) {pre : wrl} (hp : PREx p pre) {ps : List Int} (hps : ∀ r : Nat, ps.count (r : Int) = (if R = r then 1 else 0) + (if s 143 p = (r : Int) then 1 else 0)) (hW : Wrx s p = ((144, p, trn s p + 1) :: (pre ++ [(153, L, -1)]), ps)) (ho : HOx s p) : ∃ c r, JGx (stx (s, Q, n) p).1 (stx (s, Q, n) p).2.1 (fun r => act r ∧ r ≠ p) c r ∧ WLx s Q act p n M (fun r => act r ∧ r ≠ p) := by
  obtain ⟨c9, r9, hJ⟩ := st_C1 (n := n) h hq hk hL hR hp hps hW
  obtain ⟨aR, zR, nR, kR, lR⟩ := C_pt h (.inr rfl) hL hR
  have npR : p ≠ R := fun e => by rw [← e] at zR; omega
  have m1 := M_R (s := s) (s2 := s) (Q := Q) (Q2 := fun r => if r = R then 1 else Q r) (act := act) (p := R) (M := M) zR (J_lt h aR hM) (fun _ _ => rfl) (fun _ => rfl)
  have m2 := M_T (s := s) (s2 := (stx (s, Q, n) p).1) (Q := fun r => if r = R then 1 else Q r) (Q2 := (stx (s, Q, n) p).2.1) (act := act) (p := p) (M := M) (by rw [if_neg npR]; exact hq) ap (J_lt h ap hM) (fun j hj => by
    show apw (Wrx s p).1 s 144 j = s 144 j
    rw [hW]
    dsimp only
    rw [← List.cons_append, apw_app, apw_cons (a := []), apw_nil]
    exact (if_neg (by omega)).trans (ap_4 hp hj)) (J_np h ap) (fun r => by
    show Q r - (if r = p then 1 else 0) + (Wrx s p).2.count (r : Int) = _
    rw [hW]
    dsimp only
    rw [hps]
    by_cases e : r = p
    · rw [if_pos e, if_pos e, e, hq, if_neg (fun z => npR z.symm)]
      omega
    · rw [if_neg e, if_neg e]
      by_cases e2 : r = R
      · rw [if_pos e2.symm, if_pos e2, e2, zR]
        omega
      · rw [if_neg (fun z => e2 z.symm), if_neg e2]
        omega)
  exact ⟨c9, r9, hJ, by omega, fun q => absurd ho q, fun q hq2 => .inl ⟨hq2.1, by
    show apw (Wrx s p).1 s 143 q = s 143 q
    rw [hW]
    dsimp only
    rw [← List.cons_append, apw_app, apw_cons (a := []), apw_nil]
    exact (if_neg (by omega)).trans (ap_3 hp)⟩⟩
theorem w_C2 (h : JGx s Q act cx anc) (hM : s 99 12 ≤ (M : Int)) (hq : Q p = 1) (hn : NoC s act p) (ap : act p) (hk : s 100 p = 407) {L R : Nat} (hL : L < 12) (hR : s 152 L = (R : Int)) {pre : wrl} (hp : PREx p pre) {ps : List Int} (hps : ∀ r : Nat, ps.count (r : Int) = (if p = r then 1 else 0) + (if s 143 R = (r : Int) then 1 else 0)) (hW : Wrx s p = ((144, p, trn s p + 1) :: (pre ++ [(152, L, -1)]), ps)) (ho : HOx s p) : ∃ c r, JGx (stx (s, Q, n) p).1 (stx (s, Q, n) p).2.1 (fun r => act r ∧ r ≠ R) c r ∧ WLx s Q act p n M (fun r => act r ∧ r ≠ R) := by
  obtain ⟨c9, r9, hJ⟩ := st_C2 (n := n) h hq hk hL hR hp hps hW
  obtain ⟨aR, zR, nR, kR, lR⟩ := C_pt h (.inl rfl) hL hR
  have npR : p ≠ R := fun e => by rw [← e] at zR; omega
  have m1 := M_T0 (s := s) (s2 := s) (Q := Q) (Q2 := fun r => (if r = R then 0 else Q r) + (if s 143 R = (r : Int) then 1 else 0)) (act := act) (p := R) (M := M) zR aR (J_lt h aR hM) (fun _ _ => rfl) (J_np h aR) (fun _ => rfl)
  have m2 := M_S (s := s) (s2 := (stx (s, Q, n) p).1) (Q := fun r => (if r = R then 0 else Q r) + (if s 143 R = (r : Int) then 1 else 0)) (Q2 := (stx (s, Q, n) p).2.1) (act := fun r => act r ∧ r ≠ R) (p := p) (M := M) (by rw [if_neg npR, if_neg (hn R aR)]; exact hq) (J_lt h ap hM) (fun j hj => by
    show apw (Wrx s p).1 s 144 j = s 144 j
    rw [hW]
    dsimp only
    rw [← List.cons_append, apw_app, apw_cons (a := []), apw_nil]
    exact (if_neg (by omega)).trans (ap_4 hp hj)) (fun r => by
    show Q r - (if r = p then 1 else 0) + (Wrx s p).2.count (r : Int) = _
    rw [hW]
    dsimp only
    rw [hps]
    by_cases e : r = p
    · rw [e, if_pos rfl, if_pos rfl, if_neg (hn R aR), hq]
    · rw [if_neg e, if_neg e, if_neg (fun z => e z.symm)]
      by_cases e2 : r = R
      · rw [if_pos e2, e2, zR]
        omega
      · rw [if_neg e2]
        omega)
  exact ⟨c9, r9, hJ, by omega, fun q => absurd ho q, fun q hq2 => .inl ⟨hq2.1, by
    show apw (Wrx s p).1 s 143 q = s 143 q
    rw [hW]
    dsimp only
    rw [← List.cons_append, apw_app, apw_cons (a := []), apw_nil]
    exact (if_neg (by omega)).trans (ap_3 hp)⟩⟩
/-- a PAR begins -/
theorem w_P (h : JGx s Q act cx anc) (hM : s 99 12 ≤ (M : Int)) (hq : Q p = 1) (hn : NoC s act p) (ap : act p) (hk : s 100 p = 312) (h0 : trn s p = 0) : ∃ c r, JGx (stx (s, Q, n) p).1 (stx (s, Q, n) p).2.1 (fun q => act q ∨ ∃ i, i < (s 102 p).toNat ∧ q = (nth s i (s 101 p)).toNat) c r ∧ WLx s Q act p n M (fun q => act q ∨ ∃ i, i < (s 102 p).toNat ∧ q = (nth s i (s 101 p)).toNat) := by
  obtain ⟨c9, r9, hJ⟩ := st_P (n := n) h hq hn ap hk h0
  have hW : Wrx s p = cax ([(144, p, 1)], []) (bwx s p (s 102 p).toNat (s 101 p)) := by
    unfold Wrx gwx
    rw [if_neg (fun q => absurd (q.1.symm.trans hk) (by decide)), hk, if_neg (by decide), if_neg (by decide), if_neg (by decide), if_neg (by decide), if_neg (by decide), if_neg (by decide), if_neg (by decide), if_pos rfl, if_pos h0, h0]
    rfl
  obtain ⟨_, hlt, _, _, _, _, _, _, _, _, _, _, _, _, _, k13⟩ := EF_k (h.2.2.1 p ap).1
  obtain ⟨⟨g1, g2⟩, cs, g3, g4⟩ := k13 hk
  have hz := h.2.1
  obtain ⟨m, hm⟩ : ∃ m : Nat, m = (s 102 p).toNat := ⟨_, rfl⟩
  have g1m : s 102 p = (m : Int) := by omega
  rw [← hm] at hW g3 g4 hJ ⊢
  have inj : ∀ i j, i < m → j < m → nth s i (s 101 p) = nth s j (s 101 p) → i = j := fun i j hi hj e => Classical.byContradiction fun ne => by
    have a := EF_p (g3 i hi).2.2.2.2
    have b := EF_p (g3 j hj).2.2.2.2
    rw [e] at a
    exact (g4 i j hi hj ne).1 _ ⟨a, b⟩
  have rng : ∀ i, i < m → 0 ≤ nth s i (s 101 p) ∧ nth s i (s 101 p) < s 99 12 := fun i hi => by
    have := (g3 i hi).2.2
    exact ⟨this.1, by have := this.2.1; omega⟩
  obtain ⟨a1, a2, a3, a4, a5⟩ := bw_t (p := p) m (s 101 p) (up2 s 144 p 1) rng hz inj
  have pn : ∀ i, i < m → (p : Int) ≠ nth s i (s 101 p) := fun i hi e => by
    have := (g3 i hi).2.2.2.1
    omega
  have hT : (stx (s, Q, n) p).1 = apw (bwx s p m (s 101 p)).1 (up2 s 144 p 1) := by
    show apw (Wrx s p).1 s = _
    rw [hW]
    rfl
  have hQ : ∀ r, (stx (s, Q, n) p).2.1 r = Q r - (if r = p then 1 else 0) + (bwx s p m (s 101 p)).2.count (r : Int) := fun r => by
    show Q r - (if r = p then 1 else 0) + (Wrx s p).2.count (r : Int) = _
    rw [hW]
    rfl
  refine ⟨c9, r9, hJ, WL_of (fun q hq2 => ?_) ?_⟩
  · by_cases e : ∃ k, k < m ∧ q = (nth s k (s 101 p)).toNat
    · obtain ⟨k, hk2, rfl⟩ := e
      refine .inr ⟨by rw [hT]; exact (a3 k hk2).1, .inl ((CH_312 hk).mpr ⟨k, by omega, Int.toNat_of_nonneg (rng k hk2).1⟩)⟩
    · refine .inl ⟨hq2.elim id (fun w => absurd w e), ?_⟩
      rw [hT, a2 143 q (fun k hk2 e2 => e ⟨k, hk2, by omega⟩)]
      exact if_neg (by omega)
  refine M_A (C := fun i => ∃ k, k < m ∧ i = (nth s k (s 101 p)).toNat) hq ap (J_lt h ap hM) (fun i hi => ?_) (fun i => Iff.rfl) ?_ (fun i e hi => ?_)
  · obtain ⟨k, hk2, rfl⟩ := hi
    have r1 := rng k hk2
    obtain ⟨b1, b2, b3, b4, b5⟩ := g3 k hk2
    have hcp : (nth s k (s 101 p)).toNat ≠ p := by omega
    have nc : ¬ act (nth s k (s 101 p)).toNat := fun ac => by
      rcases h.2.2.2.2.2.1 _ p ac ap hcp with w | w | w
      · have := (h.2.2.2.2.1 _ p w).2.2.1
        omega
      · exact J_anc h hn w
      · exact w.1 _ ⟨EF_p (h.2.2.1 _ ac).1, b1.1 _ (EF_p b5)⟩
    have qc : Q (nth s k (s 101 p)).toNat = 0 := Classical.byContradiction fun w => nc (h.2.2.2.2.2.2.1 _ (by omega)).1
    refine ⟨hcp, nc, qc, by rw [hT]; exact (a3 k hk2).2, ?_⟩
    rw [hQ, if_neg hcp, qc, Int.toNat_of_nonneg r1.1, a5 k hk2]
  · rw [hQ, if_pos rfl, a4 p pn, hq]
  · have no : ∀ k, k < m → (i : Int) ≠ nth s k (s 101 p) := fun k hk2 e2 => hi ⟨k, hk2, by omega⟩
    refine ⟨?_, ?_⟩
    · rw [hQ, if_neg e, a4 i no]
      rfl
    · rw [hT, a2 144 i no]
      exact if_neg (fun q => e q.2)
/-- which turns hand over -/
theorem KS_ho (h : JGx s Q act cx anc) (ap : act p) (k : KSx s p (Wrx s p)) : HOx s p := by
  obtain ⟨pre, u, hpre, hk, hW⟩ := k
  obtain ⟨_, hlt, _, _, _, _, _, _, _, _, k8, _⟩ := EF_k (h.2.2.1 p ap).1
  have h2 := h.2.1
  have e2 : (Wrx s p).2.count (p : Int) = 1 := by
    rw [hW]
    dsimp only
    rw [cn1 (by omega), if_pos rfl]
  have jR := k8 hk
  refine Classical.byContradiction fun ho => ?_
  by_cases hf : FGx s p
  · have : (Wrx s p).2 = pux (s 143 p) := by
      unfold Wrx
      rw [if_pos hf]
      unfold fgx cax
      dsimp only
      rw [tw_2 hlt, List.nil_append]
    rw [this, cn1 (J_143 h ap), if_neg (J_np h ap)] at e2
    omega
  · have nn : ∀ {x : Int}, x < (p : Int) → (pux x).count (p : Int) = 0 := fun {x} hx => by
      rw [cn1 (by omega), if_neg (by omega)]
    have hF : (Wrx s p).2 = (mwx s p (trn s p)).2 := by
      unfold Wrx
      rw [if_neg hf, if_neg (by omega), if_neg (by omega), if_pos (.inr (.inr hk))]
      unfold cax
      dsimp only
      rw [List.nil_append]
    rw [hF] at e2
    unfold mwx at e2
    rw [if_neg (by omega)] at e2
    by_cases e0 : sgu s p (trn s p) = 0
    · rw [if_pos e0] at e2
      unfold awx at e2
      split at e2
      · rename_i q
        rcases jR.2.2 with w | w
        · omega
        · dsimp only at e2
          rw [nn w.2.1] at e2
          omega
      · exact absurd e2 (by dsimp only; rw [List.count_nil]; decide)
    · rw [if_neg e0, if_pos hk] at e2
      unfold rwx at e2
      rw [if_neg (by have := jR.1; omega)] at e2
      by_cases e8 : 8 ≤ s 101 p
      · rw [if_pos e8] at e2
        by_cases e9 : 0 < s (qin (s 101 p)) 2
        · exact ho ⟨hf, .inr ⟨hk, e0, .inr ⟨e8, e9⟩⟩⟩
        · rw [if_neg e9] at e2
          exact absurd e2 (by dsimp only; rw [List.count_nil]; decide)
      · rw [if_neg e8] at e2
        by_cases e9 : 0 ≤ s 152 (s 101 p).toNat
        · exact ho ⟨hf, .inr ⟨hk, e0, .inl ⟨by omega, e9⟩⟩⟩
        · rw [if_neg e9] at e2
          exact absurd e2 (by dsimp only; rw [List.count_nil]; decide)
end POT3
