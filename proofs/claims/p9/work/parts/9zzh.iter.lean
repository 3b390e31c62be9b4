/-! Once around the loop of goOn. -/
section ITER
variable {s s2 t ts : tab} {Q Q2 : Nat → Nat} {act act2 : Nat → Prop} {cx : Nat → Cxx} {anc : Nat → Nat → Prop} {p n M N : Nat} {IN : Nat → Prop}
/-- what holds of the parts machine between turns -/
def PSy (M N : Nat) (IN : Nat → Prop) (s : tab) (Q : Nat → Nat) (act : Nat → Prop) : Prop := (∃ cx anc, JGx s Q act cx anc) ∧ KJx s act IN ∧ INC s N IN ∧ (∀ y z c, IN y → IN z → CHl s y c → CHl s z c → y = z) ∧ s 99 12 = (M : Int) ∧ QBx s
theorem PSy_st (h : PSy M N IN s Q act) (hp : 0 < Q p) : ∃ act2, PSy M N IN (stx (s, Q, n) p).1 (stx (s, Q, n) p).2.1 act2 ∧ WLx s Q act p n M act2 := by
  obtain ⟨⟨cx, anc, hJ⟩, hK, hI, hu, hM, hq⟩ := h
  obtain ⟨a, c, r, h1, h2⟩ := w_step (n := n) hJ (Int.le_of_eq hM) hp
  have e0 := st_114 (n := n) hJ hp
  refine ⟨a, ⟨⟨c, r, h1⟩, KJ_step hK hI hJ hp h2.2.2, INC_ext e0 hI, fun y z c y1 z1 y2 z2 => hu y z c y1 z1 ((CH_ext e0).mp y2) ((CH_ext e0).mp z2), by rw [e0 99 12 (by omega)]; exact hM, QB_st hq⟩, h2⟩
theorem len_ok (h : PSy M N IN s Q act) {l : List Int} (h0 : ∀ v ∈ l, 0 ≤ v) (hQ : ∀ r : Nat, Q r = l.count (r : Int)) : l.length ≤ 2000 ∧ ∀ v ∈ l, 0 ≤ v ∧ v < (M : Int) := by
  obtain ⟨⟨cx, anc, hJ⟩, hK, hI, hu, hM, hq⟩ := h
  have rng : ∀ v ∈ l, 0 ≤ v ∧ v < (M : Int) := fun v hv => by
    have v0 := h0 v hv
    have e : ((v.toNat : Nat) : Int) = v := Int.toNat_of_nonneg v0
    have q : 0 < Q v.toNat := by
      rw [hQ, e]
      exact List.count_pos_iff.mpr hv
    have := J_lt (M := M) hJ (hJ.2.2.2.2.2.2.1 _ q).1 (Int.le_of_eq hM)
    exact ⟨v0, by omega⟩
  have r1 := Q_room hJ hK hI hu (Int.le_of_eq hM)
  have e : (fun r => ((Q r : Nat) : Int)) = fun r : Nat => ((l.count (r : Int) : Nat) : Int) := funext fun r => by rw [hQ]
  rw [e, cnt_len l rng] at r1
  have := hJ.2.1
  exact ⟨by omega, rng⟩
def LPx (M N : Nat) (IN : Nat → Prop) (t : tab) (l : List Int) (Q : Nat → Nat) (act : Nat → Prop) : Prop := PSy M N IN (zp t) Q act ∧ SKx t l ∧ (∀ v ∈ l, 0 ≤ v) ∧ (∀ r : Nat, Q r = l.count (r : Int)) ∧ (t 142 13 = 0 ∨ t 142 13 = 1)
theorem it_turn {l : List Int} {C : Int} (h : LPx M N IN t ((p : Int) :: l) Q act) (hC : 0 ≤ C ∧ C < 2147483646) (hb : ∀ j, t 144 j ≤ C) (hts : zp ts = up2 (zp t) 144 p (trn (zp t) p)) (h13 : ts 142 13 = t 142 13) (hsk : SKx ts l) : ∃ t2 l2 Q2 act2 ps, wG 29 [(p : Int)] ts = some (some (0, t2)) ∧ LPx M N IN t2 l2 Q2 act2 ∧ okx rdx stx (zp t, Q, n) ps ∧ rnx stx (zp t, Q, n) ps = (zp t2, Q2, n + (if zp t 144 p < 0 then 1 else 0)) ∧ Mzx (zp t2) Q2 act2 M + 1 ≤ Mzx (zp t) Q act M + 2 * ind (zp t 144 p < 0) ∧ (∀ j, t2 144 j ≤ C + 2) ∧ t2 142 14 = ts 142 14 ∧ t2 142 15 = ts 142 15 := by
  obtain ⟨hS, hk, h0, hQ, hd⟩ := h
  have qp : 0 < Q p := by
    rw [hQ]
    exact List.count_pos_iff.mpr List.mem_cons_self
  have cQ : ∀ r : Nat, Q r = l.count (r : Int) + (if r = p then 1 else 0) := fun r => by
    rw [hQ, List.count_cons]
    simp only [beq_iff_eq]
    by_cases e : r = p
    · rw [if_pos e, if_pos (by omega)]
    · rw [if_neg e, if_neg (by omega)]
  have hl0 : ∀ v ∈ l, 0 ≤ v := fun v hv => h0 v (List.mem_cons_of_mem _ hv)
  obtain ⟨⟨cx, anc, hJ⟩, hK, hI, hu, hM, hq⟩ := id hS
  have hqs : QBx ts := fun i hi => by
    have w := QB_up (k := 144) (j := p) (v := trn (zp t) p) hq (by omega) i hi
    rw [← hts, zp_o (k := 154 + 2 * i) (by omega), zp_o (k := 154 + 2 * i) (by omega), zp_o (k := 162 + 2 * i) (by omega), zp_o (k := 162 + 2 * i) (by omega)] at w
    exact w
  obtain ⟨t2, m1, m2, ⟨m3, m4⟩, m5⟩ := ex_turn hJ qp (by have := hb p; omega) hts (by rw [h13]; exact hd) hqs
  have zb : ∀ j, zp t 144 j ≤ C := hb
  rcases m5 with ⟨⟨w1, w2⟩, no⟩ | ⟨⟨b, w1, wf, w2, w3, ps, w4, w5⟩, ho⟩
  · obtain ⟨act2, k1, k2⟩ := PSy_st (n := n) hS qp
    have eT : (stx (zp t, Q, n) p).1 = zp t2 := w1.symm
    rw [eT] at k1
    have c2 : ∀ r : Nat, (stx (zp t, Q, n) p).2.1 r = ((Wrx (zp t) p).2.reverse ++ l).count (r : Int) := fun r => by
      show Q r - (if r = p then 1 else 0) + (Wrx (zp t) p).2.count (r : Int) = _
      rw [List.count_append, List.count_reverse, cQ]
      omega
    have n2 : ∀ v ∈ (Wrx (zp t) p).2.reverse ++ l, 0 ≤ v := fun v hv => by
      rcases List.mem_append.mp hv with q | q
      · exact NV_W v (List.mem_reverse.mp q)
      · exact hl0 v q
    have ln := (len_ok k1 n2 c2).1
    rw [List.length_append, List.length_reverse] at ln
    have wl := k2.2.1 no
    rw [eT] at wl
    refine ⟨t2, (Wrx (zp t) p).2.reverse ++ l, (stx (zp t, Q, n) p).2.1, act2, [p], m1, ⟨k1, w2 l hsk (by omega), n2, c2, m2⟩, ⟨qp, trivial⟩, ?_, wl, fun j => ?_, m3, m4⟩
    · show stx (zp t, Q, n) p = _
      rw [← eT]
      rfl
    · have := st_b4 (s := zp t) (p := p) hC.1 zb j
      rw [← w1] at this
      have e : zp t2 144 j = t2 144 j := rfl
      omega
  · obtain ⟨act1, k1, k2⟩ := PSy_st (n := n) hS qp
    obtain ⟨s1, hs1⟩ : ∃ s1, s1 = apw (Wrx (zp t) p).1 (zp t) := ⟨_, rfl⟩
    obtain ⟨Q1, hQ1⟩ : ∃ Q1, Q1 = (stx (zp t, Q, n) p).2.1 := ⟨_, rfl⟩
    have e1 : stx (zp t, Q, n) p = (s1, Q1, n + (if zp t 144 p < 0 then 1 else 0)) := by
      rw [hs1, hQ1]
      rfl
    have k1 : PSy M N IN s1 Q1 act1 := by
      rw [e1] at k1
      exact k1
    have c1 : ∀ r : Nat, Q1 r = l.count (r : Int) + (Wrx (zp t) p).2.count (r : Int) := fun r => by
      rw [hQ1]
      show Q r - (if r = p then 1 else 0) + (Wrx (zp t) p).2.count (r : Int) = _
      rw [cQ]
      omega
    have qb : 0 < Q1 b := by
      rw [c1]
      omega
    rw [← hs1] at wf w2 w3 w4
    obtain ⟨act2, u1, u2⟩ := PSy_st (n := n + (if zp t 144 p < 0 then 1 else 0)) k1 qb
    have eT : (stx (s1, Q1, n + (if zp t 144 p < 0 then 1 else 0)) b).1 = zp t2 := w3.symm
    rw [eT] at u1
    have c2 : ∀ r : Nat, (stx (s1, Q1, n + (if zp t 144 p < 0 then 1 else 0)) b).2.1 r = (ps.reverse ++ l).count (r : Int) := fun r => by
      show Q1 r - (if r = b then 1 else 0) + (Wrx s1 b).2.count (r : Int) = _
      have := w4 (r : Int)
      rw [List.count_append, List.count_reverse, c1]
      by_cases e : r = b
      · subst e
        rw [if_pos rfl] at this
        rw [if_pos rfl]
        omega
      · rw [if_neg (show ¬ (r : Int) = (b : Int) by omega)] at this
        rw [if_neg e]
        omega
    have n2 : ∀ v ∈ ps.reverse ++ l, 0 ≤ v := fun v hv => by
      rcases List.mem_append.mp hv with q | q
      · have q := List.mem_reverse.mp q
        have := w4 v
        have p0 := List.count_pos_iff.mpr q
        by_cases g : 0 < (Wrx (zp t) p).2.count v
        · exact NV_W v (List.count_pos_iff.mp g)
        · exact NV_W (s := s1) (p := b) v (List.count_pos_iff.mp (show 0 < (Wrx s1 b).2.count v by omega))
      · exact hl0 v q
    have ln := (len_ok u1 n2 c2).1
    rw [List.length_append, List.length_reverse] at ln
    have i0 : ind (s1 144 b < 0) = 0 := ind_f (by omega)
    have wl := u2.2.1 (fun q => q.1 wf)
    rw [eT, i0] at wl
    have wl1 := k2.1
    rw [e1] at wl1
    have wl1 : Mzx s1 Q1 act1 M ≤ Mzx (zp t) Q act M + 2 * ind (zp t 144 p < 0) := wl1
    refine ⟨t2, ps.reverse ++ l, (stx (s1, Q1, n + (if zp t 144 p < 0 then 1 else 0)) b).2.1, act2, [p, b], m1, ⟨u1, w5 l hsk (by omega), n2, c2, m2⟩, ⟨qp, ?_, trivial⟩, ?_, by omega, fun j => ?_, m3, m4⟩
    · rw [e1]
      exact qb
    · show stx (stx (zp t, Q, n) p) b = _
      rw [e1, ← eT]
      show (_, _, n + (if zp t 144 p < 0 then 1 else 0) + (if s1 144 b < 0 then 1 else 0)) = _
      rw [if_neg (show ¬ s1 144 b < 0 by omega)]
      rfl
    · have b1 := st_b4 (s := zp t) (p := p) hC.1 zb
      rw [← hs1] at b1
      have b2 := st_b4 (s := s1) (p := b) (C := C + 1) (by omega) b1 j
      rw [← w3] at b2
      have e : zp t2 144 j = t2 144 j := rfl
      omega
end ITER
