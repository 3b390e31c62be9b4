/-! Turns of the parts machine: a value is handed over. -/
section HANDX
variable {s : tab} {Q : Nat → Nat} {act act2 : Nat → Prop} {p R n M N : Nat} {IN : Nat → Prop}
theorem pu_2 {a r : Nat} {b : Int} (ha : (a : Int) < 2000) (hb : b < 2000) : (pux (a : Int) ++ pux b).count (r : Int) = (if a = r then 1 else 0) + (if b = (r : Int) then 1 else 0) := by
  rw [cn_app ha hb]
  by_cases e : a = r
  · rw [if_pos e, if_pos (show (a : Int) = (r : Int) by omega)]
  · rw [if_neg e, if_neg (show ¬ (a : Int) = (r : Int) by omega)]
/-- the one that receives finds the one that sends -/
theorem mv_h2 (h : PSy M N IN s Q act) (hq : 0 < Q p) (hk : s 100 p = 407) (hc : CMx s p) (hR : s 152 (s 101 p).toNat = (R : Int)) : ∃ s2 Q2 n2, stx (s, Q, n) p = (s2, Q2, n2) ∧ PSy M N IN s2 Q2 (fun q => act q ∧ q ≠ R) ∧ MVx s Q act s2 Q2 (fun q => act q ∧ q ≠ R) (fun z => z = p ∨ z = R) R ∧ (act R ∧ act p ∧ p ≠ R ∧ s 100 R = 406 ∧ s 101 R = s 101 p) ∧ (s2 145 p = vax s (s 102 R) ∧ s2 147 p = 1 ∧ s2 152 (s 101 p).toNat = -1 ∧ s2 144 p = trn s p + 1) ∧ (∀ k j, ¬ (k = 144 ∧ j = p) → ¬ (k = 145 ∧ (j = p ∨ j = R)) → ¬ (k = 147 ∧ j = p) → ¬ (k = 152 ∧ j = (s 101 p).toNat) → k ≠ 142 → s2 k j = s k j) ∧ (s2 142 13 = if s 143 R < 0 then 1 else s 142 13) ∧ (∀ r, Q2 r = (if r = p then 1 else Q r) + (if s 143 R = (r : Int) then 1 else 0)) ∧ n2 = n + (if s 144 p < 0 then 1 else 0) := by
  obtain ⟨ap, ip, pl, pM, hb⟩ := PS_rd h hq
  obtain ⟨⟨cx, anc, hJ⟩, hKJ, hI, hu, hM, hqb⟩ := id h
  obtain ⟨hq1, hn⟩ := hb (fun q => by have := q.1; omega)
  have nk : s 100 p ≠ 406 := by omega
  have ep : prx s p = (R : Int) := (if_neg nk).trans hR
  have hr : 0 ≤ prx s p := by omega
  obtain ⟨⟨aR, nR⟩, qR, fR, lR, _, kR⟩ := J_pt hJ hq hc hr
  rw [ep, Int.toNat_natCast] at aR nR qR fR lR kR
  have hltR := (EF_k fR).2.1
  have hW := Wr_c (hJ.2.2.1 p ap).1 hc
  obtain ⟨_, _, _, _, _, _, _, _, _, _, k8, _⟩ := EF_k (hJ.2.2.1 p ap).1
  have h8 := hc.1
  have h0 := (k8 hk).1.1
  have hz := hJ.2.1
  have pR : p ≠ R := fun e => by rw [← e] at qR; omega
  have nf : ¬ FGx s p := fun q => by
    rcases hc.2 with ⟨k, _⟩ | ⟨_, _, k⟩
    · exact nk k
    · exact q.2 k
  have hW2 : Wrx s p = ((144, p, trn s p + 1) :: (([(145, p, vax s (s 102 R)), (147, p, 1)] ++ (twx s (R : Int) 0).1) ++ [(152, (s 101 p).toNat, -1)]), pux (p : Int) ++ pux (s 143 R)) := by
    rw [hW]
    unfold chx
    rw [if_neg nk, if_pos hr, ep]
    unfold cax hox
    rw [if_pos ⟨by omega, pl⟩, Int.toNat_natCast, Int.toNat_natCast]
    unfold cax
    dsimp only [List.cons_append, List.nil_append]
    rw [tw_2 hltR, List.append_nil]
  obtain ⟨c9, r9, j1, j2⟩ := w_C2 (n := n) hJ (Int.le_of_eq hM) hq1 hn ap hk (L := (s 101 p).toNat) (R := R) (by omega) hR (pre := [(145, p, vax s (s 102 R)), (147, p, 1)] ++ (twx s (R : Int) 0).1) (PR_app (PR_app (a := [_]) (PR_one (by omega)) (PR_one (by omega))) PR_tw) (ps := pux (p : Int) ++ pux (s 143 R)) (fun r => pu_2 (by omega) (J_143 hJ aR)) hW2 ⟨nf, .inr ⟨hk, by rcases hc.2 with q | q; exact absurd q.1 nk; exact q.2.1, .inl ⟨h8, by rw [hR]; omega⟩⟩⟩
  have tw : (twx s (R : Int) 0).1 = (145, R, 0) :: (if s 143 R < 0 then [(142, 13, 1)] else []) := by
    unfold twx
    rw [if_pos ⟨by omega, hltR⟩, Int.toNat_natCast]
  have hT : (stx (s, Q, n) p).1 = up2 (apw (if s 143 R < 0 then [(142, 13, 1)] else []) (up2 (up2 (up2 (up2 s 144 p (trn s p + 1)) 145 p (vax s (s 102 R))) 147 p 1) 145 R 0)) 152 (s 101 p).toNat (-1) := by
    show apw (Wrx s p).1 s = _
    rw [hW2]
    dsimp only
    rw [← List.cons_append, apw_app, apw_cons (a := []), apw_nil, ← List.cons_append, apw_app, tw, apw_cons (a := (if s 143 R < 0 then [(142, 13, 1)] else []))]
    rfl
  have hA : ∀ k j, k ≠ 142 → (stx (s, Q, n) p).1 k j = up2 (up2 (up2 (up2 (up2 s 144 p (trn s p + 1)) 145 p (vax s (s 102 R))) 147 p 1) 145 R 0) 152 (s 101 p).toNat (-1) k j := fun k j hk2 => by
    rw [hT]
    by_cases e : s 143 R < 0
    · rw [if_pos e]
      by_cases e2 : k = 152 ∧ j = (s 101 p).toNat
      · exact (if_pos e2).trans (if_pos e2).symm
      · exact (if_neg e2).trans ((if_neg (fun q => hk2 q.1)).trans (if_neg e2).symm)
    · rw [if_neg e]
      rfl
  have o : ∀ k j, ¬ (k = 144 ∧ j = p) → ¬ (k = 145 ∧ (j = p ∨ j = R)) → ¬ (k = 147 ∧ j = p) → ¬ (k = 152 ∧ j = (s 101 p).toNat) → k ≠ 142 → (stx (s, Q, n) p).1 k j = s k j := fun k j q1 q2 q3 q4 q5 => by
    rw [hA k j q5]
    exact (if_neg q4).trans ((if_neg (by omega)).trans ((if_neg q3).trans ((if_neg (by omega)).trans (if_neg q1))))
  have hQ : ∀ r, (stx (s, Q, n) p).2.1 r = (if r = p then 1 else Q r) + (if s 143 R = (r : Int) then 1 else 0) := fun r => by
    show Q r - (if r = p then 1 else 0) + (Wrx s p).2.count (r : Int) = _
    rw [hW2]
    dsimp only
    rw [pu_2 (by omega) (J_143 hJ aR)]
    by_cases e : r = p
    · rw [if_pos e, if_pos e.symm, if_pos e, e, hq1]
      omega
    · rw [if_neg e, if_neg (fun z => e z.symm), if_neg e]
      omega
  refine ⟨(stx (s, Q, n) p).1, (stx (s, Q, n) p).2.1, (stx (s, Q, n) p).2.2, rfl, PS_of h hq j1 j2.2.2, ⟨fun z az zp => ?_, fun z nz => ?_, fun z az => .inl az.1, st_114 (n := n) hJ hq⟩, ⟨aR, ap, pR, kR hk, lR⟩, ⟨?_, ?_, ?_, ?_⟩, o, ?_, hQ, rfl⟩
  · have zp : ¬ (z = p ∨ z = R) := zp
    refine ⟨⟨az, fun e => zp (.inr e)⟩, o _ _ (by omega) (by omega) (by omega) (by omega) (by omega), o _ _ (by omega) (by omega) (by omega) (by omega) (by omega), o _ _ (by omega) (by omega) (by omega) (by omega) (by omega), o _ _ (by omega) (by omega) (by omega) (by omega) (by omega), o _ _ (by omega) (by omega) (by omega) (by omega) (by omega), fun q => ?_⟩
    rw [hQ, if_neg (fun e => zp (.inl e)), if_neg q]
    rfl
  · have z1 : z ≠ p := fun e => nz (e ▸ ap)
    have z2 : z ≠ R := fun e => nz (e ▸ aR)
    exact o _ _ (by omega) (by omega) (by omega) (by omega) (by omega)
  · rw [hA 145 p (by omega)]
    exact (if_neg (by omega)).trans ((if_neg (by omega)).trans ((if_neg (by omega)).trans up_self))
  · rw [hA 147 p (by omega)]
    exact (if_neg (by omega)).trans ((if_neg (by omega)).trans up_self)
  · rw [hA 152 _ (by omega)]
    exact up_self
  · rw [hA 144 p (by omega)]
    exact (if_neg (by omega)).trans ((if_neg (by omega)).trans ((if_neg (by omega)).trans ((if_neg (by omega)).trans up_self)))
  · rw [hT]
    by_cases e : s 143 R < 0
    · rw [if_pos e, if_pos e, apw_cons, apw_nil]
      dsimp only
      exact (if_neg (by omega)).trans up_self
    · rw [if_neg e, if_neg e, apw_nil]
      exact (if_neg (by omega)).trans ((if_neg (by omega)).trans ((if_neg (by omega)).trans ((if_neg (by omega)).trans (if_neg (by omega)))))
/-- the one that sends finds the one that receives -/
theorem mv_h1 (h : PSy M N IN s Q act) (hq : 0 < Q p) (hk : s 100 p = 406) (hc : CMx s p) (hR : s 153 (s 101 p).toNat = (R : Int)) : ∃ s2 Q2 n2, stx (s, Q, n) p = (s2, Q2, n2) ∧ PSy M N IN s2 Q2 (fun q => act q ∧ q ≠ p) ∧ MVx s Q act s2 Q2 (fun q => act q ∧ q ≠ p) (fun z => z = R ∨ z = p) p ∧ (act p ∧ act R ∧ p ≠ R ∧ s 100 R = 407 ∧ s 101 R = s 101 p) ∧ (s2 145 R = vax s (s 102 p) ∧ s2 147 R = 1 ∧ s2 153 (s 101 p).toNat = -1) ∧ (∀ k j, ¬ (k = 144 ∧ j = p) → ¬ (k = 145 ∧ (j = R ∨ j = p)) → ¬ (k = 147 ∧ j = R) → ¬ (k = 153 ∧ j = (s 101 p).toNat) → k ≠ 142 → s2 k j = s k j) ∧ (s2 142 13 = if s 143 p < 0 then 1 else s 142 13) ∧ (∀ r, Q2 r = (if r = R then 1 else if r = p then 0 else Q r) + (if s 143 p = (r : Int) then 1 else 0)) ∧ n2 = n + (if s 144 p < 0 then 1 else 0) := by
  obtain ⟨ap, ip, pl, pM, hb⟩ := PS_rd h hq
  obtain ⟨⟨cx, anc, hJ⟩, hKJ, hI, hu, hM, hqb⟩ := id h
  obtain ⟨hq1, hn⟩ := hb (fun q => by have := q.1; omega)
  have ep : prx s p = (R : Int) := (if_pos hk).trans hR
  have hr : 0 ≤ prx s p := by omega
  obtain ⟨⟨aR, nR⟩, qR, fR, lR, kR, _⟩ := J_pt hJ hq hc hr
  rw [ep, Int.toNat_natCast] at aR nR qR fR lR kR
  have hltR := (EF_k fR).2.1
  have hW := Wr_c (hJ.2.2.1 p ap).1 hc
  obtain ⟨_, _, _, _, _, _, _, _, _, k7, _⟩ := EF_k (hJ.2.2.1 p ap).1
  have h8 := hc.1
  have h0 := (k7 hk).1.1
  have hz := hJ.2.1
  have pR : p ≠ R := fun e => by rw [← e] at qR; omega
  have nf : ¬ FGx s p := fun q => by have := q.1; omega
  have hW2 : Wrx s p = ((144, p, trn s p + 1) :: (([(145, R, vax s (s 102 p)), (147, R, 1)] ++ (twx s (p : Int) 0).1) ++ [(153, (s 101 p).toNat, -1)]), pux (R : Int) ++ pux (s 143 p)) := by
    rw [hW]
    unfold chx
    rw [if_pos hk, if_pos hr, ep]
    unfold cax hox
    rw [if_pos ⟨by omega, hltR⟩, Int.toNat_natCast]
    unfold cax
    dsimp only [List.cons_append, List.nil_append]
    rw [tw_2 pl, List.append_nil]
  obtain ⟨c9, r9, j1, j2⟩ := w_C1 (n := n) hJ (Int.le_of_eq hM) hq1 ap hk (L := (s 101 p).toNat) (R := R) (by omega) hR (pre := [(145, R, vax s (s 102 p)), (147, R, 1)] ++ (twx s (p : Int) 0).1) (PR_app (PR_app (a := [_]) (PR_one (by omega)) (PR_one (by omega))) PR_tw) (ps := pux (R : Int) ++ pux (s 143 p)) (fun r => pu_2 (by omega) (J_143 hJ ap)) hW2 ⟨nf, .inl ⟨hk, by rcases hc.2 with q | q; exact q.2; exact absurd (q.1.symm.trans hk) (by decide), h8, by rw [hR]; omega⟩⟩
  have tw : (twx s (p : Int) 0).1 = (145, p, 0) :: (if s 143 p < 0 then [(142, 13, 1)] else []) := by
    unfold twx
    rw [if_pos ⟨by omega, pl⟩, Int.toNat_natCast]
  have hT : (stx (s, Q, n) p).1 = up2 (apw (if s 143 p < 0 then [(142, 13, 1)] else []) (up2 (up2 (up2 (up2 s 144 p (trn s p + 1)) 145 R (vax s (s 102 p))) 147 R 1) 145 p 0)) 153 (s 101 p).toNat (-1) := by
    show apw (Wrx s p).1 s = _
    rw [hW2]
    dsimp only
    rw [← List.cons_append, apw_app, apw_cons (a := []), apw_nil, ← List.cons_append, apw_app, tw, apw_cons (a := (if s 143 p < 0 then [(142, 13, 1)] else []))]
    rfl
  have hA : ∀ k j, k ≠ 142 → (stx (s, Q, n) p).1 k j = up2 (up2 (up2 (up2 (up2 s 144 p (trn s p + 1)) 145 R (vax s (s 102 p))) 147 R 1) 145 p 0) 153 (s 101 p).toNat (-1) k j := fun k j hk2 => by
    rw [hT]
    by_cases e : s 143 p < 0
    · rw [if_pos e]
      by_cases e2 : k = 153 ∧ j = (s 101 p).toNat
      · exact (if_pos e2).trans (if_pos e2).symm
      · exact (if_neg e2).trans ((if_neg (fun q => hk2 q.1)).trans (if_neg e2).symm)
    · rw [if_neg e]
      rfl
  have o : ∀ k j, ¬ (k = 144 ∧ j = p) → ¬ (k = 145 ∧ (j = R ∨ j = p)) → ¬ (k = 147 ∧ j = R) → ¬ (k = 153 ∧ j = (s 101 p).toNat) → k ≠ 142 → (stx (s, Q, n) p).1 k j = s k j := fun k j q1 q2 q3 q4 q5 => by
    rw [hA k j q5]
    exact (if_neg q4).trans ((if_neg (by omega)).trans ((if_neg q3).trans ((if_neg (by omega)).trans (if_neg q1))))
  have hQ : ∀ r, (stx (s, Q, n) p).2.1 r = (if r = R then 1 else if r = p then 0 else Q r) + (if s 143 p = (r : Int) then 1 else 0) := fun r => by
    show Q r - (if r = p then 1 else 0) + (Wrx s p).2.count (r : Int) = _
    rw [hW2]
    dsimp only
    rw [pu_2 (by omega) (J_143 hJ ap)]
    by_cases e : r = p
    · rw [if_pos e, if_neg (fun z => pR (e.symm.trans z.symm)), if_neg (fun z => pR (e.symm.trans z)), if_pos e, e, hq1]
      omega
    · by_cases e2 : r = R
      · rw [if_neg e, if_pos e2.symm, if_pos e2, e2, qR]
        omega
      · rw [if_neg e, if_neg (fun z => e2 z.symm), if_neg e2, if_neg e]
        omega
  refine ⟨(stx (s, Q, n) p).1, (stx (s, Q, n) p).2.1, (stx (s, Q, n) p).2.2, rfl, PS_of h hq j1 j2.2.2, ⟨fun z az zp => ?_, fun z nz => ?_, fun z az => .inl az.1, st_114 (n := n) hJ hq⟩, ⟨ap, aR, pR, kR hk, lR⟩, ⟨?_, ?_, ?_⟩, o, ?_, hQ, rfl⟩
  · have zp : ¬ (z = R ∨ z = p) := zp
    refine ⟨⟨az, fun e => zp (.inr e)⟩, o _ _ (by omega) (by omega) (by omega) (by omega) (by omega), o _ _ (by omega) (by omega) (by omega) (by omega) (by omega), o _ _ (by omega) (by omega) (by omega) (by omega) (by omega), o _ _ (by omega) (by omega) (by omega) (by omega) (by omega), o _ _ (by omega) (by omega) (by omega) (by omega) (by omega), fun q => ?_⟩
    rw [hQ, if_neg (fun e => zp (.inl e)), if_neg (fun e => zp (.inr e)), if_neg q]
    rfl
  · have z1 : z ≠ p := fun e => nz (e ▸ ap)
    have z2 : z ≠ R := fun e => nz (e ▸ aR)
    exact o _ _ (by omega) (by omega) (by omega) (by omega) (by omega)
  · rw [hA 145 R (by omega)]
    exact (if_neg (by omega)).trans ((if_neg (by omega)).trans ((if_neg (by omega)).trans up_self))
  · rw [hA 147 R (by omega)]
    exact (if_neg (by omega)).trans ((if_neg (by omega)).trans up_self)
  · rw [hA 153 _ (by omega)]
    exact up_self
  · rw [hT]
    by_cases e : s 143 p < 0
    · rw [if_pos e, if_pos e, apw_cons, apw_nil]
      dsimp only
      exact (if_neg (by omega)).trans up_self
    · rw [if_neg e, if_neg e, apw_nil]
      exact (if_neg (by omega)).trans ((if_neg (by omega)).trans ((if_neg (by omega)).trans ((if_neg (by omega)).trans (if_neg (by omega)))))
end HANDX
