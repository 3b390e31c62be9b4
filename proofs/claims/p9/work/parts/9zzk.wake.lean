/-! Those that wait for an in or out look again. -/
section WAKEX
variable {t : tab} {Q : Nat → Nat} {act : Nat → Prop} {M N : Nat} {IN : Nat → Prop}
theorem wk_1 {l : List Int} (h : LPx M N IN t l Q act) {K L : Nat} (hK : K = 152 ∨ K = 153) (hL : L < 12) : ∃ l2 Q2, LPx M N IN (psw (up2 t K L (-1)) (t K L)) l2 Q2 act ∧ (∀ j, psw (up2 t K L (-1)) (t K L) 144 j = t 144 j) ∧ zp (psw (up2 t K L (-1)) (t K L)) = up2 (zp t) K L (-1) ∧ ∀ r : Nat, Q2 r = if t K L = (r : Int) then 1 else Q r := by
  obtain ⟨hS, hk, h0, hQ, hd⟩ := id h
  obtain ⟨⟨cx, anc, hJ⟩, hKJ, hI, hu, hM, hq⟩ := id hS
  have hz : zp t K L = t K L := zp_o (by omega)
  have w := hJ.2.2.2.2.2.2.2.1 L hL
  have f4 : ∀ j, psw (up2 t K L (-1)) (t K L) 144 j = t 144 j := fun j => (psw_o (by omega) (by omega)).trans (if_neg (by omega))
  have m1 : -1 ≤ t K L := by
    rw [← hz]
    rcases hK with e | e <;> rw [e]
    · exact w.1.1
    · exact w.2.1
  by_cases e : t K L = -1
  · have e1 : up2 t K L (-1) = t := by rw [← e, up_id]
    have e2 : psw t (t K L) = t := if_neg (by omega)
    rw [e1, e2]
    refine ⟨l, Q, h, fun _ => rfl, ?_, fun r => ?_⟩
    · rw [← e, ← hz, up_id]
    · rw [if_neg (by omega)]
  · obtain ⟨R, hR⟩ : ∃ R : Nat, t K L = (R : Int) := ⟨(t K L).toNat, by omega⟩
    obtain ⟨aR, zR, nR, kR, lR⟩ := C_pt hJ hK hL (hz.trans hR)
    have o : ∀ k j, ¬ (k = K ∧ j = L) → up2 (zp t) K L (-1) k j = zp t k j := fun k j q => if_neg q
    have e0 : ∀ k j, 99 ≤ k ∧ k ≤ 114 → up2 (zp t) K L (-1) k j = zp t k j := fun k j hk2 => o k j (by omega)
    obtain ⟨c2, r2, hJ2⟩ := J_rdy (s2 := up2 (zp t) K L (-1)) (Q2 := fun r => if r = R then 1 else Q r) hJ aR nR (by rcases kR with q | q; exact .inl q.2; exact .inr q.2) e0 (fun j => o _ _ (by omega)) (fun j _ => o _ _ (by omega)) (fun j _ => o _ _ (by omega)) (fun L2 h2 => ⟨lR 152 L2 (.inl rfl) h2, lR 153 L2 (.inr rfl) h2⟩) (fun r => rfl)
    have zz : zp (psw (up2 t K L (-1)) (t K L)) = up2 (zp t) K L (-1) := by
      have p1 := EX_ps (t := up2 t K L (-1)) (x := t K L)
      have d13 : up2 t K L (-1) 142 13 = t 142 13 := if_neg (by omega)
      rw [(p1.1 (by rw [d13]; exact hd)).1]
      exact zp_u (by omega)
    have hS2 : PSy M N IN (zp (psw (up2 t K L (-1)) (t K L))) (fun r => if r = R then 1 else Q r) act := by
      rw [zz]
      refine ⟨⟨c2, r2, hJ2⟩, ⟨hKJ.1, fun q y hq2 e3 => ?_, fun q hq2 e3 => ?_⟩, INC_ext e0 hI, fun y z c y1 z1 y2 z2 => hu y z c y1 z1 ((CH_ext e0).mp y2) ((CH_ext e0).mp z2), by rw [e0 99 12 (by omega)]; exact hM, QB_up hq (by omega)⟩
      · rw [CHb_ext e0]
        rw [o 143 q (by omega)] at e3
        exact hKJ.2.1 q y hq2 e3
      · rw [e0 99 13 (by omega)]
        rw [o 143 q (by omega)] at e3
        exact hKJ.2.2 q hq2 e3
    have n2 : ∀ v ∈ (R : Int) :: l, 0 ≤ v := fun v hv => by
      rcases List.mem_cons.mp hv with q | q
      · omega
      · exact h0 v q
    have q2 : ∀ r : Nat, (if r = R then 1 else Q r) = ((R : Int) :: l).count (r : Int) := fun r => by
      rw [List.count_cons]
      simp only [beq_iff_eq]
      by_cases e3 : r = R
      · have := hQ R
        rw [if_pos e3, if_pos (by omega), e3]
        omega
      · rw [if_neg e3, if_neg (by omega), hQ]
        rfl
    have ln := (len_ok hS2 n2 q2).1
    rw [List.length_cons] at ln
    have p1 := EX_ps (t := up2 t K L (-1)) (x := t K L)
    have pu : pux (t K L) = [(R : Int)] := by
      rw [hR]
      have := (EF_k (hJ.2.2.1 R aR).1).2.1
      have := hJ.2.1
      exact if_pos ⟨by omega, by omega⟩
    have sk := p1.2.2 l (SK_o hk (if_neg (by omega)) (fun j => if_neg (by omega))) (by rw [pu]; show l.length + 1 ≤ 2000; omega)
    rw [pu] at sk
    refine ⟨(R : Int) :: l, _, ⟨hS2, sk, n2, q2, (p1.1 (by rw [show up2 t K L (-1) 142 13 = t 142 13 from if_neg (by omega)]; exact hd)).2⟩, f4, zz, fun r => ?_⟩
    by_cases e3 : r = R
    · rw [if_pos e3, if_pos (by omega)]
    · rw [if_neg e3, if_neg (by omega)]
end WAKEX
