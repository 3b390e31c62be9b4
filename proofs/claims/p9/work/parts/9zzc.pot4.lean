/-! Every turn takes from the weight what it must. -/
section POT4
variable {s s2 : tab} {Q Q2 : Nat → Nat} {act : Nat → Prop} {cx : Nat → Cxx} {anc : Nat → Nat → Prop} {p : Nat} {n M : Nat}
theorem w_ch (h : JGx s Q act cx anc) (hM : s 99 12 ≤ (M : Int)) (hq : Q p = 1) (hn : NoC s act p) (ap : act p) (hc : CMx s p) : ∃ a c r, JGx (stx (s, Q, n) p).1 (stx (s, Q, n) p).2.1 a c r ∧ WLx s Q act p n M a := by
  have nf : ¬ FGx s p := fun q => by
    rcases hc.2 with ⟨k, _⟩ | ⟨_, _, k⟩
    · exact absurd (q.1.symm.trans k) (by decide)
    · exact q.2 k
  have fp := (h.2.2.1 p ap).1
  have hW := Wr_c fp hc
  obtain ⟨_, hlt, _, _, _, _, _, _, _, k7, k8, _⟩ := EF_k fp
  have h8 := hc.1
  have hb := J_143 h ap
  have hz := h.2.1
  have pi : ∀ {a r : Nat} {b : Int}, (a : Int) < 2000 → b < 2000 → (pux (a : Int) ++ pux b).count (r : Int) = (if a = r then 1 else 0) + (if b = (r : Int) then 1 else 0) := fun {a r b} ha hb => by
    rw [cn_app ha hb]
    by_cases e : a = r
    · rw [if_pos e, if_pos (show (a : Int) = (r : Int) by omega)]
    · rw [if_neg e, if_neg (show ¬ (a : Int) = (r : Int) by omega)]
  by_cases k : s 100 p = 406
  · have h0 := (k7 k).1.1
    have ep : prx s p = s 153 (s 101 p).toNat := if_pos k
    unfold chx at hW
    rw [if_pos k] at hW
    by_cases hr : 0 ≤ prx s p
    · rw [if_pos hr] at hW
      obtain ⟨⟨aR, _⟩, _, fR, _⟩ := J_pt h (by omega) hc hr
      obtain ⟨R, hR⟩ : ∃ R : Nat, prx s p = (R : Int) := ⟨(prx s p).toNat, (Int.toNat_of_nonneg hr).symm⟩
      rw [hR, Int.toNat_natCast] at aR fR
      have hltR := (EF_k fR).2.1
      refine ⟨_, w_C1 h hM hq ap k (L := (s 101 p).toNat) (R := R) (by omega) (by rw [← ep, hR]) (pre := [(145, R, vax s (s 102 p)), (147, R, 1)] ++ (twx s (p : Int) 0).1) (PR_app (PR_app (a := [_]) (PR_one (by omega)) (PR_one (by omega))) PR_tw) (ps := pux (R : Int) ++ pux (s 143 p)) (fun r => pi (by omega) hb) ?_ ⟨nf, .inl ⟨k, by rcases hc.2 with q | q; exact q.2; exact absurd (q.1.symm.trans k) (by decide), h8, by rw [← ep]; exact hr⟩⟩⟩
      rw [hW, hR]
      unfold cax hox
      rw [if_pos ⟨by omega, hltR⟩, Int.toNat_natCast]
      unfold cax
      dsimp only [List.cons_append, List.nil_append]
      rw [tw_2 hlt, List.append_nil]
    · rw [if_neg hr] at hW
      exact ⟨_, w_W1 h hM hq hn ap (K := 152) (L := (s 101 p).toNat) (.inl ⟨rfl, k⟩) rfl h0 hW⟩
  · have k2 : s 100 p = 407 := by
      rcases hc.2 with q | q
      · exact absurd q.1 k
      · exact q.1
    have h0 := (k8 k2).1.1
    have ep : prx s p = s 152 (s 101 p).toNat := if_neg k
    unfold chx at hW
    rw [if_neg k] at hW
    by_cases hr : 0 ≤ prx s p
    · rw [if_pos hr] at hW
      obtain ⟨⟨aR, _⟩, _, fR, _⟩ := J_pt h (by omega) hc hr
      obtain ⟨R, hR⟩ : ∃ R : Nat, prx s p = (R : Int) := ⟨(prx s p).toNat, (Int.toNat_of_nonneg hr).symm⟩
      rw [hR, Int.toNat_natCast] at aR fR
      have hltR := (EF_k fR).2.1
      refine ⟨_, w_C2 h hM hq hn ap k2 (L := (s 101 p).toNat) (R := R) (by omega) (by rw [← ep, hR]) (pre := [(145, p, vax s (s 102 R)), (147, p, 1)] ++ (twx s (R : Int) 0).1) (PR_app (PR_app (a := [_]) (PR_one (by omega)) (PR_one (by omega))) PR_tw) (ps := pux (p : Int) ++ pux (s 143 R)) (fun r => pi (by omega) (J_143 h aR)) ?_ ⟨nf, .inr ⟨k2, by rcases hc.2 with q | q; exact absurd q.1 k; exact q.2.1, .inl ⟨h8, by rw [← ep]; exact hr⟩⟩⟩⟩
      rw [hW, hR]
      unfold cax hox
      rw [if_pos ⟨by omega, hlt⟩, Int.toNat_natCast, Int.toNat_natCast]
      unfold cax
      dsimp only [List.cons_append, List.nil_append]
      rw [tw_2 hltR, List.append_nil]
    · rw [if_neg hr] at hW
      exact ⟨_, w_W1 h hM hq hn ap (K := 153) (L := (s 101 p).toNat) (.inr ⟨rfl, k2⟩) rfl h0 hW⟩
theorem w_step (h : JGx s Q act cx anc) (hM : s 99 12 ≤ (M : Int)) (hp : 0 < Q p) : ∃ a c r, JGx (stx (s, Q, n) p).1 (stx (s, Q, n) p).2.1 a c r ∧ WLx s Q act p n M a := by
  obtain ⟨ap, b⟩ := h.2.2.2.2.2.2.1 p hp
  by_cases hb : PBg s p
  · obtain ⟨l, l1, l2, l3⟩ := h.2.2.2.2.2.2.2.2.1 p ap hb
    have b2 := hb.2
    have ht : trn s p = s 144 p := trn_of rfl (by omega)
    by_cases e : trn s p = s 102 p
    · have l0 : l = [] := List.length_eq_zero_iff.mp (by omega)
      have hn : NoC s act p := fun q aq z => by
        have := (l2 q).mpr ⟨aq, z⟩
        rw [l0] at this
        cases this
      have hq : Q p = 1 := by
        rw [l0] at l3
        have : (([] : List Nat).length : Int) = 0 := rfl
        omega
      refine ⟨_, w_T h hM hq hn ap ?_⟩
      have hW : Wrx s p = cax ([(144, p, trn s p + 1)], []) (twx s (p : Int) 0) := by
        unfold Wrx gwx
        rw [if_neg (fun q => absurd (q.1.symm.trans hb.1) (by decide)), hb.1, if_neg (by decide), if_neg (by decide), if_neg (by decide), if_neg (by decide), if_neg (by decide), if_neg (by decide), if_neg (by decide), if_pos rfl, if_neg (by omega), if_pos e]
      rw [hW]
      exact kt
    · have hs : (stx (s, Q, n) p).1 = up2 s 144 p (s 144 p + 1) := by
        unfold stx
        rw [noop_W hb.1 (by omega) e]
        dsimp only
        rw [apw_cons, apw_nil, ht]
      have hQ : ∀ r, (stx (s, Q, n) p).2.1 r = if r = p then Q p - 1 else Q r := fun r => by
        unfold stx
        rw [noop_W hb.1 (by omega) e]
        dsimp only
        rw [List.count_nil]
        by_cases z : r = p
        · rw [if_pos z, if_pos z, z]
          omega
        · rw [if_neg z, if_neg z]
          omega
      obtain ⟨c, r, hJ⟩ := J_count (s2 := (stx (s, Q, n) p).1) (Q2 := (stx (s, Q, n) p).2.1) h hp hb hs hQ
      refine ⟨_, c, r, hJ, WL_of (fun q hq2 => .inl ⟨hq2, by rw [hs]; exact if_neg (by omega)⟩) ?_⟩
      have := M_N (s := s) (s2 := (stx (s, Q, n) p).1) (Q := Q) (Q2 := (stx (s, Q, n) p).2.1) (act := act) (M := M) hp (J_lt h ap hM) (fun j hj => by rw [hs]; exact if_neg (fun q => hj q.2)) (by omega) hQ
      have w := ind_r (P := s 144 p < 0)
      omega
  · obtain ⟨hq, hn⟩ := b hb
    by_cases hk : s 100 p = 312
    · have : ¬ 1 ≤ s 144 p := fun z => hb ⟨hk, z⟩
      refine ⟨_, w_P h hM hq hn ap hk ?_⟩
      unfold trn
      split
      · rfl
      · omega
    · by_cases hc : CMx s p
      · exact w_ch h hM hq hn ap hc
      · obtain ⟨fp, pp⟩ := h.2.2.1 p ap
        rcases k_all fp pp hc hk with k | k | k | k
        · obtain ⟨pre, y, k1, k2, k3, k4⟩ := k
          exact ⟨_, w_A h hM hq hn ap hk k1 k2.1 k2.2 k3 k4⟩
        · exact ⟨_, w_T h hM hq hn ap k⟩
        · obtain ⟨k, h0⟩ := k
          rcases k with ⟨k, hW⟩ | ⟨k, hW⟩
          · exact ⟨_, w_W1 h hM hq hn ap (.inl ⟨rfl, k⟩) rfl h0 hW⟩
          · exact ⟨_, w_W1 h hM hq hn ap (.inr ⟨rfl, k⟩) rfl h0 hW⟩
        · exact ⟨_, w_S h hM hq hn ap k (KS_ho h ap k)⟩
end POT4
