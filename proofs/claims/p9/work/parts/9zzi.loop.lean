/-! The loop of goOn is a run of the parts machine. -/
section LOOPX
variable {s t ts : tab} {Q Q2 : Nat → Nat} {act act2 : Nat → Prop} {cx : Nat → Cxx} {anc : Nat → Nat → Prop} {M N : Nat} {IN : Nat → Prop}
theorem Mz_0 (h : JGx s Q act cx anc) : 0 ≤ Mzx s Q act M := by
  have := smz_le (f := fun _ => 0) (g := hwx s Q act) M (fun r _ => by
    by_cases q : Q r = 0
    · rw [hw_0 q]
      exact ind_r.1
    · have ar := (h.2.2.2.2.2.2.1 r (by omega)).1
      unfold hwx
      rw [ind_t ar]
      have := ind_r (P := 0 < Q r ∧ s 144 r < 0)
      omega)
  rw [smz_0] at this
  exact this
theorem go_loop {most : Int} (hm : most ≤ 20000) : ∀ (k : Nat) (i C : Int) (t : tab) (l : List Int) (Q : Nat → Nat) (act : Nat → Prop) (n : Nat), i + (k : Int) = 1000000 → 0 ≤ i → LPx M N IN t l Q act → (n : Int) = t 142 15 → (n : Int) ≤ most → 0 ≤ C → C + 2 * (k : Int) < 2147483646 → (∀ j, t 144 j ≤ C) → Mzx (zp t) Q act M + i ≤ 10000 + 2 * (n : Int) → ∃ ps t2 l2 Q2 act2, ∃ n2 : Nat, okx rdx stx (zp t, Q, n) ps ∧ rnx stx (zp t, Q, n) ps = (zp t2, Q2, n2) ∧ LPx M N IN t2 l2 Q2 act2 ∧ (n2 : Int) = t2 142 15 ∧ (n2 : Int) ≤ most ∧ t2 142 14 = t 142 14 ∧ (∀ j, t2 144 j ≤ C + 2 * (k : Int)) ∧ ((l2 = [] ∧ wG 51 [most, i] t = some (some (0, up2 t2 142 14 (if t2 142 13 = 0 then 2 else 1)))) ∨ (∃ q : Nat, 0 < Q2 q ∧ zp t2 144 q < 0 ∧ (n2 : Int) = most ∧ wG 51 [most, i] t = some (some (0, up2 (up2 (up2 t2 142 6 (imi (t2 142 6) 1)) 142 14 3) 142 15 0))))
  | 0, i, C, t, l, Q, act, n, hi, i0, hL, hn, hnm, c0, c1, hb, hw => by
    obtain ⟨⟨⟨cx, anc, hJ⟩, _⟩, _⟩ := hL
    have := Mz_0 (M := M) hJ
    omega
  | k + 1, i, C, t, l, Q, act, n, hi, i0, hL, hn, hnm, c0, c1, hb, hw => by
    obtain ⟨hS, hk, h0, hQ, hd⟩ := id hL
    have h6 := hk.1
    cases l with
    | nil =>
      have h6 : t 142 6 = 0 := h6
      refine ⟨[], t, [], Q, act, n, trivial, rfl, hL, hn, hnm, rfl, fun j => by have := hb j; omega, .inl ⟨rfl, ?_⟩⟩
      rw [wG_82_45]
      unfold wM82_45
      rw [if_neg (by omega), if_pos (by omega)]
      by_cases e : t 142 13 = 0
      · rw [if_pos e, if_pos e]
      · rw [if_neg e, if_neg e]
    | cons v l =>
      have v0 := h0 v List.mem_cons_self
      obtain ⟨p, rfl⟩ : ∃ p : Nat, v = (p : Int) := ⟨v.toNat, by omega⟩
      have h6 : t 142 6 = ((l.length + 1 : Nat) : Int) := h6
      have ln := (len_ok hS h0 hQ).1
      rw [List.length_cons] at ln
      have e6 : imi (t 142 6) 1 = (l.length : Int) := by rw [imi_e (by omega)]; omega
      have e7 : t 147 (imi (t 142 6) 1).toNat = (p : Int) := by rw [e6, Int.toNat_natCast]; exact hk.2.1
      have qp : 0 < Q p := by
        rw [hQ]
        exact List.count_pos_iff.mpr List.mem_cons_self
      have z4 : zp t 144 p = t 144 p := rfl
      have hM : wG 51 [most, i] t = (if 0 ≤ t 144 p then (bo (wG 29 [(p : Int)] (up2 t 142 6 (l.length : Int))) fun _ t3 => wG 51 [most, i + 1] t3) else if t 142 15 ≠ most then (bo (wG 29 [(p : Int)] (up2 (up2 (up2 t 142 6 (l.length : Int)) 142 15 (ipl (t 142 15) 1)) 144 p 0)) fun _ t3 => wG 51 [most, i + 1] t3) else some (some (0, up2 (up2 (up2 t 142 6 (l.length : Int)) 142 14 3) 142 15 0))) := by
        rw [wG_82_45]
        unfold wM82_45
        rw [if_neg (by omega), if_neg (by omega), e7, e6, Int.toNat_natCast]
      have sk0 : ∀ {ts : tab}, ts 142 6 = (l.length : Int) → (∀ j, ts 147 j = t 147 j) → SKx ts l := fun a b => ⟨a, LS_e l (fun j _ => b j) hk.2.2⟩
      have main : ∀ {ts : tab} {n1 : Nat}, zp ts = up2 (zp t) 144 p (trn (zp t) p) → ts 142 13 = t 142 13 → ts 142 14 = t 142 14 → SKx ts l → n1 = n + (if zp t 144 p < 0 then 1 else 0) → (n1 : Int) = ts 142 15 → (n1 : Int) ≤ most → wG 51 [most, i] t = (bo (wG 29 [(p : Int)] ts) fun _ t3 => wG 51 [most, i + 1] t3) → ∃ ps t2 l2 Q2 act2, ∃ n2 : Nat, okx rdx stx (zp t, Q, n) ps ∧ rnx stx (zp t, Q, n) ps = (zp t2, Q2, n2) ∧ LPx M N IN t2 l2 Q2 act2 ∧ (n2 : Int) = t2 142 15 ∧ (n2 : Int) ≤ most ∧ t2 142 14 = t 142 14 ∧ (∀ j, t2 144 j ≤ C + 2 * ((k + 1 : Nat) : Int)) ∧ ((l2 = [] ∧ wG 51 [most, i] t = some (some (0, up2 t2 142 14 (if t2 142 13 = 0 then 2 else 1)))) ∨ (∃ q : Nat, 0 < Q2 q ∧ zp t2 144 q < 0 ∧ (n2 : Int) = most ∧ wG 51 [most, i] t = some (some (0, up2 (up2 (up2 t2 142 6 (imi (t2 142 6) 1)) 142 14 3) 142 15 0)))) := fun {ts n1} a1 a2 a3 a4 a5 a6 a7 a8 => by
        obtain ⟨t3, l3, Q3, act3, ps, b1, b2, b3, b4, b5, b6, b7, b8⟩ := it_turn (n := n) hL ⟨c0, by omega⟩ hb a1 a2 a4
        rw [← a5] at b4
        have wi : 2 * ind (zp t 144 p < 0) + 2 * (n : Int) = 2 * (n1 : Int) := by
          rw [a5]
          by_cases e : zp t 144 p < 0
          · rw [ind_t e, if_pos e]
            omega
          · rw [ind_f e, if_neg e]
            omega
        obtain ⟨qs, t2, l2, Q2, act2, n2, d1, d2, d3, d4, d5, d6, d7, d8⟩ := go_loop hm k (i + 1) (C + 2) t3 l3 Q3 act3 n1 (by omega) (by omega) b2 (by rw [b8]; exact a6) a7 (by omega) (by omega) b6 (by omega)
        refine ⟨ps ++ qs, t2, l2, Q2, act2, n2, (ok_app ps qs _).mpr ⟨b3, by rw [b4]; exact d1⟩, by rw [rn_app, b4]; exact d2, d3, d4, d5, d6.trans (b7.trans a3), fun j => by have := d7 j; omega, ?_⟩
        rw [a8, b1, bo_s]
        exact d8
      by_cases e : 0 ≤ t 144 p
      · rw [if_pos e] at hM
        refine main (n1 := n) ?_ (if_neg (by omega)) (if_neg (by omega)) (sk0 up_self (fun j => if_neg (by omega))) (by rw [if_neg (by omega)]; rfl) ?_ hnm hM
        · rw [zp_n (by omega)]
          have : trn (zp t) p = zp t 144 p := if_neg (by omega)
          rw [this, up_id]
        · rw [show (up2 t 142 6 (l.length : Int)) 142 15 = t 142 15 from if_neg (by omega)]
          exact hn
      · rw [if_neg e] at hM
        by_cases e2 : t 142 15 = most
        · rw [if_neg (fun q => q e2)] at hM
          refine ⟨[], t, (p : Int) :: l, Q, act, n, trivial, rfl, hL, hn, hnm, rfl, fun j => by have := hb j; omega, .inr ⟨p, qp, by omega, by omega, ?_⟩⟩
          rw [hM, e6]
        · rw [if_pos e2] at hM
          have t0 : trn (zp t) p = 0 := if_pos (by omega)
          refine main (n1 := n + 1) ?_ ?_ ?_ (sk0 ?_ (fun j => ?_)) (by rw [if_pos (by omega)]) ?_ (by omega) hM
          · rw [zp_u (by omega), zp_n (by omega), zp_n (by omega), t0]
          · exact (if_neg (by omega)).trans ((if_neg (by omega)).trans (if_neg (by omega)))
          · exact (if_neg (by omega)).trans ((if_neg (by omega)).trans (if_neg (by omega)))
          · exact (if_neg (by omega)).trans ((if_neg (by omega)).trans up_self)
          · exact (if_neg (by omega)).trans ((if_neg (by omega)).trans (if_neg (by omega)))
          · rw [show (up2 (up2 (up2 t 142 6 (l.length : Int)) 142 15 (ipl (t 142 15) 1)) 144 p 0) 142 15 = ipl (t 142 15) 1 from (if_neg (by omega)).trans up_self, ipl_e (by omega)]
            omega
end LOOPX
