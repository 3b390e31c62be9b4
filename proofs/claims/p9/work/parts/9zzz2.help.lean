/-! What the steps of a branch need. -/
section HELPX
variable {K : SCt} {W : Prop} {r r1 r2 s s2 : tab} {Q Q2 : Nat → Nat} {act act2 : Nat → Prop} {lf dr : Nat → Int} {LG : Nat → Prop} {b p y M n n2 : Nat}
theorem EF_cx {s : tab} {c : Cxx} {y : Nat} {x : Int} (h : EF s c y) (hc : CHb s y x) (h0 : 0 ≤ x) (hk : s 100 y ≠ 312) : CHx (EF s) c y x := by
  obtain ⟨_, _, _, e1, e2, e3, e4, e5, e6, e7, e8, e9, e10, e11, e12, e13⟩ := EF_k h
  rcases hc with hc | ⟨k, i, rfl⟩
  · unfold CHl at hc
    by_cases k : s 100 y = 401 ∨ s 100 y = 402 ∨ s 100 y = 406
    · rw [if_pos k] at hc
      rw [hc]
      rcases k with k | k | k
      · exact (e2 k).2
      · exact e3 k
      · exact (e7 k).2
    rw [if_neg k] at hc
    by_cases k2 : s 100 y = 403
    · rw [if_pos k2] at hc
      rcases hc with rfl | rfl
      · exact (e4 k2).1
      · exact (e4 k2).2
    rw [if_neg k2] at hc
    by_cases k3 : s 100 y = 404
    · rw [if_pos k3] at hc
      obtain ⟨i, i1, rfl⟩ := hc
      exact (e5 k3).2.2.1 i (by omega)
    rw [if_neg k3] at hc
    by_cases k4 : s 100 y = 405
    · rw [if_pos k4] at hc
      rcases hc with rfl | ⟨rfl, _⟩
      · exact (e6 k4).2.1
      · rcases (e6 k4).2.2 with q | q
        · omega
        · exact q
    rw [if_neg k4] at hc
    by_cases k5 : s 100 y = 407
    · rw [if_pos k5] at hc
      obtain ⟨rfl, _⟩ := hc
      rcases (e8 k5).2.2 with q | q
      · omega
      · exact q
    rw [if_neg k5] at hc
    by_cases k6 : s 100 y = 408
    · rw [if_pos k6] at hc
      obtain ⟨⟨i, rfl⟩, _⟩ := hc
      exact (e9 k6).2 i h0
    rw [if_neg k6] at hc
    by_cases k7 : s 100 y = 308
    · rw [if_pos k7] at hc
      rcases hc with rfl | rfl | ⟨rfl, _⟩
      · exact (e10 k7).1
      · exact (e10 k7).2.1
      · rcases (e10 k7).2.2 with q | q
        · omega
        · exact q
    rw [if_neg k7] at hc
    by_cases k8 : s 100 y = 310
    · rw [if_pos k8] at hc
      rcases hc with rfl | rfl
      · exact (e11 k8).1
      · exact (e11 k8).2
    rw [if_neg k8] at hc
    by_cases k9 : s 100 y = 311
    · rw [if_pos k9] at hc
      rw [hc]
      exact e12 k9
    rw [if_neg k9, if_neg hk] at hc
    exact hc.elim
  · exact (e5 k).2.2.2.2.2 i h0
/-- only the reference goes on -/
theorem BR_r {LG2 : Nat → Prop} (hbr : BRx K W r s Q act lf dr LG b) (hg : ∀ z : Nat, lf b = (z : Int) → (LG2 z ↔ LG z)) (hr : ∀ k j, ((205 ≤ k ∧ k ≤ 211) ∧ j = b) ∨ k = 220 + b ∨ k = 921 + b → r2 k j = r k j) (hPL : ∀ tp, PLk r lf b tp → PLk r2 lf b tp) : BRx K W r2 s Q act lf dr LG2 b := by
  have BV : ∀ {pc : Nat} {S B : List Int}, BVx r b pc S B → BVx r2 b pc S B := fun q => BV_fr q (fun k j w => hr k j (by omega))
  have e206 : r2 206 b = r 206 b := hr _ _ (by omega)
  have e207 : r2 207 b = r 207 b := hr _ _ (by omega)
  have e211 : r2 211 b = r 211 b := hr _ _ (by omega)
  obtain ⟨b7, hbr⟩ := hbr
  refine ⟨b7, ?_⟩
  rcases hbr with ⟨h0, x, md, f, l, a0, k0, k1, c, S, B, tp, h1, h2, h3, h4, h5, h6, h7, h8, h9, h10, h11⟩ | ⟨h0, x, m, S, B, P, tp, h1, h2, h3, h4, h5, h5b, h6, h7, h8, h9, h10, h11⟩ | ⟨h0, z, ch, md, l, md2, l2, pc, P, rb, S, B, tp, h1, h2, h3, h4, h5, h6, h7, h8, h9, h10, h11⟩ | ⟨h0, l, pc, tp, h1, h2, h3, h4, h5, h6⟩ | ⟨x, l, S, B, v, tp, h1, h2, h3, h4, h5, h6, h7, h8, h9, h10, h11, h12, h13⟩ | ⟨x, m, S, B, P, tp, h1, h2, h3, h4, h5, h6, h7, h8, h9, h10, h11, h12, h13⟩ | ⟨h0, x, f, l, S, B, tp, h1, h2, h3, h4, h5, h6, h7, h8, h9, h10, h11, h12, h13, h14⟩
  · exact .inl ⟨e206.trans h0, x, md, f, l, a0, k0, k1, c, S, B, tp, h1, h2, h3, h4, h5, fun w => h6 ((hg x h1).mp w), h7, h8, BV h9, h10, hPL tp h11⟩
  · exact .inr (.inl ⟨e206.trans h0, x, m, S, B, P, tp, h1, h2, h3, h4, h5, h5b, fun w => h6 ((hg x h1).mp w), h7, h8, BV h9, h10, hPL tp h11⟩)
  · exact .inr (.inr (.inl ⟨e206.trans h0, z, ch, md, l, md2, l2, pc, P, rb, S, B, tp, h1, h2, h3, h4, fun w => h5 ((hg z h1).mp w), h6, h7, h8, BV h9, h10, hPL tp h11⟩))
  · exact .inr (.inr (.inr (.inl ⟨e206.trans h0, l, pc, tp, h1, h2, h3, BV h4, h5, hPL tp h6⟩)))
  · refine .inr (.inr (.inr (.inr (.inl ⟨x, l, S, B, v, tp, h1, h2, h3, h4, h5, h6, fun w => h7 ((hg x h1).mp w), h8, ?_, h10, h11, h12, hPL tp h13⟩))))
    rw [e206, e207]
    rcases h9 with ⟨q1, q2, q3, q4⟩ | ⟨q1, q2, q3, m, q4, q5, q6, q7⟩
    · exact .inl ⟨q1, q2, q3, BV q4⟩
    · exact .inr ⟨q1, q2, q3, m, q4, q5, q6, BV q7⟩
  · refine .inr (.inr (.inr (.inr (.inr (.inl ⟨x, m, S, B, P, tp, h1, h2, h3, h4, h5, h6, h7, h8, (hg x h1).trans h9, ?_, h11, h12, hPL tp h13⟩)))))
    rw [e206, e207]
    rcases h10 with ⟨q1, q2, q3, q4⟩ | ⟨q1, q2, q3, q4⟩
    · exact .inl ⟨q1, q2, q3, BV q4⟩
    · exact .inr ⟨q1, q2, q3, BV q4⟩
  · exact .inr (.inr (.inr (.inr (.inr (.inr ⟨e206.trans h0, x, f, l, S, B, tp, h1, h2, h3, h4, fun w => h5 ((hg x h1).mp w), by rw [e211]; exact h6, by rw [e211]; exact h7, h8, h9, h10, h11, BV h12, h13, hPL tp h14⟩)))))
/-- places of branch b change alone -/
theorem REL_r (hR : REL K M W r s Q n act lf dr LG) (hb : LVb r b) (h1 : r 206 b = 1) (hf : FRb b r r2) (hbr : BRx K W r2 s Q act lf dr LG b) : REL K M W r2 s Q n act lf dr LG ∧ LVb r2 b ∧ r2 206 b = 1 ∧ r2 170 52 = 2 ∧ r2 170 54 = r 170 54 := by
  obtain ⟨hPS, ⟨hst, hcd⟩, hBR, hinj, hcov, hdrs, hsh, hcn, hex, hst53, hLG, g1, g2, g3, g4, g5, g6, g7, g8⟩ := hR
  have b7 := hbr.1
  have o : ∀ k j, (k < 205 ∨ k = 206 ∨ k = 207 ∨ k = 210 ∨ k = 211 ∨ 213 ≤ k ∧ k ≤ 218 ∨ 1622 ≤ k) → r2 k j = r k j := fun k j q => hf k j (by omega) (by omega) (by omega)
  have lv : ∀ b2, LVb r2 b2 ↔ LVb r b2 := fun b2 => by
    unfold LVb
    rw [o 170 55 (by omega), o 206 b2 (by omega)]
  have pl : ∀ b2 tp, PLk r lf b2 tp → PLk r2 lf b2 tp := fun b2 tp q => by
    rcases q with q | ⟨q, q1, q2, q3, q4, q5, q6, q7⟩
    · exact .inl q
    · exact .inr ⟨q, (o 210 b2 (by omega)).trans q1, by rw [o 170 55 (by omega)]; exact q2, q3, (o 206 q (by omega)).trans q4, q5, q6, q7⟩
  refine ⟨⟨hPS, ⟨hst, fun i => (o 178 i (by omega)).trans (hcd i)⟩, fun b2 q => ?_, fun b1 b2 q1 q2 => hinj b1 b2 ((lv b1).mp q1) ((lv b2).mp q2), fun q aq nq => ?_, fun q aq bq => ?_, SH_fr hsh (fun k j q => o k j (by omega)) (fun _ _ _ => rfl), fun y ay ky ty => by rw [o 204 _ (by omega)]; exact hcn y ay ky ty, hex, by rw [o 170 53 (by omega)]; exact hst53, hLG, by rw [o 170 55 (by omega)]; exact g1, by rw [o 170 55 (by omega)]; exact g2, by rw [o 170 53 (by omega)]; exact g3, by rw [o 170 53 (by omega), o 170 54 (by omega)]; exact g4, by rw [o 170 54 (by omega)]; exact g5, by rw [o 170 52 (by omega)]; exact g6, g7, g8.imp id (fun w => ⟨w.1, w.2.1, b, (lv b).mpr hb, (o 206 b (by omega)).trans h1⟩)⟩, (lv b).mpr hb, (o 206 b (by omega)).trans h1, (o 170 52 (by omega)).trans g6, o 170 54 (by omega)⟩
  · by_cases e : b2 = b
    · rw [e]
      exact hbr
    · have b27 := (hBR b2 ((lv b2).mp q)).1
      exact BR_r (hBR b2 ((lv b2).mp q)) (fun _ _ => Iff.rfl) (fun k j w => hf k j (by omega) (by omega) (by omega)) (fun tp => pl b2 tp)
  · obtain ⟨b2, w1, w2⟩ := hcov q aq nq
    exact ⟨b2, (lv b2).mpr w1, w2⟩
  · rw [hdrs q aq bq]
    exact smx_c (fun i _ => ind_e (by rw [lv i]))
/-- what is as it was behind a PART and more -/
theorem FP_o {w : Int} (h : FRb b (up2 r 170 53 w) r2) (hb : b < 700) : HRx b r r2 ∧ SRr r r2 ∧ (∀ j, r2 204 j = r 204 j) ∧ r2 170 53 = w ∧ r2 206 b = r 206 b ∧ r2 170 52 = r 170 52 ∧ r2 170 54 = r 170 54 ∧ ∀ j, r2 178 j = r 178 j := by
  have o : ∀ k j, ¬ (k = 170 ∧ j = 53) → up2 r 170 53 w k j = r k j := fun k j q => if_neg q
  refine ⟨fun k j a1 a2 a3 a4 a5 a6 a7 a8 => (h k j (by omega) a2 a3).trans (o k j a4), fun k j q => (h k j (by omega) (by omega) (by omega)).trans (o k j (by omega)), fun j => (h _ j (by omega) (by omega) (by omega)).trans (o _ j (by omega)), (h _ _ (by omega) (by omega) (by omega)).trans up_self, (h _ _ (by omega) (by omega) (by omega)).trans (o _ _ (by omega)), (h _ _ (by omega) (by omega) (by omega)).trans (o _ _ (by omega)), (h _ _ (by omega) (by omega) (by omega)).trans (o _ _ (by omega)), fun j => (h _ _ (by omega) (by omega) (by omega)).trans (o _ _ (by omega))⟩
theorem Fn_o (h : FRb b r r2) (hb : b < 700) : HRx b r r2 ∧ SRr r r2 ∧ (∀ j, r2 204 j = r 204 j) ∧ r2 170 53 = r 170 53 ∧ r2 206 b = r 206 b ∧ r2 170 52 = r 170 52 ∧ r2 170 54 = r 170 54 ∧ ∀ j, r2 178 j = r 178 j := by
  refine ⟨HR_F h, fun k j q => h k j (by omega) (by omega) (by omega), fun j => h _ j (by omega) (by omega) (by omega), h _ _ (by omega) (by omega) (by omega), h _ _ (by omega) (by omega) (by omega), h _ _ (by omega) (by omega) (by omega), h _ _ (by omega) (by omega) (by omega), fun j => h _ _ (by omega) (by omega) (by omega)⟩
theorem REL_len (hK : SPK K) (hR : REL K M W r s Q n act lf dr LG) {y : Int} {x md l : Nat} {S B : List Int} {tp : Int} (ax : act x) (h : KO K s act y x md l S B tp) : S.length ≤ 8000 ∧ B.length ≤ 2000 ∧ x < 2000 := by
  obtain ⟨k, h⟩ := h
  obtain ⟨⟨cx, anc, hJ⟩, _⟩ := hR.1
  have := (EF_k (hJ.2.2.1 x ax).1).2.1
  have := hJ.2.1
  have := KON_l (hK.2.2.2.2.1.1) k y x md l S B tp h (by omega)
  omega
end HELPX
