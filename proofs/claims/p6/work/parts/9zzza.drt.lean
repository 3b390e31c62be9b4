/-! A branch whose part is done: it is over, or all is. -/
section DRTX
variable {K : SCt} {W : Prop} {r r1 r2 s s2 : tab} {Q Q2 : Nat → Nat} {act act2 : Nat → Prop} {lf dr : Nat → Int} {LG LG2 : Nat → Prop} {b x p M n n2 m l f pc : Nat} {S B P : List Int} {tp v : Int}
theorem PL_F (h : FRb b r r2) (hb : b < 700) (w : PLk r lf b tp) : PLk r2 lf b tp := by
  rcases w with q | ⟨q, q1, q2, q3, q4, q5, q6, q7⟩
  · exact .inl q
  · exact .inr ⟨q, (h 210 b (by omega) (by omega) (by omega)).trans q1, by rw [h 170 55 (by omega) (by omega) (by omega)]; exact q2, q3, (h 206 q (by omega) (by omega) (by omega)).trans q4, q5, q6, q7⟩
/-- all is done -/
theorem nx_end (hR : REL K M False r s Q n act lf dr LG) (hb : LVb r b) (h1 : r 206 b = 1) (hp : l < 25000) (hBV : BVx r b l [] []) (hc : cd K l = 21) (h13 : s 142 13 = 1) (hna : ∀ q, ¬ act q) : NXT K M b r s Q n := by
  obtain ⟨hPS, ⟨hst, hcd⟩, hBR, hinj, hcov, hdrs, hsh, hcn, hex, hst53, hLG, g1, g2, g3, g4, g5, g6, g7⟩ := id hR
  have b7 := (hBR b hb).1
  obtain ⟨r2, a1, a2⟩ := o_end b7 hBV hp ((hcd l).trans hc)
  have o : ∀ k j, ¬ ((k = 205 ∨ k = 206 ∨ k = 208 ∨ k = 209) ∧ j = b) → k ≠ 220 + b → k ≠ 921 + b → ¬ (k = 170 ∧ j = 52) → r2 k j = r k j := fun k j w1 w2 w3 w4 => (a2 k j (by omega) w2 w3).trans ((if_neg w4).trans (if_neg (by omega)))
  have ea : act = fun _ => False := funext fun q => propext ⟨fun w => hna q w, fun w => w.elim⟩
  refine .inr (.inr ⟨0, r2, [], s, Q, n, MS_1 h1 g6 a1, trivial, rfl, ⟨(a2 170 52 (by omega) (by omega) (by omega)).trans up_self, h13, fun p => Classical.byContradiction fun q => hna p (PS_rd hPS (show 0 < Q p by omega)).1, by rw [← ea]; exact hPS, SH_fr hsh (fun k j w => o k j (by omega) (by omega) (by omega) (by omega)) (fun _ _ _ => rfl), ?_, by rw [o 170 53 (by omega) (by omega) (by omega) (by omega)]; exact g3, by rw [o 170 53 (by omega) (by omega) (by omega) (by omega), o 170 54 (by omega) (by omega) (by omega) (by omega)]; exact g4, hst, fun i => (o 178 i (by omega) (by omega) (by omega) (by omega)).trans (hcd i)⟩, o 170 54 (by omega) (by omega) (by omega) (by omega)⟩)
  rw [hst53, o 170 53 (by omega) (by omega) (by omega) (by omega), smx_z M (fun i _ => by
    unfold pfx
    rw [ind_f (fun w => hna i w.1), ind_f (fun w => hna i (hLG i w).1)]
    rfl)]
  omega
end DRTX
