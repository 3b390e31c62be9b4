/-! One branch takes a turn: it asks, it is done. -/
section TURNX
variable {K : SCt} {W : Prop} {r r2 s s2 : tab} {Q Q2 : Nat → Nat} {act act2 : Nat → Prop} {lf dr : Nat → Int} {LG LG2 : Nat → Prop} {b p y M n n2 : Nat} {w d tp : Int} {md l : Nat} {S B : List Int}
theorem smx_c {f g : Nat → Int} {n : Nat} (h : ∀ i, i < n → f i = g i) : smx f n = smx g n := Int.le_antisymm (smz_le n (fun i hi => Int.le_of_eq (h i hi))) (smz_le n (fun i hi => Int.le_of_eq (h i hi).symm))
/-- what may change of the reference's table when branch b goes on -/
def HRx (b : Nat) (r r2 : tab) : Prop := ∀ k j, ¬ ((k = 205 ∨ k = 206 ∨ k = 207 ∨ k = 208 ∨ k = 209) ∧ j = b) → k ≠ 220 + b → k ≠ 921 + b → ¬ (k = 170 ∧ j = 53) → k ≠ 203 → k ≠ 204 → ¬ (213 ≤ k ∧ k ≤ 218) → ¬ (1622 ≤ k ∧ k ≤ 1630) → r2 k j = r k j
theorem HR_F (h : FRb b r r2) : HRx b r r2 := fun k j a1 a2 a3 _ _ _ _ _ => h k j (by omega) a2 a3
theorem HR_tr {r3 : tab} (h : HRx b r r2) (k : HRx b r2 r3) : HRx b r r3 := fun q j a1 a2 a3 a4 a5 a6 a7 a8 => (k q j a1 a2 a3 a4 a5 a6 a7 a8).trans (h q j a1 a2 a3 a4 a5 a6 a7 a8)
/-- a branch's part is at work, without a child at work but for a PAR's -/
theorem LF_x (h : PSy M K.2.2.2.1 K.2.2.2.2.2 s Q act) (hst : ∀ k j, 99 ≤ k ∧ k ≤ 114 → s k j = K.1 k j) (hbr : BRx K W r s Q act lf dr LG b) {x : Nat} (e : lf b = (x : Int)) : act x ∧ (NoC s act x ∨ PBg s x) := by
  have rdn : ∀ {x : Nat}, Q x = 1 → NoC s act x ∨ PBg s x := fun {x} q => by
    by_cases nb : PBg s x
    · exact .inr nb
    · exact .inl ((PS_rd h (show 0 < Q x by omega)).2.2.2.2 nb).2
  have ex : ∀ {z : Nat}, lf b = (z : Int) → z = x := fun q => by omega
  rcases hbr.2 with ⟨_, z, _, _, _, _, _, _, _, _, _, _, h1, _, h3, h4, _⟩ | ⟨_, z, _, _, _, _, _, h1, _, h3, h4, _⟩ | ⟨_, z, _, _, _, _, _, _, _, _, _, _, _, h1, _, h3, h4, _⟩ | ⟨_, _, _, _, h1, _⟩ | ⟨z, _, _, _, _, _, h1, _, h3, h4, h5, _, _, _, _, _, h11, _⟩ | ⟨z, _, _, _, _, _, h1, _, h3, h4, _, h6, _, _, _, _, h11, _⟩ | ⟨_, z, _, _, _, _, _, h1, _, h3, h4, _⟩
  · rw [← ex h1]; exact ⟨h3, rdn h4⟩
  · rw [← ex h1]; exact ⟨h3, rdn h4⟩
  · rw [← ex h1]; exact ⟨h3, rdn h4⟩
  · omega
  · rw [← ex h1]
    refine ⟨h3, ?_⟩
    rcases h11 with q | ⟨_, q2, q3⟩
    · exact rdn q
    · obtain ⟨⟨cx, anc, hJ⟩, _⟩ := h
      have wt := (hJ.2.2.2.2.2.2.2.1 (K.1 101 z).toNat (by omega)).1.2 (by rw [q3]; omega)
      rw [q3, Int.toNat_natCast] at wt
      exact .inl wt.2.2.1
  · rw [← ex h1]
    refine ⟨h3, ?_⟩
    rcases h11 with q | ⟨_, q2, _, q3⟩
    · exact rdn q
    · obtain ⟨⟨cx, anc, hJ⟩, _⟩ := h
      have r1 := h6.2.2.2.2.2.2
      have wt := (hJ.2.2.2.2.2.2.2.1 (K.1 101 z).toNat (by omega)).2.2 (by rw [q3]; omega)
      rw [q3, Int.toNat_natCast] at wt
      exact .inl wt.2.2.1
  · rw [← ex h1]; exact ⟨h3, .inr h4⟩
/-- the other branches -/
theorem OTH (hR : REL K M W r s Q n act lf dr LG) (h6 : r 206 b ≠ 6) (hb : LVb r b) (hp : lf b = (p : Int)) (np : NoC s act p) (ap : act p) (nb : ¬ PBg s p) (hM : MVx s Q act s2 Q2 act2 (fun z => z = p) p) (hr : HRx b r r2) (hl : ∀ k L, k = 152 ∨ k = 153 → s2 k L = s k L ∨ s k L < 0) (hdn : s 142 13 = 1 → s2 142 13 = 1) (hLG : ∀ x, x ≠ p → (LG2 x ↔ LG x)) : ∀ b2, b2 ≠ b → LVb r b2 → BRx K W r2 s2 Q2 act2 (fun i => if i = b then w else lf i) (fun i => if i = b then d else dr i) LG2 b2 := by
  obtain ⟨hPS, ⟨hst, hcd⟩, hBR, hinj, _⟩ := hR
  intro b2 ne lv
  have b7 := (hBR b2 lv).1
  have bb7 := (hBR b hb).1
  have nl : ∀ x : Nat, lf b2 = (x : Int) → x ≠ p := fun x e q => ne (hinj b2 b lv hb (by omega) (by omega))
  refine BR_mv hPS hst hM ap rfl (fun q e => .inl (by rw [show q = p from e]; exact np)) (.inr np) (hBR b2 lv) (fun k j q => hr k j (by omega) (by omega) (by omega) (by omega) (by omega) (by omega) (by omega) (by omega)) (if_neg ne) (if_neg ne) nl (fun x e => hLG x (nl x e)) (fun t _ q => ?_) (fun z t _ _ e q _ => absurd q (by rw [show z = p from e]; exact nb)) hdn (fun k L x q1 q2 q3 => ?_)
  · rcases q with q | ⟨q, q1, q2, q3, q4, q5, q6, q7⟩
    · exact .inl q
    · have qb : q ≠ b := fun e => h6 (by rw [← e]; exact q4)
      refine .inr ⟨q, (hr 210 b2 (by omega) (by omega) (by omega) (by omega) (by omega) (by omega) (by omega) (by omega)).trans q1, by rw [hr 170 55 (by omega) (by omega) (by omega) (by omega) (by omega) (by omega) (by omega) (by omega)]; exact q2, q3, (hr 206 q (by omega) (by omega) (by omega) (by omega) (by omega) (by omega) (by omega) (by omega)).trans q4, (if_neg qb).trans q5, q6, q7⟩
  · rcases hl k L q1 with v | v
    · rw [v]
      exact q3
    · omega
theorem LV_e (hr : HRx b r r2) (hb : b < 700) {b2 : Nat} (ne : b2 ≠ b) : LVb r2 b2 ↔ LVb r b2 := by
  unfold LVb
  rw [hr 170 55 (by omega) (by omega) (by omega) (by omega) (by omega) (by omega) (by omega) (by omega), hr 206 b2 (by omega) (by omega) (by omega) (by omega) (by omega) (by omega) (by omega) (by omega)]
/-- counters of REPEATs are as they were -/
def CNx (K : SCt) (r s : tab) (act : Nat → Prop) : Prop := ∀ y, act y → K.1 100 y = 311 → 1 ≤ s 144 y → r 204 (K.2.2.2.2.1 y) = K.1 101 y - s 144 y
/-- a child is asked -/
theorem t_ask (hR : REL K M W r s Q n act lf dr LG) (hb : LVb r b) (h1 : r 206 b = 1) (hp : lf b = (p : Int)) (hd : dr b = -1) (np : NoC s act p) (ap : act p) (nb : ¬ PBg s p) (nb2 : K.1 100 p ≠ 312) (ng : ¬ LG p) (hP : PSy M K.2.2.2.1 K.2.2.2.2.2 s2 Q2 (fun q => act q ∨ (q : Int) = (y : Int))) (hM : MVx s Q act s2 Q2 (fun q => act q ∨ (q : Int) = (y : Int)) (fun z => z = p) p) (ny : ¬ act y) (e3 : s2 143 y = (p : Int)) (e4 : s2 144 y = -1) (e3p : s2 143 p = s 143 p) (eQ : ∀ r, Q2 r = if r = y then 1 else if r = p then 0 else Q r) (hl : ∀ k j, k = 142 ∨ k = 152 ∨ k = 153 → s2 k j = s k j) (hr : HRx b r r2) (h12 : r2 206 b = 1) {f a k0 k1 : Nat} {c : Cxx} (hBV : BVx r2 b f S B) (hCX : CPX K md 0 a (y + 1) (y : Int) f l k0 k1 0 c) (hmd : md ≤ 1) (hKO : KO K s2 (fun q => act q ∨ (q : Int) = (y : Int)) (p : Int) y md l S B tp) (hPL : PLk r lf b tp) (hSH : SHx K r2 s2) (hC : CNx K r2 s2 (fun q => act q ∨ (q : Int) = (y : Int))) (hS : (n2 : Int) = r2 170 53 + smx (pfx K s2 (fun q => act q ∨ (q : Int) = (y : Int)) LG) M) (h53 : 0 ≤ r2 170 53 ∧ r2 170 53 ≤ r 170 54) (hf7 : FL7 K s2 (fun q => act q ∨ (q : Int) = (y : Int))) : REL K M W r2 s2 Q2 n2 (fun q => act q ∨ (q : Int) = (y : Int)) (fun i => if i = b then (y : Int) else lf i) (fun i => if i = b then -1 else dr i) LG := by
  have OT := OTH (w := (y : Int)) (d := -1) (LG2 := LG) hR (by omega) hb hp np ap nb hM hr (fun k L q => .inl (hl k L (by omega))) (fun q => by rw [hl 142 13 (by omega)]; exact q) (fun _ _ => Iff.rfl)
  obtain ⟨hPS, ⟨hst, hcd⟩, hBR, hinj, hcov, hdrs, hsh, hcn, hex, hst53, hLG, g1, g2, g3, g4, g5, g6, g7, g8⟩ := hR
  have b7 := (hBR b hb).1
  have o55 := hr 170 55 (by omega) (by omega) (by omega) (by omega) (by omega) (by omega) (by omega) (by omega)
  have o54 := hr 170 54 (by omega) (by omega) (by omega) (by omega) (by omega) (by omega) (by omega) (by omega)
  have o52 := hr 170 52 (by omega) (by omega) (by omega) (by omega) (by omega) (by omega) (by omega) (by omega)
  have yp : y ≠ p := fun e => ny (e ▸ ap)
  have nc : ∀ q, act q → s2 143 q = s 143 q := fun q aq => by
    by_cases e : q = p
    · rw [e]
      exact e3p
    · exact (hM.1 q aq e).2.1
  have lvb : LVb r2 b := ⟨by rw [o55]; exact hb.1, by rw [h12]; decide⟩
  have lv : ∀ b2, LVb r2 b2 ↔ LVb r b2 := fun b2 => by
    by_cases e : b2 = b
    · rw [e]
      exact ⟨fun _ => hb, fun _ => lvb⟩
    · exact LV_e hr b7 e
  have pl : PLk r2 (fun i => if i = b then (y : Int) else lf i) b tp := by
    rcases hPL with q | ⟨q, q1, q2, q3, q4, q5, q6, q7⟩
    · exact .inl q
    · exact .inr ⟨q, (hr 210 b (by omega) (by omega) (by omega) (by omega) (by omega) (by omega) (by omega) (by omega)).trans q1, by rw [o55]; exact q2, q3, (hr 206 q (by omega) (by omega) (by omega) (by omega) (by omega) (by omega) (by omega) (by omega)).trans q4, (if_neg q7).trans q5, q6, q7⟩
  refine ⟨hP, ⟨fun k j q => (hM.2.2.2 k j q).trans (hst k j q), fun i => (hr 178 i (by omega) (by omega) (by omega) (by omega) (by omega) (by omega) (by omega) (by omega)).trans (hcd i)⟩, fun b2 q => ?_, fun b1 b2 q1 q2 q3 q4 => ?_, fun q aq nq => ?_, fun q aq bq => ?_, hSH, hC, fun L q => ?_, hS, fun q lq => ?_, by omega, by omega, h53.1, by omega, by omega, o52.trans g6, hf7, .inl ((hl 142 13 (by omega)).trans (L13_0 g8 ap))⟩
  · by_cases e : b2 = b
    · rw [e]
      refine ⟨b7, .inl ⟨h12, y, md, f, l, a, k0, k1, c, S, B, tp, if_pos rfl, if_pos rfl, .inr rfl, by rw [eQ, if_pos rfl], e4, fun w => ny (hLG y w).1, hmd, hCX, hBV, ?_, pl⟩⟩
      rw [e3]
      exact hKO
    · exact OT b2 e ((lv b2).mp q)
  · dsimp only at q3 q4
    by_cases e1 : b1 = b
    · by_cases e2 : b2 = b
      · rw [e1, e2]
      · rw [if_pos e1, if_neg e2] at q4
        have := (LF_x hPS hst (hBR b2 ((lv b2).mp q2)) q4.symm).1
        exact absurd this ny
    · by_cases e2 : b2 = b
      · rw [if_neg e1, if_pos e2] at q4
        have := (LF_x hPS hst (hBR b1 ((lv b1).mp q1)) q4).1
        exact absurd this ny
      · rw [if_neg e1] at q3
        rw [if_neg e1, if_neg e2] at q4
        exact hinj b1 b2 ((lv b1).mp q1) ((lv b2).mp q2) q3 q4
  · by_cases e : q = y
    · exact ⟨b, lvb, by dsimp only; rw [if_pos rfl, e]⟩
    · have aq : act q := aq.elim id (fun w => absurd w (by omega))
      have qp : q ≠ p := fun w => nq y (.inr rfl) (by rw [w]; exact e3)
      obtain ⟨b2, w1, w2⟩ := hcov q aq (fun z az w => nq z (.inl az) ((nc z az).trans w))
      exact ⟨b2, (lv b2).mpr w1, by dsimp only; rw [if_neg (fun w => qp (by rw [w] at w2; omega))]; exact w2⟩
  · have qy : q ≠ y := fun w => by have := bq.2; rw [w, e4] at this; omega
    have aq : act q := aq.elim id (fun w => absurd w (by omega))
    have qp : q ≠ p := fun w => nb2 (by rw [← w, ← hst 100 q (by omega), ← hM.2.2.2 100 q (by omega)]; exact bq.1)
    have e4q := (hM.1 q aq qp).2.2.1
    rw [eQ, if_neg qy, if_neg qp, hdrs q aq ⟨(hM.2.2.2 100 q (by omega)).symm.trans bq.1, by rw [← e4q]; exact bq.2⟩]
    refine smx_c (fun i _ => ind_e ?_)
    dsimp only
    rw [lv i]
    by_cases e : i = b
    · rw [if_pos e, e, hd]
    · rw [if_neg e]
  · rw [hl 152 L (by omega), hl 153 L (by omega)]
    exact hex L q
  · obtain ⟨w1, w2, w3, w4⟩ := hLG q lq
    have qp : q ≠ p := fun e => ng (e ▸ lq)
    obtain ⟨v1, _, v3, _, _, v6, _⟩ := hM.1 q w1 qp
    exact ⟨.inl w1, by rw [eQ, if_neg (fun e : q = y => ny (e ▸ w1)), if_neg qp]; exact w2, by rw [v3]; exact w3, w4.1, v6.trans w4.2.1, w4.2.2⟩
end TURNX
