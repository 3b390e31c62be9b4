/-! Branches that a turn does not concern stay as they are. -/
section STAB
variable {K : SCt} {W : Prop} {r r2 s s2 : tab} {Q Q2 : Nat → Nat} {act act2 : Nat → Prop} {lf dr lf2 dr2 : Nat → Int} {LG LG2 X : Nat → Prop} {b a M n : Nat}
/-- what a part may ask is within its reach -/
theorem EF_ch {s : tab} {c : Cxx} {y : Nat} {x : Int} (h : EF s c y) (hc : CHb s y x) (h0 : 0 ≤ x) : c.1 x.toNat := by
  obtain ⟨_, _, _, e1, e2, e3, e4, e5, e6, e7, e8, e9, e10, e11, e12, e13⟩ := EF_k h
  have g : ∀ {w : Int}, CHx (EF s) c y w → c.1 w.toNat := fun q => EF_p q.2.2
  rcases hc with hc | ⟨k, i, rfl⟩
  · unfold CHl at hc
    by_cases k : s 100 y = 401 ∨ s 100 y = 402 ∨ s 100 y = 406
    · rw [if_pos k] at hc
      rw [hc]
      rcases k with k | k | k
      · exact g (e2 k).2
      · exact g (e3 k)
      · exact g (e7 k).2
    rw [if_neg k] at hc
    by_cases k2 : s 100 y = 403
    · rw [if_pos k2] at hc
      rcases hc with rfl | rfl
      · exact g (e4 k2).1
      · exact g (e4 k2).2
    rw [if_neg k2] at hc
    by_cases k3 : s 100 y = 404
    · rw [if_pos k3] at hc
      obtain ⟨i, i1, rfl⟩ := hc
      exact g ((e5 k3).2.2.1 i (by omega))
    rw [if_neg k3] at hc
    by_cases k4 : s 100 y = 405
    · rw [if_pos k4] at hc
      rcases hc with rfl | ⟨rfl, _⟩
      · exact g (e6 k4).2.1
      · rcases (e6 k4).2.2 with q | q
        · omega
        · exact g q
    rw [if_neg k4] at hc
    by_cases k5 : s 100 y = 407
    · rw [if_pos k5] at hc
      obtain ⟨rfl, _⟩ := hc
      rcases (e8 k5).2.2 with q | q
      · omega
      · exact g q
    rw [if_neg k5] at hc
    by_cases k6 : s 100 y = 408
    · rw [if_pos k6] at hc
      obtain ⟨⟨i, rfl⟩, _⟩ := hc
      exact g ((e9 k6).2 i h0)
    rw [if_neg k6] at hc
    by_cases k7 : s 100 y = 308
    · rw [if_pos k7] at hc
      rcases hc with rfl | rfl | ⟨rfl, _⟩
      · exact g (e10 k7).1
      · exact g (e10 k7).2.1
      · rcases (e10 k7).2.2 with q | q
        · omega
        · exact g q
    rw [if_neg k7] at hc
    by_cases k8 : s 100 y = 310
    · rw [if_pos k8] at hc
      rcases hc with rfl | rfl
      · exact g (e11 k8).1
      · exact g (e11 k8).2
    rw [if_neg k8] at hc
    by_cases k9 : s 100 y = 311
    · rw [if_pos k9] at hc
      rw [hc]
      exact g (e12 k9)
    rw [if_neg k9] at hc
    by_cases k10 : s 100 y = 312
    · rw [if_pos k10] at hc
      obtain ⟨i, i1, rfl⟩ := hc
      obtain ⟨_, cs, w1, _⟩ := e13 k10
      obtain ⟨w2, _, w3⟩ := w1 i (by omega)
      exact w2.1 _ (EF_p w3.2.2)
    · rw [if_neg k10] at hc
      exact hc.elim
  · exact g ((e5 k).2.2.2.2.2 i h0)
/-- two parts without a child at work have no child in common -/
theorem NA_ch {s : tab} {Q : Nat → Nat} {act : Nat → Prop} {cx : Nat → Cxx} {anc : Nat → Nat → Prop} {z a ch : Nat} (hJ : JGx s Q act cx anc) (az : act z) (aa : act a) (nz : NoC s act z) (na : NoC s act a) (ne : z ≠ a) (h1 : CHb s z (ch : Int)) (h2 : CHb s a (ch : Int)) : False := by
  rcases hJ.2.2.2.2.2.1 z a az aa ne with q | q | q
  · exact J_anc hJ nz q
  · exact J_anc hJ na q
  · exact q.1 ch ⟨EF_ch (hJ.2.2.1 z az).1 h1 (by omega), EF_ch (hJ.2.2.1 a aa).1 h2 (by omega)⟩
theorem HV_of (h : PSy M K.2.2.2.1 K.2.2.2.2.2 s Q act) (hst : ∀ k j, 99 ≤ k ∧ k ≤ 114 → s k j = K.1 k j) (H : MVx s Q act s2 Q2 act2 X a) (aa : act a) (Xa : X a) : ∀ (z : Nat) (c : Int), act z → ¬ X z → CHl K.1 z c → 0 ≤ c → ¬ act c.toNat → ¬ act2 c.toNat ∧ s2 145 c.toNat = s 145 c.toNat := by
  intro z c az nz hc c0 nc
  refine ⟨fun a2 => ?_, H.2.1 _ nc⟩
  obtain ⟨_, hK, hI, hu, _⟩ := h
  have hc2 := (CH_ext (y := z) (c := c) hst).mpr hc
  have e : ((c.toNat : Nat) : Int) = c := Int.toNat_of_nonneg c0
  rcases H.2.2.1 _ a2 with q | q
  · exact nc q
  · rw [e] at q
    rcases q with q | ⟨q1, i, q2⟩
    · have := hu a z c (hK.1 a aa) (hK.1 z az) q hc2
      exact nz (this ▸ Xa)
    · have w := hI.2.1 a (hK.1 a aa) q1
      rw [q2] at hc2 c0
      exact hI.2.2.2.2.1 z (s 101 a).toNat i (hK.1 z az) (by omega) c0 hc2
/-- the PAR above a branch -/
def TPx (K : SCt) (s : tab) (act : Nat → Prop) (lf dr : Nat → Int) (b : Nat) (tp : Int) : Prop := tp = -1 ∨ dr b = tp ∨ ∃ (x md l : Nat) (S B : List Int), lf b = (x : Int) ∧ act x ∧ KO K s act (s 143 x) x md l S B tp
theorem BR_mv (h : PSy M K.2.2.2.1 K.2.2.2.2.2 s Q act) (hst : ∀ k j, 99 ≤ k ∧ k ≤ 114 → s k j = K.1 k j) (H : MVx s Q act s2 Q2 act2 X a) (aa : act a) (Xa : X a) (hX : ∀ p, X p → NoC s act p ∨ K.1 100 p = 312) (hNa : (∀ c, act2 c → act c) ∨ NoC s act a) (hbr : BRx K W r s Q act lf dr LG b) (hr : ∀ k j, ((205 ≤ k ∧ k ≤ 211) ∧ j = b) ∨ k = 220 + b ∨ k = 921 + b → r2 k j = r k j) (hlf : lf2 b = lf b) (hdr : dr2 b = dr b) (hnl : ∀ x : Nat, lf b = (x : Int) → ¬ X x) (hLG : ∀ x : Nat, lf b = (x : Int) → (LG2 x ↔ LG x)) (hPL : ∀ tp, TPx K s act lf dr b tp → PLk r lf b tp → PLk r2 lf2 b tp) (HP : ∀ (z : Nat) (tp : Int), TPx K s act lf dr b tp → PLk r lf b tp → X z → PBg s z → (z : Int) = tp → PBg s2 z ∧ act2 z) (hdn : s 142 13 = 1 → s2 142 13 = 1) (hw : ∀ (k L x : Nat), k = 152 ∨ k = 153 → lf b = (x : Int) → s k L = (x : Int) → s2 k L = (x : Int)) : BRx K W r2 s2 Q2 act2 lf2 dr2 LG2 b := by
  have HV := HV_of h hst H aa Xa
  have hs100 : ∀ j, s 100 j = K.1 100 j := fun j => hst 100 j (by omega)
  have h2100 : ∀ j, s2 100 j = s 100 j := fun j => H.2.2.2 100 j (by omega)
  have BV : ∀ {pc : Nat} {S B : List Int}, BVx r b pc S B → BVx r2 b pc S B := fun q => BV_fr q (fun k j w => hr k j (by omega))
  have KM : ∀ {x md l : Nat} {S B : List Int} {tp : Int}, lf b = (x : Int) → act x → PLk r lf b tp → KO K s act (s 143 x) x md l S B tp → KO K s2 act2 (s 143 x) x md l S B tp := fun {x md l S B tp} ex ax hp q0 => by
    obtain ⟨k, q⟩ := id q0
    refine ⟨k, KON_mv hX (fun z az nz => ?_) (fun z hz hb e => HP z tp (.inr (.inr ⟨x, md, l, S, B, ex, ax, q0⟩)) hp hz hb e) h2100 hs100 HV k _ _ _ _ _ _ (fun p hp e => ?_) q⟩
    · obtain ⟨w1, w2, w3, _, w5, _⟩ := H.1 z az nz
      exact ⟨w1, w2, w3, w5⟩
    · rcases hX p hp with w | w
      · exact absurd e (w x ax)
      · exact w
  have TP : ∀ {x md l : Nat} {S B : List Int} {tp : Int}, lf b = (x : Int) → act x → KO K s act (s 143 x) x md l S B tp → TPx K s act lf dr b tp := fun {x md l S B tp} ex ax q => .inr (.inr ⟨x, md, l, S, B, ex, ax, q⟩)
  have e206 : r2 206 b = r 206 b := hr _ _ (by omega)
  have e207 : r2 207 b = r 207 b := hr _ _ (by omega)
  have e211 : r2 211 b = r 211 b := hr _ _ (by omega)
  have lx : ∀ {x : Nat}, lf b = (x : Int) → act x → act2 x ∧ s2 143 x = s 143 x ∧ s2 144 x = s 144 x ∧ s2 145 x = s 145 x ∧ s2 146 x = s 146 x ∧ s2 147 x = s 147 x ∧ (s 143 a ≠ (x : Int) → Q2 x = Q x) := fun {x} e ax => H.1 x ax (hnl x e)
  have Qx : ∀ {x : Nat}, lf b = (x : Int) → act x → NoC s act x → Q2 x = Q x := fun {x} e ax nx => (lx e ax).2.2.2.2.2.2 (fun w => nx a aa w)
  have rdn : ∀ {x : Nat}, Q x = 1 → ¬ PBg s x → NoC s act x := fun {x} q nb => ((PS_rd h (show 0 < Q x by omega)).2.2.2.2 nb).2
  have VM : ∀ {x : Nat}, lf b = (x : Int) → act x → ∀ c v, PVy K s act x c v → PVy K s2 act2 x c v := fun {x} e ax c v q => ⟨q.1, q.2.1, (HV x c ax (hnl x e) q.1 q.2.1 q.2.2.1).1, (HV x c ax (hnl x e) q.1 q.2.1 q.2.2.1).2.trans q.2.2.2⟩
  obtain ⟨b7, hbr⟩ := hbr
  refine ⟨b7, ?_⟩
  rcases hbr with ⟨h0, x, md, f, l, a0, k0, k1, c, S, B, tp, h1, h2, h3, h4, h5, h6, h7, h8, h9, h10, h11⟩ | ⟨h0, x, m, S, B, P, tp, h1, h2, h3, h4, h5, h5b, h6, h7, h8, h9, h10, h11⟩ | ⟨h0, z, ch, md, l, md2, l2, pc, P, rb, S, B, tp, h1, h2, h3, h4, h5, h6, h7, h8, h9, h10, h11⟩ | ⟨h0, l, pc, tp, h1, h2, h3, h4, h5, h6⟩ | ⟨x, l, S, B, v, tp, h1, h2, h3, h4, h5, h6, h7, h8, h9, h10, h11, h12, h13⟩ | ⟨x, m, S, B, P, tp, h1, h2, h3, h4, h5, h6, h7, h8, h9, h10, h11, h12, h13⟩ | ⟨h0, x, f, l, S, B, tp, h1, h2, h3, h4, h5, h6, h7, h8, h9, h10, h11, h12, h13, h14⟩
  · obtain ⟨w1, w2, w3, w4, w5, w6, _⟩ := lx h1 h3
    have nx := rdn h4 (fun q => by have := q.2; omega)
    refine .inl ⟨e206.trans h0, x, md, f, l, a0, k0, k1, c, S, B, tp, hlf.trans h1, hdr.trans h2, w1, (Qx h1 h3 nx).trans h4, w3.trans h5, fun q => h6 ((hLG x h1).mp q), h7, h8, BV h9, ?_, hPL tp (TP h1 h3 h10) h11⟩
    rw [w2]
    exact KM h1 h3 h11 h10
  · obtain ⟨w1, w2, w3, w4, w5, w6, _⟩ := lx h1 h3
    have nx := rdn h4 (fun q => absurd (q.1.symm.trans h5.1) (by decide))
    refine .inr (.inl ⟨e206.trans h0, x, m, S, B, P, tp, hlf.trans h1, hdr.trans h2, w1, (Qx h1 h3 nx).trans h4, ⟨(h2100 x).trans h5.1, by rw [w6]; exact h5.2⟩, by rw [w3]; exact h5b, fun q => h6 ((hLG x h1).mp q), h7, h8.imp id (fun q => ⟨q.1, q.2.imp fun v q => ⟨q.1, VM h1 h3 _ _ q.2⟩⟩), by rw [w4]; exact BV h9, ?_, hPL tp (TP h1 h3 h10) h11⟩)
    rw [w2]
    exact KM h1 h3 h11 h10
  · obtain ⟨w1, w2, w3, w4, w5, w6, _⟩ := lx h1 h3
    have nx := rdn h4 (fun q => FRM_k h7 (by rw [← hs100]; exact q.1))
    have hch : ¬ act2 ch ∧ s2 145 ch = s 145 ch := by
      refine ⟨fun q => ?_, H.2.1 ch h6⟩
      rcases H.2.2.1 ch q with w | w
      · exact h6 w
      · rcases hNa with v | v
        · exact h6 (v ch q)
        · obtain ⟨⟨cx, anc, hJ⟩, _⟩ := h
          exact NA_ch hJ h3 aa nx v (fun e => hnl z h1 (e ▸ Xa)) ((CHb_ext hst).mpr h7.1.2.2.2.2.2) w
    refine .inr (.inr (.inl ⟨e206.trans h0, z, ch, md, l, md2, l2, pc, P, rb, S, B, tp, hlf.trans h1, hdr.trans h2, w1, (Qx h1 h3 nx).trans h4, fun q => h5 ((hLG z h1).mp q), hch.1, ?_, h8, ?_, ?_, hPL tp (TP h1 h3 h10) h11⟩))
    · rw [w3, w5]
      exact FRM_m (VM h1 h3) h7
    · rw [hch.2]
      exact BV h9
    · rw [w2]
      exact KM h1 h3 h11 h10
  · refine .inr (.inr (.inr (.inl ⟨e206.trans h0, l, pc, tp, hlf.trans h1, h2, h3, BV h4, ?_, hPL tp (h5.elim (fun q => .inl q.1) (fun q => .inr (.inl q.1))) h6⟩)))
    rcases h5 with ⟨q1, q2, q3, q4⟩ | ⟨q1, q2, q3, q4, q5⟩
    · exact absurd aa (q4.2 a)
    · refine .inr ⟨hdr.trans q1, q2, ?_⟩
      by_cases e : X tp.toNat
      · have := HP tp.toNat tp (.inr (.inl q1)) h6 e q4 (Int.toNat_of_nonneg q2)
        exact ⟨this.2, this.1, q5⟩
      · obtain ⟨w1, _, w3, _⟩ := H.1 _ q3 e
        exact ⟨w1, ⟨(h2100 _).trans q4.1, by rw [w3]; exact q4.2⟩, q5⟩
  · obtain ⟨w1, w2, w3, w4, w5, w6, _⟩ := lx h1 h3
    have nb : ¬ PBg s x := fun q => by have := q.1; rw [hs100] at this; omega
    refine .inr (.inr (.inr (.inr (.inl ⟨x, l, S, B, v, tp, hlf.trans h1, hdr.trans h2, w1, h4, h5, by rw [w3]; exact h6, fun q => h7 ((hLG x h1).mp q), VM h1 h3 _ _ h8, ?_, h10, ?_, ?_, hPL tp (TP h1 h3 h12) h13⟩))))
    · rw [e206, e207]
      rcases h9 with ⟨q1, q2, q3, q4⟩ | ⟨q1, q2, q3, m, q4, q5, q6, q7⟩
      · exact .inl ⟨q1, q2, q3, BV q4⟩
      · exact .inr ⟨q1, q2, q3, m, q4, q5, q6, BV q7⟩
    · rcases h11 with q | ⟨q1, q2, q3⟩
      · exact .inl ((Qx h1 h3 (rdn q nb)).trans q)
      · obtain ⟨⟨cx, anc, hJ⟩, _⟩ := h
        have wt := (hJ.2.2.2.2.2.2.2.1 (K.1 101 x).toNat (by omega)).1.2 (by rw [q3]; omega)
        rw [q3, Int.toNat_natCast] at wt
        exact .inr ⟨q1, (Qx h1 h3 wt.2.2.1).trans q2, hw 152 _ x (.inl rfl) h1 q3⟩
    · rw [w2]
      exact KM h1 h3 h13 h12
  · obtain ⟨w1, w2, w3, w4, w5, w6, _⟩ := lx h1 h3
    have nb : ¬ PBg s x := fun q => by have := q.1; rw [hs100] at this; omega
    refine .inr (.inr (.inr (.inr (.inr (.inl ⟨x, m, S, B, P, tp, hlf.trans h1, hdr.trans h2, w1, h4, w6.trans h5, h6, h7.imp id (fun q => ⟨q.1, q.2.imp fun v q => ⟨q.1, VM h1 h3 _ _ q.2⟩⟩), by rw [w3]; exact h8, by rw [w3]; exact (hLG x h1).trans h9, ?_, ?_, ?_, hPL tp (TP h1 h3 h12) h13⟩)))))
    · rw [e206, e207]
      rcases h10 with ⟨q1, q2, q3, q4⟩ | ⟨q1, q2, q3, q4⟩
      · exact .inl ⟨q1, q2, q3, BV q4⟩
      · exact .inr ⟨q1, q2, q3, BV q4⟩
    · rcases h11 with q | ⟨q1, q2, q2b, q3⟩
      · exact .inl ((Qx h1 h3 (rdn q nb)).trans q)
      · obtain ⟨⟨cx, anc, hJ⟩, _⟩ := h
        have r1 := h6.2.2.2.2.2.2
        have wt := (hJ.2.2.2.2.2.2.2.1 (K.1 101 x).toNat (by omega)).2.2 (by rw [q3]; omega)
        rw [q3, Int.toNat_natCast] at wt
        exact .inr ⟨q1, (Qx h1 h3 wt.2.2.1).trans q2, by rw [w3]; exact q2b, hw 153 _ x (.inr rfl) h1 q3⟩
    · rw [w2]
      exact KM h1 h3 h13 h12
  · obtain ⟨w1, w2, w3, w4, w5, w6, _⟩ := lx h1 h3
    refine .inr (.inr (.inr (.inr (.inr (.inr ⟨e206.trans h0, x, f, l, S, B, tp, hlf.trans h1, hdr.trans h2, w1, ⟨(h2100 x).trans h4.1, by rw [w3]; exact h4.2⟩, fun q => h5 ((hLG x h1).mp q), by rw [e211, w3]; exact h6, by rw [e211]; exact h7, h8, h9, h10, h11, BV h12, ?_, hPL tp (TP h1 h3 h13) h14⟩)))))
    rw [w2]
    exact KM h1 h3 h14 h13
end STAB
