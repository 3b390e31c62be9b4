/-! One branch takes a turn: its part is done. -/
section TELLX
variable {K : SCt} {W : Prop} {r r2 s s2 : tab} {Q Q2 : Nat → Nat} {act act2 : Nat → Prop} {lf dr : Nat → Int} {LG LG2 : Nat → Prop} {b p y M n n2 : Nat} {w d tp v : Int} {md l pc : Nat} {S B : List Int}
/-- with the root done, all is done -/
theorem RT_0 {cx : Nat → Cxx} {anc : Nat → Nat → Prop} (h : JGx s Q act cx anc) (ap : act p) (np : NoC s act p) (h3 : s 143 p = -1) : ∀ k q : Nat, 2000 ≤ k + q → act q → q = p
  | 0, q, hk, aq => by
    have := (EF_k (h.2.2.1 q aq).1).2.1
    have := h.2.1
    omega
  | k + 1, q, hk, aq => by
    rcases h.2.2.2.1 q aq with e | ⟨y, e, ay, an, _⟩
    · exact h.2.2.2.2.2.2.2.2.2.2.1 q p aq ap e h3
    · have lt := (h.2.2.2.2.1 y q an).2.2.1
      have := RT_0 h ap np h3 k y (by omega) ay
      rw [this] at e
      exact absurd e (np q aq)
/-- a PAR above lies above -/
theorem KON_gt {cx : Nat → Cxx} {anc : Nat → Nat → Prop} (h : JGx s Q act cx anc) : ∀ (k : Nat) (y : Int) (ch md l : Nat) (S B : List Int), act ch → s 143 ch = y → KON K s act k y ch md l S B tp → tp = -1 ∨ (ch : Int) < tp
  | 0, _, _, _, _, _, _, _, _, q => q.elim
  | k + 1, y, ch, md, l, S, B, ac, ey, q => by
    rcases q with ⟨_, _, _, _, _, _, q⟩ | ⟨z, h1, h2, h3, _, _, _, _, _, h9⟩ | ⟨z, md2, l2, P, rb, S2, B2, h1, h2, h3, h4, h5, h6⟩
    · exact .inl q
    · rcases h.2.2.2.1 ch ac with e | ⟨y2, e, ay, an, _⟩
      · omega
      · have lt := (h.2.2.2.2.1 y2 ch an).2.2.1
        exact .inr (by omega)
    · have := h3.1.1
      rcases KON_gt h k _ z _ _ _ _ h2 rfl h6 with e | e
      · exact .inl e
      · exact .inr (by omega)
/-- who is behind a part that is done -/
theorem t_tell2 {X : Nat → Prop} (hR : REL K M W r s Q n act lf dr LG) (b7 : b < 700) (hp : lf b = (p : Int)) (hd : dr b = -1) (np : NoC s act p) (ap : act p) (Xp : X p) (hXn : ∀ z, X z → NoC s act z) (hXk : ∀ z, X z → z ≠ p → K.1 100 z ≠ 312 ∧ s2 143 z = s 143 z) (hLG2 : ∀ x, LG2 x ↔ LG x ∧ ¬ X x) (hP : PSy M K.2.2.2.1 K.2.2.2.2.2 s2 Q2 (fun q => act q ∧ q ≠ p)) (hM : MVx s Q act s2 Q2 (fun q => act q ∧ q ≠ p) X p) (e5 : md = 0 → s2 145 p = v) (e13 : s2 142 13 = if s 143 p < 0 then 1 else s 142 13) (eQ : ∀ r, ¬ X r → Q2 r = Q r + (if s 143 p = (r : Int) then 1 else 0)) (hex2 : ∀ L, L < 8 → ¬ (0 ≤ s2 152 L ∧ 0 ≤ s2 153 L)) (OT : ∀ w d b2, b2 ≠ b → LVb r2 b2 → BRx K W r2 s2 Q2 (fun q => act q ∧ q ≠ p) (fun i => if i = b then w else lf i) (fun i => if i = b then d else dr i) LG2 b2) (lvb : LVb r2 b) (lv2 : ∀ b2, LVb r2 b2 → LVb r b2) (lv1 : ∀ b2, LVb r b2 → 0 ≤ lf b2 → LVb r2 b2) (hdr : ∀ q : Nat, act q → q ≠ p → PBg s q → (Q q : Int) = smx (fun i => ind (LVb r2 i ∧ dr i = (q : Int))) 700) (pl : ∀ w, PLk r2 (fun i => if i = b then w else lf i) b tp) (o178 : ∀ i, r2 178 i = r 178 i) (o55 : r2 170 55 = r 170 55) (o54 : r2 170 54 = r 170 54) (o52 : r2 170 52 = r 170 52) (h12 : r2 206 b = 1) (hBV : BVx r2 b pc ((if md = 0 then [v] else []) ++ S) B) (hpc : PLC K pc l) (hKO : KO K s act (s 143 p) p md l S B tp) (hPL : PLk r lf b tp) (hSH : SHx K r2 s2) (hC : CNx K r2 s2 (fun q => act q ∧ q ≠ p)) (hS : (n2 : Int) = r2 170 53 + smx (pfx K s2 (fun q => act q ∧ q ≠ p) LG2) M) (h53 : 0 ≤ r2 170 53 ∧ r2 170 53 ≤ r 170 54) (hf7 : FL7 K s2 (fun q => act q ∧ q ≠ p)) : ∃ lf2 dr2, REL K M W r2 s2 Q2 n2 (fun q => act q ∧ q ≠ p) lf2 dr2 LG2 ∧ LVb r2 b ∧ (∀ i, i ≠ b → lf2 i = lf i) ∧ (DRT K r2 s2 (fun q => act q ∧ q ≠ p) lf2 dr2 b ∨ DON K r2 s2 Q2 (fun q => act q ∧ q ≠ p) lf2 dr2 LG2 b ∧ ∃ z : Nat, lf2 b = (z : Int) ∧ p < z) := by
  obtain ⟨hPS, ⟨hst, hcd⟩, hBR, hinj, hcov, hdrs, hsh, hcn, hex, hst53, hLG, g1, g2, g3, g4, g5, g6, g7, g8⟩ := hR
  have hst2 : ∀ k j, 99 ≤ k ∧ k ≤ 114 → s2 k j = K.1 k j := fun k j q => (hM.2.2.2 k j q).trans (hst k j q)
  have HV := HV_of hPS hst hM ap Xp
  have nc : ∀ z, act z → z ≠ p → s2 143 z = s 143 z := fun z az ne => by
    by_cases e : X z
    · exact (hXk z e ne).2
    · exact (hM.1 z az e).2.1
  have nX : ∀ z, z ≠ p → K.1 100 z = 312 → ¬ X z := fun z ne k e => (hXk z e ne).1 k
  have l13 : L13 r2 s2 (fun q => act q ∧ q ≠ p) := by
    by_cases e : s 143 p < 0
    · refine .inr ⟨by rw [e13, if_pos e], fun q aq => aq.2 ?_, b, lvb, h12⟩
      obtain ⟨⟨cx, anc, hJ⟩, _⟩ := hPS
      have h3 : s 143 p = -1 := by
        rcases hJ.2.2.2.1 p ap with w | ⟨y, w, _⟩
        · exact w
        · omega
      exact RT_0 hJ ap np h3 2000 q (by omega) aq.1
    · exact .inl (by rw [e13, if_neg e]; exact L13_0 g8 ap)
  -- what is left for each of the three ways
  have fin : ∀ (w d : Int), (DRT K r2 s2 (fun q => act q ∧ q ≠ p) (fun i => if i = b then w else lf i) (fun i => if i = b then d else dr i) b ∨ DON K r2 s2 Q2 (fun q => act q ∧ q ≠ p) (fun i => if i = b then w else lf i) (fun i => if i = b then d else dr i) LG2 b ∧ ∃ z : Nat, w = (z : Int) ∧ p < z) → (∀ b2, b2 ≠ b → LVb r b2 → 0 ≤ w → lf b2 ≠ w) → (∀ q : Nat, act q → q ≠ p → s 143 p = (q : Int) → w = (q : Int) ∨ ∃ b2, b2 ≠ b ∧ LVb r b2 ∧ lf b2 = (q : Int)) → (∀ q : Nat, act q → PBg s q → (s 143 p = (q : Int) ↔ d = (q : Int))) → ∃ lf2 dr2, REL K M W r2 s2 Q2 n2 (fun q => act q ∧ q ≠ p) lf2 dr2 LG2 ∧ LVb r2 b ∧ (∀ i, i ≠ b → lf2 i = lf i) ∧ (DRT K r2 s2 (fun q => act q ∧ q ≠ p) lf2 dr2 b ∨ DON K r2 s2 Q2 (fun q => act q ∧ q ≠ p) lf2 dr2 LG2 b ∧ ∃ z : Nat, lf2 b = (z : Int) ∧ p < z) := fun w d hbr hw hcv hdd => by
    refine ⟨fun i => if i = b then w else lf i, fun i => if i = b then d else dr i, ⟨hP, ⟨hst2, fun i => (o178 i).trans (hcd i)⟩, fun b2 q => ?_, fun b1 b2 q1 q2 q3 q4 => ?_, fun q aq nq => ?_, fun q aq bq => ?_, hSH, hC, fun L q => ?_, hS, fun q lq => ?_, by omega, by omega, h53.1, by omega, by omega, o52.trans g6, hf7, l13⟩, lvb, fun i q => if_neg q, hbr.imp id (fun q => ⟨q.1, q.2.imp (fun z v => ⟨(if_pos rfl).trans v.1, v.2⟩)⟩)⟩
    · by_cases e : b2 = b
      · rw [e]
        exact ⟨b7, hbr.elim (fun q => .inr (.inr (.inr (.inl q)))) (fun q => .inr (.inr (.inl q.1)))⟩
      · exact OT w d b2 e q
    · dsimp only at q3 q4
      by_cases e1 : b1 = b
      · by_cases e2 : b2 = b
        · rw [e1, e2]
        · rw [if_pos e1] at q3
          rw [if_pos e1, if_neg e2] at q4
          exact absurd q4.symm (hw b2 e2 (lv2 b2 q2) q3)
      · by_cases e2 : b2 = b
        · rw [if_neg e1] at q3
          rw [if_neg e1, if_pos e2] at q4
          exact absurd q4 (hw b1 e1 (lv2 b1 q1) (by omega))
        · rw [if_neg e1] at q3
          rw [if_neg e1, if_neg e2] at q4
          exact hinj b1 b2 (lv2 b1 q1) (lv2 b2 q2) q3 q4
    · obtain ⟨aq, qp⟩ := aq
      by_cases e : s 143 p = (q : Int)
      · rcases hcv q aq qp e with v | ⟨b2, v1, v2, v3⟩
        · exact ⟨b, lvb, by dsimp only; rw [if_pos rfl]; exact v⟩
        · exact ⟨b2, lv1 b2 v2 (by omega), by dsimp only; rw [if_neg v1]; exact v3⟩
      · obtain ⟨b2, w1, w2⟩ := hcov q aq (fun z az v => by
          by_cases ez : z = p
          · rw [ez] at v
            exact e v
          · exact nq z ⟨az, ez⟩ ((nc z az ez).trans v))
        exact ⟨b2, lv1 b2 w1 (by omega), by dsimp only; rw [if_neg (fun v => qp (by rw [v] at w2; omega))]; exact w2⟩
    · obtain ⟨aq, qp⟩ := aq
      obtain ⟨_, _, e4q, _⟩ := hM.1 q aq (nX q qp (by rw [← hst2 100 q (by omega)]; exact bq.1))
      have bq0 : PBg s q := ⟨(hM.2.2.2 100 q (by omega)).symm.trans bq.1, by rw [← e4q]; exact bq.2⟩
      have old := hdr q aq qp bq0
      rw [eQ q (nX q qp (by rw [← hst2 100 q (by omega)]; exact bq.1))]
      by_cases e : s 143 p = (q : Int)
      · rw [if_pos e]
        have u := smz_u (g := fun i => ind (LVb r2 i ∧ dr i = (q : Int))) (p := b) (d := 1) 700
        rw [if_pos b7] at u
        rw [Int.natCast_add, old]
        refine Eq.trans u.symm (smx_c (fun i _ => ?_))
        dsimp only
        by_cases ei : i = b
        · rw [if_pos ei, ei, ind_f (fun w => by rw [hd] at w; omega), ind_t ⟨lvb, by rw [if_pos rfl]; exact (hdd q aq bq0).mp e⟩]
          rfl
        · rw [if_neg ei, Int.add_zero]
          exact ind_e (by rw [if_neg ei])
      · rw [if_neg e, Nat.add_zero, old]
        refine smx_c (fun i _ => ind_e ?_)
        dsimp only
        by_cases ei : i = b
        · rw [if_pos ei, ei, hd]
          exact ⟨fun v => absurd v.2 (by omega), fun v => absurd ((hdd q aq bq0).mpr v.2) e⟩
        · rw [if_neg ei]
    · exact hex2 L q
    · obtain ⟨lq, qp⟩ := (hLG2 q).mp lq
      obtain ⟨w1, w2, w3, w4⟩ := hLG q lq
      obtain ⟨_, _, v3, _, _, v6, v7⟩ := hM.1 q w1 qp
      have qp : q ≠ p := fun e => qp (e ▸ Xp)
      have nq := ((PS_rd hPS (show 0 < Q q by omega)).2.2.2.2 (fun z => by have := z.1; rw [hst 100 q (by omega), w4.1] at this; omega)).2
      exact ⟨⟨w1, qp⟩, (v7 (fun e => nq p ap e)).trans w2, by rw [v3]; exact w3, w4.1, v6.trans w4.2.1, w4.2.2⟩
  obtain ⟨k, hk⟩ := hKO
  cases k with
  | zero => exact hk.elim
  | succ k =>
    rcases hk with ⟨h1, h2, h3, h4, h5, h5b, h5c⟩ | ⟨z, h1, h2, h3, h4, h5, h5b, h5c, h5d, h5e⟩ | ⟨z, md2, l2, P, rb, S2, B2, h1, h2, h3, h4, h5, h5b⟩
    · -- the whole is done
      refine fin (-1) (-1) (.inl ⟨h12, l, pc, tp, if_pos rfl, hpc, h4, ?_, .inl ⟨h5c, if_pos rfl, h3, ?_⟩, pl _⟩) (fun _ _ _ q => by omega) (fun q _ _ e => by omega) (fun q _ _ => ⟨fun e => by omega, fun e => by omega⟩)
      · rw [h5, h5b, if_neg (by omega)] at hBV
        exact hBV
      · refine ⟨by rw [e13, if_pos (by omega)], fun q aq => aq.2 ?_⟩
        obtain ⟨⟨cx, anc, hJ⟩, _⟩ := hPS
        exact RT_0 hJ ap np h1 2000 q (by have := (EF_k (hJ.2.2.1 q aq.1).1).2.1; have := hJ.2.1; omega) aq.1
    · -- a branch is done
      have zp : z ≠ p := fun e => by
        obtain ⟨⟨cx, anc, hJ⟩, _⟩ := hPS
        exact J_np hJ ap (by rw [h1, e])
      obtain ⟨w1, _, w3, _⟩ := hM.1 z h2 (nX z zp (by rw [← hst 100 z (by omega)]; exact h3.1))
      refine fin (-1) (z : Int) (.inl ⟨h12, l, pc, tp, if_pos rfl, hpc, h5b, ?_, .inr ⟨(if_pos rfl).trans h5e.symm, by omega, ?_, ?_, h5⟩, pl _⟩) (fun _ _ _ q => by omega) (fun q _ _ e => .inr ?_) (fun q _ _ => by rw [h1])
      · rw [h5c, h5d, if_neg (by omega)] at hBV
        exact hBV
      · rw [h5e, Int.toNat_natCast]
        exact w1
      · rw [h5e, Int.toNat_natCast]
        exact ⟨(hM.2.2.2 100 z (by omega)).trans h3.1, by rw [w3]; exact h3.2⟩
      · have qz : q = z := by omega
        rcases hPL with v | ⟨q2, q3, q4, q5, q6, q7, q8, q9⟩
        · omega
        · exact ⟨q2, q9, ⟨q4, by rw [q6]; decide⟩, by rw [q7, h5e, qz]⟩
    · -- who asked goes on
      have zp : z ≠ p := fun e => by have := h3.1.1; omega
      have zX : ¬ X z := fun e => hXn z e p ap h1
      obtain ⟨w1, w2, w3, w4, w5, w6, _⟩ := hM.1 z h2 zX
      have kz : K.1 100 z ≠ 312 := FRM_k h3
      have nz : ¬ PBg s z := fun q => kz (by rw [← hst 100 z (by omega)]; exact q.1)
      have qz : Q z = 0 := Classical.byContradiction fun q => ((PS_rd hPS (show 0 < Q z by omega)).2.2.2.2 nz).2 p ap h1
      have lgz : ¬ LG z := fun q => by have := (hLG z q).2.1; omega
      refine fin (z : Int) (-1) (.inr ⟨⟨h12, z, p, md, l, md2, l2, pc, P, rb, S2, B2, tp, if_pos rfl, if_pos rfl, w1, ?_, fun q => lgz ((hLG2 z).mp q).1, fun q => q.2 rfl, ?_, hpc, ?_, ?_, pl _⟩, z, rfl, h3.1.1⟩) (fun b2 ne lb _ e => ?_) (fun q _ _ e => .inl (by rw [← h1]; exact e)) (fun q aq bq => ⟨fun e => ?_, fun e => by omega⟩)
      · rw [eQ z zX, if_pos h1, qz]
      · rw [w3, w5]
        exact FRM_m (fun c v q => ⟨q.1, q.2.1, (HV z c h2 zX q.1 q.2.1 q.2.2.1).1, (HV z c h2 zX q.1 q.2.1 q.2.2.1).2.trans q.2.2.2⟩) h3
      · rw [h4, h5] at hBV
        by_cases e : md = 0
        · rw [if_pos e] at hBV ⊢
          rw [e5 e]
          exact hBV
        · rw [if_neg e] at hBV ⊢
          exact hBV
      · rw [w2]
        refine ⟨k, KON_mv (X := X) (fun q e => .inl (hXn q e)) (fun q aq e => ?_) (fun q e v w => by
          by_cases eq : q = p
          · obtain ⟨⟨cx, anc, hJ⟩, _⟩ := hPS
            rcases KON_gt hJ k _ z _ _ _ _ h2 rfl h5b with u | u
            · omega
            · have := h3.1.1
              omega
          · exact absurd (show K.1 100 q = 312 by rw [← hst 100 q (by omega)]; exact v.1) (hXk q e eq).1) (fun j => hM.2.2.2 100 j (by omega)) (fun j => hst 100 j (by omega)) HV k _ _ _ _ _ _ (fun q e v => ?_) h5b⟩
        · obtain ⟨a1, a2, a3, _, a5, _⟩ := hM.1 q aq e
          exact ⟨a1, a2, a3, a5⟩
        · exact absurd v (hXn q e z h2)
      · rcases (LF_x hPS hst (hBR b2 lb) e).2 with v | v
        · exact v p ap h1
        · exact nz v
      · have : q = z := by omega
        rw [this] at bq
        exact absurd bq nz
/-- the same, where one branch alone goes on -/
theorem t_tell (hR : REL K M W r s Q n act lf dr LG) (hb : LVb r b) (h6 : r 206 b ≠ 6) (hp : lf b = (p : Int)) (hd : dr b = -1) (np : NoC s act p) (ap : act p) (nb : ¬ PBg s p) (hLG2 : ∀ x, LG2 x ↔ LG x ∧ x ≠ p) (hP : PSy M K.2.2.2.1 K.2.2.2.2.2 s2 Q2 (fun q => act q ∧ q ≠ p)) (hM : MVx s Q act s2 Q2 (fun q => act q ∧ q ≠ p) (fun z => z = p) p) (e5 : md = 0 → s2 145 p = v) (e13 : s2 142 13 = if s 143 p < 0 then 1 else s 142 13) (eQ : ∀ r, Q2 r = (if r = p then 0 else Q r) + (if s 143 p = (r : Int) then 1 else 0)) (hl : ∀ k j, k = 152 ∨ k = 153 → s2 k j = s k j) (hr : HRx b r r2) (h12 : r2 206 b = 1) (hBV : BVx r2 b pc ((if md = 0 then [v] else []) ++ S) B) (hpc : PLC K pc l) (hKO : KO K s act (s 143 p) p md l S B tp) (hPL : PLk r lf b tp) (hSH : SHx K r2 s2) (hC : CNx K r2 s2 (fun q => act q ∧ q ≠ p)) (hS : (n2 : Int) = r2 170 53 + smx (pfx K s2 (fun q => act q ∧ q ≠ p) LG2) M) (h53 : 0 ≤ r2 170 53 ∧ r2 170 53 ≤ r 170 54) (hf7 : FL7 K s2 (fun q => act q ∧ q ≠ p)) : ∃ lf2 dr2, REL K M W r2 s2 Q2 n2 (fun q => act q ∧ q ≠ p) lf2 dr2 LG2 ∧ LVb r2 b ∧ (∀ i, i ≠ b → lf2 i = lf i) ∧ (DRT K r2 s2 (fun q => act q ∧ q ≠ p) lf2 dr2 b ∨ DON K r2 s2 Q2 (fun q => act q ∧ q ≠ p) lf2 dr2 LG2 b ∧ ∃ z : Nat, lf2 b = (z : Int) ∧ p < z) := by
  have dn : s 142 13 = 1 → s2 142 13 = 1 := fun q => by
    rw [e13]
    split
    · rfl
    · exact q
  have OT := fun w d => OTH (w := w) (d := d) (LG2 := LG2) hR h6 hb hp np ap nb hM hr (fun k L q => .inl (hl k L q)) dn (fun x q => ⟨fun w => ((hLG2 x).mp w).1, fun w => (hLG2 x).mpr ⟨w, q⟩⟩)
  obtain ⟨hPS, ⟨hst, hcd⟩, hBR, hinj, hcov, hdrs, hsh, hcn, hex, hst53, hLG, g1, g2, g3, g4, g5, g6, g7, g8⟩ := id hR
  have b7 := (hBR b hb).1
  have o55 := hr 170 55 (by omega) (by omega) (by omega) (by omega) (by omega) (by omega) (by omega) (by omega)
  have o54 := hr 170 54 (by omega) (by omega) (by omega) (by omega) (by omega) (by omega) (by omega) (by omega)
  have o52 := hr 170 52 (by omega) (by omega) (by omega) (by omega) (by omega) (by omega) (by omega) (by omega)
  have lvb : LVb r2 b := ⟨by rw [o55]; exact hb.1, by rw [h12]; decide⟩
  have lv : ∀ b2, LVb r2 b2 ↔ LVb r b2 := fun b2 => by
    by_cases e : b2 = b
    · rw [e]
      exact ⟨fun _ => hb, fun _ => lvb⟩
    · exact LV_e hr b7 e
  have pl : ∀ w, PLk r2 (fun i => if i = b then w else lf i) b tp := fun w => by
    rcases hPL with q | ⟨q, q1, q2, q3, q4, q5, q6, q7⟩
    · exact .inl q
    · exact .inr ⟨q, (hr 210 b (by omega) (by omega) (by omega) (by omega) (by omega) (by omega) (by omega) (by omega)).trans q1, by rw [o55]; exact q2, q3, (hr 206 q (by omega) (by omega) (by omega) (by omega) (by omega) (by omega) (by omega) (by omega)).trans q4, (if_neg q7).trans q5, q6, q7⟩
  exact t_tell2 (X := fun z => z = p) hR b7 hp hd np ap rfl (fun z e => by rw [show z = p from e]; exact np) (fun z e ne => absurd e ne) hLG2 hP hM e5 e13 (fun q nq => by rw [eQ, if_neg nq]) (fun L q => by rw [hl 152 L (by omega), hl 153 L (by omega)]; exact hex L q) (fun w d b2 ne q => OT w d b2 ne ((lv b2).mp q)) lvb (fun b2 q => (lv b2).mp q) (fun b2 q _ => (lv b2).mpr q) (fun q aq _ bq => by rw [hdrs q aq bq]; exact smx_c (fun i _ => ind_e (by rw [lv i]))) pl (fun i => hr 178 i (by omega) (by omega) (by omega) (by omega) (by omega) (by omega) (by omega) (by omega)) o55 o54 o52 h12 hBV hpc hKO hPL hSH hC hS h53 hf7
end TELLX
