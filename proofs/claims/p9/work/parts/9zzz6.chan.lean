/-! SEND and RECEIVE: they begin to wait; what comes from and goes to without. -/
section CHANX
variable {K : SCt} {W : Prop} {r r1 r2 s s2 : tab} {Q Q2 : Nat → Nat} {act act2 : Nat → Prop} {lf dr : Nat → Int} {LG LG2 : Nat → Prop} {b x p M n n2 m : Nat} {S B P : List Int} {tp : Int}
theorem QQ_get {h h2 : Int} {f f2 q q2 g : Nat → Int} (H : QQx h f q g) (h0 : 0 < h) (e : h2 = h - 1) (ef : ∀ k : Nat, (k : Int) < h2 → f2 k = f (k + 1)) (e1 : q2 1 = (q 1 + 1) % 40) (e2 : q2 2 = q 2 - 1) : QQx h2 f2 q2 g ∧ f 0 = g (q 1).toNat := by
  obtain ⟨a1, a2, a3, a4, a5, a6⟩ := H
  refine ⟨⟨by omega, by omega, by omega, by omega, by omega, fun k hk => ?_⟩, ?_⟩
  · rw [ef k hk, a6 (k + 1) (by omega), e1]
    refine congrArg g ?_
    omega
  · rw [a6 0 (by omega)]
    refine congrArg g ?_
    omega
theorem QQ_put {h v : Int} {f f2 q q2 g g2 : Nat → Int} (H : QQx h f q g) (h4 : h < 40) (ef : ∀ k : Nat, f2 k = if (k : Int) = h then v else f k) (e1 : q2 1 = q 1) (e2 : q2 2 = q 2 + 1) (eg : ∀ k : Nat, g2 k = if k = ((q 1 + q 2) % 40).toNat then v else g k) : QQx (h + 1) f2 q2 g2 := by
  obtain ⟨a1, a2, a3, a4, a5, a6⟩ := H
  refine ⟨by omega, by omega, by omega, by omega, by omega, fun k hk => ?_⟩
  rw [ef, eg, e1]
  by_cases e : (k : Int) = h
  · rw [if_pos e, if_pos (by rw [e, a1])]
  · rw [if_neg e, if_neg (by omega), a6 k (by omega)]
/-- branch b begins to wait; the parts machine has nothing to do -/
theorem REL_w (hR : REL K M W r s Q n act lf dr LG) (hb : LVb r b) (h1 : r 206 b = 1) (hl : lf b = (x : Int)) (hf : ∀ k j, ¬ ((k = 205 ∨ k = 206 ∨ k = 207 ∨ k = 208 ∨ k = 209) ∧ j = b) → k ≠ 220 + b → k ≠ 921 + b → ¬ (k = 170 ∧ j = 53) → r2 k j = r k j) (h0 : r2 206 b ≠ 0) (hbr : BRx K W r2 s Q act lf dr LG2 b) (hg : ∀ z, z ≠ x → (LG2 z ↔ LG z)) (hg1 : LG2 x → act x ∧ Q x = 1 ∧ s 144 x < 0 ∧ K.1 100 x = 407 ∧ s 147 x = 0 ∧ K.1 103 x = -1) (h53 : r2 170 53 = r 170 53 + (ind (LG2 x) - ind (LG x))) (h54 : r2 170 53 ≤ r 170 54) (h53p : 0 ≤ r2 170 53) : REL K M W r2 s Q n act lf dr LG2 := by
  obtain ⟨hPS, ⟨hst, hcd⟩, hBR, hinj, hcov, hdrs, hsh, hcn, hex, hst53, hLG, g1, g2, g3, g4, g5, g6, g7, g8⟩ := id hR
  have b7 := hbr.1
  have o : ∀ k j, (k < 205 ∨ k = 210 ∨ k = 211 ∨ 213 ≤ k ∧ k ≤ 218 ∨ 1622 ≤ k ∨ k ≤ 211 ∧ j ≠ b) → ¬ (k = 170 ∧ j = 53) → r2 k j = r k j := fun k j q q2 => hf k j (by omega) (by omega) (by omega) q2
  have lv : ∀ b2, LVb r2 b2 ↔ LVb r b2 := fun b2 => by
    by_cases e : b2 = b
    · rw [e]
      exact ⟨fun _ => hb, fun _ => ⟨by rw [o 170 55 (by omega) (by omega)]; exact hb.1, h0⟩⟩
    · unfold LVb
      rw [o 170 55 (by omega) (by omega), o 206 b2 (by omega) (by omega)]
  have pl : ∀ b2 tp, b2 ≠ b → PLk r lf b2 tp → PLk r2 lf b2 tp := fun b2 tp ne q => by
    rcases q with q | ⟨q, q1, q2, q3, q4, q5, q6, q7⟩
    · exact .inl q
    · have : q ≠ b := fun e => by rw [e] at q4; omega
      exact .inr ⟨q, (o 210 b2 (by omega) (by omega)).trans q1, by rw [o 170 55 (by omega) (by omega)]; exact q2, q3, (o 206 q (by omega) (by omega)).trans q4, q5, q6, q7⟩
  refine ⟨hPS, ⟨hst, fun i => (o 178 i (by omega) (by omega)).trans (hcd i)⟩, fun b2 q => ?_, fun b1 b2 q1 q2 => hinj b1 b2 ((lv b1).mp q1) ((lv b2).mp q2), fun q aq nq => ?_, fun q aq bq => ?_, SH_fr hsh (fun k j q => o k j (by omega) (by omega)) (fun _ _ _ => rfl), fun y ay ky ty => by rw [o 204 _ (by omega) (by omega)]; exact hcn y ay ky ty, hex, ?_, fun z lz => ?_, by rw [o 170 55 (by omega) (by omega)]; exact g1, by rw [o 170 55 (by omega) (by omega)]; exact g2, h53p, by rw [o 170 54 (by omega) (by omega)]; exact h54, by rw [o 170 54 (by omega) (by omega)]; exact g5, by rw [o 170 52 (by omega) (by omega)]; exact g6, g7, .inl (L13_0 g8 (LF_x hPS hst (hBR b hb) hl).1)⟩
  · by_cases e : b2 = b
    · rw [e]
      exact hbr
    · have b27 := (hBR b2 ((lv b2).mp q)).1
      exact BR_r (hBR b2 ((lv b2).mp q)) (fun z w => hg z (fun v => e (hinj b2 b ((lv b2).mp q) hb (by omega) (by omega)))) (fun k j w => hf k j (by omega) (by omega) (by omega) (by omega)) (fun tp => pl b2 tp e)
  · obtain ⟨b2, w1, w2⟩ := hcov q aq nq
    exact ⟨b2, (lv b2).mpr w1, w2⟩
  · rw [hdrs q aq bq]
    exact smx_c (fun i _ => ind_e (by rw [lv i]))
  · have ax := (LF_x hPS hst (hBR b hb) hl).1
    obtain ⟨⟨cx, anc, hJ⟩, _, _, _, hM, _⟩ := hPS
    have := (EF_k (hJ.2.2.1 x ax).1).2.1
    have u := sm_p (f := pfx K s act LG2) (g := pfx K s act LG) (p := x) (M := M) (by omega) (fun i ne => by
      unfold pfx
      rw [ind_e (hg i ne)])
    rw [u, hst53, h53]
    unfold pfx
    omega
  · by_cases e : z = x
    · rw [e] at lz ⊢
      exact hg1 lz
    · exact hLG z ((hg z e).mp lz)
/-- a turn of the leaf by which none begins or is done -/
theorem t_same (hR : REL K M W r s Q n act lf dr LG) (hb : LVb r b) (h6 : r 206 b ≠ 6) (hp : lf b = (p : Int)) (hd : dr b = -1) (np : NoC s act p) (ap : act p) (nb : ¬ PBg s p) (nk : K.1 100 p ≠ 312) (hP : PSy M K.2.2.2.1 K.2.2.2.2.2 s2 Q2 act) (hM : MVx s Q act s2 Q2 act (fun z => z = p) p) (eQ : ∀ q, q ≠ p → Q2 q = Q q) (e3p : s2 143 p = s 143 p) (hl : ∀ k L, k = 152 ∨ k = 153 → s2 k L = s k L ∨ s k L < 0) (hdn : s2 142 13 = s 142 13) (hex2 : ∀ L, L < 8 → ¬ (0 ≤ s2 152 L ∧ 0 ≤ s2 153 L)) (hr : HRx b r r2) (h0 : r2 206 b ≠ 0) (hg : ∀ z, z ≠ p → (LG2 z ↔ LG z)) (ng : ¬ LG2 p) (hbr : (∀ tp, PLk r lf b tp → PLk r2 lf b tp) → BRx K W r2 s2 Q2 act lf dr LG2 b) (hSH : SHx K r2 s2) (hC : CNx K r2 s2 act) (hS : (n2 : Int) = r2 170 53 + smx (pfx K s2 act LG2) M) (h53 : 0 ≤ r2 170 53 ∧ r2 170 53 ≤ r 170 54) (hf7 : FL7 K s2 act) : REL K M W r2 s2 Q2 n2 act lf dr LG2 := by
  have OT := OTH (w := (p : Int)) (d := -1) (LG2 := LG2) hR h6 hb hp np ap nb hM hr hl (fun w => hdn.trans w) hg
  have elf : (fun i => if i = b then (p : Int) else lf i) = lf := funext fun i => by
    by_cases e : i = b
    · rw [if_pos e, e, hp]
    · rw [if_neg e]
  have edr : (fun i => if i = b then -1 else dr i) = dr := funext fun i => by
    by_cases e : i = b
    · rw [if_pos e, e, hd]
    · rw [if_neg e]
  rw [elf, edr] at OT
  obtain ⟨hPS, ⟨hst, hcd⟩, hBR, hinj, hcov, hdrs, hsh, hcn, hex, hst53, hLG, g1, g2, g3, g4, g5, g6, g7, g8⟩ := hR
  have b7 := (hBR b hb).1
  have o55 := hr 170 55 (by omega) (by omega) (by omega) (by omega) (by omega) (by omega) (by omega) (by omega)
  have o54 := hr 170 54 (by omega) (by omega) (by omega) (by omega) (by omega) (by omega) (by omega) (by omega)
  have o52 := hr 170 52 (by omega) (by omega) (by omega) (by omega) (by omega) (by omega) (by omega) (by omega)
  have nc : ∀ q, act q → s2 143 q = s 143 q := fun q aq => by
    by_cases e : q = p
    · rw [e]
      exact e3p
    · exact (hM.1 q aq e).2.1
  have lvb : LVb r2 b := ⟨by rw [o55]; exact hb.1, h0⟩
  have lv : ∀ b2, LVb r2 b2 ↔ LVb r b2 := fun b2 => by
    by_cases e : b2 = b
    · rw [e]
      exact ⟨fun _ => hb, fun _ => lvb⟩
    · exact LV_e hr b7 e
  have pl : ∀ tp, PLk r lf b tp → PLk r2 lf b tp := fun tp hPL => by
    rcases hPL with q | ⟨q, q1, q2, q3, q4, q5, q6, q7⟩
    · exact .inl q
    · exact .inr ⟨q, (hr 210 b (by omega) (by omega) (by omega) (by omega) (by omega) (by omega) (by omega) (by omega)).trans q1, by rw [o55]; exact q2, q3, (hr 206 q (by omega) (by omega) (by omega) (by omega) (by omega) (by omega) (by omega) (by omega)).trans q4, q5, q6, q7⟩
  refine ⟨hP, ⟨fun k j q => (hM.2.2.2 k j q).trans (hst k j q), fun i => (hr 178 i (by omega) (by omega) (by omega) (by omega) (by omega) (by omega) (by omega) (by omega)).trans (hcd i)⟩, fun b2 q => ?_, fun b1 b2 q1 q2 => hinj b1 b2 ((lv b1).mp q1) ((lv b2).mp q2), fun q aq nq => ?_, fun q aq bq => ?_, hSH, hC, hex2, hS, fun q lq => ?_, by omega, by omega, h53.1, by omega, by omega, o52.trans g6, hf7, .inl (hdn.trans (L13_0 g8 ap))⟩
  · by_cases e : b2 = b
    · rw [e]
      exact hbr pl
    · exact OT b2 e ((lv b2).mp q)
  · obtain ⟨b2, w1, w2⟩ := hcov q aq (fun z az w => nq z az ((nc z az).trans w))
    exact ⟨b2, (lv b2).mpr w1, w2⟩
  · have qp : q ≠ p := fun w => nk (by rw [← w, ← hst 100 q (by omega), ← hM.2.2.2 100 q (by omega)]; exact bq.1)
    have e4q := (hM.1 q aq qp).2.2.1
    rw [eQ q qp, hdrs q aq ⟨(hM.2.2.2 100 q (by omega)).symm.trans bq.1, by rw [← e4q]; exact bq.2⟩]
    exact smx_c (fun i _ => ind_e (by rw [lv i]))
  · have qp : q ≠ p := fun e => ng (e ▸ lq)
    obtain ⟨w1, w2, w3, w4⟩ := hLG q ((hg q qp).mp lq)
    obtain ⟨v1, _, v3, _, _, v6, _⟩ := hM.1 q w1 qp
    exact ⟨w1, (eQ q qp).trans w2, by rw [v3]; exact w3, w4.1, v6.trans w4.2.1, w4.2.2⟩
/-- a RECEIVE begins to wait, or takes what comes from without -/
theorem rcv_in (hK : SPK K) (hR : REL K M False r s Q n act lf dr LG) (hL : LFp K r s Q act lf dr LG b x) (hk : K.1 100 x = 407) (h7 : s 147 x = 0) (hf1 : FRb b (up2 r 170 53 (r 170 53 + (if s 144 x < 0 then 1 else 0))) r1) (h54 : r 170 53 + (if s 144 x < 0 then 1 else 0) ≤ r 170 54) (hRC : RCx K x m (m + 4)) (hSB : SBp K (PVy K s act x) x P) (hsub : K.1 103 x = -1 ∨ 1 ≤ s 144 x) (hs4 : s 144 x < 0 → K.1 103 x = -1) (hBV : BVx r1 b m (P ++ S) B) (hKO : KO K s act (s 143 x) x 1 (m + 4) S B tp) (hPL : PLk r lf b tp) : ∃ r2, MS b 1 r1 r2 ∧ (r2 170 54 = r 170 54 ∧ r 170 55 ≤ r2 170 55) ∧ ((∃ LG2, REL K M False r2 s Q n act lf dr LG2) ∨ ∃ s2 Q2 n2, stx (s, Q, n) x = (s2, Q2, n2) ∧ REL K M False r2 s2 Q2 n2 act lf dr LG) := by
  obtain ⟨hb, h1, hp, hd, ap, qp, ng, k2⟩ := id hL
  obtain ⟨hPS, ⟨hst, hcd⟩, hBR, hinj, hcov, hdrs, hsh, hcn, hex, hst53, hLG, g1, g2, g3, g4, g5, g6, g7, g8⟩ := id hR
  have b7 := (hBR b hb).1
  have nb : ¬ PBg s x := fun q => k2 (by rw [← hst 100 x (by omega)]; exact q.1)
  obtain ⟨_, ip, pl, pM, hnn⟩ := PS_rd hPS qp
  obtain ⟨q1, np⟩ := hnn nb
  obtain ⟨L1, L2, xl⟩ := REL_len hK hR ap hKO
  have lP : P.length ≤ 1 := by
    rcases hSB with ⟨_, _, e⟩ | ⟨_, v, e, _⟩
    · rw [e]; exact Nat.zero_le 1
    · rw [e]; exact Nat.le_refl 1
  obtain ⟨e1, e2, e3, e4, e5, e6, e7, e8⟩ := FP_o hf1 b7
  obtain ⟨rc1, rc2, rc3, rc4, _, rc5, rc6, rc7, rc8, rc9, rc10⟩ := id hRC
  have d1 : r1 206 b = 1 := e5.trans h1
  have d2 : r1 170 52 = 2 := e6.trans g6
  have d3 : ∀ i, r1 178 i = cd K i := fun i => (e8 i).trans (hcd i)
  have hdd : (if s 144 x < 0 then (1 : Int) else 0) = ind (LG x ∨ s 144 x < 0) - ind (LG x) := by
    rw [ind_f ng]
    by_cases c : s 144 x < 0
    · rw [if_pos c, ind_t (.inr c)]; rfl
    · rw [if_neg c, ind_f (fun w => w.elim ng c)]; rfl
  -- it waits
  have wait : ∀ {ra : tab}, (∀ k j, ¬ ((k = 205 ∨ k = 206 ∨ k = 207 ∨ k = 208 ∨ k = 209) ∧ j = b) → k ≠ 220 + b → k ≠ 921 + b → ra k j = r1 k j) → ((K.1 101 x < 8 ∧ ra 206 b = 3 ∧ ra 207 b = K.1 101 x ∧ BVx ra b (m + 2) (P ++ S) B) ∨ (8 ≤ K.1 101 x ∧ ra 206 b = 5 ∧ ra 207 b = K.1 101 x - 8 ∧ BVx ra b m (P ++ S) B)) → REL K M False ra s Q n act lf dr (fun z => LG z ∨ z = x ∧ s 144 x < 0) := fun {ra} o q => by
    have o2 : ∀ k j, ¬ ((k = 205 ∨ k = 206 ∨ k = 207 ∨ k = 208 ∨ k = 209) ∧ j = b) → k ≠ 220 + b → k ≠ 921 + b → ¬ (k = 170 ∧ j = 53) → ra k j = r k j := fun k j w1 w2 w3 w4 => (o k j w1 w2 w3).trans ((hf1 k j (by omega) w2 w3).trans (if_neg w4))
    have w53 : ra 170 53 = r 170 53 + (if s 144 x < 0 then 1 else 0) := (o 170 53 (by omega) (by omega) (by omega)).trans e4
    refine REL_w hR hb h1 hp o2 ?_ ⟨b7, .inr (.inr (.inr (.inr (.inr (.inl ⟨x, m, S, B, P, tp, hp, hd, ap, hk, h7, hRC, hSB, hsub, ?_, q, .inl q1, hKO, ?_⟩)))))⟩ (fun z ne => ⟨fun w => w.elim id (fun v => absurd v.1 ne), .inl⟩) (fun w => ?_) ?_ ?_ ?_
    · rcases q with ⟨_, q, _⟩ | ⟨_, q, _⟩ <;> omega
    · exact ⟨fun w => w.elim (fun v => absurd v ng) (fun v => v.2), fun w => .inr ⟨rfl, w⟩⟩
    · rcases hPL with v | ⟨v, v1, v2, v3, v4, v5, v6, v7⟩
      · exact .inl v
      · exact .inr ⟨v, (o2 210 b (by omega) (by omega) (by omega) (by omega)).trans v1, by rw [o2 170 55 (by omega) (by omega) (by omega) (by omega)]; exact v2, v3, (o2 206 v (by omega) (by omega) (by omega) (by omega)).trans v4, v5, v6, v7⟩
    · have w : s 144 x < 0 := w.elim (fun v => absurd v ng) (fun v => v.2)
      exact ⟨ap, q1, w, hk, h7, hs4 w⟩
    · rw [w53, hdd]
      refine congrArg (fun z => r 170 53 + (z - ind (LG x))) (ind_e ⟨fun w => w.imp id (fun v => ⟨rfl, v⟩), fun w => w.imp id (fun v => v.2)⟩)
    · rw [w53]; exact h54
    · rw [w53]; split <;> omega
  by_cases c8 : K.1 101 x < 8
  · rw [if_pos c8] at rc1 rc2
    obtain ⟨r2, a1, a2, a3⟩ := o_recv b7 hBV (by omega) ((d3 m).trans rc1)
    rw [d3, rc2] at a3
    refine ⟨r2, MS_1 d1 d2 a1, ?_, .inl ⟨_, wait (fun k j w1 w2 w3 => (a3 k j (by omega) w2 w3).trans ((if_neg (by omega)).trans (if_neg (by omega)))) (.inl ⟨c8, ?_, ?_, a2⟩)⟩⟩
    · refine ⟨(a3 170 54 (by omega) (by omega) (by omega)).trans ((if_neg (by omega)).trans ((if_neg (by omega)).trans e7)), ?_⟩
      rw [(a3 170 55 (by omega) (by omega) (by omega)).trans ((if_neg (by omega)).trans (if_neg (by omega)))]
      exact HR_55 e1
    · exact (a3 206 b (by omega) (by omega) (by omega)).trans ((if_neg (by omega)).trans up_self)
    · exact (a3 207 b (by omega) (by omega) (by omega)).trans up_self
  rw [if_neg c8] at rc1 rc2
  obtain ⟨i, hi⟩ : ∃ i : Nat, K.1 101 x - 8 = (i : Int) := ⟨(K.1 101 x - 8).toNat, by omega⟩
  have i4 : i < 4 := by omega
  have hS1 : SHx K r1 s := SH_fr hsh e2 (fun _ _ _ => rfl)
  have qq := (hS1.2.2.2.2 i i4).1
  by_cases c0 : r1 1630 i ≤ 0
  · obtain ⟨r2, a1, a2, a3⟩ := o_get0 b7 hBV (by omega) ((d3 m).trans rc1) (a := i) ((d3 _).trans (rc2.trans hi)) i4 c0
    refine ⟨r2, MS_1 d1 d2 a1, ?_, .inl ⟨_, wait (fun k j w1 w2 w3 => (a3 k j (by omega) w2 w3).trans ((if_neg (by omega)).trans (if_neg (by omega)))) (.inr ⟨by omega, ?_, ?_, a2⟩)⟩⟩
    · refine ⟨(a3 170 54 (by omega) (by omega) (by omega)).trans ((if_neg (by omega)).trans ((if_neg (by omega)).trans e7)), ?_⟩
      rw [(a3 170 55 (by omega) (by omega) (by omega)).trans ((if_neg (by omega)).trans (if_neg (by omega)))]
      exact HR_55 e1
    · exact (a3 206 b (by omega) (by omega) (by omega)).trans ((if_neg (by omega)).trans up_self)
    · exact (a3 207 b (by omega) (by omega) (by omega)).trans (up_self.trans hi.symm)
  -- a value is there
  obtain ⟨h9, hh9⟩ : ∃ h9 : Nat, r1 1630 i = (h9 : Int) + 1 := ⟨(r1 1630 i - 1).toNat, by omega⟩
  obtain ⟨u1, u2, u3, u4, u5, u6⟩ := id qq
  obtain ⟨r2, a1, a2, a3, a4, a5⟩ := o_get1 b7 hBV (by omega) ((d3 m).trans rc1) (by rw [List.length_append]; omega) (a := i) ((d3 _).trans (rc2.trans hi)) i4 hh9 (by omega)
  have ks : s 100 x = 407 := (hst 100 x (by omega)).trans hk
  have s1 := hst 101 x (by omega)
  have s3 := hst 103 x (by omega)
  have eq : qin (s 101 x) = 154 + 2 * i := by unfold qin; omega
  have t0 := trn_0 (s := s) (p := x)
  have hWx := w_407b ks h7 (by
    unfold sgu
    by_cases c : s 103 x < 0
    · rw [if_pos c]; omega
    · rw [if_neg c]
      unfold trn
      rw [if_neg (by omega)]
      omega)
  have w2 : rwx s x (s 101 x) = ([(154 + 2 * i, 1, (s (154 + 2 * i) 1 + 1) % 40), (154 + 2 * i, 2, s (154 + 2 * i) 2 - 1), (145, x, s (155 + 2 * i) (s (154 + 2 * i) 1).toNat), (147, x, 1)], pux (x : Int)) := by
    unfold rwx
    rw [if_neg (by omega), if_pos (by omega), eq, if_pos (by omega), show 154 + 2 * i + 1 = 155 + 2 * i by omega]
  rw [w2] at hWx
  obtain ⟨s2, Q2, n2, x1, x2, x3, x4, x5, x6⟩ := mv_flag (n := n) hPS qp ks (pre := [(154 + 2 * i, 1, (s (154 + 2 * i) 1 + 1) % 40), (154 + 2 * i, 2, s (154 + 2 * i) 2 - 1)]) (u := trn s x + 1) (v := s (155 + 2 * i) (s (154 + 2 * i) 1).toNat) (fun w hw => by
    rcases List.mem_cons.mp hw with e | e
    · rw [e]; show 154 ≤ 154 + 2 * i; omega
    · rw [List.mem_singleton] at e
      rw [e]; show 154 ≤ 154 + 2 * i; omega) (by
    rw [hWx]
    unfold cax
    dsimp only [List.cons_append, List.nil_append])
  have ao : ∀ k j, ¬ (k = 154 + 2 * i ∧ (j = 1 ∨ j = 2)) → apw [(154 + 2 * i, 1, (s (154 + 2 * i) 1 + 1) % 40), (154 + 2 * i, 2, s (154 + 2 * i) 2 - 1)] s k j = s k j := fun k j w => (if_neg (by dsimp only; omega)).trans (if_neg (by dsimp only; omega))
  have so : ∀ k j, ¬ (k = 154 + 2 * i ∧ (j = 1 ∨ j = 2)) → ¬ ((k = 144 ∨ k = 145 ∨ k = 147) ∧ j = x) → s2 k j = s k j := fun k j w1 w2 => by
    rw [x4]
    exact (if_neg (by omega)).trans ((if_neg (by omega)).trans ((if_neg (by omega)).trans (ao k j w1)))
  have sq1 : s2 (154 + 2 * i) 1 = (s (154 + 2 * i) 1 + 1) % 40 := by
    rw [x4]
    exact (if_neg (by omega)).trans ((if_neg (by omega)).trans ((if_neg (by omega)).trans ((if_neg (by dsimp only; omega)).trans up_self)))
  have sq2 : s2 (154 + 2 * i) 2 = s (154 + 2 * i) 2 - 1 := by
    rw [x4]
    exact (if_neg (by omega)).trans ((if_neg (by omega)).trans ((if_neg (by omega)).trans up_self))
  have e44 : s2 144 x = trn s x + 1 := by
    rw [x4]
    exact (if_neg (by omega)).trans ((if_neg (by omega)).trans up_self)
  have e45 : s2 145 x = s (155 + 2 * i) (s (154 + 2 * i) 1).toNat := by
    rw [x4]
    exact (if_neg (by omega)).trans up_self
  have e47 : s2 147 x = 1 := by rw [x4]; exact up_self
  have o2 : ∀ k j, ¬ ((k = 205 ∨ k = 208 ∨ k = 209) ∧ j = b) → k ≠ 220 + b → k ≠ 921 + b → ¬ (k = 1630 ∧ j = i) → k ≠ 1622 + i → ¬ (k = 170 ∧ j = 53) → r2 k j = r k j := fun k j w1 w2 w3 w4 w5 w6 => (a5 k j w1 w2 w3 w4 w5).trans ((hf1 k j w1 w2 w3).trans (if_neg w6))
  have hHR : HRx b r r2 := fun k j w1 w2 w3 w4 w5 w6 w7 w8 => o2 k j (by omega) w2 w3 (by omega) (by omega) w4
  have w53 : r2 170 53 = r 170 53 + (if s 144 x < 0 then 1 else 0) := (a5 170 53 (by omega) (by omega) (by omega) (by omega) (by omega)).trans e4
  obtain ⟨qg1, qg2⟩ := QQ_get qq (h2 := r2 1630 i) (f2 := r2 (1622 + i)) (q2 := s2 (154 + 2 * i)) (by omega) (by omega) (fun k hk => a4 k (by omega)) sq1 sq2
  have hSH : SHx K r2 s2 := by
    obtain ⟨z1, z2, z3, z4, z5⟩ := hS1
    have op : ∀ k j, ¬ ((k = 205 ∨ k = 208 ∨ k = 209) ∧ j = b) → k ≠ 220 + b → k ≠ 921 + b → ¬ (k = 1630 ∧ j = i) → k ≠ 1622 + i → r2 k j = r1 k j := a5
    have q5 : ∀ {a j f q g : Nat}, (1622 ≤ a ∧ a ≤ 1630) → (1622 ≤ f ∧ f ≤ 1629) → (154 ≤ q ∧ q ≤ 169) → (154 ≤ g ∧ g ≤ 169) → ¬ (a = 1630 ∧ j = i) → a ≠ 1622 + i → f ≠ 1622 + i → q ≠ 154 + 2 * i → g ≠ 154 + 2 * i → QQx (r1 a j) (r1 f) (s q) (s g) → QQx (r2 a j) (r2 f) (s2 q) (s2 g) := fun {a j f q g} w1 w2 w3 w4 w5 w6 w7 w8 w9 w => by
      have ef : r2 f = r1 f := funext fun z => op f z (by omega) (by omega) (by omega) (by omega) (by omega)
      have eq : s2 q = s q := funext fun z => so q z (by omega) (by omega)
      have eg : s2 g = s g := funext fun z => so g z (by omega) (by omega)
      rw [op a j (by omega) (by omega) (by omega) w5 w6, ef, eq, eg]
      exact w
    refine ⟨fun v hv => ?_, fun a j v1 v2 => ?_, fun v v1 v2 => by rw [op _ _ (by omega) (by omega) (by omega) (by omega) (by omega)]; exact z3 v v1 v2, fun a v1 v2 => by rw [op _ _ (by omega) (by omega) (by omega) (by omega) (by omega)]; exact z4 a v1 v2, fun j hj => ⟨?_, q5 (by omega) (by omega) (by omega) (by omega) (by omega) (by omega) (by omega) (by omega) (by omega) (z5 j hj).2⟩⟩
    · rw [op _ _ (by omega) (by omega) (by omega) (by omega) (by omega), so _ _ (by omega) (by omega)]; exact z1 v hv
    · rw [op _ _ (by omega) (by omega) (by omega) (by omega) (by omega), so _ _ (by omega) (by omega)]; exact z2 a j v1 v2
    · by_cases e : j = i
      · rw [e]
        have eg : s2 (155 + 2 * i) = s (155 + 2 * i) := funext fun z => so _ z (by omega) (by omega)
        rw [eg]
        exact qg1
      · exact q5 (by omega) (by omega) (by omega) (by omega) (by omega) (by omega) (by omega) (by omega) (by omega) (z5 j hj).1
  have ko : KO K s2 act (s2 143 x) x 1 (m + 4) S B tp := by
    rw [so 143 x (by omega) (by omega)]
    exact KO_mv hPS hst x3 ap np nb ap hKO
  refine ⟨r2, MS_1 d1 d2 a1, ⟨(a5 170 54 (by omega) (by omega) (by omega) (by omega) (by omega)).trans e7, by rw [a5 170 55 (by omega) (by omega) (by omega) (by omega) (by omega)]; exact HR_55 e1⟩, .inr ⟨s2, Q2, n2, x1, t_same hR hb (by omega) hp hd np ap nb k2 x2 x3 (fun q _ => x5 q) (so 143 x (by omega) (by omega)) (fun k L w => .inl (so k L (by omega) (by omega))) (so 142 13 (by omega) (by omega)) (fun L w => by rw [so 152 L (by omega) (by omega), so 153 L (by omega) (by omega)]; exact hex L w) hHR ?_ (fun _ _ => Iff.rfl) ng (fun hpl => ⟨b7, .inr (.inl ⟨?_, x, m, S, B, P, tp, hp, hd, ap, (x5 x).trans q1, ⟨(so 100 x (by omega) (by omega)).trans ks, by rw [e47]; omega⟩, by rw [e44]; omega, ng, hRC, ?_, ?_, ko, hpl tp hPL⟩)⟩) hSH ?_ ?_ ⟨by rw [w53]; split <;> omega, by rw [w53]; exact h54⟩ (fun z hz => ?_)⟩⟩
  · rw [o2 206 b (by omega) (by omega) (by omega) (by omega) (by omega) (by omega), h1]; omega
  · rw [o2 206 b (by omega) (by omega) (by omega) (by omega) (by omega) (by omega), h1]
  · rcases hSB with w | ⟨w1, v, w2, w3, w4, w5, w6⟩
    · exact .inl w
    · refine .inr ⟨w1, v, w2, w3, w4, w5, (so _ _ (by omega) ?_).trans w6⟩
      intro w
      exact w5 (by rw [w.2]; exact ap)
  · rw [e45, ← qg2]
    exact a2
  · intro y ay ky ty
    have yx : y ≠ x := fun e => by rw [e] at ky; omega
    rw [so 144 y (by omega) (by omega)] at ty ⊢
    rw [o2 204 _ (by omega) (by omega) (by omega) (by omega) (by omega) (by omega)]
    exact hcn y ay ky ty
  · rw [x6, Int.natCast_add, hst53, w53]
    have : smx (pfx K s2 act LG) M = smx (pfx K s act LG) M := smx_c (fun z _ => by
      unfold pfx
      refine congrArg (· - ind (LG z)) (ind_e ?_)
      unfold PNd
      by_cases e : z = x
      · rw [e]
        exact ⟨fun w => absurd w.2.1 (by omega), fun w => absurd w.2.1 (by omega)⟩
      · rw [so 144 z (by omega) (by omega)])
    rw [this]
    split <;> omega
  · by_cases e : z = x
    · rw [e, e44]
      refine ⟨ap, hk, ?_⟩
      unfold sgu
      by_cases c : K.1 103 x < 0
      · rw [if_pos c]; omega
      · rw [if_neg c]
        unfold trn
        rw [if_neg (by omega)]
        omega
    · rw [so 147 z (by omega) (by omega)] at hz
      rw [so 144 z (by omega) (by omega)]
      exact g7 z hz
end CHANX
