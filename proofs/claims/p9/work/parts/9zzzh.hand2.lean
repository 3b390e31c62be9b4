/-! A value goes from one branch to another. -/
section HAND2
variable {K : SCt} {W : Prop} {r r2 s s2 : tab} {Q Q2 : Nat → Nat} {act : Nat → Prop} {lf dr : Nat → Int} {LG : Nat → Prop} {bs br xs xr M n n2 m l : Nat} {S B P S1 B1 : List Int} {tp tp1 v : Int}
theorem t_ho (hR : REL K M W r s Q n act lf dr LG) (lbs : LVb r bs) (lbr : LVb r br) (s206 : r 206 bs = 2) (r206 : r 206 br = 3) (a1 : lf bs = (xs : Int)) (a2 : dr bs = -1) (a3 : act xs) (a4 : K.1 100 xs = 406) (a5 : ¬ LG xs) (a7 : KO K s act (s 143 xs) xs 1 l S B tp) (a8 : PLk r lf bs tp) (c1 : lf br = (xr : Int)) (c2 : dr br = -1) (c3 : act xr) (c4 : K.1 100 xr = 407) (c5 : RCx K xr m (m + 4)) (c6 : SBp K (PVy K s act xr) xr P) (c7 : KO K s act (s 143 xr) xr 1 (m + 4) S1 B1 tp1) (c8 : PLk r lf br tp1) (ns : NoC s act xs) (nr : NoC s act xr) (hP : PSy M K.2.2.2.1 K.2.2.2.2.2 s2 Q2 (fun q => act q ∧ q ≠ xs)) (hM : MVx s Q act s2 Q2 (fun q => act q ∧ q ≠ xs) (fun z => z = xr ∨ z = xs) xs) (e45 : s2 145 xr = v) (e47 : s2 147 xr = 1) (e44 : 0 ≤ s2 144 xr ∧ 2 ≤ sgu K.1 xr (s2 144 xr)) (so : ∀ k j, ¬ (k = 144 ∧ (j = xs ∨ j = xr)) → ¬ (k = 145 ∧ (j = xs ∨ j = xr)) → ¬ (k = 147 ∧ j = xr) → k ≠ 152 → k ≠ 153 → k ≠ 142 → s2 k j = s k j) (hlin : ∀ k L, k = 152 ∨ k = 153 → s2 k L = s k L ∨ s2 k L = -1 ∧ (s k L = (xs : Int) ∨ s k L = (xr : Int))) (e13 : s2 142 13 = if s 143 xs < 0 then 1 else s 142 13) (eQ : ∀ z, Q2 z = (if z = xr then 1 else if z = xs then 0 else Q z) + (if s 143 xs = (z : Int) then 1 else 0)) (hn : (n2 : Int) = (n : Int) + ind (LG xr)) (o : ∀ k j, ¬ ((k = 206 ∨ k = 208) ∧ (j = bs ∨ j = br)) → k ≠ 220 + br → r2 k j = r k j) (e6s : r2 206 bs = 1) (e6r : r2 206 br = 1) (bvs : BVx r2 bs l S B) (bvr : BVx r2 br (m + 2) (v :: (P ++ S1)) B1) : ∃ lf2 dr2, REL K M W r2 s2 Q2 n2 (fun q => act q ∧ q ≠ xs) lf2 dr2 (fun z => LG z ∧ z ≠ xr) := by
  obtain ⟨hPS, ⟨hst, hcd⟩, hBR, hinj, hcov, hdrs, hsh, hcn, hex, hst53, hLG, g1, g2, g3, g4, g5, g6, g7, g8⟩ := id hR
  have bs7 := (hBR bs lbs).1
  have br7 := (hBR br lbr).1
  have bne : br ≠ bs := fun e => by rw [e] at r206; omega
  have xne : xr ≠ xs := fun e => by rw [e] at c4; omega
  have nP : ∀ z, z = xr ∨ z = xs → ¬ PBg s z := fun z e q => by
    have := q.1
    rw [hst 100 z (by omega)] at this
    rcases e with e | e <;> (rw [e] at this; omega)
  have nX : ∀ z, z = xr ∨ z = xs → NoC s act z := fun z e => by
    rcases e with e | e <;> (rw [e]; assumption)
  have lv : ∀ b2, LVb r2 b2 ↔ LVb r b2 := fun b2 => by
    have e55 := o 170 55 (by omega) (by omega)
    by_cases e : b2 = bs
    · rw [e]; exact ⟨fun _ => lbs, fun _ => ⟨by rw [e55]; exact lbs.1, by rw [e6s]; decide⟩⟩
    · by_cases e2 : b2 = br
      · rw [e2]; exact ⟨fun _ => lbr, fun _ => ⟨by rw [e55]; exact lbr.1, by rw [e6r]; decide⟩⟩
      · unfold LVb
        rw [e55, o 206 b2 (by omega) (by omega)]
  have plk : ∀ (w : Int) b2 tp2, PLk r lf b2 tp2 → PLk r2 (fun i => if i = bs then w else lf i) b2 tp2 := fun w b2 tp2 h9 => by
    rcases h9 with v | ⟨u, u1, u2, u3, u4, u5, u6, u7⟩
    · exact .inl v
    · have ub : u ≠ bs := fun e => by rw [e] at u4; omega
      have ub2 : u ≠ br := fun e => by rw [e] at u4; omega
      exact .inr ⟨u, (o 210 b2 (by omega) (by omega)).trans u1, by rw [o 170 55 (by omega) (by omega)]; exact u2, u3, (o 206 u (by omega) (by omega)).trans u4, (if_neg ub).trans u5, u6, u7⟩
  have HV := HV_of hPS hst hM a3 (.inr rfl)
  have q2r : Q2 xr = 1 := by rw [eQ, if_pos rfl, if_neg (nr xs a3)]
  have s3 : ∀ z, s2 143 z = s 143 z := fun z => so 143 z (by omega) (by omega) (by omega) (by omega) (by omega) (by omega)
  have s4 : ∀ z, z ≠ xs → z ≠ xr → s2 144 z = s 144 z := fun z w1 w2 => so 144 z (by omega) (by omega) (by omega) (by omega) (by omega) (by omega)
  have OT : ∀ (w d : Int) b2, b2 ≠ bs → LVb r2 b2 → BRx K W r2 s2 Q2 (fun q => act q ∧ q ≠ xs) (fun i => if i = bs then w else lf i) (fun i => if i = bs then d else dr i) (fun z => LG z ∧ z ≠ xr) b2 := fun w d b2 ne l2 => by
    have lb2 := (lv b2).mp l2
    have b27 := (hBR b2 lb2).1
    by_cases e : b2 = br
    · rw [e]
      refine ⟨br7, .inr (.inl ⟨e6r, xr, m, S1, B1, P, tp1, (if_neg bne).trans c1, (if_neg bne).trans c2, ⟨c3, xne⟩, q2r, ⟨(so 100 xr (by omega) (by omega) (by omega) (by omega) (by omega) (by omega)).trans ((hst 100 xr (by omega)).trans c4), by rw [e47]; omega⟩, e44.1, fun w => w.2 rfl, c5, ?_, by rw [e45]; exact bvr, ?_, plk w br tp1 c8⟩)⟩
      · rcases c6 with w | ⟨w1, v1, w2, w3, w4, w5, w6⟩
        · exact .inl w
        · refine .inr ⟨w1, v1, w2, w3, w4, fun q => w5 q.1, (so _ _ (by omega) (fun q => ?_) (by omega) (by omega) (by omega) (by omega)).trans w6⟩
          rcases q.2 with q | q <;> (rw [q] at w5; exact absurd ‹_› w5)
      · rw [s3]
        obtain ⟨k, hk⟩ := c7
        refine ⟨k, KON_mv (X := fun z => z = xr ∨ z = xs) (fun z e => .inl (nX z e)) (fun z az e => ?_) (fun z e v _ => absurd v (nP z e)) (fun j => so 100 j (by omega) (by omega) (by omega) (by omega) (by omega) (by omega)) (fun j => hst 100 j (by omega)) HV k _ _ _ _ _ _ (fun z e w => absurd w (nX z e xr c3)) hk⟩
        obtain ⟨a1, a2, a3, _, a5, _⟩ := hM.1 z az e
        exact ⟨a1, a2, a3, a5⟩
    · have nl : ∀ z : Nat, lf b2 = (z : Int) → ¬ (z = xr ∨ z = xs) := fun z ez h9 => by
        rcases h9 with h9 | h9
        · exact e (hinj b2 br lb2 lbr (by omega) (by rw [ez, c1, h9]))
        · exact ne (hinj b2 bs lb2 lbs (by omega) (by rw [ez, a1, h9]))
      refine BR_mv hPS hst hM a3 (.inr rfl) (fun z e => .inl (nX z e)) (.inl (fun _ w => w.1)) (hBR b2 lb2) (fun k j w2 => o k j (by omega) (by omega)) (if_neg ne) (if_neg ne) nl (fun z ez => ⟨fun w => w.1, fun w => ⟨w, fun e => nl z ez (.inl e)⟩⟩) (fun tp2 _ w2 => plk w b2 tp2 w2) (fun z tp2 _ _ e w3 _ => absurd w3 (nP z e)) (fun w2 => by rw [e13, w2]; split <;> rfl) (fun k L z w2 ez w4 => ?_)
      rcases hlin k L w2 with q | ⟨_, q⟩
      · exact q.trans w4
      · exact absurd (show z = xr ∨ z = xs by omega) (nl z ez)
  have hCN : CNx K r2 s2 (fun q => act q ∧ q ≠ xs) := fun y ay ky ty => by
    have y1 : y ≠ xr := fun e => by rw [e] at ky; omega
    rw [s4 y ay.2 y1] at ty ⊢
    rw [o 204 _ (by omega) (by omega)]
    exact hcn y ay.1 ky ty
  have o53 : r2 170 53 = r 170 53 := o 170 53 (by omega) (by omega)
  have xM : xr < M := by
    obtain ⟨⟨cx, anc, hJ⟩, _, _, _, hM2, _⟩ := hPS
    have := (EF_k (hJ.2.2.1 xr c3).1).2.1
    omega
  have hS : (n2 : Int) = r2 170 53 + smx (pfx K s2 (fun q => act q ∧ q ≠ xs) (fun z => LG z ∧ z ≠ xr)) M := by
    have pn : ∀ z, PNd K s2 (fun q => act q ∧ q ≠ xs) z ↔ PNd K s act z := fun z => by
      constructor
      · intro w
        have z1 : z ≠ xr := fun e => by have := w.2.1; rw [e] at this; omega
        exact ⟨w.1.1, w.2.1, by rw [← s4 z w.1.2 z1]; exact w.2.2⟩
      · intro w
        have z1 : z ≠ xr := fun e => by have := w.2.1; rw [e] at this; omega
        have z2 : z ≠ xs := fun e => by have := w.2.1; rw [e] at this; omega
        exact ⟨⟨w.1, z2⟩, w.2.1, by rw [s4 z z2 z1]; exact w.2.2⟩
    have u := sm_p (f := pfx K s2 (fun q => act q ∧ q ≠ xs) (fun z => LG z ∧ z ≠ xr)) (g := pfx K s act LG) xM (fun i ne => by
      unfold pfx
      rw [ind_e (pn i), ind_e (show (LG i ∧ i ≠ xr) ↔ LG i from ⟨fun w => w.1, fun w => ⟨w, ne⟩⟩)])
    rw [u, hn, o53, hst53]
    unfold pfx
    rw [ind_e (pn xr), ind_f (fun w : LG xr ∧ xr ≠ xr => w.2 rfl)]
    omega
  have hF7 : FL7 K s2 (fun q => act q ∧ q ≠ xs) := fun z hz => by
    by_cases e : z = xr
    · rw [e]; exact ⟨⟨c3, xne⟩, c4, e44.2⟩
    · rw [so 147 z (by omega) (by omega) (by omega) (by omega) (by omega) (by omega)] at hz
      obtain ⟨w1, w2, w3⟩ := g7 z hz
      have zx : z ≠ xs := fun e => by rw [e] at w2; omega
      exact ⟨⟨w1, zx⟩, w2, by rw [s4 z zx e]; exact w3⟩
  obtain ⟨lf2, dr2, y1, _⟩ := t_tell2 (X := fun z => z = xr ∨ z = xs) (b := bs) (p := xs) (n2 := n2) (md := 1) (l := l) (pc := l) (S := S) (B := B) (tp := tp) (LG2 := fun z => LG z ∧ z ≠ xr) (v := 0) hR bs7 a1 a2 ns a3 (.inr rfl) nX (fun z e ne => by
    rcases e with e | e
    · exact ⟨by rw [e]; omega, s3 z⟩
    · exact absurd e ne) (fun z => ⟨fun w => ⟨w.1, fun e => e.elim w.2 (fun e => a5 (e ▸ w.1))⟩, fun w => ⟨w.1, fun e => w.2 (.inl e)⟩⟩) hP hM (fun w => by omega) e13 (fun z nz => by rw [eQ, if_neg (fun e => nz (.inl e)), if_neg (fun e => nz (.inr e))]) (fun L w q => by
      have w1 := hlin 152 L (by omega)
      have w2 := hlin 153 L (by omega)
      have := hex L w
      omega) OT ((lv bs).mpr lbs) (fun b2 w => (lv b2).mp w) (fun b2 w _ => (lv b2).mpr w) (fun z az _ bz => by rw [hdrs z az bz]; exact smx_c (fun i _ => ind_e (by rw [lv i]))) (fun w => plk w bs tp a8) (fun i => o 178 i (by omega) (by omega)) (o 170 55 (by omega) (by omega)) (o 170 54 (by omega) (by omega)) (o 170 52 (by omega) (by omega)) e6s bvs (.inl rfl) a7 a8 (SH_fr hsh (fun k j w => o k j (by omega) (by omega)) (fun k j w => so k j (by omega) (by omega) (by omega) (by omega) (by omega) (by omega))) hCN hS ⟨by rw [o53]; exact g3, by rw [o53]; exact g4⟩ hF7
  exact ⟨lf2, dr2, y1⟩
end HAND2
