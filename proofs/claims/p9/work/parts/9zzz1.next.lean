/-! How a branch goes on; what it means to be lost. -/
section NEXTX
variable {K : SCt} {W : Prop} {r r1 r2 s s2 : tab} {Q Q2 : Nat → Nat} {act act2 : Nat → Prop} {lf dr : Nat → Int} {LG : Nat → Prop} {b p y M n n2 : Nat}
/-- instructions of branch b, one after the other -/
def MS (b : Nat) : Nat → tab → tab → Prop
  | 0, r, r2 => r2 = r
  | k + 1, r, r2 => r 206 b = 1 ∧ r 170 52 = 2 ∧ ∃ r1, ON1 b r r1 ∧ MS b k r1 r2
theorem MS_1 (h1 : r 206 b = 1) (h2 : r 170 52 = 2) (h : ON1 b r r2) : MS b 1 r r2 := ⟨h1, h2, r2, h, rfl⟩
theorem MS_tr {j : Nat} : ∀ (k : Nat) (r : tab), MS b k r r1 → MS b j r1 r2 → MS b (k + j) r r2
  | 0, r, h, h2 => by
    have h : r1 = r := h
    rw [← h, Nat.zero_add]
    exact h2
  | k + 1, r, ⟨a1, a2, rx, a3, a4⟩, h2 => by
    rw [show k + 1 + j = (k + j) + 1 by omega]
    exact ⟨a1, a2, rx, a3, MS_tr k rx a4 h2⟩
/-- the whole has ended -/
def EDx (K : SCt) (M : Nat) (r s : tab) (Q : Nat → Nat) (n : Nat) : Prop := r 170 52 = 1 ∧ s 142 13 = 1 ∧ (∀ p, Q p = 0) ∧ PSy M K.2.2.2.1 K.2.2.2.2.2 s Q (fun _ => False) ∧ SHx K r s ∧ (n : Int) = r 170 53 ∧ 0 ≤ r 170 53 ∧ r 170 53 ≤ r 170 54 ∧ (∀ k j, 99 ≤ k ∧ k ≤ 114 → s k j = K.1 k j) ∧ ∀ i, r 178 i = cd K i
/-- how branch b goes on: some instructions, and the parts machine some turns; or it is lost; or the whole has ended -/
def NXT (K : SCt) (M b : Nat) (r s : tab) (Q : Nat → Nat) (n : Nat) : Prop :=
  (∃ k r2 ps s2 Q2 n2 act2 lf2 dr2 LG2, MS b (k + 1) r r2 ∧ okx rdx stx (s, Q, n) ps ∧ rnx stx (s, Q, n) ps = (s2, Q2, n2) ∧ REL K M False r2 s2 Q2 n2 act2 lf2 dr2 LG2 ∧ r2 170 54 = r 170 54 ∧ r 170 55 ≤ r2 170 55) ∨
  (∃ k r1 r2 ps, MS b k r r1 ∧ r1 206 b = 1 ∧ r1 170 52 = 2 ∧ ON1 b r1 r2 ∧ r2 170 52 = 3 ∧ okx rdx stx (s, Q, n) ps ∧ r 170 54 < ((rnx stx (s, Q, n) ps).2.2 : Int) ∧ STr K r2) ∨
  (∃ k r2 ps s2 Q2 n2, MS b (k + 1) r r2 ∧ okx rdx stx (s, Q, n) ps ∧ rnx stx (s, Q, n) ps = (s2, Q2, n2) ∧ EDx K M r2 s2 Q2 n2 ∧ r2 170 54 = r 170 54)
theorem NX_pre {ps : List Nat} (h : okx rdx stx (s, Q, n) ps) (e : rnx stx (s, Q, n) ps = (s2, Q2, n2)) (k : NXT K M b r s2 Q2 n2) : NXT K M b r s Q n := by
  have ok : ∀ {qs}, okx rdx stx (s2, Q2, n2) qs → okx rdx stx (s, Q, n) (ps ++ qs) := fun q => (ok_app ps _ _).mpr ⟨h, by rw [e]; exact q⟩
  have rn : ∀ {qs}, rnx stx (s, Q, n) (ps ++ qs) = rnx stx (s2, Q2, n2) qs := fun {qs} => by rw [rn_app, e]
  rcases k with ⟨k, r2, qs, s3, Q3, n3, act3, lf3, dr3, LG3, a1, a2, a3, a4⟩ | ⟨k, r1, r2, qs, a1, a2, a3, a4, a5, a6, a7, a8⟩ | ⟨k, r2, qs, s3, Q3, n3, a1, a2, a3, a4⟩
  · exact .inl ⟨k, r2, ps ++ qs, s3, Q3, n3, act3, lf3, dr3, LG3, a1, ok a2, rn.trans a3, a4⟩
  · exact .inr (.inl ⟨k, r1, r2, ps ++ qs, a1, a2, a3, a4, a5, ok a6, by rw [rn]; exact a7, a8⟩)
  · exact .inr (.inr ⟨k, r2, ps ++ qs, s3, Q3, n3, a1, ok a2, rn.trans a3, a4⟩)
theorem NX_1 (hx : rdx (s, Q, n) p) (e : stx (s, Q, n) p = (s2, Q2, n2)) (k : NXT K M b r s2 Q2 n2) : NXT K M b r s Q n := NX_pre (ps := [p]) ⟨hx, trivial⟩ e k
theorem NX_ms {j : Nat} (h : MS b j r r1) (e : r1 170 54 = r 170 54) (e55 : r 170 55 ≤ r1 170 55) (k : NXT K M b r1 s Q n) : NXT K M b r s Q n := by
  rcases k with ⟨k, r2, qs, s3, Q3, n3, act3, lf3, dr3, LG3, a1, a2, a3, a4, a5, a6⟩ | ⟨k, rx, r2, qs, a1, a2, a3, a4, a5, a6, a7, a8⟩ | ⟨k, r2, qs, s3, Q3, n3, a1, a2, a3, a4, a5⟩
  · exact .inl ⟨j + k, r2, qs, s3, Q3, n3, act3, lf3, dr3, LG3, by rw [Nat.add_assoc]; exact MS_tr j r h a1, a2, a3, a4, a5.trans e, Int.le_trans e55 a6⟩
  · exact .inr (.inl ⟨j + k, rx, r2, qs, MS_tr j r h a1, a2, a3, a4, a5, a6, by rw [← e]; exact a7, a8⟩)
  · exact .inr (.inr ⟨j + k, r2, qs, s3, Q3, n3, by rw [Nat.add_assoc]; exact MS_tr j r h a1, a2, a3, a4, a5.trans e⟩)
/-- one turn, some instructions -/
theorem NX_go {k : Nat} {lf2 dr2 : Nat → Int} {LG2 : Nat → Prop} (hm : MS b (k + 1) r r2) (hx : rdx (s, Q, n) p) (e : stx (s, Q, n) p = (s2, Q2, n2)) (hR : REL K M False r2 s2 Q2 n2 act2 lf2 dr2 LG2) (h54 : r2 170 54 = r 170 54) (h55 : r 170 55 ≤ r2 170 55) : NXT K M b r s Q n := .inl ⟨k, r2, [p], s2, Q2, n2, act2, lf2, dr2, LG2, hm, ⟨hx, trivial⟩, e, hR, h54, h55⟩
theorem HR_55 (h : HRx b r r2) : r 170 55 ≤ r2 170 55 := by
  rw [h 170 55 (by omega) (by omega) (by omega) (by omega) (by omega) (by omega) (by omega) (by omega)]
  exact Int.le_refl _
/-- a part that is ready, and has not been turned to -/
def URx (s : tab) (Q : Nat → Nat) (act : Nat → Prop) (q : Nat) : Prop := act q ∧ Q q = 1 ∧ s 144 q < 0
theorem UR_mv {X : Nat → Prop} {a : Nat} (h : PSy M K.2.2.2.1 K.2.2.2.2.2 s Q act) (H : MVx s Q act s2 Q2 act2 X a) (aa : act a) (hX : ∀ z, X z → z = p ∨ Q z = 0) {q : Nat} (ne : q ≠ p) (hq : URx s Q act q) : URx s2 Q2 act2 q ∧ s2 147 q = s 147 q := by
  obtain ⟨h1, h2, h3⟩ := hq
  have nx : ¬ X q := fun w => by
    rcases hX q w with v | v
    · exact ne v
    · omega
  obtain ⟨w1, w2, w3, _, _, w6, w7⟩ := H.1 q h1 nx
  have nq := ((PS_rd h (show 0 < Q q by omega)).2.2.2.2 (fun z => by have := z.2; omega)).2
  exact ⟨⟨w1, (w7 (fun e => nq a aa e)).trans h2, by rw [w3]; exact h3⟩, w6⟩
/-- a RECEIVE looks for a value -/
theorem rc_t (h : PSy M K.2.2.2.1 K.2.2.2.2.2 s Q act) (hq : 0 < Q p) (hk : s 100 p = 407) (h7 : s 147 p = 0) (hs : sgu s p (trn s p) ≠ 0) : ∃ s2 Q2 n2 act2 X a, stx (s, Q, n) p = (s2, Q2, n2) ∧ PSy M K.2.2.2.1 K.2.2.2.2.2 s2 Q2 act2 ∧ MVx s Q act s2 Q2 act2 X a ∧ act a ∧ (∀ z, X z → z = p ∨ Q z = 0) ∧ n2 = n + (if s 144 p < 0 then 1 else 0) := by
  obtain ⟨ap, ip, pl, pM, hb⟩ := PS_rd h hq
  obtain ⟨⟨cx, anc, hJ⟩, _, _, _, hM, hqb⟩ := id h
  obtain ⟨_, _, _, _, _, _, _, _, _, _, k8, _⟩ := EF_k (hJ.2.2.1 p ap).1
  obtain ⟨⟨l0, l1, _⟩, _⟩ := k8 hk
  have hW := w_407b hk h7 hs
  by_cases c8 : 8 ≤ s 101 p
  · by_cases cq : 0 < s (qin (s 101 p)) 2
    · obtain ⟨s2, Q2, n2, x1, x2, x3, _, _, x6⟩ := mv_flag (n := n) h hq hk (pre := [(qin (s 101 p), 1, (s (qin (s 101 p)) 1 + 1) % 40), (qin (s 101 p), 2, s (qin (s 101 p)) 2 - 1)]) (u := trn s p + 1) (v := s (qin (s 101 p) + 1) (s (qin (s 101 p)) 1).toNat) (fun w hw => by
        have : 154 ≤ qin (s 101 p) := by unfold qin; omega
        rcases List.mem_cons.mp hw with e | e
        · rw [e]; exact this
        · rw [List.mem_singleton] at e
          rw [e]; exact this) (by
        rw [hW]
        unfold rwx
        rw [if_neg (by omega), if_pos c8, if_pos cq]
        unfold cax
        dsimp only [List.cons_append, List.nil_append])
      exact ⟨s2, Q2, n2, _, _, _, x1, x2, x3, ap, fun z e => .inl e, x6⟩
    · obtain ⟨s2, Q2, n2, x1, x2, x3, _, _, x6⟩ := mv_wait (n := n) h hq (K := 153) (L := (s 101 p).toNat) (.inr ⟨rfl, hk⟩) rfl l0 (by
        rw [hW]
        unfold rwx
        rw [if_neg (by omega), if_pos c8, if_neg cq]
        rfl)
      exact ⟨s2, Q2, n2, _, _, _, x1, x2, x3, ap, fun z e => .inl e, x6⟩
  · by_cases cw : 0 ≤ s 152 (s 101 p).toNat
    · obtain ⟨R, hR⟩ : ∃ R : Nat, s 152 (s 101 p).toNat = (R : Int) := ⟨(s 152 (s 101 p).toNat).toNat, by omega⟩
      obtain ⟨s2, Q2, n2, x1, x2, x3, x4, _, _, _, _, x9⟩ := mv_h2 (n := n) h hq hk ⟨by omega, .inr ⟨hk, hs, h7⟩⟩ hR
      have qR := (hJ.2.2.2.2.2.2.2.1 (s 101 p).toNat (by omega)).1.2 (by omega)
      rw [hR, Int.toNat_natCast] at qR
      refine ⟨s2, Q2, n2, _, _, _, x1, x2, x3, x4.1, fun z e => ?_, x9⟩
      rcases (show z = p ∨ z = R from e) with e | e
      · exact .inl e
      · exact .inr (by rw [e]; exact qR.2.1)
    · obtain ⟨s2, Q2, n2, x1, x2, x3, _, _, x6⟩ := mv_wait (n := n) h hq (K := 153) (L := (s 101 p).toNat) (.inr ⟨rfl, hk⟩) rfl l0 (by
        rw [hW]
        unfold rwx
        rw [if_neg (by omega), if_neg c8, if_neg cw]
        rfl)
      exact ⟨s2, Q2, n2, _, _, _, x1, x2, x3, ap, fun z e => .inl e, x6⟩
/-- all that lag behind turn, and one more -/
theorem lg_run {x : Nat} : ∀ (l : List Nat) (s : tab) (Q : Nat → Nat) (n : Nat) (act : Nat → Prop), PSy M K.2.2.2.1 K.2.2.2.2.2 s Q act → l.Nodup → (∀ q ∈ l, URx s Q act q ∧ s 100 q = 407 ∧ s 147 q = 0 ∧ s 103 q = -1) → (∀ e, e ∈ ([] : List Nat) → False) → (URx s Q act x ∧ x ∉ l → okx rdx stx (s, Q, n) (l ++ [x]) ∧ (rnx stx (s, Q, n) (l ++ [x])).2.2 = n + l.length + 1) ∧ okx rdx stx (s, Q, n) l ∧ (rnx stx (s, Q, n) l).2.2 = n + l.length
  | [], s, Q, n, act, _, _, _, _ => by
    refine ⟨fun hx => ⟨⟨show 0 < Q x by have := hx.1.2.1; omega, trivial⟩, ?_⟩, trivial, rfl⟩
    show n + (if s 144 x < 0 then 1 else 0) = n + 0 + 1
    rw [if_pos hx.1.2.2]
  | p :: l, s, Q, n, act, h, hn, hl, h9 => by
    obtain ⟨⟨a1, a2, a3⟩, a4, a5, a6⟩ := hl p List.mem_cons_self
    obtain ⟨n1, n2⟩ := List.nodup_cons.mp hn
    have t0 : trn s p = 0 := if_pos a3
    obtain ⟨s2, Q2, m2, act2, X, a, x1, x2, x3, x4, x5, x6⟩ := rc_t (n := n) h (show 0 < Q p by omega) a4 a5 (by
      unfold sgu
      rw [if_pos (by omega), t0]
      omega)
    rw [if_pos a3] at x6
    have ih := lg_run (x := x) l s2 Q2 m2 act2 x2 n2 (fun q hq => by
      obtain ⟨b1, b2, b3, b4⟩ := hl q (List.mem_cons_of_mem _ hq)
      have ne : q ≠ p := fun e => n1 (e ▸ hq)
      obtain ⟨c1, c2⟩ := UR_mv h x3 x4 x5 ne b1
      exact ⟨c1, (x3.2.2.2 100 q (by omega)).trans b2, c2.trans b3, (x3.2.2.2 103 q (by omega)).trans b4⟩) h9
    refine ⟨fun hx => ?_, ⟨show 0 < Q p by omega, by rw [x1]; exact ih.2.1⟩, ?_⟩
    · have ne : x ≠ p := fun e => hx.2 (by rw [e]; exact List.mem_cons_self)
      have := ih.1 ⟨(UR_mv h x3 x4 x5 ne hx.1).1, fun q => hx.2 (List.mem_cons_of_mem _ q)⟩
      refine ⟨⟨show 0 < Q p by omega, by rw [x1]; exact this.1⟩, ?_⟩
      show (rnx stx (stx (s, Q, n) p) (l ++ [x])).2.2 = _
      rw [x1, this.2, x6, List.length_cons]
      omega
    · show (rnx stx (stx (s, Q, n) p) l).2.2 = _
      rw [x1, ih.2.2, x6, List.length_cons]
      omega
/-- those of which P holds, in a list -/
theorem ls_of {P : Nat → Prop} : ∀ M : Nat, ∃ l : List Nat, l.Nodup ∧ (∀ q ∈ l, P q ∧ q < M) ∧ (l.length : Int) = smx (fun i => ind (P i)) M
  | 0 => ⟨[], List.nodup_nil, fun q hq => absurd hq List.not_mem_nil, rfl⟩
  | M + 1 => by
    obtain ⟨l, h1, h2, h3⟩ := ls_of (P := P) M
    by_cases e : P M
    · refine ⟨M :: l, List.nodup_cons.mpr ⟨fun q => by have := (h2 M q).2; omega, h1⟩, fun q hq => ?_, ?_⟩
      · rcases List.mem_cons.mp hq with w | w
        · rw [w]; exact ⟨e, by omega⟩
        · exact ⟨(h2 q w).1, by have := (h2 q w).2; omega⟩
      · show _ = smx (fun i => ind (P i)) M + ind (P M)
        rw [ind_t e, List.length_cons, ← h3]
        omega
    · refine ⟨l, h1, fun q hq => ⟨(h2 q hq).1, by have := (h2 q hq).2; omega⟩, ?_⟩
      show _ = smx (fun i => ind (P i)) M + ind (P M)
      rw [ind_f e, h3]
      omega
theorem smz_d {f g : Nat → Int} : ∀ n, smx (fun i => f i - g i) n = smx f n - smx g n
  | 0 => rfl
  | n + 1 => by
    show smx (fun i => f i - g i) n + (f n - g n) = smx f n + f n - (smx g n + g n)
    rw [smz_d n]
    omega
/-- it takes more steps than the reference has counted -/
theorem lost (hR : REL K M W r s Q n act lf dr LG) (hx : (∃ x, URx s Q act x ∧ ¬ LG x) ∨ ∃ z, PNd K s act z) : ∃ ps, okx rdx stx (s, Q, n) ps ∧ r 170 53 < ((rnx stx (s, Q, n) ps).2.2 : Int) := by
  obtain ⟨hPS, ⟨hst, hcd⟩, hBR, hinj, hcov, hdrs, hsh, hcn, hex, hst53, hLG, g1, g2, g3, g4, g5, g6, g7, g8⟩ := hR
  obtain ⟨l, l1, l2, l3⟩ := ls_of (P := LG) M
  have e1 : smx (pfx K s act LG) M = smx (fun i => ind (PNd K s act i)) M - (l.length : Int) := by
    rw [l3]
    exact smz_d M
  have pos := (smz_b (f := fun i => ind (PNd K s act i)) (a := 0) (b := 1) M (fun _ _ => ind_r)).1
  have fl : ∀ q ∈ l, URx s Q act q ∧ s 100 q = 407 ∧ s 147 q = 0 ∧ s 103 q = -1 := fun q hq => by
    obtain ⟨w1, w2, w3, w4, w5, w6⟩ := hLG q (l2 q hq).1
    exact ⟨⟨w1, w2, w3⟩, (hst 100 q (by omega)).trans w4, w5, (hst 103 q (by omega)).trans w6⟩
  rcases hx with ⟨x, x1, x2⟩ | ⟨z, hz⟩
  · obtain ⟨k1, k2⟩ := (lg_run (x := x) l s Q n act hPS l1 fl (fun e he => List.not_mem_nil he)).1 ⟨x1, fun q => x2 (l2 x q).1⟩
    refine ⟨_, k1, ?_⟩
    rw [k2]
    omega
  · obtain ⟨k1, k2⟩ := (lg_run (x := 0) l s Q n act hPS l1 fl (fun e he => List.not_mem_nil he)).2
    refine ⟨_, k1, ?_⟩
    have zM : z < M := by
      obtain ⟨⟨cx, anc, hJ⟩, _, _, _, hM, _⟩ := hPS
      have := (EF_k (hJ.2.2.1 z hz.1).1).2.1
      omega
    have u := sm_p (f := fun i => ind (PNd K s act i)) (g := fun i => if i = z then 0 else ind (PNd K s act i)) zM (fun i ne => by rw [if_neg ne])
    have v := (smz_b (f := fun i => if i = z then 0 else ind (PNd K s act i)) (a := 0) (b := 1) M (fun i _ => by
      split
      · omega
      · exact ind_r)).1
    rw [if_pos rfl, ind_t hz] at u
    rw [k2]
    omega
end NEXTX
