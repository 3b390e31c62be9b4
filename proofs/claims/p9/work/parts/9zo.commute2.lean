/-! Turns of two parts commute: PARs, and the two ends of a chan. -/
section COMM2
variable {s : tab} {Q : Nat → Nat} {act : Nat → Prop} {cx : Nat → Cxx} {anc : Nat → Nat → Prop} {p q : Nat}
theorem noop_e {s2 : tab} (h : JGx s Q act cx anc) (hp : 0 < Q p) (hc : ¬ NoC s act p) (hs : ∀ k j, 99 ≤ k ∧ k ≤ 114 → s2 k j = s k j) (h4 : s2 144 p = s 144 p) : Wrx s2 p = ([(144, p, trn s p + 1)], []) ∧ Wrx s p = ([(144, p, trn s p + 1)], []) := by
  obtain ⟨hb, ht, hl⟩ := J_noop h hp hc
  have h1 := hb.2
  have e : trn s2 p = trn s p := by
    unfold trn
    rw [h4]
  have w := noop_W (s := s2) (p := p) ((hs 100 p (by omega)).trans hb.1) (by rw [e]; omega) (by rw [e, hs 102 p (by omega)]; omega)
  rw [e] at w
  exact ⟨w, noop_W hb.1 (by omega) (by omega)⟩
theorem cm_BB (h : JGx s Q act cx anc) {n : Nat} (hp : 0 < Q p) (hq : 0 < Q q) (hne : p ≠ q) (np : ¬ NoC s act p) (nq : ¬ NoC s act q) : stx (stx (s, Q, n) p) q = stx (stx (s, Q, n) q) p := by
  have wp := (noop_e (s2 := s) h hp np (fun _ _ _ => rfl) rfl).2
  have wq := (noop_e (s2 := s) h hq nq (fun _ _ _ => rfl) rfl).2
  have e1 := (noop_e (s2 := up2 s 144 p (trn s p + 1)) h hq nq (fun k j hk => if_neg (by omega)) (if_neg (fun e => hne e.2.symm))).1
  have e2 := (noop_e (s2 := up2 s 144 q (trn s q + 1)) h hp np (fun k j hk => if_neg (by omega)) (if_neg (fun e => hne e.2))).1
  refine cm0 (x := (s, Q, n)) hp hq hne ?_ ?_ ?_
  · show Wrx (apw (Wrx s p).1 s) q = Wrx s q
    rw [wp, wq]
    exact e1
  · show Wrx (apw (Wrx s q).1 s) p = Wrx s p
    rw [wp, wq]
    exact e2
  · show ∀ w ∈ (Wrx s p).1, ∀ v ∈ (Wrx s q).1, _
    rw [wp, wq]
    intro w hw v hv e
    simp only [List.mem_cons, List.not_mem_nil, or_false] at hw hv
    rw [hw, hv] at e
    exact hne e.2
theorem cm_B (h : JGx s Q act cx anc) {n : Nat} (hp : 0 < Q p) (hq : 0 < Q q) (hne : p ≠ q) (np : ¬ NoC s act p) (nq : NoC s act q) : stx (stx (s, Q, n) p) q = stx (stx (s, Q, n) q) p := by
  have ap := (h.2.2.2.2.2.2.1 p hp).1
  have aq := (h.2.2.2.2.2.2.1 q hq).1
  have hz := h.1
  obtain ⟨hb, _, _⟩ := J_noop h hp np
  obtain ⟨fp, pp⟩ := h.2.2.1 p ap
  obtain ⟨fq, pq⟩ := h.2.2.1 q aq
  have tq := J_ptn h hq
  have wq := W2_w hz fq pq tq
  have wp := (noop_e (s2 := s) h hp np (fun _ _ _ => rfl) rfl).2
  have out : ∀ {r : Nat}, LFx s Q act r → p ≠ r → ¬ (cx r).1 p := fun {r} lr hr k => by
    rcases h.2.2.2.2.2.1 p r ap lr.1 hr with z | z | z
    · exact (h.2.2.2.2.1 p r z).2.2.2.1 hb.1 k
    · exact J_anc h lr.2 z
    · exact z.1 p ⟨EF_p fp, k⟩
  have fx : ∀ {r : Nat}, LFx s Q act r → p ≠ r → ¬ FRx (cx r) 144 p := fun lr hr k => by
    rcases k with k | k | k | k
    · exact out lr hr k.2.2
    · omega
    · omega
    · have := LN_k k
      omega
  have nr : ¬ FR2 s (cx q) (cx (prx s q).toNat) q 144 p := fun k => by
    rcases k with k | ⟨c1, r1, k⟩ | ⟨_, k, _⟩
    · exact fx ⟨aq, nq⟩ hne k
    · obtain ⟨l1, z1, _⟩ := J_pt h hq c1 r1
      exact fx l1 (fun e => by rw [← e] at z1; omega) k
    · omega
  have nw : ∀ w ∈ (Wrx s q).1, ¬ (w.1 = 144 ∧ w.2.1 = p) := fun w hw e => by
    rcases wq w hw with h1 | ⟨h1, _⟩
    · rw [e.1, e.2] at h1
      refine nr ?_
      rcases h1 with h1 | ⟨c1, r1, h1⟩ | h1
      · exact .inl (FW_R (EF_k fq).2.2.1 h1)
      · exact .inr (.inl ⟨c1, r1, FW_R (EF_k (J_pt h hq c1 r1).2.2.1).2.2.1 h1⟩)
      · exact .inr (.inr h1)
    · rw [h1] at e
      exact absurd e.1 (by decide)
  refine cm0 (x := (s, Q, n)) hp hq hne ?_ ?_ ?_
  · show Wrx (apw (Wrx s p).1 s) q = Wrx s q
    rw [wp]
    refine W2_e hz fq pq tq (fun k j hk => if_neg (by omega)) (fun k j hr => if_neg (fun e => ?_))
    rw [e.1, e.2] at hr
    exact nr hr
  · show Wrx (apw (Wrx s q).1 s) p = Wrx s p
    have := noop_e (s2 := apw (Wrx s q).1 s) h hp np (W_114 wq) (apw_o _ _ _ _ nw)
    rw [this.1, this.2]
  · show ∀ w ∈ (Wrx s p).1, ∀ v ∈ (Wrx s q).1, _
    rw [wp]
    intro w hw v hv e
    simp only [List.mem_cons, List.not_mem_nil, or_false] at hw
    rw [hw] at e
    exact nw v hv ⟨e.1.symm, e.2.symm⟩
/-- the two ends of a chan -/
theorem cm_S (h : JGx s Q act cx anc) {n : Nat} (hp : 0 < Q p) (hq : 0 < Q q) (hne : p ≠ q) (np : NoC s act p) (nq : NoC s act q) (cp : CMx s p) (cq : CMx s q) (hl : s 101 p = s 101 q) (kp : s 100 p = 406) (kq : s 100 q = 407) : stx (stx (s, Q, n) p) q = stx (stx (s, Q, n) q) p := by
  have ap := (h.2.2.2.2.2.2.1 p hp).1
  have aq := (h.2.2.2.2.2.2.1 q hq).1
  obtain ⟨fp, pp⟩ := h.2.2.1 p ap
  obtain ⟨fq, pq⟩ := h.2.2.1 q aq
  obtain ⟨hp1, _, _, _, _, _, _, _, _, p7, _⟩ := EF_k fp
  obtain ⟨hq1, _, _, _, _, _, _, _, _, _, q8, _⟩ := EF_k fq
  have sp := (p7 kp).1.2.2
  have sq := (q8 kq).1.2.2
  have h0 := (p7 kp).1.1
  have h8 := cp.1
  have kq6 : ¬ s 100 q = 406 := by rw [kq]; decide
  have hw := h.2.2.2.2.2.2.2.1 (s 101 p).toNat (by omega)
  have e153 : s 153 (s 101 p).toNat = -1 := by
    have w1 := hw.2.1
    by_cases k : 0 ≤ s 153 (s 101 p).toNat
    · exfalso
      have ep : prx s p = s 153 (s 101 p).toNat := if_pos kp
      obtain ⟨l1, z1, f1, a1, b1, _⟩ := J_pt h hp cp (by rw [ep]; exact k)
      obtain ⟨_, _, _, _, _, _, _, _, _, _, r8, _⟩ := EF_k f1
      have := (r8 (b1 kp)).1.2.2
      rw [a1, hl] at this
      exact (J_nc h l1 ⟨aq, nq⟩ (fun e => by rw [e] at z1; omega)).2.2.2 _ ⟨this, sq⟩
    · omega
  have e152 : s 152 (s 101 p).toNat = -1 := by
    have w1 := hw.1.1
    by_cases k : 0 ≤ s 152 (s 101 p).toNat
    · exfalso
      have eq : prx s q = s 152 (s 101 p).toNat := by
        rw [hl]
        exact if_neg kq6
      obtain ⟨l1, z1, f1, a1, _, b1⟩ := J_pt h hq cq (by rw [eq]; exact k)
      obtain ⟨_, _, _, _, _, _, _, _, _, r7, _⟩ := EF_k f1
      have := (r7 (b1 kq)).1.2.2
      rw [a1, ← hl] at this
      exact (J_nc h l1 ⟨ap, np⟩ (fun e => by rw [e] at z1; omega)).2.2.2 _ ⟨this, sp⟩
    · omega
  obtain ⟨L, hL⟩ : ∃ L, L = (s 101 p).toNat := ⟨_, rfl⟩
  rw [← hL] at e152 e153
  have hLq : (s 101 q).toNat = L := by rw [← hl, hL]
  have Wp : Wrx s p = ([(144, p, trn s p + 1), (152, L, (p : Int))], []) := by
    rw [Wr_c fp cp]
    unfold chx prx
    rw [if_pos kp, if_pos kp, ← hL, e153, if_neg (by decide)]
    rfl
  have Wq : Wrx s q = ([(144, q, trn s q + 1), (153, L, (q : Int))], []) := by
    rw [Wr_c fq cq]
    unfold chx prx
    rw [if_neg kq6, if_neg kq6, hLq, e152, if_neg (by decide)]
    rfl
  obtain ⟨s1, hs1⟩ : ∃ s1, s1 = up2 (up2 s 144 p (trn s p + 1)) 152 L (p : Int) := ⟨_, rfl⟩
  obtain ⟨s2, hs2⟩ : ∃ s2, s2 = up2 (up2 s 144 q (trn s q + 1)) 153 L (q : Int) := ⟨_, rfl⟩
  have o1 : ∀ k j, ¬ (k = 144 ∧ j = p) → ¬ (k = 152 ∧ j = L) → s1 k j = s k j := fun k j a b => by
    rw [hs1]
    exact (if_neg b).trans (if_neg a)
  have o2 : ∀ k j, ¬ (k = 144 ∧ j = q) → ¬ (k = 153 ∧ j = L) → s2 k j = s k j := fun k j a b => by
    rw [hs2]
    exact (if_neg b).trans (if_neg a)
  have c1 : ∀ k j, 99 ≤ k ∧ k ≤ 114 → s1 k j = s k j := fun k j hk => o1 k j (by omega) (by omega)
  have c2 : ∀ k j, 99 ≤ k ∧ k ≤ 114 → s2 k j = s k j := fun k j hk => o2 k j (by omega) (by omega)
  have t1 : trn s1 q = trn s q := by
    unfold trn
    rw [o1 144 q (fun e => hne e.2.symm) (by omega)]
  have t2 : trn s2 p = trn s p := by
    unfold trn
    rw [o2 144 p (fun e => hne e.2) (by omega)]
  have cq1 : CMx s1 q := by
    unfold CMx sgu
    rw [c1 101 q (by omega), c1 100 q (by omega), c1 103 q (by omega), t1, o1 147 q (by omega) (by omega)]
    exact cq
  have cp2 : CMx s2 p := by
    unfold CMx sgu
    rw [c2 101 p (by omega), c2 100 p (by omega), c2 103 p (by omega), t2, o2 147 p (by omega) (by omega)]
    exact cp
  have vx1 : ∀ y : Int, vax s1 y = vax s y := fun y => by
    unfold vax
    rw [c1 99 12 (by omega), o1 145 _ (by omega) (by omega)]
  have vx2 : ∀ y : Int, vax s2 y = vax s y := fun y => by
    unfold vax
    rw [c2 99 12 (by omega), o2 145 _ (by omega) (by omega)]
  have hx : ∀ {s3 : tab} {v : Int}, (∀ k j, 99 ≤ k ∧ k ≤ 114 → s3 k j = s k j) → (∀ j, s3 143 j = s 143 j) → (∀ y : Int, vax s3 y = vax s y) → hox s3 (p : Int) (q : Int) v = hox s (p : Int) (q : Int) v := fun {s3 v} a b d => by
    unfold hox twx
    rw [a 99 12 (by omega), b]
  obtain ⟨H, hH⟩ : ∃ H, H = hox s (p : Int) (q : Int) (vax s (s 102 p)) := ⟨_, rfl⟩
  have Wq1 : Wrx s1 q = ((144, q, trn s q + 1) :: (H.1 ++ [(152, L, -1)]), H.2) := by
    rw [Wr_c (EF_ext c1 fq) cq1, t1]
    have e : prx s1 q = (p : Int) := by
      unfold prx
      rw [c1 100 q (by omega), c1 101 q (by omega), if_neg kq6, hLq, hs1]
      exact up_self
    unfold chx
    rw [e, c1 100 q (by omega), c1 101 q (by omega), if_neg kq6, hLq, if_pos (Int.natCast_nonneg p), Int.toNat_natCast, c1 102 p (by omega), vx1, hx c1 (fun j => o1 143 j (by omega) (by omega)) vx1, ← hH]
    unfold cax
    simp
  have Wp2 : Wrx s2 p = ((144, p, trn s p + 1) :: (H.1 ++ [(153, L, -1)]), H.2) := by
    rw [Wr_c (EF_ext c2 fp) cp2, t2]
    have e : prx s2 p = (q : Int) := by
      unfold prx
      rw [c2 100 p (by omega), c2 101 p (by omega), if_pos kp, ← hL, hs2]
      exact up_self
    unfold chx
    rw [e, c2 100 p (by omega), c2 101 p (by omega), if_pos kp, ← hL, if_pos (Int.natCast_nonneg q), c2 102 p (by omega), vx2, hx c2 (fun j => o2 143 j (by omega) (by omega)) vx2, ← hH]
    unfold cax
    simp
  have hHk : ∀ w ∈ H.1, w.1 ≠ 144 ∧ w.1 ≠ 152 ∧ w.1 ≠ 153 := fun w hw => by
    rw [hH] at hw
    unfold hox at hw
    split at hw
    · rcases List.mem_append.mp hw with e | e
      · simp only [List.mem_cons, List.not_mem_nil, or_false] at e
        rcases e with e | e <;> rw [e]
        · show (145 : Nat) ≠ 144 ∧ (145 : Nat) ≠ 152 ∧ (145 : Nat) ≠ 153
          decide
        · show (147 : Nat) ≠ 144 ∧ (147 : Nat) ≠ 152 ∧ (147 : Nat) ≠ 153
          decide
      · have tw : ∀ {a v : Int}, w ∈ (twx s a v).1 → w.1 ≠ 144 ∧ w.1 ≠ 152 ∧ w.1 ≠ 153 := fun {a v} e => by
          unfold twx at e
          split at e
          · rcases List.mem_cons.mp e with e | e
            · rw [e]
              show (145 : Nat) ≠ 144 ∧ (145 : Nat) ≠ 152 ∧ (145 : Nat) ≠ 153
              decide
            · split at e
              · simp only [List.mem_cons, List.not_mem_nil, or_false] at e
                rw [e]
                exact ⟨by decide, by decide, by decide⟩
              · cases e
          · cases e
        exact tw e
    · cases hw
  have T1 : apw (Wrx s1 q).1 s1 = apw H.1 (up2 (up2 s 144 p (trn s p + 1)) 144 q (trn s q + 1)) := by
    rw [Wq1, apw_cons, apw_app, apw_cons, apw_nil, ← apw_up H.1 _ _ _ _ (fun w hw e => (hHk w hw).2.1 e.1)]
    congr 1
    rw [hs1]
    dsimp only
    rw [up_cmx (k := 152) (k2 := 144) (by omega), up_up, up_cmx (k := 144) (k2 := 152) (by omega), up_cmx (k := 144) (k2 := 152) (by omega)]
    congr 2
    rw [← e152, up_id]
  have T2 : apw (Wrx s2 p).1 s2 = apw H.1 (up2 (up2 s 144 q (trn s q + 1)) 144 p (trn s p + 1)) := by
    rw [Wp2, apw_cons, apw_app, apw_cons, apw_nil, ← apw_up H.1 _ _ _ _ (fun w hw e => (hHk w hw).2.2 e.1)]
    congr 1
    rw [hs2]
    dsimp only
    rw [up_cmx (k := 153) (k2 := 144) (by omega), up_up, up_cmx (k := 144) (k2 := 153) (by omega), up_cmx (k := 144) (k2 := 153) (by omega)]
    congr 2
    rw [← e153, up_id]
  have f1 : s1 144 q = s 144 q := o1 144 q (fun e => hne e.2.symm) (by omega)
  have f2 : s2 144 p = s 144 p := o2 144 p (fun e => hne e.2) (by omega)
  have a1 : apw (Wrx s p).1 s = s1 := by rw [Wp, hs1]; rfl
  have a2 : apw (Wrx s q).1 s = s2 := by rw [Wq, hs2]; rfl
  unfold stx
  dsimp only
  rw [a1, a2]
  refine Prod.ext ?_ (Prod.ext ?_ ?_)
  · dsimp only
    rw [T1, T2, up_cmx (fun e => hne e.2)]
  · funext r
    dsimp only
    rw [Wp, Wq, Wq1, Wp2]
    dsimp only
    rw [List.count_nil]
    by_cases r1 : r = p
    · subst r1
      rw [if_pos rfl, if_neg hne]
      omega
    · rw [if_neg r1]
      by_cases r2 : r = q
      · subst r2
        rw [if_pos rfl]
        omega
      · rw [if_neg r2]
  · simp only [f1, f2]
    omega
/-- any two -/
theorem cm_all (h : JGx s Q act cx anc) {n : Nat} (hp : 0 < Q p) (hq : 0 < Q q) (hne : p ≠ q) : stx (stx (s, Q, n) p) q = stx (stx (s, Q, n) q) p := by
  by_cases np : NoC s act p
  · by_cases nq : NoC s act q
    · by_cases hl : CMx s p ∧ CMx s q ∧ s 101 p = s 101 q
      · obtain ⟨cp, cq, hl⟩ := hl
        have ap := (h.2.2.2.2.2.2.1 p hp).1
        have aq := (h.2.2.2.2.2.2.1 q hq).1
        obtain ⟨_, _, _, _, _, _, _, _, _, p7, p8, _⟩ := EF_k (h.2.2.1 p ap).1
        obtain ⟨_, _, _, _, _, _, _, _, _, q7, q8, _⟩ := EF_k (h.2.2.1 q aq).1
        have nc := J_nc h ⟨ap, np⟩ ⟨aq, nq⟩ hne
        rcases cp.2 with ⟨kp, _⟩ | ⟨kp, _⟩ <;> rcases cq.2 with ⟨kq, _⟩ | ⟨kq, _⟩
        · have a := (p7 kp).1.2.2
          rw [hl] at a
          exact absurd ⟨a, (q7 kq).1.2.2⟩ (nc.2.2.2 _)
        · exact cm_S h hp hq hne np nq cp cq hl kp kq
        · exact (cm_S h hq hp (fun e => hne e.symm) nq np cq cp hl.symm kq kp).symm
        · have a := (p8 kp).1.2.2
          rw [hl] at a
          exact absurd ⟨a, (q8 kq).1.2.2⟩ (nc.2.2.2 _)
      · exact cm_A h hp hq hne np nq hl
    · exact (cm_B h hq hp (fun e => hne e.symm) nq np).symm
  · by_cases nq : NoC s act q
    · exact cm_B h hp hq hne np nq
    · exact cm_BB h hp hq hne np nq
end COMM2
