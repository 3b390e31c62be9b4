/-! Rows of branches. -/
section BRS
variable {s t s2 t2 : tab} {G : Gmx} {b l k1 : Nat} {c d e : Cxx}
def UNx (c d : Cxx) : Cxx := ((fun z => c.1 z ∨ d.1 z), (fun v => c.2.1 v ∨ d.2.1 v), (fun v => c.2.2.1 v ∨ d.2.2.1 v), fun k => c.2.2.2 k ∨ d.2.2.2 k)
def NOc : Cxx := ((fun _ => False), (fun _ => False), (fun _ => False), fun _ => False)
theorem UN_l : SBx c (UNx c d) := ⟨fun _ q => .inl q, fun _ q => .inl q, fun _ q => .inl q, fun _ q => .inl q⟩
theorem UN_r : SBx d (UNx c d) := ⟨fun _ q => .inr q, fun _ q => .inr q, fun _ q => .inr q, fun _ q => .inr q⟩
theorem UN_lub (h : SBx c e) (k : SBx d e) : SBx (UNx c d) e := ⟨fun x q => q.elim (h.1 x) (k.1 x), fun x q => q.elim (h.2.1 x) (k.2.1 x), fun x q => q.elim (h.2.2.1 x) (k.2.2.1 x), fun x q => q.elim (h.2.2.2 x) (k.2.2.2 x)⟩
theorem NC_sb {c2 d2 : Cxx} (h : NCx c d) (hc : SBx c2 c) (hd : SBx d2 d) : NCx c2 d2 := ⟨fun x q => h.1 x ⟨hc.1 x q.1, hd.1 x q.2⟩, fun x q => h.2.1 x ⟨hc.2.2.1 x q.1, hd.2.1 x q.2⟩, fun x q => h.2.2.1 x ⟨hc.2.1 x q.1, hd.2.2.1 x q.2⟩, fun x q => h.2.2.2 x ⟨hc.2.2.2 x q.1, hd.2.2.2 x q.2⟩⟩
theorem UN_nc (h : NCx c d) (k : NCx c e) : NCx c (UNx d e) := ⟨fun x q => q.2.elim (fun w => h.1 x ⟨q.1, w⟩) (fun w => k.1 x ⟨q.1, w⟩), fun x q => q.2.elim (fun w => h.2.1 x ⟨q.1, w⟩) (fun w => k.2.1 x ⟨q.1, w⟩), fun x q => q.2.elim (fun w => h.2.2.1 x ⟨q.1, w⟩) (fun w => k.2.2.1 x ⟨q.1, w⟩), fun x q => q.2.elim (fun w => h.2.2.2 x ⟨q.1, w⟩) (fun w => k.2.2.2 x ⟨q.1, w⟩)⟩
theorem NO_nc : NCx c NOc := ⟨fun _ q => q.2, fun _ q => q.2, fun _ q => q.2, fun _ q => q.2⟩
theorem NO_sb : SBx NOc c := ⟨fun _ q => q.elim, fun _ q => q.elim, fun _ q => q.elim, fun _ q => q.elim⟩
theorem ROW4_s {y : Int} {b2 m k2 : Nat} : ∀ (n a : Nat) (x : Int) (f k0 q : Nat) (c : Cxx), CO s t G 4 n a b x f l k0 k1 q c → CO s t G 1 0 b b2 y l m k1 k2 0 d → t 178 m = 20 → t 178 (q + n) = (l : Int) → NCx c d → (∀ z, d.1 z → z < b2) → s 104 y.toNat = -1 → CO (if 0 < n then up2 s 104 (b - 1) y else s) t G 4 (n + 1) a b2 (if 0 < n then x else y) f (m + 1) k0 k2 q (UNx c d) := by
  intro n
  induction n with
  | zero =>
    intro a x f k0 q c h hy hm hq hn hd hl
    rcases ROW_x h (.inr (.inr rfl)) with ⟨_, e1, e2, e3, e4⟩ | u
    · subst e1
      subst e2
      subst e4
      rw [if_neg (by omega), if_neg (by omega)]
      refine CO_mk (.inr (.inr (.inr (.inr (.inr (.inl ⟨rfl, 0, b2, m, k2, d, NOc, rfl, hy, hm, hq, ?_, UN_r, NO_sb, NO_nc, hd⟩))))))
      rw [hl]
      exact ROW0 (.inr (.inr rfl))
    · omega
  | succ n ih =>
    intro a x f k0 q c h hy hm hq hn hd hl
    rw [if_pos (by omega), if_pos (by omega)]
    have yb := (CO_rt hy (by omega)).1
    have yl := (CO_le hy).2.2 (by omega)
    have key : ∀ {b1 m k9 k8 : Nat} {x2 : Int} {c1 : Cxx}, b1 ≤ b → CO s t G 1 0 a b1 x2 f m k9 k8 0 c1 → CO (up2 s 104 (b - 1) y) t G 1 0 a b1 x2 f m k9 k8 0 c1 := fun hb1 w => by
      have := (CO_le w).2.2 (by omega)
      exact CO_ext w ⟨fun k j w1 w2 w3 w4 => if_neg (by omega), fun j w1 w2 w3 => if_neg (by have := w3 (by omega); omega), fun _ _ _ => rfl, fun w => absurd w (by omega), by rw [show (up2 s 104 (b - 1) y) 99 12 = s 99 12 from if_neg (by omega)]; exact Int.le_refl _, fun r _ => if_neg (by omega)⟩
    rcases CO_un h with u | u | u | u | u | ⟨h1, n1, b1, mm, kk, c1, c2, h2, h3, h4, h5, h6, h7, h8, h9, h10⟩ | u
    · exact absurd u.1 (by omega)
    · exact absurd u.1 (by omega)
    · exact absurd u.2.1 (by omega)
    · exact absurd u.1 (by omega)
    · exact absurd u.1 (by omega)
    · have e1 : n1 = n := by omega
      subst e1
      have r1 := (CO_rt h3 (by omega)).1
      have l1 := (CO_le h6).1
      have l0 := (CO_le h3).2.2 (by omega)
      have := ih b1 _ (mm + 1) kk (q + 1) c2 h6 hy hm (by rw [show q + 1 + n1 = q + (n1 + 1) by omega]; exact hq) (NC_sb hn h8 SB_rf) hd hl
      refine CO_mk (.inr (.inr (.inr (.inr (.inr (.inl ⟨rfl, n1 + 1, b1, mm, kk, c1, UNx c2 d, rfl, key l1 h3, h4, h5, ?_, SB_tr h7 UN_l, UN_lub (SB_tr h8 UN_l) UN_r, UN_nc h9 (NC_sb hn h7 SB_rf), fun z w => by have := h10 z w; omega⟩))))))
      rcases ROW_x h6 (.inr (.inr rfl)) with ⟨v1, v2, v3, v4, _⟩ | ⟨v1, v2, v3⟩
      · subst v1
        rw [if_neg (by omega), if_neg (by omega)] at this
        have e7 : (up2 s 104 (b - 1) y) 104 x.toNat = y := by
          rw [show b - 1 = x.toNat by omega]
          exact up_self
        rw [e7]
        exact CO_ext this ⟨fun k j w1 w2 w3 w4 => if_neg (by omega), fun j w1 w2 w3 => if_neg (by omega), fun _ _ _ => rfl, fun _ _ _ _ => rfl, by rw [show (up2 s 104 (b - 1) y) 99 12 = s 99 12 from if_neg (by omega)]; exact Int.le_refl _, fun r _ => if_neg (by omega)⟩
      · rw [if_pos v1, if_pos v1] at this
        rw [show (up2 s 104 (b - 1) y) 104 x.toNat = s 104 x.toNat from if_neg (by omega)]
        exact this
    · exact absurd u.1 (by omega)
theorem la_mbt {a b : Int} (h : la a b = 0) {v : Nat} : ¬ (mbt a v ∧ mbt b v) := by
  intro q
  unfold mbt at q
  have h2 := congrArg Int64.toBitVec ((l64_0 _).mp h)
  rw [Int64.toBitVec_and] at h2
  have h3 : ((Int64.ofInt a).toBitVec &&& (Int64.ofInt b).toBitVec).getLsbD v = (0#64).getLsbD v := by rw [h2]; rfl
  rw [BitVec.getLsbD_and, q.1, q.2, BitVec.getLsbD_zero] at h3
  cases h3
/-- what the branches before may touch -/
def CAc (G : Gmx) (a : Nat) (h A U S R K : Int) : Cxx := cxm (fun z => (a ≤ z ∧ (z : Int) < h) ∨ ∃ r, mbt K r ∧ ownx G r z) A U S R K
/-- branches that do not clash -/
theorem NC_m {g : Gtt} {a : Nat} {h A U S R K : Int} (hs : G = g.2.2.2.1) (hB : g.2.2.2.2.1 ≤ a) (hh : h ≤ ((g.2.2.2.2.1 + g.2.2.2.2.2 : Nat) : Int)) (hk : ∀ k, mbt K k → ∀ z, ownx G k z → z < g.2.2.2.2.1) (hk2 : ∀ k, mbt (t 170 26) k → ∀ z, ownx G k z → z < g.2.2.2.2.1) (hc : la A (lo (t 170 23) (t 170 22)) = 0 ∧ la (t 170 22) (lo U A) = 0 ∧ la S (t 170 24) = 0 ∧ la R (t 170 25) = 0 ∧ la K (t 170 26) = 0) : NCx (CAc G a h A U S R K) (cxt g s t) := by
  obtain ⟨c1, c2, c3, c4, c5⟩ := hc
  subst hs
  refine ⟨fun z q => ?_, fun v q => ?_, fun v q => ?_, fun k q => ?_⟩
  · obtain ⟨q1, q2⟩ := q
    rcases q1 with ⟨q3, q4⟩ | ⟨r, q3, q4⟩
    · rcases q2 with ⟨q5, q6⟩ | ⟨r, q5, q6⟩
      · omega
      · have := hk2 r q5 z q6
        omega
    · have h1 := hk r q3 z q4
      rcases q2 with ⟨q5, q6⟩ | ⟨r2, q5, q6⟩
      · omega
      · have := own_in1 q4 q6
        subst this
        exact la_mbt c5 ⟨q3, q5⟩
  · exact la_mbt c1 ⟨q.1, mbt_lo.mpr q.2⟩
  · exact la_mbt c2 ⟨q.2, mbt_lo.mpr q.1⟩
  · obtain ⟨q1, q2⟩ := q
    rcases q1 with ⟨p1, p2⟩ | ⟨p1, p2, p3⟩ | ⟨p1, p2⟩
    · rcases q2 with ⟨r1, r2⟩ | ⟨r1, r2, r3⟩ | ⟨r1, r2⟩
      · exact la_mbt c3 ⟨p2, r2⟩
      · omega
      · omega
    · rcases q2 with ⟨r1, r2⟩ | ⟨r1, r2, r3⟩ | ⟨r1, r2⟩
      · omega
      · exact la_mbt c4 ⟨p3, r3⟩
      · omega
    · rcases q2 with ⟨r1, r2⟩ | ⟨r1, r2, r3⟩ | ⟨r1, r2⟩
      · omega
      · omega
      · exact la_mbt c5 ⟨p2, r2⟩
/-- one more branch is taken in -/
theorem CA_un {g : Gtt} {a : Nat} {h A U S R K : Int} (hs : G = g.2.2.2.1) (ha : (a : Int) ≤ ((g.2.2.2.2.1 + g.2.2.2.2.2 : Nat) : Int)) (hh : h ≤ s 99 12) : SBx (UNx (CAc G a h A U S R K) (cxt g s t)) (CAc G a (s 99 12) (lo A (t 170 22)) (lo U (t 170 23)) (lo S (t 170 24)) (lo R (t 170 25)) (lo K (t 170 26))) := by
  subst hs
  refine UN_lub ⟨fun z q => ?_, fun v q => ?_, fun v q => ?_, fun k q => ?_⟩ ⟨fun z q => ?_, fun v q => ?_, fun v q => ?_, fun k q => ?_⟩
  · rcases q with ⟨q3, q4⟩ | ⟨r, q3, q4⟩
    · exact .inl ⟨q3, by omega⟩
    · exact .inr ⟨r, mbt_lo.mpr (.inl q3), q4⟩
  · exact q.imp (fun w => mbt_lo.mpr (.inl w)) (fun w => mbt_lo.mpr (.inl w))
  · exact mbt_lo.mpr (.inl q)
  · rcases q with ⟨p1, p2⟩ | ⟨p1, p2, p3⟩ | ⟨p1, p2⟩
    · exact .inl ⟨p1, mbt_lo.mpr (.inl p2)⟩
    · exact .inr (.inl ⟨p1, p2, mbt_lo.mpr (.inl p3)⟩)
    · exact .inr (.inr ⟨p1, mbt_lo.mpr (.inl p2)⟩)
  · rcases q with ⟨q3, q4⟩ | ⟨r, q3, q4⟩
    · exact .inl ⟨by omega, q4⟩
    · exact .inr ⟨r, mbt_lo.mpr (.inr q3), q4⟩
  · exact q.imp (fun w => mbt_lo.mpr (.inr w)) (fun w => mbt_lo.mpr (.inr w))
  · exact mbt_lo.mpr (.inr q)
  · rcases q with ⟨p1, p2⟩ | ⟨p1, p2, p3⟩ | ⟨p1, p2⟩
    · exact .inl ⟨p1, mbt_lo.mpr (.inr p2)⟩
    · exact .inr (.inl ⟨p1, p2, mbt_lo.mpr (.inr p3)⟩)
    · exact .inr (.inr ⟨p1, mbt_lo.mpr (.inr p2)⟩)
theorem CA_au {a : Nat} {h A U S R K : Int} : AUx (CAc G a h A U S R K) := fun _ q => .inr q
/-- all of them are in reach of the par -/
theorem CA_sb {g : Gtt} {a : Nat} {h A U S R K : Int} (hs : G = g.2.2.2.1) (ha : ((g.2.2.2.2.1 + g.2.2.2.2.2 : Nat) : Int) ≤ (a : Int)) (hh : h ≤ s 99 12) (hm : (∀ v, mbt A v → mbt (t 170 22) v) ∧ (∀ v, mbt U v → mbt (t 170 23) v) ∧ (∀ v, mbt S v → mbt (t 170 24) v) ∧ (∀ v, mbt R v → mbt (t 170 25) v) ∧ ∀ v, mbt K v → mbt (t 170 26) v) : SBx (CAc G a h A U S R K) (cxt g s t) := by
  subst hs
  obtain ⟨m1, m2, m3, m4, m5⟩ := hm
  refine ⟨fun z q => ?_, fun v q => q.imp (m2 v) (m1 v), fun v q => m1 v q, fun k q => ?_⟩
  · rcases q with ⟨q3, q4⟩ | ⟨r, q3, q4⟩
    · exact .inl ⟨by omega, by omega⟩
    · exact .inr ⟨r, m5 r q3, q4⟩
  · rcases q with ⟨p1, p2⟩ | ⟨p1, p2, p3⟩ | ⟨p1, p2⟩
    · exact .inl ⟨p1, m3 _ p2⟩
    · exact .inr (.inl ⟨p1, p2, m4 _ p3⟩)
    · exact .inr (.inr ⟨p1, m5 _ p2⟩)
/-- as PFx, but masks may start anew -/
def PQx (s t s2 t2 : tab) : Prop := (s 99 12 ≤ s2 99 12 ∧ ∀ k j : Nat, 100 ≤ k → k ≤ 104 → (j : Int) < s 99 12 → s2 k j = s k j) ∧ (t 177 1 ≤ t2 177 1 ∧ ∀ j : Nat, (j : Int) < t 177 1 → t2 178 j = t 178 j) ∧ t 177 10 ≤ t2 177 10 ∧ (t2 170 21 = -1 → t 170 21 = -1) ∧ ∀ r, s2 113 r = s 113 r
theorem PQ_F (h : PFx s t s2 t2) : PQx s t s2 t2 := ⟨h.1, h.2.1, h.2.2.1, h.2.2.2.2.1, h.2.2.2.2.2⟩
theorem PQ_tr {s3 t3 : tab} (h : PQx s t s2 t2) (k : PQx s2 t2 s3 t3) : PQx s t s3 t3 := by
  obtain ⟨⟨a1, a2⟩, ⟨a3, a4⟩, a5, a7, a8⟩ := h
  obtain ⟨⟨b1, b2⟩, ⟨b3, b4⟩, b5, b7, b8⟩ := k
  exact ⟨⟨by omega, fun k j q1 q2 q3 => (b2 k j q1 q2 (by omega)).trans (a2 k j q1 q2 q3)⟩, ⟨by omega, fun j q => (b4 j (by omega)).trans (a4 j q)⟩, by omega, fun q => a7 (b7 q), fun r => (b8 r).trans (a8 r)⟩
theorem PQ_pat {s0 t0 : tab} (h : PQx s0 t0 s t) (h0 : 0 ≤ t0 177 1) (he : ∀ k j, ¬ (k = 178 ∧ (t0 177 1).toNat ≤ j) → ¬ (k = 170 ∧ 22 ≤ j ∧ j ≤ 26) → t2 k j = t k j) : PQx s0 t0 s t2 := by
  obtain ⟨a1, ⟨a2, a3⟩, a4, a6, a7⟩ := h
  refine ⟨a1, ⟨by rw [he 177 1 (by omega) (by omega)]; exact a2, fun j q => (he 178 j (by omega) (by omega)).trans (a3 j q)⟩, by rw [he 177 10 (by omega) (by omega)]; exact a4, fun q => a6 (by rw [← he 170 21 (by omega) (by omega)]; exact q), a7⟩
theorem CO_pq {md m a b f l k0 k1 q : Nat} {x : Int} (h : CO s t G md m a b x f l k0 k1 q c) (hb : (b : Int) ≤ s 99 12) (hl : (l : Int) ≤ t 177 1) (hq : md = 4 → ((q + m : Nat) : Int) ≤ t 177 1) (hp : PQx s t s2 t2) : CO s2 t2 G md m a b x f l k0 k1 q c := by
  obtain ⟨⟨a1, a2⟩, ⟨a3, a4⟩, a5, a7, a8⟩ := hp
  exact CO_ext h ⟨fun k j q1 q2 q3 q4 => a2 k j (by omega) (by omega) (by omega), fun j q1 q2 q3 => a2 104 j (by omega) (by omega) (by omega), fun i q1 q2 => a4 i (by omega), fun w i q1 q2 => a4 i (by have := hq w; omega), a1, fun r _ => a8 r⟩
/-- code is mended elsewhere: rows of branches too -/
theorem CO_pat4 {md m a b f l k0 k1 q : Nat} {x : Int} (h : CO s t G md m a b x f l k0 k1 q c) (he : ∀ i, f ≤ i → i < l → t2 178 i = t 178 i) (hq : ∀ i, q ≤ i → i < q + m → t2 178 i = t 178 i) : CO s t2 G md m a b x f l k0 k1 q c := CO_ext h ⟨fun _ _ _ _ _ _ => rfl, fun _ _ _ _ => rfl, he, fun _ => hq, Int.le_refl _, fun _ _ => rfl⟩
end BRS
