/-! While a routine is read, and when it is known. -/
section KNOWN
variable {s t s2 t2 : tab}
/-- while routine q is read: proc (y1 ≠ 0) or fun -/
def GPy (H : Gmx × (Nat → Nat)) (q : Nat) (y1 : Int) (s t : tab) : Prop := (0 ≤ s 99 12 ∧ s 99 12 ≤ s 137 5 ∧ 0 ≤ t 177 1 ∧ t 177 1 + 24 ≤ 12 * s 137 5 ∧ 0 ≤ t 177 10 ∧ t 177 10 ≤ s 137 5) ∧ (∀ j : Nat, (j : Int) < s 105 3 → (s 107 j = 6 → (s 108 j = (q : Int) ∧ y1 = 0) ∨ (s 108 j ≠ (q : Int) ∧ H.1.2.2 (s 108 j).toNat)) ∧ (s 107 j = 5 → (s 108 j = (q : Int) ∧ y1 ≠ 0) ∨ (s 108 j ≠ (q : Int) ∧ ¬ H.1.2.2 (s 108 j).toNat))) ∧ (∀ r, r < q → RVx H.1 (s 99 12).toNat s t r ∧ RTB H s t r ∧ H.2 r ≤ H.2 (r + 1)) ∧ (H.2 q = (t 177 10).toNat ∧ H.2 (1000 + q) ≤ (s 99 12).toNat) ∧ s 109 5 = (q : Int) + 1
theorem RTB_fr {H : Gmx × (Nat → Nat)} {r : Nat} (h : RTB H s t r) (hv : ∀ k, (H.1.2.1 r).2.2.2 (24 + k) → s2 113 k = s 113 k) (h12 : s 99 12 ≤ s2 99 12) (hp : ∀ k j : Nat, 100 ≤ k → k ≤ 104 → (j : Int) < s 99 12 → s2 k j = s k j) (h114 : s2 114 r = s 114 r) (ht1 : t 177 1 ≤ t2 177 1) (hc : ∀ i : Nat, (i : Int) < t 177 1 → t2 178 i = t 178 i) (h200 : t2 200 r = t 200 r) (h21 : t2 170 21 = -1 → t 170 21 = -1) : RTB H s2 t2 r := by
  intro q
  obtain ⟨n, a, b, l, w1, w2, w3, w4, w5, w6, w7⟩ := h (h21 q)
  have e : ∀ {md n : Nat} {x : Int} {f k0 k1 : Nat}, CO s t H.1 md n a b x f l k0 k1 0 (H.1.2.1 r) → md ≠ 4 → CO s2 t2 H.1 md n a b x f l k0 k1 0 (H.1.2.1 r) := fun w hm => CO_ext w ⟨fun k j q1 q2 q3 q4 => hp k j (by omega) (by omega) (by omega), fun j q3 q4 _ => hp 104 j (by omega) (by omega) (by omega), fun i q1 q2 => hc i (by omega), fun q => absurd q hm, h12, hv⟩
  refine ⟨n, a, b, l, fun q => ?_, fun q => ?_, by rw [hc l w5]; exact w3, by omega, by omega, by rw [h114]; exact w6, by rw [h200]; exact w7⟩
  · rw [h114, h200]
    exact e (w1 q) (by omega)
  · rw [h114, h200]
    have rt := (CO_rt (w2 q).1 (by omega))
    exact ⟨e (w2 q).1 (by omega), (hp 104 _ (by omega) (by omega) (by omega)).trans (w2 q).2⟩
/-- routines that a known one calls are no later ones -/
theorem RV_ca {G : Gmx} {a0 r : Nat} (h : RVx G a0 s t r) : ∀ k, (G.2.1 r).2.2.2 (24 + k) → k ≤ r := fun k q => by
  obtain ⟨_, _, ⟨P, hP⟩, _, h5, _⟩ := h
  rw [hP] at q
  rcases q with ⟨q, _⟩ | ⟨_, q, _⟩ | ⟨_, q⟩
  · omega
  · omega
  · rw [show 24 + k - 24 = k by omega] at q
    exact (h5 k q).1
theorem GP_fr {H : Gmx × (Nat → Nat)} {q : Nat} {y1 : Int} (h : GPy H q y1 s t) (hs : ∀ k j, (k = 99 ∧ j = 12 ∨ 100 ≤ k ∧ k ≤ 104 ∨ 112 ≤ k ∧ k ≤ 114) → s2 k j = s k j) (h5 : s 137 5 ≤ s2 137 5) (h109 : s2 109 5 = s 109 5) (hn : ∀ j : Nat, (j : Int) < s2 105 3 → s2 107 j = 6 ∨ s2 107 j = 5 → (j : Int) < s 105 3 ∧ s2 107 j = s 107 j ∧ s2 108 j = s 108 j) (ht : ∀ k j, (k = 177 ∧ (j = 1 ∨ j = 10) ∨ k = 178 ∨ 195 ≤ k ∧ k ≤ 200 ∨ k = 202 ∨ k = 170 ∧ j = 21) → t2 k j = t k j) (hbn : s 109 0 ≤ s2 109 0 ∧ s 109 1 ≤ s2 109 1) : GPy H q y1 s2 t2 := by
  obtain ⟨⟨a1, a2, a3, a4, a5, a6⟩, b, c, d, e⟩ := h
  have s12 := hs 99 12 (by omega)
  have t1 := ht 177 1 (by omega)
  have t10 := ht 177 10 (by omega)
  refine ⟨⟨by omega, by omega, by omega, by omega, by omega, by omega⟩, fun j hj => ⟨fun q => ?_, fun q => ?_⟩, fun r hr => ?_, by rw [t10, s12]; exact d, by rw [h109]; exact e⟩
  · obtain ⟨z1, z2, z3⟩ := hn j hj (.inl q)
    rw [z3]
    exact (b j z1).1 (by rw [← z2]; exact q)
  · obtain ⟨z1, z2, z3⟩ := hn j hj (.inr q)
    rw [z3]
    exact (b j z1).2 (by rw [← z2]; exact q)
  · obtain ⟨v, w, m⟩ := c r hr
    refine ⟨?_, RTB_fr w (fun k _ => hs 113 k (by omega)) (by omega) (fun k j q1 q2 _ => hs k j (by omega)) (hs 114 r (by omega)) (by omega) (fun i _ => ht 178 i (by omega)) (ht 200 r (by omega)) (fun q => by rw [ht 170 21 (by omega)] at q; exact q), m⟩
    rw [s12]
    exact RV_mv v rfl (fun _ _ => rfl) (Nat.le_refl _) (fun k q => hs k r (by omega)) (fun k q1 q2 q3 => ht k r (by omega)) hbn (fun q => q)
/-- ghosts while a routine's body is read: its own parts are not yet known -/
def gRt (H : Gmx × (Nat → Nat)) (q : Nat) (y1 : Int) (s t : tab) : Gtt := (0, 0, 0, upG H.1 q (t 177 1) (cxm (fun z => z = (s 99 12).toNat) 0 0 0 0 0) (y1 = 0), (s 99 12).toNat, 0)
/-- a routine's body was read: it is known -/
theorem GD_new {H : Gmx × (Nat → Nat)} {q md m : Nat} {y1 O root : Int} {s' t' s5 t5 s9 t9 : tab} (hP : GPy H q y1 s t) (hs' : ∀ k j, (k = 99 ∧ j = 12 ∨ 100 ≤ k ∧ k ≤ 104 ∨ k = 114 ∨ k = 113 ∧ j ≠ q ∨ k = 109) → s' k j = s k j) (ht' : ∀ k j, (k = 177 ∧ (j = 1 ∨ j = 10) ∨ k = 178 ∨ k = 200 ∧ j ≠ q ∨ k = 170 ∧ j = 21) → t' k j = t k j) (h200 : t' 200 q = t 177 1) (hI : IVx (gRt H q y1 s t) s5 t5) (h13 : s5 131 13 = (q : Int)) (pf : PFx s' t' s5 t5) (fb : FBx s' t' s5 t5) (co : t5 170 21 = -1 → CO s5 t5 (gRt H q y1 s t).2.2.2.1 md m (s' 99 12).toNat (s5 99 12).toNat root (t' 177 1).toNat (t5 177 1).toNat (t' 177 10).toNat (t5 177 10).toNat 0 (cxt (gRt H q y1 s t) s5 t5)) (hmd : (y1 = 0 ∧ md = 5) ∨ (y1 ≠ 0 ∧ md = 1 ∧ m = 0)) (h104 : md = 1 → s5 104 root.toNat = -1) (p0 : s5 131 6 = 0) (n1 : t5 177 1 + 1 ≤ 12 * s5 137 5) (so : ∀ k j, (k = 99 ∧ j = 12 ∨ 100 ≤ k ∧ k ≤ 104 ∨ 107 ≤ k ∧ k ≤ 113 ∨ k = 114 ∧ j ≠ q ∨ k = 137 ∧ j = 5) → s9 k j = s5 k j) (s114 : s9 114 q = root) (hroot : 0 ≤ root) (s3 : s9 105 3 ≤ s5 105 3) (tg : ∀ k j, (k = 177 ∧ j = 10 ∨ k = 178 ∧ j < (t5 177 1).toNat ∨ 195 ≤ k ∧ k ≤ 199 ∧ j ≠ q ∨ k = 200 ∨ k = 202 ∨ k = 170 ∧ j = 21) → t9 k j = t5 k j) (t91 : t9 177 1 = t5 177 1 + 1) (tb : t9 178 (t5 177 1).toNat = 12) (e195 : t9 195 q = O) (e196 : t9 196 q = t5 170 23) (e197 : t9 197 q = t5 170 24) (e198 : t9 198 q = t5 170 25) (e199 : t9 199 q = lo (t5 170 26) (lsl 1 (q : Int))) (q12 : q < 12) (hO : ∀ v, mbt (t5 170 22) v → mbt O v) (hp4 : 0 ≤ s5 112 q ∧ s5 112 q ≤ 4 ∧ 0 ≤ s5 113 q ∧ s5 113 q + s5 112 q ≤ 24) (hOp : ∀ i : Nat, (i : Int) < s5 112 q → mbt O ((s5 113 q).toNat + i)) (h202 : t5 202 q = s5 113 q) (hOb : ∀ v : Nat, mbt O v → mbt (t5 170 22) v ∨ (s5 113 q ≤ (v : Int) ∧ (v : Int) < s5 113 q + s5 112 q)) (h37 : y1 = 0 → t5 170 37 ≠ 0) : ∃ H2, GDy H2 s9 t9 := by
  obtain ⟨⟨a1, a2, a3, a4, a5, a6⟩, bn, c, d, e⟩ := hP
  obtain ⟨⟨u1, u2, u3, u4, u5, u6, u7⟩, v2, v3, v4⟩ := hI
  obtain ⟨B, hB⟩ : ∃ B, B = (s 99 12).toNat := ⟨_, rfl⟩
  have hg4 : (gRt H q y1 s t).2.2.2.1 = upG H.1 q (t 177 1) (cxm (fun z => z = B) 0 0 0 0 0) (y1 = 0) := by rw [hB]; rfl
  have hg5 : (gRt H q y1 s t).2.2.2.2.1 = B := by rw [hB]; rfl
  obtain ⟨G0, hG0⟩ : ∃ G0, G0 = upG H.1 q (t 177 1) (cxm (fun z => z = B) 0 0 0 0 0) (y1 = 0) := ⟨_, rfl⟩
  rw [← hG0] at hg4
  have s12 := hs' 99 12 (by omega)
  have t1' := ht' 177 1 (by omega)
  have t10' := ht' 177 10 (by omega)
  have pf1 := pf.1.1
  have pf2 := pf.2.1.1
  have pf3 := pf.2.2.1
  have s9125 := so 99 12 (by omega)
  have n95 : s5 109 5 = (q : Int) + 1 := by rw [fb.2.1, hs' 109 5 (by omega)]; exact e
  have g0o : ∀ j, j ≠ q → G0.1 j = H.1.1 j ∧ G0.2.1 j = H.1.2.1 j ∧ (G0.2.2 j ↔ H.1.2.2 j) := fun j hj => by rw [hG0]; exact upG_o hj
  have hKN : ∀ k, mbt (t5 170 26) k → k < q ∧ ∀ z, ownx G0 k z → z < B := fun k hk => by
    obtain ⟨w1, w2⟩ := v2.1.1 k hk
    rw [hg4, hg5] at w2
    refine ⟨?_, w2⟩
    by_cases ek : k = q
    · exfalso
      subst ek
      have ho : ownx G0 k B := by
        refine ⟨by rw [hG0, upG_s.2.1]; exact rfl, fun j hj w => ?_⟩
        rw [(g0o j (by omega)).2.1] at w
        have := ((c j hj).1.2.2.2.2.2.1 B w).1
        omega
      have := w2 B ho
      omega
    · omega
  obtain ⟨C, hC⟩ : ∃ C : Cxx, C = cxm (fun z => (B ≤ z ∧ (z : Int) < s5 99 12) ∨ ∃ r, mbt (t5 170 26) r ∧ ownx G0 r z) O (t5 170 23) (t5 170 24) (t5 170 25) (lo (t5 170 26) (lsl 1 (q : Int))) := ⟨_, rfl⟩
  obtain ⟨G2, hG2⟩ : ∃ G2, G2 = upG H.1 q (t 177 1) C (y1 = 0) := ⟨_, rfl⟩
  have g2o : ∀ j, j ≠ q → G2.1 j = G0.1 j ∧ G2.2.1 j = G0.2.1 j ∧ (G2.2.2 j ↔ G0.2.2 j) := fun j hj => by
    obtain ⟨z1, z2, z3⟩ := g0o j hj
    rw [z1, z2, hG2]
    obtain ⟨y1, y2, y3⟩ := upG_o (G := H.1) (e := t 177 1) (c := C) (p := y1 = 0) hj
    exact ⟨y1, y2, y3.trans z3.symm⟩
  have g2q : G2.1 q = t 177 1 ∧ G2.2.1 q = C ∧ (G2.2.2 q ↔ y1 = 0) := by rw [hG2]; exact upG_s
  have g2f : ∀ j, G2.2.2 j ↔ G0.2.2 j := fun j => by
    by_cases ej : j = q
    · rw [ej, g2q.2.2, hG0]
      exact upG_s.2.2.symm
    · exact (g2o j ej).2.2
  have ow : ∀ k z, k < q → (ownx G2 k z ↔ ownx G0 k z) := fun k z hk => own_o (fun j hj => (g2o j (by omega)).2.1)
  have h9q : t9 200 q = t 177 1 := by rw [tg 200 q (by omega), (fb.2.2 q).2.1]; exact h200
  refine ⟨(G2, fun r => if r ≤ q then H.2 r else if r < 1000 then (t9 177 10).toNat else if r ≤ 1000 + q then H.2 r else (s9 99 12).toNat), ⟨by omega, by have := so 137 5 (by omega); omega, by omega, by have := so 137 5 (by omega); omega, by rw [tg 177 10 (by omega)]; exact u5, by rw [tg 177 10 (by omega), so 137 5 (by omega)]; exact u6⟩, fun j hj => ?_, fun r hr => ?_, ?_⟩
  · obtain ⟨w1, w2⟩ := v3 j (by omega)
    rw [hg4] at w1 w2
    rw [so 107 j (by omega), so 108 j (by omega)]
    exact ⟨fun z => (g2f _).mpr (w1 z), fun z z2 => w2 z ((g2f _).mp z2)⟩
  · rw [so 109 5 (by omega), n95] at hr
    by_cases er : r = q
    · subst er
      refine ⟨?_, fun q21 => ?_, ?_⟩
      · show RVx G2 (s9 99 12).toNat s9 t9 r
        unfold RVx
        rw [g2q.1, g2q.2.1, h9q, tg 202 r (by omega), so 113 r (by omega), so 112 r (by omega), e195, e196, e197, e198, e199]
        refine ⟨rfl, h202, ⟨_, hC⟩, mbt_lo.mpr (.inr ((mbt_l (by omega)).mpr rfl)), fun k hk => ?_, fun z hz => ?_, hp4.2.2.1, hp4.1, hp4.2.1, hp4.2.2.2, fun i hi => by rw [hC]; exact hOp i hi, fun v hv => ?_, fun hy v => v2.1.2.2 (h37 (g2q.2.2.mp hy)) v⟩
        · rcases mbt_lo.mp hk with hk | hk
          · obtain ⟨w1, w2⟩ := hKN k hk
            exact ⟨by omega, fun z w => by have := w2 z ((ow k z w1).mp w); omega⟩
          · have ek := (mbt_l (by omega)).mp hk
            have ek : k = r := by omega
            subst ek
            refine ⟨Nat.le_refl _, fun z w => ?_⟩
            have w1 := w.1
            rw [g2q.2.1, hC] at w1
            rcases w1 with w1 | ⟨r2, w1, w2⟩
            · omega
            · have := (hKN r2 w1).2 z w2
              omega
        · have hz' := hz
          rw [hC] at hz
          rcases hz with hz | ⟨r2, w1, w2⟩
          · refine ⟨by omega, r, mbt_lo.mpr (.inr ((mbt_l (by omega)).mpr rfl)), by rw [g2q.2.1]; exact hz', fun j hj w => ?_⟩
            rw [(g2o j (by omega)).2.1, (g0o j (by omega)).2.1] at w
            have := ((c j hj).1.2.2.2.2.2.1 z w).1
            omega
          · have := hKN r2 w1
            have h3 := this.2 z w2
            exact ⟨by omega, r2, mbt_lo.mpr (.inl w1), (ow r2 z this.1).mpr w2⟩
        · have e0 := so 109 0 (by omega)
          have e1 := so 109 1 (by omega)
          have old : ∀ w, mbt (t5 170 22) w ∨ mbt (t5 170 23) w → bnd s9 w := fun w q => bnd_m (Int.le_of_eq e0.symm) (Int.le_of_eq e1.symm) (v2.1.2.1 w q)
          rcases hv with hv | hv
          · rcases hOb v hv with hv | hv
            · exact old v (.inl hv)
            · have := v2.2 (by rw [h13]; omega)
              rw [h13, Int.toNat_natCast] at this
              exact ⟨fun _ => by rw [e0]; omega, fun q => by omega⟩
          · exact old v (.inr hv)
      · rw [tg 170 21 (by omega)] at q21
        have k1 := co q21
        rw [hg4] at k1
        have ecx : cxt (gRt H r y1 s t) s5 t5 = cxm (fun z => (B ≤ z ∧ (z : Int) < s5 99 12) ∨ ∃ r, mbt (t5 170 26) r ∧ ownx G0 r z) (t5 170 22) (t5 170 23) (t5 170 24) (t5 170 25) (t5 170 26) := by
          unfold cxt
          rw [hg4, hg5]
          rfl
        rw [ecx] at k1
        have k2 := CO_G (G2 := G2) k1 (fun j hj => by
          rcases hj with ⟨hj, _⟩ | ⟨_, hj, _⟩ | ⟨_, hj⟩
          · omega
          · omega
          · rw [show 24 + j - 24 = j by omega] at hj
            exact g2o j (by have := (hKN j hj).1; omega))
        have k3 := CO_sub (d := C) k2 (by
          rw [hC]
          refine ⟨fun z q => q, fun v q => q.imp id (hO v), fun v q => hO v q, fun k q => ?_⟩
          rcases q with q | q | ⟨q1, q2⟩
          · exact .inl q
          · exact .inr (.inl q)
          · exact .inr (.inr ⟨q1, mbt_lo.mpr (.inl q2)⟩)) (by rw [hC]; exact fun _ q => .inr q)
        have lk := CO_le k3
        have k4 := CO_ext (s2 := s9) (t2 := t9) k3 ⟨fun k j q1 q2 _ _ => so k j (by omega), fun j _ _ _ => so 104 j (by omega), fun i q1 q2 => tg 178 i (by omega), fun q => by rcases hmd with hmd | hmd <;> omega, by omega, fun r _ => so 113 r (by omega)⟩
        refine ⟨m, (s' 99 12).toNat, (s5 99 12).toNat, (t5 177 1).toNat, fun q => ?_, fun q => ?_, tb, by omega, by omega, by rw [s114]; exact hroot, by rw [h9q]; omega, ?_, ?_⟩
        · have hy := g2q.2.2.mp q
          have hm5 : md = 5 := by
            rcases hmd with hmd | hmd
            · exact hmd.2
            · exact absurd hy hmd.1
          rw [s114, h9q]
          show CO s9 t9 G2 5 m _ _ root (t 177 1).toNat _ (if r ≤ r then H.2 r else if r < 1000 then (t9 177 10).toNat else if r ≤ 1000 + r then H.2 r else (s9 99 12).toNat) (if r + 1 ≤ r then H.2 (r + 1) else if r + 1 < 1000 then (t9 177 10).toNat else if r + 1 ≤ 1000 + r then H.2 (r + 1) else (s9 99 12).toNat) 0 (G2.2.1 r)
          rw [if_pos (Nat.le_refl _), if_neg (show ¬ r + 1 ≤ r by omega), if_pos (show r + 1 < 1000 by omega), g2q.2.1, d.1, tg 177 10 (by omega), ← t1', ← t10', ← hm5]
          exact k4
        · have hy : y1 ≠ 0 := fun w => q (g2q.2.2.mpr w)
          have hm5 : md = 1 ∧ m = 0 := by
            rcases hmd with hmd | hmd
            · exact absurd hmd.1 hy
            · exact hmd.2
          rw [s114, h9q]
          refine ⟨?_, (so 104 _ (by omega)).trans (h104 hm5.1)⟩
          show CO s9 t9 G2 1 0 _ _ root (t 177 1).toNat _ (if r ≤ r then H.2 r else if r < 1000 then (t9 177 10).toNat else if r ≤ 1000 + r then H.2 r else (s9 99 12).toNat) (if r + 1 ≤ r then H.2 (r + 1) else if r + 1 < 1000 then (t9 177 10).toNat else if r + 1 ≤ 1000 + r then H.2 (r + 1) else (s9 99 12).toNat) 0 (G2.2.1 r)
          rw [if_pos (Nat.le_refl _), if_neg (show ¬ r + 1 ≤ r by omega), if_pos (show r + 1 < 1000 by omega), g2q.2.1, d.1, tg 177 10 (by omega), ← t1', ← t10']
          rw [hm5.1, hm5.2] at k4
          exact k4
        · show (if 1000 + r ≤ r then H.2 (1000 + r) else if 1000 + r < 1000 then (t9 177 10).toNat else if 1000 + r ≤ 1000 + r then H.2 (1000 + r) else (s9 99 12).toNat) ≤ (s' 99 12).toNat
          rw [if_neg (show ¬ 1000 + r ≤ r by omega), if_neg (show ¬ 1000 + r < 1000 by omega), if_pos (Nat.le_refl _), s12]
          exact d.2
        · show (s5 99 12).toNat ≤ (if 1000 + r + 1 ≤ r then H.2 (1000 + r + 1) else if 1000 + r + 1 < 1000 then (t9 177 10).toNat else if 1000 + r + 1 ≤ 1000 + r then H.2 (1000 + r + 1) else (s9 99 12).toNat)
          rw [if_neg (show ¬ 1000 + r + 1 ≤ r by omega), if_neg (show ¬ 1000 + r + 1 < 1000 by omega), if_neg (show ¬ 1000 + r + 1 ≤ 1000 + r by omega), s9125]
          exact Nat.le_refl _
      · show (if r ≤ r then H.2 r else if r < 1000 then (t9 177 10).toNat else if r ≤ 1000 + r then H.2 r else (s9 99 12).toNat) ≤ (if r + 1 ≤ r then H.2 (r + 1) else if r + 1 < 1000 then (t9 177 10).toNat else if r + 1 ≤ 1000 + r then H.2 (r + 1) else (s9 99 12).toNat)
        rw [if_pos (Nat.le_refl _), if_neg (show ¬ r + 1 ≤ r by omega), if_pos (show r + 1 < 1000 by omega), d.1, tg 177 10 (by omega)]
        omega
    · have hrq : r < q := by omega
      obtain ⟨x1, x2, x3⟩ := c r hrq
      have y4 := v4 r (by omega) (by omega)
      rw [hg4, hg5] at y4
      refine ⟨RV_mv (G2 := G2) y4 (g2o r er).1 (fun j hj => (g2o j (by omega)).2.1) (by omega) (fun k q => so k r (by omega)) (fun k q1 q2 q3 => tg k r (by omega)) ⟨Int.le_of_eq (so 109 0 (by omega)).symm, Int.le_of_eq (so 109 1 (by omega)).symm⟩ (g2f r).mp, ?_, ?_⟩
      · have e200 : t9 200 r = t 200 r := by rw [tg 200 r (by omega), (fb.2.2 r).2.1, ht' 200 r (by omega)]
        have x4 : RTB H s9 t9 r := RTB_fr x2 (fun k hk => by
          have := RV_ca x1 k hk
          rw [so 113 k (by omega), pf.2.2.2.2.2 k, hs' 113 k (by omega)]) (by omega) (fun k j q1 q2 q3 => by rw [so k j (by omega), pf.1.2 k j q1 q2 (by omega), hs' k j (by omega)]) (by rw [so 114 r (by omega), (fb.2.2 r).1, hs' 114 r (by omega)]) (by omega) (fun i hi => by rw [tg 178 i (by omega), pf.2.1.2 i (by omega), ht' 178 i (by omega)]) e200 (fun w => by
          rw [tg 170 21 (by omega)] at w
          have := pf.2.2.2.2.1 w
          rw [ht' 170 21 (by omega)] at this
          exact this)
        intro q21
        obtain ⟨n, a, b, l, z1, z2, z3⟩ := x4 q21
        have ag : AGg H.1 G2 (H.1.2.1 r) := fun k hk => by
          have := RV_ca x1 k hk
          obtain ⟨p1, p2, p3⟩ := g2o k (by omega)
          obtain ⟨p4, p5, p6⟩ := g0o k (by omega)
          exact ⟨p1.trans p4, p2.trans p5, p3.trans p6⟩
        have er2 : G2.2.1 r = H.1.2.1 r := ((g2o r er).2.1).trans (g0o r er).2.1
        have ef : G2.2.2 r ↔ H.1.2.2 r := ((g2o r er).2.2).trans (g0o r er).2.2
        refine ⟨n, a, b, l, fun w => ?_, fun w => ?_, z3.1, z3.2.1, z3.2.2.1, z3.2.2.2.1, z3.2.2.2.2.1, ?_, ?_⟩
        · show CO s9 t9 G2 5 n a b (s9 114 r) (t9 200 r).toNat l (if r ≤ q then H.2 r else if r < 1000 then (t9 177 10).toNat else if r ≤ 1000 + q then H.2 r else (s9 99 12).toNat) (if r + 1 ≤ q then H.2 (r + 1) else if r + 1 < 1000 then (t9 177 10).toNat else if r + 1 ≤ 1000 + q then H.2 (r + 1) else (s9 99 12).toNat) 0 (G2.2.1 r)
          rw [if_pos (show r ≤ q by omega), if_pos (show r + 1 ≤ q by omega), er2]
          exact CO_G (z1 (ef.mp w)) ag
        · refine ⟨?_, (z2 (fun q => w (ef.mpr q))).2⟩
          show CO s9 t9 G2 1 0 a b (s9 114 r) (t9 200 r).toNat l (if r ≤ q then H.2 r else if r < 1000 then (t9 177 10).toNat else if r ≤ 1000 + q then H.2 r else (s9 99 12).toNat) (if r + 1 ≤ q then H.2 (r + 1) else if r + 1 < 1000 then (t9 177 10).toNat else if r + 1 ≤ 1000 + q then H.2 (r + 1) else (s9 99 12).toNat) 0 (G2.2.1 r)
          rw [if_pos (show r ≤ q by omega), if_pos (show r + 1 ≤ q by omega), er2]
          exact CO_G (z2 (fun q => w (ef.mpr q))).1 ag
        · show (if 1000 + r ≤ q then H.2 (1000 + r) else if 1000 + r < 1000 then (t9 177 10).toNat else if 1000 + r ≤ 1000 + q then H.2 (1000 + r) else (s9 99 12).toNat) ≤ a
          rw [if_neg (show ¬ 1000 + r ≤ q by omega), if_neg (show ¬ 1000 + r < 1000 by omega), if_pos (show 1000 + r ≤ 1000 + q by omega)]
          exact z3.2.2.2.2.2.1
        · show b ≤ (if 1000 + r + 1 ≤ q then H.2 (1000 + r + 1) else if 1000 + r + 1 < 1000 then (t9 177 10).toNat else if 1000 + r + 1 ≤ 1000 + q then H.2 (1000 + r + 1) else (s9 99 12).toNat)
          rw [if_neg (show ¬ 1000 + r + 1 ≤ q by omega), if_neg (show ¬ 1000 + r + 1 < 1000 by omega), if_pos (show 1000 + r + 1 ≤ 1000 + q by omega)]
          exact z3.2.2.2.2.2.2
      · show (if r ≤ q then H.2 r else if r < 1000 then (t9 177 10).toNat else if r ≤ 1000 + q then H.2 r else (s9 99 12).toNat) ≤ (if r + 1 ≤ q then H.2 (r + 1) else if r + 1 < 1000 then (t9 177 10).toNat else if r + 1 ≤ 1000 + q then H.2 (r + 1) else (s9 99 12).toNat)
        rw [if_pos (show r ≤ q by omega), if_pos (show r + 1 ≤ q by omega)]
        exact x3
  · have e95 : (s9 109 5).toNat = q + 1 := by rw [so 109 5 (by omega), n95]; omega
    show (if (s9 109 5).toNat ≤ q then H.2 (s9 109 5).toNat else if (s9 109 5).toNat < 1000 then (t9 177 10).toNat else if (s9 109 5).toNat ≤ 1000 + q then H.2 (s9 109 5).toNat else (s9 99 12).toNat) = (t9 177 10).toNat ∧ (if 1000 + (s9 109 5).toNat ≤ q then H.2 (1000 + (s9 109 5).toNat) else if 1000 + (s9 109 5).toNat < 1000 then (t9 177 10).toNat else if 1000 + (s9 109 5).toNat ≤ 1000 + q then H.2 (1000 + (s9 109 5).toNat) else (s9 99 12).toNat) ≤ (s9 99 12).toNat
    rw [e95, if_neg (show ¬ q + 1 ≤ q by omega), if_pos (show q + 1 < 1000 by omega), if_neg (show ¬ 1000 + (q + 1) ≤ q by omega), if_neg (show ¬ 1000 + (q + 1) < 1000 by omega), if_neg (show ¬ 1000 + (q + 1) ≤ 1000 + q by omega)]
    exact ⟨rfl, Nat.le_refl _⟩
end KNOWN
