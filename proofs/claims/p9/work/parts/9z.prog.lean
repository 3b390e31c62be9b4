/-! Programs, in both. -/
section PROGX
variable {T : Nat → Int} {n e N : Nat} {s t s2 t2 : tab} {rc : MRq}
/-- our declaration -/
noncomputable def DCx (s : tab) : RO := if kkd s = 306 then (bo (cG 51 [5] (stp s)) fun z s1 => BDx 1 z s1) else if kkd s = 307 then (bo (cG 51 [6] (stp s)) fun z s1 => BDx 0 z s1) else cG 54 [kkd s] (stp s)
def P128 (rc : MRq) : Prop := ∀ (T : Nat → Int) (n e N : Nat) (s t : tab) (v : Option (Int × tab)), RDx T n e N s t → (∃ H, GDy H s t) → RBx s t → 300 ≤ kkd s → kkd s ≤ 307 → rc 37 [] t = some v → ORx T n e s (DCx s) v
theorem p_128 (hrc : rle rc rG) (h129 : P129 rc) : ∀ (T : Nat → Int) (n e N : Nat) (s t : tab) (v : Option (Int × tab)), RDx T n e N s t → (∃ H, GDy H s t) → RBx s t → 300 ≤ kkd s → kkd s ≤ 307 → rM128 rc t = some v → ORx T n e s (DCx s) v := by
  intro T n e N s t v h0 hGx hb k0 k1 h
  have hL := h0.1.1
  unfold rM128 at h
  have h := bxr hrc (RL_is is_6 hL) h
  try dsimp only at h
  have h := bxr hrc (RL_is is_10 hL) h
  try dsimp only at h
  have h := bxr hrc (RL_is is_18 hL) h
  try dsimp only at h
  unfold DCx
  by_cases k6 : kkd s = 306
  · rw [if_pos k6, if_pos (by decide)] at h
    rw [if_pos k6]
    have := h129 T n e N 1 s t v h0 hGx hb (by omega) (by omega) (vbo h)
    rw [if_neg (by decide)] at this
    exact this
  rw [if_neg k6, if_neg (by decide)] at h
  rw [if_neg k6]
  have h := bxr hrc (RL_is is_20 hL) h
  try dsimp only at h
  by_cases k7 : kkd s = 307
  · rw [if_pos k7, if_neg (by decide)] at h
    rw [if_pos k7]
    have := h129 T n e N 0 s t v h0 hGx hb (by omega) (by omega) (vbo h)
    rw [if_pos rfl] at this
    exact this
  rw [if_neg k7, if_pos rfl] at h
  rw [if_neg k7]
  have h := bxr hrc (RL_is is_8 hL) h
  try dsimp only at h
  have stk := RL_stk hL (by omega) (by omega)
  obtain ⟨t9, d1, d2, d3, d4⟩ := RL_step hL (by omega) (by omega)
  have hH := H_lex d2 h0.1.2 stk (by omega) d4
  have hsc := SC_lex h0.2.1 d4
  have hc := DG_lex stk d3
  have hr : DGr N t t9 := DR_lex d4
  obtain ⟨H, hG⟩ := hGx
  have hn : DNx s (stp s) := DN_eq (fun k j _ _ => stk k j (by omega))
  have hb9 : RBx s t → RBx (stp s) t9 := fun b => RB_lex b stk d4
  rw [cG_75]
  unfold cM75
  by_cases k2 : kkd s = 301
  · rw [if_pos k2, if_neg (by decide)] at h
    rw [if_neg (show ¬ kkd s = 300 by omega), if_pos k2]
    have h := bxr hrc d1 h
    exact OD_R (p_intd hrc h0 hH hsc hc hr hn hb9 h) hG hb
  rw [if_neg k2, if_pos rfl] at h
  by_cases k3 : kkd s = 300
  · rw [if_pos k3, if_neg (show ¬ ((1 : Int) = 0) by decide)] at h
    rw [if_pos k3]
    have h := bxr hrc d1 h
    exact OD_R (p_reg hrc h0 hH hsc hc hr hn hb9 h) hG hb
  rw [if_neg k3, if_pos rfl] at h
  rw [if_neg k3, if_neg k2]
  by_cases k4 : kkd s = 302
  · rw [if_pos k4, if_neg (show ¬ ((1 : Int) = 0) by decide)] at h
    rw [if_pos k4]
    have h := bxr hrc d1 h
    exact OD_R (p_arr hrc h0 hH hsc hc hr hn hb9 h) hG hb
  rw [if_neg k4, if_pos rfl] at h
  rw [if_neg k4]
  have h := bxr hrc (RL_is is_12 hL) h
  try dsimp only at h
  have h := bxr hrc (RL_is is_14 hL) h
  try dsimp only at h
  have h := bxr hrc d1 h
  try dsimp only at h
  by_cases k5 : kkd s = 303
  · rw [if_pos k5, if_neg (show ¬ ((1 : Int) = 0) by decide)] at h
    rw [if_pos k5]
    exact OD_R (p_ch hrc (w := 2) (c := 2) (L := 8) (D := 6) rfl rfl (by decide) (by decide) (by decide) h0 hH hsc hc hr hn hb9 h) hG hb
  rw [if_neg k5, if_pos rfl] at h
  rw [if_neg k5]
  by_cases k8 : kkd s = 304
  · rw [if_pos k8, if_neg (show ¬ ((1 : Int) = 0) by decide)] at h
    rw [if_pos k8]
    exact OD_R (p_ch hrc (w := 3) (c := 3) (L := 4) (D := 7) rfl rfl (by decide) (by decide) (by decide) h0 hH hsc hc hr hn hb9 h) hG hb
  rw [if_neg k8, if_pos rfl] at h
  rw [if_neg k8]
  exact OD_R (p_ch hrc (w := 4) (c := 4) (L := 4) (D := 8) rfl rfl (by decide) (by decide) (by decide) h0 hH hsc hc hr hn hb9 h) hG hb
/-- the look table so far -/
def LKp (y : Nat) (t : tab) : Prop := 0 ≤ t 177 18 ∧ t 177 18 ≤ (y : Int) ∧ (∀ i : Nat, (i : Int) < t 177 18 → ∃ j, j < y ∧ t 174 j ≤ 1 ∧ t 182 i = t 172 j ∧ t 183 i = t 173 j ∧ t 184 i = t 174 j ∧ t 185 i = t 175 j) ∧ ∀ j, j < y → t 174 j ≤ 1 → ∃ i : Nat, (i : Int) < t 177 18 ∧ t 182 i = t 172 j ∧ t 183 i = t 173 j ∧ t 184 i = t 174 j ∧ t 185 i = t 175 j
/-- a word in the text -/
def LKw (T : Nat → Int) (n : Nat) (w x y : Int) : Prop := ∃ a b : Nat, x = (a : Int) ∧ y = (b : Int) ∧ a < b ∧ b ≤ n ∧ (∀ i, a ≤ i → i < b → aln (T i) = true) ∧ w = wdn T a (b - a)
/-- the look table and our names -/
def LKR (s t : tab) : Prop := ∃ (T : Nat → Int) (n N : Nat), s 105 3 = (N : Int) ∧ N ≤ 58 ∧ n ≤ 2000 ∧ (∀ j, j < n → t 181 j = T j) ∧ (∀ i j, i < j → j < N → s 106 i ≠ s 106 j) ∧ (∀ j, j < N → 0 ≤ s 107 j ∧ 0 ≤ s 108 j ∧ s 108 j < s 109 (kcn (s 107 j))) ∧ (0 ≤ t 177 18 ∧ t 177 18 ≤ (N : Int)) ∧ (∀ i : Nat, (i : Int) < t 177 18 → ∃ j, j < N ∧ s 107 j ≤ 1 ∧ t 184 i = s 107 j ∧ t 185 i = s 108 j ∧ LKw T n (s 106 j) (t 182 i) (t 183 i)) ∧ ∀ j, j < N → s 107 j ≤ 1 → ∃ i : Nat, (i : Int) < t 177 18 ∧ t 184 i = s 107 j ∧ t 185 i = s 108 j ∧ LKw T n (s 106 j) (t 182 i) (t 183 i)
/-- all that is known of a program: its routines, its BLOCK -/
def PGx (s t : tab) : Prop := ∃ (H : Gmx × (Nat → Nat)) (B b l k1 : Nat) (c : Cxx), (∀ r : Nat, (r : Int) < s 109 5 → RVx H.1 B s t r ∧ RTB H s t r ∧ H.2 r ≤ H.2 (r + 1)) ∧ CO s t H.1 1 0 B b (s 99 13) (t 177 2).toNat l (H.2 (s 109 5).toNat) k1 0 c ∧ t 178 l = 21 ∧ ((b : Int) = s 99 12 ∧ (l : Int) + 1 = t 177 1 ∧ s 99 12 ≤ 2000 ∧ t 177 1 ≤ 25000 ∧ (k1 : Int) = t 177 10 ∧ 0 ≤ t 177 2 ∧ 0 ≤ s 99 13 ∧ t 177 10 ≤ 2000 ∧ H.2 (1000 + (s 109 5).toNat) ≤ B) ∧ ((∀ k, c.2.2.2 (24 + k) → (k : Int) < s 109 5) ∧ ∀ v, c.2.1 v → bnd s v) ∧ s 104 (s 99 13).toNat = -1 ∧ RBx s t ∧ RCt s t ∧ (t 170 21 = -1 ∧ LKR s t)
/-- how a program ends -/
def OGx (X : RO) (v : Option (Int × tab)) : Prop := ∃ z t2, v = some (z, t2) ∧ ((z = 1 ∧ ∃ s2, X = some (some (0, s2)) ∧ s2 131 3 = -2 ∧ PGx s2 t2) ∨ (z = 0 ∧ (X = some none ∨ ∃ s2, X = some (some (0, s2)) ∧ 0 ≤ s2 131 3)))
theorem OG_no {X : RO} {t9 : tab} (h : X = some none) : OGx X (some (0, t9)) := ⟨0, t9, rfl, .inr ⟨rfl, .inl h⟩⟩
/-- our BLOCK of the program -/
noncomputable def MNx (s : tab) : RO := bo (cG 45 [0, s 105 3] s) fun z3 s3 => if kkd (up2 s3 99 13 z3) ≠ 3 then some none else some (some (0, up2 s3 99 13 z3))
/-- ghosts of the program's own BLOCK -/
def gMn (H : Gmx × (Nat → Nat)) (s : tab) : Gtt := (s 131 7, s 131 8, s 131 9, H.1, (s 99 12).toNat, 0)
theorem RD_Q {H : Gmx × (Nat → Nat)} (h : RDx T n e N s t) (hG : GDy H s t) : RQw T n e N (gMn H s) s (rop (rfg (up2 t 177 2 (t 177 1)))) ∧ SCb N (N : Int) (rop (rfg (up2 t 177 2 (t 177 1)))) := by
  have hin := RL_in h.1.1
  obtain ⟨⟨g1, g2, g3, g4, g5, g6⟩, gn, gr, gd⟩ := hG
  obtain ⟨⟨⟨hT, ⟨x1, x2, x3⟩, l3, l4, l5⟩, ⟨a1, a2, a3, a4, a5⟩, b, c, hpf, ⟨c1, c2, c3, c4⟩, hsu⟩, hsc, p0, s13, s14, r35, r37, m1, m2, m3⟩ := h
  have e16 : (rop (rfg (up2 t 177 2 (t 177 1)))) 170 16 = t 170 16 + 1 := by
    show ipl (t 170 16) 1 = _
    exact ipl_e (by omega)
  have e15 : (rop (rfg (up2 t 177 2 (t 177 1)))) 170 15 = t 170 16 := rfl
  have b' : RCt s (rop (rfg (up2 t 177 2 (t 177 1)))) := fun c hc => by
    have e : (rop (rfg (up2 t 177 2 (t 177 1)))) 177 (4 + c) = (up2 t 177 2 (t 177 1)) 177 (4 + c) := rfl
    rw [e, show (up2 t 177 2 (t 177 1)) 177 (4 + c) = t 177 (4 + c) from if_neg (by omega)]
    exact b c hc
  refine ⟨⟨⟨⟨hT, ⟨x1, x2, x3⟩, l3, l4, l5⟩, ⟨⟨a1, a2, a3, a4, a5⟩, b', fun r h1 h2 => c r h1 (by omega), s13.trans r35.symm, .inl ⟨r37, s14⟩⟩, ⟨?_, ?_, ?_, ?_⟩, ⟨?_, ⟨⟨fun k q => absurd (show mbt 0 k from q) mbt_0, fun v q => q.elim (fun w => absurd (show mbt 0 v from w) mbt_0) (fun w => absurd (show mbt 0 v from w) mbt_0), fun _ v => ⟨fun w => absurd (show mbt 0 v from w) mbt_0, fun w => absurd (show mbt 0 v from w) mbt_0⟩⟩, fun q => by have q2 : 0 ≤ s 131 13 := q; omega⟩, gn, fun r h1 h2 => ?_⟩⟩, hpf, ⟨by rw [e15]; omega, by rw [e15, e16]; omega, by rw [e16]; omega, fun j hj => ?_⟩, hsu, fun q => ?_⟩, by omega, Int.le_refl _, fun j hj => ?_⟩
  · show s 131 7 = lo (s 131 7) (lo 0 0)
    rw [show lo 0 0 = 0 from by decide, lo_comm]
    exact m1.symm
  · show s 131 8 = lo (s 131 8) 0
    rw [lo_comm]
    exact m2.symm
  · show s 131 9 = lo (s 131 9) (pkm 0 0 0)
    rw [show pkm 0 0 0 = 0 from by decide, lo_comm]
    exact m3.symm
  · show MB3 0 0 0
    exact ⟨⟨by decide, by decide⟩, ⟨by decide, by decide⟩, by decide, by decide⟩
  · show 0 ≤ s 99 12 ∧ s 99 12 + s 131 6 ≤ s 137 5 ∧ 0 ≤ t 177 1 ∧ t 177 1 ≤ 12 * s 137 5 ∧ 0 ≤ t 177 10 ∧ t 177 10 ≤ s 137 5 ∧ (((s 99 12).toNat + 0 : Nat) : Int) ≤ s 99 12
    omega
  · exact (gr r h1).1
  · rw [e16]
    have : 0 ≤ t 176 j ∧ t 176 j < t 170 16 := c4 j hj
    show 0 ≤ t 176 j ∧ t 176 j < t 170 16 + 1
    omega
  · have q : t 170 37 = 1 := q
    omega
  · rw [e15]
    have : 0 ≤ t 176 j ∧ t 176 j < t 170 16 := c4 j hj
    show t 176 j = t 170 16 ↔ _
    exact ⟨fun z => by omega, fun z => by omega⟩
/-- the program's BLOCK was read -/
theorem PG_new {H : Gmx × (Nat → Nat)} {M : Nat} {t' s5 t5 s9 t9 : tab} (hG : GDy H s t) (ht' : ∀ k j, k ≠ 170 → ¬ (k = 177 ∧ j = 2) → t' k j = t k j) (h2 : t' 177 2 = t 177 1) (h21 : t' 170 21 = t 170 21) (f3 : RQx T n e M (gMn H s) s5 t5) (h13 : s5 131 13 = -1) (p0 : s5 131 6 = 0) (es : ESx (gMn H s) s t' s5 t5) (hb : RBx s t') (q21 : t5 170 21 = -1) (so : ∀ k j, ¬ (k = 105 ∧ j = 3) → ¬ (k = 99 ∧ j = 13) → s9 k j = s5 k j) (s13 : s9 99 13 = s5 99 12 - 1) (tg : ∀ k j, ¬ (k = 170 ∧ j = 14) → t9 k j = (pt1 t5 21) k j) (hK : LKR s9 t9) : PGx s9 t9 := by
  obtain ⟨⟨a1, a2, a3, a4, a5, a6⟩, bn, c, d⟩ := hG
  obtain ⟨k1, k2, k3, k4, ⟨k5, k6, k7⟩, k8⟩ := es
  have e2 : t5 177 2 = t' 177 2 := (k8.2.2 0).2.2.1
  obtain ⟨⟨u1, u2, u3, u4, u5, u6, u7⟩, v2, v3, v4⟩ := f3.1.2.2.2
  have hin := RL_in f3.1.1
  obtain ⟨cw, cw1⟩ := pt1_cw (t := t5) 21 (by omega)
  have tk : ∀ k j, ¬ (k = 170 ∧ j = 14) → ¬ (k = 177 ∧ (j = 1 ∨ j = 3)) → ¬ (k = 178 ∧ (t5 177 1).toNat ≤ j) → t9 k j = t5 k j := fun k j z1 z2 z3 => (tg k j z1).trans (cw.2 k j z2 z3)
  have t91 : t9 177 1 = t5 177 1 + 1 := (tg 177 1 (by omega)).trans cw.1
  have s12 := so 99 12 (by omega) (by omega)
  have n95 : s9 109 5 = s 109 5 := (so 109 5 (by omega) (by omega)).trans k8.2.1
  have t1' := ht' 177 1 (by omega) (by omega)
  have t10' := ht' 177 10 (by omega) (by omega)
  have pf1 := k4.1.1
  have pf2 := k4.2.1.1
  have co := k1 q21
  have lco := CO_le co
  refine ⟨H, (s 99 12).toNat, (s5 99 12).toNat, (t5 177 1).toNat, (t5 177 10).toNat, cxt (gMn H s) s5 t5, fun r hr => ?_, ?_, ?_, ⟨by omega, by omega, by omega, by omega, by rw [tk 177 10 (by omega) (by omega) (by omega)]; omega, by rw [tk 177 2 (by omega) (by omega) (by omega), e2, h2]; exact a3, by omega, by rw [tk 177 10 (by omega) (by omega) (by omega)]; omega, by rw [n95]; exact d.2⟩, ⟨fun k hk => ?_, fun v hv => bnd_m (Int.le_of_eq (so 109 0 (by omega) (by omega)).symm) (Int.le_of_eq (so 109 1 (by omega) (by omega)).symm) (v2.1.2.1 v hv.symm)⟩, by rw [s13, so 104 _ (by omega) (by omega)]; exact k3, RB_eq (k8.1 hb) ⟨so 109 0 (by omega) (by omega), so 109 1 (by omega) (by omega)⟩ (fun k j z => so k j (by omega) (by omega)) (fun k j z => tk k j (by omega) (by omega) (by omega)), fun c hc => ?_, ⟨by rw [tk 170 21 (by omega) (by omega) (by omega)]; exact q21, hK⟩⟩
  · rw [n95] at hr
    obtain ⟨x1, x2, x3⟩ := c r hr
    have y4 := v4 r (by rw [k8.2.1]; exact hr) (by omega)
    refine ⟨RV_mv y4 rfl (fun _ _ => rfl) (Nat.le_refl _) (fun k z => so k r (by omega) (by omega)) (fun k z1 z2 z3 => tk k r (by omega) (by omega) (by omega)) ⟨Int.le_of_eq (so 109 0 (by omega) (by omega)).symm, Int.le_of_eq (so 109 1 (by omega) (by omega)).symm⟩ (fun q => q), RTB_fr x2 (fun k hk => by rw [so 113 k (by omega) (by omega), k4.2.2.2.2.2 k]) (by omega) (fun k j z1 z2 z3 => by rw [so k j (by omega) (by omega), k4.1.2 k j z1 z2 z3]) (by rw [so 114 r (by omega) (by omega), (k8.2.2 r).1]) (by omega) (fun i hi => by rw [tk 178 i (by omega) (by omega) (by omega), k4.2.1.2 i (by omega), ht' 178 i (by omega) (by omega)]) (by rw [tk 200 r (by omega) (by omega) (by omega), (k8.2.2 r).2.1, ht' 200 r (by omega) (by omega)]) (fun z => by
      rw [tk 170 21 (by omega) (by omega) (by omega)] at z
      rw [← h21]
      exact k4.2.2.2.2.1 z), x3⟩
  · rw [s13, tk 177 2 (by omega) (by omega) (by omega), e2, h2, n95, d.1, ← t1', ← t10']
    exact CO_ext co ⟨fun k j q1 q2 _ _ => so k j (by omega) (by omega), fun j _ _ _ => so 104 j (by omega) (by omega), fun i q1 q2 => tk 178 i (by omega) (by omega) (by omega), fun q => absurd q (by omega), by omega, fun r _ => so 113 r (by omega) (by omega)⟩
  · rw [tg 178 _ (by omega)]
    exact cw1
  · rcases hk with ⟨hk, _⟩ | ⟨_, hk, _⟩ | ⟨_, hk⟩
    · omega
    · omega
    · rw [show 24 + k - 24 = k by omega] at hk
      have := (v2.1.1 k hk).1
      rw [n95, ← k8.2.1]
      exact this
  · rw [so 109 c (by omega) (by omega), tk 177 (4 + c) (by omega) (by omega) (by omega)]
    exact f3.1.2.1.2.1 c hc
theorem RD_lk {t2 : tab} (h : RDx T n e N s t) (hf : ∀ k j, ¬ LKk k j → t2 k j = t k j) : RDx T n e N s t2 := by
  have r : ∀ k j, ¬ (181 ≤ k ∧ k ≤ 185 ∨ k = 177 ∧ j = 18) → t2 k j = t k j := fun k j q => hf k j q
  obtain ⟨⟨⟨hT, ⟨x1, x2, x3⟩, l3, l4, ⟨w1, w2, w3, w4, w5⟩⟩, ⟨a1, a2, a3, a4, a5⟩, b, c, hpf, ⟨c1, c2, c3, c4⟩, hsu⟩, ⟨hs1, hs2, hs3⟩, p0, s13, s14, r35, r37, hm⟩ := h
  refine ⟨⟨⟨hT, ⟨(r 170 2 (by omega)).trans x1, x2, fun j hj => by rw [r 171 j (by omega)]; exact x3 j hj⟩, l3, l4, ⟨(r 170 5 (by omega)).trans w1, (r 170 3 (by omega)).trans w2, (r 170 6 (by omega)).trans w3, (r 170 4 (by omega)).trans w4, fun q => (r 170 7 (by omega)).trans (w5 q)⟩⟩, ⟨a1, (r 170 14 (by omega)).trans a2, ⟨a3.1, UN_fr a3.2 (fun _ _ => rfl) (fun j _ => r 176 j (by omega))⟩, fun j hj => ?_, fun j hj => by rw [r 174 j (by omega), r 175 j (by omega)]; exact a5 j hj⟩, fun c hc => by rw [r 177 (4 + c) (by omega)]; exact b c hc, fun q h1 h2 => by rw [r 201 q (by omega), r 195 q (by omega), r 196 q (by omega), r 197 q (by omega), r 198 q (by omega), r 199 q (by omega)]; exact c q h1 h2, by unfold RPf; rw [r 170 21 (by omega)]; exact hpf, ⟨by rw [r 170 15 (by omega)]; exact c1, by rw [r 170 15 (by omega), r 170 16 (by omega)]; exact c2, by rw [r 170 16 (by omega)]; exact c3, fun j hj => by rw [r 176 j (by omega), r 170 16 (by omega)]; exact c4 j hj⟩, hsu⟩, ⟨hs1, hs2, fun j hj => by rw [r 176 j (by omega), r 170 15 (by omega)]; exact hs3 j hj⟩, p0, s13, s14, (r 170 35 (by omega)).trans r35, (r 170 37 (by omega)).trans r37, hm⟩
  obtain ⟨a, b, z1, z2, z3⟩ := a4 j hj
  exact ⟨a, b, (r 172 j (by omega)).trans z1, (r 173 j (by omega)).trans z2, z3⟩
theorem GD_lk {H : Gmx × (Nat → Nat)} {t2 : tab} (h : GDy H s t) (hf : ∀ k j, ¬ LKk k j → t2 k j = t k j) : GDy H s t2 := GD_fr h (fun _ _ _ => rfl) (Int.le_refl _) rfl (fun j hj _ => ⟨hj, rfl, rfl⟩) (fun k j q => hf k j (by unfold LKk; omega)) ⟨Int.le_refl _, Int.le_refl _⟩
theorem RB_lk {t2 : tab} (h : RBx s t) (hf : ∀ k j, ¬ LKk k j → t2 k j = t k j) : RBx s t2 := RB_eq h ⟨rfl, rfl⟩ (fun _ _ _ => rfl) (fun k j q => hf k j (by unfold LKk; omega))
/-- one more name in the look table -/
def lkt (t : tab) (l y : Nat) : tab := up2 (up2 (up2 (up2 (up2 t 182 l (t 172 y)) 183 l (t 173 y)) 184 l (t 174 y)) 185 l (t 175 y)) 177 18 ((l : Int) + 1)
theorem lkt_o {l y : Nat} (k j : Nat) (h : ¬ ((k = 182 ∨ k = 183 ∨ k = 184 ∨ k = 185) ∧ j = l) ∧ ¬ (k = 177 ∧ j = 18)) : lkt t l y k j = t k j := by
  unfold lkt
  exact (if_neg h.2).trans ((if_neg (by omega)).trans ((if_neg (by omega)).trans ((if_neg (by omega)).trans (if_neg (by omega)))))
theorem LK_1 {y l : Nat} (h : LKp y t) (hl : t 177 18 = (l : Int)) (h1 : t 174 y ≤ 1) : LKp (y + 1) (lkt t l y) := by
  obtain ⟨a1, a2, a3, a4⟩ := h
  have e18 : lkt t l y 177 18 = (l : Int) + 1 := up_self
  have e2 : lkt t l y 182 l = t 172 y := by
    unfold lkt
    exact (if_neg (by omega)).trans ((if_neg (by omega)).trans ((if_neg (by omega)).trans ((if_neg (by omega)).trans up_self)))
  have e3 : lkt t l y 183 l = t 173 y := by
    unfold lkt
    exact (if_neg (by omega)).trans ((if_neg (by omega)).trans ((if_neg (by omega)).trans up_self))
  have e4 : lkt t l y 184 l = t 174 y := by
    unfold lkt
    exact (if_neg (by omega)).trans ((if_neg (by omega)).trans up_self)
  have e5 : lkt t l y 185 l = t 175 y := by
    unfold lkt
    exact (if_neg (by omega)).trans up_self
  have o : ∀ k j, 172 ≤ k ∧ k ≤ 175 → lkt t l y k j = t k j := fun k j q => lkt_o k j (by omega)
  refine ⟨by omega, by omega, fun i hi => ?_, fun j hj hk => ?_⟩
  · rw [e18] at hi
    by_cases e : i = l
    · refine ⟨y, by omega, ?_⟩
      rw [e, e2, e3, e4, e5, o 172 y (by omega), o 173 y (by omega), o 174 y (by omega), o 175 y (by omega)]
      exact ⟨h1, rfl, rfl, rfl, rfl⟩
    · obtain ⟨j, b1, b2⟩ := a3 i (by omega)
      refine ⟨j, by omega, ?_⟩
      rw [lkt_o 182 i (by omega), lkt_o 183 i (by omega), lkt_o 184 i (by omega), lkt_o 185 i (by omega), o 172 j (by omega), o 173 j (by omega), o 174 j (by omega), o 175 j (by omega)]
      exact b2
  · rw [o 174 j (by omega)] at hk
    by_cases e : j = y
    · refine ⟨l, by omega, ?_⟩
      rw [e, e2, e3, e4, e5, o 172 y (by omega), o 173 y (by omega), o 174 y (by omega), o 175 y (by omega)]
      exact ⟨rfl, rfl, rfl, rfl⟩
    · obtain ⟨i, b1, b2⟩ := a4 j (by omega) hk
      refine ⟨i, by omega, ?_⟩
      rw [lkt_o 182 i (by omega), lkt_o 183 i (by omega), lkt_o 184 i (by omega), lkt_o 185 i (by omega), o 172 j (by omega), o 173 j (by omega), o 174 j (by omega), o 175 j (by omega)]
      exact b2
theorem LK_R {M : Nat} {g : Gtt} {t' s5 t5 s9 t9 : tab} (h0 : RDx T n e N s t) (hp : LKp N t) (h81 : ∀ j, j < n → t' 181 j = T j) (hl : ∀ k j, LKk k j → k ≠ 181 → t' k j = t k j) (hk : ∀ k j, LKk k j → t9 k j = t' k j) (hN : ∀ k j, 172 ≤ k ∧ k ≤ 176 → j < N → t5 k j = t k j) (f3 : RQx T n e M g s5 t5) (hM : N ≤ M) (hs : ∀ k j, 106 ≤ k ∧ k ≤ 109 → s9 k j = s5 k j) (h3 : s9 105 3 = (N : Int)) : LKR s9 t9 := by
  obtain ⟨p1, p2, p3, p4⟩ := hp
  obtain ⟨_, _, ⟨_, u⟩, nm, kn⟩ := f3.1.2.1.1
  have l9 : ∀ k j, LKk k j → k ≠ 181 → t9 k j = t k j := fun k j q1 q2 => (hk k j q1).trans (hl k j q1 q2)
  have e18 : t9 177 18 = t 177 18 := l9 177 18 (by unfold LKk; omega) (by omega)
  have lw : ∀ i j, j < N → t 182 i = t 172 j → t 183 i = t 173 j → LKw T n (s9 106 j) (t9 182 i) (t9 183 i) := fun i j hj q1 q2 => by
    obtain ⟨a, b, z1, z2, z3, z4, z5, z6⟩ := nm j (by omega)
    refine ⟨a, b, ?_, ?_, z3, z4, z5, by rw [hs 106 j (by omega)]; exact z6⟩
    · rw [l9 182 i (by unfold LKk; omega) (by omega), q1, ← hN 172 j (by omega) hj]
      exact z1
    · rw [l9 183 i (by unfold LKk; omega) (by omega), q2, ← hN 173 j (by omega) hj]
      exact z2
  have k4 : ∀ j, j < N → t 174 j = s9 107 j ∧ t 175 j = s9 108 j := fun j hj => by
    have z := kn j (by omega)
    rw [hs 107 j (by omega), hs 108 j (by omega), ← hN 174 j (by omega) hj, ← hN 175 j (by omega) hj]
    exact ⟨z.1, z.2.1⟩
  have hsc := h0.2.1.2.2
  refine ⟨T, n, N, h3, h0.1.2.1.2.2.1.1, h0.1.1.2.1.2.1, fun j hj => (hk 181 j (by unfold LKk; omega)).trans (h81 j hj), fun i j hi hj => ?_, fun j hj => ?_, by rw [e18]; exact ⟨p1, p2⟩, fun i hi => ?_, fun j hj h1 => ?_⟩
  · rw [hs 106 i (by omega), hs 106 j (by omega)]
    refine u i j hi (by omega) ?_
    rw [hN 176 i (by omega) (by omega), hN 176 j (by omega) hj, (hsc i (by omega)).mpr (by omega), (hsc j hj).mpr (by omega)]
  · obtain ⟨_, _, z3, _, z5, z6⟩ := kn j (by omega)
    rw [hs 107 j (by omega), hs 108 j (by omega), hs 109 _ (by omega)]
    exact ⟨z3, z5, z6⟩
  · rw [e18] at hi
    obtain ⟨j, b1, b2, b3, b4, b5, b6⟩ := p3 i hi
    have k := k4 j b1
    refine ⟨j, b1, by omega, ?_, ?_, lw i j b1 b3 b4⟩
    · rw [l9 184 i (by unfold LKk; omega) (by omega), b5]
      exact k.1
    · rw [l9 185 i (by unfold LKk; omega) (by omega), b6]
      exact k.2
  · have k := k4 j hj
    obtain ⟨i, b1, b3, b4, b5, b6⟩ := p4 j hj (by omega)
    refine ⟨i, by rw [e18]; exact b1, ?_, ?_, lw i j hj b3 b4⟩
    · rw [l9 184 i (by unfold LKk; omega) (by omega), b5]
      exact k.1
    · rw [l9 185 i (by unfold LKk; omega) (by omega), b6]
      exact k.2
def P233 (rc : MRq) : Prop := ∀ (T : Nat → Int) (n e N y : Nat) (s t : tab) (v : Option (Int × tab)), RDx T n e N s t → (∃ H, GDy H s t) → RBx s t → y ≤ N → LKp y t → rc 67 [(y : Int)] t = some v → OGx (MNx s) v
theorem p_233 (hrc : rle rc rG) (hB : PBx rc) (h233 : P233 rc) : ∀ (T : Nat → Int) (n e N y : Nat) (s t : tab) (v : Option (Int × tab)), RDx T n e N s t → (∃ H, GDy H s t) → RBx s t → y ≤ N → LKp y t → rM122_233 rc (y : Int) t = some v → OGx (MNx s) v := by
  intro T n e N y s t v h0 hGx hb hy hp h
  unfold rM122_233 at h
  have h14 : t 170 14 = (N : Int) := h0.1.2.1.2.1
  by_cases c : t 170 14 ≤ (y : Int)
  · rw [if_pos c] at h
    have yN : y = N := by omega
    obtain ⟨H, hG⟩ := hGx
    obtain ⟨t1, ht1⟩ : ∃ t1, t1 = cpt t 181 171 (t 170 2) := ⟨_, rfl⟩
    have e1 : t 177 1 = t1 177 1 := by rw [ht1]; rfl
    have hf : ∀ k j, ¬ LKk k j → t1 k j = t k j := fun k j q => by
      rw [ht1]
      exact if_neg (fun z => q (by unfold LKk; omega))
    rw [← ht1, e1] at h
    have hl1 : ∀ k j, LKk k j → k ≠ 181 → (rop (rfg (up2 t1 177 2 (t1 177 1)))) k j = t k j := fun k j q q2 => by
      rw [kp_rop q, kp_rfg q, show (up2 t1 177 2 (t1 177 1)) k j = t1 k j from if_neg (by unfold LKk at q; omega), ht1]
      exact if_neg q2
    have h81 : ∀ j, j < n → (rop (rfg (up2 t1 177 2 (t1 177 1)))) 181 j = T j := fun j hj => by
      have hx := h0.1.1.2.1
      have q : LKk 181 j := by unfold LKk; omega
      rw [kp_rop q, kp_rfg q, show (up2 t1 177 2 (t1 177 1)) 181 j = t1 181 j from if_neg (by omega), ht1]
      show (if 181 = 181 then (if (j : Int) < t 170 2 then t 171 j else t 181 j) else t 181 j) = T j
      rw [if_pos rfl, if_pos (by rw [hx.1]; omega)]
      exact (hx.2.2 j hj).1
    have h01 := h0
    have hp0 := hp
    rw [yN] at hp0
    replace h0 := RD_lk h0 hf
    replace hG := GD_lk hG hf
    replace hb := RB_lk hb hf
    obtain ⟨hQ, hsc⟩ := RD_Q h0 hG
    unfold MNx
    rw [show s 105 3 = (N : Int) from h0.1.2.1.1]
    rcases bo_inv h with ⟨h9, _⟩ | ⟨z6, t6, h9, h⟩
    · obtain ⟨z, t9, w1, _⟩ := hB T n e N _ s _ 0 (N : Int) _ hQ hsc (by omega) (by omega) h0.2.2.1 h9
      cases w1
    · obtain ⟨z, t9, w1, w2⟩ := hB T n e N _ s _ 0 (N : Int) _ hQ hsc (by omega) (by omega) h0.2.2.1 h9
      cases w1
      rcases w2 with ⟨rfl, M, s5, t5, f1, f0, f2, f3, f4, f5, f6, f7⟩ | ⟨rfl, f1⟩
      · rw [if_pos (by decide)] at h
        rw [f1, bo_s, ncu_e f3.1.2.1.1.1 f2]
        have e4 : t6 170 4 = rkn (kkd s5) := by
          rw [f0]
          exact RL_k4 f3.1.1
        have e21 : t6 170 21 = t5 170 21 := by
          rw [f0]
          rfl
        have kk : kkd (up2 (up2 s5 105 3 (N : Int)) 99 13 (s5 99 12 - 1)) = kkd s5 := rfl
        rw [kk]
        have hpf := f3.2.1
        unfold RPf at hpf
        by_cases k3 : kkd s5 = 3
        · rw [if_pos (show t6 170 4 = 0 by rw [e4, k3]; rfl)] at h
          rw [if_neg (fun q => q k3)]
          by_cases c2 : t6 170 21 < 0
          · rw [if_pos c2] at h
            cases h
            refine ⟨1, _, rfl, .inl ⟨rfl, _, rfl, ?_, ?_⟩⟩
            · show s5 131 3 = -2
              omega
            · refine PG_new (t' := rop (rfg (up2 t1 177 2 (t1 177 1)))) hG (fun k j z1 z2 => ?_) rfl rfl f3 (f4.2.2.1.trans h0.2.2.2.1) (f4.2.2.2.2.1.trans h0.2.2.1) f7 (RB_eq hb ⟨rfl, rfl⟩ (fun _ _ _ => rfl) (fun k j z => ?_)) (by omega) (fun k j z1 z2 => (if_neg z2).trans (if_neg z1)) up_self (fun k j z => ?_) ?_
              · unfold rop
                exact (if_neg (by omega)).trans ((if_neg (by omega)).trans ((rfg_o k j (by omega)).trans (if_neg z2)))
              · unfold rop
                exact (if_neg (by omega)).trans ((if_neg (by omega)).trans ((rfg_o k j (by omega)).trans (if_neg (by omega))))
              · rw [f0, pt1_c]
                exact if_neg z
              · refine LK_R h01 hp0 h81 hl1 (fun k j q => (kp_pt1 q).trans (rG_keep (by decide) (hrc _ _ _ _ h9) q)) (fun k j q1 q2 => (f5.2.1 k j q1 q2).trans ?_) f3 f2 (fun k j q => (if_neg (by omega)).trans (if_neg (by omega))) ((if_neg (by omega)).trans up_self)
                exact (show (rop (rfg (up2 t1 177 2 (t1 177 1)))) k j = t1 k j from (if_neg (by omega)).trans ((if_neg (by omega)).trans ((rfg_o k j (by omega)).trans (if_neg (by omega))))).trans (hf k j (by unfold LKk; omega))
          · rw [if_neg c2] at h
            cases h
            refine ⟨0, _, rfl, .inr ⟨rfl, .inr ⟨_, rfl, ?_⟩⟩⟩
            show 0 ≤ s5 131 3
            omega
        · rw [if_neg (show ¬ t6 170 4 = 0 from fun q => k3 (rkn_0 (e4.symm.trans q)))] at h
          rw [if_pos k3]
          cases h
          exact OG_no rfl
      · rw [if_neg (by decide)] at h
        cases h
        refine OG_no ?_
        rw [f1]
        rfl
  · rw [if_neg c, Int.toNat_natCast] at h
    have p1 := hp.1
    have p2 := hp.2.1
    have hN := h0.1.2.1.2.2.1.1
    rw [show (y : Int) + 1 = ((y + 1 : Nat) : Int) by omega] at h
    by_cases k1 : t 174 y ≤ 1
    · rw [if_pos k1] at h
      obtain ⟨l, hl⟩ : ∃ l : Nat, t 177 18 = (l : Int) := ⟨(t 177 18).toNat, by omega⟩
      rw [ipl_e (by omega), hl, Int.toNat_natCast] at h
      have hf : ∀ k j, ¬ LKk k j → lkt t l y k j = t k j := fun k j q => lkt_o k j (by unfold LKk at q; omega)
      obtain ⟨H, hG⟩ := hGx
      exact h233 T n e N (y + 1) s (lkt t l y) v (RD_lk h0 hf) ⟨H, GD_lk hG hf⟩ (RB_lk hb hf) (by omega) (LK_1 hp hl k1) h
    · rw [if_neg k1] at h
      refine h233 T n e N (y + 1) s t v h0 hGx hb (by omega) ⟨p1, by omega, fun i hi => ?_, fun j hj hk => ?_⟩ h
      · obtain ⟨j, b1, b2⟩ := hp.2.2.1 i hi
        exact ⟨j, by omega, b2⟩
      · by_cases ej : j = y
        · rw [ej] at hk
          exact absurd hk k1
        · exact hp.2.2.2 j (by omega) hk
def P142 (rc : MRq) : Prop := ∀ (T : Nat → Int) (n e N : Nat) (y : Int) (s t : tab) (v : Option (Int × tab)), RDx T n e N s t → (∃ H, GDy H s t) → RBx s t → 0 ≤ y → y ≤ s 137 5 → rc 66 [] t = some v → OGx (cG 71 [y] s) v
/-- our loop, at a declaration -/
theorem c_42y {y : Int} (h1 : y < 2000) (h2 : 300 ≤ kkd s) (h3 : kkd s ≤ 307) : cG 71 [y] s = bo (DCx s) fun _ s2 => cG 71 [y + 1] s2 := by
  rw [cG_20_42]
  conv => lhs; unfold cM20_42
  rw [if_neg (show ¬ (2000 ≤ y) by omega), if_neg (show ¬ (kkd s < 300) by omega), if_neg (show ¬ (307 < kkd s) by omega)]
  unfold DCx
  by_cases k6 : kkd s = 306
  · rw [if_pos k6, if_pos k6, if_pos (show kkd s ≠ 307 by omega), bo_as]
    congr 1
    funext z1 s1
    unfold BDx
    rw [bo_as, if_neg (show ¬ ((1 : Int) = 0) by decide)]
  · rw [if_neg k6, if_neg k6]
    by_cases k7 : kkd s = 307
    · rw [if_neg (show ¬ (kkd s ≠ 307) from fun q => q k7), if_pos k7, bo_as]
      congr 1
      funext z1 s1
      unfold BDx
      rw [bo_as, if_pos rfl]
    · rw [if_pos k7, if_neg k7]
theorem c_42n {y : Int} (h : kkd s < 300 ∨ 307 < kkd s) : cG 71 [y] s = MNx s := by
  rw [cG_20_42]
  unfold cM20_42 MNx
  by_cases h1 : 2000 ≤ y
  · rw [if_pos h1]
  · rw [if_neg h1]
    by_cases h2 : kkd s < 300
    · rw [if_pos h2]
    · rw [if_neg h2, if_pos (show 307 < kkd s by omega)]
theorem p_dcl (h128 : P128 rc) (h142 : P142 rc) {y : Int} {v : Option (Int × tab)} (h0 : RDx T n e N s t) (hGx : ∃ H, GDy H s t) (hb : RBx s t) (y0 : 0 ≤ y) (y1 : y ≤ s 137 5) (k0 : 300 ≤ kkd s) (k1 : kkd s ≤ 307) (h : (bo (rc 37 [] t) fun z3 t3 => if z3 ≠ 0 then rc 66 [] t3 else some (some (0, t3))) = some v) : OGx (cG 71 [y] s) v := by
  have hL := h0.1.1
  have hy : y < 2000 := by
    have hk := RL_kk hL
    have hin := RL_in hL
    have he := hL.1.2.2.1
    have h1 := hL.1.1
    have h2 := hL.1.2.1
    have : (s 137 5).toNat ≠ e := fun q => by rw [q] at hk; omega
    omega
  rw [c_42y hy k0 k1]
  rcases bo_inv h with ⟨h9, _⟩ | ⟨z6, t6, h9, h⟩
  · obtain ⟨z, t9, w1, _⟩ := h128 T n e N s t _ h0 hGx hb k0 k1 h9
    cases w1
  · obtain ⟨z, t9, w1, w2⟩ := h128 T n e N s t _ h0 hGx hb k0 k1 h9
    cases w1
    rcases w2 with ⟨rfl, M, s5, f1, f2, f3, H2, f4, f5⟩ | ⟨rfl, f1⟩
    · rw [if_pos (by decide)] at h
      rw [f1, bo_s]
      exact h142 T n e M (y + 1) s5 t6 v f2 ⟨H2, f4⟩ f5 (by omega) (by omega) h
    · rw [if_neg (by decide)] at h
      cases h
      refine OG_no ?_
      rw [f1]
      rfl
theorem p_142 (hrc : rle rc rG) (h128 : P128 rc) (h233 : P233 rc) (h142 : P142 rc) : ∀ (T : Nat → Int) (n e N : Nat) (y : Int) (s t : tab) (v : Option (Int × tab)), RDx T n e N s t → (∃ H, GDy H s t) → RBx s t → 0 ≤ y → y ≤ s 137 5 → rM122_142 rc t = some v → OGx (cG 71 [y] s) v := by
  intro T n e N y s t v h0 hGx hb y0 y1 h
  have hL := h0.1.1
  unfold rM122_142 at h
  have h := bxr hrc (RL_is is_6 hL) h
  try dsimp only at h
  by_cases k0 : kkd s = 300
  · rw [if_pos k0, if_pos (by decide)] at h
    exact p_dcl h128 h142 h0 hGx hb y0 y1 (by omega) (by omega) h
  rw [if_neg k0, if_neg (by decide)] at h
  have h := bxr hrc (RL_is is_8 hL) h
  try dsimp only at h
  by_cases k1 : kkd s = 301
  · rw [if_pos k1, if_pos (by decide)] at h
    exact p_dcl h128 h142 h0 hGx hb y0 y1 (by omega) (by omega) h
  rw [if_neg k1, if_neg (by decide)] at h
  have h := bxr hrc (RL_is is_10 hL) h
  try dsimp only at h
  by_cases k2 : kkd s = 302
  · rw [if_pos k2, if_pos (by decide)] at h
    exact p_dcl h128 h142 h0 hGx hb y0 y1 (by omega) (by omega) h
  rw [if_neg k2, if_neg (by decide)] at h
  have h := bxr hrc (RL_is is_12 hL) h
  try dsimp only at h
  by_cases k3 : kkd s = 303
  · rw [if_pos k3, if_pos (by decide)] at h
    exact p_dcl h128 h142 h0 hGx hb y0 y1 (by omega) (by omega) h
  rw [if_neg k3, if_neg (by decide)] at h
  have h := bxr hrc (RL_is is_14 hL) h
  try dsimp only at h
  by_cases k4 : kkd s = 304
  · rw [if_pos k4, if_pos (by decide)] at h
    exact p_dcl h128 h142 h0 hGx hb y0 y1 (by omega) (by omega) h
  rw [if_neg k4, if_neg (by decide)] at h
  have h := bxr hrc (RL_is is_16 hL) h
  try dsimp only at h
  by_cases k5 : kkd s = 305
  · rw [if_pos k5, if_pos (by decide)] at h
    exact p_dcl h128 h142 h0 hGx hb y0 y1 (by omega) (by omega) h
  rw [if_neg k5, if_neg (by decide)] at h
  have h := bxr hrc (RL_is is_18 hL) h
  try dsimp only at h
  by_cases k6 : kkd s = 306
  · rw [if_pos k6, if_pos (by decide)] at h
    exact p_dcl h128 h142 h0 hGx hb y0 y1 (by omega) (by omega) h
  rw [if_neg k6, if_neg (by decide)] at h
  have h := bxr hrc (RL_is is_20 hL) h
  try dsimp only at h
  by_cases k7 : kkd s = 307
  · rw [if_pos k7, if_neg (by decide)] at h
    exact p_dcl h128 h142 h0 hGx hb y0 y1 (by omega) (by omega) h
  rw [if_neg k7, if_pos rfl] at h
  rw [c_42n (by omega)]
  have hf : ∀ k j, ¬ LKk k j → (up2 t 177 18 0) k j = t k j := fun k j q => if_neg (fun w => q (.inr w))
  obtain ⟨H, hG⟩ := hGx
  exact h233 T n e N 0 s (up2 t 177 18 0) v (RD_lk h0 hf) ⟨H, GD_lk hG hf⟩ (RB_lk hb hf) (Nat.zero_le _) ⟨by rw [up_self]; omega, by rw [up_self]; omega, fun i hi => absurd hi (by rw [up_self]; omega), fun j hj => absurd hj (Nat.not_lt_zero _)⟩ h
end PROGX
