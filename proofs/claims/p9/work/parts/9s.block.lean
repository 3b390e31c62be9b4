/-! BLOCKS, in both. -/
section BLOCK
variable {T : Nat → Int} {n e N : Nat} {g : Gtt} {s t s2 t2 : tab} {rc : MRq}
/-- as RQx, with one scope more -/
def RQw (T : Nat → Int) (n e N : Nat) (g : Gtt) (s t : tab) : Prop := REx T n e N g s t ∧ RPf s t ∧ (0 ≤ t 170 15 ∧ t 170 15 < t 170 16 ∧ t 170 16 ≤ s 137 5 + 2 ∧ ∀ j : Nat, j < N → 0 ≤ t 176 j ∧ t 176 j < t 170 16) ∧ RCn N s t
theorem RQ_w (h : RQx T n e N g s t) : RQw T n e N g s t := ⟨h.1, h.2.1, ⟨h.2.2.1.1, h.2.2.1.2.1, by have := h.2.2.1.2.2.1; omega, h.2.2.1.2.2.2⟩, h.2.2.2⟩
theorem RQ_wE (h : RQw T n e N g s t) (hR : REx T n e N g s2 t2) (hc : FEc s s2) (hr : FEr t t2) (hi : s 137 5 < s2 137 5) : RQx T n e N g s2 t2 := by
  obtain ⟨_, p, ⟨c1, c2, c3, c4⟩, d⟩ := h
  refine ⟨hR, ?_, ⟨?_, ?_, ?_, fun j hj => ?_⟩, ?_⟩
  · unfold RPf
    rw [hc.1 131 3 (by omega) (by omega) (by omega), hr 170 21 (by omega)]
    exact p
  · rw [hr 170 15 (by omega)]
    exact c1
  · rw [hr 170 15 (by omega), hr 170 16 (by omega)]
    exact c2
  · rw [hr 170 16 (by omega)]
    omega
  · rw [hr 170 16 (by omega), hr 176 j (by omega)]
    exact c4 j hj
  · unfold RCn
    rw [hr 170 37 (by omega), hr 170 36 (by omega), hc.1 131 14 (by omega) (by omega) (by omega), hc.1 109 0 (by omega) (by omega) (by omega), hc.1 109 1 (by omega) (by omega) (by omega), hc.1 109 2 (by omega) (by omega) (by omega), hc.1 109 3 (by omega) (by omega) (by omega), hc.1 109 4 (by omega) (by omega) (by omega), hc.1 109 5 (by omega) (by omega) (by omega)]
    exact d
theorem RQ_16 (h : RQx T n e N g s t) (l m : Int) : RQx T n e N g (up2 (up2 s 131 15 l) 131 16 m) t ∧ FSc s (up2 (up2 s 131 15 l) 131 16 m) := by
  obtain ⟨⟨⟨hT, hx, l3, l4, l5⟩, ⟨⟨a1, a2, a3, a4, a5⟩, b, c, d1, d2⟩, ⟨m1, m2, m3⟩, ⟨v1, v2, v3, v4⟩⟩, p, ⟨c1, c2, c3, c4⟩, q⟩ := h
  exact ⟨⟨⟨⟨hT, hx, l3, l4, l5⟩, ⟨⟨a1, a2, a3, a4, a5⟩, b, c, d1, d2⟩, ⟨m1, m2, m3⟩, ⟨v1, v2, v3, v4⟩⟩, p, ⟨c1, c2, c3, c4⟩, q⟩, ⟨fun _ => rfl, fun _ => rfl, rfl, rfl, rfl, Int.le_refl _⟩⟩
theorem PW_16 (l m : Int) : PWx s t (up2 (up2 s 131 15 l) 131 16 m) t ∧ FBx s t (up2 (up2 s 131 15 l) 131 16 m) t := by
  refine ⟨⟨PF_ne (fun k j q1 q2 => (if_neg (by omega)).trans (if_neg (by omega))) (fun _ _ _ => rfl) MG_rf rfl (fun r => rfl), rfl, rfl, rfl⟩, fun q => ⟨q.1, q.2⟩, rfl, fun _ => ⟨rfl, rfl, rfl, Int.le_refl _, Int.le_refl _, rfl⟩⟩
theorem cxt_eq (h12 : s2 99 12 = s 99 12) (hm : ∀ j, 22 ≤ j → j ≤ 26 → t2 170 j = t 170 j) : cxt g s2 t2 = cxt g s t := by
  unfold cxt
  rw [h12, hm 22 (by omega) (by omega), hm 23 (by omega) (by omega), hm 24 (by omega) (by omega), hm 25 (by omega) (by omega), hm 26 (by omega) (by omega)]
/-- code is mended -/
theorem CO_pat {G : Gmx} {md m a b f l k0 k1 q : Nat} {x : Int} {c : Cxx} (h : CO s t G md m a b x f l k0 k1 q c) (hmd : md ≤ 3) (he : ∀ i, f ≤ i → i < l → t2 178 i = t 178 i) : CO s t2 G md m a b x f l k0 k1 q c := CO_ext h ⟨fun _ _ _ _ _ _ => rfl, fun _ _ _ _ => rfl, he, fun w => absurd w (by omega), Int.le_refl _, fun _ _ => rfl⟩
theorem RE_pat (h : REx T n e N g s t) (he : ∀ k j, k ≠ 178 → ¬ (k = 177 ∧ j = 3) → t2 k j = t k j) : REx T n e N g s t2 ∧ FEr t t2 := by
  have fr : FEr t t2 := fun k j q => he k j (by omega) (by omega)
  refine ⟨RE_fr h FEc_rf fr rfl (fun j q1 q2 => he 170 j (by omega) (by omega)) ?_ ⟨rfl, rfl⟩ (MK_e h.2.2.2.2.1 (fun j q1 q2 => he 170 j (by omega) (by omega)) (he 170 37 (by omega) (by omega))) ?_, fr⟩
  · rw [he 177 1 (by omega) (by omega), he 177 10 (by omega) (by omega)]
    exact h.2.2.2.1
  · have m := h.2.2.1
    unfold RMk at m ⊢
    rw [he 170 22 (by omega) (by omega), he 170 23 (by omega) (by omega), he 170 24 (by omega) (by omega), he 170 25 (by omega) (by omega), he 170 26 (by omega) (by omega)]
    exact m
theorem PF_pat {s0 t0 : tab} (h : PFx s0 t0 s t) (h0 : 0 ≤ t0 177 1) (he : ∀ k j, ¬ (k = 178 ∧ (t0 177 1).toNat ≤ j) → ¬ (k = 177 ∧ j = 3) → t2 k j = t k j) : PFx s0 t0 s t2 := by
  obtain ⟨a1, ⟨a2, a3⟩, a4, a5, a6, a7⟩ := h
  refine ⟨a1, ⟨by rw [he 177 1 (by omega) (by omega)]; exact a2, fun j q => (he 178 j (by omega) (by omega)).trans (a3 j q)⟩, by rw [he 177 10 (by omega) (by omega)]; exact a4, fun j q1 q2 v w => by rw [he 170 j (by omega) (by omega)]; exact a5 j q1 q2 v w, fun q => a6 (by rw [← he 170 21 (by omega) (by omega)]; exact q), a7⟩
theorem cad_o {k a b c : Int} {k2 j : Nat} (h : k2 ≠ 99 ∧ ¬ (100 ≤ k2 ∧ k2 ≤ 104)) : (cad s k a b c) k2 j = s k2 j := by
  unfold cad
  split
  · exact (if_neg (by omega)).trans ((if_neg (by omega)).trans ((if_neg (by omega)).trans ((if_neg (by omega)).trans ((if_neg (by omega)).trans (if_neg (by omega))))))
  · rfl
theorem cad_ncu {k a b c m : Int} : cad (ncu s m) k a b c = ncu (cad s k a b c) m := by
  unfold ncu
  rw [cad_o (by omega)]
  split
  · unfold cad
    rw [show (up2 s 105 3 m) 99 12 = s 99 12 from if_neg (by omega)]
    split
    · rw [up_comm (k := 105) (j := 3) (k2 := 100) (fun q => absurd q.1 (by decide)), up_comm (k := 105) (j := 3) (k2 := 101) (fun q => absurd q.1 (by decide)), up_comm (k := 105) (j := 3) (k2 := 102) (fun q => absurd q.1 (by decide)), up_comm (k := 105) (j := 3) (k2 := 103) (fun q => absurd q.1 (by decide)), up_comm (k := 105) (j := 3) (k2 := 104) (fun q => absurd q.1 (by decide)), up_comm (k := 105) (j := 3) (k2 := 99) (fun q => absurd q.1 (by decide))]
    · rfl
  · rfl
theorem cadz_ncu {m : Int} : cadz (ncu s m) = cadz s := by
  unfold ncu
  split <;> rfl
theorem ROW_1 {G : Gmx} {a b f l k0 k1 : Nat} {x : Int} {c : Cxx} (h : CO s t G 3 1 a b x f l k0 k1 0 c) : CO s t G 1 0 a b x f l k0 k1 0 c := by
  rcases CO_un h with u | u | u | u | ⟨h1, n1, b1, m, kk, h2, h3, h4⟩ | u | u
  · exact absurd u.1 (by decide)
  · exact absurd u.1 (by decide)
  · exact absurd u.2.1 (by decide)
  · exact absurd u.1 (by decide)
  · have e : n1 = 0 := by omega
    subst e
    rcases ROW_x h4 (.inr (.inl rfl)) with ⟨_, e1, e2, _, e4⟩ | ⟨e1, _⟩
    · subst e1 e2 e4
      exact h3
    · omega
  · exact absurd u.1 (by decide)
  · exact absurd u.1 (by decide)
def PSx (rc : MRq) : Prop := ∀ (T : Nat → Int) (n e N : Nat) (g : Gtt) (s t : tab) (x : Int) (v : Option (Int × tab)), RQx T n e N g s t → 1 ≤ x → x ≤ 21 → s 131 6 = 0 → rc 29 [x - 1] t = some v → OSx T n e N g s t (cG 46 [x] s) v
/-- how a BLOCK ends: N names at its beginning, K of them are what the reference keeps; parts and code are told from s0, t0 on -/
def OBx (T : Nat → Int) (n e N : Nat) (g : Gtt) (K b : Int) (s0 t0 s t : tab) (X : RO) (v : Option (Int × tab)) : Prop := ∃ z t2, v = some (z, t2) ∧ ((z = 1 ∧ ∃ M s5 t5, X = some (some (s5 99 12 - 1, ncu s5 b)) ∧ t2 = up2 t5 170 14 K ∧ N ≤ M ∧ RQx T n e M g s5 t5 ∧ FSc s s5 ∧ FSr N t t5 ∧ s 137 5 < s5 137 5 ∧ ESx g s0 t0 s5 t5) ∨ (z = 0 ∧ X = some none))
theorem OB_no {K b : Int} {s0 t0 : tab} {X : RO} {t9 : tab} (h : X = some none) : OBx T n e N g K b s0 t0 s t X (some (0, t9)) := ⟨0, t9, rfl, .inr ⟨rfl, h⟩⟩
theorem FSr_le {M : Nat} (h : FSr M t t2) (hM : N ≤ M) : FSr N t t2 := ⟨h.1, fun k j hk hj => h.2.1 k j hk (by omega), h.2.2⟩
theorem OB_pre {M : Nat} {s0 t0 s9 t9 : tab} {K b : Int} {X : RO} {v : Option (Int × tab)} (h : OBx T n e M g K b s9 t9 s t X v) (hM : N ≤ M) (hc : FSc s0 s) (hr : FSr N t0 t) : OBx T n e N g K b s9 t9 s0 t0 X v := by
  obtain ⟨z, t2, e1, h⟩ := h
  refine ⟨z, t2, e1, ?_⟩
  rcases h with ⟨h1, M5, s5, t5, h2, h3, h4, h5, h6, h7, h8, h9⟩ | h
  · exact .inl ⟨h1, M5, s5, t5, h2, h3, by omega, h5, FSc_tr hc h6, FSr_tr hr (FSr_le h7 hM), Int.lt_of_le_of_lt hc.2.2.2.2.2 h8, h9⟩
  · exact .inr h
/-- a row of STATEMENTS so far: m of them, the first y3, the last y4 -/
def RWx (g : Gtt) (s0 t0 s t : tab) (m : Nat) (y3 y4 : Int) : Prop := ((t 170 21 = -1 → CO s t g.2.2.2.1 3 m (s0 99 12).toNat (s 99 12).toNat y3 ((t0 177 1).toNat + 1) (t 177 1).toNat (t0 177 10).toNat (t 177 10).toNat 0 (cxt g s t)) ∧ t 178 (t0 177 1).toNat = 1 ∧ t0 177 1 < t 177 1 ∧ (m = 0 → y3 = -1 ∧ y4 = -1 ∧ s 99 12 = s0 99 12 ∧ t 177 1 = t0 177 1 + 1 ∧ t 177 10 = t0 177 10) ∧ (0 < m → y4 = s 99 12 - 1 ∧ s0 99 12 < s 99 12 ∧ s 104 (s 99 12 - 1).toNat = -1) ∧ (m = 1 → y3 = s 99 12 - 1)) ∧ PFx s0 t0 s t ∧ (s 99 12 + s0 137 5 + 1 ≤ s0 99 12 + s 137 5 ∧ t 177 1 + 12 * (s0 137 5 + 1) ≤ t0 177 1 + 1 + 12 * s 137 5 ∧ t 177 10 + s0 137 5 ≤ t0 177 10 + s 137 5) ∧ FBx s0 t0 s t ∧ (0 ≤ s0 99 12 ∧ 0 ≤ t0 177 1 ∧ 0 ≤ t0 177 10 ∧ ((g.2.2.2.2.1 + g.2.2.2.2.2 : Nat) : Int) ≤ s0 99 12)
theorem RW_pw {s0 t0 : tab} {m : Nat} {y3 y4 : Int} (h : RWx g s0 t0 s t m y3 y4) (hp : PWx s t s2 t2) (h5 : s 137 5 ≤ s2 137 5) (hb : FBx s t s2 t2) : RWx g s0 t0 s2 t2 m y3 y4 := by
  obtain ⟨⟨a1, a2, a3, a4, a5, a6⟩, b1, ⟨c1, c2, c3⟩, d1, e1, e2, e3, e4⟩ := h
  obtain ⟨p1, p2, p3, p4⟩ := hp
  have hm := b1.1.1
  refine ⟨⟨fun q => ?_, (p1.2.1.2 _ (by omega)).trans a2, by omega, fun q => ?_, fun q => ?_, fun q => by rw [p2]; exact a6 q⟩, PF_tr b1 p1, ⟨by omega, by omega, by omega⟩, FB_tr d1 hb, e1, e2, e3, e4⟩
  · rw [p2, p3, p4]
    exact EM_up (a1 (p1.2.2.2.2.1 q)) (by omega) (by omega) (fun q => absurd q (by omega)) p1
  · have := a4 q
    exact ⟨this.1, this.2.1, by omega, by omega, by omega⟩
  · have := a5 q
    refine ⟨by omega, by omega, ?_⟩
    rw [p2]
    exact (p1.1.2 104 _ (by omega) (by omega) (by omega)).trans this.2.2
/-- our BLOCK's end -/
noncomputable def BEn (b k z : Int) (s : tab) : RO := if k ≠ 1 then (if k ≠ 0 then some (some (cadz (ncu s b), cad (ncu s b) 408 z (-1) (-1))) else some (some (cadz (ncu s b), cad (ncu s b) 314 z (-1) (-1)))) else some (some (z, ncu s b))
/-- our row of STATEMENTS and the } -/
noncomputable def Z2x (b d y3 y4 m : Int) (s : tab) : RO := bo (cG 68 [125, d, y3, y4, m] s) fun z s3 => bo (cG 29 [125] s3) fun _ s5 => BEn b (s3 131 16) z s5
def P58 (rc : MRq) : Prop := ∀ (T : Nat → Int) (n e N : Nat) (g : Gtt) (s0 t0 s t : tab) (d K y b y3 y4 : Int) (m : Nat) (v : Option (Int × tab)), RQx T n e N g s t → 0 ≤ d → d ≤ 20 → s 131 6 = 0 → (m : Int) ≤ s 137 5 → y = t0 177 1 → RWx g s0 t0 s t m y3 y4 → rc 57 [d, K, y, (m : Int)] t = some v → OBx T n e N g K b s0 t0 s t (Z2x b d y3 y4 (m : Int) s) v
theorem p_58 (hrc : rle rc rG) (hS : PSx rc) (h58 : P58 rc) : ∀ (T : Nat → Int) (n e N : Nat) (g : Gtt) (s0 t0 s t : tab) (d K y b y3 y4 : Int) (m : Nat) (v : Option (Int × tab)), RQx T n e N g s t → 0 ≤ d → d ≤ 20 → s 131 6 = 0 → (m : Int) ≤ s 137 5 → y = t0 177 1 → RWx g s0 t0 s t m y3 y4 → rM139_58 rc d K y (m : Int) t = some v → OBx T n e N g K b s0 t0 s t (Z2x b d y3 y4 (m : Int) s) v := by
  intro T n e N g s0 t0 s t d K y b y3 y4 m v hQ d0 d1 p0 m1 hy hW h
  have hin := RL_in hQ.1.1
  have hm : (m : Int) < 2000 ∨ (s 137 5).toNat = e := by
    by_cases q : (s 137 5).toNat = e
    · exact .inr q
    · have h1 := hQ.1.1.1.1
      have h2 := hQ.1.1.1.2.1
      omega
  unfold rM139_58 at h
  have h := bxr hrc (RL_is is_32 hQ.1.1) h
  try dsimp only at h
  by_cases k1 : kkd s = 125
  · rw [if_pos k1, if_pos (by decide)] at h
    obtain ⟨hQ2, hf⟩ := RQ_16 hQ y4 (m : Int)
    obtain ⟨pw16, fb16⟩ := PW_16 (s := s) (t := t) y4 (m : Int)
    have kk : kkd (up2 (up2 s 131 15 y4) 131 16 (m : Int)) = 125 := k1
    have e516 : (up2 (up2 s 131 15 y4) 131 16 (m : Int)) 137 5 = s 137 5 := (if_neg (by omega)).trans (if_neg (by omega))
    obtain ⟨t2, a1, a2, a3, a4, a5⟩ := RE_step hQ2.1 (by omega) (by omega)
    have pst := PF_stp hQ2.1.1 (by omega) (by omega) a1
    have hst : rG 4 [] t = some (some (0, t2)) := a1
    have h := bxr hrc hst h
    have hrow : cG 68 [125, d, y3, y4, (m : Int)] s = some (some (y3, up2 (up2 s 131 15 y4) 131 16 (m : Int))) := by
      rw [cG_51_8]
      unfold cM51_8
      split
      · rfl
      · rfl
    have hex : cG 29 [125] (up2 (up2 s 131 15 y4) 131 16 (m : Int)) = some (some (0, stp (up2 (up2 s 131 15 y4) 131 16 (m : Int)))) := by
      rw [cG_43]
      unfold cM43
      exact if_neg (fun q => q kk)
    have hZ : Z2x b d y3 y4 (m : Int) s = BEn b (m : Int) y3 (stp (up2 (up2 s 131 15 y4) 131 16 (m : Int))) := by
      unfold Z2x
      rw [hrow, bo_s, hex, bo_s]
      rw [show (up2 (up2 s 131 15 y4) 131 16 (m : Int)) 131 16 = (m : Int) from up_self]
    rw [hZ]
    have hQ5 := RQ_E hQ2 a2 a3 a4
    have fc5 := FSc_tr hf (FSc_E a3)
    have fr5 : FSr N t t2 := FSr_E a4
    have hW5 := RW_pw (RW_pw hW pw16 (by omega) fb16) pst (by omega) (FB_E a3 a4)
    obtain ⟨s5, hs5⟩ : ∃ s5, s5 = stp (up2 (up2 s 131 15 y4) 131 16 (m : Int)) := ⟨_, rfl⟩
    have e12' : (stp (up2 (up2 s 131 15 y4) 131 16 (m : Int))) 99 12 = s 99 12 := pst.2.1.trans pw16.2.1
    rw [← hs5] at hQ5 fc5 hW5 a5 e12' ⊢
    rw [e516] at a5
    obtain ⟨uu1, uu2, _⟩ := hQ.1.2.2.2.1
    clear hZ hrow hex pst a2 a3 hs5
    obtain ⟨⟨w1, w2, w3, w4, w5, w6⟩, x1, ⟨z1, z2, z3⟩, f1, g1, g2, g3, g4⟩ := hW5
    obtain ⟨u1, u2, u3, u4, u5, u6, u7⟩ := hQ5.1.2.2.2.1
    obtain ⟨⟨_⟩, _, ⟨zz1, zz2, zz3⟩, _⟩ := hW
    have c6 := fc5.2.2.2.2.1
    by_cases c1 : m = 1
    · subst c1
      rw [if_pos (by omega)] at h
      cases h
      have y3e := w6 rfl
      have w5e := w5 (by omega)
      refine ⟨1, _, rfl, .inl ⟨rfl, N, s5, t2, ?_, rfl, Nat.le_refl _, hQ5, fc5, fr5, by omega, fun q => ?_, by omega, w5e.2.2, x1, ⟨by omega, by omega, by omega⟩, f1⟩⟩
      · unfold BEn
        rw [if_neg (fun q => q (by omega)), y3e]
      · have hr := ROW_1 (w1 q)
        rw [y3e] at hr
        refine CO_mk (.inr (.inl ⟨rfl, by omega, by omega, by omega, cxt_au, .inl ⟨by omega, by omega⟩, .inl ⟨w2, ?_⟩⟩))
        rw [show (s5 99 12 - 1).toNat + 1 = (s5 99 12).toNat by omega, show (((s5 99 12 - 1).toNat : Nat) : Int) = s5 99 12 - 1 by omega]
        exact hr
    · rw [if_neg (by omega)] at h
      have ey : y.toNat = (t0 177 1).toNat := by rw [hy]
      rw [ey] at h
      obtain ⟨t5, ht5⟩ : ∃ t5, t5 = up2 (up2 t2 178 (t0 177 1).toNat 0) 177 3 (ipl (t2 177 3) 1) := ⟨_, rfl⟩
      have o5 : ∀ k j, ¬ (k = 178 ∧ j = (t0 177 1).toNat) → ¬ (k = 177 ∧ j = 3) → t5 k j = t2 k j := fun k j q1 q2 => by rw [ht5]; exact (if_neg q2).trans (if_neg q1)
      have o5f : t5 178 (t0 177 1).toNat = 0 := by rw [ht5]; exact (if_neg (by omega)).trans up_self
      obtain ⟨r1, r2⟩ := RE_pat (t2 := t5) hQ5.1 (fun k j q1 q2 => o5 k j (by omega) q2)
      have pf5 : PFx s0 t0 s5 t5 := PF_pat x1 g2 (fun k j q1 q2 => o5 k j (by omega) q2)
      have ecx : cxt g s5 t5 = cxt g s5 t2 := cxt_eq rfl (fun j q1 q2 => o5 170 j (by omega) (by omega))
      have e1 : t5 177 1 = t2 177 1 := o5 177 1 (by omega) (by omega)
      have e10 : t5 177 10 = t2 177 10 := o5 177 10 (by omega) (by omega)
      have e21 : t5 170 21 = t2 170 21 := o5 170 21 (by omega) (by omega)
      have hv : v = some (1, up2 t5 170 14 K) := by
        have h := (Option.some.inj h).symm
        rw [h, ht5, up_comm (k := 170) (j := 14) (k2 := 178) (fun q => absurd q.1 (by decide)), up_comm (k := 170) (j := 14) (k2 := 177) (fun q => absurd q.1 (by decide))]
      have fb5 : FBx s5 t2 s5 t5 := FB_E FEc_rf r2
      rw [hv]
      obtain ⟨kd, hkd⟩ : ∃ kd : Int, kd = if m = 0 then 314 else 408 := ⟨_, rfl⟩
      obtain ⟨s6, hs6⟩ : ∃ s6, s6 = cad s5 kd y3 (-1) (-1) := ⟨_, rfl⟩
      obtain ⟨d1', d2, ⟨d3, d4, d5, d6, d7⟩, d8, d9, d10, d11⟩ := RE_cad r1 (by omega) hs6 (by omega)
      have e6 := d8 137 5 (by omega) (by omega)
      have hx : s6 99 12 - 1 = s5 99 12 := by omega
      have hX : BEn b (m : Int) y3 s5 = some (some (s6 99 12 - 1, ncu s6 b)) := by
        unfold BEn
        rw [if_pos (by omega), hx]
        by_cases c0 : m = 0
        · rw [if_pos c0] at hkd
          rw [if_neg (by omega), cad_ncu, cadz_ncu, d1', hs6, hkd]
        · rw [if_neg c0] at hkd
          rw [if_pos (by omega), cad_ncu, cadz_ncu, d1', hs6, hkd]
      rw [hX]
      have pf6 : PFx s0 t0 s6 t5 := PF_tr pf5 d11
      refine ⟨1, _, rfl, .inl ⟨rfl, N, s6, t5, rfl, rfl, Nat.le_refl _, RQ_E hQ5 d9 d10 r2, FSc_tr fc5 (FSc_E d10), FSr_tr fr5 (FSr_E r2), by omega, fun q => ?_, by omega, by rw [hx]; exact d7, pf6, ⟨by omega, by omega, by omega⟩, FB_tr f1 (FB_tr fb5 (FB_E d10 FEr_rf))⟩⟩
      rw [hx]
      rw [e21] at q
      have hr := w1 q
      rw [← ecx] at hr
      have hr2 := CO_pat (t2 := t5) hr (by omega) (fun i q1 q2 => o5 178 i (by omega) (by omega))
      have hr3 := EM_up hr2 (by omega) (by omega) (fun q => absurd q (by omega)) d11
      by_cases c0 : m = 0
      · rw [if_pos c0] at hkd
        have w4e := w4 c0
        refine CO_mk (.inr (.inl ⟨rfl, by omega, by omega, by omega, cxt_au, .inl ⟨by omega, by omega⟩, .inr (.inl ⟨by rw [d3, hkd], by omega, by omega, o5f, by omega⟩)⟩))
      · rw [if_neg c0] at hkd
        refine CO_mk (.inr (.inl ⟨rfl, by omega, by omega, by omega, cxt_au, .inl ⟨by omega, by omega⟩, .inr (.inr (.inl ⟨by rw [d3, hkd], o5f, m, by omega, ?_⟩))⟩))
        rw [d4, e1, e10]
        exact hr3
  · rw [if_neg k1, if_neg (by decide)] at h
    rcases bo_inv h with ⟨h9, _⟩ | ⟨z6, t6, h9, h⟩
    · obtain ⟨z, t3, w1, _⟩ := hS T n e N g s t (d + 1) _ hQ (by omega) (by omega) p0 (by rw [show d + 1 - 1 = d by omega]; exact h9)
      cases w1
    · obtain ⟨z, t3, w1, w2⟩ := hS T n e N g s t (d + 1) _ hQ (by omega) (by omega) p0 (by rw [show d + 1 - 1 = d by omega]; exact h9)
      cases w1
      rcases hm with hm | hm
      · have hrow : cG 68 [125, d, y3, y4, (m : Int)] s = bo (cG 46 [d + 1] s) fun z s1 => cG 68 [125, d, if 0 < m then y3 else z, z, (m : Int) + 1] (lnk s1 y4 z) := by
          rw [cG_51_8]
          conv => lhs; unfold cM51_8
          rw [if_neg (by omega), if_neg k1, ipl_e (by omega)]
          congr 1
          funext z s1
          by_cases c : 0 < m
          · rw [if_pos c, if_pos (by omega)]
          · rw [if_neg c, if_neg (by omega)]
        rcases w2 with ⟨rfl, s4, f1, f2, f3, f4, f5, f6⟩ | ⟨rfl, f1⟩
        · rw [if_pos (by decide), ipl_e (by omega)] at h
          obtain ⟨s5, hs5⟩ : ∃ s5, s5 = lnk s4 y4 (s4 99 12 - 1) := ⟨_, rfl⟩
          obtain ⟨l1, l2, l3⟩ := RE_lnk f2.1 hs5
          have hz : Z2x b d y3 y4 (m : Int) s = Z2x b d (if 0 < m then y3 else s4 99 12 - 1) (s4 99 12 - 1) ((m + 1 : Nat) : Int) s5 := by
            unfold Z2x
            rw [hrow, f1, bo_s, ← hs5]
            rfl
          rw [hz]
          have e12 : s5 99 12 = s4 99 12 := l3 99 12 (by omega)
          have e55 : s5 137 5 = s4 137 5 := l3 137 5 (by omega)
          obtain ⟨⟨w1, w2, w3, w4, w5, w6⟩, x1, ⟨z1, z2, z3⟩, g0, g1, g2, g3, g4⟩ := hW
          obtain ⟨q1, q2, q3, q4, ⟨q5, q6, q7⟩, q8⟩ := f6
          obtain ⟨u1, u2, u3, u4, u5, u6, u7⟩ := hQ.1.2.2.2.1
          have b1 := x1.1.1
          have b2 := q4.1.1
          have b3 := q4.2.1.1
          have e5 : s5 = if 0 < m then up2 s4 104 ((s 99 12).toNat - 1) (s4 99 12 - 1) else s4 := by
            rw [hs5]
            unfold lnk
            by_cases c : 0 < m
            · have := w5 c
              rw [if_pos c, if_pos (by omega), show y4.toNat = (s 99 12).toNat - 1 by omega]
            · have := w4 (by omega)
              rw [if_neg c, if_neg (by omega)]
          have ecx : cxt g s5 t6 = cxt g s4 t6 := cxt_eq e12 (fun _ _ _ => rfl)
          have hy4 : ∀ j : Nat, (j : Int) = y4 → s0 99 12 ≤ (j : Int) ∧ (j : Int) < s 99 12 := fun j q => by
            by_cases c : 0 < m
            · have := w5 c
              omega
            · have := w4 (by omega)
              omega
          refine OB_pre (h58 T n e N g s0 t0 s5 t6 d K y b _ _ (m + 1) v (RQ_E f2 l1 l2 FEr_rf) d0 d1 (by rw [l2.2.1, f3.2.2.2.2.1]; exact p0) (by omega) hy ⟨⟨fun q => ?_, ?_, by omega, fun q => absurd q (by omega), fun _ => ⟨by omega, by omega, ?_⟩, fun q => ?_⟩, ?_, ⟨by omega, by omega, by omega⟩, FB_tr g0 (FB_tr q8 (FB_E l2 FEr_rf)), g1, g2, g3, g4⟩ h) (Nat.le_refl _) (FSc_tr f3 (FSc_E l2)) f4
          · rw [e12, ecx]
            have row := EM_up (w1 (q4.2.2.2.2.1 q)) (by omega) (by omega) (fun q => absurd q (by omega)) q4
            have r1' := ROW_s (md := 3) (e := 1) (.inr ⟨rfl, rfl⟩) m _ _ _ _ row (q1 q) (fun q => absurd q (by decide)) rfl q3 (fun _ => trivial)
            rw [← e5] at r1'
            exact r1'
          · exact (q4.2.1.2 _ (by omega)).trans w2
          · rw [e12]
            refine (l3 104 _ ?_).trans q3
            rintro ⟨_, j5⟩
            have := hy4 _ j5
            omega
          · rw [if_neg (by omega), e12]
          · obtain ⟨⟨p1, p2⟩, p3, p4, p5, p6, p7⟩ := PF_tr x1 q4
            refine ⟨⟨by omega, fun k2 j j1 j2 j3 => ?_⟩, p3, p4, p5, p6, fun r => (l3 113 r (by omega)).trans (p7 r)⟩
            refine (l3 k2 j ?_).trans (p2 k2 j j1 j2 j3)
            rintro ⟨_, j5⟩
            have := hy4 _ j5
            omega
        · rw [if_neg (by decide)] at h
          cases h
          refine OB_no ?_
          unfold Z2x
          rw [hrow, f1]
          rfl
      · have hk := RL_kk hQ.1.1
        have he := hQ.1.1.1.2.2.1
        rw [hm] at hk
        rcases w2 with ⟨rfl, s4, f1, f2, f3, f4, f5, f6⟩ | ⟨rfl, f1⟩
        · have := RL_in f2.1.1
          omega
        · rw [if_neg (by decide)] at h
          cases h
          refine OB_no ?_
          unfold Z2x
          rw [cG_51_8]
          unfold cM51_8
          by_cases c2 : 2000 ≤ (m : Int)
          · rw [if_pos c2, bo_s, cG_43]
            unfold cM43
            rw [if_pos (show kkd (up2 (up2 s 131 15 y4) 131 16 (m : Int)) ≠ 125 from k1)]
            rfl
          · rw [if_neg c2, if_neg k1, ipl_e (by omega), f1]
            rfl
/-- our ints, row and } -/
noncomputable def Z1x (b d i : Int) (s : tab) : RO := bo (cG 67 [b, i] s) fun _ s2 => Z2x b d (-1) (-1) 0 s2
def P26 (rc : MRq) : Prop := ∀ (T : Nat → Int) (n e N : Nat) (g : Gtt) (s0 t0 s t : tab) (d K y b i : Int) (v : Option (Int × tab)), RQx T n e N g s t → SCb N b t → 0 ≤ d → d ≤ 20 → s 131 6 = 0 → 0 ≤ i → i ≤ s 137 5 → y = t0 177 1 → RWx g s0 t0 s t 0 (-1) (-1) → rc 56 [d, K, y, 0] t = some v → OBx T n e N g K b s0 t0 s t (Z1x b d i s) v
theorem p_26 (hrc : rle rc rG) (h58 : P58 rc) (h26 : P26 rc) : ∀ (T : Nat → Int) (n e N : Nat) (g : Gtt) (s0 t0 s t : tab) (d K y b i : Int) (v : Option (Int × tab)), RQx T n e N g s t → SCb N b t → 0 ≤ d → d ≤ 20 → s 131 6 = 0 → 0 ≤ i → i ≤ s 137 5 → y = t0 177 1 → RWx g s0 t0 s t 0 (-1) (-1) → rM139_26 rc d K y 0 t = some v → OBx T n e N g K b s0 t0 s t (Z1x b d i s) v := by
  intro T n e N g s0 t0 s t d K y b i v hQ hsc d0 d1 p0 i0 i1 hy hW h
  have hin := RL_in hQ.1.1
  unfold rM139_26 at h
  have h := bxr hrc (RL_is is_8 hQ.1.1) h
  try dsimp only at h
  by_cases k1 : kkd s = 301
  · rw [if_pos k1, if_neg (by decide)] at h
    have hi2 : i < 2000 := by
      have hk := RL_kk hQ.1.1
      have he := hQ.1.1.1.2.2.1
      have h1 := hQ.1.1.1.1
      have h2 := hQ.1.1.1.2.1
      have : (s 137 5).toNat ≠ e := fun q => by rw [q] at hk; omega
      omega
    have hloop : cG 67 [b, i] s = bo (cG 32 [b] (stp s)) fun _ s5 => bo (cG 29 [59] s5) fun _ s6 => cG 67 [b, i + 1] s6 := by
      rw [cG_50_2]
      conv => lhs; unfold cM50_2
      rw [if_neg (by omega), if_neg (fun q => q k1)]
    obtain ⟨t2, a1, a2, a3, a4, a5⟩ := RE_step hQ.1 (by omega) (by omega)
    have pst := PF_stp hQ.1.1 (by omega) (by omega) a1
    have hQ2 := RQ_E hQ a2 a3 a4
    have hW2 := RW_pw hW pst (by omega) (FB_E a3 a4)
    have h := bxr hrc a1 h
    try dsimp only at h
    have hsc2 : SCb N b t2 := ⟨hsc.1, hsc.2.1, fun j hj => by rw [a4 176 j (by omega), a4 170 15 (by omega)]; exact hsc.2.2 j hj⟩
    rcases p_var hQ2 hsc2 with ⟨s3, t3, b1, b2, b3, b4, b5, b6, b7, b8, b9⟩ | ⟨t9, b1, b2⟩
    · have hW3 := RW_pw hW2 b8 (by omega) b9
      have h := bxr hrc b1 h
      try dsimp only at h
      rw [if_neg (by decide)] at h
      rcases RE_take b3.1 is_30 (by decide) with ⟨t7, c1, c2, c3, c4, c5, c6, c7⟩ | ⟨c1, c2, c3⟩
      · have pt := PF_take b3.1 is_30 (by decide) c2 c1
        have h := bxr hrc c1 h
        try dsimp only at h
        rw [if_pos (by decide)] at h
        have hQ4 := RQ_E b3 c4 c5 c6
        have hsc4 : SCb (N + 1) b t7 := ⟨b4.1, b4.2.1, fun j hj => by rw [c6 176 j (by omega), c6 170 15 (by omega)]; exact b4.2.2 j hj⟩
        have hz : Z1x b d i s = Z1x b d (i + 1) (stp s3) := by
          unfold Z1x
          rw [hloop, b2, bo_s, c3, bo_s]
        rw [hz]
        have fc : FSc s (stp s3) := FSc_tr (FSc_E a3) (FSc_tr b5 (FSc_E c5))
        exact OB_pre (h26 T n e (N + 1) g s0 t0 (stp s3) t7 d K y b (i + 1) v hQ4 hsc4 d0 d1 (by rw [fc.2.2.2.2.1]; exact p0) (by omega) (by omega) hy (RW_pw hW3 pt (by omega) (FB_E c5 c6)) h) (by omega) fc (FSr_tr (FSr_E a4) (FSr_tr b6 (FSr_E c6)))
      · have h := bxr hrc c1 h
        try dsimp only at h
        rw [if_neg (by decide)] at h
        cases h
        refine OB_no ?_
        unfold Z1x
        rw [hloop, b2, bo_s, c3]
        rfl
    · have h := bxr hrc b1 h
      try dsimp only at h
      rw [if_pos rfl] at h
      cases h
      refine OB_no ?_
      unfold Z1x
      rw [hloop, b2]
      rfl
  · rw [if_neg k1, if_pos rfl] at h
    have hz : Z1x b d i s = Z2x b d (-1) (-1) 0 s := by
      unfold Z1x
      rw [cG_50_2]
      unfold cM50_2
      split
      · rfl
      · rfl
    rw [hz]
    exact h58 T n e N g s0 t0 s t d K y b (-1) (-1) 0 v hQ d0 d1 p0 (by omega) hy hW h
def PBx (rc : MRq) : Prop := ∀ (T : Nat → Int) (n e N : Nat) (g : Gtt) (s t : tab) (d b : Int) (v : Option (Int × tab)), RQw T n e N g s t → SCb N b t → 0 ≤ d → d ≤ 20 → s 131 6 = 0 → rc 28 [d] t = some v → OBx T n e N g (N : Int) b s t s t (cG 45 [d, b] s) v
/-- block(..) -/
theorem p_B (hrc : rle rc rG) (h26 : P26 rc) : ∀ (T : Nat → Int) (n e N : Nat) (g : Gtt) (s t : tab) (d b : Int) (v : Option (Int × tab)), RQw T n e N g s t → SCb N b t → 0 ≤ d → d ≤ 20 → s 131 6 = 0 → rM139 rc d t = some v → OBx T n e N g (N : Int) b s t s t (cG 45 [d, b] s) v := by
  intro T n e N g s t d b v hQ hsc d0 d1 p0 h
  have hcb : cG 45 [d, b] s = bo (cG 29 [123] s) fun _ s1 => Z1x b d 0 s1 := by
    rw [cG_53]
    unfold cM53 Z1x Z2x
    congr 1
    funext z1 s1
    rw [cG_50]
    unfold cM50
    congr 1
    funext z2 s2
    rw [cG_51]
    rfl
  rw [hcb]
  unfold rM139 at h
  rcases RE_take hQ.1 is_28 (by decide) with ⟨t7, c1, c2, c3, c4, c5, c6, c7⟩ | ⟨c1, c2, c3⟩
  · have pt := PF_take hQ.1 is_28 (by decide) c2 c1
    have h := bxr hrc c1 h
    try dsimp only at h
    rw [if_pos (by decide)] at h
    have hQ4 := RQ_wE hQ c4 c5 c6 (by omega)
    rw [hQ4.1.2.1.1.2.1] at h
    rw [c3, bo_s]
    obtain ⟨u1, u2, u3, u4, u5, u6, u7⟩ := hQ.1.2.2.2.1
    have hin := RL_in hQ4.1.1
    have q1 := pt.2.1
    have q2 := pt.2.2.1
    have q3 := pt.2.2.2
    obtain ⟨t8, ht8⟩ : ∃ t8, t8 = pt1 t7 1 := ⟨_, rfl⟩
    obtain ⟨cw, cw1⟩ := pt1_cw (t := t7) 1 (by omega)
    have hpz : ptz t7 = t 177 1 := by
      unfold ptz
      rw [ipl_e (by omega), imi_e (by omega)]
      omega
    rw [← ht8] at cw cw1 h
    rw [hpz] at h
    have e8 := cw.1
    obtain ⟨r1, r2, r3, r4⟩ := RE_cw c4 cw (by omega)
    have hsc4 : SCb N b t8 := ⟨hsc.1, hsc.2.1, fun j hj => by rw [r2 176 j (by omega), r2 170 15 (by omega), c6 176 j (by omega), c6 170 15 (by omega)]; exact hsc.2.2 j hj⟩
    have hQ8 := RQ_E hQ4 r1 FEc_rf r2
    have hfb : FBx s t (stp s) t8 := FB_tr (FB_E c5 c6) (FB_E FEc_rf r2)
    refine OB_pre (h26 T n e N g s t (stp s) t8 d (N : Int) (t 177 1) b 0 v hQ8 hsc4 d0 d1 (by rw [c5.2.1]; exact p0) (Int.le_refl _) (by omega) rfl ⟨⟨fun q => ?_, ?_, by omega, fun _ => ⟨rfl, rfl, by omega, by omega, by omega⟩, fun q => absurd q (by omega), fun q => absurd q (by omega)⟩, PF_tr pt.1 r3, ⟨by omega, by omega, by omega⟩, hfb, u1, u3, u5, u7⟩ h) (Nat.le_refl _) (FSc_E c5) (FSr_tr (FSr_E c6) (FSr_E r2))
    · rw [show ((stp s) 99 12).toNat = (s 99 12).toNat by omega, show (t8 177 1).toNat = (t 177 1).toNat + 1 by omega, show (t8 177 10).toNat = (t 177 10).toNat by omega]
      exact ROW0 (.inr (.inl rfl))
    · rw [← cw1, show (t7 177 1).toNat = (t 177 1).toNat by omega]
  · have h := bxr hrc c1 h
    try dsimp only at h
    rw [if_neg (by decide)] at h
    cases h
    refine OB_no ?_
    rw [c3]
    rfl
end BLOCK
