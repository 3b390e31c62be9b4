/-! Each part has one parent, each REPEAT its counter. -/
section LABY
variable {s t : tab} {G : Gmx} {R : COt} {md n a b f l k0 k1 q : Nat} {x : Int} {c : Cxx} {L L2 : Nat → Nat}
theorem nth_ge {i : Nat} {x : Int} (h : nth s n x = -1) (hi : n ≤ i) : nth s i x = -1 := by
  induction hi with
  | refl => exact h
  | step _ ih =>
    rw [nth_s, ih]
    exact if_neg (by omega)
theorem QL_n {z : Nat} {T : Int → Prop} (hmd : md ≤ 1) (hb : b = z + 1) (hx : x = (z : Int)) (hC : CL s t G L md n a b x f l k0 k1 q c) (hI : INJx s L a (z + 1) (kzx md k0) (kzx md k1)) (hP : PPy s a z T) (ha : a ≤ z) (hc : ∀ c, CHl s z c → T c) : QLx s t G md n a b x f l k0 k1 q c := by
  subst hb
  exact ⟨⟨L, hC, hI⟩, PP_s (PP_x hP ha hc) (fun c q => by rw [tp_1 hmd] at q; rw [q, hx]), fun e => by omega, fun e => by omega⟩
theorem LB_0 (h : md = 0) : LBx s L md x k0 := fun e => by omega
theorem LB_n (h : s 100 x.toNat ≠ 311) : LBx s L md x k0 := fun _ e => absurd e h
theorem tp_c {x : Int} {md n : Nat} (hm : 1 < md) (hf : flx s x = s 104 x.toNat) : ∀ c, tpx s md (n + 1) x c → tpx s 1 0 x c ∨ tpx s md n (s 104 x.toNat) c := fun c q => by
  obtain ⟨i, h1, h2⟩ := (tp_2 hm).mp q
  cases i with
  | zero => exact .inl ((tp_1 (by omega)).mpr h2)
  | succ i =>
    refine .inr ((tp_2 hm).mpr ⟨i, by omega, ?_⟩)
    rw [h2]
    show nth s i (flx s x) = _
    rw [hf]
theorem CO_lab (h : CO s t G md n a b x f l k0 k1 q c) : QLx s t G md n a b x f l k0 k1 q c := by
  refine CO_ind (Q := QLx s t G) ?_ h
  intro md n a b x f l k0 k1 q c h0 k
  have hle := CO_le h0
  rcases k with ⟨h1, h2, h3, h4, h5, h6, k⟩ | ⟨h1, h2, h3, h4, h5, h6, k⟩ | ⟨h1, h2, h3, h4, h5, h6⟩ | ⟨h1, n1, b1, m, h2, h3, h4⟩ | ⟨h1, n1, b1, m, kk, h2, h3, h4⟩ | ⟨h1, n1, b1, m, kk, c1, c2, h2, h3, h4, h5, h6, h7⟩ | ⟨h1, h2, h3, h4, h5⟩
  · obtain ⟨z, hz⟩ : ∃ z : Nat, x = (z : Int) := ⟨x.toNat, by omega⟩
    have hzt : x.toNat = z := by omega
    have hb : b = z + 1 := by omega
    have ha : a ≤ z := by omega
    have hm : md ≤ 1 := by omega
    have kz0 : ∀ k, kzx md k = 0 := fun k => kz_0 (.inl h1)
    rw [hzt] at k h6
    have mk : ∀ {L : Nat → Nat}, CEk s t G (CL s t G L) a z f l c → CL s t G L md n a b x f l k0 k1 q c := fun k => CL_mk (.inl ⟨h1, h2, h3, h4, h5, by rw [hzt]; exact h6, by rw [hzt]; exact k⟩) (LB_0 h1)
    have fin : ∀ {L : Nat → Nat} {T : Int → Prop}, CEk s t G (CL s t G L) a z f l c → s 100 z ≠ 311 → INJx s L a z 0 0 → PPy s a z T → (∀ c, CHl s z c → T c) → QLx s t G md n a b x f l k0 k1 q c := fun k e i p w => QL_n hm hb hz (mk k) (by rw [kz0, kz0]; exact IN_x i e) p ha w
    rcases k with k | k | ⟨k1, k2, ⟨m, k3, k4⟩, k5⟩ | ⟨k1, m, k2, k3⟩ | ⟨k1, b1, m1, m2, k2, k3, k4⟩ | ⟨k1, ⟨r, n, m, g1, g2, g3, g4, g5, g6, g7⟩, k3⟩
    · have e := k.1
      have ea := k.2.1
      subst ea
      exact fin (L := fun _ => 0) (.inl k) (by omega) IN_0 PP_0 (fun c w => (CH_no (by omega) w).elim)
    · have e := k.1
      have ea := k.2.1
      subst ea
      exact fin (L := fun _ => 0) (.inr (.inl k)) (by omega) IN_0 PP_0 (fun c w => (CH_no (by omega) w).elim)
    · obtain ⟨_, ⟨L1, c1, i1⟩, p1, _⟩ := k3
      exact fin (.inr (.inr (.inl ⟨k1, k2, ⟨m, c1, k4⟩, k5⟩))) (by omega) i1 p1 (fun c w => (tp_1 (by omega)).mpr ((CH_a (by omega)).mp w))
    · obtain ⟨_, ⟨L1, c1, i1⟩, p1, _⟩ := k2
      exact fin (.inr (.inr (.inr (.inl ⟨k1, m, c1, k3⟩)))) (by omega) i1 p1 (fun c w => (tp_1 (by omega)).mpr ((CH_a (by omega)).mp w))
    · obtain ⟨d1, ⟨L1, c1, i1⟩, p1, _⟩ := k2
      obtain ⟨d2, ⟨L2, c2, i2⟩, p2, _⟩ := k3
      have e1 := CO_le d1
      have e2 := CO_le d2
      refine fin (L := jnL b1 L1 L2) (.inr (.inr (.inr (.inr (.inl ⟨k1, b1, m1, m2, CL_lx c1 (fun z q1 q2 => jn_1 q2), CL_lx c2 (fun z q1 q2 => jn_2 q1), k4⟩))))) (by omega) (IN_mg i1 i2) (PP_mg p1 p2 (by omega) (by omega)) (fun c w => ?_)
      rcases (CH_403 k1).mp w with w | w
      · exact .inl ((tp_1 (by omega)).mpr w)
      · exact .inr ((tp_1 (by omega)).mpr w)
    · obtain ⟨_, ⟨L1, c1, i1⟩, p1, _⟩ := g6
      refine fin (.inr (.inr (.inr (.inr (.inr ⟨k1, ⟨r, n, m, g1, g2, g3, g4, g5, c1, g7⟩, k3⟩))))) (by omega) i1 p1 (fun c w => ?_)
      obtain ⟨i, w1, w2⟩ := (CH_404 k1).mp w
      exact (tp_2 (by omega)).mpr ⟨i, .inl (by omega), w2⟩
  · obtain ⟨z, hz⟩ : ∃ z : Nat, x = (z : Int) := ⟨x.toNat, by omega⟩
    have hzt : x.toNat = z := by omega
    have hb : b = z + 1 := by omega
    have ha : a ≤ z := by omega
    have hm : md ≤ 1 := by omega
    have kz1 : ∀ k, kzx md k = k := fun k => kz_1 (by omega)
    rw [hzt] at k h6
    have mk : ∀ {L : Nat → Nat}, CSk s t G (CL s t G L) a z f l k0 k1 c → LBx s L md x k0 → CL s t G L md n a b x f l k0 k1 q c := fun k w => CL_mk (.inr (.inl ⟨h1, h2, h3, h4, h5, by rw [hzt]; exact h6, by rw [hzt]; exact k⟩)) w
    have fin : ∀ {L : Nat → Nat} {T : Int → Prop}, CSk s t G (CL s t G L) a z f l k0 k1 c → s 100 z ≠ 311 → INJx s L a z k0 k1 → PPy s a z T → (∀ c, CHl s z c → T c) → QLx s t G md n a b x f l k0 k1 q c := fun k e i p w => QL_n hm hb hz (mk k (LB_n (by rw [hzt]; exact e))) (by rw [kz1, kz1]; exact IN_x i e) p ha w
    have tp : ∀ {md n : Nat} {x c : Int}, md ≤ 1 → c = x → tpx s md n x c := fun h e => (tp_1 h).mpr e
    rcases k with ⟨g1, g2⟩ | k | ⟨g1, g2, n3, g3, g4⟩ | ⟨g1, g2, g3, g4, ⟨m, g5, g6⟩, g7⟩ | ⟨g1, g2, g3, ⟨b1, m1, m2, g4, g5, g6⟩, g7⟩ | ⟨g1, g2, g3, ⟨m, g4, g5⟩, g6⟩ | ⟨g1, g2, g3, ⟨m, g4, g5⟩, g6⟩ | ⟨g1, ⟨r, n3, m, w1, w2, w3, w4, w5, w6, w7⟩, g3, g4⟩ | ⟨g1, g2, b1, m, m2, g3, g4, g5⟩ | ⟨g1, g2, b1, m, m2, g3, g4, g5, g6, g7⟩ | ⟨g1, g2, g3, g4, g5, g6, g7, g8, g9, g10, m, g11, g12⟩ | ⟨g1, g2, g3, g4, g5, g6, n3, g7, g8, g9, g10⟩
    · obtain ⟨_, ⟨L1, c1, i1⟩, p1, _⟩ := g2
      subst hb
      have e9 := (CL_un c1).2
      refine ⟨⟨L1, mk (.inl ⟨g1, c1⟩) (fun e1 e2 => ?_), ?_⟩, PP_s p1 (fun c w => ?_), fun e => by omega, fun e => by omega⟩
      · have := e9 rfl (by rw [Int.toNat_natCast, ← hzt]; exact e2)
        rw [Int.toNat_natCast] at this
        rw [hzt]
        exact this
      · rw [kz1, kz1]
        exact i1
      · rw [tp_1 hm] at w
        rw [tp_1 (by omega), w, hz]
    · have e := k.1
      have ea := k.2.1
      have ek := k.2.2.2.2
      subst ea
      refine fin (L := fun _ => 0) (.inr (.inl k)) (by omega) ?_ PP_0 (fun c w => (CH_no (by omega) w).elim)
      rw [ek]
      exact IN_0
    · obtain ⟨_, ⟨L1, c1, i1⟩, p1, e1, _⟩ := g4
      refine fin (.inr (.inr (.inl ⟨g1, g2, n3, g3, c1⟩))) (by omega) i1 p1 (fun c w => ?_)
      obtain ⟨⟨i, w1⟩, w2⟩ := (CH_408 g1).mp w
      refine (tp_2 (by omega)).mpr ⟨i, .inl ?_, w1⟩
      by_cases e : i < n3
      · exact e
      · have := nth_ge (e1 (by omega)) (Nat.not_lt.mp e)
        omega
    · obtain ⟨_, ⟨L1, c1, i1⟩, p1, _⟩ := g5
      refine fin (.inr (.inr (.inr (.inl ⟨g1, g2, g3, g4, ⟨m, c1, g6⟩, g7⟩)))) (by omega) (by rw [g3]; exact IN_e i1) p1 (fun c w => ?_)
      rcases (CH_405 g1).mp w with w | w
      · exact tp (by omega) w
      · omega
    · obtain ⟨d1, ⟨L1, c1, i1⟩, p1, _⟩ := g4
      obtain ⟨d2, ⟨L2, c2, i2⟩, p2, _⟩ := g5
      have e1 := CO_le d1
      have e2 := CO_le d2
      refine fin (L := jnL b1 L1 L2) (.inr (.inr (.inr (.inr (.inl ⟨g1, g2, g3, ⟨b1, m1, m2, CL_lx c1 (fun z q1 q2 => jn_1 q2), CL_lx c2 (fun z q1 q2 => jn_2 q1), g6⟩, g7⟩))))) (by omega) (by rw [g3]; exact IN_mg (IN_e i1) (IN_e i2)) (PP_mg p1 p2 (by omega) (by omega)) (fun c w => ?_)
      rcases (CH_405 g1).mp w with w | w
      · exact .inr (tp (by omega) w)
      · exact .inl (tp (by omega) w.1)
    · obtain ⟨_, ⟨L1, c1, i1⟩, p1, _⟩ := g4
      exact fin (.inr (.inr (.inr (.inr (.inr (.inl ⟨g1, g2, g3, ⟨m, c1, g5⟩, g6⟩)))))) (by omega) (by rw [g3]; exact IN_e i1) p1 (fun c w => tp (by omega) ((CH_a (by omega)).mp w))
    · rcases g4 with g4 | ⟨g4, u4⟩
      · have ea := g4.2.1
        subst ea
        refine fin (L := fun _ => 0) (.inr (.inr (.inr (.inr (.inr (.inr (.inl ⟨g1, g2, g3, ⟨m, .inl g4, g5⟩, g6⟩))))))) (by omega) (by rw [g3]; exact IN_0) PP_0 (fun c w => ?_)
        have := (CH_407 g1).mp w
        omega
      · obtain ⟨_, ⟨L1, c1, i1⟩, p1, _⟩ := g4
        exact fin (.inr (.inr (.inr (.inr (.inr (.inr (.inl ⟨g1, g2, g3, ⟨m, .inr ⟨c1, u4⟩, g5⟩, g6⟩))))))) (by omega) (by rw [g3]; exact IN_e i1) p1 (fun c w => tp (by omega) ((CH_407 g1).mp w).1)
    · obtain ⟨_, ⟨L1, c1, i1⟩, p1, _⟩ := w6
      refine fin (.inr (.inr (.inr (.inr (.inr (.inr (.inr (.inl ⟨g1, ⟨r, n3, m, w1, w2, w3, w4, w5, c1, w7⟩, g3, g4⟩)))))))) (by omega) (by rw [g3]; exact IN_e i1) p1 (fun c w => ?_)
      obtain ⟨i, u1, u2⟩ := (CH_404 g1).mp w
      exact (tp_2 (by omega)).mpr ⟨i, .inl (by omega), u2⟩
    · obtain ⟨d1, ⟨L1, c1, i1⟩, p1, _⟩ := g3
      have e1 := CO_le d1
      rcases g5 with ⟨w1, w2, w3⟩ | ⟨b2, kk, w1, w2, w3⟩
      · obtain ⟨d2, ⟨L2, c2, i2⟩, p2, _⟩ := w2
        have e2 := CO_le d2
        refine fin (L := jnL b1 L1 L2) (.inr (.inr (.inr (.inr (.inr (.inr (.inr (.inr (.inl ⟨g1, g2, b1, m, m2, CL_lx c1 (fun z q1 q2 => jn_1 q2), g4, .inl ⟨w1, CL_lx c2 (fun z q1 q2 => jn_2 q1), w3⟩⟩))))))))) (by omega) (IN_mg (IN_e (k := k0) i1) i2) (PP_mg p1 p2 (by omega) (by omega)) (fun c w => ?_)
        rcases (CH_308 g1).mp w with w | w | w
        · exact .inl (tp (by omega) w)
        · exact .inr (tp (by omega) w)
        · omega
      · obtain ⟨d2, ⟨L2, c2, i2⟩, p2, _⟩ := w1
        obtain ⟨d3, ⟨L3, c3, i3⟩, p3, _⟩ := w2
        have e2 := CO_le d2
        have e3 := CO_le d3
        refine fin (L := jnL b1 L1 (jnL b2 L2 L3)) (.inr (.inr (.inr (.inr (.inr (.inr (.inr (.inr (.inl ⟨g1, g2, b1, m, m2, CL_lx c1 (fun z q1 q2 => jn_1 q2), g4, .inr ⟨b2, kk, CL_lx c2 (fun z q1 q2 => (jn_2 q1).trans (jn_1 q2)), CL_lx c3 (fun z q1 q2 => (jn_2 (by omega)).trans (jn_2 q1)), w3⟩⟩))))))))) (by omega) (IN_mg (IN_e (k := k0) i1) (IN_mg i2 i3)) (PP_mg p1 (PP_mg p2 p3 (by omega) (by omega)) (by omega) (by omega)) (fun c w => ?_)
        rcases (CH_308 g1).mp w with w | w | w
        · exact .inl (tp (by omega) w)
        · exact .inr (.inl (tp (by omega) w))
        · exact .inr (.inr (tp (by omega) w.1))
    · obtain ⟨d1, ⟨L1, c1, i1⟩, p1, _⟩ := g3
      obtain ⟨d2, ⟨L2, c2, i2⟩, p2, _⟩ := g6
      have e1 := CO_le d1
      have e2 := CO_le d2
      refine fin (L := jnL b1 L1 L2) (.inr (.inr (.inr (.inr (.inr (.inr (.inr (.inr (.inr (.inl ⟨g1, g2, b1, m, m2, CL_lx c1 (fun z q1 q2 => jn_1 q2), g4, g5, CL_lx c2 (fun z q1 q2 => jn_2 q1), g7⟩)))))))))) (by omega) (IN_mg (IN_e (k := k0) i1) i2) (PP_mg p1 p2 (by omega) (by omega)) (fun c w => ?_)
      rcases (CH_310 g1).mp w with w | w
      · exact .inl (tp (by omega) w)
      · exact .inr (tp (by omega) w)
    · obtain ⟨d1, ⟨L1, c1, i1⟩, p1, _⟩ := g11
      have i1 : INJx s L1 a z (k0 + 1) k1 := i1
      refine QL_n (L := jnL z L1 (fun _ => k0)) hm hb hz (mk (.inr (.inr (.inr (.inr (.inr (.inr (.inr (.inr (.inr (.inr (.inl ⟨g1, g2, g3, g4, g5, g6, g7, g8, g9, g10, m, CL_lx c1 (fun z q1 q2 => jn_1 q2), g12⟩))))))))))) (fun _ _ => by rw [hzt]; exact jn_2 (Nat.le_refl _))) (by rw [kz1, kz1]; exact IN_r i1) p1 ha (fun c w => tp (by omega) ((CH_311 g1).mp w))
    · obtain ⟨_, ⟨L1, c1, i1⟩, p1, _⟩ := g10
      refine fin (.inr (.inr (.inr (.inr (.inr (.inr (.inr (.inr (.inr (.inr (.inr ⟨g1, g2, g3, g4, g5, g6, n3, g7, g8, g9, c1⟩))))))))))) (by omega) i1 p1 (fun c w => ?_)
      obtain ⟨i, u1, u2⟩ := (CH_312 g1).mp w
      exact (tp_2 (by omega)).mpr ⟨i, .inl (by omega), u2⟩
  · subst h3
    refine ⟨⟨fun _ => 0, CL_mk (.inr (.inr (.inl ⟨h1, h2, rfl, h4, h5, h6⟩))) (fun e => by omega), by rw [h6]; exact IN_0⟩, PP_s PP_0 (fun c w => ?_), fun _ => ?_, fun e => by omega⟩
    · obtain ⟨i, w1, _⟩ := (tp_2 (by omega)).mp w
      omega
    · rw [h2]
      exact h5
  · obtain ⟨d1, ⟨L1, c1, i1⟩, p1, _⟩ := h3
    obtain ⟨d2, ⟨L2, c2, i2⟩, p2, e2, _⟩ := h4
    have r1 := CO_rt d1 (by omega)
    have l1 := CO_le d1
    have l2 := CO_le d2
    have hf : flx s x = s 104 x.toNat := if_pos (by omega)
    refine ⟨⟨jnL b1 L1 L2, CL_mk (.inr (.inr (.inr (.inl ⟨h1, n1, b1, m, h2, CL_lx c1 (fun z q1 q2 => jn_1 q2), CL_lx c2 (fun z q1 q2 => jn_2 q1)⟩)))) (fun e => by omega), ?_⟩, ?_, fun _ => ?_, fun e => by omega⟩
    · rw [kz_0 (.inr h1), kz_0 (.inr h1)]
      exact IN_mg i1 i2
    · rw [h2]
      subst h1
      exact PP_s (PP_mg p1 p2 (by omega) (by omega)) (tp_c (by omega) hf)
    · rw [h2]
      show nth s n1 (flx s x) = -1
      rw [hf]
      exact e2 (by omega)
  · obtain ⟨d1, ⟨L1, c1, i1⟩, p1, _⟩ := h3
    obtain ⟨d2, ⟨L2, c2, i2⟩, p2, e2, e3⟩ := h4
    have r1 := CO_rt d1 (by omega)
    have l1 := CO_le d1
    have l2 := CO_le d2
    have hf : flx s x = s 104 x.toNat := if_pos (by omega)
    refine ⟨⟨jnL b1 L1 L2, CL_mk (.inr (.inr (.inr (.inr (.inl ⟨h1, n1, b1, m, kk, h2, CL_lx c1 (fun z q1 q2 => jn_1 q2), CL_lx c2 (fun z q1 q2 => jn_2 q1)⟩))))) (fun e => by omega), ?_⟩, ?_, fun e => ?_, fun e => ?_⟩
    · rw [kz_1 (by omega), kz_1 (by omega)] at i2 ⊢
      exact IN_mg i1 i2
    · rw [h2]
      exact PP_s (PP_mg p1 p2 (by omega) (by omega)) (tp_c (by omega) hf)
    · rw [h2]
      show nth s n1 (flx s x) = -1
      rw [hf]
      exact e2 e
    · rw [h2]
      show nth s (n1 + 1) (flx s x) = -1
      rw [hf]
      exact e3 e
  · obtain ⟨d1, ⟨L1, u1, i1⟩, p1, _⟩ := h3
    obtain ⟨d2, ⟨L2, u2, i2⟩, p2, e2, _⟩ := h6
    have r1 := CO_rt d1 (by omega)
    have l1 := CO_le d1
    have l2 := CO_le d2
    have hf : flx s x = s 104 x.toNat := if_pos (by omega)
    refine ⟨⟨jnL b1 L1 L2, CL_mk (.inr (.inr (.inr (.inr (.inr (.inl ⟨h1, n1, b1, m, kk, c1, c2, h2, CL_lx u1 (fun z q1 q2 => jn_1 q2), h4, h5, CL_lx u2 (fun z q1 q2 => jn_2 q1), h7⟩)))))) (fun e => by omega), ?_⟩, ?_, fun _ => ?_, fun e => by omega⟩
    · rw [kz_1 (by omega), kz_1 (by omega)]
      exact IN_mg i1 i2
    · rw [h2]
      subst h1
      exact PP_s (PP_mg p1 p2 (by omega) (by omega)) (tp_c (by omega) hf)
    · rw [h2]
      show nth s n1 (flx s x) = -1
      rw [hf]
      exact e2 (by omega)
  · obtain ⟨d1, ⟨L1, c1, i1⟩, p1, _⟩ := h3
    have r1 := CO_rt d1 (by omega)
    have l1 := CO_le d1
    have hf : flx s x = s 104 x.toNat := if_pos (by omega)
    refine ⟨⟨L1, CL_mk (.inr (.inr (.inr (.inr (.inr (.inr ⟨h1, h2, c1, h4, h5⟩)))))) (fun e => by omega), ?_⟩, PP_s p1 (fun c w => ?_), fun e => by omega, fun _ => ?_⟩
    · rw [kz_1 (by omega), kz_1 (by omega), h5]
      exact IN_e i1
    · obtain ⟨i, w1, w2⟩ := (tp_2 (by omega)).mp w
      have e : i = 0 := by omega
      rw [e] at w2
      exact (tp_1 (by omega)).mpr w2
    · rw [h2]
      show flx s x = -1
      rw [hf]
      exact h4
end LABY
